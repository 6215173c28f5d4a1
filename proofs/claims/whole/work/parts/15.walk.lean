theorem dX8_read_0 : decode cX8_read 0 = .ok (.iload_n 1, 1) := by decide +kernel
theorem dX8_read_1 : decode cX8_read 1 = .ok (.invokestatic 277, 3) := by decide +kernel
theorem dX8_read_4 : decode cX8_read 4 = .ok (.ifCond .eq 21, 3) := by decide +kernel
theorem dX8_read_7 : decode cX8_read 7 = .ok (.iload_n 2, 1) := by decide +kernel
theorem dX8_read_8 : decode cX8_read 8 = .ok (.invokestatic 280, 3) := by decide +kernel
theorem dX8_read_11 : decode cX8_read 11 = .ok (.ifCond .eq 14, 3) := by decide +kernel
theorem dX8_read_14 : decode cX8_read 14 = .ok (.iload 4, 2) := by decide +kernel
theorem dX8_read_16 : decode cX8_read 16 = .ok (.iconst 0, 1) := by decide +kernel
theorem dX8_read_17 : decode cX8_read 17 = .ok (.bipush 13, 2) := by decide +kernel
theorem dX8_read_19 : decode cX8_read 19 = .ok (.invokestatic 60, 3) := by decide +kernel
theorem dX8_read_22 : decode cX8_read 22 = .ok (.ifCond .ne 5, 3) := by decide +kernel
theorem dX8_read_25 : decode cX8_read 25 = .ok (.iconst (-1), 1) := by decide +kernel
theorem dX8_read_26 : decode cX8_read 26 = .ok (.ireturn, 1) := by decide +kernel
theorem dX8_read_27 : decode cX8_read 27 = .ok (.aload_n 0, 1) := by decide +kernel
theorem dX8_read_28 : decode cX8_read 28 = .ok (.getfield 41, 3) := by decide +kernel
theorem dX8_read_31 : decode cX8_read 31 = .ok (.iload_n 1, 1) := by decide +kernel
theorem dX8_read_32 : decode cX8_read 32 = .ok (.aaload, 1) := by decide +kernel
theorem dX8_read_33 : decode cX8_read 33 = .ok (.astore 5, 2) := by decide +kernel
theorem dX8_read_35 : decode cX8_read 35 = .ok (.aload_n 0, 1) := by decide +kernel
theorem dX8_read_36 : decode cX8_read 36 = .ok (.getfield 28, 3) := by decide +kernel
theorem dX8_read_39 : decode cX8_read 39 = .ok (.aload_n 0, 1) := by decide +kernel
theorem dX8_read_40 : decode cX8_read 40 = .ok (.getfield 24, 3) := by decide +kernel
theorem dX8_read_43 : decode cX8_read 43 = .ok (.invokevirtual 87, 3) := by decide +kernel
theorem dX8_read_46 : decode cX8_read 46 = .ok (.iconst 0, 1) := by decide +kernel
theorem dX8_read_47 : decode cX8_read 47 = .ok (.istore 6, 2) := by decide +kernel
theorem dX8_read_49 : decode cX8_read 49 = .ok (.iconst 0, 1) := by decide +kernel
theorem dX8_read_50 : decode cX8_read 50 = .ok (.istore 7, 2) := by decide +kernel
theorem dX8_read_52 : decode cX8_read 52 = .ok (.iload 6, 2) := by decide +kernel
theorem dX8_read_54 : decode cX8_read 54 = .ok (.iload 4, 2) := by decide +kernel
theorem dX8_read_56 : decode cX8_read 56 = .ok (.if_icmp .ge 80, 3) := by decide +kernel
theorem dX8_read_59 : decode cX8_read 59 = .ok (.iload_n 3, 1) := by decide +kernel
theorem dX8_read_60 : decode cX8_read 60 = .ok (.iconst 3, 1) := by decide +kernel
theorem dX8_read_61 : decode cX8_read 61 = .ok (.iload 6, 2) := by decide +kernel
theorem dX8_read_63 : decode cX8_read 63 = .ok (.imul, 1) := by decide +kernel
theorem dX8_read_64 : decode cX8_read 64 = .ok (.iadd, 1) := by decide +kernel
theorem dX8_read_65 : decode cX8_read 65 = .ok (.istore 8, 2) := by decide +kernel
theorem dX8_read_67 : decode cX8_read 67 = .ok (.aload 5, 2) := by decide +kernel
theorem dX8_read_69 : decode cX8_read 69 = .ok (.iload_n 2, 1) := by decide +kernel
theorem dX8_read_70 : decode cX8_read 70 = .ok (.iload 8, 2) := by decide +kernel
theorem dX8_read_72 : decode cX8_read 72 = .ok (.iconst 3, 1) := by decide +kernel
theorem dX8_read_73 : decode cX8_read 73 = .ok (.invokevirtual 289, 3) := by decide +kernel
theorem dX8_read_76 : decode cX8_read 76 = .ok (.istore 7, 2) := by decide +kernel
theorem dX8_read_78 : decode cX8_read 78 = .ok (.iload 7, 2) := by decide +kernel
theorem dX8_read_80 : decode cX8_read 80 = .ok (.ifCond .eq 6, 3) := by decide +kernel
theorem dX8_read_83 : decode cX8_read 83 = .ok (.goto 53, 3) := by decide +kernel
theorem dX8_read_86 : decode cX8_read 86 = .ok (.aload_n 0, 1) := by decide +kernel
theorem dX8_read_87 : decode cX8_read 87 = .ok (.getfield 28, 3) := by decide +kernel
theorem dX8_read_90 : decode cX8_read 90 = .ok (.aload 5, 2) := by decide +kernel
theorem dX8_read_92 : decode cX8_read 92 = .ok (.getfield 295, 3) := by decide +kernel
theorem dX8_read_95 : decode cX8_read 95 = .ok (.iload 8, 2) := by decide +kernel
theorem dX8_read_97 : decode cX8_read 97 = .ok (.iaload, 1) := by decide +kernel
theorem dX8_read_98 : decode cX8_read 98 = .ok (.aload 5, 2) := by decide +kernel
theorem dX8_read_100 : decode cX8_read 100 = .ok (.getfield 295, 3) := by decide +kernel
theorem dX8_read_103 : decode cX8_read 103 = .ok (.iload 8, 2) := by decide +kernel
theorem dX8_read_105 : decode cX8_read 105 = .ok (.iconst 1, 1) := by decide +kernel
theorem dX8_read_106 : decode cX8_read 106 = .ok (.iadd, 1) := by decide +kernel
theorem dX8_read_107 : decode cX8_read 107 = .ok (.iaload, 1) := by decide +kernel
theorem dX8_read_108 : decode cX8_read 108 = .ok (.aload 5, 2) := by decide +kernel
theorem dX8_read_110 : decode cX8_read 110 = .ok (.getfield 295, 3) := by decide +kernel
theorem dX8_read_113 : decode cX8_read 113 = .ok (.iload 8, 2) := by decide +kernel
theorem dX8_read_115 : decode cX8_read 115 = .ok (.iconst 2, 1) := by decide +kernel
theorem dX8_read_116 : decode cX8_read 116 = .ok (.iadd, 1) := by decide +kernel
theorem dX8_read_117 : decode cX8_read 117 = .ok (.iaload, 1) := by decide +kernel
theorem dX8_read_118 : decode cX8_read 118 = .ok (.invokevirtual 166, 3) := by decide +kernel
theorem dX8_read_121 : decode cX8_read 121 = .ok (.ifCond .ge 9, 3) := by decide +kernel
theorem dX8_read_124 : decode cX8_read 124 = .ok (.bipush (-20), 2) := by decide +kernel
theorem dX8_read_126 : decode cX8_read 126 = .ok (.iload 6, 2) := by decide +kernel
theorem dX8_read_128 : decode cX8_read 128 = .ok (.isub, 1) := by decide +kernel
theorem dX8_read_129 : decode cX8_read 129 = .ok (.ireturn, 1) := by decide +kernel
theorem dX8_read_130 : decode cX8_read 130 = .ok (.iinc 6 1, 3) := by decide +kernel
theorem dX8_read_133 : decode cX8_read 133 = .ok (.goto (-81), 3) := by decide +kernel
theorem dX8_read_136 : decode cX8_read 136 = .ok (.aload_n 0, 1) := by decide +kernel
theorem dX8_read_137 : decode cX8_read 137 = .ok (.getfield 24, 3) := by decide +kernel
theorem dX8_read_140 : decode cX8_read 140 = .ok (.aload_n 0, 1) := by decide +kernel
theorem dX8_read_141 : decode cX8_read 141 = .ok (.getfield 28, 3) := by decide +kernel
theorem dX8_read_144 : decode cX8_read 144 = .ok (.invokevirtual 87, 3) := by decide +kernel
theorem dX8_read_147 : decode cX8_read 147 = .ok (.aload_n 0, 1) := by decide +kernel
theorem dX8_read_148 : decode cX8_read 148 = .ok (.iload 7, 2) := by decide +kernel
theorem dX8_read_150 : decode cX8_read 150 = .ok (.putfield 299, 3) := by decide +kernel
theorem dX8_read_153 : decode cX8_read 153 = .ok (.iload 6, 2) := by decide +kernel
theorem dX8_read_155 : decode cX8_read 155 = .ok (.ireturn, 1) := by decide +kernel
def f_X8_read_L52 (Λ : List Ly) (p0 : Nat) (v2 : Int32) (v3 : Int32) (v4 : Int32) (p5 : Nat) : Nat → Int32 → Int32 → Dt → Option (Int32 × Dt)
  | 0, _, _, _ => none
  | n + 1, v6, v7, d => if v4 ≤ v6 then (Option.bind (rf Λ p0 8 2) fun q11 => Option.bind (rf Λ p0 8 3) fun q12 => if clsAt Λ q11 = some 7 then (Option.bind (f_X7_copy Λ d q11 q12) fun z14 => if clsAt Λ p0 = some 8 then (some (v6, (pI z14 p0 10 v7))) else none) else none) else (if clsAt Λ p5 = some 5 then (Option.bind (f_X5_faultIn Λ d p5 v2 (v3 + ((3 : Int32) * v6)) (3 : Int32)) fun z17 => if z17 = 0 then (Option.bind (rf Λ p0 8 3) fun q19 => Option.bind (rf Λ p5 5 0) fun q20 => if okA Λ q20 1 (v3 + ((3 : Int32) * v6)) = true then (if okA Λ q20 1 ((v3 + ((3 : Int32) * v6)) + (1 : Int32)) = true then (if okA Λ q20 1 ((v3 + ((3 : Int32) * v6)) + (2 : Int32)) = true then (if clsAt Λ q19 = some 7 then (Option.bind (f_X7_apprentice Λ d q19 (d.1 q20 ((v3 + ((3 : Int32) * v6))).toNatClampNeg) (d.1 q20 (((v3 + ((3 : Int32) * v6)) + (1 : Int32))).toNatClampNeg) (d.1 q20 (((v3 + ((3 : Int32) * v6)) + (2 : Int32))).toNatClampNeg)) fun z25 => if 0 ≤ z25.1 then (f_X8_read_L52 Λ p0 v2 v3 v4 p5 n (v6 + (1 : Int32)) z17 z25.2) else (some (((-20 : Int32) - v6), z25.2))) else none) else none) else none) else none) else (Option.bind (rf Λ p0 8 2) fun q27 => Option.bind (rf Λ p0 8 3) fun q28 => if clsAt Λ q27 = some 7 then (Option.bind (f_X7_copy Λ d q27 q28) fun z30 => if clsAt Λ p0 = some 8 then (some (v6, (pI z30 p0 10 z17))) else none) else none)) else none)
def f_X8_read (Λ : List Ly) (d : Dt) (p0 : Nat) (v1 : Int32) (v2 : Int32) (v3 : Int32) (v4 : Int32) : Option (Int32 × Dt) := if (f_X8_isSheet v1) = 0 then (some ((-1 : Int32), d)) else (if (f_X8_isLane v2) = 0 then (some ((-1 : Int32), d)) else (if (f_X8_within v4 (0 : Int32) (13 : Int32)) = 0 then (some ((-1 : Int32), d)) else (Option.bind (rf Λ p0 8 6) fun q4 => Option.bind (ra Λ q4 6 v1) fun q5 => Option.bind (rf Λ p0 8 3) fun q6 => Option.bind (rf Λ p0 8 2) fun q7 => if clsAt Λ q6 = some 7 then (Option.bind (f_X7_copy Λ d q6 q7) fun z9 => f_X8_read_L52 Λ p0 v2 v3 v4 q5 FU (0 : Int32) (0 : Int32) z9) else none)))
set_option maxHeartbeats 4000000 in
set_option maxRecDepth 100000 in
theorem w_X8_read_L52 {p : Program} {l : Launch} {e : Env} {s : State} {m : MethodId} {args : Array Value} {below : List Frame} {meth : Method} {c : Code} {Γ : Cx} {Λ : List Ly} {z : Int32 × Dt} (C0 : Ct Γ p s m args c cX8_read 9 "SeasonBound") (hr : meth.sig.returnType = (some FieldType.int)) (hlocks : meth.locks = false) (p0 : Nat) (v2 : Int32) (v3 : Int32) (v4 : Int32) (p5 : Nat) :
    ∀ (n : Nat) (v6 : Int32) (v7 : Int32) (d : Dt), f_X8_read_L52 Λ p0 v2 v3 v4 p5 n v6 v7 d = some z → ∀ (H : Heap) (locs : List Loc) (ls : Array Slot), Hs Γ Λ d s H locs → lv_has ls 9 [(0, .ref (ad Γ.2.2.1 p0)), (2, .int v2), (3, .int v3), (4, .int v4), (5, .ref (ad Γ.2.2.1 p5)), (6, .int v6), (7, .int v7)] → W p l e { frames := 3, cells := 0, slots := 0, locals := 68 } s m args below meth c H locs 0 0 (MQ below (QN Γ Λ z.2 (some (.int z.1))) args s 0 0 (AP Γ)) (F0 m 52 ls []) := by
  obtain ⟨hx, hb, hml, hown, hts, hK⟩ := id C0
  intro n
  induction n with
  | zero =>
    intro v6 v7 d hf
    cases hf
  | succ n ih =>
    intro v6 v7 d hf H locs ls hH hl
    unfold f_X8_read_L52 at hf
    refine lv_iload hx hb dX8_read_52 (lv_at hl 5 rfl) ?_
    refine lv_iload hx hb dX8_read_54 (lv_at hl 3 rfl) ?_
    refine lv_icmp_ge (tgt := 136) hx hb dX8_read_56 (by decide) (fun c10 => ?_) (fun c10 => ?_)
    · replace hf := it hf c10
      refine lv_aload_n hx hb dX8_read_136 rfl (lv_at hl 0 rfl) ?_
      obtain ⟨q11, g11, hf⟩ := ob hf
      refine r_getr C0 hH fl_X8_24 g11 dX8_read_137 ?_
      refine lv_aload_n hx hb dX8_read_140 rfl (lv_at hl 0 rfl) ?_
      obtain ⟨q12, g12, hf⟩ := ob hf
      refine r_getr C0 hH fl_X8_28 g12 dX8_read_141 ?_
      obtain ⟨g13, hf⟩ := gd hf
      obtain ⟨z14, h14, hf⟩ := ob hf
      refine r_callVv (rest := []) C0 hH (c_X7_copy Γ l Λ d q11 q12 z14 h14) cv_X8_87 g13 (by decide) rfl hl.1 rfl (Nat.le_of_ble_eq_true rfl) dX8_read_144 (by decide) (fun H locs hH => ?_)
      refine lv_aload_n hx hb dX8_read_147 rfl (lv_at hl 0 rfl) ?_
      refine lv_iload hx hb dX8_read_148 (lv_at hl 6 rfl) ?_
      obtain ⟨g15, hf⟩ := gd hf
      refine r_puti C0 hH fw_X8_299 g15 rfl dX8_read_150 (fun H locs hH => ?_)
      refine lv_iload hx hb dX8_read_153 (lv_at hl 5 rfl) ?_
      obtain rfl := Option.some.inj hf
      exact r_iret (d' := d) C0 hr hlocks hH rfl dX8_read_155
    · replace hf := ie hf c10
      refine lv_iload_n hx hb dX8_read_59 rfl (lv_at hl 2 rfl) ?_
      refine lv_iconst (v := (3 : Int32)) hx hb dX8_read_60 (by decide) ?_
      refine lv_iload hx hb dX8_read_61 (lv_at hl 5 rfl) ?_
      refine lv_imul hx hb dX8_read_63 ?_
      refine lv_iadd hx hb dX8_read_64 ?_
      refine lv_istore (lv' := [(8, .int (v3 + ((3 : Int32) * v6))), (0, .ref (ad Γ.2.2.1 p0)), (2, .int v2), (3, .int v3), (4, .int v4), (5, .ref (ad Γ.2.2.1 p5)), (6, .int v6), (7, .int v7)]) hx hb dX8_read_65 hl (by decide) rfl (fun ls hl => ?_)
      refine lv_aload hx hb dX8_read_67 (lv_at hl 5 rfl) ?_
      refine lv_iload_n hx hb dX8_read_69 rfl (lv_at hl 2 rfl) ?_
      refine lv_iload hx hb dX8_read_70 (lv_at hl 0 rfl) ?_
      refine lv_iconst (v := (3 : Int32)) hx hb dX8_read_72 (by decide) ?_
      obtain ⟨g16, hf⟩ := gd hf
      obtain ⟨z17, h17, hf⟩ := ob hf
      refine r_callVi (rest := []) C0 hH (c_X5_faultIn Γ l Λ d p5 v2 (v3 + ((3 : Int32) * v6)) (3 : Int32) z17 h17) cv_X8_289 g16 (by decide) rfl hl.1 rfl (Nat.le_of_ble_eq_true rfl) dX8_read_73 (by decide) (fun H locs hH => ?_)
      refine lv_istore (lv' := [(7, .int z17), (8, .int (v3 + ((3 : Int32) * v6))), (0, .ref (ad Γ.2.2.1 p0)), (2, .int v2), (3, .int v3), (4, .int v4), (5, .ref (ad Γ.2.2.1 p5)), (6, .int v6)]) hx hb dX8_read_76 hl (by decide) rfl (fun ls hl => ?_)
      refine lv_iload hx hb dX8_read_78 (lv_at hl 0 rfl) ?_
      refine lv_if_eq (tgt := 86) hx hb dX8_read_80 (by decide) (fun c18 => ?_) (fun c18 => ?_)
      · replace hf := it hf c18
        refine lv_aload_n hx hb dX8_read_86 rfl (lv_at hl 2 rfl) ?_
        obtain ⟨q19, g19, hf⟩ := ob hf
        refine r_getr C0 hH fl_X8_28 g19 dX8_read_87 ?_
        refine lv_aload hx hb dX8_read_90 (lv_at hl 6 rfl) ?_
        obtain ⟨q20, g20, hf⟩ := ob hf
        refine r_getr C0 hH fl_X8_295 g20 dX8_read_92 ?_
        refine lv_iload hx hb dX8_read_95 (lv_at hl 1 rfl) ?_
        obtain ⟨g21, hf⟩ := gd hf
        refine r_iald C0 hH g21 dX8_read_97 ?_
        refine lv_aload hx hb dX8_read_98 (lv_at hl 6 rfl) ?_
        refine r_getr C0 hH fl_X8_295 g20 dX8_read_100 ?_
        refine lv_iload hx hb dX8_read_103 (lv_at hl 1 rfl) ?_
        refine lv_iconst (v := (1 : Int32)) hx hb dX8_read_105 (by decide) ?_
        refine lv_iadd hx hb dX8_read_106 ?_
        obtain ⟨g22, hf⟩ := gd hf
        refine r_iald C0 hH g22 dX8_read_107 ?_
        refine lv_aload hx hb dX8_read_108 (lv_at hl 6 rfl) ?_
        refine r_getr C0 hH fl_X8_295 g20 dX8_read_110 ?_
        refine lv_iload hx hb dX8_read_113 (lv_at hl 1 rfl) ?_
        refine lv_iconst (v := (2 : Int32)) hx hb dX8_read_115 (by decide) ?_
        refine lv_iadd hx hb dX8_read_116 ?_
        obtain ⟨g23, hf⟩ := gd hf
        refine r_iald C0 hH g23 dX8_read_117 ?_
        obtain ⟨g24, hf⟩ := gd hf
        obtain ⟨z25, h25, hf⟩ := ob hf
        refine r_callVi (rest := []) C0 hH (c_X7_apprentice Γ l Λ d q19 (d.1 q20 ((v3 + ((3 : Int32) * v6))).toNatClampNeg) (d.1 q20 (((v3 + ((3 : Int32) * v6)) + (1 : Int32))).toNatClampNeg) (d.1 q20 (((v3 + ((3 : Int32) * v6)) + (2 : Int32))).toNatClampNeg) z25 h25) cv_X8_166 g24 (by decide) rfl hl.1 rfl (Nat.le_of_ble_eq_true rfl) dX8_read_118 (by decide) (fun H locs hH => ?_)
        refine lv_if_ge (tgt := 130) hx hb dX8_read_121 (by decide) (fun c26 => ?_) (fun c26 => ?_)
        · replace hf := it hf c26
          refine lv_iinc (v := (v6 + (1 : Int32))) (lv' := [(6, .int (v6 + (1 : Int32))), (7, .int z17), (8, .int (v3 + ((3 : Int32) * v6))), (0, .ref (ad Γ.2.2.1 p0)), (2, .int v2), (3, .int v3), (4, .int v4), (5, .ref (ad Γ.2.2.1 p5))]) hx hb dX8_read_130 hl (k := 7) rfl (congrArg (fun w => v6 + w) (by decide)) (by decide) rfl (fun ls hl => ?_)
          refine lv_goto (tgt := 52) hx hb dX8_read_133 (by decide) ?_
          exact ih (v6 + (1 : Int32)) z17 z25.2 hf _ _ _ hH (lv_sub hl [3, 4, 5, 6, 7, 0, 1] rfl)
        · replace hf := ie hf c26
          refine lv_bipush (v := (-20 : Int32)) hx hb dX8_read_124 (by decide) ?_
          refine lv_iload hx hb dX8_read_126 (lv_at hl 7 rfl) ?_
          refine lv_isub hx hb dX8_read_128 ?_
          obtain rfl := Option.some.inj hf
          exact r_iret (d' := d) C0 hr hlocks hH rfl dX8_read_129
      · replace hf := ie hf c18
        refine lv_goto (tgt := 136) hx hb dX8_read_83 (by decide) ?_
        refine lv_aload_n hx hb dX8_read_136 rfl (lv_at hl 2 rfl) ?_
        obtain ⟨q27, g27, hf⟩ := ob hf
        refine r_getr C0 hH fl_X8_24 g27 dX8_read_137 ?_
        refine lv_aload_n hx hb dX8_read_140 rfl (lv_at hl 2 rfl) ?_
        obtain ⟨q28, g28, hf⟩ := ob hf
        refine r_getr C0 hH fl_X8_28 g28 dX8_read_141 ?_
        obtain ⟨g29, hf⟩ := gd hf
        obtain ⟨z30, h30, hf⟩ := ob hf
        refine r_callVv (rest := []) C0 hH (c_X7_copy Γ l Λ d q27 q28 z30 h30) cv_X8_87 g29 (by decide) rfl hl.1 rfl (Nat.le_of_ble_eq_true rfl) dX8_read_144 (by decide) (fun H locs hH => ?_)
        refine lv_aload_n hx hb dX8_read_147 rfl (lv_at hl 2 rfl) ?_
        refine lv_iload hx hb dX8_read_148 (lv_at hl 0 rfl) ?_
        obtain ⟨g31, hf⟩ := gd hf
        refine r_puti C0 hH fw_X8_299 g31 rfl dX8_read_150 (fun H locs hH => ?_)
        refine lv_iload hx hb dX8_read_153 (lv_at hl 7 rfl) ?_
        obtain rfl := Option.some.inj hf
        exact r_iret (d' := d) C0 hr hlocks hH rfl dX8_read_155
set_option maxHeartbeats 4000000 in
set_option maxRecDepth 100000 in
theorem c_X8_read (Γ : Cx) (l : Launch) (Λ : List Ly) (d : Dt) (p0 : Nat) (v1 : Int32) (v2 : Int32) (v3 : Int32) (v4 : Int32) (z : Int32 × Dt) (hf : f_X8_read Λ d p0 v1 v2 v3 v4 = some z) : Cn Γ l yX8_read cX8_read 9 (some FieldType.int) 3 68 [.ref (ad Γ.2.2.1 p0), .int v1, .int v2, .int v3, .int v4] Λ d (some (.int z.1)) z.2 := by
  refine Cn.of (own := "SeasonBound") (by decide +kernel) rfl (Nat.le_of_ble_eq_true rfl) ?_
  intro p e s m below meth c C0 hr hlocks hH ls hl
  have hl : lv_has ls 9 [(0, .ref (ad Γ.2.2.1 p0)), (1, .int v1), (2, .int v2), (3, .int v3), (4, .int v4)] := hl
  obtain ⟨hx, hb, hml, hown, hts, hK⟩ := id C0
  unfold f_X8_read at hf
  refine lv_iload_n hx hb dX8_read_0 rfl (lv_at hl 1 rfl) ?_
  refine r_callSi (rest := []) C0 hH (c_X8_isSheet Γ l Λ d v1) cs_X8_277 (by decide) rfl hl.1 rfl (Nat.le_of_ble_eq_true rfl) dX8_read_1 (by decide) (fun H locs hH => ?_)
  refine lv_if_eq (tgt := 25) hx hb dX8_read_4 (by decide) (fun c1 => ?_) (fun c1 => ?_)
  · replace hf := it hf c1
    refine lv_iconst (v := (-1 : Int32)) hx hb dX8_read_25 (by decide) ?_
    obtain rfl := Option.some.inj hf
    exact r_iret (d' := d) C0 hr hlocks hH rfl dX8_read_26
  · replace hf := ie hf c1
    refine lv_iload_n hx hb dX8_read_7 rfl (lv_at hl 2 rfl) ?_
    refine r_callSi (rest := []) C0 hH (c_X8_isLane Γ l Λ d v2) cs_X8_280 (by decide) rfl hl.1 rfl (Nat.le_of_ble_eq_true rfl) dX8_read_8 (by decide) (fun H locs hH => ?_)
    refine lv_if_eq (tgt := 25) hx hb dX8_read_11 (by decide) (fun c2 => ?_) (fun c2 => ?_)
    · replace hf := it hf c2
      refine lv_iconst (v := (-1 : Int32)) hx hb dX8_read_25 (by decide) ?_
      obtain rfl := Option.some.inj hf
      exact r_iret (d' := d) C0 hr hlocks hH rfl dX8_read_26
    · replace hf := ie hf c2
      refine lv_iload hx hb dX8_read_14 (lv_at hl 4 rfl) ?_
      refine lv_iconst (v := (0 : Int32)) hx hb dX8_read_16 (by decide) ?_
      refine lv_bipush (v := (13 : Int32)) hx hb dX8_read_17 (by decide) ?_
      refine r_callSi (rest := []) C0 hH (c_X8_within Γ l Λ d v4 (0 : Int32) (13 : Int32)) cs_X8_60 (by decide) rfl hl.1 rfl (Nat.le_of_ble_eq_true rfl) dX8_read_19 (by decide) (fun H locs hH => ?_)
      refine lv_if_ne (tgt := 27) hx hb dX8_read_22 (by decide) (fun c3 => ?_) (fun c3 => ?_)
      · replace hf := ie hf c3
        refine lv_aload_n hx hb dX8_read_27 rfl (lv_at hl 0 rfl) ?_
        obtain ⟨q4, g4, hf⟩ := ob hf
        refine r_getr C0 hH fl_X8_41 g4 dX8_read_28 ?_
        refine lv_iload_n hx hb dX8_read_31 rfl (lv_at hl 1 rfl) ?_
        obtain ⟨q5, g5, hf⟩ := ob hf
        refine r_aald (C := "SeasonBound$Sheet") C0 hH g5 (by decide) rfl dX8_read_32 ?_
        refine lv_astore (lv' := [(5, .ref (ad Γ.2.2.1 q5)), (0, .ref (ad Γ.2.2.1 p0)), (1, .int v1), (2, .int v2), (3, .int v3), (4, .int v4)]) hx hb dX8_read_33 hl (by decide) rfl (fun ls hl => ?_)
        refine lv_aload_n hx hb dX8_read_35 rfl (lv_at hl 1 rfl) ?_
        obtain ⟨q6, g6, hf⟩ := ob hf
        refine r_getr C0 hH fl_X8_28 g6 dX8_read_36 ?_
        refine lv_aload_n hx hb dX8_read_39 rfl (lv_at hl 1 rfl) ?_
        obtain ⟨q7, g7, hf⟩ := ob hf
        refine r_getr C0 hH fl_X8_24 g7 dX8_read_40 ?_
        obtain ⟨g8, hf⟩ := gd hf
        obtain ⟨z9, h9, hf⟩ := ob hf
        refine r_callVv (rest := []) C0 hH (c_X7_copy Γ l Λ d q6 q7 z9 h9) cv_X8_87 g8 (by decide) rfl hl.1 rfl (Nat.le_of_ble_eq_true rfl) dX8_read_43 (by decide) (fun H locs hH => ?_)
        refine lv_iconst (v := (0 : Int32)) hx hb dX8_read_46 (by decide) ?_
        refine lv_istore (lv' := [(6, .int (0 : Int32)), (5, .ref (ad Γ.2.2.1 q5)), (0, .ref (ad Γ.2.2.1 p0)), (1, .int v1), (2, .int v2), (3, .int v3), (4, .int v4)]) hx hb dX8_read_47 hl (by decide) rfl (fun ls hl => ?_)
        refine lv_iconst (v := (0 : Int32)) hx hb dX8_read_49 (by decide) ?_
        refine lv_istore (lv' := [(7, .int (0 : Int32)), (6, .int (0 : Int32)), (5, .ref (ad Γ.2.2.1 q5)), (0, .ref (ad Γ.2.2.1 p0)), (1, .int v1), (2, .int v2), (3, .int v3), (4, .int v4)]) hx hb dX8_read_50 hl (by decide) rfl (fun ls hl => ?_)
        refine w_X8_read_L52 C0 hr hlocks p0 v2 v3 v4 q5 FU (0 : Int32) (0 : Int32) z9 hf _ _ _ hH (lv_sub hl [3, 5, 6, 7, 2, 1, 0] rfl)
      · replace hf := it hf c3
        refine lv_iconst (v := (-1 : Int32)) hx hb dX8_read_25 (by decide) ?_
        obtain rfl := Option.some.inj hf
        exact r_iret (d' := d) C0 hr hlocks hH rfl dX8_read_26
theorem dX8_torn_0 : decode cX8_torn 0 = .ok (.aload_n 0, 1) := by decide +kernel
theorem dX8_torn_1 : decode cX8_torn 1 = .ok (.getfield 299, 3) := by decide +kernel
theorem dX8_torn_4 : decode cX8_torn 4 = .ok (.ireturn, 1) := by decide +kernel
def f_X8_torn (Λ : List Ly) (d : Dt) (p0 : Nat) : Option Int32 := if clsAt Λ p0 = some 8 then (some (d.1 p0 10)) else none
set_option maxHeartbeats 4000000 in
set_option maxRecDepth 100000 in
theorem c_X8_torn (Γ : Cx) (l : Launch) (Λ : List Ly) (d : Dt) (p0 : Nat) (z : Int32) (hf : f_X8_torn Λ d p0 = some z) : Cn Γ l yX8_torn cX8_torn 1 (some FieldType.int) 0 0 [.ref (ad Γ.2.2.1 p0)] Λ d (some (.int z)) d := by
  refine Cn.of (own := "SeasonBound") (by decide +kernel) rfl (Nat.le_of_ble_eq_true rfl) ?_
  intro p e s m below meth c C0 hr hlocks hH ls hl
  have hl : lv_has ls 1 [(0, .ref (ad Γ.2.2.1 p0))] := hl
  obtain ⟨hx, hb, hml, hown, hts, hK⟩ := id C0
  unfold f_X8_torn at hf
  refine lv_aload_n hx hb dX8_torn_0 rfl (lv_at hl 0 rfl) ?_
  obtain ⟨g1, hf⟩ := gd hf
  refine r_geti C0 hH fl_X8_299 g1 rfl dX8_torn_1 ?_
  obtain rfl := Option.some.inj hf
  exact r_iret (d' := d) C0 hr hlocks hH rfl dX8_torn_4
theorem dX8_countKept_0 : decode cX8_countKept 0 = .ok (.iconst 0, 1) := by decide +kernel
theorem dX8_countKept_1 : decode cX8_countKept 1 = .ok (.istore_n 1, 1) := by decide +kernel
theorem dX8_countKept_2 : decode cX8_countKept 2 = .ok (.iconst 0, 1) := by decide +kernel
theorem dX8_countKept_3 : decode cX8_countKept 3 = .ok (.istore_n 2, 1) := by decide +kernel
theorem dX8_countKept_4 : decode cX8_countKept 4 = .ok (.iload_n 2, 1) := by decide +kernel
theorem dX8_countKept_5 : decode cX8_countKept 5 = .ok (.iconst 2, 1) := by decide +kernel
theorem dX8_countKept_6 : decode cX8_countKept 6 = .ok (.if_icmp .ge 21, 3) := by decide +kernel
theorem dX8_countKept_9 : decode cX8_countKept 9 = .ok (.aload_n 0, 1) := by decide +kernel
theorem dX8_countKept_10 : decode cX8_countKept 10 = .ok (.getfield 35, 3) := by decide +kernel
theorem dX8_countKept_13 : decode cX8_countKept 13 = .ok (.iload_n 2, 1) := by decide +kernel
theorem dX8_countKept_14 : decode cX8_countKept 14 = .ok (.baload, 1) := by decide +kernel
theorem dX8_countKept_15 : decode cX8_countKept 15 = .ok (.ifCond .eq 6, 3) := by decide +kernel
theorem dX8_countKept_18 : decode cX8_countKept 18 = .ok (.iinc 1 1, 3) := by decide +kernel
theorem dX8_countKept_21 : decode cX8_countKept 21 = .ok (.iinc 2 1, 3) := by decide +kernel
theorem dX8_countKept_24 : decode cX8_countKept 24 = .ok (.goto (-20), 3) := by decide +kernel
theorem dX8_countKept_27 : decode cX8_countKept 27 = .ok (.iload_n 1, 1) := by decide +kernel
theorem dX8_countKept_28 : decode cX8_countKept 28 = .ok (.ireturn, 1) := by decide +kernel
def f_X8_countKept_L4 (Λ : List Ly) (d : Dt) (p0 : Nat) : Nat → Int32 → Int32 → Option Int32
  | 0, _, _ => none
  | n + 1, v1, v2 => if (2 : Int32) ≤ v2 then (some v1) else (Option.bind (rf Λ p0 8 5) fun q2 => if okA Λ q2 3 v2 = true then (if (d.1 q2 (v2).toNatClampNeg) = 0 then (f_X8_countKept_L4 Λ d p0 n v1 (v2 + (1 : Int32))) else (f_X8_countKept_L4 Λ d p0 n (v1 + (1 : Int32)) (v2 + (1 : Int32)))) else none)
def f_X8_countKept (Λ : List Ly) (d : Dt) (p0 : Nat) : Option Int32 := f_X8_countKept_L4 Λ d p0 FU (0 : Int32) (0 : Int32)
set_option maxHeartbeats 4000000 in
set_option maxRecDepth 100000 in
theorem w_X8_countKept_L4 {p : Program} {l : Launch} {e : Env} {s : State} {m : MethodId} {args : Array Value} {below : List Frame} {meth : Method} {c : Code} {Γ : Cx} {Λ : List Ly} {z : Int32} {d : Dt} (C0 : Ct Γ p s m args c cX8_countKept 3 "SeasonBound") (hr : meth.sig.returnType = (some FieldType.int)) (hlocks : meth.locks = false) (p0 : Nat) :
    ∀ (n : Nat) (v1 : Int32) (v2 : Int32), f_X8_countKept_L4 Λ d p0 n v1 v2 = some z → ∀ (H : Heap) (locs : List Loc) (ls : Array Slot), Hs Γ Λ d s H locs → lv_has ls 3 [(0, .ref (ad Γ.2.2.1 p0)), (1, .int v1), (2, .int v2)] → W p l e { frames := 0, cells := 0, slots := 0, locals := 0 } s m args below meth c H locs 0 0 (MQ below (QN Γ Λ d (some (.int z))) args s 0 0 (AP Γ)) (F0 m 4 ls []) := by
  obtain ⟨hx, hb, hml, hown, hts, hK⟩ := id C0
  intro n
  induction n with
  | zero =>
    intro v1 v2 hf
    cases hf
  | succ n ih =>
    intro v1 v2 hf H locs ls hH hl
    unfold f_X8_countKept_L4 at hf
    refine lv_iload_n hx hb dX8_countKept_4 rfl (lv_at hl 2 rfl) ?_
    refine lv_iconst (v := (2 : Int32)) hx hb dX8_countKept_5 (by decide) ?_
    refine lv_icmp_ge (tgt := 27) hx hb dX8_countKept_6 (by decide) (fun c1 => ?_) (fun c1 => ?_)
    · replace hf := it hf c1
      refine lv_iload_n hx hb dX8_countKept_27 rfl (lv_at hl 1 rfl) ?_
      obtain rfl := Option.some.inj hf
      exact r_iret (d' := d) C0 hr hlocks hH rfl dX8_countKept_28
    · replace hf := ie hf c1
      refine lv_aload_n hx hb dX8_countKept_9 rfl (lv_at hl 0 rfl) ?_
      obtain ⟨q2, g2, hf⟩ := ob hf
      refine r_getr C0 hH fl_X8_35 g2 dX8_countKept_10 ?_
      refine lv_iload_n hx hb dX8_countKept_13 rfl (lv_at hl 2 rfl) ?_
      obtain ⟨g3, hf⟩ := gd hf
      refine r_zald C0 hH g3 dX8_countKept_14 ?_
      refine lv_if_eq (tgt := 21) hx hb dX8_countKept_15 (by decide) (fun c4 => ?_) (fun c4 => ?_)
      · replace hf := it hf c4
        refine lv_iinc (v := (v2 + (1 : Int32))) (lv' := [(2, .int (v2 + (1 : Int32))), (0, .ref (ad Γ.2.2.1 p0)), (1, .int v1)]) hx hb dX8_countKept_21 hl (k := 2) rfl (congrArg (fun w => v2 + w) (by decide)) (by decide) rfl (fun ls hl => ?_)
        refine lv_goto (tgt := 4) hx hb dX8_countKept_24 (by decide) ?_
        exact ih v1 (v2 + (1 : Int32)) hf _ _ _ hH (lv_sub hl [1, 2, 0] rfl)
      · replace hf := ie hf c4
        refine lv_iinc (v := (v1 + (1 : Int32))) (lv' := [(1, .int (v1 + (1 : Int32))), (0, .ref (ad Γ.2.2.1 p0)), (2, .int v2)]) hx hb dX8_countKept_18 hl (k := 1) rfl (congrArg (fun w => v1 + w) (by decide)) (by decide) rfl (fun ls hl => ?_)
        refine lv_iinc (v := (v2 + (1 : Int32))) (lv' := [(2, .int (v2 + (1 : Int32))), (1, .int (v1 + (1 : Int32))), (0, .ref (ad Γ.2.2.1 p0))]) hx hb dX8_countKept_21 hl (k := 2) rfl (congrArg (fun w => v2 + w) (by decide)) (by decide) rfl (fun ls hl => ?_)
        refine lv_goto (tgt := 4) hx hb dX8_countKept_24 (by decide) ?_
        exact ih (v1 + (1 : Int32)) (v2 + (1 : Int32)) hf _ _ _ hH (lv_sub hl [2, 1, 0] rfl)
set_option maxHeartbeats 4000000 in
set_option maxRecDepth 100000 in
theorem c_X8_countKept (Γ : Cx) (l : Launch) (Λ : List Ly) (d : Dt) (p0 : Nat) (z : Int32) (hf : f_X8_countKept Λ d p0 = some z) : Cn Γ l yX8_countKept cX8_countKept 3 (some FieldType.int) 0 0 [.ref (ad Γ.2.2.1 p0)] Λ d (some (.int z)) d := by
  refine Cn.of (own := "SeasonBound") (by decide +kernel) rfl (Nat.le_of_ble_eq_true rfl) ?_
  intro p e s m below meth c C0 hr hlocks hH ls hl
  have hl : lv_has ls 3 [(0, .ref (ad Γ.2.2.1 p0))] := hl
  obtain ⟨hx, hb, hml, hown, hts, hK⟩ := id C0
  unfold f_X8_countKept at hf
  refine lv_iconst (v := (0 : Int32)) hx hb dX8_countKept_0 (by decide) ?_
  refine lv_istore_n (lv' := [(1, .int (0 : Int32)), (0, .ref (ad Γ.2.2.1 p0))]) hx hb dX8_countKept_1 rfl hl (by decide) rfl (fun ls hl => ?_)
  refine lv_iconst (v := (0 : Int32)) hx hb dX8_countKept_2 (by decide) ?_
  refine lv_istore_n (lv' := [(2, .int (0 : Int32)), (1, .int (0 : Int32)), (0, .ref (ad Γ.2.2.1 p0))]) hx hb dX8_countKept_3 rfl hl (by decide) rfl (fun ls hl => ?_)
  refine w_X8_countKept_L4 C0 hr hlocks p0 FU (0 : Int32) (0 : Int32) hf _ _ _ hH (lv_sub hl [2, 1, 0] rfl)
theorem dX8_count_0 : decode cX8_count 0 = .ok (.iload_n 1, 1) := by decide +kernel
theorem dX8_count_1 : decode cX8_count 1 = .ok (.tableswitch 103 0 5 #[39, 47, 52, 60, 87, 95], 39) := by decide +kernel
theorem dX8_count_40 : decode cX8_count 40 = .ok (.aload_n 0, 1) := by decide +kernel
theorem dX8_count_41 : decode cX8_count 41 = .ok (.getfield 24, 3) := by decide +kernel
theorem dX8_count_44 : decode cX8_count 44 = .ok (.getfield 246, 3) := by decide +kernel
theorem dX8_count_47 : decode cX8_count 47 = .ok (.ireturn, 1) := by decide +kernel
theorem dX8_count_48 : decode cX8_count 48 = .ok (.aload_n 0, 1) := by decide +kernel
theorem dX8_count_49 : decode cX8_count 49 = .ok (.invokevirtual 302, 3) := by decide +kernel
theorem dX8_count_52 : decode cX8_count 52 = .ok (.ireturn, 1) := by decide +kernel
theorem dX8_count_53 : decode cX8_count 53 = .ok (.aload_n 0, 1) := by decide +kernel
theorem dX8_count_54 : decode cX8_count 54 = .ok (.getfield 20, 3) := by decide +kernel
theorem dX8_count_57 : decode cX8_count 57 = .ok (.getfield 64, 3) := by decide +kernel
theorem dX8_count_60 : decode cX8_count 60 = .ok (.ireturn, 1) := by decide +kernel
theorem dX8_count_61 : decode cX8_count 61 = .ok (.aload_n 0, 1) := by decide +kernel
theorem dX8_count_62 : decode cX8_count 62 = .ok (.getfield 41, 3) := by decide +kernel
theorem dX8_count_65 : decode cX8_count 65 = .ok (.iconst 0, 1) := by decide +kernel
theorem dX8_count_66 : decode cX8_count 66 = .ok (.aaload, 1) := by decide +kernel
theorem dX8_count_67 : decode cX8_count 67 = .ok (.invokevirtual 305, 3) := by decide +kernel
theorem dX8_count_70 : decode cX8_count 70 = .ok (.ifCond .eq 8, 3) := by decide +kernel
theorem dX8_count_73 : decode cX8_count 73 = .ok (.bipush (-4), 2) := by decide +kernel
theorem dX8_count_75 : decode cX8_count 75 = .ok (.goto 12, 3) := by decide +kernel
theorem dX8_count_78 : decode cX8_count 78 = .ok (.aload_n 0, 1) := by decide +kernel
theorem dX8_count_79 : decode cX8_count 79 = .ok (.getfield 41, 3) := by decide +kernel
theorem dX8_count_82 : decode cX8_count 82 = .ok (.iconst 0, 1) := by decide +kernel
theorem dX8_count_83 : decode cX8_count 83 = .ok (.aaload, 1) := by decide +kernel
theorem dX8_count_84 : decode cX8_count 84 = .ok (.getfield 308, 3) := by decide +kernel
theorem dX8_count_87 : decode cX8_count 87 = .ok (.ireturn, 1) := by decide +kernel
theorem dX8_count_88 : decode cX8_count 88 = .ok (.aload_n 0, 1) := by decide +kernel
theorem dX8_count_89 : decode cX8_count 89 = .ok (.getfield 24, 3) := by decide +kernel
theorem dX8_count_92 : decode cX8_count 92 = .ok (.invokevirtual 309, 3) := by decide +kernel
theorem dX8_count_95 : decode cX8_count 95 = .ok (.ireturn, 1) := by decide +kernel
theorem dX8_count_96 : decode cX8_count 96 = .ok (.aload_n 0, 1) := by decide +kernel
theorem dX8_count_97 : decode cX8_count 97 = .ok (.getfield 24, 3) := by decide +kernel
theorem dX8_count_100 : decode cX8_count 100 = .ok (.invokevirtual 312, 3) := by decide +kernel
theorem dX8_count_103 : decode cX8_count 103 = .ok (.ireturn, 1) := by decide +kernel
theorem dX8_count_104 : decode cX8_count 104 = .ok (.iconst (-1), 1) := by decide +kernel
theorem dX8_count_105 : decode cX8_count 105 = .ok (.ireturn, 1) := by decide +kernel
def f_X8_count (Λ : List Ly) (d : Dt) (p0 : Nat) (v1 : Int32) : Option Int32 := if v1 = (0 : Int32) then (Option.bind (rf Λ p0 8 2) fun q2 => if clsAt Λ q2 = some 7 then (some (d.1 q2 9)) else none) else (if v1 = (1 : Int32) then (if clsAt Λ p0 = some 8 then (Option.bind (f_X8_countKept Λ d p0) fun z6 => some z6) else none) else (if v1 = (2 : Int32) then (Option.bind (rf Λ p0 8 1) fun q8 => if clsAt Λ q8 = some 6 then (some (d.1 q8 1)) else none) else (if v1 = (3 : Int32) then (Option.bind (rf Λ p0 8 6) fun q11 => Option.bind (ra Λ q11 6 (0 : Int32)) fun q12 => if clsAt Λ q12 = some 5 then (Option.bind (f_X5_isNothing Λ d q12) fun z14 => if z14 = 0 then (some (d.1 q12 2)) else (some (-4 : Int32))) else none) else (if v1 = (4 : Int32) then (Option.bind (rf Λ p0 8 2) fun q17 => if clsAt Λ q17 = some 7 then (Option.bind (f_X7_lengthSum Λ d q17) fun z19 => some z19) else none) else (if v1 = (5 : Int32) then (Option.bind (rf Λ p0 8 2) fun q21 => if clsAt Λ q21 = some 7 then (Option.bind (f_X7_termSum Λ d q21) fun z23 => some z23) else none) else (some (-1 : Int32)))))))
set_option maxHeartbeats 4000000 in
set_option maxRecDepth 100000 in
theorem c_X8_count (Γ : Cx) (l : Launch) (Λ : List Ly) (d : Dt) (p0 : Nat) (v1 : Int32) (z : Int32) (hf : f_X8_count Λ d p0 v1 = some z) : Cn Γ l yX8_count cX8_count 2 (some FieldType.int) 1 22 [.ref (ad Γ.2.2.1 p0), .int v1] Λ d (some (.int z)) d := by
  refine Cn.of (own := "SeasonBound") (by decide +kernel) rfl (Nat.le_of_ble_eq_true rfl) ?_
  intro p e s m below meth c C0 hr hlocks hH ls hl
  have hl : lv_has ls 2 [(0, .ref (ad Γ.2.2.1 p0)), (1, .int v1)] := hl
  obtain ⟨hx, hb, hml, hown, hts, hK⟩ := id C0
  unfold f_X8_count at hf
  refine lv_iload_n hx hb dX8_count_0 rfl (lv_at hl 1 rfl) ?_
  by_cases c1 : v1 = (0 : Int32)
  · replace hf := it hf c1
    refine lv_tableIn (off := 39) (tgt := 40) hx hb dX8_count_1 (by rw [c1]; decide) (by rw [c1]; decide) (by rw [c1]; rfl) (by decide) ?_
    refine lv_aload_n hx hb dX8_count_40 rfl (lv_at hl 0 rfl) ?_
    obtain ⟨q2, g2, hf⟩ := ob hf
    refine r_getr C0 hH fl_X8_24 g2 dX8_count_41 ?_
    obtain ⟨g3, hf⟩ := gd hf
    refine r_geti C0 hH fl_X8_246 g3 rfl dX8_count_44 ?_
    obtain rfl := Option.some.inj hf
    exact r_iret (d' := d) C0 hr hlocks hH rfl dX8_count_47
  · replace hf := ie hf c1
    by_cases c4 : v1 = (1 : Int32)
    · replace hf := it hf c4
      refine lv_tableIn (off := 47) (tgt := 48) hx hb dX8_count_1 (by rw [c4]; decide) (by rw [c4]; decide) (by rw [c4]; rfl) (by decide) ?_
      refine lv_aload_n hx hb dX8_count_48 rfl (lv_at hl 0 rfl) ?_
      obtain ⟨g5, hf⟩ := gd hf
      obtain ⟨z6, h6, hf⟩ := ob hf
      refine r_callVi (rest := []) C0 hH (c_X8_countKept Γ l Λ d p0 z6 h6) cv_X8_302 g5 (by decide) rfl hl.1 rfl (Nat.le_of_ble_eq_true rfl) dX8_count_49 (by decide) (fun H locs hH => ?_)
      obtain rfl := Option.some.inj hf
      exact r_iret (d' := d) C0 hr hlocks hH rfl dX8_count_52
    · replace hf := ie hf c4
      by_cases c7 : v1 = (2 : Int32)
      · replace hf := it hf c7
        refine lv_tableIn (off := 52) (tgt := 53) hx hb dX8_count_1 (by rw [c7]; decide) (by rw [c7]; decide) (by rw [c7]; rfl) (by decide) ?_
        refine lv_aload_n hx hb dX8_count_53 rfl (lv_at hl 0 rfl) ?_
        obtain ⟨q8, g8, hf⟩ := ob hf
        refine r_getr C0 hH fl_X8_20 g8 dX8_count_54 ?_
        obtain ⟨g9, hf⟩ := gd hf
        refine r_geti C0 hH fl_X8_64 g9 rfl dX8_count_57 ?_
        obtain rfl := Option.some.inj hf
        exact r_iret (d' := d) C0 hr hlocks hH rfl dX8_count_60
      · replace hf := ie hf c7
        by_cases c10 : v1 = (3 : Int32)
        · replace hf := it hf c10
          refine lv_tableIn (off := 60) (tgt := 61) hx hb dX8_count_1 (by rw [c10]; decide) (by rw [c10]; decide) (by rw [c10]; rfl) (by decide) ?_
          refine lv_aload_n hx hb dX8_count_61 rfl (lv_at hl 0 rfl) ?_
          obtain ⟨q11, g11, hf⟩ := ob hf
          refine r_getr C0 hH fl_X8_41 g11 dX8_count_62 ?_
          refine lv_iconst (v := (0 : Int32)) hx hb dX8_count_65 (by decide) ?_
          obtain ⟨q12, g12, hf⟩ := ob hf
          refine r_aald (C := "SeasonBound$Sheet") C0 hH g12 (by decide) rfl dX8_count_66 ?_
          obtain ⟨g13, hf⟩ := gd hf
          obtain ⟨z14, h14, hf⟩ := ob hf
          refine r_callVi (rest := []) C0 hH (c_X5_isNothing Γ l Λ d q12 z14 h14) cv_X8_305 g13 (by decide) rfl hl.1 rfl (Nat.le_of_ble_eq_true rfl) dX8_count_67 (by decide) (fun H locs hH => ?_)
          refine lv_if_eq (tgt := 78) hx hb dX8_count_70 (by decide) (fun c15 => ?_) (fun c15 => ?_)
          · replace hf := it hf c15
            refine lv_aload_n hx hb dX8_count_78 rfl (lv_at hl 0 rfl) ?_
            refine r_getr C0 hH fl_X8_41 g11 dX8_count_79 ?_
            refine lv_iconst (v := (0 : Int32)) hx hb dX8_count_82 (by decide) ?_
            refine r_aald (C := "SeasonBound$Sheet") C0 hH g12 (by decide) rfl dX8_count_83 ?_
            refine r_geti C0 hH fl_X8_308 g13 rfl dX8_count_84 ?_
            obtain rfl := Option.some.inj hf
            exact r_iret (d' := d) C0 hr hlocks hH rfl dX8_count_87
          · replace hf := ie hf c15
            refine lv_bipush (v := (-4 : Int32)) hx hb dX8_count_73 (by decide) ?_
            refine lv_goto (tgt := 87) hx hb dX8_count_75 (by decide) ?_
            obtain rfl := Option.some.inj hf
            exact r_iret (d' := d) C0 hr hlocks hH rfl dX8_count_87
        · replace hf := ie hf c10
          by_cases c16 : v1 = (4 : Int32)
          · replace hf := it hf c16
            refine lv_tableIn (off := 87) (tgt := 88) hx hb dX8_count_1 (by rw [c16]; decide) (by rw [c16]; decide) (by rw [c16]; rfl) (by decide) ?_
            refine lv_aload_n hx hb dX8_count_88 rfl (lv_at hl 0 rfl) ?_
            obtain ⟨q17, g17, hf⟩ := ob hf
            refine r_getr C0 hH fl_X8_24 g17 dX8_count_89 ?_
            obtain ⟨g18, hf⟩ := gd hf
            obtain ⟨z19, h19, hf⟩ := ob hf
            refine r_callVi (rest := []) C0 hH (c_X7_lengthSum Γ l Λ d q17 z19 h19) cv_X8_309 g18 (by decide) rfl hl.1 rfl (Nat.le_of_ble_eq_true rfl) dX8_count_92 (by decide) (fun H locs hH => ?_)
            obtain rfl := Option.some.inj hf
            exact r_iret (d' := d) C0 hr hlocks hH rfl dX8_count_95
          · replace hf := ie hf c16
            by_cases c20 : v1 = (5 : Int32)
            · replace hf := it hf c20
              refine lv_tableIn (off := 95) (tgt := 96) hx hb dX8_count_1 (by rw [c20]; decide) (by rw [c20]; decide) (by rw [c20]; rfl) (by decide) ?_
              refine lv_aload_n hx hb dX8_count_96 rfl (lv_at hl 0 rfl) ?_
              obtain ⟨q21, g21, hf⟩ := ob hf
              refine r_getr C0 hH fl_X8_24 g21 dX8_count_97 ?_
              obtain ⟨g22, hf⟩ := gd hf
              obtain ⟨z23, h23, hf⟩ := ob hf
              refine r_callVi (rest := []) C0 hH (c_X7_termSum Γ l Λ d q21 z23 h23) cv_X8_312 g22 (by decide) rfl hl.1 rfl (Nat.le_of_ble_eq_true rfl) dX8_count_100 (by decide) (fun H locs hH => ?_)
              obtain rfl := Option.some.inj hf
              exact r_iret (d' := d) C0 hr hlocks hH rfl dX8_count_103
            · replace hf := ie hf c20
              refine lv_tableOut (tgt := 104) hx hb dX8_count_1 (by have hc1 := lv_neT c1 (a := 0) (by decide); have hc4 := lv_neT c4 (a := 1) (by decide); have hc7 := lv_neT c7 (a := 2) (by decide); have hc10 := lv_neT c10 (a := 3) (by decide); have hc16 := lv_neT c16 (a := 4) (by decide); have hc20 := lv_neT c20 (a := 5) (by decide); omega) (by decide) ?_
              refine lv_iconst (v := (-1 : Int32)) hx hb dX8_count_104 (by decide) ?_
              obtain rfl := Option.some.inj hf
              exact r_iret (d' := d) C0 hr hlocks hH rfl dX8_count_105
theorem dX9_in_0 : decode cX9_in 0 = .ok (.lload_n 0, 1) := by decide +kernel
theorem dX9_in_1 : decode cX9_in 1 = .ok (.lload_n 2, 1) := by decide +kernel
theorem dX9_in_2 : decode cX9_in 2 = .ok (.lcmp, 1) := by decide +kernel
theorem dX9_in_3 : decode cX9_in 3 = .ok (.ifCond .lt 14, 3) := by decide +kernel
theorem dX9_in_6 : decode cX9_in 6 = .ok (.lload_n 0, 1) := by decide +kernel
theorem dX9_in_7 : decode cX9_in 7 = .ok (.lload 4, 2) := by decide +kernel
theorem dX9_in_9 : decode cX9_in 9 = .ok (.lcmp, 1) := by decide +kernel
theorem dX9_in_10 : decode cX9_in 10 = .ok (.ifCond .gt 7, 3) := by decide +kernel
theorem dX9_in_13 : decode cX9_in 13 = .ok (.iconst 1, 1) := by decide +kernel
theorem dX9_in_14 : decode cX9_in 14 = .ok (.goto 4, 3) := by decide +kernel
theorem dX9_in_17 : decode cX9_in 17 = .ok (.iconst 0, 1) := by decide +kernel
theorem dX9_in_18 : decode cX9_in 18 = .ok (.ireturn, 1) := by decide +kernel
def f_X9_in (v0 : Int64) (v2 : Int64) (v4 : Int64) : Int32 := if (lg_cmp v0 v2) < 0 then ((0 : Int32)) else (if 0 < (lg_cmp v0 v4) then ((0 : Int32)) else ((1 : Int32)))
theorem bo_X9_in (v0 : Int64) (v2 : Int64) (v4 : Int64) : f_X9_in v0 v2 v4 = 0 ∨ f_X9_in v0 v2 v4 = 1 := by
  unfold f_X9_in
  (repeat' split) <;> first | exact Or.inl rfl | exact Or.inr rfl
set_option maxHeartbeats 4000000 in
set_option maxRecDepth 100000 in
theorem c_X9_in (Γ : Cx) (l : Launch) (Λ : List Ly) (d : Dt) (v0 : Int64) (v2 : Int64) (v4 : Int64) : Cn Γ l yX9_in cX9_in 6 (some FieldType.boolean) 0 0 [.long v0, .long v2, .long v4] Λ d (some (.int (f_X9_in v0 v2 v4))) d := by
  generalize hf : f_X9_in v0 v2 v4 = z
  refine Cn.of (own := "SeasonBoundModel") (by decide +kernel) rfl (Nat.le_of_ble_eq_true rfl) ?_
  intro p e s m below meth c C0 hr hlocks hH ls hl
  have hl : lv_has ls 6 [(0, .long v0), (2, .long v2), (4, .long v4)] := hl
  obtain ⟨hx, hb, hml, hown, hts, hK⟩ := id C0
  unfold f_X9_in at hf
  refine lv_lload_n hx hb dX9_in_0 rfl (lv_at hl 0 rfl) ?_
  refine lv_lload_n hx hb dX9_in_1 rfl (lv_at hl 1 rfl) ?_
  refine W.lcmp hx hb dX9_in_2 ?_
  refine lv_if_lt (tgt := 17) hx hb dX9_in_3 (by decide) (fun c1 => ?_) (fun c1 => ?_)
  · replace hf := it hf c1
    refine lv_iconst (v := (0 : Int32)) hx hb dX9_in_17 (by decide) ?_
    subst hf
    exact r_iret (d' := d) C0 hr hlocks hH (nz (Or.inl rfl)) dX9_in_18
  · replace hf := ie hf c1
    refine lv_lload_n hx hb dX9_in_6 rfl (lv_at hl 0 rfl) ?_
    refine lv_lload hx hb dX9_in_7 (lv_at hl 2 rfl) ?_
    refine W.lcmp hx hb dX9_in_9 ?_
    refine lv_if_gt (tgt := 17) hx hb dX9_in_10 (by decide) (fun c2 => ?_) (fun c2 => ?_)
    · replace hf := it hf c2
      refine lv_iconst (v := (0 : Int32)) hx hb dX9_in_17 (by decide) ?_
      subst hf
      exact r_iret (d' := d) C0 hr hlocks hH (nz (Or.inl rfl)) dX9_in_18
    · replace hf := ie hf c2
      refine lv_iconst (v := (1 : Int32)) hx hb dX9_in_13 (by decide) ?_
      refine lv_goto (tgt := 18) hx hb dX9_in_14 (by decide) ?_
      subst hf
      exact r_iret (d' := d) C0 hr hlocks hH (nz (Or.inr rfl)) dX9_in_18
theorem dX9_flag_0 : decode cX9_flag 0 = .ok (.iload_n 0, 1) := by decide +kernel
theorem dX9_flag_1 : decode cX9_flag 1 = .ok (.ifCond .eq 7, 3) := by decide +kernel
theorem dX9_flag_4 : decode cX9_flag 4 = .ok (.iconst 1, 1) := by decide +kernel
theorem dX9_flag_5 : decode cX9_flag 5 = .ok (.goto 4, 3) := by decide +kernel
theorem dX9_flag_8 : decode cX9_flag 8 = .ok (.iconst 0, 1) := by decide +kernel
theorem dX9_flag_9 : decode cX9_flag 9 = .ok (.ireturn, 1) := by decide +kernel
def f_X9_flag (v0 : Int32) : Int32 := if v0 = 0 then ((0 : Int32)) else ((1 : Int32))
set_option maxHeartbeats 4000000 in
set_option maxRecDepth 100000 in
theorem c_X9_flag (Γ : Cx) (l : Launch) (Λ : List Ly) (d : Dt) (v0 : Int32) : Cn Γ l yX9_flag cX9_flag 1 (some FieldType.int) 0 0 [.int v0] Λ d (some (.int (f_X9_flag v0))) d := by
  generalize hf : f_X9_flag v0 = z
  refine Cn.of (own := "SeasonBoundModel") (by decide +kernel) rfl (Nat.le_of_ble_eq_true rfl) ?_
  intro p e s m below meth c C0 hr hlocks hH ls hl
  have hl : lv_has ls 1 [(0, .int v0)] := hl
  obtain ⟨hx, hb, hml, hown, hts, hK⟩ := id C0
  unfold f_X9_flag at hf
  refine lv_iload_n hx hb dX9_flag_0 rfl (lv_at hl 0 rfl) ?_
  refine lv_if_eq (tgt := 8) hx hb dX9_flag_1 (by decide) (fun c1 => ?_) (fun c1 => ?_)
  · replace hf := it hf c1
    refine lv_iconst (v := (0 : Int32)) hx hb dX9_flag_8 (by decide) ?_
    subst hf
    exact r_iret (d' := d) C0 hr hlocks hH rfl dX9_flag_9
  · replace hf := ie hf c1
    refine lv_iconst (v := (1 : Int32)) hx hb dX9_flag_4 (by decide) ?_
    refine lv_goto (tgt := 9) hx hb dX9_flag_5 (by decide) ?_
    subst hf
    exact r_iret (d' := d) C0 hr hlocks hH rfl dX9_flag_9
theorem dX9_lesser_0 : decode cX9_lesser 0 = .ok (.iload_n 0, 1) := by decide +kernel
theorem dX9_lesser_1 : decode cX9_lesser 1 = .ok (.iload_n 1, 1) := by decide +kernel
theorem dX9_lesser_2 : decode cX9_lesser 2 = .ok (.if_icmp .ge 7, 3) := by decide +kernel
theorem dX9_lesser_5 : decode cX9_lesser 5 = .ok (.iload_n 0, 1) := by decide +kernel
theorem dX9_lesser_6 : decode cX9_lesser 6 = .ok (.goto 4, 3) := by decide +kernel
theorem dX9_lesser_9 : decode cX9_lesser 9 = .ok (.iload_n 1, 1) := by decide +kernel
theorem dX9_lesser_10 : decode cX9_lesser 10 = .ok (.ireturn, 1) := by decide +kernel
def f_X9_lesser (v0 : Int32) (v1 : Int32) : Int32 := if v1 ≤ v0 then (v1) else (v0)
set_option maxHeartbeats 4000000 in
set_option maxRecDepth 100000 in
theorem c_X9_lesser (Γ : Cx) (l : Launch) (Λ : List Ly) (d : Dt) (v0 : Int32) (v1 : Int32) : Cn Γ l yX9_lesser cX9_lesser 2 (some FieldType.int) 0 0 [.int v0, .int v1] Λ d (some (.int (f_X9_lesser v0 v1))) d := by
  generalize hf : f_X9_lesser v0 v1 = z
  refine Cn.of (own := "SeasonBoundModel") (by decide +kernel) rfl (Nat.le_of_ble_eq_true rfl) ?_
  intro p e s m below meth c C0 hr hlocks hH ls hl
  have hl : lv_has ls 2 [(0, .int v0), (1, .int v1)] := hl
  obtain ⟨hx, hb, hml, hown, hts, hK⟩ := id C0
  unfold f_X9_lesser at hf
  refine lv_iload_n hx hb dX9_lesser_0 rfl (lv_at hl 0 rfl) ?_
  refine lv_iload_n hx hb dX9_lesser_1 rfl (lv_at hl 1 rfl) ?_
  refine lv_icmp_ge (tgt := 9) hx hb dX9_lesser_2 (by decide) (fun c1 => ?_) (fun c1 => ?_)
  · replace hf := it hf c1
    refine lv_iload_n hx hb dX9_lesser_9 rfl (lv_at hl 1 rfl) ?_
    subst hf
    exact r_iret (d' := d) C0 hr hlocks hH rfl dX9_lesser_10
  · replace hf := ie hf c1
    refine lv_iload_n hx hb dX9_lesser_5 rfl (lv_at hl 0 rfl) ?_
    refine lv_goto (tgt := 10) hx hb dX9_lesser_6 (by decide) ?_
    subst hf
    exact r_iret (d' := d) C0 hr hlocks hH rfl dX9_lesser_10
theorem dX9_firstDraft_0 : decode cX9_firstDraft 0 = .ok (.iconst 0, 1) := by decide +kernel
theorem dX9_firstDraft_1 : decode cX9_firstDraft 1 = .ok (.istore_n 1, 1) := by decide +kernel
theorem dX9_firstDraft_2 : decode cX9_firstDraft 2 = .ok (.iload_n 1, 1) := by decide +kernel
theorem dX9_firstDraft_3 : decode cX9_firstDraft 3 = .ok (.bipush 60, 2) := by decide +kernel
theorem dX9_firstDraft_5 : decode cX9_firstDraft 5 = .ok (.if_icmp .ge 16, 3) := by decide +kernel
theorem dX9_firstDraft_8 : decode cX9_firstDraft 8 = .ok (.aload_n 0, 1) := by decide +kernel
theorem dX9_firstDraft_9 : decode cX9_firstDraft 9 = .ok (.getfield 20, 3) := by decide +kernel
theorem dX9_firstDraft_12 : decode cX9_firstDraft 12 = .ok (.iload_n 1, 1) := by decide +kernel
theorem dX9_firstDraft_13 : decode cX9_firstDraft 13 = .ok (.iconst 0, 1) := by decide +kernel
theorem dX9_firstDraft_14 : decode cX9_firstDraft 14 = .ok (.iastore, 1) := by decide +kernel
theorem dX9_firstDraft_15 : decode cX9_firstDraft 15 = .ok (.iinc 1 1, 3) := by decide +kernel
theorem dX9_firstDraft_18 : decode cX9_firstDraft 18 = .ok (.goto (-16), 3) := by decide +kernel
theorem dX9_firstDraft_21 : decode cX9_firstDraft 21 = .ok (.iconst 0, 1) := by decide +kernel
theorem dX9_firstDraft_22 : decode cX9_firstDraft 22 = .ok (.istore_n 1, 1) := by decide +kernel
theorem dX9_firstDraft_23 : decode cX9_firstDraft 23 = .ok (.iload_n 1, 1) := by decide +kernel
theorem dX9_firstDraft_24 : decode cX9_firstDraft 24 = .ok (.iconst 4, 1) := by decide +kernel
theorem dX9_firstDraft_25 : decode cX9_firstDraft 25 = .ok (.if_icmp .ge 43, 3) := by decide +kernel
theorem dX9_firstDraft_28 : decode cX9_firstDraft 28 = .ok (.aload_n 0, 1) := by decide +kernel
theorem dX9_firstDraft_29 : decode cX9_firstDraft 29 = .ok (.getfield 20, 3) := by decide +kernel
theorem dX9_firstDraft_32 : decode cX9_firstDraft 32 = .ok (.iconst 3, 1) := by decide +kernel
theorem dX9_firstDraft_33 : decode cX9_firstDraft 33 = .ok (.iload_n 1, 1) := by decide +kernel
theorem dX9_firstDraft_34 : decode cX9_firstDraft 34 = .ok (.imul, 1) := by decide +kernel
theorem dX9_firstDraft_35 : decode cX9_firstDraft 35 = .ok (.iconst 0, 1) := by decide +kernel
theorem dX9_firstDraft_36 : decode cX9_firstDraft 36 = .ok (.iadd, 1) := by decide +kernel
theorem dX9_firstDraft_37 : decode cX9_firstDraft 37 = .ok (.iconst 3, 1) := by decide +kernel
theorem dX9_firstDraft_38 : decode cX9_firstDraft 38 = .ok (.iastore, 1) := by decide +kernel
theorem dX9_firstDraft_39 : decode cX9_firstDraft 39 = .ok (.aload_n 0, 1) := by decide +kernel
theorem dX9_firstDraft_40 : decode cX9_firstDraft 40 = .ok (.getfield 20, 3) := by decide +kernel
theorem dX9_firstDraft_43 : decode cX9_firstDraft 43 = .ok (.iconst 3, 1) := by decide +kernel
theorem dX9_firstDraft_44 : decode cX9_firstDraft 44 = .ok (.iload_n 1, 1) := by decide +kernel
theorem dX9_firstDraft_45 : decode cX9_firstDraft 45 = .ok (.imul, 1) := by decide +kernel
theorem dX9_firstDraft_46 : decode cX9_firstDraft 46 = .ok (.iconst 1, 1) := by decide +kernel
theorem dX9_firstDraft_47 : decode cX9_firstDraft 47 = .ok (.iadd, 1) := by decide +kernel
theorem dX9_firstDraft_48 : decode cX9_firstDraft 48 = .ok (.iconst 1, 1) := by decide +kernel
theorem dX9_firstDraft_49 : decode cX9_firstDraft 49 = .ok (.iastore, 1) := by decide +kernel
theorem dX9_firstDraft_50 : decode cX9_firstDraft 50 = .ok (.aload_n 0, 1) := by decide +kernel
theorem dX9_firstDraft_51 : decode cX9_firstDraft 51 = .ok (.getfield 20, 3) := by decide +kernel
theorem dX9_firstDraft_54 : decode cX9_firstDraft 54 = .ok (.iconst 3, 1) := by decide +kernel
theorem dX9_firstDraft_55 : decode cX9_firstDraft 55 = .ok (.iload_n 1, 1) := by decide +kernel
theorem dX9_firstDraft_56 : decode cX9_firstDraft 56 = .ok (.imul, 1) := by decide +kernel
theorem dX9_firstDraft_57 : decode cX9_firstDraft 57 = .ok (.iconst 2, 1) := by decide +kernel
theorem dX9_firstDraft_58 : decode cX9_firstDraft 58 = .ok (.iadd, 1) := by decide +kernel
theorem dX9_firstDraft_59 : decode cX9_firstDraft 59 = .ok (.bipush 99, 2) := by decide +kernel
theorem dX9_firstDraft_61 : decode cX9_firstDraft 61 = .ok (.iastore, 1) := by decide +kernel
theorem dX9_firstDraft_62 : decode cX9_firstDraft 62 = .ok (.iinc 1 1, 3) := by decide +kernel
theorem dX9_firstDraft_65 : decode cX9_firstDraft 65 = .ok (.goto (-42), 3) := by decide +kernel
theorem dX9_firstDraft_68 : decode cX9_firstDraft 68 = .ok (.aload_n 0, 1) := by decide +kernel
theorem dX9_firstDraft_69 : decode cX9_firstDraft 69 = .ok (.iconst 0, 1) := by decide +kernel
theorem dX9_firstDraft_70 : decode cX9_firstDraft 70 = .ok (.putfield 50, 3) := by decide +kernel
theorem dX9_firstDraft_73 : decode cX9_firstDraft 73 = .ok (.return_, 1) := by decide +kernel
def f_X9_firstDraft_L2 (Λ : List Ly) (p0 : Nat) (k21 : Int32 → Dt → Option Dt) : Nat → Int32 → Dt → Option Dt
  | 0, _, _ => none
  | n + 1, v1, d => if (60 : Int32) ≤ v1 then (k21 v1 d) else (Option.bind (rf Λ p0 9 3) fun q2 => if okA Λ q2 1 v1 = true then (f_X9_firstDraft_L2 Λ p0 k21 n (v1 + (1 : Int32)) (pI d q2 (v1).toNatClampNeg (0 : Int32))) else none)
def f_X9_firstDraft_L23 (Λ : List Ly) (p0 : Nat) : Nat → Int32 → Dt → Option Dt
  | 0, _, _ => none
  | n + 1, v1, d => if (4 : Int32) ≤ v1 then (if clsAt Λ p0 = some 9 then (some (pI d p0 4 (0 : Int32))) else none) else (Option.bind (rf Λ p0 9 3) fun q7 => if okA Λ q7 1 (((3 : Int32) * v1) + (0 : Int32)) = true then (if okA Λ q7 1 (((3 : Int32) * v1) + (1 : Int32)) = true then (if okA Λ q7 1 (((3 : Int32) * v1) + (2 : Int32)) = true then (f_X9_firstDraft_L23 Λ p0 n (v1 + (1 : Int32)) (pI (pI (pI d q7 ((((3 : Int32) * v1) + (0 : Int32))).toNatClampNeg (3 : Int32)) q7 ((((3 : Int32) * v1) + (1 : Int32))).toNatClampNeg (1 : Int32)) q7 ((((3 : Int32) * v1) + (2 : Int32))).toNatClampNeg (99 : Int32))) else none) else none) else none)
def f_X9_firstDraft (Λ : List Ly) (d : Dt) (p0 : Nat) : Option Dt := f_X9_firstDraft_L2 Λ p0 (fun x4_1 d4 => f_X9_firstDraft_L23 Λ p0 FU (0 : Int32) d4) FU (0 : Int32) d
set_option maxHeartbeats 4000000 in
set_option maxRecDepth 100000 in
theorem w_X9_firstDraft_L2 {p : Program} {l : Launch} {e : Env} {s : State} {m : MethodId} {args : Array Value} {below : List Frame} {meth : Method} {c : Code} {Γ : Cx} {Λ : List Ly} {z : Dt} (C0 : Ct Γ p s m args c cX9_firstDraft 2 "SeasonBoundModel") (hr : meth.sig.returnType = none) (hlocks : meth.locks = false) (k21 : Int32 → Dt → Option Dt) (p0 : Nat)
    (hk21 : ∀ (v1 : Int32) (d : Dt), (k21 v1 d = some z) → ∀ (H : Heap) (locs : List Loc) (ls : Array Slot), Hs Γ Λ d s H locs → lv_has ls 2 [(0, .ref (ad Γ.2.2.1 p0)), (1, .int v1)] → W p l e { frames := 0, cells := 0, slots := 0, locals := 0 } s m args below meth c H locs 0 0 (MQ below (QN Γ Λ z none) args s 0 0 (AP Γ)) (F0 m 21 ls [])) :
    ∀ (n : Nat) (v1 : Int32) (d : Dt), f_X9_firstDraft_L2 Λ p0 k21 n v1 d = some z → ∀ (H : Heap) (locs : List Loc) (ls : Array Slot), Hs Γ Λ d s H locs → lv_has ls 2 [(0, .ref (ad Γ.2.2.1 p0)), (1, .int v1)] → W p l e { frames := 0, cells := 0, slots := 0, locals := 0 } s m args below meth c H locs 0 0 (MQ below (QN Γ Λ z none) args s 0 0 (AP Γ)) (F0 m 2 ls []) := by
  obtain ⟨hx, hb, hml, hown, hts, hK⟩ := id C0
  intro n
  induction n with
  | zero =>
    intro v1 d hf
    cases hf
  | succ n ih =>
    intro v1 d hf H locs ls hH hl
    unfold f_X9_firstDraft_L2 at hf
    refine lv_iload_n hx hb dX9_firstDraft_2 rfl (lv_at hl 1 rfl) ?_
    refine lv_bipush (v := (60 : Int32)) hx hb dX9_firstDraft_3 (by decide) ?_
    refine lv_icmp_ge (tgt := 21) hx hb dX9_firstDraft_5 (by decide) (fun c1 => ?_) (fun c1 => ?_)
    · replace hf := it hf c1
      exact hk21 v1 d hf _ _ _ hH (lv_sub hl [0, 1] rfl)
    · replace hf := ie hf c1
      refine lv_aload_n hx hb dX9_firstDraft_8 rfl (lv_at hl 0 rfl) ?_
      obtain ⟨q2, g2, hf⟩ := ob hf
      refine r_getr C0 hH fl_X9_20 g2 dX9_firstDraft_9 ?_
      refine lv_iload_n hx hb dX9_firstDraft_12 rfl (lv_at hl 1 rfl) ?_
      refine lv_iconst (v := (0 : Int32)) hx hb dX9_firstDraft_13 (by decide) ?_
      obtain ⟨g3, hf⟩ := gd hf
      refine r_iast C0 hH g3 dX9_firstDraft_14 (fun H locs hH => ?_)
      refine lv_iinc (v := (v1 + (1 : Int32))) (lv' := [(1, .int (v1 + (1 : Int32))), (0, .ref (ad Γ.2.2.1 p0))]) hx hb dX9_firstDraft_15 hl (k := 1) rfl (congrArg (fun w => v1 + w) (by decide)) (by decide) rfl (fun ls hl => ?_)
      refine lv_goto (tgt := 2) hx hb dX9_firstDraft_18 (by decide) ?_
      exact ih (v1 + (1 : Int32)) (pI d q2 (v1).toNatClampNeg (0 : Int32)) hf _ _ _ hH (lv_sub hl [1, 0] rfl)
set_option maxHeartbeats 4000000 in
set_option maxRecDepth 100000 in
theorem w_X9_firstDraft_L23 {p : Program} {l : Launch} {e : Env} {s : State} {m : MethodId} {args : Array Value} {below : List Frame} {meth : Method} {c : Code} {Γ : Cx} {Λ : List Ly} {z : Dt} (C0 : Ct Γ p s m args c cX9_firstDraft 2 "SeasonBoundModel") (hr : meth.sig.returnType = none) (hlocks : meth.locks = false) (p0 : Nat) :
    ∀ (n : Nat) (v1 : Int32) (d : Dt), f_X9_firstDraft_L23 Λ p0 n v1 d = some z → ∀ (H : Heap) (locs : List Loc) (ls : Array Slot), Hs Γ Λ d s H locs → lv_has ls 2 [(0, .ref (ad Γ.2.2.1 p0)), (1, .int v1)] → W p l e { frames := 0, cells := 0, slots := 0, locals := 0 } s m args below meth c H locs 0 0 (MQ below (QN Γ Λ z none) args s 0 0 (AP Γ)) (F0 m 23 ls []) := by
  obtain ⟨hx, hb, hml, hown, hts, hK⟩ := id C0
  intro n
  induction n with
  | zero =>
    intro v1 d hf
    cases hf
  | succ n ih =>
    intro v1 d hf H locs ls hH hl
    unfold f_X9_firstDraft_L23 at hf
    refine lv_iload_n hx hb dX9_firstDraft_23 rfl (lv_at hl 1 rfl) ?_
    refine lv_iconst (v := (4 : Int32)) hx hb dX9_firstDraft_24 (by decide) ?_
    refine lv_icmp_ge (tgt := 68) hx hb dX9_firstDraft_25 (by decide) (fun c5 => ?_) (fun c5 => ?_)
    · replace hf := it hf c5
      refine lv_aload_n hx hb dX9_firstDraft_68 rfl (lv_at hl 0 rfl) ?_
      refine lv_iconst (v := (0 : Int32)) hx hb dX9_firstDraft_69 (by decide) ?_
      obtain ⟨g6, hf⟩ := gd hf
      refine r_puti C0 hH fw_X9_50 g6 rfl dX9_firstDraft_70 (fun H locs hH => ?_)
      obtain rfl := Option.some.inj hf
      exact r_vret C0 hr hlocks hH dX9_firstDraft_73
    · replace hf := ie hf c5
      refine lv_aload_n hx hb dX9_firstDraft_28 rfl (lv_at hl 0 rfl) ?_
      obtain ⟨q7, g7, hf⟩ := ob hf
      refine r_getr C0 hH fl_X9_20 g7 dX9_firstDraft_29 ?_
      refine lv_iconst (v := (3 : Int32)) hx hb dX9_firstDraft_32 (by decide) ?_
      refine lv_iload_n hx hb dX9_firstDraft_33 rfl (lv_at hl 1 rfl) ?_
      refine lv_imul hx hb dX9_firstDraft_34 ?_
      refine lv_iconst (v := (0 : Int32)) hx hb dX9_firstDraft_35 (by decide) ?_
      refine lv_iadd hx hb dX9_firstDraft_36 ?_
      refine lv_iconst (v := (3 : Int32)) hx hb dX9_firstDraft_37 (by decide) ?_
      obtain ⟨g8, hf⟩ := gd hf
      refine r_iast C0 hH g8 dX9_firstDraft_38 (fun H locs hH => ?_)
      refine lv_aload_n hx hb dX9_firstDraft_39 rfl (lv_at hl 0 rfl) ?_
      refine r_getr C0 hH fl_X9_20 g7 dX9_firstDraft_40 ?_
      refine lv_iconst (v := (3 : Int32)) hx hb dX9_firstDraft_43 (by decide) ?_
      refine lv_iload_n hx hb dX9_firstDraft_44 rfl (lv_at hl 1 rfl) ?_
      refine lv_imul hx hb dX9_firstDraft_45 ?_
      refine lv_iconst (v := (1 : Int32)) hx hb dX9_firstDraft_46 (by decide) ?_
      refine lv_iadd hx hb dX9_firstDraft_47 ?_
      refine lv_iconst (v := (1 : Int32)) hx hb dX9_firstDraft_48 (by decide) ?_
      obtain ⟨g9, hf⟩ := gd hf
      refine r_iast C0 hH g9 dX9_firstDraft_49 (fun H locs hH => ?_)
      refine lv_aload_n hx hb dX9_firstDraft_50 rfl (lv_at hl 0 rfl) ?_
      refine r_getr C0 hH fl_X9_20 g7 dX9_firstDraft_51 ?_
      refine lv_iconst (v := (3 : Int32)) hx hb dX9_firstDraft_54 (by decide) ?_
      refine lv_iload_n hx hb dX9_firstDraft_55 rfl (lv_at hl 1 rfl) ?_
      refine lv_imul hx hb dX9_firstDraft_56 ?_
      refine lv_iconst (v := (2 : Int32)) hx hb dX9_firstDraft_57 (by decide) ?_
      refine lv_iadd hx hb dX9_firstDraft_58 ?_
      refine lv_bipush (v := (99 : Int32)) hx hb dX9_firstDraft_59 (by decide) ?_
      obtain ⟨g10, hf⟩ := gd hf
      refine r_iast C0 hH g10 dX9_firstDraft_61 (fun H locs hH => ?_)
      refine lv_iinc (v := (v1 + (1 : Int32))) (lv' := [(1, .int (v1 + (1 : Int32))), (0, .ref (ad Γ.2.2.1 p0))]) hx hb dX9_firstDraft_62 hl (k := 1) rfl (congrArg (fun w => v1 + w) (by decide)) (by decide) rfl (fun ls hl => ?_)
      refine lv_goto (tgt := 23) hx hb dX9_firstDraft_65 (by decide) ?_
      exact ih (v1 + (1 : Int32)) (pI (pI (pI d q7 ((((3 : Int32) * v1) + (0 : Int32))).toNatClampNeg (3 : Int32)) q7 ((((3 : Int32) * v1) + (1 : Int32))).toNatClampNeg (1 : Int32)) q7 ((((3 : Int32) * v1) + (2 : Int32))).toNatClampNeg (99 : Int32)) hf _ _ _ hH (lv_sub hl [1, 0] rfl)
set_option maxHeartbeats 4000000 in
set_option maxRecDepth 100000 in
theorem c_X9_firstDraft (Γ : Cx) (l : Launch) (Λ : List Ly) (d : Dt) (p0 : Nat) (z : Dt) (hf : f_X9_firstDraft Λ d p0 = some z) : Cn Γ l yX9_firstDraft cX9_firstDraft 2 none 0 0 [.ref (ad Γ.2.2.1 p0)] Λ d none z := by
  refine Cn.of (own := "SeasonBoundModel") (by decide +kernel) rfl (Nat.le_of_ble_eq_true rfl) ?_
  intro p e s m below meth c C0 hr hlocks hH ls hl
  have hl : lv_has ls 2 [(0, .ref (ad Γ.2.2.1 p0))] := hl
  obtain ⟨hx, hb, hml, hown, hts, hK⟩ := id C0
  unfold f_X9_firstDraft at hf
  refine lv_iconst (v := (0 : Int32)) hx hb dX9_firstDraft_0 (by decide) ?_
  refine lv_istore_n (lv' := [(1, .int (0 : Int32)), (0, .ref (ad Γ.2.2.1 p0))]) hx hb dX9_firstDraft_1 rfl hl (by decide) rfl (fun ls hl => ?_)
  refine w_X9_firstDraft_L2 C0 hr hlocks _ p0 ?k21 FU (0 : Int32) d hf _ _ _ hH (lv_sub hl [1, 0] rfl)
  case k21 =>
    intro x4_1 d4 hf H locs ls hH hl
    refine lv_iconst (v := (0 : Int32)) hx hb dX9_firstDraft_21 (by decide) ?_
    refine lv_istore_n (lv' := [(1, .int (0 : Int32)), (0, .ref (ad Γ.2.2.1 p0))]) hx hb dX9_firstDraft_22 rfl hl (by decide) rfl (fun ls hl => ?_)
    refine w_X9_firstDraft_L23 C0 hr hlocks p0 FU (0 : Int32) d4 hf _ _ _ hH (lv_sub hl [1, 0] rfl)
theorem dX9_keepDraft_0 : decode cX9_keepDraft 0 = .ok (.aload_n 0, 1) := by decide +kernel
theorem dX9_keepDraft_1 : decode cX9_keepDraft 1 = .ok (.getfield 20, 3) := by decide +kernel
theorem dX9_keepDraft_4 : decode cX9_keepDraft 4 = .ok (.bipush 39, 2) := by decide +kernel
theorem dX9_keepDraft_6 : decode cX9_keepDraft 6 = .ok (.aload_n 0, 1) := by decide +kernel
theorem dX9_keepDraft_7 : decode cX9_keepDraft 7 = .ok (.getfield 20, 3) := by decide +kernel
theorem dX9_keepDraft_10 : decode cX9_keepDraft 10 = .ok (.iconst 0, 1) := by decide +kernel
theorem dX9_keepDraft_11 : decode cX9_keepDraft 11 = .ok (.iaload, 1) := by decide +kernel
theorem dX9_keepDraft_12 : decode cX9_keepDraft 12 = .ok (.iastore, 1) := by decide +kernel
theorem dX9_keepDraft_13 : decode cX9_keepDraft 13 = .ok (.iconst 0, 1) := by decide +kernel
theorem dX9_keepDraft_14 : decode cX9_keepDraft 14 = .ok (.istore_n 1, 1) := by decide +kernel
theorem dX9_keepDraft_15 : decode cX9_keepDraft 15 = .ok (.iload_n 1, 1) := by decide +kernel
theorem dX9_keepDraft_16 : decode cX9_keepDraft 16 = .ok (.bipush 60, 2) := by decide +kernel
theorem dX9_keepDraft_18 : decode cX9_keepDraft 18 = .ok (.if_icmp .ge 21, 3) := by decide +kernel
theorem dX9_keepDraft_21 : decode cX9_keepDraft 21 = .ok (.aload_n 0, 1) := by decide +kernel
theorem dX9_keepDraft_22 : decode cX9_keepDraft 22 = .ok (.getfield 7, 3) := by decide +kernel
theorem dX9_keepDraft_25 : decode cX9_keepDraft 25 = .ok (.iload_n 1, 1) := by decide +kernel
theorem dX9_keepDraft_26 : decode cX9_keepDraft 26 = .ok (.aload_n 0, 1) := by decide +kernel
theorem dX9_keepDraft_27 : decode cX9_keepDraft 27 = .ok (.getfield 20, 3) := by decide +kernel
theorem dX9_keepDraft_30 : decode cX9_keepDraft 30 = .ok (.iload_n 1, 1) := by decide +kernel
theorem dX9_keepDraft_31 : decode cX9_keepDraft 31 = .ok (.iaload, 1) := by decide +kernel
theorem dX9_keepDraft_32 : decode cX9_keepDraft 32 = .ok (.iastore, 1) := by decide +kernel
theorem dX9_keepDraft_33 : decode cX9_keepDraft 33 = .ok (.iinc 1 1, 3) := by decide +kernel
theorem dX9_keepDraft_36 : decode cX9_keepDraft 36 = .ok (.goto (-21), 3) := by decide +kernel
theorem dX9_keepDraft_39 : decode cX9_keepDraft 39 = .ok (.aload_n 0, 1) := by decide +kernel
theorem dX9_keepDraft_40 : decode cX9_keepDraft 40 = .ok (.getfield 16, 3) := by decide +kernel
theorem dX9_keepDraft_43 : decode cX9_keepDraft 43 = .ok (.iconst 0, 1) := by decide +kernel
theorem dX9_keepDraft_44 : decode cX9_keepDraft 44 = .ok (.iconst 0, 1) := by decide +kernel
theorem dX9_keepDraft_45 : decode cX9_keepDraft 45 = .ok (.bastore, 1) := by decide +kernel
theorem dX9_keepDraft_46 : decode cX9_keepDraft 46 = .ok (.aload_n 0, 1) := by decide +kernel
theorem dX9_keepDraft_47 : decode cX9_keepDraft 47 = .ok (.getfield 16, 3) := by decide +kernel
theorem dX9_keepDraft_50 : decode cX9_keepDraft 50 = .ok (.iconst 1, 1) := by decide +kernel
theorem dX9_keepDraft_51 : decode cX9_keepDraft 51 = .ok (.iconst 0, 1) := by decide +kernel
theorem dX9_keepDraft_52 : decode cX9_keepDraft 52 = .ok (.bastore, 1) := by decide +kernel
theorem dX9_keepDraft_53 : decode cX9_keepDraft 53 = .ok (.return_, 1) := by decide +kernel
def f_X9_keepDraft_L15 (Λ : List Ly) (p0 : Nat) : Nat → Int32 → Dt → Option Dt
  | 0, _, _ => none
  | n + 1, v1, d => if (60 : Int32) ≤ v1 then (Option.bind (rf Λ p0 9 2) fun q5 => if okA Λ q5 3 (0 : Int32) = true then (if okA Λ q5 3 (1 : Int32) = true then (some (pI (pI d q5 ((0 : Int32)).toNatClampNeg (vp_nar .boolean (0 : Int32))) q5 ((1 : Int32)).toNatClampNeg (vp_nar .boolean (0 : Int32)))) else none) else none) else (Option.bind (rf Λ p0 9 0) fun q8 => Option.bind (rf Λ p0 9 3) fun q9 => if okA Λ q9 1 v1 = true then (if okA Λ q8 1 v1 = true then (f_X9_keepDraft_L15 Λ p0 n (v1 + (1 : Int32)) (pI d q8 (v1).toNatClampNeg (d.1 q9 (v1).toNatClampNeg))) else none) else none)
def f_X9_keepDraft (Λ : List Ly) (d : Dt) (p0 : Nat) : Option Dt := Option.bind (rf Λ p0 9 3) fun q1 => if okA Λ q1 1 (0 : Int32) = true then (if okA Λ q1 1 (39 : Int32) = true then (f_X9_keepDraft_L15 Λ p0 FU (0 : Int32) (pI d q1 ((39 : Int32)).toNatClampNeg (d.1 q1 ((0 : Int32)).toNatClampNeg))) else none) else none
set_option maxHeartbeats 4000000 in
set_option maxRecDepth 100000 in
theorem w_X9_keepDraft_L15 {p : Program} {l : Launch} {e : Env} {s : State} {m : MethodId} {args : Array Value} {below : List Frame} {meth : Method} {c : Code} {Γ : Cx} {Λ : List Ly} {z : Dt} (C0 : Ct Γ p s m args c cX9_keepDraft 2 "SeasonBoundModel") (hr : meth.sig.returnType = none) (hlocks : meth.locks = false) (p0 : Nat) :
    ∀ (n : Nat) (v1 : Int32) (d : Dt), f_X9_keepDraft_L15 Λ p0 n v1 d = some z → ∀ (H : Heap) (locs : List Loc) (ls : Array Slot), Hs Γ Λ d s H locs → lv_has ls 2 [(0, .ref (ad Γ.2.2.1 p0)), (1, .int v1)] → W p l e { frames := 0, cells := 0, slots := 0, locals := 0 } s m args below meth c H locs 0 0 (MQ below (QN Γ Λ z none) args s 0 0 (AP Γ)) (F0 m 15 ls []) := by
  obtain ⟨hx, hb, hml, hown, hts, hK⟩ := id C0
  intro n
  induction n with
  | zero =>
    intro v1 d hf
    cases hf
  | succ n ih =>
    intro v1 d hf H locs ls hH hl
    unfold f_X9_keepDraft_L15 at hf
    refine lv_iload_n hx hb dX9_keepDraft_15 rfl (lv_at hl 1 rfl) ?_
    refine lv_bipush (v := (60 : Int32)) hx hb dX9_keepDraft_16 (by decide) ?_
    refine lv_icmp_ge (tgt := 39) hx hb dX9_keepDraft_18 (by decide) (fun c4 => ?_) (fun c4 => ?_)
    · replace hf := it hf c4
      refine lv_aload_n hx hb dX9_keepDraft_39 rfl (lv_at hl 0 rfl) ?_
      obtain ⟨q5, g5, hf⟩ := ob hf
      refine r_getr C0 hH fl_X9_16 g5 dX9_keepDraft_40 ?_
      refine lv_iconst (v := (0 : Int32)) hx hb dX9_keepDraft_43 (by decide) ?_
      refine lv_iconst (v := (0 : Int32)) hx hb dX9_keepDraft_44 (by decide) ?_
      obtain ⟨g6, hf⟩ := gd hf
      refine r_zast C0 hH g6 dX9_keepDraft_45 (fun H locs hH => ?_)
      refine lv_aload_n hx hb dX9_keepDraft_46 rfl (lv_at hl 0 rfl) ?_
      refine r_getr C0 hH fl_X9_16 g5 dX9_keepDraft_47 ?_
      refine lv_iconst (v := (1 : Int32)) hx hb dX9_keepDraft_50 (by decide) ?_
      refine lv_iconst (v := (0 : Int32)) hx hb dX9_keepDraft_51 (by decide) ?_
      obtain ⟨g7, hf⟩ := gd hf
      refine r_zast C0 hH g7 dX9_keepDraft_52 (fun H locs hH => ?_)
      obtain rfl := Option.some.inj hf
      exact r_vret C0 hr hlocks hH dX9_keepDraft_53
    · replace hf := ie hf c4
      refine lv_aload_n hx hb dX9_keepDraft_21 rfl (lv_at hl 0 rfl) ?_
      obtain ⟨q8, g8, hf⟩ := ob hf
      refine r_getr C0 hH fl_X9_7 g8 dX9_keepDraft_22 ?_
      refine lv_iload_n hx hb dX9_keepDraft_25 rfl (lv_at hl 1 rfl) ?_
      refine lv_aload_n hx hb dX9_keepDraft_26 rfl (lv_at hl 0 rfl) ?_
      obtain ⟨q9, g9, hf⟩ := ob hf
      refine r_getr C0 hH fl_X9_20 g9 dX9_keepDraft_27 ?_
      refine lv_iload_n hx hb dX9_keepDraft_30 rfl (lv_at hl 1 rfl) ?_
      obtain ⟨g10, hf⟩ := gd hf
      refine r_iald C0 hH g10 dX9_keepDraft_31 ?_
      obtain ⟨g11, hf⟩ := gd hf
      refine r_iast C0 hH g11 dX9_keepDraft_32 (fun H locs hH => ?_)
      refine lv_iinc (v := (v1 + (1 : Int32))) (lv' := [(1, .int (v1 + (1 : Int32))), (0, .ref (ad Γ.2.2.1 p0))]) hx hb dX9_keepDraft_33 hl (k := 1) rfl (congrArg (fun w => v1 + w) (by decide)) (by decide) rfl (fun ls hl => ?_)
      refine lv_goto (tgt := 15) hx hb dX9_keepDraft_36 (by decide) ?_
      exact ih (v1 + (1 : Int32)) (pI d q8 (v1).toNatClampNeg (d.1 q9 (v1).toNatClampNeg)) hf _ _ _ hH (lv_sub hl [1, 0] rfl)
set_option maxHeartbeats 4000000 in
set_option maxRecDepth 100000 in
theorem c_X9_keepDraft (Γ : Cx) (l : Launch) (Λ : List Ly) (d : Dt) (p0 : Nat) (z : Dt) (hf : f_X9_keepDraft Λ d p0 = some z) : Cn Γ l yX9_keepDraft cX9_keepDraft 2 none 0 0 [.ref (ad Γ.2.2.1 p0)] Λ d none z := by
  refine Cn.of (own := "SeasonBoundModel") (by decide +kernel) rfl (Nat.le_of_ble_eq_true rfl) ?_
  intro p e s m below meth c C0 hr hlocks hH ls hl
  have hl : lv_has ls 2 [(0, .ref (ad Γ.2.2.1 p0))] := hl
  obtain ⟨hx, hb, hml, hown, hts, hK⟩ := id C0
  unfold f_X9_keepDraft at hf
  refine lv_aload_n hx hb dX9_keepDraft_0 rfl (lv_at hl 0 rfl) ?_
  obtain ⟨q1, g1, hf⟩ := ob hf
  refine r_getr C0 hH fl_X9_20 g1 dX9_keepDraft_1 ?_
  refine lv_bipush (v := (39 : Int32)) hx hb dX9_keepDraft_4 (by decide) ?_
  refine lv_aload_n hx hb dX9_keepDraft_6 rfl (lv_at hl 0 rfl) ?_
  refine r_getr C0 hH fl_X9_20 g1 dX9_keepDraft_7 ?_
  refine lv_iconst (v := (0 : Int32)) hx hb dX9_keepDraft_10 (by decide) ?_
  obtain ⟨g2, hf⟩ := gd hf
  refine r_iald C0 hH g2 dX9_keepDraft_11 ?_
  obtain ⟨g3, hf⟩ := gd hf
  refine r_iast C0 hH g3 dX9_keepDraft_12 (fun H locs hH => ?_)
  refine lv_iconst (v := (0 : Int32)) hx hb dX9_keepDraft_13 (by decide) ?_
  refine lv_istore_n (lv' := [(1, .int (0 : Int32)), (0, .ref (ad Γ.2.2.1 p0))]) hx hb dX9_keepDraft_14 rfl hl (by decide) rfl (fun ls hl => ?_)
  refine w_X9_keepDraft_L15 C0 hr hlocks p0 FU (0 : Int32) (pI d q1 ((39 : Int32)).toNatClampNeg (d.1 q1 ((0 : Int32)).toNatClampNeg)) hf _ _ _ hH (lv_sub hl [1, 0] rfl)
theorem dX9_feed_0 : decode cX9_feed 0 = .ok (.iload_n 1, 1) := by decide +kernel
theorem dX9_feed_1 : decode cX9_feed 1 = .ok (.i2l, 1) := by decide +kernel
theorem dX9_feed_2 : decode cX9_feed 2 = .ok (.lconst 0, 1) := by decide +kernel
theorem dX9_feed_3 : decode cX9_feed 3 = .ok (.ldc2_w 54, 3) := by decide +kernel
theorem dX9_feed_6 : decode cX9_feed 6 = .ok (.invokestatic 56, 3) := by decide +kernel
theorem dX9_feed_9 : decode cX9_feed 9 = .ok (.ifCond .ne 5, 3) := by decide +kernel
theorem dX9_feed_12 : decode cX9_feed 12 = .ok (.iconst (-1), 1) := by decide +kernel
theorem dX9_feed_13 : decode cX9_feed 13 = .ok (.ireturn, 1) := by decide +kernel
theorem dX9_feed_14 : decode cX9_feed 14 = .ok (.aload_n 0, 1) := by decide +kernel
theorem dX9_feed_15 : decode cX9_feed 15 = .ok (.getfield 60, 3) := by decide +kernel
theorem dX9_feed_18 : decode cX9_feed 18 = .ok (.sipush 160, 3) := by decide +kernel
theorem dX9_feed_21 : decode cX9_feed 21 = .ok (.if_icmp .ne 6, 3) := by decide +kernel
theorem dX9_feed_24 : decode cX9_feed 24 = .ok (.bipush (-3), 2) := by decide +kernel
theorem dX9_feed_26 : decode cX9_feed 26 = .ok (.ireturn, 1) := by decide +kernel
theorem dX9_feed_27 : decode cX9_feed 27 = .ok (.aload_n 0, 1) := by decide +kernel
theorem dX9_feed_28 : decode cX9_feed 28 = .ok (.getfield 23, 3) := by decide +kernel
theorem dX9_feed_31 : decode cX9_feed 31 = .ok (.aload_n 0, 1) := by decide +kernel
theorem dX9_feed_32 : decode cX9_feed 32 = .ok (.getfield 60, 3) := by decide +kernel
theorem dX9_feed_35 : decode cX9_feed 35 = .ok (.iload_n 1, 1) := by decide +kernel
theorem dX9_feed_36 : decode cX9_feed 36 = .ok (.iastore, 1) := by decide +kernel
theorem dX9_feed_37 : decode cX9_feed 37 = .ok (.aload_n 0, 1) := by decide +kernel
theorem dX9_feed_38 : decode cX9_feed 38 = .ok (.dup, 1) := by decide +kernel
theorem dX9_feed_39 : decode cX9_feed 39 = .ok (.getfield 60, 3) := by decide +kernel
theorem dX9_feed_42 : decode cX9_feed 42 = .ok (.iconst 1, 1) := by decide +kernel
theorem dX9_feed_43 : decode cX9_feed 43 = .ok (.iadd, 1) := by decide +kernel
theorem dX9_feed_44 : decode cX9_feed 44 = .ok (.putfield 60, 3) := by decide +kernel
theorem dX9_feed_47 : decode cX9_feed 47 = .ok (.aload_n 0, 1) := by decide +kernel
theorem dX9_feed_48 : decode cX9_feed 48 = .ok (.getfield 60, 3) := by decide +kernel
theorem dX9_feed_51 : decode cX9_feed 51 = .ok (.ireturn, 1) := by decide +kernel
def f_X9_feed (Λ : List Ly) (d : Dt) (p0 : Nat) (v1 : Int32) : Option (Int32 × Dt) := if (f_X9_in (v1).toInt64 (0 : Int64) (127 : Int64)) = 0 then (some ((-1 : Int32), d)) else (if clsAt Λ p0 = some 9 then (if (d.1 p0 6) = (160 : Int32) then (some ((-3 : Int32), d)) else (Option.bind (rf Λ p0 9 5) fun q4 => if okA Λ q4 1 (d.1 p0 6) = true then (some (((pI (pI d q4 ((d.1 p0 6)).toNatClampNeg v1) p0 6 (((pI d q4 ((d.1 p0 6)).toNatClampNeg v1).1 p0 6) + (1 : Int32))).1 p0 6), (pI (pI d q4 ((d.1 p0 6)).toNatClampNeg v1) p0 6 (((pI d q4 ((d.1 p0 6)).toNatClampNeg v1).1 p0 6) + (1 : Int32))))) else none)) else none)
set_option maxHeartbeats 4000000 in
set_option maxRecDepth 100000 in
theorem c_X9_feed (Γ : Cx) (l : Launch) (Λ : List Ly) (d : Dt) (p0 : Nat) (v1 : Int32) (z : Int32 × Dt) (hf : f_X9_feed Λ d p0 v1 = some z) : Cn Γ l yX9_feed cX9_feed 2 (some FieldType.int) 1 25 [.ref (ad Γ.2.2.1 p0), .int v1] Λ d (some (.int z.1)) z.2 := by
  refine Cn.of (own := "SeasonBoundModel") (by decide +kernel) rfl (Nat.le_of_ble_eq_true rfl) ?_
  intro p e s m below meth c C0 hr hlocks hH ls hl
  have hl : lv_has ls 2 [(0, .ref (ad Γ.2.2.1 p0)), (1, .int v1)] := hl
  obtain ⟨hx, hb, hml, hown, hts, hK⟩ := id C0
  unfold f_X9_feed at hf
  refine lv_iload_n hx hb dX9_feed_0 rfl (lv_at hl 1 rfl) ?_
  refine lv_i2l (v := (v1).toInt64) hx hb dX9_feed_1 rfl ?_
  refine lv_lconst (v := (0 : Int64)) hx hb dX9_feed_2 (by decide) ?_
  refine lv_ldc2 hx hb hown (hts _ kl_X9_54) dX9_feed_3 ?_
  refine r_callSi (rest := []) C0 hH (c_X9_in Γ l Λ d (v1).toInt64 (0 : Int64) (127 : Int64)) cs_X9_56 (by decide) rfl hl.1 rfl (Nat.le_of_ble_eq_true rfl) dX9_feed_6 (by decide) (fun H locs hH => ?_)
  refine lv_if_ne (tgt := 14) hx hb dX9_feed_9 (by decide) (fun c1 => ?_) (fun c1 => ?_)
  · replace hf := ie hf c1
    refine lv_aload_n hx hb dX9_feed_14 rfl (lv_at hl 0 rfl) ?_
    obtain ⟨g2, hf⟩ := gd hf
    refine r_geti C0 hH fl_X9_60 g2 rfl dX9_feed_15 ?_
    refine lv_sipush (v := (160 : Int32)) hx hb dX9_feed_18 (by decide) ?_
    refine lv_icmp_ne (tgt := 27) hx hb dX9_feed_21 (by decide) (fun c3 => ?_) (fun c3 => ?_)
    · replace hf := ie hf c3
      refine lv_aload_n hx hb dX9_feed_27 rfl (lv_at hl 0 rfl) ?_
      obtain ⟨q4, g4, hf⟩ := ob hf
      refine r_getr C0 hH fl_X9_23 g4 dX9_feed_28 ?_
      refine lv_aload_n hx hb dX9_feed_31 rfl (lv_at hl 0 rfl) ?_
      refine r_geti C0 hH fl_X9_60 g2 rfl dX9_feed_32 ?_
      refine lv_iload_n hx hb dX9_feed_35 rfl (lv_at hl 1 rfl) ?_
      obtain ⟨g5, hf⟩ := gd hf
      refine r_iast C0 hH g5 dX9_feed_36 (fun H locs hH => ?_)
      refine lv_aload_n hx hb dX9_feed_37 rfl (lv_at hl 0 rfl) ?_
      refine lv_dup hx hb dX9_feed_38 rfl ?_
      refine r_geti C0 hH fl_X9_60 g2 rfl dX9_feed_39 ?_
      refine lv_iconst (v := (1 : Int32)) hx hb dX9_feed_42 (by decide) ?_
      refine lv_iadd hx hb dX9_feed_43 ?_
      refine r_puti C0 hH fw_X9_60 g2 rfl dX9_feed_44 (fun H locs hH => ?_)
      refine lv_aload_n hx hb dX9_feed_47 rfl (lv_at hl 0 rfl) ?_
      refine r_geti C0 hH fl_X9_60 g2 rfl dX9_feed_48 ?_
      obtain rfl := Option.some.inj hf
      exact r_iret (d' := d) C0 hr hlocks hH rfl dX9_feed_51
    · replace hf := it hf c3
      refine lv_bipush (v := (-3 : Int32)) hx hb dX9_feed_24 (by decide) ?_
      obtain rfl := Option.some.inj hf
      exact r_iret (d' := d) C0 hr hlocks hH rfl dX9_feed_26
  · replace hf := it hf c1
    refine lv_iconst (v := (-1 : Int32)) hx hb dX9_feed_12 (by decide) ?_
    obtain rfl := Option.some.inj hf
    exact r_iret (d' := d) C0 hr hlocks hH rfl dX9_feed_13
theorem dX9_end_0 : decode cX9_end 0 = .ok (.iload_n 1, 1) := by decide +kernel
theorem dX9_end_1 : decode cX9_end 1 = .ok (.i2l, 1) := by decide +kernel
theorem dX9_end_2 : decode cX9_end 2 = .ok (.lconst 0, 1) := by decide +kernel
theorem dX9_end_3 : decode cX9_end 3 = .ok (.aload_n 0, 1) := by decide +kernel
theorem dX9_end_4 : decode cX9_end 4 = .ok (.getfield 60, 3) := by decide +kernel
theorem dX9_end_7 : decode cX9_end 7 = .ok (.i2l, 1) := by decide +kernel
theorem dX9_end_8 : decode cX9_end 8 = .ok (.invokestatic 56, 3) := by decide +kernel
theorem dX9_end_11 : decode cX9_end 11 = .ok (.ifCond .ne 5, 3) := by decide +kernel
theorem dX9_end_14 : decode cX9_end 14 = .ok (.iconst (-1), 1) := by decide +kernel
theorem dX9_end_15 : decode cX9_end 15 = .ok (.ireturn, 1) := by decide +kernel
theorem dX9_end_16 : decode cX9_end 16 = .ok (.aload_n 0, 1) := by decide +kernel
theorem dX9_end_17 : decode cX9_end 17 = .ok (.getfield 60, 3) := by decide +kernel
theorem dX9_end_20 : decode cX9_end 20 = .ok (.istore_n 2, 1) := by decide +kernel
theorem dX9_end_21 : decode cX9_end 21 = .ok (.aload_n 0, 1) := by decide +kernel
theorem dX9_end_22 : decode cX9_end 22 = .ok (.iload_n 1, 1) := by decide +kernel
theorem dX9_end_23 : decode cX9_end 23 = .ok (.putfield 60, 3) := by decide +kernel
theorem dX9_end_26 : decode cX9_end 26 = .ok (.iload_n 2, 1) := by decide +kernel
theorem dX9_end_27 : decode cX9_end 27 = .ok (.ireturn, 1) := by decide +kernel
def f_X9_end (Λ : List Ly) (d : Dt) (p0 : Nat) (v1 : Int32) : Option (Int32 × Dt) := if clsAt Λ p0 = some 9 then (if (f_X9_in (v1).toInt64 (0 : Int64) ((d.1 p0 6)).toInt64) = 0 then (some ((-1 : Int32), d)) else (some ((d.1 p0 6), (pI d p0 6 v1)))) else none
set_option maxHeartbeats 4000000 in
set_option maxRecDepth 100000 in
theorem c_X9_end (Γ : Cx) (l : Launch) (Λ : List Ly) (d : Dt) (p0 : Nat) (v1 : Int32) (z : Int32 × Dt) (hf : f_X9_end Λ d p0 v1 = some z) : Cn Γ l yX9_end cX9_end 3 (some FieldType.int) 1 25 [.ref (ad Γ.2.2.1 p0), .int v1] Λ d (some (.int z.1)) z.2 := by
  refine Cn.of (own := "SeasonBoundModel") (by decide +kernel) rfl (Nat.le_of_ble_eq_true rfl) ?_
  intro p e s m below meth c C0 hr hlocks hH ls hl
  have hl : lv_has ls 3 [(0, .ref (ad Γ.2.2.1 p0)), (1, .int v1)] := hl
  obtain ⟨hx, hb, hml, hown, hts, hK⟩ := id C0
  unfold f_X9_end at hf
  refine lv_iload_n hx hb dX9_end_0 rfl (lv_at hl 1 rfl) ?_
  refine lv_i2l (v := (v1).toInt64) hx hb dX9_end_1 rfl ?_
  refine lv_lconst (v := (0 : Int64)) hx hb dX9_end_2 (by decide) ?_
  refine lv_aload_n hx hb dX9_end_3 rfl (lv_at hl 0 rfl) ?_
  obtain ⟨g1, hf⟩ := gd hf
  refine r_geti C0 hH fl_X9_60 g1 rfl dX9_end_4 ?_
  refine lv_i2l (v := ((d.1 p0 6)).toInt64) hx hb dX9_end_7 rfl ?_
  refine r_callSi (rest := []) C0 hH (c_X9_in Γ l Λ d (v1).toInt64 (0 : Int64) ((d.1 p0 6)).toInt64) cs_X9_56 (by decide) rfl hl.1 rfl (Nat.le_of_ble_eq_true rfl) dX9_end_8 (by decide) (fun H locs hH => ?_)
  refine lv_if_ne (tgt := 16) hx hb dX9_end_11 (by decide) (fun c2 => ?_) (fun c2 => ?_)
  · replace hf := ie hf c2
    refine lv_aload_n hx hb dX9_end_16 rfl (lv_at hl 0 rfl) ?_
    refine r_geti C0 hH fl_X9_60 g1 rfl dX9_end_17 ?_
    refine lv_istore_n (lv' := [(2, .int (d.1 p0 6)), (0, .ref (ad Γ.2.2.1 p0)), (1, .int v1)]) hx hb dX9_end_20 rfl hl (by decide) rfl (fun ls hl => ?_)
    refine lv_aload_n hx hb dX9_end_21 rfl (lv_at hl 1 rfl) ?_
    refine lv_iload_n hx hb dX9_end_22 rfl (lv_at hl 2 rfl) ?_
    refine r_puti C0 hH fw_X9_60 g1 rfl dX9_end_23 (fun H locs hH => ?_)
    refine lv_iload_n hx hb dX9_end_26 rfl (lv_at hl 0 rfl) ?_
    obtain rfl := Option.some.inj hf
    exact r_iret (d' := d) C0 hr hlocks hH rfl dX9_end_27
  · replace hf := it hf c2
    refine lv_iconst (v := (-1 : Int32)) hx hb dX9_end_14 (by decide) ?_
    obtain rfl := Option.some.inj hf
    exact r_iret (d' := d) C0 hr hlocks hH rfl dX9_end_15
theorem dX9_needs_0 : decode cX9_needs 0 = .ok (.iload_n 1, 1) := by decide +kernel
theorem dX9_needs_1 : decode cX9_needs 1 = .ok (.ifCond .ne 23, 3) := by decide +kernel
theorem dX9_needs_4 : decode cX9_needs 4 = .ok (.aload_n 0, 1) := by decide +kernel
theorem dX9_needs_5 : decode cX9_needs 5 = .ok (.getfield 63, 3) := by decide +kernel
theorem dX9_needs_8 : decode cX9_needs 8 = .ok (.ifCond .ne 16, 3) := by decide +kernel
theorem dX9_needs_11 : decode cX9_needs 11 = .ok (.aload_n 0, 1) := by decide +kernel
theorem dX9_needs_12 : decode cX9_needs 12 = .ok (.iload_n 2, 1) := by decide +kernel
theorem dX9_needs_13 : decode cX9_needs 13 = .ok (.putfield 63, 3) := by decide +kernel
theorem dX9_needs_16 : decode cX9_needs 16 = .ok (.aload_n 0, 1) := by decide +kernel
theorem dX9_needs_17 : decode cX9_needs 17 = .ok (.aload_n 0, 1) := by decide +kernel
theorem dX9_needs_18 : decode cX9_needs 18 = .ok (.getfield 66, 3) := by decide +kernel
theorem dX9_needs_21 : decode cX9_needs 21 = .ok (.putfield 69, 3) := by decide +kernel
theorem dX9_needs_24 : decode cX9_needs 24 = .ok (.return_, 1) := by decide +kernel
def f_X9_needs (Λ : List Ly) (d : Dt) (p0 : Nat) (v1 : Int32) (v2 : Int32) : Option Dt := if v1 = 0 then (if clsAt Λ p0 = some 9 then (if (d.1 p0 11) = 0 then (some (pI (pI d p0 11 v2) p0 12 ((pI d p0 11 v2).1 p0 8))) else (some d)) else none) else (some d)
set_option maxHeartbeats 4000000 in
set_option maxRecDepth 100000 in
theorem c_X9_needs (Γ : Cx) (l : Launch) (Λ : List Ly) (d : Dt) (p0 : Nat) (v1 : Int32) (v2 : Int32) (z : Dt) (hf : f_X9_needs Λ d p0 v1 v2 = some z) : Cn Γ l yX9_needs cX9_needs 3 none 0 0 [.ref (ad Γ.2.2.1 p0), .int v1, .int v2] Λ d none z := by
  refine Cn.of (own := "SeasonBoundModel") (by decide +kernel) rfl (Nat.le_of_ble_eq_true rfl) ?_
  intro p e s m below meth c C0 hr hlocks hH ls hl
  have hl : lv_has ls 3 [(0, .ref (ad Γ.2.2.1 p0)), (1, .int v1), (2, .int v2)] := hl
  obtain ⟨hx, hb, hml, hown, hts, hK⟩ := id C0
  unfold f_X9_needs at hf
  refine lv_iload_n hx hb dX9_needs_0 rfl (lv_at hl 1 rfl) ?_
  refine lv_if_ne (tgt := 24) hx hb dX9_needs_1 (by decide) (fun c1 => ?_) (fun c1 => ?_)
  · replace hf := ie hf c1
    obtain rfl := Option.some.inj hf
    exact r_vret C0 hr hlocks hH dX9_needs_24
  · replace hf := it hf c1
    refine lv_aload_n hx hb dX9_needs_4 rfl (lv_at hl 0 rfl) ?_
    obtain ⟨g2, hf⟩ := gd hf
    refine r_geti C0 hH fl_X9_63 g2 rfl dX9_needs_5 ?_
    refine lv_if_ne (tgt := 24) hx hb dX9_needs_8 (by decide) (fun c3 => ?_) (fun c3 => ?_)
    · replace hf := ie hf c3
      obtain rfl := Option.some.inj hf
      exact r_vret C0 hr hlocks hH dX9_needs_24
    · replace hf := it hf c3
      refine lv_aload_n hx hb dX9_needs_11 rfl (lv_at hl 0 rfl) ?_
      refine lv_iload_n hx hb dX9_needs_12 rfl (lv_at hl 2 rfl) ?_
      refine r_puti C0 hH fw_X9_63 g2 rfl dX9_needs_13 (fun H locs hH => ?_)
      refine lv_aload_n hx hb dX9_needs_16 rfl (lv_at hl 0 rfl) ?_
      refine lv_aload_n hx hb dX9_needs_17 rfl (lv_at hl 0 rfl) ?_
      refine r_geti C0 hH fl_X9_66 g2 rfl dX9_needs_18 ?_
      refine r_puti C0 hH fw_X9_69 g2 rfl dX9_needs_21 (fun H locs hH => ?_)
      obtain rfl := Option.some.inj hf
      exact r_vret C0 hr hlocks hH dX9_needs_24
theorem dX9_byteAt_0 : decode cX9_byteAt 0 = .ok (.iload_n 1, 1) := by decide +kernel
theorem dX9_byteAt_1 : decode cX9_byteAt 1 = .ok (.aload_n 0, 1) := by decide +kernel
theorem dX9_byteAt_2 : decode cX9_byteAt 2 = .ok (.getfield 60, 3) := by decide +kernel
theorem dX9_byteAt_5 : decode cX9_byteAt 5 = .ok (.if_icmp .ge 12, 3) := by decide +kernel
theorem dX9_byteAt_8 : decode cX9_byteAt 8 = .ok (.aload_n 0, 1) := by decide +kernel
theorem dX9_byteAt_9 : decode cX9_byteAt 9 = .ok (.getfield 23, 3) := by decide +kernel
theorem dX9_byteAt_12 : decode cX9_byteAt 12 = .ok (.iload_n 1, 1) := by decide +kernel
theorem dX9_byteAt_13 : decode cX9_byteAt 13 = .ok (.iaload, 1) := by decide +kernel
theorem dX9_byteAt_14 : decode cX9_byteAt 14 = .ok (.goto 4, 3) := by decide +kernel
theorem dX9_byteAt_17 : decode cX9_byteAt 17 = .ok (.iconst (-1), 1) := by decide +kernel
theorem dX9_byteAt_18 : decode cX9_byteAt 18 = .ok (.ireturn, 1) := by decide +kernel
def f_X9_byteAt (Λ : List Ly) (d : Dt) (p0 : Nat) (v1 : Int32) : Option Int32 := if clsAt Λ p0 = some 9 then (if (d.1 p0 6) ≤ v1 then (some (-1 : Int32)) else (Option.bind (rf Λ p0 9 5) fun q3 => if okA Λ q3 1 v1 = true then (some (d.1 q3 (v1).toNatClampNeg)) else none)) else none
set_option maxHeartbeats 4000000 in
set_option maxRecDepth 100000 in
theorem c_X9_byteAt (Γ : Cx) (l : Launch) (Λ : List Ly) (d : Dt) (p0 : Nat) (v1 : Int32) (z : Int32) (hf : f_X9_byteAt Λ d p0 v1 = some z) : Cn Γ l yX9_byteAt cX9_byteAt 2 (some FieldType.int) 0 0 [.ref (ad Γ.2.2.1 p0), .int v1] Λ d (some (.int z)) d := by
  refine Cn.of (own := "SeasonBoundModel") (by decide +kernel) rfl (Nat.le_of_ble_eq_true rfl) ?_
  intro p e s m below meth c C0 hr hlocks hH ls hl
  have hl : lv_has ls 2 [(0, .ref (ad Γ.2.2.1 p0)), (1, .int v1)] := hl
  obtain ⟨hx, hb, hml, hown, hts, hK⟩ := id C0
  unfold f_X9_byteAt at hf
  refine lv_iload_n hx hb dX9_byteAt_0 rfl (lv_at hl 1 rfl) ?_
  refine lv_aload_n hx hb dX9_byteAt_1 rfl (lv_at hl 0 rfl) ?_
  obtain ⟨g1, hf⟩ := gd hf
  refine r_geti C0 hH fl_X9_60 g1 rfl dX9_byteAt_2 ?_
  refine lv_icmp_ge (tgt := 17) hx hb dX9_byteAt_5 (by decide) (fun c2 => ?_) (fun c2 => ?_)
  · replace hf := it hf c2
    refine lv_iconst (v := (-1 : Int32)) hx hb dX9_byteAt_17 (by decide) ?_
    obtain rfl := Option.some.inj hf
    exact r_iret (d' := d) C0 hr hlocks hH rfl dX9_byteAt_18
  · replace hf := ie hf c2
    refine lv_aload_n hx hb dX9_byteAt_8 rfl (lv_at hl 0 rfl) ?_
    obtain ⟨q3, g3, hf⟩ := ob hf
    refine r_getr C0 hH fl_X9_23 g3 dX9_byteAt_9 ?_
    refine lv_iload_n hx hb dX9_byteAt_12 rfl (lv_at hl 1 rfl) ?_
    obtain ⟨g4, hf⟩ := gd hf
    refine r_iald C0 hH g4 dX9_byteAt_13 ?_
    refine lv_goto (tgt := 18) hx hb dX9_byteAt_14 (by decide) ?_
    obtain rfl := Option.some.inj hf
    exact r_iret (d' := d) C0 hr hlocks hH rfl dX9_byteAt_18
theorem dX9_is_0 : decode cX9_is 0 = .ok (.aload_n 0, 1) := by decide +kernel
theorem dX9_is_1 : decode cX9_is 1 = .ok (.getfield 72, 3) := by decide +kernel
theorem dX9_is_4 : decode cX9_is 4 = .ok (.aload_n 0, 1) := by decide +kernel
theorem dX9_is_5 : decode cX9_is 5 = .ok (.getfield 66, 3) := by decide +kernel
theorem dX9_is_8 : decode cX9_is 8 = .ok (.isub, 1) := by decide +kernel
theorem dX9_is_9 : decode cX9_is 9 = .ok (.iload_n 1, 1) := by decide +kernel
theorem dX9_is_10 : decode cX9_is 10 = .ok (.if_icmp .ne 63, 3) := by decide +kernel
theorem dX9_is_13 : decode cX9_is 13 = .ok (.aload_n 0, 1) := by decide +kernel
theorem dX9_is_14 : decode cX9_is 14 = .ok (.aload_n 0, 1) := by decide +kernel
theorem dX9_is_15 : decode cX9_is 15 = .ok (.getfield 66, 3) := by decide +kernel
theorem dX9_is_18 : decode cX9_is 18 = .ok (.invokevirtual 75, 3) := by decide +kernel
theorem dX9_is_21 : decode cX9_is 21 = .ok (.iload_n 2, 1) := by decide +kernel
theorem dX9_is_22 : decode cX9_is 22 = .ok (.if_icmp .ne 51, 3) := by decide +kernel
theorem dX9_is_25 : decode cX9_is 25 = .ok (.aload_n 0, 1) := by decide +kernel
theorem dX9_is_26 : decode cX9_is 26 = .ok (.aload_n 0, 1) := by decide +kernel
theorem dX9_is_27 : decode cX9_is 27 = .ok (.getfield 66, 3) := by decide +kernel
theorem dX9_is_30 : decode cX9_is 30 = .ok (.iconst 1, 1) := by decide +kernel
theorem dX9_is_31 : decode cX9_is 31 = .ok (.iadd, 1) := by decide +kernel
theorem dX9_is_32 : decode cX9_is 32 = .ok (.invokevirtual 75, 3) := by decide +kernel
theorem dX9_is_35 : decode cX9_is 35 = .ok (.iload_n 3, 1) := by decide +kernel
theorem dX9_is_36 : decode cX9_is 36 = .ok (.if_icmp .ne 37, 3) := by decide +kernel
theorem dX9_is_39 : decode cX9_is 39 = .ok (.aload_n 0, 1) := by decide +kernel
theorem dX9_is_40 : decode cX9_is 40 = .ok (.aload_n 0, 1) := by decide +kernel
theorem dX9_is_41 : decode cX9_is 41 = .ok (.getfield 66, 3) := by decide +kernel
theorem dX9_is_44 : decode cX9_is 44 = .ok (.iconst 2, 1) := by decide +kernel
theorem dX9_is_45 : decode cX9_is 45 = .ok (.iadd, 1) := by decide +kernel
theorem dX9_is_46 : decode cX9_is 46 = .ok (.invokevirtual 75, 3) := by decide +kernel
theorem dX9_is_49 : decode cX9_is 49 = .ok (.iload 4, 2) := by decide +kernel
theorem dX9_is_51 : decode cX9_is 51 = .ok (.if_icmp .ne 22, 3) := by decide +kernel
theorem dX9_is_54 : decode cX9_is 54 = .ok (.aload_n 0, 1) := by decide +kernel
theorem dX9_is_55 : decode cX9_is 55 = .ok (.aload_n 0, 1) := by decide +kernel
theorem dX9_is_56 : decode cX9_is 56 = .ok (.getfield 66, 3) := by decide +kernel
theorem dX9_is_59 : decode cX9_is 59 = .ok (.iconst 3, 1) := by decide +kernel
theorem dX9_is_60 : decode cX9_is 60 = .ok (.iadd, 1) := by decide +kernel
theorem dX9_is_61 : decode cX9_is 61 = .ok (.invokevirtual 75, 3) := by decide +kernel
theorem dX9_is_64 : decode cX9_is 64 = .ok (.iload 5, 2) := by decide +kernel
theorem dX9_is_66 : decode cX9_is 66 = .ok (.if_icmp .ne 7, 3) := by decide +kernel
theorem dX9_is_69 : decode cX9_is 69 = .ok (.iconst 1, 1) := by decide +kernel
theorem dX9_is_70 : decode cX9_is 70 = .ok (.goto 4, 3) := by decide +kernel
theorem dX9_is_73 : decode cX9_is 73 = .ok (.iconst 0, 1) := by decide +kernel
theorem dX9_is_74 : decode cX9_is 74 = .ok (.ireturn, 1) := by decide +kernel
def f_X9_is (Λ : List Ly) (d : Dt) (p0 : Nat) (v1 : Int32) (v2 : Int32) (v3 : Int32) (v4 : Int32) (v5 : Int32) : Option Int32 := if clsAt Λ p0 = some 9 then (if ((d.1 p0 7) - (d.1 p0 8)) = v1 then (Option.bind (f_X9_byteAt Λ d p0 (d.1 p0 8)) fun z3 => if z3 = v2 then (Option.bind (f_X9_byteAt Λ d p0 ((d.1 p0 8) + (1 : Int32))) fun z5 => if z5 = v3 then (Option.bind (f_X9_byteAt Λ d p0 ((d.1 p0 8) + (2 : Int32))) fun z7 => if z7 = v4 then (Option.bind (f_X9_byteAt Λ d p0 ((d.1 p0 8) + (3 : Int32))) fun z9 => if z9 = v5 then (some (1 : Int32)) else (some (0 : Int32))) else (some (0 : Int32))) else (some (0 : Int32))) else (some (0 : Int32))) else (some (0 : Int32))) else none
set_option maxHeartbeats 4000000 in
set_option maxRecDepth 100000 in
theorem c_X9_is (Γ : Cx) (l : Launch) (Λ : List Ly) (d : Dt) (p0 : Nat) (v1 : Int32) (v2 : Int32) (v3 : Int32) (v4 : Int32) (v5 : Int32) (z : Int32) (hf : f_X9_is Λ d p0 v1 v2 v3 v4 v5 = some z) : Cn Γ l yX9_is cX9_is 6 (some FieldType.boolean) 1 21 [.ref (ad Γ.2.2.1 p0), .int v1, .int v2, .int v3, .int v4, .int v5] Λ d (some (.int z)) d := by
  refine Cn.of (own := "SeasonBoundModel") (by decide +kernel) rfl (Nat.le_of_ble_eq_true rfl) ?_
  intro p e s m below meth c C0 hr hlocks hH ls hl
  have hl : lv_has ls 6 [(0, .ref (ad Γ.2.2.1 p0)), (1, .int v1), (2, .int v2), (3, .int v3), (4, .int v4), (5, .int v5)] := hl
  obtain ⟨hx, hb, hml, hown, hts, hK⟩ := id C0
  unfold f_X9_is at hf
  refine lv_aload_n hx hb dX9_is_0 rfl (lv_at hl 0 rfl) ?_
  obtain ⟨g1, hf⟩ := gd hf
  refine r_geti C0 hH fl_X9_72 g1 rfl dX9_is_1 ?_
  refine lv_aload_n hx hb dX9_is_4 rfl (lv_at hl 0 rfl) ?_
  refine r_geti C0 hH fl_X9_66 g1 rfl dX9_is_5 ?_
  refine lv_isub hx hb dX9_is_8 ?_
  refine lv_iload_n hx hb dX9_is_9 rfl (lv_at hl 1 rfl) ?_
  refine lv_icmp_ne (tgt := 73) hx hb dX9_is_10 (by decide) (fun c2 => ?_) (fun c2 => ?_)
  · replace hf := ie hf c2
    refine lv_iconst (v := (0 : Int32)) hx hb dX9_is_73 (by decide) ?_
    obtain rfl := Option.some.inj hf
    exact r_iret (d' := d) C0 hr hlocks hH (nz (Or.inl rfl)) dX9_is_74
  · replace hf := it hf c2
    refine lv_aload_n hx hb dX9_is_13 rfl (lv_at hl 0 rfl) ?_
    refine lv_aload_n hx hb dX9_is_14 rfl (lv_at hl 0 rfl) ?_
    refine r_geti C0 hH fl_X9_66 g1 rfl dX9_is_15 ?_
    obtain ⟨z3, h3, hf⟩ := ob hf
    refine r_callVi (rest := []) C0 hH (c_X9_byteAt Γ l Λ d p0 (d.1 p0 8) z3 h3) cv_X9_75 g1 (by decide) rfl hl.1 rfl (Nat.le_of_ble_eq_true rfl) dX9_is_18 (by decide) (fun H locs hH => ?_)
    refine lv_iload_n hx hb dX9_is_21 rfl (lv_at hl 2 rfl) ?_
    refine lv_icmp_ne (tgt := 73) hx hb dX9_is_22 (by decide) (fun c4 => ?_) (fun c4 => ?_)
    · replace hf := ie hf c4
      refine lv_iconst (v := (0 : Int32)) hx hb dX9_is_73 (by decide) ?_
      obtain rfl := Option.some.inj hf
      exact r_iret (d' := d) C0 hr hlocks hH (nz (Or.inl rfl)) dX9_is_74
    · replace hf := it hf c4
      refine lv_aload_n hx hb dX9_is_25 rfl (lv_at hl 0 rfl) ?_
      refine lv_aload_n hx hb dX9_is_26 rfl (lv_at hl 0 rfl) ?_
      refine r_geti C0 hH fl_X9_66 g1 rfl dX9_is_27 ?_
      refine lv_iconst (v := (1 : Int32)) hx hb dX9_is_30 (by decide) ?_
      refine lv_iadd hx hb dX9_is_31 ?_
      obtain ⟨z5, h5, hf⟩ := ob hf
      refine r_callVi (rest := []) C0 hH (c_X9_byteAt Γ l Λ d p0 ((d.1 p0 8) + (1 : Int32)) z5 h5) cv_X9_75 g1 (by decide) rfl hl.1 rfl (Nat.le_of_ble_eq_true rfl) dX9_is_32 (by decide) (fun H locs hH => ?_)
      refine lv_iload_n hx hb dX9_is_35 rfl (lv_at hl 3 rfl) ?_
      refine lv_icmp_ne (tgt := 73) hx hb dX9_is_36 (by decide) (fun c6 => ?_) (fun c6 => ?_)
      · replace hf := ie hf c6
        refine lv_iconst (v := (0 : Int32)) hx hb dX9_is_73 (by decide) ?_
        obtain rfl := Option.some.inj hf
        exact r_iret (d' := d) C0 hr hlocks hH (nz (Or.inl rfl)) dX9_is_74
      · replace hf := it hf c6
        refine lv_aload_n hx hb dX9_is_39 rfl (lv_at hl 0 rfl) ?_
        refine lv_aload_n hx hb dX9_is_40 rfl (lv_at hl 0 rfl) ?_
        refine r_geti C0 hH fl_X9_66 g1 rfl dX9_is_41 ?_
        refine lv_iconst (v := (2 : Int32)) hx hb dX9_is_44 (by decide) ?_
        refine lv_iadd hx hb dX9_is_45 ?_
        obtain ⟨z7, h7, hf⟩ := ob hf
        refine r_callVi (rest := []) C0 hH (c_X9_byteAt Γ l Λ d p0 ((d.1 p0 8) + (2 : Int32)) z7 h7) cv_X9_75 g1 (by decide) rfl hl.1 rfl (Nat.le_of_ble_eq_true rfl) dX9_is_46 (by decide) (fun H locs hH => ?_)
        refine lv_iload hx hb dX9_is_49 (lv_at hl 4 rfl) ?_
        refine lv_icmp_ne (tgt := 73) hx hb dX9_is_51 (by decide) (fun c8 => ?_) (fun c8 => ?_)
        · replace hf := ie hf c8
          refine lv_iconst (v := (0 : Int32)) hx hb dX9_is_73 (by decide) ?_
          obtain rfl := Option.some.inj hf
          exact r_iret (d' := d) C0 hr hlocks hH (nz (Or.inl rfl)) dX9_is_74
        · replace hf := it hf c8
          refine lv_aload_n hx hb dX9_is_54 rfl (lv_at hl 0 rfl) ?_
          refine lv_aload_n hx hb dX9_is_55 rfl (lv_at hl 0 rfl) ?_
          refine r_geti C0 hH fl_X9_66 g1 rfl dX9_is_56 ?_
          refine lv_iconst (v := (3 : Int32)) hx hb dX9_is_59 (by decide) ?_
          refine lv_iadd hx hb dX9_is_60 ?_
          obtain ⟨z9, h9, hf⟩ := ob hf
          refine r_callVi (rest := []) C0 hH (c_X9_byteAt Γ l Λ d p0 ((d.1 p0 8) + (3 : Int32)) z9 h9) cv_X9_75 g1 (by decide) rfl hl.1 rfl (Nat.le_of_ble_eq_true rfl) dX9_is_61 (by decide) (fun H locs hH => ?_)
          refine lv_iload hx hb dX9_is_64 (lv_at hl 5 rfl) ?_
          refine lv_icmp_ne (tgt := 73) hx hb dX9_is_66 (by decide) (fun c10 => ?_) (fun c10 => ?_)
          · replace hf := ie hf c10
            refine lv_iconst (v := (0 : Int32)) hx hb dX9_is_73 (by decide) ?_
            obtain rfl := Option.some.inj hf
            exact r_iret (d' := d) C0 hr hlocks hH (nz (Or.inl rfl)) dX9_is_74
          · replace hf := it hf c10
            refine lv_iconst (v := (1 : Int32)) hx hb dX9_is_69 (by decide) ?_
            refine lv_goto (tgt := 74) hx hb dX9_is_70 (by decide) ?_
            obtain rfl := Option.some.inj hf
            exact r_iret (d' := d) C0 hr hlocks hH (nz (Or.inr rfl)) dX9_is_74
theorem dX9_ends_0 : decode cX9_ends 0 = .ok (.aload_n 0, 1) := by decide +kernel
theorem dX9_ends_1 : decode cX9_ends 1 = .ok (.aload_n 0, 1) := by decide +kernel
theorem dX9_ends_2 : decode cX9_ends 2 = .ok (.getfield 66, 3) := by decide +kernel
theorem dX9_ends_5 : decode cX9_ends 5 = .ok (.iconst 4, 1) := by decide +kernel
theorem dX9_ends_6 : decode cX9_ends 6 = .ok (.iadd, 1) := by decide +kernel
theorem dX9_ends_7 : decode cX9_ends 7 = .ok (.invokevirtual 75, 3) := by decide +kernel
theorem dX9_ends_10 : decode cX9_ends 10 = .ok (.iload_n 1, 1) := by decide +kernel
theorem dX9_ends_11 : decode cX9_ends 11 = .ok (.if_icmp .ne 25, 3) := by decide +kernel
theorem dX9_ends_14 : decode cX9_ends 14 = .ok (.iload_n 2, 1) := by decide +kernel
theorem dX9_ends_15 : decode cX9_ends 15 = .ok (.ifCond .eq 17, 3) := by decide +kernel
theorem dX9_ends_18 : decode cX9_ends 18 = .ok (.aload_n 0, 1) := by decide +kernel
theorem dX9_ends_19 : decode cX9_ends 19 = .ok (.aload_n 0, 1) := by decide +kernel
theorem dX9_ends_20 : decode cX9_ends 20 = .ok (.getfield 66, 3) := by decide +kernel
theorem dX9_ends_23 : decode cX9_ends 23 = .ok (.iconst 5, 1) := by decide +kernel
theorem dX9_ends_24 : decode cX9_ends 24 = .ok (.iadd, 1) := by decide +kernel
theorem dX9_ends_25 : decode cX9_ends 25 = .ok (.invokevirtual 75, 3) := by decide +kernel
theorem dX9_ends_28 : decode cX9_ends 28 = .ok (.iload_n 2, 1) := by decide +kernel
theorem dX9_ends_29 : decode cX9_ends 29 = .ok (.if_icmp .ne 7, 3) := by decide +kernel
theorem dX9_ends_32 : decode cX9_ends 32 = .ok (.iconst 1, 1) := by decide +kernel
theorem dX9_ends_33 : decode cX9_ends 33 = .ok (.goto 4, 3) := by decide +kernel
theorem dX9_ends_36 : decode cX9_ends 36 = .ok (.iconst 0, 1) := by decide +kernel
theorem dX9_ends_37 : decode cX9_ends 37 = .ok (.ireturn, 1) := by decide +kernel
def f_X9_ends (Λ : List Ly) (d : Dt) (p0 : Nat) (v1 : Int32) (v2 : Int32) : Option Int32 := if clsAt Λ p0 = some 9 then (Option.bind (f_X9_byteAt Λ d p0 ((d.1 p0 8) + (4 : Int32))) fun z2 => if z2 = v1 then (if v2 = 0 then (some (1 : Int32)) else (Option.bind (f_X9_byteAt Λ d p0 ((d.1 p0 8) + (5 : Int32))) fun z5 => if z5 = v2 then (some (1 : Int32)) else (some (0 : Int32)))) else (some (0 : Int32))) else none
set_option maxHeartbeats 4000000 in
set_option maxRecDepth 100000 in
theorem c_X9_ends (Γ : Cx) (l : Launch) (Λ : List Ly) (d : Dt) (p0 : Nat) (v1 : Int32) (v2 : Int32) (z : Int32) (hf : f_X9_ends Λ d p0 v1 v2 = some z) : Cn Γ l yX9_ends cX9_ends 3 (some FieldType.boolean) 1 21 [.ref (ad Γ.2.2.1 p0), .int v1, .int v2] Λ d (some (.int z)) d := by
  refine Cn.of (own := "SeasonBoundModel") (by decide +kernel) rfl (Nat.le_of_ble_eq_true rfl) ?_
  intro p e s m below meth c C0 hr hlocks hH ls hl
  have hl : lv_has ls 3 [(0, .ref (ad Γ.2.2.1 p0)), (1, .int v1), (2, .int v2)] := hl
  obtain ⟨hx, hb, hml, hown, hts, hK⟩ := id C0
  unfold f_X9_ends at hf
  refine lv_aload_n hx hb dX9_ends_0 rfl (lv_at hl 0 rfl) ?_
  refine lv_aload_n hx hb dX9_ends_1 rfl (lv_at hl 0 rfl) ?_
  obtain ⟨g1, hf⟩ := gd hf
  refine r_geti C0 hH fl_X9_66 g1 rfl dX9_ends_2 ?_
  refine lv_iconst (v := (4 : Int32)) hx hb dX9_ends_5 (by decide) ?_
  refine lv_iadd hx hb dX9_ends_6 ?_
  obtain ⟨z2, h2, hf⟩ := ob hf
  refine r_callVi (rest := []) C0 hH (c_X9_byteAt Γ l Λ d p0 ((d.1 p0 8) + (4 : Int32)) z2 h2) cv_X9_75 g1 (by decide) rfl hl.1 rfl (Nat.le_of_ble_eq_true rfl) dX9_ends_7 (by decide) (fun H locs hH => ?_)
  refine lv_iload_n hx hb dX9_ends_10 rfl (lv_at hl 1 rfl) ?_
  refine lv_icmp_ne (tgt := 36) hx hb dX9_ends_11 (by decide) (fun c3 => ?_) (fun c3 => ?_)
  · replace hf := ie hf c3
    refine lv_iconst (v := (0 : Int32)) hx hb dX9_ends_36 (by decide) ?_
    obtain rfl := Option.some.inj hf
    exact r_iret (d' := d) C0 hr hlocks hH (nz (Or.inl rfl)) dX9_ends_37
  · replace hf := it hf c3
    refine lv_iload_n hx hb dX9_ends_14 rfl (lv_at hl 2 rfl) ?_
    refine lv_if_eq (tgt := 32) hx hb dX9_ends_15 (by decide) (fun c4 => ?_) (fun c4 => ?_)
    · replace hf := it hf c4
      refine lv_iconst (v := (1 : Int32)) hx hb dX9_ends_32 (by decide) ?_
      refine lv_goto (tgt := 37) hx hb dX9_ends_33 (by decide) ?_
      obtain rfl := Option.some.inj hf
      exact r_iret (d' := d) C0 hr hlocks hH (nz (Or.inr rfl)) dX9_ends_37
    · replace hf := ie hf c4
      refine lv_aload_n hx hb dX9_ends_18 rfl (lv_at hl 0 rfl) ?_
      refine lv_aload_n hx hb dX9_ends_19 rfl (lv_at hl 0 rfl) ?_
      refine r_geti C0 hH fl_X9_66 g1 rfl dX9_ends_20 ?_
      refine lv_iconst (v := (5 : Int32)) hx hb dX9_ends_23 (by decide) ?_
      refine lv_iadd hx hb dX9_ends_24 ?_
      obtain ⟨z5, h5, hf⟩ := ob hf
      refine r_callVi (rest := []) C0 hH (c_X9_byteAt Γ l Λ d p0 ((d.1 p0 8) + (5 : Int32)) z5 h5) cv_X9_75 g1 (by decide) rfl hl.1 rfl (Nat.le_of_ble_eq_true rfl) dX9_ends_25 (by decide) (fun H locs hH => ?_)
      refine lv_iload_n hx hb dX9_ends_28 rfl (lv_at hl 2 rfl) ?_
      refine lv_icmp_ne (tgt := 36) hx hb dX9_ends_29 (by decide) (fun c6 => ?_) (fun c6 => ?_)
      · replace hf := ie hf c6
        refine lv_iconst (v := (0 : Int32)) hx hb dX9_ends_36 (by decide) ?_
        obtain rfl := Option.some.inj hf
        exact r_iret (d' := d) C0 hr hlocks hH (nz (Or.inl rfl)) dX9_ends_37
      · replace hf := it hf c6
        refine lv_iconst (v := (1 : Int32)) hx hb dX9_ends_32 (by decide) ?_
        refine lv_goto (tgt := 37) hx hb dX9_ends_33 (by decide) ?_
        obtain rfl := Option.some.inj hf
        exact r_iret (d' := d) C0 hr hlocks hH (nz (Or.inr rfl)) dX9_ends_37
theorem dX9_seasonNow_0 : decode cX9_seasonNow 0 = .ok (.aload_n 0, 1) := by decide +kernel
theorem dX9_seasonNow_1 : decode cX9_seasonNow 1 = .ok (.bipush 6, 2) := by decide +kernel
theorem dX9_seasonNow_3 : decode cX9_seasonNow 3 = .ok (.bipush 115, 2) := by decide +kernel
theorem dX9_seasonNow_5 : decode cX9_seasonNow 5 = .ok (.bipush 112, 2) := by decide +kernel
theorem dX9_seasonNow_7 : decode cX9_seasonNow 7 = .ok (.bipush 114, 2) := by decide +kernel
theorem dX9_seasonNow_9 : decode cX9_seasonNow 9 = .ok (.bipush 105, 2) := by decide +kernel
theorem dX9_seasonNow_11 : decode cX9_seasonNow 11 = .ok (.invokevirtual 79, 3) := by decide +kernel
theorem dX9_seasonNow_14 : decode cX9_seasonNow 14 = .ok (.ifCond .eq 16, 3) := by decide +kernel
theorem dX9_seasonNow_17 : decode cX9_seasonNow 17 = .ok (.aload_n 0, 1) := by decide +kernel
theorem dX9_seasonNow_18 : decode cX9_seasonNow 18 = .ok (.bipush 110, 2) := by decide +kernel
theorem dX9_seasonNow_20 : decode cX9_seasonNow 20 = .ok (.bipush 103, 2) := by decide +kernel
theorem dX9_seasonNow_22 : decode cX9_seasonNow 22 = .ok (.invokevirtual 83, 3) := by decide +kernel
theorem dX9_seasonNow_25 : decode cX9_seasonNow 25 = .ok (.ifCond .eq 5, 3) := by decide +kernel
theorem dX9_seasonNow_28 : decode cX9_seasonNow 28 = .ok (.iconst 4, 1) := by decide +kernel
theorem dX9_seasonNow_29 : decode cX9_seasonNow 29 = .ok (.ireturn, 1) := by decide +kernel
theorem dX9_seasonNow_30 : decode cX9_seasonNow 30 = .ok (.aload_n 0, 1) := by decide +kernel
theorem dX9_seasonNow_31 : decode cX9_seasonNow 31 = .ok (.bipush 6, 2) := by decide +kernel
theorem dX9_seasonNow_33 : decode cX9_seasonNow 33 = .ok (.bipush 115, 2) := by decide +kernel
theorem dX9_seasonNow_35 : decode cX9_seasonNow 35 = .ok (.bipush 117, 2) := by decide +kernel
theorem dX9_seasonNow_37 : decode cX9_seasonNow 37 = .ok (.bipush 109, 2) := by decide +kernel
theorem dX9_seasonNow_39 : decode cX9_seasonNow 39 = .ok (.bipush 109, 2) := by decide +kernel
theorem dX9_seasonNow_41 : decode cX9_seasonNow 41 = .ok (.invokevirtual 79, 3) := by decide +kernel
theorem dX9_seasonNow_44 : decode cX9_seasonNow 44 = .ok (.ifCond .eq 16, 3) := by decide +kernel
theorem dX9_seasonNow_47 : decode cX9_seasonNow 47 = .ok (.aload_n 0, 1) := by decide +kernel
theorem dX9_seasonNow_48 : decode cX9_seasonNow 48 = .ok (.bipush 101, 2) := by decide +kernel
theorem dX9_seasonNow_50 : decode cX9_seasonNow 50 = .ok (.bipush 114, 2) := by decide +kernel
theorem dX9_seasonNow_52 : decode cX9_seasonNow 52 = .ok (.invokevirtual 83, 3) := by decide +kernel
theorem dX9_seasonNow_55 : decode cX9_seasonNow 55 = .ok (.ifCond .eq 5, 3) := by decide +kernel
theorem dX9_seasonNow_58 : decode cX9_seasonNow 58 = .ok (.iconst 5, 1) := by decide +kernel
theorem dX9_seasonNow_59 : decode cX9_seasonNow 59 = .ok (.ireturn, 1) := by decide +kernel
theorem dX9_seasonNow_60 : decode cX9_seasonNow 60 = .ok (.aload_n 0, 1) := by decide +kernel
theorem dX9_seasonNow_61 : decode cX9_seasonNow 61 = .ok (.bipush 6, 2) := by decide +kernel
theorem dX9_seasonNow_63 : decode cX9_seasonNow 63 = .ok (.bipush 97, 2) := by decide +kernel
theorem dX9_seasonNow_65 : decode cX9_seasonNow 65 = .ok (.bipush 117, 2) := by decide +kernel
theorem dX9_seasonNow_67 : decode cX9_seasonNow 67 = .ok (.bipush 116, 2) := by decide +kernel
theorem dX9_seasonNow_69 : decode cX9_seasonNow 69 = .ok (.bipush 117, 2) := by decide +kernel
theorem dX9_seasonNow_71 : decode cX9_seasonNow 71 = .ok (.invokevirtual 79, 3) := by decide +kernel
theorem dX9_seasonNow_74 : decode cX9_seasonNow 74 = .ok (.ifCond .eq 17, 3) := by decide +kernel
theorem dX9_seasonNow_77 : decode cX9_seasonNow 77 = .ok (.aload_n 0, 1) := by decide +kernel
theorem dX9_seasonNow_78 : decode cX9_seasonNow 78 = .ok (.bipush 109, 2) := by decide +kernel
theorem dX9_seasonNow_80 : decode cX9_seasonNow 80 = .ok (.bipush 110, 2) := by decide +kernel
theorem dX9_seasonNow_82 : decode cX9_seasonNow 82 = .ok (.invokevirtual 83, 3) := by decide +kernel
theorem dX9_seasonNow_85 : decode cX9_seasonNow 85 = .ok (.ifCond .eq 6, 3) := by decide +kernel
theorem dX9_seasonNow_88 : decode cX9_seasonNow 88 = .ok (.bipush 6, 2) := by decide +kernel
theorem dX9_seasonNow_90 : decode cX9_seasonNow 90 = .ok (.ireturn, 1) := by decide +kernel
theorem dX9_seasonNow_91 : decode cX9_seasonNow 91 = .ok (.aload_n 0, 1) := by decide +kernel
theorem dX9_seasonNow_92 : decode cX9_seasonNow 92 = .ok (.bipush 6, 2) := by decide +kernel
theorem dX9_seasonNow_94 : decode cX9_seasonNow 94 = .ok (.bipush 119, 2) := by decide +kernel
theorem dX9_seasonNow_96 : decode cX9_seasonNow 96 = .ok (.bipush 105, 2) := by decide +kernel
theorem dX9_seasonNow_98 : decode cX9_seasonNow 98 = .ok (.bipush 110, 2) := by decide +kernel
theorem dX9_seasonNow_100 : decode cX9_seasonNow 100 = .ok (.bipush 116, 2) := by decide +kernel
theorem dX9_seasonNow_102 : decode cX9_seasonNow 102 = .ok (.invokevirtual 79, 3) := by decide +kernel
theorem dX9_seasonNow_105 : decode cX9_seasonNow 105 = .ok (.ifCond .eq 19, 3) := by decide +kernel
theorem dX9_seasonNow_108 : decode cX9_seasonNow 108 = .ok (.aload_n 0, 1) := by decide +kernel
theorem dX9_seasonNow_109 : decode cX9_seasonNow 109 = .ok (.bipush 101, 2) := by decide +kernel
theorem dX9_seasonNow_111 : decode cX9_seasonNow 111 = .ok (.bipush 114, 2) := by decide +kernel
theorem dX9_seasonNow_113 : decode cX9_seasonNow 113 = .ok (.invokevirtual 83, 3) := by decide +kernel
theorem dX9_seasonNow_116 : decode cX9_seasonNow 116 = .ok (.ifCond .eq 8, 3) := by decide +kernel
theorem dX9_seasonNow_119 : decode cX9_seasonNow 119 = .ok (.bipush 7, 2) := by decide +kernel
theorem dX9_seasonNow_121 : decode cX9_seasonNow 121 = .ok (.goto 5, 3) := by decide +kernel
theorem dX9_seasonNow_124 : decode cX9_seasonNow 124 = .ok (.bipush (-4), 2) := by decide +kernel
theorem dX9_seasonNow_126 : decode cX9_seasonNow 126 = .ok (.ireturn, 1) := by decide +kernel
def f_X9_seasonNow_J91 (Λ : List Ly) (d : Dt) (p0 : Nat) : Option Int32 := if clsAt Λ p0 = some 9 then (Option.bind (f_X9_is Λ d p0 (6 : Int32) (119 : Int32) (105 : Int32) (110 : Int32) (116 : Int32)) fun z11 => if z11 = 0 then (some (-4 : Int32)) else (Option.bind (f_X9_ends Λ d p0 (101 : Int32) (114 : Int32)) fun z13 => if z13 = 0 then (some (-4 : Int32)) else (some (7 : Int32)))) else none
def f_X9_seasonNow_J60 (Λ : List Ly) (d : Dt) (p0 : Nat) : Option Int32 := if clsAt Λ p0 = some 9 then (Option.bind (f_X9_is Λ d p0 (6 : Int32) (97 : Int32) (117 : Int32) (116 : Int32) (117 : Int32)) fun z8 => if z8 = 0 then (f_X9_seasonNow_J91 Λ d p0) else (Option.bind (f_X9_ends Λ d p0 (109 : Int32) (110 : Int32)) fun z15 => if z15 = 0 then (f_X9_seasonNow_J91 Λ d p0) else (some (6 : Int32)))) else none
def f_X9_seasonNow_J30 (Λ : List Ly) (d : Dt) (p0 : Nat) : Option Int32 := if clsAt Λ p0 = some 9 then (Option.bind (f_X9_is Λ d p0 (6 : Int32) (115 : Int32) (117 : Int32) (109 : Int32) (109 : Int32)) fun z5 => if z5 = 0 then (f_X9_seasonNow_J60 Λ d p0) else (Option.bind (f_X9_ends Λ d p0 (101 : Int32) (114 : Int32)) fun z17 => if z17 = 0 then (f_X9_seasonNow_J60 Λ d p0) else (some (5 : Int32)))) else none
def f_X9_seasonNow (Λ : List Ly) (d : Dt) (p0 : Nat) : Option Int32 := if clsAt Λ p0 = some 9 then (Option.bind (f_X9_is Λ d p0 (6 : Int32) (115 : Int32) (112 : Int32) (114 : Int32) (105 : Int32)) fun z2 => if z2 = 0 then (f_X9_seasonNow_J30 Λ d p0) else (Option.bind (f_X9_ends Λ d p0 (110 : Int32) (103 : Int32)) fun z19 => if z19 = 0 then (f_X9_seasonNow_J30 Λ d p0) else (some (4 : Int32)))) else none
set_option maxHeartbeats 4000000 in
set_option maxRecDepth 100000 in
theorem w_X9_seasonNow_J91 {p : Program} {l : Launch} {e : Env} {s : State} {m : MethodId} {args : Array Value} {below : List Frame} {meth : Method} {c : Code} {Γ : Cx} {Λ : List Ly} {z : Int32} {d : Dt} (C0 : Ct Γ p s m args c cX9_seasonNow 1 "SeasonBoundModel") (hr : meth.sig.returnType = (some FieldType.int)) (hlocks : meth.locks = false) (p0 : Nat)
    (hf : f_X9_seasonNow_J91 Λ d p0 = some z) (H : Heap) (locs : List Loc) (ls : Array Slot) (hH : Hs Γ Λ d s H locs) (hl : lv_has ls 1 [(0, .ref (ad Γ.2.2.1 p0))]) : W p l e { frames := 2, cells := 0, slots := 0, locals := 46 } s m args below meth c H locs 0 0 (MQ below (QN Γ Λ d (some (.int z))) args s 0 0 (AP Γ)) (F0 m 91 ls []) := by
  obtain ⟨hx, hb, hml, hown, hts, hK⟩ := id C0
  unfold f_X9_seasonNow_J91 at hf
  refine lv_aload_n hx hb dX9_seasonNow_91 rfl (lv_at hl 0 rfl) ?_
  refine lv_bipush (v := (6 : Int32)) hx hb dX9_seasonNow_92 (by decide) ?_
  refine lv_bipush (v := (119 : Int32)) hx hb dX9_seasonNow_94 (by decide) ?_
  refine lv_bipush (v := (105 : Int32)) hx hb dX9_seasonNow_96 (by decide) ?_
  refine lv_bipush (v := (110 : Int32)) hx hb dX9_seasonNow_98 (by decide) ?_
  refine lv_bipush (v := (116 : Int32)) hx hb dX9_seasonNow_100 (by decide) ?_
  obtain ⟨g10, hf⟩ := gd hf
  obtain ⟨z11, h11, hf⟩ := ob hf
  refine r_callVi (rest := []) C0 hH (c_X9_is Γ l Λ d p0 (6 : Int32) (119 : Int32) (105 : Int32) (110 : Int32) (116 : Int32) z11 h11) cv_X9_79 g10 (by decide) rfl hl.1 rfl (Nat.le_of_ble_eq_true rfl) dX9_seasonNow_102 (by decide) (fun H locs hH => ?_)
  refine lv_if_eq (tgt := 124) hx hb dX9_seasonNow_105 (by decide) (fun c12 => ?_) (fun c12 => ?_)
  · replace hf := it hf c12
    refine lv_bipush (v := (-4 : Int32)) hx hb dX9_seasonNow_124 (by decide) ?_
    obtain rfl := Option.some.inj hf
    exact r_iret (d' := d) C0 hr hlocks hH rfl dX9_seasonNow_126
  · replace hf := ie hf c12
    refine lv_aload_n hx hb dX9_seasonNow_108 rfl (lv_at hl 0 rfl) ?_
    refine lv_bipush (v := (101 : Int32)) hx hb dX9_seasonNow_109 (by decide) ?_
    refine lv_bipush (v := (114 : Int32)) hx hb dX9_seasonNow_111 (by decide) ?_
    obtain ⟨z13, h13, hf⟩ := ob hf
    refine r_callVi (rest := []) C0 hH (c_X9_ends Γ l Λ d p0 (101 : Int32) (114 : Int32) z13 h13) cv_X9_83 g10 (by decide) rfl hl.1 rfl (Nat.le_of_ble_eq_true rfl) dX9_seasonNow_113 (by decide) (fun H locs hH => ?_)
    refine lv_if_eq (tgt := 124) hx hb dX9_seasonNow_116 (by decide) (fun c14 => ?_) (fun c14 => ?_)
    · replace hf := it hf c14
      refine lv_bipush (v := (-4 : Int32)) hx hb dX9_seasonNow_124 (by decide) ?_
      obtain rfl := Option.some.inj hf
      exact r_iret (d' := d) C0 hr hlocks hH rfl dX9_seasonNow_126
    · replace hf := ie hf c14
      refine lv_bipush (v := (7 : Int32)) hx hb dX9_seasonNow_119 (by decide) ?_
      refine lv_goto (tgt := 126) hx hb dX9_seasonNow_121 (by decide) ?_
      obtain rfl := Option.some.inj hf
      exact r_iret (d' := d) C0 hr hlocks hH rfl dX9_seasonNow_126
set_option maxHeartbeats 4000000 in
set_option maxRecDepth 100000 in
theorem w_X9_seasonNow_J60 {p : Program} {l : Launch} {e : Env} {s : State} {m : MethodId} {args : Array Value} {below : List Frame} {meth : Method} {c : Code} {Γ : Cx} {Λ : List Ly} {z : Int32} {d : Dt} (C0 : Ct Γ p s m args c cX9_seasonNow 1 "SeasonBoundModel") (hr : meth.sig.returnType = (some FieldType.int)) (hlocks : meth.locks = false) (p0 : Nat)
    (hf : f_X9_seasonNow_J60 Λ d p0 = some z) (H : Heap) (locs : List Loc) (ls : Array Slot) (hH : Hs Γ Λ d s H locs) (hl : lv_has ls 1 [(0, .ref (ad Γ.2.2.1 p0))]) : W p l e { frames := 2, cells := 0, slots := 0, locals := 46 } s m args below meth c H locs 0 0 (MQ below (QN Γ Λ d (some (.int z))) args s 0 0 (AP Γ)) (F0 m 60 ls []) := by
  obtain ⟨hx, hb, hml, hown, hts, hK⟩ := id C0
  unfold f_X9_seasonNow_J60 at hf
  refine lv_aload_n hx hb dX9_seasonNow_60 rfl (lv_at hl 0 rfl) ?_
  refine lv_bipush (v := (6 : Int32)) hx hb dX9_seasonNow_61 (by decide) ?_
  refine lv_bipush (v := (97 : Int32)) hx hb dX9_seasonNow_63 (by decide) ?_
  refine lv_bipush (v := (117 : Int32)) hx hb dX9_seasonNow_65 (by decide) ?_
  refine lv_bipush (v := (116 : Int32)) hx hb dX9_seasonNow_67 (by decide) ?_
  refine lv_bipush (v := (117 : Int32)) hx hb dX9_seasonNow_69 (by decide) ?_
  obtain ⟨g7, hf⟩ := gd hf
  obtain ⟨z8, h8, hf⟩ := ob hf
  refine r_callVi (rest := []) C0 hH (c_X9_is Γ l Λ d p0 (6 : Int32) (97 : Int32) (117 : Int32) (116 : Int32) (117 : Int32) z8 h8) cv_X9_79 g7 (by decide) rfl hl.1 rfl (Nat.le_of_ble_eq_true rfl) dX9_seasonNow_71 (by decide) (fun H locs hH => ?_)
  refine lv_if_eq (tgt := 91) hx hb dX9_seasonNow_74 (by decide) (fun c9 => ?_) (fun c9 => ?_)
  · replace hf := it hf c9
    exact w_X9_seasonNow_J91 C0 hr hlocks p0 hf _ _ _ hH (lv_sub hl [0] rfl)
  · replace hf := ie hf c9
    refine lv_aload_n hx hb dX9_seasonNow_77 rfl (lv_at hl 0 rfl) ?_
    refine lv_bipush (v := (109 : Int32)) hx hb dX9_seasonNow_78 (by decide) ?_
    refine lv_bipush (v := (110 : Int32)) hx hb dX9_seasonNow_80 (by decide) ?_
    obtain ⟨z15, h15, hf⟩ := ob hf
    refine r_callVi (rest := []) C0 hH (c_X9_ends Γ l Λ d p0 (109 : Int32) (110 : Int32) z15 h15) cv_X9_83 g7 (by decide) rfl hl.1 rfl (Nat.le_of_ble_eq_true rfl) dX9_seasonNow_82 (by decide) (fun H locs hH => ?_)
    refine lv_if_eq (tgt := 91) hx hb dX9_seasonNow_85 (by decide) (fun c16 => ?_) (fun c16 => ?_)
    · replace hf := it hf c16
      exact w_X9_seasonNow_J91 C0 hr hlocks p0 hf _ _ _ hH (lv_sub hl [0] rfl)
    · replace hf := ie hf c16
      refine lv_bipush (v := (6 : Int32)) hx hb dX9_seasonNow_88 (by decide) ?_
      obtain rfl := Option.some.inj hf
      exact r_iret (d' := d) C0 hr hlocks hH rfl dX9_seasonNow_90
set_option maxHeartbeats 4000000 in
set_option maxRecDepth 100000 in
theorem w_X9_seasonNow_J30 {p : Program} {l : Launch} {e : Env} {s : State} {m : MethodId} {args : Array Value} {below : List Frame} {meth : Method} {c : Code} {Γ : Cx} {Λ : List Ly} {z : Int32} {d : Dt} (C0 : Ct Γ p s m args c cX9_seasonNow 1 "SeasonBoundModel") (hr : meth.sig.returnType = (some FieldType.int)) (hlocks : meth.locks = false) (p0 : Nat)
    (hf : f_X9_seasonNow_J30 Λ d p0 = some z) (H : Heap) (locs : List Loc) (ls : Array Slot) (hH : Hs Γ Λ d s H locs) (hl : lv_has ls 1 [(0, .ref (ad Γ.2.2.1 p0))]) : W p l e { frames := 2, cells := 0, slots := 0, locals := 46 } s m args below meth c H locs 0 0 (MQ below (QN Γ Λ d (some (.int z))) args s 0 0 (AP Γ)) (F0 m 30 ls []) := by
  obtain ⟨hx, hb, hml, hown, hts, hK⟩ := id C0
  unfold f_X9_seasonNow_J30 at hf
  refine lv_aload_n hx hb dX9_seasonNow_30 rfl (lv_at hl 0 rfl) ?_
  refine lv_bipush (v := (6 : Int32)) hx hb dX9_seasonNow_31 (by decide) ?_
  refine lv_bipush (v := (115 : Int32)) hx hb dX9_seasonNow_33 (by decide) ?_
  refine lv_bipush (v := (117 : Int32)) hx hb dX9_seasonNow_35 (by decide) ?_
  refine lv_bipush (v := (109 : Int32)) hx hb dX9_seasonNow_37 (by decide) ?_
  refine lv_bipush (v := (109 : Int32)) hx hb dX9_seasonNow_39 (by decide) ?_
  obtain ⟨g4, hf⟩ := gd hf
  obtain ⟨z5, h5, hf⟩ := ob hf
  refine r_callVi (rest := []) C0 hH (c_X9_is Γ l Λ d p0 (6 : Int32) (115 : Int32) (117 : Int32) (109 : Int32) (109 : Int32) z5 h5) cv_X9_79 g4 (by decide) rfl hl.1 rfl (Nat.le_of_ble_eq_true rfl) dX9_seasonNow_41 (by decide) (fun H locs hH => ?_)
  refine lv_if_eq (tgt := 60) hx hb dX9_seasonNow_44 (by decide) (fun c6 => ?_) (fun c6 => ?_)
  · replace hf := it hf c6
    exact w_X9_seasonNow_J60 C0 hr hlocks p0 hf _ _ _ hH (lv_sub hl [0] rfl)
  · replace hf := ie hf c6
    refine lv_aload_n hx hb dX9_seasonNow_47 rfl (lv_at hl 0 rfl) ?_
    refine lv_bipush (v := (101 : Int32)) hx hb dX9_seasonNow_48 (by decide) ?_
    refine lv_bipush (v := (114 : Int32)) hx hb dX9_seasonNow_50 (by decide) ?_
    obtain ⟨z17, h17, hf⟩ := ob hf
    refine r_callVi (rest := []) C0 hH (c_X9_ends Γ l Λ d p0 (101 : Int32) (114 : Int32) z17 h17) cv_X9_83 g4 (by decide) rfl hl.1 rfl (Nat.le_of_ble_eq_true rfl) dX9_seasonNow_52 (by decide) (fun H locs hH => ?_)
    refine lv_if_eq (tgt := 60) hx hb dX9_seasonNow_55 (by decide) (fun c18 => ?_) (fun c18 => ?_)
    · replace hf := it hf c18
      exact w_X9_seasonNow_J60 C0 hr hlocks p0 hf _ _ _ hH (lv_sub hl [0] rfl)
    · replace hf := ie hf c18
      refine lv_iconst (v := (5 : Int32)) hx hb dX9_seasonNow_58 (by decide) ?_
      obtain rfl := Option.some.inj hf
      exact r_iret (d' := d) C0 hr hlocks hH rfl dX9_seasonNow_59
set_option maxHeartbeats 4000000 in
set_option maxRecDepth 100000 in
theorem c_X9_seasonNow (Γ : Cx) (l : Launch) (Λ : List Ly) (d : Dt) (p0 : Nat) (z : Int32) (hf : f_X9_seasonNow Λ d p0 = some z) : Cn Γ l yX9_seasonNow cX9_seasonNow 1 (some FieldType.int) 2 46 [.ref (ad Γ.2.2.1 p0)] Λ d (some (.int z)) d := by
  refine Cn.of (own := "SeasonBoundModel") (by decide +kernel) rfl (Nat.le_of_ble_eq_true rfl) ?_
  intro p e s m below meth c C0 hr hlocks hH ls hl
  have hl : lv_has ls 1 [(0, .ref (ad Γ.2.2.1 p0))] := hl
  obtain ⟨hx, hb, hml, hown, hts, hK⟩ := id C0
  unfold f_X9_seasonNow at hf
  refine lv_aload_n hx hb dX9_seasonNow_0 rfl (lv_at hl 0 rfl) ?_
  refine lv_bipush (v := (6 : Int32)) hx hb dX9_seasonNow_1 (by decide) ?_
  refine lv_bipush (v := (115 : Int32)) hx hb dX9_seasonNow_3 (by decide) ?_
  refine lv_bipush (v := (112 : Int32)) hx hb dX9_seasonNow_5 (by decide) ?_
  refine lv_bipush (v := (114 : Int32)) hx hb dX9_seasonNow_7 (by decide) ?_
  refine lv_bipush (v := (105 : Int32)) hx hb dX9_seasonNow_9 (by decide) ?_
  obtain ⟨g1, hf⟩ := gd hf
  obtain ⟨z2, h2, hf⟩ := ob hf
  refine r_callVi (rest := []) C0 hH (c_X9_is Γ l Λ d p0 (6 : Int32) (115 : Int32) (112 : Int32) (114 : Int32) (105 : Int32) z2 h2) cv_X9_79 g1 (by decide) rfl hl.1 rfl (Nat.le_of_ble_eq_true rfl) dX9_seasonNow_11 (by decide) (fun H locs hH => ?_)
  refine lv_if_eq (tgt := 30) hx hb dX9_seasonNow_14 (by decide) (fun c3 => ?_) (fun c3 => ?_)
  · replace hf := it hf c3
    exact w_X9_seasonNow_J30 C0 hr hlocks p0 hf _ _ _ hH (lv_sub hl [0] rfl)
  · replace hf := ie hf c3
    refine lv_aload_n hx hb dX9_seasonNow_17 rfl (lv_at hl 0 rfl) ?_
    refine lv_bipush (v := (110 : Int32)) hx hb dX9_seasonNow_18 (by decide) ?_
    refine lv_bipush (v := (103 : Int32)) hx hb dX9_seasonNow_20 (by decide) ?_
    obtain ⟨z19, h19, hf⟩ := ob hf
    refine r_callVi (rest := []) C0 hH (c_X9_ends Γ l Λ d p0 (110 : Int32) (103 : Int32) z19 h19) cv_X9_83 g1 (by decide) rfl hl.1 rfl (Nat.le_of_ble_eq_true rfl) dX9_seasonNow_22 (by decide) (fun H locs hH => ?_)
    refine lv_if_eq (tgt := 30) hx hb dX9_seasonNow_25 (by decide) (fun c20 => ?_) (fun c20 => ?_)
    · replace hf := it hf c20
      exact w_X9_seasonNow_J30 C0 hr hlocks p0 hf _ _ _ hH (lv_sub hl [0] rfl)
    · replace hf := ie hf c20
      refine lv_iconst (v := (4 : Int32)) hx hb dX9_seasonNow_28 (by decide) ?_
      obtain rfl := Option.some.inj hf
      exact r_iret (d' := d) C0 hr hlocks hH rfl dX9_seasonNow_29
theorem dX9_lineNow_0 : decode cX9_lineNow 0 = .ok (.aload_n 0, 1) := by decide +kernel
theorem dX9_lineNow_1 : decode cX9_lineNow 1 = .ok (.iconst 5, 1) := by decide +kernel
theorem dX9_lineNow_2 : decode cX9_lineNow 2 = .ok (.bipush 112, 2) := by decide +kernel
theorem dX9_lineNow_4 : decode cX9_lineNow 4 = .ok (.bipush 108, 2) := by decide +kernel
theorem dX9_lineNow_6 : decode cX9_lineNow 6 = .ok (.bipush 97, 2) := by decide +kernel
theorem dX9_lineNow_8 : decode cX9_lineNow 8 = .ok (.bipush 105, 2) := by decide +kernel
theorem dX9_lineNow_10 : decode cX9_lineNow 10 = .ok (.invokevirtual 79, 3) := by decide +kernel
theorem dX9_lineNow_13 : decode cX9_lineNow 13 = .ok (.ifCond .eq 15, 3) := by decide +kernel
theorem dX9_lineNow_16 : decode cX9_lineNow 16 = .ok (.aload_n 0, 1) := by decide +kernel
theorem dX9_lineNow_17 : decode cX9_lineNow 17 = .ok (.bipush 110, 2) := by decide +kernel
theorem dX9_lineNow_19 : decode cX9_lineNow 19 = .ok (.iconst 0, 1) := by decide +kernel
theorem dX9_lineNow_20 : decode cX9_lineNow 20 = .ok (.invokevirtual 83, 3) := by decide +kernel
theorem dX9_lineNow_23 : decode cX9_lineNow 23 = .ok (.ifCond .eq 5, 3) := by decide +kernel
theorem dX9_lineNow_26 : decode cX9_lineNow 26 = .ok (.iconst 0, 1) := by decide +kernel
theorem dX9_lineNow_27 : decode cX9_lineNow 27 = .ok (.ireturn, 1) := by decide +kernel
theorem dX9_lineNow_28 : decode cX9_lineNow 28 = .ok (.aload_n 0, 1) := by decide +kernel
theorem dX9_lineNow_29 : decode cX9_lineNow 29 = .ok (.iconst 5, 1) := by decide +kernel
theorem dX9_lineNow_30 : decode cX9_lineNow 30 = .ok (.bipush 113, 2) := by decide +kernel
theorem dX9_lineNow_32 : decode cX9_lineNow 32 = .ok (.bipush 117, 2) := by decide +kernel
theorem dX9_lineNow_34 : decode cX9_lineNow 34 = .ok (.bipush 105, 2) := by decide +kernel
theorem dX9_lineNow_36 : decode cX9_lineNow 36 = .ok (.bipush 99, 2) := by decide +kernel
theorem dX9_lineNow_38 : decode cX9_lineNow 38 = .ok (.invokevirtual 79, 3) := by decide +kernel
theorem dX9_lineNow_41 : decode cX9_lineNow 41 = .ok (.ifCond .eq 15, 3) := by decide +kernel
theorem dX9_lineNow_44 : decode cX9_lineNow 44 = .ok (.aload_n 0, 1) := by decide +kernel
theorem dX9_lineNow_45 : decode cX9_lineNow 45 = .ok (.bipush 107, 2) := by decide +kernel
theorem dX9_lineNow_47 : decode cX9_lineNow 47 = .ok (.iconst 0, 1) := by decide +kernel
theorem dX9_lineNow_48 : decode cX9_lineNow 48 = .ok (.invokevirtual 83, 3) := by decide +kernel
theorem dX9_lineNow_51 : decode cX9_lineNow 51 = .ok (.ifCond .eq 5, 3) := by decide +kernel
theorem dX9_lineNow_54 : decode cX9_lineNow 54 = .ok (.iconst 1, 1) := by decide +kernel
theorem dX9_lineNow_55 : decode cX9_lineNow 55 = .ok (.ireturn, 1) := by decide +kernel
theorem dX9_lineNow_56 : decode cX9_lineNow 56 = .ok (.aload_n 0, 1) := by decide +kernel
theorem dX9_lineNow_57 : decode cX9_lineNow 57 = .ok (.iconst 4, 1) := by decide +kernel
theorem dX9_lineNow_58 : decode cX9_lineNow 58 = .ok (.bipush 115, 2) := by decide +kernel
theorem dX9_lineNow_60 : decode cX9_lineNow 60 = .ok (.bipush 108, 2) := by decide +kernel
theorem dX9_lineNow_62 : decode cX9_lineNow 62 = .ok (.bipush 111, 2) := by decide +kernel
theorem dX9_lineNow_64 : decode cX9_lineNow 64 = .ok (.bipush 119, 2) := by decide +kernel
theorem dX9_lineNow_66 : decode cX9_lineNow 66 = .ok (.invokevirtual 79, 3) := by decide +kernel
theorem dX9_lineNow_69 : decode cX9_lineNow 69 = .ok (.ifCond .eq 5, 3) := by decide +kernel
theorem dX9_lineNow_72 : decode cX9_lineNow 72 = .ok (.iconst 2, 1) := by decide +kernel
theorem dX9_lineNow_73 : decode cX9_lineNow 73 = .ok (.ireturn, 1) := by decide +kernel
theorem dX9_lineNow_74 : decode cX9_lineNow 74 = .ok (.aload_n 0, 1) := by decide +kernel
theorem dX9_lineNow_75 : decode cX9_lineNow 75 = .ok (.bipush 6, 2) := by decide +kernel
theorem dX9_lineNow_77 : decode cX9_lineNow 77 = .ok (.bipush 111, 2) := by decide +kernel
theorem dX9_lineNow_79 : decode cX9_lineNow 79 = .ok (.bipush 114, 2) := by decide +kernel
theorem dX9_lineNow_81 : decode cX9_lineNow 81 = .ok (.bipush 112, 2) := by decide +kernel
theorem dX9_lineNow_83 : decode cX9_lineNow 83 = .ok (.bipush 104, 2) := by decide +kernel
theorem dX9_lineNow_85 : decode cX9_lineNow 85 = .ok (.invokevirtual 79, 3) := by decide +kernel
theorem dX9_lineNow_88 : decode cX9_lineNow 88 = .ok (.ifCond .eq 18, 3) := by decide +kernel
theorem dX9_lineNow_91 : decode cX9_lineNow 91 = .ok (.aload_n 0, 1) := by decide +kernel
theorem dX9_lineNow_92 : decode cX9_lineNow 92 = .ok (.bipush 97, 2) := by decide +kernel
theorem dX9_lineNow_94 : decode cX9_lineNow 94 = .ok (.bipush 110, 2) := by decide +kernel
theorem dX9_lineNow_96 : decode cX9_lineNow 96 = .ok (.invokevirtual 83, 3) := by decide +kernel
theorem dX9_lineNow_99 : decode cX9_lineNow 99 = .ok (.ifCond .eq 7, 3) := by decide +kernel
theorem dX9_lineNow_102 : decode cX9_lineNow 102 = .ok (.iconst 3, 1) := by decide +kernel
theorem dX9_lineNow_103 : decode cX9_lineNow 103 = .ok (.goto 7, 3) := by decide +kernel
theorem dX9_lineNow_106 : decode cX9_lineNow 106 = .ok (.aload_n 0, 1) := by decide +kernel
theorem dX9_lineNow_107 : decode cX9_lineNow 107 = .ok (.invokevirtual 87, 3) := by decide +kernel
theorem dX9_lineNow_110 : decode cX9_lineNow 110 = .ok (.ireturn, 1) := by decide +kernel
def f_X9_lineNow_J56 (Λ : List Ly) (d : Dt) (p0 : Nat) : Option Int32 := if clsAt Λ p0 = some 9 then (Option.bind (f_X9_is Λ d p0 (4 : Int32) (115 : Int32) (108 : Int32) (111 : Int32) (119 : Int32)) fun z8 => if z8 = 0 then (Option.bind (f_X9_is Λ d p0 (6 : Int32) (111 : Int32) (114 : Int32) (112 : Int32) (104 : Int32)) fun z10 => if z10 = 0 then (Option.bind (f_X9_seasonNow Λ d p0) fun z12 => some z12) else (Option.bind (f_X9_ends Λ d p0 (97 : Int32) (110 : Int32)) fun z13 => if z13 = 0 then (Option.bind (f_X9_seasonNow Λ d p0) fun z15 => some z15) else (some (3 : Int32)))) else (some (2 : Int32))) else none
def f_X9_lineNow_J28 (Λ : List Ly) (d : Dt) (p0 : Nat) : Option Int32 := if clsAt Λ p0 = some 9 then (Option.bind (f_X9_is Λ d p0 (5 : Int32) (113 : Int32) (117 : Int32) (105 : Int32) (99 : Int32)) fun z5 => if z5 = 0 then (f_X9_lineNow_J56 Λ d p0) else (Option.bind (f_X9_ends Λ d p0 (107 : Int32) (0 : Int32)) fun z16 => if z16 = 0 then (f_X9_lineNow_J56 Λ d p0) else (some (1 : Int32)))) else none
def f_X9_lineNow (Λ : List Ly) (d : Dt) (p0 : Nat) : Option Int32 := if clsAt Λ p0 = some 9 then (Option.bind (f_X9_is Λ d p0 (5 : Int32) (112 : Int32) (108 : Int32) (97 : Int32) (105 : Int32)) fun z2 => if z2 = 0 then (f_X9_lineNow_J28 Λ d p0) else (Option.bind (f_X9_ends Λ d p0 (110 : Int32) (0 : Int32)) fun z18 => if z18 = 0 then (f_X9_lineNow_J28 Λ d p0) else (some (0 : Int32)))) else none
set_option maxHeartbeats 4000000 in
set_option maxRecDepth 100000 in
theorem w_X9_lineNow_J56 {p : Program} {l : Launch} {e : Env} {s : State} {m : MethodId} {args : Array Value} {below : List Frame} {meth : Method} {c : Code} {Γ : Cx} {Λ : List Ly} {z : Int32} {d : Dt} (C0 : Ct Γ p s m args c cX9_lineNow 1 "SeasonBoundModel") (hr : meth.sig.returnType = (some FieldType.int)) (hlocks : meth.locks = false) (p0 : Nat)
    (hf : f_X9_lineNow_J56 Λ d p0 = some z) (H : Heap) (locs : List Loc) (ls : Array Slot) (hH : Hs Γ Λ d s H locs) (hl : lv_has ls 1 [(0, .ref (ad Γ.2.2.1 p0))]) : W p l e { frames := 3, cells := 0, slots := 0, locals := 66 } s m args below meth c H locs 0 0 (MQ below (QN Γ Λ d (some (.int z))) args s 0 0 (AP Γ)) (F0 m 56 ls []) := by
  obtain ⟨hx, hb, hml, hown, hts, hK⟩ := id C0
  unfold f_X9_lineNow_J56 at hf
  refine lv_aload_n hx hb dX9_lineNow_56 rfl (lv_at hl 0 rfl) ?_
  refine lv_iconst (v := (4 : Int32)) hx hb dX9_lineNow_57 (by decide) ?_
  refine lv_bipush (v := (115 : Int32)) hx hb dX9_lineNow_58 (by decide) ?_
  refine lv_bipush (v := (108 : Int32)) hx hb dX9_lineNow_60 (by decide) ?_
  refine lv_bipush (v := (111 : Int32)) hx hb dX9_lineNow_62 (by decide) ?_
  refine lv_bipush (v := (119 : Int32)) hx hb dX9_lineNow_64 (by decide) ?_
  obtain ⟨g7, hf⟩ := gd hf
  obtain ⟨z8, h8, hf⟩ := ob hf
  refine r_callVi (rest := []) C0 hH (c_X9_is Γ l Λ d p0 (4 : Int32) (115 : Int32) (108 : Int32) (111 : Int32) (119 : Int32) z8 h8) cv_X9_79 g7 (by decide) rfl hl.1 rfl (Nat.le_of_ble_eq_true rfl) dX9_lineNow_66 (by decide) (fun H locs hH => ?_)
  refine lv_if_eq (tgt := 74) hx hb dX9_lineNow_69 (by decide) (fun c9 => ?_) (fun c9 => ?_)
  · replace hf := it hf c9
    refine lv_aload_n hx hb dX9_lineNow_74 rfl (lv_at hl 0 rfl) ?_
    refine lv_bipush (v := (6 : Int32)) hx hb dX9_lineNow_75 (by decide) ?_
    refine lv_bipush (v := (111 : Int32)) hx hb dX9_lineNow_77 (by decide) ?_
    refine lv_bipush (v := (114 : Int32)) hx hb dX9_lineNow_79 (by decide) ?_
    refine lv_bipush (v := (112 : Int32)) hx hb dX9_lineNow_81 (by decide) ?_
    refine lv_bipush (v := (104 : Int32)) hx hb dX9_lineNow_83 (by decide) ?_
    obtain ⟨z10, h10, hf⟩ := ob hf
    refine r_callVi (rest := []) C0 hH (c_X9_is Γ l Λ d p0 (6 : Int32) (111 : Int32) (114 : Int32) (112 : Int32) (104 : Int32) z10 h10) cv_X9_79 g7 (by decide) rfl hl.1 rfl (Nat.le_of_ble_eq_true rfl) dX9_lineNow_85 (by decide) (fun H locs hH => ?_)
    refine lv_if_eq (tgt := 106) hx hb dX9_lineNow_88 (by decide) (fun c11 => ?_) (fun c11 => ?_)
    · replace hf := it hf c11
      refine lv_aload_n hx hb dX9_lineNow_106 rfl (lv_at hl 0 rfl) ?_
      obtain ⟨z12, h12, hf⟩ := ob hf
      refine r_callVi (rest := []) C0 hH (c_X9_seasonNow Γ l Λ d p0 z12 h12) cv_X9_87 g7 (by decide) rfl hl.1 rfl (Nat.le_of_ble_eq_true rfl) dX9_lineNow_107 (by decide) (fun H locs hH => ?_)
      obtain rfl := Option.some.inj hf
      exact r_iret (d' := d) C0 hr hlocks hH rfl dX9_lineNow_110
    · replace hf := ie hf c11
      refine lv_aload_n hx hb dX9_lineNow_91 rfl (lv_at hl 0 rfl) ?_
      refine lv_bipush (v := (97 : Int32)) hx hb dX9_lineNow_92 (by decide) ?_
      refine lv_bipush (v := (110 : Int32)) hx hb dX9_lineNow_94 (by decide) ?_
      obtain ⟨z13, h13, hf⟩ := ob hf
      refine r_callVi (rest := []) C0 hH (c_X9_ends Γ l Λ d p0 (97 : Int32) (110 : Int32) z13 h13) cv_X9_83 g7 (by decide) rfl hl.1 rfl (Nat.le_of_ble_eq_true rfl) dX9_lineNow_96 (by decide) (fun H locs hH => ?_)
      refine lv_if_eq (tgt := 106) hx hb dX9_lineNow_99 (by decide) (fun c14 => ?_) (fun c14 => ?_)
      · replace hf := it hf c14
        refine lv_aload_n hx hb dX9_lineNow_106 rfl (lv_at hl 0 rfl) ?_
        obtain ⟨z15, h15, hf⟩ := ob hf
        refine r_callVi (rest := []) C0 hH (c_X9_seasonNow Γ l Λ d p0 z15 h15) cv_X9_87 g7 (by decide) rfl hl.1 rfl (Nat.le_of_ble_eq_true rfl) dX9_lineNow_107 (by decide) (fun H locs hH => ?_)
        obtain rfl := Option.some.inj hf
        exact r_iret (d' := d) C0 hr hlocks hH rfl dX9_lineNow_110
      · replace hf := ie hf c14
        refine lv_iconst (v := (3 : Int32)) hx hb dX9_lineNow_102 (by decide) ?_
        refine lv_goto (tgt := 110) hx hb dX9_lineNow_103 (by decide) ?_
        obtain rfl := Option.some.inj hf
        exact r_iret (d' := d) C0 hr hlocks hH rfl dX9_lineNow_110
  · replace hf := ie hf c9
    refine lv_iconst (v := (2 : Int32)) hx hb dX9_lineNow_72 (by decide) ?_
    obtain rfl := Option.some.inj hf
    exact r_iret (d' := d) C0 hr hlocks hH rfl dX9_lineNow_73
set_option maxHeartbeats 4000000 in
set_option maxRecDepth 100000 in
theorem w_X9_lineNow_J28 {p : Program} {l : Launch} {e : Env} {s : State} {m : MethodId} {args : Array Value} {below : List Frame} {meth : Method} {c : Code} {Γ : Cx} {Λ : List Ly} {z : Int32} {d : Dt} (C0 : Ct Γ p s m args c cX9_lineNow 1 "SeasonBoundModel") (hr : meth.sig.returnType = (some FieldType.int)) (hlocks : meth.locks = false) (p0 : Nat)
    (hf : f_X9_lineNow_J28 Λ d p0 = some z) (H : Heap) (locs : List Loc) (ls : Array Slot) (hH : Hs Γ Λ d s H locs) (hl : lv_has ls 1 [(0, .ref (ad Γ.2.2.1 p0))]) : W p l e { frames := 3, cells := 0, slots := 0, locals := 66 } s m args below meth c H locs 0 0 (MQ below (QN Γ Λ d (some (.int z))) args s 0 0 (AP Γ)) (F0 m 28 ls []) := by
  obtain ⟨hx, hb, hml, hown, hts, hK⟩ := id C0
  unfold f_X9_lineNow_J28 at hf
  refine lv_aload_n hx hb dX9_lineNow_28 rfl (lv_at hl 0 rfl) ?_
  refine lv_iconst (v := (5 : Int32)) hx hb dX9_lineNow_29 (by decide) ?_
  refine lv_bipush (v := (113 : Int32)) hx hb dX9_lineNow_30 (by decide) ?_
  refine lv_bipush (v := (117 : Int32)) hx hb dX9_lineNow_32 (by decide) ?_
  refine lv_bipush (v := (105 : Int32)) hx hb dX9_lineNow_34 (by decide) ?_
  refine lv_bipush (v := (99 : Int32)) hx hb dX9_lineNow_36 (by decide) ?_
  obtain ⟨g4, hf⟩ := gd hf
  obtain ⟨z5, h5, hf⟩ := ob hf
  refine r_callVi (rest := []) C0 hH (c_X9_is Γ l Λ d p0 (5 : Int32) (113 : Int32) (117 : Int32) (105 : Int32) (99 : Int32) z5 h5) cv_X9_79 g4 (by decide) rfl hl.1 rfl (Nat.le_of_ble_eq_true rfl) dX9_lineNow_38 (by decide) (fun H locs hH => ?_)
  refine lv_if_eq (tgt := 56) hx hb dX9_lineNow_41 (by decide) (fun c6 => ?_) (fun c6 => ?_)
  · replace hf := it hf c6
    exact w_X9_lineNow_J56 C0 hr hlocks p0 hf _ _ _ hH (lv_sub hl [0] rfl)
  · replace hf := ie hf c6
    refine lv_aload_n hx hb dX9_lineNow_44 rfl (lv_at hl 0 rfl) ?_
    refine lv_bipush (v := (107 : Int32)) hx hb dX9_lineNow_45 (by decide) ?_
    refine lv_iconst (v := (0 : Int32)) hx hb dX9_lineNow_47 (by decide) ?_
    obtain ⟨z16, h16, hf⟩ := ob hf
    refine r_callVi (rest := []) C0 hH (c_X9_ends Γ l Λ d p0 (107 : Int32) (0 : Int32) z16 h16) cv_X9_83 g4 (by decide) rfl hl.1 rfl (Nat.le_of_ble_eq_true rfl) dX9_lineNow_48 (by decide) (fun H locs hH => ?_)
    refine lv_if_eq (tgt := 56) hx hb dX9_lineNow_51 (by decide) (fun c17 => ?_) (fun c17 => ?_)
    · replace hf := it hf c17
      exact w_X9_lineNow_J56 C0 hr hlocks p0 hf _ _ _ hH (lv_sub hl [0] rfl)
    · replace hf := ie hf c17
      refine lv_iconst (v := (1 : Int32)) hx hb dX9_lineNow_54 (by decide) ?_
      obtain rfl := Option.some.inj hf
      exact r_iret (d' := d) C0 hr hlocks hH rfl dX9_lineNow_55
set_option maxHeartbeats 4000000 in
set_option maxRecDepth 100000 in
theorem c_X9_lineNow (Γ : Cx) (l : Launch) (Λ : List Ly) (d : Dt) (p0 : Nat) (z : Int32) (hf : f_X9_lineNow Λ d p0 = some z) : Cn Γ l yX9_lineNow cX9_lineNow 1 (some FieldType.int) 3 66 [.ref (ad Γ.2.2.1 p0)] Λ d (some (.int z)) d := by
  refine Cn.of (own := "SeasonBoundModel") (by decide +kernel) rfl (Nat.le_of_ble_eq_true rfl) ?_
  intro p e s m below meth c C0 hr hlocks hH ls hl
  have hl : lv_has ls 1 [(0, .ref (ad Γ.2.2.1 p0))] := hl
  obtain ⟨hx, hb, hml, hown, hts, hK⟩ := id C0
  unfold f_X9_lineNow at hf
  refine lv_aload_n hx hb dX9_lineNow_0 rfl (lv_at hl 0 rfl) ?_
  refine lv_iconst (v := (5 : Int32)) hx hb dX9_lineNow_1 (by decide) ?_
  refine lv_bipush (v := (112 : Int32)) hx hb dX9_lineNow_2 (by decide) ?_
  refine lv_bipush (v := (108 : Int32)) hx hb dX9_lineNow_4 (by decide) ?_
  refine lv_bipush (v := (97 : Int32)) hx hb dX9_lineNow_6 (by decide) ?_
  refine lv_bipush (v := (105 : Int32)) hx hb dX9_lineNow_8 (by decide) ?_
  obtain ⟨g1, hf⟩ := gd hf
  obtain ⟨z2, h2, hf⟩ := ob hf
  refine r_callVi (rest := []) C0 hH (c_X9_is Γ l Λ d p0 (5 : Int32) (112 : Int32) (108 : Int32) (97 : Int32) (105 : Int32) z2 h2) cv_X9_79 g1 (by decide) rfl hl.1 rfl (Nat.le_of_ble_eq_true rfl) dX9_lineNow_10 (by decide) (fun H locs hH => ?_)
  refine lv_if_eq (tgt := 28) hx hb dX9_lineNow_13 (by decide) (fun c3 => ?_) (fun c3 => ?_)
  · replace hf := it hf c3
    exact w_X9_lineNow_J28 C0 hr hlocks p0 hf _ _ _ hH (lv_sub hl [0] rfl)
  · replace hf := ie hf c3
    refine lv_aload_n hx hb dX9_lineNow_16 rfl (lv_at hl 0 rfl) ?_
    refine lv_bipush (v := (110 : Int32)) hx hb dX9_lineNow_17 (by decide) ?_
    refine lv_iconst (v := (0 : Int32)) hx hb dX9_lineNow_19 (by decide) ?_
    obtain ⟨z18, h18, hf⟩ := ob hf
    refine r_callVi (rest := []) C0 hH (c_X9_ends Γ l Λ d p0 (110 : Int32) (0 : Int32) z18 h18) cv_X9_83 g1 (by decide) rfl hl.1 rfl (Nat.le_of_ble_eq_true rfl) dX9_lineNow_20 (by decide) (fun H locs hH => ?_)
    refine lv_if_eq (tgt := 28) hx hb dX9_lineNow_23 (by decide) (fun c19 => ?_) (fun c19 => ?_)
    · replace hf := it hf c19
      exact w_X9_lineNow_J28 C0 hr hlocks p0 hf _ _ _ hH (lv_sub hl [0] rfl)
    · replace hf := ie hf c19
      refine lv_iconst (v := (0 : Int32)) hx hb dX9_lineNow_26 (by decide) ?_
      obtain rfl := Option.some.inj hf
      exact r_iret (d' := d) C0 hr hlocks hH rfl dX9_lineNow_27
theorem dX9_reads_0 : decode cX9_reads 0 = .ok (.aload_n 0, 1) := by decide +kernel
theorem dX9_reads_1 : decode cX9_reads 1 = .ok (.getfield 63, 3) := by decide +kernel
theorem dX9_reads_4 : decode cX9_reads 4 = .ok (.ifCond .le 4, 3) := by decide +kernel
theorem dX9_reads_7 : decode cX9_reads 7 = .ok (.return_, 1) := by decide +kernel
theorem dX9_reads_8 : decode cX9_reads 8 = .ok (.aload_n 0, 1) := by decide +kernel
theorem dX9_reads_9 : decode cX9_reads 9 = .ok (.aload_n 0, 1) := by decide +kernel
theorem dX9_reads_10 : decode cX9_reads 10 = .ok (.getfield 72, 3) := by decide +kernel
theorem dX9_reads_13 : decode cX9_reads 13 = .ok (.invokevirtual 75, 3) := by decide +kernel
theorem dX9_reads_16 : decode cX9_reads 16 = .ok (.bipush 32, 2) := by decide +kernel
theorem dX9_reads_18 : decode cX9_reads 18 = .ok (.if_icmp .ne 16, 3) := by decide +kernel
theorem dX9_reads_21 : decode cX9_reads 21 = .ok (.aload_n 0, 1) := by decide +kernel
theorem dX9_reads_22 : decode cX9_reads 22 = .ok (.dup, 1) := by decide +kernel
theorem dX9_reads_23 : decode cX9_reads 23 = .ok (.getfield 72, 3) := by decide +kernel
theorem dX9_reads_26 : decode cX9_reads 26 = .ok (.iconst 1, 1) := by decide +kernel
theorem dX9_reads_27 : decode cX9_reads 27 = .ok (.iadd, 1) := by decide +kernel
theorem dX9_reads_28 : decode cX9_reads 28 = .ok (.putfield 72, 3) := by decide +kernel
theorem dX9_reads_31 : decode cX9_reads 31 = .ok (.goto (-23), 3) := by decide +kernel
theorem dX9_reads_34 : decode cX9_reads 34 = .ok (.aload_n 0, 1) := by decide +kernel
theorem dX9_reads_35 : decode cX9_reads 35 = .ok (.aload_n 0, 1) := by decide +kernel
theorem dX9_reads_36 : decode cX9_reads 36 = .ok (.getfield 72, 3) := by decide +kernel
theorem dX9_reads_39 : decode cX9_reads 39 = .ok (.putfield 66, 3) := by decide +kernel
theorem dX9_reads_42 : decode cX9_reads 42 = .ok (.aload_n 0, 1) := by decide +kernel
theorem dX9_reads_43 : decode cX9_reads 43 = .ok (.aload_n 0, 1) := by decide +kernel
theorem dX9_reads_44 : decode cX9_reads 44 = .ok (.getfield 72, 3) := by decide +kernel
theorem dX9_reads_47 : decode cX9_reads 47 = .ok (.invokevirtual 75, 3) := by decide +kernel
theorem dX9_reads_50 : decode cX9_reads 50 = .ok (.istore_n 1, 1) := by decide +kernel
theorem dX9_reads_51 : decode cX9_reads 51 = .ok (.iload_n 1, 1) := by decide +kernel
theorem dX9_reads_52 : decode cX9_reads 52 = .ok (.ifCond .ge 11, 3) := by decide +kernel
theorem dX9_reads_55 : decode cX9_reads 55 = .ok (.aload_n 0, 1) := by decide +kernel
theorem dX9_reads_56 : decode cX9_reads 56 = .ok (.iconst 0, 1) := by decide +kernel
theorem dX9_reads_57 : decode cX9_reads 57 = .ok (.putfield 91, 3) := by decide +kernel
theorem dX9_reads_60 : decode cX9_reads 60 = .ok (.goto 214, 3) := by decide +kernel
theorem dX9_reads_63 : decode cX9_reads 63 = .ok (.iload_n 1, 1) := by decide +kernel
theorem dX9_reads_64 : decode cX9_reads 64 = .ok (.i2l, 1) := by decide +kernel
theorem dX9_reads_65 : decode cX9_reads 65 = .ok (.ldc2_w 94, 3) := by decide +kernel
theorem dX9_reads_68 : decode cX9_reads 68 = .ok (.ldc2_w 96, 3) := by decide +kernel
theorem dX9_reads_71 : decode cX9_reads 71 = .ok (.invokestatic 56, 3) := by decide +kernel
theorem dX9_reads_74 : decode cX9_reads 74 = .ok (.ifCond .eq 42, 3) := by decide +kernel
theorem dX9_reads_77 : decode cX9_reads 77 = .ok (.aload_n 0, 1) := by decide +kernel
theorem dX9_reads_78 : decode cX9_reads 78 = .ok (.iconst 1, 1) := by decide +kernel
theorem dX9_reads_79 : decode cX9_reads 79 = .ok (.putfield 91, 3) := by decide +kernel
theorem dX9_reads_82 : decode cX9_reads 82 = .ok (.aload_n 0, 1) := by decide +kernel
theorem dX9_reads_83 : decode cX9_reads 83 = .ok (.aload_n 0, 1) := by decide +kernel
theorem dX9_reads_84 : decode cX9_reads 84 = .ok (.getfield 72, 3) := by decide +kernel
theorem dX9_reads_87 : decode cX9_reads 87 = .ok (.invokevirtual 75, 3) := by decide +kernel
theorem dX9_reads_90 : decode cX9_reads 90 = .ok (.i2l, 1) := by decide +kernel
theorem dX9_reads_91 : decode cX9_reads 91 = .ok (.ldc2_w 94, 3) := by decide +kernel
theorem dX9_reads_94 : decode cX9_reads 94 = .ok (.ldc2_w 96, 3) := by decide +kernel
theorem dX9_reads_97 : decode cX9_reads 97 = .ok (.invokestatic 56, 3) := by decide +kernel
theorem dX9_reads_100 : decode cX9_reads 100 = .ok (.ifCond .eq 174, 3) := by decide +kernel
theorem dX9_reads_103 : decode cX9_reads 103 = .ok (.aload_n 0, 1) := by decide +kernel
theorem dX9_reads_104 : decode cX9_reads 104 = .ok (.dup, 1) := by decide +kernel
theorem dX9_reads_105 : decode cX9_reads 105 = .ok (.getfield 72, 3) := by decide +kernel
theorem dX9_reads_108 : decode cX9_reads 108 = .ok (.iconst 1, 1) := by decide +kernel
theorem dX9_reads_109 : decode cX9_reads 109 = .ok (.iadd, 1) := by decide +kernel
theorem dX9_reads_110 : decode cX9_reads 110 = .ok (.putfield 72, 3) := by decide +kernel
theorem dX9_reads_113 : decode cX9_reads 113 = .ok (.goto (-31), 3) := by decide +kernel
theorem dX9_reads_116 : decode cX9_reads 116 = .ok (.iload_n 1, 1) := by decide +kernel
theorem dX9_reads_117 : decode cX9_reads 117 = .ok (.i2l, 1) := by decide +kernel
theorem dX9_reads_118 : decode cX9_reads 118 = .ok (.ldc2_w 98, 3) := by decide +kernel
theorem dX9_reads_121 : decode cX9_reads 121 = .ok (.ldc2_w 100, 3) := by decide +kernel
theorem dX9_reads_124 : decode cX9_reads 124 = .ok (.invokestatic 56, 3) := by decide +kernel
theorem dX9_reads_127 : decode cX9_reads 127 = .ok (.ifCond .eq 116, 3) := by decide +kernel
theorem dX9_reads_130 : decode cX9_reads 130 = .ok (.aload_n 0, 1) := by decide +kernel
theorem dX9_reads_131 : decode cX9_reads 131 = .ok (.iconst 2, 1) := by decide +kernel
theorem dX9_reads_132 : decode cX9_reads 132 = .ok (.putfield 91, 3) := by decide +kernel
theorem dX9_reads_135 : decode cX9_reads 135 = .ok (.aload_n 0, 1) := by decide +kernel
theorem dX9_reads_136 : decode cX9_reads 136 = .ok (.iconst 0, 1) := by decide +kernel
theorem dX9_reads_137 : decode cX9_reads 137 = .ok (.putfield 102, 3) := by decide +kernel
theorem dX9_reads_140 : decode cX9_reads 140 = .ok (.aload_n 0, 1) := by decide +kernel
theorem dX9_reads_141 : decode cX9_reads 141 = .ok (.aload_n 0, 1) := by decide +kernel
theorem dX9_reads_142 : decode cX9_reads 142 = .ok (.getfield 72, 3) := by decide +kernel
theorem dX9_reads_145 : decode cX9_reads 145 = .ok (.invokevirtual 75, 3) := by decide +kernel
theorem dX9_reads_148 : decode cX9_reads 148 = .ok (.i2l, 1) := by decide +kernel
theorem dX9_reads_149 : decode cX9_reads 149 = .ok (.ldc2_w 98, 3) := by decide +kernel
theorem dX9_reads_152 : decode cX9_reads 152 = .ok (.ldc2_w 100, 3) := by decide +kernel
theorem dX9_reads_155 : decode cX9_reads 155 = .ok (.invokestatic 56, 3) := by decide +kernel
theorem dX9_reads_158 : decode cX9_reads 158 = .ok (.ifCond .eq 59, 3) := by decide +kernel
theorem dX9_reads_161 : decode cX9_reads 161 = .ok (.aload_n 0, 1) := by decide +kernel
theorem dX9_reads_162 : decode cX9_reads 162 = .ok (.aload_n 0, 1) := by decide +kernel
theorem dX9_reads_163 : decode cX9_reads 163 = .ok (.getfield 72, 3) := by decide +kernel
theorem dX9_reads_166 : decode cX9_reads 166 = .ok (.aload_n 0, 1) := by decide +kernel
theorem dX9_reads_167 : decode cX9_reads 167 = .ok (.getfield 66, 3) := by decide +kernel
theorem dX9_reads_170 : decode cX9_reads 170 = .ok (.isub, 1) := by decide +kernel
theorem dX9_reads_171 : decode cX9_reads 171 = .ok (.iconst 2, 1) := by decide +kernel
theorem dX9_reads_172 : decode cX9_reads 172 = .ok (.if_icmp .ge 25, 3) := by decide +kernel
theorem dX9_reads_175 : decode cX9_reads 175 = .ok (.bipush 10, 2) := by decide +kernel
theorem dX9_reads_177 : decode cX9_reads 177 = .ok (.aload_n 0, 1) := by decide +kernel
theorem dX9_reads_178 : decode cX9_reads 178 = .ok (.getfield 102, 3) := by decide +kernel
theorem dX9_reads_181 : decode cX9_reads 181 = .ok (.imul, 1) := by decide +kernel
theorem dX9_reads_182 : decode cX9_reads 182 = .ok (.aload_n 0, 1) := by decide +kernel
theorem dX9_reads_183 : decode cX9_reads 183 = .ok (.aload_n 0, 1) := by decide +kernel
theorem dX9_reads_184 : decode cX9_reads 184 = .ok (.getfield 72, 3) := by decide +kernel
theorem dX9_reads_187 : decode cX9_reads 187 = .ok (.invokevirtual 75, 3) := by decide +kernel
theorem dX9_reads_190 : decode cX9_reads 190 = .ok (.iadd, 1) := by decide +kernel
theorem dX9_reads_191 : decode cX9_reads 191 = .ok (.bipush 48, 2) := by decide +kernel
theorem dX9_reads_193 : decode cX9_reads 193 = .ok (.isub, 1) := by decide +kernel
theorem dX9_reads_194 : decode cX9_reads 194 = .ok (.goto 7, 3) := by decide +kernel
theorem dX9_reads_197 : decode cX9_reads 197 = .ok (.aload_n 0, 1) := by decide +kernel
theorem dX9_reads_198 : decode cX9_reads 198 = .ok (.getfield 102, 3) := by decide +kernel
theorem dX9_reads_201 : decode cX9_reads 201 = .ok (.putfield 102, 3) := by decide +kernel
theorem dX9_reads_204 : decode cX9_reads 204 = .ok (.aload_n 0, 1) := by decide +kernel
theorem dX9_reads_205 : decode cX9_reads 205 = .ok (.dup, 1) := by decide +kernel
theorem dX9_reads_206 : decode cX9_reads 206 = .ok (.getfield 72, 3) := by decide +kernel
theorem dX9_reads_209 : decode cX9_reads 209 = .ok (.iconst 1, 1) := by decide +kernel
theorem dX9_reads_210 : decode cX9_reads 210 = .ok (.iadd, 1) := by decide +kernel
theorem dX9_reads_211 : decode cX9_reads 211 = .ok (.putfield 72, 3) := by decide +kernel
theorem dX9_reads_214 : decode cX9_reads 214 = .ok (.goto (-74), 3) := by decide +kernel
theorem dX9_reads_217 : decode cX9_reads 217 = .ok (.aload_n 0, 1) := by decide +kernel
theorem dX9_reads_218 : decode cX9_reads 218 = .ok (.aload_n 0, 1) := by decide +kernel
theorem dX9_reads_219 : decode cX9_reads 219 = .ok (.getfield 72, 3) := by decide +kernel
theorem dX9_reads_222 : decode cX9_reads 222 = .ok (.aload_n 0, 1) := by decide +kernel
theorem dX9_reads_223 : decode cX9_reads 223 = .ok (.getfield 66, 3) := by decide +kernel
theorem dX9_reads_226 : decode cX9_reads 226 = .ok (.isub, 1) := by decide +kernel
theorem dX9_reads_227 : decode cX9_reads 227 = .ok (.iconst 2, 1) := by decide +kernel
theorem dX9_reads_228 : decode cX9_reads 228 = .ok (.if_icmp .gt 7, 3) := by decide +kernel
theorem dX9_reads_231 : decode cX9_reads 231 = .ok (.iconst 1, 1) := by decide +kernel
theorem dX9_reads_232 : decode cX9_reads 232 = .ok (.goto 4, 3) := by decide +kernel
theorem dX9_reads_235 : decode cX9_reads 235 = .ok (.iconst 0, 1) := by decide +kernel
theorem dX9_reads_236 : decode cX9_reads 236 = .ok (.iconst 1, 1) := by decide +kernel
theorem dX9_reads_237 : decode cX9_reads 237 = .ok (.invokevirtual 105, 3) := by decide +kernel
theorem dX9_reads_240 : decode cX9_reads 240 = .ok (.goto 34, 3) := by decide +kernel
theorem dX9_reads_243 : decode cX9_reads 243 = .ok (.aload_n 0, 1) := by decide +kernel
theorem dX9_reads_244 : decode cX9_reads 244 = .ok (.iconst 3, 1) := by decide +kernel
theorem dX9_reads_245 : decode cX9_reads 245 = .ok (.putfield 91, 3) := by decide +kernel
theorem dX9_reads_248 : decode cX9_reads 248 = .ok (.aload_n 0, 1) := by decide +kernel
theorem dX9_reads_249 : decode cX9_reads 249 = .ok (.iload_n 1, 1) := by decide +kernel
theorem dX9_reads_250 : decode cX9_reads 250 = .ok (.bipush 59, 2) := by decide +kernel
theorem dX9_reads_252 : decode cX9_reads 252 = .ok (.if_icmp .ne 7, 3) := by decide +kernel
theorem dX9_reads_255 : decode cX9_reads 255 = .ok (.iconst 1, 1) := by decide +kernel
theorem dX9_reads_256 : decode cX9_reads 256 = .ok (.goto 4, 3) := by decide +kernel
theorem dX9_reads_259 : decode cX9_reads 259 = .ok (.iconst 0, 1) := by decide +kernel
theorem dX9_reads_260 : decode cX9_reads 260 = .ok (.iconst 1, 1) := by decide +kernel
theorem dX9_reads_261 : decode cX9_reads 261 = .ok (.invokevirtual 105, 3) := by decide +kernel
theorem dX9_reads_264 : decode cX9_reads 264 = .ok (.aload_n 0, 1) := by decide +kernel
theorem dX9_reads_265 : decode cX9_reads 265 = .ok (.dup, 1) := by decide +kernel
theorem dX9_reads_266 : decode cX9_reads 266 = .ok (.getfield 72, 3) := by decide +kernel
theorem dX9_reads_269 : decode cX9_reads 269 = .ok (.iconst 1, 1) := by decide +kernel
theorem dX9_reads_270 : decode cX9_reads 270 = .ok (.iadd, 1) := by decide +kernel
theorem dX9_reads_271 : decode cX9_reads 271 = .ok (.putfield 72, 3) := by decide +kernel
theorem dX9_reads_274 : decode cX9_reads 274 = .ok (.return_, 1) := by decide +kernel
def f_X9_reads_L8 (Λ : List Ly) (p0 : Nat) (k34 : Dt → Option Dt) : Nat → Dt → Option Dt
  | 0, _ => none
  | n + 1, d => if clsAt Λ p0 = some 9 then (Option.bind (f_X9_byteAt Λ d p0 (d.1 p0 7)) fun z4 => if z4 = (32 : Int32) then (f_X9_reads_L8 Λ p0 k34 n (pI d p0 7 ((d.1 p0 7) + (1 : Int32)))) else (k34 d)) else none
def f_X9_reads_L140 (Λ : List Ly) (p0 : Nat) (k217 : Dt → Option Dt) : Nat → Dt → Option Dt
  | 0, _ => none
  | n + 1, d => if clsAt Λ p0 = some 9 then (Option.bind (f_X9_byteAt Λ d p0 (d.1 p0 7)) fun z15 => if (f_X9_in (z15).toInt64 (48 : Int64) (57 : Int64)) = 0 then (k217 d) else (if (2 : Int32) ≤ ((d.1 p0 7) - (d.1 p0 8)) then (f_X9_reads_L140 Λ p0 k217 n (pI (pI d p0 10 (d.1 p0 10)) p0 7 (((pI d p0 10 (d.1 p0 10)).1 p0 7) + (1 : Int32)))) else (Option.bind (f_X9_byteAt Λ d p0 (d.1 p0 7)) fun z18 => f_X9_reads_L140 Λ p0 k217 n (pI (pI d p0 10 ((((10 : Int32) * (d.1 p0 10)) + z18) - (48 : Int32))) p0 7 (((pI d p0 10 ((((10 : Int32) * (d.1 p0 10)) + z18) - (48 : Int32))).1 p0 7) + (1 : Int32)))))) else none
def f_X9_reads_L82 (Λ : List Ly) (p0 : Nat) : Nat → Dt → Option Dt
  | 0, _ => none
  | n + 1, d => if clsAt Λ p0 = some 9 then (Option.bind (f_X9_byteAt Λ d p0 (d.1 p0 7)) fun z24 => if (f_X9_in (z24).toInt64 (97 : Int64) (122 : Int64)) = 0 then (some d) else (f_X9_reads_L82 Λ p0 n (pI d p0 7 ((d.1 p0 7) + (1 : Int32))))) else none
def f_X9_reads (Λ : List Ly) (d : Dt) (p0 : Nat) : Option Dt := if clsAt Λ p0 = some 9 then (if (d.1 p0 11) ≤ 0 then (f_X9_reads_L8 Λ p0 (fun d6 => Option.bind (f_X9_byteAt Λ (pI d6 p0 8 (d6.1 p0 7)) p0 ((pI d6 p0 8 (d6.1 p0 7)).1 p0 7)) fun z7 => if 0 ≤ z7 then (if (f_X9_in (z7).toInt64 (97 : Int64) (122 : Int64)) = 0 then (if (f_X9_in (z7).toInt64 (48 : Int64) (57 : Int64)) = 0 then (if z7 = (59 : Int32) then (Option.bind (f_X9_needs Λ (pI (pI d6 p0 8 (d6.1 p0 7)) p0 9 (3 : Int32)) p0 (1 : Int32) (1 : Int32)) fun z13 => some (pI z13 p0 7 ((z13.1 p0 7) + (1 : Int32)))) else (Option.bind (f_X9_needs Λ (pI (pI d6 p0 8 (d6.1 p0 7)) p0 9 (3 : Int32)) p0 (0 : Int32) (1 : Int32)) fun z12 => some (pI z12 p0 7 ((z12.1 p0 7) + (1 : Int32))))) else (f_X9_reads_L140 Λ p0 (fun d19 => if (2 : Int32) < ((d19.1 p0 7) - (d19.1 p0 8)) then (Option.bind (f_X9_needs Λ d19 p0 (0 : Int32) (1 : Int32)) fun z21 => some z21) else (Option.bind (f_X9_needs Λ d19 p0 (1 : Int32) (1 : Int32)) fun z22 => some z22)) FU (pI (pI (pI d6 p0 8 (d6.1 p0 7)) p0 9 (2 : Int32)) p0 10 (0 : Int32)))) else (f_X9_reads_L82 Λ p0 FU (pI (pI d6 p0 8 (d6.1 p0 7)) p0 9 (1 : Int32)))) else (some (pI (pI d6 p0 8 (d6.1 p0 7)) p0 9 (0 : Int32)))) FU d) else (some d)) else none
set_option maxHeartbeats 4000000 in
set_option maxRecDepth 100000 in
theorem w_X9_reads_L8 {p : Program} {l : Launch} {e : Env} {s : State} {m : MethodId} {args : Array Value} {below : List Frame} {meth : Method} {c : Code} {Γ : Cx} {Λ : List Ly} {z : Dt} (C0 : Ct Γ p s m args c cX9_reads 2 "SeasonBoundModel") (hr : meth.sig.returnType = none) (hlocks : meth.locks = false) (k34 : Dt → Option Dt) (p0 : Nat)
    (hk34 : ∀  (d : Dt), (k34 d = some z) → ∀ (H : Heap) (locs : List Loc) (ls : Array Slot), Hs Γ Λ d s H locs → lv_has ls 2 [(0, .ref (ad Γ.2.2.1 p0))] → W p l e { frames := 1, cells := 0, slots := 0, locals := 25 } s m args below meth c H locs 0 0 (MQ below (QN Γ Λ z none) args s 0 0 (AP Γ)) (F0 m 34 ls [])) :
    ∀ (n : Nat)  (d : Dt), f_X9_reads_L8 Λ p0 k34 n d = some z → ∀ (H : Heap) (locs : List Loc) (ls : Array Slot), Hs Γ Λ d s H locs → lv_has ls 2 [(0, .ref (ad Γ.2.2.1 p0))] → W p l e { frames := 1, cells := 0, slots := 0, locals := 25 } s m args below meth c H locs 0 0 (MQ below (QN Γ Λ z none) args s 0 0 (AP Γ)) (F0 m 8 ls []) := by
  obtain ⟨hx, hb, hml, hown, hts, hK⟩ := id C0
  intro n
  induction n with
  | zero =>
    intro d hf
    cases hf
  | succ n ih =>
    intro d hf H locs ls hH hl
    unfold f_X9_reads_L8 at hf
    refine lv_aload_n hx hb dX9_reads_8 rfl (lv_at hl 0 rfl) ?_
    refine lv_aload_n hx hb dX9_reads_9 rfl (lv_at hl 0 rfl) ?_
    obtain ⟨g3, hf⟩ := gd hf
    refine r_geti C0 hH fl_X9_72 g3 rfl dX9_reads_10 ?_
    obtain ⟨z4, h4, hf⟩ := ob hf
    refine r_callVi (rest := []) C0 hH (c_X9_byteAt Γ l Λ d p0 (d.1 p0 7) z4 h4) cv_X9_75 g3 (by decide) rfl hl.1 rfl (Nat.le_of_ble_eq_true rfl) dX9_reads_13 (by decide) (fun H locs hH => ?_)
    refine lv_bipush (v := (32 : Int32)) hx hb dX9_reads_16 (by decide) ?_
    refine lv_icmp_ne (tgt := 34) hx hb dX9_reads_18 (by decide) (fun c5 => ?_) (fun c5 => ?_)
    · replace hf := ie hf c5
      exact hk34 d hf _ _ _ hH (lv_sub hl [0] rfl)
    · replace hf := it hf c5
      refine lv_aload_n hx hb dX9_reads_21 rfl (lv_at hl 0 rfl) ?_
      refine lv_dup hx hb dX9_reads_22 rfl ?_
      refine r_geti C0 hH fl_X9_72 g3 rfl dX9_reads_23 ?_
      refine lv_iconst (v := (1 : Int32)) hx hb dX9_reads_26 (by decide) ?_
      refine lv_iadd hx hb dX9_reads_27 ?_
      refine r_puti C0 hH fw_X9_72 g3 rfl dX9_reads_28 (fun H locs hH => ?_)
      refine lv_goto (tgt := 8) hx hb dX9_reads_31 (by decide) ?_
      exact ih (pI d p0 7 ((d.1 p0 7) + (1 : Int32))) hf _ _ _ hH (lv_sub hl [0] rfl)
set_option maxHeartbeats 4000000 in
set_option maxRecDepth 100000 in
theorem w_X9_reads_L140 {p : Program} {l : Launch} {e : Env} {s : State} {m : MethodId} {args : Array Value} {below : List Frame} {meth : Method} {c : Code} {Γ : Cx} {Λ : List Ly} {z : Dt} (C0 : Ct Γ p s m args c cX9_reads 2 "SeasonBoundModel") (hr : meth.sig.returnType = none) (hlocks : meth.locks = false) (k217 : Dt → Option Dt) (p0 : Nat)
    (hk217 : ∀  (d : Dt), (k217 d = some z) → ∀ (H : Heap) (locs : List Loc) (ls : Array Slot), Hs Γ Λ d s H locs → lv_has ls 2 [(0, .ref (ad Γ.2.2.1 p0))] → W p l e { frames := 1, cells := 0, slots := 0, locals := 25 } s m args below meth c H locs 0 0 (MQ below (QN Γ Λ z none) args s 0 0 (AP Γ)) (F0 m 217 ls [])) :
    ∀ (n : Nat)  (d : Dt), f_X9_reads_L140 Λ p0 k217 n d = some z → ∀ (H : Heap) (locs : List Loc) (ls : Array Slot), Hs Γ Λ d s H locs → lv_has ls 2 [(0, .ref (ad Γ.2.2.1 p0))] → W p l e { frames := 1, cells := 0, slots := 0, locals := 25 } s m args below meth c H locs 0 0 (MQ below (QN Γ Λ z none) args s 0 0 (AP Γ)) (F0 m 140 ls []) := by
  obtain ⟨hx, hb, hml, hown, hts, hK⟩ := id C0
  intro n
  induction n with
  | zero =>
    intro d hf
    cases hf
  | succ n ih =>
    intro d hf H locs ls hH hl
    unfold f_X9_reads_L140 at hf
    refine lv_aload_n hx hb dX9_reads_140 rfl (lv_at hl 0 rfl) ?_
    refine lv_aload_n hx hb dX9_reads_141 rfl (lv_at hl 0 rfl) ?_
    obtain ⟨g14, hf⟩ := gd hf
    refine r_geti C0 hH fl_X9_72 g14 rfl dX9_reads_142 ?_
    obtain ⟨z15, h15, hf⟩ := ob hf
    refine r_callVi (rest := []) C0 hH (c_X9_byteAt Γ l Λ d p0 (d.1 p0 7) z15 h15) cv_X9_75 g14 (by decide) rfl hl.1 rfl (Nat.le_of_ble_eq_true rfl) dX9_reads_145 (by decide) (fun H locs hH => ?_)
    refine lv_i2l (v := (z15).toInt64) hx hb dX9_reads_148 rfl ?_
    refine lv_ldc2 hx hb hown (hts _ kl_X9_98) dX9_reads_149 ?_
    refine lv_ldc2 hx hb hown (hts _ kl_X9_100) dX9_reads_152 ?_
    refine r_callSi (rest := []) C0 hH (c_X9_in Γ l Λ d (z15).toInt64 (48 : Int64) (57 : Int64)) cs_X9_56 (by decide) rfl hl.1 rfl (Nat.le_of_ble_eq_true rfl) dX9_reads_155 (by decide) (fun H locs hH => ?_)
    refine lv_if_eq (tgt := 217) hx hb dX9_reads_158 (by decide) (fun c16 => ?_) (fun c16 => ?_)
    · replace hf := it hf c16
      exact hk217 d hf _ _ _ hH (lv_sub hl [0] rfl)
    · replace hf := ie hf c16
      refine lv_aload_n hx hb dX9_reads_161 rfl (lv_at hl 0 rfl) ?_
      refine lv_aload_n hx hb dX9_reads_162 rfl (lv_at hl 0 rfl) ?_
      refine r_geti C0 hH fl_X9_72 g14 rfl dX9_reads_163 ?_
      refine lv_aload_n hx hb dX9_reads_166 rfl (lv_at hl 0 rfl) ?_
      refine r_geti C0 hH fl_X9_66 g14 rfl dX9_reads_167 ?_
      refine lv_isub hx hb dX9_reads_170 ?_
      refine lv_iconst (v := (2 : Int32)) hx hb dX9_reads_171 (by decide) ?_
      refine lv_icmp_ge (tgt := 197) hx hb dX9_reads_172 (by decide) (fun c17 => ?_) (fun c17 => ?_)
      · replace hf := it hf c17
        refine lv_aload_n hx hb dX9_reads_197 rfl (lv_at hl 0 rfl) ?_
        refine r_geti C0 hH fl_X9_102 g14 rfl dX9_reads_198 ?_
        refine r_puti C0 hH fw_X9_102 g14 rfl dX9_reads_201 (fun H locs hH => ?_)
        refine lv_aload_n hx hb dX9_reads_204 rfl (lv_at hl 0 rfl) ?_
        refine lv_dup hx hb dX9_reads_205 rfl ?_
        refine r_geti C0 hH fl_X9_72 g14 rfl dX9_reads_206 ?_
        refine lv_iconst (v := (1 : Int32)) hx hb dX9_reads_209 (by decide) ?_
        refine lv_iadd hx hb dX9_reads_210 ?_
        refine r_puti C0 hH fw_X9_72 g14 rfl dX9_reads_211 (fun H locs hH => ?_)
        refine lv_goto (tgt := 140) hx hb dX9_reads_214 (by decide) ?_
        exact ih (pI (pI d p0 10 (d.1 p0 10)) p0 7 (((pI d p0 10 (d.1 p0 10)).1 p0 7) + (1 : Int32))) hf _ _ _ hH (lv_sub hl [0] rfl)
      · replace hf := ie hf c17
        refine lv_bipush (v := (10 : Int32)) hx hb dX9_reads_175 (by decide) ?_
        refine lv_aload_n hx hb dX9_reads_177 rfl (lv_at hl 0 rfl) ?_
        refine r_geti C0 hH fl_X9_102 g14 rfl dX9_reads_178 ?_
        refine lv_imul hx hb dX9_reads_181 ?_
        refine lv_aload_n hx hb dX9_reads_182 rfl (lv_at hl 0 rfl) ?_
        refine lv_aload_n hx hb dX9_reads_183 rfl (lv_at hl 0 rfl) ?_
        refine r_geti C0 hH fl_X9_72 g14 rfl dX9_reads_184 ?_
        obtain ⟨z18, h18, hf⟩ := ob hf
        refine r_callVi (rest := [.int ((10 : Int32) * (d.1 p0 10)), .ref (ad Γ.2.2.1 p0)]) C0 hH (c_X9_byteAt Γ l Λ d p0 (d.1 p0 7) z18 h18) cv_X9_75 g14 (by decide) rfl hl.1 rfl (Nat.le_of_ble_eq_true rfl) dX9_reads_187 (by decide) (fun H locs hH => ?_)
        refine lv_iadd hx hb dX9_reads_190 ?_
        refine lv_bipush (v := (48 : Int32)) hx hb dX9_reads_191 (by decide) ?_
        refine lv_isub hx hb dX9_reads_193 ?_
        refine lv_goto (tgt := 201) hx hb dX9_reads_194 (by decide) ?_
        refine r_puti C0 hH fw_X9_102 g14 rfl dX9_reads_201 (fun H locs hH => ?_)
        refine lv_aload_n hx hb dX9_reads_204 rfl (lv_at hl 0 rfl) ?_
        refine lv_dup hx hb dX9_reads_205 rfl ?_
        refine r_geti C0 hH fl_X9_72 g14 rfl dX9_reads_206 ?_
        refine lv_iconst (v := (1 : Int32)) hx hb dX9_reads_209 (by decide) ?_
        refine lv_iadd hx hb dX9_reads_210 ?_
        refine r_puti C0 hH fw_X9_72 g14 rfl dX9_reads_211 (fun H locs hH => ?_)
        refine lv_goto (tgt := 140) hx hb dX9_reads_214 (by decide) ?_
        exact ih (pI (pI d p0 10 ((((10 : Int32) * (d.1 p0 10)) + z18) - (48 : Int32))) p0 7 (((pI d p0 10 ((((10 : Int32) * (d.1 p0 10)) + z18) - (48 : Int32))).1 p0 7) + (1 : Int32))) hf _ _ _ hH (lv_sub hl [0] rfl)
set_option maxHeartbeats 4000000 in
set_option maxRecDepth 100000 in
theorem w_X9_reads_L82 {p : Program} {l : Launch} {e : Env} {s : State} {m : MethodId} {args : Array Value} {below : List Frame} {meth : Method} {c : Code} {Γ : Cx} {Λ : List Ly} {z : Dt} (C0 : Ct Γ p s m args c cX9_reads 2 "SeasonBoundModel") (hr : meth.sig.returnType = none) (hlocks : meth.locks = false) (p0 : Nat) :
    ∀ (n : Nat)  (d : Dt), f_X9_reads_L82 Λ p0 n d = some z → ∀ (H : Heap) (locs : List Loc) (ls : Array Slot), Hs Γ Λ d s H locs → lv_has ls 2 [(0, .ref (ad Γ.2.2.1 p0))] → W p l e { frames := 1, cells := 0, slots := 0, locals := 25 } s m args below meth c H locs 0 0 (MQ below (QN Γ Λ z none) args s 0 0 (AP Γ)) (F0 m 82 ls []) := by
  obtain ⟨hx, hb, hml, hown, hts, hK⟩ := id C0
  intro n
  induction n with
  | zero =>
    intro d hf
    cases hf
  | succ n ih =>
    intro d hf H locs ls hH hl
    unfold f_X9_reads_L82 at hf
    refine lv_aload_n hx hb dX9_reads_82 rfl (lv_at hl 0 rfl) ?_
    refine lv_aload_n hx hb dX9_reads_83 rfl (lv_at hl 0 rfl) ?_
    obtain ⟨g23, hf⟩ := gd hf
    refine r_geti C0 hH fl_X9_72 g23 rfl dX9_reads_84 ?_
    obtain ⟨z24, h24, hf⟩ := ob hf
    refine r_callVi (rest := []) C0 hH (c_X9_byteAt Γ l Λ d p0 (d.1 p0 7) z24 h24) cv_X9_75 g23 (by decide) rfl hl.1 rfl (Nat.le_of_ble_eq_true rfl) dX9_reads_87 (by decide) (fun H locs hH => ?_)
    refine lv_i2l (v := (z24).toInt64) hx hb dX9_reads_90 rfl ?_
    refine lv_ldc2 hx hb hown (hts _ kl_X9_94) dX9_reads_91 ?_
    refine lv_ldc2 hx hb hown (hts _ kl_X9_96) dX9_reads_94 ?_
    refine r_callSi (rest := []) C0 hH (c_X9_in Γ l Λ d (z24).toInt64 (97 : Int64) (122 : Int64)) cs_X9_56 (by decide) rfl hl.1 rfl (Nat.le_of_ble_eq_true rfl) dX9_reads_97 (by decide) (fun H locs hH => ?_)
    refine lv_if_eq (tgt := 274) hx hb dX9_reads_100 (by decide) (fun c25 => ?_) (fun c25 => ?_)
    · replace hf := it hf c25
      obtain rfl := Option.some.inj hf
      exact r_vret C0 hr hlocks hH dX9_reads_274
    · replace hf := ie hf c25
      refine lv_aload_n hx hb dX9_reads_103 rfl (lv_at hl 0 rfl) ?_
      refine lv_dup hx hb dX9_reads_104 rfl ?_
      refine r_geti C0 hH fl_X9_72 g23 rfl dX9_reads_105 ?_
      refine lv_iconst (v := (1 : Int32)) hx hb dX9_reads_108 (by decide) ?_
      refine lv_iadd hx hb dX9_reads_109 ?_
      refine r_puti C0 hH fw_X9_72 g23 rfl dX9_reads_110 (fun H locs hH => ?_)
      refine lv_goto (tgt := 82) hx hb dX9_reads_113 (by decide) ?_
      exact ih (pI d p0 7 ((d.1 p0 7) + (1 : Int32))) hf _ _ _ hH (lv_sub hl [0] rfl)
set_option maxHeartbeats 4000000 in
set_option maxRecDepth 100000 in
theorem c_X9_reads (Γ : Cx) (l : Launch) (Λ : List Ly) (d : Dt) (p0 : Nat) (z : Dt) (hf : f_X9_reads Λ d p0 = some z) : Cn Γ l yX9_reads cX9_reads 2 none 1 25 [.ref (ad Γ.2.2.1 p0)] Λ d none z := by
  refine Cn.of (own := "SeasonBoundModel") (by decide +kernel) rfl (Nat.le_of_ble_eq_true rfl) ?_
  intro p e s m below meth c C0 hr hlocks hH ls hl
  have hl : lv_has ls 2 [(0, .ref (ad Γ.2.2.1 p0))] := hl
  obtain ⟨hx, hb, hml, hown, hts, hK⟩ := id C0
  unfold f_X9_reads at hf
  refine lv_aload_n hx hb dX9_reads_0 rfl (lv_at hl 0 rfl) ?_
  obtain ⟨g1, hf⟩ := gd hf
  refine r_geti C0 hH fl_X9_63 g1 rfl dX9_reads_1 ?_
  refine lv_if_le (tgt := 8) hx hb dX9_reads_4 (by decide) (fun c2 => ?_) (fun c2 => ?_)
  · replace hf := it hf c2
    refine w_X9_reads_L8 C0 hr hlocks _ p0 ?k34 FU d hf _ _ _ hH (lv_sub hl [0] rfl)
    case k34 =>
      intro d6 hf H locs ls hH hl
      refine lv_aload_n hx hb dX9_reads_34 rfl (lv_at hl 0 rfl) ?_
      refine lv_aload_n hx hb dX9_reads_35 rfl (lv_at hl 0 rfl) ?_
      refine r_geti C0 hH fl_X9_72 g1 rfl dX9_reads_36 ?_
      refine r_puti C0 hH fw_X9_66 g1 rfl dX9_reads_39 (fun H locs hH => ?_)
      refine lv_aload_n hx hb dX9_reads_42 rfl (lv_at hl 0 rfl) ?_
      refine lv_aload_n hx hb dX9_reads_43 rfl (lv_at hl 0 rfl) ?_
      refine r_geti C0 hH fl_X9_72 g1 rfl dX9_reads_44 ?_
      obtain ⟨z7, h7, hf⟩ := ob hf
      refine r_callVi (rest := []) C0 hH (c_X9_byteAt Γ l Λ (pI d6 p0 8 (d6.1 p0 7)) p0 ((pI d6 p0 8 (d6.1 p0 7)).1 p0 7) z7 h7) cv_X9_75 g1 (by decide) rfl hl.1 rfl (Nat.le_of_ble_eq_true rfl) dX9_reads_47 (by decide) (fun H locs hH => ?_)
      refine lv_istore_n (lv' := [(1, .int z7), (0, .ref (ad Γ.2.2.1 p0))]) hx hb dX9_reads_50 rfl hl (by decide) rfl (fun ls hl => ?_)
      refine lv_iload_n hx hb dX9_reads_51 rfl (lv_at hl 0 rfl) ?_
      refine lv_if_ge (tgt := 63) hx hb dX9_reads_52 (by decide) (fun c8 => ?_) (fun c8 => ?_)
      · replace hf := it hf c8
        refine lv_iload_n hx hb dX9_reads_63 rfl (lv_at hl 0 rfl) ?_
        refine lv_i2l (v := (z7).toInt64) hx hb dX9_reads_64 rfl ?_
        refine lv_ldc2 hx hb hown (hts _ kl_X9_94) dX9_reads_65 ?_
        refine lv_ldc2 hx hb hown (hts _ kl_X9_96) dX9_reads_68 ?_
        refine r_callSi (rest := []) C0 hH (c_X9_in Γ l Λ (pI d6 p0 8 (d6.1 p0 7)) (z7).toInt64 (97 : Int64) (122 : Int64)) cs_X9_56 (by decide) rfl hl.1 rfl (Nat.le_of_ble_eq_true rfl) dX9_reads_71 (by decide) (fun H locs hH => ?_)
        refine lv_if_eq (tgt := 116) hx hb dX9_reads_74 (by decide) (fun c9 => ?_) (fun c9 => ?_)
        · replace hf := it hf c9
          refine lv_iload_n hx hb dX9_reads_116 rfl (lv_at hl 0 rfl) ?_
          refine lv_i2l (v := (z7).toInt64) hx hb dX9_reads_117 rfl ?_
          refine lv_ldc2 hx hb hown (hts _ kl_X9_98) dX9_reads_118 ?_
          refine lv_ldc2 hx hb hown (hts _ kl_X9_100) dX9_reads_121 ?_
          refine r_callSi (rest := []) C0 hH (c_X9_in Γ l Λ (pI d6 p0 8 (d6.1 p0 7)) (z7).toInt64 (48 : Int64) (57 : Int64)) cs_X9_56 (by decide) rfl hl.1 rfl (Nat.le_of_ble_eq_true rfl) dX9_reads_124 (by decide) (fun H locs hH => ?_)
          refine lv_if_eq (tgt := 243) hx hb dX9_reads_127 (by decide) (fun c10 => ?_) (fun c10 => ?_)
          · replace hf := it hf c10
            refine lv_aload_n hx hb dX9_reads_243 rfl (lv_at hl 1 rfl) ?_
            refine lv_iconst (v := (3 : Int32)) hx hb dX9_reads_244 (by decide) ?_
            refine r_puti C0 hH fw_X9_91 g1 rfl dX9_reads_245 (fun H locs hH => ?_)
            refine lv_aload_n hx hb dX9_reads_248 rfl (lv_at hl 1 rfl) ?_
            refine lv_iload_n hx hb dX9_reads_249 rfl (lv_at hl 0 rfl) ?_
            refine lv_bipush (v := (59 : Int32)) hx hb dX9_reads_250 (by decide) ?_
            refine lv_icmp_ne (tgt := 259) hx hb dX9_reads_252 (by decide) (fun c11 => ?_) (fun c11 => ?_)
            · replace hf := ie hf c11
              refine lv_iconst (v := (0 : Int32)) hx hb dX9_reads_259 (by decide) ?_
              refine lv_iconst (v := (1 : Int32)) hx hb dX9_reads_260 (by decide) ?_
              obtain ⟨z12, h12, hf⟩ := ob hf
              refine r_callVv (rest := []) C0 hH (c_X9_needs Γ l Λ (pI (pI d6 p0 8 (d6.1 p0 7)) p0 9 (3 : Int32)) p0 (0 : Int32) (1 : Int32) z12 h12) cv_X9_105 g1 (by decide) rfl hl.1 rfl (Nat.le_of_ble_eq_true rfl) dX9_reads_261 (by decide) (fun H locs hH => ?_)
              refine lv_aload_n hx hb dX9_reads_264 rfl (lv_at hl 1 rfl) ?_
              refine lv_dup hx hb dX9_reads_265 rfl ?_
              refine r_geti C0 hH fl_X9_72 g1 rfl dX9_reads_266 ?_
              refine lv_iconst (v := (1 : Int32)) hx hb dX9_reads_269 (by decide) ?_
              refine lv_iadd hx hb dX9_reads_270 ?_
              refine r_puti C0 hH fw_X9_72 g1 rfl dX9_reads_271 (fun H locs hH => ?_)
              obtain rfl := Option.some.inj hf
              exact r_vret C0 hr hlocks hH dX9_reads_274
            · replace hf := it hf c11
              refine lv_iconst (v := (1 : Int32)) hx hb dX9_reads_255 (by decide) ?_
              refine lv_goto (tgt := 260) hx hb dX9_reads_256 (by decide) ?_
              refine lv_iconst (v := (1 : Int32)) hx hb dX9_reads_260 (by decide) ?_
              obtain ⟨z13, h13, hf⟩ := ob hf
              refine r_callVv (rest := []) C0 hH (c_X9_needs Γ l Λ (pI (pI d6 p0 8 (d6.1 p0 7)) p0 9 (3 : Int32)) p0 (1 : Int32) (1 : Int32) z13 h13) cv_X9_105 g1 (by decide) rfl hl.1 rfl (Nat.le_of_ble_eq_true rfl) dX9_reads_261 (by decide) (fun H locs hH => ?_)
              refine lv_aload_n hx hb dX9_reads_264 rfl (lv_at hl 1 rfl) ?_
              refine lv_dup hx hb dX9_reads_265 rfl ?_
              refine r_geti C0 hH fl_X9_72 g1 rfl dX9_reads_266 ?_
              refine lv_iconst (v := (1 : Int32)) hx hb dX9_reads_269 (by decide) ?_
              refine lv_iadd hx hb dX9_reads_270 ?_
              refine r_puti C0 hH fw_X9_72 g1 rfl dX9_reads_271 (fun H locs hH => ?_)
              obtain rfl := Option.some.inj hf
              exact r_vret C0 hr hlocks hH dX9_reads_274
          · replace hf := ie hf c10
            refine lv_aload_n hx hb dX9_reads_130 rfl (lv_at hl 1 rfl) ?_
            refine lv_iconst (v := (2 : Int32)) hx hb dX9_reads_131 (by decide) ?_
            refine r_puti C0 hH fw_X9_91 g1 rfl dX9_reads_132 (fun H locs hH => ?_)
            refine lv_aload_n hx hb dX9_reads_135 rfl (lv_at hl 1 rfl) ?_
            refine lv_iconst (v := (0 : Int32)) hx hb dX9_reads_136 (by decide) ?_
            refine r_puti C0 hH fw_X9_102 g1 rfl dX9_reads_137 (fun H locs hH => ?_)
            refine w_X9_reads_L140 C0 hr hlocks _ p0 ?k217 FU (pI (pI (pI d6 p0 8 (d6.1 p0 7)) p0 9 (2 : Int32)) p0 10 (0 : Int32)) hf _ _ _ hH (lv_sub hl [1] rfl)
            case k217 =>
              intro d19 hf H locs ls hH hl
              refine lv_aload_n hx hb dX9_reads_217 rfl (lv_at hl 0 rfl) ?_
              refine lv_aload_n hx hb dX9_reads_218 rfl (lv_at hl 0 rfl) ?_
              refine r_geti C0 hH fl_X9_72 g1 rfl dX9_reads_219 ?_
              refine lv_aload_n hx hb dX9_reads_222 rfl (lv_at hl 0 rfl) ?_
              refine r_geti C0 hH fl_X9_66 g1 rfl dX9_reads_223 ?_
              refine lv_isub hx hb dX9_reads_226 ?_
              refine lv_iconst (v := (2 : Int32)) hx hb dX9_reads_227 (by decide) ?_
              refine lv_icmp_gt (tgt := 235) hx hb dX9_reads_228 (by decide) (fun c20 => ?_) (fun c20 => ?_)
              · replace hf := it hf c20
                refine lv_iconst (v := (0 : Int32)) hx hb dX9_reads_235 (by decide) ?_
                refine lv_iconst (v := (1 : Int32)) hx hb dX9_reads_236 (by decide) ?_
                obtain ⟨z21, h21, hf⟩ := ob hf
                refine r_callVv (rest := []) C0 hH (c_X9_needs Γ l Λ d19 p0 (0 : Int32) (1 : Int32) z21 h21) cv_X9_105 g1 (by decide) rfl hl.1 rfl (Nat.le_of_ble_eq_true rfl) dX9_reads_237 (by decide) (fun H locs hH => ?_)
                refine lv_goto (tgt := 274) hx hb dX9_reads_240 (by decide) ?_
                obtain rfl := Option.some.inj hf
                exact r_vret C0 hr hlocks hH dX9_reads_274
              · replace hf := ie hf c20
                refine lv_iconst (v := (1 : Int32)) hx hb dX9_reads_231 (by decide) ?_
                refine lv_goto (tgt := 236) hx hb dX9_reads_232 (by decide) ?_
                refine lv_iconst (v := (1 : Int32)) hx hb dX9_reads_236 (by decide) ?_
                obtain ⟨z22, h22, hf⟩ := ob hf
                refine r_callVv (rest := []) C0 hH (c_X9_needs Γ l Λ d19 p0 (1 : Int32) (1 : Int32) z22 h22) cv_X9_105 g1 (by decide) rfl hl.1 rfl (Nat.le_of_ble_eq_true rfl) dX9_reads_237 (by decide) (fun H locs hH => ?_)
                refine lv_goto (tgt := 274) hx hb dX9_reads_240 (by decide) ?_
                obtain rfl := Option.some.inj hf
                exact r_vret C0 hr hlocks hH dX9_reads_274
        · replace hf := ie hf c9
          refine lv_aload_n hx hb dX9_reads_77 rfl (lv_at hl 1 rfl) ?_
          refine lv_iconst (v := (1 : Int32)) hx hb dX9_reads_78 (by decide) ?_
          refine r_puti C0 hH fw_X9_91 g1 rfl dX9_reads_79 (fun H locs hH => ?_)
          refine w_X9_reads_L82 C0 hr hlocks p0 FU (pI (pI d6 p0 8 (d6.1 p0 7)) p0 9 (1 : Int32)) hf _ _ _ hH (lv_sub hl [1] rfl)
      · replace hf := ie hf c8
        refine lv_aload_n hx hb dX9_reads_55 rfl (lv_at hl 1 rfl) ?_
        refine lv_iconst (v := (0 : Int32)) hx hb dX9_reads_56 (by decide) ?_
        refine r_puti C0 hH fw_X9_91 g1 rfl dX9_reads_57 (fun H locs hH => ?_)
        refine lv_goto (tgt := 274) hx hb dX9_reads_60 (by decide) ?_
        obtain rfl := Option.some.inj hf
        exact r_vret C0 hr hlocks hH dX9_reads_274
  · replace hf := ie hf c2
    obtain rfl := Option.some.inj hf
    exact r_vret C0 hr hlocks hH dX9_reads_7
