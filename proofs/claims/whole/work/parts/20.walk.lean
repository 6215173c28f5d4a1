theorem dX9_count_0 : decode cX9_count 0 = .ok (.aload_n 0, 1) := by decide +kernel
theorem dX9_count_1 : decode cX9_count 1 = .ok (.invokevirtual 177, 3) := by decide +kernel
theorem dX9_count_4 : decode cX9_count 4 = .ok (.iconst 0, 1) := by decide +kernel
theorem dX9_count_5 : decode cX9_count 5 = .ok (.istore_n 2, 1) := by decide +kernel
theorem dX9_count_6 : decode cX9_count 6 = .ok (.iconst 0, 1) := by decide +kernel
theorem dX9_count_7 : decode cX9_count 7 = .ok (.istore_n 3, 1) := by decide +kernel
theorem dX9_count_8 : decode cX9_count 8 = .ok (.iload_n 3, 1) := by decide +kernel
theorem dX9_count_9 : decode cX9_count 9 = .ok (.iconst 4, 1) := by decide +kernel
theorem dX9_count_10 : decode cX9_count 10 = .ok (.if_icmp .ge 22, 3) := by decide +kernel
theorem dX9_count_13 : decode cX9_count 13 = .ok (.iload_n 2, 1) := by decide +kernel
theorem dX9_count_14 : decode cX9_count 14 = .ok (.aload_n 0, 1) := by decide +kernel
theorem dX9_count_15 : decode cX9_count 15 = .ok (.getfield 13, 3) := by decide +kernel
theorem dX9_count_18 : decode cX9_count 18 = .ok (.iconst 3, 1) := by decide +kernel
theorem dX9_count_19 : decode cX9_count 19 = .ok (.iload_n 3, 1) := by decide +kernel
theorem dX9_count_20 : decode cX9_count 20 = .ok (.imul, 1) := by decide +kernel
theorem dX9_count_21 : decode cX9_count 21 = .ok (.iconst 0, 1) := by decide +kernel
theorem dX9_count_22 : decode cX9_count 22 = .ok (.iadd, 1) := by decide +kernel
theorem dX9_count_23 : decode cX9_count 23 = .ok (.iaload, 1) := by decide +kernel
theorem dX9_count_24 : decode cX9_count 24 = .ok (.iadd, 1) := by decide +kernel
theorem dX9_count_25 : decode cX9_count 25 = .ok (.istore_n 2, 1) := by decide +kernel
theorem dX9_count_26 : decode cX9_count 26 = .ok (.iinc 3 1, 3) := by decide +kernel
theorem dX9_count_29 : decode cX9_count 29 = .ok (.goto (-21), 3) := by decide +kernel
theorem dX9_count_32 : decode cX9_count 32 = .ok (.iload_n 1, 1) := by decide +kernel
theorem dX9_count_33 : decode cX9_count 33 = .ok (.tableswitch 103 0 5 #[39, 47, 67, 72, 95, 97], 39) := by decide +kernel
theorem dX9_count_72 : decode cX9_count 72 = .ok (.aload_n 0, 1) := by decide +kernel
theorem dX9_count_73 : decode cX9_count 73 = .ok (.getfield 7, 3) := by decide +kernel
theorem dX9_count_76 : decode cX9_count 76 = .ok (.bipush 41, 2) := by decide +kernel
theorem dX9_count_78 : decode cX9_count 78 = .ok (.iaload, 1) := by decide +kernel
theorem dX9_count_79 : decode cX9_count 79 = .ok (.ireturn, 1) := by decide +kernel
theorem dX9_count_80 : decode cX9_count 80 = .ok (.aload_n 0, 1) := by decide +kernel
theorem dX9_count_81 : decode cX9_count 81 = .ok (.getfield 16, 3) := by decide +kernel
theorem dX9_count_84 : decode cX9_count 84 = .ok (.iconst 0, 1) := by decide +kernel
theorem dX9_count_85 : decode cX9_count 85 = .ok (.baload, 1) := by decide +kernel
theorem dX9_count_86 : decode cX9_count 86 = .ok (.invokestatic 146, 3) := by decide +kernel
theorem dX9_count_89 : decode cX9_count 89 = .ok (.aload_n 0, 1) := by decide +kernel
theorem dX9_count_90 : decode cX9_count 90 = .ok (.getfield 16, 3) := by decide +kernel
theorem dX9_count_93 : decode cX9_count 93 = .ok (.iconst 1, 1) := by decide +kernel
theorem dX9_count_94 : decode cX9_count 94 = .ok (.baload, 1) := by decide +kernel
theorem dX9_count_95 : decode cX9_count 95 = .ok (.invokestatic 146, 3) := by decide +kernel
theorem dX9_count_98 : decode cX9_count 98 = .ok (.iadd, 1) := by decide +kernel
theorem dX9_count_99 : decode cX9_count 99 = .ok (.ireturn, 1) := by decide +kernel
theorem dX9_count_100 : decode cX9_count 100 = .ok (.aload_n 0, 1) := by decide +kernel
theorem dX9_count_101 : decode cX9_count 101 = .ok (.getfield 60, 3) := by decide +kernel
theorem dX9_count_104 : decode cX9_count 104 = .ok (.ireturn, 1) := by decide +kernel
theorem dX9_count_105 : decode cX9_count 105 = .ok (.aload_n 0, 1) := by decide +kernel
theorem dX9_count_106 : decode cX9_count 106 = .ok (.getfield 32, 3) := by decide +kernel
theorem dX9_count_109 : decode cX9_count 109 = .ok (.iconst 0, 1) := by decide +kernel
theorem dX9_count_110 : decode cX9_count 110 = .ok (.iaload, 1) := by decide +kernel
theorem dX9_count_111 : decode cX9_count 111 = .ok (.bipush (-4), 2) := by decide +kernel
theorem dX9_count_113 : decode cX9_count 113 = .ok (.if_icmp .ne 8, 3) := by decide +kernel
theorem dX9_count_116 : decode cX9_count 116 = .ok (.bipush (-4), 2) := by decide +kernel
theorem dX9_count_118 : decode cX9_count 118 = .ok (.goto 9, 3) := by decide +kernel
theorem dX9_count_121 : decode cX9_count 121 = .ok (.aload_n 0, 1) := by decide +kernel
theorem dX9_count_122 : decode cX9_count 122 = .ok (.getfield 35, 3) := by decide +kernel
theorem dX9_count_125 : decode cX9_count 125 = .ok (.iconst 0, 1) := by decide +kernel
theorem dX9_count_126 : decode cX9_count 126 = .ok (.iaload, 1) := by decide +kernel
theorem dX9_count_127 : decode cX9_count 127 = .ok (.ireturn, 1) := by decide +kernel
theorem dX9_count_128 : decode cX9_count 128 = .ok (.iload_n 2, 1) := by decide +kernel
theorem dX9_count_129 : decode cX9_count 129 = .ok (.ireturn, 1) := by decide +kernel
theorem dX9_count_130 : decode cX9_count 130 = .ok (.aload_n 0, 1) := by decide +kernel
theorem dX9_count_131 : decode cX9_count 131 = .ok (.iconst 2, 1) := by decide +kernel
theorem dX9_count_132 : decode cX9_count 132 = .ok (.invokevirtual 174, 3) := by decide +kernel
theorem dX9_count_135 : decode cX9_count 135 = .ok (.ireturn, 1) := by decide +kernel
theorem dX9_count_136 : decode cX9_count 136 = .ok (.iconst (-1), 1) := by decide +kernel
theorem dX9_count_137 : decode cX9_count 137 = .ok (.ireturn, 1) := by decide +kernel
def f_X9_count_L8 (Λ : List Ly) (d : Dt) (p0 : Nat) (v1 : Int32) (k32 : Int32 → Int32 → Option (Int32 × Dt)) : Nat → Int32 → Int32 → Option (Int32 × Dt)
  | 0, _, _ => none
  | n + 1, v2, v3 => if (4 : Int32) ≤ v3 then (k32 v2 v3) else (Option.bind (rf Λ p0 9 1) fun q4 => if okA Λ q4 1 (((3 : Int32) * v3) + (0 : Int32)) = true then (f_X9_count_L8 Λ d p0 v1 k32 n (v2 + (d.1 q4 ((((3 : Int32) * v3) + (0 : Int32))).toNatClampNeg)) (v3 + (1 : Int32))) else none)
def f_X9_count (Λ : List Ly) (d : Dt) (p0 : Nat) (v1 : Int32) : Option (Int32 × Dt) := if clsAt Λ p0 = some 9 then (Option.bind (f_X9_starts Λ d p0) fun z2 => f_X9_count_L8 Λ z2 p0 v1 (fun x6_2 x6_3 => if v1 = (0 : Int32) then (Option.bind (rf Λ p0 9 0) fun q8 => if okA Λ q8 1 (41 : Int32) = true then (some ((z2.1 q8 ((41 : Int32)).toNatClampNeg), z2)) else none) else (if v1 = (1 : Int32) then (Option.bind (rf Λ p0 9 2) fun q11 => if okA Λ q11 3 (0 : Int32) = true then (if okA Λ q11 3 (1 : Int32) = true then (some (((f_X9_flag (z2.1 q11 ((0 : Int32)).toNatClampNeg)) + (f_X9_flag (z2.1 q11 ((1 : Int32)).toNatClampNeg))), z2)) else none) else none) else (if v1 = (2 : Int32) then (some ((z2.1 p0 6), z2)) else (if v1 = (3 : Int32) then (Option.bind (rf Λ p0 9 20) fun q16 => if okA Λ q16 1 (0 : Int32) = true then (if (z2.1 q16 ((0 : Int32)).toNatClampNeg) = (-4 : Int32) then (some ((-4 : Int32), z2)) else (Option.bind (rf Λ p0 9 21) fun q19 => if okA Λ q19 1 (0 : Int32) = true then (some ((z2.1 q19 ((0 : Int32)).toNatClampNeg), z2)) else none)) else none) else (if v1 = (4 : Int32) then (some (x6_2, z2)) else (if v1 = (5 : Int32) then (Option.bind (f_X9_sumOf Λ z2 p0 (2 : Int32)) fun z23 => some (z23, z2)) else (some ((-1 : Int32), z2)))))))) FU (0 : Int32) (0 : Int32)) else none
set_option maxHeartbeats 4000000 in
set_option maxRecDepth 100000 in
theorem w_X9_count_L8 {p : Program} {l : Launch} {e : Env} {s : State} {m : MethodId} {args : Array Value} {below : List Frame} {meth : Method} {c : Code} {Γ : Cx} {Λ : List Ly} {z : Int32 × Dt} {d : Dt} (C0 : Ct Γ p s m args c cX9_count 4 "SeasonBoundModel") (hr : meth.sig.returnType = (some FieldType.int)) (hlocks : meth.locks = false) (k32 : Int32 → Int32 → Option (Int32 × Dt)) (p0 : Nat) (v1 : Int32)
    (hk32 : ∀ (v2 : Int32) (v3 : Int32), (k32 v2 v3 = some z) → ∀ (H : Heap) (locs : List Loc) (ls : Array Slot), Hs Γ Λ d s H locs → lv_has ls 4 [(0, .ref (Γ.2.2.1 + p0)), (1, .int v1), (2, .int v2), (3, .int v3)] → W p l e { frames := 2, cells := 0, slots := 0, locals := 45 } s m args below meth c H locs 0 0 (MQ below (QN Γ Λ z.2 (some (.int z.1))) args s 0 0 (AP Γ)) (F0 m 32 ls [])) :
    ∀ (n : Nat) (v2 : Int32) (v3 : Int32), f_X9_count_L8 Λ d p0 v1 k32 n v2 v3 = some z → ∀ (H : Heap) (locs : List Loc) (ls : Array Slot), Hs Γ Λ d s H locs → lv_has ls 4 [(0, .ref (Γ.2.2.1 + p0)), (1, .int v1), (2, .int v2), (3, .int v3)] → W p l e { frames := 2, cells := 0, slots := 0, locals := 45 } s m args below meth c H locs 0 0 (MQ below (QN Γ Λ z.2 (some (.int z.1))) args s 0 0 (AP Γ)) (F0 m 8 ls []) := by
  obtain ⟨hx, hb, hml, hown, hts, hK⟩ := id C0
  intro n
  induction n with
  | zero =>
    intro v2 v3 hf
    cases hf
  | succ n ih =>
    intro v2 v3 hf H locs ls hH hl
    unfold f_X9_count_L8 at hf
    refine lv_iload_n hx hb dX9_count_8 rfl (lv_at hl 3 rfl) ?_
    refine lv_iconst (v := (4 : Int32)) hx hb dX9_count_9 (by decide) ?_
    refine lv_icmp_ge (tgt := 32) hx hb dX9_count_10 (by decide) (fun c3 => ?_) (fun c3 => ?_)
    · replace hf := it hf c3
      exact hk32 v2 v3 hf _ _ _ hH (lv_sub hl [0, 1, 2, 3] rfl)
    · replace hf := ie hf c3
      refine lv_iload_n hx hb dX9_count_13 rfl (lv_at hl 2 rfl) ?_
      refine lv_aload_n hx hb dX9_count_14 rfl (lv_at hl 0 rfl) ?_
      obtain ⟨q4, g4, hf⟩ := ob hf
      refine r_getr C0 hH fl_X9_13 g4 dX9_count_15 ?_
      refine lv_iconst (v := (3 : Int32)) hx hb dX9_count_18 (by decide) ?_
      refine lv_iload_n hx hb dX9_count_19 rfl (lv_at hl 3 rfl) ?_
      refine lv_imul hx hb dX9_count_20 ?_
      refine lv_iconst (v := (0 : Int32)) hx hb dX9_count_21 (by decide) ?_
      refine lv_iadd hx hb dX9_count_22 ?_
      obtain ⟨g5, hf⟩ := gd hf
      refine r_iald C0 hH g5 dX9_count_23 ?_
      refine lv_iadd hx hb dX9_count_24 ?_
      refine lv_istore_n (lv' := [(2, .int (v2 + (d.1 q4 ((((3 : Int32) * v3) + (0 : Int32))).toNatClampNeg))), (0, .ref (Γ.2.2.1 + p0)), (1, .int v1), (3, .int v3)]) hx hb dX9_count_25 rfl hl (by decide) rfl (fun ls hl => ?_)
      refine lv_iinc (v := (v3 + (1 : Int32))) (lv' := [(3, .int (v3 + (1 : Int32))), (2, .int (v2 + (d.1 q4 ((((3 : Int32) * v3) + (0 : Int32))).toNatClampNeg))), (0, .ref (Γ.2.2.1 + p0)), (1, .int v1)]) hx hb dX9_count_26 hl (k := 3) rfl (congrArg (fun w => v3 + w) (by decide)) (by decide) rfl (fun ls hl => ?_)
      refine lv_goto (tgt := 8) hx hb dX9_count_29 (by decide) ?_
      exact ih (v2 + (d.1 q4 ((((3 : Int32) * v3) + (0 : Int32))).toNatClampNeg)) (v3 + (1 : Int32)) hf _ _ _ hH (lv_sub hl [2, 3, 1, 0] rfl)
set_option maxHeartbeats 4000000 in
set_option maxRecDepth 100000 in
theorem c_X9_count (Γ : Cx) (l : Launch) (Λ : List Ly) (d : Dt) (p0 : Nat) (v1 : Int32) (z : Int32 × Dt) (hf : f_X9_count Λ d p0 v1 = some z) : Cn Γ l yX9_count cX9_count 4 (some FieldType.int) 2 45 [.ref (Γ.2.2.1 + p0), .int v1] Λ d (some (.int z.1)) z.2 := by
  refine Cn.of (own := "SeasonBoundModel") (by decide +kernel) rfl (Nat.le_of_ble_eq_true rfl) ?_
  intro p e s m below meth c C0 hr hlocks hH ls hl
  have hl : lv_has ls 4 [(0, .ref (Γ.2.2.1 + p0)), (1, .int v1)] := hl
  obtain ⟨hx, hb, hml, hown, hts, hK⟩ := id C0
  unfold f_X9_count at hf
  refine lv_aload_n hx hb dX9_count_0 rfl (lv_at hl 0 rfl) ?_
  obtain ⟨g1, hf⟩ := gd hf
  obtain ⟨z2, h2, hf⟩ := ob hf
  refine r_callVv (rest := []) C0 hH (c_X9_starts Γ l Λ d p0 z2 h2) cv_X9_177 g1 (by decide) rfl hl.1 rfl (Nat.le_of_ble_eq_true rfl) dX9_count_1 (by decide) (fun H locs hH => ?_)
  refine lv_iconst (v := (0 : Int32)) hx hb dX9_count_4 (by decide) ?_
  refine lv_istore_n (lv' := [(2, .int (0 : Int32)), (0, .ref (Γ.2.2.1 + p0)), (1, .int v1)]) hx hb dX9_count_5 rfl hl (by decide) rfl (fun ls hl => ?_)
  refine lv_iconst (v := (0 : Int32)) hx hb dX9_count_6 (by decide) ?_
  refine lv_istore_n (lv' := [(3, .int (0 : Int32)), (2, .int (0 : Int32)), (0, .ref (Γ.2.2.1 + p0)), (1, .int v1)]) hx hb dX9_count_7 rfl hl (by decide) rfl (fun ls hl => ?_)
  refine w_X9_count_L8 C0 hr hlocks _ p0 v1 ?k32 FU (0 : Int32) (0 : Int32) hf _ _ _ hH (lv_sub hl [2, 3, 1, 0] rfl)
  case k32 =>
    intro x6_2 x6_3 hf H locs ls hH hl
    refine lv_iload_n hx hb dX9_count_32 rfl (lv_at hl 1 rfl) ?_
    by_cases c7 : v1 = (0 : Int32)
    · replace hf := it hf c7
      refine lv_tableIn (off := 39) (tgt := 72) hx hb dX9_count_33 (by rw [c7]; decide) (by rw [c7]; decide) (by rw [c7]; rfl) (by decide) ?_
      refine lv_aload_n hx hb dX9_count_72 rfl (lv_at hl 0 rfl) ?_
      obtain ⟨q8, g8, hf⟩ := ob hf
      refine r_getr C0 hH fl_X9_7 g8 dX9_count_73 ?_
      refine lv_bipush (v := (41 : Int32)) hx hb dX9_count_76 (by decide) ?_
      obtain ⟨g9, hf⟩ := gd hf
      refine r_iald C0 hH g9 dX9_count_78 ?_
      obtain rfl := Option.some.inj hf
      exact r_iret (d' := d) C0 hr hlocks hH rfl dX9_count_79
    · replace hf := ie hf c7
      by_cases c10 : v1 = (1 : Int32)
      · replace hf := it hf c10
        refine lv_tableIn (off := 47) (tgt := 80) hx hb dX9_count_33 (by rw [c10]; decide) (by rw [c10]; decide) (by rw [c10]; rfl) (by decide) ?_
        refine lv_aload_n hx hb dX9_count_80 rfl (lv_at hl 0 rfl) ?_
        obtain ⟨q11, g11, hf⟩ := ob hf
        refine r_getr C0 hH fl_X9_16 g11 dX9_count_81 ?_
        refine lv_iconst (v := (0 : Int32)) hx hb dX9_count_84 (by decide) ?_
        obtain ⟨g12, hf⟩ := gd hf
        refine r_zald C0 hH g12 dX9_count_85 ?_
        refine r_callSi (rest := []) C0 hH (c_X9_flag Γ l Λ z2 (z2.1 q11 ((0 : Int32)).toNatClampNeg)) cs_X9_146 (by decide) rfl hl.1 rfl (Nat.le_of_ble_eq_true rfl) dX9_count_86 (by decide) (fun H locs hH => ?_)
        refine lv_aload_n hx hb dX9_count_89 rfl (lv_at hl 0 rfl) ?_
        refine r_getr C0 hH fl_X9_16 g11 dX9_count_90 ?_
        refine lv_iconst (v := (1 : Int32)) hx hb dX9_count_93 (by decide) ?_
        obtain ⟨g13, hf⟩ := gd hf
        refine r_zald C0 hH g13 dX9_count_94 ?_
        refine r_callSi (rest := [.int (f_X9_flag (z2.1 q11 ((0 : Int32)).toNatClampNeg))]) C0 hH (c_X9_flag Γ l Λ z2 (z2.1 q11 ((1 : Int32)).toNatClampNeg)) cs_X9_146 (by decide) rfl hl.1 rfl (Nat.le_of_ble_eq_true rfl) dX9_count_95 (by decide) (fun H locs hH => ?_)
        refine lv_iadd hx hb dX9_count_98 ?_
        obtain rfl := Option.some.inj hf
        exact r_iret (d' := d) C0 hr hlocks hH rfl dX9_count_99
      · replace hf := ie hf c10
        by_cases c14 : v1 = (2 : Int32)
        · replace hf := it hf c14
          refine lv_tableIn (off := 67) (tgt := 100) hx hb dX9_count_33 (by rw [c14]; decide) (by rw [c14]; decide) (by rw [c14]; rfl) (by decide) ?_
          refine lv_aload_n hx hb dX9_count_100 rfl (lv_at hl 0 rfl) ?_
          refine r_geti C0 hH fl_X9_60 g1 rfl dX9_count_101 ?_
          obtain rfl := Option.some.inj hf
          exact r_iret (d' := d) C0 hr hlocks hH rfl dX9_count_104
        · replace hf := ie hf c14
          by_cases c15 : v1 = (3 : Int32)
          · replace hf := it hf c15
            refine lv_tableIn (off := 72) (tgt := 105) hx hb dX9_count_33 (by rw [c15]; decide) (by rw [c15]; decide) (by rw [c15]; rfl) (by decide) ?_
            refine lv_aload_n hx hb dX9_count_105 rfl (lv_at hl 0 rfl) ?_
            obtain ⟨q16, g16, hf⟩ := ob hf
            refine r_getr C0 hH fl_X9_32 g16 dX9_count_106 ?_
            refine lv_iconst (v := (0 : Int32)) hx hb dX9_count_109 (by decide) ?_
            obtain ⟨g17, hf⟩ := gd hf
            refine r_iald C0 hH g17 dX9_count_110 ?_
            refine lv_bipush (v := (-4 : Int32)) hx hb dX9_count_111 (by decide) ?_
            refine lv_icmp_ne (tgt := 121) hx hb dX9_count_113 (by decide) (fun c18 => ?_) (fun c18 => ?_)
            · replace hf := ie hf c18
              refine lv_aload_n hx hb dX9_count_121 rfl (lv_at hl 0 rfl) ?_
              obtain ⟨q19, g19, hf⟩ := ob hf
              refine r_getr C0 hH fl_X9_35 g19 dX9_count_122 ?_
              refine lv_iconst (v := (0 : Int32)) hx hb dX9_count_125 (by decide) ?_
              obtain ⟨g20, hf⟩ := gd hf
              refine r_iald C0 hH g20 dX9_count_126 ?_
              obtain rfl := Option.some.inj hf
              exact r_iret (d' := d) C0 hr hlocks hH rfl dX9_count_127
            · replace hf := it hf c18
              refine lv_bipush (v := (-4 : Int32)) hx hb dX9_count_116 (by decide) ?_
              refine lv_goto (tgt := 127) hx hb dX9_count_118 (by decide) ?_
              obtain rfl := Option.some.inj hf
              exact r_iret (d' := d) C0 hr hlocks hH rfl dX9_count_127
          · replace hf := ie hf c15
            by_cases c21 : v1 = (4 : Int32)
            · replace hf := it hf c21
              refine lv_tableIn (off := 95) (tgt := 128) hx hb dX9_count_33 (by rw [c21]; decide) (by rw [c21]; decide) (by rw [c21]; rfl) (by decide) ?_
              refine lv_iload_n hx hb dX9_count_128 rfl (lv_at hl 2 rfl) ?_
              obtain rfl := Option.some.inj hf
              exact r_iret (d' := d) C0 hr hlocks hH rfl dX9_count_129
            · replace hf := ie hf c21
              by_cases c22 : v1 = (5 : Int32)
              · replace hf := it hf c22
                refine lv_tableIn (off := 97) (tgt := 130) hx hb dX9_count_33 (by rw [c22]; decide) (by rw [c22]; decide) (by rw [c22]; rfl) (by decide) ?_
                refine lv_aload_n hx hb dX9_count_130 rfl (lv_at hl 0 rfl) ?_
                refine lv_iconst (v := (2 : Int32)) hx hb dX9_count_131 (by decide) ?_
                obtain ⟨z23, h23, hf⟩ := ob hf
                refine r_callVi (rest := []) C0 hH (c_X9_sumOf Γ l Λ z2 p0 (2 : Int32) z23 h23) cv_X9_174 g1 (by decide) rfl hl.1 rfl (Nat.le_of_ble_eq_true rfl) dX9_count_132 (by decide) (fun H locs hH => ?_)
                obtain rfl := Option.some.inj hf
                exact r_iret (d' := d) C0 hr hlocks hH rfl dX9_count_135
              · replace hf := ie hf c22
                refine lv_tableOut (tgt := 136) hx hb dX9_count_33 (by have hc7 := lv_neT c7 (a := 0) (by decide); have hc10 := lv_neT c10 (a := 1) (by decide); have hc14 := lv_neT c14 (a := 2) (by decide); have hc15 := lv_neT c15 (a := 3) (by decide); have hc21 := lv_neT c21 (a := 4) (by decide); have hc22 := lv_neT c22 (a := 5) (by decide); omega) (by decide) ?_
                refine lv_iconst (v := (-1 : Int32)) hx hb dX9_count_136 (by decide) ?_
                obtain rfl := Option.some.inj hf
                exact r_iret (d' := d) C0 hr hlocks hH rfl dX9_count_137
