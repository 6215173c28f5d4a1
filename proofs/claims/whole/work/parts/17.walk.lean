theorem dX9_weekGoes_0 : decode cX9_weekGoes 0 = .ok (.aload_n 0, 1) := by decide +kernel
theorem dX9_weekGoes_1 : decode cX9_weekGoes 1 = .ok (.invokevirtual 160, 3) := by decide +kernel
theorem dX9_weekGoes_4 : decode cX9_weekGoes 4 = .ok (.istore_n 2, 1) := by decide +kernel
theorem dX9_weekGoes_5 : decode cX9_weekGoes 5 = .ok (.iconst 0, 1) := by decide +kernel
theorem dX9_weekGoes_6 : decode cX9_weekGoes 6 = .ok (.istore_n 3, 1) := by decide +kernel
theorem dX9_weekGoes_7 : decode cX9_weekGoes 7 = .ok (.iload_n 3, 1) := by decide +kernel
theorem dX9_weekGoes_8 : decode cX9_weekGoes 8 = .ok (.aload_n 0, 1) := by decide +kernel
theorem dX9_weekGoes_9 : decode cX9_weekGoes 9 = .ok (.getfield 13, 3) := by decide +kernel
theorem dX9_weekGoes_12 : decode cX9_weekGoes 12 = .ok (.bipush 37, 2) := by decide +kernel
theorem dX9_weekGoes_14 : decode cX9_weekGoes 14 = .ok (.iaload, 1) := by decide +kernel
theorem dX9_weekGoes_15 : decode cX9_weekGoes 15 = .ok (.if_icmp .ge 24, 3) := by decide +kernel
theorem dX9_weekGoes_18 : decode cX9_weekGoes 18 = .ok (.iload_n 2, 1) := by decide +kernel
theorem dX9_weekGoes_19 : decode cX9_weekGoes 19 = .ok (.iload_n 3, 1) := by decide +kernel
theorem dX9_weekGoes_20 : decode cX9_weekGoes 20 = .ok (.ishr, 1) := by decide +kernel
theorem dX9_weekGoes_21 : decode cX9_weekGoes 21 = .ok (.iconst 1, 1) := by decide +kernel
theorem dX9_weekGoes_22 : decode cX9_weekGoes 22 = .ok (.iand, 1) := by decide +kernel
theorem dX9_weekGoes_23 : decode cX9_weekGoes 23 = .ok (.iconst 1, 1) := by decide +kernel
theorem dX9_weekGoes_24 : decode cX9_weekGoes 24 = .ok (.if_icmp .ne 9, 3) := by decide +kernel
theorem dX9_weekGoes_27 : decode cX9_weekGoes 27 = .ok (.aload_n 0, 1) := by decide +kernel
theorem dX9_weekGoes_28 : decode cX9_weekGoes 28 = .ok (.iload_n 3, 1) := by decide +kernel
theorem dX9_weekGoes_29 : decode cX9_weekGoes 29 = .ok (.iload_n 1, 1) := by decide +kernel
theorem dX9_weekGoes_30 : decode cX9_weekGoes 30 = .ok (.invokevirtual 163, 3) := by decide +kernel
theorem dX9_weekGoes_33 : decode cX9_weekGoes 33 = .ok (.iinc 3 1, 3) := by decide +kernel
theorem dX9_weekGoes_36 : decode cX9_weekGoes 36 = .ok (.goto (-29), 3) := by decide +kernel
theorem dX9_weekGoes_39 : decode cX9_weekGoes 39 = .ok (.aload_n 0, 1) := by decide +kernel
theorem dX9_weekGoes_40 : decode cX9_weekGoes 40 = .ok (.getfield 13, 3) := by decide +kernel
theorem dX9_weekGoes_43 : decode cX9_weekGoes 43 = .ok (.bipush 39, 2) := by decide +kernel
theorem dX9_weekGoes_45 : decode cX9_weekGoes 45 = .ok (.dup2, 1) := by decide +kernel
theorem dX9_weekGoes_46 : decode cX9_weekGoes 46 = .ok (.iaload, 1) := by decide +kernel
theorem dX9_weekGoes_47 : decode cX9_weekGoes 47 = .ok (.iconst 1, 1) := by decide +kernel
theorem dX9_weekGoes_48 : decode cX9_weekGoes 48 = .ok (.isub, 1) := by decide +kernel
theorem dX9_weekGoes_49 : decode cX9_weekGoes 49 = .ok (.iastore, 1) := by decide +kernel
theorem dX9_weekGoes_50 : decode cX9_weekGoes 50 = .ok (.aload_n 0, 1) := by decide +kernel
theorem dX9_weekGoes_51 : decode cX9_weekGoes 51 = .ok (.getfield 13, 3) := by decide +kernel
theorem dX9_weekGoes_54 : decode cX9_weekGoes 54 = .ok (.bipush 39, 2) := by decide +kernel
theorem dX9_weekGoes_56 : decode cX9_weekGoes 56 = .ok (.iaload, 1) := by decide +kernel
theorem dX9_weekGoes_57 : decode cX9_weekGoes 57 = .ok (.ifCond .ne 44, 3) := by decide +kernel
theorem dX9_weekGoes_60 : decode cX9_weekGoes 60 = .ok (.aload_n 0, 1) := by decide +kernel
theorem dX9_weekGoes_61 : decode cX9_weekGoes 61 = .ok (.getfield 13, 3) := by decide +kernel
theorem dX9_weekGoes_64 : decode cX9_weekGoes 64 = .ok (.bipush 38, 2) := by decide +kernel
theorem dX9_weekGoes_66 : decode cX9_weekGoes 66 = .ok (.aload_n 0, 1) := by decide +kernel
theorem dX9_weekGoes_67 : decode cX9_weekGoes 67 = .ok (.getfield 13, 3) := by decide +kernel
theorem dX9_weekGoes_70 : decode cX9_weekGoes 70 = .ok (.bipush 38, 2) := by decide +kernel
theorem dX9_weekGoes_72 : decode cX9_weekGoes 72 = .ok (.iaload, 1) := by decide +kernel
theorem dX9_weekGoes_73 : decode cX9_weekGoes 73 = .ok (.iconst 1, 1) := by decide +kernel
theorem dX9_weekGoes_74 : decode cX9_weekGoes 74 = .ok (.iadd, 1) := by decide +kernel
theorem dX9_weekGoes_75 : decode cX9_weekGoes 75 = .ok (.iconst 4, 1) := by decide +kernel
theorem dX9_weekGoes_76 : decode cX9_weekGoes 76 = .ok (.irem, 1) := by decide +kernel
theorem dX9_weekGoes_77 : decode cX9_weekGoes 77 = .ok (.iastore, 1) := by decide +kernel
theorem dX9_weekGoes_78 : decode cX9_weekGoes 78 = .ok (.aload_n 0, 1) := by decide +kernel
theorem dX9_weekGoes_79 : decode cX9_weekGoes 79 = .ok (.getfield 13, 3) := by decide +kernel
theorem dX9_weekGoes_82 : decode cX9_weekGoes 82 = .ok (.bipush 39, 2) := by decide +kernel
theorem dX9_weekGoes_84 : decode cX9_weekGoes 84 = .ok (.aload_n 0, 1) := by decide +kernel
theorem dX9_weekGoes_85 : decode cX9_weekGoes 85 = .ok (.getfield 13, 3) := by decide +kernel
theorem dX9_weekGoes_88 : decode cX9_weekGoes 88 = .ok (.iconst 3, 1) := by decide +kernel
theorem dX9_weekGoes_89 : decode cX9_weekGoes 89 = .ok (.aload_n 0, 1) := by decide +kernel
theorem dX9_weekGoes_90 : decode cX9_weekGoes 90 = .ok (.getfield 13, 3) := by decide +kernel
theorem dX9_weekGoes_93 : decode cX9_weekGoes 93 = .ok (.bipush 38, 2) := by decide +kernel
theorem dX9_weekGoes_95 : decode cX9_weekGoes 95 = .ok (.iaload, 1) := by decide +kernel
theorem dX9_weekGoes_96 : decode cX9_weekGoes 96 = .ok (.imul, 1) := by decide +kernel
theorem dX9_weekGoes_97 : decode cX9_weekGoes 97 = .ok (.iconst 0, 1) := by decide +kernel
theorem dX9_weekGoes_98 : decode cX9_weekGoes 98 = .ok (.iadd, 1) := by decide +kernel
theorem dX9_weekGoes_99 : decode cX9_weekGoes 99 = .ok (.iaload, 1) := by decide +kernel
theorem dX9_weekGoes_100 : decode cX9_weekGoes 100 = .ok (.iastore, 1) := by decide +kernel
theorem dX9_weekGoes_101 : decode cX9_weekGoes 101 = .ok (.aload_n 0, 1) := by decide +kernel
theorem dX9_weekGoes_102 : decode cX9_weekGoes 102 = .ok (.getfield 13, 3) := by decide +kernel
theorem dX9_weekGoes_105 : decode cX9_weekGoes 105 = .ok (.bipush 40, 2) := by decide +kernel
theorem dX9_weekGoes_107 : decode cX9_weekGoes 107 = .ok (.dup2, 1) := by decide +kernel
theorem dX9_weekGoes_108 : decode cX9_weekGoes 108 = .ok (.iaload, 1) := by decide +kernel
theorem dX9_weekGoes_109 : decode cX9_weekGoes 109 = .ok (.iconst 1, 1) := by decide +kernel
theorem dX9_weekGoes_110 : decode cX9_weekGoes 110 = .ok (.iadd, 1) := by decide +kernel
theorem dX9_weekGoes_111 : decode cX9_weekGoes 111 = .ok (.iastore, 1) := by decide +kernel
theorem dX9_weekGoes_112 : decode cX9_weekGoes 112 = .ok (.return_, 1) := by decide +kernel
def f_X9_weekGoes_L7 (Λ : List Ly) (p0 : Nat) (v1 : Int32) (v2 : Int32) (k39 : Int32 → Dt → Option Dt) : Nat → Int32 → Dt → Option Dt
  | 0, _, _ => none
  | n + 1, v3, d => Option.bind (rf Λ p0 9 1) fun q3 => if okA Λ q3 1 (37 : Int32) = true then (if (d.1 q3 ((37 : Int32)).toNatClampNeg) ≤ v3 then (k39 v3 d) else (if ((v2 >>> (v3 &&& 31)) &&& (1 : Int32)) = (1 : Int32) then (if clsAt Λ p0 = some 9 then (Option.bind (f_X9_childGoes Λ d p0 v3 v1) fun z8 => f_X9_weekGoes_L7 Λ p0 v1 v2 k39 n (v3 + (1 : Int32)) z8) else none) else (f_X9_weekGoes_L7 Λ p0 v1 v2 k39 n (v3 + (1 : Int32)) d))) else none
def f_X9_weekGoes (Λ : List Ly) (d : Dt) (p0 : Nat) (v1 : Int32) : Option Dt := if clsAt Λ p0 = some 9 then (Option.bind (f_X9_livingNow Λ d p0) fun z2 => f_X9_weekGoes_L7 Λ p0 v1 z2 (fun x9_3 d9 => Option.bind (rf Λ p0 9 1) fun q10 => if okA Λ q10 1 (39 : Int32) = true then (if ((pI d9 q10 ((39 : Int32)).toNatClampNeg ((d9.1 q10 ((39 : Int32)).toNatClampNeg) - (1 : Int32))).1 q10 ((39 : Int32)).toNatClampNeg) = 0 then (if okA Λ q10 1 (38 : Int32) = true then (if okA Λ q10 1 (((3 : Int32) * ((pI (pI d9 q10 ((39 : Int32)).toNatClampNeg ((d9.1 q10 ((39 : Int32)).toNatClampNeg) - (1 : Int32))) q10 ((38 : Int32)).toNatClampNeg ((((pI d9 q10 ((39 : Int32)).toNatClampNeg ((d9.1 q10 ((39 : Int32)).toNatClampNeg) - (1 : Int32))).1 q10 ((38 : Int32)).toNatClampNeg) + (1 : Int32)) - (((pI d9 q10 ((39 : Int32)).toNatClampNeg ((d9.1 q10 ((39 : Int32)).toNatClampNeg) - (1 : Int32))).1 q10 ((38 : Int32)).toNatClampNeg) + (1 : Int32)) / (4 : Int32) * (4 : Int32))).1 q10 ((38 : Int32)).toNatClampNeg)) + (0 : Int32)) = true then (if okA Λ q10 1 (40 : Int32) = true then (some (pI (pI (pI (pI d9 q10 ((39 : Int32)).toNatClampNeg ((d9.1 q10 ((39 : Int32)).toNatClampNeg) - (1 : Int32))) q10 ((38 : Int32)).toNatClampNeg ((((pI d9 q10 ((39 : Int32)).toNatClampNeg ((d9.1 q10 ((39 : Int32)).toNatClampNeg) - (1 : Int32))).1 q10 ((38 : Int32)).toNatClampNeg) + (1 : Int32)) - (((pI d9 q10 ((39 : Int32)).toNatClampNeg ((d9.1 q10 ((39 : Int32)).toNatClampNeg) - (1 : Int32))).1 q10 ((38 : Int32)).toNatClampNeg) + (1 : Int32)) / (4 : Int32) * (4 : Int32))) q10 ((39 : Int32)).toNatClampNeg ((pI (pI d9 q10 ((39 : Int32)).toNatClampNeg ((d9.1 q10 ((39 : Int32)).toNatClampNeg) - (1 : Int32))) q10 ((38 : Int32)).toNatClampNeg ((((pI d9 q10 ((39 : Int32)).toNatClampNeg ((d9.1 q10 ((39 : Int32)).toNatClampNeg) - (1 : Int32))).1 q10 ((38 : Int32)).toNatClampNeg) + (1 : Int32)) - (((pI d9 q10 ((39 : Int32)).toNatClampNeg ((d9.1 q10 ((39 : Int32)).toNatClampNeg) - (1 : Int32))).1 q10 ((38 : Int32)).toNatClampNeg) + (1 : Int32)) / (4 : Int32) * (4 : Int32))).1 q10 ((((3 : Int32) * ((pI (pI d9 q10 ((39 : Int32)).toNatClampNeg ((d9.1 q10 ((39 : Int32)).toNatClampNeg) - (1 : Int32))) q10 ((38 : Int32)).toNatClampNeg ((((pI d9 q10 ((39 : Int32)).toNatClampNeg ((d9.1 q10 ((39 : Int32)).toNatClampNeg) - (1 : Int32))).1 q10 ((38 : Int32)).toNatClampNeg) + (1 : Int32)) - (((pI d9 q10 ((39 : Int32)).toNatClampNeg ((d9.1 q10 ((39 : Int32)).toNatClampNeg) - (1 : Int32))).1 q10 ((38 : Int32)).toNatClampNeg) + (1 : Int32)) / (4 : Int32) * (4 : Int32))).1 q10 ((38 : Int32)).toNatClampNeg)) + (0 : Int32))).toNatClampNeg)) q10 ((40 : Int32)).toNatClampNeg (((pI (pI (pI d9 q10 ((39 : Int32)).toNatClampNeg ((d9.1 q10 ((39 : Int32)).toNatClampNeg) - (1 : Int32))) q10 ((38 : Int32)).toNatClampNeg ((((pI d9 q10 ((39 : Int32)).toNatClampNeg ((d9.1 q10 ((39 : Int32)).toNatClampNeg) - (1 : Int32))).1 q10 ((38 : Int32)).toNatClampNeg) + (1 : Int32)) - (((pI d9 q10 ((39 : Int32)).toNatClampNeg ((d9.1 q10 ((39 : Int32)).toNatClampNeg) - (1 : Int32))).1 q10 ((38 : Int32)).toNatClampNeg) + (1 : Int32)) / (4 : Int32) * (4 : Int32))) q10 ((39 : Int32)).toNatClampNeg ((pI (pI d9 q10 ((39 : Int32)).toNatClampNeg ((d9.1 q10 ((39 : Int32)).toNatClampNeg) - (1 : Int32))) q10 ((38 : Int32)).toNatClampNeg ((((pI d9 q10 ((39 : Int32)).toNatClampNeg ((d9.1 q10 ((39 : Int32)).toNatClampNeg) - (1 : Int32))).1 q10 ((38 : Int32)).toNatClampNeg) + (1 : Int32)) - (((pI d9 q10 ((39 : Int32)).toNatClampNeg ((d9.1 q10 ((39 : Int32)).toNatClampNeg) - (1 : Int32))).1 q10 ((38 : Int32)).toNatClampNeg) + (1 : Int32)) / (4 : Int32) * (4 : Int32))).1 q10 ((((3 : Int32) * ((pI (pI d9 q10 ((39 : Int32)).toNatClampNeg ((d9.1 q10 ((39 : Int32)).toNatClampNeg) - (1 : Int32))) q10 ((38 : Int32)).toNatClampNeg ((((pI d9 q10 ((39 : Int32)).toNatClampNeg ((d9.1 q10 ((39 : Int32)).toNatClampNeg) - (1 : Int32))).1 q10 ((38 : Int32)).toNatClampNeg) + (1 : Int32)) - (((pI d9 q10 ((39 : Int32)).toNatClampNeg ((d9.1 q10 ((39 : Int32)).toNatClampNeg) - (1 : Int32))).1 q10 ((38 : Int32)).toNatClampNeg) + (1 : Int32)) / (4 : Int32) * (4 : Int32))).1 q10 ((38 : Int32)).toNatClampNeg)) + (0 : Int32))).toNatClampNeg)).1 q10 ((40 : Int32)).toNatClampNeg) + (1 : Int32)))) else none) else none) else none) else (if okA Λ q10 1 (40 : Int32) = true then (some (pI (pI d9 q10 ((39 : Int32)).toNatClampNeg ((d9.1 q10 ((39 : Int32)).toNatClampNeg) - (1 : Int32))) q10 ((40 : Int32)).toNatClampNeg (((pI d9 q10 ((39 : Int32)).toNatClampNeg ((d9.1 q10 ((39 : Int32)).toNatClampNeg) - (1 : Int32))).1 q10 ((40 : Int32)).toNatClampNeg) + (1 : Int32)))) else none)) else none) FU (0 : Int32) d) else none
set_option maxHeartbeats 4000000 in
set_option maxRecDepth 100000 in
theorem w_X9_weekGoes_L7 {p : Program} {l : Launch} {e : Env} {s : State} {m : MethodId} {args : Array Value} {below : List Frame} {meth : Method} {c : Code} {Γ : Cx} {Λ : List Ly} {z : Dt} (C0 : Ct Γ p s m args c cX9_weekGoes 4 "SeasonBoundModel") (hr : meth.sig.returnType = none) (hlocks : meth.locks = false) (k39 : Int32 → Dt → Option Dt) (p0 : Nat) (v1 : Int32) (v2 : Int32)
    (hk39 : ∀ (v3 : Int32) (d : Dt), (k39 v3 d = some z) → ∀ (H : Heap) (locs : List Loc) (ls : Array Slot), Hs Γ Λ d s H locs → lv_has ls 4 [(0, .ref (ad Γ.2.2.1 p0)), (1, .int v1), (2, .int v2), (3, .int v3)] → W p l e { frames := 4, cells := 0, slots := 0, locals := 86 } s m args below meth c H locs 0 0 (MQ below (QN Γ Λ z none) args s 0 0 (AP Γ)) (F0 m 39 ls [])) :
    ∀ (n : Nat) (v3 : Int32) (d : Dt), f_X9_weekGoes_L7 Λ p0 v1 v2 k39 n v3 d = some z → ∀ (H : Heap) (locs : List Loc) (ls : Array Slot), Hs Γ Λ d s H locs → lv_has ls 4 [(0, .ref (ad Γ.2.2.1 p0)), (1, .int v1), (2, .int v2), (3, .int v3)] → W p l e { frames := 4, cells := 0, slots := 0, locals := 86 } s m args below meth c H locs 0 0 (MQ below (QN Γ Λ z none) args s 0 0 (AP Γ)) (F0 m 7 ls []) := by
  obtain ⟨hx, hb, hml, hown, hts, hK⟩ := id C0
  intro n
  induction n with
  | zero =>
    intro v3 d hf
    cases hf
  | succ n ih =>
    intro v3 d hf H locs ls hH hl
    unfold f_X9_weekGoes_L7 at hf
    refine lv_iload_n hx hb dX9_weekGoes_7 rfl (lv_at hl 3 rfl) ?_
    refine lv_aload_n hx hb dX9_weekGoes_8 rfl (lv_at hl 0 rfl) ?_
    obtain ⟨q3, g3, hf⟩ := ob hf
    refine r_getr C0 hH fl_X9_13 g3 dX9_weekGoes_9 ?_
    refine lv_bipush (v := (37 : Int32)) hx hb dX9_weekGoes_12 (by decide) ?_
    obtain ⟨g4, hf⟩ := gd hf
    refine r_iald C0 hH g4 dX9_weekGoes_14 ?_
    refine lv_icmp_ge (tgt := 39) hx hb dX9_weekGoes_15 (by decide) (fun c5 => ?_) (fun c5 => ?_)
    · replace hf := it hf c5
      exact hk39 v3 d hf _ _ _ hH (lv_sub hl [0, 1, 2, 3] rfl)
    · replace hf := ie hf c5
      refine lv_iload_n hx hb dX9_weekGoes_18 rfl (lv_at hl 2 rfl) ?_
      refine lv_iload_n hx hb dX9_weekGoes_19 rfl (lv_at hl 3 rfl) ?_
      refine lv_ishr hx hb dX9_weekGoes_20 ?_
      refine lv_iconst (v := (1 : Int32)) hx hb dX9_weekGoes_21 (by decide) ?_
      refine lv_iand hx hb dX9_weekGoes_22 ?_
      refine lv_iconst (v := (1 : Int32)) hx hb dX9_weekGoes_23 (by decide) ?_
      refine lv_icmp_ne (tgt := 33) hx hb dX9_weekGoes_24 (by decide) (fun c6 => ?_) (fun c6 => ?_)
      · replace hf := ie hf c6
        refine lv_iinc (v := (v3 + (1 : Int32))) (lv' := [(3, .int (v3 + (1 : Int32))), (0, .ref (ad Γ.2.2.1 p0)), (1, .int v1), (2, .int v2)]) hx hb dX9_weekGoes_33 hl (k := 3) rfl (congrArg (fun w => v3 + w) (by decide)) (by decide) rfl (fun ls hl => ?_)
        refine lv_goto (tgt := 7) hx hb dX9_weekGoes_36 (by decide) ?_
        exact ih (v3 + (1 : Int32)) d hf _ _ _ hH (lv_sub hl [1, 2, 3, 0] rfl)
      · replace hf := it hf c6
        refine lv_aload_n hx hb dX9_weekGoes_27 rfl (lv_at hl 0 rfl) ?_
        refine lv_iload_n hx hb dX9_weekGoes_28 rfl (lv_at hl 3 rfl) ?_
        refine lv_iload_n hx hb dX9_weekGoes_29 rfl (lv_at hl 1 rfl) ?_
        obtain ⟨g7, hf⟩ := gd hf
        obtain ⟨z8, h8, hf⟩ := ob hf
        refine r_callVv (rest := []) C0 hH (c_X9_childGoes Γ l Λ d p0 v3 v1 z8 h8) cv_X9_163 g7 (by decide) rfl hl.1 rfl (Nat.le_of_ble_eq_true rfl) dX9_weekGoes_30 (by decide) (fun H locs hH => ?_)
        refine lv_iinc (v := (v3 + (1 : Int32))) (lv' := [(3, .int (v3 + (1 : Int32))), (0, .ref (ad Γ.2.2.1 p0)), (1, .int v1), (2, .int v2)]) hx hb dX9_weekGoes_33 hl (k := 3) rfl (congrArg (fun w => v3 + w) (by decide)) (by decide) rfl (fun ls hl => ?_)
        refine lv_goto (tgt := 7) hx hb dX9_weekGoes_36 (by decide) ?_
        exact ih (v3 + (1 : Int32)) z8 hf _ _ _ hH (lv_sub hl [1, 2, 3, 0] rfl)
set_option maxHeartbeats 4000000 in
set_option maxRecDepth 100000 in
theorem c_X9_weekGoes (Γ : Cx) (l : Launch) (Λ : List Ly) (d : Dt) (p0 : Nat) (v1 : Int32) (z : Dt) (hf : f_X9_weekGoes Λ d p0 v1 = some z) : Cn Γ l yX9_weekGoes cX9_weekGoes 4 none 4 86 [.ref (ad Γ.2.2.1 p0), .int v1] Λ d none z := by
  refine Cn.of (own := "SeasonBoundModel") (by decide +kernel) rfl (Nat.le_of_ble_eq_true rfl) ?_
  intro p e s m below meth c C0 hr hlocks hH ls hl
  have hl : lv_has ls 4 [(0, .ref (ad Γ.2.2.1 p0)), (1, .int v1)] := hl
  obtain ⟨hx, hb, hml, hown, hts, hK⟩ := id C0
  unfold f_X9_weekGoes at hf
  refine lv_aload_n hx hb dX9_weekGoes_0 rfl (lv_at hl 0 rfl) ?_
  obtain ⟨g1, hf⟩ := gd hf
  obtain ⟨z2, h2, hf⟩ := ob hf
  refine r_callVi (rest := []) C0 hH (c_X9_livingNow Γ l Λ d p0 z2 h2) cv_X9_160 g1 (by decide) rfl hl.1 rfl (Nat.le_of_ble_eq_true rfl) dX9_weekGoes_1 (by decide) (fun H locs hH => ?_)
  refine lv_istore_n (lv' := [(2, .int z2), (0, .ref (ad Γ.2.2.1 p0)), (1, .int v1)]) hx hb dX9_weekGoes_4 rfl hl (by decide) rfl (fun ls hl => ?_)
  refine lv_iconst (v := (0 : Int32)) hx hb dX9_weekGoes_5 (by decide) ?_
  refine lv_istore_n (lv' := [(3, .int (0 : Int32)), (2, .int z2), (0, .ref (ad Γ.2.2.1 p0)), (1, .int v1)]) hx hb dX9_weekGoes_6 rfl hl (by decide) rfl (fun ls hl => ?_)
  refine w_X9_weekGoes_L7 C0 hr hlocks _ p0 v1 z2 ?k39 FU (0 : Int32) d hf _ _ _ hH (lv_sub hl [2, 3, 1, 0] rfl)
  case k39 =>
    intro x9_3 d9 hf H locs ls hH hl
    refine lv_aload_n hx hb dX9_weekGoes_39 rfl (lv_at hl 0 rfl) ?_
    obtain ⟨q10, g10, hf⟩ := ob hf
    refine r_getr C0 hH fl_X9_13 g10 dX9_weekGoes_40 ?_
    refine lv_bipush (v := (39 : Int32)) hx hb dX9_weekGoes_43 (by decide) ?_
    refine lv_dup2_11 hx hb dX9_weekGoes_45 rfl rfl ?_
    obtain ⟨g11, hf⟩ := gd hf
    refine r_iald C0 hH g11 dX9_weekGoes_46 ?_
    refine lv_iconst (v := (1 : Int32)) hx hb dX9_weekGoes_47 (by decide) ?_
    refine lv_isub hx hb dX9_weekGoes_48 ?_
    refine r_iast C0 hH g11 dX9_weekGoes_49 (fun H locs hH => ?_)
    refine lv_aload_n hx hb dX9_weekGoes_50 rfl (lv_at hl 0 rfl) ?_
    refine r_getr C0 hH fl_X9_13 g10 dX9_weekGoes_51 ?_
    refine lv_bipush (v := (39 : Int32)) hx hb dX9_weekGoes_54 (by decide) ?_
    refine r_iald C0 hH g11 dX9_weekGoes_56 ?_
    refine lv_if_ne (tgt := 101) hx hb dX9_weekGoes_57 (by decide) (fun c12 => ?_) (fun c12 => ?_)
    · replace hf := ie hf c12
      refine lv_aload_n hx hb dX9_weekGoes_101 rfl (lv_at hl 0 rfl) ?_
      refine r_getr C0 hH fl_X9_13 g10 dX9_weekGoes_102 ?_
      refine lv_bipush (v := (40 : Int32)) hx hb dX9_weekGoes_105 (by decide) ?_
      refine lv_dup2_11 hx hb dX9_weekGoes_107 rfl rfl ?_
      obtain ⟨g13, hf⟩ := gd hf
      refine r_iald C0 hH g13 dX9_weekGoes_108 ?_
      refine lv_iconst (v := (1 : Int32)) hx hb dX9_weekGoes_109 (by decide) ?_
      refine lv_iadd hx hb dX9_weekGoes_110 ?_
      refine r_iast C0 hH g13 dX9_weekGoes_111 (fun H locs hH => ?_)
      obtain rfl := Option.some.inj hf
      exact r_vret C0 hr hlocks hH dX9_weekGoes_112
    · replace hf := it hf c12
      refine lv_aload_n hx hb dX9_weekGoes_60 rfl (lv_at hl 0 rfl) ?_
      refine r_getr C0 hH fl_X9_13 g10 dX9_weekGoes_61 ?_
      refine lv_bipush (v := (38 : Int32)) hx hb dX9_weekGoes_64 (by decide) ?_
      refine lv_aload_n hx hb dX9_weekGoes_66 rfl (lv_at hl 0 rfl) ?_
      refine r_getr C0 hH fl_X9_13 g10 dX9_weekGoes_67 ?_
      refine lv_bipush (v := (38 : Int32)) hx hb dX9_weekGoes_70 (by decide) ?_
      obtain ⟨g14, hf⟩ := gd hf
      refine r_iald C0 hH g14 dX9_weekGoes_72 ?_
      refine lv_iconst (v := (1 : Int32)) hx hb dX9_weekGoes_73 (by decide) ?_
      refine lv_iadd hx hb dX9_weekGoes_74 ?_
      refine lv_iconst (v := (4 : Int32)) hx hb dX9_weekGoes_75 (by decide) ?_
      refine lv_irem hx hb dX9_weekGoes_76 (by decide) ?_
      refine r_iast C0 hH g14 dX9_weekGoes_77 (fun H locs hH => ?_)
      refine lv_aload_n hx hb dX9_weekGoes_78 rfl (lv_at hl 0 rfl) ?_
      refine r_getr C0 hH fl_X9_13 g10 dX9_weekGoes_79 ?_
      refine lv_bipush (v := (39 : Int32)) hx hb dX9_weekGoes_82 (by decide) ?_
      refine lv_aload_n hx hb dX9_weekGoes_84 rfl (lv_at hl 0 rfl) ?_
      refine r_getr C0 hH fl_X9_13 g10 dX9_weekGoes_85 ?_
      refine lv_iconst (v := (3 : Int32)) hx hb dX9_weekGoes_88 (by decide) ?_
      refine lv_aload_n hx hb dX9_weekGoes_89 rfl (lv_at hl 0 rfl) ?_
      refine r_getr C0 hH fl_X9_13 g10 dX9_weekGoes_90 ?_
      refine lv_bipush (v := (38 : Int32)) hx hb dX9_weekGoes_93 (by decide) ?_
      refine r_iald C0 hH g14 dX9_weekGoes_95 ?_
      refine lv_imul hx hb dX9_weekGoes_96 ?_
      refine lv_iconst (v := (0 : Int32)) hx hb dX9_weekGoes_97 (by decide) ?_
      refine lv_iadd hx hb dX9_weekGoes_98 ?_
      obtain ⟨g15, hf⟩ := gd hf
      refine r_iald C0 hH g15 dX9_weekGoes_99 ?_
      refine r_iast C0 hH g11 dX9_weekGoes_100 (fun H locs hH => ?_)
      refine lv_aload_n hx hb dX9_weekGoes_101 rfl (lv_at hl 0 rfl) ?_
      refine r_getr C0 hH fl_X9_13 g10 dX9_weekGoes_102 ?_
      refine lv_bipush (v := (40 : Int32)) hx hb dX9_weekGoes_105 (by decide) ?_
      refine lv_dup2_11 hx hb dX9_weekGoes_107 rfl rfl ?_
      obtain ⟨g16, hf⟩ := gd hf
      refine r_iald C0 hH g16 dX9_weekGoes_108 ?_
      refine lv_iconst (v := (1 : Int32)) hx hb dX9_weekGoes_109 (by decide) ?_
      refine lv_iadd hx hb dX9_weekGoes_110 ?_
      refine r_iast C0 hH g16 dX9_weekGoes_111 (fun H locs hH => ?_)
      obtain rfl := Option.some.inj hf
      exact r_vret C0 hr hlocks hH dX9_weekGoes_112
theorem dX9_weeksGo_0 : decode cX9_weeksGo 0 = .ok (.iconst 0, 1) := by decide +kernel
theorem dX9_weeksGo_1 : decode cX9_weeksGo 1 = .ok (.istore_n 2, 1) := by decide +kernel
theorem dX9_weeksGo_2 : decode cX9_weeksGo 2 = .ok (.iload_n 2, 1) := by decide +kernel
theorem dX9_weeksGo_3 : decode cX9_weeksGo 3 = .ok (.iload_n 1, 1) := by decide +kernel
theorem dX9_weeksGo_4 : decode cX9_weeksGo 4 = .ok (.if_icmp .ge 14, 3) := by decide +kernel
theorem dX9_weeksGo_7 : decode cX9_weeksGo 7 = .ok (.aload_n 0, 1) := by decide +kernel
theorem dX9_weeksGo_8 : decode cX9_weeksGo 8 = .ok (.iconst 0, 1) := by decide +kernel
theorem dX9_weeksGo_9 : decode cX9_weeksGo 9 = .ok (.invokevirtual 167, 3) := by decide +kernel
theorem dX9_weeksGo_12 : decode cX9_weeksGo 12 = .ok (.iinc 2 1, 3) := by decide +kernel
theorem dX9_weeksGo_15 : decode cX9_weeksGo 15 = .ok (.goto (-13), 3) := by decide +kernel
theorem dX9_weeksGo_18 : decode cX9_weeksGo 18 = .ok (.return_, 1) := by decide +kernel
def f_X9_weeksGo_L2 (Λ : List Ly) (p0 : Nat) (v1 : Int32) : Nat → Int32 → Dt → Option Dt
  | 0, _, _ => none
  | n + 1, v2, d => if v1 ≤ v2 then (some d) else (if clsAt Λ p0 = some 9 then (Option.bind (f_X9_weekGoes Λ d p0 (0 : Int32)) fun z3 => f_X9_weeksGo_L2 Λ p0 v1 n (v2 + (1 : Int32)) z3) else none)
def f_X9_weeksGo (Λ : List Ly) (d : Dt) (p0 : Nat) (v1 : Int32) : Option Dt := f_X9_weeksGo_L2 Λ p0 v1 FU (0 : Int32) d
set_option maxHeartbeats 4000000 in
set_option maxRecDepth 100000 in
theorem w_X9_weeksGo_L2 {p : Program} {l : Launch} {e : Env} {s : State} {m : MethodId} {args : Array Value} {below : List Frame} {meth : Method} {c : Code} {Γ : Cx} {Λ : List Ly} {z : Dt} (C0 : Ct Γ p s m args c cX9_weeksGo 3 "SeasonBoundModel") (hr : meth.sig.returnType = none) (hlocks : meth.locks = false) (p0 : Nat) (v1 : Int32) :
    ∀ (n : Nat) (v2 : Int32) (d : Dt), f_X9_weeksGo_L2 Λ p0 v1 n v2 d = some z → ∀ (H : Heap) (locs : List Loc) (ls : Array Slot), Hs Γ Λ d s H locs → lv_has ls 3 [(0, .ref (ad Γ.2.2.1 p0)), (1, .int v1), (2, .int v2)] → W p l e { frames := 5, cells := 0, slots := 0, locals := 109 } s m args below meth c H locs 0 0 (MQ below (QN Γ Λ z none) args s 0 0 (AP Γ)) (F0 m 2 ls []) := by
  obtain ⟨hx, hb, hml, hown, hts, hK⟩ := id C0
  intro n
  induction n with
  | zero =>
    intro v2 d hf
    cases hf
  | succ n ih =>
    intro v2 d hf H locs ls hH hl
    unfold f_X9_weeksGo_L2 at hf
    refine lv_iload_n hx hb dX9_weeksGo_2 rfl (lv_at hl 2 rfl) ?_
    refine lv_iload_n hx hb dX9_weeksGo_3 rfl (lv_at hl 1 rfl) ?_
    refine lv_icmp_ge (tgt := 18) hx hb dX9_weeksGo_4 (by decide) (fun c1 => ?_) (fun c1 => ?_)
    · replace hf := it hf c1
      obtain rfl := Option.some.inj hf
      exact r_vret C0 hr hlocks hH dX9_weeksGo_18
    · replace hf := ie hf c1
      refine lv_aload_n hx hb dX9_weeksGo_7 rfl (lv_at hl 0 rfl) ?_
      refine lv_iconst (v := (0 : Int32)) hx hb dX9_weeksGo_8 (by decide) ?_
      obtain ⟨g2, hf⟩ := gd hf
      obtain ⟨z3, h3, hf⟩ := ob hf
      refine r_callVv (rest := []) C0 hH (c_X9_weekGoes Γ l Λ d p0 (0 : Int32) z3 h3) cv_X9_167 g2 (by decide) rfl hl.1 rfl (Nat.le_of_ble_eq_true rfl) dX9_weeksGo_9 (by decide) (fun H locs hH => ?_)
      refine lv_iinc (v := (v2 + (1 : Int32))) (lv' := [(2, .int (v2 + (1 : Int32))), (0, .ref (ad Γ.2.2.1 p0)), (1, .int v1)]) hx hb dX9_weeksGo_12 hl (k := 2) rfl (congrArg (fun w => v2 + w) (by decide)) (by decide) rfl (fun ls hl => ?_)
      refine lv_goto (tgt := 2) hx hb dX9_weeksGo_15 (by decide) ?_
      exact ih (v2 + (1 : Int32)) z3 hf _ _ _ hH (lv_sub hl [1, 2, 0] rfl)
set_option maxHeartbeats 4000000 in
set_option maxRecDepth 100000 in
theorem c_X9_weeksGo (Γ : Cx) (l : Launch) (Λ : List Ly) (d : Dt) (p0 : Nat) (v1 : Int32) (z : Dt) (hf : f_X9_weeksGo Λ d p0 v1 = some z) : Cn Γ l yX9_weeksGo cX9_weeksGo 3 none 5 109 [.ref (ad Γ.2.2.1 p0), .int v1] Λ d none z := by
  refine Cn.of (own := "SeasonBoundModel") (by decide +kernel) rfl (Nat.le_of_ble_eq_true rfl) ?_
  intro p e s m below meth c C0 hr hlocks hH ls hl
  have hl : lv_has ls 3 [(0, .ref (ad Γ.2.2.1 p0)), (1, .int v1)] := hl
  obtain ⟨hx, hb, hml, hown, hts, hK⟩ := id C0
  unfold f_X9_weeksGo at hf
  refine lv_iconst (v := (0 : Int32)) hx hb dX9_weeksGo_0 (by decide) ?_
  refine lv_istore_n (lv' := [(2, .int (0 : Int32)), (0, .ref (ad Γ.2.2.1 p0)), (1, .int v1)]) hx hb dX9_weeksGo_1 rfl hl (by decide) rfl (fun ls hl => ?_)
  refine w_X9_weeksGo_L2 C0 hr hlocks p0 v1 FU (0 : Int32) d hf _ _ _ hH (lv_sub hl [1, 2, 0] rfl)
theorem dX9_skillsBehind_0 : decode cX9_skillsBehind 0 = .ok (.aload_n 0, 1) := by decide +kernel
theorem dX9_skillsBehind_1 : decode cX9_skillsBehind 1 = .ok (.iload_n 1, 1) := by decide +kernel
theorem dX9_skillsBehind_2 : decode cX9_skillsBehind 2 = .ok (.invokevirtual 171, 3) := by decide +kernel
theorem dX9_skillsBehind_5 : decode cX9_skillsBehind 5 = .ok (.aload_n 0, 1) := by decide +kernel
theorem dX9_skillsBehind_6 : decode cX9_skillsBehind 6 = .ok (.iconst 3, 1) := by decide +kernel
theorem dX9_skillsBehind_7 : decode cX9_skillsBehind 7 = .ok (.invokevirtual 174, 3) := by decide +kernel
theorem dX9_skillsBehind_10 : decode cX9_skillsBehind 10 = .ok (.ireturn, 1) := by decide +kernel
def f_X9_skillsBehind (Λ : List Ly) (d : Dt) (p0 : Nat) (v1 : Int32) : Option (Int32 × Dt) := if clsAt Λ p0 = some 9 then (Option.bind (f_X9_weeksGo Λ d p0 v1) fun z2 => Option.bind (f_X9_sumOf Λ z2 p0 (3 : Int32)) fun z3 => some (z3, z2)) else none
set_option maxHeartbeats 4000000 in
set_option maxRecDepth 100000 in
theorem c_X9_skillsBehind (Γ : Cx) (l : Launch) (Λ : List Ly) (d : Dt) (p0 : Nat) (v1 : Int32) (z : Int32 × Dt) (hf : f_X9_skillsBehind Λ d p0 v1 = some z) : Cn Γ l yX9_skillsBehind cX9_skillsBehind 2 (some FieldType.int) 6 131 [.ref (ad Γ.2.2.1 p0), .int v1] Λ d (some (.int z.1)) z.2 := by
  refine Cn.of (own := "SeasonBoundModel") (by decide +kernel) rfl (Nat.le_of_ble_eq_true rfl) ?_
  intro p e s m below meth c C0 hr hlocks hH ls hl
  have hl : lv_has ls 2 [(0, .ref (ad Γ.2.2.1 p0)), (1, .int v1)] := hl
  obtain ⟨hx, hb, hml, hown, hts, hK⟩ := id C0
  unfold f_X9_skillsBehind at hf
  refine lv_aload_n hx hb dX9_skillsBehind_0 rfl (lv_at hl 0 rfl) ?_
  refine lv_iload_n hx hb dX9_skillsBehind_1 rfl (lv_at hl 1 rfl) ?_
  obtain ⟨g1, hf⟩ := gd hf
  obtain ⟨z2, h2, hf⟩ := ob hf
  refine r_callVv (rest := []) C0 hH (c_X9_weeksGo Γ l Λ d p0 v1 z2 h2) cv_X9_171 g1 (by decide) rfl hl.1 rfl (Nat.le_of_ble_eq_true rfl) dX9_skillsBehind_2 (by decide) (fun H locs hH => ?_)
  refine lv_aload_n hx hb dX9_skillsBehind_5 rfl (lv_at hl 0 rfl) ?_
  refine lv_iconst (v := (3 : Int32)) hx hb dX9_skillsBehind_6 (by decide) ?_
  obtain ⟨z3, h3, hf⟩ := ob hf
  refine r_callVi (rest := []) C0 hH (c_X9_sumOf Γ l Λ z2 p0 (3 : Int32) z3 h3) cv_X9_174 g1 (by decide) rfl hl.1 rfl (Nat.le_of_ble_eq_true rfl) dX9_skillsBehind_7 (by decide) (fun H locs hH => ?_)
  obtain rfl := Option.some.inj hf
  exact r_iret (d' := d) C0 hr hlocks hH rfl dX9_skillsBehind_10
theorem dX9_rule_0 : decode cX9_rule 0 = .ok (.aload_n 0, 1) := by decide +kernel
theorem dX9_rule_1 : decode cX9_rule 1 = .ok (.invokevirtual 177, 3) := by decide +kernel
theorem dX9_rule_4 : decode cX9_rule 4 = .ok (.iload_n 1, 1) := by decide +kernel
theorem dX9_rule_5 : decode cX9_rule 5 = .ok (.tableswitch 82 0 5 #[39, 47, 55, 63, 71, 76], 39) := by decide +kernel
theorem dX9_rule_44 : decode cX9_rule 44 = .ok (.aload_n 0, 1) := by decide +kernel
theorem dX9_rule_45 : decode cX9_rule 45 = .ok (.getfield 7, 3) := by decide +kernel
theorem dX9_rule_48 : decode cX9_rule 48 = .ok (.bipush 37, 2) := by decide +kernel
theorem dX9_rule_50 : decode cX9_rule 50 = .ok (.iaload, 1) := by decide +kernel
theorem dX9_rule_51 : decode cX9_rule 51 = .ok (.ireturn, 1) := by decide +kernel
theorem dX9_rule_52 : decode cX9_rule 52 = .ok (.aload_n 0, 1) := by decide +kernel
theorem dX9_rule_53 : decode cX9_rule 53 = .ok (.getfield 7, 3) := by decide +kernel
theorem dX9_rule_56 : decode cX9_rule 56 = .ok (.bipush 40, 2) := by decide +kernel
theorem dX9_rule_58 : decode cX9_rule 58 = .ok (.iaload, 1) := by decide +kernel
theorem dX9_rule_59 : decode cX9_rule 59 = .ok (.ireturn, 1) := by decide +kernel
theorem dX9_rule_60 : decode cX9_rule 60 = .ok (.aload_n 0, 1) := by decide +kernel
theorem dX9_rule_61 : decode cX9_rule 61 = .ok (.getfield 7, 3) := by decide +kernel
theorem dX9_rule_64 : decode cX9_rule 64 = .ok (.bipush 38, 2) := by decide +kernel
theorem dX9_rule_66 : decode cX9_rule 66 = .ok (.iaload, 1) := by decide +kernel
theorem dX9_rule_67 : decode cX9_rule 67 = .ok (.ireturn, 1) := by decide +kernel
theorem dX9_rule_68 : decode cX9_rule 68 = .ok (.aload_n 0, 1) := by decide +kernel
theorem dX9_rule_69 : decode cX9_rule 69 = .ok (.getfield 7, 3) := by decide +kernel
theorem dX9_rule_72 : decode cX9_rule 72 = .ok (.bipush 39, 2) := by decide +kernel
theorem dX9_rule_74 : decode cX9_rule 74 = .ok (.iaload, 1) := by decide +kernel
theorem dX9_rule_75 : decode cX9_rule 75 = .ok (.ireturn, 1) := by decide +kernel
theorem dX9_rule_76 : decode cX9_rule 76 = .ok (.aload_n 0, 1) := by decide +kernel
theorem dX9_rule_77 : decode cX9_rule 77 = .ok (.invokevirtual 160, 3) := by decide +kernel
theorem dX9_rule_80 : decode cX9_rule 80 = .ok (.ireturn, 1) := by decide +kernel
theorem dX9_rule_81 : decode cX9_rule 81 = .ok (.aload_n 0, 1) := by decide +kernel
theorem dX9_rule_82 : decode cX9_rule 82 = .ok (.iconst 3, 1) := by decide +kernel
theorem dX9_rule_83 : decode cX9_rule 83 = .ok (.invokevirtual 174, 3) := by decide +kernel
theorem dX9_rule_86 : decode cX9_rule 86 = .ok (.ireturn, 1) := by decide +kernel
theorem dX9_rule_87 : decode cX9_rule 87 = .ok (.iconst (-1), 1) := by decide +kernel
theorem dX9_rule_88 : decode cX9_rule 88 = .ok (.ireturn, 1) := by decide +kernel
def f_X9_rule (Λ : List Ly) (d : Dt) (p0 : Nat) (v1 : Int32) : Option (Int32 × Dt) := if clsAt Λ p0 = some 9 then (Option.bind (f_X9_starts Λ d p0) fun z2 => if v1 = (0 : Int32) then (Option.bind (rf Λ p0 9 0) fun q4 => if okA Λ q4 1 (37 : Int32) = true then (some ((z2.1 q4 ((37 : Int32)).toNatClampNeg), z2)) else none) else (if v1 = (1 : Int32) then (Option.bind (rf Λ p0 9 0) fun q7 => if okA Λ q7 1 (40 : Int32) = true then (some ((z2.1 q7 ((40 : Int32)).toNatClampNeg), z2)) else none) else (if v1 = (2 : Int32) then (Option.bind (rf Λ p0 9 0) fun q10 => if okA Λ q10 1 (38 : Int32) = true then (some ((z2.1 q10 ((38 : Int32)).toNatClampNeg), z2)) else none) else (if v1 = (3 : Int32) then (Option.bind (rf Λ p0 9 0) fun q13 => if okA Λ q13 1 (39 : Int32) = true then (some ((z2.1 q13 ((39 : Int32)).toNatClampNeg), z2)) else none) else (if v1 = (4 : Int32) then (Option.bind (f_X9_livingNow Λ z2 p0) fun z16 => some (z16, z2)) else (if v1 = (5 : Int32) then (Option.bind (f_X9_sumOf Λ z2 p0 (3 : Int32)) fun z18 => some (z18, z2)) else (some ((-1 : Int32), z2)))))))) else none
set_option maxHeartbeats 4000000 in
set_option maxRecDepth 100000 in
theorem c_X9_rule (Γ : Cx) (l : Launch) (Λ : List Ly) (d : Dt) (p0 : Nat) (v1 : Int32) (z : Int32 × Dt) (hf : f_X9_rule Λ d p0 v1 = some z) : Cn Γ l yX9_rule cX9_rule 2 (some FieldType.int) 4 86 [.ref (ad Γ.2.2.1 p0), .int v1] Λ d (some (.int z.1)) z.2 := by
  refine Cn.of (own := "SeasonBoundModel") (by decide +kernel) rfl (Nat.le_of_ble_eq_true rfl) ?_
  intro p e s m below meth c C0 hr hlocks hH ls hl
  have hl : lv_has ls 2 [(0, .ref (ad Γ.2.2.1 p0)), (1, .int v1)] := hl
  obtain ⟨hx, hb, hml, hown, hts, hK⟩ := id C0
  unfold f_X9_rule at hf
  refine lv_aload_n hx hb dX9_rule_0 rfl (lv_at hl 0 rfl) ?_
  obtain ⟨g1, hf⟩ := gd hf
  obtain ⟨z2, h2, hf⟩ := ob hf
  refine r_callVv (rest := []) C0 hH (c_X9_starts Γ l Λ d p0 z2 h2) cv_X9_177 g1 (by decide) rfl hl.1 rfl (Nat.le_of_ble_eq_true rfl) dX9_rule_1 (by decide) (fun H locs hH => ?_)
  refine lv_iload_n hx hb dX9_rule_4 rfl (lv_at hl 1 rfl) ?_
  by_cases c3 : v1 = (0 : Int32)
  · replace hf := it hf c3
    refine lv_tableIn (off := 39) (tgt := 44) hx hb dX9_rule_5 (by rw [c3]; decide) (by rw [c3]; decide) (by rw [c3]; rfl) (by decide) ?_
    refine lv_aload_n hx hb dX9_rule_44 rfl (lv_at hl 0 rfl) ?_
    obtain ⟨q4, g4, hf⟩ := ob hf
    refine r_getr C0 hH fl_X9_7 g4 dX9_rule_45 ?_
    refine lv_bipush (v := (37 : Int32)) hx hb dX9_rule_48 (by decide) ?_
    obtain ⟨g5, hf⟩ := gd hf
    refine r_iald C0 hH g5 dX9_rule_50 ?_
    obtain rfl := Option.some.inj hf
    exact r_iret (d' := d) C0 hr hlocks hH rfl dX9_rule_51
  · replace hf := ie hf c3
    by_cases c6 : v1 = (1 : Int32)
    · replace hf := it hf c6
      refine lv_tableIn (off := 47) (tgt := 52) hx hb dX9_rule_5 (by rw [c6]; decide) (by rw [c6]; decide) (by rw [c6]; rfl) (by decide) ?_
      refine lv_aload_n hx hb dX9_rule_52 rfl (lv_at hl 0 rfl) ?_
      obtain ⟨q7, g7, hf⟩ := ob hf
      refine r_getr C0 hH fl_X9_7 g7 dX9_rule_53 ?_
      refine lv_bipush (v := (40 : Int32)) hx hb dX9_rule_56 (by decide) ?_
      obtain ⟨g8, hf⟩ := gd hf
      refine r_iald C0 hH g8 dX9_rule_58 ?_
      obtain rfl := Option.some.inj hf
      exact r_iret (d' := d) C0 hr hlocks hH rfl dX9_rule_59
    · replace hf := ie hf c6
      by_cases c9 : v1 = (2 : Int32)
      · replace hf := it hf c9
        refine lv_tableIn (off := 55) (tgt := 60) hx hb dX9_rule_5 (by rw [c9]; decide) (by rw [c9]; decide) (by rw [c9]; rfl) (by decide) ?_
        refine lv_aload_n hx hb dX9_rule_60 rfl (lv_at hl 0 rfl) ?_
        obtain ⟨q10, g10, hf⟩ := ob hf
        refine r_getr C0 hH fl_X9_7 g10 dX9_rule_61 ?_
        refine lv_bipush (v := (38 : Int32)) hx hb dX9_rule_64 (by decide) ?_
        obtain ⟨g11, hf⟩ := gd hf
        refine r_iald C0 hH g11 dX9_rule_66 ?_
        obtain rfl := Option.some.inj hf
        exact r_iret (d' := d) C0 hr hlocks hH rfl dX9_rule_67
      · replace hf := ie hf c9
        by_cases c12 : v1 = (3 : Int32)
        · replace hf := it hf c12
          refine lv_tableIn (off := 63) (tgt := 68) hx hb dX9_rule_5 (by rw [c12]; decide) (by rw [c12]; decide) (by rw [c12]; rfl) (by decide) ?_
          refine lv_aload_n hx hb dX9_rule_68 rfl (lv_at hl 0 rfl) ?_
          obtain ⟨q13, g13, hf⟩ := ob hf
          refine r_getr C0 hH fl_X9_7 g13 dX9_rule_69 ?_
          refine lv_bipush (v := (39 : Int32)) hx hb dX9_rule_72 (by decide) ?_
          obtain ⟨g14, hf⟩ := gd hf
          refine r_iald C0 hH g14 dX9_rule_74 ?_
          obtain rfl := Option.some.inj hf
          exact r_iret (d' := d) C0 hr hlocks hH rfl dX9_rule_75
        · replace hf := ie hf c12
          by_cases c15 : v1 = (4 : Int32)
          · replace hf := it hf c15
            refine lv_tableIn (off := 71) (tgt := 76) hx hb dX9_rule_5 (by rw [c15]; decide) (by rw [c15]; decide) (by rw [c15]; rfl) (by decide) ?_
            refine lv_aload_n hx hb dX9_rule_76 rfl (lv_at hl 0 rfl) ?_
            obtain ⟨z16, h16, hf⟩ := ob hf
            refine r_callVi (rest := []) C0 hH (c_X9_livingNow Γ l Λ z2 p0 z16 h16) cv_X9_160 g1 (by decide) rfl hl.1 rfl (Nat.le_of_ble_eq_true rfl) dX9_rule_77 (by decide) (fun H locs hH => ?_)
            obtain rfl := Option.some.inj hf
            exact r_iret (d' := d) C0 hr hlocks hH rfl dX9_rule_80
          · replace hf := ie hf c15
            by_cases c17 : v1 = (5 : Int32)
            · replace hf := it hf c17
              refine lv_tableIn (off := 76) (tgt := 81) hx hb dX9_rule_5 (by rw [c17]; decide) (by rw [c17]; decide) (by rw [c17]; rfl) (by decide) ?_
              refine lv_aload_n hx hb dX9_rule_81 rfl (lv_at hl 0 rfl) ?_
              refine lv_iconst (v := (3 : Int32)) hx hb dX9_rule_82 (by decide) ?_
              obtain ⟨z18, h18, hf⟩ := ob hf
              refine r_callVi (rest := []) C0 hH (c_X9_sumOf Γ l Λ z2 p0 (3 : Int32) z18 h18) cv_X9_174 g1 (by decide) rfl hl.1 rfl (Nat.le_of_ble_eq_true rfl) dX9_rule_83 (by decide) (fun H locs hH => ?_)
              obtain rfl := Option.some.inj hf
              exact r_iret (d' := d) C0 hr hlocks hH rfl dX9_rule_86
            · replace hf := ie hf c17
              refine lv_tableOut (tgt := 87) hx hb dX9_rule_5 (by have hc3 := lv_neT c3 (a := 0) (by decide); have hc6 := lv_neT c6 (a := 1) (by decide); have hc9 := lv_neT c9 (a := 2) (by decide); have hc12 := lv_neT c12 (a := 3) (by decide); have hc15 := lv_neT c15 (a := 4) (by decide); have hc17 := lv_neT c17 (a := 5) (by decide); omega) (by decide) ?_
              refine lv_iconst (v := (-1 : Int32)) hx hb dX9_rule_87 (by decide) ?_
              obtain rfl := Option.some.inj hf
              exact r_iret (d' := d) C0 hr hlocks hH rfl dX9_rule_88
theorem dX9_child_0 : decode cX9_child 0 = .ok (.aload_n 0, 1) := by decide +kernel
theorem dX9_child_1 : decode cX9_child 1 = .ok (.iload_n 1, 1) := by decide +kernel
theorem dX9_child_2 : decode cX9_child 2 = .ok (.invokevirtual 180, 3) := by decide +kernel
theorem dX9_child_5 : decode cX9_child 5 = .ok (.ifCond .eq 15, 3) := by decide +kernel
theorem dX9_child_8 : decode cX9_child 8 = .ok (.iload_n 2, 1) := by decide +kernel
theorem dX9_child_9 : decode cX9_child 9 = .ok (.i2l, 1) := by decide +kernel
theorem dX9_child_10 : decode cX9_child 10 = .ok (.lconst 0, 1) := by decide +kernel
theorem dX9_child_11 : decode cX9_child 11 = .ok (.ldc2_w 183, 3) := by decide +kernel
theorem dX9_child_14 : decode cX9_child 14 = .ok (.invokestatic 56, 3) := by decide +kernel
theorem dX9_child_17 : decode cX9_child 17 = .ok (.ifCond .ne 5, 3) := by decide +kernel
theorem dX9_child_20 : decode cX9_child 20 = .ok (.iconst (-1), 1) := by decide +kernel
theorem dX9_child_21 : decode cX9_child 21 = .ok (.ireturn, 1) := by decide +kernel
theorem dX9_child_22 : decode cX9_child 22 = .ok (.aload_n 0, 1) := by decide +kernel
theorem dX9_child_23 : decode cX9_child 23 = .ok (.invokevirtual 177, 3) := by decide +kernel
theorem dX9_child_26 : decode cX9_child 26 = .ok (.iload_n 2, 1) := by decide +kernel
theorem dX9_child_27 : decode cX9_child 27 = .ok (.iconst 5, 1) := by decide +kernel
theorem dX9_child_28 : decode cX9_child 28 = .ok (.if_icmp .ge 12, 3) := by decide +kernel
theorem dX9_child_31 : decode cX9_child 31 = .ok (.aload_n 0, 1) := by decide +kernel
theorem dX9_child_32 : decode cX9_child 32 = .ok (.iload_n 1, 1) := by decide +kernel
theorem dX9_child_33 : decode cX9_child 33 = .ok (.iload_n 2, 1) := by decide +kernel
theorem dX9_child_34 : decode cX9_child 34 = .ok (.invokevirtual 136, 3) := by decide +kernel
theorem dX9_child_37 : decode cX9_child 37 = .ok (.goto 21, 3) := by decide +kernel
theorem dX9_child_40 : decode cX9_child 40 = .ok (.aload_n 0, 1) := by decide +kernel
theorem dX9_child_41 : decode cX9_child 41 = .ok (.iload_n 1, 1) := by decide +kernel
theorem dX9_child_42 : decode cX9_child 42 = .ok (.invokevirtual 139, 3) := by decide +kernel
theorem dX9_child_45 : decode cX9_child 45 = .ok (.ifCond .eq 8, 3) := by decide +kernel
theorem dX9_child_48 : decode cX9_child 48 = .ok (.bipush (-4), 2) := by decide +kernel
theorem dX9_child_50 : decode cX9_child 50 = .ok (.goto 8, 3) := by decide +kernel
theorem dX9_child_53 : decode cX9_child 53 = .ok (.aload_n 0, 1) := by decide +kernel
theorem dX9_child_54 : decode cX9_child 54 = .ok (.iload_n 1, 1) := by decide +kernel
theorem dX9_child_55 : decode cX9_child 55 = .ok (.invokevirtual 157, 3) := by decide +kernel
theorem dX9_child_58 : decode cX9_child 58 = .ok (.ireturn, 1) := by decide +kernel
def f_X9_child (Λ : List Ly) (d : Dt) (p0 : Nat) (v1 : Int32) (v2 : Int32) : Option (Int32 × Dt) := if clsAt Λ p0 = some 9 then (Option.bind (f_X9_isChild Λ d p0 v1) fun z2 => if z2 = 0 then (some ((-1 : Int32), d)) else (if (f_X9_in (v2).toInt64 (0 : Int64) (5 : Int64)) = 0 then (some ((-1 : Int32), d)) else (Option.bind (f_X9_starts Λ d p0) fun z5 => if (5 : Int32) ≤ v2 then (Option.bind (f_X9_isFree Λ z5 p0 v1) fun z7 => if z7 = 0 then (Option.bind (f_X9_learns Λ z5 p0 v1) fun z9 => some (z9, z5)) else (some ((-4 : Int32), z5))) else (Option.bind (f_X9_of Λ z5 p0 v1 v2) fun z10 => some (z10, z5))))) else none
set_option maxHeartbeats 4000000 in
set_option maxRecDepth 100000 in
theorem c_X9_child (Γ : Cx) (l : Launch) (Λ : List Ly) (d : Dt) (p0 : Nat) (v1 : Int32) (v2 : Int32) (z : Int32 × Dt) (hf : f_X9_child Λ d p0 v1 v2 = some z) : Cn Γ l yX9_child cX9_child 3 (some FieldType.int) 2 46 [.ref (ad Γ.2.2.1 p0), .int v1, .int v2] Λ d (some (.int z.1)) z.2 := by
  refine Cn.of (own := "SeasonBoundModel") (by decide +kernel) rfl (Nat.le_of_ble_eq_true rfl) ?_
  intro p e s m below meth c C0 hr hlocks hH ls hl
  have hl : lv_has ls 3 [(0, .ref (ad Γ.2.2.1 p0)), (1, .int v1), (2, .int v2)] := hl
  obtain ⟨hx, hb, hml, hown, hts, hK⟩ := id C0
  unfold f_X9_child at hf
  refine lv_aload_n hx hb dX9_child_0 rfl (lv_at hl 0 rfl) ?_
  refine lv_iload_n hx hb dX9_child_1 rfl (lv_at hl 1 rfl) ?_
  obtain ⟨g1, hf⟩ := gd hf
  obtain ⟨z2, h2, hf⟩ := ob hf
  refine r_callVi (rest := []) C0 hH (c_X9_isChild Γ l Λ d p0 v1 z2 h2) cv_X9_180 g1 (by decide) rfl hl.1 rfl (Nat.le_of_ble_eq_true rfl) dX9_child_2 (by decide) (fun H locs hH => ?_)
  refine lv_if_eq (tgt := 20) hx hb dX9_child_5 (by decide) (fun c3 => ?_) (fun c3 => ?_)
  · replace hf := it hf c3
    refine lv_iconst (v := (-1 : Int32)) hx hb dX9_child_20 (by decide) ?_
    obtain rfl := Option.some.inj hf
    exact r_iret (d' := d) C0 hr hlocks hH rfl dX9_child_21
  · replace hf := ie hf c3
    refine lv_iload_n hx hb dX9_child_8 rfl (lv_at hl 2 rfl) ?_
    refine lv_i2l (v := (v2).toInt64) hx hb dX9_child_9 rfl ?_
    refine lv_lconst (v := (0 : Int64)) hx hb dX9_child_10 (by decide) ?_
    refine lv_ldc2 hx hb hown (hts _ kl_X9_183) dX9_child_11 ?_
    refine r_callSi (rest := []) C0 hH (c_X9_in Γ l Λ d (v2).toInt64 (0 : Int64) (5 : Int64)) cs_X9_56 (by decide) rfl hl.1 rfl (Nat.le_of_ble_eq_true rfl) dX9_child_14 (by decide) (fun H locs hH => ?_)
    refine lv_if_ne (tgt := 22) hx hb dX9_child_17 (by decide) (fun c4 => ?_) (fun c4 => ?_)
    · replace hf := ie hf c4
      refine lv_aload_n hx hb dX9_child_22 rfl (lv_at hl 0 rfl) ?_
      obtain ⟨z5, h5, hf⟩ := ob hf
      refine r_callVv (rest := []) C0 hH (c_X9_starts Γ l Λ d p0 z5 h5) cv_X9_177 g1 (by decide) rfl hl.1 rfl (Nat.le_of_ble_eq_true rfl) dX9_child_23 (by decide) (fun H locs hH => ?_)
      refine lv_iload_n hx hb dX9_child_26 rfl (lv_at hl 2 rfl) ?_
      refine lv_iconst (v := (5 : Int32)) hx hb dX9_child_27 (by decide) ?_
      refine lv_icmp_ge (tgt := 40) hx hb dX9_child_28 (by decide) (fun c6 => ?_) (fun c6 => ?_)
      · replace hf := it hf c6
        refine lv_aload_n hx hb dX9_child_40 rfl (lv_at hl 0 rfl) ?_
        refine lv_iload_n hx hb dX9_child_41 rfl (lv_at hl 1 rfl) ?_
        obtain ⟨z7, h7, hf⟩ := ob hf
        refine r_callVi (rest := []) C0 hH (c_X9_isFree Γ l Λ z5 p0 v1 z7 h7) cv_X9_139 g1 (by decide) rfl hl.1 rfl (Nat.le_of_ble_eq_true rfl) dX9_child_42 (by decide) (fun H locs hH => ?_)
        refine lv_if_eq (tgt := 53) hx hb dX9_child_45 (by decide) (fun c8 => ?_) (fun c8 => ?_)
        · replace hf := it hf c8
          refine lv_aload_n hx hb dX9_child_53 rfl (lv_at hl 0 rfl) ?_
          refine lv_iload_n hx hb dX9_child_54 rfl (lv_at hl 1 rfl) ?_
          obtain ⟨z9, h9, hf⟩ := ob hf
          refine r_callVi (rest := []) C0 hH (c_X9_learns Γ l Λ z5 p0 v1 z9 h9) cv_X9_157 g1 (by decide) rfl hl.1 rfl (Nat.le_of_ble_eq_true rfl) dX9_child_55 (by decide) (fun H locs hH => ?_)
          obtain rfl := Option.some.inj hf
          exact r_iret (d' := d) C0 hr hlocks hH rfl dX9_child_58
        · replace hf := ie hf c8
          refine lv_bipush (v := (-4 : Int32)) hx hb dX9_child_48 (by decide) ?_
          refine lv_goto (tgt := 58) hx hb dX9_child_50 (by decide) ?_
          obtain rfl := Option.some.inj hf
          exact r_iret (d' := d) C0 hr hlocks hH rfl dX9_child_58
      · replace hf := ie hf c6
        refine lv_aload_n hx hb dX9_child_31 rfl (lv_at hl 0 rfl) ?_
        refine lv_iload_n hx hb dX9_child_32 rfl (lv_at hl 1 rfl) ?_
        refine lv_iload_n hx hb dX9_child_33 rfl (lv_at hl 2 rfl) ?_
        obtain ⟨z10, h10, hf⟩ := ob hf
        refine r_callVi (rest := []) C0 hH (c_X9_of Γ l Λ z5 p0 v1 v2 z10 h10) cv_X9_136 g1 (by decide) rfl hl.1 rfl (Nat.le_of_ble_eq_true rfl) dX9_child_34 (by decide) (fun H locs hH => ?_)
        refine lv_goto (tgt := 58) hx hb dX9_child_37 (by decide) ?_
        obtain rfl := Option.some.inj hf
        exact r_iret (d' := d) C0 hr hlocks hH rfl dX9_child_58
    · replace hf := it hf c4
      refine lv_iconst (v := (-1 : Int32)) hx hb dX9_child_20 (by decide) ?_
      obtain rfl := Option.some.inj hf
      exact r_iret (d' := d) C0 hr hlocks hH rfl dX9_child_21
theorem dX9_boundTo_0 : decode cX9_boundTo 0 = .ok (.iconst 0, 1) := by decide +kernel
theorem dX9_boundTo_1 : decode cX9_boundTo 1 = .ok (.istore_n 2, 1) := by decide +kernel
theorem dX9_boundTo_2 : decode cX9_boundTo 2 = .ok (.iconst 0, 1) := by decide +kernel
theorem dX9_boundTo_3 : decode cX9_boundTo 3 = .ok (.istore_n 3, 1) := by decide +kernel
theorem dX9_boundTo_4 : decode cX9_boundTo 4 = .ok (.iload_n 3, 1) := by decide +kernel
theorem dX9_boundTo_5 : decode cX9_boundTo 5 = .ok (.aload_n 0, 1) := by decide +kernel
theorem dX9_boundTo_6 : decode cX9_boundTo 6 = .ok (.getfield 7, 3) := by decide +kernel
theorem dX9_boundTo_9 : decode cX9_boundTo 9 = .ok (.bipush 37, 2) := by decide +kernel
theorem dX9_boundTo_11 : decode cX9_boundTo 11 = .ok (.iaload, 1) := by decide +kernel
theorem dX9_boundTo_12 : decode cX9_boundTo 12 = .ok (.if_icmp .ge 39, 3) := by decide +kernel
theorem dX9_boundTo_15 : decode cX9_boundTo 15 = .ok (.iload_n 2, 1) := by decide +kernel
theorem dX9_boundTo_16 : decode cX9_boundTo 16 = .ok (.aload_n 0, 1) := by decide +kernel
theorem dX9_boundTo_17 : decode cX9_boundTo 17 = .ok (.getfield 7, 3) := by decide +kernel
theorem dX9_boundTo_20 : decode cX9_boundTo 20 = .ok (.bipush 12, 2) := by decide +kernel
theorem dX9_boundTo_22 : decode cX9_boundTo 22 = .ok (.iconst 5, 1) := by decide +kernel
theorem dX9_boundTo_23 : decode cX9_boundTo 23 = .ok (.iload_n 3, 1) := by decide +kernel
theorem dX9_boundTo_24 : decode cX9_boundTo 24 = .ok (.imul, 1) := by decide +kernel
theorem dX9_boundTo_25 : decode cX9_boundTo 25 = .ok (.iadd, 1) := by decide +kernel
theorem dX9_boundTo_26 : decode cX9_boundTo 26 = .ok (.iconst 1, 1) := by decide +kernel
theorem dX9_boundTo_27 : decode cX9_boundTo 27 = .ok (.iadd, 1) := by decide +kernel
theorem dX9_boundTo_28 : decode cX9_boundTo 28 = .ok (.iaload, 1) := by decide +kernel
theorem dX9_boundTo_29 : decode cX9_boundTo 29 = .ok (.iload_n 1, 1) := by decide +kernel
theorem dX9_boundTo_30 : decode cX9_boundTo 30 = .ok (.if_icmp .ne 7, 3) := by decide +kernel
theorem dX9_boundTo_33 : decode cX9_boundTo 33 = .ok (.iconst 1, 1) := by decide +kernel
theorem dX9_boundTo_34 : decode cX9_boundTo 34 = .ok (.goto 4, 3) := by decide +kernel
theorem dX9_boundTo_37 : decode cX9_boundTo 37 = .ok (.iconst 0, 1) := by decide +kernel
theorem dX9_boundTo_38 : decode cX9_boundTo 38 = .ok (.invokestatic 146, 3) := by decide +kernel
theorem dX9_boundTo_41 : decode cX9_boundTo 41 = .ok (.iload_n 3, 1) := by decide +kernel
theorem dX9_boundTo_42 : decode cX9_boundTo 42 = .ok (.ishl, 1) := by decide +kernel
theorem dX9_boundTo_43 : decode cX9_boundTo 43 = .ok (.ior, 1) := by decide +kernel
theorem dX9_boundTo_44 : decode cX9_boundTo 44 = .ok (.istore_n 2, 1) := by decide +kernel
theorem dX9_boundTo_45 : decode cX9_boundTo 45 = .ok (.iinc 3 1, 3) := by decide +kernel
theorem dX9_boundTo_48 : decode cX9_boundTo 48 = .ok (.goto (-44), 3) := by decide +kernel
theorem dX9_boundTo_51 : decode cX9_boundTo 51 = .ok (.iload_n 2, 1) := by decide +kernel
theorem dX9_boundTo_52 : decode cX9_boundTo 52 = .ok (.ireturn, 1) := by decide +kernel
def f_X9_boundTo_L4 (Λ : List Ly) (d : Dt) (p0 : Nat) (v1 : Int32) : Nat → Int32 → Int32 → Option Int32
  | 0, _, _ => none
  | n + 1, v2, v3 => Option.bind (rf Λ p0 9 0) fun q1 => if okA Λ q1 1 (37 : Int32) = true then (if (d.1 q1 ((37 : Int32)).toNatClampNeg) ≤ v3 then (some v2) else (if okA Λ q1 1 (((12 : Int32) + ((5 : Int32) * v3)) + (1 : Int32)) = true then (if (d.1 q1 ((((12 : Int32) + ((5 : Int32) * v3)) + (1 : Int32))).toNatClampNeg) = v1 then (f_X9_boundTo_L4 Λ d p0 v1 n (v2 ||| ((f_X9_flag (1 : Int32)) <<< (v3 &&& 31))) (v3 + (1 : Int32))) else (f_X9_boundTo_L4 Λ d p0 v1 n (v2 ||| ((f_X9_flag (0 : Int32)) <<< (v3 &&& 31))) (v3 + (1 : Int32)))) else none)) else none
def f_X9_boundTo (Λ : List Ly) (d : Dt) (p0 : Nat) (v1 : Int32) : Option Int32 := f_X9_boundTo_L4 Λ d p0 v1 FU (0 : Int32) (0 : Int32)
set_option maxHeartbeats 4000000 in
set_option maxRecDepth 100000 in
theorem w_X9_boundTo_L4 {p : Program} {l : Launch} {e : Env} {s : State} {m : MethodId} {args : Array Value} {below : List Frame} {meth : Method} {c : Code} {Γ : Cx} {Λ : List Ly} {z : Int32} {d : Dt} (C0 : Ct Γ p s m args c cX9_boundTo 4 "SeasonBoundModel") (hr : meth.sig.returnType = (some FieldType.int)) (hlocks : meth.locks = false) (p0 : Nat) (v1 : Int32) :
    ∀ (n : Nat) (v2 : Int32) (v3 : Int32), f_X9_boundTo_L4 Λ d p0 v1 n v2 v3 = some z → ∀ (H : Heap) (locs : List Loc) (ls : Array Slot), Hs Γ Λ d s H locs → lv_has ls 4 [(0, .ref (ad Γ.2.2.1 p0)), (1, .int v1), (2, .int v2), (3, .int v3)] → W p l e { frames := 1, cells := 0, slots := 0, locals := 20 } s m args below meth c H locs 0 0 (MQ below (QN Γ Λ d (some (.int z))) args s 0 0 (AP Γ)) (F0 m 4 ls []) := by
  obtain ⟨hx, hb, hml, hown, hts, hK⟩ := id C0
  intro n
  induction n with
  | zero =>
    intro v2 v3 hf
    cases hf
  | succ n ih =>
    intro v2 v3 hf H locs ls hH hl
    unfold f_X9_boundTo_L4 at hf
    refine lv_iload_n hx hb dX9_boundTo_4 rfl (lv_at hl 3 rfl) ?_
    refine lv_aload_n hx hb dX9_boundTo_5 rfl (lv_at hl 0 rfl) ?_
    obtain ⟨q1, g1, hf⟩ := ob hf
    refine r_getr C0 hH fl_X9_7 g1 dX9_boundTo_6 ?_
    refine lv_bipush (v := (37 : Int32)) hx hb dX9_boundTo_9 (by decide) ?_
    obtain ⟨g2, hf⟩ := gd hf
    refine r_iald C0 hH g2 dX9_boundTo_11 ?_
    refine lv_icmp_ge (tgt := 51) hx hb dX9_boundTo_12 (by decide) (fun c3 => ?_) (fun c3 => ?_)
    · replace hf := it hf c3
      refine lv_iload_n hx hb dX9_boundTo_51 rfl (lv_at hl 2 rfl) ?_
      obtain rfl := Option.some.inj hf
      exact r_iret (d' := d) C0 hr hlocks hH rfl dX9_boundTo_52
    · replace hf := ie hf c3
      refine lv_iload_n hx hb dX9_boundTo_15 rfl (lv_at hl 2 rfl) ?_
      refine lv_aload_n hx hb dX9_boundTo_16 rfl (lv_at hl 0 rfl) ?_
      refine r_getr C0 hH fl_X9_7 g1 dX9_boundTo_17 ?_
      refine lv_bipush (v := (12 : Int32)) hx hb dX9_boundTo_20 (by decide) ?_
      refine lv_iconst (v := (5 : Int32)) hx hb dX9_boundTo_22 (by decide) ?_
      refine lv_iload_n hx hb dX9_boundTo_23 rfl (lv_at hl 3 rfl) ?_
      refine lv_imul hx hb dX9_boundTo_24 ?_
      refine lv_iadd hx hb dX9_boundTo_25 ?_
      refine lv_iconst (v := (1 : Int32)) hx hb dX9_boundTo_26 (by decide) ?_
      refine lv_iadd hx hb dX9_boundTo_27 ?_
      obtain ⟨g4, hf⟩ := gd hf
      refine r_iald C0 hH g4 dX9_boundTo_28 ?_
      refine lv_iload_n hx hb dX9_boundTo_29 rfl (lv_at hl 1 rfl) ?_
      refine lv_icmp_ne (tgt := 37) hx hb dX9_boundTo_30 (by decide) (fun c5 => ?_) (fun c5 => ?_)
      · replace hf := ie hf c5
        refine lv_iconst (v := (0 : Int32)) hx hb dX9_boundTo_37 (by decide) ?_
        refine r_callSi (rest := [.int v2]) C0 hH (c_X9_flag Γ l Λ d (0 : Int32)) cs_X9_146 (by decide) rfl hl.1 rfl (Nat.le_of_ble_eq_true rfl) dX9_boundTo_38 (by decide) (fun H locs hH => ?_)
        refine lv_iload_n hx hb dX9_boundTo_41 rfl (lv_at hl 3 rfl) ?_
        refine lv_ishl hx hb dX9_boundTo_42 ?_
        refine lv_ior hx hb dX9_boundTo_43 ?_
        refine lv_istore_n (lv' := [(2, .int (v2 ||| ((f_X9_flag (0 : Int32)) <<< (v3 &&& 31)))), (0, .ref (ad Γ.2.2.1 p0)), (1, .int v1), (3, .int v3)]) hx hb dX9_boundTo_44 rfl hl (by decide) rfl (fun ls hl => ?_)
        refine lv_iinc (v := (v3 + (1 : Int32))) (lv' := [(3, .int (v3 + (1 : Int32))), (2, .int (v2 ||| ((f_X9_flag (0 : Int32)) <<< (v3 &&& 31)))), (0, .ref (ad Γ.2.2.1 p0)), (1, .int v1)]) hx hb dX9_boundTo_45 hl (k := 3) rfl (congrArg (fun w => v3 + w) (by decide)) (by decide) rfl (fun ls hl => ?_)
        refine lv_goto (tgt := 4) hx hb dX9_boundTo_48 (by decide) ?_
        exact ih (v2 ||| ((f_X9_flag (0 : Int32)) <<< (v3 &&& 31))) (v3 + (1 : Int32)) hf _ _ _ hH (lv_sub hl [2, 3, 1, 0] rfl)
      · replace hf := it hf c5
        refine lv_iconst (v := (1 : Int32)) hx hb dX9_boundTo_33 (by decide) ?_
        refine lv_goto (tgt := 38) hx hb dX9_boundTo_34 (by decide) ?_
        refine r_callSi (rest := [.int v2]) C0 hH (c_X9_flag Γ l Λ d (1 : Int32)) cs_X9_146 (by decide) rfl hl.1 rfl (Nat.le_of_ble_eq_true rfl) dX9_boundTo_38 (by decide) (fun H locs hH => ?_)
        refine lv_iload_n hx hb dX9_boundTo_41 rfl (lv_at hl 3 rfl) ?_
        refine lv_ishl hx hb dX9_boundTo_42 ?_
        refine lv_ior hx hb dX9_boundTo_43 ?_
        refine lv_istore_n (lv' := [(2, .int (v2 ||| ((f_X9_flag (1 : Int32)) <<< (v3 &&& 31)))), (0, .ref (ad Γ.2.2.1 p0)), (1, .int v1), (3, .int v3)]) hx hb dX9_boundTo_44 rfl hl (by decide) rfl (fun ls hl => ?_)
        refine lv_iinc (v := (v3 + (1 : Int32))) (lv' := [(3, .int (v3 + (1 : Int32))), (2, .int (v2 ||| ((f_X9_flag (1 : Int32)) <<< (v3 &&& 31)))), (0, .ref (ad Γ.2.2.1 p0)), (1, .int v1)]) hx hb dX9_boundTo_45 hl (k := 3) rfl (congrArg (fun w => v3 + w) (by decide)) (by decide) rfl (fun ls hl => ?_)
        refine lv_goto (tgt := 4) hx hb dX9_boundTo_48 (by decide) ?_
        exact ih (v2 ||| ((f_X9_flag (1 : Int32)) <<< (v3 &&& 31))) (v3 + (1 : Int32)) hf _ _ _ hH (lv_sub hl [2, 3, 1, 0] rfl)
set_option maxHeartbeats 4000000 in
set_option maxRecDepth 100000 in
theorem c_X9_boundTo (Γ : Cx) (l : Launch) (Λ : List Ly) (d : Dt) (p0 : Nat) (v1 : Int32) (z : Int32) (hf : f_X9_boundTo Λ d p0 v1 = some z) : Cn Γ l yX9_boundTo cX9_boundTo 4 (some FieldType.int) 1 20 [.ref (ad Γ.2.2.1 p0), .int v1] Λ d (some (.int z)) d := by
  refine Cn.of (own := "SeasonBoundModel") (by decide +kernel) rfl (Nat.le_of_ble_eq_true rfl) ?_
  intro p e s m below meth c C0 hr hlocks hH ls hl
  have hl : lv_has ls 4 [(0, .ref (ad Γ.2.2.1 p0)), (1, .int v1)] := hl
  obtain ⟨hx, hb, hml, hown, hts, hK⟩ := id C0
  unfold f_X9_boundTo at hf
  refine lv_iconst (v := (0 : Int32)) hx hb dX9_boundTo_0 (by decide) ?_
  refine lv_istore_n (lv' := [(2, .int (0 : Int32)), (0, .ref (ad Γ.2.2.1 p0)), (1, .int v1)]) hx hb dX9_boundTo_1 rfl hl (by decide) rfl (fun ls hl => ?_)
  refine lv_iconst (v := (0 : Int32)) hx hb dX9_boundTo_2 (by decide) ?_
  refine lv_istore_n (lv' := [(3, .int (0 : Int32)), (2, .int (0 : Int32)), (0, .ref (ad Γ.2.2.1 p0)), (1, .int v1)]) hx hb dX9_boundTo_3 rfl hl (by decide) rfl (fun ls hl => ?_)
  refine w_X9_boundTo_L4 C0 hr hlocks p0 v1 FU (0 : Int32) (0 : Int32) hf _ _ _ hH (lv_sub hl [2, 3, 1, 0] rfl)
theorem dX9_season_0 : decode cX9_season 0 = .ok (.iload_n 1, 1) := by decide +kernel
theorem dX9_season_1 : decode cX9_season 1 = .ok (.invokestatic 185, 3) := by decide +kernel
theorem dX9_season_4 : decode cX9_season 4 = .ok (.ifCond .eq 15, 3) := by decide +kernel
theorem dX9_season_7 : decode cX9_season 7 = .ok (.iload_n 2, 1) := by decide +kernel
theorem dX9_season_8 : decode cX9_season 8 = .ok (.i2l, 1) := by decide +kernel
theorem dX9_season_9 : decode cX9_season 9 = .ok (.lconst 0, 1) := by decide +kernel
theorem dX9_season_10 : decode cX9_season 10 = .ok (.ldc2_w 132, 3) := by decide +kernel
theorem dX9_season_13 : decode cX9_season 13 = .ok (.invokestatic 56, 3) := by decide +kernel
theorem dX9_season_16 : decode cX9_season 16 = .ok (.ifCond .ne 5, 3) := by decide +kernel
theorem dX9_season_19 : decode cX9_season 19 = .ok (.iconst (-1), 1) := by decide +kernel
theorem dX9_season_20 : decode cX9_season 20 = .ok (.ireturn, 1) := by decide +kernel
theorem dX9_season_21 : decode cX9_season 21 = .ok (.iload_n 2, 1) := by decide +kernel
theorem dX9_season_22 : decode cX9_season 22 = .ok (.iconst 3, 1) := by decide +kernel
theorem dX9_season_23 : decode cX9_season 23 = .ok (.if_icmp .ge 16, 3) := by decide +kernel
theorem dX9_season_26 : decode cX9_season 26 = .ok (.aload_n 0, 1) := by decide +kernel
theorem dX9_season_27 : decode cX9_season 27 = .ok (.getfield 7, 3) := by decide +kernel
theorem dX9_season_30 : decode cX9_season 30 = .ok (.iconst 3, 1) := by decide +kernel
theorem dX9_season_31 : decode cX9_season 31 = .ok (.iload_n 1, 1) := by decide +kernel
theorem dX9_season_32 : decode cX9_season 32 = .ok (.imul, 1) := by decide +kernel
theorem dX9_season_33 : decode cX9_season 33 = .ok (.iload_n 2, 1) := by decide +kernel
theorem dX9_season_34 : decode cX9_season 34 = .ok (.iadd, 1) := by decide +kernel
theorem dX9_season_35 : decode cX9_season 35 = .ok (.iaload, 1) := by decide +kernel
theorem dX9_season_36 : decode cX9_season 36 = .ok (.goto 8, 3) := by decide +kernel
theorem dX9_season_39 : decode cX9_season 39 = .ok (.aload_n 0, 1) := by decide +kernel
theorem dX9_season_40 : decode cX9_season 40 = .ok (.iload_n 1, 1) := by decide +kernel
theorem dX9_season_41 : decode cX9_season 41 = .ok (.invokevirtual 188, 3) := by decide +kernel
theorem dX9_season_44 : decode cX9_season 44 = .ok (.ireturn, 1) := by decide +kernel
def f_X9_season (Λ : List Ly) (d : Dt) (p0 : Nat) (v1 : Int32) (v2 : Int32) : Option Int32 := if (f_X9_isSeason v1) = 0 then (some (-1 : Int32)) else (if (f_X9_in (v2).toInt64 (0 : Int64) (3 : Int64)) = 0 then (some (-1 : Int32)) else (if (3 : Int32) ≤ v2 then (if clsAt Λ p0 = some 9 then (Option.bind (f_X9_boundTo Λ d p0 v1) fun z5 => some z5) else none) else (Option.bind (rf Λ p0 9 0) fun q6 => if okA Λ q6 1 (((3 : Int32) * v1) + v2) = true then (some (d.1 q6 ((((3 : Int32) * v1) + v2)).toNatClampNeg)) else none)))
set_option maxHeartbeats 4000000 in
set_option maxRecDepth 100000 in
theorem c_X9_season (Γ : Cx) (l : Launch) (Λ : List Ly) (d : Dt) (p0 : Nat) (v1 : Int32) (v2 : Int32) (z : Int32) (hf : f_X9_season Λ d p0 v1 v2 = some z) : Cn Γ l yX9_season cX9_season 3 (some FieldType.int) 2 45 [.ref (ad Γ.2.2.1 p0), .int v1, .int v2] Λ d (some (.int z)) d := by
  refine Cn.of (own := "SeasonBoundModel") (by decide +kernel) rfl (Nat.le_of_ble_eq_true rfl) ?_
  intro p e s m below meth c C0 hr hlocks hH ls hl
  have hl : lv_has ls 3 [(0, .ref (ad Γ.2.2.1 p0)), (1, .int v1), (2, .int v2)] := hl
  obtain ⟨hx, hb, hml, hown, hts, hK⟩ := id C0
  unfold f_X9_season at hf
  refine lv_iload_n hx hb dX9_season_0 rfl (lv_at hl 1 rfl) ?_
  refine r_callSi (rest := []) C0 hH (c_X9_isSeason Γ l Λ d v1) cs_X9_185 (by decide) rfl hl.1 rfl (Nat.le_of_ble_eq_true rfl) dX9_season_1 (by decide) (fun H locs hH => ?_)
  refine lv_if_eq (tgt := 19) hx hb dX9_season_4 (by decide) (fun c1 => ?_) (fun c1 => ?_)
  · replace hf := it hf c1
    refine lv_iconst (v := (-1 : Int32)) hx hb dX9_season_19 (by decide) ?_
    obtain rfl := Option.some.inj hf
    exact r_iret (d' := d) C0 hr hlocks hH rfl dX9_season_20
  · replace hf := ie hf c1
    refine lv_iload_n hx hb dX9_season_7 rfl (lv_at hl 2 rfl) ?_
    refine lv_i2l (v := (v2).toInt64) hx hb dX9_season_8 rfl ?_
    refine lv_lconst (v := (0 : Int64)) hx hb dX9_season_9 (by decide) ?_
    refine lv_ldc2 hx hb hown (hts _ kl_X9_132) dX9_season_10 ?_
    refine r_callSi (rest := []) C0 hH (c_X9_in Γ l Λ d (v2).toInt64 (0 : Int64) (3 : Int64)) cs_X9_56 (by decide) rfl hl.1 rfl (Nat.le_of_ble_eq_true rfl) dX9_season_13 (by decide) (fun H locs hH => ?_)
    refine lv_if_ne (tgt := 21) hx hb dX9_season_16 (by decide) (fun c2 => ?_) (fun c2 => ?_)
    · replace hf := ie hf c2
      refine lv_iload_n hx hb dX9_season_21 rfl (lv_at hl 2 rfl) ?_
      refine lv_iconst (v := (3 : Int32)) hx hb dX9_season_22 (by decide) ?_
      refine lv_icmp_ge (tgt := 39) hx hb dX9_season_23 (by decide) (fun c3 => ?_) (fun c3 => ?_)
      · replace hf := it hf c3
        refine lv_aload_n hx hb dX9_season_39 rfl (lv_at hl 0 rfl) ?_
        refine lv_iload_n hx hb dX9_season_40 rfl (lv_at hl 1 rfl) ?_
        obtain ⟨g4, hf⟩ := gd hf
        obtain ⟨z5, h5, hf⟩ := ob hf
        refine r_callVi (rest := []) C0 hH (c_X9_boundTo Γ l Λ d p0 v1 z5 h5) cv_X9_188 g4 (by decide) rfl hl.1 rfl (Nat.le_of_ble_eq_true rfl) dX9_season_41 (by decide) (fun H locs hH => ?_)
        obtain rfl := Option.some.inj hf
        exact r_iret (d' := d) C0 hr hlocks hH rfl dX9_season_44
      · replace hf := ie hf c3
        refine lv_aload_n hx hb dX9_season_26 rfl (lv_at hl 0 rfl) ?_
        obtain ⟨q6, g6, hf⟩ := ob hf
        refine r_getr C0 hH fl_X9_7 g6 dX9_season_27 ?_
        refine lv_iconst (v := (3 : Int32)) hx hb dX9_season_30 (by decide) ?_
        refine lv_iload_n hx hb dX9_season_31 rfl (lv_at hl 1 rfl) ?_
        refine lv_imul hx hb dX9_season_32 ?_
        refine lv_iload_n hx hb dX9_season_33 rfl (lv_at hl 2 rfl) ?_
        refine lv_iadd hx hb dX9_season_34 ?_
        obtain ⟨g7, hf⟩ := gd hf
        refine r_iald C0 hH g7 dX9_season_35 ?_
        refine lv_goto (tgt := 44) hx hb dX9_season_36 (by decide) ?_
        obtain rfl := Option.some.inj hf
        exact r_iret (d' := d) C0 hr hlocks hH rfl dX9_season_44
    · replace hf := it hf c2
      refine lv_iconst (v := (-1 : Int32)) hx hb dX9_season_19 (by decide) ?_
      obtain rfl := Option.some.inj hf
      exact r_iret (d' := d) C0 hr hlocks hH rfl dX9_season_20
theorem dX9_becomes_0 : decode cX9_becomes 0 = .ok (.aload_n 0, 1) := by decide +kernel
theorem dX9_becomes_1 : decode cX9_becomes 1 = .ok (.getfield 7, 3) := by decide +kernel
theorem dX9_becomes_4 : decode cX9_becomes 4 = .ok (.iload_n 1, 1) := by decide +kernel
theorem dX9_becomes_5 : decode cX9_becomes 5 = .ok (.iaload, 1) := by decide +kernel
theorem dX9_becomes_6 : decode cX9_becomes 6 = .ok (.istore_n 3, 1) := by decide +kernel
theorem dX9_becomes_7 : decode cX9_becomes 7 = .ok (.aload_n 0, 1) := by decide +kernel
theorem dX9_becomes_8 : decode cX9_becomes 8 = .ok (.getfield 7, 3) := by decide +kernel
theorem dX9_becomes_11 : decode cX9_becomes 11 = .ok (.iload_n 1, 1) := by decide +kernel
theorem dX9_becomes_12 : decode cX9_becomes 12 = .ok (.iload_n 2, 1) := by decide +kernel
theorem dX9_becomes_13 : decode cX9_becomes 13 = .ok (.iastore, 1) := by decide +kernel
theorem dX9_becomes_14 : decode cX9_becomes 14 = .ok (.iload_n 3, 1) := by decide +kernel
theorem dX9_becomes_15 : decode cX9_becomes 15 = .ok (.ireturn, 1) := by decide +kernel
def f_X9_becomes (Λ : List Ly) (d : Dt) (p0 : Nat) (v1 : Int32) (v2 : Int32) : Option (Int32 × Dt) := Option.bind (rf Λ p0 9 0) fun q1 => if okA Λ q1 1 v1 = true then (some ((d.1 q1 (v1).toNatClampNeg), (pI d q1 (v1).toNatClampNeg v2))) else none
set_option maxHeartbeats 4000000 in
set_option maxRecDepth 100000 in
theorem c_X9_becomes (Γ : Cx) (l : Launch) (Λ : List Ly) (d : Dt) (p0 : Nat) (v1 : Int32) (v2 : Int32) (z : Int32 × Dt) (hf : f_X9_becomes Λ d p0 v1 v2 = some z) : Cn Γ l yX9_becomes cX9_becomes 4 (some FieldType.int) 0 0 [.ref (ad Γ.2.2.1 p0), .int v1, .int v2] Λ d (some (.int z.1)) z.2 := by
  refine Cn.of (own := "SeasonBoundModel") (by decide +kernel) rfl (Nat.le_of_ble_eq_true rfl) ?_
  intro p e s m below meth c C0 hr hlocks hH ls hl
  have hl : lv_has ls 4 [(0, .ref (ad Γ.2.2.1 p0)), (1, .int v1), (2, .int v2)] := hl
  obtain ⟨hx, hb, hml, hown, hts, hK⟩ := id C0
  unfold f_X9_becomes at hf
  refine lv_aload_n hx hb dX9_becomes_0 rfl (lv_at hl 0 rfl) ?_
  obtain ⟨q1, g1, hf⟩ := ob hf
  refine r_getr C0 hH fl_X9_7 g1 dX9_becomes_1 ?_
  refine lv_iload_n hx hb dX9_becomes_4 rfl (lv_at hl 1 rfl) ?_
  obtain ⟨g2, hf⟩ := gd hf
  refine r_iald C0 hH g2 dX9_becomes_5 ?_
  refine lv_istore_n (lv' := [(3, .int (d.1 q1 (v1).toNatClampNeg)), (0, .ref (ad Γ.2.2.1 p0)), (1, .int v1), (2, .int v2)]) hx hb dX9_becomes_6 rfl hl (by decide) rfl (fun ls hl => ?_)
  refine lv_aload_n hx hb dX9_becomes_7 rfl (lv_at hl 1 rfl) ?_
  refine r_getr C0 hH fl_X9_7 g1 dX9_becomes_8 ?_
  refine lv_iload_n hx hb dX9_becomes_11 rfl (lv_at hl 2 rfl) ?_
  refine lv_iload_n hx hb dX9_becomes_12 rfl (lv_at hl 3 rfl) ?_
  refine r_iast C0 hH g2 dX9_becomes_13 (fun H locs hH => ?_)
  refine lv_iload_n hx hb dX9_becomes_14 rfl (lv_at hl 0 rfl) ?_
  obtain rfl := Option.some.inj hf
  exact r_iret (d' := d) C0 hr hlocks hH rfl dX9_becomes_15
theorem dX9_alter_0 : decode cX9_alter 0 = .ok (.iload_n 2, 1) := by decide +kernel
theorem dX9_alter_1 : decode cX9_alter 1 = .ok (.ifCond .ne 15, 3) := by decide +kernel
theorem dX9_alter_4 : decode cX9_alter 4 = .ok (.iload_n 3, 1) := by decide +kernel
theorem dX9_alter_5 : decode cX9_alter 5 = .ok (.i2l, 1) := by decide +kernel
theorem dX9_alter_6 : decode cX9_alter 6 = .ok (.lconst 0, 1) := by decide +kernel
theorem dX9_alter_7 : decode cX9_alter 7 = .ok (.ldc2_w 132, 3) := by decide +kernel
theorem dX9_alter_10 : decode cX9_alter 10 = .ok (.invokestatic 56, 3) := by decide +kernel
theorem dX9_alter_13 : decode cX9_alter 13 = .ok (.goto 20, 3) := by decide +kernel
theorem dX9_alter_16 : decode cX9_alter 16 = .ok (.iload_n 2, 1) := by decide +kernel
theorem dX9_alter_17 : decode cX9_alter 17 = .ok (.iconst 1, 1) := by decide +kernel
theorem dX9_alter_18 : decode cX9_alter 18 = .ok (.if_icmp .ne 14, 3) := by decide +kernel
theorem dX9_alter_21 : decode cX9_alter 21 = .ok (.iload_n 3, 1) := by decide +kernel
theorem dX9_alter_22 : decode cX9_alter 22 = .ok (.invokestatic 191, 3) := by decide +kernel
theorem dX9_alter_25 : decode cX9_alter 25 = .ok (.ifCond .eq 7, 3) := by decide +kernel
theorem dX9_alter_28 : decode cX9_alter 28 = .ok (.iconst 1, 1) := by decide +kernel
theorem dX9_alter_29 : decode cX9_alter 29 = .ok (.goto 4, 3) := by decide +kernel
theorem dX9_alter_32 : decode cX9_alter 32 = .ok (.iconst 0, 1) := by decide +kernel
theorem dX9_alter_33 : decode cX9_alter 33 = .ok (.istore 4, 2) := by decide +kernel
theorem dX9_alter_35 : decode cX9_alter 35 = .ok (.aload_n 0, 1) := by decide +kernel
theorem dX9_alter_36 : decode cX9_alter 36 = .ok (.iload_n 1, 1) := by decide +kernel
theorem dX9_alter_37 : decode cX9_alter 37 = .ok (.invokevirtual 180, 3) := by decide +kernel
theorem dX9_alter_40 : decode cX9_alter 40 = .ok (.ifCond .eq 32, 3) := by decide +kernel
theorem dX9_alter_43 : decode cX9_alter 43 = .ok (.iload 4, 2) := by decide +kernel
theorem dX9_alter_45 : decode cX9_alter 45 = .ok (.ifCond .eq 27, 3) := by decide +kernel
theorem dX9_alter_48 : decode cX9_alter 48 = .ok (.aload_n 0, 1) := by decide +kernel
theorem dX9_alter_49 : decode cX9_alter 49 = .ok (.bipush 12, 2) := by decide +kernel
theorem dX9_alter_51 : decode cX9_alter 51 = .ok (.iconst 5, 1) := by decide +kernel
theorem dX9_alter_52 : decode cX9_alter 52 = .ok (.iload_n 1, 1) := by decide +kernel
theorem dX9_alter_53 : decode cX9_alter 53 = .ok (.imul, 1) := by decide +kernel
theorem dX9_alter_54 : decode cX9_alter 54 = .ok (.iadd, 1) := by decide +kernel
theorem dX9_alter_55 : decode cX9_alter 55 = .ok (.iload_n 2, 1) := by decide +kernel
theorem dX9_alter_56 : decode cX9_alter 56 = .ok (.ifCond .ne 7, 3) := by decide +kernel
theorem dX9_alter_59 : decode cX9_alter 59 = .ok (.iconst 0, 1) := by decide +kernel
theorem dX9_alter_60 : decode cX9_alter 60 = .ok (.goto 4, 3) := by decide +kernel
theorem dX9_alter_63 : decode cX9_alter 63 = .ok (.iconst 3, 1) := by decide +kernel
theorem dX9_alter_64 : decode cX9_alter 64 = .ok (.iadd, 1) := by decide +kernel
theorem dX9_alter_65 : decode cX9_alter 65 = .ok (.iload_n 3, 1) := by decide +kernel
theorem dX9_alter_66 : decode cX9_alter 66 = .ok (.invokevirtual 194, 3) := by decide +kernel
theorem dX9_alter_69 : decode cX9_alter 69 = .ok (.goto 4, 3) := by decide +kernel
theorem dX9_alter_72 : decode cX9_alter 72 = .ok (.iconst (-1), 1) := by decide +kernel
theorem dX9_alter_73 : decode cX9_alter 73 = .ok (.ireturn, 1) := by decide +kernel
def f_X9_alter_J33 (Λ : List Ly) (d : Dt) (p0 : Nat) (v1 : Int32) (v2 : Int32) (v3 : Int32) (y0 : Int32) : Option (Int32 × Dt) := if clsAt Λ p0 = some 9 then (Option.bind (f_X9_isChild Λ d p0 v1) fun z4 => if z4 = 0 then (some ((-1 : Int32), d)) else (if y0 = 0 then (some ((-1 : Int32), d)) else (if v2 = 0 then (Option.bind (f_X9_becomes Λ d p0 (((12 : Int32) + ((5 : Int32) * v1)) + (0 : Int32)) v3) fun z9 => some (z9.1, z9.2)) else (Option.bind (f_X9_becomes Λ d p0 (((12 : Int32) + ((5 : Int32) * v1)) + (3 : Int32)) v3) fun z8 => some (z8.1, z8.2))))) else none
def f_X9_alter_J32 (Λ : List Ly) (d : Dt) (p0 : Nat) (v1 : Int32) (v2 : Int32) (v3 : Int32) : Option (Int32 × Dt) := f_X9_alter_J33 Λ d p0 v1 v2 v3 (0 : Int32)
def f_X9_alter (Λ : List Ly) (d : Dt) (p0 : Nat) (v1 : Int32) (v2 : Int32) (v3 : Int32) : Option (Int32 × Dt) := if v2 = 0 then (f_X9_alter_J33 Λ d p0 v1 v2 v3 (f_X9_in (v3).toInt64 (0 : Int64) (3 : Int64))) else (if v2 = (1 : Int32) then (if (f_X9_isSkill v3) = 0 then (f_X9_alter_J32 Λ d p0 v1 v2 v3) else (f_X9_alter_J33 Λ d p0 v1 v2 v3 (1 : Int32))) else (f_X9_alter_J32 Λ d p0 v1 v2 v3))
set_option maxHeartbeats 4000000 in
set_option maxRecDepth 100000 in
theorem w_X9_alter_J33 {p : Program} {l : Launch} {e : Env} {s : State} {m : MethodId} {args : Array Value} {below : List Frame} {meth : Method} {c : Code} {Γ : Cx} {Λ : List Ly} {z : Int32 × Dt} {d : Dt} (C0 : Ct Γ p s m args c cX9_alter 5 "SeasonBoundModel") (hr : meth.sig.returnType = (some FieldType.int)) (hlocks : meth.locks = false) (p0 : Nat) (v1 : Int32) (v2 : Int32) (v3 : Int32) (y0 : Int32)
    (hf : f_X9_alter_J33 Λ d p0 v1 v2 v3 y0 = some z) (H : Heap) (locs : List Loc) (ls : Array Slot) (hH : Hs Γ Λ d s H locs) (hl : lv_has ls 5 [(0, .ref (ad Γ.2.2.1 p0)), (1, .int v1), (2, .int v2), (3, .int v3)]) : W p l e { frames := 2, cells := 0, slots := 0, locals := 46 } s m args below meth c H locs 0 0 (MQ below (QN Γ Λ z.2 (some (.int z.1))) args s 0 0 (AP Γ)) (F0 m 33 ls [.int y0]) := by
  obtain ⟨hx, hb, hml, hown, hts, hK⟩ := id C0
  unfold f_X9_alter_J33 at hf
  refine lv_istore (lv' := [(4, .int y0), (0, .ref (ad Γ.2.2.1 p0)), (1, .int v1), (2, .int v2), (3, .int v3)]) hx hb dX9_alter_33 hl (by decide) rfl (fun ls hl => ?_)
  refine lv_aload_n hx hb dX9_alter_35 rfl (lv_at hl 1 rfl) ?_
  refine lv_iload_n hx hb dX9_alter_36 rfl (lv_at hl 2 rfl) ?_
  obtain ⟨g3, hf⟩ := gd hf
  obtain ⟨z4, h4, hf⟩ := ob hf
  refine r_callVi (rest := []) C0 hH (c_X9_isChild Γ l Λ d p0 v1 z4 h4) cv_X9_180 g3 (by decide) rfl hl.1 rfl (Nat.le_of_ble_eq_true rfl) dX9_alter_37 (by decide) (fun H locs hH => ?_)
  refine lv_if_eq (tgt := 72) hx hb dX9_alter_40 (by decide) (fun c5 => ?_) (fun c5 => ?_)
  · replace hf := it hf c5
    refine lv_iconst (v := (-1 : Int32)) hx hb dX9_alter_72 (by decide) ?_
    obtain rfl := Option.some.inj hf
    exact r_iret (d' := d) C0 hr hlocks hH rfl dX9_alter_73
  · replace hf := ie hf c5
    refine lv_iload hx hb dX9_alter_43 (lv_at hl 0 rfl) ?_
    refine lv_if_eq (tgt := 72) hx hb dX9_alter_45 (by decide) (fun c6 => ?_) (fun c6 => ?_)
    · replace hf := it hf c6
      refine lv_iconst (v := (-1 : Int32)) hx hb dX9_alter_72 (by decide) ?_
      obtain rfl := Option.some.inj hf
      exact r_iret (d' := d) C0 hr hlocks hH rfl dX9_alter_73
    · replace hf := ie hf c6
      refine lv_aload_n hx hb dX9_alter_48 rfl (lv_at hl 1 rfl) ?_
      refine lv_bipush (v := (12 : Int32)) hx hb dX9_alter_49 (by decide) ?_
      refine lv_iconst (v := (5 : Int32)) hx hb dX9_alter_51 (by decide) ?_
      refine lv_iload_n hx hb dX9_alter_52 rfl (lv_at hl 2 rfl) ?_
      refine lv_imul hx hb dX9_alter_53 ?_
      refine lv_iadd hx hb dX9_alter_54 ?_
      refine lv_iload_n hx hb dX9_alter_55 rfl (lv_at hl 3 rfl) ?_
      refine lv_if_ne (tgt := 63) hx hb dX9_alter_56 (by decide) (fun c7 => ?_) (fun c7 => ?_)
      · replace hf := ie hf c7
        refine lv_iconst (v := (3 : Int32)) hx hb dX9_alter_63 (by decide) ?_
        refine lv_iadd hx hb dX9_alter_64 ?_
        refine lv_iload_n hx hb dX9_alter_65 rfl (lv_at hl 4 rfl) ?_
        obtain ⟨z8, h8, hf⟩ := ob hf
        refine r_callVi (rest := []) C0 hH (c_X9_becomes Γ l Λ d p0 (((12 : Int32) + ((5 : Int32) * v1)) + (3 : Int32)) v3 z8 h8) cv_X9_194 g3 (by decide) rfl hl.1 rfl (Nat.le_of_ble_eq_true rfl) dX9_alter_66 (by decide) (fun H locs hH => ?_)
        refine lv_goto (tgt := 73) hx hb dX9_alter_69 (by decide) ?_
        obtain rfl := Option.some.inj hf
        exact r_iret (d' := d) C0 hr hlocks hH rfl dX9_alter_73
      · replace hf := it hf c7
        refine lv_iconst (v := (0 : Int32)) hx hb dX9_alter_59 (by decide) ?_
        refine lv_goto (tgt := 64) hx hb dX9_alter_60 (by decide) ?_
        refine lv_iadd hx hb dX9_alter_64 ?_
        refine lv_iload_n hx hb dX9_alter_65 rfl (lv_at hl 4 rfl) ?_
        obtain ⟨z9, h9, hf⟩ := ob hf
        refine r_callVi (rest := []) C0 hH (c_X9_becomes Γ l Λ d p0 (((12 : Int32) + ((5 : Int32) * v1)) + (0 : Int32)) v3 z9 h9) cv_X9_194 g3 (by decide) rfl hl.1 rfl (Nat.le_of_ble_eq_true rfl) dX9_alter_66 (by decide) (fun H locs hH => ?_)
        refine lv_goto (tgt := 73) hx hb dX9_alter_69 (by decide) ?_
        obtain rfl := Option.some.inj hf
        exact r_iret (d' := d) C0 hr hlocks hH rfl dX9_alter_73
set_option maxHeartbeats 4000000 in
set_option maxRecDepth 100000 in
theorem w_X9_alter_J32 {p : Program} {l : Launch} {e : Env} {s : State} {m : MethodId} {args : Array Value} {below : List Frame} {meth : Method} {c : Code} {Γ : Cx} {Λ : List Ly} {z : Int32 × Dt} {d : Dt} (C0 : Ct Γ p s m args c cX9_alter 5 "SeasonBoundModel") (hr : meth.sig.returnType = (some FieldType.int)) (hlocks : meth.locks = false) (p0 : Nat) (v1 : Int32) (v2 : Int32) (v3 : Int32)
    (hf : f_X9_alter_J32 Λ d p0 v1 v2 v3 = some z) (H : Heap) (locs : List Loc) (ls : Array Slot) (hH : Hs Γ Λ d s H locs) (hl : lv_has ls 5 [(0, .ref (ad Γ.2.2.1 p0)), (1, .int v1), (2, .int v2), (3, .int v3)]) : W p l e { frames := 2, cells := 0, slots := 0, locals := 46 } s m args below meth c H locs 0 0 (MQ below (QN Γ Λ z.2 (some (.int z.1))) args s 0 0 (AP Γ)) (F0 m 32 ls []) := by
  obtain ⟨hx, hb, hml, hown, hts, hK⟩ := id C0
  unfold f_X9_alter_J32 at hf
  refine lv_iconst (v := (0 : Int32)) hx hb dX9_alter_32 (by decide) ?_
  exact w_X9_alter_J33 C0 hr hlocks p0 v1 v2 v3 (0 : Int32) hf _ _ _ hH (lv_sub hl [0, 1, 2, 3] rfl)
set_option maxHeartbeats 4000000 in
set_option maxRecDepth 100000 in
theorem c_X9_alter (Γ : Cx) (l : Launch) (Λ : List Ly) (d : Dt) (p0 : Nat) (v1 : Int32) (v2 : Int32) (v3 : Int32) (z : Int32 × Dt) (hf : f_X9_alter Λ d p0 v1 v2 v3 = some z) : Cn Γ l yX9_alter cX9_alter 5 (some FieldType.int) 2 46 [.ref (ad Γ.2.2.1 p0), .int v1, .int v2, .int v3] Λ d (some (.int z.1)) z.2 := by
  refine Cn.of (own := "SeasonBoundModel") (by decide +kernel) rfl (Nat.le_of_ble_eq_true rfl) ?_
  intro p e s m below meth c C0 hr hlocks hH ls hl
  have hl : lv_has ls 5 [(0, .ref (ad Γ.2.2.1 p0)), (1, .int v1), (2, .int v2), (3, .int v3)] := hl
  obtain ⟨hx, hb, hml, hown, hts, hK⟩ := id C0
  unfold f_X9_alter at hf
  refine lv_iload_n hx hb dX9_alter_0 rfl (lv_at hl 2 rfl) ?_
  refine lv_if_ne (tgt := 16) hx hb dX9_alter_1 (by decide) (fun c1 => ?_) (fun c1 => ?_)
  · replace hf := ie hf c1
    refine lv_iload_n hx hb dX9_alter_16 rfl (lv_at hl 2 rfl) ?_
    refine lv_iconst (v := (1 : Int32)) hx hb dX9_alter_17 (by decide) ?_
    refine lv_icmp_ne (tgt := 32) hx hb dX9_alter_18 (by decide) (fun c2 => ?_) (fun c2 => ?_)
    · replace hf := ie hf c2
      exact w_X9_alter_J32 C0 hr hlocks p0 v1 v2 v3 hf _ _ _ hH (lv_sub hl [0, 1, 2, 3] rfl)
    · replace hf := it hf c2
      refine lv_iload_n hx hb dX9_alter_21 rfl (lv_at hl 3 rfl) ?_
      refine r_callSi (rest := []) C0 hH (c_X9_isSkill Γ l Λ d v3) cs_X9_191 (by decide) rfl hl.1 rfl (Nat.le_of_ble_eq_true rfl) dX9_alter_22 (by decide) (fun H locs hH => ?_)
      refine lv_if_eq (tgt := 32) hx hb dX9_alter_25 (by decide) (fun c10 => ?_) (fun c10 => ?_)
      · replace hf := it hf c10
        exact w_X9_alter_J32 C0 hr hlocks p0 v1 v2 v3 hf _ _ _ hH (lv_sub hl [0, 1, 2, 3] rfl)
      · replace hf := ie hf c10
        refine lv_iconst (v := (1 : Int32)) hx hb dX9_alter_28 (by decide) ?_
        refine lv_goto (tgt := 33) hx hb dX9_alter_29 (by decide) ?_
        exact w_X9_alter_J33 C0 hr hlocks p0 v1 v2 v3 (1 : Int32) hf _ _ _ hH (lv_sub hl [0, 1, 2, 3] rfl)
  · replace hf := it hf c1
    refine lv_iload_n hx hb dX9_alter_4 rfl (lv_at hl 3 rfl) ?_
    refine lv_i2l (v := (v3).toInt64) hx hb dX9_alter_5 rfl ?_
    refine lv_lconst (v := (0 : Int64)) hx hb dX9_alter_6 (by decide) ?_
    refine lv_ldc2 hx hb hown (hts _ kl_X9_132) dX9_alter_7 ?_
    refine r_callSi (rest := []) C0 hH (c_X9_in Γ l Λ d (v3).toInt64 (0 : Int64) (3 : Int64)) cs_X9_56 (by decide) rfl hl.1 rfl (Nat.le_of_ble_eq_true rfl) dX9_alter_10 (by decide) (fun H locs hH => ?_)
    refine lv_goto (tgt := 33) hx hb dX9_alter_13 (by decide) ?_
    exact w_X9_alter_J33 C0 hr hlocks p0 v1 v2 v3 (f_X9_in (v3).toInt64 (0 : Int64) (3 : Int64)) hf _ _ _ hH (lv_sub hl [0, 1, 2, 3] rfl)
theorem dX9_set_0 : decode cX9_set 0 = .ok (.iload_n 2, 1) := by decide +kernel
theorem dX9_set_1 : decode cX9_set 1 = .ok (.ifCond .ne 15, 3) := by decide +kernel
theorem dX9_set_4 : decode cX9_set 4 = .ok (.iload_n 3, 1) := by decide +kernel
theorem dX9_set_5 : decode cX9_set 5 = .ok (.i2l, 1) := by decide +kernel
theorem dX9_set_6 : decode cX9_set 6 = .ok (.lconst 1, 1) := by decide +kernel
theorem dX9_set_7 : decode cX9_set 7 = .ok (.ldc2_w 197, 3) := by decide +kernel
theorem dX9_set_10 : decode cX9_set 10 = .ok (.invokestatic 56, 3) := by decide +kernel
theorem dX9_set_13 : decode cX9_set 13 = .ok (.goto 37, 3) := by decide +kernel
theorem dX9_set_16 : decode cX9_set 16 = .ok (.iload_n 2, 1) := by decide +kernel
theorem dX9_set_17 : decode cX9_set 17 = .ok (.iconst 1, 1) := by decide +kernel
theorem dX9_set_18 : decode cX9_set 18 = .ok (.if_icmp .ne 15, 3) := by decide +kernel
theorem dX9_set_21 : decode cX9_set 21 = .ok (.iload_n 3, 1) := by decide +kernel
theorem dX9_set_22 : decode cX9_set 22 = .ok (.i2l, 1) := by decide +kernel
theorem dX9_set_23 : decode cX9_set 23 = .ok (.lconst 0, 1) := by decide +kernel
theorem dX9_set_24 : decode cX9_set 24 = .ok (.ldc2_w 197, 3) := by decide +kernel
theorem dX9_set_27 : decode cX9_set 27 = .ok (.invokestatic 56, 3) := by decide +kernel
theorem dX9_set_30 : decode cX9_set 30 = .ok (.goto 20, 3) := by decide +kernel
theorem dX9_set_33 : decode cX9_set 33 = .ok (.iload_n 2, 1) := by decide +kernel
theorem dX9_set_34 : decode cX9_set 34 = .ok (.iconst 2, 1) := by decide +kernel
theorem dX9_set_35 : decode cX9_set 35 = .ok (.if_icmp .ne 14, 3) := by decide +kernel
theorem dX9_set_38 : decode cX9_set 38 = .ok (.iload_n 3, 1) := by decide +kernel
theorem dX9_set_39 : decode cX9_set 39 = .ok (.invokestatic 191, 3) := by decide +kernel
theorem dX9_set_42 : decode cX9_set 42 = .ok (.ifCond .eq 7, 3) := by decide +kernel
theorem dX9_set_45 : decode cX9_set 45 = .ok (.iconst 1, 1) := by decide +kernel
theorem dX9_set_46 : decode cX9_set 46 = .ok (.goto 4, 3) := by decide +kernel
theorem dX9_set_49 : decode cX9_set 49 = .ok (.iconst 0, 1) := by decide +kernel
theorem dX9_set_50 : decode cX9_set 50 = .ok (.istore 4, 2) := by decide +kernel
theorem dX9_set_52 : decode cX9_set 52 = .ok (.iload_n 1, 1) := by decide +kernel
theorem dX9_set_53 : decode cX9_set 53 = .ok (.invokestatic 185, 3) := by decide +kernel
theorem dX9_set_56 : decode cX9_set 56 = .ok (.ifCond .eq 21, 3) := by decide +kernel
theorem dX9_set_59 : decode cX9_set 59 = .ok (.iload 4, 2) := by decide +kernel
theorem dX9_set_61 : decode cX9_set 61 = .ok (.ifCond .eq 16, 3) := by decide +kernel
theorem dX9_set_64 : decode cX9_set 64 = .ok (.aload_n 0, 1) := by decide +kernel
theorem dX9_set_65 : decode cX9_set 65 = .ok (.iconst 3, 1) := by decide +kernel
theorem dX9_set_66 : decode cX9_set 66 = .ok (.iload_n 1, 1) := by decide +kernel
theorem dX9_set_67 : decode cX9_set 67 = .ok (.imul, 1) := by decide +kernel
theorem dX9_set_68 : decode cX9_set 68 = .ok (.iload_n 2, 1) := by decide +kernel
theorem dX9_set_69 : decode cX9_set 69 = .ok (.iadd, 1) := by decide +kernel
theorem dX9_set_70 : decode cX9_set 70 = .ok (.iload_n 3, 1) := by decide +kernel
theorem dX9_set_71 : decode cX9_set 71 = .ok (.invokevirtual 194, 3) := by decide +kernel
theorem dX9_set_74 : decode cX9_set 74 = .ok (.goto 4, 3) := by decide +kernel
theorem dX9_set_77 : decode cX9_set 77 = .ok (.iconst (-1), 1) := by decide +kernel
theorem dX9_set_78 : decode cX9_set 78 = .ok (.ireturn, 1) := by decide +kernel
def f_X9_set_J50 (Λ : List Ly) (d : Dt) (p0 : Nat) (v1 : Int32) (v2 : Int32) (v3 : Int32) (y0 : Int32) : Option (Int32 × Dt) := if (f_X9_isSeason v1) = 0 then (some ((-1 : Int32), d)) else (if y0 = 0 then (some ((-1 : Int32), d)) else (if clsAt Λ p0 = some 9 then (Option.bind (f_X9_becomes Λ d p0 (((3 : Int32) * v1) + v2) v3) fun z7 => some (z7.1, z7.2)) else none))
def f_X9_set_J49 (Λ : List Ly) (d : Dt) (p0 : Nat) (v1 : Int32) (v2 : Int32) (v3 : Int32) : Option (Int32 × Dt) := f_X9_set_J50 Λ d p0 v1 v2 v3 (0 : Int32)
def f_X9_set (Λ : List Ly) (d : Dt) (p0 : Nat) (v1 : Int32) (v2 : Int32) (v3 : Int32) : Option (Int32 × Dt) := if v2 = 0 then (f_X9_set_J50 Λ d p0 v1 v2 v3 (f_X9_in (v3).toInt64 (1 : Int64) (9 : Int64))) else (if v2 = (1 : Int32) then (f_X9_set_J50 Λ d p0 v1 v2 v3 (f_X9_in (v3).toInt64 (0 : Int64) (9 : Int64))) else (if v2 = (2 : Int32) then (if (f_X9_isSkill v3) = 0 then (f_X9_set_J49 Λ d p0 v1 v2 v3) else (f_X9_set_J50 Λ d p0 v1 v2 v3 (1 : Int32))) else (f_X9_set_J49 Λ d p0 v1 v2 v3)))
set_option maxHeartbeats 4000000 in
set_option maxRecDepth 100000 in
theorem w_X9_set_J50 {p : Program} {l : Launch} {e : Env} {s : State} {m : MethodId} {args : Array Value} {below : List Frame} {meth : Method} {c : Code} {Γ : Cx} {Λ : List Ly} {z : Int32 × Dt} {d : Dt} (C0 : Ct Γ p s m args c cX9_set 5 "SeasonBoundModel") (hr : meth.sig.returnType = (some FieldType.int)) (hlocks : meth.locks = false) (p0 : Nat) (v1 : Int32) (v2 : Int32) (v3 : Int32) (y0 : Int32)
    (hf : f_X9_set_J50 Λ d p0 v1 v2 v3 y0 = some z) (H : Heap) (locs : List Loc) (ls : Array Slot) (hH : Hs Γ Λ d s H locs) (hl : lv_has ls 5 [(0, .ref (ad Γ.2.2.1 p0)), (1, .int v1), (2, .int v2), (3, .int v3)]) : W p l e { frames := 2, cells := 0, slots := 0, locals := 45 } s m args below meth c H locs 0 0 (MQ below (QN Γ Λ z.2 (some (.int z.1))) args s 0 0 (AP Γ)) (F0 m 50 ls [.int y0]) := by
  obtain ⟨hx, hb, hml, hown, hts, hK⟩ := id C0
  unfold f_X9_set_J50 at hf
  refine lv_istore (lv' := [(4, .int y0), (0, .ref (ad Γ.2.2.1 p0)), (1, .int v1), (2, .int v2), (3, .int v3)]) hx hb dX9_set_50 hl (by decide) rfl (fun ls hl => ?_)
  refine lv_iload_n hx hb dX9_set_52 rfl (lv_at hl 2 rfl) ?_
  refine r_callSi (rest := []) C0 hH (c_X9_isSeason Γ l Λ d v1) cs_X9_185 (by decide) rfl hl.1 rfl (Nat.le_of_ble_eq_true rfl) dX9_set_53 (by decide) (fun H locs hH => ?_)
  refine lv_if_eq (tgt := 77) hx hb dX9_set_56 (by decide) (fun c4 => ?_) (fun c4 => ?_)
  · replace hf := it hf c4
    refine lv_iconst (v := (-1 : Int32)) hx hb dX9_set_77 (by decide) ?_
    obtain rfl := Option.some.inj hf
    exact r_iret (d' := d) C0 hr hlocks hH rfl dX9_set_78
  · replace hf := ie hf c4
    refine lv_iload hx hb dX9_set_59 (lv_at hl 0 rfl) ?_
    refine lv_if_eq (tgt := 77) hx hb dX9_set_61 (by decide) (fun c5 => ?_) (fun c5 => ?_)
    · replace hf := it hf c5
      refine lv_iconst (v := (-1 : Int32)) hx hb dX9_set_77 (by decide) ?_
      obtain rfl := Option.some.inj hf
      exact r_iret (d' := d) C0 hr hlocks hH rfl dX9_set_78
    · replace hf := ie hf c5
      refine lv_aload_n hx hb dX9_set_64 rfl (lv_at hl 1 rfl) ?_
      refine lv_iconst (v := (3 : Int32)) hx hb dX9_set_65 (by decide) ?_
      refine lv_iload_n hx hb dX9_set_66 rfl (lv_at hl 2 rfl) ?_
      refine lv_imul hx hb dX9_set_67 ?_
      refine lv_iload_n hx hb dX9_set_68 rfl (lv_at hl 3 rfl) ?_
      refine lv_iadd hx hb dX9_set_69 ?_
      refine lv_iload_n hx hb dX9_set_70 rfl (lv_at hl 4 rfl) ?_
      obtain ⟨g6, hf⟩ := gd hf
      obtain ⟨z7, h7, hf⟩ := ob hf
      refine r_callVi (rest := []) C0 hH (c_X9_becomes Γ l Λ d p0 (((3 : Int32) * v1) + v2) v3 z7 h7) cv_X9_194 g6 (by decide) rfl hl.1 rfl (Nat.le_of_ble_eq_true rfl) dX9_set_71 (by decide) (fun H locs hH => ?_)
      refine lv_goto (tgt := 78) hx hb dX9_set_74 (by decide) ?_
      obtain rfl := Option.some.inj hf
      exact r_iret (d' := d) C0 hr hlocks hH rfl dX9_set_78
set_option maxHeartbeats 4000000 in
set_option maxRecDepth 100000 in
theorem w_X9_set_J49 {p : Program} {l : Launch} {e : Env} {s : State} {m : MethodId} {args : Array Value} {below : List Frame} {meth : Method} {c : Code} {Γ : Cx} {Λ : List Ly} {z : Int32 × Dt} {d : Dt} (C0 : Ct Γ p s m args c cX9_set 5 "SeasonBoundModel") (hr : meth.sig.returnType = (some FieldType.int)) (hlocks : meth.locks = false) (p0 : Nat) (v1 : Int32) (v2 : Int32) (v3 : Int32)
    (hf : f_X9_set_J49 Λ d p0 v1 v2 v3 = some z) (H : Heap) (locs : List Loc) (ls : Array Slot) (hH : Hs Γ Λ d s H locs) (hl : lv_has ls 5 [(0, .ref (ad Γ.2.2.1 p0)), (1, .int v1), (2, .int v2), (3, .int v3)]) : W p l e { frames := 2, cells := 0, slots := 0, locals := 45 } s m args below meth c H locs 0 0 (MQ below (QN Γ Λ z.2 (some (.int z.1))) args s 0 0 (AP Γ)) (F0 m 49 ls []) := by
  obtain ⟨hx, hb, hml, hown, hts, hK⟩ := id C0
  unfold f_X9_set_J49 at hf
  refine lv_iconst (v := (0 : Int32)) hx hb dX9_set_49 (by decide) ?_
  exact w_X9_set_J50 C0 hr hlocks p0 v1 v2 v3 (0 : Int32) hf _ _ _ hH (lv_sub hl [0, 1, 2, 3] rfl)
set_option maxHeartbeats 4000000 in
set_option maxRecDepth 100000 in
theorem c_X9_set (Γ : Cx) (l : Launch) (Λ : List Ly) (d : Dt) (p0 : Nat) (v1 : Int32) (v2 : Int32) (v3 : Int32) (z : Int32 × Dt) (hf : f_X9_set Λ d p0 v1 v2 v3 = some z) : Cn Γ l yX9_set cX9_set 5 (some FieldType.int) 2 45 [.ref (ad Γ.2.2.1 p0), .int v1, .int v2, .int v3] Λ d (some (.int z.1)) z.2 := by
  refine Cn.of (own := "SeasonBoundModel") (by decide +kernel) rfl (Nat.le_of_ble_eq_true rfl) ?_
  intro p e s m below meth c C0 hr hlocks hH ls hl
  have hl : lv_has ls 5 [(0, .ref (ad Γ.2.2.1 p0)), (1, .int v1), (2, .int v2), (3, .int v3)] := hl
  obtain ⟨hx, hb, hml, hown, hts, hK⟩ := id C0
  unfold f_X9_set at hf
  refine lv_iload_n hx hb dX9_set_0 rfl (lv_at hl 2 rfl) ?_
  refine lv_if_ne (tgt := 16) hx hb dX9_set_1 (by decide) (fun c1 => ?_) (fun c1 => ?_)
  · replace hf := ie hf c1
    refine lv_iload_n hx hb dX9_set_16 rfl (lv_at hl 2 rfl) ?_
    refine lv_iconst (v := (1 : Int32)) hx hb dX9_set_17 (by decide) ?_
    refine lv_icmp_ne (tgt := 33) hx hb dX9_set_18 (by decide) (fun c2 => ?_) (fun c2 => ?_)
    · replace hf := ie hf c2
      refine lv_iload_n hx hb dX9_set_33 rfl (lv_at hl 2 rfl) ?_
      refine lv_iconst (v := (2 : Int32)) hx hb dX9_set_34 (by decide) ?_
      refine lv_icmp_ne (tgt := 49) hx hb dX9_set_35 (by decide) (fun c3 => ?_) (fun c3 => ?_)
      · replace hf := ie hf c3
        exact w_X9_set_J49 C0 hr hlocks p0 v1 v2 v3 hf _ _ _ hH (lv_sub hl [0, 1, 2, 3] rfl)
      · replace hf := it hf c3
        refine lv_iload_n hx hb dX9_set_38 rfl (lv_at hl 3 rfl) ?_
        refine r_callSi (rest := []) C0 hH (c_X9_isSkill Γ l Λ d v3) cs_X9_191 (by decide) rfl hl.1 rfl (Nat.le_of_ble_eq_true rfl) dX9_set_39 (by decide) (fun H locs hH => ?_)
        refine lv_if_eq (tgt := 49) hx hb dX9_set_42 (by decide) (fun c8 => ?_) (fun c8 => ?_)
        · replace hf := it hf c8
          exact w_X9_set_J49 C0 hr hlocks p0 v1 v2 v3 hf _ _ _ hH (lv_sub hl [0, 1, 2, 3] rfl)
        · replace hf := ie hf c8
          refine lv_iconst (v := (1 : Int32)) hx hb dX9_set_45 (by decide) ?_
          refine lv_goto (tgt := 50) hx hb dX9_set_46 (by decide) ?_
          exact w_X9_set_J50 C0 hr hlocks p0 v1 v2 v3 (1 : Int32) hf _ _ _ hH (lv_sub hl [0, 1, 2, 3] rfl)
    · replace hf := it hf c2
      refine lv_iload_n hx hb dX9_set_21 rfl (lv_at hl 3 rfl) ?_
      refine lv_i2l (v := (v3).toInt64) hx hb dX9_set_22 rfl ?_
      refine lv_lconst (v := (0 : Int64)) hx hb dX9_set_23 (by decide) ?_
      refine lv_ldc2 hx hb hown (hts _ kl_X9_197) dX9_set_24 ?_
      refine r_callSi (rest := []) C0 hH (c_X9_in Γ l Λ d (v3).toInt64 (0 : Int64) (9 : Int64)) cs_X9_56 (by decide) rfl hl.1 rfl (Nat.le_of_ble_eq_true rfl) dX9_set_27 (by decide) (fun H locs hH => ?_)
      refine lv_goto (tgt := 50) hx hb dX9_set_30 (by decide) ?_
      exact w_X9_set_J50 C0 hr hlocks p0 v1 v2 v3 (f_X9_in (v3).toInt64 (0 : Int64) (9 : Int64)) hf _ _ _ hH (lv_sub hl [0, 1, 2, 3] rfl)
  · replace hf := it hf c1
    refine lv_iload_n hx hb dX9_set_4 rfl (lv_at hl 3 rfl) ?_
    refine lv_i2l (v := (v3).toInt64) hx hb dX9_set_5 rfl ?_
    refine lv_lconst (v := (1 : Int64)) hx hb dX9_set_6 (by decide) ?_
    refine lv_ldc2 hx hb hown (hts _ kl_X9_197) dX9_set_7 ?_
    refine r_callSi (rest := []) C0 hH (c_X9_in Γ l Λ d (v3).toInt64 (1 : Int64) (9 : Int64)) cs_X9_56 (by decide) rfl hl.1 rfl (Nat.le_of_ble_eq_true rfl) dX9_set_10 (by decide) (fun H locs hH => ?_)
    refine lv_goto (tgt := 50) hx hb dX9_set_13 (by decide) ?_
    exact w_X9_set_J50 C0 hr hlocks p0 v1 v2 v3 (f_X9_in (v3).toInt64 (1 : Int64) (9 : Int64)) hf _ _ _ hH (lv_sub hl [0, 1, 2, 3] rfl)
theorem dX9_isBound_0 : decode cX9_isBound 0 = .ok (.aload_n 0, 1) := by decide +kernel
theorem dX9_isBound_1 : decode cX9_isBound 1 = .ok (.getfield 7, 3) := by decide +kernel
theorem dX9_isBound_4 : decode cX9_isBound 4 = .ok (.bipush 12, 2) := by decide +kernel
theorem dX9_isBound_6 : decode cX9_isBound 6 = .ok (.iconst 5, 1) := by decide +kernel
theorem dX9_isBound_7 : decode cX9_isBound 7 = .ok (.iload_n 1, 1) := by decide +kernel
theorem dX9_isBound_8 : decode cX9_isBound 8 = .ok (.imul, 1) := by decide +kernel
theorem dX9_isBound_9 : decode cX9_isBound 9 = .ok (.iadd, 1) := by decide +kernel
theorem dX9_isBound_10 : decode cX9_isBound 10 = .ok (.iconst 1, 1) := by decide +kernel
theorem dX9_isBound_11 : decode cX9_isBound 11 = .ok (.iadd, 1) := by decide +kernel
theorem dX9_isBound_12 : decode cX9_isBound 12 = .ok (.iaload, 1) := by decide +kernel
theorem dX9_isBound_13 : decode cX9_isBound 13 = .ok (.bipush (-4), 2) := by decide +kernel
theorem dX9_isBound_15 : decode cX9_isBound 15 = .ok (.if_icmp .eq 7, 3) := by decide +kernel
theorem dX9_isBound_18 : decode cX9_isBound 18 = .ok (.iconst 1, 1) := by decide +kernel
theorem dX9_isBound_19 : decode cX9_isBound 19 = .ok (.goto 4, 3) := by decide +kernel
theorem dX9_isBound_22 : decode cX9_isBound 22 = .ok (.iconst 0, 1) := by decide +kernel
theorem dX9_isBound_23 : decode cX9_isBound 23 = .ok (.ireturn, 1) := by decide +kernel
def f_X9_isBound (Λ : List Ly) (d : Dt) (p0 : Nat) (v1 : Int32) : Option Int32 := Option.bind (rf Λ p0 9 0) fun q1 => if okA Λ q1 1 (((12 : Int32) + ((5 : Int32) * v1)) + (1 : Int32)) = true then (if (d.1 q1 ((((12 : Int32) + ((5 : Int32) * v1)) + (1 : Int32))).toNatClampNeg) = (-4 : Int32) then (some (0 : Int32)) else (some (1 : Int32))) else none
set_option maxHeartbeats 4000000 in
set_option maxRecDepth 100000 in
theorem c_X9_isBound (Γ : Cx) (l : Launch) (Λ : List Ly) (d : Dt) (p0 : Nat) (v1 : Int32) (z : Int32) (hf : f_X9_isBound Λ d p0 v1 = some z) : Cn Γ l yX9_isBound cX9_isBound 2 (some FieldType.boolean) 0 0 [.ref (ad Γ.2.2.1 p0), .int v1] Λ d (some (.int z)) d := by
  refine Cn.of (own := "SeasonBoundModel") (by decide +kernel) rfl (Nat.le_of_ble_eq_true rfl) ?_
  intro p e s m below meth c C0 hr hlocks hH ls hl
  have hl : lv_has ls 2 [(0, .ref (ad Γ.2.2.1 p0)), (1, .int v1)] := hl
  obtain ⟨hx, hb, hml, hown, hts, hK⟩ := id C0
  unfold f_X9_isBound at hf
  refine lv_aload_n hx hb dX9_isBound_0 rfl (lv_at hl 0 rfl) ?_
  obtain ⟨q1, g1, hf⟩ := ob hf
  refine r_getr C0 hH fl_X9_7 g1 dX9_isBound_1 ?_
  refine lv_bipush (v := (12 : Int32)) hx hb dX9_isBound_4 (by decide) ?_
  refine lv_iconst (v := (5 : Int32)) hx hb dX9_isBound_6 (by decide) ?_
  refine lv_iload_n hx hb dX9_isBound_7 rfl (lv_at hl 1 rfl) ?_
  refine lv_imul hx hb dX9_isBound_8 ?_
  refine lv_iadd hx hb dX9_isBound_9 ?_
  refine lv_iconst (v := (1 : Int32)) hx hb dX9_isBound_10 (by decide) ?_
  refine lv_iadd hx hb dX9_isBound_11 ?_
  obtain ⟨g2, hf⟩ := gd hf
  refine r_iald C0 hH g2 dX9_isBound_12 ?_
  refine lv_bipush (v := (-4 : Int32)) hx hb dX9_isBound_13 (by decide) ?_
  refine lv_icmp_eq (tgt := 22) hx hb dX9_isBound_15 (by decide) (fun c3 => ?_) (fun c3 => ?_)
  · replace hf := it hf c3
    refine lv_iconst (v := (0 : Int32)) hx hb dX9_isBound_22 (by decide) ?_
    obtain rfl := Option.some.inj hf
    exact r_iret (d' := d) C0 hr hlocks hH (nz (Or.inl rfl)) dX9_isBound_23
  · replace hf := ie hf c3
    refine lv_iconst (v := (1 : Int32)) hx hb dX9_isBound_18 (by decide) ?_
    refine lv_goto (tgt := 23) hx hb dX9_isBound_19 (by decide) ?_
    obtain rfl := Option.some.inj hf
    exact r_iret (d' := d) C0 hr hlocks hH (nz (Or.inr rfl)) dX9_isBound_23
theorem dX9_bind_0 : decode cX9_bind 0 = .ok (.aload_n 0, 1) := by decide +kernel
theorem dX9_bind_1 : decode cX9_bind 1 = .ok (.iload_n 1, 1) := by decide +kernel
theorem dX9_bind_2 : decode cX9_bind 2 = .ok (.invokevirtual 180, 3) := by decide +kernel
theorem dX9_bind_5 : decode cX9_bind 5 = .ok (.ifCond .eq 22, 3) := by decide +kernel
theorem dX9_bind_8 : decode cX9_bind 8 = .ok (.iload_n 2, 1) := by decide +kernel
theorem dX9_bind_9 : decode cX9_bind 9 = .ok (.invokestatic 185, 3) := by decide +kernel
theorem dX9_bind_12 : decode cX9_bind 12 = .ok (.ifCond .eq 15, 3) := by decide +kernel
theorem dX9_bind_15 : decode cX9_bind 15 = .ok (.iload_n 3, 1) := by decide +kernel
theorem dX9_bind_16 : decode cX9_bind 16 = .ok (.i2l, 1) := by decide +kernel
theorem dX9_bind_17 : decode cX9_bind 17 = .ok (.lconst 1, 1) := by decide +kernel
theorem dX9_bind_18 : decode cX9_bind 18 = .ok (.ldc2_w 134, 3) := by decide +kernel
theorem dX9_bind_21 : decode cX9_bind 21 = .ok (.invokestatic 56, 3) := by decide +kernel
theorem dX9_bind_24 : decode cX9_bind 24 = .ok (.ifCond .ne 5, 3) := by decide +kernel
theorem dX9_bind_27 : decode cX9_bind 27 = .ok (.iconst (-1), 1) := by decide +kernel
theorem dX9_bind_28 : decode cX9_bind 28 = .ok (.ireturn, 1) := by decide +kernel
theorem dX9_bind_29 : decode cX9_bind 29 = .ok (.aload_n 0, 1) := by decide +kernel
theorem dX9_bind_30 : decode cX9_bind 30 = .ok (.iload_n 1, 1) := by decide +kernel
theorem dX9_bind_31 : decode cX9_bind 31 = .ok (.invokevirtual 199, 3) := by decide +kernel
theorem dX9_bind_34 : decode cX9_bind 34 = .ok (.ifCond .eq 6, 3) := by decide +kernel
theorem dX9_bind_37 : decode cX9_bind 37 = .ok (.bipush (-2), 2) := by decide +kernel
theorem dX9_bind_39 : decode cX9_bind 39 = .ok (.ireturn, 1) := by decide +kernel
theorem dX9_bind_40 : decode cX9_bind 40 = .ok (.aload_n 0, 1) := by decide +kernel
theorem dX9_bind_41 : decode cX9_bind 41 = .ok (.getfield 7, 3) := by decide +kernel
theorem dX9_bind_44 : decode cX9_bind 44 = .ok (.bipush 12, 2) := by decide +kernel
theorem dX9_bind_46 : decode cX9_bind 46 = .ok (.iconst 5, 1) := by decide +kernel
theorem dX9_bind_47 : decode cX9_bind 47 = .ok (.iload_n 1, 1) := by decide +kernel
theorem dX9_bind_48 : decode cX9_bind 48 = .ok (.imul, 1) := by decide +kernel
theorem dX9_bind_49 : decode cX9_bind 49 = .ok (.iadd, 1) := by decide +kernel
theorem dX9_bind_50 : decode cX9_bind 50 = .ok (.iconst 1, 1) := by decide +kernel
theorem dX9_bind_51 : decode cX9_bind 51 = .ok (.iadd, 1) := by decide +kernel
theorem dX9_bind_52 : decode cX9_bind 52 = .ok (.iload_n 2, 1) := by decide +kernel
theorem dX9_bind_53 : decode cX9_bind 53 = .ok (.iastore, 1) := by decide +kernel
theorem dX9_bind_54 : decode cX9_bind 54 = .ok (.aload_n 0, 1) := by decide +kernel
theorem dX9_bind_55 : decode cX9_bind 55 = .ok (.getfield 7, 3) := by decide +kernel
theorem dX9_bind_58 : decode cX9_bind 58 = .ok (.bipush 12, 2) := by decide +kernel
theorem dX9_bind_60 : decode cX9_bind 60 = .ok (.iconst 5, 1) := by decide +kernel
theorem dX9_bind_61 : decode cX9_bind 61 = .ok (.iload_n 1, 1) := by decide +kernel
theorem dX9_bind_62 : decode cX9_bind 62 = .ok (.imul, 1) := by decide +kernel
theorem dX9_bind_63 : decode cX9_bind 63 = .ok (.iadd, 1) := by decide +kernel
theorem dX9_bind_64 : decode cX9_bind 64 = .ok (.iconst 2, 1) := by decide +kernel
theorem dX9_bind_65 : decode cX9_bind 65 = .ok (.iadd, 1) := by decide +kernel
theorem dX9_bind_66 : decode cX9_bind 66 = .ok (.iload_n 3, 1) := by decide +kernel
theorem dX9_bind_67 : decode cX9_bind 67 = .ok (.iastore, 1) := by decide +kernel
theorem dX9_bind_68 : decode cX9_bind 68 = .ok (.iconst 0, 1) := by decide +kernel
theorem dX9_bind_69 : decode cX9_bind 69 = .ok (.istore 4, 2) := by decide +kernel
theorem dX9_bind_71 : decode cX9_bind 71 = .ok (.iconst 0, 1) := by decide +kernel
theorem dX9_bind_72 : decode cX9_bind 72 = .ok (.istore 5, 2) := by decide +kernel
theorem dX9_bind_74 : decode cX9_bind 74 = .ok (.iload 5, 2) := by decide +kernel
theorem dX9_bind_76 : decode cX9_bind 76 = .ok (.iconst 5, 1) := by decide +kernel
theorem dX9_bind_77 : decode cX9_bind 77 = .ok (.if_icmp .ge 24, 3) := by decide +kernel
theorem dX9_bind_80 : decode cX9_bind 80 = .ok (.iload 4, 2) := by decide +kernel
theorem dX9_bind_82 : decode cX9_bind 82 = .ok (.aload_n 0, 1) := by decide +kernel
theorem dX9_bind_83 : decode cX9_bind 83 = .ok (.iload_n 2, 1) := by decide +kernel
theorem dX9_bind_84 : decode cX9_bind 84 = .ok (.invokevirtual 188, 3) := by decide +kernel
theorem dX9_bind_87 : decode cX9_bind 87 = .ok (.iload 5, 2) := by decide +kernel
theorem dX9_bind_89 : decode cX9_bind 89 = .ok (.ishr, 1) := by decide +kernel
theorem dX9_bind_90 : decode cX9_bind 90 = .ok (.iconst 1, 1) := by decide +kernel
theorem dX9_bind_91 : decode cX9_bind 91 = .ok (.iand, 1) := by decide +kernel
theorem dX9_bind_92 : decode cX9_bind 92 = .ok (.iadd, 1) := by decide +kernel
theorem dX9_bind_93 : decode cX9_bind 93 = .ok (.istore 4, 2) := by decide +kernel
theorem dX9_bind_95 : decode cX9_bind 95 = .ok (.iinc 5 1, 3) := by decide +kernel
theorem dX9_bind_98 : decode cX9_bind 98 = .ok (.goto (-24), 3) := by decide +kernel
theorem dX9_bind_101 : decode cX9_bind 101 = .ok (.iload 4, 2) := by decide +kernel
theorem dX9_bind_103 : decode cX9_bind 103 = .ok (.ireturn, 1) := by decide +kernel
def f_X9_bind_L74 (Λ : List Ly) (d : Dt) (p0 : Nat) (v2 : Int32) : Nat → Int32 → Int32 → Option (Int32 × Dt)
  | 0, _, _ => none
  | n + 1, v4, v5 => if (5 : Int32) ≤ v5 then (some (v4, d)) else (if clsAt Λ p0 = some 9 then (Option.bind (f_X9_boundTo Λ d p0 v2) fun z13 => f_X9_bind_L74 Λ d p0 v2 n (v4 + ((z13 >>> (v5 &&& 31)) &&& (1 : Int32))) (v5 + (1 : Int32))) else none)
def f_X9_bind (Λ : List Ly) (d : Dt) (p0 : Nat) (v1 : Int32) (v2 : Int32) (v3 : Int32) : Option (Int32 × Dt) := if clsAt Λ p0 = some 9 then (Option.bind (f_X9_isChild Λ d p0 v1) fun z2 => if z2 = 0 then (some ((-1 : Int32), d)) else (if (f_X9_isSeason v2) = 0 then (some ((-1 : Int32), d)) else (if (f_X9_in (v3).toInt64 (1 : Int64) (99 : Int64)) = 0 then (some ((-1 : Int32), d)) else (Option.bind (f_X9_isBound Λ d p0 v1) fun z6 => if z6 = 0 then (Option.bind (rf Λ p0 9 0) fun q8 => if okA Λ q8 1 (((12 : Int32) + ((5 : Int32) * v1)) + (1 : Int32)) = true then (if okA Λ q8 1 (((12 : Int32) + ((5 : Int32) * v1)) + (2 : Int32)) = true then (f_X9_bind_L74 Λ (pI (pI d q8 ((((12 : Int32) + ((5 : Int32) * v1)) + (1 : Int32))).toNatClampNeg v2) q8 ((((12 : Int32) + ((5 : Int32) * v1)) + (2 : Int32))).toNatClampNeg v3) p0 v2 FU (0 : Int32) (0 : Int32)) else none) else none) else (some ((-2 : Int32), d)))))) else none
set_option maxHeartbeats 4000000 in
set_option maxRecDepth 100000 in
theorem w_X9_bind_L74 {p : Program} {l : Launch} {e : Env} {s : State} {m : MethodId} {args : Array Value} {below : List Frame} {meth : Method} {c : Code} {Γ : Cx} {Λ : List Ly} {z : Int32 × Dt} {d : Dt} (C0 : Ct Γ p s m args c cX9_bind 6 "SeasonBoundModel") (hr : meth.sig.returnType = (some FieldType.int)) (hlocks : meth.locks = false) (p0 : Nat) (v2 : Int32) :
    ∀ (n : Nat) (v4 : Int32) (v5 : Int32), f_X9_bind_L74 Λ d p0 v2 n v4 v5 = some z → ∀ (H : Heap) (locs : List Loc) (ls : Array Slot), Hs Γ Λ d s H locs → lv_has ls 6 [(0, .ref (ad Γ.2.2.1 p0)), (2, .int v2), (4, .int v4), (5, .int v5)] → W p l e { frames := 2, cells := 0, slots := 0, locals := 46 } s m args below meth c H locs 0 0 (MQ below (QN Γ Λ z.2 (some (.int z.1))) args s 0 0 (AP Γ)) (F0 m 74 ls []) := by
  obtain ⟨hx, hb, hml, hown, hts, hK⟩ := id C0
  intro n
  induction n with
  | zero =>
    intro v4 v5 hf
    cases hf
  | succ n ih =>
    intro v4 v5 hf H locs ls hH hl
    unfold f_X9_bind_L74 at hf
    refine lv_iload hx hb dX9_bind_74 (lv_at hl 3 rfl) ?_
    refine lv_iconst (v := (5 : Int32)) hx hb dX9_bind_76 (by decide) ?_
    refine lv_icmp_ge (tgt := 101) hx hb dX9_bind_77 (by decide) (fun c11 => ?_) (fun c11 => ?_)
    · replace hf := it hf c11
      refine lv_iload hx hb dX9_bind_101 (lv_at hl 2 rfl) ?_
      obtain rfl := Option.some.inj hf
      exact r_iret (d' := d) C0 hr hlocks hH rfl dX9_bind_103
    · replace hf := ie hf c11
      refine lv_iload hx hb dX9_bind_80 (lv_at hl 2 rfl) ?_
      refine lv_aload_n hx hb dX9_bind_82 rfl (lv_at hl 0 rfl) ?_
      refine lv_iload_n hx hb dX9_bind_83 rfl (lv_at hl 1 rfl) ?_
      obtain ⟨g12, hf⟩ := gd hf
      obtain ⟨z13, h13, hf⟩ := ob hf
      refine r_callVi (rest := [.int v4]) C0 hH (c_X9_boundTo Γ l Λ d p0 v2 z13 h13) cv_X9_188 g12 (by decide) rfl hl.1 rfl (Nat.le_of_ble_eq_true rfl) dX9_bind_84 (by decide) (fun H locs hH => ?_)
      refine lv_iload hx hb dX9_bind_87 (lv_at hl 3 rfl) ?_
      refine lv_ishr hx hb dX9_bind_89 ?_
      refine lv_iconst (v := (1 : Int32)) hx hb dX9_bind_90 (by decide) ?_
      refine lv_iand hx hb dX9_bind_91 ?_
      refine lv_iadd hx hb dX9_bind_92 ?_
      refine lv_istore (lv' := [(4, .int (v4 + ((z13 >>> (v5 &&& 31)) &&& (1 : Int32)))), (0, .ref (ad Γ.2.2.1 p0)), (2, .int v2), (5, .int v5)]) hx hb dX9_bind_93 hl (by decide) rfl (fun ls hl => ?_)
      refine lv_iinc (v := (v5 + (1 : Int32))) (lv' := [(5, .int (v5 + (1 : Int32))), (4, .int (v4 + ((z13 >>> (v5 &&& 31)) &&& (1 : Int32)))), (0, .ref (ad Γ.2.2.1 p0)), (2, .int v2)]) hx hb dX9_bind_95 hl (k := 3) rfl (congrArg (fun w => v5 + w) (by decide)) (by decide) rfl (fun ls hl => ?_)
      refine lv_goto (tgt := 74) hx hb dX9_bind_98 (by decide) ?_
      exact ih (v4 + ((z13 >>> (v5 &&& 31)) &&& (1 : Int32))) (v5 + (1 : Int32)) hf _ _ _ hH (lv_sub hl [2, 3, 1, 0] rfl)
set_option maxHeartbeats 4000000 in
set_option maxRecDepth 100000 in
theorem c_X9_bind (Γ : Cx) (l : Launch) (Λ : List Ly) (d : Dt) (p0 : Nat) (v1 : Int32) (v2 : Int32) (v3 : Int32) (z : Int32 × Dt) (hf : f_X9_bind Λ d p0 v1 v2 v3 = some z) : Cn Γ l yX9_bind cX9_bind 6 (some FieldType.int) 2 46 [.ref (ad Γ.2.2.1 p0), .int v1, .int v2, .int v3] Λ d (some (.int z.1)) z.2 := by
  refine Cn.of (own := "SeasonBoundModel") (by decide +kernel) rfl (Nat.le_of_ble_eq_true rfl) ?_
  intro p e s m below meth c C0 hr hlocks hH ls hl
  have hl : lv_has ls 6 [(0, .ref (ad Γ.2.2.1 p0)), (1, .int v1), (2, .int v2), (3, .int v3)] := hl
  obtain ⟨hx, hb, hml, hown, hts, hK⟩ := id C0
  unfold f_X9_bind at hf
  refine lv_aload_n hx hb dX9_bind_0 rfl (lv_at hl 0 rfl) ?_
  refine lv_iload_n hx hb dX9_bind_1 rfl (lv_at hl 1 rfl) ?_
  obtain ⟨g1, hf⟩ := gd hf
  obtain ⟨z2, h2, hf⟩ := ob hf
  refine r_callVi (rest := []) C0 hH (c_X9_isChild Γ l Λ d p0 v1 z2 h2) cv_X9_180 g1 (by decide) rfl hl.1 rfl (Nat.le_of_ble_eq_true rfl) dX9_bind_2 (by decide) (fun H locs hH => ?_)
  refine lv_if_eq (tgt := 27) hx hb dX9_bind_5 (by decide) (fun c3 => ?_) (fun c3 => ?_)
  · replace hf := it hf c3
    refine lv_iconst (v := (-1 : Int32)) hx hb dX9_bind_27 (by decide) ?_
    obtain rfl := Option.some.inj hf
    exact r_iret (d' := d) C0 hr hlocks hH rfl dX9_bind_28
  · replace hf := ie hf c3
    refine lv_iload_n hx hb dX9_bind_8 rfl (lv_at hl 2 rfl) ?_
    refine r_callSi (rest := []) C0 hH (c_X9_isSeason Γ l Λ d v2) cs_X9_185 (by decide) rfl hl.1 rfl (Nat.le_of_ble_eq_true rfl) dX9_bind_9 (by decide) (fun H locs hH => ?_)
    refine lv_if_eq (tgt := 27) hx hb dX9_bind_12 (by decide) (fun c4 => ?_) (fun c4 => ?_)
    · replace hf := it hf c4
      refine lv_iconst (v := (-1 : Int32)) hx hb dX9_bind_27 (by decide) ?_
      obtain rfl := Option.some.inj hf
      exact r_iret (d' := d) C0 hr hlocks hH rfl dX9_bind_28
    · replace hf := ie hf c4
      refine lv_iload_n hx hb dX9_bind_15 rfl (lv_at hl 3 rfl) ?_
      refine lv_i2l (v := (v3).toInt64) hx hb dX9_bind_16 rfl ?_
      refine lv_lconst (v := (1 : Int64)) hx hb dX9_bind_17 (by decide) ?_
      refine lv_ldc2 hx hb hown (hts _ kl_X9_134) dX9_bind_18 ?_
      refine r_callSi (rest := []) C0 hH (c_X9_in Γ l Λ d (v3).toInt64 (1 : Int64) (99 : Int64)) cs_X9_56 (by decide) rfl hl.1 rfl (Nat.le_of_ble_eq_true rfl) dX9_bind_21 (by decide) (fun H locs hH => ?_)
      refine lv_if_ne (tgt := 29) hx hb dX9_bind_24 (by decide) (fun c5 => ?_) (fun c5 => ?_)
      · replace hf := ie hf c5
        refine lv_aload_n hx hb dX9_bind_29 rfl (lv_at hl 0 rfl) ?_
        refine lv_iload_n hx hb dX9_bind_30 rfl (lv_at hl 1 rfl) ?_
        obtain ⟨z6, h6, hf⟩ := ob hf
        refine r_callVi (rest := []) C0 hH (c_X9_isBound Γ l Λ d p0 v1 z6 h6) cv_X9_199 g1 (by decide) rfl hl.1 rfl (Nat.le_of_ble_eq_true rfl) dX9_bind_31 (by decide) (fun H locs hH => ?_)
        refine lv_if_eq (tgt := 40) hx hb dX9_bind_34 (by decide) (fun c7 => ?_) (fun c7 => ?_)
        · replace hf := it hf c7
          refine lv_aload_n hx hb dX9_bind_40 rfl (lv_at hl 0 rfl) ?_
          obtain ⟨q8, g8, hf⟩ := ob hf
          refine r_getr C0 hH fl_X9_7 g8 dX9_bind_41 ?_
          refine lv_bipush (v := (12 : Int32)) hx hb dX9_bind_44 (by decide) ?_
          refine lv_iconst (v := (5 : Int32)) hx hb dX9_bind_46 (by decide) ?_
          refine lv_iload_n hx hb dX9_bind_47 rfl (lv_at hl 1 rfl) ?_
          refine lv_imul hx hb dX9_bind_48 ?_
          refine lv_iadd hx hb dX9_bind_49 ?_
          refine lv_iconst (v := (1 : Int32)) hx hb dX9_bind_50 (by decide) ?_
          refine lv_iadd hx hb dX9_bind_51 ?_
          refine lv_iload_n hx hb dX9_bind_52 rfl (lv_at hl 2 rfl) ?_
          obtain ⟨g9, hf⟩ := gd hf
          refine r_iast C0 hH g9 dX9_bind_53 (fun H locs hH => ?_)
          refine lv_aload_n hx hb dX9_bind_54 rfl (lv_at hl 0 rfl) ?_
          refine r_getr C0 hH fl_X9_7 g8 dX9_bind_55 ?_
          refine lv_bipush (v := (12 : Int32)) hx hb dX9_bind_58 (by decide) ?_
          refine lv_iconst (v := (5 : Int32)) hx hb dX9_bind_60 (by decide) ?_
          refine lv_iload_n hx hb dX9_bind_61 rfl (lv_at hl 1 rfl) ?_
          refine lv_imul hx hb dX9_bind_62 ?_
          refine lv_iadd hx hb dX9_bind_63 ?_
          refine lv_iconst (v := (2 : Int32)) hx hb dX9_bind_64 (by decide) ?_
          refine lv_iadd hx hb dX9_bind_65 ?_
          refine lv_iload_n hx hb dX9_bind_66 rfl (lv_at hl 3 rfl) ?_
          obtain ⟨g10, hf⟩ := gd hf
          refine r_iast C0 hH g10 dX9_bind_67 (fun H locs hH => ?_)
          refine lv_iconst (v := (0 : Int32)) hx hb dX9_bind_68 (by decide) ?_
          refine lv_istore (lv' := [(4, .int (0 : Int32)), (0, .ref (ad Γ.2.2.1 p0)), (1, .int v1), (2, .int v2), (3, .int v3)]) hx hb dX9_bind_69 hl (by decide) rfl (fun ls hl => ?_)
          refine lv_iconst (v := (0 : Int32)) hx hb dX9_bind_71 (by decide) ?_
          refine lv_istore (lv' := [(5, .int (0 : Int32)), (4, .int (0 : Int32)), (0, .ref (ad Γ.2.2.1 p0)), (1, .int v1), (2, .int v2), (3, .int v3)]) hx hb dX9_bind_72 hl (by decide) rfl (fun ls hl => ?_)
          refine w_X9_bind_L74 C0 hr hlocks p0 v2 FU (0 : Int32) (0 : Int32) hf _ _ _ hH (lv_sub hl [2, 4, 1, 0] rfl)
        · replace hf := ie hf c7
          refine lv_bipush (v := (-2 : Int32)) hx hb dX9_bind_37 (by decide) ?_
          obtain rfl := Option.some.inj hf
          exact r_iret (d' := d) C0 hr hlocks hH rfl dX9_bind_39
      · replace hf := it hf c5
        refine lv_iconst (v := (-1 : Int32)) hx hb dX9_bind_27 (by decide) ?_
        obtain rfl := Option.some.inj hf
        exact r_iret (d' := d) C0 hr hlocks hH rfl dX9_bind_28
theorem dX9_free_0 : decode cX9_free 0 = .ok (.aload_n 0, 1) := by decide +kernel
theorem dX9_free_1 : decode cX9_free 1 = .ok (.iload_n 1, 1) := by decide +kernel
theorem dX9_free_2 : decode cX9_free 2 = .ok (.invokevirtual 180, 3) := by decide +kernel
theorem dX9_free_5 : decode cX9_free 5 = .ok (.ifCond .ne 5, 3) := by decide +kernel
theorem dX9_free_8 : decode cX9_free 8 = .ok (.iconst (-1), 1) := by decide +kernel
theorem dX9_free_9 : decode cX9_free 9 = .ok (.ireturn, 1) := by decide +kernel
theorem dX9_free_10 : decode cX9_free 10 = .ok (.aload_n 0, 1) := by decide +kernel
theorem dX9_free_11 : decode cX9_free 11 = .ok (.iload_n 1, 1) := by decide +kernel
theorem dX9_free_12 : decode cX9_free 12 = .ok (.invokevirtual 199, 3) := by decide +kernel
theorem dX9_free_15 : decode cX9_free 15 = .ok (.ifCond .ne 6, 3) := by decide +kernel
theorem dX9_free_18 : decode cX9_free 18 = .ok (.bipush (-2), 2) := by decide +kernel
theorem dX9_free_20 : decode cX9_free 20 = .ok (.ireturn, 1) := by decide +kernel
theorem dX9_free_21 : decode cX9_free 21 = .ok (.aload_n 0, 1) := by decide +kernel
theorem dX9_free_22 : decode cX9_free 22 = .ok (.getfield 7, 3) := by decide +kernel
theorem dX9_free_25 : decode cX9_free 25 = .ok (.bipush 12, 2) := by decide +kernel
theorem dX9_free_27 : decode cX9_free 27 = .ok (.iconst 5, 1) := by decide +kernel
theorem dX9_free_28 : decode cX9_free 28 = .ok (.iload_n 1, 1) := by decide +kernel
theorem dX9_free_29 : decode cX9_free 29 = .ok (.imul, 1) := by decide +kernel
theorem dX9_free_30 : decode cX9_free 30 = .ok (.iadd, 1) := by decide +kernel
theorem dX9_free_31 : decode cX9_free 31 = .ok (.iconst 1, 1) := by decide +kernel
theorem dX9_free_32 : decode cX9_free 32 = .ok (.iadd, 1) := by decide +kernel
theorem dX9_free_33 : decode cX9_free 33 = .ok (.bipush (-4), 2) := by decide +kernel
theorem dX9_free_35 : decode cX9_free 35 = .ok (.iastore, 1) := by decide +kernel
theorem dX9_free_36 : decode cX9_free 36 = .ok (.aload_n 0, 1) := by decide +kernel
theorem dX9_free_37 : decode cX9_free 37 = .ok (.bipush 12, 2) := by decide +kernel
theorem dX9_free_39 : decode cX9_free 39 = .ok (.iconst 5, 1) := by decide +kernel
theorem dX9_free_40 : decode cX9_free 40 = .ok (.iload_n 1, 1) := by decide +kernel
theorem dX9_free_41 : decode cX9_free 41 = .ok (.imul, 1) := by decide +kernel
theorem dX9_free_42 : decode cX9_free 42 = .ok (.iadd, 1) := by decide +kernel
theorem dX9_free_43 : decode cX9_free 43 = .ok (.iconst 2, 1) := by decide +kernel
theorem dX9_free_44 : decode cX9_free 44 = .ok (.iadd, 1) := by decide +kernel
theorem dX9_free_45 : decode cX9_free 45 = .ok (.iconst 0, 1) := by decide +kernel
theorem dX9_free_46 : decode cX9_free 46 = .ok (.invokevirtual 194, 3) := by decide +kernel
theorem dX9_free_49 : decode cX9_free 49 = .ok (.ireturn, 1) := by decide +kernel
def f_X9_free (Λ : List Ly) (d : Dt) (p0 : Nat) (v1 : Int32) : Option (Int32 × Dt) := if clsAt Λ p0 = some 9 then (Option.bind (f_X9_isChild Λ d p0 v1) fun z2 => if z2 = 0 then (some ((-1 : Int32), d)) else (Option.bind (f_X9_isBound Λ d p0 v1) fun z4 => if z4 = 0 then (some ((-2 : Int32), d)) else (Option.bind (rf Λ p0 9 0) fun q6 => if okA Λ q6 1 (((12 : Int32) + ((5 : Int32) * v1)) + (1 : Int32)) = true then (Option.bind (f_X9_becomes Λ (pI d q6 ((((12 : Int32) + ((5 : Int32) * v1)) + (1 : Int32))).toNatClampNeg (-4 : Int32)) p0 (((12 : Int32) + ((5 : Int32) * v1)) + (2 : Int32)) (0 : Int32)) fun z8 => some (z8.1, z8.2)) else none))) else none
set_option maxHeartbeats 4000000 in
set_option maxRecDepth 100000 in
theorem c_X9_free (Γ : Cx) (l : Launch) (Λ : List Ly) (d : Dt) (p0 : Nat) (v1 : Int32) (z : Int32 × Dt) (hf : f_X9_free Λ d p0 v1 = some z) : Cn Γ l yX9_free cX9_free 2 (some FieldType.int) 2 46 [.ref (ad Γ.2.2.1 p0), .int v1] Λ d (some (.int z.1)) z.2 := by
  refine Cn.of (own := "SeasonBoundModel") (by decide +kernel) rfl (Nat.le_of_ble_eq_true rfl) ?_
  intro p e s m below meth c C0 hr hlocks hH ls hl
  have hl : lv_has ls 2 [(0, .ref (ad Γ.2.2.1 p0)), (1, .int v1)] := hl
  obtain ⟨hx, hb, hml, hown, hts, hK⟩ := id C0
  unfold f_X9_free at hf
  refine lv_aload_n hx hb dX9_free_0 rfl (lv_at hl 0 rfl) ?_
  refine lv_iload_n hx hb dX9_free_1 rfl (lv_at hl 1 rfl) ?_
  obtain ⟨g1, hf⟩ := gd hf
  obtain ⟨z2, h2, hf⟩ := ob hf
  refine r_callVi (rest := []) C0 hH (c_X9_isChild Γ l Λ d p0 v1 z2 h2) cv_X9_180 g1 (by decide) rfl hl.1 rfl (Nat.le_of_ble_eq_true rfl) dX9_free_2 (by decide) (fun H locs hH => ?_)
  refine lv_if_ne (tgt := 10) hx hb dX9_free_5 (by decide) (fun c3 => ?_) (fun c3 => ?_)
  · replace hf := ie hf c3
    refine lv_aload_n hx hb dX9_free_10 rfl (lv_at hl 0 rfl) ?_
    refine lv_iload_n hx hb dX9_free_11 rfl (lv_at hl 1 rfl) ?_
    obtain ⟨z4, h4, hf⟩ := ob hf
    refine r_callVi (rest := []) C0 hH (c_X9_isBound Γ l Λ d p0 v1 z4 h4) cv_X9_199 g1 (by decide) rfl hl.1 rfl (Nat.le_of_ble_eq_true rfl) dX9_free_12 (by decide) (fun H locs hH => ?_)
    refine lv_if_ne (tgt := 21) hx hb dX9_free_15 (by decide) (fun c5 => ?_) (fun c5 => ?_)
    · replace hf := ie hf c5
      refine lv_aload_n hx hb dX9_free_21 rfl (lv_at hl 0 rfl) ?_
      obtain ⟨q6, g6, hf⟩ := ob hf
      refine r_getr C0 hH fl_X9_7 g6 dX9_free_22 ?_
      refine lv_bipush (v := (12 : Int32)) hx hb dX9_free_25 (by decide) ?_
      refine lv_iconst (v := (5 : Int32)) hx hb dX9_free_27 (by decide) ?_
      refine lv_iload_n hx hb dX9_free_28 rfl (lv_at hl 1 rfl) ?_
      refine lv_imul hx hb dX9_free_29 ?_
      refine lv_iadd hx hb dX9_free_30 ?_
      refine lv_iconst (v := (1 : Int32)) hx hb dX9_free_31 (by decide) ?_
      refine lv_iadd hx hb dX9_free_32 ?_
      refine lv_bipush (v := (-4 : Int32)) hx hb dX9_free_33 (by decide) ?_
      obtain ⟨g7, hf⟩ := gd hf
      refine r_iast C0 hH g7 dX9_free_35 (fun H locs hH => ?_)
      refine lv_aload_n hx hb dX9_free_36 rfl (lv_at hl 0 rfl) ?_
      refine lv_bipush (v := (12 : Int32)) hx hb dX9_free_37 (by decide) ?_
      refine lv_iconst (v := (5 : Int32)) hx hb dX9_free_39 (by decide) ?_
      refine lv_iload_n hx hb dX9_free_40 rfl (lv_at hl 1 rfl) ?_
      refine lv_imul hx hb dX9_free_41 ?_
      refine lv_iadd hx hb dX9_free_42 ?_
      refine lv_iconst (v := (2 : Int32)) hx hb dX9_free_43 (by decide) ?_
      refine lv_iadd hx hb dX9_free_44 ?_
      refine lv_iconst (v := (0 : Int32)) hx hb dX9_free_45 (by decide) ?_
      obtain ⟨z8, h8, hf⟩ := ob hf
      refine r_callVi (rest := []) C0 hH (c_X9_becomes Γ l Λ (pI d q6 ((((12 : Int32) + ((5 : Int32) * v1)) + (1 : Int32))).toNatClampNeg (-4 : Int32)) p0 (((12 : Int32) + ((5 : Int32) * v1)) + (2 : Int32)) (0 : Int32) z8 h8) cv_X9_194 g1 (by decide) rfl hl.1 rfl (Nat.le_of_ble_eq_true rfl) dX9_free_46 (by decide) (fun H locs hH => ?_)
      obtain rfl := Option.some.inj hf
      exact r_iret (d' := d) C0 hr hlocks hH rfl dX9_free_49
    · replace hf := it hf c5
      refine lv_bipush (v := (-2 : Int32)) hx hb dX9_free_18 (by decide) ?_
      obtain rfl := Option.some.inj hf
      exact r_iret (d' := d) C0 hr hlocks hH rfl dX9_free_20
  · replace hf := it hf c3
    refine lv_iconst (v := (-1 : Int32)) hx hb dX9_free_8 (by decide) ?_
    obtain rfl := Option.some.inj hf
    exact r_iret (d' := d) C0 hr hlocks hH rfl dX9_free_9
theorem dX9_born_0 : decode cX9_born 0 = .ok (.iload_n 1, 1) := by decide +kernel
theorem dX9_born_1 : decode cX9_born 1 = .ok (.i2l, 1) := by decide +kernel
theorem dX9_born_2 : decode cX9_born 2 = .ok (.lconst 0, 1) := by decide +kernel
theorem dX9_born_3 : decode cX9_born 3 = .ok (.ldc2_w 132, 3) := by decide +kernel
theorem dX9_born_6 : decode cX9_born 6 = .ok (.invokestatic 56, 3) := by decide +kernel
theorem dX9_born_9 : decode cX9_born 9 = .ok (.ifCond .ne 5, 3) := by decide +kernel
theorem dX9_born_12 : decode cX9_born 12 = .ok (.iconst (-1), 1) := by decide +kernel
theorem dX9_born_13 : decode cX9_born 13 = .ok (.ireturn, 1) := by decide +kernel
theorem dX9_born_14 : decode cX9_born 14 = .ok (.aload_n 0, 1) := by decide +kernel
theorem dX9_born_15 : decode cX9_born 15 = .ok (.getfield 7, 3) := by decide +kernel
theorem dX9_born_18 : decode cX9_born 18 = .ok (.bipush 37, 2) := by decide +kernel
theorem dX9_born_20 : decode cX9_born 20 = .ok (.iaload, 1) := by decide +kernel
theorem dX9_born_21 : decode cX9_born 21 = .ok (.iconst 5, 1) := by decide +kernel
theorem dX9_born_22 : decode cX9_born 22 = .ok (.if_icmp .ne 6, 3) := by decide +kernel
theorem dX9_born_25 : decode cX9_born 25 = .ok (.bipush (-3), 2) := by decide +kernel
theorem dX9_born_27 : decode cX9_born 27 = .ok (.ireturn, 1) := by decide +kernel
theorem dX9_born_28 : decode cX9_born 28 = .ok (.bipush 12, 2) := by decide +kernel
theorem dX9_born_30 : decode cX9_born 30 = .ok (.iconst 5, 1) := by decide +kernel
theorem dX9_born_31 : decode cX9_born 31 = .ok (.aload_n 0, 1) := by decide +kernel
theorem dX9_born_32 : decode cX9_born 32 = .ok (.getfield 7, 3) := by decide +kernel
theorem dX9_born_35 : decode cX9_born 35 = .ok (.bipush 37, 2) := by decide +kernel
theorem dX9_born_37 : decode cX9_born 37 = .ok (.iaload, 1) := by decide +kernel
theorem dX9_born_38 : decode cX9_born 38 = .ok (.imul, 1) := by decide +kernel
theorem dX9_born_39 : decode cX9_born 39 = .ok (.iadd, 1) := by decide +kernel
theorem dX9_born_40 : decode cX9_born 40 = .ok (.istore_n 2, 1) := by decide +kernel
theorem dX9_born_41 : decode cX9_born 41 = .ok (.aload_n 0, 1) := by decide +kernel
theorem dX9_born_42 : decode cX9_born 42 = .ok (.getfield 7, 3) := by decide +kernel
theorem dX9_born_45 : decode cX9_born 45 = .ok (.iload_n 2, 1) := by decide +kernel
theorem dX9_born_46 : decode cX9_born 46 = .ok (.iconst 0, 1) := by decide +kernel
theorem dX9_born_47 : decode cX9_born 47 = .ok (.iadd, 1) := by decide +kernel
theorem dX9_born_48 : decode cX9_born 48 = .ok (.iload_n 1, 1) := by decide +kernel
theorem dX9_born_49 : decode cX9_born 49 = .ok (.iastore, 1) := by decide +kernel
theorem dX9_born_50 : decode cX9_born 50 = .ok (.aload_n 0, 1) := by decide +kernel
theorem dX9_born_51 : decode cX9_born 51 = .ok (.getfield 7, 3) := by decide +kernel
theorem dX9_born_54 : decode cX9_born 54 = .ok (.iload_n 2, 1) := by decide +kernel
theorem dX9_born_55 : decode cX9_born 55 = .ok (.iconst 1, 1) := by decide +kernel
theorem dX9_born_56 : decode cX9_born 56 = .ok (.iadd, 1) := by decide +kernel
theorem dX9_born_57 : decode cX9_born 57 = .ok (.bipush (-4), 2) := by decide +kernel
theorem dX9_born_59 : decode cX9_born 59 = .ok (.iastore, 1) := by decide +kernel
theorem dX9_born_60 : decode cX9_born 60 = .ok (.aload_n 0, 1) := by decide +kernel
theorem dX9_born_61 : decode cX9_born 61 = .ok (.getfield 7, 3) := by decide +kernel
theorem dX9_born_64 : decode cX9_born 64 = .ok (.iload_n 2, 1) := by decide +kernel
theorem dX9_born_65 : decode cX9_born 65 = .ok (.iconst 2, 1) := by decide +kernel
theorem dX9_born_66 : decode cX9_born 66 = .ok (.iadd, 1) := by decide +kernel
theorem dX9_born_67 : decode cX9_born 67 = .ok (.iconst 0, 1) := by decide +kernel
theorem dX9_born_68 : decode cX9_born 68 = .ok (.iastore, 1) := by decide +kernel
theorem dX9_born_69 : decode cX9_born 69 = .ok (.aload_n 0, 1) := by decide +kernel
theorem dX9_born_70 : decode cX9_born 70 = .ok (.getfield 7, 3) := by decide +kernel
theorem dX9_born_73 : decode cX9_born 73 = .ok (.iload_n 2, 1) := by decide +kernel
theorem dX9_born_74 : decode cX9_born 74 = .ok (.iconst 3, 1) := by decide +kernel
theorem dX9_born_75 : decode cX9_born 75 = .ok (.iadd, 1) := by decide +kernel
theorem dX9_born_76 : decode cX9_born 76 = .ok (.iconst 0, 1) := by decide +kernel
theorem dX9_born_77 : decode cX9_born 77 = .ok (.iastore, 1) := by decide +kernel
theorem dX9_born_78 : decode cX9_born 78 = .ok (.aload_n 0, 1) := by decide +kernel
theorem dX9_born_79 : decode cX9_born 79 = .ok (.getfield 7, 3) := by decide +kernel
theorem dX9_born_82 : decode cX9_born 82 = .ok (.iload_n 2, 1) := by decide +kernel
theorem dX9_born_83 : decode cX9_born 83 = .ok (.iconst 4, 1) := by decide +kernel
theorem dX9_born_84 : decode cX9_born 84 = .ok (.iadd, 1) := by decide +kernel
theorem dX9_born_85 : decode cX9_born 85 = .ok (.iconst 0, 1) := by decide +kernel
theorem dX9_born_86 : decode cX9_born 86 = .ok (.iastore, 1) := by decide +kernel
theorem dX9_born_87 : decode cX9_born 87 = .ok (.aload_n 0, 1) := by decide +kernel
theorem dX9_born_88 : decode cX9_born 88 = .ok (.getfield 7, 3) := by decide +kernel
theorem dX9_born_91 : decode cX9_born 91 = .ok (.bipush 37, 2) := by decide +kernel
theorem dX9_born_93 : decode cX9_born 93 = .ok (.dup2, 1) := by decide +kernel
theorem dX9_born_94 : decode cX9_born 94 = .ok (.iaload, 1) := by decide +kernel
theorem dX9_born_95 : decode cX9_born 95 = .ok (.iconst 1, 1) := by decide +kernel
theorem dX9_born_96 : decode cX9_born 96 = .ok (.iadd, 1) := by decide +kernel
theorem dX9_born_97 : decode cX9_born 97 = .ok (.iastore, 1) := by decide +kernel
theorem dX9_born_98 : decode cX9_born 98 = .ok (.aload_n 0, 1) := by decide +kernel
theorem dX9_born_99 : decode cX9_born 99 = .ok (.getfield 7, 3) := by decide +kernel
theorem dX9_born_102 : decode cX9_born 102 = .ok (.bipush 37, 2) := by decide +kernel
theorem dX9_born_104 : decode cX9_born 104 = .ok (.iaload, 1) := by decide +kernel
theorem dX9_born_105 : decode cX9_born 105 = .ok (.ireturn, 1) := by decide +kernel
def f_X9_born (Λ : List Ly) (d : Dt) (p0 : Nat) (v1 : Int32) : Option (Int32 × Dt) := if (f_X9_in (v1).toInt64 (0 : Int64) (3 : Int64)) = 0 then (some ((-1 : Int32), d)) else (Option.bind (rf Λ p0 9 0) fun q2 => if okA Λ q2 1 (37 : Int32) = true then (if (d.1 q2 ((37 : Int32)).toNatClampNeg) = (5 : Int32) then (some ((-3 : Int32), d)) else (if okA Λ q2 1 (((12 : Int32) + ((5 : Int32) * (d.1 q2 ((37 : Int32)).toNatClampNeg))) + (0 : Int32)) = true then (if okA Λ q2 1 (((12 : Int32) + ((5 : Int32) * (d.1 q2 ((37 : Int32)).toNatClampNeg))) + (1 : Int32)) = true then (if okA Λ q2 1 (((12 : Int32) + ((5 : Int32) * (d.1 q2 ((37 : Int32)).toNatClampNeg))) + (2 : Int32)) = true then (if okA Λ q2 1 (((12 : Int32) + ((5 : Int32) * (d.1 q2 ((37 : Int32)).toNatClampNeg))) + (3 : Int32)) = true then (if okA Λ q2 1 (((12 : Int32) + ((5 : Int32) * (d.1 q2 ((37 : Int32)).toNatClampNeg))) + (4 : Int32)) = true then (some (((pI (pI (pI (pI (pI (pI d q2 ((((12 : Int32) + ((5 : Int32) * (d.1 q2 ((37 : Int32)).toNatClampNeg))) + (0 : Int32))).toNatClampNeg v1) q2 ((((12 : Int32) + ((5 : Int32) * (d.1 q2 ((37 : Int32)).toNatClampNeg))) + (1 : Int32))).toNatClampNeg (-4 : Int32)) q2 ((((12 : Int32) + ((5 : Int32) * (d.1 q2 ((37 : Int32)).toNatClampNeg))) + (2 : Int32))).toNatClampNeg (0 : Int32)) q2 ((((12 : Int32) + ((5 : Int32) * (d.1 q2 ((37 : Int32)).toNatClampNeg))) + (3 : Int32))).toNatClampNeg (0 : Int32)) q2 ((((12 : Int32) + ((5 : Int32) * (d.1 q2 ((37 : Int32)).toNatClampNeg))) + (4 : Int32))).toNatClampNeg (0 : Int32)) q2 ((37 : Int32)).toNatClampNeg (((pI (pI (pI (pI (pI d q2 ((((12 : Int32) + ((5 : Int32) * (d.1 q2 ((37 : Int32)).toNatClampNeg))) + (0 : Int32))).toNatClampNeg v1) q2 ((((12 : Int32) + ((5 : Int32) * (d.1 q2 ((37 : Int32)).toNatClampNeg))) + (1 : Int32))).toNatClampNeg (-4 : Int32)) q2 ((((12 : Int32) + ((5 : Int32) * (d.1 q2 ((37 : Int32)).toNatClampNeg))) + (2 : Int32))).toNatClampNeg (0 : Int32)) q2 ((((12 : Int32) + ((5 : Int32) * (d.1 q2 ((37 : Int32)).toNatClampNeg))) + (3 : Int32))).toNatClampNeg (0 : Int32)) q2 ((((12 : Int32) + ((5 : Int32) * (d.1 q2 ((37 : Int32)).toNatClampNeg))) + (4 : Int32))).toNatClampNeg (0 : Int32)).1 q2 ((37 : Int32)).toNatClampNeg) + (1 : Int32))).1 q2 ((37 : Int32)).toNatClampNeg), (pI (pI (pI (pI (pI (pI d q2 ((((12 : Int32) + ((5 : Int32) * (d.1 q2 ((37 : Int32)).toNatClampNeg))) + (0 : Int32))).toNatClampNeg v1) q2 ((((12 : Int32) + ((5 : Int32) * (d.1 q2 ((37 : Int32)).toNatClampNeg))) + (1 : Int32))).toNatClampNeg (-4 : Int32)) q2 ((((12 : Int32) + ((5 : Int32) * (d.1 q2 ((37 : Int32)).toNatClampNeg))) + (2 : Int32))).toNatClampNeg (0 : Int32)) q2 ((((12 : Int32) + ((5 : Int32) * (d.1 q2 ((37 : Int32)).toNatClampNeg))) + (3 : Int32))).toNatClampNeg (0 : Int32)) q2 ((((12 : Int32) + ((5 : Int32) * (d.1 q2 ((37 : Int32)).toNatClampNeg))) + (4 : Int32))).toNatClampNeg (0 : Int32)) q2 ((37 : Int32)).toNatClampNeg (((pI (pI (pI (pI (pI d q2 ((((12 : Int32) + ((5 : Int32) * (d.1 q2 ((37 : Int32)).toNatClampNeg))) + (0 : Int32))).toNatClampNeg v1) q2 ((((12 : Int32) + ((5 : Int32) * (d.1 q2 ((37 : Int32)).toNatClampNeg))) + (1 : Int32))).toNatClampNeg (-4 : Int32)) q2 ((((12 : Int32) + ((5 : Int32) * (d.1 q2 ((37 : Int32)).toNatClampNeg))) + (2 : Int32))).toNatClampNeg (0 : Int32)) q2 ((((12 : Int32) + ((5 : Int32) * (d.1 q2 ((37 : Int32)).toNatClampNeg))) + (3 : Int32))).toNatClampNeg (0 : Int32)) q2 ((((12 : Int32) + ((5 : Int32) * (d.1 q2 ((37 : Int32)).toNatClampNeg))) + (4 : Int32))).toNatClampNeg (0 : Int32)).1 q2 ((37 : Int32)).toNatClampNeg) + (1 : Int32))))) else none) else none) else none) else none) else none)) else none)
set_option maxHeartbeats 4000000 in
set_option maxRecDepth 100000 in
theorem c_X9_born (Γ : Cx) (l : Launch) (Λ : List Ly) (d : Dt) (p0 : Nat) (v1 : Int32) (z : Int32 × Dt) (hf : f_X9_born Λ d p0 v1 = some z) : Cn Γ l yX9_born cX9_born 3 (some FieldType.int) 1 25 [.ref (ad Γ.2.2.1 p0), .int v1] Λ d (some (.int z.1)) z.2 := by
  refine Cn.of (own := "SeasonBoundModel") (by decide +kernel) rfl (Nat.le_of_ble_eq_true rfl) ?_
  intro p e s m below meth c C0 hr hlocks hH ls hl
  have hl : lv_has ls 3 [(0, .ref (ad Γ.2.2.1 p0)), (1, .int v1)] := hl
  obtain ⟨hx, hb, hml, hown, hts, hK⟩ := id C0
  unfold f_X9_born at hf
  refine lv_iload_n hx hb dX9_born_0 rfl (lv_at hl 1 rfl) ?_
  refine lv_i2l (v := (v1).toInt64) hx hb dX9_born_1 rfl ?_
  refine lv_lconst (v := (0 : Int64)) hx hb dX9_born_2 (by decide) ?_
  refine lv_ldc2 hx hb hown (hts _ kl_X9_132) dX9_born_3 ?_
  refine r_callSi (rest := []) C0 hH (c_X9_in Γ l Λ d (v1).toInt64 (0 : Int64) (3 : Int64)) cs_X9_56 (by decide) rfl hl.1 rfl (Nat.le_of_ble_eq_true rfl) dX9_born_6 (by decide) (fun H locs hH => ?_)
  refine lv_if_ne (tgt := 14) hx hb dX9_born_9 (by decide) (fun c1 => ?_) (fun c1 => ?_)
  · replace hf := ie hf c1
    refine lv_aload_n hx hb dX9_born_14 rfl (lv_at hl 0 rfl) ?_
    obtain ⟨q2, g2, hf⟩ := ob hf
    refine r_getr C0 hH fl_X9_7 g2 dX9_born_15 ?_
    refine lv_bipush (v := (37 : Int32)) hx hb dX9_born_18 (by decide) ?_
    obtain ⟨g3, hf⟩ := gd hf
    refine r_iald C0 hH g3 dX9_born_20 ?_
    refine lv_iconst (v := (5 : Int32)) hx hb dX9_born_21 (by decide) ?_
    refine lv_icmp_ne (tgt := 28) hx hb dX9_born_22 (by decide) (fun c4 => ?_) (fun c4 => ?_)
    · replace hf := ie hf c4
      refine lv_bipush (v := (12 : Int32)) hx hb dX9_born_28 (by decide) ?_
      refine lv_iconst (v := (5 : Int32)) hx hb dX9_born_30 (by decide) ?_
      refine lv_aload_n hx hb dX9_born_31 rfl (lv_at hl 0 rfl) ?_
      refine r_getr C0 hH fl_X9_7 g2 dX9_born_32 ?_
      refine lv_bipush (v := (37 : Int32)) hx hb dX9_born_35 (by decide) ?_
      refine r_iald C0 hH g3 dX9_born_37 ?_
      refine lv_imul hx hb dX9_born_38 ?_
      refine lv_iadd hx hb dX9_born_39 ?_
      refine lv_istore_n (lv' := [(2, .int ((12 : Int32) + ((5 : Int32) * (d.1 q2 ((37 : Int32)).toNatClampNeg)))), (0, .ref (ad Γ.2.2.1 p0)), (1, .int v1)]) hx hb dX9_born_40 rfl hl (by decide) rfl (fun ls hl => ?_)
      refine lv_aload_n hx hb dX9_born_41 rfl (lv_at hl 1 rfl) ?_
      refine r_getr C0 hH fl_X9_7 g2 dX9_born_42 ?_
      refine lv_iload_n hx hb dX9_born_45 rfl (lv_at hl 0 rfl) ?_
      refine lv_iconst (v := (0 : Int32)) hx hb dX9_born_46 (by decide) ?_
      refine lv_iadd hx hb dX9_born_47 ?_
      refine lv_iload_n hx hb dX9_born_48 rfl (lv_at hl 2 rfl) ?_
      obtain ⟨g5, hf⟩ := gd hf
      refine r_iast C0 hH g5 dX9_born_49 (fun H locs hH => ?_)
      refine lv_aload_n hx hb dX9_born_50 rfl (lv_at hl 1 rfl) ?_
      refine r_getr C0 hH fl_X9_7 g2 dX9_born_51 ?_
      refine lv_iload_n hx hb dX9_born_54 rfl (lv_at hl 0 rfl) ?_
      refine lv_iconst (v := (1 : Int32)) hx hb dX9_born_55 (by decide) ?_
      refine lv_iadd hx hb dX9_born_56 ?_
      refine lv_bipush (v := (-4 : Int32)) hx hb dX9_born_57 (by decide) ?_
      obtain ⟨g6, hf⟩ := gd hf
      refine r_iast C0 hH g6 dX9_born_59 (fun H locs hH => ?_)
      refine lv_aload_n hx hb dX9_born_60 rfl (lv_at hl 1 rfl) ?_
      refine r_getr C0 hH fl_X9_7 g2 dX9_born_61 ?_
      refine lv_iload_n hx hb dX9_born_64 rfl (lv_at hl 0 rfl) ?_
      refine lv_iconst (v := (2 : Int32)) hx hb dX9_born_65 (by decide) ?_
      refine lv_iadd hx hb dX9_born_66 ?_
      refine lv_iconst (v := (0 : Int32)) hx hb dX9_born_67 (by decide) ?_
      obtain ⟨g7, hf⟩ := gd hf
      refine r_iast C0 hH g7 dX9_born_68 (fun H locs hH => ?_)
      refine lv_aload_n hx hb dX9_born_69 rfl (lv_at hl 1 rfl) ?_
      refine r_getr C0 hH fl_X9_7 g2 dX9_born_70 ?_
      refine lv_iload_n hx hb dX9_born_73 rfl (lv_at hl 0 rfl) ?_
      refine lv_iconst (v := (3 : Int32)) hx hb dX9_born_74 (by decide) ?_
      refine lv_iadd hx hb dX9_born_75 ?_
      refine lv_iconst (v := (0 : Int32)) hx hb dX9_born_76 (by decide) ?_
      obtain ⟨g8, hf⟩ := gd hf
      refine r_iast C0 hH g8 dX9_born_77 (fun H locs hH => ?_)
      refine lv_aload_n hx hb dX9_born_78 rfl (lv_at hl 1 rfl) ?_
      refine r_getr C0 hH fl_X9_7 g2 dX9_born_79 ?_
      refine lv_iload_n hx hb dX9_born_82 rfl (lv_at hl 0 rfl) ?_
      refine lv_iconst (v := (4 : Int32)) hx hb dX9_born_83 (by decide) ?_
      refine lv_iadd hx hb dX9_born_84 ?_
      refine lv_iconst (v := (0 : Int32)) hx hb dX9_born_85 (by decide) ?_
      obtain ⟨g9, hf⟩ := gd hf
      refine r_iast C0 hH g9 dX9_born_86 (fun H locs hH => ?_)
      refine lv_aload_n hx hb dX9_born_87 rfl (lv_at hl 1 rfl) ?_
      refine r_getr C0 hH fl_X9_7 g2 dX9_born_88 ?_
      refine lv_bipush (v := (37 : Int32)) hx hb dX9_born_91 (by decide) ?_
      refine lv_dup2_11 hx hb dX9_born_93 rfl rfl ?_
      refine r_iald C0 hH g3 dX9_born_94 ?_
      refine lv_iconst (v := (1 : Int32)) hx hb dX9_born_95 (by decide) ?_
      refine lv_iadd hx hb dX9_born_96 ?_
      refine r_iast C0 hH g3 dX9_born_97 (fun H locs hH => ?_)
      refine lv_aload_n hx hb dX9_born_98 rfl (lv_at hl 1 rfl) ?_
      refine r_getr C0 hH fl_X9_7 g2 dX9_born_99 ?_
      refine lv_bipush (v := (37 : Int32)) hx hb dX9_born_102 (by decide) ?_
      refine r_iald C0 hH g3 dX9_born_104 ?_
      obtain rfl := Option.some.inj hf
      exact r_iret (d' := d) C0 hr hlocks hH rfl dX9_born_105
    · replace hf := it hf c4
      refine lv_bipush (v := (-3 : Int32)) hx hb dX9_born_25 (by decide) ?_
      obtain rfl := Option.some.inj hf
      exact r_iret (d' := d) C0 hr hlocks hH rfl dX9_born_27
  · replace hf := it hf c1
    refine lv_iconst (v := (-1 : Int32)) hx hb dX9_born_12 (by decide) ?_
    obtain rfl := Option.some.inj hf
    exact r_iret (d' := d) C0 hr hlocks hH rfl dX9_born_13
theorem dX9_weeks_0 : decode cX9_weeks 0 = .ok (.iload_n 1, 1) := by decide +kernel
theorem dX9_weeks_1 : decode cX9_weeks 1 = .ok (.i2l, 1) := by decide +kernel
theorem dX9_weeks_2 : decode cX9_weeks 2 = .ok (.lconst 0, 1) := by decide +kernel
theorem dX9_weeks_3 : decode cX9_weeks 3 = .ok (.ldc2_w 202, 3) := by decide +kernel
theorem dX9_weeks_6 : decode cX9_weeks 6 = .ok (.invokestatic 56, 3) := by decide +kernel
theorem dX9_weeks_9 : decode cX9_weeks 9 = .ok (.ifCond .ne 5, 3) := by decide +kernel
theorem dX9_weeks_12 : decode cX9_weeks 12 = .ok (.iconst (-1), 1) := by decide +kernel
theorem dX9_weeks_13 : decode cX9_weeks 13 = .ok (.ireturn, 1) := by decide +kernel
theorem dX9_weeks_14 : decode cX9_weeks 14 = .ok (.aload_n 0, 1) := by decide +kernel
theorem dX9_weeks_15 : decode cX9_weeks 15 = .ok (.getfield 7, 3) := by decide +kernel
theorem dX9_weeks_18 : decode cX9_weeks 18 = .ok (.bipush 40, 2) := by decide +kernel
theorem dX9_weeks_20 : decode cX9_weeks 20 = .ok (.iaload, 1) := by decide +kernel
theorem dX9_weeks_21 : decode cX9_weeks 21 = .ok (.iload_n 1, 1) := by decide +kernel
theorem dX9_weeks_22 : decode cX9_weeks 22 = .ok (.iadd, 1) := by decide +kernel
theorem dX9_weeks_23 : decode cX9_weeks 23 = .ok (.sipush 999, 3) := by decide +kernel
theorem dX9_weeks_26 : decode cX9_weeks 26 = .ok (.if_icmp .le 6, 3) := by decide +kernel
theorem dX9_weeks_29 : decode cX9_weeks 29 = .ok (.bipush (-3), 2) := by decide +kernel
theorem dX9_weeks_31 : decode cX9_weeks 31 = .ok (.ireturn, 1) := by decide +kernel
theorem dX9_weeks_32 : decode cX9_weeks 32 = .ok (.aload_n 0, 1) := by decide +kernel
theorem dX9_weeks_33 : decode cX9_weeks 33 = .ok (.invokevirtual 177, 3) := by decide +kernel
theorem dX9_weeks_36 : decode cX9_weeks 36 = .ok (.aload_n 0, 1) := by decide +kernel
theorem dX9_weeks_37 : decode cX9_weeks 37 = .ok (.iconst 3, 1) := by decide +kernel
theorem dX9_weeks_38 : decode cX9_weeks 38 = .ok (.invokevirtual 174, 3) := by decide +kernel
theorem dX9_weeks_41 : decode cX9_weeks 41 = .ok (.istore_n 2, 1) := by decide +kernel
theorem dX9_weeks_42 : decode cX9_weeks 42 = .ok (.aload_n 0, 1) := by decide +kernel
theorem dX9_weeks_43 : decode cX9_weeks 43 = .ok (.iload_n 1, 1) := by decide +kernel
theorem dX9_weeks_44 : decode cX9_weeks 44 = .ok (.invokevirtual 204, 3) := by decide +kernel
theorem dX9_weeks_47 : decode cX9_weeks 47 = .ok (.istore_n 3, 1) := by decide +kernel
theorem dX9_weeks_48 : decode cX9_weeks 48 = .ok (.aload_n 0, 1) := by decide +kernel
theorem dX9_weeks_49 : decode cX9_weeks 49 = .ok (.invokevirtual 207, 3) := by decide +kernel
theorem dX9_weeks_52 : decode cX9_weeks 52 = .ok (.iload_n 3, 1) := by decide +kernel
theorem dX9_weeks_53 : decode cX9_weeks 53 = .ok (.iload_n 2, 1) := by decide +kernel
theorem dX9_weeks_54 : decode cX9_weeks 54 = .ok (.isub, 1) := by decide +kernel
theorem dX9_weeks_55 : decode cX9_weeks 55 = .ok (.ireturn, 1) := by decide +kernel
def f_X9_weeks (Λ : List Ly) (d : Dt) (p0 : Nat) (v1 : Int32) : Option (Int32 × Dt) := if (f_X9_in (v1).toInt64 (0 : Int64) (30 : Int64)) = 0 then (some ((-1 : Int32), d)) else (Option.bind (rf Λ p0 9 0) fun q2 => if okA Λ q2 1 (40 : Int32) = true then (if ((d.1 q2 ((40 : Int32)).toNatClampNeg) + v1) ≤ (999 : Int32) then (if clsAt Λ p0 = some 9 then (Option.bind (f_X9_starts Λ d p0) fun z6 => Option.bind (f_X9_sumOf Λ z6 p0 (3 : Int32)) fun z7 => Option.bind (f_X9_skillsBehind Λ z6 p0 v1) fun z8 => Option.bind (f_X9_settles Λ z8.2 p0) fun z9 => some ((z8.1 - z7), z9)) else none) else (some ((-3 : Int32), d))) else none)
set_option maxHeartbeats 4000000 in
set_option maxRecDepth 100000 in
theorem c_X9_weeks (Γ : Cx) (l : Launch) (Λ : List Ly) (d : Dt) (p0 : Nat) (v1 : Int32) (z : Int32 × Dt) (hf : f_X9_weeks Λ d p0 v1 = some z) : Cn Γ l yX9_weeks cX9_weeks 4 (some FieldType.int) 7 152 [.ref (ad Γ.2.2.1 p0), .int v1] Λ d (some (.int z.1)) z.2 := by
  refine Cn.of (own := "SeasonBoundModel") (by decide +kernel) rfl (Nat.le_of_ble_eq_true rfl) ?_
  intro p e s m below meth c C0 hr hlocks hH ls hl
  have hl : lv_has ls 4 [(0, .ref (ad Γ.2.2.1 p0)), (1, .int v1)] := hl
  obtain ⟨hx, hb, hml, hown, hts, hK⟩ := id C0
  unfold f_X9_weeks at hf
  refine lv_iload_n hx hb dX9_weeks_0 rfl (lv_at hl 1 rfl) ?_
  refine lv_i2l (v := (v1).toInt64) hx hb dX9_weeks_1 rfl ?_
  refine lv_lconst (v := (0 : Int64)) hx hb dX9_weeks_2 (by decide) ?_
  refine lv_ldc2 hx hb hown (hts _ kl_X9_202) dX9_weeks_3 ?_
  refine r_callSi (rest := []) C0 hH (c_X9_in Γ l Λ d (v1).toInt64 (0 : Int64) (30 : Int64)) cs_X9_56 (by decide) rfl hl.1 rfl (Nat.le_of_ble_eq_true rfl) dX9_weeks_6 (by decide) (fun H locs hH => ?_)
  refine lv_if_ne (tgt := 14) hx hb dX9_weeks_9 (by decide) (fun c1 => ?_) (fun c1 => ?_)
  · replace hf := ie hf c1
    refine lv_aload_n hx hb dX9_weeks_14 rfl (lv_at hl 0 rfl) ?_
    obtain ⟨q2, g2, hf⟩ := ob hf
    refine r_getr C0 hH fl_X9_7 g2 dX9_weeks_15 ?_
    refine lv_bipush (v := (40 : Int32)) hx hb dX9_weeks_18 (by decide) ?_
    obtain ⟨g3, hf⟩ := gd hf
    refine r_iald C0 hH g3 dX9_weeks_20 ?_
    refine lv_iload_n hx hb dX9_weeks_21 rfl (lv_at hl 1 rfl) ?_
    refine lv_iadd hx hb dX9_weeks_22 ?_
    refine lv_sipush (v := (999 : Int32)) hx hb dX9_weeks_23 (by decide) ?_
    refine lv_icmp_le (tgt := 32) hx hb dX9_weeks_26 (by decide) (fun c4 => ?_) (fun c4 => ?_)
    · replace hf := it hf c4
      refine lv_aload_n hx hb dX9_weeks_32 rfl (lv_at hl 0 rfl) ?_
      obtain ⟨g5, hf⟩ := gd hf
      obtain ⟨z6, h6, hf⟩ := ob hf
      refine r_callVv (rest := []) C0 hH (c_X9_starts Γ l Λ d p0 z6 h6) cv_X9_177 g5 (by decide) rfl hl.1 rfl (Nat.le_of_ble_eq_true rfl) dX9_weeks_33 (by decide) (fun H locs hH => ?_)
      refine lv_aload_n hx hb dX9_weeks_36 rfl (lv_at hl 0 rfl) ?_
      refine lv_iconst (v := (3 : Int32)) hx hb dX9_weeks_37 (by decide) ?_
      obtain ⟨z7, h7, hf⟩ := ob hf
      refine r_callVi (rest := []) C0 hH (c_X9_sumOf Γ l Λ z6 p0 (3 : Int32) z7 h7) cv_X9_174 g5 (by decide) rfl hl.1 rfl (Nat.le_of_ble_eq_true rfl) dX9_weeks_38 (by decide) (fun H locs hH => ?_)
      refine lv_istore_n (lv' := [(2, .int z7), (0, .ref (ad Γ.2.2.1 p0)), (1, .int v1)]) hx hb dX9_weeks_41 rfl hl (by decide) rfl (fun ls hl => ?_)
      refine lv_aload_n hx hb dX9_weeks_42 rfl (lv_at hl 1 rfl) ?_
      refine lv_iload_n hx hb dX9_weeks_43 rfl (lv_at hl 2 rfl) ?_
      obtain ⟨z8, h8, hf⟩ := ob hf
      refine r_callVi (rest := []) C0 hH (c_X9_skillsBehind Γ l Λ z6 p0 v1 z8 h8) cv_X9_204 g5 (by decide) rfl hl.1 rfl (Nat.le_of_ble_eq_true rfl) dX9_weeks_44 (by decide) (fun H locs hH => ?_)
      refine lv_istore_n (lv' := [(3, .int z8.1), (2, .int z7), (0, .ref (ad Γ.2.2.1 p0)), (1, .int v1)]) hx hb dX9_weeks_47 rfl hl (by decide) rfl (fun ls hl => ?_)
      refine lv_aload_n hx hb dX9_weeks_48 rfl (lv_at hl 2 rfl) ?_
      obtain ⟨z9, h9, hf⟩ := ob hf
      refine r_callVv (rest := []) C0 hH (c_X9_settles Γ l Λ z8.2 p0 z9 h9) cv_X9_207 g5 (by decide) rfl hl.1 rfl (Nat.le_of_ble_eq_true rfl) dX9_weeks_49 (by decide) (fun H locs hH => ?_)
      refine lv_iload_n hx hb dX9_weeks_52 rfl (lv_at hl 0 rfl) ?_
      refine lv_iload_n hx hb dX9_weeks_53 rfl (lv_at hl 1 rfl) ?_
      refine lv_isub hx hb dX9_weeks_54 ?_
      obtain rfl := Option.some.inj hf
      exact r_iret (d' := d) C0 hr hlocks hH rfl dX9_weeks_55
    · replace hf := ie hf c4
      refine lv_bipush (v := (-3 : Int32)) hx hb dX9_weeks_29 (by decide) ?_
      obtain rfl := Option.some.inj hf
      exact r_iret (d' := d) C0 hr hlocks hH rfl dX9_weeks_31
  · replace hf := it hf c1
    refine lv_iconst (v := (-1 : Int32)) hx hb dX9_weeks_12 (by decide) ?_
    obtain rfl := Option.some.inj hf
    exact r_iret (d' := d) C0 hr hlocks hH rfl dX9_weeks_13
theorem dX9_isFar_0 : decode cX9_isFar 0 = .ok (.iload_n 0, 1) := by decide +kernel
theorem dX9_isFar_1 : decode cX9_isFar 1 = .ok (.i2l, 1) := by decide +kernel
theorem dX9_isFar_2 : decode cX9_isFar 2 = .ok (.lconst 0, 1) := by decide +kernel
theorem dX9_isFar_3 : decode cX9_isFar 3 = .ok (.ldc2_w 210, 3) := by decide +kernel
theorem dX9_isFar_6 : decode cX9_isFar 6 = .ok (.invokestatic 56, 3) := by decide +kernel
theorem dX9_isFar_9 : decode cX9_isFar 9 = .ok (.ireturn, 1) := by decide +kernel
def f_X9_isFar (v0 : Int32) : Int32 := (f_X9_in (v0).toInt64 (0 : Int64) (60 : Int64))
theorem bo_X9_isFar (v0 : Int32) : f_X9_isFar v0 = 0 ∨ f_X9_isFar v0 = 1 := by
  unfold f_X9_isFar
  (repeat' split) <;> first | exact Or.inl rfl | exact Or.inr rfl | exact bo_X9_in _ _ _
set_option maxHeartbeats 4000000 in
set_option maxRecDepth 100000 in
theorem c_X9_isFar (Γ : Cx) (l : Launch) (Λ : List Ly) (d : Dt) (v0 : Int32) : Cn Γ l yX9_isFar cX9_isFar 1 (some FieldType.boolean) 1 25 [.int v0] Λ d (some (.int (f_X9_isFar v0))) d := by
  generalize hf : f_X9_isFar v0 = z
  refine Cn.of (own := "SeasonBoundModel") (by decide +kernel) rfl (Nat.le_of_ble_eq_true rfl) ?_
  intro p e s m below meth c C0 hr hlocks hH ls hl
  have hl : lv_has ls 1 [(0, .int v0)] := hl
  obtain ⟨hx, hb, hml, hown, hts, hK⟩ := id C0
  unfold f_X9_isFar at hf
  refine lv_iload_n hx hb dX9_isFar_0 rfl (lv_at hl 0 rfl) ?_
  refine lv_i2l (v := (v0).toInt64) hx hb dX9_isFar_1 rfl ?_
  refine lv_lconst (v := (0 : Int64)) hx hb dX9_isFar_2 (by decide) ?_
  refine lv_ldc2 hx hb hown (hts _ kl_X9_210) dX9_isFar_3 ?_
  refine r_callSi (rest := []) C0 hH (c_X9_in Γ l Λ d (v0).toInt64 (0 : Int64) (60 : Int64)) cs_X9_56 (by decide) rfl hl.1 rfl (Nat.le_of_ble_eq_true rfl) dX9_isFar_6 (by decide) (fun H locs hH => ?_)
  subst hf
  exact r_iret (d' := d) C0 hr hlocks hH (nz (bo_X9_in _ _ _)) dX9_isFar_9
theorem dX9_runs_0 : decode cX9_runs 0 = .ok (.iload_n 1, 1) := by decide +kernel
theorem dX9_runs_1 : decode cX9_runs 1 = .ok (.invokestatic 212, 3) := by decide +kernel
theorem dX9_runs_4 : decode cX9_runs 4 = .ok (.ifCond .eq 15, 3) := by decide +kernel
theorem dX9_runs_7 : decode cX9_runs 7 = .ok (.iload_n 2, 1) := by decide +kernel
theorem dX9_runs_8 : decode cX9_runs 8 = .ok (.i2l, 1) := by decide +kernel
theorem dX9_runs_9 : decode cX9_runs 9 = .ok (.lconst 0, 1) := by decide +kernel
theorem dX9_runs_10 : decode cX9_runs 10 = .ok (.ldc2_w 215, 3) := by decide +kernel
theorem dX9_runs_13 : decode cX9_runs 13 = .ok (.invokestatic 56, 3) := by decide +kernel
theorem dX9_runs_16 : decode cX9_runs 16 = .ok (.ifCond .ne 5, 3) := by decide +kernel
theorem dX9_runs_19 : decode cX9_runs 19 = .ok (.iconst (-1), 1) := by decide +kernel
theorem dX9_runs_20 : decode cX9_runs 20 = .ok (.ireturn, 1) := by decide +kernel
theorem dX9_runs_21 : decode cX9_runs 21 = .ok (.iconst 0, 1) := by decide +kernel
theorem dX9_runs_22 : decode cX9_runs 22 = .ok (.istore_n 3, 1) := by decide +kernel
theorem dX9_runs_23 : decode cX9_runs 23 = .ok (.aload_n 0, 1) := by decide +kernel
theorem dX9_runs_24 : decode cX9_runs 24 = .ok (.invokevirtual 177, 3) := by decide +kernel
theorem dX9_runs_27 : decode cX9_runs 27 = .ok (.iconst 0, 1) := by decide +kernel
theorem dX9_runs_28 : decode cX9_runs 28 = .ok (.istore 4, 2) := by decide +kernel
theorem dX9_runs_30 : decode cX9_runs 30 = .ok (.iload 4, 2) := by decide +kernel
theorem dX9_runs_32 : decode cX9_runs 32 = .ok (.iload_n 1, 1) := by decide +kernel
theorem dX9_runs_33 : decode cX9_runs 33 = .ok (.if_icmp .ge 32, 3) := by decide +kernel
theorem dX9_runs_36 : decode cX9_runs 36 = .ok (.iload_n 3, 1) := by decide +kernel
theorem dX9_runs_37 : decode cX9_runs 37 = .ok (.aload_n 0, 1) := by decide +kernel
theorem dX9_runs_38 : decode cX9_runs 38 = .ok (.invokevirtual 160, 3) := by decide +kernel
theorem dX9_runs_41 : decode cX9_runs 41 = .ok (.ifCond .ne 7, 3) := by decide +kernel
theorem dX9_runs_44 : decode cX9_runs 44 = .ok (.iconst 1, 1) := by decide +kernel
theorem dX9_runs_45 : decode cX9_runs 45 = .ok (.goto 4, 3) := by decide +kernel
theorem dX9_runs_48 : decode cX9_runs 48 = .ok (.iconst 0, 1) := by decide +kernel
theorem dX9_runs_49 : decode cX9_runs 49 = .ok (.invokestatic 146, 3) := by decide +kernel
theorem dX9_runs_52 : decode cX9_runs 52 = .ok (.iadd, 1) := by decide +kernel
theorem dX9_runs_53 : decode cX9_runs 53 = .ok (.istore_n 3, 1) := by decide +kernel
theorem dX9_runs_54 : decode cX9_runs 54 = .ok (.aload_n 0, 1) := by decide +kernel
theorem dX9_runs_55 : decode cX9_runs 55 = .ok (.iconst 0, 1) := by decide +kernel
theorem dX9_runs_56 : decode cX9_runs 56 = .ok (.invokevirtual 167, 3) := by decide +kernel
theorem dX9_runs_59 : decode cX9_runs 59 = .ok (.iinc 4 1, 3) := by decide +kernel
theorem dX9_runs_62 : decode cX9_runs 62 = .ok (.goto (-32), 3) := by decide +kernel
theorem dX9_runs_65 : decode cX9_runs 65 = .ok (.iload_n 2, 1) := by decide +kernel
theorem dX9_runs_66 : decode cX9_runs 66 = .ok (.tableswitch 49 0 3 #[30, 36, 41, 43], 30) := by decide +kernel
theorem dX9_runs_96 : decode cX9_runs 96 = .ok (.aload_n 0, 1) := by decide +kernel
theorem dX9_runs_97 : decode cX9_runs 97 = .ok (.iconst 3, 1) := by decide +kernel
theorem dX9_runs_98 : decode cX9_runs 98 = .ok (.invokevirtual 174, 3) := by decide +kernel
theorem dX9_runs_101 : decode cX9_runs 101 = .ok (.ireturn, 1) := by decide +kernel
theorem dX9_runs_102 : decode cX9_runs 102 = .ok (.aload_n 0, 1) := by decide +kernel
theorem dX9_runs_103 : decode cX9_runs 103 = .ok (.invokevirtual 217, 3) := by decide +kernel
theorem dX9_runs_106 : decode cX9_runs 106 = .ok (.ireturn, 1) := by decide +kernel
theorem dX9_runs_107 : decode cX9_runs 107 = .ok (.iload_n 3, 1) := by decide +kernel
theorem dX9_runs_108 : decode cX9_runs 108 = .ok (.ireturn, 1) := by decide +kernel
theorem dX9_runs_109 : decode cX9_runs 109 = .ok (.aload_n 0, 1) := by decide +kernel
theorem dX9_runs_110 : decode cX9_runs 110 = .ok (.iconst 4, 1) := by decide +kernel
theorem dX9_runs_111 : decode cX9_runs 111 = .ok (.invokevirtual 174, 3) := by decide +kernel
theorem dX9_runs_114 : decode cX9_runs 114 = .ok (.ireturn, 1) := by decide +kernel
theorem dX9_runs_115 : decode cX9_runs 115 = .ok (.aload_n 0, 1) := by decide +kernel
theorem dX9_runs_116 : decode cX9_runs 116 = .ok (.getfield 13, 3) := by decide +kernel
theorem dX9_runs_119 : decode cX9_runs 119 = .ok (.bipush 38, 2) := by decide +kernel
theorem dX9_runs_121 : decode cX9_runs 121 = .ok (.iaload, 1) := by decide +kernel
theorem dX9_runs_122 : decode cX9_runs 122 = .ok (.ireturn, 1) := by decide +kernel
def f_X9_runs_L30 (Λ : List Ly) (p0 : Nat) (v1 : Int32) (v2 : Int32) (k65 : Int32 → Int32 → Dt → Option (Int32 × Dt)) : Nat → Int32 → Int32 → Dt → Option (Int32 × Dt)
  | 0, _, _, _ => none
  | n + 1, v3, v4, d => if v1 ≤ v4 then (k65 v3 v4 d) else (if clsAt Λ p0 = some 9 then (Option.bind (f_X9_livingNow Λ d p0) fun z7 => if z7 = 0 then (Option.bind (f_X9_weekGoes Λ d p0 (0 : Int32)) fun z10 => f_X9_runs_L30 Λ p0 v1 v2 k65 n (v3 + (f_X9_flag (1 : Int32))) (v4 + (1 : Int32)) z10) else (Option.bind (f_X9_weekGoes Λ d p0 (0 : Int32)) fun z9 => f_X9_runs_L30 Λ p0 v1 v2 k65 n (v3 + (f_X9_flag (0 : Int32))) (v4 + (1 : Int32)) z9)) else none)
def f_X9_runs (Λ : List Ly) (d : Dt) (p0 : Nat) (v1 : Int32) (v2 : Int32) : Option (Int32 × Dt) := if (f_X9_isFar v1) = 0 then (some ((-1 : Int32), d)) else (if (f_X9_in (v2).toInt64 (0 : Int64) (4 : Int64)) = 0 then (some ((-1 : Int32), d)) else (if clsAt Λ p0 = some 9 then (Option.bind (f_X9_starts Λ d p0) fun z4 => f_X9_runs_L30 Λ p0 v1 v2 (fun x11_3 x11_4 d11 => if v2 = (0 : Int32) then (Option.bind (f_X9_sumOf Λ d11 p0 (3 : Int32)) fun z13 => some (z13, d11)) else (if v2 = (1 : Int32) then (Option.bind (f_X9_freeNow Λ d11 p0) fun z15 => some (z15, d11)) else (if v2 = (2 : Int32) then (some (x11_3, d11)) else (if v2 = (3 : Int32) then (Option.bind (f_X9_sumOf Λ d11 p0 (4 : Int32)) fun z18 => some (z18, d11)) else (Option.bind (rf Λ p0 9 1) fun q19 => if okA Λ q19 1 (38 : Int32) = true then (some ((d11.1 q19 ((38 : Int32)).toNatClampNeg), d11)) else none))))) FU (0 : Int32) (0 : Int32) z4) else none))
set_option maxHeartbeats 4000000 in
set_option maxRecDepth 100000 in
theorem w_X9_runs_L30 {p : Program} {l : Launch} {e : Env} {s : State} {m : MethodId} {args : Array Value} {below : List Frame} {meth : Method} {c : Code} {Γ : Cx} {Λ : List Ly} {z : Int32 × Dt} (C0 : Ct Γ p s m args c cX9_runs 5 "SeasonBoundModel") (hr : meth.sig.returnType = (some FieldType.int)) (hlocks : meth.locks = false) (k65 : Int32 → Int32 → Dt → Option (Int32 × Dt)) (p0 : Nat) (v1 : Int32) (v2 : Int32)
    (hk65 : ∀ (v3 : Int32) (v4 : Int32) (d : Dt), (k65 v3 v4 d = some z) → ∀ (H : Heap) (locs : List Loc) (ls : Array Slot), Hs Γ Λ d s H locs → lv_has ls 5 [(0, .ref (ad Γ.2.2.1 p0)), (1, .int v1), (2, .int v2), (3, .int v3), (4, .int v4)] → W p l e { frames := 5, cells := 0, slots := 0, locals := 109 } s m args below meth c H locs 0 0 (MQ below (QN Γ Λ z.2 (some (.int z.1))) args s 0 0 (AP Γ)) (F0 m 65 ls [])) :
    ∀ (n : Nat) (v3 : Int32) (v4 : Int32) (d : Dt), f_X9_runs_L30 Λ p0 v1 v2 k65 n v3 v4 d = some z → ∀ (H : Heap) (locs : List Loc) (ls : Array Slot), Hs Γ Λ d s H locs → lv_has ls 5 [(0, .ref (ad Γ.2.2.1 p0)), (1, .int v1), (2, .int v2), (3, .int v3), (4, .int v4)] → W p l e { frames := 5, cells := 0, slots := 0, locals := 109 } s m args below meth c H locs 0 0 (MQ below (QN Γ Λ z.2 (some (.int z.1))) args s 0 0 (AP Γ)) (F0 m 30 ls []) := by
  obtain ⟨hx, hb, hml, hown, hts, hK⟩ := id C0
  intro n
  induction n with
  | zero =>
    intro v3 v4 d hf
    cases hf
  | succ n ih =>
    intro v3 v4 d hf H locs ls hH hl
    unfold f_X9_runs_L30 at hf
    refine lv_iload hx hb dX9_runs_30 (lv_at hl 4 rfl) ?_
    refine lv_iload_n hx hb dX9_runs_32 rfl (lv_at hl 1 rfl) ?_
    refine lv_icmp_ge (tgt := 65) hx hb dX9_runs_33 (by decide) (fun c5 => ?_) (fun c5 => ?_)
    · replace hf := it hf c5
      exact hk65 v3 v4 d hf _ _ _ hH (lv_sub hl [0, 1, 2, 3, 4] rfl)
    · replace hf := ie hf c5
      refine lv_iload_n hx hb dX9_runs_36 rfl (lv_at hl 3 rfl) ?_
      refine lv_aload_n hx hb dX9_runs_37 rfl (lv_at hl 0 rfl) ?_
      obtain ⟨g6, hf⟩ := gd hf
      obtain ⟨z7, h7, hf⟩ := ob hf
      refine r_callVi (rest := [.int v3]) C0 hH (c_X9_livingNow Γ l Λ d p0 z7 h7) cv_X9_160 g6 (by decide) rfl hl.1 rfl (Nat.le_of_ble_eq_true rfl) dX9_runs_38 (by decide) (fun H locs hH => ?_)
      refine lv_if_ne (tgt := 48) hx hb dX9_runs_41 (by decide) (fun c8 => ?_) (fun c8 => ?_)
      · replace hf := ie hf c8
        refine lv_iconst (v := (0 : Int32)) hx hb dX9_runs_48 (by decide) ?_
        refine r_callSi (rest := [.int v3]) C0 hH (c_X9_flag Γ l Λ d (0 : Int32)) cs_X9_146 (by decide) rfl hl.1 rfl (Nat.le_of_ble_eq_true rfl) dX9_runs_49 (by decide) (fun H locs hH => ?_)
        refine lv_iadd hx hb dX9_runs_52 ?_
        refine lv_istore_n (lv' := [(3, .int (v3 + (f_X9_flag (0 : Int32)))), (0, .ref (ad Γ.2.2.1 p0)), (1, .int v1), (2, .int v2), (4, .int v4)]) hx hb dX9_runs_53 rfl hl (by decide) rfl (fun ls hl => ?_)
        refine lv_aload_n hx hb dX9_runs_54 rfl (lv_at hl 1 rfl) ?_
        refine lv_iconst (v := (0 : Int32)) hx hb dX9_runs_55 (by decide) ?_
        obtain ⟨z9, h9, hf⟩ := ob hf
        refine r_callVv (rest := []) C0 hH (c_X9_weekGoes Γ l Λ d p0 (0 : Int32) z9 h9) cv_X9_167 g6 (by decide) rfl hl.1 rfl (Nat.le_of_ble_eq_true rfl) dX9_runs_56 (by decide) (fun H locs hH => ?_)
        refine lv_iinc (v := (v4 + (1 : Int32))) (lv' := [(4, .int (v4 + (1 : Int32))), (3, .int (v3 + (f_X9_flag (0 : Int32)))), (0, .ref (ad Γ.2.2.1 p0)), (1, .int v1), (2, .int v2)]) hx hb dX9_runs_59 hl (k := 4) rfl (congrArg (fun w => v4 + w) (by decide)) (by decide) rfl (fun ls hl => ?_)
        refine lv_goto (tgt := 30) hx hb dX9_runs_62 (by decide) ?_
        exact ih (v3 + (f_X9_flag (0 : Int32))) (v4 + (1 : Int32)) z9 hf _ _ _ hH (lv_sub hl [2, 3, 4, 1, 0] rfl)
      · replace hf := it hf c8
        refine lv_iconst (v := (1 : Int32)) hx hb dX9_runs_44 (by decide) ?_
        refine lv_goto (tgt := 49) hx hb dX9_runs_45 (by decide) ?_
        refine r_callSi (rest := [.int v3]) C0 hH (c_X9_flag Γ l Λ d (1 : Int32)) cs_X9_146 (by decide) rfl hl.1 rfl (Nat.le_of_ble_eq_true rfl) dX9_runs_49 (by decide) (fun H locs hH => ?_)
        refine lv_iadd hx hb dX9_runs_52 ?_
        refine lv_istore_n (lv' := [(3, .int (v3 + (f_X9_flag (1 : Int32)))), (0, .ref (ad Γ.2.2.1 p0)), (1, .int v1), (2, .int v2), (4, .int v4)]) hx hb dX9_runs_53 rfl hl (by decide) rfl (fun ls hl => ?_)
        refine lv_aload_n hx hb dX9_runs_54 rfl (lv_at hl 1 rfl) ?_
        refine lv_iconst (v := (0 : Int32)) hx hb dX9_runs_55 (by decide) ?_
        obtain ⟨z10, h10, hf⟩ := ob hf
        refine r_callVv (rest := []) C0 hH (c_X9_weekGoes Γ l Λ d p0 (0 : Int32) z10 h10) cv_X9_167 g6 (by decide) rfl hl.1 rfl (Nat.le_of_ble_eq_true rfl) dX9_runs_56 (by decide) (fun H locs hH => ?_)
        refine lv_iinc (v := (v4 + (1 : Int32))) (lv' := [(4, .int (v4 + (1 : Int32))), (3, .int (v3 + (f_X9_flag (1 : Int32)))), (0, .ref (ad Γ.2.2.1 p0)), (1, .int v1), (2, .int v2)]) hx hb dX9_runs_59 hl (k := 4) rfl (congrArg (fun w => v4 + w) (by decide)) (by decide) rfl (fun ls hl => ?_)
        refine lv_goto (tgt := 30) hx hb dX9_runs_62 (by decide) ?_
        exact ih (v3 + (f_X9_flag (1 : Int32))) (v4 + (1 : Int32)) z10 hf _ _ _ hH (lv_sub hl [2, 3, 4, 1, 0] rfl)
set_option maxHeartbeats 4000000 in
set_option maxRecDepth 100000 in
theorem c_X9_runs (Γ : Cx) (l : Launch) (Λ : List Ly) (d : Dt) (p0 : Nat) (v1 : Int32) (v2 : Int32) (z : Int32 × Dt) (hf : f_X9_runs Λ d p0 v1 v2 = some z) : Cn Γ l yX9_runs cX9_runs 5 (some FieldType.int) 5 109 [.ref (ad Γ.2.2.1 p0), .int v1, .int v2] Λ d (some (.int z.1)) z.2 := by
  refine Cn.of (own := "SeasonBoundModel") (by decide +kernel) rfl (Nat.le_of_ble_eq_true rfl) ?_
  intro p e s m below meth c C0 hr hlocks hH ls hl
  have hl : lv_has ls 5 [(0, .ref (ad Γ.2.2.1 p0)), (1, .int v1), (2, .int v2)] := hl
  obtain ⟨hx, hb, hml, hown, hts, hK⟩ := id C0
  unfold f_X9_runs at hf
  refine lv_iload_n hx hb dX9_runs_0 rfl (lv_at hl 1 rfl) ?_
  refine r_callSi (rest := []) C0 hH (c_X9_isFar Γ l Λ d v1) cs_X9_212 (by decide) rfl hl.1 rfl (Nat.le_of_ble_eq_true rfl) dX9_runs_1 (by decide) (fun H locs hH => ?_)
  refine lv_if_eq (tgt := 19) hx hb dX9_runs_4 (by decide) (fun c1 => ?_) (fun c1 => ?_)
  · replace hf := it hf c1
    refine lv_iconst (v := (-1 : Int32)) hx hb dX9_runs_19 (by decide) ?_
    obtain rfl := Option.some.inj hf
    exact r_iret (d' := d) C0 hr hlocks hH rfl dX9_runs_20
  · replace hf := ie hf c1
    refine lv_iload_n hx hb dX9_runs_7 rfl (lv_at hl 2 rfl) ?_
    refine lv_i2l (v := (v2).toInt64) hx hb dX9_runs_8 rfl ?_
    refine lv_lconst (v := (0 : Int64)) hx hb dX9_runs_9 (by decide) ?_
    refine lv_ldc2 hx hb hown (hts _ kl_X9_215) dX9_runs_10 ?_
    refine r_callSi (rest := []) C0 hH (c_X9_in Γ l Λ d (v2).toInt64 (0 : Int64) (4 : Int64)) cs_X9_56 (by decide) rfl hl.1 rfl (Nat.le_of_ble_eq_true rfl) dX9_runs_13 (by decide) (fun H locs hH => ?_)
    refine lv_if_ne (tgt := 21) hx hb dX9_runs_16 (by decide) (fun c2 => ?_) (fun c2 => ?_)
    · replace hf := ie hf c2
      refine lv_iconst (v := (0 : Int32)) hx hb dX9_runs_21 (by decide) ?_
      refine lv_istore_n (lv' := [(3, .int (0 : Int32)), (0, .ref (ad Γ.2.2.1 p0)), (1, .int v1), (2, .int v2)]) hx hb dX9_runs_22 rfl hl (by decide) rfl (fun ls hl => ?_)
      refine lv_aload_n hx hb dX9_runs_23 rfl (lv_at hl 1 rfl) ?_
      obtain ⟨g3, hf⟩ := gd hf
      obtain ⟨z4, h4, hf⟩ := ob hf
      refine r_callVv (rest := []) C0 hH (c_X9_starts Γ l Λ d p0 z4 h4) cv_X9_177 g3 (by decide) rfl hl.1 rfl (Nat.le_of_ble_eq_true rfl) dX9_runs_24 (by decide) (fun H locs hH => ?_)
      refine lv_iconst (v := (0 : Int32)) hx hb dX9_runs_27 (by decide) ?_
      refine lv_istore (lv' := [(4, .int (0 : Int32)), (3, .int (0 : Int32)), (0, .ref (ad Γ.2.2.1 p0)), (1, .int v1), (2, .int v2)]) hx hb dX9_runs_28 hl (by decide) rfl (fun ls hl => ?_)
      refine w_X9_runs_L30 C0 hr hlocks _ p0 v1 v2 ?k65 FU (0 : Int32) (0 : Int32) z4 hf _ _ _ hH (lv_sub hl [2, 3, 4, 1, 0] rfl)
      case k65 =>
        intro x11_3 x11_4 d11 hf H locs ls hH hl
        refine lv_iload_n hx hb dX9_runs_65 rfl (lv_at hl 2 rfl) ?_
        by_cases c12 : v2 = (0 : Int32)
        · replace hf := it hf c12
          refine lv_tableIn (off := 30) (tgt := 96) hx hb dX9_runs_66 (by rw [c12]; decide) (by rw [c12]; decide) (by rw [c12]; rfl) (by decide) ?_
          refine lv_aload_n hx hb dX9_runs_96 rfl (lv_at hl 0 rfl) ?_
          refine lv_iconst (v := (3 : Int32)) hx hb dX9_runs_97 (by decide) ?_
          obtain ⟨z13, h13, hf⟩ := ob hf
          refine r_callVi (rest := []) C0 hH (c_X9_sumOf Γ l Λ d11 p0 (3 : Int32) z13 h13) cv_X9_174 g3 (by decide) rfl hl.1 rfl (Nat.le_of_ble_eq_true rfl) dX9_runs_98 (by decide) (fun H locs hH => ?_)
          obtain rfl := Option.some.inj hf
          exact r_iret (d' := d) C0 hr hlocks hH rfl dX9_runs_101
        · replace hf := ie hf c12
          by_cases c14 : v2 = (1 : Int32)
          · replace hf := it hf c14
            refine lv_tableIn (off := 36) (tgt := 102) hx hb dX9_runs_66 (by rw [c14]; decide) (by rw [c14]; decide) (by rw [c14]; rfl) (by decide) ?_
            refine lv_aload_n hx hb dX9_runs_102 rfl (lv_at hl 0 rfl) ?_
            obtain ⟨z15, h15, hf⟩ := ob hf
            refine r_callVi (rest := []) C0 hH (c_X9_freeNow Γ l Λ d11 p0 z15 h15) cv_X9_217 g3 (by decide) rfl hl.1 rfl (Nat.le_of_ble_eq_true rfl) dX9_runs_103 (by decide) (fun H locs hH => ?_)
            obtain rfl := Option.some.inj hf
            exact r_iret (d' := d) C0 hr hlocks hH rfl dX9_runs_106
          · replace hf := ie hf c14
            by_cases c16 : v2 = (2 : Int32)
            · replace hf := it hf c16
              refine lv_tableIn (off := 41) (tgt := 107) hx hb dX9_runs_66 (by rw [c16]; decide) (by rw [c16]; decide) (by rw [c16]; rfl) (by decide) ?_
              refine lv_iload_n hx hb dX9_runs_107 rfl (lv_at hl 3 rfl) ?_
              obtain rfl := Option.some.inj hf
              exact r_iret (d' := d) C0 hr hlocks hH rfl dX9_runs_108
            · replace hf := ie hf c16
              by_cases c17 : v2 = (3 : Int32)
              · replace hf := it hf c17
                refine lv_tableIn (off := 43) (tgt := 109) hx hb dX9_runs_66 (by rw [c17]; decide) (by rw [c17]; decide) (by rw [c17]; rfl) (by decide) ?_
                refine lv_aload_n hx hb dX9_runs_109 rfl (lv_at hl 0 rfl) ?_
                refine lv_iconst (v := (4 : Int32)) hx hb dX9_runs_110 (by decide) ?_
                obtain ⟨z18, h18, hf⟩ := ob hf
                refine r_callVi (rest := []) C0 hH (c_X9_sumOf Γ l Λ d11 p0 (4 : Int32) z18 h18) cv_X9_174 g3 (by decide) rfl hl.1 rfl (Nat.le_of_ble_eq_true rfl) dX9_runs_111 (by decide) (fun H locs hH => ?_)
                obtain rfl := Option.some.inj hf
                exact r_iret (d' := d) C0 hr hlocks hH rfl dX9_runs_114
              · replace hf := ie hf c17
                refine lv_tableOut (tgt := 115) hx hb dX9_runs_66 (by have hc12 := lv_neT c12 (a := 0) (by decide); have hc14 := lv_neT c14 (a := 1) (by decide); have hc16 := lv_neT c16 (a := 2) (by decide); have hc17 := lv_neT c17 (a := 3) (by decide); omega) (by decide) ?_
                refine lv_aload_n hx hb dX9_runs_115 rfl (lv_at hl 0 rfl) ?_
                obtain ⟨q19, g19, hf⟩ := ob hf
                refine r_getr C0 hH fl_X9_13 g19 dX9_runs_116 ?_
                refine lv_bipush (v := (38 : Int32)) hx hb dX9_runs_119 (by decide) ?_
                obtain ⟨g20, hf⟩ := gd hf
                refine r_iald C0 hH g20 dX9_runs_121 ?_
                obtain rfl := Option.some.inj hf
                exact r_iret (d' := d) C0 hr hlocks hH rfl dX9_runs_122
    · replace hf := it hf c2
      refine lv_iconst (v := (-1 : Int32)) hx hb dX9_runs_19 (by decide) ?_
      obtain rfl := Option.some.inj hf
      exact r_iret (d' := d) C0 hr hlocks hH rfl dX9_runs_20
theorem dX9_ahead_0 : decode cX9_ahead 0 = .ok (.aload_n 0, 1) := by decide +kernel
theorem dX9_ahead_1 : decode cX9_ahead 1 = .ok (.iload_n 1, 1) := by decide +kernel
theorem dX9_ahead_2 : decode cX9_ahead 2 = .ok (.invokevirtual 180, 3) := by decide +kernel
theorem dX9_ahead_5 : decode cX9_ahead 5 = .ok (.ifCond .eq 22, 3) := by decide +kernel
theorem dX9_ahead_8 : decode cX9_ahead 8 = .ok (.iload_n 2, 1) := by decide +kernel
theorem dX9_ahead_9 : decode cX9_ahead 9 = .ok (.invokestatic 212, 3) := by decide +kernel
theorem dX9_ahead_12 : decode cX9_ahead 12 = .ok (.ifCond .eq 15, 3) := by decide +kernel
theorem dX9_ahead_15 : decode cX9_ahead 15 = .ok (.iload_n 3, 1) := by decide +kernel
theorem dX9_ahead_16 : decode cX9_ahead 16 = .ok (.i2l, 1) := by decide +kernel
theorem dX9_ahead_17 : decode cX9_ahead 17 = .ok (.lconst 0, 1) := by decide +kernel
theorem dX9_ahead_18 : decode cX9_ahead 18 = .ok (.ldc2_w 220, 3) := by decide +kernel
theorem dX9_ahead_21 : decode cX9_ahead 21 = .ok (.invokestatic 56, 3) := by decide +kernel
theorem dX9_ahead_24 : decode cX9_ahead 24 = .ok (.ifCond .ne 5, 3) := by decide +kernel
theorem dX9_ahead_27 : decode cX9_ahead 27 = .ok (.iconst (-1), 1) := by decide +kernel
theorem dX9_ahead_28 : decode cX9_ahead 28 = .ok (.ireturn, 1) := by decide +kernel
theorem dX9_ahead_29 : decode cX9_ahead 29 = .ok (.aload_n 0, 1) := by decide +kernel
theorem dX9_ahead_30 : decode cX9_ahead 30 = .ok (.invokevirtual 177, 3) := by decide +kernel
theorem dX9_ahead_33 : decode cX9_ahead 33 = .ok (.aload_n 0, 1) := by decide +kernel
theorem dX9_ahead_34 : decode cX9_ahead 34 = .ok (.iload_n 2, 1) := by decide +kernel
theorem dX9_ahead_35 : decode cX9_ahead 35 = .ok (.invokevirtual 171, 3) := by decide +kernel
theorem dX9_ahead_38 : decode cX9_ahead 38 = .ok (.aload_n 0, 1) := by decide +kernel
theorem dX9_ahead_39 : decode cX9_ahead 39 = .ok (.iload_n 1, 1) := by decide +kernel
theorem dX9_ahead_40 : decode cX9_ahead 40 = .ok (.iload_n 3, 1) := by decide +kernel
theorem dX9_ahead_41 : decode cX9_ahead 41 = .ok (.ifCond .ne 7, 3) := by decide +kernel
theorem dX9_ahead_44 : decode cX9_ahead 44 = .ok (.iconst 3, 1) := by decide +kernel
theorem dX9_ahead_45 : decode cX9_ahead 45 = .ok (.goto 13, 3) := by decide +kernel
theorem dX9_ahead_48 : decode cX9_ahead 48 = .ok (.iload_n 3, 1) := by decide +kernel
theorem dX9_ahead_49 : decode cX9_ahead 49 = .ok (.iconst 1, 1) := by decide +kernel
theorem dX9_ahead_50 : decode cX9_ahead 50 = .ok (.if_icmp .ne 7, 3) := by decide +kernel
theorem dX9_ahead_53 : decode cX9_ahead 53 = .ok (.iconst 4, 1) := by decide +kernel
theorem dX9_ahead_54 : decode cX9_ahead 54 = .ok (.goto 4, 3) := by decide +kernel
theorem dX9_ahead_57 : decode cX9_ahead 57 = .ok (.iconst 2, 1) := by decide +kernel
theorem dX9_ahead_58 : decode cX9_ahead 58 = .ok (.invokevirtual 136, 3) := by decide +kernel
theorem dX9_ahead_61 : decode cX9_ahead 61 = .ok (.ireturn, 1) := by decide +kernel
def f_X9_ahead (Λ : List Ly) (d : Dt) (p0 : Nat) (v1 : Int32) (v2 : Int32) (v3 : Int32) : Option (Int32 × Dt) := if clsAt Λ p0 = some 9 then (Option.bind (f_X9_isChild Λ d p0 v1) fun z2 => if z2 = 0 then (some ((-1 : Int32), d)) else (if (f_X9_isFar v2) = 0 then (some ((-1 : Int32), d)) else (if (f_X9_in (v3).toInt64 (0 : Int64) (2 : Int64)) = 0 then (some ((-1 : Int32), d)) else (Option.bind (f_X9_starts Λ d p0) fun z6 => Option.bind (f_X9_weeksGo Λ z6 p0 v2) fun z7 => if v3 = 0 then (Option.bind (f_X9_of Λ z7 p0 v1 (3 : Int32)) fun z12 => some (z12, z7)) else (if v3 = (1 : Int32) then (Option.bind (f_X9_of Λ z7 p0 v1 (4 : Int32)) fun z11 => some (z11, z7)) else (Option.bind (f_X9_of Λ z7 p0 v1 (2 : Int32)) fun z10 => some (z10, z7))))))) else none
set_option maxHeartbeats 4000000 in
set_option maxRecDepth 100000 in
theorem c_X9_ahead (Γ : Cx) (l : Launch) (Λ : List Ly) (d : Dt) (p0 : Nat) (v1 : Int32) (v2 : Int32) (v3 : Int32) (z : Int32 × Dt) (hf : f_X9_ahead Λ d p0 v1 v2 v3 = some z) : Cn Γ l yX9_ahead cX9_ahead 4 (some FieldType.int) 6 131 [.ref (ad Γ.2.2.1 p0), .int v1, .int v2, .int v3] Λ d (some (.int z.1)) z.2 := by
  refine Cn.of (own := "SeasonBoundModel") (by decide +kernel) rfl (Nat.le_of_ble_eq_true rfl) ?_
  intro p e s m below meth c C0 hr hlocks hH ls hl
  have hl : lv_has ls 4 [(0, .ref (ad Γ.2.2.1 p0)), (1, .int v1), (2, .int v2), (3, .int v3)] := hl
  obtain ⟨hx, hb, hml, hown, hts, hK⟩ := id C0
  unfold f_X9_ahead at hf
  refine lv_aload_n hx hb dX9_ahead_0 rfl (lv_at hl 0 rfl) ?_
  refine lv_iload_n hx hb dX9_ahead_1 rfl (lv_at hl 1 rfl) ?_
  obtain ⟨g1, hf⟩ := gd hf
  obtain ⟨z2, h2, hf⟩ := ob hf
  refine r_callVi (rest := []) C0 hH (c_X9_isChild Γ l Λ d p0 v1 z2 h2) cv_X9_180 g1 (by decide) rfl hl.1 rfl (Nat.le_of_ble_eq_true rfl) dX9_ahead_2 (by decide) (fun H locs hH => ?_)
  refine lv_if_eq (tgt := 27) hx hb dX9_ahead_5 (by decide) (fun c3 => ?_) (fun c3 => ?_)
  · replace hf := it hf c3
    refine lv_iconst (v := (-1 : Int32)) hx hb dX9_ahead_27 (by decide) ?_
    obtain rfl := Option.some.inj hf
    exact r_iret (d' := d) C0 hr hlocks hH rfl dX9_ahead_28
  · replace hf := ie hf c3
    refine lv_iload_n hx hb dX9_ahead_8 rfl (lv_at hl 2 rfl) ?_
    refine r_callSi (rest := []) C0 hH (c_X9_isFar Γ l Λ d v2) cs_X9_212 (by decide) rfl hl.1 rfl (Nat.le_of_ble_eq_true rfl) dX9_ahead_9 (by decide) (fun H locs hH => ?_)
    refine lv_if_eq (tgt := 27) hx hb dX9_ahead_12 (by decide) (fun c4 => ?_) (fun c4 => ?_)
    · replace hf := it hf c4
      refine lv_iconst (v := (-1 : Int32)) hx hb dX9_ahead_27 (by decide) ?_
      obtain rfl := Option.some.inj hf
      exact r_iret (d' := d) C0 hr hlocks hH rfl dX9_ahead_28
    · replace hf := ie hf c4
      refine lv_iload_n hx hb dX9_ahead_15 rfl (lv_at hl 3 rfl) ?_
      refine lv_i2l (v := (v3).toInt64) hx hb dX9_ahead_16 rfl ?_
      refine lv_lconst (v := (0 : Int64)) hx hb dX9_ahead_17 (by decide) ?_
      refine lv_ldc2 hx hb hown (hts _ kl_X9_220) dX9_ahead_18 ?_
      refine r_callSi (rest := []) C0 hH (c_X9_in Γ l Λ d (v3).toInt64 (0 : Int64) (2 : Int64)) cs_X9_56 (by decide) rfl hl.1 rfl (Nat.le_of_ble_eq_true rfl) dX9_ahead_21 (by decide) (fun H locs hH => ?_)
      refine lv_if_ne (tgt := 29) hx hb dX9_ahead_24 (by decide) (fun c5 => ?_) (fun c5 => ?_)
      · replace hf := ie hf c5
        refine lv_aload_n hx hb dX9_ahead_29 rfl (lv_at hl 0 rfl) ?_
        obtain ⟨z6, h6, hf⟩ := ob hf
        refine r_callVv (rest := []) C0 hH (c_X9_starts Γ l Λ d p0 z6 h6) cv_X9_177 g1 (by decide) rfl hl.1 rfl (Nat.le_of_ble_eq_true rfl) dX9_ahead_30 (by decide) (fun H locs hH => ?_)
        refine lv_aload_n hx hb dX9_ahead_33 rfl (lv_at hl 0 rfl) ?_
        refine lv_iload_n hx hb dX9_ahead_34 rfl (lv_at hl 2 rfl) ?_
        obtain ⟨z7, h7, hf⟩ := ob hf
        refine r_callVv (rest := []) C0 hH (c_X9_weeksGo Γ l Λ z6 p0 v2 z7 h7) cv_X9_171 g1 (by decide) rfl hl.1 rfl (Nat.le_of_ble_eq_true rfl) dX9_ahead_35 (by decide) (fun H locs hH => ?_)
        refine lv_aload_n hx hb dX9_ahead_38 rfl (lv_at hl 0 rfl) ?_
        refine lv_iload_n hx hb dX9_ahead_39 rfl (lv_at hl 1 rfl) ?_
        refine lv_iload_n hx hb dX9_ahead_40 rfl (lv_at hl 3 rfl) ?_
        refine lv_if_ne (tgt := 48) hx hb dX9_ahead_41 (by decide) (fun c8 => ?_) (fun c8 => ?_)
        · replace hf := ie hf c8
          refine lv_iload_n hx hb dX9_ahead_48 rfl (lv_at hl 3 rfl) ?_
          refine lv_iconst (v := (1 : Int32)) hx hb dX9_ahead_49 (by decide) ?_
          refine lv_icmp_ne (tgt := 57) hx hb dX9_ahead_50 (by decide) (fun c9 => ?_) (fun c9 => ?_)
          · replace hf := ie hf c9
            refine lv_iconst (v := (2 : Int32)) hx hb dX9_ahead_57 (by decide) ?_
            obtain ⟨z10, h10, hf⟩ := ob hf
            refine r_callVi (rest := []) C0 hH (c_X9_of Γ l Λ z7 p0 v1 (2 : Int32) z10 h10) cv_X9_136 g1 (by decide) rfl hl.1 rfl (Nat.le_of_ble_eq_true rfl) dX9_ahead_58 (by decide) (fun H locs hH => ?_)
            obtain rfl := Option.some.inj hf
            exact r_iret (d' := d) C0 hr hlocks hH rfl dX9_ahead_61
          · replace hf := it hf c9
            refine lv_iconst (v := (4 : Int32)) hx hb dX9_ahead_53 (by decide) ?_
            refine lv_goto (tgt := 58) hx hb dX9_ahead_54 (by decide) ?_
            obtain ⟨z11, h11, hf⟩ := ob hf
            refine r_callVi (rest := []) C0 hH (c_X9_of Γ l Λ z7 p0 v1 (4 : Int32) z11 h11) cv_X9_136 g1 (by decide) rfl hl.1 rfl (Nat.le_of_ble_eq_true rfl) dX9_ahead_58 (by decide) (fun H locs hH => ?_)
            obtain rfl := Option.some.inj hf
            exact r_iret (d' := d) C0 hr hlocks hH rfl dX9_ahead_61
        · replace hf := it hf c8
          refine lv_iconst (v := (3 : Int32)) hx hb dX9_ahead_44 (by decide) ?_
          refine lv_goto (tgt := 58) hx hb dX9_ahead_45 (by decide) ?_
          obtain ⟨z12, h12, hf⟩ := ob hf
          refine r_callVi (rest := []) C0 hH (c_X9_of Γ l Λ z7 p0 v1 (3 : Int32) z12 h12) cv_X9_136 g1 (by decide) rfl hl.1 rfl (Nat.le_of_ble_eq_true rfl) dX9_ahead_58 (by decide) (fun H locs hH => ?_)
          obtain rfl := Option.some.inj hf
          exact r_iret (d' := d) C0 hr hlocks hH rfl dX9_ahead_61
      · replace hf := it hf c5
        refine lv_iconst (v := (-1 : Int32)) hx hb dX9_ahead_27 (by decide) ?_
        obtain rfl := Option.some.inj hf
        exact r_iret (d' := d) C0 hr hlocks hH rfl dX9_ahead_28
