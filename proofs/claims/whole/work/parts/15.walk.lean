theorem dX9_firstDraft_0 : decode cX9_firstDraft 0 = .ok (.iconst 0, 1) := by decide +kernel
theorem dX9_firstDraft_1 : decode cX9_firstDraft 1 = .ok (.istore_n 1, 1) := by decide +kernel
theorem dX9_firstDraft_2 : decode cX9_firstDraft 2 = .ok (.iload_n 1, 1) := by decide +kernel
theorem dX9_firstDraft_3 : decode cX9_firstDraft 3 = .ok (.bipush 60, 2) := by decide +kernel
theorem dX9_firstDraft_5 : decode cX9_firstDraft 5 = .ok (.if_icmp .ge 16, 3) := by decide +kernel
theorem dX9_firstDraft_8 : decode cX9_firstDraft 8 = .ok (.aload_n 0, 1) := by decide +kernel
theorem dX9_firstDraft_9 : decode cX9_firstDraft 9 = .ok (.getfield 20, 3) := by decide +kernel
theorem dX9_firstDraft_12 : decode cX9_firstDraft 12 = .ok (.iload_n 1, 1) := by decide +kernel
theorem dX9_firstDraft_13 : decode cX9_firstDraft 13 = .ok (.iconst 0, 1) := by decide +kernel
theorem dX9_firstDraft_14 : decode cX9_firstDraft 14 = .ok (.iastore, 1) := by decide +kernel
theorem dX9_firstDraft_15 : decode cX9_firstDraft 15 = .ok (.iinc 1 1, 3) := by decide +kernel
theorem dX9_firstDraft_18 : decode cX9_firstDraft 18 = .ok (.goto (-16), 3) := by decide +kernel
theorem dX9_firstDraft_21 : decode cX9_firstDraft 21 = .ok (.iconst 0, 1) := by decide +kernel
theorem dX9_firstDraft_22 : decode cX9_firstDraft 22 = .ok (.istore_n 1, 1) := by decide +kernel
theorem dX9_firstDraft_23 : decode cX9_firstDraft 23 = .ok (.iload_n 1, 1) := by decide +kernel
theorem dX9_firstDraft_24 : decode cX9_firstDraft 24 = .ok (.iconst 4, 1) := by decide +kernel
theorem dX9_firstDraft_25 : decode cX9_firstDraft 25 = .ok (.if_icmp .ge 43, 3) := by decide +kernel
theorem dX9_firstDraft_28 : decode cX9_firstDraft 28 = .ok (.aload_n 0, 1) := by decide +kernel
theorem dX9_firstDraft_29 : decode cX9_firstDraft 29 = .ok (.getfield 20, 3) := by decide +kernel
theorem dX9_firstDraft_32 : decode cX9_firstDraft 32 = .ok (.iconst 3, 1) := by decide +kernel
theorem dX9_firstDraft_33 : decode cX9_firstDraft 33 = .ok (.iload_n 1, 1) := by decide +kernel
theorem dX9_firstDraft_34 : decode cX9_firstDraft 34 = .ok (.imul, 1) := by decide +kernel
theorem dX9_firstDraft_35 : decode cX9_firstDraft 35 = .ok (.iconst 0, 1) := by decide +kernel
theorem dX9_firstDraft_36 : decode cX9_firstDraft 36 = .ok (.iadd, 1) := by decide +kernel
theorem dX9_firstDraft_37 : decode cX9_firstDraft 37 = .ok (.iconst 3, 1) := by decide +kernel
theorem dX9_firstDraft_38 : decode cX9_firstDraft 38 = .ok (.iastore, 1) := by decide +kernel
theorem dX9_firstDraft_39 : decode cX9_firstDraft 39 = .ok (.aload_n 0, 1) := by decide +kernel
theorem dX9_firstDraft_40 : decode cX9_firstDraft 40 = .ok (.getfield 20, 3) := by decide +kernel
theorem dX9_firstDraft_43 : decode cX9_firstDraft 43 = .ok (.iconst 3, 1) := by decide +kernel
theorem dX9_firstDraft_44 : decode cX9_firstDraft 44 = .ok (.iload_n 1, 1) := by decide +kernel
theorem dX9_firstDraft_45 : decode cX9_firstDraft 45 = .ok (.imul, 1) := by decide +kernel
theorem dX9_firstDraft_46 : decode cX9_firstDraft 46 = .ok (.iconst 1, 1) := by decide +kernel
theorem dX9_firstDraft_47 : decode cX9_firstDraft 47 = .ok (.iadd, 1) := by decide +kernel
theorem dX9_firstDraft_48 : decode cX9_firstDraft 48 = .ok (.iconst 1, 1) := by decide +kernel
theorem dX9_firstDraft_49 : decode cX9_firstDraft 49 = .ok (.iastore, 1) := by decide +kernel
theorem dX9_firstDraft_50 : decode cX9_firstDraft 50 = .ok (.aload_n 0, 1) := by decide +kernel
theorem dX9_firstDraft_51 : decode cX9_firstDraft 51 = .ok (.getfield 20, 3) := by decide +kernel
theorem dX9_firstDraft_54 : decode cX9_firstDraft 54 = .ok (.iconst 3, 1) := by decide +kernel
theorem dX9_firstDraft_55 : decode cX9_firstDraft 55 = .ok (.iload_n 1, 1) := by decide +kernel
theorem dX9_firstDraft_56 : decode cX9_firstDraft 56 = .ok (.imul, 1) := by decide +kernel
theorem dX9_firstDraft_57 : decode cX9_firstDraft 57 = .ok (.iconst 2, 1) := by decide +kernel
theorem dX9_firstDraft_58 : decode cX9_firstDraft 58 = .ok (.iadd, 1) := by decide +kernel
theorem dX9_firstDraft_59 : decode cX9_firstDraft 59 = .ok (.bipush 99, 2) := by decide +kernel
theorem dX9_firstDraft_61 : decode cX9_firstDraft 61 = .ok (.iastore, 1) := by decide +kernel
theorem dX9_firstDraft_62 : decode cX9_firstDraft 62 = .ok (.iinc 1 1, 3) := by decide +kernel
theorem dX9_firstDraft_65 : decode cX9_firstDraft 65 = .ok (.goto (-42), 3) := by decide +kernel
theorem dX9_firstDraft_68 : decode cX9_firstDraft 68 = .ok (.aload_n 0, 1) := by decide +kernel
theorem dX9_firstDraft_69 : decode cX9_firstDraft 69 = .ok (.iconst 0, 1) := by decide +kernel
theorem dX9_firstDraft_70 : decode cX9_firstDraft 70 = .ok (.putfield 50, 3) := by decide +kernel
theorem dX9_firstDraft_73 : decode cX9_firstDraft 73 = .ok (.return_, 1) := by decide +kernel
def f_X9_firstDraft_L2 (Λ : List Ly) (p0 : Nat) (k21 : Int32 → Dt → Option Dt) : Nat → Int32 → Dt → Option Dt
  | 0, _, _ => none
  | n + 1, v1, d => if (60 : Int32) ≤ v1 then (k21 v1 d) else (Option.bind (rf Λ p0 9 3) fun q2 => if okA Λ q2 1 v1 = true then (f_X9_firstDraft_L2 Λ p0 k21 n (v1 + (1 : Int32)) (pI d q2 (v1).toNatClampNeg (0 : Int32))) else none)
def f_X9_firstDraft_L23 (Λ : List Ly) (p0 : Nat) : Nat → Int32 → Dt → Option Dt
  | 0, _, _ => none
  | n + 1, v1, d => if (4 : Int32) ≤ v1 then (if clsAt Λ p0 = some 9 then (some (pI d p0 4 (0 : Int32))) else none) else (Option.bind (rf Λ p0 9 3) fun q7 => if okA Λ q7 1 (((3 : Int32) * v1) + (0 : Int32)) = true then (if okA Λ q7 1 (((3 : Int32) * v1) + (1 : Int32)) = true then (if okA Λ q7 1 (((3 : Int32) * v1) + (2 : Int32)) = true then (f_X9_firstDraft_L23 Λ p0 n (v1 + (1 : Int32)) (pI (pI (pI d q7 ((((3 : Int32) * v1) + (0 : Int32))).toNatClampNeg (3 : Int32)) q7 ((((3 : Int32) * v1) + (1 : Int32))).toNatClampNeg (1 : Int32)) q7 ((((3 : Int32) * v1) + (2 : Int32))).toNatClampNeg (99 : Int32))) else none) else none) else none)
def f_X9_firstDraft (Λ : List Ly) (d : Dt) (p0 : Nat) : Option Dt := f_X9_firstDraft_L2 Λ p0 (fun x4_1 d4 => f_X9_firstDraft_L23 Λ p0 FU (0 : Int32) d4) FU (0 : Int32) d
set_option maxHeartbeats 4000000 in
set_option maxRecDepth 100000 in
theorem w_X9_firstDraft_L2 {p : Program} {l : Launch} {e : Env} {s : State} {m : MethodId} {args : Array Value} {below : List Frame} {meth : Method} {c : Code} {Γ : Cx} {Λ : List Ly} {z : Dt} (C0 : Ct Γ p s m args c cX9_firstDraft 2 "SeasonBoundModel") (hr : meth.sig.returnType = none) (hlocks : meth.locks = false) (k21 : Int32 → Dt → Option Dt) (p0 : Nat)
    (hk21 : ∀ (v1 : Int32) (d : Dt), (k21 v1 d = some z) → ∀ (H : Heap) (locs : List Loc) (ls : Array Slot), Hs Γ Λ d s H locs → lv_has ls 2 [(0, .ref (Γ.2.2.1 + p0)), (1, .int v1)] → W p l e { frames := 0, cells := 0, slots := 0, locals := 0 } s m args below meth c H locs 0 0 (MQ below (QN Γ Λ z none) args s 0 0 (AP Γ)) (F0 m 21 ls [])) :
    ∀ (n : Nat) (v1 : Int32) (d : Dt), f_X9_firstDraft_L2 Λ p0 k21 n v1 d = some z → ∀ (H : Heap) (locs : List Loc) (ls : Array Slot), Hs Γ Λ d s H locs → lv_has ls 2 [(0, .ref (Γ.2.2.1 + p0)), (1, .int v1)] → W p l e { frames := 0, cells := 0, slots := 0, locals := 0 } s m args below meth c H locs 0 0 (MQ below (QN Γ Λ z none) args s 0 0 (AP Γ)) (F0 m 2 ls []) := by
  obtain ⟨hx, hb, hml, hown, hts, hK⟩ := id C0
  intro n
  induction n with
  | zero =>
    intro v1 d hf
    cases hf
  | succ n ih =>
    intro v1 d hf H locs ls hH hl
    unfold f_X9_firstDraft_L2 at hf
    refine lv_iload_n hx hb dX9_firstDraft_2 rfl (lv_at hl 1 rfl) ?_
    refine lv_bipush (v := (60 : Int32)) hx hb dX9_firstDraft_3 (by decide) ?_
    refine lv_icmp_ge (tgt := 21) hx hb dX9_firstDraft_5 (by decide) (fun c1 => ?_) (fun c1 => ?_)
    · replace hf := it hf c1
      exact hk21 v1 d hf _ _ _ hH (lv_sub hl [0, 1] rfl)
    · replace hf := ie hf c1
      refine lv_aload_n hx hb dX9_firstDraft_8 rfl (lv_at hl 0 rfl) ?_
      obtain ⟨q2, g2, hf⟩ := ob hf
      refine r_getr C0 hH fl_X9_20 g2 dX9_firstDraft_9 ?_
      refine lv_iload_n hx hb dX9_firstDraft_12 rfl (lv_at hl 1 rfl) ?_
      refine lv_iconst (v := (0 : Int32)) hx hb dX9_firstDraft_13 (by decide) ?_
      obtain ⟨g3, hf⟩ := gd hf
      refine r_iast C0 hH g3 dX9_firstDraft_14 (fun H locs hH => ?_)
      refine lv_iinc (v := (v1 + (1 : Int32))) (lv' := [(1, .int (v1 + (1 : Int32))), (0, .ref (Γ.2.2.1 + p0))]) hx hb dX9_firstDraft_15 hl (k := 1) rfl (congrArg (fun w => v1 + w) (by decide)) (by decide) rfl (fun ls hl => ?_)
      refine lv_goto (tgt := 2) hx hb dX9_firstDraft_18 (by decide) ?_
      exact ih (v1 + (1 : Int32)) (pI d q2 (v1).toNatClampNeg (0 : Int32)) hf _ _ _ hH (lv_sub hl [1, 0] rfl)
set_option maxHeartbeats 4000000 in
set_option maxRecDepth 100000 in
theorem w_X9_firstDraft_L23 {p : Program} {l : Launch} {e : Env} {s : State} {m : MethodId} {args : Array Value} {below : List Frame} {meth : Method} {c : Code} {Γ : Cx} {Λ : List Ly} {z : Dt} (C0 : Ct Γ p s m args c cX9_firstDraft 2 "SeasonBoundModel") (hr : meth.sig.returnType = none) (hlocks : meth.locks = false) (p0 : Nat) :
    ∀ (n : Nat) (v1 : Int32) (d : Dt), f_X9_firstDraft_L23 Λ p0 n v1 d = some z → ∀ (H : Heap) (locs : List Loc) (ls : Array Slot), Hs Γ Λ d s H locs → lv_has ls 2 [(0, .ref (Γ.2.2.1 + p0)), (1, .int v1)] → W p l e { frames := 0, cells := 0, slots := 0, locals := 0 } s m args below meth c H locs 0 0 (MQ below (QN Γ Λ z none) args s 0 0 (AP Γ)) (F0 m 23 ls []) := by
  obtain ⟨hx, hb, hml, hown, hts, hK⟩ := id C0
  intro n
  induction n with
  | zero =>
    intro v1 d hf
    cases hf
  | succ n ih =>
    intro v1 d hf H locs ls hH hl
    unfold f_X9_firstDraft_L23 at hf
    refine lv_iload_n hx hb dX9_firstDraft_23 rfl (lv_at hl 1 rfl) ?_
    refine lv_iconst (v := (4 : Int32)) hx hb dX9_firstDraft_24 (by decide) ?_
    refine lv_icmp_ge (tgt := 68) hx hb dX9_firstDraft_25 (by decide) (fun c5 => ?_) (fun c5 => ?_)
    · replace hf := it hf c5
      refine lv_aload_n hx hb dX9_firstDraft_68 rfl (lv_at hl 0 rfl) ?_
      refine lv_iconst (v := (0 : Int32)) hx hb dX9_firstDraft_69 (by decide) ?_
      obtain ⟨g6, hf⟩ := gd hf
      refine r_puti C0 hH fw_X9_50 g6 rfl dX9_firstDraft_70 (fun H locs hH => ?_)
      obtain rfl := Option.some.inj hf
      exact r_vret C0 hr hlocks hH dX9_firstDraft_73
    · replace hf := ie hf c5
      refine lv_aload_n hx hb dX9_firstDraft_28 rfl (lv_at hl 0 rfl) ?_
      obtain ⟨q7, g7, hf⟩ := ob hf
      refine r_getr C0 hH fl_X9_20 g7 dX9_firstDraft_29 ?_
      refine lv_iconst (v := (3 : Int32)) hx hb dX9_firstDraft_32 (by decide) ?_
      refine lv_iload_n hx hb dX9_firstDraft_33 rfl (lv_at hl 1 rfl) ?_
      refine lv_imul hx hb dX9_firstDraft_34 ?_
      refine lv_iconst (v := (0 : Int32)) hx hb dX9_firstDraft_35 (by decide) ?_
      refine lv_iadd hx hb dX9_firstDraft_36 ?_
      refine lv_iconst (v := (3 : Int32)) hx hb dX9_firstDraft_37 (by decide) ?_
      obtain ⟨g8, hf⟩ := gd hf
      refine r_iast C0 hH g8 dX9_firstDraft_38 (fun H locs hH => ?_)
      refine lv_aload_n hx hb dX9_firstDraft_39 rfl (lv_at hl 0 rfl) ?_
      refine r_getr C0 hH fl_X9_20 g7 dX9_firstDraft_40 ?_
      refine lv_iconst (v := (3 : Int32)) hx hb dX9_firstDraft_43 (by decide) ?_
      refine lv_iload_n hx hb dX9_firstDraft_44 rfl (lv_at hl 1 rfl) ?_
      refine lv_imul hx hb dX9_firstDraft_45 ?_
      refine lv_iconst (v := (1 : Int32)) hx hb dX9_firstDraft_46 (by decide) ?_
      refine lv_iadd hx hb dX9_firstDraft_47 ?_
      refine lv_iconst (v := (1 : Int32)) hx hb dX9_firstDraft_48 (by decide) ?_
      obtain ⟨g9, hf⟩ := gd hf
      refine r_iast C0 hH g9 dX9_firstDraft_49 (fun H locs hH => ?_)
      refine lv_aload_n hx hb dX9_firstDraft_50 rfl (lv_at hl 0 rfl) ?_
      refine r_getr C0 hH fl_X9_20 g7 dX9_firstDraft_51 ?_
      refine lv_iconst (v := (3 : Int32)) hx hb dX9_firstDraft_54 (by decide) ?_
      refine lv_iload_n hx hb dX9_firstDraft_55 rfl (lv_at hl 1 rfl) ?_
      refine lv_imul hx hb dX9_firstDraft_56 ?_
      refine lv_iconst (v := (2 : Int32)) hx hb dX9_firstDraft_57 (by decide) ?_
      refine lv_iadd hx hb dX9_firstDraft_58 ?_
      refine lv_bipush (v := (99 : Int32)) hx hb dX9_firstDraft_59 (by decide) ?_
      obtain ⟨g10, hf⟩ := gd hf
      refine r_iast C0 hH g10 dX9_firstDraft_61 (fun H locs hH => ?_)
      refine lv_iinc (v := (v1 + (1 : Int32))) (lv' := [(1, .int (v1 + (1 : Int32))), (0, .ref (Γ.2.2.1 + p0))]) hx hb dX9_firstDraft_62 hl (k := 1) rfl (congrArg (fun w => v1 + w) (by decide)) (by decide) rfl (fun ls hl => ?_)
      refine lv_goto (tgt := 23) hx hb dX9_firstDraft_65 (by decide) ?_
      exact ih (v1 + (1 : Int32)) (pI (pI (pI d q7 ((((3 : Int32) * v1) + (0 : Int32))).toNatClampNeg (3 : Int32)) q7 ((((3 : Int32) * v1) + (1 : Int32))).toNatClampNeg (1 : Int32)) q7 ((((3 : Int32) * v1) + (2 : Int32))).toNatClampNeg (99 : Int32)) hf _ _ _ hH (lv_sub hl [1, 0] rfl)
set_option maxHeartbeats 4000000 in
set_option maxRecDepth 100000 in
theorem c_X9_firstDraft (Γ : Cx) (l : Launch) (Λ : List Ly) (d : Dt) (p0 : Nat) (z : Dt) (hf : f_X9_firstDraft Λ d p0 = some z) : Cn Γ l yX9_firstDraft cX9_firstDraft 2 none 0 0 [.ref (Γ.2.2.1 + p0)] Λ d none z := by
  refine Cn.of (own := "SeasonBoundModel") (by decide +kernel) rfl (Nat.le_of_ble_eq_true rfl) ?_
  intro p e s m below meth c C0 hr hlocks hH ls hl
  have hl : lv_has ls 2 [(0, .ref (Γ.2.2.1 + p0))] := hl
  obtain ⟨hx, hb, hml, hown, hts, hK⟩ := id C0
  unfold f_X9_firstDraft at hf
  refine lv_iconst (v := (0 : Int32)) hx hb dX9_firstDraft_0 (by decide) ?_
  refine lv_istore_n (lv' := [(1, .int (0 : Int32)), (0, .ref (Γ.2.2.1 + p0))]) hx hb dX9_firstDraft_1 rfl hl (by decide) rfl (fun ls hl => ?_)
  refine w_X9_firstDraft_L2 C0 hr hlocks _ p0 ?k21 FU (0 : Int32) d hf _ _ _ hH (lv_sub hl [1, 0] rfl)
  case k21 =>
    intro x4_1 d4 hf H locs ls hH hl
    refine lv_iconst (v := (0 : Int32)) hx hb dX9_firstDraft_21 (by decide) ?_
    refine lv_istore_n (lv' := [(1, .int (0 : Int32)), (0, .ref (Γ.2.2.1 + p0))]) hx hb dX9_firstDraft_22 rfl hl (by decide) rfl (fun ls hl => ?_)
    refine w_X9_firstDraft_L23 C0 hr hlocks p0 FU (0 : Int32) d4 hf _ _ _ hH (lv_sub hl [1, 0] rfl)
theorem dX9_keepDraft_0 : decode cX9_keepDraft 0 = .ok (.aload_n 0, 1) := by decide +kernel
theorem dX9_keepDraft_1 : decode cX9_keepDraft 1 = .ok (.getfield 20, 3) := by decide +kernel
theorem dX9_keepDraft_4 : decode cX9_keepDraft 4 = .ok (.bipush 39, 2) := by decide +kernel
theorem dX9_keepDraft_6 : decode cX9_keepDraft 6 = .ok (.aload_n 0, 1) := by decide +kernel
theorem dX9_keepDraft_7 : decode cX9_keepDraft 7 = .ok (.getfield 20, 3) := by decide +kernel
theorem dX9_keepDraft_10 : decode cX9_keepDraft 10 = .ok (.iconst 0, 1) := by decide +kernel
theorem dX9_keepDraft_11 : decode cX9_keepDraft 11 = .ok (.iaload, 1) := by decide +kernel
theorem dX9_keepDraft_12 : decode cX9_keepDraft 12 = .ok (.iastore, 1) := by decide +kernel
theorem dX9_keepDraft_13 : decode cX9_keepDraft 13 = .ok (.iconst 0, 1) := by decide +kernel
theorem dX9_keepDraft_14 : decode cX9_keepDraft 14 = .ok (.istore_n 1, 1) := by decide +kernel
theorem dX9_keepDraft_15 : decode cX9_keepDraft 15 = .ok (.iload_n 1, 1) := by decide +kernel
theorem dX9_keepDraft_16 : decode cX9_keepDraft 16 = .ok (.bipush 60, 2) := by decide +kernel
theorem dX9_keepDraft_18 : decode cX9_keepDraft 18 = .ok (.if_icmp .ge 21, 3) := by decide +kernel
theorem dX9_keepDraft_21 : decode cX9_keepDraft 21 = .ok (.aload_n 0, 1) := by decide +kernel
theorem dX9_keepDraft_22 : decode cX9_keepDraft 22 = .ok (.getfield 7, 3) := by decide +kernel
theorem dX9_keepDraft_25 : decode cX9_keepDraft 25 = .ok (.iload_n 1, 1) := by decide +kernel
theorem dX9_keepDraft_26 : decode cX9_keepDraft 26 = .ok (.aload_n 0, 1) := by decide +kernel
theorem dX9_keepDraft_27 : decode cX9_keepDraft 27 = .ok (.getfield 20, 3) := by decide +kernel
theorem dX9_keepDraft_30 : decode cX9_keepDraft 30 = .ok (.iload_n 1, 1) := by decide +kernel
theorem dX9_keepDraft_31 : decode cX9_keepDraft 31 = .ok (.iaload, 1) := by decide +kernel
theorem dX9_keepDraft_32 : decode cX9_keepDraft 32 = .ok (.iastore, 1) := by decide +kernel
theorem dX9_keepDraft_33 : decode cX9_keepDraft 33 = .ok (.iinc 1 1, 3) := by decide +kernel
theorem dX9_keepDraft_36 : decode cX9_keepDraft 36 = .ok (.goto (-21), 3) := by decide +kernel
theorem dX9_keepDraft_39 : decode cX9_keepDraft 39 = .ok (.aload_n 0, 1) := by decide +kernel
theorem dX9_keepDraft_40 : decode cX9_keepDraft 40 = .ok (.getfield 16, 3) := by decide +kernel
theorem dX9_keepDraft_43 : decode cX9_keepDraft 43 = .ok (.iconst 0, 1) := by decide +kernel
theorem dX9_keepDraft_44 : decode cX9_keepDraft 44 = .ok (.iconst 0, 1) := by decide +kernel
theorem dX9_keepDraft_45 : decode cX9_keepDraft 45 = .ok (.bastore, 1) := by decide +kernel
theorem dX9_keepDraft_46 : decode cX9_keepDraft 46 = .ok (.aload_n 0, 1) := by decide +kernel
theorem dX9_keepDraft_47 : decode cX9_keepDraft 47 = .ok (.getfield 16, 3) := by decide +kernel
theorem dX9_keepDraft_50 : decode cX9_keepDraft 50 = .ok (.iconst 1, 1) := by decide +kernel
theorem dX9_keepDraft_51 : decode cX9_keepDraft 51 = .ok (.iconst 0, 1) := by decide +kernel
theorem dX9_keepDraft_52 : decode cX9_keepDraft 52 = .ok (.bastore, 1) := by decide +kernel
theorem dX9_keepDraft_53 : decode cX9_keepDraft 53 = .ok (.return_, 1) := by decide +kernel
def f_X9_keepDraft_L15 (Λ : List Ly) (p0 : Nat) : Nat → Int32 → Dt → Option Dt
  | 0, _, _ => none
  | n + 1, v1, d => if (60 : Int32) ≤ v1 then (Option.bind (rf Λ p0 9 2) fun q5 => if okA Λ q5 3 (0 : Int32) = true then (if okA Λ q5 3 (1 : Int32) = true then (some (pI (pI d q5 ((0 : Int32)).toNatClampNeg (vp_nar .boolean (0 : Int32))) q5 ((1 : Int32)).toNatClampNeg (vp_nar .boolean (0 : Int32)))) else none) else none) else (Option.bind (rf Λ p0 9 0) fun q8 => Option.bind (rf Λ p0 9 3) fun q9 => if okA Λ q9 1 v1 = true then (if okA Λ q8 1 v1 = true then (f_X9_keepDraft_L15 Λ p0 n (v1 + (1 : Int32)) (pI d q8 (v1).toNatClampNeg (d.1 q9 (v1).toNatClampNeg))) else none) else none)
def f_X9_keepDraft (Λ : List Ly) (d : Dt) (p0 : Nat) : Option Dt := Option.bind (rf Λ p0 9 3) fun q1 => if okA Λ q1 1 (0 : Int32) = true then (if okA Λ q1 1 (39 : Int32) = true then (f_X9_keepDraft_L15 Λ p0 FU (0 : Int32) (pI d q1 ((39 : Int32)).toNatClampNeg (d.1 q1 ((0 : Int32)).toNatClampNeg))) else none) else none
set_option maxHeartbeats 4000000 in
set_option maxRecDepth 100000 in
theorem w_X9_keepDraft_L15 {p : Program} {l : Launch} {e : Env} {s : State} {m : MethodId} {args : Array Value} {below : List Frame} {meth : Method} {c : Code} {Γ : Cx} {Λ : List Ly} {z : Dt} (C0 : Ct Γ p s m args c cX9_keepDraft 2 "SeasonBoundModel") (hr : meth.sig.returnType = none) (hlocks : meth.locks = false) (p0 : Nat) :
    ∀ (n : Nat) (v1 : Int32) (d : Dt), f_X9_keepDraft_L15 Λ p0 n v1 d = some z → ∀ (H : Heap) (locs : List Loc) (ls : Array Slot), Hs Γ Λ d s H locs → lv_has ls 2 [(0, .ref (Γ.2.2.1 + p0)), (1, .int v1)] → W p l e { frames := 0, cells := 0, slots := 0, locals := 0 } s m args below meth c H locs 0 0 (MQ below (QN Γ Λ z none) args s 0 0 (AP Γ)) (F0 m 15 ls []) := by
  obtain ⟨hx, hb, hml, hown, hts, hK⟩ := id C0
  intro n
  induction n with
  | zero =>
    intro v1 d hf
    cases hf
  | succ n ih =>
    intro v1 d hf H locs ls hH hl
    unfold f_X9_keepDraft_L15 at hf
    refine lv_iload_n hx hb dX9_keepDraft_15 rfl (lv_at hl 1 rfl) ?_
    refine lv_bipush (v := (60 : Int32)) hx hb dX9_keepDraft_16 (by decide) ?_
    refine lv_icmp_ge (tgt := 39) hx hb dX9_keepDraft_18 (by decide) (fun c4 => ?_) (fun c4 => ?_)
    · replace hf := it hf c4
      refine lv_aload_n hx hb dX9_keepDraft_39 rfl (lv_at hl 0 rfl) ?_
      obtain ⟨q5, g5, hf⟩ := ob hf
      refine r_getr C0 hH fl_X9_16 g5 dX9_keepDraft_40 ?_
      refine lv_iconst (v := (0 : Int32)) hx hb dX9_keepDraft_43 (by decide) ?_
      refine lv_iconst (v := (0 : Int32)) hx hb dX9_keepDraft_44 (by decide) ?_
      obtain ⟨g6, hf⟩ := gd hf
      refine r_zast C0 hH g6 dX9_keepDraft_45 (fun H locs hH => ?_)
      refine lv_aload_n hx hb dX9_keepDraft_46 rfl (lv_at hl 0 rfl) ?_
      refine r_getr C0 hH fl_X9_16 g5 dX9_keepDraft_47 ?_
      refine lv_iconst (v := (1 : Int32)) hx hb dX9_keepDraft_50 (by decide) ?_
      refine lv_iconst (v := (0 : Int32)) hx hb dX9_keepDraft_51 (by decide) ?_
      obtain ⟨g7, hf⟩ := gd hf
      refine r_zast C0 hH g7 dX9_keepDraft_52 (fun H locs hH => ?_)
      obtain rfl := Option.some.inj hf
      exact r_vret C0 hr hlocks hH dX9_keepDraft_53
    · replace hf := ie hf c4
      refine lv_aload_n hx hb dX9_keepDraft_21 rfl (lv_at hl 0 rfl) ?_
      obtain ⟨q8, g8, hf⟩ := ob hf
      refine r_getr C0 hH fl_X9_7 g8 dX9_keepDraft_22 ?_
      refine lv_iload_n hx hb dX9_keepDraft_25 rfl (lv_at hl 1 rfl) ?_
      refine lv_aload_n hx hb dX9_keepDraft_26 rfl (lv_at hl 0 rfl) ?_
      obtain ⟨q9, g9, hf⟩ := ob hf
      refine r_getr C0 hH fl_X9_20 g9 dX9_keepDraft_27 ?_
      refine lv_iload_n hx hb dX9_keepDraft_30 rfl (lv_at hl 1 rfl) ?_
      obtain ⟨g10, hf⟩ := gd hf
      refine r_iald C0 hH g10 dX9_keepDraft_31 ?_
      obtain ⟨g11, hf⟩ := gd hf
      refine r_iast C0 hH g11 dX9_keepDraft_32 (fun H locs hH => ?_)
      refine lv_iinc (v := (v1 + (1 : Int32))) (lv' := [(1, .int (v1 + (1 : Int32))), (0, .ref (Γ.2.2.1 + p0))]) hx hb dX9_keepDraft_33 hl (k := 1) rfl (congrArg (fun w => v1 + w) (by decide)) (by decide) rfl (fun ls hl => ?_)
      refine lv_goto (tgt := 15) hx hb dX9_keepDraft_36 (by decide) ?_
      exact ih (v1 + (1 : Int32)) (pI d q8 (v1).toNatClampNeg (d.1 q9 (v1).toNatClampNeg)) hf _ _ _ hH (lv_sub hl [1, 0] rfl)
set_option maxHeartbeats 4000000 in
set_option maxRecDepth 100000 in
theorem c_X9_keepDraft (Γ : Cx) (l : Launch) (Λ : List Ly) (d : Dt) (p0 : Nat) (z : Dt) (hf : f_X9_keepDraft Λ d p0 = some z) : Cn Γ l yX9_keepDraft cX9_keepDraft 2 none 0 0 [.ref (Γ.2.2.1 + p0)] Λ d none z := by
  refine Cn.of (own := "SeasonBoundModel") (by decide +kernel) rfl (Nat.le_of_ble_eq_true rfl) ?_
  intro p e s m below meth c C0 hr hlocks hH ls hl
  have hl : lv_has ls 2 [(0, .ref (Γ.2.2.1 + p0))] := hl
  obtain ⟨hx, hb, hml, hown, hts, hK⟩ := id C0
  unfold f_X9_keepDraft at hf
  refine lv_aload_n hx hb dX9_keepDraft_0 rfl (lv_at hl 0 rfl) ?_
  obtain ⟨q1, g1, hf⟩ := ob hf
  refine r_getr C0 hH fl_X9_20 g1 dX9_keepDraft_1 ?_
  refine lv_bipush (v := (39 : Int32)) hx hb dX9_keepDraft_4 (by decide) ?_
  refine lv_aload_n hx hb dX9_keepDraft_6 rfl (lv_at hl 0 rfl) ?_
  refine r_getr C0 hH fl_X9_20 g1 dX9_keepDraft_7 ?_
  refine lv_iconst (v := (0 : Int32)) hx hb dX9_keepDraft_10 (by decide) ?_
  obtain ⟨g2, hf⟩ := gd hf
  refine r_iald C0 hH g2 dX9_keepDraft_11 ?_
  obtain ⟨g3, hf⟩ := gd hf
  refine r_iast C0 hH g3 dX9_keepDraft_12 (fun H locs hH => ?_)
  refine lv_iconst (v := (0 : Int32)) hx hb dX9_keepDraft_13 (by decide) ?_
  refine lv_istore_n (lv' := [(1, .int (0 : Int32)), (0, .ref (Γ.2.2.1 + p0))]) hx hb dX9_keepDraft_14 rfl hl (by decide) rfl (fun ls hl => ?_)
  refine w_X9_keepDraft_L15 C0 hr hlocks p0 FU (0 : Int32) (pI d q1 ((39 : Int32)).toNatClampNeg (d.1 q1 ((0 : Int32)).toNatClampNeg)) hf _ _ _ hH (lv_sub hl [1, 0] rfl)
theorem dX9_feed_0 : decode cX9_feed 0 = .ok (.iload_n 1, 1) := by decide +kernel
theorem dX9_feed_1 : decode cX9_feed 1 = .ok (.i2l, 1) := by decide +kernel
theorem dX9_feed_2 : decode cX9_feed 2 = .ok (.lconst 0, 1) := by decide +kernel
theorem dX9_feed_3 : decode cX9_feed 3 = .ok (.ldc2_w 54, 3) := by decide +kernel
theorem dX9_feed_6 : decode cX9_feed 6 = .ok (.invokestatic 56, 3) := by decide +kernel
theorem dX9_feed_9 : decode cX9_feed 9 = .ok (.ifCond .ne 5, 3) := by decide +kernel
theorem dX9_feed_12 : decode cX9_feed 12 = .ok (.iconst (-1), 1) := by decide +kernel
theorem dX9_feed_13 : decode cX9_feed 13 = .ok (.ireturn, 1) := by decide +kernel
theorem dX9_feed_14 : decode cX9_feed 14 = .ok (.aload_n 0, 1) := by decide +kernel
theorem dX9_feed_15 : decode cX9_feed 15 = .ok (.getfield 60, 3) := by decide +kernel
theorem dX9_feed_18 : decode cX9_feed 18 = .ok (.sipush 160, 3) := by decide +kernel
theorem dX9_feed_21 : decode cX9_feed 21 = .ok (.if_icmp .ne 6, 3) := by decide +kernel
theorem dX9_feed_24 : decode cX9_feed 24 = .ok (.bipush (-3), 2) := by decide +kernel
theorem dX9_feed_26 : decode cX9_feed 26 = .ok (.ireturn, 1) := by decide +kernel
theorem dX9_feed_27 : decode cX9_feed 27 = .ok (.aload_n 0, 1) := by decide +kernel
theorem dX9_feed_28 : decode cX9_feed 28 = .ok (.getfield 23, 3) := by decide +kernel
theorem dX9_feed_31 : decode cX9_feed 31 = .ok (.aload_n 0, 1) := by decide +kernel
theorem dX9_feed_32 : decode cX9_feed 32 = .ok (.getfield 60, 3) := by decide +kernel
theorem dX9_feed_35 : decode cX9_feed 35 = .ok (.iload_n 1, 1) := by decide +kernel
theorem dX9_feed_36 : decode cX9_feed 36 = .ok (.iastore, 1) := by decide +kernel
theorem dX9_feed_37 : decode cX9_feed 37 = .ok (.aload_n 0, 1) := by decide +kernel
theorem dX9_feed_38 : decode cX9_feed 38 = .ok (.dup, 1) := by decide +kernel
theorem dX9_feed_39 : decode cX9_feed 39 = .ok (.getfield 60, 3) := by decide +kernel
theorem dX9_feed_42 : decode cX9_feed 42 = .ok (.iconst 1, 1) := by decide +kernel
theorem dX9_feed_43 : decode cX9_feed 43 = .ok (.iadd, 1) := by decide +kernel
theorem dX9_feed_44 : decode cX9_feed 44 = .ok (.putfield 60, 3) := by decide +kernel
theorem dX9_feed_47 : decode cX9_feed 47 = .ok (.aload_n 0, 1) := by decide +kernel
theorem dX9_feed_48 : decode cX9_feed 48 = .ok (.getfield 60, 3) := by decide +kernel
theorem dX9_feed_51 : decode cX9_feed 51 = .ok (.ireturn, 1) := by decide +kernel
def f_X9_feed (Λ : List Ly) (d : Dt) (p0 : Nat) (v1 : Int32) : Option (Int32 × Dt) := if (f_X9_in (v1).toInt64 (0 : Int64) (127 : Int64)) = 0 then (some ((-1 : Int32), d)) else (if clsAt Λ p0 = some 9 then (if (d.1 p0 6) = (160 : Int32) then (some ((-3 : Int32), d)) else (Option.bind (rf Λ p0 9 5) fun q4 => if okA Λ q4 1 (d.1 p0 6) = true then (some (((pI (pI d q4 ((d.1 p0 6)).toNatClampNeg v1) p0 6 (((pI d q4 ((d.1 p0 6)).toNatClampNeg v1).1 p0 6) + (1 : Int32))).1 p0 6), (pI (pI d q4 ((d.1 p0 6)).toNatClampNeg v1) p0 6 (((pI d q4 ((d.1 p0 6)).toNatClampNeg v1).1 p0 6) + (1 : Int32))))) else none)) else none)
set_option maxHeartbeats 4000000 in
set_option maxRecDepth 100000 in
theorem c_X9_feed (Γ : Cx) (l : Launch) (Λ : List Ly) (d : Dt) (p0 : Nat) (v1 : Int32) (z : Int32 × Dt) (hf : f_X9_feed Λ d p0 v1 = some z) : Cn Γ l yX9_feed cX9_feed 2 (some FieldType.int) 1 25 [.ref (Γ.2.2.1 + p0), .int v1] Λ d (some (.int z.1)) z.2 := by
  refine Cn.of (own := "SeasonBoundModel") (by decide +kernel) rfl (Nat.le_of_ble_eq_true rfl) ?_
  intro p e s m below meth c C0 hr hlocks hH ls hl
  have hl : lv_has ls 2 [(0, .ref (Γ.2.2.1 + p0)), (1, .int v1)] := hl
  obtain ⟨hx, hb, hml, hown, hts, hK⟩ := id C0
  unfold f_X9_feed at hf
  refine lv_iload_n hx hb dX9_feed_0 rfl (lv_at hl 1 rfl) ?_
  refine lv_i2l (v := (v1).toInt64) hx hb dX9_feed_1 rfl ?_
  refine lv_lconst (v := (0 : Int64)) hx hb dX9_feed_2 (by decide) ?_
  refine lv_ldc2 hx hb hown (hts _ kl_X9_54) dX9_feed_3 ?_
  refine r_callSi (rest := []) C0 hH (c_X9_in Γ l Λ d (v1).toInt64 (0 : Int64) (127 : Int64)) cs_X9_56 (by decide) rfl hl.1 rfl (Nat.le_of_ble_eq_true rfl) dX9_feed_6 (by decide) (fun H locs hH => ?_)
  refine lv_if_ne (tgt := 14) hx hb dX9_feed_9 (by decide) (fun c1 => ?_) (fun c1 => ?_)
  · replace hf := ie hf c1
    refine lv_aload_n hx hb dX9_feed_14 rfl (lv_at hl 0 rfl) ?_
    obtain ⟨g2, hf⟩ := gd hf
    refine r_geti C0 hH fl_X9_60 g2 rfl dX9_feed_15 ?_
    refine lv_sipush (v := (160 : Int32)) hx hb dX9_feed_18 (by decide) ?_
    refine lv_icmp_ne (tgt := 27) hx hb dX9_feed_21 (by decide) (fun c3 => ?_) (fun c3 => ?_)
    · replace hf := ie hf c3
      refine lv_aload_n hx hb dX9_feed_27 rfl (lv_at hl 0 rfl) ?_
      obtain ⟨q4, g4, hf⟩ := ob hf
      refine r_getr C0 hH fl_X9_23 g4 dX9_feed_28 ?_
      refine lv_aload_n hx hb dX9_feed_31 rfl (lv_at hl 0 rfl) ?_
      refine r_geti C0 hH fl_X9_60 g2 rfl dX9_feed_32 ?_
      refine lv_iload_n hx hb dX9_feed_35 rfl (lv_at hl 1 rfl) ?_
      obtain ⟨g5, hf⟩ := gd hf
      refine r_iast C0 hH g5 dX9_feed_36 (fun H locs hH => ?_)
      refine lv_aload_n hx hb dX9_feed_37 rfl (lv_at hl 0 rfl) ?_
      refine lv_dup hx hb dX9_feed_38 rfl ?_
      refine r_geti C0 hH fl_X9_60 g2 rfl dX9_feed_39 ?_
      refine lv_iconst (v := (1 : Int32)) hx hb dX9_feed_42 (by decide) ?_
      refine lv_iadd hx hb dX9_feed_43 ?_
      refine r_puti C0 hH fw_X9_60 g2 rfl dX9_feed_44 (fun H locs hH => ?_)
      refine lv_aload_n hx hb dX9_feed_47 rfl (lv_at hl 0 rfl) ?_
      refine r_geti C0 hH fl_X9_60 g2 rfl dX9_feed_48 ?_
      obtain rfl := Option.some.inj hf
      exact r_iret (d' := d) C0 hr hlocks hH rfl dX9_feed_51
    · replace hf := it hf c3
      refine lv_bipush (v := (-3 : Int32)) hx hb dX9_feed_24 (by decide) ?_
      obtain rfl := Option.some.inj hf
      exact r_iret (d' := d) C0 hr hlocks hH rfl dX9_feed_26
  · replace hf := it hf c1
    refine lv_iconst (v := (-1 : Int32)) hx hb dX9_feed_12 (by decide) ?_
    obtain rfl := Option.some.inj hf
    exact r_iret (d' := d) C0 hr hlocks hH rfl dX9_feed_13
theorem dX9_end_0 : decode cX9_end 0 = .ok (.iload_n 1, 1) := by decide +kernel
theorem dX9_end_1 : decode cX9_end 1 = .ok (.i2l, 1) := by decide +kernel
theorem dX9_end_2 : decode cX9_end 2 = .ok (.lconst 0, 1) := by decide +kernel
theorem dX9_end_3 : decode cX9_end 3 = .ok (.aload_n 0, 1) := by decide +kernel
theorem dX9_end_4 : decode cX9_end 4 = .ok (.getfield 60, 3) := by decide +kernel
theorem dX9_end_7 : decode cX9_end 7 = .ok (.i2l, 1) := by decide +kernel
theorem dX9_end_8 : decode cX9_end 8 = .ok (.invokestatic 56, 3) := by decide +kernel
theorem dX9_end_11 : decode cX9_end 11 = .ok (.ifCond .ne 5, 3) := by decide +kernel
theorem dX9_end_14 : decode cX9_end 14 = .ok (.iconst (-1), 1) := by decide +kernel
theorem dX9_end_15 : decode cX9_end 15 = .ok (.ireturn, 1) := by decide +kernel
theorem dX9_end_16 : decode cX9_end 16 = .ok (.aload_n 0, 1) := by decide +kernel
theorem dX9_end_17 : decode cX9_end 17 = .ok (.getfield 60, 3) := by decide +kernel
theorem dX9_end_20 : decode cX9_end 20 = .ok (.istore_n 2, 1) := by decide +kernel
theorem dX9_end_21 : decode cX9_end 21 = .ok (.aload_n 0, 1) := by decide +kernel
theorem dX9_end_22 : decode cX9_end 22 = .ok (.iload_n 1, 1) := by decide +kernel
theorem dX9_end_23 : decode cX9_end 23 = .ok (.putfield 60, 3) := by decide +kernel
theorem dX9_end_26 : decode cX9_end 26 = .ok (.iload_n 2, 1) := by decide +kernel
theorem dX9_end_27 : decode cX9_end 27 = .ok (.ireturn, 1) := by decide +kernel
def f_X9_end (Λ : List Ly) (d : Dt) (p0 : Nat) (v1 : Int32) : Option (Int32 × Dt) := if clsAt Λ p0 = some 9 then (if (f_X9_in (v1).toInt64 (0 : Int64) ((d.1 p0 6)).toInt64) = 0 then (some ((-1 : Int32), d)) else (some ((d.1 p0 6), (pI d p0 6 v1)))) else none
set_option maxHeartbeats 4000000 in
set_option maxRecDepth 100000 in
theorem c_X9_end (Γ : Cx) (l : Launch) (Λ : List Ly) (d : Dt) (p0 : Nat) (v1 : Int32) (z : Int32 × Dt) (hf : f_X9_end Λ d p0 v1 = some z) : Cn Γ l yX9_end cX9_end 3 (some FieldType.int) 1 25 [.ref (Γ.2.2.1 + p0), .int v1] Λ d (some (.int z.1)) z.2 := by
  refine Cn.of (own := "SeasonBoundModel") (by decide +kernel) rfl (Nat.le_of_ble_eq_true rfl) ?_
  intro p e s m below meth c C0 hr hlocks hH ls hl
  have hl : lv_has ls 3 [(0, .ref (Γ.2.2.1 + p0)), (1, .int v1)] := hl
  obtain ⟨hx, hb, hml, hown, hts, hK⟩ := id C0
  unfold f_X9_end at hf
  refine lv_iload_n hx hb dX9_end_0 rfl (lv_at hl 1 rfl) ?_
  refine lv_i2l (v := (v1).toInt64) hx hb dX9_end_1 rfl ?_
  refine lv_lconst (v := (0 : Int64)) hx hb dX9_end_2 (by decide) ?_
  refine lv_aload_n hx hb dX9_end_3 rfl (lv_at hl 0 rfl) ?_
  obtain ⟨g1, hf⟩ := gd hf
  refine r_geti C0 hH fl_X9_60 g1 rfl dX9_end_4 ?_
  refine lv_i2l (v := ((d.1 p0 6)).toInt64) hx hb dX9_end_7 rfl ?_
  refine r_callSi (rest := []) C0 hH (c_X9_in Γ l Λ d (v1).toInt64 (0 : Int64) ((d.1 p0 6)).toInt64) cs_X9_56 (by decide) rfl hl.1 rfl (Nat.le_of_ble_eq_true rfl) dX9_end_8 (by decide) (fun H locs hH => ?_)
  refine lv_if_ne (tgt := 16) hx hb dX9_end_11 (by decide) (fun c2 => ?_) (fun c2 => ?_)
  · replace hf := ie hf c2
    refine lv_aload_n hx hb dX9_end_16 rfl (lv_at hl 0 rfl) ?_
    refine r_geti C0 hH fl_X9_60 g1 rfl dX9_end_17 ?_
    refine lv_istore_n (lv' := [(2, .int (d.1 p0 6)), (0, .ref (Γ.2.2.1 + p0)), (1, .int v1)]) hx hb dX9_end_20 rfl hl (by decide) rfl (fun ls hl => ?_)
    refine lv_aload_n hx hb dX9_end_21 rfl (lv_at hl 1 rfl) ?_
    refine lv_iload_n hx hb dX9_end_22 rfl (lv_at hl 2 rfl) ?_
    refine r_puti C0 hH fw_X9_60 g1 rfl dX9_end_23 (fun H locs hH => ?_)
    refine lv_iload_n hx hb dX9_end_26 rfl (lv_at hl 0 rfl) ?_
    obtain rfl := Option.some.inj hf
    exact r_iret (d' := d) C0 hr hlocks hH rfl dX9_end_27
  · replace hf := it hf c2
    refine lv_iconst (v := (-1 : Int32)) hx hb dX9_end_14 (by decide) ?_
    obtain rfl := Option.some.inj hf
    exact r_iret (d' := d) C0 hr hlocks hH rfl dX9_end_15
theorem dX9_needs_0 : decode cX9_needs 0 = .ok (.iload_n 1, 1) := by decide +kernel
theorem dX9_needs_1 : decode cX9_needs 1 = .ok (.ifCond .ne 23, 3) := by decide +kernel
theorem dX9_needs_4 : decode cX9_needs 4 = .ok (.aload_n 0, 1) := by decide +kernel
theorem dX9_needs_5 : decode cX9_needs 5 = .ok (.getfield 63, 3) := by decide +kernel
theorem dX9_needs_8 : decode cX9_needs 8 = .ok (.ifCond .ne 16, 3) := by decide +kernel
theorem dX9_needs_11 : decode cX9_needs 11 = .ok (.aload_n 0, 1) := by decide +kernel
theorem dX9_needs_12 : decode cX9_needs 12 = .ok (.iload_n 2, 1) := by decide +kernel
theorem dX9_needs_13 : decode cX9_needs 13 = .ok (.putfield 63, 3) := by decide +kernel
theorem dX9_needs_16 : decode cX9_needs 16 = .ok (.aload_n 0, 1) := by decide +kernel
theorem dX9_needs_17 : decode cX9_needs 17 = .ok (.aload_n 0, 1) := by decide +kernel
theorem dX9_needs_18 : decode cX9_needs 18 = .ok (.getfield 66, 3) := by decide +kernel
theorem dX9_needs_21 : decode cX9_needs 21 = .ok (.putfield 69, 3) := by decide +kernel
theorem dX9_needs_24 : decode cX9_needs 24 = .ok (.return_, 1) := by decide +kernel
def f_X9_needs (Λ : List Ly) (d : Dt) (p0 : Nat) (v1 : Int32) (v2 : Int32) : Option Dt := if v1 = 0 then (if clsAt Λ p0 = some 9 then (if (d.1 p0 11) = 0 then (some (pI (pI d p0 11 v2) p0 12 ((pI d p0 11 v2).1 p0 8))) else (some d)) else none) else (some d)
set_option maxHeartbeats 4000000 in
set_option maxRecDepth 100000 in
theorem c_X9_needs (Γ : Cx) (l : Launch) (Λ : List Ly) (d : Dt) (p0 : Nat) (v1 : Int32) (v2 : Int32) (z : Dt) (hf : f_X9_needs Λ d p0 v1 v2 = some z) : Cn Γ l yX9_needs cX9_needs 3 none 0 0 [.ref (Γ.2.2.1 + p0), .int v1, .int v2] Λ d none z := by
  refine Cn.of (own := "SeasonBoundModel") (by decide +kernel) rfl (Nat.le_of_ble_eq_true rfl) ?_
  intro p e s m below meth c C0 hr hlocks hH ls hl
  have hl : lv_has ls 3 [(0, .ref (Γ.2.2.1 + p0)), (1, .int v1), (2, .int v2)] := hl
  obtain ⟨hx, hb, hml, hown, hts, hK⟩ := id C0
  unfold f_X9_needs at hf
  refine lv_iload_n hx hb dX9_needs_0 rfl (lv_at hl 1 rfl) ?_
  refine lv_if_ne (tgt := 24) hx hb dX9_needs_1 (by decide) (fun c1 => ?_) (fun c1 => ?_)
  · replace hf := ie hf c1
    obtain rfl := Option.some.inj hf
    exact r_vret C0 hr hlocks hH dX9_needs_24
  · replace hf := it hf c1
    refine lv_aload_n hx hb dX9_needs_4 rfl (lv_at hl 0 rfl) ?_
    obtain ⟨g2, hf⟩ := gd hf
    refine r_geti C0 hH fl_X9_63 g2 rfl dX9_needs_5 ?_
    refine lv_if_ne (tgt := 24) hx hb dX9_needs_8 (by decide) (fun c3 => ?_) (fun c3 => ?_)
    · replace hf := ie hf c3
      obtain rfl := Option.some.inj hf
      exact r_vret C0 hr hlocks hH dX9_needs_24
    · replace hf := it hf c3
      refine lv_aload_n hx hb dX9_needs_11 rfl (lv_at hl 0 rfl) ?_
      refine lv_iload_n hx hb dX9_needs_12 rfl (lv_at hl 2 rfl) ?_
      refine r_puti C0 hH fw_X9_63 g2 rfl dX9_needs_13 (fun H locs hH => ?_)
      refine lv_aload_n hx hb dX9_needs_16 rfl (lv_at hl 0 rfl) ?_
      refine lv_aload_n hx hb dX9_needs_17 rfl (lv_at hl 0 rfl) ?_
      refine r_geti C0 hH fl_X9_66 g2 rfl dX9_needs_18 ?_
      refine r_puti C0 hH fw_X9_69 g2 rfl dX9_needs_21 (fun H locs hH => ?_)
      obtain rfl := Option.some.inj hf
      exact r_vret C0 hr hlocks hH dX9_needs_24
theorem dX9_byteAt_0 : decode cX9_byteAt 0 = .ok (.iload_n 1, 1) := by decide +kernel
theorem dX9_byteAt_1 : decode cX9_byteAt 1 = .ok (.aload_n 0, 1) := by decide +kernel
theorem dX9_byteAt_2 : decode cX9_byteAt 2 = .ok (.getfield 60, 3) := by decide +kernel
theorem dX9_byteAt_5 : decode cX9_byteAt 5 = .ok (.if_icmp .ge 12, 3) := by decide +kernel
theorem dX9_byteAt_8 : decode cX9_byteAt 8 = .ok (.aload_n 0, 1) := by decide +kernel
theorem dX9_byteAt_9 : decode cX9_byteAt 9 = .ok (.getfield 23, 3) := by decide +kernel
theorem dX9_byteAt_12 : decode cX9_byteAt 12 = .ok (.iload_n 1, 1) := by decide +kernel
theorem dX9_byteAt_13 : decode cX9_byteAt 13 = .ok (.iaload, 1) := by decide +kernel
theorem dX9_byteAt_14 : decode cX9_byteAt 14 = .ok (.goto 4, 3) := by decide +kernel
theorem dX9_byteAt_17 : decode cX9_byteAt 17 = .ok (.iconst (-1), 1) := by decide +kernel
theorem dX9_byteAt_18 : decode cX9_byteAt 18 = .ok (.ireturn, 1) := by decide +kernel
def f_X9_byteAt (Λ : List Ly) (d : Dt) (p0 : Nat) (v1 : Int32) : Option Int32 := if clsAt Λ p0 = some 9 then (if (d.1 p0 6) ≤ v1 then (some (-1 : Int32)) else (Option.bind (rf Λ p0 9 5) fun q3 => if okA Λ q3 1 v1 = true then (some (d.1 q3 (v1).toNatClampNeg)) else none)) else none
set_option maxHeartbeats 4000000 in
set_option maxRecDepth 100000 in
theorem c_X9_byteAt (Γ : Cx) (l : Launch) (Λ : List Ly) (d : Dt) (p0 : Nat) (v1 : Int32) (z : Int32) (hf : f_X9_byteAt Λ d p0 v1 = some z) : Cn Γ l yX9_byteAt cX9_byteAt 2 (some FieldType.int) 0 0 [.ref (Γ.2.2.1 + p0), .int v1] Λ d (some (.int z)) d := by
  refine Cn.of (own := "SeasonBoundModel") (by decide +kernel) rfl (Nat.le_of_ble_eq_true rfl) ?_
  intro p e s m below meth c C0 hr hlocks hH ls hl
  have hl : lv_has ls 2 [(0, .ref (Γ.2.2.1 + p0)), (1, .int v1)] := hl
  obtain ⟨hx, hb, hml, hown, hts, hK⟩ := id C0
  unfold f_X9_byteAt at hf
  refine lv_iload_n hx hb dX9_byteAt_0 rfl (lv_at hl 1 rfl) ?_
  refine lv_aload_n hx hb dX9_byteAt_1 rfl (lv_at hl 0 rfl) ?_
  obtain ⟨g1, hf⟩ := gd hf
  refine r_geti C0 hH fl_X9_60 g1 rfl dX9_byteAt_2 ?_
  refine lv_icmp_ge (tgt := 17) hx hb dX9_byteAt_5 (by decide) (fun c2 => ?_) (fun c2 => ?_)
  · replace hf := it hf c2
    refine lv_iconst (v := (-1 : Int32)) hx hb dX9_byteAt_17 (by decide) ?_
    obtain rfl := Option.some.inj hf
    exact r_iret (d' := d) C0 hr hlocks hH rfl dX9_byteAt_18
  · replace hf := ie hf c2
    refine lv_aload_n hx hb dX9_byteAt_8 rfl (lv_at hl 0 rfl) ?_
    obtain ⟨q3, g3, hf⟩ := ob hf
    refine r_getr C0 hH fl_X9_23 g3 dX9_byteAt_9 ?_
    refine lv_iload_n hx hb dX9_byteAt_12 rfl (lv_at hl 1 rfl) ?_
    obtain ⟨g4, hf⟩ := gd hf
    refine r_iald C0 hH g4 dX9_byteAt_13 ?_
    refine lv_goto (tgt := 18) hx hb dX9_byteAt_14 (by decide) ?_
    obtain rfl := Option.some.inj hf
    exact r_iret (d' := d) C0 hr hlocks hH rfl dX9_byteAt_18
theorem dX9_is_0 : decode cX9_is 0 = .ok (.aload_n 0, 1) := by decide +kernel
theorem dX9_is_1 : decode cX9_is 1 = .ok (.getfield 72, 3) := by decide +kernel
theorem dX9_is_4 : decode cX9_is 4 = .ok (.aload_n 0, 1) := by decide +kernel
theorem dX9_is_5 : decode cX9_is 5 = .ok (.getfield 66, 3) := by decide +kernel
theorem dX9_is_8 : decode cX9_is 8 = .ok (.isub, 1) := by decide +kernel
theorem dX9_is_9 : decode cX9_is 9 = .ok (.iload_n 1, 1) := by decide +kernel
theorem dX9_is_10 : decode cX9_is 10 = .ok (.if_icmp .ne 63, 3) := by decide +kernel
theorem dX9_is_13 : decode cX9_is 13 = .ok (.aload_n 0, 1) := by decide +kernel
theorem dX9_is_14 : decode cX9_is 14 = .ok (.aload_n 0, 1) := by decide +kernel
theorem dX9_is_15 : decode cX9_is 15 = .ok (.getfield 66, 3) := by decide +kernel
theorem dX9_is_18 : decode cX9_is 18 = .ok (.invokevirtual 75, 3) := by decide +kernel
theorem dX9_is_21 : decode cX9_is 21 = .ok (.iload_n 2, 1) := by decide +kernel
theorem dX9_is_22 : decode cX9_is 22 = .ok (.if_icmp .ne 51, 3) := by decide +kernel
theorem dX9_is_25 : decode cX9_is 25 = .ok (.aload_n 0, 1) := by decide +kernel
theorem dX9_is_26 : decode cX9_is 26 = .ok (.aload_n 0, 1) := by decide +kernel
theorem dX9_is_27 : decode cX9_is 27 = .ok (.getfield 66, 3) := by decide +kernel
theorem dX9_is_30 : decode cX9_is 30 = .ok (.iconst 1, 1) := by decide +kernel
theorem dX9_is_31 : decode cX9_is 31 = .ok (.iadd, 1) := by decide +kernel
theorem dX9_is_32 : decode cX9_is 32 = .ok (.invokevirtual 75, 3) := by decide +kernel
theorem dX9_is_35 : decode cX9_is 35 = .ok (.iload_n 3, 1) := by decide +kernel
theorem dX9_is_36 : decode cX9_is 36 = .ok (.if_icmp .ne 37, 3) := by decide +kernel
theorem dX9_is_39 : decode cX9_is 39 = .ok (.aload_n 0, 1) := by decide +kernel
theorem dX9_is_40 : decode cX9_is 40 = .ok (.aload_n 0, 1) := by decide +kernel
theorem dX9_is_41 : decode cX9_is 41 = .ok (.getfield 66, 3) := by decide +kernel
theorem dX9_is_44 : decode cX9_is 44 = .ok (.iconst 2, 1) := by decide +kernel
theorem dX9_is_45 : decode cX9_is 45 = .ok (.iadd, 1) := by decide +kernel
theorem dX9_is_46 : decode cX9_is 46 = .ok (.invokevirtual 75, 3) := by decide +kernel
theorem dX9_is_49 : decode cX9_is 49 = .ok (.iload 4, 2) := by decide +kernel
theorem dX9_is_51 : decode cX9_is 51 = .ok (.if_icmp .ne 22, 3) := by decide +kernel
theorem dX9_is_54 : decode cX9_is 54 = .ok (.aload_n 0, 1) := by decide +kernel
theorem dX9_is_55 : decode cX9_is 55 = .ok (.aload_n 0, 1) := by decide +kernel
theorem dX9_is_56 : decode cX9_is 56 = .ok (.getfield 66, 3) := by decide +kernel
theorem dX9_is_59 : decode cX9_is 59 = .ok (.iconst 3, 1) := by decide +kernel
theorem dX9_is_60 : decode cX9_is 60 = .ok (.iadd, 1) := by decide +kernel
theorem dX9_is_61 : decode cX9_is 61 = .ok (.invokevirtual 75, 3) := by decide +kernel
theorem dX9_is_64 : decode cX9_is 64 = .ok (.iload 5, 2) := by decide +kernel
theorem dX9_is_66 : decode cX9_is 66 = .ok (.if_icmp .ne 7, 3) := by decide +kernel
theorem dX9_is_69 : decode cX9_is 69 = .ok (.iconst 1, 1) := by decide +kernel
theorem dX9_is_70 : decode cX9_is 70 = .ok (.goto 4, 3) := by decide +kernel
theorem dX9_is_73 : decode cX9_is 73 = .ok (.iconst 0, 1) := by decide +kernel
theorem dX9_is_74 : decode cX9_is 74 = .ok (.ireturn, 1) := by decide +kernel
def f_X9_is (Λ : List Ly) (d : Dt) (p0 : Nat) (v1 : Int32) (v2 : Int32) (v3 : Int32) (v4 : Int32) (v5 : Int32) : Option Int32 := if clsAt Λ p0 = some 9 then (if ((d.1 p0 7) - (d.1 p0 8)) = v1 then (Option.bind (f_X9_byteAt Λ d p0 (d.1 p0 8)) fun z3 => if z3 = v2 then (Option.bind (f_X9_byteAt Λ d p0 ((d.1 p0 8) + (1 : Int32))) fun z5 => if z5 = v3 then (Option.bind (f_X9_byteAt Λ d p0 ((d.1 p0 8) + (2 : Int32))) fun z7 => if z7 = v4 then (Option.bind (f_X9_byteAt Λ d p0 ((d.1 p0 8) + (3 : Int32))) fun z9 => if z9 = v5 then (some (1 : Int32)) else (some (0 : Int32))) else (some (0 : Int32))) else (some (0 : Int32))) else (some (0 : Int32))) else (some (0 : Int32))) else none
set_option maxHeartbeats 4000000 in
set_option maxRecDepth 100000 in
theorem c_X9_is (Γ : Cx) (l : Launch) (Λ : List Ly) (d : Dt) (p0 : Nat) (v1 : Int32) (v2 : Int32) (v3 : Int32) (v4 : Int32) (v5 : Int32) (z : Int32) (hf : f_X9_is Λ d p0 v1 v2 v3 v4 v5 = some z) : Cn Γ l yX9_is cX9_is 6 (some FieldType.boolean) 1 21 [.ref (Γ.2.2.1 + p0), .int v1, .int v2, .int v3, .int v4, .int v5] Λ d (some (.int z)) d := by
  refine Cn.of (own := "SeasonBoundModel") (by decide +kernel) rfl (Nat.le_of_ble_eq_true rfl) ?_
  intro p e s m below meth c C0 hr hlocks hH ls hl
  have hl : lv_has ls 6 [(0, .ref (Γ.2.2.1 + p0)), (1, .int v1), (2, .int v2), (3, .int v3), (4, .int v4), (5, .int v5)] := hl
  obtain ⟨hx, hb, hml, hown, hts, hK⟩ := id C0
  unfold f_X9_is at hf
  refine lv_aload_n hx hb dX9_is_0 rfl (lv_at hl 0 rfl) ?_
  obtain ⟨g1, hf⟩ := gd hf
  refine r_geti C0 hH fl_X9_72 g1 rfl dX9_is_1 ?_
  refine lv_aload_n hx hb dX9_is_4 rfl (lv_at hl 0 rfl) ?_
  refine r_geti C0 hH fl_X9_66 g1 rfl dX9_is_5 ?_
  refine lv_isub hx hb dX9_is_8 ?_
  refine lv_iload_n hx hb dX9_is_9 rfl (lv_at hl 1 rfl) ?_
  refine lv_icmp_ne (tgt := 73) hx hb dX9_is_10 (by decide) (fun c2 => ?_) (fun c2 => ?_)
  · replace hf := ie hf c2
    refine lv_iconst (v := (0 : Int32)) hx hb dX9_is_73 (by decide) ?_
    obtain rfl := Option.some.inj hf
    exact r_iret (d' := d) C0 hr hlocks hH (nz (Or.inl rfl)) dX9_is_74
  · replace hf := it hf c2
    refine lv_aload_n hx hb dX9_is_13 rfl (lv_at hl 0 rfl) ?_
    refine lv_aload_n hx hb dX9_is_14 rfl (lv_at hl 0 rfl) ?_
    refine r_geti C0 hH fl_X9_66 g1 rfl dX9_is_15 ?_
    obtain ⟨z3, h3, hf⟩ := ob hf
    refine r_callVi (rest := []) C0 hH (c_X9_byteAt Γ l Λ d p0 (d.1 p0 8) z3 h3) cv_X9_75 g1 (by decide) rfl hl.1 rfl (Nat.le_of_ble_eq_true rfl) dX9_is_18 (by decide) (fun H locs hH => ?_)
    refine lv_iload_n hx hb dX9_is_21 rfl (lv_at hl 2 rfl) ?_
    refine lv_icmp_ne (tgt := 73) hx hb dX9_is_22 (by decide) (fun c4 => ?_) (fun c4 => ?_)
    · replace hf := ie hf c4
      refine lv_iconst (v := (0 : Int32)) hx hb dX9_is_73 (by decide) ?_
      obtain rfl := Option.some.inj hf
      exact r_iret (d' := d) C0 hr hlocks hH (nz (Or.inl rfl)) dX9_is_74
    · replace hf := it hf c4
      refine lv_aload_n hx hb dX9_is_25 rfl (lv_at hl 0 rfl) ?_
      refine lv_aload_n hx hb dX9_is_26 rfl (lv_at hl 0 rfl) ?_
      refine r_geti C0 hH fl_X9_66 g1 rfl dX9_is_27 ?_
      refine lv_iconst (v := (1 : Int32)) hx hb dX9_is_30 (by decide) ?_
      refine lv_iadd hx hb dX9_is_31 ?_
      obtain ⟨z5, h5, hf⟩ := ob hf
      refine r_callVi (rest := []) C0 hH (c_X9_byteAt Γ l Λ d p0 ((d.1 p0 8) + (1 : Int32)) z5 h5) cv_X9_75 g1 (by decide) rfl hl.1 rfl (Nat.le_of_ble_eq_true rfl) dX9_is_32 (by decide) (fun H locs hH => ?_)
      refine lv_iload_n hx hb dX9_is_35 rfl (lv_at hl 3 rfl) ?_
      refine lv_icmp_ne (tgt := 73) hx hb dX9_is_36 (by decide) (fun c6 => ?_) (fun c6 => ?_)
      · replace hf := ie hf c6
        refine lv_iconst (v := (0 : Int32)) hx hb dX9_is_73 (by decide) ?_
        obtain rfl := Option.some.inj hf
        exact r_iret (d' := d) C0 hr hlocks hH (nz (Or.inl rfl)) dX9_is_74
      · replace hf := it hf c6
        refine lv_aload_n hx hb dX9_is_39 rfl (lv_at hl 0 rfl) ?_
        refine lv_aload_n hx hb dX9_is_40 rfl (lv_at hl 0 rfl) ?_
        refine r_geti C0 hH fl_X9_66 g1 rfl dX9_is_41 ?_
        refine lv_iconst (v := (2 : Int32)) hx hb dX9_is_44 (by decide) ?_
        refine lv_iadd hx hb dX9_is_45 ?_
        obtain ⟨z7, h7, hf⟩ := ob hf
        refine r_callVi (rest := []) C0 hH (c_X9_byteAt Γ l Λ d p0 ((d.1 p0 8) + (2 : Int32)) z7 h7) cv_X9_75 g1 (by decide) rfl hl.1 rfl (Nat.le_of_ble_eq_true rfl) dX9_is_46 (by decide) (fun H locs hH => ?_)
        refine lv_iload hx hb dX9_is_49 (lv_at hl 4 rfl) ?_
        refine lv_icmp_ne (tgt := 73) hx hb dX9_is_51 (by decide) (fun c8 => ?_) (fun c8 => ?_)
        · replace hf := ie hf c8
          refine lv_iconst (v := (0 : Int32)) hx hb dX9_is_73 (by decide) ?_
          obtain rfl := Option.some.inj hf
          exact r_iret (d' := d) C0 hr hlocks hH (nz (Or.inl rfl)) dX9_is_74
        · replace hf := it hf c8
          refine lv_aload_n hx hb dX9_is_54 rfl (lv_at hl 0 rfl) ?_
          refine lv_aload_n hx hb dX9_is_55 rfl (lv_at hl 0 rfl) ?_
          refine r_geti C0 hH fl_X9_66 g1 rfl dX9_is_56 ?_
          refine lv_iconst (v := (3 : Int32)) hx hb dX9_is_59 (by decide) ?_
          refine lv_iadd hx hb dX9_is_60 ?_
          obtain ⟨z9, h9, hf⟩ := ob hf
          refine r_callVi (rest := []) C0 hH (c_X9_byteAt Γ l Λ d p0 ((d.1 p0 8) + (3 : Int32)) z9 h9) cv_X9_75 g1 (by decide) rfl hl.1 rfl (Nat.le_of_ble_eq_true rfl) dX9_is_61 (by decide) (fun H locs hH => ?_)
          refine lv_iload hx hb dX9_is_64 (lv_at hl 5 rfl) ?_
          refine lv_icmp_ne (tgt := 73) hx hb dX9_is_66 (by decide) (fun c10 => ?_) (fun c10 => ?_)
          · replace hf := ie hf c10
            refine lv_iconst (v := (0 : Int32)) hx hb dX9_is_73 (by decide) ?_
            obtain rfl := Option.some.inj hf
            exact r_iret (d' := d) C0 hr hlocks hH (nz (Or.inl rfl)) dX9_is_74
          · replace hf := it hf c10
            refine lv_iconst (v := (1 : Int32)) hx hb dX9_is_69 (by decide) ?_
            refine lv_goto (tgt := 74) hx hb dX9_is_70 (by decide) ?_
            obtain rfl := Option.some.inj hf
            exact r_iret (d' := d) C0 hr hlocks hH (nz (Or.inr rfl)) dX9_is_74
theorem dX9_ends_0 : decode cX9_ends 0 = .ok (.aload_n 0, 1) := by decide +kernel
theorem dX9_ends_1 : decode cX9_ends 1 = .ok (.aload_n 0, 1) := by decide +kernel
theorem dX9_ends_2 : decode cX9_ends 2 = .ok (.getfield 66, 3) := by decide +kernel
theorem dX9_ends_5 : decode cX9_ends 5 = .ok (.iconst 4, 1) := by decide +kernel
theorem dX9_ends_6 : decode cX9_ends 6 = .ok (.iadd, 1) := by decide +kernel
theorem dX9_ends_7 : decode cX9_ends 7 = .ok (.invokevirtual 75, 3) := by decide +kernel
theorem dX9_ends_10 : decode cX9_ends 10 = .ok (.iload_n 1, 1) := by decide +kernel
theorem dX9_ends_11 : decode cX9_ends 11 = .ok (.if_icmp .ne 25, 3) := by decide +kernel
theorem dX9_ends_14 : decode cX9_ends 14 = .ok (.iload_n 2, 1) := by decide +kernel
theorem dX9_ends_15 : decode cX9_ends 15 = .ok (.ifCond .eq 17, 3) := by decide +kernel
theorem dX9_ends_18 : decode cX9_ends 18 = .ok (.aload_n 0, 1) := by decide +kernel
theorem dX9_ends_19 : decode cX9_ends 19 = .ok (.aload_n 0, 1) := by decide +kernel
theorem dX9_ends_20 : decode cX9_ends 20 = .ok (.getfield 66, 3) := by decide +kernel
theorem dX9_ends_23 : decode cX9_ends 23 = .ok (.iconst 5, 1) := by decide +kernel
theorem dX9_ends_24 : decode cX9_ends 24 = .ok (.iadd, 1) := by decide +kernel
theorem dX9_ends_25 : decode cX9_ends 25 = .ok (.invokevirtual 75, 3) := by decide +kernel
theorem dX9_ends_28 : decode cX9_ends 28 = .ok (.iload_n 2, 1) := by decide +kernel
theorem dX9_ends_29 : decode cX9_ends 29 = .ok (.if_icmp .ne 7, 3) := by decide +kernel
theorem dX9_ends_32 : decode cX9_ends 32 = .ok (.iconst 1, 1) := by decide +kernel
theorem dX9_ends_33 : decode cX9_ends 33 = .ok (.goto 4, 3) := by decide +kernel
theorem dX9_ends_36 : decode cX9_ends 36 = .ok (.iconst 0, 1) := by decide +kernel
theorem dX9_ends_37 : decode cX9_ends 37 = .ok (.ireturn, 1) := by decide +kernel
def f_X9_ends (Λ : List Ly) (d : Dt) (p0 : Nat) (v1 : Int32) (v2 : Int32) : Option Int32 := if clsAt Λ p0 = some 9 then (Option.bind (f_X9_byteAt Λ d p0 ((d.1 p0 8) + (4 : Int32))) fun z2 => if z2 = v1 then (if v2 = 0 then (some (1 : Int32)) else (Option.bind (f_X9_byteAt Λ d p0 ((d.1 p0 8) + (5 : Int32))) fun z5 => if z5 = v2 then (some (1 : Int32)) else (some (0 : Int32)))) else (some (0 : Int32))) else none
set_option maxHeartbeats 4000000 in
set_option maxRecDepth 100000 in
theorem c_X9_ends (Γ : Cx) (l : Launch) (Λ : List Ly) (d : Dt) (p0 : Nat) (v1 : Int32) (v2 : Int32) (z : Int32) (hf : f_X9_ends Λ d p0 v1 v2 = some z) : Cn Γ l yX9_ends cX9_ends 3 (some FieldType.boolean) 1 21 [.ref (Γ.2.2.1 + p0), .int v1, .int v2] Λ d (some (.int z)) d := by
  refine Cn.of (own := "SeasonBoundModel") (by decide +kernel) rfl (Nat.le_of_ble_eq_true rfl) ?_
  intro p e s m below meth c C0 hr hlocks hH ls hl
  have hl : lv_has ls 3 [(0, .ref (Γ.2.2.1 + p0)), (1, .int v1), (2, .int v2)] := hl
  obtain ⟨hx, hb, hml, hown, hts, hK⟩ := id C0
  unfold f_X9_ends at hf
  refine lv_aload_n hx hb dX9_ends_0 rfl (lv_at hl 0 rfl) ?_
  refine lv_aload_n hx hb dX9_ends_1 rfl (lv_at hl 0 rfl) ?_
  obtain ⟨g1, hf⟩ := gd hf
  refine r_geti C0 hH fl_X9_66 g1 rfl dX9_ends_2 ?_
  refine lv_iconst (v := (4 : Int32)) hx hb dX9_ends_5 (by decide) ?_
  refine lv_iadd hx hb dX9_ends_6 ?_
  obtain ⟨z2, h2, hf⟩ := ob hf
  refine r_callVi (rest := []) C0 hH (c_X9_byteAt Γ l Λ d p0 ((d.1 p0 8) + (4 : Int32)) z2 h2) cv_X9_75 g1 (by decide) rfl hl.1 rfl (Nat.le_of_ble_eq_true rfl) dX9_ends_7 (by decide) (fun H locs hH => ?_)
  refine lv_iload_n hx hb dX9_ends_10 rfl (lv_at hl 1 rfl) ?_
  refine lv_icmp_ne (tgt := 36) hx hb dX9_ends_11 (by decide) (fun c3 => ?_) (fun c3 => ?_)
  · replace hf := ie hf c3
    refine lv_iconst (v := (0 : Int32)) hx hb dX9_ends_36 (by decide) ?_
    obtain rfl := Option.some.inj hf
    exact r_iret (d' := d) C0 hr hlocks hH (nz (Or.inl rfl)) dX9_ends_37
  · replace hf := it hf c3
    refine lv_iload_n hx hb dX9_ends_14 rfl (lv_at hl 2 rfl) ?_
    refine lv_if_eq (tgt := 32) hx hb dX9_ends_15 (by decide) (fun c4 => ?_) (fun c4 => ?_)
    · replace hf := it hf c4
      refine lv_iconst (v := (1 : Int32)) hx hb dX9_ends_32 (by decide) ?_
      refine lv_goto (tgt := 37) hx hb dX9_ends_33 (by decide) ?_
      obtain rfl := Option.some.inj hf
      exact r_iret (d' := d) C0 hr hlocks hH (nz (Or.inr rfl)) dX9_ends_37
    · replace hf := ie hf c4
      refine lv_aload_n hx hb dX9_ends_18 rfl (lv_at hl 0 rfl) ?_
      refine lv_aload_n hx hb dX9_ends_19 rfl (lv_at hl 0 rfl) ?_
      refine r_geti C0 hH fl_X9_66 g1 rfl dX9_ends_20 ?_
      refine lv_iconst (v := (5 : Int32)) hx hb dX9_ends_23 (by decide) ?_
      refine lv_iadd hx hb dX9_ends_24 ?_
      obtain ⟨z5, h5, hf⟩ := ob hf
      refine r_callVi (rest := []) C0 hH (c_X9_byteAt Γ l Λ d p0 ((d.1 p0 8) + (5 : Int32)) z5 h5) cv_X9_75 g1 (by decide) rfl hl.1 rfl (Nat.le_of_ble_eq_true rfl) dX9_ends_25 (by decide) (fun H locs hH => ?_)
      refine lv_iload_n hx hb dX9_ends_28 rfl (lv_at hl 2 rfl) ?_
      refine lv_icmp_ne (tgt := 36) hx hb dX9_ends_29 (by decide) (fun c6 => ?_) (fun c6 => ?_)
      · replace hf := ie hf c6
        refine lv_iconst (v := (0 : Int32)) hx hb dX9_ends_36 (by decide) ?_
        obtain rfl := Option.some.inj hf
        exact r_iret (d' := d) C0 hr hlocks hH (nz (Or.inl rfl)) dX9_ends_37
      · replace hf := it hf c6
        refine lv_iconst (v := (1 : Int32)) hx hb dX9_ends_32 (by decide) ?_
        refine lv_goto (tgt := 37) hx hb dX9_ends_33 (by decide) ?_
        obtain rfl := Option.some.inj hf
        exact r_iret (d' := d) C0 hr hlocks hH (nz (Or.inr rfl)) dX9_ends_37
theorem dX9_seasonNow_0 : decode cX9_seasonNow 0 = .ok (.aload_n 0, 1) := by decide +kernel
theorem dX9_seasonNow_1 : decode cX9_seasonNow 1 = .ok (.bipush 6, 2) := by decide +kernel
theorem dX9_seasonNow_3 : decode cX9_seasonNow 3 = .ok (.bipush 115, 2) := by decide +kernel
theorem dX9_seasonNow_5 : decode cX9_seasonNow 5 = .ok (.bipush 112, 2) := by decide +kernel
theorem dX9_seasonNow_7 : decode cX9_seasonNow 7 = .ok (.bipush 114, 2) := by decide +kernel
theorem dX9_seasonNow_9 : decode cX9_seasonNow 9 = .ok (.bipush 105, 2) := by decide +kernel
theorem dX9_seasonNow_11 : decode cX9_seasonNow 11 = .ok (.invokevirtual 79, 3) := by decide +kernel
theorem dX9_seasonNow_14 : decode cX9_seasonNow 14 = .ok (.ifCond .eq 16, 3) := by decide +kernel
theorem dX9_seasonNow_17 : decode cX9_seasonNow 17 = .ok (.aload_n 0, 1) := by decide +kernel
theorem dX9_seasonNow_18 : decode cX9_seasonNow 18 = .ok (.bipush 110, 2) := by decide +kernel
theorem dX9_seasonNow_20 : decode cX9_seasonNow 20 = .ok (.bipush 103, 2) := by decide +kernel
theorem dX9_seasonNow_22 : decode cX9_seasonNow 22 = .ok (.invokevirtual 83, 3) := by decide +kernel
theorem dX9_seasonNow_25 : decode cX9_seasonNow 25 = .ok (.ifCond .eq 5, 3) := by decide +kernel
theorem dX9_seasonNow_28 : decode cX9_seasonNow 28 = .ok (.iconst 4, 1) := by decide +kernel
theorem dX9_seasonNow_29 : decode cX9_seasonNow 29 = .ok (.ireturn, 1) := by decide +kernel
theorem dX9_seasonNow_30 : decode cX9_seasonNow 30 = .ok (.aload_n 0, 1) := by decide +kernel
theorem dX9_seasonNow_31 : decode cX9_seasonNow 31 = .ok (.bipush 6, 2) := by decide +kernel
theorem dX9_seasonNow_33 : decode cX9_seasonNow 33 = .ok (.bipush 115, 2) := by decide +kernel
theorem dX9_seasonNow_35 : decode cX9_seasonNow 35 = .ok (.bipush 117, 2) := by decide +kernel
theorem dX9_seasonNow_37 : decode cX9_seasonNow 37 = .ok (.bipush 109, 2) := by decide +kernel
theorem dX9_seasonNow_39 : decode cX9_seasonNow 39 = .ok (.bipush 109, 2) := by decide +kernel
theorem dX9_seasonNow_41 : decode cX9_seasonNow 41 = .ok (.invokevirtual 79, 3) := by decide +kernel
theorem dX9_seasonNow_44 : decode cX9_seasonNow 44 = .ok (.ifCond .eq 16, 3) := by decide +kernel
theorem dX9_seasonNow_47 : decode cX9_seasonNow 47 = .ok (.aload_n 0, 1) := by decide +kernel
theorem dX9_seasonNow_48 : decode cX9_seasonNow 48 = .ok (.bipush 101, 2) := by decide +kernel
theorem dX9_seasonNow_50 : decode cX9_seasonNow 50 = .ok (.bipush 114, 2) := by decide +kernel
theorem dX9_seasonNow_52 : decode cX9_seasonNow 52 = .ok (.invokevirtual 83, 3) := by decide +kernel
theorem dX9_seasonNow_55 : decode cX9_seasonNow 55 = .ok (.ifCond .eq 5, 3) := by decide +kernel
theorem dX9_seasonNow_58 : decode cX9_seasonNow 58 = .ok (.iconst 5, 1) := by decide +kernel
theorem dX9_seasonNow_59 : decode cX9_seasonNow 59 = .ok (.ireturn, 1) := by decide +kernel
theorem dX9_seasonNow_60 : decode cX9_seasonNow 60 = .ok (.aload_n 0, 1) := by decide +kernel
theorem dX9_seasonNow_61 : decode cX9_seasonNow 61 = .ok (.bipush 6, 2) := by decide +kernel
theorem dX9_seasonNow_63 : decode cX9_seasonNow 63 = .ok (.bipush 97, 2) := by decide +kernel
theorem dX9_seasonNow_65 : decode cX9_seasonNow 65 = .ok (.bipush 117, 2) := by decide +kernel
theorem dX9_seasonNow_67 : decode cX9_seasonNow 67 = .ok (.bipush 116, 2) := by decide +kernel
theorem dX9_seasonNow_69 : decode cX9_seasonNow 69 = .ok (.bipush 117, 2) := by decide +kernel
theorem dX9_seasonNow_71 : decode cX9_seasonNow 71 = .ok (.invokevirtual 79, 3) := by decide +kernel
theorem dX9_seasonNow_74 : decode cX9_seasonNow 74 = .ok (.ifCond .eq 17, 3) := by decide +kernel
theorem dX9_seasonNow_77 : decode cX9_seasonNow 77 = .ok (.aload_n 0, 1) := by decide +kernel
theorem dX9_seasonNow_78 : decode cX9_seasonNow 78 = .ok (.bipush 109, 2) := by decide +kernel
theorem dX9_seasonNow_80 : decode cX9_seasonNow 80 = .ok (.bipush 110, 2) := by decide +kernel
theorem dX9_seasonNow_82 : decode cX9_seasonNow 82 = .ok (.invokevirtual 83, 3) := by decide +kernel
theorem dX9_seasonNow_85 : decode cX9_seasonNow 85 = .ok (.ifCond .eq 6, 3) := by decide +kernel
theorem dX9_seasonNow_88 : decode cX9_seasonNow 88 = .ok (.bipush 6, 2) := by decide +kernel
theorem dX9_seasonNow_90 : decode cX9_seasonNow 90 = .ok (.ireturn, 1) := by decide +kernel
theorem dX9_seasonNow_91 : decode cX9_seasonNow 91 = .ok (.aload_n 0, 1) := by decide +kernel
theorem dX9_seasonNow_92 : decode cX9_seasonNow 92 = .ok (.bipush 6, 2) := by decide +kernel
theorem dX9_seasonNow_94 : decode cX9_seasonNow 94 = .ok (.bipush 119, 2) := by decide +kernel
theorem dX9_seasonNow_96 : decode cX9_seasonNow 96 = .ok (.bipush 105, 2) := by decide +kernel
theorem dX9_seasonNow_98 : decode cX9_seasonNow 98 = .ok (.bipush 110, 2) := by decide +kernel
theorem dX9_seasonNow_100 : decode cX9_seasonNow 100 = .ok (.bipush 116, 2) := by decide +kernel
theorem dX9_seasonNow_102 : decode cX9_seasonNow 102 = .ok (.invokevirtual 79, 3) := by decide +kernel
theorem dX9_seasonNow_105 : decode cX9_seasonNow 105 = .ok (.ifCond .eq 19, 3) := by decide +kernel
theorem dX9_seasonNow_108 : decode cX9_seasonNow 108 = .ok (.aload_n 0, 1) := by decide +kernel
theorem dX9_seasonNow_109 : decode cX9_seasonNow 109 = .ok (.bipush 101, 2) := by decide +kernel
theorem dX9_seasonNow_111 : decode cX9_seasonNow 111 = .ok (.bipush 114, 2) := by decide +kernel
theorem dX9_seasonNow_113 : decode cX9_seasonNow 113 = .ok (.invokevirtual 83, 3) := by decide +kernel
theorem dX9_seasonNow_116 : decode cX9_seasonNow 116 = .ok (.ifCond .eq 8, 3) := by decide +kernel
theorem dX9_seasonNow_119 : decode cX9_seasonNow 119 = .ok (.bipush 7, 2) := by decide +kernel
theorem dX9_seasonNow_121 : decode cX9_seasonNow 121 = .ok (.goto 5, 3) := by decide +kernel
theorem dX9_seasonNow_124 : decode cX9_seasonNow 124 = .ok (.bipush (-4), 2) := by decide +kernel
theorem dX9_seasonNow_126 : decode cX9_seasonNow 126 = .ok (.ireturn, 1) := by decide +kernel
def f_X9_seasonNow_J91 (Λ : List Ly) (d : Dt) (p0 : Nat) : Option Int32 := if clsAt Λ p0 = some 9 then (Option.bind (f_X9_is Λ d p0 (6 : Int32) (119 : Int32) (105 : Int32) (110 : Int32) (116 : Int32)) fun z11 => if z11 = 0 then (some (-4 : Int32)) else (Option.bind (f_X9_ends Λ d p0 (101 : Int32) (114 : Int32)) fun z13 => if z13 = 0 then (some (-4 : Int32)) else (some (7 : Int32)))) else none
def f_X9_seasonNow_J60 (Λ : List Ly) (d : Dt) (p0 : Nat) : Option Int32 := if clsAt Λ p0 = some 9 then (Option.bind (f_X9_is Λ d p0 (6 : Int32) (97 : Int32) (117 : Int32) (116 : Int32) (117 : Int32)) fun z8 => if z8 = 0 then (f_X9_seasonNow_J91 Λ d p0) else (Option.bind (f_X9_ends Λ d p0 (109 : Int32) (110 : Int32)) fun z15 => if z15 = 0 then (f_X9_seasonNow_J91 Λ d p0) else (some (6 : Int32)))) else none
def f_X9_seasonNow_J30 (Λ : List Ly) (d : Dt) (p0 : Nat) : Option Int32 := if clsAt Λ p0 = some 9 then (Option.bind (f_X9_is Λ d p0 (6 : Int32) (115 : Int32) (117 : Int32) (109 : Int32) (109 : Int32)) fun z5 => if z5 = 0 then (f_X9_seasonNow_J60 Λ d p0) else (Option.bind (f_X9_ends Λ d p0 (101 : Int32) (114 : Int32)) fun z17 => if z17 = 0 then (f_X9_seasonNow_J60 Λ d p0) else (some (5 : Int32)))) else none
def f_X9_seasonNow (Λ : List Ly) (d : Dt) (p0 : Nat) : Option Int32 := if clsAt Λ p0 = some 9 then (Option.bind (f_X9_is Λ d p0 (6 : Int32) (115 : Int32) (112 : Int32) (114 : Int32) (105 : Int32)) fun z2 => if z2 = 0 then (f_X9_seasonNow_J30 Λ d p0) else (Option.bind (f_X9_ends Λ d p0 (110 : Int32) (103 : Int32)) fun z19 => if z19 = 0 then (f_X9_seasonNow_J30 Λ d p0) else (some (4 : Int32)))) else none
set_option maxHeartbeats 4000000 in
set_option maxRecDepth 100000 in
theorem w_X9_seasonNow_J91 {p : Program} {l : Launch} {e : Env} {s : State} {m : MethodId} {args : Array Value} {below : List Frame} {meth : Method} {c : Code} {Γ : Cx} {Λ : List Ly} {z : Int32} {d : Dt} (C0 : Ct Γ p s m args c cX9_seasonNow 1 "SeasonBoundModel") (hr : meth.sig.returnType = (some FieldType.int)) (hlocks : meth.locks = false) (p0 : Nat)
    (hf : f_X9_seasonNow_J91 Λ d p0 = some z) (H : Heap) (locs : List Loc) (ls : Array Slot) (hH : Hs Γ Λ d s H locs) (hl : lv_has ls 1 [(0, .ref (Γ.2.2.1 + p0))]) : W p l e { frames := 2, cells := 0, slots := 0, locals := 46 } s m args below meth c H locs 0 0 (MQ below (QN Γ Λ d (some (.int z))) args s 0 0 (AP Γ)) (F0 m 91 ls []) := by
  obtain ⟨hx, hb, hml, hown, hts, hK⟩ := id C0
  unfold f_X9_seasonNow_J91 at hf
  refine lv_aload_n hx hb dX9_seasonNow_91 rfl (lv_at hl 0 rfl) ?_
  refine lv_bipush (v := (6 : Int32)) hx hb dX9_seasonNow_92 (by decide) ?_
  refine lv_bipush (v := (119 : Int32)) hx hb dX9_seasonNow_94 (by decide) ?_
  refine lv_bipush (v := (105 : Int32)) hx hb dX9_seasonNow_96 (by decide) ?_
  refine lv_bipush (v := (110 : Int32)) hx hb dX9_seasonNow_98 (by decide) ?_
  refine lv_bipush (v := (116 : Int32)) hx hb dX9_seasonNow_100 (by decide) ?_
  obtain ⟨g10, hf⟩ := gd hf
  obtain ⟨z11, h11, hf⟩ := ob hf
  refine r_callVi (rest := []) C0 hH (c_X9_is Γ l Λ d p0 (6 : Int32) (119 : Int32) (105 : Int32) (110 : Int32) (116 : Int32) z11 h11) cv_X9_79 g10 (by decide) rfl hl.1 rfl (Nat.le_of_ble_eq_true rfl) dX9_seasonNow_102 (by decide) (fun H locs hH => ?_)
  refine lv_if_eq (tgt := 124) hx hb dX9_seasonNow_105 (by decide) (fun c12 => ?_) (fun c12 => ?_)
  · replace hf := it hf c12
    refine lv_bipush (v := (-4 : Int32)) hx hb dX9_seasonNow_124 (by decide) ?_
    obtain rfl := Option.some.inj hf
    exact r_iret (d' := d) C0 hr hlocks hH rfl dX9_seasonNow_126
  · replace hf := ie hf c12
    refine lv_aload_n hx hb dX9_seasonNow_108 rfl (lv_at hl 0 rfl) ?_
    refine lv_bipush (v := (101 : Int32)) hx hb dX9_seasonNow_109 (by decide) ?_
    refine lv_bipush (v := (114 : Int32)) hx hb dX9_seasonNow_111 (by decide) ?_
    obtain ⟨z13, h13, hf⟩ := ob hf
    refine r_callVi (rest := []) C0 hH (c_X9_ends Γ l Λ d p0 (101 : Int32) (114 : Int32) z13 h13) cv_X9_83 g10 (by decide) rfl hl.1 rfl (Nat.le_of_ble_eq_true rfl) dX9_seasonNow_113 (by decide) (fun H locs hH => ?_)
    refine lv_if_eq (tgt := 124) hx hb dX9_seasonNow_116 (by decide) (fun c14 => ?_) (fun c14 => ?_)
    · replace hf := it hf c14
      refine lv_bipush (v := (-4 : Int32)) hx hb dX9_seasonNow_124 (by decide) ?_
      obtain rfl := Option.some.inj hf
      exact r_iret (d' := d) C0 hr hlocks hH rfl dX9_seasonNow_126
    · replace hf := ie hf c14
      refine lv_bipush (v := (7 : Int32)) hx hb dX9_seasonNow_119 (by decide) ?_
      refine lv_goto (tgt := 126) hx hb dX9_seasonNow_121 (by decide) ?_
      obtain rfl := Option.some.inj hf
      exact r_iret (d' := d) C0 hr hlocks hH rfl dX9_seasonNow_126
set_option maxHeartbeats 4000000 in
set_option maxRecDepth 100000 in
theorem w_X9_seasonNow_J60 {p : Program} {l : Launch} {e : Env} {s : State} {m : MethodId} {args : Array Value} {below : List Frame} {meth : Method} {c : Code} {Γ : Cx} {Λ : List Ly} {z : Int32} {d : Dt} (C0 : Ct Γ p s m args c cX9_seasonNow 1 "SeasonBoundModel") (hr : meth.sig.returnType = (some FieldType.int)) (hlocks : meth.locks = false) (p0 : Nat)
    (hf : f_X9_seasonNow_J60 Λ d p0 = some z) (H : Heap) (locs : List Loc) (ls : Array Slot) (hH : Hs Γ Λ d s H locs) (hl : lv_has ls 1 [(0, .ref (Γ.2.2.1 + p0))]) : W p l e { frames := 2, cells := 0, slots := 0, locals := 46 } s m args below meth c H locs 0 0 (MQ below (QN Γ Λ d (some (.int z))) args s 0 0 (AP Γ)) (F0 m 60 ls []) := by
  obtain ⟨hx, hb, hml, hown, hts, hK⟩ := id C0
  unfold f_X9_seasonNow_J60 at hf
  refine lv_aload_n hx hb dX9_seasonNow_60 rfl (lv_at hl 0 rfl) ?_
  refine lv_bipush (v := (6 : Int32)) hx hb dX9_seasonNow_61 (by decide) ?_
  refine lv_bipush (v := (97 : Int32)) hx hb dX9_seasonNow_63 (by decide) ?_
  refine lv_bipush (v := (117 : Int32)) hx hb dX9_seasonNow_65 (by decide) ?_
  refine lv_bipush (v := (116 : Int32)) hx hb dX9_seasonNow_67 (by decide) ?_
  refine lv_bipush (v := (117 : Int32)) hx hb dX9_seasonNow_69 (by decide) ?_
  obtain ⟨g7, hf⟩ := gd hf
  obtain ⟨z8, h8, hf⟩ := ob hf
  refine r_callVi (rest := []) C0 hH (c_X9_is Γ l Λ d p0 (6 : Int32) (97 : Int32) (117 : Int32) (116 : Int32) (117 : Int32) z8 h8) cv_X9_79 g7 (by decide) rfl hl.1 rfl (Nat.le_of_ble_eq_true rfl) dX9_seasonNow_71 (by decide) (fun H locs hH => ?_)
  refine lv_if_eq (tgt := 91) hx hb dX9_seasonNow_74 (by decide) (fun c9 => ?_) (fun c9 => ?_)
  · replace hf := it hf c9
    exact w_X9_seasonNow_J91 C0 hr hlocks p0 hf _ _ _ hH (lv_sub hl [0] rfl)
  · replace hf := ie hf c9
    refine lv_aload_n hx hb dX9_seasonNow_77 rfl (lv_at hl 0 rfl) ?_
    refine lv_bipush (v := (109 : Int32)) hx hb dX9_seasonNow_78 (by decide) ?_
    refine lv_bipush (v := (110 : Int32)) hx hb dX9_seasonNow_80 (by decide) ?_
    obtain ⟨z15, h15, hf⟩ := ob hf
    refine r_callVi (rest := []) C0 hH (c_X9_ends Γ l Λ d p0 (109 : Int32) (110 : Int32) z15 h15) cv_X9_83 g7 (by decide) rfl hl.1 rfl (Nat.le_of_ble_eq_true rfl) dX9_seasonNow_82 (by decide) (fun H locs hH => ?_)
    refine lv_if_eq (tgt := 91) hx hb dX9_seasonNow_85 (by decide) (fun c16 => ?_) (fun c16 => ?_)
    · replace hf := it hf c16
      exact w_X9_seasonNow_J91 C0 hr hlocks p0 hf _ _ _ hH (lv_sub hl [0] rfl)
    · replace hf := ie hf c16
      refine lv_bipush (v := (6 : Int32)) hx hb dX9_seasonNow_88 (by decide) ?_
      obtain rfl := Option.some.inj hf
      exact r_iret (d' := d) C0 hr hlocks hH rfl dX9_seasonNow_90
set_option maxHeartbeats 4000000 in
set_option maxRecDepth 100000 in
theorem w_X9_seasonNow_J30 {p : Program} {l : Launch} {e : Env} {s : State} {m : MethodId} {args : Array Value} {below : List Frame} {meth : Method} {c : Code} {Γ : Cx} {Λ : List Ly} {z : Int32} {d : Dt} (C0 : Ct Γ p s m args c cX9_seasonNow 1 "SeasonBoundModel") (hr : meth.sig.returnType = (some FieldType.int)) (hlocks : meth.locks = false) (p0 : Nat)
    (hf : f_X9_seasonNow_J30 Λ d p0 = some z) (H : Heap) (locs : List Loc) (ls : Array Slot) (hH : Hs Γ Λ d s H locs) (hl : lv_has ls 1 [(0, .ref (Γ.2.2.1 + p0))]) : W p l e { frames := 2, cells := 0, slots := 0, locals := 46 } s m args below meth c H locs 0 0 (MQ below (QN Γ Λ d (some (.int z))) args s 0 0 (AP Γ)) (F0 m 30 ls []) := by
  obtain ⟨hx, hb, hml, hown, hts, hK⟩ := id C0
  unfold f_X9_seasonNow_J30 at hf
  refine lv_aload_n hx hb dX9_seasonNow_30 rfl (lv_at hl 0 rfl) ?_
  refine lv_bipush (v := (6 : Int32)) hx hb dX9_seasonNow_31 (by decide) ?_
  refine lv_bipush (v := (115 : Int32)) hx hb dX9_seasonNow_33 (by decide) ?_
  refine lv_bipush (v := (117 : Int32)) hx hb dX9_seasonNow_35 (by decide) ?_
  refine lv_bipush (v := (109 : Int32)) hx hb dX9_seasonNow_37 (by decide) ?_
  refine lv_bipush (v := (109 : Int32)) hx hb dX9_seasonNow_39 (by decide) ?_
  obtain ⟨g4, hf⟩ := gd hf
  obtain ⟨z5, h5, hf⟩ := ob hf
  refine r_callVi (rest := []) C0 hH (c_X9_is Γ l Λ d p0 (6 : Int32) (115 : Int32) (117 : Int32) (109 : Int32) (109 : Int32) z5 h5) cv_X9_79 g4 (by decide) rfl hl.1 rfl (Nat.le_of_ble_eq_true rfl) dX9_seasonNow_41 (by decide) (fun H locs hH => ?_)
  refine lv_if_eq (tgt := 60) hx hb dX9_seasonNow_44 (by decide) (fun c6 => ?_) (fun c6 => ?_)
  · replace hf := it hf c6
    exact w_X9_seasonNow_J60 C0 hr hlocks p0 hf _ _ _ hH (lv_sub hl [0] rfl)
  · replace hf := ie hf c6
    refine lv_aload_n hx hb dX9_seasonNow_47 rfl (lv_at hl 0 rfl) ?_
    refine lv_bipush (v := (101 : Int32)) hx hb dX9_seasonNow_48 (by decide) ?_
    refine lv_bipush (v := (114 : Int32)) hx hb dX9_seasonNow_50 (by decide) ?_
    obtain ⟨z17, h17, hf⟩ := ob hf
    refine r_callVi (rest := []) C0 hH (c_X9_ends Γ l Λ d p0 (101 : Int32) (114 : Int32) z17 h17) cv_X9_83 g4 (by decide) rfl hl.1 rfl (Nat.le_of_ble_eq_true rfl) dX9_seasonNow_52 (by decide) (fun H locs hH => ?_)
    refine lv_if_eq (tgt := 60) hx hb dX9_seasonNow_55 (by decide) (fun c18 => ?_) (fun c18 => ?_)
    · replace hf := it hf c18
      exact w_X9_seasonNow_J60 C0 hr hlocks p0 hf _ _ _ hH (lv_sub hl [0] rfl)
    · replace hf := ie hf c18
      refine lv_iconst (v := (5 : Int32)) hx hb dX9_seasonNow_58 (by decide) ?_
      obtain rfl := Option.some.inj hf
      exact r_iret (d' := d) C0 hr hlocks hH rfl dX9_seasonNow_59
set_option maxHeartbeats 4000000 in
set_option maxRecDepth 100000 in
theorem c_X9_seasonNow (Γ : Cx) (l : Launch) (Λ : List Ly) (d : Dt) (p0 : Nat) (z : Int32) (hf : f_X9_seasonNow Λ d p0 = some z) : Cn Γ l yX9_seasonNow cX9_seasonNow 1 (some FieldType.int) 2 46 [.ref (Γ.2.2.1 + p0)] Λ d (some (.int z)) d := by
  refine Cn.of (own := "SeasonBoundModel") (by decide +kernel) rfl (Nat.le_of_ble_eq_true rfl) ?_
  intro p e s m below meth c C0 hr hlocks hH ls hl
  have hl : lv_has ls 1 [(0, .ref (Γ.2.2.1 + p0))] := hl
  obtain ⟨hx, hb, hml, hown, hts, hK⟩ := id C0
  unfold f_X9_seasonNow at hf
  refine lv_aload_n hx hb dX9_seasonNow_0 rfl (lv_at hl 0 rfl) ?_
  refine lv_bipush (v := (6 : Int32)) hx hb dX9_seasonNow_1 (by decide) ?_
  refine lv_bipush (v := (115 : Int32)) hx hb dX9_seasonNow_3 (by decide) ?_
  refine lv_bipush (v := (112 : Int32)) hx hb dX9_seasonNow_5 (by decide) ?_
  refine lv_bipush (v := (114 : Int32)) hx hb dX9_seasonNow_7 (by decide) ?_
  refine lv_bipush (v := (105 : Int32)) hx hb dX9_seasonNow_9 (by decide) ?_
  obtain ⟨g1, hf⟩ := gd hf
  obtain ⟨z2, h2, hf⟩ := ob hf
  refine r_callVi (rest := []) C0 hH (c_X9_is Γ l Λ d p0 (6 : Int32) (115 : Int32) (112 : Int32) (114 : Int32) (105 : Int32) z2 h2) cv_X9_79 g1 (by decide) rfl hl.1 rfl (Nat.le_of_ble_eq_true rfl) dX9_seasonNow_11 (by decide) (fun H locs hH => ?_)
  refine lv_if_eq (tgt := 30) hx hb dX9_seasonNow_14 (by decide) (fun c3 => ?_) (fun c3 => ?_)
  · replace hf := it hf c3
    exact w_X9_seasonNow_J30 C0 hr hlocks p0 hf _ _ _ hH (lv_sub hl [0] rfl)
  · replace hf := ie hf c3
    refine lv_aload_n hx hb dX9_seasonNow_17 rfl (lv_at hl 0 rfl) ?_
    refine lv_bipush (v := (110 : Int32)) hx hb dX9_seasonNow_18 (by decide) ?_
    refine lv_bipush (v := (103 : Int32)) hx hb dX9_seasonNow_20 (by decide) ?_
    obtain ⟨z19, h19, hf⟩ := ob hf
    refine r_callVi (rest := []) C0 hH (c_X9_ends Γ l Λ d p0 (110 : Int32) (103 : Int32) z19 h19) cv_X9_83 g1 (by decide) rfl hl.1 rfl (Nat.le_of_ble_eq_true rfl) dX9_seasonNow_22 (by decide) (fun H locs hH => ?_)
    refine lv_if_eq (tgt := 30) hx hb dX9_seasonNow_25 (by decide) (fun c20 => ?_) (fun c20 => ?_)
    · replace hf := it hf c20
      exact w_X9_seasonNow_J30 C0 hr hlocks p0 hf _ _ _ hH (lv_sub hl [0] rfl)
    · replace hf := ie hf c20
      refine lv_iconst (v := (4 : Int32)) hx hb dX9_seasonNow_28 (by decide) ?_
      obtain rfl := Option.some.inj hf
      exact r_iret (d' := d) C0 hr hlocks hH rfl dX9_seasonNow_29
theorem dX9_lineNow_0 : decode cX9_lineNow 0 = .ok (.aload_n 0, 1) := by decide +kernel
theorem dX9_lineNow_1 : decode cX9_lineNow 1 = .ok (.iconst 5, 1) := by decide +kernel
theorem dX9_lineNow_2 : decode cX9_lineNow 2 = .ok (.bipush 112, 2) := by decide +kernel
theorem dX9_lineNow_4 : decode cX9_lineNow 4 = .ok (.bipush 108, 2) := by decide +kernel
theorem dX9_lineNow_6 : decode cX9_lineNow 6 = .ok (.bipush 97, 2) := by decide +kernel
theorem dX9_lineNow_8 : decode cX9_lineNow 8 = .ok (.bipush 105, 2) := by decide +kernel
theorem dX9_lineNow_10 : decode cX9_lineNow 10 = .ok (.invokevirtual 79, 3) := by decide +kernel
theorem dX9_lineNow_13 : decode cX9_lineNow 13 = .ok (.ifCond .eq 15, 3) := by decide +kernel
theorem dX9_lineNow_16 : decode cX9_lineNow 16 = .ok (.aload_n 0, 1) := by decide +kernel
theorem dX9_lineNow_17 : decode cX9_lineNow 17 = .ok (.bipush 110, 2) := by decide +kernel
theorem dX9_lineNow_19 : decode cX9_lineNow 19 = .ok (.iconst 0, 1) := by decide +kernel
theorem dX9_lineNow_20 : decode cX9_lineNow 20 = .ok (.invokevirtual 83, 3) := by decide +kernel
theorem dX9_lineNow_23 : decode cX9_lineNow 23 = .ok (.ifCond .eq 5, 3) := by decide +kernel
theorem dX9_lineNow_26 : decode cX9_lineNow 26 = .ok (.iconst 0, 1) := by decide +kernel
theorem dX9_lineNow_27 : decode cX9_lineNow 27 = .ok (.ireturn, 1) := by decide +kernel
theorem dX9_lineNow_28 : decode cX9_lineNow 28 = .ok (.aload_n 0, 1) := by decide +kernel
theorem dX9_lineNow_29 : decode cX9_lineNow 29 = .ok (.iconst 5, 1) := by decide +kernel
theorem dX9_lineNow_30 : decode cX9_lineNow 30 = .ok (.bipush 113, 2) := by decide +kernel
theorem dX9_lineNow_32 : decode cX9_lineNow 32 = .ok (.bipush 117, 2) := by decide +kernel
theorem dX9_lineNow_34 : decode cX9_lineNow 34 = .ok (.bipush 105, 2) := by decide +kernel
theorem dX9_lineNow_36 : decode cX9_lineNow 36 = .ok (.bipush 99, 2) := by decide +kernel
theorem dX9_lineNow_38 : decode cX9_lineNow 38 = .ok (.invokevirtual 79, 3) := by decide +kernel
theorem dX9_lineNow_41 : decode cX9_lineNow 41 = .ok (.ifCond .eq 15, 3) := by decide +kernel
theorem dX9_lineNow_44 : decode cX9_lineNow 44 = .ok (.aload_n 0, 1) := by decide +kernel
theorem dX9_lineNow_45 : decode cX9_lineNow 45 = .ok (.bipush 107, 2) := by decide +kernel
theorem dX9_lineNow_47 : decode cX9_lineNow 47 = .ok (.iconst 0, 1) := by decide +kernel
theorem dX9_lineNow_48 : decode cX9_lineNow 48 = .ok (.invokevirtual 83, 3) := by decide +kernel
theorem dX9_lineNow_51 : decode cX9_lineNow 51 = .ok (.ifCond .eq 5, 3) := by decide +kernel
theorem dX9_lineNow_54 : decode cX9_lineNow 54 = .ok (.iconst 1, 1) := by decide +kernel
theorem dX9_lineNow_55 : decode cX9_lineNow 55 = .ok (.ireturn, 1) := by decide +kernel
theorem dX9_lineNow_56 : decode cX9_lineNow 56 = .ok (.aload_n 0, 1) := by decide +kernel
theorem dX9_lineNow_57 : decode cX9_lineNow 57 = .ok (.iconst 4, 1) := by decide +kernel
theorem dX9_lineNow_58 : decode cX9_lineNow 58 = .ok (.bipush 115, 2) := by decide +kernel
theorem dX9_lineNow_60 : decode cX9_lineNow 60 = .ok (.bipush 108, 2) := by decide +kernel
theorem dX9_lineNow_62 : decode cX9_lineNow 62 = .ok (.bipush 111, 2) := by decide +kernel
theorem dX9_lineNow_64 : decode cX9_lineNow 64 = .ok (.bipush 119, 2) := by decide +kernel
theorem dX9_lineNow_66 : decode cX9_lineNow 66 = .ok (.invokevirtual 79, 3) := by decide +kernel
theorem dX9_lineNow_69 : decode cX9_lineNow 69 = .ok (.ifCond .eq 5, 3) := by decide +kernel
theorem dX9_lineNow_72 : decode cX9_lineNow 72 = .ok (.iconst 2, 1) := by decide +kernel
theorem dX9_lineNow_73 : decode cX9_lineNow 73 = .ok (.ireturn, 1) := by decide +kernel
theorem dX9_lineNow_74 : decode cX9_lineNow 74 = .ok (.aload_n 0, 1) := by decide +kernel
theorem dX9_lineNow_75 : decode cX9_lineNow 75 = .ok (.bipush 6, 2) := by decide +kernel
theorem dX9_lineNow_77 : decode cX9_lineNow 77 = .ok (.bipush 111, 2) := by decide +kernel
theorem dX9_lineNow_79 : decode cX9_lineNow 79 = .ok (.bipush 114, 2) := by decide +kernel
theorem dX9_lineNow_81 : decode cX9_lineNow 81 = .ok (.bipush 112, 2) := by decide +kernel
theorem dX9_lineNow_83 : decode cX9_lineNow 83 = .ok (.bipush 104, 2) := by decide +kernel
theorem dX9_lineNow_85 : decode cX9_lineNow 85 = .ok (.invokevirtual 79, 3) := by decide +kernel
theorem dX9_lineNow_88 : decode cX9_lineNow 88 = .ok (.ifCond .eq 18, 3) := by decide +kernel
theorem dX9_lineNow_91 : decode cX9_lineNow 91 = .ok (.aload_n 0, 1) := by decide +kernel
theorem dX9_lineNow_92 : decode cX9_lineNow 92 = .ok (.bipush 97, 2) := by decide +kernel
theorem dX9_lineNow_94 : decode cX9_lineNow 94 = .ok (.bipush 110, 2) := by decide +kernel
theorem dX9_lineNow_96 : decode cX9_lineNow 96 = .ok (.invokevirtual 83, 3) := by decide +kernel
theorem dX9_lineNow_99 : decode cX9_lineNow 99 = .ok (.ifCond .eq 7, 3) := by decide +kernel
theorem dX9_lineNow_102 : decode cX9_lineNow 102 = .ok (.iconst 3, 1) := by decide +kernel
theorem dX9_lineNow_103 : decode cX9_lineNow 103 = .ok (.goto 7, 3) := by decide +kernel
theorem dX9_lineNow_106 : decode cX9_lineNow 106 = .ok (.aload_n 0, 1) := by decide +kernel
theorem dX9_lineNow_107 : decode cX9_lineNow 107 = .ok (.invokevirtual 87, 3) := by decide +kernel
theorem dX9_lineNow_110 : decode cX9_lineNow 110 = .ok (.ireturn, 1) := by decide +kernel
def f_X9_lineNow_J56 (Λ : List Ly) (d : Dt) (p0 : Nat) : Option Int32 := if clsAt Λ p0 = some 9 then (Option.bind (f_X9_is Λ d p0 (4 : Int32) (115 : Int32) (108 : Int32) (111 : Int32) (119 : Int32)) fun z8 => if z8 = 0 then (Option.bind (f_X9_is Λ d p0 (6 : Int32) (111 : Int32) (114 : Int32) (112 : Int32) (104 : Int32)) fun z10 => if z10 = 0 then (Option.bind (f_X9_seasonNow Λ d p0) fun z12 => some z12) else (Option.bind (f_X9_ends Λ d p0 (97 : Int32) (110 : Int32)) fun z13 => if z13 = 0 then (Option.bind (f_X9_seasonNow Λ d p0) fun z15 => some z15) else (some (3 : Int32)))) else (some (2 : Int32))) else none
def f_X9_lineNow_J28 (Λ : List Ly) (d : Dt) (p0 : Nat) : Option Int32 := if clsAt Λ p0 = some 9 then (Option.bind (f_X9_is Λ d p0 (5 : Int32) (113 : Int32) (117 : Int32) (105 : Int32) (99 : Int32)) fun z5 => if z5 = 0 then (f_X9_lineNow_J56 Λ d p0) else (Option.bind (f_X9_ends Λ d p0 (107 : Int32) (0 : Int32)) fun z16 => if z16 = 0 then (f_X9_lineNow_J56 Λ d p0) else (some (1 : Int32)))) else none
def f_X9_lineNow (Λ : List Ly) (d : Dt) (p0 : Nat) : Option Int32 := if clsAt Λ p0 = some 9 then (Option.bind (f_X9_is Λ d p0 (5 : Int32) (112 : Int32) (108 : Int32) (97 : Int32) (105 : Int32)) fun z2 => if z2 = 0 then (f_X9_lineNow_J28 Λ d p0) else (Option.bind (f_X9_ends Λ d p0 (110 : Int32) (0 : Int32)) fun z18 => if z18 = 0 then (f_X9_lineNow_J28 Λ d p0) else (some (0 : Int32)))) else none
set_option maxHeartbeats 4000000 in
set_option maxRecDepth 100000 in
theorem w_X9_lineNow_J56 {p : Program} {l : Launch} {e : Env} {s : State} {m : MethodId} {args : Array Value} {below : List Frame} {meth : Method} {c : Code} {Γ : Cx} {Λ : List Ly} {z : Int32} {d : Dt} (C0 : Ct Γ p s m args c cX9_lineNow 1 "SeasonBoundModel") (hr : meth.sig.returnType = (some FieldType.int)) (hlocks : meth.locks = false) (p0 : Nat)
    (hf : f_X9_lineNow_J56 Λ d p0 = some z) (H : Heap) (locs : List Loc) (ls : Array Slot) (hH : Hs Γ Λ d s H locs) (hl : lv_has ls 1 [(0, .ref (Γ.2.2.1 + p0))]) : W p l e { frames := 3, cells := 0, slots := 0, locals := 66 } s m args below meth c H locs 0 0 (MQ below (QN Γ Λ d (some (.int z))) args s 0 0 (AP Γ)) (F0 m 56 ls []) := by
  obtain ⟨hx, hb, hml, hown, hts, hK⟩ := id C0
  unfold f_X9_lineNow_J56 at hf
  refine lv_aload_n hx hb dX9_lineNow_56 rfl (lv_at hl 0 rfl) ?_
  refine lv_iconst (v := (4 : Int32)) hx hb dX9_lineNow_57 (by decide) ?_
  refine lv_bipush (v := (115 : Int32)) hx hb dX9_lineNow_58 (by decide) ?_
  refine lv_bipush (v := (108 : Int32)) hx hb dX9_lineNow_60 (by decide) ?_
  refine lv_bipush (v := (111 : Int32)) hx hb dX9_lineNow_62 (by decide) ?_
  refine lv_bipush (v := (119 : Int32)) hx hb dX9_lineNow_64 (by decide) ?_
  obtain ⟨g7, hf⟩ := gd hf
  obtain ⟨z8, h8, hf⟩ := ob hf
  refine r_callVi (rest := []) C0 hH (c_X9_is Γ l Λ d p0 (4 : Int32) (115 : Int32) (108 : Int32) (111 : Int32) (119 : Int32) z8 h8) cv_X9_79 g7 (by decide) rfl hl.1 rfl (Nat.le_of_ble_eq_true rfl) dX9_lineNow_66 (by decide) (fun H locs hH => ?_)
  refine lv_if_eq (tgt := 74) hx hb dX9_lineNow_69 (by decide) (fun c9 => ?_) (fun c9 => ?_)
  · replace hf := it hf c9
    refine lv_aload_n hx hb dX9_lineNow_74 rfl (lv_at hl 0 rfl) ?_
    refine lv_bipush (v := (6 : Int32)) hx hb dX9_lineNow_75 (by decide) ?_
    refine lv_bipush (v := (111 : Int32)) hx hb dX9_lineNow_77 (by decide) ?_
    refine lv_bipush (v := (114 : Int32)) hx hb dX9_lineNow_79 (by decide) ?_
    refine lv_bipush (v := (112 : Int32)) hx hb dX9_lineNow_81 (by decide) ?_
    refine lv_bipush (v := (104 : Int32)) hx hb dX9_lineNow_83 (by decide) ?_
    obtain ⟨z10, h10, hf⟩ := ob hf
    refine r_callVi (rest := []) C0 hH (c_X9_is Γ l Λ d p0 (6 : Int32) (111 : Int32) (114 : Int32) (112 : Int32) (104 : Int32) z10 h10) cv_X9_79 g7 (by decide) rfl hl.1 rfl (Nat.le_of_ble_eq_true rfl) dX9_lineNow_85 (by decide) (fun H locs hH => ?_)
    refine lv_if_eq (tgt := 106) hx hb dX9_lineNow_88 (by decide) (fun c11 => ?_) (fun c11 => ?_)
    · replace hf := it hf c11
      refine lv_aload_n hx hb dX9_lineNow_106 rfl (lv_at hl 0 rfl) ?_
      obtain ⟨z12, h12, hf⟩ := ob hf
      refine r_callVi (rest := []) C0 hH (c_X9_seasonNow Γ l Λ d p0 z12 h12) cv_X9_87 g7 (by decide) rfl hl.1 rfl (Nat.le_of_ble_eq_true rfl) dX9_lineNow_107 (by decide) (fun H locs hH => ?_)
      obtain rfl := Option.some.inj hf
      exact r_iret (d' := d) C0 hr hlocks hH rfl dX9_lineNow_110
    · replace hf := ie hf c11
      refine lv_aload_n hx hb dX9_lineNow_91 rfl (lv_at hl 0 rfl) ?_
      refine lv_bipush (v := (97 : Int32)) hx hb dX9_lineNow_92 (by decide) ?_
      refine lv_bipush (v := (110 : Int32)) hx hb dX9_lineNow_94 (by decide) ?_
      obtain ⟨z13, h13, hf⟩ := ob hf
      refine r_callVi (rest := []) C0 hH (c_X9_ends Γ l Λ d p0 (97 : Int32) (110 : Int32) z13 h13) cv_X9_83 g7 (by decide) rfl hl.1 rfl (Nat.le_of_ble_eq_true rfl) dX9_lineNow_96 (by decide) (fun H locs hH => ?_)
      refine lv_if_eq (tgt := 106) hx hb dX9_lineNow_99 (by decide) (fun c14 => ?_) (fun c14 => ?_)
      · replace hf := it hf c14
        refine lv_aload_n hx hb dX9_lineNow_106 rfl (lv_at hl 0 rfl) ?_
        obtain ⟨z15, h15, hf⟩ := ob hf
        refine r_callVi (rest := []) C0 hH (c_X9_seasonNow Γ l Λ d p0 z15 h15) cv_X9_87 g7 (by decide) rfl hl.1 rfl (Nat.le_of_ble_eq_true rfl) dX9_lineNow_107 (by decide) (fun H locs hH => ?_)
        obtain rfl := Option.some.inj hf
        exact r_iret (d' := d) C0 hr hlocks hH rfl dX9_lineNow_110
      · replace hf := ie hf c14
        refine lv_iconst (v := (3 : Int32)) hx hb dX9_lineNow_102 (by decide) ?_
        refine lv_goto (tgt := 110) hx hb dX9_lineNow_103 (by decide) ?_
        obtain rfl := Option.some.inj hf
        exact r_iret (d' := d) C0 hr hlocks hH rfl dX9_lineNow_110
  · replace hf := ie hf c9
    refine lv_iconst (v := (2 : Int32)) hx hb dX9_lineNow_72 (by decide) ?_
    obtain rfl := Option.some.inj hf
    exact r_iret (d' := d) C0 hr hlocks hH rfl dX9_lineNow_73
set_option maxHeartbeats 4000000 in
set_option maxRecDepth 100000 in
theorem w_X9_lineNow_J28 {p : Program} {l : Launch} {e : Env} {s : State} {m : MethodId} {args : Array Value} {below : List Frame} {meth : Method} {c : Code} {Γ : Cx} {Λ : List Ly} {z : Int32} {d : Dt} (C0 : Ct Γ p s m args c cX9_lineNow 1 "SeasonBoundModel") (hr : meth.sig.returnType = (some FieldType.int)) (hlocks : meth.locks = false) (p0 : Nat)
    (hf : f_X9_lineNow_J28 Λ d p0 = some z) (H : Heap) (locs : List Loc) (ls : Array Slot) (hH : Hs Γ Λ d s H locs) (hl : lv_has ls 1 [(0, .ref (Γ.2.2.1 + p0))]) : W p l e { frames := 3, cells := 0, slots := 0, locals := 66 } s m args below meth c H locs 0 0 (MQ below (QN Γ Λ d (some (.int z))) args s 0 0 (AP Γ)) (F0 m 28 ls []) := by
  obtain ⟨hx, hb, hml, hown, hts, hK⟩ := id C0
  unfold f_X9_lineNow_J28 at hf
  refine lv_aload_n hx hb dX9_lineNow_28 rfl (lv_at hl 0 rfl) ?_
  refine lv_iconst (v := (5 : Int32)) hx hb dX9_lineNow_29 (by decide) ?_
  refine lv_bipush (v := (113 : Int32)) hx hb dX9_lineNow_30 (by decide) ?_
  refine lv_bipush (v := (117 : Int32)) hx hb dX9_lineNow_32 (by decide) ?_
  refine lv_bipush (v := (105 : Int32)) hx hb dX9_lineNow_34 (by decide) ?_
  refine lv_bipush (v := (99 : Int32)) hx hb dX9_lineNow_36 (by decide) ?_
  obtain ⟨g4, hf⟩ := gd hf
  obtain ⟨z5, h5, hf⟩ := ob hf
  refine r_callVi (rest := []) C0 hH (c_X9_is Γ l Λ d p0 (5 : Int32) (113 : Int32) (117 : Int32) (105 : Int32) (99 : Int32) z5 h5) cv_X9_79 g4 (by decide) rfl hl.1 rfl (Nat.le_of_ble_eq_true rfl) dX9_lineNow_38 (by decide) (fun H locs hH => ?_)
  refine lv_if_eq (tgt := 56) hx hb dX9_lineNow_41 (by decide) (fun c6 => ?_) (fun c6 => ?_)
  · replace hf := it hf c6
    exact w_X9_lineNow_J56 C0 hr hlocks p0 hf _ _ _ hH (lv_sub hl [0] rfl)
  · replace hf := ie hf c6
    refine lv_aload_n hx hb dX9_lineNow_44 rfl (lv_at hl 0 rfl) ?_
    refine lv_bipush (v := (107 : Int32)) hx hb dX9_lineNow_45 (by decide) ?_
    refine lv_iconst (v := (0 : Int32)) hx hb dX9_lineNow_47 (by decide) ?_
    obtain ⟨z16, h16, hf⟩ := ob hf
    refine r_callVi (rest := []) C0 hH (c_X9_ends Γ l Λ d p0 (107 : Int32) (0 : Int32) z16 h16) cv_X9_83 g4 (by decide) rfl hl.1 rfl (Nat.le_of_ble_eq_true rfl) dX9_lineNow_48 (by decide) (fun H locs hH => ?_)
    refine lv_if_eq (tgt := 56) hx hb dX9_lineNow_51 (by decide) (fun c17 => ?_) (fun c17 => ?_)
    · replace hf := it hf c17
      exact w_X9_lineNow_J56 C0 hr hlocks p0 hf _ _ _ hH (lv_sub hl [0] rfl)
    · replace hf := ie hf c17
      refine lv_iconst (v := (1 : Int32)) hx hb dX9_lineNow_54 (by decide) ?_
      obtain rfl := Option.some.inj hf
      exact r_iret (d' := d) C0 hr hlocks hH rfl dX9_lineNow_55
set_option maxHeartbeats 4000000 in
set_option maxRecDepth 100000 in
theorem c_X9_lineNow (Γ : Cx) (l : Launch) (Λ : List Ly) (d : Dt) (p0 : Nat) (z : Int32) (hf : f_X9_lineNow Λ d p0 = some z) : Cn Γ l yX9_lineNow cX9_lineNow 1 (some FieldType.int) 3 66 [.ref (Γ.2.2.1 + p0)] Λ d (some (.int z)) d := by
  refine Cn.of (own := "SeasonBoundModel") (by decide +kernel) rfl (Nat.le_of_ble_eq_true rfl) ?_
  intro p e s m below meth c C0 hr hlocks hH ls hl
  have hl : lv_has ls 1 [(0, .ref (Γ.2.2.1 + p0))] := hl
  obtain ⟨hx, hb, hml, hown, hts, hK⟩ := id C0
  unfold f_X9_lineNow at hf
  refine lv_aload_n hx hb dX9_lineNow_0 rfl (lv_at hl 0 rfl) ?_
  refine lv_iconst (v := (5 : Int32)) hx hb dX9_lineNow_1 (by decide) ?_
  refine lv_bipush (v := (112 : Int32)) hx hb dX9_lineNow_2 (by decide) ?_
  refine lv_bipush (v := (108 : Int32)) hx hb dX9_lineNow_4 (by decide) ?_
  refine lv_bipush (v := (97 : Int32)) hx hb dX9_lineNow_6 (by decide) ?_
  refine lv_bipush (v := (105 : Int32)) hx hb dX9_lineNow_8 (by decide) ?_
  obtain ⟨g1, hf⟩ := gd hf
  obtain ⟨z2, h2, hf⟩ := ob hf
  refine r_callVi (rest := []) C0 hH (c_X9_is Γ l Λ d p0 (5 : Int32) (112 : Int32) (108 : Int32) (97 : Int32) (105 : Int32) z2 h2) cv_X9_79 g1 (by decide) rfl hl.1 rfl (Nat.le_of_ble_eq_true rfl) dX9_lineNow_10 (by decide) (fun H locs hH => ?_)
  refine lv_if_eq (tgt := 28) hx hb dX9_lineNow_13 (by decide) (fun c3 => ?_) (fun c3 => ?_)
  · replace hf := it hf c3
    exact w_X9_lineNow_J28 C0 hr hlocks p0 hf _ _ _ hH (lv_sub hl [0] rfl)
  · replace hf := ie hf c3
    refine lv_aload_n hx hb dX9_lineNow_16 rfl (lv_at hl 0 rfl) ?_
    refine lv_bipush (v := (110 : Int32)) hx hb dX9_lineNow_17 (by decide) ?_
    refine lv_iconst (v := (0 : Int32)) hx hb dX9_lineNow_19 (by decide) ?_
    obtain ⟨z18, h18, hf⟩ := ob hf
    refine r_callVi (rest := []) C0 hH (c_X9_ends Γ l Λ d p0 (110 : Int32) (0 : Int32) z18 h18) cv_X9_83 g1 (by decide) rfl hl.1 rfl (Nat.le_of_ble_eq_true rfl) dX9_lineNow_20 (by decide) (fun H locs hH => ?_)
    refine lv_if_eq (tgt := 28) hx hb dX9_lineNow_23 (by decide) (fun c19 => ?_) (fun c19 => ?_)
    · replace hf := it hf c19
      exact w_X9_lineNow_J28 C0 hr hlocks p0 hf _ _ _ hH (lv_sub hl [0] rfl)
    · replace hf := ie hf c19
      refine lv_iconst (v := (0 : Int32)) hx hb dX9_lineNow_26 (by decide) ?_
      obtain rfl := Option.some.inj hf
      exact r_iret (d' := d) C0 hr hlocks hH rfl dX9_lineNow_27
theorem dX9_reads_0 : decode cX9_reads 0 = .ok (.aload_n 0, 1) := by decide +kernel
theorem dX9_reads_1 : decode cX9_reads 1 = .ok (.getfield 63, 3) := by decide +kernel
theorem dX9_reads_4 : decode cX9_reads 4 = .ok (.ifCond .le 4, 3) := by decide +kernel
theorem dX9_reads_7 : decode cX9_reads 7 = .ok (.return_, 1) := by decide +kernel
theorem dX9_reads_8 : decode cX9_reads 8 = .ok (.aload_n 0, 1) := by decide +kernel
theorem dX9_reads_9 : decode cX9_reads 9 = .ok (.aload_n 0, 1) := by decide +kernel
theorem dX9_reads_10 : decode cX9_reads 10 = .ok (.getfield 72, 3) := by decide +kernel
theorem dX9_reads_13 : decode cX9_reads 13 = .ok (.invokevirtual 75, 3) := by decide +kernel
theorem dX9_reads_16 : decode cX9_reads 16 = .ok (.bipush 32, 2) := by decide +kernel
theorem dX9_reads_18 : decode cX9_reads 18 = .ok (.if_icmp .ne 16, 3) := by decide +kernel
theorem dX9_reads_21 : decode cX9_reads 21 = .ok (.aload_n 0, 1) := by decide +kernel
theorem dX9_reads_22 : decode cX9_reads 22 = .ok (.dup, 1) := by decide +kernel
theorem dX9_reads_23 : decode cX9_reads 23 = .ok (.getfield 72, 3) := by decide +kernel
theorem dX9_reads_26 : decode cX9_reads 26 = .ok (.iconst 1, 1) := by decide +kernel
theorem dX9_reads_27 : decode cX9_reads 27 = .ok (.iadd, 1) := by decide +kernel
theorem dX9_reads_28 : decode cX9_reads 28 = .ok (.putfield 72, 3) := by decide +kernel
theorem dX9_reads_31 : decode cX9_reads 31 = .ok (.goto (-23), 3) := by decide +kernel
theorem dX9_reads_34 : decode cX9_reads 34 = .ok (.aload_n 0, 1) := by decide +kernel
theorem dX9_reads_35 : decode cX9_reads 35 = .ok (.aload_n 0, 1) := by decide +kernel
theorem dX9_reads_36 : decode cX9_reads 36 = .ok (.getfield 72, 3) := by decide +kernel
theorem dX9_reads_39 : decode cX9_reads 39 = .ok (.putfield 66, 3) := by decide +kernel
theorem dX9_reads_42 : decode cX9_reads 42 = .ok (.aload_n 0, 1) := by decide +kernel
theorem dX9_reads_43 : decode cX9_reads 43 = .ok (.aload_n 0, 1) := by decide +kernel
theorem dX9_reads_44 : decode cX9_reads 44 = .ok (.getfield 72, 3) := by decide +kernel
theorem dX9_reads_47 : decode cX9_reads 47 = .ok (.invokevirtual 75, 3) := by decide +kernel
theorem dX9_reads_50 : decode cX9_reads 50 = .ok (.istore_n 1, 1) := by decide +kernel
theorem dX9_reads_51 : decode cX9_reads 51 = .ok (.iload_n 1, 1) := by decide +kernel
theorem dX9_reads_52 : decode cX9_reads 52 = .ok (.ifCond .ge 11, 3) := by decide +kernel
theorem dX9_reads_55 : decode cX9_reads 55 = .ok (.aload_n 0, 1) := by decide +kernel
theorem dX9_reads_56 : decode cX9_reads 56 = .ok (.iconst 0, 1) := by decide +kernel
theorem dX9_reads_57 : decode cX9_reads 57 = .ok (.putfield 91, 3) := by decide +kernel
theorem dX9_reads_60 : decode cX9_reads 60 = .ok (.goto 214, 3) := by decide +kernel
theorem dX9_reads_63 : decode cX9_reads 63 = .ok (.iload_n 1, 1) := by decide +kernel
theorem dX9_reads_64 : decode cX9_reads 64 = .ok (.i2l, 1) := by decide +kernel
theorem dX9_reads_65 : decode cX9_reads 65 = .ok (.ldc2_w 94, 3) := by decide +kernel
theorem dX9_reads_68 : decode cX9_reads 68 = .ok (.ldc2_w 96, 3) := by decide +kernel
theorem dX9_reads_71 : decode cX9_reads 71 = .ok (.invokestatic 56, 3) := by decide +kernel
theorem dX9_reads_74 : decode cX9_reads 74 = .ok (.ifCond .eq 42, 3) := by decide +kernel
theorem dX9_reads_77 : decode cX9_reads 77 = .ok (.aload_n 0, 1) := by decide +kernel
theorem dX9_reads_78 : decode cX9_reads 78 = .ok (.iconst 1, 1) := by decide +kernel
theorem dX9_reads_79 : decode cX9_reads 79 = .ok (.putfield 91, 3) := by decide +kernel
theorem dX9_reads_82 : decode cX9_reads 82 = .ok (.aload_n 0, 1) := by decide +kernel
theorem dX9_reads_83 : decode cX9_reads 83 = .ok (.aload_n 0, 1) := by decide +kernel
theorem dX9_reads_84 : decode cX9_reads 84 = .ok (.getfield 72, 3) := by decide +kernel
theorem dX9_reads_87 : decode cX9_reads 87 = .ok (.invokevirtual 75, 3) := by decide +kernel
theorem dX9_reads_90 : decode cX9_reads 90 = .ok (.i2l, 1) := by decide +kernel
theorem dX9_reads_91 : decode cX9_reads 91 = .ok (.ldc2_w 94, 3) := by decide +kernel
theorem dX9_reads_94 : decode cX9_reads 94 = .ok (.ldc2_w 96, 3) := by decide +kernel
theorem dX9_reads_97 : decode cX9_reads 97 = .ok (.invokestatic 56, 3) := by decide +kernel
theorem dX9_reads_100 : decode cX9_reads 100 = .ok (.ifCond .eq 174, 3) := by decide +kernel
theorem dX9_reads_103 : decode cX9_reads 103 = .ok (.aload_n 0, 1) := by decide +kernel
theorem dX9_reads_104 : decode cX9_reads 104 = .ok (.dup, 1) := by decide +kernel
theorem dX9_reads_105 : decode cX9_reads 105 = .ok (.getfield 72, 3) := by decide +kernel
theorem dX9_reads_108 : decode cX9_reads 108 = .ok (.iconst 1, 1) := by decide +kernel
theorem dX9_reads_109 : decode cX9_reads 109 = .ok (.iadd, 1) := by decide +kernel
theorem dX9_reads_110 : decode cX9_reads 110 = .ok (.putfield 72, 3) := by decide +kernel
theorem dX9_reads_113 : decode cX9_reads 113 = .ok (.goto (-31), 3) := by decide +kernel
theorem dX9_reads_116 : decode cX9_reads 116 = .ok (.iload_n 1, 1) := by decide +kernel
theorem dX9_reads_117 : decode cX9_reads 117 = .ok (.i2l, 1) := by decide +kernel
theorem dX9_reads_118 : decode cX9_reads 118 = .ok (.ldc2_w 98, 3) := by decide +kernel
theorem dX9_reads_121 : decode cX9_reads 121 = .ok (.ldc2_w 100, 3) := by decide +kernel
theorem dX9_reads_124 : decode cX9_reads 124 = .ok (.invokestatic 56, 3) := by decide +kernel
theorem dX9_reads_127 : decode cX9_reads 127 = .ok (.ifCond .eq 116, 3) := by decide +kernel
theorem dX9_reads_130 : decode cX9_reads 130 = .ok (.aload_n 0, 1) := by decide +kernel
theorem dX9_reads_131 : decode cX9_reads 131 = .ok (.iconst 2, 1) := by decide +kernel
theorem dX9_reads_132 : decode cX9_reads 132 = .ok (.putfield 91, 3) := by decide +kernel
theorem dX9_reads_135 : decode cX9_reads 135 = .ok (.aload_n 0, 1) := by decide +kernel
theorem dX9_reads_136 : decode cX9_reads 136 = .ok (.iconst 0, 1) := by decide +kernel
theorem dX9_reads_137 : decode cX9_reads 137 = .ok (.putfield 102, 3) := by decide +kernel
theorem dX9_reads_140 : decode cX9_reads 140 = .ok (.aload_n 0, 1) := by decide +kernel
theorem dX9_reads_141 : decode cX9_reads 141 = .ok (.aload_n 0, 1) := by decide +kernel
theorem dX9_reads_142 : decode cX9_reads 142 = .ok (.getfield 72, 3) := by decide +kernel
theorem dX9_reads_145 : decode cX9_reads 145 = .ok (.invokevirtual 75, 3) := by decide +kernel
theorem dX9_reads_148 : decode cX9_reads 148 = .ok (.i2l, 1) := by decide +kernel
theorem dX9_reads_149 : decode cX9_reads 149 = .ok (.ldc2_w 98, 3) := by decide +kernel
theorem dX9_reads_152 : decode cX9_reads 152 = .ok (.ldc2_w 100, 3) := by decide +kernel
theorem dX9_reads_155 : decode cX9_reads 155 = .ok (.invokestatic 56, 3) := by decide +kernel
theorem dX9_reads_158 : decode cX9_reads 158 = .ok (.ifCond .eq 59, 3) := by decide +kernel
theorem dX9_reads_161 : decode cX9_reads 161 = .ok (.aload_n 0, 1) := by decide +kernel
theorem dX9_reads_162 : decode cX9_reads 162 = .ok (.aload_n 0, 1) := by decide +kernel
theorem dX9_reads_163 : decode cX9_reads 163 = .ok (.getfield 72, 3) := by decide +kernel
theorem dX9_reads_166 : decode cX9_reads 166 = .ok (.aload_n 0, 1) := by decide +kernel
theorem dX9_reads_167 : decode cX9_reads 167 = .ok (.getfield 66, 3) := by decide +kernel
theorem dX9_reads_170 : decode cX9_reads 170 = .ok (.isub, 1) := by decide +kernel
theorem dX9_reads_171 : decode cX9_reads 171 = .ok (.iconst 2, 1) := by decide +kernel
theorem dX9_reads_172 : decode cX9_reads 172 = .ok (.if_icmp .ge 25, 3) := by decide +kernel
theorem dX9_reads_175 : decode cX9_reads 175 = .ok (.bipush 10, 2) := by decide +kernel
theorem dX9_reads_177 : decode cX9_reads 177 = .ok (.aload_n 0, 1) := by decide +kernel
theorem dX9_reads_178 : decode cX9_reads 178 = .ok (.getfield 102, 3) := by decide +kernel
theorem dX9_reads_181 : decode cX9_reads 181 = .ok (.imul, 1) := by decide +kernel
theorem dX9_reads_182 : decode cX9_reads 182 = .ok (.aload_n 0, 1) := by decide +kernel
theorem dX9_reads_183 : decode cX9_reads 183 = .ok (.aload_n 0, 1) := by decide +kernel
theorem dX9_reads_184 : decode cX9_reads 184 = .ok (.getfield 72, 3) := by decide +kernel
theorem dX9_reads_187 : decode cX9_reads 187 = .ok (.invokevirtual 75, 3) := by decide +kernel
theorem dX9_reads_190 : decode cX9_reads 190 = .ok (.iadd, 1) := by decide +kernel
theorem dX9_reads_191 : decode cX9_reads 191 = .ok (.bipush 48, 2) := by decide +kernel
theorem dX9_reads_193 : decode cX9_reads 193 = .ok (.isub, 1) := by decide +kernel
theorem dX9_reads_194 : decode cX9_reads 194 = .ok (.goto 7, 3) := by decide +kernel
theorem dX9_reads_197 : decode cX9_reads 197 = .ok (.aload_n 0, 1) := by decide +kernel
theorem dX9_reads_198 : decode cX9_reads 198 = .ok (.getfield 102, 3) := by decide +kernel
theorem dX9_reads_201 : decode cX9_reads 201 = .ok (.putfield 102, 3) := by decide +kernel
theorem dX9_reads_204 : decode cX9_reads 204 = .ok (.aload_n 0, 1) := by decide +kernel
theorem dX9_reads_205 : decode cX9_reads 205 = .ok (.dup, 1) := by decide +kernel
theorem dX9_reads_206 : decode cX9_reads 206 = .ok (.getfield 72, 3) := by decide +kernel
theorem dX9_reads_209 : decode cX9_reads 209 = .ok (.iconst 1, 1) := by decide +kernel
theorem dX9_reads_210 : decode cX9_reads 210 = .ok (.iadd, 1) := by decide +kernel
theorem dX9_reads_211 : decode cX9_reads 211 = .ok (.putfield 72, 3) := by decide +kernel
theorem dX9_reads_214 : decode cX9_reads 214 = .ok (.goto (-74), 3) := by decide +kernel
theorem dX9_reads_217 : decode cX9_reads 217 = .ok (.aload_n 0, 1) := by decide +kernel
theorem dX9_reads_218 : decode cX9_reads 218 = .ok (.aload_n 0, 1) := by decide +kernel
theorem dX9_reads_219 : decode cX9_reads 219 = .ok (.getfield 72, 3) := by decide +kernel
theorem dX9_reads_222 : decode cX9_reads 222 = .ok (.aload_n 0, 1) := by decide +kernel
theorem dX9_reads_223 : decode cX9_reads 223 = .ok (.getfield 66, 3) := by decide +kernel
theorem dX9_reads_226 : decode cX9_reads 226 = .ok (.isub, 1) := by decide +kernel
theorem dX9_reads_227 : decode cX9_reads 227 = .ok (.iconst 2, 1) := by decide +kernel
theorem dX9_reads_228 : decode cX9_reads 228 = .ok (.if_icmp .gt 7, 3) := by decide +kernel
theorem dX9_reads_231 : decode cX9_reads 231 = .ok (.iconst 1, 1) := by decide +kernel
theorem dX9_reads_232 : decode cX9_reads 232 = .ok (.goto 4, 3) := by decide +kernel
theorem dX9_reads_235 : decode cX9_reads 235 = .ok (.iconst 0, 1) := by decide +kernel
theorem dX9_reads_236 : decode cX9_reads 236 = .ok (.iconst 1, 1) := by decide +kernel
theorem dX9_reads_237 : decode cX9_reads 237 = .ok (.invokevirtual 105, 3) := by decide +kernel
theorem dX9_reads_240 : decode cX9_reads 240 = .ok (.goto 34, 3) := by decide +kernel
theorem dX9_reads_243 : decode cX9_reads 243 = .ok (.aload_n 0, 1) := by decide +kernel
theorem dX9_reads_244 : decode cX9_reads 244 = .ok (.iconst 3, 1) := by decide +kernel
theorem dX9_reads_245 : decode cX9_reads 245 = .ok (.putfield 91, 3) := by decide +kernel
theorem dX9_reads_248 : decode cX9_reads 248 = .ok (.aload_n 0, 1) := by decide +kernel
theorem dX9_reads_249 : decode cX9_reads 249 = .ok (.iload_n 1, 1) := by decide +kernel
theorem dX9_reads_250 : decode cX9_reads 250 = .ok (.bipush 59, 2) := by decide +kernel
theorem dX9_reads_252 : decode cX9_reads 252 = .ok (.if_icmp .ne 7, 3) := by decide +kernel
theorem dX9_reads_255 : decode cX9_reads 255 = .ok (.iconst 1, 1) := by decide +kernel
theorem dX9_reads_256 : decode cX9_reads 256 = .ok (.goto 4, 3) := by decide +kernel
theorem dX9_reads_259 : decode cX9_reads 259 = .ok (.iconst 0, 1) := by decide +kernel
theorem dX9_reads_260 : decode cX9_reads 260 = .ok (.iconst 1, 1) := by decide +kernel
theorem dX9_reads_261 : decode cX9_reads 261 = .ok (.invokevirtual 105, 3) := by decide +kernel
theorem dX9_reads_264 : decode cX9_reads 264 = .ok (.aload_n 0, 1) := by decide +kernel
theorem dX9_reads_265 : decode cX9_reads 265 = .ok (.dup, 1) := by decide +kernel
theorem dX9_reads_266 : decode cX9_reads 266 = .ok (.getfield 72, 3) := by decide +kernel
theorem dX9_reads_269 : decode cX9_reads 269 = .ok (.iconst 1, 1) := by decide +kernel
theorem dX9_reads_270 : decode cX9_reads 270 = .ok (.iadd, 1) := by decide +kernel
theorem dX9_reads_271 : decode cX9_reads 271 = .ok (.putfield 72, 3) := by decide +kernel
theorem dX9_reads_274 : decode cX9_reads 274 = .ok (.return_, 1) := by decide +kernel
def f_X9_reads_L8 (Λ : List Ly) (p0 : Nat) (k34 : Dt → Option Dt) : Nat → Dt → Option Dt
  | 0, _ => none
  | n + 1, d => if clsAt Λ p0 = some 9 then (Option.bind (f_X9_byteAt Λ d p0 (d.1 p0 7)) fun z4 => if z4 = (32 : Int32) then (f_X9_reads_L8 Λ p0 k34 n (pI d p0 7 ((d.1 p0 7) + (1 : Int32)))) else (k34 d)) else none
def f_X9_reads_L140 (Λ : List Ly) (p0 : Nat) (k217 : Dt → Option Dt) : Nat → Dt → Option Dt
  | 0, _ => none
  | n + 1, d => if clsAt Λ p0 = some 9 then (Option.bind (f_X9_byteAt Λ d p0 (d.1 p0 7)) fun z15 => if (f_X9_in (z15).toInt64 (48 : Int64) (57 : Int64)) = 0 then (k217 d) else (if (2 : Int32) ≤ ((d.1 p0 7) - (d.1 p0 8)) then (f_X9_reads_L140 Λ p0 k217 n (pI (pI d p0 10 (d.1 p0 10)) p0 7 (((pI d p0 10 (d.1 p0 10)).1 p0 7) + (1 : Int32)))) else (Option.bind (f_X9_byteAt Λ d p0 (d.1 p0 7)) fun z18 => f_X9_reads_L140 Λ p0 k217 n (pI (pI d p0 10 ((((10 : Int32) * (d.1 p0 10)) + z18) - (48 : Int32))) p0 7 (((pI d p0 10 ((((10 : Int32) * (d.1 p0 10)) + z18) - (48 : Int32))).1 p0 7) + (1 : Int32)))))) else none
def f_X9_reads_L82 (Λ : List Ly) (p0 : Nat) : Nat → Dt → Option Dt
  | 0, _ => none
  | n + 1, d => if clsAt Λ p0 = some 9 then (Option.bind (f_X9_byteAt Λ d p0 (d.1 p0 7)) fun z24 => if (f_X9_in (z24).toInt64 (97 : Int64) (122 : Int64)) = 0 then (some d) else (f_X9_reads_L82 Λ p0 n (pI d p0 7 ((d.1 p0 7) + (1 : Int32))))) else none
def f_X9_reads (Λ : List Ly) (d : Dt) (p0 : Nat) : Option Dt := if clsAt Λ p0 = some 9 then (if (d.1 p0 11) ≤ 0 then (f_X9_reads_L8 Λ p0 (fun d6 => Option.bind (f_X9_byteAt Λ (pI d6 p0 8 (d6.1 p0 7)) p0 ((pI d6 p0 8 (d6.1 p0 7)).1 p0 7)) fun z7 => if 0 ≤ z7 then (if (f_X9_in (z7).toInt64 (97 : Int64) (122 : Int64)) = 0 then (if (f_X9_in (z7).toInt64 (48 : Int64) (57 : Int64)) = 0 then (if z7 = (59 : Int32) then (Option.bind (f_X9_needs Λ (pI (pI d6 p0 8 (d6.1 p0 7)) p0 9 (3 : Int32)) p0 (1 : Int32) (1 : Int32)) fun z13 => some (pI z13 p0 7 ((z13.1 p0 7) + (1 : Int32)))) else (Option.bind (f_X9_needs Λ (pI (pI d6 p0 8 (d6.1 p0 7)) p0 9 (3 : Int32)) p0 (0 : Int32) (1 : Int32)) fun z12 => some (pI z12 p0 7 ((z12.1 p0 7) + (1 : Int32))))) else (f_X9_reads_L140 Λ p0 (fun d19 => if (2 : Int32) < ((d19.1 p0 7) - (d19.1 p0 8)) then (Option.bind (f_X9_needs Λ d19 p0 (0 : Int32) (1 : Int32)) fun z21 => some z21) else (Option.bind (f_X9_needs Λ d19 p0 (1 : Int32) (1 : Int32)) fun z22 => some z22)) FU (pI (pI (pI d6 p0 8 (d6.1 p0 7)) p0 9 (2 : Int32)) p0 10 (0 : Int32)))) else (f_X9_reads_L82 Λ p0 FU (pI (pI d6 p0 8 (d6.1 p0 7)) p0 9 (1 : Int32)))) else (some (pI (pI d6 p0 8 (d6.1 p0 7)) p0 9 (0 : Int32)))) FU d) else (some d)) else none
set_option maxHeartbeats 4000000 in
set_option maxRecDepth 100000 in
theorem w_X9_reads_L8 {p : Program} {l : Launch} {e : Env} {s : State} {m : MethodId} {args : Array Value} {below : List Frame} {meth : Method} {c : Code} {Γ : Cx} {Λ : List Ly} {z : Dt} (C0 : Ct Γ p s m args c cX9_reads 2 "SeasonBoundModel") (hr : meth.sig.returnType = none) (hlocks : meth.locks = false) (k34 : Dt → Option Dt) (p0 : Nat)
    (hk34 : ∀  (d : Dt), (k34 d = some z) → ∀ (H : Heap) (locs : List Loc) (ls : Array Slot), Hs Γ Λ d s H locs → lv_has ls 2 [(0, .ref (Γ.2.2.1 + p0))] → W p l e { frames := 1, cells := 0, slots := 0, locals := 25 } s m args below meth c H locs 0 0 (MQ below (QN Γ Λ z none) args s 0 0 (AP Γ)) (F0 m 34 ls [])) :
    ∀ (n : Nat)  (d : Dt), f_X9_reads_L8 Λ p0 k34 n d = some z → ∀ (H : Heap) (locs : List Loc) (ls : Array Slot), Hs Γ Λ d s H locs → lv_has ls 2 [(0, .ref (Γ.2.2.1 + p0))] → W p l e { frames := 1, cells := 0, slots := 0, locals := 25 } s m args below meth c H locs 0 0 (MQ below (QN Γ Λ z none) args s 0 0 (AP Γ)) (F0 m 8 ls []) := by
  obtain ⟨hx, hb, hml, hown, hts, hK⟩ := id C0
  intro n
  induction n with
  | zero =>
    intro d hf
    cases hf
  | succ n ih =>
    intro d hf H locs ls hH hl
    unfold f_X9_reads_L8 at hf
    refine lv_aload_n hx hb dX9_reads_8 rfl (lv_at hl 0 rfl) ?_
    refine lv_aload_n hx hb dX9_reads_9 rfl (lv_at hl 0 rfl) ?_
    obtain ⟨g3, hf⟩ := gd hf
    refine r_geti C0 hH fl_X9_72 g3 rfl dX9_reads_10 ?_
    obtain ⟨z4, h4, hf⟩ := ob hf
    refine r_callVi (rest := []) C0 hH (c_X9_byteAt Γ l Λ d p0 (d.1 p0 7) z4 h4) cv_X9_75 g3 (by decide) rfl hl.1 rfl (Nat.le_of_ble_eq_true rfl) dX9_reads_13 (by decide) (fun H locs hH => ?_)
    refine lv_bipush (v := (32 : Int32)) hx hb dX9_reads_16 (by decide) ?_
    refine lv_icmp_ne (tgt := 34) hx hb dX9_reads_18 (by decide) (fun c5 => ?_) (fun c5 => ?_)
    · replace hf := ie hf c5
      exact hk34 d hf _ _ _ hH (lv_sub hl [0] rfl)
    · replace hf := it hf c5
      refine lv_aload_n hx hb dX9_reads_21 rfl (lv_at hl 0 rfl) ?_
      refine lv_dup hx hb dX9_reads_22 rfl ?_
      refine r_geti C0 hH fl_X9_72 g3 rfl dX9_reads_23 ?_
      refine lv_iconst (v := (1 : Int32)) hx hb dX9_reads_26 (by decide) ?_
      refine lv_iadd hx hb dX9_reads_27 ?_
      refine r_puti C0 hH fw_X9_72 g3 rfl dX9_reads_28 (fun H locs hH => ?_)
      refine lv_goto (tgt := 8) hx hb dX9_reads_31 (by decide) ?_
      exact ih (pI d p0 7 ((d.1 p0 7) + (1 : Int32))) hf _ _ _ hH (lv_sub hl [0] rfl)
set_option maxHeartbeats 4000000 in
set_option maxRecDepth 100000 in
theorem w_X9_reads_L140 {p : Program} {l : Launch} {e : Env} {s : State} {m : MethodId} {args : Array Value} {below : List Frame} {meth : Method} {c : Code} {Γ : Cx} {Λ : List Ly} {z : Dt} (C0 : Ct Γ p s m args c cX9_reads 2 "SeasonBoundModel") (hr : meth.sig.returnType = none) (hlocks : meth.locks = false) (k217 : Dt → Option Dt) (p0 : Nat)
    (hk217 : ∀  (d : Dt), (k217 d = some z) → ∀ (H : Heap) (locs : List Loc) (ls : Array Slot), Hs Γ Λ d s H locs → lv_has ls 2 [(0, .ref (Γ.2.2.1 + p0))] → W p l e { frames := 1, cells := 0, slots := 0, locals := 25 } s m args below meth c H locs 0 0 (MQ below (QN Γ Λ z none) args s 0 0 (AP Γ)) (F0 m 217 ls [])) :
    ∀ (n : Nat)  (d : Dt), f_X9_reads_L140 Λ p0 k217 n d = some z → ∀ (H : Heap) (locs : List Loc) (ls : Array Slot), Hs Γ Λ d s H locs → lv_has ls 2 [(0, .ref (Γ.2.2.1 + p0))] → W p l e { frames := 1, cells := 0, slots := 0, locals := 25 } s m args below meth c H locs 0 0 (MQ below (QN Γ Λ z none) args s 0 0 (AP Γ)) (F0 m 140 ls []) := by
  obtain ⟨hx, hb, hml, hown, hts, hK⟩ := id C0
  intro n
  induction n with
  | zero =>
    intro d hf
    cases hf
  | succ n ih =>
    intro d hf H locs ls hH hl
    unfold f_X9_reads_L140 at hf
    refine lv_aload_n hx hb dX9_reads_140 rfl (lv_at hl 0 rfl) ?_
    refine lv_aload_n hx hb dX9_reads_141 rfl (lv_at hl 0 rfl) ?_
    obtain ⟨g14, hf⟩ := gd hf
    refine r_geti C0 hH fl_X9_72 g14 rfl dX9_reads_142 ?_
    obtain ⟨z15, h15, hf⟩ := ob hf
    refine r_callVi (rest := []) C0 hH (c_X9_byteAt Γ l Λ d p0 (d.1 p0 7) z15 h15) cv_X9_75 g14 (by decide) rfl hl.1 rfl (Nat.le_of_ble_eq_true rfl) dX9_reads_145 (by decide) (fun H locs hH => ?_)
    refine lv_i2l (v := (z15).toInt64) hx hb dX9_reads_148 rfl ?_
    refine lv_ldc2 hx hb hown (hts _ kl_X9_98) dX9_reads_149 ?_
    refine lv_ldc2 hx hb hown (hts _ kl_X9_100) dX9_reads_152 ?_
    refine r_callSi (rest := []) C0 hH (c_X9_in Γ l Λ d (z15).toInt64 (48 : Int64) (57 : Int64)) cs_X9_56 (by decide) rfl hl.1 rfl (Nat.le_of_ble_eq_true rfl) dX9_reads_155 (by decide) (fun H locs hH => ?_)
    refine lv_if_eq (tgt := 217) hx hb dX9_reads_158 (by decide) (fun c16 => ?_) (fun c16 => ?_)
    · replace hf := it hf c16
      exact hk217 d hf _ _ _ hH (lv_sub hl [0] rfl)
    · replace hf := ie hf c16
      refine lv_aload_n hx hb dX9_reads_161 rfl (lv_at hl 0 rfl) ?_
      refine lv_aload_n hx hb dX9_reads_162 rfl (lv_at hl 0 rfl) ?_
      refine r_geti C0 hH fl_X9_72 g14 rfl dX9_reads_163 ?_
      refine lv_aload_n hx hb dX9_reads_166 rfl (lv_at hl 0 rfl) ?_
      refine r_geti C0 hH fl_X9_66 g14 rfl dX9_reads_167 ?_
      refine lv_isub hx hb dX9_reads_170 ?_
      refine lv_iconst (v := (2 : Int32)) hx hb dX9_reads_171 (by decide) ?_
      refine lv_icmp_ge (tgt := 197) hx hb dX9_reads_172 (by decide) (fun c17 => ?_) (fun c17 => ?_)
      · replace hf := it hf c17
        refine lv_aload_n hx hb dX9_reads_197 rfl (lv_at hl 0 rfl) ?_
        refine r_geti C0 hH fl_X9_102 g14 rfl dX9_reads_198 ?_
        refine r_puti C0 hH fw_X9_102 g14 rfl dX9_reads_201 (fun H locs hH => ?_)
        refine lv_aload_n hx hb dX9_reads_204 rfl (lv_at hl 0 rfl) ?_
        refine lv_dup hx hb dX9_reads_205 rfl ?_
        refine r_geti C0 hH fl_X9_72 g14 rfl dX9_reads_206 ?_
        refine lv_iconst (v := (1 : Int32)) hx hb dX9_reads_209 (by decide) ?_
        refine lv_iadd hx hb dX9_reads_210 ?_
        refine r_puti C0 hH fw_X9_72 g14 rfl dX9_reads_211 (fun H locs hH => ?_)
        refine lv_goto (tgt := 140) hx hb dX9_reads_214 (by decide) ?_
        exact ih (pI (pI d p0 10 (d.1 p0 10)) p0 7 (((pI d p0 10 (d.1 p0 10)).1 p0 7) + (1 : Int32))) hf _ _ _ hH (lv_sub hl [0] rfl)
      · replace hf := ie hf c17
        refine lv_bipush (v := (10 : Int32)) hx hb dX9_reads_175 (by decide) ?_
        refine lv_aload_n hx hb dX9_reads_177 rfl (lv_at hl 0 rfl) ?_
        refine r_geti C0 hH fl_X9_102 g14 rfl dX9_reads_178 ?_
        refine lv_imul hx hb dX9_reads_181 ?_
        refine lv_aload_n hx hb dX9_reads_182 rfl (lv_at hl 0 rfl) ?_
        refine lv_aload_n hx hb dX9_reads_183 rfl (lv_at hl 0 rfl) ?_
        refine r_geti C0 hH fl_X9_72 g14 rfl dX9_reads_184 ?_
        obtain ⟨z18, h18, hf⟩ := ob hf
        refine r_callVi (rest := [.int ((10 : Int32) * (d.1 p0 10)), .ref (Γ.2.2.1 + p0)]) C0 hH (c_X9_byteAt Γ l Λ d p0 (d.1 p0 7) z18 h18) cv_X9_75 g14 (by decide) rfl hl.1 rfl (Nat.le_of_ble_eq_true rfl) dX9_reads_187 (by decide) (fun H locs hH => ?_)
        refine lv_iadd hx hb dX9_reads_190 ?_
        refine lv_bipush (v := (48 : Int32)) hx hb dX9_reads_191 (by decide) ?_
        refine lv_isub hx hb dX9_reads_193 ?_
        refine lv_goto (tgt := 201) hx hb dX9_reads_194 (by decide) ?_
        refine r_puti C0 hH fw_X9_102 g14 rfl dX9_reads_201 (fun H locs hH => ?_)
        refine lv_aload_n hx hb dX9_reads_204 rfl (lv_at hl 0 rfl) ?_
        refine lv_dup hx hb dX9_reads_205 rfl ?_
        refine r_geti C0 hH fl_X9_72 g14 rfl dX9_reads_206 ?_
        refine lv_iconst (v := (1 : Int32)) hx hb dX9_reads_209 (by decide) ?_
        refine lv_iadd hx hb dX9_reads_210 ?_
        refine r_puti C0 hH fw_X9_72 g14 rfl dX9_reads_211 (fun H locs hH => ?_)
        refine lv_goto (tgt := 140) hx hb dX9_reads_214 (by decide) ?_
        exact ih (pI (pI d p0 10 ((((10 : Int32) * (d.1 p0 10)) + z18) - (48 : Int32))) p0 7 (((pI d p0 10 ((((10 : Int32) * (d.1 p0 10)) + z18) - (48 : Int32))).1 p0 7) + (1 : Int32))) hf _ _ _ hH (lv_sub hl [0] rfl)
set_option maxHeartbeats 4000000 in
set_option maxRecDepth 100000 in
theorem w_X9_reads_L82 {p : Program} {l : Launch} {e : Env} {s : State} {m : MethodId} {args : Array Value} {below : List Frame} {meth : Method} {c : Code} {Γ : Cx} {Λ : List Ly} {z : Dt} (C0 : Ct Γ p s m args c cX9_reads 2 "SeasonBoundModel") (hr : meth.sig.returnType = none) (hlocks : meth.locks = false) (p0 : Nat) :
    ∀ (n : Nat)  (d : Dt), f_X9_reads_L82 Λ p0 n d = some z → ∀ (H : Heap) (locs : List Loc) (ls : Array Slot), Hs Γ Λ d s H locs → lv_has ls 2 [(0, .ref (Γ.2.2.1 + p0))] → W p l e { frames := 1, cells := 0, slots := 0, locals := 25 } s m args below meth c H locs 0 0 (MQ below (QN Γ Λ z none) args s 0 0 (AP Γ)) (F0 m 82 ls []) := by
  obtain ⟨hx, hb, hml, hown, hts, hK⟩ := id C0
  intro n
  induction n with
  | zero =>
    intro d hf
    cases hf
  | succ n ih =>
    intro d hf H locs ls hH hl
    unfold f_X9_reads_L82 at hf
    refine lv_aload_n hx hb dX9_reads_82 rfl (lv_at hl 0 rfl) ?_
    refine lv_aload_n hx hb dX9_reads_83 rfl (lv_at hl 0 rfl) ?_
    obtain ⟨g23, hf⟩ := gd hf
    refine r_geti C0 hH fl_X9_72 g23 rfl dX9_reads_84 ?_
    obtain ⟨z24, h24, hf⟩ := ob hf
    refine r_callVi (rest := []) C0 hH (c_X9_byteAt Γ l Λ d p0 (d.1 p0 7) z24 h24) cv_X9_75 g23 (by decide) rfl hl.1 rfl (Nat.le_of_ble_eq_true rfl) dX9_reads_87 (by decide) (fun H locs hH => ?_)
    refine lv_i2l (v := (z24).toInt64) hx hb dX9_reads_90 rfl ?_
    refine lv_ldc2 hx hb hown (hts _ kl_X9_94) dX9_reads_91 ?_
    refine lv_ldc2 hx hb hown (hts _ kl_X9_96) dX9_reads_94 ?_
    refine r_callSi (rest := []) C0 hH (c_X9_in Γ l Λ d (z24).toInt64 (97 : Int64) (122 : Int64)) cs_X9_56 (by decide) rfl hl.1 rfl (Nat.le_of_ble_eq_true rfl) dX9_reads_97 (by decide) (fun H locs hH => ?_)
    refine lv_if_eq (tgt := 274) hx hb dX9_reads_100 (by decide) (fun c25 => ?_) (fun c25 => ?_)
    · replace hf := it hf c25
      obtain rfl := Option.some.inj hf
      exact r_vret C0 hr hlocks hH dX9_reads_274
    · replace hf := ie hf c25
      refine lv_aload_n hx hb dX9_reads_103 rfl (lv_at hl 0 rfl) ?_
      refine lv_dup hx hb dX9_reads_104 rfl ?_
      refine r_geti C0 hH fl_X9_72 g23 rfl dX9_reads_105 ?_
      refine lv_iconst (v := (1 : Int32)) hx hb dX9_reads_108 (by decide) ?_
      refine lv_iadd hx hb dX9_reads_109 ?_
      refine r_puti C0 hH fw_X9_72 g23 rfl dX9_reads_110 (fun H locs hH => ?_)
      refine lv_goto (tgt := 82) hx hb dX9_reads_113 (by decide) ?_
      exact ih (pI d p0 7 ((d.1 p0 7) + (1 : Int32))) hf _ _ _ hH (lv_sub hl [0] rfl)
set_option maxHeartbeats 4000000 in
set_option maxRecDepth 100000 in
theorem c_X9_reads (Γ : Cx) (l : Launch) (Λ : List Ly) (d : Dt) (p0 : Nat) (z : Dt) (hf : f_X9_reads Λ d p0 = some z) : Cn Γ l yX9_reads cX9_reads 2 none 1 25 [.ref (Γ.2.2.1 + p0)] Λ d none z := by
  refine Cn.of (own := "SeasonBoundModel") (by decide +kernel) rfl (Nat.le_of_ble_eq_true rfl) ?_
  intro p e s m below meth c C0 hr hlocks hH ls hl
  have hl : lv_has ls 2 [(0, .ref (Γ.2.2.1 + p0))] := hl
  obtain ⟨hx, hb, hml, hown, hts, hK⟩ := id C0
  unfold f_X9_reads at hf
  refine lv_aload_n hx hb dX9_reads_0 rfl (lv_at hl 0 rfl) ?_
  obtain ⟨g1, hf⟩ := gd hf
  refine r_geti C0 hH fl_X9_63 g1 rfl dX9_reads_1 ?_
  refine lv_if_le (tgt := 8) hx hb dX9_reads_4 (by decide) (fun c2 => ?_) (fun c2 => ?_)
  · replace hf := it hf c2
    refine w_X9_reads_L8 C0 hr hlocks _ p0 ?k34 FU d hf _ _ _ hH (lv_sub hl [0] rfl)
    case k34 =>
      intro d6 hf H locs ls hH hl
      refine lv_aload_n hx hb dX9_reads_34 rfl (lv_at hl 0 rfl) ?_
      refine lv_aload_n hx hb dX9_reads_35 rfl (lv_at hl 0 rfl) ?_
      refine r_geti C0 hH fl_X9_72 g1 rfl dX9_reads_36 ?_
      refine r_puti C0 hH fw_X9_66 g1 rfl dX9_reads_39 (fun H locs hH => ?_)
      refine lv_aload_n hx hb dX9_reads_42 rfl (lv_at hl 0 rfl) ?_
      refine lv_aload_n hx hb dX9_reads_43 rfl (lv_at hl 0 rfl) ?_
      refine r_geti C0 hH fl_X9_72 g1 rfl dX9_reads_44 ?_
      obtain ⟨z7, h7, hf⟩ := ob hf
      refine r_callVi (rest := []) C0 hH (c_X9_byteAt Γ l Λ (pI d6 p0 8 (d6.1 p0 7)) p0 ((pI d6 p0 8 (d6.1 p0 7)).1 p0 7) z7 h7) cv_X9_75 g1 (by decide) rfl hl.1 rfl (Nat.le_of_ble_eq_true rfl) dX9_reads_47 (by decide) (fun H locs hH => ?_)
      refine lv_istore_n (lv' := [(1, .int z7), (0, .ref (Γ.2.2.1 + p0))]) hx hb dX9_reads_50 rfl hl (by decide) rfl (fun ls hl => ?_)
      refine lv_iload_n hx hb dX9_reads_51 rfl (lv_at hl 0 rfl) ?_
      refine lv_if_ge (tgt := 63) hx hb dX9_reads_52 (by decide) (fun c8 => ?_) (fun c8 => ?_)
      · replace hf := it hf c8
        refine lv_iload_n hx hb dX9_reads_63 rfl (lv_at hl 0 rfl) ?_
        refine lv_i2l (v := (z7).toInt64) hx hb dX9_reads_64 rfl ?_
        refine lv_ldc2 hx hb hown (hts _ kl_X9_94) dX9_reads_65 ?_
        refine lv_ldc2 hx hb hown (hts _ kl_X9_96) dX9_reads_68 ?_
        refine r_callSi (rest := []) C0 hH (c_X9_in Γ l Λ (pI d6 p0 8 (d6.1 p0 7)) (z7).toInt64 (97 : Int64) (122 : Int64)) cs_X9_56 (by decide) rfl hl.1 rfl (Nat.le_of_ble_eq_true rfl) dX9_reads_71 (by decide) (fun H locs hH => ?_)
        refine lv_if_eq (tgt := 116) hx hb dX9_reads_74 (by decide) (fun c9 => ?_) (fun c9 => ?_)
        · replace hf := it hf c9
          refine lv_iload_n hx hb dX9_reads_116 rfl (lv_at hl 0 rfl) ?_
          refine lv_i2l (v := (z7).toInt64) hx hb dX9_reads_117 rfl ?_
          refine lv_ldc2 hx hb hown (hts _ kl_X9_98) dX9_reads_118 ?_
          refine lv_ldc2 hx hb hown (hts _ kl_X9_100) dX9_reads_121 ?_
          refine r_callSi (rest := []) C0 hH (c_X9_in Γ l Λ (pI d6 p0 8 (d6.1 p0 7)) (z7).toInt64 (48 : Int64) (57 : Int64)) cs_X9_56 (by decide) rfl hl.1 rfl (Nat.le_of_ble_eq_true rfl) dX9_reads_124 (by decide) (fun H locs hH => ?_)
          refine lv_if_eq (tgt := 243) hx hb dX9_reads_127 (by decide) (fun c10 => ?_) (fun c10 => ?_)
          · replace hf := it hf c10
            refine lv_aload_n hx hb dX9_reads_243 rfl (lv_at hl 1 rfl) ?_
            refine lv_iconst (v := (3 : Int32)) hx hb dX9_reads_244 (by decide) ?_
            refine r_puti C0 hH fw_X9_91 g1 rfl dX9_reads_245 (fun H locs hH => ?_)
            refine lv_aload_n hx hb dX9_reads_248 rfl (lv_at hl 1 rfl) ?_
            refine lv_iload_n hx hb dX9_reads_249 rfl (lv_at hl 0 rfl) ?_
            refine lv_bipush (v := (59 : Int32)) hx hb dX9_reads_250 (by decide) ?_
            refine lv_icmp_ne (tgt := 259) hx hb dX9_reads_252 (by decide) (fun c11 => ?_) (fun c11 => ?_)
            · replace hf := ie hf c11
              refine lv_iconst (v := (0 : Int32)) hx hb dX9_reads_259 (by decide) ?_
              refine lv_iconst (v := (1 : Int32)) hx hb dX9_reads_260 (by decide) ?_
              obtain ⟨z12, h12, hf⟩ := ob hf
              refine r_callVv (rest := []) C0 hH (c_X9_needs Γ l Λ (pI (pI d6 p0 8 (d6.1 p0 7)) p0 9 (3 : Int32)) p0 (0 : Int32) (1 : Int32) z12 h12) cv_X9_105 g1 (by decide) rfl hl.1 rfl (Nat.le_of_ble_eq_true rfl) dX9_reads_261 (by decide) (fun H locs hH => ?_)
              refine lv_aload_n hx hb dX9_reads_264 rfl (lv_at hl 1 rfl) ?_
              refine lv_dup hx hb dX9_reads_265 rfl ?_
              refine r_geti C0 hH fl_X9_72 g1 rfl dX9_reads_266 ?_
              refine lv_iconst (v := (1 : Int32)) hx hb dX9_reads_269 (by decide) ?_
              refine lv_iadd hx hb dX9_reads_270 ?_
              refine r_puti C0 hH fw_X9_72 g1 rfl dX9_reads_271 (fun H locs hH => ?_)
              obtain rfl := Option.some.inj hf
              exact r_vret C0 hr hlocks hH dX9_reads_274
            · replace hf := it hf c11
              refine lv_iconst (v := (1 : Int32)) hx hb dX9_reads_255 (by decide) ?_
              refine lv_goto (tgt := 260) hx hb dX9_reads_256 (by decide) ?_
              refine lv_iconst (v := (1 : Int32)) hx hb dX9_reads_260 (by decide) ?_
              obtain ⟨z13, h13, hf⟩ := ob hf
              refine r_callVv (rest := []) C0 hH (c_X9_needs Γ l Λ (pI (pI d6 p0 8 (d6.1 p0 7)) p0 9 (3 : Int32)) p0 (1 : Int32) (1 : Int32) z13 h13) cv_X9_105 g1 (by decide) rfl hl.1 rfl (Nat.le_of_ble_eq_true rfl) dX9_reads_261 (by decide) (fun H locs hH => ?_)
              refine lv_aload_n hx hb dX9_reads_264 rfl (lv_at hl 1 rfl) ?_
              refine lv_dup hx hb dX9_reads_265 rfl ?_
              refine r_geti C0 hH fl_X9_72 g1 rfl dX9_reads_266 ?_
              refine lv_iconst (v := (1 : Int32)) hx hb dX9_reads_269 (by decide) ?_
              refine lv_iadd hx hb dX9_reads_270 ?_
              refine r_puti C0 hH fw_X9_72 g1 rfl dX9_reads_271 (fun H locs hH => ?_)
              obtain rfl := Option.some.inj hf
              exact r_vret C0 hr hlocks hH dX9_reads_274
          · replace hf := ie hf c10
            refine lv_aload_n hx hb dX9_reads_130 rfl (lv_at hl 1 rfl) ?_
            refine lv_iconst (v := (2 : Int32)) hx hb dX9_reads_131 (by decide) ?_
            refine r_puti C0 hH fw_X9_91 g1 rfl dX9_reads_132 (fun H locs hH => ?_)
            refine lv_aload_n hx hb dX9_reads_135 rfl (lv_at hl 1 rfl) ?_
            refine lv_iconst (v := (0 : Int32)) hx hb dX9_reads_136 (by decide) ?_
            refine r_puti C0 hH fw_X9_102 g1 rfl dX9_reads_137 (fun H locs hH => ?_)
            refine w_X9_reads_L140 C0 hr hlocks _ p0 ?k217 FU (pI (pI (pI d6 p0 8 (d6.1 p0 7)) p0 9 (2 : Int32)) p0 10 (0 : Int32)) hf _ _ _ hH (lv_sub hl [1] rfl)
            case k217 =>
              intro d19 hf H locs ls hH hl
              refine lv_aload_n hx hb dX9_reads_217 rfl (lv_at hl 0 rfl) ?_
              refine lv_aload_n hx hb dX9_reads_218 rfl (lv_at hl 0 rfl) ?_
              refine r_geti C0 hH fl_X9_72 g1 rfl dX9_reads_219 ?_
              refine lv_aload_n hx hb dX9_reads_222 rfl (lv_at hl 0 rfl) ?_
              refine r_geti C0 hH fl_X9_66 g1 rfl dX9_reads_223 ?_
              refine lv_isub hx hb dX9_reads_226 ?_
              refine lv_iconst (v := (2 : Int32)) hx hb dX9_reads_227 (by decide) ?_
              refine lv_icmp_gt (tgt := 235) hx hb dX9_reads_228 (by decide) (fun c20 => ?_) (fun c20 => ?_)
              · replace hf := it hf c20
                refine lv_iconst (v := (0 : Int32)) hx hb dX9_reads_235 (by decide) ?_
                refine lv_iconst (v := (1 : Int32)) hx hb dX9_reads_236 (by decide) ?_
                obtain ⟨z21, h21, hf⟩ := ob hf
                refine r_callVv (rest := []) C0 hH (c_X9_needs Γ l Λ d19 p0 (0 : Int32) (1 : Int32) z21 h21) cv_X9_105 g1 (by decide) rfl hl.1 rfl (Nat.le_of_ble_eq_true rfl) dX9_reads_237 (by decide) (fun H locs hH => ?_)
                refine lv_goto (tgt := 274) hx hb dX9_reads_240 (by decide) ?_
                obtain rfl := Option.some.inj hf
                exact r_vret C0 hr hlocks hH dX9_reads_274
              · replace hf := ie hf c20
                refine lv_iconst (v := (1 : Int32)) hx hb dX9_reads_231 (by decide) ?_
                refine lv_goto (tgt := 236) hx hb dX9_reads_232 (by decide) ?_
                refine lv_iconst (v := (1 : Int32)) hx hb dX9_reads_236 (by decide) ?_
                obtain ⟨z22, h22, hf⟩ := ob hf
                refine r_callVv (rest := []) C0 hH (c_X9_needs Γ l Λ d19 p0 (1 : Int32) (1 : Int32) z22 h22) cv_X9_105 g1 (by decide) rfl hl.1 rfl (Nat.le_of_ble_eq_true rfl) dX9_reads_237 (by decide) (fun H locs hH => ?_)
                refine lv_goto (tgt := 274) hx hb dX9_reads_240 (by decide) ?_
                obtain rfl := Option.some.inj hf
                exact r_vret C0 hr hlocks hH dX9_reads_274
        · replace hf := ie hf c9
          refine lv_aload_n hx hb dX9_reads_77 rfl (lv_at hl 1 rfl) ?_
          refine lv_iconst (v := (1 : Int32)) hx hb dX9_reads_78 (by decide) ?_
          refine r_puti C0 hH fw_X9_91 g1 rfl dX9_reads_79 (fun H locs hH => ?_)
          refine w_X9_reads_L82 C0 hr hlocks p0 FU (pI (pI d6 p0 8 (d6.1 p0 7)) p0 9 (1 : Int32)) hf _ _ _ hH (lv_sub hl [1] rfl)
      · replace hf := ie hf c8
        refine lv_aload_n hx hb dX9_reads_55 rfl (lv_at hl 1 rfl) ?_
        refine lv_iconst (v := (0 : Int32)) hx hb dX9_reads_56 (by decide) ?_
        refine r_puti C0 hH fw_X9_91 g1 rfl dX9_reads_57 (fun H locs hH => ?_)
        refine lv_goto (tgt := 274) hx hb dX9_reads_60 (by decide) ?_
        obtain rfl := Option.some.inj hf
        exact r_vret C0 hr hlocks hH dX9_reads_274
  · replace hf := ie hf c2
    obtain rfl := Option.some.inj hf
    exact r_vret C0 hr hlocks hH dX9_reads_7
theorem dX9_looked_0 : decode cX9_looked 0 = .ok (.aload_n 0, 1) := by decide +kernel
theorem dX9_looked_1 : decode cX9_looked 1 = .ok (.getfield 63, 3) := by decide +kernel
theorem dX9_looked_4 : decode cX9_looked 4 = .ok (.ifCond .ne 21, 3) := by decide +kernel
theorem dX9_looked_7 : decode cX9_looked 7 = .ok (.aload_n 0, 1) := by decide +kernel
theorem dX9_looked_8 : decode cX9_looked 8 = .ok (.aload_n 0, 1) := by decide +kernel
theorem dX9_looked_9 : decode cX9_looked 9 = .ok (.getfield 91, 3) := by decide +kernel
theorem dX9_looked_12 : decode cX9_looked 12 = .ok (.iconst 2, 1) := by decide +kernel
theorem dX9_looked_13 : decode cX9_looked 13 = .ok (.if_icmp .ne 7, 3) := by decide +kernel
theorem dX9_looked_16 : decode cX9_looked 16 = .ok (.iconst 1, 1) := by decide +kernel
theorem dX9_looked_17 : decode cX9_looked 17 = .ok (.goto 4, 3) := by decide +kernel
theorem dX9_looked_20 : decode cX9_looked 20 = .ok (.iconst 0, 1) := by decide +kernel
theorem dX9_looked_21 : decode cX9_looked 21 = .ok (.iconst 2, 1) := by decide +kernel
theorem dX9_looked_22 : decode cX9_looked 22 = .ok (.invokevirtual 105, 3) := by decide +kernel
theorem dX9_looked_25 : decode cX9_looked 25 = .ok (.aload_n 0, 1) := by decide +kernel
theorem dX9_looked_26 : decode cX9_looked 26 = .ok (.getfield 63, 3) := by decide +kernel
theorem dX9_looked_29 : decode cX9_looked 29 = .ok (.ifCond .ne 20, 3) := by decide +kernel
theorem dX9_looked_32 : decode cX9_looked 32 = .ok (.aload_n 0, 1) := by decide +kernel
theorem dX9_looked_33 : decode cX9_looked 33 = .ok (.aload_n 0, 1) := by decide +kernel
theorem dX9_looked_34 : decode cX9_looked 34 = .ok (.getfield 102, 3) := by decide +kernel
theorem dX9_looked_37 : decode cX9_looked 37 = .ok (.i2l, 1) := by decide +kernel
theorem dX9_looked_38 : decode cX9_looked 38 = .ok (.iload_n 1, 1) := by decide +kernel
theorem dX9_looked_39 : decode cX9_looked 39 = .ok (.i2l, 1) := by decide +kernel
theorem dX9_looked_40 : decode cX9_looked 40 = .ok (.iload_n 2, 1) := by decide +kernel
theorem dX9_looked_41 : decode cX9_looked 41 = .ok (.i2l, 1) := by decide +kernel
theorem dX9_looked_42 : decode cX9_looked 42 = .ok (.invokestatic 56, 3) := by decide +kernel
theorem dX9_looked_45 : decode cX9_looked 45 = .ok (.iconst 3, 1) := by decide +kernel
theorem dX9_looked_46 : decode cX9_looked 46 = .ok (.invokevirtual 105, 3) := by decide +kernel
theorem dX9_looked_49 : decode cX9_looked 49 = .ok (.aload_n 0, 1) := by decide +kernel
theorem dX9_looked_50 : decode cX9_looked 50 = .ok (.getfield 63, 3) := by decide +kernel
theorem dX9_looked_53 : decode cX9_looked 53 = .ok (.ifCond .ne 10, 3) := by decide +kernel
theorem dX9_looked_56 : decode cX9_looked 56 = .ok (.aload_n 0, 1) := by decide +kernel
theorem dX9_looked_57 : decode cX9_looked 57 = .ok (.getfield 102, 3) := by decide +kernel
theorem dX9_looked_60 : decode cX9_looked 60 = .ok (.goto 4, 3) := by decide +kernel
theorem dX9_looked_63 : decode cX9_looked 63 = .ok (.iconst 0, 1) := by decide +kernel
theorem dX9_looked_64 : decode cX9_looked 64 = .ok (.ireturn, 1) := by decide +kernel
def f_X9_looked_J25 (Λ : List Ly) (d : Dt) (p0 : Nat) (v1 : Int32) (v2 : Int32) : Option (Int32 × Dt) := if clsAt Λ p0 = some 9 then (if (d.1 p0 11) = 0 then (Option.bind (f_X9_needs Λ d p0 (f_X9_in ((d.1 p0 10)).toInt64 (v1).toInt64 (v2).toInt64) (3 : Int32)) fun z6 => if (z6.1 p0 11) = 0 then (some ((z6.1 p0 10), z6)) else (some ((0 : Int32), z6))) else (if (d.1 p0 11) = 0 then (some ((d.1 p0 10), d)) else (some ((0 : Int32), d)))) else none
def f_X9_looked_J21 (Λ : List Ly) (d : Dt) (p0 : Nat) (v1 : Int32) (v2 : Int32) (y0 : Int32) (y1 : Nat) : Option (Int32 × Dt) := if clsAt Λ y1 = some 9 then (Option.bind (f_X9_needs Λ d y1 y0 (2 : Int32)) fun z10 => f_X9_looked_J25 Λ z10 p0 v1 v2) else none
def f_X9_looked (Λ : List Ly) (d : Dt) (p0 : Nat) (v1 : Int32) (v2 : Int32) : Option (Int32 × Dt) := if clsAt Λ p0 = some 9 then (if (d.1 p0 11) = 0 then (if (d.1 p0 9) = (2 : Int32) then (f_X9_looked_J21 Λ d p0 v1 v2 (1 : Int32) p0) else (f_X9_looked_J21 Λ d p0 v1 v2 (0 : Int32) p0)) else (f_X9_looked_J25 Λ d p0 v1 v2)) else none
set_option maxHeartbeats 4000000 in
set_option maxRecDepth 100000 in
theorem w_X9_looked_J25 {p : Program} {l : Launch} {e : Env} {s : State} {m : MethodId} {args : Array Value} {below : List Frame} {meth : Method} {c : Code} {Γ : Cx} {Λ : List Ly} {z : Int32 × Dt} {d : Dt} (C0 : Ct Γ p s m args c cX9_looked 3 "SeasonBoundModel") (hr : meth.sig.returnType = (some FieldType.int)) (hlocks : meth.locks = false) (p0 : Nat) (v1 : Int32) (v2 : Int32)
    (hf : f_X9_looked_J25 Λ d p0 v1 v2 = some z) (H : Heap) (locs : List Loc) (ls : Array Slot) (hH : Hs Γ Λ d s H locs) (hl : lv_has ls 3 [(0, .ref (Γ.2.2.1 + p0)), (1, .int v1), (2, .int v2)]) : W p l e { frames := 1, cells := 0, slots := 0, locals := 25 } s m args below meth c H locs 0 0 (MQ below (QN Γ Λ z.2 (some (.int z.1))) args s 0 0 (AP Γ)) (F0 m 25 ls []) := by
  obtain ⟨hx, hb, hml, hown, hts, hK⟩ := id C0
  unfold f_X9_looked_J25 at hf
  refine lv_aload_n hx hb dX9_looked_25 rfl (lv_at hl 0 rfl) ?_
  obtain ⟨g3, hf⟩ := gd hf
  refine r_geti C0 hH fl_X9_63 g3 rfl dX9_looked_26 ?_
  refine lv_if_ne (tgt := 49) hx hb dX9_looked_29 (by decide) (fun c4 => ?_) (fun c4 => ?_)
  · replace hf := ie hf c4
    refine lv_aload_n hx hb dX9_looked_49 rfl (lv_at hl 0 rfl) ?_
    refine r_geti C0 hH fl_X9_63 g3 rfl dX9_looked_50 ?_
    refine lv_if_ne (tgt := 63) hx hb dX9_looked_53 (by decide) (fun c5 => ?_) (fun c5 => ?_)
    · replace hf := ie hf c5
      refine lv_iconst (v := (0 : Int32)) hx hb dX9_looked_63 (by decide) ?_
      obtain rfl := Option.some.inj hf
      exact r_iret (d' := d) C0 hr hlocks hH rfl dX9_looked_64
    · replace hf := it hf c5
      refine lv_aload_n hx hb dX9_looked_56 rfl (lv_at hl 0 rfl) ?_
      refine r_geti C0 hH fl_X9_102 g3 rfl dX9_looked_57 ?_
      refine lv_goto (tgt := 64) hx hb dX9_looked_60 (by decide) ?_
      obtain rfl := Option.some.inj hf
      exact r_iret (d' := d) C0 hr hlocks hH rfl dX9_looked_64
  · replace hf := it hf c4
    refine lv_aload_n hx hb dX9_looked_32 rfl (lv_at hl 0 rfl) ?_
    refine lv_aload_n hx hb dX9_looked_33 rfl (lv_at hl 0 rfl) ?_
    refine r_geti C0 hH fl_X9_102 g3 rfl dX9_looked_34 ?_
    refine lv_i2l (v := ((d.1 p0 10)).toInt64) hx hb dX9_looked_37 rfl ?_
    refine lv_iload_n hx hb dX9_looked_38 rfl (lv_at hl 1 rfl) ?_
    refine lv_i2l (v := (v1).toInt64) hx hb dX9_looked_39 rfl ?_
    refine lv_iload_n hx hb dX9_looked_40 rfl (lv_at hl 2 rfl) ?_
    refine lv_i2l (v := (v2).toInt64) hx hb dX9_looked_41 rfl ?_
    refine r_callSi (rest := [.ref (Γ.2.2.1 + p0)]) C0 hH (c_X9_in Γ l Λ d ((d.1 p0 10)).toInt64 (v1).toInt64 (v2).toInt64) cs_X9_56 (by decide) rfl hl.1 rfl (Nat.le_of_ble_eq_true rfl) dX9_looked_42 (by decide) (fun H locs hH => ?_)
    refine lv_iconst (v := (3 : Int32)) hx hb dX9_looked_45 (by decide) ?_
    obtain ⟨z6, h6, hf⟩ := ob hf
    refine r_callVv (rest := []) C0 hH (c_X9_needs Γ l Λ d p0 (f_X9_in ((d.1 p0 10)).toInt64 (v1).toInt64 (v2).toInt64) (3 : Int32) z6 h6) cv_X9_105 g3 (by decide) rfl hl.1 rfl (Nat.le_of_ble_eq_true rfl) dX9_looked_46 (by decide) (fun H locs hH => ?_)
    refine lv_aload_n hx hb dX9_looked_49 rfl (lv_at hl 0 rfl) ?_
    refine r_geti C0 hH fl_X9_63 g3 rfl dX9_looked_50 ?_
    refine lv_if_ne (tgt := 63) hx hb dX9_looked_53 (by decide) (fun c7 => ?_) (fun c7 => ?_)
    · replace hf := ie hf c7
      refine lv_iconst (v := (0 : Int32)) hx hb dX9_looked_63 (by decide) ?_
      obtain rfl := Option.some.inj hf
      exact r_iret (d' := d) C0 hr hlocks hH rfl dX9_looked_64
    · replace hf := it hf c7
      refine lv_aload_n hx hb dX9_looked_56 rfl (lv_at hl 0 rfl) ?_
      refine r_geti C0 hH fl_X9_102 g3 rfl dX9_looked_57 ?_
      refine lv_goto (tgt := 64) hx hb dX9_looked_60 (by decide) ?_
      obtain rfl := Option.some.inj hf
      exact r_iret (d' := d) C0 hr hlocks hH rfl dX9_looked_64
set_option maxHeartbeats 4000000 in
set_option maxRecDepth 100000 in
theorem w_X9_looked_J21 {p : Program} {l : Launch} {e : Env} {s : State} {m : MethodId} {args : Array Value} {below : List Frame} {meth : Method} {c : Code} {Γ : Cx} {Λ : List Ly} {z : Int32 × Dt} {d : Dt} (C0 : Ct Γ p s m args c cX9_looked 3 "SeasonBoundModel") (hr : meth.sig.returnType = (some FieldType.int)) (hlocks : meth.locks = false) (p0 : Nat) (v1 : Int32) (v2 : Int32) (y0 : Int32) (y1 : Nat)
    (hf : f_X9_looked_J21 Λ d p0 v1 v2 y0 y1 = some z) (H : Heap) (locs : List Loc) (ls : Array Slot) (hH : Hs Γ Λ d s H locs) (hl : lv_has ls 3 [(0, .ref (Γ.2.2.1 + p0)), (1, .int v1), (2, .int v2)]) : W p l e { frames := 1, cells := 0, slots := 0, locals := 25 } s m args below meth c H locs 0 0 (MQ below (QN Γ Λ z.2 (some (.int z.1))) args s 0 0 (AP Γ)) (F0 m 21 ls [.int y0, .ref (Γ.2.2.1 + y1)]) := by
  obtain ⟨hx, hb, hml, hown, hts, hK⟩ := id C0
  unfold f_X9_looked_J21 at hf
  refine lv_iconst (v := (2 : Int32)) hx hb dX9_looked_21 (by decide) ?_
  obtain ⟨g9, hf⟩ := gd hf
  obtain ⟨z10, h10, hf⟩ := ob hf
  refine r_callVv (rest := []) C0 hH (c_X9_needs Γ l Λ d y1 y0 (2 : Int32) z10 h10) cv_X9_105 g9 (by decide) rfl hl.1 rfl (Nat.le_of_ble_eq_true rfl) dX9_looked_22 (by decide) (fun H locs hH => ?_)
  exact w_X9_looked_J25 C0 hr hlocks p0 v1 v2 hf _ _ _ hH (lv_sub hl [0, 1, 2] rfl)
set_option maxHeartbeats 4000000 in
set_option maxRecDepth 100000 in
theorem c_X9_looked (Γ : Cx) (l : Launch) (Λ : List Ly) (d : Dt) (p0 : Nat) (v1 : Int32) (v2 : Int32) (z : Int32 × Dt) (hf : f_X9_looked Λ d p0 v1 v2 = some z) : Cn Γ l yX9_looked cX9_looked 3 (some FieldType.int) 1 25 [.ref (Γ.2.2.1 + p0), .int v1, .int v2] Λ d (some (.int z.1)) z.2 := by
  refine Cn.of (own := "SeasonBoundModel") (by decide +kernel) rfl (Nat.le_of_ble_eq_true rfl) ?_
  intro p e s m below meth c C0 hr hlocks hH ls hl
  have hl : lv_has ls 3 [(0, .ref (Γ.2.2.1 + p0)), (1, .int v1), (2, .int v2)] := hl
  obtain ⟨hx, hb, hml, hown, hts, hK⟩ := id C0
  unfold f_X9_looked at hf
  refine lv_aload_n hx hb dX9_looked_0 rfl (lv_at hl 0 rfl) ?_
  obtain ⟨g1, hf⟩ := gd hf
  refine r_geti C0 hH fl_X9_63 g1 rfl dX9_looked_1 ?_
  refine lv_if_ne (tgt := 25) hx hb dX9_looked_4 (by decide) (fun c2 => ?_) (fun c2 => ?_)
  · replace hf := ie hf c2
    exact w_X9_looked_J25 C0 hr hlocks p0 v1 v2 hf _ _ _ hH (lv_sub hl [0, 1, 2] rfl)
  · replace hf := it hf c2
    refine lv_aload_n hx hb dX9_looked_7 rfl (lv_at hl 0 rfl) ?_
    refine lv_aload_n hx hb dX9_looked_8 rfl (lv_at hl 0 rfl) ?_
    refine r_geti C0 hH fl_X9_91 g1 rfl dX9_looked_9 ?_
    refine lv_iconst (v := (2 : Int32)) hx hb dX9_looked_12 (by decide) ?_
    refine lv_icmp_ne (tgt := 20) hx hb dX9_looked_13 (by decide) (fun c8 => ?_) (fun c8 => ?_)
    · replace hf := ie hf c8
      refine lv_iconst (v := (0 : Int32)) hx hb dX9_looked_20 (by decide) ?_
      exact w_X9_looked_J21 C0 hr hlocks p0 v1 v2 (0 : Int32) p0 hf _ _ _ hH (lv_sub hl [0, 1, 2] rfl)
    · replace hf := it hf c8
      refine lv_iconst (v := (1 : Int32)) hx hb dX9_looked_16 (by decide) ?_
      refine lv_goto (tgt := 21) hx hb dX9_looked_17 (by decide) ?_
      exact w_X9_looked_J21 C0 hr hlocks p0 v1 v2 (1 : Int32) p0 hf _ _ _ hH (lv_sub hl [0, 1, 2] rfl)
theorem dX9_readNumber_0 : decode cX9_readNumber 0 = .ok (.aload_n 0, 1) := by decide +kernel
theorem dX9_readNumber_1 : decode cX9_readNumber 1 = .ok (.iload_n 1, 1) := by decide +kernel
theorem dX9_readNumber_2 : decode cX9_readNumber 2 = .ok (.iload_n 2, 1) := by decide +kernel
theorem dX9_readNumber_3 : decode cX9_readNumber 3 = .ok (.invokevirtual 109, 3) := by decide +kernel
theorem dX9_readNumber_6 : decode cX9_readNumber 6 = .ok (.istore_n 3, 1) := by decide +kernel
theorem dX9_readNumber_7 : decode cX9_readNumber 7 = .ok (.aload_n 0, 1) := by decide +kernel
theorem dX9_readNumber_8 : decode cX9_readNumber 8 = .ok (.invokevirtual 113, 3) := by decide +kernel
theorem dX9_readNumber_11 : decode cX9_readNumber 11 = .ok (.iload_n 3, 1) := by decide +kernel
theorem dX9_readNumber_12 : decode cX9_readNumber 12 = .ok (.ireturn, 1) := by decide +kernel
def f_X9_readNumber (Λ : List Ly) (d : Dt) (p0 : Nat) (v1 : Int32) (v2 : Int32) : Option (Int32 × Dt) := if clsAt Λ p0 = some 9 then (Option.bind (f_X9_looked Λ d p0 v1 v2) fun z2 => Option.bind (f_X9_reads Λ z2.2 p0) fun z3 => some (z2.1, z3)) else none
set_option maxHeartbeats 4000000 in
set_option maxRecDepth 100000 in
theorem c_X9_readNumber (Γ : Cx) (l : Launch) (Λ : List Ly) (d : Dt) (p0 : Nat) (v1 : Int32) (v2 : Int32) (z : Int32 × Dt) (hf : f_X9_readNumber Λ d p0 v1 v2 = some z) : Cn Γ l yX9_readNumber cX9_readNumber 4 (some FieldType.int) 2 47 [.ref (Γ.2.2.1 + p0), .int v1, .int v2] Λ d (some (.int z.1)) z.2 := by
  refine Cn.of (own := "SeasonBoundModel") (by decide +kernel) rfl (Nat.le_of_ble_eq_true rfl) ?_
  intro p e s m below meth c C0 hr hlocks hH ls hl
  have hl : lv_has ls 4 [(0, .ref (Γ.2.2.1 + p0)), (1, .int v1), (2, .int v2)] := hl
  obtain ⟨hx, hb, hml, hown, hts, hK⟩ := id C0
  unfold f_X9_readNumber at hf
  refine lv_aload_n hx hb dX9_readNumber_0 rfl (lv_at hl 0 rfl) ?_
  refine lv_iload_n hx hb dX9_readNumber_1 rfl (lv_at hl 1 rfl) ?_
  refine lv_iload_n hx hb dX9_readNumber_2 rfl (lv_at hl 2 rfl) ?_
  obtain ⟨g1, hf⟩ := gd hf
  obtain ⟨z2, h2, hf⟩ := ob hf
  refine r_callVi (rest := []) C0 hH (c_X9_looked Γ l Λ d p0 v1 v2 z2 h2) cv_X9_109 g1 (by decide) rfl hl.1 rfl (Nat.le_of_ble_eq_true rfl) dX9_readNumber_3 (by decide) (fun H locs hH => ?_)
  refine lv_istore_n (lv' := [(3, .int z2.1), (0, .ref (Γ.2.2.1 + p0)), (1, .int v1), (2, .int v2)]) hx hb dX9_readNumber_6 rfl hl (by decide) rfl (fun ls hl => ?_)
  refine lv_aload_n hx hb dX9_readNumber_7 rfl (lv_at hl 1 rfl) ?_
  obtain ⟨z3, h3, hf⟩ := ob hf
  refine r_callVv (rest := []) C0 hH (c_X9_reads Γ l Λ z2.2 p0 z3 h3) cv_X9_113 g1 (by decide) rfl hl.1 rfl (Nat.le_of_ble_eq_true rfl) dX9_readNumber_8 (by decide) (fun H locs hH => ?_)
  refine lv_iload_n hx hb dX9_readNumber_11 rfl (lv_at hl 0 rfl) ?_
  obtain rfl := Option.some.inj hf
  exact r_iret (d' := d) C0 hr hlocks hH rfl dX9_readNumber_12
theorem dX9_readSeason_0 : decode cX9_readSeason 0 = .ok (.aload_n 0, 1) := by decide +kernel
theorem dX9_readSeason_1 : decode cX9_readSeason 1 = .ok (.getfield 20, 3) := by decide +kernel
theorem dX9_readSeason_4 : decode cX9_readSeason 4 = .ok (.iconst 3, 1) := by decide +kernel
theorem dX9_readSeason_5 : decode cX9_readSeason 5 = .ok (.iload_n 1, 1) := by decide +kernel
theorem dX9_readSeason_6 : decode cX9_readSeason 6 = .ok (.imul, 1) := by decide +kernel
theorem dX9_readSeason_7 : decode cX9_readSeason 7 = .ok (.iconst 0, 1) := by decide +kernel
theorem dX9_readSeason_8 : decode cX9_readSeason 8 = .ok (.iadd, 1) := by decide +kernel
theorem dX9_readSeason_9 : decode cX9_readSeason 9 = .ok (.aload_n 0, 1) := by decide +kernel
theorem dX9_readSeason_10 : decode cX9_readSeason 10 = .ok (.iconst 1, 1) := by decide +kernel
theorem dX9_readSeason_11 : decode cX9_readSeason 11 = .ok (.bipush 9, 2) := by decide +kernel
theorem dX9_readSeason_13 : decode cX9_readSeason 13 = .ok (.invokevirtual 116, 3) := by decide +kernel
theorem dX9_readSeason_16 : decode cX9_readSeason 16 = .ok (.iastore, 1) := by decide +kernel
theorem dX9_readSeason_17 : decode cX9_readSeason 17 = .ok (.aload_n 0, 1) := by decide +kernel
theorem dX9_readSeason_18 : decode cX9_readSeason 18 = .ok (.getfield 20, 3) := by decide +kernel
theorem dX9_readSeason_21 : decode cX9_readSeason 21 = .ok (.iconst 3, 1) := by decide +kernel
theorem dX9_readSeason_22 : decode cX9_readSeason 22 = .ok (.iload_n 1, 1) := by decide +kernel
theorem dX9_readSeason_23 : decode cX9_readSeason 23 = .ok (.imul, 1) := by decide +kernel
theorem dX9_readSeason_24 : decode cX9_readSeason 24 = .ok (.iconst 1, 1) := by decide +kernel
theorem dX9_readSeason_25 : decode cX9_readSeason 25 = .ok (.iadd, 1) := by decide +kernel
theorem dX9_readSeason_26 : decode cX9_readSeason 26 = .ok (.aload_n 0, 1) := by decide +kernel
theorem dX9_readSeason_27 : decode cX9_readSeason 27 = .ok (.iconst 0, 1) := by decide +kernel
theorem dX9_readSeason_28 : decode cX9_readSeason 28 = .ok (.bipush 9, 2) := by decide +kernel
theorem dX9_readSeason_30 : decode cX9_readSeason 30 = .ok (.invokevirtual 116, 3) := by decide +kernel
theorem dX9_readSeason_33 : decode cX9_readSeason 33 = .ok (.iastore, 1) := by decide +kernel
theorem dX9_readSeason_34 : decode cX9_readSeason 34 = .ok (.aload_n 0, 1) := by decide +kernel
theorem dX9_readSeason_35 : decode cX9_readSeason 35 = .ok (.getfield 20, 3) := by decide +kernel
theorem dX9_readSeason_38 : decode cX9_readSeason 38 = .ok (.iconst 3, 1) := by decide +kernel
theorem dX9_readSeason_39 : decode cX9_readSeason 39 = .ok (.iload_n 1, 1) := by decide +kernel
theorem dX9_readSeason_40 : decode cX9_readSeason 40 = .ok (.imul, 1) := by decide +kernel
theorem dX9_readSeason_41 : decode cX9_readSeason 41 = .ok (.iconst 2, 1) := by decide +kernel
theorem dX9_readSeason_42 : decode cX9_readSeason 42 = .ok (.iadd, 1) := by decide +kernel
theorem dX9_readSeason_43 : decode cX9_readSeason 43 = .ok (.aload_n 0, 1) := by decide +kernel
theorem dX9_readSeason_44 : decode cX9_readSeason 44 = .ok (.iconst 0, 1) := by decide +kernel
theorem dX9_readSeason_45 : decode cX9_readSeason 45 = .ok (.bipush 99, 2) := by decide +kernel
theorem dX9_readSeason_47 : decode cX9_readSeason 47 = .ok (.invokevirtual 116, 3) := by decide +kernel
theorem dX9_readSeason_50 : decode cX9_readSeason 50 = .ok (.iastore, 1) := by decide +kernel
theorem dX9_readSeason_51 : decode cX9_readSeason 51 = .ok (.return_, 1) := by decide +kernel
def f_X9_readSeason (Λ : List Ly) (d : Dt) (p0 : Nat) (v1 : Int32) : Option Dt := Option.bind (rf Λ p0 9 3) fun q1 => if clsAt Λ p0 = some 9 then (Option.bind (f_X9_readNumber Λ d p0 (1 : Int32) (9 : Int32)) fun z3 => if okA Λ q1 1 (((3 : Int32) * v1) + (0 : Int32)) = true then (Option.bind (f_X9_readNumber Λ (pI z3.2 q1 ((((3 : Int32) * v1) + (0 : Int32))).toNatClampNeg z3.1) p0 (0 : Int32) (9 : Int32)) fun z5 => if okA Λ q1 1 (((3 : Int32) * v1) + (1 : Int32)) = true then (Option.bind (f_X9_readNumber Λ (pI z5.2 q1 ((((3 : Int32) * v1) + (1 : Int32))).toNatClampNeg z5.1) p0 (0 : Int32) (99 : Int32)) fun z7 => if okA Λ q1 1 (((3 : Int32) * v1) + (2 : Int32)) = true then (some (pI z7.2 q1 ((((3 : Int32) * v1) + (2 : Int32))).toNatClampNeg z7.1)) else none) else none) else none) else none
set_option maxHeartbeats 4000000 in
set_option maxRecDepth 100000 in
theorem c_X9_readSeason (Γ : Cx) (l : Launch) (Λ : List Ly) (d : Dt) (p0 : Nat) (v1 : Int32) (z : Dt) (hf : f_X9_readSeason Λ d p0 v1 = some z) : Cn Γ l yX9_readSeason cX9_readSeason 2 none 3 70 [.ref (Γ.2.2.1 + p0), .int v1] Λ d none z := by
  refine Cn.of (own := "SeasonBoundModel") (by decide +kernel) rfl (Nat.le_of_ble_eq_true rfl) ?_
  intro p e s m below meth c C0 hr hlocks hH ls hl
  have hl : lv_has ls 2 [(0, .ref (Γ.2.2.1 + p0)), (1, .int v1)] := hl
  obtain ⟨hx, hb, hml, hown, hts, hK⟩ := id C0
  unfold f_X9_readSeason at hf
  refine lv_aload_n hx hb dX9_readSeason_0 rfl (lv_at hl 0 rfl) ?_
  obtain ⟨q1, g1, hf⟩ := ob hf
  refine r_getr C0 hH fl_X9_20 g1 dX9_readSeason_1 ?_
  refine lv_iconst (v := (3 : Int32)) hx hb dX9_readSeason_4 (by decide) ?_
  refine lv_iload_n hx hb dX9_readSeason_5 rfl (lv_at hl 1 rfl) ?_
  refine lv_imul hx hb dX9_readSeason_6 ?_
  refine lv_iconst (v := (0 : Int32)) hx hb dX9_readSeason_7 (by decide) ?_
  refine lv_iadd hx hb dX9_readSeason_8 ?_
  refine lv_aload_n hx hb dX9_readSeason_9 rfl (lv_at hl 0 rfl) ?_
  refine lv_iconst (v := (1 : Int32)) hx hb dX9_readSeason_10 (by decide) ?_
  refine lv_bipush (v := (9 : Int32)) hx hb dX9_readSeason_11 (by decide) ?_
  obtain ⟨g2, hf⟩ := gd hf
  obtain ⟨z3, h3, hf⟩ := ob hf
  refine r_callVi (rest := [.int (((3 : Int32) * v1) + (0 : Int32)), .ref (Γ.2.2.1 + q1)]) C0 hH (c_X9_readNumber Γ l Λ d p0 (1 : Int32) (9 : Int32) z3 h3) cv_X9_116 g2 (by decide) rfl hl.1 rfl (Nat.le_of_ble_eq_true rfl) dX9_readSeason_13 (by decide) (fun H locs hH => ?_)
  obtain ⟨g4, hf⟩ := gd hf
  refine r_iast C0 hH g4 dX9_readSeason_16 (fun H locs hH => ?_)
  refine lv_aload_n hx hb dX9_readSeason_17 rfl (lv_at hl 0 rfl) ?_
  refine r_getr C0 hH fl_X9_20 g1 dX9_readSeason_18 ?_
  refine lv_iconst (v := (3 : Int32)) hx hb dX9_readSeason_21 (by decide) ?_
  refine lv_iload_n hx hb dX9_readSeason_22 rfl (lv_at hl 1 rfl) ?_
  refine lv_imul hx hb dX9_readSeason_23 ?_
  refine lv_iconst (v := (1 : Int32)) hx hb dX9_readSeason_24 (by decide) ?_
  refine lv_iadd hx hb dX9_readSeason_25 ?_
  refine lv_aload_n hx hb dX9_readSeason_26 rfl (lv_at hl 0 rfl) ?_
  refine lv_iconst (v := (0 : Int32)) hx hb dX9_readSeason_27 (by decide) ?_
  refine lv_bipush (v := (9 : Int32)) hx hb dX9_readSeason_28 (by decide) ?_
  obtain ⟨z5, h5, hf⟩ := ob hf
  refine r_callVi (rest := [.int (((3 : Int32) * v1) + (1 : Int32)), .ref (Γ.2.2.1 + q1)]) C0 hH (c_X9_readNumber Γ l Λ (pI z3.2 q1 ((((3 : Int32) * v1) + (0 : Int32))).toNatClampNeg z3.1) p0 (0 : Int32) (9 : Int32) z5 h5) cv_X9_116 g2 (by decide) rfl hl.1 rfl (Nat.le_of_ble_eq_true rfl) dX9_readSeason_30 (by decide) (fun H locs hH => ?_)
  obtain ⟨g6, hf⟩ := gd hf
  refine r_iast C0 hH g6 dX9_readSeason_33 (fun H locs hH => ?_)
  refine lv_aload_n hx hb dX9_readSeason_34 rfl (lv_at hl 0 rfl) ?_
  refine r_getr C0 hH fl_X9_20 g1 dX9_readSeason_35 ?_
  refine lv_iconst (v := (3 : Int32)) hx hb dX9_readSeason_38 (by decide) ?_
  refine lv_iload_n hx hb dX9_readSeason_39 rfl (lv_at hl 1 rfl) ?_
  refine lv_imul hx hb dX9_readSeason_40 ?_
  refine lv_iconst (v := (2 : Int32)) hx hb dX9_readSeason_41 (by decide) ?_
  refine lv_iadd hx hb dX9_readSeason_42 ?_
  refine lv_aload_n hx hb dX9_readSeason_43 rfl (lv_at hl 0 rfl) ?_
  refine lv_iconst (v := (0 : Int32)) hx hb dX9_readSeason_44 (by decide) ?_
  refine lv_bipush (v := (99 : Int32)) hx hb dX9_readSeason_45 (by decide) ?_
  obtain ⟨z7, h7, hf⟩ := ob hf
  refine r_callVi (rest := [.int (((3 : Int32) * v1) + (2 : Int32)), .ref (Γ.2.2.1 + q1)]) C0 hH (c_X9_readNumber Γ l Λ (pI z5.2 q1 ((((3 : Int32) * v1) + (1 : Int32))).toNatClampNeg z5.1) p0 (0 : Int32) (99 : Int32) z7 h7) cv_X9_116 g2 (by decide) rfl hl.1 rfl (Nat.le_of_ble_eq_true rfl) dX9_readSeason_47 (by decide) (fun H locs hH => ?_)
  obtain ⟨g8, hf⟩ := gd hf
  refine r_iast C0 hH g8 dX9_readSeason_50 (fun H locs hH => ?_)
  obtain rfl := Option.some.inj hf
  exact r_vret C0 hr hlocks hH dX9_readSeason_51
theorem dX9_readChild_0 : decode cX9_readChild 0 = .ok (.bipush 12, 2) := by decide +kernel
theorem dX9_readChild_2 : decode cX9_readChild 2 = .ok (.iconst 5, 1) := by decide +kernel
theorem dX9_readChild_3 : decode cX9_readChild 3 = .ok (.aload_n 0, 1) := by decide +kernel
theorem dX9_readChild_4 : decode cX9_readChild 4 = .ok (.getfield 20, 3) := by decide +kernel
theorem dX9_readChild_7 : decode cX9_readChild 7 = .ok (.bipush 37, 2) := by decide +kernel
theorem dX9_readChild_9 : decode cX9_readChild 9 = .ok (.iaload, 1) := by decide +kernel
theorem dX9_readChild_10 : decode cX9_readChild 10 = .ok (.imul, 1) := by decide +kernel
theorem dX9_readChild_11 : decode cX9_readChild 11 = .ok (.iadd, 1) := by decide +kernel
theorem dX9_readChild_12 : decode cX9_readChild 12 = .ok (.istore_n 2, 1) := by decide +kernel
theorem dX9_readChild_13 : decode cX9_readChild 13 = .ok (.aload_n 0, 1) := by decide +kernel
theorem dX9_readChild_14 : decode cX9_readChild 14 = .ok (.iconst 0, 1) := by decide +kernel
theorem dX9_readChild_15 : decode cX9_readChild 15 = .ok (.bipush 9, 2) := by decide +kernel
theorem dX9_readChild_17 : decode cX9_readChild 17 = .ok (.invokevirtual 109, 3) := by decide +kernel
theorem dX9_readChild_20 : decode cX9_readChild 20 = .ok (.istore_n 3, 1) := by decide +kernel
theorem dX9_readChild_21 : decode cX9_readChild 21 = .ok (.aload_n 0, 1) := by decide +kernel
theorem dX9_readChild_22 : decode cX9_readChild 22 = .ok (.iload_n 3, 1) := by decide +kernel
theorem dX9_readChild_23 : decode cX9_readChild 23 = .ok (.iconst 4, 1) := by decide +kernel
theorem dX9_readChild_24 : decode cX9_readChild 24 = .ok (.if_icmp .lt 9, 3) := by decide +kernel
theorem dX9_readChild_27 : decode cX9_readChild 27 = .ok (.iload_n 3, 1) := by decide +kernel
theorem dX9_readChild_28 : decode cX9_readChild 28 = .ok (.bipush 9, 2) := by decide +kernel
theorem dX9_readChild_30 : decode cX9_readChild 30 = .ok (.if_icmp .ne 7, 3) := by decide +kernel
theorem dX9_readChild_33 : decode cX9_readChild 33 = .ok (.iconst 1, 1) := by decide +kernel
theorem dX9_readChild_34 : decode cX9_readChild 34 = .ok (.goto 4, 3) := by decide +kernel
theorem dX9_readChild_37 : decode cX9_readChild 37 = .ok (.iconst 0, 1) := by decide +kernel
theorem dX9_readChild_38 : decode cX9_readChild 38 = .ok (.iconst 3, 1) := by decide +kernel
theorem dX9_readChild_39 : decode cX9_readChild 39 = .ok (.invokevirtual 105, 3) := by decide +kernel
theorem dX9_readChild_42 : decode cX9_readChild 42 = .ok (.aload_n 0, 1) := by decide +kernel
theorem dX9_readChild_43 : decode cX9_readChild 43 = .ok (.invokevirtual 113, 3) := by decide +kernel
theorem dX9_readChild_46 : decode cX9_readChild 46 = .ok (.aload_n 0, 1) := by decide +kernel
theorem dX9_readChild_47 : decode cX9_readChild 47 = .ok (.iconst 1, 1) := by decide +kernel
theorem dX9_readChild_48 : decode cX9_readChild 48 = .ok (.bipush 99, 2) := by decide +kernel
theorem dX9_readChild_50 : decode cX9_readChild 50 = .ok (.invokevirtual 116, 3) := by decide +kernel
theorem dX9_readChild_53 : decode cX9_readChild 53 = .ok (.istore 4, 2) := by decide +kernel
theorem dX9_readChild_55 : decode cX9_readChild 55 = .ok (.aload_n 0, 1) := by decide +kernel
theorem dX9_readChild_56 : decode cX9_readChild 56 = .ok (.getfield 20, 3) := by decide +kernel
theorem dX9_readChild_59 : decode cX9_readChild 59 = .ok (.iload_n 2, 1) := by decide +kernel
theorem dX9_readChild_60 : decode cX9_readChild 60 = .ok (.iconst 0, 1) := by decide +kernel
theorem dX9_readChild_61 : decode cX9_readChild 61 = .ok (.iadd, 1) := by decide +kernel
theorem dX9_readChild_62 : decode cX9_readChild 62 = .ok (.iload_n 1, 1) := by decide +kernel
theorem dX9_readChild_63 : decode cX9_readChild 63 = .ok (.iastore, 1) := by decide +kernel
theorem dX9_readChild_64 : decode cX9_readChild 64 = .ok (.aload_n 0, 1) := by decide +kernel
theorem dX9_readChild_65 : decode cX9_readChild 65 = .ok (.getfield 20, 3) := by decide +kernel
theorem dX9_readChild_68 : decode cX9_readChild 68 = .ok (.iload_n 2, 1) := by decide +kernel
theorem dX9_readChild_69 : decode cX9_readChild 69 = .ok (.iconst 1, 1) := by decide +kernel
theorem dX9_readChild_70 : decode cX9_readChild 70 = .ok (.iadd, 1) := by decide +kernel
theorem dX9_readChild_71 : decode cX9_readChild 71 = .ok (.iload_n 3, 1) := by decide +kernel
theorem dX9_readChild_72 : decode cX9_readChild 72 = .ok (.bipush 9, 2) := by decide +kernel
theorem dX9_readChild_74 : decode cX9_readChild 74 = .ok (.if_icmp .ne 8, 3) := by decide +kernel
theorem dX9_readChild_77 : decode cX9_readChild 77 = .ok (.bipush (-4), 2) := by decide +kernel
theorem dX9_readChild_79 : decode cX9_readChild 79 = .ok (.goto 4, 3) := by decide +kernel
theorem dX9_readChild_82 : decode cX9_readChild 82 = .ok (.iload_n 3, 1) := by decide +kernel
theorem dX9_readChild_83 : decode cX9_readChild 83 = .ok (.iastore, 1) := by decide +kernel
theorem dX9_readChild_84 : decode cX9_readChild 84 = .ok (.aload_n 0, 1) := by decide +kernel
theorem dX9_readChild_85 : decode cX9_readChild 85 = .ok (.getfield 20, 3) := by decide +kernel
theorem dX9_readChild_88 : decode cX9_readChild 88 = .ok (.iload_n 2, 1) := by decide +kernel
theorem dX9_readChild_89 : decode cX9_readChild 89 = .ok (.iconst 2, 1) := by decide +kernel
theorem dX9_readChild_90 : decode cX9_readChild 90 = .ok (.iadd, 1) := by decide +kernel
theorem dX9_readChild_91 : decode cX9_readChild 91 = .ok (.iload_n 3, 1) := by decide +kernel
theorem dX9_readChild_92 : decode cX9_readChild 92 = .ok (.bipush 9, 2) := by decide +kernel
theorem dX9_readChild_94 : decode cX9_readChild 94 = .ok (.if_icmp .ne 7, 3) := by decide +kernel
theorem dX9_readChild_97 : decode cX9_readChild 97 = .ok (.iconst 0, 1) := by decide +kernel
theorem dX9_readChild_98 : decode cX9_readChild 98 = .ok (.goto 5, 3) := by decide +kernel
theorem dX9_readChild_101 : decode cX9_readChild 101 = .ok (.iload 4, 2) := by decide +kernel
theorem dX9_readChild_103 : decode cX9_readChild 103 = .ok (.iastore, 1) := by decide +kernel
theorem dX9_readChild_104 : decode cX9_readChild 104 = .ok (.aload_n 0, 1) := by decide +kernel
theorem dX9_readChild_105 : decode cX9_readChild 105 = .ok (.getfield 20, 3) := by decide +kernel
theorem dX9_readChild_108 : decode cX9_readChild 108 = .ok (.bipush 37, 2) := by decide +kernel
theorem dX9_readChild_110 : decode cX9_readChild 110 = .ok (.dup2, 1) := by decide +kernel
theorem dX9_readChild_111 : decode cX9_readChild 111 = .ok (.iaload, 1) := by decide +kernel
theorem dX9_readChild_112 : decode cX9_readChild 112 = .ok (.iconst 1, 1) := by decide +kernel
theorem dX9_readChild_113 : decode cX9_readChild 113 = .ok (.iadd, 1) := by decide +kernel
theorem dX9_readChild_114 : decode cX9_readChild 114 = .ok (.iastore, 1) := by decide +kernel
theorem dX9_readChild_115 : decode cX9_readChild 115 = .ok (.return_, 1) := by decide +kernel
def f_X9_readChild_J83 (Λ : List Ly) (d : Dt) (p0 : Nat) (v2 : Int32) (v3 : Int32) (v4 : Int32) (y0 : Int32) (y1 : Int32) (y2 : Nat) : Option Dt := if okA Λ y2 1 y1 = true then (Option.bind (rf Λ p0 9 3) fun q15 => if v3 = (9 : Int32) then (if okA Λ q15 1 (v2 + (2 : Int32)) = true then (if okA Λ q15 1 (37 : Int32) = true then (some (pI (pI (pI d y2 (y1).toNatClampNeg y0) q15 ((v2 + (2 : Int32))).toNatClampNeg (0 : Int32)) q15 ((37 : Int32)).toNatClampNeg (((pI (pI d y2 (y1).toNatClampNeg y0) q15 ((v2 + (2 : Int32))).toNatClampNeg (0 : Int32)).1 q15 ((37 : Int32)).toNatClampNeg) + (1 : Int32)))) else none) else none) else (if okA Λ q15 1 (v2 + (2 : Int32)) = true then (if okA Λ q15 1 (37 : Int32) = true then (some (pI (pI (pI d y2 (y1).toNatClampNeg y0) q15 ((v2 + (2 : Int32))).toNatClampNeg v4) q15 ((37 : Int32)).toNatClampNeg (((pI (pI d y2 (y1).toNatClampNeg y0) q15 ((v2 + (2 : Int32))).toNatClampNeg v4).1 q15 ((37 : Int32)).toNatClampNeg) + (1 : Int32)))) else none) else none)) else none
def f_X9_readChild_J38 (Λ : List Ly) (d : Dt) (p0 : Nat) (v1 : Int32) (v2 : Int32) (v3 : Int32) (y0 : Int32) (y1 : Nat) : Option Dt := if clsAt Λ y1 = some 9 then (Option.bind (f_X9_needs Λ d y1 y0 (3 : Int32)) fun z7 => if clsAt Λ p0 = some 9 then (Option.bind (f_X9_reads Λ z7 p0) fun z9 => Option.bind (f_X9_readNumber Λ z9 p0 (1 : Int32) (99 : Int32)) fun z10 => Option.bind (rf Λ p0 9 3) fun q11 => if okA Λ q11 1 (v2 + (0 : Int32)) = true then (if v3 = (9 : Int32) then (f_X9_readChild_J83 Λ (pI z10.2 q11 ((v2 + (0 : Int32))).toNatClampNeg v1) p0 v2 v3 z10.1 (-4 : Int32) (v2 + (1 : Int32)) q11) else (f_X9_readChild_J83 Λ (pI z10.2 q11 ((v2 + (0 : Int32))).toNatClampNeg v1) p0 v2 v3 z10.1 v3 (v2 + (1 : Int32)) q11)) else none) else none) else none
def f_X9_readChild_J33 (Λ : List Ly) (d : Dt) (p0 : Nat) (v1 : Int32) (v2 : Int32) (v3 : Int32) (y0 : Nat) : Option Dt := f_X9_readChild_J38 Λ d p0 v1 v2 v3 (1 : Int32) y0
def f_X9_readChild (Λ : List Ly) (d : Dt) (p0 : Nat) (v1 : Int32) : Option Dt := Option.bind (rf Λ p0 9 3) fun q1 => if okA Λ q1 1 (37 : Int32) = true then (if clsAt Λ p0 = some 9 then (Option.bind (f_X9_looked Λ d p0 (0 : Int32) (9 : Int32)) fun z4 => if z4.1 < (4 : Int32) then (f_X9_readChild_J33 Λ z4.2 p0 v1 ((12 : Int32) + ((5 : Int32) * (d.1 q1 ((37 : Int32)).toNatClampNeg))) z4.1 p0) else (if z4.1 = (9 : Int32) then (f_X9_readChild_J33 Λ z4.2 p0 v1 ((12 : Int32) + ((5 : Int32) * (d.1 q1 ((37 : Int32)).toNatClampNeg))) z4.1 p0) else (f_X9_readChild_J38 Λ z4.2 p0 v1 ((12 : Int32) + ((5 : Int32) * (d.1 q1 ((37 : Int32)).toNatClampNeg))) z4.1 (0 : Int32) p0))) else none) else none
set_option maxHeartbeats 4000000 in
set_option maxRecDepth 100000 in
theorem w_X9_readChild_J83 {p : Program} {l : Launch} {e : Env} {s : State} {m : MethodId} {args : Array Value} {below : List Frame} {meth : Method} {c : Code} {Γ : Cx} {Λ : List Ly} {z : Dt} {d : Dt} (C0 : Ct Γ p s m args c cX9_readChild 5 "SeasonBoundModel") (hr : meth.sig.returnType = none) (hlocks : meth.locks = false) (p0 : Nat) (v2 : Int32) (v3 : Int32) (v4 : Int32) (y0 : Int32) (y1 : Int32) (y2 : Nat)
    (hf : f_X9_readChild_J83 Λ d p0 v2 v3 v4 y0 y1 y2 = some z) (H : Heap) (locs : List Loc) (ls : Array Slot) (hH : Hs Γ Λ d s H locs) (hl : lv_has ls 5 [(0, .ref (Γ.2.2.1 + p0)), (2, .int v2), (3, .int v3), (4, .int v4)]) : W p l e { frames := 3, cells := 0, slots := 0, locals := 70 } s m args below meth c H locs 0 0 (MQ below (QN Γ Λ z none) args s 0 0 (AP Γ)) (F0 m 83 ls [.int y0, .int y1, .ref (Γ.2.2.1 + y2)]) := by
  obtain ⟨hx, hb, hml, hown, hts, hK⟩ := id C0
  unfold f_X9_readChild_J83 at hf
  obtain ⟨g14, hf⟩ := gd hf
  refine r_iast C0 hH g14 dX9_readChild_83 (fun H locs hH => ?_)
  refine lv_aload_n hx hb dX9_readChild_84 rfl (lv_at hl 0 rfl) ?_
  obtain ⟨q15, g15, hf⟩ := ob hf
  refine r_getr C0 hH fl_X9_20 g15 dX9_readChild_85 ?_
  refine lv_iload_n hx hb dX9_readChild_88 rfl (lv_at hl 1 rfl) ?_
  refine lv_iconst (v := (2 : Int32)) hx hb dX9_readChild_89 (by decide) ?_
  refine lv_iadd hx hb dX9_readChild_90 ?_
  refine lv_iload_n hx hb dX9_readChild_91 rfl (lv_at hl 2 rfl) ?_
  refine lv_bipush (v := (9 : Int32)) hx hb dX9_readChild_92 (by decide) ?_
  refine lv_icmp_ne (tgt := 101) hx hb dX9_readChild_94 (by decide) (fun c16 => ?_) (fun c16 => ?_)
  · replace hf := ie hf c16
    refine lv_iload hx hb dX9_readChild_101 (lv_at hl 3 rfl) ?_
    obtain ⟨g17, hf⟩ := gd hf
    refine r_iast C0 hH g17 dX9_readChild_103 (fun H locs hH => ?_)
    refine lv_aload_n hx hb dX9_readChild_104 rfl (lv_at hl 0 rfl) ?_
    refine r_getr C0 hH fl_X9_20 g15 dX9_readChild_105 ?_
    refine lv_bipush (v := (37 : Int32)) hx hb dX9_readChild_108 (by decide) ?_
    refine lv_dup2_11 hx hb dX9_readChild_110 rfl rfl ?_
    obtain ⟨g18, hf⟩ := gd hf
    refine r_iald C0 hH g18 dX9_readChild_111 ?_
    refine lv_iconst (v := (1 : Int32)) hx hb dX9_readChild_112 (by decide) ?_
    refine lv_iadd hx hb dX9_readChild_113 ?_
    refine r_iast C0 hH g18 dX9_readChild_114 (fun H locs hH => ?_)
    obtain rfl := Option.some.inj hf
    exact r_vret C0 hr hlocks hH dX9_readChild_115
  · replace hf := it hf c16
    refine lv_iconst (v := (0 : Int32)) hx hb dX9_readChild_97 (by decide) ?_
    refine lv_goto (tgt := 103) hx hb dX9_readChild_98 (by decide) ?_
    obtain ⟨g19, hf⟩ := gd hf
    refine r_iast C0 hH g19 dX9_readChild_103 (fun H locs hH => ?_)
    refine lv_aload_n hx hb dX9_readChild_104 rfl (lv_at hl 0 rfl) ?_
    refine r_getr C0 hH fl_X9_20 g15 dX9_readChild_105 ?_
    refine lv_bipush (v := (37 : Int32)) hx hb dX9_readChild_108 (by decide) ?_
    refine lv_dup2_11 hx hb dX9_readChild_110 rfl rfl ?_
    obtain ⟨g20, hf⟩ := gd hf
    refine r_iald C0 hH g20 dX9_readChild_111 ?_
    refine lv_iconst (v := (1 : Int32)) hx hb dX9_readChild_112 (by decide) ?_
    refine lv_iadd hx hb dX9_readChild_113 ?_
    refine r_iast C0 hH g20 dX9_readChild_114 (fun H locs hH => ?_)
    obtain rfl := Option.some.inj hf
    exact r_vret C0 hr hlocks hH dX9_readChild_115
set_option maxHeartbeats 4000000 in
set_option maxRecDepth 100000 in
theorem w_X9_readChild_J38 {p : Program} {l : Launch} {e : Env} {s : State} {m : MethodId} {args : Array Value} {below : List Frame} {meth : Method} {c : Code} {Γ : Cx} {Λ : List Ly} {z : Dt} {d : Dt} (C0 : Ct Γ p s m args c cX9_readChild 5 "SeasonBoundModel") (hr : meth.sig.returnType = none) (hlocks : meth.locks = false) (p0 : Nat) (v1 : Int32) (v2 : Int32) (v3 : Int32) (y0 : Int32) (y1 : Nat)
    (hf : f_X9_readChild_J38 Λ d p0 v1 v2 v3 y0 y1 = some z) (H : Heap) (locs : List Loc) (ls : Array Slot) (hH : Hs Γ Λ d s H locs) (hl : lv_has ls 5 [(0, .ref (Γ.2.2.1 + p0)), (1, .int v1), (2, .int v2), (3, .int v3)]) : W p l e { frames := 3, cells := 0, slots := 0, locals := 70 } s m args below meth c H locs 0 0 (MQ below (QN Γ Λ z none) args s 0 0 (AP Γ)) (F0 m 38 ls [.int y0, .ref (Γ.2.2.1 + y1)]) := by
  obtain ⟨hx, hb, hml, hown, hts, hK⟩ := id C0
  unfold f_X9_readChild_J38 at hf
  refine lv_iconst (v := (3 : Int32)) hx hb dX9_readChild_38 (by decide) ?_
  obtain ⟨g6, hf⟩ := gd hf
  obtain ⟨z7, h7, hf⟩ := ob hf
  refine r_callVv (rest := []) C0 hH (c_X9_needs Γ l Λ d y1 y0 (3 : Int32) z7 h7) cv_X9_105 g6 (by decide) rfl hl.1 rfl (Nat.le_of_ble_eq_true rfl) dX9_readChild_39 (by decide) (fun H locs hH => ?_)
  refine lv_aload_n hx hb dX9_readChild_42 rfl (lv_at hl 0 rfl) ?_
  obtain ⟨g8, hf⟩ := gd hf
  obtain ⟨z9, h9, hf⟩ := ob hf
  refine r_callVv (rest := []) C0 hH (c_X9_reads Γ l Λ z7 p0 z9 h9) cv_X9_113 g8 (by decide) rfl hl.1 rfl (Nat.le_of_ble_eq_true rfl) dX9_readChild_43 (by decide) (fun H locs hH => ?_)
  refine lv_aload_n hx hb dX9_readChild_46 rfl (lv_at hl 0 rfl) ?_
  refine lv_iconst (v := (1 : Int32)) hx hb dX9_readChild_47 (by decide) ?_
  refine lv_bipush (v := (99 : Int32)) hx hb dX9_readChild_48 (by decide) ?_
  obtain ⟨z10, h10, hf⟩ := ob hf
  refine r_callVi (rest := []) C0 hH (c_X9_readNumber Γ l Λ z9 p0 (1 : Int32) (99 : Int32) z10 h10) cv_X9_116 g8 (by decide) rfl hl.1 rfl (Nat.le_of_ble_eq_true rfl) dX9_readChild_50 (by decide) (fun H locs hH => ?_)
  refine lv_istore (lv' := [(4, .int z10.1), (0, .ref (Γ.2.2.1 + p0)), (1, .int v1), (2, .int v2), (3, .int v3)]) hx hb dX9_readChild_53 hl (by decide) rfl (fun ls hl => ?_)
  refine lv_aload_n hx hb dX9_readChild_55 rfl (lv_at hl 1 rfl) ?_
  obtain ⟨q11, g11, hf⟩ := ob hf
  refine r_getr C0 hH fl_X9_20 g11 dX9_readChild_56 ?_
  refine lv_iload_n hx hb dX9_readChild_59 rfl (lv_at hl 3 rfl) ?_
  refine lv_iconst (v := (0 : Int32)) hx hb dX9_readChild_60 (by decide) ?_
  refine lv_iadd hx hb dX9_readChild_61 ?_
  refine lv_iload_n hx hb dX9_readChild_62 rfl (lv_at hl 2 rfl) ?_
  obtain ⟨g12, hf⟩ := gd hf
  refine r_iast C0 hH g12 dX9_readChild_63 (fun H locs hH => ?_)
  refine lv_aload_n hx hb dX9_readChild_64 rfl (lv_at hl 1 rfl) ?_
  refine r_getr C0 hH fl_X9_20 g11 dX9_readChild_65 ?_
  refine lv_iload_n hx hb dX9_readChild_68 rfl (lv_at hl 3 rfl) ?_
  refine lv_iconst (v := (1 : Int32)) hx hb dX9_readChild_69 (by decide) ?_
  refine lv_iadd hx hb dX9_readChild_70 ?_
  refine lv_iload_n hx hb dX9_readChild_71 rfl (lv_at hl 4 rfl) ?_
  refine lv_bipush (v := (9 : Int32)) hx hb dX9_readChild_72 (by decide) ?_
  refine lv_icmp_ne (tgt := 82) hx hb dX9_readChild_74 (by decide) (fun c13 => ?_) (fun c13 => ?_)
  · replace hf := ie hf c13
    refine lv_iload_n hx hb dX9_readChild_82 rfl (lv_at hl 4 rfl) ?_
    exact w_X9_readChild_J83 C0 hr hlocks p0 v2 v3 z10.1 v3 (v2 + (1 : Int32)) q11 hf _ _ _ hH (lv_sub hl [1, 3, 4, 0] rfl)
  · replace hf := it hf c13
    refine lv_bipush (v := (-4 : Int32)) hx hb dX9_readChild_77 (by decide) ?_
    refine lv_goto (tgt := 83) hx hb dX9_readChild_79 (by decide) ?_
    exact w_X9_readChild_J83 C0 hr hlocks p0 v2 v3 z10.1 (-4 : Int32) (v2 + (1 : Int32)) q11 hf _ _ _ hH (lv_sub hl [1, 3, 4, 0] rfl)
set_option maxHeartbeats 4000000 in
set_option maxRecDepth 100000 in
theorem w_X9_readChild_J33 {p : Program} {l : Launch} {e : Env} {s : State} {m : MethodId} {args : Array Value} {below : List Frame} {meth : Method} {c : Code} {Γ : Cx} {Λ : List Ly} {z : Dt} {d : Dt} (C0 : Ct Γ p s m args c cX9_readChild 5 "SeasonBoundModel") (hr : meth.sig.returnType = none) (hlocks : meth.locks = false) (p0 : Nat) (v1 : Int32) (v2 : Int32) (v3 : Int32) (y0 : Nat)
    (hf : f_X9_readChild_J33 Λ d p0 v1 v2 v3 y0 = some z) (H : Heap) (locs : List Loc) (ls : Array Slot) (hH : Hs Γ Λ d s H locs) (hl : lv_has ls 5 [(0, .ref (Γ.2.2.1 + p0)), (1, .int v1), (2, .int v2), (3, .int v3)]) : W p l e { frames := 3, cells := 0, slots := 0, locals := 70 } s m args below meth c H locs 0 0 (MQ below (QN Γ Λ z none) args s 0 0 (AP Γ)) (F0 m 33 ls [.ref (Γ.2.2.1 + y0)]) := by
  obtain ⟨hx, hb, hml, hown, hts, hK⟩ := id C0
  unfold f_X9_readChild_J33 at hf
  refine lv_iconst (v := (1 : Int32)) hx hb dX9_readChild_33 (by decide) ?_
  refine lv_goto (tgt := 38) hx hb dX9_readChild_34 (by decide) ?_
  exact w_X9_readChild_J38 C0 hr hlocks p0 v1 v2 v3 (1 : Int32) y0 hf _ _ _ hH (lv_sub hl [0, 1, 2, 3] rfl)
set_option maxHeartbeats 4000000 in
set_option maxRecDepth 100000 in
theorem c_X9_readChild (Γ : Cx) (l : Launch) (Λ : List Ly) (d : Dt) (p0 : Nat) (v1 : Int32) (z : Dt) (hf : f_X9_readChild Λ d p0 v1 = some z) : Cn Γ l yX9_readChild cX9_readChild 5 none 3 70 [.ref (Γ.2.2.1 + p0), .int v1] Λ d none z := by
  refine Cn.of (own := "SeasonBoundModel") (by decide +kernel) rfl (Nat.le_of_ble_eq_true rfl) ?_
  intro p e s m below meth c C0 hr hlocks hH ls hl
  have hl : lv_has ls 5 [(0, .ref (Γ.2.2.1 + p0)), (1, .int v1)] := hl
  obtain ⟨hx, hb, hml, hown, hts, hK⟩ := id C0
  unfold f_X9_readChild at hf
  refine lv_bipush (v := (12 : Int32)) hx hb dX9_readChild_0 (by decide) ?_
  refine lv_iconst (v := (5 : Int32)) hx hb dX9_readChild_2 (by decide) ?_
  refine lv_aload_n hx hb dX9_readChild_3 rfl (lv_at hl 0 rfl) ?_
  obtain ⟨q1, g1, hf⟩ := ob hf
  refine r_getr C0 hH fl_X9_20 g1 dX9_readChild_4 ?_
  refine lv_bipush (v := (37 : Int32)) hx hb dX9_readChild_7 (by decide) ?_
  obtain ⟨g2, hf⟩ := gd hf
  refine r_iald C0 hH g2 dX9_readChild_9 ?_
  refine lv_imul hx hb dX9_readChild_10 ?_
  refine lv_iadd hx hb dX9_readChild_11 ?_
  refine lv_istore_n (lv' := [(2, .int ((12 : Int32) + ((5 : Int32) * (d.1 q1 ((37 : Int32)).toNatClampNeg)))), (0, .ref (Γ.2.2.1 + p0)), (1, .int v1)]) hx hb dX9_readChild_12 rfl hl (by decide) rfl (fun ls hl => ?_)
  refine lv_aload_n hx hb dX9_readChild_13 rfl (lv_at hl 1 rfl) ?_
  refine lv_iconst (v := (0 : Int32)) hx hb dX9_readChild_14 (by decide) ?_
  refine lv_bipush (v := (9 : Int32)) hx hb dX9_readChild_15 (by decide) ?_
  obtain ⟨g3, hf⟩ := gd hf
  obtain ⟨z4, h4, hf⟩ := ob hf
  refine r_callVi (rest := []) C0 hH (c_X9_looked Γ l Λ d p0 (0 : Int32) (9 : Int32) z4 h4) cv_X9_109 g3 (by decide) rfl hl.1 rfl (Nat.le_of_ble_eq_true rfl) dX9_readChild_17 (by decide) (fun H locs hH => ?_)
  refine lv_istore_n (lv' := [(3, .int z4.1), (2, .int ((12 : Int32) + ((5 : Int32) * (d.1 q1 ((37 : Int32)).toNatClampNeg)))), (0, .ref (Γ.2.2.1 + p0)), (1, .int v1)]) hx hb dX9_readChild_20 rfl hl (by decide) rfl (fun ls hl => ?_)
  refine lv_aload_n hx hb dX9_readChild_21 rfl (lv_at hl 2 rfl) ?_
  refine lv_iload_n hx hb dX9_readChild_22 rfl (lv_at hl 0 rfl) ?_
  refine lv_iconst (v := (4 : Int32)) hx hb dX9_readChild_23 (by decide) ?_
  refine lv_icmp_lt (tgt := 33) hx hb dX9_readChild_24 (by decide) (fun c5 => ?_) (fun c5 => ?_)
  · replace hf := it hf c5
    exact w_X9_readChild_J33 C0 hr hlocks p0 v1 ((12 : Int32) + ((5 : Int32) * (d.1 q1 ((37 : Int32)).toNatClampNeg))) z4.1 p0 hf _ _ _ hH (lv_sub hl [2, 3, 1, 0] rfl)
  · replace hf := ie hf c5
    refine lv_iload_n hx hb dX9_readChild_27 rfl (lv_at hl 0 rfl) ?_
    refine lv_bipush (v := (9 : Int32)) hx hb dX9_readChild_28 (by decide) ?_
    refine lv_icmp_ne (tgt := 37) hx hb dX9_readChild_30 (by decide) (fun c21 => ?_) (fun c21 => ?_)
    · replace hf := ie hf c21
      refine lv_iconst (v := (0 : Int32)) hx hb dX9_readChild_37 (by decide) ?_
      exact w_X9_readChild_J38 C0 hr hlocks p0 v1 ((12 : Int32) + ((5 : Int32) * (d.1 q1 ((37 : Int32)).toNatClampNeg))) z4.1 (0 : Int32) p0 hf _ _ _ hH (lv_sub hl [2, 3, 1, 0] rfl)
    · replace hf := it hf c21
      exact w_X9_readChild_J33 C0 hr hlocks p0 v1 ((12 : Int32) + ((5 : Int32) * (d.1 q1 ((37 : Int32)).toNatClampNeg))) z4.1 p0 hf _ _ _ hH (lv_sub hl [2, 3, 1, 0] rfl)
