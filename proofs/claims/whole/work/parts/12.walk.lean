theorem dX7_skillBehindLessons_0 : decode cX7_skillBehindLessons 0 = .ok (.aload_n 0, 1) := by decide +kernel
theorem dX7_skillBehindLessons_1 : decode cX7_skillBehindLessons 1 = .ok (.getfield 19, 3) := by decide +kernel
theorem dX7_skillBehindLessons_4 : decode cX7_skillBehindLessons 4 = .ok (.iload_n 1, 1) := by decide +kernel
theorem dX7_skillBehindLessons_5 : decode cX7_skillBehindLessons 5 = .ok (.aaload, 1) := by decide +kernel
theorem dX7_skillBehindLessons_6 : decode cX7_skillBehindLessons 6 = .ok (.astore_n 3, 1) := by decide +kernel
theorem dX7_skillBehindLessons_7 : decode cX7_skillBehindLessons 7 = .ok (.aload_n 0, 1) := by decide +kernel
theorem dX7_skillBehindLessons_8 : decode cX7_skillBehindLessons 8 = .ok (.getfield 11, 3) := by decide +kernel
theorem dX7_skillBehindLessons_11 : decode cX7_skillBehindLessons 11 = .ok (.aload_n 3, 1) := by decide +kernel
theorem dX7_skillBehindLessons_12 : decode cX7_skillBehindLessons 12 = .ok (.getfield 86, 3) := by decide +kernel
theorem dX7_skillBehindLessons_15 : decode cX7_skillBehindLessons 15 = .ok (.aaload, 1) := by decide +kernel
theorem dX7_skillBehindLessons_16 : decode cX7_skillBehindLessons 16 = .ok (.astore 4, 2) := by decide +kernel
theorem dX7_skillBehindLessons_18 : decode cX7_skillBehindLessons 18 = .ok (.aload_n 3, 1) := by decide +kernel
theorem dX7_skillBehindLessons_19 : decode cX7_skillBehindLessons 19 = .ok (.getfield 123, 3) := by decide +kernel
theorem dX7_skillBehindLessons_22 : decode cX7_skillBehindLessons 22 = .ok (.iload_n 2, 1) := by decide +kernel
theorem dX7_skillBehindLessons_23 : decode cX7_skillBehindLessons 23 = .ok (.aload_n 3, 1) := by decide +kernel
theorem dX7_skillBehindLessons_24 : decode cX7_skillBehindLessons 24 = .ok (.getfield 126, 3) := by decide +kernel
theorem dX7_skillBehindLessons_27 : decode cX7_skillBehindLessons 27 = .ok (.aload 4, 2) := by decide +kernel
theorem dX7_skillBehindLessons_29 : decode cX7_skillBehindLessons 29 = .ok (.getfield 129, 3) := by decide +kernel
theorem dX7_skillBehindLessons_32 : decode cX7_skillBehindLessons 32 = .ok (.invokestatic 132, 3) := by decide +kernel
theorem dX7_skillBehindLessons_35 : decode cX7_skillBehindLessons 35 = .ok (.imul, 1) := by decide +kernel
theorem dX7_skillBehindLessons_36 : decode cX7_skillBehindLessons 36 = .ok (.aload 4, 2) := by decide +kernel
theorem dX7_skillBehindLessons_38 : decode cX7_skillBehindLessons 38 = .ok (.getfield 135, 3) := by decide +kernel
theorem dX7_skillBehindLessons_41 : decode cX7_skillBehindLessons 41 = .ok (.invokestatic 138, 3) := by decide +kernel
theorem dX7_skillBehindLessons_44 : decode cX7_skillBehindLessons 44 = .ok (.ireturn, 1) := by decide +kernel
def f_X7_skillBehindLessons (Λ : List Ly) (d : Dt) (p0 : Nat) (v1 : Int32) (v2 : Int32) : Option Int32 := Option.bind (rf Λ p0 7 1) fun q1 => Option.bind (ra Λ q1 4 v1) fun q2 => Option.bind (rf Λ p0 7 0) fun q3 => if clsAt Λ q2 = some 1 then (Option.bind (ra Λ q3 5 (d.1 q2 1)) fun q5 => if clsAt Λ q5 = some 4 then (some (f_X8_raised (d.1 q2 3) (v2 * (f_X8_learns (d.1 q2 0) (d.1 q5 1))) (d.1 q5 2))) else none) else none
set_option maxHeartbeats 4000000 in
set_option maxRecDepth 100000 in
theorem c_X7_skillBehindLessons (Γ : Cx) (l : Launch) (Λ : List Ly) (d : Dt) (p0 : Nat) (v1 : Int32) (v2 : Int32) (z : Int32) (hf : f_X7_skillBehindLessons Λ d p0 v1 v2 = some z) : Cn Γ l yX7_skillBehindLessons cX7_skillBehindLessons 5 (some FieldType.int) 2 43 [.ref (ad Γ.2.2.1 p0), .int v1, .int v2] Λ d (some (.int z)) d := by
  refine Cn.of (own := "SeasonBound$World") (by decide +kernel) rfl (Nat.le_of_ble_eq_true rfl) ?_
  intro p e s m below meth c C0 hr hlocks hH ls hl
  have hl : lv_has ls 5 [(0, .ref (ad Γ.2.2.1 p0)), (1, .int v1), (2, .int v2)] := hl
  obtain ⟨hx, hb, hml, hown, hts, hK⟩ := id C0
  unfold f_X7_skillBehindLessons at hf
  refine lv_aload_n hx hb dX7_skillBehindLessons_0 rfl (lv_at hl 0 rfl) ?_
  obtain ⟨q1, g1, hf⟩ := ob hf
  refine r_getr C0 hH fl_X7_19 g1 dX7_skillBehindLessons_1 ?_
  refine lv_iload_n hx hb dX7_skillBehindLessons_4 rfl (lv_at hl 1 rfl) ?_
  obtain ⟨q2, g2, hf⟩ := ob hf
  refine r_aald (C := "SeasonBound$Child") C0 hH g2 (by decide) rfl dX7_skillBehindLessons_5 ?_
  refine lv_astore_n (lv' := [(3, .ref (ad Γ.2.2.1 q2)), (0, .ref (ad Γ.2.2.1 p0)), (1, .int v1), (2, .int v2)]) hx hb dX7_skillBehindLessons_6 rfl hl (by decide) rfl (fun ls hl => ?_)
  refine lv_aload_n hx hb dX7_skillBehindLessons_7 rfl (lv_at hl 1 rfl) ?_
  obtain ⟨q3, g3, hf⟩ := ob hf
  refine r_getr C0 hH fl_X7_11 g3 dX7_skillBehindLessons_8 ?_
  refine lv_aload_n hx hb dX7_skillBehindLessons_11 rfl (lv_at hl 0 rfl) ?_
  obtain ⟨g4, hf⟩ := gd hf
  refine r_geti C0 hH fl_X7_86 g4 rfl dX7_skillBehindLessons_12 ?_
  obtain ⟨q5, g5, hf⟩ := ob hf
  refine r_aald (C := "SeasonBound$Season") C0 hH g5 (by decide) rfl dX7_skillBehindLessons_15 ?_
  refine lv_astore (lv' := [(4, .ref (ad Γ.2.2.1 q5)), (3, .ref (ad Γ.2.2.1 q2)), (0, .ref (ad Γ.2.2.1 p0)), (1, .int v1), (2, .int v2)]) hx hb dX7_skillBehindLessons_16 hl (by decide) rfl (fun ls hl => ?_)
  refine lv_aload_n hx hb dX7_skillBehindLessons_18 rfl (lv_at hl 1 rfl) ?_
  refine r_geti C0 hH fl_X7_123 g4 rfl dX7_skillBehindLessons_19 ?_
  refine lv_iload_n hx hb dX7_skillBehindLessons_22 rfl (lv_at hl 4 rfl) ?_
  refine lv_aload_n hx hb dX7_skillBehindLessons_23 rfl (lv_at hl 1 rfl) ?_
  refine r_geti C0 hH fl_X7_126 g4 rfl dX7_skillBehindLessons_24 ?_
  refine lv_aload hx hb dX7_skillBehindLessons_27 (lv_at hl 0 rfl) ?_
  obtain ⟨g6, hf⟩ := gd hf
  refine r_geti C0 hH fl_X7_129 g6 rfl dX7_skillBehindLessons_29 ?_
  refine r_callNi (rest := [.int v2, .int (d.1 q2 3)]) C0 hH (c_X8_learns Γ l Λ d (d.1 q2 0) (d.1 q5 1)) cn_X7_132 (by decide) rfl hl.1 rfl (Nat.le_of_ble_eq_true rfl) dX7_skillBehindLessons_32 (by decide) (fun H locs hH => ?_)
  refine lv_imul hx hb dX7_skillBehindLessons_35 ?_
  refine lv_aload hx hb dX7_skillBehindLessons_36 (lv_at hl 0 rfl) ?_
  refine r_geti C0 hH fl_X7_135 g6 rfl dX7_skillBehindLessons_38 ?_
  refine r_callNi (rest := []) C0 hH (c_X8_raised Γ l Λ d (d.1 q2 3) (v2 * (f_X8_learns (d.1 q2 0) (d.1 q5 1))) (d.1 q5 2)) cn_X7_138 (by decide) rfl hl.1 rfl (Nat.le_of_ble_eq_true rfl) dX7_skillBehindLessons_41 (by decide) (fun H locs hH => ?_)
  obtain rfl := Option.some.inj hf
  exact r_iret (d' := d) C0 hr hlocks hH rfl dX7_skillBehindLessons_44
theorem dX7_living_0 : decode cX7_living 0 = .ok (.iconst 0, 1) := by decide +kernel
theorem dX7_living_1 : decode cX7_living 1 = .ok (.istore_n 1, 1) := by decide +kernel
theorem dX7_living_2 : decode cX7_living 2 = .ok (.iconst 0, 1) := by decide +kernel
theorem dX7_living_3 : decode cX7_living 3 = .ok (.istore_n 2, 1) := by decide +kernel
theorem dX7_living_4 : decode cX7_living 4 = .ok (.iload_n 2, 1) := by decide +kernel
theorem dX7_living_5 : decode cX7_living 5 = .ok (.aload_n 0, 1) := by decide +kernel
theorem dX7_living_6 : decode cX7_living 6 = .ok (.getfield 39, 3) := by decide +kernel
theorem dX7_living_9 : decode cX7_living 9 = .ok (.if_icmp .ge 31, 3) := by decide +kernel
theorem dX7_living_12 : decode cX7_living 12 = .ok (.aload_n 0, 1) := by decide +kernel
theorem dX7_living_13 : decode cX7_living 13 = .ok (.getfield 19, 3) := by decide +kernel
theorem dX7_living_16 : decode cX7_living 16 = .ok (.iload_n 2, 1) := by decide +kernel
theorem dX7_living_17 : decode cX7_living 17 = .ok (.aaload, 1) := by decide +kernel
theorem dX7_living_18 : decode cX7_living 18 = .ok (.aload_n 0, 1) := by decide +kernel
theorem dX7_living_19 : decode cX7_living 19 = .ok (.getfield 49, 3) := by decide +kernel
theorem dX7_living_22 : decode cX7_living 22 = .ok (.invokevirtual 104, 3) := by decide +kernel
theorem dX7_living_25 : decode cX7_living 25 = .ok (.ifCond .eq 9, 3) := by decide +kernel
theorem dX7_living_28 : decode cX7_living 28 = .ok (.iload_n 1, 1) := by decide +kernel
theorem dX7_living_29 : decode cX7_living 29 = .ok (.iconst 1, 1) := by decide +kernel
theorem dX7_living_30 : decode cX7_living 30 = .ok (.iload_n 2, 1) := by decide +kernel
theorem dX7_living_31 : decode cX7_living 31 = .ok (.ishl, 1) := by decide +kernel
theorem dX7_living_32 : decode cX7_living 32 = .ok (.ior, 1) := by decide +kernel
theorem dX7_living_33 : decode cX7_living 33 = .ok (.istore_n 1, 1) := by decide +kernel
theorem dX7_living_34 : decode cX7_living 34 = .ok (.iinc 2 1, 3) := by decide +kernel
theorem dX7_living_37 : decode cX7_living 37 = .ok (.goto (-33), 3) := by decide +kernel
theorem dX7_living_40 : decode cX7_living 40 = .ok (.iload_n 1, 1) := by decide +kernel
theorem dX7_living_41 : decode cX7_living 41 = .ok (.ireturn, 1) := by decide +kernel
def f_X7_living_L4 (Λ : List Ly) (d : Dt) (p0 : Nat) : Nat → Int32 → Int32 → Option Int32
  | 0, _, _ => none
  | n + 1, v1, v2 => if clsAt Λ p0 = some 7 then (if (d.1 p0 2) ≤ v2 then (some v1) else (Option.bind (rf Λ p0 7 1) fun q3 => Option.bind (ra Λ q3 4 v2) fun q4 => if clsAt Λ q4 = some 1 then (Option.bind (f_X1_livesIn Λ d q4 (d.1 p0 3)) fun z6 => if z6 = 0 then (f_X7_living_L4 Λ d p0 n v1 (v2 + (1 : Int32))) else (f_X7_living_L4 Λ d p0 n (v1 ||| ((1 : Int32) <<< (v2 &&& 31))) (v2 + (1 : Int32)))) else none)) else none
def f_X7_living (Λ : List Ly) (d : Dt) (p0 : Nat) : Option Int32 := f_X7_living_L4 Λ d p0 FU (0 : Int32) (0 : Int32)
set_option maxHeartbeats 4000000 in
set_option maxRecDepth 100000 in
theorem w_X7_living_L4 {p : Program} {l : Launch} {e : Env} {s : State} {m : MethodId} {args : Array Value} {below : List Frame} {meth : Method} {c : Code} {Γ : Cx} {Λ : List Ly} {z : Int32} {d : Dt} (C0 : Ct Γ p s m args c cX7_living 3 "SeasonBound$World") (hr : meth.sig.returnType = (some FieldType.int)) (hlocks : meth.locks = false) (p0 : Nat) :
    ∀ (n : Nat) (v1 : Int32) (v2 : Int32), f_X7_living_L4 Λ d p0 n v1 v2 = some z → ∀ (H : Heap) (locs : List Loc) (ls : Array Slot), Hs Γ Λ d s H locs → lv_has ls 3 [(0, .ref (ad Γ.2.2.1 p0)), (1, .int v1), (2, .int v2)] → W p l e { frames := 1, cells := 0, slots := 0, locals := 21 } s m args below meth c H locs 0 0 (MQ below (QN Γ Λ d (some (.int z))) args s 0 0 (AP Γ)) (F0 m 4 ls []) := by
  obtain ⟨hx, hb, hml, hown, hts, hK⟩ := id C0
  intro n
  induction n with
  | zero =>
    intro v1 v2 hf
    cases hf
  | succ n ih =>
    intro v1 v2 hf H locs ls hH hl
    unfold f_X7_living_L4 at hf
    refine lv_iload_n hx hb dX7_living_4 rfl (lv_at hl 2 rfl) ?_
    refine lv_aload_n hx hb dX7_living_5 rfl (lv_at hl 0 rfl) ?_
    obtain ⟨g1, hf⟩ := gd hf
    refine r_geti C0 hH fl_X7_39 g1 rfl dX7_living_6 ?_
    refine lv_icmp_ge (tgt := 40) hx hb dX7_living_9 (by decide) (fun c2 => ?_) (fun c2 => ?_)
    · replace hf := it hf c2
      refine lv_iload_n hx hb dX7_living_40 rfl (lv_at hl 1 rfl) ?_
      obtain rfl := Option.some.inj hf
      exact r_iret (d' := d) C0 hr hlocks hH rfl dX7_living_41
    · replace hf := ie hf c2
      refine lv_aload_n hx hb dX7_living_12 rfl (lv_at hl 0 rfl) ?_
      obtain ⟨q3, g3, hf⟩ := ob hf
      refine r_getr C0 hH fl_X7_19 g3 dX7_living_13 ?_
      refine lv_iload_n hx hb dX7_living_16 rfl (lv_at hl 2 rfl) ?_
      obtain ⟨q4, g4, hf⟩ := ob hf
      refine r_aald (C := "SeasonBound$Child") C0 hH g4 (by decide) rfl dX7_living_17 ?_
      refine lv_aload_n hx hb dX7_living_18 rfl (lv_at hl 0 rfl) ?_
      refine r_geti C0 hH fl_X7_49 g1 rfl dX7_living_19 ?_
      obtain ⟨g5, hf⟩ := gd hf
      obtain ⟨z6, h6, hf⟩ := ob hf
      refine r_callVi (rest := []) C0 hH (c_X1_livesIn Γ l Λ d q4 (d.1 p0 3) z6 h6) cv_X7_104 g5 (by decide) rfl hl.1 rfl (Nat.le_of_ble_eq_true rfl) dX7_living_22 (by decide) (fun H locs hH => ?_)
      refine lv_if_eq (tgt := 34) hx hb dX7_living_25 (by decide) (fun c7 => ?_) (fun c7 => ?_)
      · replace hf := it hf c7
        refine lv_iinc (v := (v2 + (1 : Int32))) (lv' := [(2, .int (v2 + (1 : Int32))), (0, .ref (ad Γ.2.2.1 p0)), (1, .int v1)]) hx hb dX7_living_34 hl (k := 2) rfl (congrArg (fun w => v2 + w) (by decide)) (by decide) rfl (fun ls hl => ?_)
        refine lv_goto (tgt := 4) hx hb dX7_living_37 (by decide) ?_
        exact ih v1 (v2 + (1 : Int32)) hf _ _ _ hH (lv_sub hl [1, 2, 0] rfl)
      · replace hf := ie hf c7
        refine lv_iload_n hx hb dX7_living_28 rfl (lv_at hl 1 rfl) ?_
        refine lv_iconst (v := (1 : Int32)) hx hb dX7_living_29 (by decide) ?_
        refine lv_iload_n hx hb dX7_living_30 rfl (lv_at hl 2 rfl) ?_
        refine lv_ishl hx hb dX7_living_31 ?_
        refine lv_ior hx hb dX7_living_32 ?_
        refine lv_istore_n (lv' := [(1, .int (v1 ||| ((1 : Int32) <<< (v2 &&& 31)))), (0, .ref (ad Γ.2.2.1 p0)), (2, .int v2)]) hx hb dX7_living_33 rfl hl (by decide) rfl (fun ls hl => ?_)
        refine lv_iinc (v := (v2 + (1 : Int32))) (lv' := [(2, .int (v2 + (1 : Int32))), (1, .int (v1 ||| ((1 : Int32) <<< (v2 &&& 31)))), (0, .ref (ad Γ.2.2.1 p0))]) hx hb dX7_living_34 hl (k := 2) rfl (congrArg (fun w => v2 + w) (by decide)) (by decide) rfl (fun ls hl => ?_)
        refine lv_goto (tgt := 4) hx hb dX7_living_37 (by decide) ?_
        exact ih (v1 ||| ((1 : Int32) <<< (v2 &&& 31))) (v2 + (1 : Int32)) hf _ _ _ hH (lv_sub hl [2, 1, 0] rfl)
set_option maxHeartbeats 4000000 in
set_option maxRecDepth 100000 in
theorem c_X7_living (Γ : Cx) (l : Launch) (Λ : List Ly) (d : Dt) (p0 : Nat) (z : Int32) (hf : f_X7_living Λ d p0 = some z) : Cn Γ l yX7_living cX7_living 3 (some FieldType.int) 1 21 [.ref (ad Γ.2.2.1 p0)] Λ d (some (.int z)) d := by
  refine Cn.of (own := "SeasonBound$World") (by decide +kernel) rfl (Nat.le_of_ble_eq_true rfl) ?_
  intro p e s m below meth c C0 hr hlocks hH ls hl
  have hl : lv_has ls 3 [(0, .ref (ad Γ.2.2.1 p0))] := hl
  obtain ⟨hx, hb, hml, hown, hts, hK⟩ := id C0
  unfold f_X7_living at hf
  refine lv_iconst (v := (0 : Int32)) hx hb dX7_living_0 (by decide) ?_
  refine lv_istore_n (lv' := [(1, .int (0 : Int32)), (0, .ref (ad Γ.2.2.1 p0))]) hx hb dX7_living_1 rfl hl (by decide) rfl (fun ls hl => ?_)
  refine lv_iconst (v := (0 : Int32)) hx hb dX7_living_2 (by decide) ?_
  refine lv_istore_n (lv' := [(2, .int (0 : Int32)), (1, .int (0 : Int32)), (0, .ref (ad Γ.2.2.1 p0))]) hx hb dX7_living_3 rfl hl (by decide) rfl (fun ls hl => ?_)
  refine w_X7_living_L4 C0 hr hlocks p0 FU (0 : Int32) (0 : Int32) hf _ _ _ hH (lv_sub hl [2, 1, 0] rfl)
theorem dX7_freeOnes_0 : decode cX7_freeOnes 0 = .ok (.iconst 0, 1) := by decide +kernel
theorem dX7_freeOnes_1 : decode cX7_freeOnes 1 = .ok (.istore_n 1, 1) := by decide +kernel
theorem dX7_freeOnes_2 : decode cX7_freeOnes 2 = .ok (.iconst 0, 1) := by decide +kernel
theorem dX7_freeOnes_3 : decode cX7_freeOnes 3 = .ok (.istore_n 2, 1) := by decide +kernel
theorem dX7_freeOnes_4 : decode cX7_freeOnes 4 = .ok (.iload_n 2, 1) := by decide +kernel
theorem dX7_freeOnes_5 : decode cX7_freeOnes 5 = .ok (.aload_n 0, 1) := by decide +kernel
theorem dX7_freeOnes_6 : decode cX7_freeOnes 6 = .ok (.getfield 39, 3) := by decide +kernel
theorem dX7_freeOnes_9 : decode cX7_freeOnes 9 = .ok (.if_icmp .ge 27, 3) := by decide +kernel
theorem dX7_freeOnes_12 : decode cX7_freeOnes 12 = .ok (.aload_n 0, 1) := by decide +kernel
theorem dX7_freeOnes_13 : decode cX7_freeOnes 13 = .ok (.getfield 19, 3) := by decide +kernel
theorem dX7_freeOnes_16 : decode cX7_freeOnes 16 = .ok (.iload_n 2, 1) := by decide +kernel
theorem dX7_freeOnes_17 : decode cX7_freeOnes 17 = .ok (.aaload, 1) := by decide +kernel
theorem dX7_freeOnes_18 : decode cX7_freeOnes 18 = .ok (.invokevirtual 82, 3) := by decide +kernel
theorem dX7_freeOnes_21 : decode cX7_freeOnes 21 = .ok (.ifCond .eq 9, 3) := by decide +kernel
theorem dX7_freeOnes_24 : decode cX7_freeOnes 24 = .ok (.iload_n 1, 1) := by decide +kernel
theorem dX7_freeOnes_25 : decode cX7_freeOnes 25 = .ok (.iconst 1, 1) := by decide +kernel
theorem dX7_freeOnes_26 : decode cX7_freeOnes 26 = .ok (.iload_n 2, 1) := by decide +kernel
theorem dX7_freeOnes_27 : decode cX7_freeOnes 27 = .ok (.ishl, 1) := by decide +kernel
theorem dX7_freeOnes_28 : decode cX7_freeOnes 28 = .ok (.ior, 1) := by decide +kernel
theorem dX7_freeOnes_29 : decode cX7_freeOnes 29 = .ok (.istore_n 1, 1) := by decide +kernel
theorem dX7_freeOnes_30 : decode cX7_freeOnes 30 = .ok (.iinc 2 1, 3) := by decide +kernel
theorem dX7_freeOnes_33 : decode cX7_freeOnes 33 = .ok (.goto (-29), 3) := by decide +kernel
theorem dX7_freeOnes_36 : decode cX7_freeOnes 36 = .ok (.iload_n 1, 1) := by decide +kernel
theorem dX7_freeOnes_37 : decode cX7_freeOnes 37 = .ok (.ireturn, 1) := by decide +kernel
def f_X7_freeOnes_L4 (Λ : List Ly) (d : Dt) (p0 : Nat) : Nat → Int32 → Int32 → Option Int32
  | 0, _, _ => none
  | n + 1, v1, v2 => if clsAt Λ p0 = some 7 then (if (d.1 p0 2) ≤ v2 then (some v1) else (Option.bind (rf Λ p0 7 1) fun q3 => Option.bind (ra Λ q3 4 v2) fun q4 => if clsAt Λ q4 = some 1 then (Option.bind (f_X1_isFree Λ d q4) fun z6 => if z6 = 0 then (f_X7_freeOnes_L4 Λ d p0 n v1 (v2 + (1 : Int32))) else (f_X7_freeOnes_L4 Λ d p0 n (v1 ||| ((1 : Int32) <<< (v2 &&& 31))) (v2 + (1 : Int32)))) else none)) else none
def f_X7_freeOnes (Λ : List Ly) (d : Dt) (p0 : Nat) : Option Int32 := f_X7_freeOnes_L4 Λ d p0 FU (0 : Int32) (0 : Int32)
set_option maxHeartbeats 4000000 in
set_option maxRecDepth 100000 in
theorem w_X7_freeOnes_L4 {p : Program} {l : Launch} {e : Env} {s : State} {m : MethodId} {args : Array Value} {below : List Frame} {meth : Method} {c : Code} {Γ : Cx} {Λ : List Ly} {z : Int32} {d : Dt} (C0 : Ct Γ p s m args c cX7_freeOnes 3 "SeasonBound$World") (hr : meth.sig.returnType = (some FieldType.int)) (hlocks : meth.locks = false) (p0 : Nat) :
    ∀ (n : Nat) (v1 : Int32) (v2 : Int32), f_X7_freeOnes_L4 Λ d p0 n v1 v2 = some z → ∀ (H : Heap) (locs : List Loc) (ls : Array Slot), Hs Γ Λ d s H locs → lv_has ls 3 [(0, .ref (ad Γ.2.2.1 p0)), (1, .int v1), (2, .int v2)] → W p l e { frames := 1, cells := 0, slots := 0, locals := 20 } s m args below meth c H locs 0 0 (MQ below (QN Γ Λ d (some (.int z))) args s 0 0 (AP Γ)) (F0 m 4 ls []) := by
  obtain ⟨hx, hb, hml, hown, hts, hK⟩ := id C0
  intro n
  induction n with
  | zero =>
    intro v1 v2 hf
    cases hf
  | succ n ih =>
    intro v1 v2 hf H locs ls hH hl
    unfold f_X7_freeOnes_L4 at hf
    refine lv_iload_n hx hb dX7_freeOnes_4 rfl (lv_at hl 2 rfl) ?_
    refine lv_aload_n hx hb dX7_freeOnes_5 rfl (lv_at hl 0 rfl) ?_
    obtain ⟨g1, hf⟩ := gd hf
    refine r_geti C0 hH fl_X7_39 g1 rfl dX7_freeOnes_6 ?_
    refine lv_icmp_ge (tgt := 36) hx hb dX7_freeOnes_9 (by decide) (fun c2 => ?_) (fun c2 => ?_)
    · replace hf := it hf c2
      refine lv_iload_n hx hb dX7_freeOnes_36 rfl (lv_at hl 1 rfl) ?_
      obtain rfl := Option.some.inj hf
      exact r_iret (d' := d) C0 hr hlocks hH rfl dX7_freeOnes_37
    · replace hf := ie hf c2
      refine lv_aload_n hx hb dX7_freeOnes_12 rfl (lv_at hl 0 rfl) ?_
      obtain ⟨q3, g3, hf⟩ := ob hf
      refine r_getr C0 hH fl_X7_19 g3 dX7_freeOnes_13 ?_
      refine lv_iload_n hx hb dX7_freeOnes_16 rfl (lv_at hl 2 rfl) ?_
      obtain ⟨q4, g4, hf⟩ := ob hf
      refine r_aald (C := "SeasonBound$Child") C0 hH g4 (by decide) rfl dX7_freeOnes_17 ?_
      obtain ⟨g5, hf⟩ := gd hf
      obtain ⟨z6, h6, hf⟩ := ob hf
      refine r_callVi (rest := []) C0 hH (c_X1_isFree Γ l Λ d q4 z6 h6) cv_X7_82 g5 (by decide) rfl hl.1 rfl (Nat.le_of_ble_eq_true rfl) dX7_freeOnes_18 (by decide) (fun H locs hH => ?_)
      refine lv_if_eq (tgt := 30) hx hb dX7_freeOnes_21 (by decide) (fun c7 => ?_) (fun c7 => ?_)
      · replace hf := it hf c7
        refine lv_iinc (v := (v2 + (1 : Int32))) (lv' := [(2, .int (v2 + (1 : Int32))), (0, .ref (ad Γ.2.2.1 p0)), (1, .int v1)]) hx hb dX7_freeOnes_30 hl (k := 2) rfl (congrArg (fun w => v2 + w) (by decide)) (by decide) rfl (fun ls hl => ?_)
        refine lv_goto (tgt := 4) hx hb dX7_freeOnes_33 (by decide) ?_
        exact ih v1 (v2 + (1 : Int32)) hf _ _ _ hH (lv_sub hl [1, 2, 0] rfl)
      · replace hf := ie hf c7
        refine lv_iload_n hx hb dX7_freeOnes_24 rfl (lv_at hl 1 rfl) ?_
        refine lv_iconst (v := (1 : Int32)) hx hb dX7_freeOnes_25 (by decide) ?_
        refine lv_iload_n hx hb dX7_freeOnes_26 rfl (lv_at hl 2 rfl) ?_
        refine lv_ishl hx hb dX7_freeOnes_27 ?_
        refine lv_ior hx hb dX7_freeOnes_28 ?_
        refine lv_istore_n (lv' := [(1, .int (v1 ||| ((1 : Int32) <<< (v2 &&& 31)))), (0, .ref (ad Γ.2.2.1 p0)), (2, .int v2)]) hx hb dX7_freeOnes_29 rfl hl (by decide) rfl (fun ls hl => ?_)
        refine lv_iinc (v := (v2 + (1 : Int32))) (lv' := [(2, .int (v2 + (1 : Int32))), (1, .int (v1 ||| ((1 : Int32) <<< (v2 &&& 31)))), (0, .ref (ad Γ.2.2.1 p0))]) hx hb dX7_freeOnes_30 hl (k := 2) rfl (congrArg (fun w => v2 + w) (by decide)) (by decide) rfl (fun ls hl => ?_)
        refine lv_goto (tgt := 4) hx hb dX7_freeOnes_33 (by decide) ?_
        exact ih (v1 ||| ((1 : Int32) <<< (v2 &&& 31))) (v2 + (1 : Int32)) hf _ _ _ hH (lv_sub hl [2, 1, 0] rfl)
set_option maxHeartbeats 4000000 in
set_option maxRecDepth 100000 in
theorem c_X7_freeOnes (Γ : Cx) (l : Launch) (Λ : List Ly) (d : Dt) (p0 : Nat) (z : Int32) (hf : f_X7_freeOnes Λ d p0 = some z) : Cn Γ l yX7_freeOnes cX7_freeOnes 3 (some FieldType.int) 1 20 [.ref (ad Γ.2.2.1 p0)] Λ d (some (.int z)) d := by
  refine Cn.of (own := "SeasonBound$World") (by decide +kernel) rfl (Nat.le_of_ble_eq_true rfl) ?_
  intro p e s m below meth c C0 hr hlocks hH ls hl
  have hl : lv_has ls 3 [(0, .ref (ad Γ.2.2.1 p0))] := hl
  obtain ⟨hx, hb, hml, hown, hts, hK⟩ := id C0
  unfold f_X7_freeOnes at hf
  refine lv_iconst (v := (0 : Int32)) hx hb dX7_freeOnes_0 (by decide) ?_
  refine lv_istore_n (lv' := [(1, .int (0 : Int32)), (0, .ref (ad Γ.2.2.1 p0))]) hx hb dX7_freeOnes_1 rfl hl (by decide) rfl (fun ls hl => ?_)
  refine lv_iconst (v := (0 : Int32)) hx hb dX7_freeOnes_2 (by decide) ?_
  refine lv_istore_n (lv' := [(2, .int (0 : Int32)), (1, .int (0 : Int32)), (0, .ref (ad Γ.2.2.1 p0))]) hx hb dX7_freeOnes_3 rfl hl (by decide) rfl (fun ls hl => ?_)
  refine w_X7_freeOnes_L4 C0 hr hlocks p0 FU (0 : Int32) (0 : Int32) hf _ _ _ hH (lv_sub hl [2, 1, 0] rfl)
theorem dX7_skillSum_0 : decode cX7_skillSum 0 = .ok (.iconst 0, 1) := by decide +kernel
theorem dX7_skillSum_1 : decode cX7_skillSum 1 = .ok (.istore_n 1, 1) := by decide +kernel
theorem dX7_skillSum_2 : decode cX7_skillSum 2 = .ok (.iconst 0, 1) := by decide +kernel
theorem dX7_skillSum_3 : decode cX7_skillSum 3 = .ok (.istore_n 2, 1) := by decide +kernel
theorem dX7_skillSum_4 : decode cX7_skillSum 4 = .ok (.iload_n 2, 1) := by decide +kernel
theorem dX7_skillSum_5 : decode cX7_skillSum 5 = .ok (.aload_n 0, 1) := by decide +kernel
theorem dX7_skillSum_6 : decode cX7_skillSum 6 = .ok (.getfield 39, 3) := by decide +kernel
theorem dX7_skillSum_9 : decode cX7_skillSum 9 = .ok (.if_icmp .ge 21, 3) := by decide +kernel
theorem dX7_skillSum_12 : decode cX7_skillSum 12 = .ok (.iload_n 1, 1) := by decide +kernel
theorem dX7_skillSum_13 : decode cX7_skillSum 13 = .ok (.aload_n 0, 1) := by decide +kernel
theorem dX7_skillSum_14 : decode cX7_skillSum 14 = .ok (.getfield 19, 3) := by decide +kernel
theorem dX7_skillSum_17 : decode cX7_skillSum 17 = .ok (.iload_n 2, 1) := by decide +kernel
theorem dX7_skillSum_18 : decode cX7_skillSum 18 = .ok (.aaload, 1) := by decide +kernel
theorem dX7_skillSum_19 : decode cX7_skillSum 19 = .ok (.getfield 123, 3) := by decide +kernel
theorem dX7_skillSum_22 : decode cX7_skillSum 22 = .ok (.iadd, 1) := by decide +kernel
theorem dX7_skillSum_23 : decode cX7_skillSum 23 = .ok (.istore_n 1, 1) := by decide +kernel
theorem dX7_skillSum_24 : decode cX7_skillSum 24 = .ok (.iinc 2 1, 3) := by decide +kernel
theorem dX7_skillSum_27 : decode cX7_skillSum 27 = .ok (.goto (-23), 3) := by decide +kernel
theorem dX7_skillSum_30 : decode cX7_skillSum 30 = .ok (.iload_n 1, 1) := by decide +kernel
theorem dX7_skillSum_31 : decode cX7_skillSum 31 = .ok (.ireturn, 1) := by decide +kernel
def f_X7_skillSum_L4 (Λ : List Ly) (d : Dt) (p0 : Nat) : Nat → Int32 → Int32 → Option Int32
  | 0, _, _ => none
  | n + 1, v1, v2 => if clsAt Λ p0 = some 7 then (if (d.1 p0 2) ≤ v2 then (some v1) else (Option.bind (rf Λ p0 7 1) fun q3 => Option.bind (ra Λ q3 4 v2) fun q4 => if clsAt Λ q4 = some 1 then (f_X7_skillSum_L4 Λ d p0 n (v1 + (d.1 q4 3)) (v2 + (1 : Int32))) else none)) else none
def f_X7_skillSum (Λ : List Ly) (d : Dt) (p0 : Nat) : Option Int32 := f_X7_skillSum_L4 Λ d p0 FU (0 : Int32) (0 : Int32)
set_option maxHeartbeats 4000000 in
set_option maxRecDepth 100000 in
theorem w_X7_skillSum_L4 {p : Program} {l : Launch} {e : Env} {s : State} {m : MethodId} {args : Array Value} {below : List Frame} {meth : Method} {c : Code} {Γ : Cx} {Λ : List Ly} {z : Int32} {d : Dt} (C0 : Ct Γ p s m args c cX7_skillSum 3 "SeasonBound$World") (hr : meth.sig.returnType = (some FieldType.int)) (hlocks : meth.locks = false) (p0 : Nat) :
    ∀ (n : Nat) (v1 : Int32) (v2 : Int32), f_X7_skillSum_L4 Λ d p0 n v1 v2 = some z → ∀ (H : Heap) (locs : List Loc) (ls : Array Slot), Hs Γ Λ d s H locs → lv_has ls 3 [(0, .ref (ad Γ.2.2.1 p0)), (1, .int v1), (2, .int v2)] → W p l e { frames := 0, cells := 0, slots := 0, locals := 0 } s m args below meth c H locs 0 0 (MQ below (QN Γ Λ d (some (.int z))) args s 0 0 (AP Γ)) (F0 m 4 ls []) := by
  obtain ⟨hx, hb, hml, hown, hts, hK⟩ := id C0
  intro n
  induction n with
  | zero =>
    intro v1 v2 hf
    cases hf
  | succ n ih =>
    intro v1 v2 hf H locs ls hH hl
    unfold f_X7_skillSum_L4 at hf
    refine lv_iload_n hx hb dX7_skillSum_4 rfl (lv_at hl 2 rfl) ?_
    refine lv_aload_n hx hb dX7_skillSum_5 rfl (lv_at hl 0 rfl) ?_
    obtain ⟨g1, hf⟩ := gd hf
    refine r_geti C0 hH fl_X7_39 g1 rfl dX7_skillSum_6 ?_
    refine lv_icmp_ge (tgt := 30) hx hb dX7_skillSum_9 (by decide) (fun c2 => ?_) (fun c2 => ?_)
    · replace hf := it hf c2
      refine lv_iload_n hx hb dX7_skillSum_30 rfl (lv_at hl 1 rfl) ?_
      obtain rfl := Option.some.inj hf
      exact r_iret (d' := d) C0 hr hlocks hH rfl dX7_skillSum_31
    · replace hf := ie hf c2
      refine lv_iload_n hx hb dX7_skillSum_12 rfl (lv_at hl 1 rfl) ?_
      refine lv_aload_n hx hb dX7_skillSum_13 rfl (lv_at hl 0 rfl) ?_
      obtain ⟨q3, g3, hf⟩ := ob hf
      refine r_getr C0 hH fl_X7_19 g3 dX7_skillSum_14 ?_
      refine lv_iload_n hx hb dX7_skillSum_17 rfl (lv_at hl 2 rfl) ?_
      obtain ⟨q4, g4, hf⟩ := ob hf
      refine r_aald (C := "SeasonBound$Child") C0 hH g4 (by decide) rfl dX7_skillSum_18 ?_
      obtain ⟨g5, hf⟩ := gd hf
      refine r_geti C0 hH fl_X7_123 g5 rfl dX7_skillSum_19 ?_
      refine lv_iadd hx hb dX7_skillSum_22 ?_
      refine lv_istore_n (lv' := [(1, .int (v1 + (d.1 q4 3))), (0, .ref (ad Γ.2.2.1 p0)), (2, .int v2)]) hx hb dX7_skillSum_23 rfl hl (by decide) rfl (fun ls hl => ?_)
      refine lv_iinc (v := (v2 + (1 : Int32))) (lv' := [(2, .int (v2 + (1 : Int32))), (1, .int (v1 + (d.1 q4 3))), (0, .ref (ad Γ.2.2.1 p0))]) hx hb dX7_skillSum_24 hl (k := 2) rfl (congrArg (fun w => v2 + w) (by decide)) (by decide) rfl (fun ls hl => ?_)
      refine lv_goto (tgt := 4) hx hb dX7_skillSum_27 (by decide) ?_
      exact ih (v1 + (d.1 q4 3)) (v2 + (1 : Int32)) hf _ _ _ hH (lv_sub hl [2, 1, 0] rfl)
set_option maxHeartbeats 4000000 in
set_option maxRecDepth 100000 in
theorem c_X7_skillSum (Γ : Cx) (l : Launch) (Λ : List Ly) (d : Dt) (p0 : Nat) (z : Int32) (hf : f_X7_skillSum Λ d p0 = some z) : Cn Γ l yX7_skillSum cX7_skillSum 3 (some FieldType.int) 0 0 [.ref (ad Γ.2.2.1 p0)] Λ d (some (.int z)) d := by
  refine Cn.of (own := "SeasonBound$World") (by decide +kernel) rfl (Nat.le_of_ble_eq_true rfl) ?_
  intro p e s m below meth c C0 hr hlocks hH ls hl
  have hl : lv_has ls 3 [(0, .ref (ad Γ.2.2.1 p0))] := hl
  obtain ⟨hx, hb, hml, hown, hts, hK⟩ := id C0
  unfold f_X7_skillSum at hf
  refine lv_iconst (v := (0 : Int32)) hx hb dX7_skillSum_0 (by decide) ?_
  refine lv_istore_n (lv' := [(1, .int (0 : Int32)), (0, .ref (ad Γ.2.2.1 p0))]) hx hb dX7_skillSum_1 rfl hl (by decide) rfl (fun ls hl => ?_)
  refine lv_iconst (v := (0 : Int32)) hx hb dX7_skillSum_2 (by decide) ?_
  refine lv_istore_n (lv' := [(2, .int (0 : Int32)), (1, .int (0 : Int32)), (0, .ref (ad Γ.2.2.1 p0))]) hx hb dX7_skillSum_3 rfl hl (by decide) rfl (fun ls hl => ?_)
  refine w_X7_skillSum_L4 C0 hr hlocks p0 FU (0 : Int32) (0 : Int32) hf _ _ _ hH (lv_sub hl [2, 1, 0] rfl)
theorem dX7_ageSum_0 : decode cX7_ageSum 0 = .ok (.iconst 0, 1) := by decide +kernel
theorem dX7_ageSum_1 : decode cX7_ageSum 1 = .ok (.istore_n 1, 1) := by decide +kernel
theorem dX7_ageSum_2 : decode cX7_ageSum 2 = .ok (.iconst 0, 1) := by decide +kernel
theorem dX7_ageSum_3 : decode cX7_ageSum 3 = .ok (.istore_n 2, 1) := by decide +kernel
theorem dX7_ageSum_4 : decode cX7_ageSum 4 = .ok (.iload_n 2, 1) := by decide +kernel
theorem dX7_ageSum_5 : decode cX7_ageSum 5 = .ok (.aload_n 0, 1) := by decide +kernel
theorem dX7_ageSum_6 : decode cX7_ageSum 6 = .ok (.getfield 39, 3) := by decide +kernel
theorem dX7_ageSum_9 : decode cX7_ageSum 9 = .ok (.if_icmp .ge 21, 3) := by decide +kernel
theorem dX7_ageSum_12 : decode cX7_ageSum 12 = .ok (.iload_n 1, 1) := by decide +kernel
theorem dX7_ageSum_13 : decode cX7_ageSum 13 = .ok (.aload_n 0, 1) := by decide +kernel
theorem dX7_ageSum_14 : decode cX7_ageSum 14 = .ok (.getfield 19, 3) := by decide +kernel
theorem dX7_ageSum_17 : decode cX7_ageSum 17 = .ok (.iload_n 2, 1) := by decide +kernel
theorem dX7_ageSum_18 : decode cX7_ageSum 18 = .ok (.aaload, 1) := by decide +kernel
theorem dX7_ageSum_19 : decode cX7_ageSum 19 = .ok (.getfield 145, 3) := by decide +kernel
theorem dX7_ageSum_22 : decode cX7_ageSum 22 = .ok (.iadd, 1) := by decide +kernel
theorem dX7_ageSum_23 : decode cX7_ageSum 23 = .ok (.istore_n 1, 1) := by decide +kernel
theorem dX7_ageSum_24 : decode cX7_ageSum 24 = .ok (.iinc 2 1, 3) := by decide +kernel
theorem dX7_ageSum_27 : decode cX7_ageSum 27 = .ok (.goto (-23), 3) := by decide +kernel
theorem dX7_ageSum_30 : decode cX7_ageSum 30 = .ok (.iload_n 1, 1) := by decide +kernel
theorem dX7_ageSum_31 : decode cX7_ageSum 31 = .ok (.ireturn, 1) := by decide +kernel
def f_X7_ageSum_L4 (Λ : List Ly) (d : Dt) (p0 : Nat) : Nat → Int32 → Int32 → Option Int32
  | 0, _, _ => none
  | n + 1, v1, v2 => if clsAt Λ p0 = some 7 then (if (d.1 p0 2) ≤ v2 then (some v1) else (Option.bind (rf Λ p0 7 1) fun q3 => Option.bind (ra Λ q3 4 v2) fun q4 => if clsAt Λ q4 = some 1 then (f_X7_ageSum_L4 Λ d p0 n (v1 + (d.1 q4 4)) (v2 + (1 : Int32))) else none)) else none
def f_X7_ageSum (Λ : List Ly) (d : Dt) (p0 : Nat) : Option Int32 := f_X7_ageSum_L4 Λ d p0 FU (0 : Int32) (0 : Int32)
set_option maxHeartbeats 4000000 in
set_option maxRecDepth 100000 in
theorem w_X7_ageSum_L4 {p : Program} {l : Launch} {e : Env} {s : State} {m : MethodId} {args : Array Value} {below : List Frame} {meth : Method} {c : Code} {Γ : Cx} {Λ : List Ly} {z : Int32} {d : Dt} (C0 : Ct Γ p s m args c cX7_ageSum 3 "SeasonBound$World") (hr : meth.sig.returnType = (some FieldType.int)) (hlocks : meth.locks = false) (p0 : Nat) :
    ∀ (n : Nat) (v1 : Int32) (v2 : Int32), f_X7_ageSum_L4 Λ d p0 n v1 v2 = some z → ∀ (H : Heap) (locs : List Loc) (ls : Array Slot), Hs Γ Λ d s H locs → lv_has ls 3 [(0, .ref (ad Γ.2.2.1 p0)), (1, .int v1), (2, .int v2)] → W p l e { frames := 0, cells := 0, slots := 0, locals := 0 } s m args below meth c H locs 0 0 (MQ below (QN Γ Λ d (some (.int z))) args s 0 0 (AP Γ)) (F0 m 4 ls []) := by
  obtain ⟨hx, hb, hml, hown, hts, hK⟩ := id C0
  intro n
  induction n with
  | zero =>
    intro v1 v2 hf
    cases hf
  | succ n ih =>
    intro v1 v2 hf H locs ls hH hl
    unfold f_X7_ageSum_L4 at hf
    refine lv_iload_n hx hb dX7_ageSum_4 rfl (lv_at hl 2 rfl) ?_
    refine lv_aload_n hx hb dX7_ageSum_5 rfl (lv_at hl 0 rfl) ?_
    obtain ⟨g1, hf⟩ := gd hf
    refine r_geti C0 hH fl_X7_39 g1 rfl dX7_ageSum_6 ?_
    refine lv_icmp_ge (tgt := 30) hx hb dX7_ageSum_9 (by decide) (fun c2 => ?_) (fun c2 => ?_)
    · replace hf := it hf c2
      refine lv_iload_n hx hb dX7_ageSum_30 rfl (lv_at hl 1 rfl) ?_
      obtain rfl := Option.some.inj hf
      exact r_iret (d' := d) C0 hr hlocks hH rfl dX7_ageSum_31
    · replace hf := ie hf c2
      refine lv_iload_n hx hb dX7_ageSum_12 rfl (lv_at hl 1 rfl) ?_
      refine lv_aload_n hx hb dX7_ageSum_13 rfl (lv_at hl 0 rfl) ?_
      obtain ⟨q3, g3, hf⟩ := ob hf
      refine r_getr C0 hH fl_X7_19 g3 dX7_ageSum_14 ?_
      refine lv_iload_n hx hb dX7_ageSum_17 rfl (lv_at hl 2 rfl) ?_
      obtain ⟨q4, g4, hf⟩ := ob hf
      refine r_aald (C := "SeasonBound$Child") C0 hH g4 (by decide) rfl dX7_ageSum_18 ?_
      obtain ⟨g5, hf⟩ := gd hf
      refine r_geti C0 hH fl_X7_145 g5 rfl dX7_ageSum_19 ?_
      refine lv_iadd hx hb dX7_ageSum_22 ?_
      refine lv_istore_n (lv' := [(1, .int (v1 + (d.1 q4 4))), (0, .ref (ad Γ.2.2.1 p0)), (2, .int v2)]) hx hb dX7_ageSum_23 rfl hl (by decide) rfl (fun ls hl => ?_)
      refine lv_iinc (v := (v2 + (1 : Int32))) (lv' := [(2, .int (v2 + (1 : Int32))), (1, .int (v1 + (d.1 q4 4))), (0, .ref (ad Γ.2.2.1 p0))]) hx hb dX7_ageSum_24 hl (k := 2) rfl (congrArg (fun w => v2 + w) (by decide)) (by decide) rfl (fun ls hl => ?_)
      refine lv_goto (tgt := 4) hx hb dX7_ageSum_27 (by decide) ?_
      exact ih (v1 + (d.1 q4 4)) (v2 + (1 : Int32)) hf _ _ _ hH (lv_sub hl [2, 1, 0] rfl)
set_option maxHeartbeats 4000000 in
set_option maxRecDepth 100000 in
theorem c_X7_ageSum (Γ : Cx) (l : Launch) (Λ : List Ly) (d : Dt) (p0 : Nat) (z : Int32) (hf : f_X7_ageSum Λ d p0 = some z) : Cn Γ l yX7_ageSum cX7_ageSum 3 (some FieldType.int) 0 0 [.ref (ad Γ.2.2.1 p0)] Λ d (some (.int z)) d := by
  refine Cn.of (own := "SeasonBound$World") (by decide +kernel) rfl (Nat.le_of_ble_eq_true rfl) ?_
  intro p e s m below meth c C0 hr hlocks hH ls hl
  have hl : lv_has ls 3 [(0, .ref (ad Γ.2.2.1 p0))] := hl
  obtain ⟨hx, hb, hml, hown, hts, hK⟩ := id C0
  unfold f_X7_ageSum at hf
  refine lv_iconst (v := (0 : Int32)) hx hb dX7_ageSum_0 (by decide) ?_
  refine lv_istore_n (lv' := [(1, .int (0 : Int32)), (0, .ref (ad Γ.2.2.1 p0))]) hx hb dX7_ageSum_1 rfl hl (by decide) rfl (fun ls hl => ?_)
  refine lv_iconst (v := (0 : Int32)) hx hb dX7_ageSum_2 (by decide) ?_
  refine lv_istore_n (lv' := [(2, .int (0 : Int32)), (1, .int (0 : Int32)), (0, .ref (ad Γ.2.2.1 p0))]) hx hb dX7_ageSum_3 rfl hl (by decide) rfl (fun ls hl => ?_)
  refine w_X7_ageSum_L4 C0 hr hlocks p0 FU (0 : Int32) (0 : Int32) hf _ _ _ hH (lv_sub hl [2, 1, 0] rfl)
theorem dX7_termSum_0 : decode cX7_termSum 0 = .ok (.iconst 0, 1) := by decide +kernel
theorem dX7_termSum_1 : decode cX7_termSum 1 = .ok (.istore_n 1, 1) := by decide +kernel
theorem dX7_termSum_2 : decode cX7_termSum 2 = .ok (.iconst 0, 1) := by decide +kernel
theorem dX7_termSum_3 : decode cX7_termSum 3 = .ok (.istore_n 2, 1) := by decide +kernel
theorem dX7_termSum_4 : decode cX7_termSum 4 = .ok (.iload_n 2, 1) := by decide +kernel
theorem dX7_termSum_5 : decode cX7_termSum 5 = .ok (.aload_n 0, 1) := by decide +kernel
theorem dX7_termSum_6 : decode cX7_termSum 6 = .ok (.getfield 39, 3) := by decide +kernel
theorem dX7_termSum_9 : decode cX7_termSum 9 = .ok (.if_icmp .ge 21, 3) := by decide +kernel
theorem dX7_termSum_12 : decode cX7_termSum 12 = .ok (.iload_n 1, 1) := by decide +kernel
theorem dX7_termSum_13 : decode cX7_termSum 13 = .ok (.aload_n 0, 1) := by decide +kernel
theorem dX7_termSum_14 : decode cX7_termSum 14 = .ok (.getfield 19, 3) := by decide +kernel
theorem dX7_termSum_17 : decode cX7_termSum 17 = .ok (.iload_n 2, 1) := by decide +kernel
theorem dX7_termSum_18 : decode cX7_termSum 18 = .ok (.aaload, 1) := by decide +kernel
theorem dX7_termSum_19 : decode cX7_termSum 19 = .ok (.getfield 89, 3) := by decide +kernel
theorem dX7_termSum_22 : decode cX7_termSum 22 = .ok (.iadd, 1) := by decide +kernel
theorem dX7_termSum_23 : decode cX7_termSum 23 = .ok (.istore_n 1, 1) := by decide +kernel
theorem dX7_termSum_24 : decode cX7_termSum 24 = .ok (.iinc 2 1, 3) := by decide +kernel
theorem dX7_termSum_27 : decode cX7_termSum 27 = .ok (.goto (-23), 3) := by decide +kernel
theorem dX7_termSum_30 : decode cX7_termSum 30 = .ok (.iload_n 1, 1) := by decide +kernel
theorem dX7_termSum_31 : decode cX7_termSum 31 = .ok (.ireturn, 1) := by decide +kernel
def f_X7_termSum_L4 (Λ : List Ly) (d : Dt) (p0 : Nat) : Nat → Int32 → Int32 → Option Int32
  | 0, _, _ => none
  | n + 1, v1, v2 => if clsAt Λ p0 = some 7 then (if (d.1 p0 2) ≤ v2 then (some v1) else (Option.bind (rf Λ p0 7 1) fun q3 => Option.bind (ra Λ q3 4 v2) fun q4 => if clsAt Λ q4 = some 1 then (f_X7_termSum_L4 Λ d p0 n (v1 + (d.1 q4 2)) (v2 + (1 : Int32))) else none)) else none
def f_X7_termSum (Λ : List Ly) (d : Dt) (p0 : Nat) : Option Int32 := f_X7_termSum_L4 Λ d p0 FU (0 : Int32) (0 : Int32)
set_option maxHeartbeats 4000000 in
set_option maxRecDepth 100000 in
theorem w_X7_termSum_L4 {p : Program} {l : Launch} {e : Env} {s : State} {m : MethodId} {args : Array Value} {below : List Frame} {meth : Method} {c : Code} {Γ : Cx} {Λ : List Ly} {z : Int32} {d : Dt} (C0 : Ct Γ p s m args c cX7_termSum 3 "SeasonBound$World") (hr : meth.sig.returnType = (some FieldType.int)) (hlocks : meth.locks = false) (p0 : Nat) :
    ∀ (n : Nat) (v1 : Int32) (v2 : Int32), f_X7_termSum_L4 Λ d p0 n v1 v2 = some z → ∀ (H : Heap) (locs : List Loc) (ls : Array Slot), Hs Γ Λ d s H locs → lv_has ls 3 [(0, .ref (ad Γ.2.2.1 p0)), (1, .int v1), (2, .int v2)] → W p l e { frames := 0, cells := 0, slots := 0, locals := 0 } s m args below meth c H locs 0 0 (MQ below (QN Γ Λ d (some (.int z))) args s 0 0 (AP Γ)) (F0 m 4 ls []) := by
  obtain ⟨hx, hb, hml, hown, hts, hK⟩ := id C0
  intro n
  induction n with
  | zero =>
    intro v1 v2 hf
    cases hf
  | succ n ih =>
    intro v1 v2 hf H locs ls hH hl
    unfold f_X7_termSum_L4 at hf
    refine lv_iload_n hx hb dX7_termSum_4 rfl (lv_at hl 2 rfl) ?_
    refine lv_aload_n hx hb dX7_termSum_5 rfl (lv_at hl 0 rfl) ?_
    obtain ⟨g1, hf⟩ := gd hf
    refine r_geti C0 hH fl_X7_39 g1 rfl dX7_termSum_6 ?_
    refine lv_icmp_ge (tgt := 30) hx hb dX7_termSum_9 (by decide) (fun c2 => ?_) (fun c2 => ?_)
    · replace hf := it hf c2
      refine lv_iload_n hx hb dX7_termSum_30 rfl (lv_at hl 1 rfl) ?_
      obtain rfl := Option.some.inj hf
      exact r_iret (d' := d) C0 hr hlocks hH rfl dX7_termSum_31
    · replace hf := ie hf c2
      refine lv_iload_n hx hb dX7_termSum_12 rfl (lv_at hl 1 rfl) ?_
      refine lv_aload_n hx hb dX7_termSum_13 rfl (lv_at hl 0 rfl) ?_
      obtain ⟨q3, g3, hf⟩ := ob hf
      refine r_getr C0 hH fl_X7_19 g3 dX7_termSum_14 ?_
      refine lv_iload_n hx hb dX7_termSum_17 rfl (lv_at hl 2 rfl) ?_
      obtain ⟨q4, g4, hf⟩ := ob hf
      refine r_aald (C := "SeasonBound$Child") C0 hH g4 (by decide) rfl dX7_termSum_18 ?_
      obtain ⟨g5, hf⟩ := gd hf
      refine r_geti C0 hH fl_X7_89 g5 rfl dX7_termSum_19 ?_
      refine lv_iadd hx hb dX7_termSum_22 ?_
      refine lv_istore_n (lv' := [(1, .int (v1 + (d.1 q4 2))), (0, .ref (ad Γ.2.2.1 p0)), (2, .int v2)]) hx hb dX7_termSum_23 rfl hl (by decide) rfl (fun ls hl => ?_)
      refine lv_iinc (v := (v2 + (1 : Int32))) (lv' := [(2, .int (v2 + (1 : Int32))), (1, .int (v1 + (d.1 q4 2))), (0, .ref (ad Γ.2.2.1 p0))]) hx hb dX7_termSum_24 hl (k := 2) rfl (congrArg (fun w => v2 + w) (by decide)) (by decide) rfl (fun ls hl => ?_)
      refine lv_goto (tgt := 4) hx hb dX7_termSum_27 (by decide) ?_
      exact ih (v1 + (d.1 q4 2)) (v2 + (1 : Int32)) hf _ _ _ hH (lv_sub hl [2, 1, 0] rfl)
set_option maxHeartbeats 4000000 in
set_option maxRecDepth 100000 in
theorem c_X7_termSum (Γ : Cx) (l : Launch) (Λ : List Ly) (d : Dt) (p0 : Nat) (z : Int32) (hf : f_X7_termSum Λ d p0 = some z) : Cn Γ l yX7_termSum cX7_termSum 3 (some FieldType.int) 0 0 [.ref (ad Γ.2.2.1 p0)] Λ d (some (.int z)) d := by
  refine Cn.of (own := "SeasonBound$World") (by decide +kernel) rfl (Nat.le_of_ble_eq_true rfl) ?_
  intro p e s m below meth c C0 hr hlocks hH ls hl
  have hl : lv_has ls 3 [(0, .ref (ad Γ.2.2.1 p0))] := hl
  obtain ⟨hx, hb, hml, hown, hts, hK⟩ := id C0
  unfold f_X7_termSum at hf
  refine lv_iconst (v := (0 : Int32)) hx hb dX7_termSum_0 (by decide) ?_
  refine lv_istore_n (lv' := [(1, .int (0 : Int32)), (0, .ref (ad Γ.2.2.1 p0))]) hx hb dX7_termSum_1 rfl hl (by decide) rfl (fun ls hl => ?_)
  refine lv_iconst (v := (0 : Int32)) hx hb dX7_termSum_2 (by decide) ?_
  refine lv_istore_n (lv' := [(2, .int (0 : Int32)), (1, .int (0 : Int32)), (0, .ref (ad Γ.2.2.1 p0))]) hx hb dX7_termSum_3 rfl hl (by decide) rfl (fun ls hl => ?_)
  refine w_X7_termSum_L4 C0 hr hlocks p0 FU (0 : Int32) (0 : Int32) hf _ _ _ hH (lv_sub hl [2, 1, 0] rfl)
theorem dX7_lengthSum_0 : decode cX7_lengthSum 0 = .ok (.iconst 0, 1) := by decide +kernel
theorem dX7_lengthSum_1 : decode cX7_lengthSum 1 = .ok (.istore_n 1, 1) := by decide +kernel
theorem dX7_lengthSum_2 : decode cX7_lengthSum 2 = .ok (.iconst 0, 1) := by decide +kernel
theorem dX7_lengthSum_3 : decode cX7_lengthSum 3 = .ok (.istore_n 2, 1) := by decide +kernel
theorem dX7_lengthSum_4 : decode cX7_lengthSum 4 = .ok (.iload_n 2, 1) := by decide +kernel
theorem dX7_lengthSum_5 : decode cX7_lengthSum 5 = .ok (.iconst 4, 1) := by decide +kernel
theorem dX7_lengthSum_6 : decode cX7_lengthSum 6 = .ok (.if_icmp .ge 21, 3) := by decide +kernel
theorem dX7_lengthSum_9 : decode cX7_lengthSum 9 = .ok (.iload_n 1, 1) := by decide +kernel
theorem dX7_lengthSum_10 : decode cX7_lengthSum 10 = .ok (.aload_n 0, 1) := by decide +kernel
theorem dX7_lengthSum_11 : decode cX7_lengthSum 11 = .ok (.getfield 11, 3) := by decide +kernel
theorem dX7_lengthSum_14 : decode cX7_lengthSum 14 = .ok (.iload_n 2, 1) := by decide +kernel
theorem dX7_lengthSum_15 : decode cX7_lengthSum 15 = .ok (.aaload, 1) := by decide +kernel
theorem dX7_lengthSum_16 : decode cX7_lengthSum 16 = .ok (.getfield 52, 3) := by decide +kernel
theorem dX7_lengthSum_19 : decode cX7_lengthSum 19 = .ok (.iadd, 1) := by decide +kernel
theorem dX7_lengthSum_20 : decode cX7_lengthSum 20 = .ok (.istore_n 1, 1) := by decide +kernel
theorem dX7_lengthSum_21 : decode cX7_lengthSum 21 = .ok (.iinc 2 1, 3) := by decide +kernel
theorem dX7_lengthSum_24 : decode cX7_lengthSum 24 = .ok (.goto (-20), 3) := by decide +kernel
theorem dX7_lengthSum_27 : decode cX7_lengthSum 27 = .ok (.iload_n 1, 1) := by decide +kernel
theorem dX7_lengthSum_28 : decode cX7_lengthSum 28 = .ok (.ireturn, 1) := by decide +kernel
def f_X7_lengthSum_L4 (Λ : List Ly) (d : Dt) (p0 : Nat) : Nat → Int32 → Int32 → Option Int32
  | 0, _, _ => none
  | n + 1, v1, v2 => if (4 : Int32) ≤ v2 then (some v1) else (Option.bind (rf Λ p0 7 0) fun q2 => Option.bind (ra Λ q2 5 v2) fun q3 => if clsAt Λ q3 = some 4 then (f_X7_lengthSum_L4 Λ d p0 n (v1 + (d.1 q3 0)) (v2 + (1 : Int32))) else none)
def f_X7_lengthSum (Λ : List Ly) (d : Dt) (p0 : Nat) : Option Int32 := f_X7_lengthSum_L4 Λ d p0 FU (0 : Int32) (0 : Int32)
set_option maxHeartbeats 4000000 in
set_option maxRecDepth 100000 in
theorem w_X7_lengthSum_L4 {p : Program} {l : Launch} {e : Env} {s : State} {m : MethodId} {args : Array Value} {below : List Frame} {meth : Method} {c : Code} {Γ : Cx} {Λ : List Ly} {z : Int32} {d : Dt} (C0 : Ct Γ p s m args c cX7_lengthSum 3 "SeasonBound$World") (hr : meth.sig.returnType = (some FieldType.int)) (hlocks : meth.locks = false) (p0 : Nat) :
    ∀ (n : Nat) (v1 : Int32) (v2 : Int32), f_X7_lengthSum_L4 Λ d p0 n v1 v2 = some z → ∀ (H : Heap) (locs : List Loc) (ls : Array Slot), Hs Γ Λ d s H locs → lv_has ls 3 [(0, .ref (ad Γ.2.2.1 p0)), (1, .int v1), (2, .int v2)] → W p l e { frames := 0, cells := 0, slots := 0, locals := 0 } s m args below meth c H locs 0 0 (MQ below (QN Γ Λ d (some (.int z))) args s 0 0 (AP Γ)) (F0 m 4 ls []) := by
  obtain ⟨hx, hb, hml, hown, hts, hK⟩ := id C0
  intro n
  induction n with
  | zero =>
    intro v1 v2 hf
    cases hf
  | succ n ih =>
    intro v1 v2 hf H locs ls hH hl
    unfold f_X7_lengthSum_L4 at hf
    refine lv_iload_n hx hb dX7_lengthSum_4 rfl (lv_at hl 2 rfl) ?_
    refine lv_iconst (v := (4 : Int32)) hx hb dX7_lengthSum_5 (by decide) ?_
    refine lv_icmp_ge (tgt := 27) hx hb dX7_lengthSum_6 (by decide) (fun c1 => ?_) (fun c1 => ?_)
    · replace hf := it hf c1
      refine lv_iload_n hx hb dX7_lengthSum_27 rfl (lv_at hl 1 rfl) ?_
      obtain rfl := Option.some.inj hf
      exact r_iret (d' := d) C0 hr hlocks hH rfl dX7_lengthSum_28
    · replace hf := ie hf c1
      refine lv_iload_n hx hb dX7_lengthSum_9 rfl (lv_at hl 1 rfl) ?_
      refine lv_aload_n hx hb dX7_lengthSum_10 rfl (lv_at hl 0 rfl) ?_
      obtain ⟨q2, g2, hf⟩ := ob hf
      refine r_getr C0 hH fl_X7_11 g2 dX7_lengthSum_11 ?_
      refine lv_iload_n hx hb dX7_lengthSum_14 rfl (lv_at hl 2 rfl) ?_
      obtain ⟨q3, g3, hf⟩ := ob hf
      refine r_aald (C := "SeasonBound$Season") C0 hH g3 (by decide) rfl dX7_lengthSum_15 ?_
      obtain ⟨g4, hf⟩ := gd hf
      refine r_geti C0 hH fl_X7_52 g4 rfl dX7_lengthSum_16 ?_
      refine lv_iadd hx hb dX7_lengthSum_19 ?_
      refine lv_istore_n (lv' := [(1, .int (v1 + (d.1 q3 0))), (0, .ref (ad Γ.2.2.1 p0)), (2, .int v2)]) hx hb dX7_lengthSum_20 rfl hl (by decide) rfl (fun ls hl => ?_)
      refine lv_iinc (v := (v2 + (1 : Int32))) (lv' := [(2, .int (v2 + (1 : Int32))), (1, .int (v1 + (d.1 q3 0))), (0, .ref (ad Γ.2.2.1 p0))]) hx hb dX7_lengthSum_21 hl (k := 2) rfl (congrArg (fun w => v2 + w) (by decide)) (by decide) rfl (fun ls hl => ?_)
      refine lv_goto (tgt := 4) hx hb dX7_lengthSum_24 (by decide) ?_
      exact ih (v1 + (d.1 q3 0)) (v2 + (1 : Int32)) hf _ _ _ hH (lv_sub hl [2, 1, 0] rfl)
set_option maxHeartbeats 4000000 in
set_option maxRecDepth 100000 in
theorem c_X7_lengthSum (Γ : Cx) (l : Launch) (Λ : List Ly) (d : Dt) (p0 : Nat) (z : Int32) (hf : f_X7_lengthSum Λ d p0 = some z) : Cn Γ l yX7_lengthSum cX7_lengthSum 3 (some FieldType.int) 0 0 [.ref (ad Γ.2.2.1 p0)] Λ d (some (.int z)) d := by
  refine Cn.of (own := "SeasonBound$World") (by decide +kernel) rfl (Nat.le_of_ble_eq_true rfl) ?_
  intro p e s m below meth c C0 hr hlocks hH ls hl
  have hl : lv_has ls 3 [(0, .ref (ad Γ.2.2.1 p0))] := hl
  obtain ⟨hx, hb, hml, hown, hts, hK⟩ := id C0
  unfold f_X7_lengthSum at hf
  refine lv_iconst (v := (0 : Int32)) hx hb dX7_lengthSum_0 (by decide) ?_
  refine lv_istore_n (lv' := [(1, .int (0 : Int32)), (0, .ref (ad Γ.2.2.1 p0))]) hx hb dX7_lengthSum_1 rfl hl (by decide) rfl (fun ls hl => ?_)
  refine lv_iconst (v := (0 : Int32)) hx hb dX7_lengthSum_2 (by decide) ?_
  refine lv_istore_n (lv' := [(2, .int (0 : Int32)), (1, .int (0 : Int32)), (0, .ref (ad Γ.2.2.1 p0))]) hx hb dX7_lengthSum_3 rfl hl (by decide) rfl (fun ls hl => ?_)
  refine w_X7_lengthSum_L4 C0 hr hlocks p0 FU (0 : Int32) (0 : Int32) hf _ _ _ hH (lv_sub hl [2, 1, 0] rfl)
theorem dX8_feed_0 : decode cX8_feed 0 = .ok (.iload_n 1, 1) := by decide +kernel
theorem dX8_feed_1 : decode cX8_feed 1 = .ok (.iconst 0, 1) := by decide +kernel
theorem dX8_feed_2 : decode cX8_feed 2 = .ok (.bipush 127, 2) := by decide +kernel
theorem dX8_feed_4 : decode cX8_feed 4 = .ok (.invokestatic 60, 3) := by decide +kernel
theorem dX8_feed_7 : decode cX8_feed 7 = .ok (.ifCond .ne 5, 3) := by decide +kernel
theorem dX8_feed_10 : decode cX8_feed 10 = .ok (.iconst (-1), 1) := by decide +kernel
theorem dX8_feed_11 : decode cX8_feed 11 = .ok (.ireturn, 1) := by decide +kernel
theorem dX8_feed_12 : decode cX8_feed 12 = .ok (.aload_n 0, 1) := by decide +kernel
theorem dX8_feed_13 : decode cX8_feed 13 = .ok (.getfield 20, 3) := by decide +kernel
theorem dX8_feed_16 : decode cX8_feed 16 = .ok (.getfield 64, 3) := by decide +kernel
theorem dX8_feed_19 : decode cX8_feed 19 = .ok (.sipush 160, 3) := by decide +kernel
theorem dX8_feed_22 : decode cX8_feed 22 = .ok (.if_icmp .lt 6, 3) := by decide +kernel
theorem dX8_feed_25 : decode cX8_feed 25 = .ok (.bipush (-3), 2) := by decide +kernel
theorem dX8_feed_27 : decode cX8_feed 27 = .ok (.ireturn, 1) := by decide +kernel
theorem dX8_feed_28 : decode cX8_feed 28 = .ok (.aload_n 0, 1) := by decide +kernel
theorem dX8_feed_29 : decode cX8_feed 29 = .ok (.getfield 20, 3) := by decide +kernel
theorem dX8_feed_32 : decode cX8_feed 32 = .ok (.iload_n 1, 1) := by decide +kernel
theorem dX8_feed_33 : decode cX8_feed 33 = .ok (.invokevirtual 70, 3) := by decide +kernel
theorem dX8_feed_36 : decode cX8_feed 36 = .ok (.aload_n 0, 1) := by decide +kernel
theorem dX8_feed_37 : decode cX8_feed 37 = .ok (.getfield 20, 3) := by decide +kernel
theorem dX8_feed_40 : decode cX8_feed 40 = .ok (.getfield 64, 3) := by decide +kernel
theorem dX8_feed_43 : decode cX8_feed 43 = .ok (.ireturn, 1) := by decide +kernel
def f_X8_feed (Λ : List Ly) (d : Dt) (p0 : Nat) (v1 : Int32) : Option (Int32 × Dt) := if (f_X8_within v1 (0 : Int32) (127 : Int32)) = 0 then (some ((-1 : Int32), d)) else (Option.bind (rf Λ p0 8 1) fun q2 => if clsAt Λ q2 = some 6 then (if (d.1 q2 1) < (160 : Int32) then (Option.bind (f_X6_append Λ d q2 v1) fun z5 => some ((z5.1 q2 1), z5)) else (some ((-3 : Int32), d))) else none)
set_option maxHeartbeats 4000000 in
set_option maxRecDepth 100000 in
theorem c_X8_feed (Γ : Cx) (l : Launch) (Λ : List Ly) (d : Dt) (p0 : Nat) (v1 : Int32) (z : Int32 × Dt) (hf : f_X8_feed Λ d p0 v1 = some z) : Cn Γ l yX8_feed cX8_feed 2 (some FieldType.int) 1 22 [.ref (ad Γ.2.2.1 p0), .int v1] Λ d (some (.int z.1)) z.2 := by
  refine Cn.of (own := "SeasonBound") (by decide +kernel) rfl (Nat.le_of_ble_eq_true rfl) ?_
  intro p e s m below meth c C0 hr hlocks hH ls hl
  have hl : lv_has ls 2 [(0, .ref (ad Γ.2.2.1 p0)), (1, .int v1)] := hl
  obtain ⟨hx, hb, hml, hown, hts, hK⟩ := id C0
  unfold f_X8_feed at hf
  refine lv_iload_n hx hb dX8_feed_0 rfl (lv_at hl 1 rfl) ?_
  refine lv_iconst (v := (0 : Int32)) hx hb dX8_feed_1 (by decide) ?_
  refine lv_bipush (v := (127 : Int32)) hx hb dX8_feed_2 (by decide) ?_
  refine r_callSi (rest := []) C0 hH (c_X8_within Γ l Λ d v1 (0 : Int32) (127 : Int32)) cs_X8_60 (by decide) rfl hl.1 rfl (Nat.le_of_ble_eq_true rfl) dX8_feed_4 (by decide) (fun H locs hH => ?_)
  refine lv_if_ne (tgt := 12) hx hb dX8_feed_7 (by decide) (fun c1 => ?_) (fun c1 => ?_)
  · replace hf := ie hf c1
    refine lv_aload_n hx hb dX8_feed_12 rfl (lv_at hl 0 rfl) ?_
    obtain ⟨q2, g2, hf⟩ := ob hf
    refine r_getr C0 hH fl_X8_20 g2 dX8_feed_13 ?_
    obtain ⟨g3, hf⟩ := gd hf
    refine r_geti C0 hH fl_X8_64 g3 rfl dX8_feed_16 ?_
    refine lv_sipush (v := (160 : Int32)) hx hb dX8_feed_19 (by decide) ?_
    refine lv_icmp_lt (tgt := 28) hx hb dX8_feed_22 (by decide) (fun c4 => ?_) (fun c4 => ?_)
    · replace hf := it hf c4
      refine lv_aload_n hx hb dX8_feed_28 rfl (lv_at hl 0 rfl) ?_
      refine r_getr C0 hH fl_X8_20 g2 dX8_feed_29 ?_
      refine lv_iload_n hx hb dX8_feed_32 rfl (lv_at hl 1 rfl) ?_
      obtain ⟨z5, h5, hf⟩ := ob hf
      refine r_callVv (rest := []) C0 hH (c_X6_append Γ l Λ d q2 v1 z5 h5) cv_X8_70 g3 (by decide) rfl hl.1 rfl (Nat.le_of_ble_eq_true rfl) dX8_feed_33 (by decide) (fun H locs hH => ?_)
      refine lv_aload_n hx hb dX8_feed_36 rfl (lv_at hl 0 rfl) ?_
      refine r_getr C0 hH fl_X8_20 g2 dX8_feed_37 ?_
      refine r_geti C0 hH fl_X8_64 g3 rfl dX8_feed_40 ?_
      obtain rfl := Option.some.inj hf
      exact r_iret (d' := d) C0 hr hlocks hH rfl dX8_feed_43
    · replace hf := ie hf c4
      refine lv_bipush (v := (-3 : Int32)) hx hb dX8_feed_25 (by decide) ?_
      obtain rfl := Option.some.inj hf
      exact r_iret (d' := d) C0 hr hlocks hH rfl dX8_feed_27
  · replace hf := it hf c1
    refine lv_iconst (v := (-1 : Int32)) hx hb dX8_feed_10 (by decide) ?_
    obtain rfl := Option.some.inj hf
    exact r_iret (d' := d) C0 hr hlocks hH rfl dX8_feed_11
theorem dX8_end_0 : decode cX8_end 0 = .ok (.iload_n 1, 1) := by decide +kernel
theorem dX8_end_1 : decode cX8_end 1 = .ok (.iconst 0, 1) := by decide +kernel
theorem dX8_end_2 : decode cX8_end 2 = .ok (.aload_n 0, 1) := by decide +kernel
theorem dX8_end_3 : decode cX8_end 3 = .ok (.getfield 20, 3) := by decide +kernel
theorem dX8_end_6 : decode cX8_end 6 = .ok (.getfield 64, 3) := by decide +kernel
theorem dX8_end_9 : decode cX8_end 9 = .ok (.invokestatic 60, 3) := by decide +kernel
theorem dX8_end_12 : decode cX8_end 12 = .ok (.ifCond .ne 5, 3) := by decide +kernel
theorem dX8_end_15 : decode cX8_end 15 = .ok (.iconst (-1), 1) := by decide +kernel
theorem dX8_end_16 : decode cX8_end 16 = .ok (.ireturn, 1) := by decide +kernel
theorem dX8_end_17 : decode cX8_end 17 = .ok (.aload_n 0, 1) := by decide +kernel
theorem dX8_end_18 : decode cX8_end 18 = .ok (.getfield 20, 3) := by decide +kernel
theorem dX8_end_21 : decode cX8_end 21 = .ok (.getfield 64, 3) := by decide +kernel
theorem dX8_end_24 : decode cX8_end 24 = .ok (.istore_n 2, 1) := by decide +kernel
theorem dX8_end_25 : decode cX8_end 25 = .ok (.aload_n 0, 1) := by decide +kernel
theorem dX8_end_26 : decode cX8_end 26 = .ok (.getfield 20, 3) := by decide +kernel
theorem dX8_end_29 : decode cX8_end 29 = .ok (.iload_n 1, 1) := by decide +kernel
theorem dX8_end_30 : decode cX8_end 30 = .ok (.putfield 64, 3) := by decide +kernel
theorem dX8_end_33 : decode cX8_end 33 = .ok (.iload_n 2, 1) := by decide +kernel
theorem dX8_end_34 : decode cX8_end 34 = .ok (.ireturn, 1) := by decide +kernel
def f_X8_end (Λ : List Ly) (d : Dt) (p0 : Nat) (v1 : Int32) : Option (Int32 × Dt) := Option.bind (rf Λ p0 8 1) fun q1 => if clsAt Λ q1 = some 6 then (if (f_X8_within v1 (0 : Int32) (d.1 q1 1)) = 0 then (some ((-1 : Int32), d)) else (some ((d.1 q1 1), (pI d q1 1 v1)))) else none
set_option maxHeartbeats 4000000 in
set_option maxRecDepth 100000 in
theorem c_X8_end (Γ : Cx) (l : Launch) (Λ : List Ly) (d : Dt) (p0 : Nat) (v1 : Int32) (z : Int32 × Dt) (hf : f_X8_end Λ d p0 v1 = some z) : Cn Γ l yX8_end cX8_end 3 (some FieldType.int) 1 22 [.ref (ad Γ.2.2.1 p0), .int v1] Λ d (some (.int z.1)) z.2 := by
  refine Cn.of (own := "SeasonBound") (by decide +kernel) rfl (Nat.le_of_ble_eq_true rfl) ?_
  intro p e s m below meth c C0 hr hlocks hH ls hl
  have hl : lv_has ls 3 [(0, .ref (ad Γ.2.2.1 p0)), (1, .int v1)] := hl
  obtain ⟨hx, hb, hml, hown, hts, hK⟩ := id C0
  unfold f_X8_end at hf
  refine lv_iload_n hx hb dX8_end_0 rfl (lv_at hl 1 rfl) ?_
  refine lv_iconst (v := (0 : Int32)) hx hb dX8_end_1 (by decide) ?_
  refine lv_aload_n hx hb dX8_end_2 rfl (lv_at hl 0 rfl) ?_
  obtain ⟨q1, g1, hf⟩ := ob hf
  refine r_getr C0 hH fl_X8_20 g1 dX8_end_3 ?_
  obtain ⟨g2, hf⟩ := gd hf
  refine r_geti C0 hH fl_X8_64 g2 rfl dX8_end_6 ?_
  refine r_callSi (rest := []) C0 hH (c_X8_within Γ l Λ d v1 (0 : Int32) (d.1 q1 1)) cs_X8_60 (by decide) rfl hl.1 rfl (Nat.le_of_ble_eq_true rfl) dX8_end_9 (by decide) (fun H locs hH => ?_)
  refine lv_if_ne (tgt := 17) hx hb dX8_end_12 (by decide) (fun c3 => ?_) (fun c3 => ?_)
  · replace hf := ie hf c3
    refine lv_aload_n hx hb dX8_end_17 rfl (lv_at hl 0 rfl) ?_
    refine r_getr C0 hH fl_X8_20 g1 dX8_end_18 ?_
    refine r_geti C0 hH fl_X8_64 g2 rfl dX8_end_21 ?_
    refine lv_istore_n (lv' := [(2, .int (d.1 q1 1)), (0, .ref (ad Γ.2.2.1 p0)), (1, .int v1)]) hx hb dX8_end_24 rfl hl (by decide) rfl (fun ls hl => ?_)
    refine lv_aload_n hx hb dX8_end_25 rfl (lv_at hl 1 rfl) ?_
    refine r_getr C0 hH fl_X8_20 g1 dX8_end_26 ?_
    refine lv_iload_n hx hb dX8_end_29 rfl (lv_at hl 2 rfl) ?_
    refine r_puti C0 hH fw_X8_64 g2 rfl dX8_end_30 (fun H locs hH => ?_)
    refine lv_iload_n hx hb dX8_end_33 rfl (lv_at hl 0 rfl) ?_
    obtain rfl := Option.some.inj hf
    exact r_iret (d' := d) C0 hr hlocks hH rfl dX8_end_34
  · replace hf := it hf c3
    refine lv_iconst (v := (-1 : Int32)) hx hb dX8_end_15 (by decide) ?_
    obtain rfl := Option.some.inj hf
    exact r_iret (d' := d) C0 hr hlocks hH rfl dX8_end_16
theorem dX8_text_0 : decode cX8_text 0 = .ok (.aload_n 0, 1) := by decide +kernel
theorem dX8_text_1 : decode cX8_text 1 = .ok (.getfield 10, 3) := by decide +kernel
theorem dX8_text_4 : decode cX8_text 4 = .ok (.aload_n 0, 1) := by decide +kernel
theorem dX8_text_5 : decode cX8_text 5 = .ok (.getfield 28, 3) := by decide +kernel
theorem dX8_text_8 : decode cX8_text 8 = .ok (.invokevirtual 74, 3) := by decide +kernel
theorem dX8_text_11 : decode cX8_text 11 = .ok (.istore_n 1, 1) := by decide +kernel
theorem dX8_text_12 : decode cX8_text 12 = .ok (.aload_n 0, 1) := by decide +kernel
theorem dX8_text_13 : decode cX8_text 13 = .ok (.aload_n 0, 1) := by decide +kernel
theorem dX8_text_14 : decode cX8_text 14 = .ok (.getfield 10, 3) := by decide +kernel
theorem dX8_text_17 : decode cX8_text 17 = .ok (.getfield 78, 3) := by decide +kernel
theorem dX8_text_20 : decode cX8_text 20 = .ok (.putfield 81, 3) := by decide +kernel
theorem dX8_text_23 : decode cX8_text 23 = .ok (.aload_n 0, 1) := by decide +kernel
theorem dX8_text_24 : decode cX8_text 24 = .ok (.getfield 20, 3) := by decide +kernel
theorem dX8_text_27 : decode cX8_text 27 = .ok (.iconst 0, 1) := by decide +kernel
theorem dX8_text_28 : decode cX8_text 28 = .ok (.putfield 64, 3) := by decide +kernel
theorem dX8_text_31 : decode cX8_text 31 = .ok (.aload_n 0, 1) := by decide +kernel
theorem dX8_text_32 : decode cX8_text 32 = .ok (.getfield 10, 3) := by decide +kernel
theorem dX8_text_35 : decode cX8_text 35 = .ok (.getfield 78, 3) := by decide +kernel
theorem dX8_text_38 : decode cX8_text 38 = .ok (.ifCond .eq 14, 3) := by decide +kernel
theorem dX8_text_41 : decode cX8_text 41 = .ok (.bipush (-10), 2) := by decide +kernel
theorem dX8_text_43 : decode cX8_text 43 = .ok (.aload_n 0, 1) := by decide +kernel
theorem dX8_text_44 : decode cX8_text 44 = .ok (.getfield 10, 3) := by decide +kernel
theorem dX8_text_47 : decode cX8_text 47 = .ok (.getfield 84, 3) := by decide +kernel
theorem dX8_text_50 : decode cX8_text 50 = .ok (.isub, 1) := by decide +kernel
theorem dX8_text_51 : decode cX8_text 51 = .ok (.ireturn, 1) := by decide +kernel
theorem dX8_text_52 : decode cX8_text 52 = .ok (.aload_n 0, 1) := by decide +kernel
theorem dX8_text_53 : decode cX8_text 53 = .ok (.getfield 24, 3) := by decide +kernel
theorem dX8_text_56 : decode cX8_text 56 = .ok (.aload_n 0, 1) := by decide +kernel
theorem dX8_text_57 : decode cX8_text 57 = .ok (.getfield 28, 3) := by decide +kernel
theorem dX8_text_60 : decode cX8_text 60 = .ok (.invokevirtual 87, 3) := by decide +kernel
theorem dX8_text_63 : decode cX8_text 63 = .ok (.iconst 0, 1) := by decide +kernel
theorem dX8_text_64 : decode cX8_text 64 = .ok (.istore_n 2, 1) := by decide +kernel
theorem dX8_text_65 : decode cX8_text 65 = .ok (.iload_n 2, 1) := by decide +kernel
theorem dX8_text_66 : decode cX8_text 66 = .ok (.iconst 2, 1) := by decide +kernel
theorem dX8_text_67 : decode cX8_text 67 = .ok (.if_icmp .ge 16, 3) := by decide +kernel
theorem dX8_text_70 : decode cX8_text 70 = .ok (.aload_n 0, 1) := by decide +kernel
theorem dX8_text_71 : decode cX8_text 71 = .ok (.getfield 35, 3) := by decide +kernel
theorem dX8_text_74 : decode cX8_text 74 = .ok (.iload_n 2, 1) := by decide +kernel
theorem dX8_text_75 : decode cX8_text 75 = .ok (.iconst 0, 1) := by decide +kernel
theorem dX8_text_76 : decode cX8_text 76 = .ok (.bastore, 1) := by decide +kernel
theorem dX8_text_77 : decode cX8_text 77 = .ok (.iinc 2 1, 3) := by decide +kernel
theorem dX8_text_80 : decode cX8_text 80 = .ok (.goto (-15), 3) := by decide +kernel
theorem dX8_text_83 : decode cX8_text 83 = .ok (.iload_n 1, 1) := by decide +kernel
theorem dX8_text_84 : decode cX8_text 84 = .ok (.ireturn, 1) := by decide +kernel
def f_X8_text_L65 (Λ : List Ly) (p0 : Nat) (v1 : Int32) : Nat → Int32 → Dt → Option (Int32 × Dt)
  | 0, _, _ => none
  | n + 1, v2, d => if (2 : Int32) ≤ v2 then (some (v1, d)) else (Option.bind (rf Λ p0 8 5) fun q13 => if okA Λ q13 3 v2 = true then (f_X8_text_L65 Λ p0 v1 n (v2 + (1 : Int32)) (pI d q13 (v2).toNatClampNeg (vp_nar .boolean (0 : Int32)))) else none)
def f_X8_text (Λ : List Ly) (d : Dt) (p0 : Nat) : Option (Int32 × Dt) := Option.bind (rf Λ p0 8 0) fun q1 => Option.bind (rf Λ p0 8 3) fun q2 => if clsAt Λ q1 = some 3 then (Option.bind (f_X3_readAll Λ d q1 q2) fun z4 => if clsAt Λ p0 = some 8 then (Option.bind (rf Λ p0 8 1) fun q6 => if clsAt Λ q6 = some 6 then (if ((pI (pI z4.2 p0 9 (z4.2.1 q1 2)) q6 1 (0 : Int32)).1 q1 2) = 0 then (Option.bind (rf Λ p0 8 2) fun q9 => if clsAt Λ q9 = some 7 then (Option.bind (f_X7_copy Λ (pI (pI z4.2 p0 9 (z4.2.1 q1 2)) q6 1 (0 : Int32)) q9 q2) fun z11 => f_X8_text_L65 Λ p0 z4.1 FU (0 : Int32) z11) else none) else (some (((-10 : Int32) - ((pI (pI z4.2 p0 9 (z4.2.1 q1 2)) q6 1 (0 : Int32)).1 q1 3)), (pI (pI z4.2 p0 9 (z4.2.1 q1 2)) q6 1 (0 : Int32))))) else none) else none) else none
set_option maxHeartbeats 4000000 in
set_option maxRecDepth 100000 in
theorem w_X8_text_L65 {p : Program} {l : Launch} {e : Env} {s : State} {m : MethodId} {args : Array Value} {below : List Frame} {meth : Method} {c : Code} {Γ : Cx} {Λ : List Ly} {z : Int32 × Dt} (C0 : Ct Γ p s m args c cX8_text 3 "SeasonBound") (hr : meth.sig.returnType = (some FieldType.int)) (hlocks : meth.locks = false) (p0 : Nat) (v1 : Int32) :
    ∀ (n : Nat) (v2 : Int32) (d : Dt), f_X8_text_L65 Λ p0 v1 n v2 d = some z → ∀ (H : Heap) (locs : List Loc) (ls : Array Slot), Hs Γ Λ d s H locs → lv_has ls 3 [(0, .ref (ad Γ.2.2.1 p0)), (1, .int v1), (2, .int v2)] → W p l e { frames := 8, cells := 0, slots := 0, locals := 172 } s m args below meth c H locs 0 0 (MQ below (QN Γ Λ z.2 (some (.int z.1))) args s 0 0 (AP Γ)) (F0 m 65 ls []) := by
  obtain ⟨hx, hb, hml, hown, hts, hK⟩ := id C0
  intro n
  induction n with
  | zero =>
    intro v2 d hf
    cases hf
  | succ n ih =>
    intro v2 d hf H locs ls hH hl
    unfold f_X8_text_L65 at hf
    refine lv_iload_n hx hb dX8_text_65 rfl (lv_at hl 2 rfl) ?_
    refine lv_iconst (v := (2 : Int32)) hx hb dX8_text_66 (by decide) ?_
    refine lv_icmp_ge (tgt := 83) hx hb dX8_text_67 (by decide) (fun c12 => ?_) (fun c12 => ?_)
    · replace hf := it hf c12
      refine lv_iload_n hx hb dX8_text_83 rfl (lv_at hl 1 rfl) ?_
      obtain rfl := Option.some.inj hf
      exact r_iret (d' := d) C0 hr hlocks hH rfl dX8_text_84
    · replace hf := ie hf c12
      refine lv_aload_n hx hb dX8_text_70 rfl (lv_at hl 0 rfl) ?_
      obtain ⟨q13, g13, hf⟩ := ob hf
      refine r_getr C0 hH fl_X8_35 g13 dX8_text_71 ?_
      refine lv_iload_n hx hb dX8_text_74 rfl (lv_at hl 2 rfl) ?_
      refine lv_iconst (v := (0 : Int32)) hx hb dX8_text_75 (by decide) ?_
      obtain ⟨g14, hf⟩ := gd hf
      refine r_zast C0 hH g14 dX8_text_76 (fun H locs hH => ?_)
      refine lv_iinc (v := (v2 + (1 : Int32))) (lv' := [(2, .int (v2 + (1 : Int32))), (0, .ref (ad Γ.2.2.1 p0)), (1, .int v1)]) hx hb dX8_text_77 hl (k := 2) rfl (congrArg (fun w => v2 + w) (by decide)) (by decide) rfl (fun ls hl => ?_)
      refine lv_goto (tgt := 65) hx hb dX8_text_80 (by decide) ?_
      exact ih (v2 + (1 : Int32)) (pI d q13 (v2).toNatClampNeg (vp_nar .boolean (0 : Int32))) hf _ _ _ hH (lv_sub hl [1, 2, 0] rfl)
set_option maxHeartbeats 4000000 in
set_option maxRecDepth 100000 in
theorem c_X8_text (Γ : Cx) (l : Launch) (Λ : List Ly) (d : Dt) (p0 : Nat) (z : Int32 × Dt) (hf : f_X8_text Λ d p0 = some z) : Cn Γ l yX8_text cX8_text 3 (some FieldType.int) 8 172 [.ref (ad Γ.2.2.1 p0)] Λ d (some (.int z.1)) z.2 := by
  refine Cn.of (own := "SeasonBound") (by decide +kernel) rfl (Nat.le_of_ble_eq_true rfl) ?_
  intro p e s m below meth c C0 hr hlocks hH ls hl
  have hl : lv_has ls 3 [(0, .ref (ad Γ.2.2.1 p0))] := hl
  obtain ⟨hx, hb, hml, hown, hts, hK⟩ := id C0
  unfold f_X8_text at hf
  refine lv_aload_n hx hb dX8_text_0 rfl (lv_at hl 0 rfl) ?_
  obtain ⟨q1, g1, hf⟩ := ob hf
  refine r_getr C0 hH fl_X8_10 g1 dX8_text_1 ?_
  refine lv_aload_n hx hb dX8_text_4 rfl (lv_at hl 0 rfl) ?_
  obtain ⟨q2, g2, hf⟩ := ob hf
  refine r_getr C0 hH fl_X8_28 g2 dX8_text_5 ?_
  obtain ⟨g3, hf⟩ := gd hf
  obtain ⟨z4, h4, hf⟩ := ob hf
  refine r_callVi (rest := []) C0 hH (c_X3_readAll Γ l Λ d q1 q2 z4 h4) cv_X8_74 g3 (by decide) rfl hl.1 rfl (Nat.le_of_ble_eq_true rfl) dX8_text_8 (by decide) (fun H locs hH => ?_)
  refine lv_istore_n (lv' := [(1, .int z4.1), (0, .ref (ad Γ.2.2.1 p0))]) hx hb dX8_text_11 rfl hl (by decide) rfl (fun ls hl => ?_)
  refine lv_aload_n hx hb dX8_text_12 rfl (lv_at hl 1 rfl) ?_
  refine lv_aload_n hx hb dX8_text_13 rfl (lv_at hl 1 rfl) ?_
  refine r_getr C0 hH fl_X8_10 g1 dX8_text_14 ?_
  refine r_geti C0 hH fl_X8_78 g3 rfl dX8_text_17 ?_
  obtain ⟨g5, hf⟩ := gd hf
  refine r_puti C0 hH fw_X8_81 g5 rfl dX8_text_20 (fun H locs hH => ?_)
  refine lv_aload_n hx hb dX8_text_23 rfl (lv_at hl 1 rfl) ?_
  obtain ⟨q6, g6, hf⟩ := ob hf
  refine r_getr C0 hH fl_X8_20 g6 dX8_text_24 ?_
  refine lv_iconst (v := (0 : Int32)) hx hb dX8_text_27 (by decide) ?_
  obtain ⟨g7, hf⟩ := gd hf
  refine r_puti C0 hH fw_X8_64 g7 rfl dX8_text_28 (fun H locs hH => ?_)
  refine lv_aload_n hx hb dX8_text_31 rfl (lv_at hl 1 rfl) ?_
  refine r_getr C0 hH fl_X8_10 g1 dX8_text_32 ?_
  refine r_geti C0 hH fl_X8_78 g3 rfl dX8_text_35 ?_
  refine lv_if_eq (tgt := 52) hx hb dX8_text_38 (by decide) (fun c8 => ?_) (fun c8 => ?_)
  · replace hf := it hf c8
    refine lv_aload_n hx hb dX8_text_52 rfl (lv_at hl 1 rfl) ?_
    obtain ⟨q9, g9, hf⟩ := ob hf
    refine r_getr C0 hH fl_X8_24 g9 dX8_text_53 ?_
    refine lv_aload_n hx hb dX8_text_56 rfl (lv_at hl 1 rfl) ?_
    refine r_getr C0 hH fl_X8_28 g2 dX8_text_57 ?_
    obtain ⟨g10, hf⟩ := gd hf
    obtain ⟨z11, h11, hf⟩ := ob hf
    refine r_callVv (rest := []) C0 hH (c_X7_copy Γ l Λ (pI (pI z4.2 p0 9 (z4.2.1 q1 2)) q6 1 (0 : Int32)) q9 q2 z11 h11) cv_X8_87 g10 (by decide) rfl hl.1 rfl (Nat.le_of_ble_eq_true rfl) dX8_text_60 (by decide) (fun H locs hH => ?_)
    refine lv_iconst (v := (0 : Int32)) hx hb dX8_text_63 (by decide) ?_
    refine lv_istore_n (lv' := [(2, .int (0 : Int32)), (1, .int z4.1), (0, .ref (ad Γ.2.2.1 p0))]) hx hb dX8_text_64 rfl hl (by decide) rfl (fun ls hl => ?_)
    refine w_X8_text_L65 C0 hr hlocks p0 z4.1 FU (0 : Int32) z11 hf _ _ _ hH (lv_sub hl [2, 1, 0] rfl)
  · replace hf := ie hf c8
    refine lv_bipush (v := (-10 : Int32)) hx hb dX8_text_41 (by decide) ?_
    refine lv_aload_n hx hb dX8_text_43 rfl (lv_at hl 1 rfl) ?_
    refine r_getr C0 hH fl_X8_10 g1 dX8_text_44 ?_
    refine r_geti C0 hH fl_X8_84 g3 rfl dX8_text_47 ?_
    refine lv_isub hx hb dX8_text_50 ?_
    obtain rfl := Option.some.inj hf
    exact r_iret (d' := d) C0 hr hlocks hH rfl dX8_text_51
theorem dX8_fault_0 : decode cX8_fault 0 = .ok (.aload_n 0, 1) := by decide +kernel
theorem dX8_fault_1 : decode cX8_fault 1 = .ok (.getfield 81, 3) := by decide +kernel
theorem dX8_fault_4 : decode cX8_fault 4 = .ok (.ireturn, 1) := by decide +kernel
def f_X8_fault (Λ : List Ly) (d : Dt) (p0 : Nat) : Option Int32 := if clsAt Λ p0 = some 8 then (some (d.1 p0 9)) else none
set_option maxHeartbeats 4000000 in
set_option maxRecDepth 100000 in
theorem c_X8_fault (Γ : Cx) (l : Launch) (Λ : List Ly) (d : Dt) (p0 : Nat) (z : Int32) (hf : f_X8_fault Λ d p0 = some z) : Cn Γ l yX8_fault cX8_fault 1 (some FieldType.int) 0 0 [.ref (ad Γ.2.2.1 p0)] Λ d (some (.int z)) d := by
  refine Cn.of (own := "SeasonBound") (by decide +kernel) rfl (Nat.le_of_ble_eq_true rfl) ?_
  intro p e s m below meth c C0 hr hlocks hH ls hl
  have hl : lv_has ls 1 [(0, .ref (ad Γ.2.2.1 p0))] := hl
  obtain ⟨hx, hb, hml, hown, hts, hK⟩ := id C0
  unfold f_X8_fault at hf
  refine lv_aload_n hx hb dX8_fault_0 rfl (lv_at hl 0 rfl) ?_
  obtain ⟨g1, hf⟩ := gd hf
  refine r_geti C0 hH fl_X8_81 g1 rfl dX8_fault_1 ?_
  obtain rfl := Option.some.inj hf
  exact r_iret (d' := d) C0 hr hlocks hH rfl dX8_fault_4
theorem dX8_rule_0 : decode cX8_rule 0 = .ok (.iload_n 1, 1) := by decide +kernel
theorem dX8_rule_1 : decode cX8_rule 1 = .ok (.tableswitch 87 0 5 #[39, 47, 55, 63, 71, 79], 39) := by decide +kernel
theorem dX8_rule_40 : decode cX8_rule 40 = .ok (.aload_n 0, 1) := by decide +kernel
theorem dX8_rule_41 : decode cX8_rule 41 = .ok (.getfield 24, 3) := by decide +kernel
theorem dX8_rule_44 : decode cX8_rule 44 = .ok (.getfield 91, 3) := by decide +kernel
theorem dX8_rule_47 : decode cX8_rule 47 = .ok (.ireturn, 1) := by decide +kernel
theorem dX8_rule_48 : decode cX8_rule 48 = .ok (.aload_n 0, 1) := by decide +kernel
theorem dX8_rule_49 : decode cX8_rule 49 = .ok (.getfield 24, 3) := by decide +kernel
theorem dX8_rule_52 : decode cX8_rule 52 = .ok (.getfield 92, 3) := by decide +kernel
theorem dX8_rule_55 : decode cX8_rule 55 = .ok (.ireturn, 1) := by decide +kernel
theorem dX8_rule_56 : decode cX8_rule 56 = .ok (.aload_n 0, 1) := by decide +kernel
theorem dX8_rule_57 : decode cX8_rule 57 = .ok (.getfield 24, 3) := by decide +kernel
theorem dX8_rule_60 : decode cX8_rule 60 = .ok (.getfield 95, 3) := by decide +kernel
theorem dX8_rule_63 : decode cX8_rule 63 = .ok (.ireturn, 1) := by decide +kernel
theorem dX8_rule_64 : decode cX8_rule 64 = .ok (.aload_n 0, 1) := by decide +kernel
theorem dX8_rule_65 : decode cX8_rule 65 = .ok (.getfield 24, 3) := by decide +kernel
theorem dX8_rule_68 : decode cX8_rule 68 = .ok (.getfield 98, 3) := by decide +kernel
theorem dX8_rule_71 : decode cX8_rule 71 = .ok (.ireturn, 1) := by decide +kernel
theorem dX8_rule_72 : decode cX8_rule 72 = .ok (.aload_n 0, 1) := by decide +kernel
theorem dX8_rule_73 : decode cX8_rule 73 = .ok (.getfield 24, 3) := by decide +kernel
theorem dX8_rule_76 : decode cX8_rule 76 = .ok (.invokevirtual 101, 3) := by decide +kernel
theorem dX8_rule_79 : decode cX8_rule 79 = .ok (.ireturn, 1) := by decide +kernel
theorem dX8_rule_80 : decode cX8_rule 80 = .ok (.aload_n 0, 1) := by decide +kernel
theorem dX8_rule_81 : decode cX8_rule 81 = .ok (.getfield 24, 3) := by decide +kernel
theorem dX8_rule_84 : decode cX8_rule 84 = .ok (.invokevirtual 105, 3) := by decide +kernel
theorem dX8_rule_87 : decode cX8_rule 87 = .ok (.ireturn, 1) := by decide +kernel
theorem dX8_rule_88 : decode cX8_rule 88 = .ok (.iconst (-1), 1) := by decide +kernel
theorem dX8_rule_89 : decode cX8_rule 89 = .ok (.ireturn, 1) := by decide +kernel
def f_X8_rule (Λ : List Ly) (d : Dt) (p0 : Nat) (v1 : Int32) : Option Int32 := if v1 = (0 : Int32) then (Option.bind (rf Λ p0 8 2) fun q2 => if clsAt Λ q2 = some 7 then (some (d.1 q2 2)) else none) else (if v1 = (1 : Int32) then (Option.bind (rf Λ p0 8 2) fun q5 => if clsAt Λ q5 = some 7 then (some (d.1 q5 5)) else none) else (if v1 = (2 : Int32) then (Option.bind (rf Λ p0 8 2) fun q8 => if clsAt Λ q8 = some 7 then (some (d.1 q8 3)) else none) else (if v1 = (3 : Int32) then (Option.bind (rf Λ p0 8 2) fun q11 => if clsAt Λ q11 = some 7 then (some (d.1 q11 4)) else none) else (if v1 = (4 : Int32) then (Option.bind (rf Λ p0 8 2) fun q14 => if clsAt Λ q14 = some 7 then (Option.bind (f_X7_living Λ d q14) fun z16 => some z16) else none) else (if v1 = (5 : Int32) then (Option.bind (rf Λ p0 8 2) fun q18 => if clsAt Λ q18 = some 7 then (Option.bind (f_X7_skillSum Λ d q18) fun z20 => some z20) else none) else (some (-1 : Int32)))))))
set_option maxHeartbeats 4000000 in
set_option maxRecDepth 100000 in
theorem c_X8_rule (Γ : Cx) (l : Launch) (Λ : List Ly) (d : Dt) (p0 : Nat) (v1 : Int32) (z : Int32) (hf : f_X8_rule Λ d p0 v1 = some z) : Cn Γ l yX8_rule cX8_rule 2 (some FieldType.int) 2 43 [.ref (ad Γ.2.2.1 p0), .int v1] Λ d (some (.int z)) d := by
  refine Cn.of (own := "SeasonBound") (by decide +kernel) rfl (Nat.le_of_ble_eq_true rfl) ?_
  intro p e s m below meth c C0 hr hlocks hH ls hl
  have hl : lv_has ls 2 [(0, .ref (ad Γ.2.2.1 p0)), (1, .int v1)] := hl
  obtain ⟨hx, hb, hml, hown, hts, hK⟩ := id C0
  unfold f_X8_rule at hf
  refine lv_iload_n hx hb dX8_rule_0 rfl (lv_at hl 1 rfl) ?_
  by_cases c1 : v1 = (0 : Int32)
  · replace hf := it hf c1
    refine lv_tableIn (off := 39) (tgt := 40) hx hb dX8_rule_1 (by rw [c1]; decide) (by rw [c1]; decide) (by rw [c1]; rfl) (by decide) ?_
    refine lv_aload_n hx hb dX8_rule_40 rfl (lv_at hl 0 rfl) ?_
    obtain ⟨q2, g2, hf⟩ := ob hf
    refine r_getr C0 hH fl_X8_24 g2 dX8_rule_41 ?_
    obtain ⟨g3, hf⟩ := gd hf
    refine r_geti C0 hH fl_X8_91 g3 rfl dX8_rule_44 ?_
    obtain rfl := Option.some.inj hf
    exact r_iret (d' := d) C0 hr hlocks hH rfl dX8_rule_47
  · replace hf := ie hf c1
    by_cases c4 : v1 = (1 : Int32)
    · replace hf := it hf c4
      refine lv_tableIn (off := 47) (tgt := 48) hx hb dX8_rule_1 (by rw [c4]; decide) (by rw [c4]; decide) (by rw [c4]; rfl) (by decide) ?_
      refine lv_aload_n hx hb dX8_rule_48 rfl (lv_at hl 0 rfl) ?_
      obtain ⟨q5, g5, hf⟩ := ob hf
      refine r_getr C0 hH fl_X8_24 g5 dX8_rule_49 ?_
      obtain ⟨g6, hf⟩ := gd hf
      refine r_geti C0 hH fl_X8_92 g6 rfl dX8_rule_52 ?_
      obtain rfl := Option.some.inj hf
      exact r_iret (d' := d) C0 hr hlocks hH rfl dX8_rule_55
    · replace hf := ie hf c4
      by_cases c7 : v1 = (2 : Int32)
      · replace hf := it hf c7
        refine lv_tableIn (off := 55) (tgt := 56) hx hb dX8_rule_1 (by rw [c7]; decide) (by rw [c7]; decide) (by rw [c7]; rfl) (by decide) ?_
        refine lv_aload_n hx hb dX8_rule_56 rfl (lv_at hl 0 rfl) ?_
        obtain ⟨q8, g8, hf⟩ := ob hf
        refine r_getr C0 hH fl_X8_24 g8 dX8_rule_57 ?_
        obtain ⟨g9, hf⟩ := gd hf
        refine r_geti C0 hH fl_X8_95 g9 rfl dX8_rule_60 ?_
        obtain rfl := Option.some.inj hf
        exact r_iret (d' := d) C0 hr hlocks hH rfl dX8_rule_63
      · replace hf := ie hf c7
        by_cases c10 : v1 = (3 : Int32)
        · replace hf := it hf c10
          refine lv_tableIn (off := 63) (tgt := 64) hx hb dX8_rule_1 (by rw [c10]; decide) (by rw [c10]; decide) (by rw [c10]; rfl) (by decide) ?_
          refine lv_aload_n hx hb dX8_rule_64 rfl (lv_at hl 0 rfl) ?_
          obtain ⟨q11, g11, hf⟩ := ob hf
          refine r_getr C0 hH fl_X8_24 g11 dX8_rule_65 ?_
          obtain ⟨g12, hf⟩ := gd hf
          refine r_geti C0 hH fl_X8_98 g12 rfl dX8_rule_68 ?_
          obtain rfl := Option.some.inj hf
          exact r_iret (d' := d) C0 hr hlocks hH rfl dX8_rule_71
        · replace hf := ie hf c10
          by_cases c13 : v1 = (4 : Int32)
          · replace hf := it hf c13
            refine lv_tableIn (off := 71) (tgt := 72) hx hb dX8_rule_1 (by rw [c13]; decide) (by rw [c13]; decide) (by rw [c13]; rfl) (by decide) ?_
            refine lv_aload_n hx hb dX8_rule_72 rfl (lv_at hl 0 rfl) ?_
            obtain ⟨q14, g14, hf⟩ := ob hf
            refine r_getr C0 hH fl_X8_24 g14 dX8_rule_73 ?_
            obtain ⟨g15, hf⟩ := gd hf
            obtain ⟨z16, h16, hf⟩ := ob hf
            refine r_callVi (rest := []) C0 hH (c_X7_living Γ l Λ d q14 z16 h16) cv_X8_101 g15 (by decide) rfl hl.1 rfl (Nat.le_of_ble_eq_true rfl) dX8_rule_76 (by decide) (fun H locs hH => ?_)
            obtain rfl := Option.some.inj hf
            exact r_iret (d' := d) C0 hr hlocks hH rfl dX8_rule_79
          · replace hf := ie hf c13
            by_cases c17 : v1 = (5 : Int32)
            · replace hf := it hf c17
              refine lv_tableIn (off := 79) (tgt := 80) hx hb dX8_rule_1 (by rw [c17]; decide) (by rw [c17]; decide) (by rw [c17]; rfl) (by decide) ?_
              refine lv_aload_n hx hb dX8_rule_80 rfl (lv_at hl 0 rfl) ?_
              obtain ⟨q18, g18, hf⟩ := ob hf
              refine r_getr C0 hH fl_X8_24 g18 dX8_rule_81 ?_
              obtain ⟨g19, hf⟩ := gd hf
              obtain ⟨z20, h20, hf⟩ := ob hf
              refine r_callVi (rest := []) C0 hH (c_X7_skillSum Γ l Λ d q18 z20 h20) cv_X8_105 g19 (by decide) rfl hl.1 rfl (Nat.le_of_ble_eq_true rfl) dX8_rule_84 (by decide) (fun H locs hH => ?_)
              obtain rfl := Option.some.inj hf
              exact r_iret (d' := d) C0 hr hlocks hH rfl dX8_rule_87
            · replace hf := ie hf c17
              refine lv_tableOut (tgt := 88) hx hb dX8_rule_1 (by have hc1 := lv_neT c1 (a := 0) (by decide); have hc4 := lv_neT c4 (a := 1) (by decide); have hc7 := lv_neT c7 (a := 2) (by decide); have hc10 := lv_neT c10 (a := 3) (by decide); have hc13 := lv_neT c13 (a := 4) (by decide); have hc17 := lv_neT c17 (a := 5) (by decide); omega) (by decide) ?_
              refine lv_iconst (v := (-1 : Int32)) hx hb dX8_rule_88 (by decide) ?_
              obtain rfl := Option.some.inj hf
              exact r_iret (d' := d) C0 hr hlocks hH rfl dX8_rule_89
theorem dX8_child_0 : decode cX8_child 0 = .ok (.aload_n 0, 1) := by decide +kernel
theorem dX8_child_1 : decode cX8_child 1 = .ok (.getfield 24, 3) := by decide +kernel
theorem dX8_child_4 : decode cX8_child 4 = .ok (.iload_n 1, 1) := by decide +kernel
theorem dX8_child_5 : decode cX8_child 5 = .ok (.invokevirtual 108, 3) := by decide +kernel
theorem dX8_child_8 : decode cX8_child 8 = .ok (.ifCond .ne 5, 3) := by decide +kernel
theorem dX8_child_11 : decode cX8_child 11 = .ok (.iconst (-1), 1) := by decide +kernel
theorem dX8_child_12 : decode cX8_child 12 = .ok (.ireturn, 1) := by decide +kernel
theorem dX8_child_13 : decode cX8_child 13 = .ok (.aload_n 0, 1) := by decide +kernel
theorem dX8_child_14 : decode cX8_child 14 = .ok (.getfield 24, 3) := by decide +kernel
theorem dX8_child_17 : decode cX8_child 17 = .ok (.getfield 112, 3) := by decide +kernel
theorem dX8_child_20 : decode cX8_child 20 = .ok (.iload_n 1, 1) := by decide +kernel
theorem dX8_child_21 : decode cX8_child 21 = .ok (.aaload, 1) := by decide +kernel
theorem dX8_child_22 : decode cX8_child 22 = .ok (.astore_n 3, 1) := by decide +kernel
theorem dX8_child_23 : decode cX8_child 23 = .ok (.iload_n 2, 1) := by decide +kernel
theorem dX8_child_24 : decode cX8_child 24 = .ok (.tableswitch 112 0 5 #[40, 45, 62, 67, 72, 77], 40) := by decide +kernel
theorem dX8_child_64 : decode cX8_child 64 = .ok (.aload_n 3, 1) := by decide +kernel
theorem dX8_child_65 : decode cX8_child 65 = .ok (.getfield 116, 3) := by decide +kernel
theorem dX8_child_68 : decode cX8_child 68 = .ok (.ireturn, 1) := by decide +kernel
theorem dX8_child_69 : decode cX8_child 69 = .ok (.aload_n 3, 1) := by decide +kernel
theorem dX8_child_70 : decode cX8_child 70 = .ok (.invokevirtual 121, 3) := by decide +kernel
theorem dX8_child_73 : decode cX8_child 73 = .ok (.ifCond .eq 8, 3) := by decide +kernel
theorem dX8_child_76 : decode cX8_child 76 = .ok (.bipush (-4), 2) := by decide +kernel
theorem dX8_child_78 : decode cX8_child 78 = .ok (.goto 7, 3) := by decide +kernel
theorem dX8_child_81 : decode cX8_child 81 = .ok (.aload_n 3, 1) := by decide +kernel
theorem dX8_child_82 : decode cX8_child 82 = .ok (.getfield 125, 3) := by decide +kernel
theorem dX8_child_85 : decode cX8_child 85 = .ok (.ireturn, 1) := by decide +kernel
theorem dX8_child_86 : decode cX8_child 86 = .ok (.aload_n 3, 1) := by decide +kernel
theorem dX8_child_87 : decode cX8_child 87 = .ok (.getfield 128, 3) := by decide +kernel
theorem dX8_child_90 : decode cX8_child 90 = .ok (.ireturn, 1) := by decide +kernel
theorem dX8_child_91 : decode cX8_child 91 = .ok (.aload_n 3, 1) := by decide +kernel
theorem dX8_child_92 : decode cX8_child 92 = .ok (.getfield 131, 3) := by decide +kernel
theorem dX8_child_95 : decode cX8_child 95 = .ok (.ireturn, 1) := by decide +kernel
theorem dX8_child_96 : decode cX8_child 96 = .ok (.aload_n 3, 1) := by decide +kernel
theorem dX8_child_97 : decode cX8_child 97 = .ok (.getfield 134, 3) := by decide +kernel
theorem dX8_child_100 : decode cX8_child 100 = .ok (.ireturn, 1) := by decide +kernel
theorem dX8_child_101 : decode cX8_child 101 = .ok (.aload_n 3, 1) := by decide +kernel
theorem dX8_child_102 : decode cX8_child 102 = .ok (.invokevirtual 121, 3) := by decide +kernel
theorem dX8_child_105 : decode cX8_child 105 = .ok (.ifCond .eq 8, 3) := by decide +kernel
theorem dX8_child_108 : decode cX8_child 108 = .ok (.bipush (-4), 2) := by decide +kernel
theorem dX8_child_110 : decode cX8_child 110 = .ok (.goto 25, 3) := by decide +kernel
theorem dX8_child_113 : decode cX8_child 113 = .ok (.aload_n 3, 1) := by decide +kernel
theorem dX8_child_114 : decode cX8_child 114 = .ok (.getfield 116, 3) := by decide +kernel
theorem dX8_child_117 : decode cX8_child 117 = .ok (.aload_n 0, 1) := by decide +kernel
theorem dX8_child_118 : decode cX8_child 118 = .ok (.getfield 24, 3) := by decide +kernel
theorem dX8_child_121 : decode cX8_child 121 = .ok (.getfield 137, 3) := by decide +kernel
theorem dX8_child_124 : decode cX8_child 124 = .ok (.aload_n 3, 1) := by decide +kernel
theorem dX8_child_125 : decode cX8_child 125 = .ok (.getfield 125, 3) := by decide +kernel
theorem dX8_child_128 : decode cX8_child 128 = .ok (.aaload, 1) := by decide +kernel
theorem dX8_child_129 : decode cX8_child 129 = .ok (.getfield 141, 3) := by decide +kernel
theorem dX8_child_132 : decode cX8_child 132 = .ok (.invokestatic 146, 3) := by decide +kernel
theorem dX8_child_135 : decode cX8_child 135 = .ok (.ireturn, 1) := by decide +kernel
theorem dX8_child_136 : decode cX8_child 136 = .ok (.iconst (-1), 1) := by decide +kernel
theorem dX8_child_137 : decode cX8_child 137 = .ok (.ireturn, 1) := by decide +kernel
def f_X8_child (Λ : List Ly) (d : Dt) (p0 : Nat) (v1 : Int32) (v2 : Int32) : Option Int32 := Option.bind (rf Λ p0 8 2) fun q1 => if clsAt Λ q1 = some 7 then (Option.bind (f_X7_has Λ d q1 v1) fun z3 => if z3 = 0 then (some (-1 : Int32)) else (Option.bind (rf Λ q1 7 1) fun q5 => Option.bind (ra Λ q5 4 v1) fun q6 => if v2 = (0 : Int32) then (if clsAt Λ q6 = some 1 then (some (d.1 q6 0)) else none) else (if v2 = (1 : Int32) then (if clsAt Λ q6 = some 1 then (Option.bind (f_X1_isFree Λ d q6) fun z11 => if z11 = 0 then (some (d.1 q6 1)) else (some (-4 : Int32))) else none) else (if v2 = (2 : Int32) then (if clsAt Λ q6 = some 1 then (some (d.1 q6 2)) else none) else (if v2 = (3 : Int32) then (if clsAt Λ q6 = some 1 then (some (d.1 q6 3)) else none) else (if v2 = (4 : Int32) then (if clsAt Λ q6 = some 1 then (some (d.1 q6 4)) else none) else (if v2 = (5 : Int32) then (if clsAt Λ q6 = some 1 then (Option.bind (f_X1_isFree Λ d q6) fun z21 => if z21 = 0 then (Option.bind (rf Λ q1 7 0) fun q23 => Option.bind (ra Λ q23 5 (d.1 q6 1)) fun q24 => if clsAt Λ q24 = some 4 then (some (f_X8_learns (d.1 q6 0) (d.1 q24 1))) else none) else (some (-4 : Int32))) else none) else (some (-1 : Int32))))))))) else none
set_option maxHeartbeats 4000000 in
set_option maxRecDepth 100000 in
theorem c_X8_child (Γ : Cx) (l : Launch) (Λ : List Ly) (d : Dt) (p0 : Nat) (v1 : Int32) (v2 : Int32) (z : Int32) (hf : f_X8_child Λ d p0 v1 v2 = some z) : Cn Γ l yX8_child cX8_child 4 (some FieldType.int) 2 43 [.ref (ad Γ.2.2.1 p0), .int v1, .int v2] Λ d (some (.int z)) d := by
  refine Cn.of (own := "SeasonBound") (by decide +kernel) rfl (Nat.le_of_ble_eq_true rfl) ?_
  intro p e s m below meth c C0 hr hlocks hH ls hl
  have hl : lv_has ls 4 [(0, .ref (ad Γ.2.2.1 p0)), (1, .int v1), (2, .int v2)] := hl
  obtain ⟨hx, hb, hml, hown, hts, hK⟩ := id C0
  unfold f_X8_child at hf
  refine lv_aload_n hx hb dX8_child_0 rfl (lv_at hl 0 rfl) ?_
  obtain ⟨q1, g1, hf⟩ := ob hf
  refine r_getr C0 hH fl_X8_24 g1 dX8_child_1 ?_
  refine lv_iload_n hx hb dX8_child_4 rfl (lv_at hl 1 rfl) ?_
  obtain ⟨g2, hf⟩ := gd hf
  obtain ⟨z3, h3, hf⟩ := ob hf
  refine r_callVi (rest := []) C0 hH (c_X7_has Γ l Λ d q1 v1 z3 h3) cv_X8_108 g2 (by decide) rfl hl.1 rfl (Nat.le_of_ble_eq_true rfl) dX8_child_5 (by decide) (fun H locs hH => ?_)
  refine lv_if_ne (tgt := 13) hx hb dX8_child_8 (by decide) (fun c4 => ?_) (fun c4 => ?_)
  · replace hf := ie hf c4
    refine lv_aload_n hx hb dX8_child_13 rfl (lv_at hl 0 rfl) ?_
    refine r_getr C0 hH fl_X8_24 g1 dX8_child_14 ?_
    obtain ⟨q5, g5, hf⟩ := ob hf
    refine r_getr C0 hH fl_X8_112 g5 dX8_child_17 ?_
    refine lv_iload_n hx hb dX8_child_20 rfl (lv_at hl 1 rfl) ?_
    obtain ⟨q6, g6, hf⟩ := ob hf
    refine r_aald (C := "SeasonBound$Child") C0 hH g6 (by decide) rfl dX8_child_21 ?_
    refine lv_astore_n (lv' := [(3, .ref (ad Γ.2.2.1 q6)), (0, .ref (ad Γ.2.2.1 p0)), (1, .int v1), (2, .int v2)]) hx hb dX8_child_22 rfl hl (by decide) rfl (fun ls hl => ?_)
    refine lv_iload_n hx hb dX8_child_23 rfl (lv_at hl 3 rfl) ?_
    by_cases c7 : v2 = (0 : Int32)
    · replace hf := it hf c7
      refine lv_tableIn (off := 40) (tgt := 64) hx hb dX8_child_24 (by rw [c7]; decide) (by rw [c7]; decide) (by rw [c7]; rfl) (by decide) ?_
      refine lv_aload_n hx hb dX8_child_64 rfl (lv_at hl 0 rfl) ?_
      obtain ⟨g8, hf⟩ := gd hf
      refine r_geti C0 hH fl_X8_116 g8 rfl dX8_child_65 ?_
      obtain rfl := Option.some.inj hf
      exact r_iret (d' := d) C0 hr hlocks hH rfl dX8_child_68
    · replace hf := ie hf c7
      by_cases c9 : v2 = (1 : Int32)
      · replace hf := it hf c9
        refine lv_tableIn (off := 45) (tgt := 69) hx hb dX8_child_24 (by rw [c9]; decide) (by rw [c9]; decide) (by rw [c9]; rfl) (by decide) ?_
        refine lv_aload_n hx hb dX8_child_69 rfl (lv_at hl 0 rfl) ?_
        obtain ⟨g10, hf⟩ := gd hf
        obtain ⟨z11, h11, hf⟩ := ob hf
        refine r_callVi (rest := []) C0 hH (c_X1_isFree Γ l Λ d q6 z11 h11) cv_X8_121 g10 (by decide) rfl hl.1 rfl (Nat.le_of_ble_eq_true rfl) dX8_child_70 (by decide) (fun H locs hH => ?_)
        refine lv_if_eq (tgt := 81) hx hb dX8_child_73 (by decide) (fun c12 => ?_) (fun c12 => ?_)
        · replace hf := it hf c12
          refine lv_aload_n hx hb dX8_child_81 rfl (lv_at hl 0 rfl) ?_
          refine r_geti C0 hH fl_X8_125 g10 rfl dX8_child_82 ?_
          obtain rfl := Option.some.inj hf
          exact r_iret (d' := d) C0 hr hlocks hH rfl dX8_child_85
        · replace hf := ie hf c12
          refine lv_bipush (v := (-4 : Int32)) hx hb dX8_child_76 (by decide) ?_
          refine lv_goto (tgt := 85) hx hb dX8_child_78 (by decide) ?_
          obtain rfl := Option.some.inj hf
          exact r_iret (d' := d) C0 hr hlocks hH rfl dX8_child_85
      · replace hf := ie hf c9
        by_cases c13 : v2 = (2 : Int32)
        · replace hf := it hf c13
          refine lv_tableIn (off := 62) (tgt := 86) hx hb dX8_child_24 (by rw [c13]; decide) (by rw [c13]; decide) (by rw [c13]; rfl) (by decide) ?_
          refine lv_aload_n hx hb dX8_child_86 rfl (lv_at hl 0 rfl) ?_
          obtain ⟨g14, hf⟩ := gd hf
          refine r_geti C0 hH fl_X8_128 g14 rfl dX8_child_87 ?_
          obtain rfl := Option.some.inj hf
          exact r_iret (d' := d) C0 hr hlocks hH rfl dX8_child_90
        · replace hf := ie hf c13
          by_cases c15 : v2 = (3 : Int32)
          · replace hf := it hf c15
            refine lv_tableIn (off := 67) (tgt := 91) hx hb dX8_child_24 (by rw [c15]; decide) (by rw [c15]; decide) (by rw [c15]; rfl) (by decide) ?_
            refine lv_aload_n hx hb dX8_child_91 rfl (lv_at hl 0 rfl) ?_
            obtain ⟨g16, hf⟩ := gd hf
            refine r_geti C0 hH fl_X8_131 g16 rfl dX8_child_92 ?_
            obtain rfl := Option.some.inj hf
            exact r_iret (d' := d) C0 hr hlocks hH rfl dX8_child_95
          · replace hf := ie hf c15
            by_cases c17 : v2 = (4 : Int32)
            · replace hf := it hf c17
              refine lv_tableIn (off := 72) (tgt := 96) hx hb dX8_child_24 (by rw [c17]; decide) (by rw [c17]; decide) (by rw [c17]; rfl) (by decide) ?_
              refine lv_aload_n hx hb dX8_child_96 rfl (lv_at hl 0 rfl) ?_
              obtain ⟨g18, hf⟩ := gd hf
              refine r_geti C0 hH fl_X8_134 g18 rfl dX8_child_97 ?_
              obtain rfl := Option.some.inj hf
              exact r_iret (d' := d) C0 hr hlocks hH rfl dX8_child_100
            · replace hf := ie hf c17
              by_cases c19 : v2 = (5 : Int32)
              · replace hf := it hf c19
                refine lv_tableIn (off := 77) (tgt := 101) hx hb dX8_child_24 (by rw [c19]; decide) (by rw [c19]; decide) (by rw [c19]; rfl) (by decide) ?_
                refine lv_aload_n hx hb dX8_child_101 rfl (lv_at hl 0 rfl) ?_
                obtain ⟨g20, hf⟩ := gd hf
                obtain ⟨z21, h21, hf⟩ := ob hf
                refine r_callVi (rest := []) C0 hH (c_X1_isFree Γ l Λ d q6 z21 h21) cv_X8_121 g20 (by decide) rfl hl.1 rfl (Nat.le_of_ble_eq_true rfl) dX8_child_102 (by decide) (fun H locs hH => ?_)
                refine lv_if_eq (tgt := 113) hx hb dX8_child_105 (by decide) (fun c22 => ?_) (fun c22 => ?_)
                · replace hf := it hf c22
                  refine lv_aload_n hx hb dX8_child_113 rfl (lv_at hl 0 rfl) ?_
                  refine r_geti C0 hH fl_X8_116 g20 rfl dX8_child_114 ?_
                  refine lv_aload_n hx hb dX8_child_117 rfl (lv_at hl 1 rfl) ?_
                  refine r_getr C0 hH fl_X8_24 g1 dX8_child_118 ?_
                  obtain ⟨q23, g23, hf⟩ := ob hf
                  refine r_getr C0 hH fl_X8_137 g23 dX8_child_121 ?_
                  refine lv_aload_n hx hb dX8_child_124 rfl (lv_at hl 0 rfl) ?_
                  refine r_geti C0 hH fl_X8_125 g20 rfl dX8_child_125 ?_
                  obtain ⟨q24, g24, hf⟩ := ob hf
                  refine r_aald (C := "SeasonBound$Season") C0 hH g24 (by decide) rfl dX8_child_128 ?_
                  obtain ⟨g25, hf⟩ := gd hf
                  refine r_geti C0 hH fl_X8_141 g25 rfl dX8_child_129 ?_
                  refine r_callSi (rest := []) C0 hH (c_X8_learns Γ l Λ d (d.1 q6 0) (d.1 q24 1)) cs_X8_146 (by decide) rfl hl.1 rfl (Nat.le_of_ble_eq_true rfl) dX8_child_132 (by decide) (fun H locs hH => ?_)
                  obtain rfl := Option.some.inj hf
                  exact r_iret (d' := d) C0 hr hlocks hH rfl dX8_child_135
                · replace hf := ie hf c22
                  refine lv_bipush (v := (-4 : Int32)) hx hb dX8_child_108 (by decide) ?_
                  refine lv_goto (tgt := 135) hx hb dX8_child_110 (by decide) ?_
                  obtain rfl := Option.some.inj hf
                  exact r_iret (d' := d) C0 hr hlocks hH rfl dX8_child_135
              · replace hf := ie hf c19
                refine lv_tableOut (tgt := 136) hx hb dX8_child_24 (by have hc7 := lv_neT c7 (a := 0) (by decide); have hc9 := lv_neT c9 (a := 1) (by decide); have hc13 := lv_neT c13 (a := 2) (by decide); have hc15 := lv_neT c15 (a := 3) (by decide); have hc17 := lv_neT c17 (a := 4) (by decide); have hc19 := lv_neT c19 (a := 5) (by decide); omega) (by decide) ?_
                refine lv_iconst (v := (-1 : Int32)) hx hb dX8_child_136 (by decide) ?_
                obtain rfl := Option.some.inj hf
                exact r_iret (d' := d) C0 hr hlocks hH rfl dX8_child_137
  · replace hf := it hf c4
    refine lv_iconst (v := (-1 : Int32)) hx hb dX8_child_11 (by decide) ?_
    obtain rfl := Option.some.inj hf
    exact r_iret (d' := d) C0 hr hlocks hH rfl dX8_child_12
theorem dX8_season_0 : decode cX8_season 0 = .ok (.iload_n 1, 1) := by decide +kernel
theorem dX8_season_1 : decode cX8_season 1 = .ok (.invokestatic 150, 3) := by decide +kernel
theorem dX8_season_4 : decode cX8_season 4 = .ok (.ifCond .ne 5, 3) := by decide +kernel
theorem dX8_season_7 : decode cX8_season 7 = .ok (.iconst (-1), 1) := by decide +kernel
theorem dX8_season_8 : decode cX8_season 8 = .ok (.ireturn, 1) := by decide +kernel
theorem dX8_season_9 : decode cX8_season 9 = .ok (.aload_n 0, 1) := by decide +kernel
theorem dX8_season_10 : decode cX8_season 10 = .ok (.getfield 24, 3) := by decide +kernel
theorem dX8_season_13 : decode cX8_season 13 = .ok (.getfield 137, 3) := by decide +kernel
theorem dX8_season_16 : decode cX8_season 16 = .ok (.iload_n 1, 1) := by decide +kernel
theorem dX8_season_17 : decode cX8_season 17 = .ok (.aaload, 1) := by decide +kernel
theorem dX8_season_18 : decode cX8_season 18 = .ok (.astore_n 3, 1) := by decide +kernel
theorem dX8_season_19 : decode cX8_season 19 = .ok (.iload_n 2, 1) := by decide +kernel
theorem dX8_season_20 : decode cX8_season 20 = .ok (.tableswitch 56 0 3 #[32, 37, 42, 47], 32) := by decide +kernel
theorem dX8_season_52 : decode cX8_season 52 = .ok (.aload_n 3, 1) := by decide +kernel
theorem dX8_season_53 : decode cX8_season 53 = .ok (.getfield 153, 3) := by decide +kernel
theorem dX8_season_56 : decode cX8_season 56 = .ok (.ireturn, 1) := by decide +kernel
theorem dX8_season_57 : decode cX8_season 57 = .ok (.aload_n 3, 1) := by decide +kernel
theorem dX8_season_58 : decode cX8_season 58 = .ok (.getfield 141, 3) := by decide +kernel
theorem dX8_season_61 : decode cX8_season 61 = .ok (.ireturn, 1) := by decide +kernel
theorem dX8_season_62 : decode cX8_season 62 = .ok (.aload_n 3, 1) := by decide +kernel
theorem dX8_season_63 : decode cX8_season 63 = .ok (.getfield 156, 3) := by decide +kernel
theorem dX8_season_66 : decode cX8_season 66 = .ok (.ireturn, 1) := by decide +kernel
theorem dX8_season_67 : decode cX8_season 67 = .ok (.aload_n 0, 1) := by decide +kernel
theorem dX8_season_68 : decode cX8_season 68 = .ok (.getfield 24, 3) := by decide +kernel
theorem dX8_season_71 : decode cX8_season 71 = .ok (.iload_n 1, 1) := by decide +kernel
theorem dX8_season_72 : decode cX8_season 72 = .ok (.invokevirtual 159, 3) := by decide +kernel
theorem dX8_season_75 : decode cX8_season 75 = .ok (.ireturn, 1) := by decide +kernel
theorem dX8_season_76 : decode cX8_season 76 = .ok (.iconst (-1), 1) := by decide +kernel
theorem dX8_season_77 : decode cX8_season 77 = .ok (.ireturn, 1) := by decide +kernel
def f_X8_season (Λ : List Ly) (d : Dt) (p0 : Nat) (v1 : Int32) (v2 : Int32) : Option Int32 := if (f_X8_isSeason v1) = 0 then (some (-1 : Int32)) else (Option.bind (rf Λ p0 8 2) fun q2 => Option.bind (rf Λ q2 7 0) fun q3 => Option.bind (ra Λ q3 5 v1) fun q4 => if v2 = (0 : Int32) then (if clsAt Λ q4 = some 4 then (some (d.1 q4 0)) else none) else (if v2 = (1 : Int32) then (if clsAt Λ q4 = some 4 then (some (d.1 q4 1)) else none) else (if v2 = (2 : Int32) then (if clsAt Λ q4 = some 4 then (some (d.1 q4 2)) else none) else (if v2 = (3 : Int32) then (if clsAt Λ q2 = some 7 then (Option.bind (f_X7_boundTo Λ d q2 v1) fun z13 => some z13) else none) else (some (-1 : Int32))))))
set_option maxHeartbeats 4000000 in
set_option maxRecDepth 100000 in
theorem c_X8_season (Γ : Cx) (l : Launch) (Λ : List Ly) (d : Dt) (p0 : Nat) (v1 : Int32) (v2 : Int32) (z : Int32) (hf : f_X8_season Λ d p0 v1 v2 = some z) : Cn Γ l yX8_season cX8_season 4 (some FieldType.int) 2 44 [.ref (ad Γ.2.2.1 p0), .int v1, .int v2] Λ d (some (.int z)) d := by
  refine Cn.of (own := "SeasonBound") (by decide +kernel) rfl (Nat.le_of_ble_eq_true rfl) ?_
  intro p e s m below meth c C0 hr hlocks hH ls hl
  have hl : lv_has ls 4 [(0, .ref (ad Γ.2.2.1 p0)), (1, .int v1), (2, .int v2)] := hl
  obtain ⟨hx, hb, hml, hown, hts, hK⟩ := id C0
  unfold f_X8_season at hf
  refine lv_iload_n hx hb dX8_season_0 rfl (lv_at hl 1 rfl) ?_
  refine r_callSi (rest := []) C0 hH (c_X8_isSeason Γ l Λ d v1) cs_X8_150 (by decide) rfl hl.1 rfl (Nat.le_of_ble_eq_true rfl) dX8_season_1 (by decide) (fun H locs hH => ?_)
  refine lv_if_ne (tgt := 9) hx hb dX8_season_4 (by decide) (fun c1 => ?_) (fun c1 => ?_)
  · replace hf := ie hf c1
    refine lv_aload_n hx hb dX8_season_9 rfl (lv_at hl 0 rfl) ?_
    obtain ⟨q2, g2, hf⟩ := ob hf
    refine r_getr C0 hH fl_X8_24 g2 dX8_season_10 ?_
    obtain ⟨q3, g3, hf⟩ := ob hf
    refine r_getr C0 hH fl_X8_137 g3 dX8_season_13 ?_
    refine lv_iload_n hx hb dX8_season_16 rfl (lv_at hl 1 rfl) ?_
    obtain ⟨q4, g4, hf⟩ := ob hf
    refine r_aald (C := "SeasonBound$Season") C0 hH g4 (by decide) rfl dX8_season_17 ?_
    refine lv_astore_n (lv' := [(3, .ref (ad Γ.2.2.1 q4)), (0, .ref (ad Γ.2.2.1 p0)), (1, .int v1), (2, .int v2)]) hx hb dX8_season_18 rfl hl (by decide) rfl (fun ls hl => ?_)
    refine lv_iload_n hx hb dX8_season_19 rfl (lv_at hl 3 rfl) ?_
    by_cases c5 : v2 = (0 : Int32)
    · replace hf := it hf c5
      refine lv_tableIn (off := 32) (tgt := 52) hx hb dX8_season_20 (by rw [c5]; decide) (by rw [c5]; decide) (by rw [c5]; rfl) (by decide) ?_
      refine lv_aload_n hx hb dX8_season_52 rfl (lv_at hl 0 rfl) ?_
      obtain ⟨g6, hf⟩ := gd hf
      refine r_geti C0 hH fl_X8_153 g6 rfl dX8_season_53 ?_
      obtain rfl := Option.some.inj hf
      exact r_iret (d' := d) C0 hr hlocks hH rfl dX8_season_56
    · replace hf := ie hf c5
      by_cases c7 : v2 = (1 : Int32)
      · replace hf := it hf c7
        refine lv_tableIn (off := 37) (tgt := 57) hx hb dX8_season_20 (by rw [c7]; decide) (by rw [c7]; decide) (by rw [c7]; rfl) (by decide) ?_
        refine lv_aload_n hx hb dX8_season_57 rfl (lv_at hl 0 rfl) ?_
        obtain ⟨g8, hf⟩ := gd hf
        refine r_geti C0 hH fl_X8_141 g8 rfl dX8_season_58 ?_
        obtain rfl := Option.some.inj hf
        exact r_iret (d' := d) C0 hr hlocks hH rfl dX8_season_61
      · replace hf := ie hf c7
        by_cases c9 : v2 = (2 : Int32)
        · replace hf := it hf c9
          refine lv_tableIn (off := 42) (tgt := 62) hx hb dX8_season_20 (by rw [c9]; decide) (by rw [c9]; decide) (by rw [c9]; rfl) (by decide) ?_
          refine lv_aload_n hx hb dX8_season_62 rfl (lv_at hl 0 rfl) ?_
          obtain ⟨g10, hf⟩ := gd hf
          refine r_geti C0 hH fl_X8_156 g10 rfl dX8_season_63 ?_
          obtain rfl := Option.some.inj hf
          exact r_iret (d' := d) C0 hr hlocks hH rfl dX8_season_66
        · replace hf := ie hf c9
          by_cases c11 : v2 = (3 : Int32)
          · replace hf := it hf c11
            refine lv_tableIn (off := 47) (tgt := 67) hx hb dX8_season_20 (by rw [c11]; decide) (by rw [c11]; decide) (by rw [c11]; rfl) (by decide) ?_
            refine lv_aload_n hx hb dX8_season_67 rfl (lv_at hl 1 rfl) ?_
            refine r_getr C0 hH fl_X8_24 g2 dX8_season_68 ?_
            refine lv_iload_n hx hb dX8_season_71 rfl (lv_at hl 2 rfl) ?_
            obtain ⟨g12, hf⟩ := gd hf
            obtain ⟨z13, h13, hf⟩ := ob hf
            refine r_callVi (rest := []) C0 hH (c_X7_boundTo Γ l Λ d q2 v1 z13 h13) cv_X8_159 g12 (by decide) rfl hl.1 rfl (Nat.le_of_ble_eq_true rfl) dX8_season_72 (by decide) (fun H locs hH => ?_)
            obtain rfl := Option.some.inj hf
            exact r_iret (d' := d) C0 hr hlocks hH rfl dX8_season_75
          · replace hf := ie hf c11
            refine lv_tableOut (tgt := 76) hx hb dX8_season_20 (by have hc5 := lv_neT c5 (a := 0) (by decide); have hc7 := lv_neT c7 (a := 1) (by decide); have hc9 := lv_neT c9 (a := 2) (by decide); have hc11 := lv_neT c11 (a := 3) (by decide); omega) (by decide) ?_
            refine lv_iconst (v := (-1 : Int32)) hx hb dX8_season_76 (by decide) ?_
            obtain rfl := Option.some.inj hf
            exact r_iret (d' := d) C0 hr hlocks hH rfl dX8_season_77
  · replace hf := it hf c1
    refine lv_iconst (v := (-1 : Int32)) hx hb dX8_season_7 (by decide) ?_
    obtain rfl := Option.some.inj hf
    exact r_iret (d' := d) C0 hr hlocks hH rfl dX8_season_8
theorem dX8_isKind_0 : decode cX8_isKind 0 = .ok (.iload_n 0, 1) := by decide +kernel
theorem dX8_isKind_1 : decode cX8_isKind 1 = .ok (.iconst 0, 1) := by decide +kernel
theorem dX8_isKind_2 : decode cX8_isKind 2 = .ok (.iconst 3, 1) := by decide +kernel
theorem dX8_isKind_3 : decode cX8_isKind 3 = .ok (.invokestatic 60, 3) := by decide +kernel
theorem dX8_isKind_6 : decode cX8_isKind 6 = .ok (.ireturn, 1) := by decide +kernel
def f_X8_isKind (v0 : Int32) : Int32 := (f_X8_within v0 (0 : Int32) (3 : Int32))
theorem bo_X8_isKind (v0 : Int32) : f_X8_isKind v0 = 0 ∨ f_X8_isKind v0 = 1 := by
  unfold f_X8_isKind
  (repeat' split) <;> first | exact Or.inl rfl | exact Or.inr rfl | exact bo_X8_within _ _ _
set_option maxHeartbeats 4000000 in
set_option maxRecDepth 100000 in
theorem c_X8_isKind (Γ : Cx) (l : Launch) (Λ : List Ly) (d : Dt) (v0 : Int32) : Cn Γ l yX8_isKind cX8_isKind 1 (some FieldType.boolean) 1 22 [.int v0] Λ d (some (.int (f_X8_isKind v0))) d := by
  generalize hf : f_X8_isKind v0 = z
  refine Cn.of (own := "SeasonBound") (by decide +kernel) rfl (Nat.le_of_ble_eq_true rfl) ?_
  intro p e s m below meth c C0 hr hlocks hH ls hl
  have hl : lv_has ls 1 [(0, .int v0)] := hl
  obtain ⟨hx, hb, hml, hown, hts, hK⟩ := id C0
  unfold f_X8_isKind at hf
  refine lv_iload_n hx hb dX8_isKind_0 rfl (lv_at hl 0 rfl) ?_
  refine lv_iconst (v := (0 : Int32)) hx hb dX8_isKind_1 (by decide) ?_
  refine lv_iconst (v := (3 : Int32)) hx hb dX8_isKind_2 (by decide) ?_
  refine r_callSi (rest := []) C0 hH (c_X8_within Γ l Λ d v0 (0 : Int32) (3 : Int32)) cs_X8_60 (by decide) rfl hl.1 rfl (Nat.le_of_ble_eq_true rfl) dX8_isKind_3 (by decide) (fun H locs hH => ?_)
  subst hf
  exact r_iret (d' := d) C0 hr hlocks hH (nz (bo_X8_within _ _ _)) dX8_isKind_6
theorem dX8_alter_0 : decode cX8_alter 0 = .ok (.aload_n 0, 1) := by decide +kernel
theorem dX8_alter_1 : decode cX8_alter 1 = .ok (.getfield 24, 3) := by decide +kernel
theorem dX8_alter_4 : decode cX8_alter 4 = .ok (.iload_n 1, 1) := by decide +kernel
theorem dX8_alter_5 : decode cX8_alter 5 = .ok (.invokevirtual 108, 3) := by decide +kernel
theorem dX8_alter_8 : decode cX8_alter 8 = .ok (.ifCond .ne 5, 3) := by decide +kernel
theorem dX8_alter_11 : decode cX8_alter 11 = .ok (.iconst (-1), 1) := by decide +kernel
theorem dX8_alter_12 : decode cX8_alter 12 = .ok (.ireturn, 1) := by decide +kernel
theorem dX8_alter_13 : decode cX8_alter 13 = .ok (.aload_n 0, 1) := by decide +kernel
theorem dX8_alter_14 : decode cX8_alter 14 = .ok (.getfield 24, 3) := by decide +kernel
theorem dX8_alter_17 : decode cX8_alter 17 = .ok (.getfield 112, 3) := by decide +kernel
theorem dX8_alter_20 : decode cX8_alter 20 = .ok (.iload_n 1, 1) := by decide +kernel
theorem dX8_alter_21 : decode cX8_alter 21 = .ok (.aaload, 1) := by decide +kernel
theorem dX8_alter_22 : decode cX8_alter 22 = .ok (.astore 4, 2) := by decide +kernel
theorem dX8_alter_24 : decode cX8_alter 24 = .ok (.iconst (-1), 1) := by decide +kernel
theorem dX8_alter_25 : decode cX8_alter 25 = .ok (.istore 5, 2) := by decide +kernel
theorem dX8_alter_27 : decode cX8_alter 27 = .ok (.iload_n 2, 1) := by decide +kernel
theorem dX8_alter_28 : decode cX8_alter 28 = .ok (.ifCond .ne 26, 3) := by decide +kernel
theorem dX8_alter_31 : decode cX8_alter 31 = .ok (.iload_n 3, 1) := by decide +kernel
theorem dX8_alter_32 : decode cX8_alter 32 = .ok (.invokestatic 163, 3) := by decide +kernel
theorem dX8_alter_35 : decode cX8_alter 35 = .ok (.ifCond .eq 19, 3) := by decide +kernel
theorem dX8_alter_38 : decode cX8_alter 38 = .ok (.aload 4, 2) := by decide +kernel
theorem dX8_alter_40 : decode cX8_alter 40 = .ok (.getfield 116, 3) := by decide +kernel
theorem dX8_alter_43 : decode cX8_alter 43 = .ok (.istore 5, 2) := by decide +kernel
theorem dX8_alter_45 : decode cX8_alter 45 = .ok (.aload 4, 2) := by decide +kernel
theorem dX8_alter_47 : decode cX8_alter 47 = .ok (.iload_n 3, 1) := by decide +kernel
theorem dX8_alter_48 : decode cX8_alter 48 = .ok (.putfield 116, 3) := by decide +kernel
theorem dX8_alter_51 : decode cX8_alter 51 = .ok (.goto 31, 3) := by decide +kernel
theorem dX8_alter_54 : decode cX8_alter 54 = .ok (.iload_n 2, 1) := by decide +kernel
theorem dX8_alter_55 : decode cX8_alter 55 = .ok (.iconst 1, 1) := by decide +kernel
theorem dX8_alter_56 : decode cX8_alter 56 = .ok (.if_icmp .ne 26, 3) := by decide +kernel
theorem dX8_alter_59 : decode cX8_alter 59 = .ok (.iload_n 3, 1) := by decide +kernel
theorem dX8_alter_60 : decode cX8_alter 60 = .ok (.iconst 0, 1) := by decide +kernel
theorem dX8_alter_61 : decode cX8_alter 61 = .ok (.bipush 99, 2) := by decide +kernel
theorem dX8_alter_63 : decode cX8_alter 63 = .ok (.invokestatic 60, 3) := by decide +kernel
theorem dX8_alter_66 : decode cX8_alter 66 = .ok (.ifCond .eq 16, 3) := by decide +kernel
theorem dX8_alter_69 : decode cX8_alter 69 = .ok (.aload 4, 2) := by decide +kernel
theorem dX8_alter_71 : decode cX8_alter 71 = .ok (.getfield 131, 3) := by decide +kernel
theorem dX8_alter_74 : decode cX8_alter 74 = .ok (.istore 5, 2) := by decide +kernel
theorem dX8_alter_76 : decode cX8_alter 76 = .ok (.aload 4, 2) := by decide +kernel
theorem dX8_alter_78 : decode cX8_alter 78 = .ok (.iload_n 3, 1) := by decide +kernel
theorem dX8_alter_79 : decode cX8_alter 79 = .ok (.putfield 131, 3) := by decide +kernel
theorem dX8_alter_82 : decode cX8_alter 82 = .ok (.iload 5, 2) := by decide +kernel
theorem dX8_alter_84 : decode cX8_alter 84 = .ok (.ireturn, 1) := by decide +kernel
def f_X8_alter_J54 (Λ : List Ly) (d : Dt) (v2 : Int32) (v3 : Int32) (p4 : Nat) (v5 : Int32) : Option (Int32 × Dt) := if v2 = (1 : Int32) then (if (f_X8_within v3 (0 : Int32) (99 : Int32)) = 0 then (some (v5, d)) else (if clsAt Λ p4 = some 1 then (some ((d.1 p4 3), (pI d p4 3 v3))) else none)) else (some (v5, d))
def f_X8_alter (Λ : List Ly) (d : Dt) (p0 : Nat) (v1 : Int32) (v2 : Int32) (v3 : Int32) : Option (Int32 × Dt) := Option.bind (rf Λ p0 8 2) fun q1 => if clsAt Λ q1 = some 7 then (Option.bind (f_X7_has Λ d q1 v1) fun z3 => if z3 = 0 then (some ((-1 : Int32), d)) else (Option.bind (rf Λ q1 7 1) fun q5 => Option.bind (ra Λ q5 4 v1) fun q6 => if v2 = 0 then (if (f_X8_isKind v3) = 0 then (f_X8_alter_J54 Λ d v2 v3 q6 (-1 : Int32)) else (if clsAt Λ q6 = some 1 then (some ((d.1 q6 0), (pI d q6 0 v3))) else none)) else (f_X8_alter_J54 Λ d v2 v3 q6 (-1 : Int32)))) else none
set_option maxHeartbeats 4000000 in
set_option maxRecDepth 100000 in
theorem w_X8_alter_J54 {p : Program} {l : Launch} {e : Env} {s : State} {m : MethodId} {args : Array Value} {below : List Frame} {meth : Method} {c : Code} {Γ : Cx} {Λ : List Ly} {z : Int32 × Dt} {d : Dt} (C0 : Ct Γ p s m args c cX8_alter 6 "SeasonBound") (hr : meth.sig.returnType = (some FieldType.int)) (hlocks : meth.locks = false) (v2 : Int32) (v3 : Int32) (p4 : Nat) (v5 : Int32)
    (hf : f_X8_alter_J54 Λ d v2 v3 p4 v5 = some z) (H : Heap) (locs : List Loc) (ls : Array Slot) (hH : Hs Γ Λ d s H locs) (hl : lv_has ls 6 [(2, .int v2), (3, .int v3), (4, .ref (ad Γ.2.2.1 p4)), (5, .int v5)]) : W p l e { frames := 2, cells := 0, slots := 0, locals := 43 } s m args below meth c H locs 0 0 (MQ below (QN Γ Λ z.2 (some (.int z.1))) args s 0 0 (AP Γ)) (F0 m 54 ls []) := by
  obtain ⟨hx, hb, hml, hown, hts, hK⟩ := id C0
  unfold f_X8_alter_J54 at hf
  refine lv_iload_n hx hb dX8_alter_54 rfl (lv_at hl 0 rfl) ?_
  refine lv_iconst (v := (1 : Int32)) hx hb dX8_alter_55 (by decide) ?_
  refine lv_icmp_ne (tgt := 82) hx hb dX8_alter_56 (by decide) (fun c8 => ?_) (fun c8 => ?_)
  · replace hf := ie hf c8
    refine lv_iload hx hb dX8_alter_82 (lv_at hl 3 rfl) ?_
    obtain rfl := Option.some.inj hf
    exact r_iret (d' := d) C0 hr hlocks hH rfl dX8_alter_84
  · replace hf := it hf c8
    refine lv_iload_n hx hb dX8_alter_59 rfl (lv_at hl 1 rfl) ?_
    refine lv_iconst (v := (0 : Int32)) hx hb dX8_alter_60 (by decide) ?_
    refine lv_bipush (v := (99 : Int32)) hx hb dX8_alter_61 (by decide) ?_
    refine r_callSi (rest := []) C0 hH (c_X8_within Γ l Λ d v3 (0 : Int32) (99 : Int32)) cs_X8_60 (by decide) rfl hl.1 rfl (Nat.le_of_ble_eq_true rfl) dX8_alter_63 (by decide) (fun H locs hH => ?_)
    refine lv_if_eq (tgt := 82) hx hb dX8_alter_66 (by decide) (fun c9 => ?_) (fun c9 => ?_)
    · replace hf := it hf c9
      refine lv_iload hx hb dX8_alter_82 (lv_at hl 3 rfl) ?_
      obtain rfl := Option.some.inj hf
      exact r_iret (d' := d) C0 hr hlocks hH rfl dX8_alter_84
    · replace hf := ie hf c9
      refine lv_aload hx hb dX8_alter_69 (lv_at hl 2 rfl) ?_
      obtain ⟨g10, hf⟩ := gd hf
      refine r_geti C0 hH fl_X8_131 g10 rfl dX8_alter_71 ?_
      refine lv_istore (lv' := [(5, .int (d.1 p4 3)), (2, .int v2), (3, .int v3), (4, .ref (ad Γ.2.2.1 p4))]) hx hb dX8_alter_74 hl (by decide) rfl (fun ls hl => ?_)
      refine lv_aload hx hb dX8_alter_76 (lv_at hl 3 rfl) ?_
      refine lv_iload_n hx hb dX8_alter_78 rfl (lv_at hl 2 rfl) ?_
      refine r_puti C0 hH fw_X8_131 g10 rfl dX8_alter_79 (fun H locs hH => ?_)
      refine lv_iload hx hb dX8_alter_82 (lv_at hl 0 rfl) ?_
      obtain rfl := Option.some.inj hf
      exact r_iret (d' := d) C0 hr hlocks hH rfl dX8_alter_84
set_option maxHeartbeats 4000000 in
set_option maxRecDepth 100000 in
theorem c_X8_alter (Γ : Cx) (l : Launch) (Λ : List Ly) (d : Dt) (p0 : Nat) (v1 : Int32) (v2 : Int32) (v3 : Int32) (z : Int32 × Dt) (hf : f_X8_alter Λ d p0 v1 v2 v3 = some z) : Cn Γ l yX8_alter cX8_alter 6 (some FieldType.int) 2 43 [.ref (ad Γ.2.2.1 p0), .int v1, .int v2, .int v3] Λ d (some (.int z.1)) z.2 := by
  refine Cn.of (own := "SeasonBound") (by decide +kernel) rfl (Nat.le_of_ble_eq_true rfl) ?_
  intro p e s m below meth c C0 hr hlocks hH ls hl
  have hl : lv_has ls 6 [(0, .ref (ad Γ.2.2.1 p0)), (1, .int v1), (2, .int v2), (3, .int v3)] := hl
  obtain ⟨hx, hb, hml, hown, hts, hK⟩ := id C0
  unfold f_X8_alter at hf
  refine lv_aload_n hx hb dX8_alter_0 rfl (lv_at hl 0 rfl) ?_
  obtain ⟨q1, g1, hf⟩ := ob hf
  refine r_getr C0 hH fl_X8_24 g1 dX8_alter_1 ?_
  refine lv_iload_n hx hb dX8_alter_4 rfl (lv_at hl 1 rfl) ?_
  obtain ⟨g2, hf⟩ := gd hf
  obtain ⟨z3, h3, hf⟩ := ob hf
  refine r_callVi (rest := []) C0 hH (c_X7_has Γ l Λ d q1 v1 z3 h3) cv_X8_108 g2 (by decide) rfl hl.1 rfl (Nat.le_of_ble_eq_true rfl) dX8_alter_5 (by decide) (fun H locs hH => ?_)
  refine lv_if_ne (tgt := 13) hx hb dX8_alter_8 (by decide) (fun c4 => ?_) (fun c4 => ?_)
  · replace hf := ie hf c4
    refine lv_aload_n hx hb dX8_alter_13 rfl (lv_at hl 0 rfl) ?_
    refine r_getr C0 hH fl_X8_24 g1 dX8_alter_14 ?_
    obtain ⟨q5, g5, hf⟩ := ob hf
    refine r_getr C0 hH fl_X8_112 g5 dX8_alter_17 ?_
    refine lv_iload_n hx hb dX8_alter_20 rfl (lv_at hl 1 rfl) ?_
    obtain ⟨q6, g6, hf⟩ := ob hf
    refine r_aald (C := "SeasonBound$Child") C0 hH g6 (by decide) rfl dX8_alter_21 ?_
    refine lv_astore (lv' := [(4, .ref (ad Γ.2.2.1 q6)), (0, .ref (ad Γ.2.2.1 p0)), (1, .int v1), (2, .int v2), (3, .int v3)]) hx hb dX8_alter_22 hl (by decide) rfl (fun ls hl => ?_)
    refine lv_iconst (v := (-1 : Int32)) hx hb dX8_alter_24 (by decide) ?_
    refine lv_istore (lv' := [(5, .int (-1 : Int32)), (4, .ref (ad Γ.2.2.1 q6)), (0, .ref (ad Γ.2.2.1 p0)), (1, .int v1), (2, .int v2), (3, .int v3)]) hx hb dX8_alter_25 hl (by decide) rfl (fun ls hl => ?_)
    refine lv_iload_n hx hb dX8_alter_27 rfl (lv_at hl 4 rfl) ?_
    refine lv_if_ne (tgt := 54) hx hb dX8_alter_28 (by decide) (fun c7 => ?_) (fun c7 => ?_)
    · replace hf := ie hf c7
      exact w_X8_alter_J54 C0 hr hlocks v2 v3 q6 (-1 : Int32) hf _ _ _ hH (lv_sub hl [4, 5, 1, 0] rfl)
    · replace hf := it hf c7
      refine lv_iload_n hx hb dX8_alter_31 rfl (lv_at hl 5 rfl) ?_
      refine r_callSi (rest := []) C0 hH (c_X8_isKind Γ l Λ d v3) cs_X8_163 (by decide) rfl hl.1 rfl (Nat.le_of_ble_eq_true rfl) dX8_alter_32 (by decide) (fun H locs hH => ?_)
      refine lv_if_eq (tgt := 54) hx hb dX8_alter_35 (by decide) (fun c11 => ?_) (fun c11 => ?_)
      · replace hf := it hf c11
        exact w_X8_alter_J54 C0 hr hlocks v2 v3 q6 (-1 : Int32) hf _ _ _ hH (lv_sub hl [4, 5, 1, 0] rfl)
      · replace hf := ie hf c11
        refine lv_aload hx hb dX8_alter_38 (lv_at hl 1 rfl) ?_
        obtain ⟨g12, hf⟩ := gd hf
        refine r_geti C0 hH fl_X8_116 g12 rfl dX8_alter_40 ?_
        refine lv_istore (lv' := [(5, .int (d.1 q6 0)), (4, .ref (ad Γ.2.2.1 q6)), (0, .ref (ad Γ.2.2.1 p0)), (1, .int v1), (2, .int v2), (3, .int v3)]) hx hb dX8_alter_43 hl (by decide) rfl (fun ls hl => ?_)
        refine lv_aload hx hb dX8_alter_45 (lv_at hl 1 rfl) ?_
        refine lv_iload_n hx hb dX8_alter_47 rfl (lv_at hl 5 rfl) ?_
        refine r_puti C0 hH fw_X8_116 g12 rfl dX8_alter_48 (fun H locs hH => ?_)
        refine lv_goto (tgt := 82) hx hb dX8_alter_51 (by decide) ?_
        refine lv_iload hx hb dX8_alter_82 (lv_at hl 0 rfl) ?_
        obtain rfl := Option.some.inj hf
        exact r_iret (d' := d) C0 hr hlocks hH rfl dX8_alter_84
  · replace hf := it hf c4
    refine lv_iconst (v := (-1 : Int32)) hx hb dX8_alter_11 (by decide) ?_
    obtain rfl := Option.some.inj hf
    exact r_iret (d' := d) C0 hr hlocks hH rfl dX8_alter_12
theorem dX8_set_0 : decode cX8_set 0 = .ok (.iload_n 1, 1) := by decide +kernel
theorem dX8_set_1 : decode cX8_set 1 = .ok (.invokestatic 150, 3) := by decide +kernel
theorem dX8_set_4 : decode cX8_set 4 = .ok (.ifCond .ne 5, 3) := by decide +kernel
theorem dX8_set_7 : decode cX8_set 7 = .ok (.iconst (-1), 1) := by decide +kernel
theorem dX8_set_8 : decode cX8_set 8 = .ok (.ireturn, 1) := by decide +kernel
theorem dX8_set_9 : decode cX8_set 9 = .ok (.aload_n 0, 1) := by decide +kernel
theorem dX8_set_10 : decode cX8_set 10 = .ok (.getfield 24, 3) := by decide +kernel
theorem dX8_set_13 : decode cX8_set 13 = .ok (.getfield 137, 3) := by decide +kernel
theorem dX8_set_16 : decode cX8_set 16 = .ok (.iload_n 1, 1) := by decide +kernel
theorem dX8_set_17 : decode cX8_set 17 = .ok (.aaload, 1) := by decide +kernel
theorem dX8_set_18 : decode cX8_set 18 = .ok (.astore 4, 2) := by decide +kernel
theorem dX8_set_20 : decode cX8_set 20 = .ok (.iconst (-1), 1) := by decide +kernel
theorem dX8_set_21 : decode cX8_set 21 = .ok (.istore 5, 2) := by decide +kernel
theorem dX8_set_23 : decode cX8_set 23 = .ok (.iload_n 2, 1) := by decide +kernel
theorem dX8_set_24 : decode cX8_set 24 = .ok (.ifCond .ne 29, 3) := by decide +kernel
theorem dX8_set_27 : decode cX8_set 27 = .ok (.iload_n 3, 1) := by decide +kernel
theorem dX8_set_28 : decode cX8_set 28 = .ok (.iconst 1, 1) := by decide +kernel
theorem dX8_set_29 : decode cX8_set 29 = .ok (.bipush 9, 2) := by decide +kernel
theorem dX8_set_31 : decode cX8_set 31 = .ok (.invokestatic 60, 3) := by decide +kernel
theorem dX8_set_34 : decode cX8_set 34 = .ok (.ifCond .eq 19, 3) := by decide +kernel
theorem dX8_set_37 : decode cX8_set 37 = .ok (.aload 4, 2) := by decide +kernel
theorem dX8_set_39 : decode cX8_set 39 = .ok (.getfield 153, 3) := by decide +kernel
theorem dX8_set_42 : decode cX8_set 42 = .ok (.istore 5, 2) := by decide +kernel
theorem dX8_set_44 : decode cX8_set 44 = .ok (.aload 4, 2) := by decide +kernel
theorem dX8_set_46 : decode cX8_set 46 = .ok (.iload_n 3, 1) := by decide +kernel
theorem dX8_set_47 : decode cX8_set 47 = .ok (.putfield 153, 3) := by decide +kernel
theorem dX8_set_50 : decode cX8_set 50 = .ok (.goto 62, 3) := by decide +kernel
theorem dX8_set_53 : decode cX8_set 53 = .ok (.iload_n 2, 1) := by decide +kernel
theorem dX8_set_54 : decode cX8_set 54 = .ok (.iconst 1, 1) := by decide +kernel
theorem dX8_set_55 : decode cX8_set 55 = .ok (.if_icmp .ne 29, 3) := by decide +kernel
theorem dX8_set_58 : decode cX8_set 58 = .ok (.iload_n 3, 1) := by decide +kernel
theorem dX8_set_59 : decode cX8_set 59 = .ok (.iconst 0, 1) := by decide +kernel
theorem dX8_set_60 : decode cX8_set 60 = .ok (.bipush 9, 2) := by decide +kernel
theorem dX8_set_62 : decode cX8_set 62 = .ok (.invokestatic 60, 3) := by decide +kernel
theorem dX8_set_65 : decode cX8_set 65 = .ok (.ifCond .eq 19, 3) := by decide +kernel
theorem dX8_set_68 : decode cX8_set 68 = .ok (.aload 4, 2) := by decide +kernel
theorem dX8_set_70 : decode cX8_set 70 = .ok (.getfield 141, 3) := by decide +kernel
theorem dX8_set_73 : decode cX8_set 73 = .ok (.istore 5, 2) := by decide +kernel
theorem dX8_set_75 : decode cX8_set 75 = .ok (.aload 4, 2) := by decide +kernel
theorem dX8_set_77 : decode cX8_set 77 = .ok (.iload_n 3, 1) := by decide +kernel
theorem dX8_set_78 : decode cX8_set 78 = .ok (.putfield 141, 3) := by decide +kernel
theorem dX8_set_81 : decode cX8_set 81 = .ok (.goto 31, 3) := by decide +kernel
theorem dX8_set_84 : decode cX8_set 84 = .ok (.iload_n 2, 1) := by decide +kernel
theorem dX8_set_85 : decode cX8_set 85 = .ok (.iconst 2, 1) := by decide +kernel
theorem dX8_set_86 : decode cX8_set 86 = .ok (.if_icmp .ne 26, 3) := by decide +kernel
theorem dX8_set_89 : decode cX8_set 89 = .ok (.iload_n 3, 1) := by decide +kernel
theorem dX8_set_90 : decode cX8_set 90 = .ok (.iconst 0, 1) := by decide +kernel
theorem dX8_set_91 : decode cX8_set 91 = .ok (.bipush 99, 2) := by decide +kernel
theorem dX8_set_93 : decode cX8_set 93 = .ok (.invokestatic 60, 3) := by decide +kernel
theorem dX8_set_96 : decode cX8_set 96 = .ok (.ifCond .eq 16, 3) := by decide +kernel
theorem dX8_set_99 : decode cX8_set 99 = .ok (.aload 4, 2) := by decide +kernel
theorem dX8_set_101 : decode cX8_set 101 = .ok (.getfield 156, 3) := by decide +kernel
theorem dX8_set_104 : decode cX8_set 104 = .ok (.istore 5, 2) := by decide +kernel
theorem dX8_set_106 : decode cX8_set 106 = .ok (.aload 4, 2) := by decide +kernel
theorem dX8_set_108 : decode cX8_set 108 = .ok (.iload_n 3, 1) := by decide +kernel
theorem dX8_set_109 : decode cX8_set 109 = .ok (.putfield 156, 3) := by decide +kernel
theorem dX8_set_112 : decode cX8_set 112 = .ok (.iload 5, 2) := by decide +kernel
theorem dX8_set_114 : decode cX8_set 114 = .ok (.ireturn, 1) := by decide +kernel
def f_X8_set_J84 (Λ : List Ly) (d : Dt) (v2 : Int32) (v3 : Int32) (p4 : Nat) (v5 : Int32) : Option (Int32 × Dt) := if v2 = (2 : Int32) then (if (f_X8_within v3 (0 : Int32) (99 : Int32)) = 0 then (some (v5, d)) else (if clsAt Λ p4 = some 4 then (some ((d.1 p4 2), (pI d p4 2 v3))) else none)) else (some (v5, d))
def f_X8_set_J53 (Λ : List Ly) (d : Dt) (v2 : Int32) (v3 : Int32) (p4 : Nat) (v5 : Int32) : Option (Int32 × Dt) := if v2 = (1 : Int32) then (if (f_X8_within v3 (0 : Int32) (9 : Int32)) = 0 then (f_X8_set_J84 Λ d v2 v3 p4 v5) else (if clsAt Λ p4 = some 4 then (some ((d.1 p4 1), (pI d p4 1 v3))) else none)) else (f_X8_set_J84 Λ d v2 v3 p4 v5)
def f_X8_set (Λ : List Ly) (d : Dt) (p0 : Nat) (v1 : Int32) (v2 : Int32) (v3 : Int32) : Option (Int32 × Dt) := if (f_X8_isSeason v1) = 0 then (some ((-1 : Int32), d)) else (Option.bind (rf Λ p0 8 2) fun q2 => Option.bind (rf Λ q2 7 0) fun q3 => Option.bind (ra Λ q3 5 v1) fun q4 => if v2 = 0 then (if (f_X8_within v3 (1 : Int32) (9 : Int32)) = 0 then (f_X8_set_J53 Λ d v2 v3 q4 (-1 : Int32)) else (if clsAt Λ q4 = some 4 then (some ((d.1 q4 0), (pI d q4 0 v3))) else none)) else (f_X8_set_J53 Λ d v2 v3 q4 (-1 : Int32)))
set_option maxHeartbeats 4000000 in
set_option maxRecDepth 100000 in
theorem w_X8_set_J84 {p : Program} {l : Launch} {e : Env} {s : State} {m : MethodId} {args : Array Value} {below : List Frame} {meth : Method} {c : Code} {Γ : Cx} {Λ : List Ly} {z : Int32 × Dt} {d : Dt} (C0 : Ct Γ p s m args c cX8_set 6 "SeasonBound") (hr : meth.sig.returnType = (some FieldType.int)) (hlocks : meth.locks = false) (v2 : Int32) (v3 : Int32) (p4 : Nat) (v5 : Int32)
    (hf : f_X8_set_J84 Λ d v2 v3 p4 v5 = some z) (H : Heap) (locs : List Loc) (ls : Array Slot) (hH : Hs Γ Λ d s H locs) (hl : lv_has ls 6 [(2, .int v2), (3, .int v3), (4, .ref (ad Γ.2.2.1 p4)), (5, .int v5)]) : W p l e { frames := 2, cells := 0, slots := 0, locals := 42 } s m args below meth c H locs 0 0 (MQ below (QN Γ Λ z.2 (some (.int z.1))) args s 0 0 (AP Γ)) (F0 m 84 ls []) := by
  obtain ⟨hx, hb, hml, hown, hts, hK⟩ := id C0
  unfold f_X8_set_J84 at hf
  refine lv_iload_n hx hb dX8_set_84 rfl (lv_at hl 0 rfl) ?_
  refine lv_iconst (v := (2 : Int32)) hx hb dX8_set_85 (by decide) ?_
  refine lv_icmp_ne (tgt := 112) hx hb dX8_set_86 (by decide) (fun c7 => ?_) (fun c7 => ?_)
  · replace hf := ie hf c7
    refine lv_iload hx hb dX8_set_112 (lv_at hl 3 rfl) ?_
    obtain rfl := Option.some.inj hf
    exact r_iret (d' := d) C0 hr hlocks hH rfl dX8_set_114
  · replace hf := it hf c7
    refine lv_iload_n hx hb dX8_set_89 rfl (lv_at hl 1 rfl) ?_
    refine lv_iconst (v := (0 : Int32)) hx hb dX8_set_90 (by decide) ?_
    refine lv_bipush (v := (99 : Int32)) hx hb dX8_set_91 (by decide) ?_
    refine r_callSi (rest := []) C0 hH (c_X8_within Γ l Λ d v3 (0 : Int32) (99 : Int32)) cs_X8_60 (by decide) rfl hl.1 rfl (Nat.le_of_ble_eq_true rfl) dX8_set_93 (by decide) (fun H locs hH => ?_)
    refine lv_if_eq (tgt := 112) hx hb dX8_set_96 (by decide) (fun c8 => ?_) (fun c8 => ?_)
    · replace hf := it hf c8
      refine lv_iload hx hb dX8_set_112 (lv_at hl 3 rfl) ?_
      obtain rfl := Option.some.inj hf
      exact r_iret (d' := d) C0 hr hlocks hH rfl dX8_set_114
    · replace hf := ie hf c8
      refine lv_aload hx hb dX8_set_99 (lv_at hl 2 rfl) ?_
      obtain ⟨g9, hf⟩ := gd hf
      refine r_geti C0 hH fl_X8_156 g9 rfl dX8_set_101 ?_
      refine lv_istore (lv' := [(5, .int (d.1 p4 2)), (2, .int v2), (3, .int v3), (4, .ref (ad Γ.2.2.1 p4))]) hx hb dX8_set_104 hl (by decide) rfl (fun ls hl => ?_)
      refine lv_aload hx hb dX8_set_106 (lv_at hl 3 rfl) ?_
      refine lv_iload_n hx hb dX8_set_108 rfl (lv_at hl 2 rfl) ?_
      refine r_puti C0 hH fw_X8_156 g9 rfl dX8_set_109 (fun H locs hH => ?_)
      refine lv_iload hx hb dX8_set_112 (lv_at hl 0 rfl) ?_
      obtain rfl := Option.some.inj hf
      exact r_iret (d' := d) C0 hr hlocks hH rfl dX8_set_114
set_option maxHeartbeats 4000000 in
set_option maxRecDepth 100000 in
theorem w_X8_set_J53 {p : Program} {l : Launch} {e : Env} {s : State} {m : MethodId} {args : Array Value} {below : List Frame} {meth : Method} {c : Code} {Γ : Cx} {Λ : List Ly} {z : Int32 × Dt} {d : Dt} (C0 : Ct Γ p s m args c cX8_set 6 "SeasonBound") (hr : meth.sig.returnType = (some FieldType.int)) (hlocks : meth.locks = false) (v2 : Int32) (v3 : Int32) (p4 : Nat) (v5 : Int32)
    (hf : f_X8_set_J53 Λ d v2 v3 p4 v5 = some z) (H : Heap) (locs : List Loc) (ls : Array Slot) (hH : Hs Γ Λ d s H locs) (hl : lv_has ls 6 [(2, .int v2), (3, .int v3), (4, .ref (ad Γ.2.2.1 p4)), (5, .int v5)]) : W p l e { frames := 2, cells := 0, slots := 0, locals := 42 } s m args below meth c H locs 0 0 (MQ below (QN Γ Λ z.2 (some (.int z.1))) args s 0 0 (AP Γ)) (F0 m 53 ls []) := by
  obtain ⟨hx, hb, hml, hown, hts, hK⟩ := id C0
  unfold f_X8_set_J53 at hf
  refine lv_iload_n hx hb dX8_set_53 rfl (lv_at hl 0 rfl) ?_
  refine lv_iconst (v := (1 : Int32)) hx hb dX8_set_54 (by decide) ?_
  refine lv_icmp_ne (tgt := 84) hx hb dX8_set_55 (by decide) (fun c6 => ?_) (fun c6 => ?_)
  · replace hf := ie hf c6
    exact w_X8_set_J84 C0 hr hlocks v2 v3 p4 v5 hf _ _ _ hH (lv_sub hl [0, 1, 2, 3] rfl)
  · replace hf := it hf c6
    refine lv_iload_n hx hb dX8_set_58 rfl (lv_at hl 1 rfl) ?_
    refine lv_iconst (v := (0 : Int32)) hx hb dX8_set_59 (by decide) ?_
    refine lv_bipush (v := (9 : Int32)) hx hb dX8_set_60 (by decide) ?_
    refine r_callSi (rest := []) C0 hH (c_X8_within Γ l Λ d v3 (0 : Int32) (9 : Int32)) cs_X8_60 (by decide) rfl hl.1 rfl (Nat.le_of_ble_eq_true rfl) dX8_set_62 (by decide) (fun H locs hH => ?_)
    refine lv_if_eq (tgt := 84) hx hb dX8_set_65 (by decide) (fun c10 => ?_) (fun c10 => ?_)
    · replace hf := it hf c10
      exact w_X8_set_J84 C0 hr hlocks v2 v3 p4 v5 hf _ _ _ hH (lv_sub hl [0, 1, 2, 3] rfl)
    · replace hf := ie hf c10
      refine lv_aload hx hb dX8_set_68 (lv_at hl 2 rfl) ?_
      obtain ⟨g11, hf⟩ := gd hf
      refine r_geti C0 hH fl_X8_141 g11 rfl dX8_set_70 ?_
      refine lv_istore (lv' := [(5, .int (d.1 p4 1)), (2, .int v2), (3, .int v3), (4, .ref (ad Γ.2.2.1 p4))]) hx hb dX8_set_73 hl (by decide) rfl (fun ls hl => ?_)
      refine lv_aload hx hb dX8_set_75 (lv_at hl 3 rfl) ?_
      refine lv_iload_n hx hb dX8_set_77 rfl (lv_at hl 2 rfl) ?_
      refine r_puti C0 hH fw_X8_141 g11 rfl dX8_set_78 (fun H locs hH => ?_)
      refine lv_goto (tgt := 112) hx hb dX8_set_81 (by decide) ?_
      refine lv_iload hx hb dX8_set_112 (lv_at hl 0 rfl) ?_
      obtain rfl := Option.some.inj hf
      exact r_iret (d' := d) C0 hr hlocks hH rfl dX8_set_114
set_option maxHeartbeats 4000000 in
set_option maxRecDepth 100000 in
theorem c_X8_set (Γ : Cx) (l : Launch) (Λ : List Ly) (d : Dt) (p0 : Nat) (v1 : Int32) (v2 : Int32) (v3 : Int32) (z : Int32 × Dt) (hf : f_X8_set Λ d p0 v1 v2 v3 = some z) : Cn Γ l yX8_set cX8_set 6 (some FieldType.int) 2 42 [.ref (ad Γ.2.2.1 p0), .int v1, .int v2, .int v3] Λ d (some (.int z.1)) z.2 := by
  refine Cn.of (own := "SeasonBound") (by decide +kernel) rfl (Nat.le_of_ble_eq_true rfl) ?_
  intro p e s m below meth c C0 hr hlocks hH ls hl
  have hl : lv_has ls 6 [(0, .ref (ad Γ.2.2.1 p0)), (1, .int v1), (2, .int v2), (3, .int v3)] := hl
  obtain ⟨hx, hb, hml, hown, hts, hK⟩ := id C0
  unfold f_X8_set at hf
  refine lv_iload_n hx hb dX8_set_0 rfl (lv_at hl 1 rfl) ?_
  refine r_callSi (rest := []) C0 hH (c_X8_isSeason Γ l Λ d v1) cs_X8_150 (by decide) rfl hl.1 rfl (Nat.le_of_ble_eq_true rfl) dX8_set_1 (by decide) (fun H locs hH => ?_)
  refine lv_if_ne (tgt := 9) hx hb dX8_set_4 (by decide) (fun c1 => ?_) (fun c1 => ?_)
  · replace hf := ie hf c1
    refine lv_aload_n hx hb dX8_set_9 rfl (lv_at hl 0 rfl) ?_
    obtain ⟨q2, g2, hf⟩ := ob hf
    refine r_getr C0 hH fl_X8_24 g2 dX8_set_10 ?_
    obtain ⟨q3, g3, hf⟩ := ob hf
    refine r_getr C0 hH fl_X8_137 g3 dX8_set_13 ?_
    refine lv_iload_n hx hb dX8_set_16 rfl (lv_at hl 1 rfl) ?_
    obtain ⟨q4, g4, hf⟩ := ob hf
    refine r_aald (C := "SeasonBound$Season") C0 hH g4 (by decide) rfl dX8_set_17 ?_
    refine lv_astore (lv' := [(4, .ref (ad Γ.2.2.1 q4)), (0, .ref (ad Γ.2.2.1 p0)), (1, .int v1), (2, .int v2), (3, .int v3)]) hx hb dX8_set_18 hl (by decide) rfl (fun ls hl => ?_)
    refine lv_iconst (v := (-1 : Int32)) hx hb dX8_set_20 (by decide) ?_
    refine lv_istore (lv' := [(5, .int (-1 : Int32)), (4, .ref (ad Γ.2.2.1 q4)), (0, .ref (ad Γ.2.2.1 p0)), (1, .int v1), (2, .int v2), (3, .int v3)]) hx hb dX8_set_21 hl (by decide) rfl (fun ls hl => ?_)
    refine lv_iload_n hx hb dX8_set_23 rfl (lv_at hl 4 rfl) ?_
    refine lv_if_ne (tgt := 53) hx hb dX8_set_24 (by decide) (fun c5 => ?_) (fun c5 => ?_)
    · replace hf := ie hf c5
      exact w_X8_set_J53 C0 hr hlocks v2 v3 q4 (-1 : Int32) hf _ _ _ hH (lv_sub hl [4, 5, 1, 0] rfl)
    · replace hf := it hf c5
      refine lv_iload_n hx hb dX8_set_27 rfl (lv_at hl 5 rfl) ?_
      refine lv_iconst (v := (1 : Int32)) hx hb dX8_set_28 (by decide) ?_
      refine lv_bipush (v := (9 : Int32)) hx hb dX8_set_29 (by decide) ?_
      refine r_callSi (rest := []) C0 hH (c_X8_within Γ l Λ d v3 (1 : Int32) (9 : Int32)) cs_X8_60 (by decide) rfl hl.1 rfl (Nat.le_of_ble_eq_true rfl) dX8_set_31 (by decide) (fun H locs hH => ?_)
      refine lv_if_eq (tgt := 53) hx hb dX8_set_34 (by decide) (fun c12 => ?_) (fun c12 => ?_)
      · replace hf := it hf c12
        exact w_X8_set_J53 C0 hr hlocks v2 v3 q4 (-1 : Int32) hf _ _ _ hH (lv_sub hl [4, 5, 1, 0] rfl)
      · replace hf := ie hf c12
        refine lv_aload hx hb dX8_set_37 (lv_at hl 1 rfl) ?_
        obtain ⟨g13, hf⟩ := gd hf
        refine r_geti C0 hH fl_X8_153 g13 rfl dX8_set_39 ?_
        refine lv_istore (lv' := [(5, .int (d.1 q4 0)), (4, .ref (ad Γ.2.2.1 q4)), (0, .ref (ad Γ.2.2.1 p0)), (1, .int v1), (2, .int v2), (3, .int v3)]) hx hb dX8_set_42 hl (by decide) rfl (fun ls hl => ?_)
        refine lv_aload hx hb dX8_set_44 (lv_at hl 1 rfl) ?_
        refine lv_iload_n hx hb dX8_set_46 rfl (lv_at hl 5 rfl) ?_
        refine r_puti C0 hH fw_X8_153 g13 rfl dX8_set_47 (fun H locs hH => ?_)
        refine lv_goto (tgt := 112) hx hb dX8_set_50 (by decide) ?_
        refine lv_iload hx hb dX8_set_112 (lv_at hl 0 rfl) ?_
        obtain rfl := Option.some.inj hf
        exact r_iret (d' := d) C0 hr hlocks hH rfl dX8_set_114
  · replace hf := it hf c1
    refine lv_iconst (v := (-1 : Int32)) hx hb dX8_set_7 (by decide) ?_
    obtain rfl := Option.some.inj hf
    exact r_iret (d' := d) C0 hr hlocks hH rfl dX8_set_8
theorem dX8_bind_0 : decode cX8_bind 0 = .ok (.aload_n 0, 1) := by decide +kernel
theorem dX8_bind_1 : decode cX8_bind 1 = .ok (.getfield 24, 3) := by decide +kernel
theorem dX8_bind_4 : decode cX8_bind 4 = .ok (.iload_n 1, 1) := by decide +kernel
theorem dX8_bind_5 : decode cX8_bind 5 = .ok (.iload_n 2, 1) := by decide +kernel
theorem dX8_bind_6 : decode cX8_bind 6 = .ok (.iload_n 3, 1) := by decide +kernel
theorem dX8_bind_7 : decode cX8_bind 7 = .ok (.invokevirtual 166, 3) := by decide +kernel
theorem dX8_bind_10 : decode cX8_bind 10 = .ok (.ireturn, 1) := by decide +kernel
def f_X8_bind (Λ : List Ly) (d : Dt) (p0 : Nat) (v1 : Int32) (v2 : Int32) (v3 : Int32) : Option (Int32 × Dt) := Option.bind (rf Λ p0 8 2) fun q1 => if clsAt Λ q1 = some 7 then (Option.bind (f_X7_apprentice Λ d q1 v1 v2 v3) fun z3 => some (z3.1, z3.2)) else none
set_option maxHeartbeats 4000000 in
set_option maxRecDepth 100000 in
theorem c_X8_bind (Γ : Cx) (l : Launch) (Λ : List Ly) (d : Dt) (p0 : Nat) (v1 : Int32) (v2 : Int32) (v3 : Int32) (z : Int32 × Dt) (hf : f_X8_bind Λ d p0 v1 v2 v3 = some z) : Cn Γ l yX8_bind cX8_bind 4 (some FieldType.int) 3 68 [.ref (ad Γ.2.2.1 p0), .int v1, .int v2, .int v3] Λ d (some (.int z.1)) z.2 := by
  refine Cn.of (own := "SeasonBound") (by decide +kernel) rfl (Nat.le_of_ble_eq_true rfl) ?_
  intro p e s m below meth c C0 hr hlocks hH ls hl
  have hl : lv_has ls 4 [(0, .ref (ad Γ.2.2.1 p0)), (1, .int v1), (2, .int v2), (3, .int v3)] := hl
  obtain ⟨hx, hb, hml, hown, hts, hK⟩ := id C0
  unfold f_X8_bind at hf
  refine lv_aload_n hx hb dX8_bind_0 rfl (lv_at hl 0 rfl) ?_
  obtain ⟨q1, g1, hf⟩ := ob hf
  refine r_getr C0 hH fl_X8_24 g1 dX8_bind_1 ?_
  refine lv_iload_n hx hb dX8_bind_4 rfl (lv_at hl 1 rfl) ?_
  refine lv_iload_n hx hb dX8_bind_5 rfl (lv_at hl 2 rfl) ?_
  refine lv_iload_n hx hb dX8_bind_6 rfl (lv_at hl 3 rfl) ?_
  obtain ⟨g2, hf⟩ := gd hf
  obtain ⟨z3, h3, hf⟩ := ob hf
  refine r_callVi (rest := []) C0 hH (c_X7_apprentice Γ l Λ d q1 v1 v2 v3 z3 h3) cv_X8_166 g2 (by decide) rfl hl.1 rfl (Nat.le_of_ble_eq_true rfl) dX8_bind_7 (by decide) (fun H locs hH => ?_)
  obtain rfl := Option.some.inj hf
  exact r_iret (d' := d) C0 hr hlocks hH rfl dX8_bind_10
theorem dX8_free_0 : decode cX8_free 0 = .ok (.aload_n 0, 1) := by decide +kernel
theorem dX8_free_1 : decode cX8_free 1 = .ok (.getfield 24, 3) := by decide +kernel
theorem dX8_free_4 : decode cX8_free 4 = .ok (.iload_n 1, 1) := by decide +kernel
theorem dX8_free_5 : decode cX8_free 5 = .ok (.invokevirtual 108, 3) := by decide +kernel
theorem dX8_free_8 : decode cX8_free 8 = .ok (.ifCond .ne 5, 3) := by decide +kernel
theorem dX8_free_11 : decode cX8_free 11 = .ok (.iconst (-1), 1) := by decide +kernel
theorem dX8_free_12 : decode cX8_free 12 = .ok (.ireturn, 1) := by decide +kernel
theorem dX8_free_13 : decode cX8_free 13 = .ok (.aload_n 0, 1) := by decide +kernel
theorem dX8_free_14 : decode cX8_free 14 = .ok (.getfield 24, 3) := by decide +kernel
theorem dX8_free_17 : decode cX8_free 17 = .ok (.getfield 112, 3) := by decide +kernel
theorem dX8_free_20 : decode cX8_free 20 = .ok (.iload_n 1, 1) := by decide +kernel
theorem dX8_free_21 : decode cX8_free 21 = .ok (.aaload, 1) := by decide +kernel
theorem dX8_free_22 : decode cX8_free 22 = .ok (.astore_n 2, 1) := by decide +kernel
theorem dX8_free_23 : decode cX8_free 23 = .ok (.aload_n 2, 1) := by decide +kernel
theorem dX8_free_24 : decode cX8_free 24 = .ok (.invokevirtual 121, 3) := by decide +kernel
theorem dX8_free_27 : decode cX8_free 27 = .ok (.ifCond .eq 6, 3) := by decide +kernel
theorem dX8_free_30 : decode cX8_free 30 = .ok (.bipush (-2), 2) := by decide +kernel
theorem dX8_free_32 : decode cX8_free 32 = .ok (.ireturn, 1) := by decide +kernel
theorem dX8_free_33 : decode cX8_free 33 = .ok (.aload_n 2, 1) := by decide +kernel
theorem dX8_free_34 : decode cX8_free 34 = .ok (.getfield 128, 3) := by decide +kernel
theorem dX8_free_37 : decode cX8_free 37 = .ok (.istore_n 3, 1) := by decide +kernel
theorem dX8_free_38 : decode cX8_free 38 = .ok (.aload_n 2, 1) := by decide +kernel
theorem dX8_free_39 : decode cX8_free 39 = .ok (.iconst 0, 1) := by decide +kernel
theorem dX8_free_40 : decode cX8_free 40 = .ok (.putfield 128, 3) := by decide +kernel
theorem dX8_free_43 : decode cX8_free 43 = .ok (.iload_n 3, 1) := by decide +kernel
theorem dX8_free_44 : decode cX8_free 44 = .ok (.ireturn, 1) := by decide +kernel
def f_X8_free (Λ : List Ly) (d : Dt) (p0 : Nat) (v1 : Int32) : Option (Int32 × Dt) := Option.bind (rf Λ p0 8 2) fun q1 => if clsAt Λ q1 = some 7 then (Option.bind (f_X7_has Λ d q1 v1) fun z3 => if z3 = 0 then (some ((-1 : Int32), d)) else (Option.bind (rf Λ q1 7 1) fun q5 => Option.bind (ra Λ q5 4 v1) fun q6 => if clsAt Λ q6 = some 1 then (Option.bind (f_X1_isFree Λ d q6) fun z8 => if z8 = 0 then (some ((d.1 q6 2), (pI d q6 2 (0 : Int32)))) else (some ((-2 : Int32), d))) else none)) else none
set_option maxHeartbeats 4000000 in
set_option maxRecDepth 100000 in
theorem c_X8_free (Γ : Cx) (l : Launch) (Λ : List Ly) (d : Dt) (p0 : Nat) (v1 : Int32) (z : Int32 × Dt) (hf : f_X8_free Λ d p0 v1 = some z) : Cn Γ l yX8_free cX8_free 4 (some FieldType.int) 2 43 [.ref (ad Γ.2.2.1 p0), .int v1] Λ d (some (.int z.1)) z.2 := by
  refine Cn.of (own := "SeasonBound") (by decide +kernel) rfl (Nat.le_of_ble_eq_true rfl) ?_
  intro p e s m below meth c C0 hr hlocks hH ls hl
  have hl : lv_has ls 4 [(0, .ref (ad Γ.2.2.1 p0)), (1, .int v1)] := hl
  obtain ⟨hx, hb, hml, hown, hts, hK⟩ := id C0
  unfold f_X8_free at hf
  refine lv_aload_n hx hb dX8_free_0 rfl (lv_at hl 0 rfl) ?_
  obtain ⟨q1, g1, hf⟩ := ob hf
  refine r_getr C0 hH fl_X8_24 g1 dX8_free_1 ?_
  refine lv_iload_n hx hb dX8_free_4 rfl (lv_at hl 1 rfl) ?_
  obtain ⟨g2, hf⟩ := gd hf
  obtain ⟨z3, h3, hf⟩ := ob hf
  refine r_callVi (rest := []) C0 hH (c_X7_has Γ l Λ d q1 v1 z3 h3) cv_X8_108 g2 (by decide) rfl hl.1 rfl (Nat.le_of_ble_eq_true rfl) dX8_free_5 (by decide) (fun H locs hH => ?_)
  refine lv_if_ne (tgt := 13) hx hb dX8_free_8 (by decide) (fun c4 => ?_) (fun c4 => ?_)
  · replace hf := ie hf c4
    refine lv_aload_n hx hb dX8_free_13 rfl (lv_at hl 0 rfl) ?_
    refine r_getr C0 hH fl_X8_24 g1 dX8_free_14 ?_
    obtain ⟨q5, g5, hf⟩ := ob hf
    refine r_getr C0 hH fl_X8_112 g5 dX8_free_17 ?_
    refine lv_iload_n hx hb dX8_free_20 rfl (lv_at hl 1 rfl) ?_
    obtain ⟨q6, g6, hf⟩ := ob hf
    refine r_aald (C := "SeasonBound$Child") C0 hH g6 (by decide) rfl dX8_free_21 ?_
    refine lv_astore_n (lv' := [(2, .ref (ad Γ.2.2.1 q6)), (0, .ref (ad Γ.2.2.1 p0)), (1, .int v1)]) hx hb dX8_free_22 rfl hl (by decide) rfl (fun ls hl => ?_)
    refine lv_aload_n hx hb dX8_free_23 rfl (lv_at hl 0 rfl) ?_
    obtain ⟨g7, hf⟩ := gd hf
    obtain ⟨z8, h8, hf⟩ := ob hf
    refine r_callVi (rest := []) C0 hH (c_X1_isFree Γ l Λ d q6 z8 h8) cv_X8_121 g7 (by decide) rfl hl.1 rfl (Nat.le_of_ble_eq_true rfl) dX8_free_24 (by decide) (fun H locs hH => ?_)
    refine lv_if_eq (tgt := 33) hx hb dX8_free_27 (by decide) (fun c9 => ?_) (fun c9 => ?_)
    · replace hf := it hf c9
      refine lv_aload_n hx hb dX8_free_33 rfl (lv_at hl 0 rfl) ?_
      refine r_geti C0 hH fl_X8_128 g7 rfl dX8_free_34 ?_
      refine lv_istore_n (lv' := [(3, .int (d.1 q6 2)), (2, .ref (ad Γ.2.2.1 q6)), (0, .ref (ad Γ.2.2.1 p0)), (1, .int v1)]) hx hb dX8_free_37 rfl hl (by decide) rfl (fun ls hl => ?_)
      refine lv_aload_n hx hb dX8_free_38 rfl (lv_at hl 1 rfl) ?_
      refine lv_iconst (v := (0 : Int32)) hx hb dX8_free_39 (by decide) ?_
      refine r_puti C0 hH fw_X8_128 g7 rfl dX8_free_40 (fun H locs hH => ?_)
      refine lv_iload_n hx hb dX8_free_43 rfl (lv_at hl 0 rfl) ?_
      obtain rfl := Option.some.inj hf
      exact r_iret (d' := d) C0 hr hlocks hH rfl dX8_free_44
    · replace hf := ie hf c9
      refine lv_bipush (v := (-2 : Int32)) hx hb dX8_free_30 (by decide) ?_
      obtain rfl := Option.some.inj hf
      exact r_iret (d' := d) C0 hr hlocks hH rfl dX8_free_32
  · replace hf := it hf c4
    refine lv_iconst (v := (-1 : Int32)) hx hb dX8_free_11 (by decide) ?_
    obtain rfl := Option.some.inj hf
    exact r_iret (d' := d) C0 hr hlocks hH rfl dX8_free_12
theorem dX8_born_0 : decode cX8_born 0 = .ok (.iload_n 1, 1) := by decide +kernel
theorem dX8_born_1 : decode cX8_born 1 = .ok (.invokestatic 163, 3) := by decide +kernel
theorem dX8_born_4 : decode cX8_born 4 = .ok (.ifCond .ne 5, 3) := by decide +kernel
theorem dX8_born_7 : decode cX8_born 7 = .ok (.iconst (-1), 1) := by decide +kernel
theorem dX8_born_8 : decode cX8_born 8 = .ok (.ireturn, 1) := by decide +kernel
theorem dX8_born_9 : decode cX8_born 9 = .ok (.aload_n 0, 1) := by decide +kernel
theorem dX8_born_10 : decode cX8_born 10 = .ok (.getfield 24, 3) := by decide +kernel
theorem dX8_born_13 : decode cX8_born 13 = .ok (.getfield 91, 3) := by decide +kernel
theorem dX8_born_16 : decode cX8_born 16 = .ok (.iconst 5, 1) := by decide +kernel
theorem dX8_born_17 : decode cX8_born 17 = .ok (.if_icmp .lt 6, 3) := by decide +kernel
theorem dX8_born_20 : decode cX8_born 20 = .ok (.bipush (-3), 2) := by decide +kernel
theorem dX8_born_22 : decode cX8_born 22 = .ok (.ireturn, 1) := by decide +kernel
theorem dX8_born_23 : decode cX8_born 23 = .ok (.aload_n 0, 1) := by decide +kernel
theorem dX8_born_24 : decode cX8_born 24 = .ok (.getfield 24, 3) := by decide +kernel
theorem dX8_born_27 : decode cX8_born 27 = .ok (.iload_n 1, 1) := by decide +kernel
theorem dX8_born_28 : decode cX8_born 28 = .ok (.invokevirtual 170, 3) := by decide +kernel
theorem dX8_born_31 : decode cX8_born 31 = .ok (.aload_n 0, 1) := by decide +kernel
theorem dX8_born_32 : decode cX8_born 32 = .ok (.getfield 24, 3) := by decide +kernel
theorem dX8_born_35 : decode cX8_born 35 = .ok (.getfield 91, 3) := by decide +kernel
theorem dX8_born_38 : decode cX8_born 38 = .ok (.ireturn, 1) := by decide +kernel
def f_X8_born (Λ : List Ly) (d : Dt) (p0 : Nat) (v1 : Int32) : Option (Int32 × Dt) := if (f_X8_isKind v1) = 0 then (some ((-1 : Int32), d)) else (Option.bind (rf Λ p0 8 2) fun q2 => if clsAt Λ q2 = some 7 then (if (d.1 q2 2) < (5 : Int32) then (Option.bind (f_X7_add Λ d q2 v1) fun z5 => some ((z5.1 q2 2), z5)) else (some ((-3 : Int32), d))) else none)
set_option maxHeartbeats 4000000 in
set_option maxRecDepth 100000 in
theorem c_X8_born (Γ : Cx) (l : Launch) (Λ : List Ly) (d : Dt) (p0 : Nat) (v1 : Int32) (z : Int32 × Dt) (hf : f_X8_born Λ d p0 v1 = some z) : Cn Γ l yX8_born cX8_born 2 (some FieldType.int) 2 42 [.ref (ad Γ.2.2.1 p0), .int v1] Λ d (some (.int z.1)) z.2 := by
  refine Cn.of (own := "SeasonBound") (by decide +kernel) rfl (Nat.le_of_ble_eq_true rfl) ?_
  intro p e s m below meth c C0 hr hlocks hH ls hl
  have hl : lv_has ls 2 [(0, .ref (ad Γ.2.2.1 p0)), (1, .int v1)] := hl
  obtain ⟨hx, hb, hml, hown, hts, hK⟩ := id C0
  unfold f_X8_born at hf
  refine lv_iload_n hx hb dX8_born_0 rfl (lv_at hl 1 rfl) ?_
  refine r_callSi (rest := []) C0 hH (c_X8_isKind Γ l Λ d v1) cs_X8_163 (by decide) rfl hl.1 rfl (Nat.le_of_ble_eq_true rfl) dX8_born_1 (by decide) (fun H locs hH => ?_)
  refine lv_if_ne (tgt := 9) hx hb dX8_born_4 (by decide) (fun c1 => ?_) (fun c1 => ?_)
  · replace hf := ie hf c1
    refine lv_aload_n hx hb dX8_born_9 rfl (lv_at hl 0 rfl) ?_
    obtain ⟨q2, g2, hf⟩ := ob hf
    refine r_getr C0 hH fl_X8_24 g2 dX8_born_10 ?_
    obtain ⟨g3, hf⟩ := gd hf
    refine r_geti C0 hH fl_X8_91 g3 rfl dX8_born_13 ?_
    refine lv_iconst (v := (5 : Int32)) hx hb dX8_born_16 (by decide) ?_
    refine lv_icmp_lt (tgt := 23) hx hb dX8_born_17 (by decide) (fun c4 => ?_) (fun c4 => ?_)
    · replace hf := it hf c4
      refine lv_aload_n hx hb dX8_born_23 rfl (lv_at hl 0 rfl) ?_
      refine r_getr C0 hH fl_X8_24 g2 dX8_born_24 ?_
      refine lv_iload_n hx hb dX8_born_27 rfl (lv_at hl 1 rfl) ?_
      obtain ⟨z5, h5, hf⟩ := ob hf
      refine r_callVv (rest := []) C0 hH (c_X7_add Γ l Λ d q2 v1 z5 h5) cv_X8_170 g3 (by decide) rfl hl.1 rfl (Nat.le_of_ble_eq_true rfl) dX8_born_28 (by decide) (fun H locs hH => ?_)
      refine lv_aload_n hx hb dX8_born_31 rfl (lv_at hl 0 rfl) ?_
      refine r_getr C0 hH fl_X8_24 g2 dX8_born_32 ?_
      refine r_geti C0 hH fl_X8_91 g3 rfl dX8_born_35 ?_
      obtain rfl := Option.some.inj hf
      exact r_iret (d' := d) C0 hr hlocks hH rfl dX8_born_38
    · replace hf := ie hf c4
      refine lv_bipush (v := (-3 : Int32)) hx hb dX8_born_20 (by decide) ?_
      obtain rfl := Option.some.inj hf
      exact r_iret (d' := d) C0 hr hlocks hH rfl dX8_born_22
  · replace hf := it hf c1
    refine lv_iconst (v := (-1 : Int32)) hx hb dX8_born_7 (by decide) ?_
    obtain rfl := Option.some.inj hf
    exact r_iret (d' := d) C0 hr hlocks hH rfl dX8_born_8
theorem dX8_weeks_0 : decode cX8_weeks 0 = .ok (.iload_n 1, 1) := by decide +kernel
theorem dX8_weeks_1 : decode cX8_weeks 1 = .ok (.iconst 0, 1) := by decide +kernel
theorem dX8_weeks_2 : decode cX8_weeks 2 = .ok (.bipush 30, 2) := by decide +kernel
theorem dX8_weeks_4 : decode cX8_weeks 4 = .ok (.invokestatic 60, 3) := by decide +kernel
theorem dX8_weeks_7 : decode cX8_weeks 7 = .ok (.ifCond .ne 5, 3) := by decide +kernel
theorem dX8_weeks_10 : decode cX8_weeks 10 = .ok (.iconst (-1), 1) := by decide +kernel
theorem dX8_weeks_11 : decode cX8_weeks 11 = .ok (.ireturn, 1) := by decide +kernel
theorem dX8_weeks_12 : decode cX8_weeks 12 = .ok (.aload_n 0, 1) := by decide +kernel
theorem dX8_weeks_13 : decode cX8_weeks 13 = .ok (.getfield 24, 3) := by decide +kernel
theorem dX8_weeks_16 : decode cX8_weeks 16 = .ok (.getfield 92, 3) := by decide +kernel
theorem dX8_weeks_19 : decode cX8_weeks 19 = .ok (.iload_n 1, 1) := by decide +kernel
theorem dX8_weeks_20 : decode cX8_weeks 20 = .ok (.iadd, 1) := by decide +kernel
theorem dX8_weeks_21 : decode cX8_weeks 21 = .ok (.sipush 999, 3) := by decide +kernel
theorem dX8_weeks_24 : decode cX8_weeks 24 = .ok (.if_icmp .le 6, 3) := by decide +kernel
theorem dX8_weeks_27 : decode cX8_weeks 27 = .ok (.bipush (-3), 2) := by decide +kernel
theorem dX8_weeks_29 : decode cX8_weeks 29 = .ok (.ireturn, 1) := by decide +kernel
theorem dX8_weeks_30 : decode cX8_weeks 30 = .ok (.aload_n 0, 1) := by decide +kernel
theorem dX8_weeks_31 : decode cX8_weeks 31 = .ok (.getfield 24, 3) := by decide +kernel
theorem dX8_weeks_34 : decode cX8_weeks 34 = .ok (.invokevirtual 105, 3) := by decide +kernel
theorem dX8_weeks_37 : decode cX8_weeks 37 = .ok (.istore_n 2, 1) := by decide +kernel
theorem dX8_weeks_38 : decode cX8_weeks 38 = .ok (.aload_n 0, 1) := by decide +kernel
theorem dX8_weeks_39 : decode cX8_weeks 39 = .ok (.getfield 24, 3) := by decide +kernel
theorem dX8_weeks_42 : decode cX8_weeks 42 = .ok (.iload_n 1, 1) := by decide +kernel
theorem dX8_weeks_43 : decode cX8_weeks 43 = .ok (.invokevirtual 173, 3) := by decide +kernel
theorem dX8_weeks_46 : decode cX8_weeks 46 = .ok (.aload_n 0, 1) := by decide +kernel
theorem dX8_weeks_47 : decode cX8_weeks 47 = .ok (.getfield 24, 3) := by decide +kernel
theorem dX8_weeks_50 : decode cX8_weeks 50 = .ok (.invokevirtual 105, 3) := by decide +kernel
theorem dX8_weeks_53 : decode cX8_weeks 53 = .ok (.iload_n 2, 1) := by decide +kernel
theorem dX8_weeks_54 : decode cX8_weeks 54 = .ok (.isub, 1) := by decide +kernel
theorem dX8_weeks_55 : decode cX8_weeks 55 = .ok (.ireturn, 1) := by decide +kernel
def f_X8_weeks (Λ : List Ly) (d : Dt) (p0 : Nat) (v1 : Int32) : Option (Int32 × Dt) := if (f_X8_within v1 (0 : Int32) (30 : Int32)) = 0 then (some ((-1 : Int32), d)) else (Option.bind (rf Λ p0 8 2) fun q2 => if clsAt Λ q2 = some 7 then (if ((d.1 q2 5) + v1) ≤ (999 : Int32) then (Option.bind (f_X7_skillSum Λ d q2) fun z5 => Option.bind (f_X7_pass Λ d q2 v1) fun z6 => Option.bind (f_X7_skillSum Λ z6 q2) fun z7 => some ((z7 - z5), z6)) else (some ((-3 : Int32), d))) else none)
set_option maxHeartbeats 4000000 in
set_option maxRecDepth 100000 in
theorem c_X8_weeks (Γ : Cx) (l : Launch) (Λ : List Ly) (d : Dt) (p0 : Nat) (v1 : Int32) (z : Int32 × Dt) (hf : f_X8_weeks Λ d p0 v1 = some z) : Cn Γ l yX8_weeks cX8_weeks 3 (some FieldType.int) 5 107 [.ref (ad Γ.2.2.1 p0), .int v1] Λ d (some (.int z.1)) z.2 := by
  refine Cn.of (own := "SeasonBound") (by decide +kernel) rfl (Nat.le_of_ble_eq_true rfl) ?_
  intro p e s m below meth c C0 hr hlocks hH ls hl
  have hl : lv_has ls 3 [(0, .ref (ad Γ.2.2.1 p0)), (1, .int v1)] := hl
  obtain ⟨hx, hb, hml, hown, hts, hK⟩ := id C0
  unfold f_X8_weeks at hf
  refine lv_iload_n hx hb dX8_weeks_0 rfl (lv_at hl 1 rfl) ?_
  refine lv_iconst (v := (0 : Int32)) hx hb dX8_weeks_1 (by decide) ?_
  refine lv_bipush (v := (30 : Int32)) hx hb dX8_weeks_2 (by decide) ?_
  refine r_callSi (rest := []) C0 hH (c_X8_within Γ l Λ d v1 (0 : Int32) (30 : Int32)) cs_X8_60 (by decide) rfl hl.1 rfl (Nat.le_of_ble_eq_true rfl) dX8_weeks_4 (by decide) (fun H locs hH => ?_)
  refine lv_if_ne (tgt := 12) hx hb dX8_weeks_7 (by decide) (fun c1 => ?_) (fun c1 => ?_)
  · replace hf := ie hf c1
    refine lv_aload_n hx hb dX8_weeks_12 rfl (lv_at hl 0 rfl) ?_
    obtain ⟨q2, g2, hf⟩ := ob hf
    refine r_getr C0 hH fl_X8_24 g2 dX8_weeks_13 ?_
    obtain ⟨g3, hf⟩ := gd hf
    refine r_geti C0 hH fl_X8_92 g3 rfl dX8_weeks_16 ?_
    refine lv_iload_n hx hb dX8_weeks_19 rfl (lv_at hl 1 rfl) ?_
    refine lv_iadd hx hb dX8_weeks_20 ?_
    refine lv_sipush (v := (999 : Int32)) hx hb dX8_weeks_21 (by decide) ?_
    refine lv_icmp_le (tgt := 30) hx hb dX8_weeks_24 (by decide) (fun c4 => ?_) (fun c4 => ?_)
    · replace hf := it hf c4
      refine lv_aload_n hx hb dX8_weeks_30 rfl (lv_at hl 0 rfl) ?_
      refine r_getr C0 hH fl_X8_24 g2 dX8_weeks_31 ?_
      obtain ⟨z5, h5, hf⟩ := ob hf
      refine r_callVi (rest := []) C0 hH (c_X7_skillSum Γ l Λ d q2 z5 h5) cv_X8_105 g3 (by decide) rfl hl.1 rfl (Nat.le_of_ble_eq_true rfl) dX8_weeks_34 (by decide) (fun H locs hH => ?_)
      refine lv_istore_n (lv' := [(2, .int z5), (0, .ref (ad Γ.2.2.1 p0)), (1, .int v1)]) hx hb dX8_weeks_37 rfl hl (by decide) rfl (fun ls hl => ?_)
      refine lv_aload_n hx hb dX8_weeks_38 rfl (lv_at hl 1 rfl) ?_
      refine r_getr C0 hH fl_X8_24 g2 dX8_weeks_39 ?_
      refine lv_iload_n hx hb dX8_weeks_42 rfl (lv_at hl 2 rfl) ?_
      obtain ⟨z6, h6, hf⟩ := ob hf
      refine r_callVv (rest := []) C0 hH (c_X7_pass Γ l Λ d q2 v1 z6 h6) cv_X8_173 g3 (by decide) rfl hl.1 rfl (Nat.le_of_ble_eq_true rfl) dX8_weeks_43 (by decide) (fun H locs hH => ?_)
      refine lv_aload_n hx hb dX8_weeks_46 rfl (lv_at hl 1 rfl) ?_
      refine r_getr C0 hH fl_X8_24 g2 dX8_weeks_47 ?_
      obtain ⟨z7, h7, hf⟩ := ob hf
      refine r_callVi (rest := []) C0 hH (c_X7_skillSum Γ l Λ z6 q2 z7 h7) cv_X8_105 g3 (by decide) rfl hl.1 rfl (Nat.le_of_ble_eq_true rfl) dX8_weeks_50 (by decide) (fun H locs hH => ?_)
      refine lv_iload_n hx hb dX8_weeks_53 rfl (lv_at hl 0 rfl) ?_
      refine lv_isub hx hb dX8_weeks_54 ?_
      obtain rfl := Option.some.inj hf
      exact r_iret (d' := d) C0 hr hlocks hH rfl dX8_weeks_55
    · replace hf := ie hf c4
      refine lv_bipush (v := (-3 : Int32)) hx hb dX8_weeks_27 (by decide) ?_
      obtain rfl := Option.some.inj hf
      exact r_iret (d' := d) C0 hr hlocks hH rfl dX8_weeks_29
  · replace hf := it hf c1
    refine lv_iconst (v := (-1 : Int32)) hx hb dX8_weeks_10 (by decide) ?_
    obtain rfl := Option.some.inj hf
    exact r_iret (d' := d) C0 hr hlocks hH rfl dX8_weeks_11
theorem dX8_isRun_0 : decode cX8_isRun 0 = .ok (.iload_n 0, 1) := by decide +kernel
theorem dX8_isRun_1 : decode cX8_isRun 1 = .ok (.iconst 0, 1) := by decide +kernel
theorem dX8_isRun_2 : decode cX8_isRun 2 = .ok (.bipush 60, 2) := by decide +kernel
theorem dX8_isRun_4 : decode cX8_isRun 4 = .ok (.invokestatic 60, 3) := by decide +kernel
theorem dX8_isRun_7 : decode cX8_isRun 7 = .ok (.ireturn, 1) := by decide +kernel
def f_X8_isRun (v0 : Int32) : Int32 := (f_X8_within v0 (0 : Int32) (60 : Int32))
theorem bo_X8_isRun (v0 : Int32) : f_X8_isRun v0 = 0 ∨ f_X8_isRun v0 = 1 := by
  unfold f_X8_isRun
  (repeat' split) <;> first | exact Or.inl rfl | exact Or.inr rfl | exact bo_X8_within _ _ _
set_option maxHeartbeats 4000000 in
set_option maxRecDepth 100000 in
theorem c_X8_isRun (Γ : Cx) (l : Launch) (Λ : List Ly) (d : Dt) (v0 : Int32) : Cn Γ l yX8_isRun cX8_isRun 1 (some FieldType.boolean) 1 22 [.int v0] Λ d (some (.int (f_X8_isRun v0))) d := by
  generalize hf : f_X8_isRun v0 = z
  refine Cn.of (own := "SeasonBound") (by decide +kernel) rfl (Nat.le_of_ble_eq_true rfl) ?_
  intro p e s m below meth c C0 hr hlocks hH ls hl
  have hl : lv_has ls 1 [(0, .int v0)] := hl
  obtain ⟨hx, hb, hml, hown, hts, hK⟩ := id C0
  unfold f_X8_isRun at hf
  refine lv_iload_n hx hb dX8_isRun_0 rfl (lv_at hl 0 rfl) ?_
  refine lv_iconst (v := (0 : Int32)) hx hb dX8_isRun_1 (by decide) ?_
  refine lv_bipush (v := (60 : Int32)) hx hb dX8_isRun_2 (by decide) ?_
  refine r_callSi (rest := []) C0 hH (c_X8_within Γ l Λ d v0 (0 : Int32) (60 : Int32)) cs_X8_60 (by decide) rfl hl.1 rfl (Nat.le_of_ble_eq_true rfl) dX8_isRun_4 (by decide) (fun H locs hH => ?_)
  subst hf
  exact r_iret (d' := d) C0 hr hlocks hH (nz (bo_X8_within _ _ _)) dX8_isRun_7
theorem dX8_runs_0 : decode cX8_runs 0 = .ok (.iload_n 1, 1) := by decide +kernel
theorem dX8_runs_1 : decode cX8_runs 1 = .ok (.invokestatic 176, 3) := by decide +kernel
theorem dX8_runs_4 : decode cX8_runs 4 = .ok (.ifCond .eq 12, 3) := by decide +kernel
theorem dX8_runs_7 : decode cX8_runs 7 = .ok (.iload_n 2, 1) := by decide +kernel
theorem dX8_runs_8 : decode cX8_runs 8 = .ok (.iconst 0, 1) := by decide +kernel
theorem dX8_runs_9 : decode cX8_runs 9 = .ok (.iconst 4, 1) := by decide +kernel
theorem dX8_runs_10 : decode cX8_runs 10 = .ok (.invokestatic 60, 3) := by decide +kernel
theorem dX8_runs_13 : decode cX8_runs 13 = .ok (.ifCond .ne 5, 3) := by decide +kernel
theorem dX8_runs_16 : decode cX8_runs 16 = .ok (.iconst (-1), 1) := by decide +kernel
theorem dX8_runs_17 : decode cX8_runs 17 = .ok (.ireturn, 1) := by decide +kernel
theorem dX8_runs_18 : decode cX8_runs 18 = .ok (.aload_n 0, 1) := by decide +kernel
theorem dX8_runs_19 : decode cX8_runs 19 = .ok (.getfield 28, 3) := by decide +kernel
theorem dX8_runs_22 : decode cX8_runs 22 = .ok (.aload_n 0, 1) := by decide +kernel
theorem dX8_runs_23 : decode cX8_runs 23 = .ok (.getfield 24, 3) := by decide +kernel
theorem dX8_runs_26 : decode cX8_runs 26 = .ok (.invokevirtual 87, 3) := by decide +kernel
theorem dX8_runs_29 : decode cX8_runs 29 = .ok (.iconst 0, 1) := by decide +kernel
theorem dX8_runs_30 : decode cX8_runs 30 = .ok (.istore_n 3, 1) := by decide +kernel
theorem dX8_runs_31 : decode cX8_runs 31 = .ok (.iconst 0, 1) := by decide +kernel
theorem dX8_runs_32 : decode cX8_runs 32 = .ok (.istore 4, 2) := by decide +kernel
theorem dX8_runs_34 : decode cX8_runs 34 = .ok (.iload 4, 2) := by decide +kernel
theorem dX8_runs_36 : decode cX8_runs 36 = .ok (.iload_n 1, 1) := by decide +kernel
theorem dX8_runs_37 : decode cX8_runs 37 = .ok (.if_icmp .ge 29, 3) := by decide +kernel
theorem dX8_runs_40 : decode cX8_runs 40 = .ok (.aload_n 0, 1) := by decide +kernel
theorem dX8_runs_41 : decode cX8_runs 41 = .ok (.getfield 28, 3) := by decide +kernel
theorem dX8_runs_44 : decode cX8_runs 44 = .ok (.invokevirtual 101, 3) := by decide +kernel
theorem dX8_runs_47 : decode cX8_runs 47 = .ok (.ifCond .ne 6, 3) := by decide +kernel
theorem dX8_runs_50 : decode cX8_runs 50 = .ok (.iinc 3 1, 3) := by decide +kernel
theorem dX8_runs_53 : decode cX8_runs 53 = .ok (.aload_n 0, 1) := by decide +kernel
theorem dX8_runs_54 : decode cX8_runs 54 = .ok (.getfield 28, 3) := by decide +kernel
theorem dX8_runs_57 : decode cX8_runs 57 = .ok (.invokevirtual 179, 3) := by decide +kernel
theorem dX8_runs_60 : decode cX8_runs 60 = .ok (.iinc 4 1, 3) := by decide +kernel
theorem dX8_runs_63 : decode cX8_runs 63 = .ok (.goto (-29), 3) := by decide +kernel
theorem dX8_runs_66 : decode cX8_runs 66 = .ok (.iload_n 2, 1) := by decide +kernel
theorem dX8_runs_67 : decode cX8_runs 67 = .ok (.tableswitch 55 0 3 #[29, 37, 45, 47], 29) := by decide +kernel
theorem dX8_runs_96 : decode cX8_runs 96 = .ok (.aload_n 0, 1) := by decide +kernel
theorem dX8_runs_97 : decode cX8_runs 97 = .ok (.getfield 28, 3) := by decide +kernel
theorem dX8_runs_100 : decode cX8_runs 100 = .ok (.invokevirtual 105, 3) := by decide +kernel
theorem dX8_runs_103 : decode cX8_runs 103 = .ok (.ireturn, 1) := by decide +kernel
theorem dX8_runs_104 : decode cX8_runs 104 = .ok (.aload_n 0, 1) := by decide +kernel
theorem dX8_runs_105 : decode cX8_runs 105 = .ok (.getfield 28, 3) := by decide +kernel
theorem dX8_runs_108 : decode cX8_runs 108 = .ok (.invokevirtual 182, 3) := by decide +kernel
theorem dX8_runs_111 : decode cX8_runs 111 = .ok (.ireturn, 1) := by decide +kernel
theorem dX8_runs_112 : decode cX8_runs 112 = .ok (.iload_n 3, 1) := by decide +kernel
theorem dX8_runs_113 : decode cX8_runs 113 = .ok (.ireturn, 1) := by decide +kernel
theorem dX8_runs_114 : decode cX8_runs 114 = .ok (.aload_n 0, 1) := by decide +kernel
theorem dX8_runs_115 : decode cX8_runs 115 = .ok (.getfield 28, 3) := by decide +kernel
theorem dX8_runs_118 : decode cX8_runs 118 = .ok (.invokevirtual 185, 3) := by decide +kernel
theorem dX8_runs_121 : decode cX8_runs 121 = .ok (.ireturn, 1) := by decide +kernel
theorem dX8_runs_122 : decode cX8_runs 122 = .ok (.aload_n 0, 1) := by decide +kernel
theorem dX8_runs_123 : decode cX8_runs 123 = .ok (.getfield 28, 3) := by decide +kernel
theorem dX8_runs_126 : decode cX8_runs 126 = .ok (.getfield 95, 3) := by decide +kernel
theorem dX8_runs_129 : decode cX8_runs 129 = .ok (.ireturn, 1) := by decide +kernel
def f_X8_runs_L34 (Λ : List Ly) (p0 : Nat) (v1 : Int32) (v2 : Int32) (k66 : Int32 → Int32 → Dt → Option (Int32 × Dt)) : Nat → Int32 → Int32 → Dt → Option (Int32 × Dt)
  | 0, _, _, _ => none
  | n + 1, v3, v4, d => if v1 ≤ v4 then (k66 v3 v4 d) else (Option.bind (rf Λ p0 8 3) fun q8 => if clsAt Λ q8 = some 7 then (Option.bind (f_X7_living Λ d q8) fun z10 => if z10 = 0 then (Option.bind (f_X7_passOne Λ d q8) fun z13 => f_X8_runs_L34 Λ p0 v1 v2 k66 n (v3 + (1 : Int32)) (v4 + (1 : Int32)) z13) else (Option.bind (f_X7_passOne Λ d q8) fun z12 => f_X8_runs_L34 Λ p0 v1 v2 k66 n v3 (v4 + (1 : Int32)) z12)) else none)
def f_X8_runs (Λ : List Ly) (d : Dt) (p0 : Nat) (v1 : Int32) (v2 : Int32) : Option (Int32 × Dt) := if (f_X8_isRun v1) = 0 then (some ((-1 : Int32), d)) else (if (f_X8_within v2 (0 : Int32) (4 : Int32)) = 0 then (some ((-1 : Int32), d)) else (Option.bind (rf Λ p0 8 3) fun q3 => Option.bind (rf Λ p0 8 2) fun q4 => if clsAt Λ q3 = some 7 then (Option.bind (f_X7_copy Λ d q3 q4) fun z6 => f_X8_runs_L34 Λ p0 v1 v2 (fun x14_3 x14_4 d14 => if v2 = (0 : Int32) then (Option.bind (f_X7_skillSum Λ d14 q3) fun z16 => some (z16, d14)) else (if v2 = (1 : Int32) then (Option.bind (f_X7_freeOnes Λ d14 q3) fun z18 => some (z18, d14)) else (if v2 = (2 : Int32) then (some (x14_3, d14)) else (if v2 = (3 : Int32) then (Option.bind (f_X7_ageSum Λ d14 q3) fun z21 => some (z21, d14)) else (some ((d14.1 q3 3), d14)))))) FU (0 : Int32) (0 : Int32) z6) else none))
set_option maxHeartbeats 4000000 in
set_option maxRecDepth 100000 in
theorem w_X8_runs_L34 {p : Program} {l : Launch} {e : Env} {s : State} {m : MethodId} {args : Array Value} {below : List Frame} {meth : Method} {c : Code} {Γ : Cx} {Λ : List Ly} {z : Int32 × Dt} (C0 : Ct Γ p s m args c cX8_runs 5 "SeasonBound") (hr : meth.sig.returnType = (some FieldType.int)) (hlocks : meth.locks = false) (k66 : Int32 → Int32 → Dt → Option (Int32 × Dt)) (p0 : Nat) (v1 : Int32) (v2 : Int32)
    (hk66 : ∀ (v3 : Int32) (v4 : Int32) (d : Dt), (k66 v3 v4 d = some z) → ∀ (H : Heap) (locs : List Loc) (ls : Array Slot), Hs Γ Λ d s H locs → lv_has ls 5 [(0, .ref (ad Γ.2.2.1 p0)), (1, .int v1), (2, .int v2), (3, .int v3), (4, .int v4)] → W p l e { frames := 4, cells := 0, slots := 0, locals := 85 } s m args below meth c H locs 0 0 (MQ below (QN Γ Λ z.2 (some (.int z.1))) args s 0 0 (AP Γ)) (F0 m 66 ls [])) :
    ∀ (n : Nat) (v3 : Int32) (v4 : Int32) (d : Dt), f_X8_runs_L34 Λ p0 v1 v2 k66 n v3 v4 d = some z → ∀ (H : Heap) (locs : List Loc) (ls : Array Slot), Hs Γ Λ d s H locs → lv_has ls 5 [(0, .ref (ad Γ.2.2.1 p0)), (1, .int v1), (2, .int v2), (3, .int v3), (4, .int v4)] → W p l e { frames := 4, cells := 0, slots := 0, locals := 85 } s m args below meth c H locs 0 0 (MQ below (QN Γ Λ z.2 (some (.int z.1))) args s 0 0 (AP Γ)) (F0 m 34 ls []) := by
  obtain ⟨hx, hb, hml, hown, hts, hK⟩ := id C0
  intro n
  induction n with
  | zero =>
    intro v3 v4 d hf
    cases hf
  | succ n ih =>
    intro v3 v4 d hf H locs ls hH hl
    unfold f_X8_runs_L34 at hf
    refine lv_iload hx hb dX8_runs_34 (lv_at hl 4 rfl) ?_
    refine lv_iload_n hx hb dX8_runs_36 rfl (lv_at hl 1 rfl) ?_
    refine lv_icmp_ge (tgt := 66) hx hb dX8_runs_37 (by decide) (fun c7 => ?_) (fun c7 => ?_)
    · replace hf := it hf c7
      exact hk66 v3 v4 d hf _ _ _ hH (lv_sub hl [0, 1, 2, 3, 4] rfl)
    · replace hf := ie hf c7
      refine lv_aload_n hx hb dX8_runs_40 rfl (lv_at hl 0 rfl) ?_
      obtain ⟨q8, g8, hf⟩ := ob hf
      refine r_getr C0 hH fl_X8_28 g8 dX8_runs_41 ?_
      obtain ⟨g9, hf⟩ := gd hf
      obtain ⟨z10, h10, hf⟩ := ob hf
      refine r_callVi (rest := []) C0 hH (c_X7_living Γ l Λ d q8 z10 h10) cv_X8_101 g9 (by decide) rfl hl.1 rfl (Nat.le_of_ble_eq_true rfl) dX8_runs_44 (by decide) (fun H locs hH => ?_)
      refine lv_if_ne (tgt := 53) hx hb dX8_runs_47 (by decide) (fun c11 => ?_) (fun c11 => ?_)
      · replace hf := ie hf c11
        refine lv_aload_n hx hb dX8_runs_53 rfl (lv_at hl 0 rfl) ?_
        refine r_getr C0 hH fl_X8_28 g8 dX8_runs_54 ?_
        obtain ⟨z12, h12, hf⟩ := ob hf
        refine r_callVv (rest := []) C0 hH (c_X7_passOne Γ l Λ d q8 z12 h12) cv_X8_179 g9 (by decide) rfl hl.1 rfl (Nat.le_of_ble_eq_true rfl) dX8_runs_57 (by decide) (fun H locs hH => ?_)
        refine lv_iinc (v := (v4 + (1 : Int32))) (lv' := [(4, .int (v4 + (1 : Int32))), (0, .ref (ad Γ.2.2.1 p0)), (1, .int v1), (2, .int v2), (3, .int v3)]) hx hb dX8_runs_60 hl (k := 4) rfl (congrArg (fun w => v4 + w) (by decide)) (by decide) rfl (fun ls hl => ?_)
        refine lv_goto (tgt := 34) hx hb dX8_runs_63 (by decide) ?_
        exact ih v3 (v4 + (1 : Int32)) z12 hf _ _ _ hH (lv_sub hl [1, 2, 3, 4, 0] rfl)
      · replace hf := it hf c11
        refine lv_iinc (v := (v3 + (1 : Int32))) (lv' := [(3, .int (v3 + (1 : Int32))), (0, .ref (ad Γ.2.2.1 p0)), (1, .int v1), (2, .int v2), (4, .int v4)]) hx hb dX8_runs_50 hl (k := 3) rfl (congrArg (fun w => v3 + w) (by decide)) (by decide) rfl (fun ls hl => ?_)
        refine lv_aload_n hx hb dX8_runs_53 rfl (lv_at hl 1 rfl) ?_
        refine r_getr C0 hH fl_X8_28 g8 dX8_runs_54 ?_
        obtain ⟨z13, h13, hf⟩ := ob hf
        refine r_callVv (rest := []) C0 hH (c_X7_passOne Γ l Λ d q8 z13 h13) cv_X8_179 g9 (by decide) rfl hl.1 rfl (Nat.le_of_ble_eq_true rfl) dX8_runs_57 (by decide) (fun H locs hH => ?_)
        refine lv_iinc (v := (v4 + (1 : Int32))) (lv' := [(4, .int (v4 + (1 : Int32))), (3, .int (v3 + (1 : Int32))), (0, .ref (ad Γ.2.2.1 p0)), (1, .int v1), (2, .int v2)]) hx hb dX8_runs_60 hl (k := 4) rfl (congrArg (fun w => v4 + w) (by decide)) (by decide) rfl (fun ls hl => ?_)
        refine lv_goto (tgt := 34) hx hb dX8_runs_63 (by decide) ?_
        exact ih (v3 + (1 : Int32)) (v4 + (1 : Int32)) z13 hf _ _ _ hH (lv_sub hl [2, 3, 4, 1, 0] rfl)
set_option maxHeartbeats 4000000 in
set_option maxRecDepth 100000 in
theorem c_X8_runs (Γ : Cx) (l : Launch) (Λ : List Ly) (d : Dt) (p0 : Nat) (v1 : Int32) (v2 : Int32) (z : Int32 × Dt) (hf : f_X8_runs Λ d p0 v1 v2 = some z) : Cn Γ l yX8_runs cX8_runs 5 (some FieldType.int) 4 85 [.ref (ad Γ.2.2.1 p0), .int v1, .int v2] Λ d (some (.int z.1)) z.2 := by
  refine Cn.of (own := "SeasonBound") (by decide +kernel) rfl (Nat.le_of_ble_eq_true rfl) ?_
  intro p e s m below meth c C0 hr hlocks hH ls hl
  have hl : lv_has ls 5 [(0, .ref (ad Γ.2.2.1 p0)), (1, .int v1), (2, .int v2)] := hl
  obtain ⟨hx, hb, hml, hown, hts, hK⟩ := id C0
  unfold f_X8_runs at hf
  refine lv_iload_n hx hb dX8_runs_0 rfl (lv_at hl 1 rfl) ?_
  refine r_callSi (rest := []) C0 hH (c_X8_isRun Γ l Λ d v1) cs_X8_176 (by decide) rfl hl.1 rfl (Nat.le_of_ble_eq_true rfl) dX8_runs_1 (by decide) (fun H locs hH => ?_)
  refine lv_if_eq (tgt := 16) hx hb dX8_runs_4 (by decide) (fun c1 => ?_) (fun c1 => ?_)
  · replace hf := it hf c1
    refine lv_iconst (v := (-1 : Int32)) hx hb dX8_runs_16 (by decide) ?_
    obtain rfl := Option.some.inj hf
    exact r_iret (d' := d) C0 hr hlocks hH rfl dX8_runs_17
  · replace hf := ie hf c1
    refine lv_iload_n hx hb dX8_runs_7 rfl (lv_at hl 2 rfl) ?_
    refine lv_iconst (v := (0 : Int32)) hx hb dX8_runs_8 (by decide) ?_
    refine lv_iconst (v := (4 : Int32)) hx hb dX8_runs_9 (by decide) ?_
    refine r_callSi (rest := []) C0 hH (c_X8_within Γ l Λ d v2 (0 : Int32) (4 : Int32)) cs_X8_60 (by decide) rfl hl.1 rfl (Nat.le_of_ble_eq_true rfl) dX8_runs_10 (by decide) (fun H locs hH => ?_)
    refine lv_if_ne (tgt := 18) hx hb dX8_runs_13 (by decide) (fun c2 => ?_) (fun c2 => ?_)
    · replace hf := ie hf c2
      refine lv_aload_n hx hb dX8_runs_18 rfl (lv_at hl 0 rfl) ?_
      obtain ⟨q3, g3, hf⟩ := ob hf
      refine r_getr C0 hH fl_X8_28 g3 dX8_runs_19 ?_
      refine lv_aload_n hx hb dX8_runs_22 rfl (lv_at hl 0 rfl) ?_
      obtain ⟨q4, g4, hf⟩ := ob hf
      refine r_getr C0 hH fl_X8_24 g4 dX8_runs_23 ?_
      obtain ⟨g5, hf⟩ := gd hf
      obtain ⟨z6, h6, hf⟩ := ob hf
      refine r_callVv (rest := []) C0 hH (c_X7_copy Γ l Λ d q3 q4 z6 h6) cv_X8_87 g5 (by decide) rfl hl.1 rfl (Nat.le_of_ble_eq_true rfl) dX8_runs_26 (by decide) (fun H locs hH => ?_)
      refine lv_iconst (v := (0 : Int32)) hx hb dX8_runs_29 (by decide) ?_
      refine lv_istore_n (lv' := [(3, .int (0 : Int32)), (0, .ref (ad Γ.2.2.1 p0)), (1, .int v1), (2, .int v2)]) hx hb dX8_runs_30 rfl hl (by decide) rfl (fun ls hl => ?_)
      refine lv_iconst (v := (0 : Int32)) hx hb dX8_runs_31 (by decide) ?_
      refine lv_istore (lv' := [(4, .int (0 : Int32)), (3, .int (0 : Int32)), (0, .ref (ad Γ.2.2.1 p0)), (1, .int v1), (2, .int v2)]) hx hb dX8_runs_32 hl (by decide) rfl (fun ls hl => ?_)
      refine w_X8_runs_L34 C0 hr hlocks _ p0 v1 v2 ?k66 FU (0 : Int32) (0 : Int32) z6 hf _ _ _ hH (lv_sub hl [2, 3, 4, 1, 0] rfl)
      case k66 =>
        intro x14_3 x14_4 d14 hf H locs ls hH hl
        refine lv_iload_n hx hb dX8_runs_66 rfl (lv_at hl 2 rfl) ?_
        by_cases c15 : v2 = (0 : Int32)
        · replace hf := it hf c15
          refine lv_tableIn (off := 29) (tgt := 96) hx hb dX8_runs_67 (by rw [c15]; decide) (by rw [c15]; decide) (by rw [c15]; rfl) (by decide) ?_
          refine lv_aload_n hx hb dX8_runs_96 rfl (lv_at hl 0 rfl) ?_
          refine r_getr C0 hH fl_X8_28 g3 dX8_runs_97 ?_
          obtain ⟨z16, h16, hf⟩ := ob hf
          refine r_callVi (rest := []) C0 hH (c_X7_skillSum Γ l Λ d14 q3 z16 h16) cv_X8_105 g5 (by decide) rfl hl.1 rfl (Nat.le_of_ble_eq_true rfl) dX8_runs_100 (by decide) (fun H locs hH => ?_)
          obtain rfl := Option.some.inj hf
          exact r_iret (d' := d) C0 hr hlocks hH rfl dX8_runs_103
        · replace hf := ie hf c15
          by_cases c17 : v2 = (1 : Int32)
          · replace hf := it hf c17
            refine lv_tableIn (off := 37) (tgt := 104) hx hb dX8_runs_67 (by rw [c17]; decide) (by rw [c17]; decide) (by rw [c17]; rfl) (by decide) ?_
            refine lv_aload_n hx hb dX8_runs_104 rfl (lv_at hl 0 rfl) ?_
            refine r_getr C0 hH fl_X8_28 g3 dX8_runs_105 ?_
            obtain ⟨z18, h18, hf⟩ := ob hf
            refine r_callVi (rest := []) C0 hH (c_X7_freeOnes Γ l Λ d14 q3 z18 h18) cv_X8_182 g5 (by decide) rfl hl.1 rfl (Nat.le_of_ble_eq_true rfl) dX8_runs_108 (by decide) (fun H locs hH => ?_)
            obtain rfl := Option.some.inj hf
            exact r_iret (d' := d) C0 hr hlocks hH rfl dX8_runs_111
          · replace hf := ie hf c17
            by_cases c19 : v2 = (2 : Int32)
            · replace hf := it hf c19
              refine lv_tableIn (off := 45) (tgt := 112) hx hb dX8_runs_67 (by rw [c19]; decide) (by rw [c19]; decide) (by rw [c19]; rfl) (by decide) ?_
              refine lv_iload_n hx hb dX8_runs_112 rfl (lv_at hl 3 rfl) ?_
              obtain rfl := Option.some.inj hf
              exact r_iret (d' := d) C0 hr hlocks hH rfl dX8_runs_113
            · replace hf := ie hf c19
              by_cases c20 : v2 = (3 : Int32)
              · replace hf := it hf c20
                refine lv_tableIn (off := 47) (tgt := 114) hx hb dX8_runs_67 (by rw [c20]; decide) (by rw [c20]; decide) (by rw [c20]; rfl) (by decide) ?_
                refine lv_aload_n hx hb dX8_runs_114 rfl (lv_at hl 0 rfl) ?_
                refine r_getr C0 hH fl_X8_28 g3 dX8_runs_115 ?_
                obtain ⟨z21, h21, hf⟩ := ob hf
                refine r_callVi (rest := []) C0 hH (c_X7_ageSum Γ l Λ d14 q3 z21 h21) cv_X8_185 g5 (by decide) rfl hl.1 rfl (Nat.le_of_ble_eq_true rfl) dX8_runs_118 (by decide) (fun H locs hH => ?_)
                obtain rfl := Option.some.inj hf
                exact r_iret (d' := d) C0 hr hlocks hH rfl dX8_runs_121
              · replace hf := ie hf c20
                refine lv_tableOut (tgt := 122) hx hb dX8_runs_67 (by have hc15 := lv_neT c15 (a := 0) (by decide); have hc17 := lv_neT c17 (a := 1) (by decide); have hc19 := lv_neT c19 (a := 2) (by decide); have hc20 := lv_neT c20 (a := 3) (by decide); omega) (by decide) ?_
                refine lv_aload_n hx hb dX8_runs_122 rfl (lv_at hl 0 rfl) ?_
                refine r_getr C0 hH fl_X8_28 g3 dX8_runs_123 ?_
                refine r_geti C0 hH fl_X8_95 g5 rfl dX8_runs_126 ?_
                obtain rfl := Option.some.inj hf
                exact r_iret (d' := d) C0 hr hlocks hH rfl dX8_runs_129
    · replace hf := it hf c2
      refine lv_iconst (v := (-1 : Int32)) hx hb dX8_runs_16 (by decide) ?_
      obtain rfl := Option.some.inj hf
      exact r_iret (d' := d) C0 hr hlocks hH rfl dX8_runs_17
theorem dX8_ahead_0 : decode cX8_ahead 0 = .ok (.aload_n 0, 1) := by decide +kernel
theorem dX8_ahead_1 : decode cX8_ahead 1 = .ok (.getfield 24, 3) := by decide +kernel
theorem dX8_ahead_4 : decode cX8_ahead 4 = .ok (.iload_n 1, 1) := by decide +kernel
theorem dX8_ahead_5 : decode cX8_ahead 5 = .ok (.invokevirtual 108, 3) := by decide +kernel
theorem dX8_ahead_8 : decode cX8_ahead 8 = .ok (.ifCond .eq 19, 3) := by decide +kernel
theorem dX8_ahead_11 : decode cX8_ahead 11 = .ok (.iload_n 2, 1) := by decide +kernel
theorem dX8_ahead_12 : decode cX8_ahead 12 = .ok (.invokestatic 176, 3) := by decide +kernel
theorem dX8_ahead_15 : decode cX8_ahead 15 = .ok (.ifCond .eq 12, 3) := by decide +kernel
theorem dX8_ahead_18 : decode cX8_ahead 18 = .ok (.iload_n 3, 1) := by decide +kernel
theorem dX8_ahead_19 : decode cX8_ahead 19 = .ok (.iconst 0, 1) := by decide +kernel
theorem dX8_ahead_20 : decode cX8_ahead 20 = .ok (.iconst 2, 1) := by decide +kernel
theorem dX8_ahead_21 : decode cX8_ahead 21 = .ok (.invokestatic 60, 3) := by decide +kernel
theorem dX8_ahead_24 : decode cX8_ahead 24 = .ok (.ifCond .ne 5, 3) := by decide +kernel
theorem dX8_ahead_27 : decode cX8_ahead 27 = .ok (.iconst (-1), 1) := by decide +kernel
theorem dX8_ahead_28 : decode cX8_ahead 28 = .ok (.ireturn, 1) := by decide +kernel
theorem dX8_ahead_29 : decode cX8_ahead 29 = .ok (.aload_n 0, 1) := by decide +kernel
theorem dX8_ahead_30 : decode cX8_ahead 30 = .ok (.getfield 28, 3) := by decide +kernel
theorem dX8_ahead_33 : decode cX8_ahead 33 = .ok (.aload_n 0, 1) := by decide +kernel
theorem dX8_ahead_34 : decode cX8_ahead 34 = .ok (.getfield 24, 3) := by decide +kernel
theorem dX8_ahead_37 : decode cX8_ahead 37 = .ok (.invokevirtual 87, 3) := by decide +kernel
theorem dX8_ahead_40 : decode cX8_ahead 40 = .ok (.aload_n 0, 1) := by decide +kernel
theorem dX8_ahead_41 : decode cX8_ahead 41 = .ok (.getfield 28, 3) := by decide +kernel
theorem dX8_ahead_44 : decode cX8_ahead 44 = .ok (.iload_n 2, 1) := by decide +kernel
theorem dX8_ahead_45 : decode cX8_ahead 45 = .ok (.invokevirtual 173, 3) := by decide +kernel
theorem dX8_ahead_48 : decode cX8_ahead 48 = .ok (.aload_n 0, 1) := by decide +kernel
theorem dX8_ahead_49 : decode cX8_ahead 49 = .ok (.getfield 28, 3) := by decide +kernel
theorem dX8_ahead_52 : decode cX8_ahead 52 = .ok (.getfield 112, 3) := by decide +kernel
theorem dX8_ahead_55 : decode cX8_ahead 55 = .ok (.iload_n 1, 1) := by decide +kernel
theorem dX8_ahead_56 : decode cX8_ahead 56 = .ok (.aaload, 1) := by decide +kernel
theorem dX8_ahead_57 : decode cX8_ahead 57 = .ok (.astore 4, 2) := by decide +kernel
theorem dX8_ahead_59 : decode cX8_ahead 59 = .ok (.iload_n 3, 1) := by decide +kernel
theorem dX8_ahead_60 : decode cX8_ahead 60 = .ok (.lookupswitch 40 #[(0, 28), (1, 34)], 28) := by decide +kernel
theorem dX8_ahead_88 : decode cX8_ahead 88 = .ok (.aload 4, 2) := by decide +kernel
theorem dX8_ahead_90 : decode cX8_ahead 90 = .ok (.getfield 131, 3) := by decide +kernel
theorem dX8_ahead_93 : decode cX8_ahead 93 = .ok (.ireturn, 1) := by decide +kernel
theorem dX8_ahead_94 : decode cX8_ahead 94 = .ok (.aload 4, 2) := by decide +kernel
theorem dX8_ahead_96 : decode cX8_ahead 96 = .ok (.getfield 134, 3) := by decide +kernel
theorem dX8_ahead_99 : decode cX8_ahead 99 = .ok (.ireturn, 1) := by decide +kernel
theorem dX8_ahead_100 : decode cX8_ahead 100 = .ok (.aload 4, 2) := by decide +kernel
theorem dX8_ahead_102 : decode cX8_ahead 102 = .ok (.getfield 128, 3) := by decide +kernel
theorem dX8_ahead_105 : decode cX8_ahead 105 = .ok (.ireturn, 1) := by decide +kernel
def f_X8_ahead (Λ : List Ly) (d : Dt) (p0 : Nat) (v1 : Int32) (v2 : Int32) (v3 : Int32) : Option (Int32 × Dt) := Option.bind (rf Λ p0 8 2) fun q1 => if clsAt Λ q1 = some 7 then (Option.bind (f_X7_has Λ d q1 v1) fun z3 => if z3 = 0 then (some ((-1 : Int32), d)) else (if (f_X8_isRun v2) = 0 then (some ((-1 : Int32), d)) else (if (f_X8_within v3 (0 : Int32) (2 : Int32)) = 0 then (some ((-1 : Int32), d)) else (Option.bind (rf Λ p0 8 3) fun q7 => if clsAt Λ q7 = some 7 then (Option.bind (f_X7_copy Λ d q7 q1) fun z9 => Option.bind (f_X7_pass Λ z9 q7 v2) fun z10 => Option.bind (rf Λ q7 7 1) fun q11 => Option.bind (ra Λ q11 4 v1) fun q12 => if v3 = (0 : Int32) then (if clsAt Λ q12 = some 1 then (some ((z10.1 q12 3), z10)) else none) else (if v3 = (1 : Int32) then (if clsAt Λ q12 = some 1 then (some ((z10.1 q12 4), z10)) else none) else (if clsAt Λ q12 = some 1 then (some ((z10.1 q12 2), z10)) else none))) else none)))) else none
set_option maxHeartbeats 4000000 in
set_option maxRecDepth 100000 in
theorem c_X8_ahead (Γ : Cx) (l : Launch) (Λ : List Ly) (d : Dt) (p0 : Nat) (v1 : Int32) (v2 : Int32) (v3 : Int32) (z : Int32 × Dt) (hf : f_X8_ahead Λ d p0 v1 v2 v3 = some z) : Cn Γ l yX8_ahead cX8_ahead 5 (some FieldType.int) 5 107 [.ref (ad Γ.2.2.1 p0), .int v1, .int v2, .int v3] Λ d (some (.int z.1)) z.2 := by
  refine Cn.of (own := "SeasonBound") (by decide +kernel) rfl (Nat.le_of_ble_eq_true rfl) ?_
  intro p e s m below meth c C0 hr hlocks hH ls hl
  have hl : lv_has ls 5 [(0, .ref (ad Γ.2.2.1 p0)), (1, .int v1), (2, .int v2), (3, .int v3)] := hl
  obtain ⟨hx, hb, hml, hown, hts, hK⟩ := id C0
  unfold f_X8_ahead at hf
  refine lv_aload_n hx hb dX8_ahead_0 rfl (lv_at hl 0 rfl) ?_
  obtain ⟨q1, g1, hf⟩ := ob hf
  refine r_getr C0 hH fl_X8_24 g1 dX8_ahead_1 ?_
  refine lv_iload_n hx hb dX8_ahead_4 rfl (lv_at hl 1 rfl) ?_
  obtain ⟨g2, hf⟩ := gd hf
  obtain ⟨z3, h3, hf⟩ := ob hf
  refine r_callVi (rest := []) C0 hH (c_X7_has Γ l Λ d q1 v1 z3 h3) cv_X8_108 g2 (by decide) rfl hl.1 rfl (Nat.le_of_ble_eq_true rfl) dX8_ahead_5 (by decide) (fun H locs hH => ?_)
  refine lv_if_eq (tgt := 27) hx hb dX8_ahead_8 (by decide) (fun c4 => ?_) (fun c4 => ?_)
  · replace hf := it hf c4
    refine lv_iconst (v := (-1 : Int32)) hx hb dX8_ahead_27 (by decide) ?_
    obtain rfl := Option.some.inj hf
    exact r_iret (d' := d) C0 hr hlocks hH rfl dX8_ahead_28
  · replace hf := ie hf c4
    refine lv_iload_n hx hb dX8_ahead_11 rfl (lv_at hl 2 rfl) ?_
    refine r_callSi (rest := []) C0 hH (c_X8_isRun Γ l Λ d v2) cs_X8_176 (by decide) rfl hl.1 rfl (Nat.le_of_ble_eq_true rfl) dX8_ahead_12 (by decide) (fun H locs hH => ?_)
    refine lv_if_eq (tgt := 27) hx hb dX8_ahead_15 (by decide) (fun c5 => ?_) (fun c5 => ?_)
    · replace hf := it hf c5
      refine lv_iconst (v := (-1 : Int32)) hx hb dX8_ahead_27 (by decide) ?_
      obtain rfl := Option.some.inj hf
      exact r_iret (d' := d) C0 hr hlocks hH rfl dX8_ahead_28
    · replace hf := ie hf c5
      refine lv_iload_n hx hb dX8_ahead_18 rfl (lv_at hl 3 rfl) ?_
      refine lv_iconst (v := (0 : Int32)) hx hb dX8_ahead_19 (by decide) ?_
      refine lv_iconst (v := (2 : Int32)) hx hb dX8_ahead_20 (by decide) ?_
      refine r_callSi (rest := []) C0 hH (c_X8_within Γ l Λ d v3 (0 : Int32) (2 : Int32)) cs_X8_60 (by decide) rfl hl.1 rfl (Nat.le_of_ble_eq_true rfl) dX8_ahead_21 (by decide) (fun H locs hH => ?_)
      refine lv_if_ne (tgt := 29) hx hb dX8_ahead_24 (by decide) (fun c6 => ?_) (fun c6 => ?_)
      · replace hf := ie hf c6
        refine lv_aload_n hx hb dX8_ahead_29 rfl (lv_at hl 0 rfl) ?_
        obtain ⟨q7, g7, hf⟩ := ob hf
        refine r_getr C0 hH fl_X8_28 g7 dX8_ahead_30 ?_
        refine lv_aload_n hx hb dX8_ahead_33 rfl (lv_at hl 0 rfl) ?_
        refine r_getr C0 hH fl_X8_24 g1 dX8_ahead_34 ?_
        obtain ⟨g8, hf⟩ := gd hf
        obtain ⟨z9, h9, hf⟩ := ob hf
        refine r_callVv (rest := []) C0 hH (c_X7_copy Γ l Λ d q7 q1 z9 h9) cv_X8_87 g8 (by decide) rfl hl.1 rfl (Nat.le_of_ble_eq_true rfl) dX8_ahead_37 (by decide) (fun H locs hH => ?_)
        refine lv_aload_n hx hb dX8_ahead_40 rfl (lv_at hl 0 rfl) ?_
        refine r_getr C0 hH fl_X8_28 g7 dX8_ahead_41 ?_
        refine lv_iload_n hx hb dX8_ahead_44 rfl (lv_at hl 2 rfl) ?_
        obtain ⟨z10, h10, hf⟩ := ob hf
        refine r_callVv (rest := []) C0 hH (c_X7_pass Γ l Λ z9 q7 v2 z10 h10) cv_X8_173 g8 (by decide) rfl hl.1 rfl (Nat.le_of_ble_eq_true rfl) dX8_ahead_45 (by decide) (fun H locs hH => ?_)
        refine lv_aload_n hx hb dX8_ahead_48 rfl (lv_at hl 0 rfl) ?_
        refine r_getr C0 hH fl_X8_28 g7 dX8_ahead_49 ?_
        obtain ⟨q11, g11, hf⟩ := ob hf
        refine r_getr C0 hH fl_X8_112 g11 dX8_ahead_52 ?_
        refine lv_iload_n hx hb dX8_ahead_55 rfl (lv_at hl 1 rfl) ?_
        obtain ⟨q12, g12, hf⟩ := ob hf
        refine r_aald (C := "SeasonBound$Child") C0 hH g12 (by decide) rfl dX8_ahead_56 ?_
        refine lv_astore (lv' := [(4, .ref (ad Γ.2.2.1 q12)), (0, .ref (ad Γ.2.2.1 p0)), (1, .int v1), (2, .int v2), (3, .int v3)]) hx hb dX8_ahead_57 hl (by decide) rfl (fun ls hl => ?_)
        refine lv_iload_n hx hb dX8_ahead_59 rfl (lv_at hl 4 rfl) ?_
        by_cases c13 : v3 = (0 : Int32)
        · replace hf := it hf c13
          refine lv_lookup (off := 28) (tgt := 88) hx hb dX8_ahead_60 (by decide) (by rw [c13]; rfl) (by decide) ?_
          refine lv_aload hx hb dX8_ahead_88 (lv_at hl 0 rfl) ?_
          obtain ⟨g14, hf⟩ := gd hf
          refine r_geti C0 hH fl_X8_131 g14 rfl dX8_ahead_90 ?_
          obtain rfl := Option.some.inj hf
          exact r_iret (d' := d) C0 hr hlocks hH rfl dX8_ahead_93
        · replace hf := ie hf c13
          by_cases c15 : v3 = (1 : Int32)
          · replace hf := it hf c15
            refine lv_lookup (off := 34) (tgt := 94) hx hb dX8_ahead_60 (by decide) (by rw [c15]; rfl) (by decide) ?_
            refine lv_aload hx hb dX8_ahead_94 (lv_at hl 0 rfl) ?_
            obtain ⟨g16, hf⟩ := gd hf
            refine r_geti C0 hH fl_X8_134 g16 rfl dX8_ahead_96 ?_
            obtain rfl := Option.some.inj hf
            exact r_iret (d' := d) C0 hr hlocks hH rfl dX8_ahead_99
          · replace hf := ie hf c15
            refine lv_lookup (off := 40) (tgt := 100) hx hb dX8_ahead_60 (by decide) (by show Op.lookupswitch.offset [(0, 28), (1, 34)] _ _ = _; rw [lv_osw c13 (by decide), lv_osw c15 (by decide)]; rfl) (by decide) ?_
            refine lv_aload hx hb dX8_ahead_100 (lv_at hl 0 rfl) ?_
            obtain ⟨g17, hf⟩ := gd hf
            refine r_geti C0 hH fl_X8_128 g17 rfl dX8_ahead_102 ?_
            obtain rfl := Option.some.inj hf
            exact r_iret (d' := d) C0 hr hlocks hH rfl dX8_ahead_105
      · replace hf := it hf c6
        refine lv_iconst (v := (-1 : Int32)) hx hb dX8_ahead_27 (by decide) ?_
        obtain rfl := Option.some.inj hf
        exact r_iret (d' := d) C0 hr hlocks hH rfl dX8_ahead_28
