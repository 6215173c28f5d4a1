theorem dX0_seekAbove_0 : decode cX0_seekAbove 0 = .ok (.aload_n 0, 1) := by decide +kernel
theorem dX0_seekAbove_1 : decode cX0_seekAbove 1 = .ok (.bipush (-4), 2) := by decide +kernel
theorem dX0_seekAbove_3 : decode cX0_seekAbove 3 = .ok (.putfield 9, 3) := by decide +kernel
theorem dX0_seekAbove_6 : decode cX0_seekAbove 6 = .ok (.aload_n 0, 1) := by decide +kernel
theorem dX0_seekAbove_7 : decode cX0_seekAbove 7 = .ok (.iload_n 1, 1) := by decide +kernel
theorem dX0_seekAbove_8 : decode cX0_seekAbove 8 = .ok (.putfield 15, 3) := by decide +kernel
theorem dX0_seekAbove_11 : decode cX0_seekAbove 11 = .ok (.return_, 1) := by decide +kernel
def f_X0_seekAbove (Λ : List Ly) (d : Dt) (p0 : Nat) (v1 : Int32) : Option Dt := if clsAt Λ p0 = some 0 then (some (pI (pI d p0 0 (-4 : Int32)) p0 1 v1)) else none
set_option maxHeartbeats 4000000 in
set_option maxRecDepth 100000 in
theorem c_X0_seekAbove (Γ : Cx) (l : Launch) (Λ : List Ly) (d : Dt) (p0 : Nat) (v1 : Int32) (z : Dt) (hf : f_X0_seekAbove Λ d p0 v1 = some z) : Cn Γ l yX0_seekAbove cX0_seekAbove 2 none 0 0 [.ref (ad Γ.2.2.1 p0), .int v1] Λ d none z := by
  refine Cn.of (own := "SeasonBound$Best") (by decide +kernel) rfl (Nat.le_of_ble_eq_true rfl) ?_
  intro p e s m below meth c C0 hr hlocks hH ls hl
  have hl : lv_has ls 2 [(0, .ref (ad Γ.2.2.1 p0)), (1, .int v1)] := hl
  obtain ⟨hx, hb, hml, hown, hts, hK⟩ := id C0
  unfold f_X0_seekAbove at hf
  refine lv_aload_n hx hb dX0_seekAbove_0 rfl (lv_at hl 0 rfl) ?_
  refine lv_bipush (v := (-4 : Int32)) hx hb dX0_seekAbove_1 (by decide) ?_
  obtain ⟨g1, hf⟩ := gd hf
  refine r_puti C0 hH fw_X0_9 g1 rfl dX0_seekAbove_3 (fun H locs hH => ?_)
  refine lv_aload_n hx hb dX0_seekAbove_6 rfl (lv_at hl 0 rfl) ?_
  refine lv_iload_n hx hb dX0_seekAbove_7 rfl (lv_at hl 1 rfl) ?_
  refine r_puti C0 hH fw_X0_15 g1 rfl dX0_seekAbove_8 (fun H locs hH => ?_)
  obtain rfl := Option.some.inj hf
  exact r_vret C0 hr hlocks hH dX0_seekAbove_11
theorem dX0_offer_0 : decode cX0_offer 0 = .ok (.iload_n 2, 1) := by decide +kernel
theorem dX0_offer_1 : decode cX0_offer 1 = .ok (.aload_n 0, 1) := by decide +kernel
theorem dX0_offer_2 : decode cX0_offer 2 = .ok (.getfield 15, 3) := by decide +kernel
theorem dX0_offer_5 : decode cX0_offer 5 = .ok (.if_icmp .le 13, 3) := by decide +kernel
theorem dX0_offer_8 : decode cX0_offer 8 = .ok (.aload_n 0, 1) := by decide +kernel
theorem dX0_offer_9 : decode cX0_offer 9 = .ok (.iload_n 1, 1) := by decide +kernel
theorem dX0_offer_10 : decode cX0_offer 10 = .ok (.putfield 9, 3) := by decide +kernel
theorem dX0_offer_13 : decode cX0_offer 13 = .ok (.aload_n 0, 1) := by decide +kernel
theorem dX0_offer_14 : decode cX0_offer 14 = .ok (.iload_n 2, 1) := by decide +kernel
theorem dX0_offer_15 : decode cX0_offer 15 = .ok (.putfield 15, 3) := by decide +kernel
theorem dX0_offer_18 : decode cX0_offer 18 = .ok (.return_, 1) := by decide +kernel
def f_X0_offer (Λ : List Ly) (d : Dt) (p0 : Nat) (v1 : Int32) (v2 : Int32) : Option Dt := if clsAt Λ p0 = some 0 then (if v2 ≤ (d.1 p0 1) then (some d) else (some (pI (pI d p0 0 v1) p0 1 v2))) else none
set_option maxHeartbeats 4000000 in
set_option maxRecDepth 100000 in
theorem c_X0_offer (Γ : Cx) (l : Launch) (Λ : List Ly) (d : Dt) (p0 : Nat) (v1 : Int32) (v2 : Int32) (z : Dt) (hf : f_X0_offer Λ d p0 v1 v2 = some z) : Cn Γ l yX0_offer cX0_offer 3 none 0 0 [.ref (ad Γ.2.2.1 p0), .int v1, .int v2] Λ d none z := by
  refine Cn.of (own := "SeasonBound$Best") (by decide +kernel) rfl (Nat.le_of_ble_eq_true rfl) ?_
  intro p e s m below meth c C0 hr hlocks hH ls hl
  have hl : lv_has ls 3 [(0, .ref (ad Γ.2.2.1 p0)), (1, .int v1), (2, .int v2)] := hl
  obtain ⟨hx, hb, hml, hown, hts, hK⟩ := id C0
  unfold f_X0_offer at hf
  refine lv_iload_n hx hb dX0_offer_0 rfl (lv_at hl 2 rfl) ?_
  refine lv_aload_n hx hb dX0_offer_1 rfl (lv_at hl 0 rfl) ?_
  obtain ⟨g1, hf⟩ := gd hf
  refine r_geti C0 hH fl_X0_15 g1 rfl dX0_offer_2 ?_
  refine lv_icmp_le (tgt := 18) hx hb dX0_offer_5 (by decide) (fun c2 => ?_) (fun c2 => ?_)
  · replace hf := it hf c2
    obtain rfl := Option.some.inj hf
    exact r_vret C0 hr hlocks hH dX0_offer_18
  · replace hf := ie hf c2
    refine lv_aload_n hx hb dX0_offer_8 rfl (lv_at hl 0 rfl) ?_
    refine lv_iload_n hx hb dX0_offer_9 rfl (lv_at hl 1 rfl) ?_
    refine r_puti C0 hH fw_X0_9 g1 rfl dX0_offer_10 (fun H locs hH => ?_)
    refine lv_aload_n hx hb dX0_offer_13 rfl (lv_at hl 0 rfl) ?_
    refine lv_iload_n hx hb dX0_offer_14 rfl (lv_at hl 2 rfl) ?_
    refine r_puti C0 hH fw_X0_15 g1 rfl dX0_offer_15 (fun H locs hH => ?_)
    obtain rfl := Option.some.inj hf
    exact r_vret C0 hr hlocks hH dX0_offer_18
theorem dX0_told_0 : decode cX0_told 0 = .ok (.aload_n 0, 1) := by decide +kernel
theorem dX0_told_1 : decode cX0_told 1 = .ok (.getfield 9, 3) := by decide +kernel
theorem dX0_told_4 : decode cX0_told 4 = .ok (.bipush (-4), 2) := by decide +kernel
theorem dX0_told_6 : decode cX0_told 6 = .ok (.if_icmp .eq 7, 3) := by decide +kernel
theorem dX0_told_9 : decode cX0_told 9 = .ok (.iload_n 1, 1) := by decide +kernel
theorem dX0_told_10 : decode cX0_told 10 = .ok (.ifCond .ne 10, 3) := by decide +kernel
theorem dX0_told_13 : decode cX0_told 13 = .ok (.aload_n 0, 1) := by decide +kernel
theorem dX0_told_14 : decode cX0_told 14 = .ok (.getfield 9, 3) := by decide +kernel
theorem dX0_told_17 : decode cX0_told 17 = .ok (.goto 7, 3) := by decide +kernel
theorem dX0_told_20 : decode cX0_told 20 = .ok (.aload_n 0, 1) := by decide +kernel
theorem dX0_told_21 : decode cX0_told 21 = .ok (.getfield 15, 3) := by decide +kernel
theorem dX0_told_24 : decode cX0_told 24 = .ok (.ireturn, 1) := by decide +kernel
def f_X0_told (Λ : List Ly) (d : Dt) (p0 : Nat) (v1 : Int32) : Option Int32 := if clsAt Λ p0 = some 0 then (if (d.1 p0 0) = (-4 : Int32) then (some (d.1 p0 0)) else (if v1 = 0 then (some (d.1 p0 0)) else (some (d.1 p0 1)))) else none
set_option maxHeartbeats 4000000 in
set_option maxRecDepth 100000 in
theorem c_X0_told (Γ : Cx) (l : Launch) (Λ : List Ly) (d : Dt) (p0 : Nat) (v1 : Int32) (z : Int32) (hf : f_X0_told Λ d p0 v1 = some z) : Cn Γ l yX0_told cX0_told 2 (some FieldType.int) 0 0 [.ref (ad Γ.2.2.1 p0), .int v1] Λ d (some (.int z)) d := by
  refine Cn.of (own := "SeasonBound$Best") (by decide +kernel) rfl (Nat.le_of_ble_eq_true rfl) ?_
  intro p e s m below meth c C0 hr hlocks hH ls hl
  have hl : lv_has ls 2 [(0, .ref (ad Γ.2.2.1 p0)), (1, .int v1)] := hl
  obtain ⟨hx, hb, hml, hown, hts, hK⟩ := id C0
  unfold f_X0_told at hf
  refine lv_aload_n hx hb dX0_told_0 rfl (lv_at hl 0 rfl) ?_
  obtain ⟨g1, hf⟩ := gd hf
  refine r_geti C0 hH fl_X0_9 g1 rfl dX0_told_1 ?_
  refine lv_bipush (v := (-4 : Int32)) hx hb dX0_told_4 (by decide) ?_
  refine lv_icmp_eq (tgt := 13) hx hb dX0_told_6 (by decide) (fun c2 => ?_) (fun c2 => ?_)
  · replace hf := it hf c2
    refine lv_aload_n hx hb dX0_told_13 rfl (lv_at hl 0 rfl) ?_
    refine r_geti C0 hH fl_X0_9 g1 rfl dX0_told_14 ?_
    refine lv_goto (tgt := 24) hx hb dX0_told_17 (by decide) ?_
    obtain rfl := Option.some.inj hf
    exact r_iret (d' := d) C0 hr hlocks hH rfl dX0_told_24
  · replace hf := ie hf c2
    refine lv_iload_n hx hb dX0_told_9 rfl (lv_at hl 1 rfl) ?_
    refine lv_if_ne (tgt := 20) hx hb dX0_told_10 (by decide) (fun c3 => ?_) (fun c3 => ?_)
    · replace hf := ie hf c3
      refine lv_aload_n hx hb dX0_told_20 rfl (lv_at hl 0 rfl) ?_
      refine r_geti C0 hH fl_X0_15 g1 rfl dX0_told_21 ?_
      obtain rfl := Option.some.inj hf
      exact r_iret (d' := d) C0 hr hlocks hH rfl dX0_told_24
    · replace hf := it hf c3
      refine lv_aload_n hx hb dX0_told_13 rfl (lv_at hl 0 rfl) ?_
      refine r_geti C0 hH fl_X0_9 g1 rfl dX0_told_14 ?_
      refine lv_goto (tgt := 24) hx hb dX0_told_17 (by decide) ?_
      obtain rfl := Option.some.inj hf
      exact r_iret (d' := d) C0 hr hlocks hH rfl dX0_told_24
theorem dX1_renew_0 : decode cX1_renew 0 = .ok (.aload_n 0, 1) := by decide +kernel
theorem dX1_renew_1 : decode cX1_renew 1 = .ok (.iload_n 1, 1) := by decide +kernel
theorem dX1_renew_2 : decode cX1_renew 2 = .ok (.putfield 9, 3) := by decide +kernel
theorem dX1_renew_5 : decode cX1_renew 5 = .ok (.aload_n 0, 1) := by decide +kernel
theorem dX1_renew_6 : decode cX1_renew 6 = .ok (.iconst 0, 1) := by decide +kernel
theorem dX1_renew_7 : decode cX1_renew 7 = .ok (.putfield 15, 3) := by decide +kernel
theorem dX1_renew_10 : decode cX1_renew 10 = .ok (.aload_n 0, 1) := by decide +kernel
theorem dX1_renew_11 : decode cX1_renew 11 = .ok (.iconst 0, 1) := by decide +kernel
theorem dX1_renew_12 : decode cX1_renew 12 = .ok (.putfield 18, 3) := by decide +kernel
theorem dX1_renew_15 : decode cX1_renew 15 = .ok (.aload_n 0, 1) := by decide +kernel
theorem dX1_renew_16 : decode cX1_renew 16 = .ok (.iconst 0, 1) := by decide +kernel
theorem dX1_renew_17 : decode cX1_renew 17 = .ok (.putfield 21, 3) := by decide +kernel
theorem dX1_renew_20 : decode cX1_renew 20 = .ok (.aload_n 0, 1) := by decide +kernel
theorem dX1_renew_21 : decode cX1_renew 21 = .ok (.iconst 0, 1) := by decide +kernel
theorem dX1_renew_22 : decode cX1_renew 22 = .ok (.putfield 24, 3) := by decide +kernel
theorem dX1_renew_25 : decode cX1_renew 25 = .ok (.return_, 1) := by decide +kernel
def f_X1_renew (Λ : List Ly) (d : Dt) (p0 : Nat) (v1 : Int32) : Option Dt := if clsAt Λ p0 = some 1 then (some (pI (pI (pI (pI (pI d p0 0 v1) p0 1 (0 : Int32)) p0 2 (0 : Int32)) p0 3 (0 : Int32)) p0 4 (0 : Int32))) else none
set_option maxHeartbeats 4000000 in
set_option maxRecDepth 100000 in
theorem c_X1_renew (Γ : Cx) (l : Launch) (Λ : List Ly) (d : Dt) (p0 : Nat) (v1 : Int32) (z : Dt) (hf : f_X1_renew Λ d p0 v1 = some z) : Cn Γ l yX1_renew cX1_renew 2 none 0 0 [.ref (ad Γ.2.2.1 p0), .int v1] Λ d none z := by
  refine Cn.of (own := "SeasonBound$Child") (by decide +kernel) rfl (Nat.le_of_ble_eq_true rfl) ?_
  intro p e s m below meth c C0 hr hlocks hH ls hl
  have hl : lv_has ls 2 [(0, .ref (ad Γ.2.2.1 p0)), (1, .int v1)] := hl
  obtain ⟨hx, hb, hml, hown, hts, hK⟩ := id C0
  unfold f_X1_renew at hf
  refine lv_aload_n hx hb dX1_renew_0 rfl (lv_at hl 0 rfl) ?_
  refine lv_iload_n hx hb dX1_renew_1 rfl (lv_at hl 1 rfl) ?_
  obtain ⟨g1, hf⟩ := gd hf
  refine r_puti C0 hH fw_X1_9 g1 rfl dX1_renew_2 (fun H locs hH => ?_)
  refine lv_aload_n hx hb dX1_renew_5 rfl (lv_at hl 0 rfl) ?_
  refine lv_iconst (v := (0 : Int32)) hx hb dX1_renew_6 (by decide) ?_
  refine r_puti C0 hH fw_X1_15 g1 rfl dX1_renew_7 (fun H locs hH => ?_)
  refine lv_aload_n hx hb dX1_renew_10 rfl (lv_at hl 0 rfl) ?_
  refine lv_iconst (v := (0 : Int32)) hx hb dX1_renew_11 (by decide) ?_
  refine r_puti C0 hH fw_X1_18 g1 rfl dX1_renew_12 (fun H locs hH => ?_)
  refine lv_aload_n hx hb dX1_renew_15 rfl (lv_at hl 0 rfl) ?_
  refine lv_iconst (v := (0 : Int32)) hx hb dX1_renew_16 (by decide) ?_
  refine r_puti C0 hH fw_X1_21 g1 rfl dX1_renew_17 (fun H locs hH => ?_)
  refine lv_aload_n hx hb dX1_renew_20 rfl (lv_at hl 0 rfl) ?_
  refine lv_iconst (v := (0 : Int32)) hx hb dX1_renew_21 (by decide) ?_
  refine r_puti C0 hH fw_X1_24 g1 rfl dX1_renew_22 (fun H locs hH => ?_)
  obtain rfl := Option.some.inj hf
  exact r_vret C0 hr hlocks hH dX1_renew_25
theorem dX1_copy_0 : decode cX1_copy 0 = .ok (.aload_n 0, 1) := by decide +kernel
theorem dX1_copy_1 : decode cX1_copy 1 = .ok (.aload_n 1, 1) := by decide +kernel
theorem dX1_copy_2 : decode cX1_copy 2 = .ok (.getfield 9, 3) := by decide +kernel
theorem dX1_copy_5 : decode cX1_copy 5 = .ok (.putfield 9, 3) := by decide +kernel
theorem dX1_copy_8 : decode cX1_copy 8 = .ok (.aload_n 0, 1) := by decide +kernel
theorem dX1_copy_9 : decode cX1_copy 9 = .ok (.aload_n 1, 1) := by decide +kernel
theorem dX1_copy_10 : decode cX1_copy 10 = .ok (.getfield 15, 3) := by decide +kernel
theorem dX1_copy_13 : decode cX1_copy 13 = .ok (.putfield 15, 3) := by decide +kernel
theorem dX1_copy_16 : decode cX1_copy 16 = .ok (.aload_n 0, 1) := by decide +kernel
theorem dX1_copy_17 : decode cX1_copy 17 = .ok (.aload_n 1, 1) := by decide +kernel
theorem dX1_copy_18 : decode cX1_copy 18 = .ok (.getfield 18, 3) := by decide +kernel
theorem dX1_copy_21 : decode cX1_copy 21 = .ok (.putfield 18, 3) := by decide +kernel
theorem dX1_copy_24 : decode cX1_copy 24 = .ok (.aload_n 0, 1) := by decide +kernel
theorem dX1_copy_25 : decode cX1_copy 25 = .ok (.aload_n 1, 1) := by decide +kernel
theorem dX1_copy_26 : decode cX1_copy 26 = .ok (.getfield 21, 3) := by decide +kernel
theorem dX1_copy_29 : decode cX1_copy 29 = .ok (.putfield 21, 3) := by decide +kernel
theorem dX1_copy_32 : decode cX1_copy 32 = .ok (.aload_n 0, 1) := by decide +kernel
theorem dX1_copy_33 : decode cX1_copy 33 = .ok (.aload_n 1, 1) := by decide +kernel
theorem dX1_copy_34 : decode cX1_copy 34 = .ok (.getfield 24, 3) := by decide +kernel
theorem dX1_copy_37 : decode cX1_copy 37 = .ok (.putfield 24, 3) := by decide +kernel
theorem dX1_copy_40 : decode cX1_copy 40 = .ok (.return_, 1) := by decide +kernel
def f_X1_copy (Λ : List Ly) (d : Dt) (p0 : Nat) (p1 : Nat) : Option Dt := if clsAt Λ p1 = some 1 then (if clsAt Λ p0 = some 1 then (some (pI (pI (pI (pI (pI d p0 0 (d.1 p1 0)) p0 1 ((pI d p0 0 (d.1 p1 0)).1 p1 1)) p0 2 ((pI (pI d p0 0 (d.1 p1 0)) p0 1 ((pI d p0 0 (d.1 p1 0)).1 p1 1)).1 p1 2)) p0 3 ((pI (pI (pI d p0 0 (d.1 p1 0)) p0 1 ((pI d p0 0 (d.1 p1 0)).1 p1 1)) p0 2 ((pI (pI d p0 0 (d.1 p1 0)) p0 1 ((pI d p0 0 (d.1 p1 0)).1 p1 1)).1 p1 2)).1 p1 3)) p0 4 ((pI (pI (pI (pI d p0 0 (d.1 p1 0)) p0 1 ((pI d p0 0 (d.1 p1 0)).1 p1 1)) p0 2 ((pI (pI d p0 0 (d.1 p1 0)) p0 1 ((pI d p0 0 (d.1 p1 0)).1 p1 1)).1 p1 2)) p0 3 ((pI (pI (pI d p0 0 (d.1 p1 0)) p0 1 ((pI d p0 0 (d.1 p1 0)).1 p1 1)) p0 2 ((pI (pI d p0 0 (d.1 p1 0)) p0 1 ((pI d p0 0 (d.1 p1 0)).1 p1 1)).1 p1 2)).1 p1 3)).1 p1 4))) else none) else none
set_option maxHeartbeats 4000000 in
set_option maxRecDepth 100000 in
theorem c_X1_copy (Γ : Cx) (l : Launch) (Λ : List Ly) (d : Dt) (p0 : Nat) (p1 : Nat) (z : Dt) (hf : f_X1_copy Λ d p0 p1 = some z) : Cn Γ l yX1_copy cX1_copy 2 none 0 0 [.ref (ad Γ.2.2.1 p0), .ref (ad Γ.2.2.1 p1)] Λ d none z := by
  refine Cn.of (own := "SeasonBound$Child") (by decide +kernel) rfl (Nat.le_of_ble_eq_true rfl) ?_
  intro p e s m below meth c C0 hr hlocks hH ls hl
  have hl : lv_has ls 2 [(0, .ref (ad Γ.2.2.1 p0)), (1, .ref (ad Γ.2.2.1 p1))] := hl
  obtain ⟨hx, hb, hml, hown, hts, hK⟩ := id C0
  unfold f_X1_copy at hf
  refine lv_aload_n hx hb dX1_copy_0 rfl (lv_at hl 0 rfl) ?_
  refine lv_aload_n hx hb dX1_copy_1 rfl (lv_at hl 1 rfl) ?_
  obtain ⟨g1, hf⟩ := gd hf
  refine r_geti C0 hH fl_X1_9 g1 rfl dX1_copy_2 ?_
  obtain ⟨g2, hf⟩ := gd hf
  refine r_puti C0 hH fw_X1_9 g2 rfl dX1_copy_5 (fun H locs hH => ?_)
  refine lv_aload_n hx hb dX1_copy_8 rfl (lv_at hl 0 rfl) ?_
  refine lv_aload_n hx hb dX1_copy_9 rfl (lv_at hl 1 rfl) ?_
  refine r_geti C0 hH fl_X1_15 g1 rfl dX1_copy_10 ?_
  refine r_puti C0 hH fw_X1_15 g2 rfl dX1_copy_13 (fun H locs hH => ?_)
  refine lv_aload_n hx hb dX1_copy_16 rfl (lv_at hl 0 rfl) ?_
  refine lv_aload_n hx hb dX1_copy_17 rfl (lv_at hl 1 rfl) ?_
  refine r_geti C0 hH fl_X1_18 g1 rfl dX1_copy_18 ?_
  refine r_puti C0 hH fw_X1_18 g2 rfl dX1_copy_21 (fun H locs hH => ?_)
  refine lv_aload_n hx hb dX1_copy_24 rfl (lv_at hl 0 rfl) ?_
  refine lv_aload_n hx hb dX1_copy_25 rfl (lv_at hl 1 rfl) ?_
  refine r_geti C0 hH fl_X1_21 g1 rfl dX1_copy_26 ?_
  refine r_puti C0 hH fw_X1_21 g2 rfl dX1_copy_29 (fun H locs hH => ?_)
  refine lv_aload_n hx hb dX1_copy_32 rfl (lv_at hl 0 rfl) ?_
  refine lv_aload_n hx hb dX1_copy_33 rfl (lv_at hl 1 rfl) ?_
  refine r_geti C0 hH fl_X1_24 g1 rfl dX1_copy_34 ?_
  refine r_puti C0 hH fw_X1_24 g2 rfl dX1_copy_37 (fun H locs hH => ?_)
  obtain rfl := Option.some.inj hf
  exact r_vret C0 hr hlocks hH dX1_copy_40
theorem dX1_isFree_0 : decode cX1_isFree 0 = .ok (.aload_n 0, 1) := by decide +kernel
theorem dX1_isFree_1 : decode cX1_isFree 1 = .ok (.getfield 18, 3) := by decide +kernel
theorem dX1_isFree_4 : decode cX1_isFree 4 = .ok (.ifCond .ne 7, 3) := by decide +kernel
theorem dX1_isFree_7 : decode cX1_isFree 7 = .ok (.iconst 1, 1) := by decide +kernel
theorem dX1_isFree_8 : decode cX1_isFree 8 = .ok (.goto 4, 3) := by decide +kernel
theorem dX1_isFree_11 : decode cX1_isFree 11 = .ok (.iconst 0, 1) := by decide +kernel
theorem dX1_isFree_12 : decode cX1_isFree 12 = .ok (.ireturn, 1) := by decide +kernel
def f_X1_isFree (Λ : List Ly) (d : Dt) (p0 : Nat) : Option Int32 := if clsAt Λ p0 = some 1 then (if (d.1 p0 2) = 0 then (some (1 : Int32)) else (some (0 : Int32))) else none
set_option maxHeartbeats 4000000 in
set_option maxRecDepth 100000 in
theorem c_X1_isFree (Γ : Cx) (l : Launch) (Λ : List Ly) (d : Dt) (p0 : Nat) (z : Int32) (hf : f_X1_isFree Λ d p0 = some z) : Cn Γ l yX1_isFree cX1_isFree 1 (some FieldType.boolean) 0 0 [.ref (ad Γ.2.2.1 p0)] Λ d (some (.int z)) d := by
  refine Cn.of (own := "SeasonBound$Child") (by decide +kernel) rfl (Nat.le_of_ble_eq_true rfl) ?_
  intro p e s m below meth c C0 hr hlocks hH ls hl
  have hl : lv_has ls 1 [(0, .ref (ad Γ.2.2.1 p0))] := hl
  obtain ⟨hx, hb, hml, hown, hts, hK⟩ := id C0
  unfold f_X1_isFree at hf
  refine lv_aload_n hx hb dX1_isFree_0 rfl (lv_at hl 0 rfl) ?_
  obtain ⟨g1, hf⟩ := gd hf
  refine r_geti C0 hH fl_X1_18 g1 rfl dX1_isFree_1 ?_
  refine lv_if_ne (tgt := 11) hx hb dX1_isFree_4 (by decide) (fun c2 => ?_) (fun c2 => ?_)
  · replace hf := ie hf c2
    refine lv_iconst (v := (0 : Int32)) hx hb dX1_isFree_11 (by decide) ?_
    obtain rfl := Option.some.inj hf
    exact r_iret (d' := d) C0 hr hlocks hH (nz (Or.inl rfl)) dX1_isFree_12
  · replace hf := it hf c2
    refine lv_iconst (v := (1 : Int32)) hx hb dX1_isFree_7 (by decide) ?_
    refine lv_goto (tgt := 12) hx hb dX1_isFree_8 (by decide) ?_
    obtain rfl := Option.some.inj hf
    exact r_iret (d' := d) C0 hr hlocks hH (nz (Or.inr rfl)) dX1_isFree_12
theorem dX1_isBoundTo_0 : decode cX1_isBoundTo 0 = .ok (.aload_n 0, 1) := by decide +kernel
theorem dX1_isBoundTo_1 : decode cX1_isBoundTo 1 = .ok (.getfield 18, 3) := by decide +kernel
theorem dX1_isBoundTo_4 : decode cX1_isBoundTo 4 = .ok (.ifCond .le 15, 3) := by decide +kernel
theorem dX1_isBoundTo_7 : decode cX1_isBoundTo 7 = .ok (.aload_n 0, 1) := by decide +kernel
theorem dX1_isBoundTo_8 : decode cX1_isBoundTo 8 = .ok (.getfield 15, 3) := by decide +kernel
theorem dX1_isBoundTo_11 : decode cX1_isBoundTo 11 = .ok (.iload_n 1, 1) := by decide +kernel
theorem dX1_isBoundTo_12 : decode cX1_isBoundTo 12 = .ok (.if_icmp .ne 7, 3) := by decide +kernel
theorem dX1_isBoundTo_15 : decode cX1_isBoundTo 15 = .ok (.iconst 1, 1) := by decide +kernel
theorem dX1_isBoundTo_16 : decode cX1_isBoundTo 16 = .ok (.goto 4, 3) := by decide +kernel
theorem dX1_isBoundTo_19 : decode cX1_isBoundTo 19 = .ok (.iconst 0, 1) := by decide +kernel
theorem dX1_isBoundTo_20 : decode cX1_isBoundTo 20 = .ok (.ireturn, 1) := by decide +kernel
def f_X1_isBoundTo (Λ : List Ly) (d : Dt) (p0 : Nat) (v1 : Int32) : Option Int32 := if clsAt Λ p0 = some 1 then (if (d.1 p0 2) ≤ 0 then (some (0 : Int32)) else (if (d.1 p0 1) = v1 then (some (1 : Int32)) else (some (0 : Int32)))) else none
set_option maxHeartbeats 4000000 in
set_option maxRecDepth 100000 in
theorem c_X1_isBoundTo (Γ : Cx) (l : Launch) (Λ : List Ly) (d : Dt) (p0 : Nat) (v1 : Int32) (z : Int32) (hf : f_X1_isBoundTo Λ d p0 v1 = some z) : Cn Γ l yX1_isBoundTo cX1_isBoundTo 2 (some FieldType.boolean) 0 0 [.ref (ad Γ.2.2.1 p0), .int v1] Λ d (some (.int z)) d := by
  refine Cn.of (own := "SeasonBound$Child") (by decide +kernel) rfl (Nat.le_of_ble_eq_true rfl) ?_
  intro p e s m below meth c C0 hr hlocks hH ls hl
  have hl : lv_has ls 2 [(0, .ref (ad Γ.2.2.1 p0)), (1, .int v1)] := hl
  obtain ⟨hx, hb, hml, hown, hts, hK⟩ := id C0
  unfold f_X1_isBoundTo at hf
  refine lv_aload_n hx hb dX1_isBoundTo_0 rfl (lv_at hl 0 rfl) ?_
  obtain ⟨g1, hf⟩ := gd hf
  refine r_geti C0 hH fl_X1_18 g1 rfl dX1_isBoundTo_1 ?_
  refine lv_if_le (tgt := 19) hx hb dX1_isBoundTo_4 (by decide) (fun c2 => ?_) (fun c2 => ?_)
  · replace hf := it hf c2
    refine lv_iconst (v := (0 : Int32)) hx hb dX1_isBoundTo_19 (by decide) ?_
    obtain rfl := Option.some.inj hf
    exact r_iret (d' := d) C0 hr hlocks hH (nz (Or.inl rfl)) dX1_isBoundTo_20
  · replace hf := ie hf c2
    refine lv_aload_n hx hb dX1_isBoundTo_7 rfl (lv_at hl 0 rfl) ?_
    refine r_geti C0 hH fl_X1_15 g1 rfl dX1_isBoundTo_8 ?_
    refine lv_iload_n hx hb dX1_isBoundTo_11 rfl (lv_at hl 1 rfl) ?_
    refine lv_icmp_ne (tgt := 19) hx hb dX1_isBoundTo_12 (by decide) (fun c3 => ?_) (fun c3 => ?_)
    · replace hf := ie hf c3
      refine lv_iconst (v := (0 : Int32)) hx hb dX1_isBoundTo_19 (by decide) ?_
      obtain rfl := Option.some.inj hf
      exact r_iret (d' := d) C0 hr hlocks hH (nz (Or.inl rfl)) dX1_isBoundTo_20
    · replace hf := it hf c3
      refine lv_iconst (v := (1 : Int32)) hx hb dX1_isBoundTo_15 (by decide) ?_
      refine lv_goto (tgt := 20) hx hb dX1_isBoundTo_16 (by decide) ?_
      obtain rfl := Option.some.inj hf
      exact r_iret (d' := d) C0 hr hlocks hH (nz (Or.inr rfl)) dX1_isBoundTo_20
theorem dX1_livesIn_0 : decode cX1_livesIn 0 = .ok (.aload_n 0, 1) := by decide +kernel
theorem dX1_livesIn_1 : decode cX1_livesIn 1 = .ok (.getfield 18, 3) := by decide +kernel
theorem dX1_livesIn_4 : decode cX1_livesIn 4 = .ok (.ifCond .eq 11, 3) := by decide +kernel
theorem dX1_livesIn_7 : decode cX1_livesIn 7 = .ok (.aload_n 0, 1) := by decide +kernel
theorem dX1_livesIn_8 : decode cX1_livesIn 8 = .ok (.getfield 15, 3) := by decide +kernel
theorem dX1_livesIn_11 : decode cX1_livesIn 11 = .ok (.iload_n 1, 1) := by decide +kernel
theorem dX1_livesIn_12 : decode cX1_livesIn 12 = .ok (.if_icmp .ne 7, 3) := by decide +kernel
theorem dX1_livesIn_15 : decode cX1_livesIn 15 = .ok (.iconst 1, 1) := by decide +kernel
theorem dX1_livesIn_16 : decode cX1_livesIn 16 = .ok (.goto 4, 3) := by decide +kernel
theorem dX1_livesIn_19 : decode cX1_livesIn 19 = .ok (.iconst 0, 1) := by decide +kernel
theorem dX1_livesIn_20 : decode cX1_livesIn 20 = .ok (.ireturn, 1) := by decide +kernel
def f_X1_livesIn (Λ : List Ly) (d : Dt) (p0 : Nat) (v1 : Int32) : Option Int32 := if clsAt Λ p0 = some 1 then (if (d.1 p0 2) = 0 then (some (1 : Int32)) else (if (d.1 p0 1) = v1 then (some (1 : Int32)) else (some (0 : Int32)))) else none
set_option maxHeartbeats 4000000 in
set_option maxRecDepth 100000 in
theorem c_X1_livesIn (Γ : Cx) (l : Launch) (Λ : List Ly) (d : Dt) (p0 : Nat) (v1 : Int32) (z : Int32) (hf : f_X1_livesIn Λ d p0 v1 = some z) : Cn Γ l yX1_livesIn cX1_livesIn 2 (some FieldType.boolean) 0 0 [.ref (ad Γ.2.2.1 p0), .int v1] Λ d (some (.int z)) d := by
  refine Cn.of (own := "SeasonBound$Child") (by decide +kernel) rfl (Nat.le_of_ble_eq_true rfl) ?_
  intro p e s m below meth c C0 hr hlocks hH ls hl
  have hl : lv_has ls 2 [(0, .ref (ad Γ.2.2.1 p0)), (1, .int v1)] := hl
  obtain ⟨hx, hb, hml, hown, hts, hK⟩ := id C0
  unfold f_X1_livesIn at hf
  refine lv_aload_n hx hb dX1_livesIn_0 rfl (lv_at hl 0 rfl) ?_
  obtain ⟨g1, hf⟩ := gd hf
  refine r_geti C0 hH fl_X1_18 g1 rfl dX1_livesIn_1 ?_
  refine lv_if_eq (tgt := 15) hx hb dX1_livesIn_4 (by decide) (fun c2 => ?_) (fun c2 => ?_)
  · replace hf := it hf c2
    refine lv_iconst (v := (1 : Int32)) hx hb dX1_livesIn_15 (by decide) ?_
    refine lv_goto (tgt := 20) hx hb dX1_livesIn_16 (by decide) ?_
    obtain rfl := Option.some.inj hf
    exact r_iret (d' := d) C0 hr hlocks hH (nz (Or.inr rfl)) dX1_livesIn_20
  · replace hf := ie hf c2
    refine lv_aload_n hx hb dX1_livesIn_7 rfl (lv_at hl 0 rfl) ?_
    refine r_geti C0 hH fl_X1_15 g1 rfl dX1_livesIn_8 ?_
    refine lv_iload_n hx hb dX1_livesIn_11 rfl (lv_at hl 1 rfl) ?_
    refine lv_icmp_ne (tgt := 19) hx hb dX1_livesIn_12 (by decide) (fun c3 => ?_) (fun c3 => ?_)
    · replace hf := ie hf c3
      refine lv_iconst (v := (0 : Int32)) hx hb dX1_livesIn_19 (by decide) ?_
      obtain rfl := Option.some.inj hf
      exact r_iret (d' := d) C0 hr hlocks hH (nz (Or.inl rfl)) dX1_livesIn_20
    · replace hf := it hf c3
      refine lv_iconst (v := (1 : Int32)) hx hb dX1_livesIn_15 (by decide) ?_
      refine lv_goto (tgt := 20) hx hb dX1_livesIn_16 (by decide) ?_
      obtain rfl := Option.some.inj hf
      exact r_iret (d' := d) C0 hr hlocks hH (nz (Or.inr rfl)) dX1_livesIn_20
theorem dX8_learns_0 : decode cX8_learns 0 = .ok (.iload_n 1, 1) := by decide +kernel
theorem dX8_learns_1 : decode cX8_learns 1 = .ok (.iconst 1, 1) := by decide +kernel
theorem dX8_learns_2 : decode cX8_learns 2 = .ok (.iadd, 1) := by decide +kernel
theorem dX8_learns_3 : decode cX8_learns 3 = .ok (.iconst 2, 1) := by decide +kernel
theorem dX8_learns_4 : decode cX8_learns 4 = .ok (.idiv, 1) := by decide +kernel
theorem dX8_learns_5 : decode cX8_learns 5 = .ok (.istore_n 2, 1) := by decide +kernel
theorem dX8_learns_6 : decode cX8_learns 6 = .ok (.iload_n 0, 1) := by decide +kernel
theorem dX8_learns_7 : decode cX8_learns 7 = .ok (.tableswitch 33 0 2 #[25, 27, 31], 25) := by decide +kernel
theorem dX8_learns_32 : decode cX8_learns 32 = .ok (.iload_n 1, 1) := by decide +kernel
theorem dX8_learns_33 : decode cX8_learns 33 = .ok (.ireturn, 1) := by decide +kernel
theorem dX8_learns_34 : decode cX8_learns 34 = .ok (.iconst 2, 1) := by decide +kernel
theorem dX8_learns_35 : decode cX8_learns 35 = .ok (.iload_n 1, 1) := by decide +kernel
theorem dX8_learns_36 : decode cX8_learns 36 = .ok (.imul, 1) := by decide +kernel
theorem dX8_learns_37 : decode cX8_learns 37 = .ok (.ireturn, 1) := by decide +kernel
theorem dX8_learns_38 : decode cX8_learns 38 = .ok (.iload_n 2, 1) := by decide +kernel
theorem dX8_learns_39 : decode cX8_learns 39 = .ok (.ireturn, 1) := by decide +kernel
theorem dX8_learns_40 : decode cX8_learns 40 = .ok (.iload_n 2, 1) := by decide +kernel
theorem dX8_learns_41 : decode cX8_learns 41 = .ok (.iconst 1, 1) := by decide +kernel
theorem dX8_learns_42 : decode cX8_learns 42 = .ok (.iadd, 1) := by decide +kernel
theorem dX8_learns_43 : decode cX8_learns 43 = .ok (.ireturn, 1) := by decide +kernel
def f_X8_learns (v0 : Int32) (v1 : Int32) : Int32 := if v0 = (0 : Int32) then (v1) else (if v0 = (1 : Int32) then (((2 : Int32) * v1)) else (if v0 = (2 : Int32) then (((v1 + (1 : Int32)) / (2 : Int32))) else ((((v1 + (1 : Int32)) / (2 : Int32)) + (1 : Int32)))))
set_option maxHeartbeats 4000000 in
set_option maxRecDepth 100000 in
theorem c_X8_learns (Γ : Cx) (l : Launch) (Λ : List Ly) (d : Dt) (v0 : Int32) (v1 : Int32) : Cn Γ l yX8_learns cX8_learns 3 (some FieldType.int) 0 0 [.int v0, .int v1] Λ d (some (.int (f_X8_learns v0 v1))) d := by
  generalize hf : f_X8_learns v0 v1 = z
  refine Cn.of (own := "SeasonBound") (by decide +kernel) rfl (Nat.le_of_ble_eq_true rfl) ?_
  intro p e s m below meth c C0 hr hlocks hH ls hl
  have hl : lv_has ls 3 [(0, .int v0), (1, .int v1)] := hl
  obtain ⟨hx, hb, hml, hown, hts, hK⟩ := id C0
  unfold f_X8_learns at hf
  refine lv_iload_n hx hb dX8_learns_0 rfl (lv_at hl 1 rfl) ?_
  refine lv_iconst (v := (1 : Int32)) hx hb dX8_learns_1 (by decide) ?_
  refine lv_iadd hx hb dX8_learns_2 ?_
  refine lv_iconst (v := (2 : Int32)) hx hb dX8_learns_3 (by decide) ?_
  refine lv_idiv hx hb dX8_learns_4 (by decide) ?_
  refine lv_istore_n (lv' := [(2, .int ((v1 + (1 : Int32)) / (2 : Int32))), (0, .int v0), (1, .int v1)]) hx hb dX8_learns_5 rfl hl (by decide) rfl (fun ls hl => ?_)
  refine lv_iload_n hx hb dX8_learns_6 rfl (lv_at hl 1 rfl) ?_
  by_cases c1 : v0 = (0 : Int32)
  · replace hf := it hf c1
    refine lv_tableIn (off := 25) (tgt := 32) hx hb dX8_learns_7 (by rw [c1]; decide) (by rw [c1]; decide) (by rw [c1]; rfl) (by decide) ?_
    refine lv_iload_n hx hb dX8_learns_32 rfl (lv_at hl 2 rfl) ?_
    subst hf
    exact r_iret (d' := d) C0 hr hlocks hH rfl dX8_learns_33
  · replace hf := ie hf c1
    by_cases c2 : v0 = (1 : Int32)
    · replace hf := it hf c2
      refine lv_tableIn (off := 27) (tgt := 34) hx hb dX8_learns_7 (by rw [c2]; decide) (by rw [c2]; decide) (by rw [c2]; rfl) (by decide) ?_
      refine lv_iconst (v := (2 : Int32)) hx hb dX8_learns_34 (by decide) ?_
      refine lv_iload_n hx hb dX8_learns_35 rfl (lv_at hl 2 rfl) ?_
      refine lv_imul hx hb dX8_learns_36 ?_
      subst hf
      exact r_iret (d' := d) C0 hr hlocks hH rfl dX8_learns_37
    · replace hf := ie hf c2
      by_cases c3 : v0 = (2 : Int32)
      · replace hf := it hf c3
        refine lv_tableIn (off := 31) (tgt := 38) hx hb dX8_learns_7 (by rw [c3]; decide) (by rw [c3]; decide) (by rw [c3]; rfl) (by decide) ?_
        refine lv_iload_n hx hb dX8_learns_38 rfl (lv_at hl 0 rfl) ?_
        subst hf
        exact r_iret (d' := d) C0 hr hlocks hH rfl dX8_learns_39
      · replace hf := ie hf c3
        refine lv_tableOut (tgt := 40) hx hb dX8_learns_7 (by have hc1 := lv_neT c1 (a := 0) (by decide); have hc2 := lv_neT c2 (a := 1) (by decide); have hc3 := lv_neT c3 (a := 2) (by decide); omega) (by decide) ?_
        refine lv_iload_n hx hb dX8_learns_40 rfl (lv_at hl 0 rfl) ?_
        refine lv_iconst (v := (1 : Int32)) hx hb dX8_learns_41 (by decide) ?_
        refine lv_iadd hx hb dX8_learns_42 ?_
        subst hf
        exact r_iret (d' := d) C0 hr hlocks hH rfl dX8_learns_43
theorem dX8_raised_0 : decode cX8_raised 0 = .ok (.iload_n 0, 1) := by decide +kernel
theorem dX8_raised_1 : decode cX8_raised 1 = .ok (.iload_n 2, 1) := by decide +kernel
theorem dX8_raised_2 : decode cX8_raised 2 = .ok (.if_icmp .lt 7, 3) := by decide +kernel
theorem dX8_raised_5 : decode cX8_raised 5 = .ok (.iload_n 0, 1) := by decide +kernel
theorem dX8_raised_6 : decode cX8_raised 6 = .ok (.goto 10, 3) := by decide +kernel
theorem dX8_raised_9 : decode cX8_raised 9 = .ok (.iload_n 2, 1) := by decide +kernel
theorem dX8_raised_10 : decode cX8_raised 10 = .ok (.iload_n 0, 1) := by decide +kernel
theorem dX8_raised_11 : decode cX8_raised 11 = .ok (.iload_n 1, 1) := by decide +kernel
theorem dX8_raised_12 : decode cX8_raised 12 = .ok (.iadd, 1) := by decide +kernel
theorem dX8_raised_13 : decode cX8_raised 13 = .ok (.invokestatic 315, 3) := by decide +kernel
theorem dX8_raised_16 : decode cX8_raised 16 = .ok (.ireturn, 1) := by decide +kernel
def f_X8_raised (v0 : Int32) (v1 : Int32) (v2 : Int32) : Int32 := if v0 < v2 then ((jmin v2 (v0 + v1))) else (v0)
set_option maxHeartbeats 4000000 in
set_option maxRecDepth 100000 in
theorem c_X8_raised (Γ : Cx) (l : Launch) (Λ : List Ly) (d : Dt) (v0 : Int32) (v1 : Int32) (v2 : Int32) : Cn Γ l yX8_raised cX8_raised 3 (some FieldType.int) 1 21 [.int v0, .int v1, .int v2] Λ d (some (.int (f_X8_raised v0 v1 v2))) d := by
  generalize hf : f_X8_raised v0 v1 v2 = z
  refine Cn.of (own := "SeasonBound") (by decide +kernel) rfl (Nat.le_of_ble_eq_true rfl) ?_
  intro p e s m below meth c C0 hr hlocks hH ls hl
  have hl : lv_has ls 3 [(0, .int v0), (1, .int v1), (2, .int v2)] := hl
  obtain ⟨hx, hb, hml, hown, hts, hK⟩ := id C0
  unfold f_X8_raised at hf
  refine lv_iload_n hx hb dX8_raised_0 rfl (lv_at hl 0 rfl) ?_
  refine lv_iload_n hx hb dX8_raised_1 rfl (lv_at hl 2 rfl) ?_
  refine lv_icmp_lt (tgt := 9) hx hb dX8_raised_2 (by decide) (fun c1 => ?_) (fun c1 => ?_)
  · replace hf := it hf c1
    refine lv_iload_n hx hb dX8_raised_9 rfl (lv_at hl 2 rfl) ?_
    refine lv_iload_n hx hb dX8_raised_10 rfl (lv_at hl 0 rfl) ?_
    refine lv_iload_n hx hb dX8_raised_11 rfl (lv_at hl 1 rfl) ?_
    refine lv_iadd hx hb dX8_raised_12 ?_
    refine r_jmin C0 hl.1 ml_X8_315 (by decide) (Nat.le_of_ble_eq_true rfl) (by decide) dX8_raised_13 ?_
    subst hf
    exact r_iret (d' := d) C0 hr hlocks hH rfl dX8_raised_16
  · replace hf := ie hf c1
    refine lv_iload_n hx hb dX8_raised_5 rfl (lv_at hl 0 rfl) ?_
    refine lv_goto (tgt := 16) hx hb dX8_raised_6 (by decide) ?_
    subst hf
    exact r_iret (d' := d) C0 hr hlocks hH rfl dX8_raised_16
theorem dX1_liveWeekOf_0 : decode cX1_liveWeekOf 0 = .ok (.aload_n 0, 1) := by decide +kernel
theorem dX1_liveWeekOf_1 : decode cX1_liveWeekOf 1 = .ok (.sipush 999, 3) := by decide +kernel
theorem dX1_liveWeekOf_4 : decode cX1_liveWeekOf 4 = .ok (.aload_n 0, 1) := by decide +kernel
theorem dX1_liveWeekOf_5 : decode cX1_liveWeekOf 5 = .ok (.getfield 24, 3) := by decide +kernel
theorem dX1_liveWeekOf_8 : decode cX1_liveWeekOf 8 = .ok (.iconst 1, 1) := by decide +kernel
theorem dX1_liveWeekOf_9 : decode cX1_liveWeekOf 9 = .ok (.iadd, 1) := by decide +kernel
theorem dX1_liveWeekOf_10 : decode cX1_liveWeekOf 10 = .ok (.invokestatic 27, 3) := by decide +kernel
theorem dX1_liveWeekOf_13 : decode cX1_liveWeekOf 13 = .ok (.putfield 24, 3) := by decide +kernel
theorem dX1_liveWeekOf_16 : decode cX1_liveWeekOf 16 = .ok (.aload_n 0, 1) := by decide +kernel
theorem dX1_liveWeekOf_17 : decode cX1_liveWeekOf 17 = .ok (.getfield 18, 3) := by decide +kernel
theorem dX1_liveWeekOf_20 : decode cX1_liveWeekOf 20 = .ok (.ifCond .le 39, 3) := by decide +kernel
theorem dX1_liveWeekOf_23 : decode cX1_liveWeekOf 23 = .ok (.aload_n 0, 1) := by decide +kernel
theorem dX1_liveWeekOf_24 : decode cX1_liveWeekOf 24 = .ok (.aload_n 0, 1) := by decide +kernel
theorem dX1_liveWeekOf_25 : decode cX1_liveWeekOf 25 = .ok (.getfield 21, 3) := by decide +kernel
theorem dX1_liveWeekOf_28 : decode cX1_liveWeekOf 28 = .ok (.aload_n 0, 1) := by decide +kernel
theorem dX1_liveWeekOf_29 : decode cX1_liveWeekOf 29 = .ok (.getfield 9, 3) := by decide +kernel
theorem dX1_liveWeekOf_32 : decode cX1_liveWeekOf 32 = .ok (.aload_n 1, 1) := by decide +kernel
theorem dX1_liveWeekOf_33 : decode cX1_liveWeekOf 33 = .ok (.getfield 33, 3) := by decide +kernel
theorem dX1_liveWeekOf_36 : decode cX1_liveWeekOf 36 = .ok (.invokestatic 38, 3) := by decide +kernel
theorem dX1_liveWeekOf_39 : decode cX1_liveWeekOf 39 = .ok (.aload_n 1, 1) := by decide +kernel
theorem dX1_liveWeekOf_40 : decode cX1_liveWeekOf 40 = .ok (.getfield 41, 3) := by decide +kernel
theorem dX1_liveWeekOf_43 : decode cX1_liveWeekOf 43 = .ok (.invokestatic 44, 3) := by decide +kernel
theorem dX1_liveWeekOf_46 : decode cX1_liveWeekOf 46 = .ok (.putfield 21, 3) := by decide +kernel
theorem dX1_liveWeekOf_49 : decode cX1_liveWeekOf 49 = .ok (.aload_n 0, 1) := by decide +kernel
theorem dX1_liveWeekOf_50 : decode cX1_liveWeekOf 50 = .ok (.dup, 1) := by decide +kernel
theorem dX1_liveWeekOf_51 : decode cX1_liveWeekOf 51 = .ok (.getfield 18, 3) := by decide +kernel
theorem dX1_liveWeekOf_54 : decode cX1_liveWeekOf 54 = .ok (.iconst 1, 1) := by decide +kernel
theorem dX1_liveWeekOf_55 : decode cX1_liveWeekOf 55 = .ok (.isub, 1) := by decide +kernel
theorem dX1_liveWeekOf_56 : decode cX1_liveWeekOf 56 = .ok (.putfield 18, 3) := by decide +kernel
theorem dX1_liveWeekOf_59 : decode cX1_liveWeekOf 59 = .ok (.return_, 1) := by decide +kernel
def f_X1_liveWeekOf (Λ : List Ly) (d : Dt) (p0 : Nat) (p1 : Nat) : Option Dt := if clsAt Λ p0 = some 1 then (if ((pI d p0 4 (jmin (999 : Int32) ((d.1 p0 4) + (1 : Int32)))).1 p0 2) ≤ 0 then (some (pI d p0 4 (jmin (999 : Int32) ((d.1 p0 4) + (1 : Int32))))) else (if clsAt Λ p1 = some 4 then (some (pI (pI (pI d p0 4 (jmin (999 : Int32) ((d.1 p0 4) + (1 : Int32)))) p0 3 (f_X8_raised ((pI d p0 4 (jmin (999 : Int32) ((d.1 p0 4) + (1 : Int32)))).1 p0 3) (f_X8_learns ((pI d p0 4 (jmin (999 : Int32) ((d.1 p0 4) + (1 : Int32)))).1 p0 0) ((pI d p0 4 (jmin (999 : Int32) ((d.1 p0 4) + (1 : Int32)))).1 p1 1)) ((pI d p0 4 (jmin (999 : Int32) ((d.1 p0 4) + (1 : Int32)))).1 p1 2))) p0 2 (((pI (pI d p0 4 (jmin (999 : Int32) ((d.1 p0 4) + (1 : Int32)))) p0 3 (f_X8_raised ((pI d p0 4 (jmin (999 : Int32) ((d.1 p0 4) + (1 : Int32)))).1 p0 3) (f_X8_learns ((pI d p0 4 (jmin (999 : Int32) ((d.1 p0 4) + (1 : Int32)))).1 p0 0) ((pI d p0 4 (jmin (999 : Int32) ((d.1 p0 4) + (1 : Int32)))).1 p1 1)) ((pI d p0 4 (jmin (999 : Int32) ((d.1 p0 4) + (1 : Int32)))).1 p1 2))).1 p0 2) - (1 : Int32)))) else none)) else none
set_option maxHeartbeats 4000000 in
set_option maxRecDepth 100000 in
theorem c_X1_liveWeekOf (Γ : Cx) (l : Launch) (Λ : List Ly) (d : Dt) (p0 : Nat) (p1 : Nat) (z : Dt) (hf : f_X1_liveWeekOf Λ d p0 p1 = some z) : Cn Γ l yX1_liveWeekOf cX1_liveWeekOf 2 none 2 43 [.ref (ad Γ.2.2.1 p0), .ref (ad Γ.2.2.1 p1)] Λ d none z := by
  refine Cn.of (own := "SeasonBound$Child") (by decide +kernel) rfl (Nat.le_of_ble_eq_true rfl) ?_
  intro p e s m below meth c C0 hr hlocks hH ls hl
  have hl : lv_has ls 2 [(0, .ref (ad Γ.2.2.1 p0)), (1, .ref (ad Γ.2.2.1 p1))] := hl
  obtain ⟨hx, hb, hml, hown, hts, hK⟩ := id C0
  unfold f_X1_liveWeekOf at hf
  refine lv_aload_n hx hb dX1_liveWeekOf_0 rfl (lv_at hl 0 rfl) ?_
  refine lv_sipush (v := (999 : Int32)) hx hb dX1_liveWeekOf_1 (by decide) ?_
  refine lv_aload_n hx hb dX1_liveWeekOf_4 rfl (lv_at hl 0 rfl) ?_
  obtain ⟨g1, hf⟩ := gd hf
  refine r_geti C0 hH fl_X1_24 g1 rfl dX1_liveWeekOf_5 ?_
  refine lv_iconst (v := (1 : Int32)) hx hb dX1_liveWeekOf_8 (by decide) ?_
  refine lv_iadd hx hb dX1_liveWeekOf_9 ?_
  refine r_jmin C0 hl.1 ml_X1_27 (by decide) (Nat.le_of_ble_eq_true rfl) (by decide) dX1_liveWeekOf_10 ?_
  refine r_puti C0 hH fw_X1_24 g1 rfl dX1_liveWeekOf_13 (fun H locs hH => ?_)
  refine lv_aload_n hx hb dX1_liveWeekOf_16 rfl (lv_at hl 0 rfl) ?_
  refine r_geti C0 hH fl_X1_18 g1 rfl dX1_liveWeekOf_17 ?_
  refine lv_if_le (tgt := 59) hx hb dX1_liveWeekOf_20 (by decide) (fun c2 => ?_) (fun c2 => ?_)
  · replace hf := it hf c2
    obtain rfl := Option.some.inj hf
    exact r_vret C0 hr hlocks hH dX1_liveWeekOf_59
  · replace hf := ie hf c2
    refine lv_aload_n hx hb dX1_liveWeekOf_23 rfl (lv_at hl 0 rfl) ?_
    refine lv_aload_n hx hb dX1_liveWeekOf_24 rfl (lv_at hl 0 rfl) ?_
    refine r_geti C0 hH fl_X1_21 g1 rfl dX1_liveWeekOf_25 ?_
    refine lv_aload_n hx hb dX1_liveWeekOf_28 rfl (lv_at hl 0 rfl) ?_
    refine r_geti C0 hH fl_X1_9 g1 rfl dX1_liveWeekOf_29 ?_
    refine lv_aload_n hx hb dX1_liveWeekOf_32 rfl (lv_at hl 1 rfl) ?_
    obtain ⟨g3, hf⟩ := gd hf
    refine r_geti C0 hH fl_X1_33 g3 rfl dX1_liveWeekOf_33 ?_
    refine r_callNi (rest := [.int ((pI d p0 4 (jmin (999 : Int32) ((d.1 p0 4) + (1 : Int32)))).1 p0 3), .ref (ad Γ.2.2.1 p0)]) C0 hH (c_X8_learns Γ l Λ (pI d p0 4 (jmin (999 : Int32) ((d.1 p0 4) + (1 : Int32)))) ((pI d p0 4 (jmin (999 : Int32) ((d.1 p0 4) + (1 : Int32)))).1 p0 0) ((pI d p0 4 (jmin (999 : Int32) ((d.1 p0 4) + (1 : Int32)))).1 p1 1)) cn_X1_38 (by decide) rfl hl.1 rfl (Nat.le_of_ble_eq_true rfl) dX1_liveWeekOf_36 (by decide) (fun H locs hH => ?_)
    refine lv_aload_n hx hb dX1_liveWeekOf_39 rfl (lv_at hl 1 rfl) ?_
    refine r_geti C0 hH fl_X1_41 g3 rfl dX1_liveWeekOf_40 ?_
    refine r_callNi (rest := [.ref (ad Γ.2.2.1 p0)]) C0 hH (c_X8_raised Γ l Λ (pI d p0 4 (jmin (999 : Int32) ((d.1 p0 4) + (1 : Int32)))) ((pI d p0 4 (jmin (999 : Int32) ((d.1 p0 4) + (1 : Int32)))).1 p0 3) (f_X8_learns ((pI d p0 4 (jmin (999 : Int32) ((d.1 p0 4) + (1 : Int32)))).1 p0 0) ((pI d p0 4 (jmin (999 : Int32) ((d.1 p0 4) + (1 : Int32)))).1 p1 1)) ((pI d p0 4 (jmin (999 : Int32) ((d.1 p0 4) + (1 : Int32)))).1 p1 2)) cn_X1_44 (by decide) rfl hl.1 rfl (Nat.le_of_ble_eq_true rfl) dX1_liveWeekOf_43 (by decide) (fun H locs hH => ?_)
    refine r_puti C0 hH fw_X1_21 g1 rfl dX1_liveWeekOf_46 (fun H locs hH => ?_)
    refine lv_aload_n hx hb dX1_liveWeekOf_49 rfl (lv_at hl 0 rfl) ?_
    refine lv_dup hx hb dX1_liveWeekOf_50 rfl ?_
    refine r_geti C0 hH fl_X1_18 g1 rfl dX1_liveWeekOf_51 ?_
    refine lv_iconst (v := (1 : Int32)) hx hb dX1_liveWeekOf_54 (by decide) ?_
    refine lv_isub hx hb dX1_liveWeekOf_55 ?_
    refine r_puti C0 hH fw_X1_18 g1 rfl dX1_liveWeekOf_56 (fun H locs hH => ?_)
    obtain rfl := Option.some.inj hf
    exact r_vret C0 hr hlocks hH dX1_liveWeekOf_59
theorem dJ7_fill_d0a16_0 : decode cJ7_fill_d0a16 0 = .ok (.iconst 0, 1) := by decide +kernel
theorem dJ7_fill_d0a16_1 : decode cJ7_fill_d0a16 1 = .ok (.istore_n 3, 1) := by decide +kernel
theorem dJ7_fill_d0a16_2 : decode cJ7_fill_d0a16 2 = .ok (.aload_n 0, 1) := by decide +kernel
theorem dJ7_fill_d0a16_3 : decode cJ7_fill_d0a16 3 = .ok (.arraylength, 1) := by decide +kernel
theorem dJ7_fill_d0a16_4 : decode cJ7_fill_d0a16 4 = .ok (.istore 4, 2) := by decide +kernel
theorem dJ7_fill_d0a16_6 : decode cJ7_fill_d0a16 6 = .ok (.iload_n 3, 1) := by decide +kernel
theorem dJ7_fill_d0a16_7 : decode cJ7_fill_d0a16 7 = .ok (.iload 4, 2) := by decide +kernel
theorem dJ7_fill_d0a16_9 : decode cJ7_fill_d0a16 9 = .ok (.if_icmp .ge 13, 3) := by decide +kernel
theorem dJ7_fill_d0a16_12 : decode cJ7_fill_d0a16 12 = .ok (.aload_n 0, 1) := by decide +kernel
theorem dJ7_fill_d0a16_13 : decode cJ7_fill_d0a16 13 = .ok (.iload_n 3, 1) := by decide +kernel
theorem dJ7_fill_d0a16_14 : decode cJ7_fill_d0a16 14 = .ok (.lload_n 1, 1) := by decide +kernel
theorem dJ7_fill_d0a16_15 : decode cJ7_fill_d0a16 15 = .ok (.lastore, 1) := by decide +kernel
theorem dJ7_fill_d0a16_16 : decode cJ7_fill_d0a16 16 = .ok (.iinc 3 1, 3) := by decide +kernel
theorem dJ7_fill_d0a16_19 : decode cJ7_fill_d0a16 19 = .ok (.goto (-13), 3) := by decide +kernel
theorem dJ7_fill_d0a16_22 : decode cJ7_fill_d0a16 22 = .ok (.return_, 1) := by decide +kernel
def f_J7_fill_d0a16_L6 (Λ : List Ly) (p0 : Nat) (v1 : Int64) (v4 : Int32) : Nat → Int32 → Dt → Option Dt
  | 0, _, _ => none
  | n + 1, v3, d => if v4 ≤ v3 then (some d) else (if okL Λ p0 v3 = true then (f_J7_fill_d0a16_L6 Λ p0 v1 v4 n (v3 + (1 : Int32)) (pJ d p0 (v3).toNatClampNeg v1)) else none)
def f_J7_fill_d0a16 (Λ : List Ly) (d : Dt) (p0 : Nat) (v1 : Int64) : Option Dt := Option.bind (aLn Λ p0 2) fun q1 => f_J7_fill_d0a16_L6 Λ p0 v1 (Int32.ofNat q1) FU (0 : Int32) d
set_option maxHeartbeats 4000000 in
set_option maxRecDepth 100000 in
theorem w_J7_fill_d0a16_L6 {p : Program} {l : Launch} {e : Env} {s : State} {m : MethodId} {args : Array Value} {below : List Frame} {meth : Method} {c : Code} {Γ : Cx} {Λ : List Ly} {z : Dt} (C0 : Ct Γ p s m args c cJ7_fill_d0a16 5 "java/util/Arrays") (hr : meth.sig.returnType = none) (hlocks : meth.locks = false) (p0 : Nat) (v1 : Int64) (v4 : Int32) :
    ∀ (n : Nat) (v3 : Int32) (d : Dt), f_J7_fill_d0a16_L6 Λ p0 v1 v4 n v3 d = some z → ∀ (H : Heap) (locs : List Loc) (ls : Array Slot), Hs Γ Λ d s H locs → lv_has ls 5 [(0, .ref (ad Γ.2.2.1 p0)), (1, .long v1), (3, .int v3), (4, .int v4)] → W p l e { frames := 0, cells := 0, slots := 0, locals := 0 } s m args below meth c H locs 0 0 (MQ below (QN Γ Λ z none) args s 0 0 (AP Γ)) (F0 m 6 ls []) := by
  obtain ⟨hx, hb, hml, hown, hts, hK⟩ := id C0
  intro n
  induction n with
  | zero =>
    intro v3 d hf
    cases hf
  | succ n ih =>
    intro v3 d hf H locs ls hH hl
    unfold f_J7_fill_d0a16_L6 at hf
    refine lv_iload_n hx hb dJ7_fill_d0a16_6 rfl (lv_at hl 2 rfl) ?_
    refine lv_iload hx hb dJ7_fill_d0a16_7 (lv_at hl 3 rfl) ?_
    refine lv_icmp_ge (tgt := 22) hx hb dJ7_fill_d0a16_9 (by decide) (fun c2 => ?_) (fun c2 => ?_)
    · replace hf := it hf c2
      obtain rfl := Option.some.inj hf
      exact r_vret C0 hr hlocks hH dJ7_fill_d0a16_22
    · replace hf := ie hf c2
      refine lv_aload_n hx hb dJ7_fill_d0a16_12 rfl (lv_at hl 0 rfl) ?_
      refine lv_iload_n hx hb dJ7_fill_d0a16_13 rfl (lv_at hl 2 rfl) ?_
      refine lv_lload_n hx hb dJ7_fill_d0a16_14 rfl (lv_at hl 1 rfl) ?_
      obtain ⟨g3, hf⟩ := gd hf
      refine r_last C0 hH g3 dJ7_fill_d0a16_15 (fun H locs hH => ?_)
      refine lv_iinc (v := (v3 + (1 : Int32))) (lv' := [(3, .int (v3 + (1 : Int32))), (0, .ref (ad Γ.2.2.1 p0)), (1, .long v1), (4, .int v4)]) hx hb dJ7_fill_d0a16_16 hl (k := 2) rfl (congrArg (fun w => v3 + w) (by decide)) (by decide) rfl (fun ls hl => ?_)
      refine lv_goto (tgt := 6) hx hb dJ7_fill_d0a16_19 (by decide) ?_
      exact ih (v3 + (1 : Int32)) (pJ d p0 (v3).toNatClampNeg v1) hf _ _ _ hH (lv_sub hl [1, 2, 0, 3] rfl)
set_option maxHeartbeats 4000000 in
set_option maxRecDepth 100000 in
theorem c_J7_fill_d0a16 (Γ : Cx) (l : Launch) (Λ : List Ly) (d : Dt) (p0 : Nat) (v1 : Int64) (z : Dt) (hf : f_J7_fill_d0a16 Λ d p0 v1 = some z) : Cn Γ l yJ7_fill_d0a16 cJ7_fill_d0a16 5 none 0 0 [.ref (ad Γ.2.2.1 p0), .long v1] Λ d none z := by
  refine Cn.of (own := "java/util/Arrays") (by decide +kernel) rfl (Nat.le_of_ble_eq_true rfl) ?_
  intro p e s m below meth c C0 hr hlocks hH ls hl
  have hl : lv_has ls 5 [(0, .ref (ad Γ.2.2.1 p0)), (1, .long v1)] := hl
  obtain ⟨hx, hb, hml, hown, hts, hK⟩ := id C0
  unfold f_J7_fill_d0a16 at hf
  refine lv_iconst (v := (0 : Int32)) hx hb dJ7_fill_d0a16_0 (by decide) ?_
  refine lv_istore_n (lv' := [(3, .int (0 : Int32)), (0, .ref (ad Γ.2.2.1 p0)), (1, .long v1)]) hx hb dJ7_fill_d0a16_1 rfl hl (by decide) rfl (fun ls hl => ?_)
  refine lv_aload_n hx hb dJ7_fill_d0a16_2 rfl (lv_at hl 1 rfl) ?_
  obtain ⟨q1, g1, hf⟩ := ob hf
  refine r_alen C0 hH g1 (by decide) dJ7_fill_d0a16_3 ?_
  refine lv_istore (lv' := [(4, .int (Int32.ofNat q1)), (3, .int (0 : Int32)), (0, .ref (ad Γ.2.2.1 p0)), (1, .long v1)]) hx hb dJ7_fill_d0a16_4 hl (by decide) rfl (fun ls hl => ?_)
  refine w_J7_fill_d0a16_L6 C0 hr hlocks p0 v1 (Int32.ofNat q1) FU (0 : Int32) d hf _ _ _ hH (lv_sub hl [2, 3, 1, 0] rfl)
theorem dX2_spread_0 : decode cX2_spread 0 = .ok (.aload_n 0, 1) := by decide +kernel
theorem dX2_spread_1 : decode cX2_spread 1 = .ok (.getfield 9, 3) := by decide +kernel
theorem dX2_spread_4 : decode cX2_spread 4 = .ok (.lconst 0, 1) := by decide +kernel
theorem dX2_spread_5 : decode cX2_spread 5 = .ok (.invokestatic 15, 3) := by decide +kernel
theorem dX2_spread_8 : decode cX2_spread 8 = .ok (.aload_n 0, 1) := by decide +kernel
theorem dX2_spread_9 : decode cX2_spread 9 = .ok (.getfield 9, 3) := by decide +kernel
theorem dX2_spread_12 : decode cX2_spread 12 = .ok (.iconst 0, 1) := by decide +kernel
theorem dX2_spread_13 : decode cX2_spread 13 = .ok (.lconst 1, 1) := by decide +kernel
theorem dX2_spread_14 : decode cX2_spread 14 = .ok (.lastore, 1) := by decide +kernel
theorem dX2_spread_15 : decode cX2_spread 15 = .ok (.iload_n 2, 1) := by decide +kernel
theorem dX2_spread_16 : decode cX2_spread 16 = .ok (.bipush 8, 2) := by decide +kernel
theorem dX2_spread_18 : decode cX2_spread 18 = .ok (.invokestatic 21, 3) := by decide +kernel
theorem dX2_spread_21 : decode cX2_spread 21 = .ok (.istore_n 3, 1) := by decide +kernel
theorem dX2_spread_22 : decode cX2_spread 22 = .ok (.iconst 0, 1) := by decide +kernel
theorem dX2_spread_23 : decode cX2_spread 23 = .ok (.istore 4, 2) := by decide +kernel
theorem dX2_spread_25 : decode cX2_spread 25 = .ok (.iload 4, 2) := by decide +kernel
theorem dX2_spread_27 : decode cX2_spread 27 = .ok (.iload_n 3, 1) := by decide +kernel
theorem dX2_spread_28 : decode cX2_spread 28 = .ok (.if_icmp .ge 70, 3) := by decide +kernel
theorem dX2_spread_31 : decode cX2_spread 31 = .ok (.iload 4, 2) := by decide +kernel
theorem dX2_spread_33 : decode cX2_spread 33 = .ok (.iconst 1, 1) := by decide +kernel
theorem dX2_spread_34 : decode cX2_spread 34 = .ok (.iadd, 1) := by decide +kernel
theorem dX2_spread_35 : decode cX2_spread 35 = .ok (.istore 5, 2) := by decide +kernel
theorem dX2_spread_37 : decode cX2_spread 37 = .ok (.iload 5, 2) := by decide +kernel
theorem dX2_spread_39 : decode cX2_spread 39 = .ok (.ifCond .le 42, 3) := by decide +kernel
theorem dX2_spread_42 : decode cX2_spread 42 = .ok (.aload_n 0, 1) := by decide +kernel
theorem dX2_spread_43 : decode cX2_spread 43 = .ok (.getfield 9, 3) := by decide +kernel
theorem dX2_spread_46 : decode cX2_spread 46 = .ok (.iload 5, 2) := by decide +kernel
theorem dX2_spread_48 : decode cX2_spread 48 = .ok (.aload_n 0, 1) := by decide +kernel
theorem dX2_spread_49 : decode cX2_spread 49 = .ok (.getfield 9, 3) := by decide +kernel
theorem dX2_spread_52 : decode cX2_spread 52 = .ok (.iload 5, 2) := by decide +kernel
theorem dX2_spread_54 : decode cX2_spread 54 = .ok (.laload, 1) := by decide +kernel
theorem dX2_spread_55 : decode cX2_spread 55 = .ok (.iload_n 1, 1) := by decide +kernel
theorem dX2_spread_56 : decode cX2_spread 56 = .ok (.i2l, 1) := by decide +kernel
theorem dX2_spread_57 : decode cX2_spread 57 = .ok (.lmul, 1) := by decide +kernel
theorem dX2_spread_58 : decode cX2_spread 58 = .ok (.aload_n 0, 1) := by decide +kernel
theorem dX2_spread_59 : decode cX2_spread 59 = .ok (.getfield 9, 3) := by decide +kernel
theorem dX2_spread_62 : decode cX2_spread 62 = .ok (.iload 5, 2) := by decide +kernel
theorem dX2_spread_64 : decode cX2_spread 64 = .ok (.iconst 1, 1) := by decide +kernel
theorem dX2_spread_65 : decode cX2_spread 65 = .ok (.isub, 1) := by decide +kernel
theorem dX2_spread_66 : decode cX2_spread 66 = .ok (.laload, 1) := by decide +kernel
theorem dX2_spread_67 : decode cX2_spread 67 = .ok (.bipush 10, 2) := by decide +kernel
theorem dX2_spread_69 : decode cX2_spread 69 = .ok (.iload_n 1, 1) := by decide +kernel
theorem dX2_spread_70 : decode cX2_spread 70 = .ok (.isub, 1) := by decide +kernel
theorem dX2_spread_71 : decode cX2_spread 71 = .ok (.i2l, 1) := by decide +kernel
theorem dX2_spread_72 : decode cX2_spread 72 = .ok (.lmul, 1) := by decide +kernel
theorem dX2_spread_73 : decode cX2_spread 73 = .ok (.ladd, 1) := by decide +kernel
theorem dX2_spread_74 : decode cX2_spread 74 = .ok (.lastore, 1) := by decide +kernel
theorem dX2_spread_75 : decode cX2_spread 75 = .ok (.iinc 5 (-1), 3) := by decide +kernel
theorem dX2_spread_78 : decode cX2_spread 78 = .ok (.goto (-41), 3) := by decide +kernel
theorem dX2_spread_81 : decode cX2_spread 81 = .ok (.aload_n 0, 1) := by decide +kernel
theorem dX2_spread_82 : decode cX2_spread 82 = .ok (.getfield 9, 3) := by decide +kernel
theorem dX2_spread_85 : decode cX2_spread 85 = .ok (.iconst 0, 1) := by decide +kernel
theorem dX2_spread_86 : decode cX2_spread 86 = .ok (.dup2, 1) := by decide +kernel
theorem dX2_spread_87 : decode cX2_spread 87 = .ok (.laload, 1) := by decide +kernel
theorem dX2_spread_88 : decode cX2_spread 88 = .ok (.iload_n 1, 1) := by decide +kernel
theorem dX2_spread_89 : decode cX2_spread 89 = .ok (.i2l, 1) := by decide +kernel
theorem dX2_spread_90 : decode cX2_spread 90 = .ok (.lmul, 1) := by decide +kernel
theorem dX2_spread_91 : decode cX2_spread 91 = .ok (.lastore, 1) := by decide +kernel
theorem dX2_spread_92 : decode cX2_spread 92 = .ok (.iinc 4 1, 3) := by decide +kernel
theorem dX2_spread_95 : decode cX2_spread 95 = .ok (.goto (-70), 3) := by decide +kernel
theorem dX2_spread_98 : decode cX2_spread 98 = .ok (.return_, 1) := by decide +kernel
def f_X2_spread_L37 (Λ : List Ly) (p0 : Nat) (v1 : Int32) (v3 : Int32) (v4 : Int32) (k81 : Int32 → Dt → Option Dt) : Nat → Int32 → Dt → Option Dt
  | 0, _, _ => none
  | n + 1, v5, d => if v5 ≤ 0 then (k81 v5 d) else (Option.bind (rf Λ p0 2 0) fun q6 => if okL Λ q6 v5 = true then (if okL Λ q6 (v5 - (1 : Int32)) = true then (f_X2_spread_L37 Λ p0 v1 v3 v4 k81 n (v5 + (-1 : Int32)) (pJ d q6 (v5).toNatClampNeg (((d.2 q6 (v5).toNatClampNeg) * (v1).toInt64) + ((d.2 q6 ((v5 - (1 : Int32))).toNatClampNeg) * (((10 : Int32) - v1)).toInt64)))) else none) else none)
def f_X2_spread_L25 (Λ : List Ly) (p0 : Nat) (v1 : Int32) (v3 : Int32) : Nat → Int32 → Dt → Option Dt
  | 0, _, _ => none
  | n + 1, v4, d => if v3 ≤ v4 then (some d) else (f_X2_spread_L37 Λ p0 v1 v3 v4 (fun x9_5 d9 => Option.bind (rf Λ p0 2 0) fun q10 => if okL Λ q10 (0 : Int32) = true then (f_X2_spread_L25 Λ p0 v1 v3 n (v4 + (1 : Int32)) (pJ d9 q10 ((0 : Int32)).toNatClampNeg ((d9.2 q10 ((0 : Int32)).toNatClampNeg) * (v1).toInt64))) else none) FU (v4 + (1 : Int32)) d)
def f_X2_spread (Λ : List Ly) (d : Dt) (p0 : Nat) (v1 : Int32) (v2 : Int32) : Option Dt := Option.bind (rf Λ p0 2 0) fun q1 => Option.bind (f_J7_fill_d0a16 Λ d q1 (0 : Int64)) fun z2 => if okL Λ q1 (0 : Int32) = true then (f_X2_spread_L25 Λ p0 v1 (jmin v2 (8 : Int32)) FU (0 : Int32) (pJ z2 q1 ((0 : Int32)).toNatClampNeg (1 : Int64))) else none
set_option maxHeartbeats 4000000 in
set_option maxRecDepth 100000 in
theorem w_X2_spread_L37 {p : Program} {l : Launch} {e : Env} {s : State} {m : MethodId} {args : Array Value} {below : List Frame} {meth : Method} {c : Code} {Γ : Cx} {Λ : List Ly} {z : Dt} (C0 : Ct Γ p s m args c cX2_spread 6 "SeasonBound$Odds") (hr : meth.sig.returnType = none) (hlocks : meth.locks = false) (k81 : Int32 → Dt → Option Dt) (p0 : Nat) (v1 : Int32) (v3 : Int32) (v4 : Int32)
    (hk81 : ∀ (v5 : Int32) (d : Dt), (k81 v5 d = some z) → ∀ (H : Heap) (locs : List Loc) (ls : Array Slot), Hs Γ Λ d s H locs → lv_has ls 6 [(0, .ref (ad Γ.2.2.1 p0)), (1, .int v1), (3, .int v3), (4, .int v4), (5, .int v5)] → W p l e { frames := 1, cells := 0, slots := 0, locals := 24 } s m args below meth c H locs 0 0 (MQ below (QN Γ Λ z none) args s 0 0 (AP Γ)) (F0 m 81 ls [])) :
    ∀ (n : Nat) (v5 : Int32) (d : Dt), f_X2_spread_L37 Λ p0 v1 v3 v4 k81 n v5 d = some z → ∀ (H : Heap) (locs : List Loc) (ls : Array Slot), Hs Γ Λ d s H locs → lv_has ls 6 [(0, .ref (ad Γ.2.2.1 p0)), (1, .int v1), (3, .int v3), (4, .int v4), (5, .int v5)] → W p l e { frames := 1, cells := 0, slots := 0, locals := 24 } s m args below meth c H locs 0 0 (MQ below (QN Γ Λ z none) args s 0 0 (AP Γ)) (F0 m 37 ls []) := by
  obtain ⟨hx, hb, hml, hown, hts, hK⟩ := id C0
  intro n
  induction n with
  | zero =>
    intro v5 d hf
    cases hf
  | succ n ih =>
    intro v5 d hf H locs ls hH hl
    unfold f_X2_spread_L37 at hf
    refine lv_iload hx hb dX2_spread_37 (lv_at hl 4 rfl) ?_
    refine lv_if_le (tgt := 81) hx hb dX2_spread_39 (by decide) (fun c5 => ?_) (fun c5 => ?_)
    · replace hf := it hf c5
      exact hk81 v5 d hf _ _ _ hH (lv_sub hl [0, 1, 2, 3, 4] rfl)
    · replace hf := ie hf c5
      refine lv_aload_n hx hb dX2_spread_42 rfl (lv_at hl 0 rfl) ?_
      obtain ⟨q6, g6, hf⟩ := ob hf
      refine r_getr C0 hH fl_X2_9 g6 dX2_spread_43 ?_
      refine lv_iload hx hb dX2_spread_46 (lv_at hl 4 rfl) ?_
      refine lv_aload_n hx hb dX2_spread_48 rfl (lv_at hl 0 rfl) ?_
      refine r_getr C0 hH fl_X2_9 g6 dX2_spread_49 ?_
      refine lv_iload hx hb dX2_spread_52 (lv_at hl 4 rfl) ?_
      obtain ⟨g7, hf⟩ := gd hf
      refine r_lald C0 hH g7 dX2_spread_54 ?_
      refine lv_iload_n hx hb dX2_spread_55 rfl (lv_at hl 1 rfl) ?_
      refine lv_i2l (v := (v1).toInt64) hx hb dX2_spread_56 rfl ?_
      refine lv_lmul hx hb dX2_spread_57 ?_
      refine lv_aload_n hx hb dX2_spread_58 rfl (lv_at hl 0 rfl) ?_
      refine r_getr C0 hH fl_X2_9 g6 dX2_spread_59 ?_
      refine lv_iload hx hb dX2_spread_62 (lv_at hl 4 rfl) ?_
      refine lv_iconst (v := (1 : Int32)) hx hb dX2_spread_64 (by decide) ?_
      refine lv_isub hx hb dX2_spread_65 ?_
      obtain ⟨g8, hf⟩ := gd hf
      refine r_lald C0 hH g8 dX2_spread_66 ?_
      refine lv_bipush (v := (10 : Int32)) hx hb dX2_spread_67 (by decide) ?_
      refine lv_iload_n hx hb dX2_spread_69 rfl (lv_at hl 1 rfl) ?_
      refine lv_isub hx hb dX2_spread_70 ?_
      refine lv_i2l (v := (((10 : Int32) - v1)).toInt64) hx hb dX2_spread_71 rfl ?_
      refine lv_lmul hx hb dX2_spread_72 ?_
      refine lv_ladd hx hb dX2_spread_73 ?_
      refine r_last C0 hH g7 dX2_spread_74 (fun H locs hH => ?_)
      refine lv_iinc (v := (v5 + (-1 : Int32))) (lv' := [(5, .int (v5 + (-1 : Int32))), (0, .ref (ad Γ.2.2.1 p0)), (1, .int v1), (3, .int v3), (4, .int v4)]) hx hb dX2_spread_75 hl (k := 4) rfl (congrArg (fun w => v5 + w) (by decide)) (by decide) rfl (fun ls hl => ?_)
      refine lv_goto (tgt := 37) hx hb dX2_spread_78 (by decide) ?_
      exact ih (v5 + (-1 : Int32)) (pJ d q6 (v5).toNatClampNeg (((d.2 q6 (v5).toNatClampNeg) * (v1).toInt64) + ((d.2 q6 ((v5 - (1 : Int32))).toNatClampNeg) * (((10 : Int32) - v1)).toInt64))) hf _ _ _ hH (lv_sub hl [1, 2, 3, 4, 0] rfl)
set_option maxHeartbeats 4000000 in
set_option maxRecDepth 100000 in
theorem w_X2_spread_L25 {p : Program} {l : Launch} {e : Env} {s : State} {m : MethodId} {args : Array Value} {below : List Frame} {meth : Method} {c : Code} {Γ : Cx} {Λ : List Ly} {z : Dt} (C0 : Ct Γ p s m args c cX2_spread 6 "SeasonBound$Odds") (hr : meth.sig.returnType = none) (hlocks : meth.locks = false) (p0 : Nat) (v1 : Int32) (v3 : Int32) :
    ∀ (n : Nat) (v4 : Int32) (d : Dt), f_X2_spread_L25 Λ p0 v1 v3 n v4 d = some z → ∀ (H : Heap) (locs : List Loc) (ls : Array Slot), Hs Γ Λ d s H locs → lv_has ls 6 [(0, .ref (ad Γ.2.2.1 p0)), (1, .int v1), (3, .int v3), (4, .int v4)] → W p l e { frames := 1, cells := 0, slots := 0, locals := 24 } s m args below meth c H locs 0 0 (MQ below (QN Γ Λ z none) args s 0 0 (AP Γ)) (F0 m 25 ls []) := by
  obtain ⟨hx, hb, hml, hown, hts, hK⟩ := id C0
  intro n
  induction n with
  | zero =>
    intro v4 d hf
    cases hf
  | succ n ih =>
    intro v4 d hf H locs ls hH hl
    unfold f_X2_spread_L25 at hf
    refine lv_iload hx hb dX2_spread_25 (lv_at hl 3 rfl) ?_
    refine lv_iload_n hx hb dX2_spread_27 rfl (lv_at hl 2 rfl) ?_
    refine lv_icmp_ge (tgt := 98) hx hb dX2_spread_28 (by decide) (fun c4 => ?_) (fun c4 => ?_)
    · replace hf := it hf c4
      obtain rfl := Option.some.inj hf
      exact r_vret C0 hr hlocks hH dX2_spread_98
    · replace hf := ie hf c4
      refine lv_iload hx hb dX2_spread_31 (lv_at hl 3 rfl) ?_
      refine lv_iconst (v := (1 : Int32)) hx hb dX2_spread_33 (by decide) ?_
      refine lv_iadd hx hb dX2_spread_34 ?_
      refine lv_istore (lv' := [(5, .int (v4 + (1 : Int32))), (0, .ref (ad Γ.2.2.1 p0)), (1, .int v1), (3, .int v3), (4, .int v4)]) hx hb dX2_spread_35 hl (by decide) rfl (fun ls hl => ?_)
      refine w_X2_spread_L37 C0 hr hlocks _ p0 v1 v3 v4 ?k81 FU (v4 + (1 : Int32)) d hf _ _ _ hH (lv_sub hl [1, 2, 3, 4, 0] rfl)
      case k81 =>
        intro x9_5 d9 hf H locs ls hH hl
        refine lv_aload_n hx hb dX2_spread_81 rfl (lv_at hl 0 rfl) ?_
        obtain ⟨q10, g10, hf⟩ := ob hf
        refine r_getr C0 hH fl_X2_9 g10 dX2_spread_82 ?_
        refine lv_iconst (v := (0 : Int32)) hx hb dX2_spread_85 (by decide) ?_
        refine lv_dup2_11 hx hb dX2_spread_86 rfl rfl ?_
        obtain ⟨g11, hf⟩ := gd hf
        refine r_lald C0 hH g11 dX2_spread_87 ?_
        refine lv_iload_n hx hb dX2_spread_88 rfl (lv_at hl 1 rfl) ?_
        refine lv_i2l (v := (v1).toInt64) hx hb dX2_spread_89 rfl ?_
        refine lv_lmul hx hb dX2_spread_90 ?_
        refine r_last C0 hH g11 dX2_spread_91 (fun H locs hH => ?_)
        refine lv_iinc (v := (v4 + (1 : Int32))) (lv' := [(4, .int (v4 + (1 : Int32))), (0, .ref (ad Γ.2.2.1 p0)), (1, .int v1), (3, .int v3), (5, .int x9_5)]) hx hb dX2_spread_92 hl (k := 3) rfl (congrArg (fun w => v4 + w) (by decide)) (by decide) rfl (fun ls hl => ?_)
        refine lv_goto (tgt := 25) hx hb dX2_spread_95 (by decide) ?_
        exact ih (v4 + (1 : Int32)) (pJ d9 q10 ((0 : Int32)).toNatClampNeg ((d9.2 q10 ((0 : Int32)).toNatClampNeg) * (v1).toInt64)) hf _ _ _ hH (lv_sub hl [1, 2, 3, 0] rfl)
set_option maxHeartbeats 4000000 in
set_option maxRecDepth 100000 in
theorem c_X2_spread (Γ : Cx) (l : Launch) (Λ : List Ly) (d : Dt) (p0 : Nat) (v1 : Int32) (v2 : Int32) (z : Dt) (hf : f_X2_spread Λ d p0 v1 v2 = some z) : Cn Γ l yX2_spread cX2_spread 6 none 1 24 [.ref (ad Γ.2.2.1 p0), .int v1, .int v2] Λ d none z := by
  refine Cn.of (own := "SeasonBound$Odds") (by decide +kernel) rfl (Nat.le_of_ble_eq_true rfl) ?_
  intro p e s m below meth c C0 hr hlocks hH ls hl
  have hl : lv_has ls 6 [(0, .ref (ad Γ.2.2.1 p0)), (1, .int v1), (2, .int v2)] := hl
  obtain ⟨hx, hb, hml, hown, hts, hK⟩ := id C0
  unfold f_X2_spread at hf
  refine lv_aload_n hx hb dX2_spread_0 rfl (lv_at hl 0 rfl) ?_
  obtain ⟨q1, g1, hf⟩ := ob hf
  refine r_getr C0 hH fl_X2_9 g1 dX2_spread_1 ?_
  refine lv_lconst (v := (0 : Int64)) hx hb dX2_spread_4 (by decide) ?_
  obtain ⟨z2, h2, hf⟩ := ob hf
  refine r_callSv (rest := []) C0 hH (c_J7_fill_d0a16 Γ l Λ d q1 (0 : Int64) z2 h2) cs_X2_15 (by decide) rfl hl.1 rfl (Nat.le_of_ble_eq_true rfl) dX2_spread_5 (by decide) (fun H locs hH => ?_)
  refine lv_aload_n hx hb dX2_spread_8 rfl (lv_at hl 0 rfl) ?_
  refine r_getr C0 hH fl_X2_9 g1 dX2_spread_9 ?_
  refine lv_iconst (v := (0 : Int32)) hx hb dX2_spread_12 (by decide) ?_
  refine lv_lconst (v := (1 : Int64)) hx hb dX2_spread_13 (by decide) ?_
  obtain ⟨g3, hf⟩ := gd hf
  refine r_last C0 hH g3 dX2_spread_14 (fun H locs hH => ?_)
  refine lv_iload_n hx hb dX2_spread_15 rfl (lv_at hl 2 rfl) ?_
  refine lv_bipush (v := (8 : Int32)) hx hb dX2_spread_16 (by decide) ?_
  refine r_jmin C0 hl.1 ml_X2_21 (by decide) (Nat.le_of_ble_eq_true rfl) (by decide) dX2_spread_18 ?_
  refine lv_istore_n (lv' := [(3, .int (jmin v2 (8 : Int32))), (0, .ref (ad Γ.2.2.1 p0)), (1, .int v1), (2, .int v2)]) hx hb dX2_spread_21 rfl hl (by decide) rfl (fun ls hl => ?_)
  refine lv_iconst (v := (0 : Int32)) hx hb dX2_spread_22 (by decide) ?_
  refine lv_istore (lv' := [(4, .int (0 : Int32)), (3, .int (jmin v2 (8 : Int32))), (0, .ref (ad Γ.2.2.1 p0)), (1, .int v1), (2, .int v2)]) hx hb dX2_spread_23 hl (by decide) rfl (fun ls hl => ?_)
  refine w_X2_spread_L25 C0 hr hlocks p0 v1 (jmin v2 (8 : Int32)) FU (0 : Int32) (pJ z2 q1 ((0 : Int32)).toNatClampNeg (1 : Int64)) hf _ _ _ hH (lv_sub hl [2, 3, 1, 0] rfl)
theorem dX8_within_0 : decode cX8_within 0 = .ok (.iload_n 0, 1) := by decide +kernel
theorem dX8_within_1 : decode cX8_within 1 = .ok (.iload_n 1, 1) := by decide +kernel
theorem dX8_within_2 : decode cX8_within 2 = .ok (.if_icmp .lt 12, 3) := by decide +kernel
theorem dX8_within_5 : decode cX8_within 5 = .ok (.iload_n 0, 1) := by decide +kernel
theorem dX8_within_6 : decode cX8_within 6 = .ok (.iload_n 2, 1) := by decide +kernel
theorem dX8_within_7 : decode cX8_within 7 = .ok (.if_icmp .gt 7, 3) := by decide +kernel
theorem dX8_within_10 : decode cX8_within 10 = .ok (.iconst 1, 1) := by decide +kernel
theorem dX8_within_11 : decode cX8_within 11 = .ok (.goto 4, 3) := by decide +kernel
theorem dX8_within_14 : decode cX8_within 14 = .ok (.iconst 0, 1) := by decide +kernel
theorem dX8_within_15 : decode cX8_within 15 = .ok (.ireturn, 1) := by decide +kernel
def f_X8_within (v0 : Int32) (v1 : Int32) (v2 : Int32) : Int32 := if v0 < v1 then ((0 : Int32)) else (if v2 < v0 then ((0 : Int32)) else ((1 : Int32)))
theorem bo_X8_within (v0 : Int32) (v1 : Int32) (v2 : Int32) : f_X8_within v0 v1 v2 = 0 ∨ f_X8_within v0 v1 v2 = 1 := by
  unfold f_X8_within
  (repeat' split) <;> first | exact Or.inl rfl | exact Or.inr rfl
set_option maxHeartbeats 4000000 in
set_option maxRecDepth 100000 in
theorem c_X8_within (Γ : Cx) (l : Launch) (Λ : List Ly) (d : Dt) (v0 : Int32) (v1 : Int32) (v2 : Int32) : Cn Γ l yX8_within cX8_within 3 (some FieldType.boolean) 0 0 [.int v0, .int v1, .int v2] Λ d (some (.int (f_X8_within v0 v1 v2))) d := by
  generalize hf : f_X8_within v0 v1 v2 = z
  refine Cn.of (own := "SeasonBound") (by decide +kernel) rfl (Nat.le_of_ble_eq_true rfl) ?_
  intro p e s m below meth c C0 hr hlocks hH ls hl
  have hl : lv_has ls 3 [(0, .int v0), (1, .int v1), (2, .int v2)] := hl
  obtain ⟨hx, hb, hml, hown, hts, hK⟩ := id C0
  unfold f_X8_within at hf
  refine lv_iload_n hx hb dX8_within_0 rfl (lv_at hl 0 rfl) ?_
  refine lv_iload_n hx hb dX8_within_1 rfl (lv_at hl 1 rfl) ?_
  refine lv_icmp_lt (tgt := 14) hx hb dX8_within_2 (by decide) (fun c1 => ?_) (fun c1 => ?_)
  · replace hf := it hf c1
    refine lv_iconst (v := (0 : Int32)) hx hb dX8_within_14 (by decide) ?_
    subst hf
    exact r_iret (d' := d) C0 hr hlocks hH (nz (Or.inl rfl)) dX8_within_15
  · replace hf := ie hf c1
    refine lv_iload_n hx hb dX8_within_5 rfl (lv_at hl 0 rfl) ?_
    refine lv_iload_n hx hb dX8_within_6 rfl (lv_at hl 2 rfl) ?_
    refine lv_icmp_gt (tgt := 14) hx hb dX8_within_7 (by decide) (fun c2 => ?_) (fun c2 => ?_)
    · replace hf := it hf c2
      refine lv_iconst (v := (0 : Int32)) hx hb dX8_within_14 (by decide) ?_
      subst hf
      exact r_iret (d' := d) C0 hr hlocks hH (nz (Or.inl rfl)) dX8_within_15
    · replace hf := ie hf c2
      refine lv_iconst (v := (1 : Int32)) hx hb dX8_within_10 (by decide) ?_
      refine lv_goto (tgt := 15) hx hb dX8_within_11 (by decide) ?_
      subst hf
      exact r_iret (d' := d) C0 hr hlocks hH (nz (Or.inr rfl)) dX8_within_15
theorem dX2_of_0 : decode cX2_of 0 = .ok (.iload_n 1, 1) := by decide +kernel
theorem dX2_of_1 : decode cX2_of 1 = .ok (.iconst 0, 1) := by decide +kernel
theorem dX2_of_2 : decode cX2_of 2 = .ok (.bipush 8, 2) := by decide +kernel
theorem dX2_of_4 : decode cX2_of 4 = .ok (.invokestatic 27, 3) := by decide +kernel
theorem dX2_of_7 : decode cX2_of 7 = .ok (.ifCond .eq 12, 3) := by decide +kernel
theorem dX2_of_10 : decode cX2_of 10 = .ok (.aload_n 0, 1) := by decide +kernel
theorem dX2_of_11 : decode cX2_of 11 = .ok (.getfield 9, 3) := by decide +kernel
theorem dX2_of_14 : decode cX2_of 14 = .ok (.iload_n 1, 1) := by decide +kernel
theorem dX2_of_15 : decode cX2_of 15 = .ok (.laload, 1) := by decide +kernel
theorem dX2_of_16 : decode cX2_of 16 = .ok (.goto 4, 3) := by decide +kernel
theorem dX2_of_19 : decode cX2_of 19 = .ok (.lconst 0, 1) := by decide +kernel
theorem dX2_of_20 : decode cX2_of 20 = .ok (.lreturn, 1) := by decide +kernel
def f_X2_of (Λ : List Ly) (d : Dt) (p0 : Nat) (v1 : Int32) : Option Int64 := if (f_X8_within v1 (0 : Int32) (8 : Int32)) = 0 then (some (0 : Int64)) else (Option.bind (rf Λ p0 2 0) fun q2 => if okL Λ q2 v1 = true then (some (d.2 q2 (v1).toNatClampNeg)) else none)
set_option maxHeartbeats 4000000 in
set_option maxRecDepth 100000 in
theorem c_X2_of (Γ : Cx) (l : Launch) (Λ : List Ly) (d : Dt) (p0 : Nat) (v1 : Int32) (z : Int64) (hf : f_X2_of Λ d p0 v1 = some z) : Cn Γ l yX2_of cX2_of 2 (some FieldType.long) 1 22 [.ref (ad Γ.2.2.1 p0), .int v1] Λ d (some (.long z)) d := by
  refine Cn.of (own := "SeasonBound$Odds") (by decide +kernel) rfl (Nat.le_of_ble_eq_true rfl) ?_
  intro p e s m below meth c C0 hr hlocks hH ls hl
  have hl : lv_has ls 2 [(0, .ref (ad Γ.2.2.1 p0)), (1, .int v1)] := hl
  obtain ⟨hx, hb, hml, hown, hts, hK⟩ := id C0
  unfold f_X2_of at hf
  refine lv_iload_n hx hb dX2_of_0 rfl (lv_at hl 1 rfl) ?_
  refine lv_iconst (v := (0 : Int32)) hx hb dX2_of_1 (by decide) ?_
  refine lv_bipush (v := (8 : Int32)) hx hb dX2_of_2 (by decide) ?_
  refine r_callNi (rest := []) C0 hH (c_X8_within Γ l Λ d v1 (0 : Int32) (8 : Int32)) cn_X2_27 (by decide) rfl hl.1 rfl (Nat.le_of_ble_eq_true rfl) dX2_of_4 (by decide) (fun H locs hH => ?_)
  refine lv_if_eq (tgt := 19) hx hb dX2_of_7 (by decide) (fun c1 => ?_) (fun c1 => ?_)
  · replace hf := it hf c1
    refine lv_lconst (v := (0 : Int64)) hx hb dX2_of_19 (by decide) ?_
    obtain rfl := Option.some.inj hf
    exact r_lret C0 hr hlocks hH dX2_of_20
  · replace hf := ie hf c1
    refine lv_aload_n hx hb dX2_of_10 rfl (lv_at hl 0 rfl) ?_
    obtain ⟨q2, g2, hf⟩ := ob hf
    refine r_getr C0 hH fl_X2_9 g2 dX2_of_11 ?_
    refine lv_iload_n hx hb dX2_of_14 rfl (lv_at hl 1 rfl) ?_
    obtain ⟨g3, hf⟩ := gd hf
    refine r_lald C0 hH g3 dX2_of_15 ?_
    refine lv_goto (tgt := 20) hx hb dX2_of_16 (by decide) ?_
    obtain rfl := Option.some.inj hf
    exact r_lret C0 hr hlocks hH dX2_of_20
theorem dX4_renew_0 : decode cX4_renew 0 = .ok (.aload_n 0, 1) := by decide +kernel
theorem dX4_renew_1 : decode cX4_renew 1 = .ok (.iconst 3, 1) := by decide +kernel
theorem dX4_renew_2 : decode cX4_renew 2 = .ok (.putfield 9, 3) := by decide +kernel
theorem dX4_renew_5 : decode cX4_renew 5 = .ok (.aload_n 0, 1) := by decide +kernel
theorem dX4_renew_6 : decode cX4_renew 6 = .ok (.iconst 1, 1) := by decide +kernel
theorem dX4_renew_7 : decode cX4_renew 7 = .ok (.putfield 15, 3) := by decide +kernel
theorem dX4_renew_10 : decode cX4_renew 10 = .ok (.aload_n 0, 1) := by decide +kernel
theorem dX4_renew_11 : decode cX4_renew 11 = .ok (.bipush 99, 2) := by decide +kernel
theorem dX4_renew_13 : decode cX4_renew 13 = .ok (.putfield 18, 3) := by decide +kernel
theorem dX4_renew_16 : decode cX4_renew 16 = .ok (.return_, 1) := by decide +kernel
def f_X4_renew (Λ : List Ly) (d : Dt) (p0 : Nat) : Option Dt := if clsAt Λ p0 = some 4 then (some (pI (pI (pI d p0 0 (3 : Int32)) p0 1 (1 : Int32)) p0 2 (99 : Int32))) else none
set_option maxHeartbeats 4000000 in
set_option maxRecDepth 100000 in
theorem c_X4_renew (Γ : Cx) (l : Launch) (Λ : List Ly) (d : Dt) (p0 : Nat) (z : Dt) (hf : f_X4_renew Λ d p0 = some z) : Cn Γ l yX4_renew cX4_renew 1 none 0 0 [.ref (ad Γ.2.2.1 p0)] Λ d none z := by
  refine Cn.of (own := "SeasonBound$Season") (by decide +kernel) rfl (Nat.le_of_ble_eq_true rfl) ?_
  intro p e s m below meth c C0 hr hlocks hH ls hl
  have hl : lv_has ls 1 [(0, .ref (ad Γ.2.2.1 p0))] := hl
  obtain ⟨hx, hb, hml, hown, hts, hK⟩ := id C0
  unfold f_X4_renew at hf
  refine lv_aload_n hx hb dX4_renew_0 rfl (lv_at hl 0 rfl) ?_
  refine lv_iconst (v := (3 : Int32)) hx hb dX4_renew_1 (by decide) ?_
  obtain ⟨g1, hf⟩ := gd hf
  refine r_puti C0 hH fw_X4_9 g1 rfl dX4_renew_2 (fun H locs hH => ?_)
  refine lv_aload_n hx hb dX4_renew_5 rfl (lv_at hl 0 rfl) ?_
  refine lv_iconst (v := (1 : Int32)) hx hb dX4_renew_6 (by decide) ?_
  refine r_puti C0 hH fw_X4_15 g1 rfl dX4_renew_7 (fun H locs hH => ?_)
  refine lv_aload_n hx hb dX4_renew_10 rfl (lv_at hl 0 rfl) ?_
  refine lv_bipush (v := (99 : Int32)) hx hb dX4_renew_11 (by decide) ?_
  refine r_puti C0 hH fw_X4_18 g1 rfl dX4_renew_13 (fun H locs hH => ?_)
  obtain rfl := Option.some.inj hf
  exact r_vret C0 hr hlocks hH dX4_renew_16
theorem dX7_beginAtSpring_0 : decode cX7_beginAtSpring 0 = .ok (.aload_n 0, 1) := by decide +kernel
theorem dX7_beginAtSpring_1 : decode cX7_beginAtSpring 1 = .ok (.iconst 0, 1) := by decide +kernel
theorem dX7_beginAtSpring_2 : decode cX7_beginAtSpring 2 = .ok (.putfield 49, 3) := by decide +kernel
theorem dX7_beginAtSpring_5 : decode cX7_beginAtSpring 5 = .ok (.aload_n 0, 1) := by decide +kernel
theorem dX7_beginAtSpring_6 : decode cX7_beginAtSpring 6 = .ok (.aload_n 0, 1) := by decide +kernel
theorem dX7_beginAtSpring_7 : decode cX7_beginAtSpring 7 = .ok (.getfield 11, 3) := by decide +kernel
theorem dX7_beginAtSpring_10 : decode cX7_beginAtSpring 10 = .ok (.iconst 0, 1) := by decide +kernel
theorem dX7_beginAtSpring_11 : decode cX7_beginAtSpring 11 = .ok (.aaload, 1) := by decide +kernel
theorem dX7_beginAtSpring_12 : decode cX7_beginAtSpring 12 = .ok (.getfield 52, 3) := by decide +kernel
theorem dX7_beginAtSpring_15 : decode cX7_beginAtSpring 15 = .ok (.putfield 55, 3) := by decide +kernel
theorem dX7_beginAtSpring_18 : decode cX7_beginAtSpring 18 = .ok (.aload_n 0, 1) := by decide +kernel
theorem dX7_beginAtSpring_19 : decode cX7_beginAtSpring 19 = .ok (.iconst 0, 1) := by decide +kernel
theorem dX7_beginAtSpring_20 : decode cX7_beginAtSpring 20 = .ok (.putfield 58, 3) := by decide +kernel
theorem dX7_beginAtSpring_23 : decode cX7_beginAtSpring 23 = .ok (.return_, 1) := by decide +kernel
def f_X7_beginAtSpring (Λ : List Ly) (d : Dt) (p0 : Nat) : Option Dt := if clsAt Λ p0 = some 7 then (Option.bind (rf Λ p0 7 0) fun q2 => Option.bind (ra Λ q2 5 (0 : Int32)) fun q3 => if clsAt Λ q3 = some 4 then (some (pI (pI (pI d p0 3 (0 : Int32)) p0 4 ((pI d p0 3 (0 : Int32)).1 q3 0)) p0 5 (0 : Int32))) else none) else none
set_option maxHeartbeats 4000000 in
set_option maxRecDepth 100000 in
theorem c_X7_beginAtSpring (Γ : Cx) (l : Launch) (Λ : List Ly) (d : Dt) (p0 : Nat) (z : Dt) (hf : f_X7_beginAtSpring Λ d p0 = some z) : Cn Γ l yX7_beginAtSpring cX7_beginAtSpring 1 none 0 0 [.ref (ad Γ.2.2.1 p0)] Λ d none z := by
  refine Cn.of (own := "SeasonBound$World") (by decide +kernel) rfl (Nat.le_of_ble_eq_true rfl) ?_
  intro p e s m below meth c C0 hr hlocks hH ls hl
  have hl : lv_has ls 1 [(0, .ref (ad Γ.2.2.1 p0))] := hl
  obtain ⟨hx, hb, hml, hown, hts, hK⟩ := id C0
  unfold f_X7_beginAtSpring at hf
  refine lv_aload_n hx hb dX7_beginAtSpring_0 rfl (lv_at hl 0 rfl) ?_
  refine lv_iconst (v := (0 : Int32)) hx hb dX7_beginAtSpring_1 (by decide) ?_
  obtain ⟨g1, hf⟩ := gd hf
  refine r_puti C0 hH fw_X7_49 g1 rfl dX7_beginAtSpring_2 (fun H locs hH => ?_)
  refine lv_aload_n hx hb dX7_beginAtSpring_5 rfl (lv_at hl 0 rfl) ?_
  refine lv_aload_n hx hb dX7_beginAtSpring_6 rfl (lv_at hl 0 rfl) ?_
  obtain ⟨q2, g2, hf⟩ := ob hf
  refine r_getr C0 hH fl_X7_11 g2 dX7_beginAtSpring_7 ?_
  refine lv_iconst (v := (0 : Int32)) hx hb dX7_beginAtSpring_10 (by decide) ?_
  obtain ⟨q3, g3, hf⟩ := ob hf
  refine r_aald (C := "SeasonBound$Season") C0 hH g3 (by decide) rfl dX7_beginAtSpring_11 ?_
  obtain ⟨g4, hf⟩ := gd hf
  refine r_geti C0 hH fl_X7_52 g4 rfl dX7_beginAtSpring_12 ?_
  refine r_puti C0 hH fw_X7_55 g1 rfl dX7_beginAtSpring_15 (fun H locs hH => ?_)
  refine lv_aload_n hx hb dX7_beginAtSpring_18 rfl (lv_at hl 0 rfl) ?_
  refine lv_iconst (v := (0 : Int32)) hx hb dX7_beginAtSpring_19 (by decide) ?_
  refine r_puti C0 hH fw_X7_58 g1 rfl dX7_beginAtSpring_20 (fun H locs hH => ?_)
  obtain rfl := Option.some.inj hf
  exact r_vret C0 hr hlocks hH dX7_beginAtSpring_23
theorem dX7_renew_0 : decode cX7_renew 0 = .ok (.iconst 0, 1) := by decide +kernel
theorem dX7_renew_1 : decode cX7_renew 1 = .ok (.istore_n 1, 1) := by decide +kernel
theorem dX7_renew_2 : decode cX7_renew 2 = .ok (.iload_n 1, 1) := by decide +kernel
theorem dX7_renew_3 : decode cX7_renew 3 = .ok (.iconst 4, 1) := by decide +kernel
theorem dX7_renew_4 : decode cX7_renew 4 = .ok (.if_icmp .ge 18, 3) := by decide +kernel
theorem dX7_renew_7 : decode cX7_renew 7 = .ok (.aload_n 0, 1) := by decide +kernel
theorem dX7_renew_8 : decode cX7_renew 8 = .ok (.getfield 11, 3) := by decide +kernel
theorem dX7_renew_11 : decode cX7_renew 11 = .ok (.iload_n 1, 1) := by decide +kernel
theorem dX7_renew_12 : decode cX7_renew 12 = .ok (.aaload, 1) := by decide +kernel
theorem dX7_renew_13 : decode cX7_renew 13 = .ok (.invokevirtual 38, 3) := by decide +kernel
theorem dX7_renew_16 : decode cX7_renew 16 = .ok (.iinc 1 1, 3) := by decide +kernel
theorem dX7_renew_19 : decode cX7_renew 19 = .ok (.goto (-17), 3) := by decide +kernel
theorem dX7_renew_22 : decode cX7_renew 22 = .ok (.aload_n 0, 1) := by decide +kernel
theorem dX7_renew_23 : decode cX7_renew 23 = .ok (.iconst 0, 1) := by decide +kernel
theorem dX7_renew_24 : decode cX7_renew 24 = .ok (.putfield 39, 3) := by decide +kernel
theorem dX7_renew_27 : decode cX7_renew 27 = .ok (.aload_n 0, 1) := by decide +kernel
theorem dX7_renew_28 : decode cX7_renew 28 = .ok (.iconst 0, 1) := by decide +kernel
theorem dX7_renew_29 : decode cX7_renew 29 = .ok (.putfield 43, 3) := by decide +kernel
theorem dX7_renew_32 : decode cX7_renew 32 = .ok (.aload_n 0, 1) := by decide +kernel
theorem dX7_renew_33 : decode cX7_renew 33 = .ok (.invokevirtual 46, 3) := by decide +kernel
theorem dX7_renew_36 : decode cX7_renew 36 = .ok (.return_, 1) := by decide +kernel
def f_X7_renew_L2 (Λ : List Ly) (p0 : Nat) : Nat → Int32 → Dt → Option Dt
  | 0, _, _ => none
  | n + 1, v1, d => if (4 : Int32) ≤ v1 then (if clsAt Λ p0 = some 7 then (Option.bind (f_X7_beginAtSpring Λ (pI (pI d p0 2 (0 : Int32)) p0 9 (0 : Int32)) p0) fun z3 => some z3) else none) else (Option.bind (rf Λ p0 7 0) fun q4 => Option.bind (ra Λ q4 5 v1) fun q5 => if clsAt Λ q5 = some 4 then (Option.bind (f_X4_renew Λ d q5) fun z7 => f_X7_renew_L2 Λ p0 n (v1 + (1 : Int32)) z7) else none)
def f_X7_renew (Λ : List Ly) (d : Dt) (p0 : Nat) : Option Dt := f_X7_renew_L2 Λ p0 FU (0 : Int32) d
set_option maxHeartbeats 4000000 in
set_option maxRecDepth 100000 in
theorem w_X7_renew_L2 {p : Program} {l : Launch} {e : Env} {s : State} {m : MethodId} {args : Array Value} {below : List Frame} {meth : Method} {c : Code} {Γ : Cx} {Λ : List Ly} {z : Dt} (C0 : Ct Γ p s m args c cX7_renew 2 "SeasonBound$World") (hr : meth.sig.returnType = none) (hlocks : meth.locks = false) (p0 : Nat) :
    ∀ (n : Nat) (v1 : Int32) (d : Dt), f_X7_renew_L2 Λ p0 n v1 d = some z → ∀ (H : Heap) (locs : List Loc) (ls : Array Slot), Hs Γ Λ d s H locs → lv_has ls 2 [(0, .ref (ad Γ.2.2.1 p0)), (1, .int v1)] → W p l e { frames := 1, cells := 0, slots := 0, locals := 20 } s m args below meth c H locs 0 0 (MQ below (QN Γ Λ z none) args s 0 0 (AP Γ)) (F0 m 2 ls []) := by
  obtain ⟨hx, hb, hml, hown, hts, hK⟩ := id C0
  intro n
  induction n with
  | zero =>
    intro v1 d hf
    cases hf
  | succ n ih =>
    intro v1 d hf H locs ls hH hl
    unfold f_X7_renew_L2 at hf
    refine lv_iload_n hx hb dX7_renew_2 rfl (lv_at hl 1 rfl) ?_
    refine lv_iconst (v := (4 : Int32)) hx hb dX7_renew_3 (by decide) ?_
    refine lv_icmp_ge (tgt := 22) hx hb dX7_renew_4 (by decide) (fun c1 => ?_) (fun c1 => ?_)
    · replace hf := it hf c1
      refine lv_aload_n hx hb dX7_renew_22 rfl (lv_at hl 0 rfl) ?_
      refine lv_iconst (v := (0 : Int32)) hx hb dX7_renew_23 (by decide) ?_
      obtain ⟨g2, hf⟩ := gd hf
      refine r_puti C0 hH fw_X7_39 g2 rfl dX7_renew_24 (fun H locs hH => ?_)
      refine lv_aload_n hx hb dX7_renew_27 rfl (lv_at hl 0 rfl) ?_
      refine lv_iconst (v := (0 : Int32)) hx hb dX7_renew_28 (by decide) ?_
      refine r_puti C0 hH fw_X7_43 g2 rfl dX7_renew_29 (fun H locs hH => ?_)
      refine lv_aload_n hx hb dX7_renew_32 rfl (lv_at hl 0 rfl) ?_
      obtain ⟨z3, h3, hf⟩ := ob hf
      refine r_callVv (rest := []) C0 hH (c_X7_beginAtSpring Γ l Λ (pI (pI d p0 2 (0 : Int32)) p0 9 (0 : Int32)) p0 z3 h3) cv_X7_46 g2 (by decide) rfl hl.1 rfl (Nat.le_of_ble_eq_true rfl) dX7_renew_33 (by decide) (fun H locs hH => ?_)
      obtain rfl := Option.some.inj hf
      exact r_vret C0 hr hlocks hH dX7_renew_36
    · replace hf := ie hf c1
      refine lv_aload_n hx hb dX7_renew_7 rfl (lv_at hl 0 rfl) ?_
      obtain ⟨q4, g4, hf⟩ := ob hf
      refine r_getr C0 hH fl_X7_11 g4 dX7_renew_8 ?_
      refine lv_iload_n hx hb dX7_renew_11 rfl (lv_at hl 1 rfl) ?_
      obtain ⟨q5, g5, hf⟩ := ob hf
      refine r_aald (C := "SeasonBound$Season") C0 hH g5 (by decide) rfl dX7_renew_12 ?_
      obtain ⟨g6, hf⟩ := gd hf
      obtain ⟨z7, h7, hf⟩ := ob hf
      refine r_callVv (rest := []) C0 hH (c_X4_renew Γ l Λ d q5 z7 h7) cv_X7_38 g6 (by decide) rfl hl.1 rfl (Nat.le_of_ble_eq_true rfl) dX7_renew_13 (by decide) (fun H locs hH => ?_)
      refine lv_iinc (v := (v1 + (1 : Int32))) (lv' := [(1, .int (v1 + (1 : Int32))), (0, .ref (ad Γ.2.2.1 p0))]) hx hb dX7_renew_16 hl (k := 1) rfl (congrArg (fun w => v1 + w) (by decide)) (by decide) rfl (fun ls hl => ?_)
      refine lv_goto (tgt := 2) hx hb dX7_renew_19 (by decide) ?_
      exact ih (v1 + (1 : Int32)) z7 hf _ _ _ hH (lv_sub hl [1, 0] rfl)
set_option maxHeartbeats 4000000 in
set_option maxRecDepth 100000 in
theorem c_X7_renew (Γ : Cx) (l : Launch) (Λ : List Ly) (d : Dt) (p0 : Nat) (z : Dt) (hf : f_X7_renew Λ d p0 = some z) : Cn Γ l yX7_renew cX7_renew 2 none 1 20 [.ref (ad Γ.2.2.1 p0)] Λ d none z := by
  refine Cn.of (own := "SeasonBound$World") (by decide +kernel) rfl (Nat.le_of_ble_eq_true rfl) ?_
  intro p e s m below meth c C0 hr hlocks hH ls hl
  have hl : lv_has ls 2 [(0, .ref (ad Γ.2.2.1 p0))] := hl
  obtain ⟨hx, hb, hml, hown, hts, hK⟩ := id C0
  unfold f_X7_renew at hf
  refine lv_iconst (v := (0 : Int32)) hx hb dX7_renew_0 (by decide) ?_
  refine lv_istore_n (lv' := [(1, .int (0 : Int32)), (0, .ref (ad Γ.2.2.1 p0))]) hx hb dX7_renew_1 rfl hl (by decide) rfl (fun ls hl => ?_)
  refine w_X7_renew_L2 C0 hr hlocks p0 FU (0 : Int32) d hf _ _ _ hH (lv_sub hl [1, 0] rfl)
theorem dX6_rewind_0 : decode cX6_rewind 0 = .ok (.aload_n 0, 1) := by decide +kernel
theorem dX6_rewind_1 : decode cX6_rewind 1 = .ok (.iconst 0, 1) := by decide +kernel
theorem dX6_rewind_2 : decode cX6_rewind 2 = .ok (.putfield 19, 3) := by decide +kernel
theorem dX6_rewind_5 : decode cX6_rewind 5 = .ok (.return_, 1) := by decide +kernel
def f_X6_rewind (Λ : List Ly) (d : Dt) (p0 : Nat) : Option Dt := if clsAt Λ p0 = some 6 then (some (pI d p0 5 (0 : Int32))) else none
set_option maxHeartbeats 4000000 in
set_option maxRecDepth 100000 in
theorem c_X6_rewind (Γ : Cx) (l : Launch) (Λ : List Ly) (d : Dt) (p0 : Nat) (z : Dt) (hf : f_X6_rewind Λ d p0 = some z) : Cn Γ l yX6_rewind cX6_rewind 1 none 0 0 [.ref (ad Γ.2.2.1 p0)] Λ d none z := by
  refine Cn.of (own := "SeasonBound$Tape") (by decide +kernel) rfl (Nat.le_of_ble_eq_true rfl) ?_
  intro p e s m below meth c C0 hr hlocks hH ls hl
  have hl : lv_has ls 1 [(0, .ref (ad Γ.2.2.1 p0))] := hl
  obtain ⟨hx, hb, hml, hown, hts, hK⟩ := id C0
  unfold f_X6_rewind at hf
  refine lv_aload_n hx hb dX6_rewind_0 rfl (lv_at hl 0 rfl) ?_
  refine lv_iconst (v := (0 : Int32)) hx hb dX6_rewind_1 (by decide) ?_
  obtain ⟨g1, hf⟩ := gd hf
  refine r_puti C0 hH fw_X6_19 g1 rfl dX6_rewind_2 (fun H locs hH => ?_)
  obtain rfl := Option.some.inj hf
  exact r_vret C0 hr hlocks hH dX6_rewind_5
theorem dX6_isLetter_0 : decode cX6_isLetter 0 = .ok (.iload_n 0, 1) := by decide +kernel
theorem dX6_isLetter_1 : decode cX6_isLetter 1 = .ok (.bipush 97, 2) := by decide +kernel
theorem dX6_isLetter_3 : decode cX6_isLetter 3 = .ok (.if_icmp .lt 13, 3) := by decide +kernel
theorem dX6_isLetter_6 : decode cX6_isLetter 6 = .ok (.iload_n 0, 1) := by decide +kernel
theorem dX6_isLetter_7 : decode cX6_isLetter 7 = .ok (.bipush 122, 2) := by decide +kernel
theorem dX6_isLetter_9 : decode cX6_isLetter 9 = .ok (.if_icmp .gt 7, 3) := by decide +kernel
theorem dX6_isLetter_12 : decode cX6_isLetter 12 = .ok (.iconst 1, 1) := by decide +kernel
theorem dX6_isLetter_13 : decode cX6_isLetter 13 = .ok (.goto 4, 3) := by decide +kernel
theorem dX6_isLetter_16 : decode cX6_isLetter 16 = .ok (.iconst 0, 1) := by decide +kernel
theorem dX6_isLetter_17 : decode cX6_isLetter 17 = .ok (.ireturn, 1) := by decide +kernel
def f_X6_isLetter (v0 : Int32) : Int32 := if v0 < (97 : Int32) then ((0 : Int32)) else (if (122 : Int32) < v0 then ((0 : Int32)) else ((1 : Int32)))
theorem bo_X6_isLetter (v0 : Int32) : f_X6_isLetter v0 = 0 ∨ f_X6_isLetter v0 = 1 := by
  unfold f_X6_isLetter
  (repeat' split) <;> first | exact Or.inl rfl | exact Or.inr rfl
set_option maxHeartbeats 4000000 in
set_option maxRecDepth 100000 in
theorem c_X6_isLetter (Γ : Cx) (l : Launch) (Λ : List Ly) (d : Dt) (v0 : Int32) : Cn Γ l yX6_isLetter cX6_isLetter 1 (some FieldType.boolean) 0 0 [.int v0] Λ d (some (.int (f_X6_isLetter v0))) d := by
  generalize hf : f_X6_isLetter v0 = z
  refine Cn.of (own := "SeasonBound$Tape") (by decide +kernel) rfl (Nat.le_of_ble_eq_true rfl) ?_
  intro p e s m below meth c C0 hr hlocks hH ls hl
  have hl : lv_has ls 1 [(0, .int v0)] := hl
  obtain ⟨hx, hb, hml, hown, hts, hK⟩ := id C0
  unfold f_X6_isLetter at hf
  refine lv_iload_n hx hb dX6_isLetter_0 rfl (lv_at hl 0 rfl) ?_
  refine lv_bipush (v := (97 : Int32)) hx hb dX6_isLetter_1 (by decide) ?_
  refine lv_icmp_lt (tgt := 16) hx hb dX6_isLetter_3 (by decide) (fun c1 => ?_) (fun c1 => ?_)
  · replace hf := it hf c1
    refine lv_iconst (v := (0 : Int32)) hx hb dX6_isLetter_16 (by decide) ?_
    subst hf
    exact r_iret (d' := d) C0 hr hlocks hH (nz (Or.inl rfl)) dX6_isLetter_17
  · replace hf := ie hf c1
    refine lv_iload_n hx hb dX6_isLetter_6 rfl (lv_at hl 0 rfl) ?_
    refine lv_bipush (v := (122 : Int32)) hx hb dX6_isLetter_7 (by decide) ?_
    refine lv_icmp_gt (tgt := 16) hx hb dX6_isLetter_9 (by decide) (fun c2 => ?_) (fun c2 => ?_)
    · replace hf := it hf c2
      refine lv_iconst (v := (0 : Int32)) hx hb dX6_isLetter_16 (by decide) ?_
      subst hf
      exact r_iret (d' := d) C0 hr hlocks hH (nz (Or.inl rfl)) dX6_isLetter_17
    · replace hf := ie hf c2
      refine lv_iconst (v := (1 : Int32)) hx hb dX6_isLetter_12 (by decide) ?_
      refine lv_goto (tgt := 17) hx hb dX6_isLetter_13 (by decide) ?_
      subst hf
      exact r_iret (d' := d) C0 hr hlocks hH (nz (Or.inr rfl)) dX6_isLetter_17
theorem dX6_readName_0 : decode cX6_readName 0 = .ok (.aload_n 0, 1) := by decide +kernel
theorem dX6_readName_1 : decode cX6_readName 1 = .ok (.getfield 19, 3) := by decide +kernel
theorem dX6_readName_4 : decode cX6_readName 4 = .ok (.aload_n 0, 1) := by decide +kernel
theorem dX6_readName_5 : decode cX6_readName 5 = .ok (.getfield 15, 3) := by decide +kernel
theorem dX6_readName_8 : decode cX6_readName 8 = .ok (.if_icmp .ge 31, 3) := by decide +kernel
theorem dX6_readName_11 : decode cX6_readName 11 = .ok (.aload_n 0, 1) := by decide +kernel
theorem dX6_readName_12 : decode cX6_readName 12 = .ok (.getfield 9, 3) := by decide +kernel
theorem dX6_readName_15 : decode cX6_readName 15 = .ok (.aload_n 0, 1) := by decide +kernel
theorem dX6_readName_16 : decode cX6_readName 16 = .ok (.getfield 19, 3) := by decide +kernel
theorem dX6_readName_19 : decode cX6_readName 19 = .ok (.baload, 1) := by decide +kernel
theorem dX6_readName_20 : decode cX6_readName 20 = .ok (.invokestatic 28, 3) := by decide +kernel
theorem dX6_readName_23 : decode cX6_readName 23 = .ok (.ifCond .eq 16, 3) := by decide +kernel
theorem dX6_readName_26 : decode cX6_readName 26 = .ok (.aload_n 0, 1) := by decide +kernel
theorem dX6_readName_27 : decode cX6_readName 27 = .ok (.dup, 1) := by decide +kernel
theorem dX6_readName_28 : decode cX6_readName 28 = .ok (.getfield 19, 3) := by decide +kernel
theorem dX6_readName_31 : decode cX6_readName 31 = .ok (.iconst 1, 1) := by decide +kernel
theorem dX6_readName_32 : decode cX6_readName 32 = .ok (.iadd, 1) := by decide +kernel
theorem dX6_readName_33 : decode cX6_readName 33 = .ok (.putfield 19, 3) := by decide +kernel
theorem dX6_readName_36 : decode cX6_readName 36 = .ok (.goto (-36), 3) := by decide +kernel
theorem dX6_readName_39 : decode cX6_readName 39 = .ok (.aload_n 0, 1) := by decide +kernel
theorem dX6_readName_40 : decode cX6_readName 40 = .ok (.iconst 2, 1) := by decide +kernel
theorem dX6_readName_41 : decode cX6_readName 41 = .ok (.putfield 25, 3) := by decide +kernel
theorem dX6_readName_44 : decode cX6_readName 44 = .ok (.return_, 1) := by decide +kernel
def f_X6_readName_L0 (Λ : List Ly) (p0 : Nat) : Nat → Dt → Option Dt
  | 0, _ => none
  | n + 1, d => if clsAt Λ p0 = some 6 then (if (d.1 p0 1) ≤ (d.1 p0 5) then (some (pI d p0 2 (2 : Int32))) else (Option.bind (rf Λ p0 6 0) fun q3 => if okA Λ q3 0 (d.1 p0 5) = true then (if (f_X6_isLetter (d.1 q3 ((d.1 p0 5)).toNatClampNeg)) = 0 then (some (pI d p0 2 (2 : Int32))) else (f_X6_readName_L0 Λ p0 n (pI d p0 5 ((d.1 p0 5) + (1 : Int32))))) else none)) else none
def f_X6_readName (Λ : List Ly) (d : Dt) (p0 : Nat) : Option Dt := f_X6_readName_L0 Λ p0 FU d
set_option maxHeartbeats 4000000 in
set_option maxRecDepth 100000 in
theorem w_X6_readName_L0 {p : Program} {l : Launch} {e : Env} {s : State} {m : MethodId} {args : Array Value} {below : List Frame} {meth : Method} {c : Code} {Γ : Cx} {Λ : List Ly} {z : Dt} (C0 : Ct Γ p s m args c cX6_readName 1 "SeasonBound$Tape") (hr : meth.sig.returnType = none) (hlocks : meth.locks = false) (p0 : Nat) :
    ∀ (n : Nat)  (d : Dt), f_X6_readName_L0 Λ p0 n d = some z → ∀ (H : Heap) (locs : List Loc) (ls : Array Slot), Hs Γ Λ d s H locs → lv_has ls 1 [(0, .ref (ad Γ.2.2.1 p0))] → W p l e { frames := 1, cells := 0, slots := 0, locals := 20 } s m args below meth c H locs 0 0 (MQ below (QN Γ Λ z none) args s 0 0 (AP Γ)) (F0 m 0 ls []) := by
  obtain ⟨hx, hb, hml, hown, hts, hK⟩ := id C0
  intro n
  induction n with
  | zero =>
    intro d hf
    cases hf
  | succ n ih =>
    intro d hf H locs ls hH hl
    unfold f_X6_readName_L0 at hf
    refine lv_aload_n hx hb dX6_readName_0 rfl (lv_at hl 0 rfl) ?_
    obtain ⟨g1, hf⟩ := gd hf
    refine r_geti C0 hH fl_X6_19 g1 rfl dX6_readName_1 ?_
    refine lv_aload_n hx hb dX6_readName_4 rfl (lv_at hl 0 rfl) ?_
    refine r_geti C0 hH fl_X6_15 g1 rfl dX6_readName_5 ?_
    refine lv_icmp_ge (tgt := 39) hx hb dX6_readName_8 (by decide) (fun c2 => ?_) (fun c2 => ?_)
    · replace hf := it hf c2
      refine lv_aload_n hx hb dX6_readName_39 rfl (lv_at hl 0 rfl) ?_
      refine lv_iconst (v := (2 : Int32)) hx hb dX6_readName_40 (by decide) ?_
      refine r_puti C0 hH fw_X6_25 g1 rfl dX6_readName_41 (fun H locs hH => ?_)
      obtain rfl := Option.some.inj hf
      exact r_vret C0 hr hlocks hH dX6_readName_44
    · replace hf := ie hf c2
      refine lv_aload_n hx hb dX6_readName_11 rfl (lv_at hl 0 rfl) ?_
      obtain ⟨q3, g3, hf⟩ := ob hf
      refine r_getr C0 hH fl_X6_9 g3 dX6_readName_12 ?_
      refine lv_aload_n hx hb dX6_readName_15 rfl (lv_at hl 0 rfl) ?_
      refine r_geti C0 hH fl_X6_19 g1 rfl dX6_readName_16 ?_
      obtain ⟨g4, hf⟩ := gd hf
      refine r_bald C0 hH g4 dX6_readName_19 ?_
      refine r_callSi (rest := []) C0 hH (c_X6_isLetter Γ l Λ d (d.1 q3 ((d.1 p0 5)).toNatClampNeg)) cs_X6_28 (by decide) rfl hl.1 rfl (Nat.le_of_ble_eq_true rfl) dX6_readName_20 (by decide) (fun H locs hH => ?_)
      refine lv_if_eq (tgt := 39) hx hb dX6_readName_23 (by decide) (fun c5 => ?_) (fun c5 => ?_)
      · replace hf := it hf c5
        refine lv_aload_n hx hb dX6_readName_39 rfl (lv_at hl 0 rfl) ?_
        refine lv_iconst (v := (2 : Int32)) hx hb dX6_readName_40 (by decide) ?_
        refine r_puti C0 hH fw_X6_25 g1 rfl dX6_readName_41 (fun H locs hH => ?_)
        obtain rfl := Option.some.inj hf
        exact r_vret C0 hr hlocks hH dX6_readName_44
      · replace hf := ie hf c5
        refine lv_aload_n hx hb dX6_readName_26 rfl (lv_at hl 0 rfl) ?_
        refine lv_dup hx hb dX6_readName_27 rfl ?_
        refine r_geti C0 hH fl_X6_19 g1 rfl dX6_readName_28 ?_
        refine lv_iconst (v := (1 : Int32)) hx hb dX6_readName_31 (by decide) ?_
        refine lv_iadd hx hb dX6_readName_32 ?_
        refine r_puti C0 hH fw_X6_19 g1 rfl dX6_readName_33 (fun H locs hH => ?_)
        refine lv_goto (tgt := 0) hx hb dX6_readName_36 (by decide) ?_
        exact ih (pI d p0 5 ((d.1 p0 5) + (1 : Int32))) hf _ _ _ hH (lv_sub hl [0] rfl)
set_option maxHeartbeats 4000000 in
set_option maxRecDepth 100000 in
theorem c_X6_readName (Γ : Cx) (l : Launch) (Λ : List Ly) (d : Dt) (p0 : Nat) (z : Dt) (hf : f_X6_readName Λ d p0 = some z) : Cn Γ l yX6_readName cX6_readName 1 none 1 20 [.ref (ad Γ.2.2.1 p0)] Λ d none z := by
  refine Cn.of (own := "SeasonBound$Tape") (by decide +kernel) rfl (Nat.le_of_ble_eq_true rfl) ?_
  intro p e s m below meth c C0 hr hlocks hH ls hl
  have hl : lv_has ls 1 [(0, .ref (ad Γ.2.2.1 p0))] := hl
  obtain ⟨hx, hb, hml, hown, hts, hK⟩ := id C0
  unfold f_X6_readName at hf
  refine w_X6_readName_L0 C0 hr hlocks p0 FU d hf _ _ _ hH (lv_sub hl [0] rfl)
theorem dX6_isFigure_0 : decode cX6_isFigure 0 = .ok (.iload_n 0, 1) := by decide +kernel
theorem dX6_isFigure_1 : decode cX6_isFigure 1 = .ok (.bipush 48, 2) := by decide +kernel
theorem dX6_isFigure_3 : decode cX6_isFigure 3 = .ok (.if_icmp .lt 13, 3) := by decide +kernel
theorem dX6_isFigure_6 : decode cX6_isFigure 6 = .ok (.iload_n 0, 1) := by decide +kernel
theorem dX6_isFigure_7 : decode cX6_isFigure 7 = .ok (.bipush 57, 2) := by decide +kernel
theorem dX6_isFigure_9 : decode cX6_isFigure 9 = .ok (.if_icmp .gt 7, 3) := by decide +kernel
theorem dX6_isFigure_12 : decode cX6_isFigure 12 = .ok (.iconst 1, 1) := by decide +kernel
theorem dX6_isFigure_13 : decode cX6_isFigure 13 = .ok (.goto 4, 3) := by decide +kernel
theorem dX6_isFigure_16 : decode cX6_isFigure 16 = .ok (.iconst 0, 1) := by decide +kernel
theorem dX6_isFigure_17 : decode cX6_isFigure 17 = .ok (.ireturn, 1) := by decide +kernel
def f_X6_isFigure (v0 : Int32) : Int32 := if v0 < (48 : Int32) then ((0 : Int32)) else (if (57 : Int32) < v0 then ((0 : Int32)) else ((1 : Int32)))
theorem bo_X6_isFigure (v0 : Int32) : f_X6_isFigure v0 = 0 ∨ f_X6_isFigure v0 = 1 := by
  unfold f_X6_isFigure
  (repeat' split) <;> first | exact Or.inl rfl | exact Or.inr rfl
set_option maxHeartbeats 4000000 in
set_option maxRecDepth 100000 in
theorem c_X6_isFigure (Γ : Cx) (l : Launch) (Λ : List Ly) (d : Dt) (v0 : Int32) : Cn Γ l yX6_isFigure cX6_isFigure 1 (some FieldType.boolean) 0 0 [.int v0] Λ d (some (.int (f_X6_isFigure v0))) d := by
  generalize hf : f_X6_isFigure v0 = z
  refine Cn.of (own := "SeasonBound$Tape") (by decide +kernel) rfl (Nat.le_of_ble_eq_true rfl) ?_
  intro p e s m below meth c C0 hr hlocks hH ls hl
  have hl : lv_has ls 1 [(0, .int v0)] := hl
  obtain ⟨hx, hb, hml, hown, hts, hK⟩ := id C0
  unfold f_X6_isFigure at hf
  refine lv_iload_n hx hb dX6_isFigure_0 rfl (lv_at hl 0 rfl) ?_
  refine lv_bipush (v := (48 : Int32)) hx hb dX6_isFigure_1 (by decide) ?_
  refine lv_icmp_lt (tgt := 16) hx hb dX6_isFigure_3 (by decide) (fun c1 => ?_) (fun c1 => ?_)
  · replace hf := it hf c1
    refine lv_iconst (v := (0 : Int32)) hx hb dX6_isFigure_16 (by decide) ?_
    subst hf
    exact r_iret (d' := d) C0 hr hlocks hH (nz (Or.inl rfl)) dX6_isFigure_17
  · replace hf := ie hf c1
    refine lv_iload_n hx hb dX6_isFigure_6 rfl (lv_at hl 0 rfl) ?_
    refine lv_bipush (v := (57 : Int32)) hx hb dX6_isFigure_7 (by decide) ?_
    refine lv_icmp_gt (tgt := 16) hx hb dX6_isFigure_9 (by decide) (fun c2 => ?_) (fun c2 => ?_)
    · replace hf := it hf c2
      refine lv_iconst (v := (0 : Int32)) hx hb dX6_isFigure_16 (by decide) ?_
      subst hf
      exact r_iret (d' := d) C0 hr hlocks hH (nz (Or.inl rfl)) dX6_isFigure_17
    · replace hf := ie hf c2
      refine lv_iconst (v := (1 : Int32)) hx hb dX6_isFigure_12 (by decide) ?_
      refine lv_goto (tgt := 17) hx hb dX6_isFigure_13 (by decide) ?_
      subst hf
      exact r_iret (d' := d) C0 hr hlocks hH (nz (Or.inr rfl)) dX6_isFigure_17
theorem dX6_readNumber_0 : decode cX6_readNumber 0 = .ok (.aload_n 0, 1) := by decide +kernel
theorem dX6_readNumber_1 : decode cX6_readNumber 1 = .ok (.iconst 0, 1) := by decide +kernel
theorem dX6_readNumber_2 : decode cX6_readNumber 2 = .ok (.putfield 41, 3) := by decide +kernel
theorem dX6_readNumber_5 : decode cX6_readNumber 5 = .ok (.aload_n 0, 1) := by decide +kernel
theorem dX6_readNumber_6 : decode cX6_readNumber 6 = .ok (.getfield 19, 3) := by decide +kernel
theorem dX6_readNumber_9 : decode cX6_readNumber 9 = .ok (.aload_n 0, 1) := by decide +kernel
theorem dX6_readNumber_10 : decode cX6_readNumber 10 = .ok (.getfield 15, 3) := by decide +kernel
theorem dX6_readNumber_13 : decode cX6_readNumber 13 = .ok (.if_icmp .ge 55, 3) := by decide +kernel
theorem dX6_readNumber_16 : decode cX6_readNumber 16 = .ok (.aload_n 0, 1) := by decide +kernel
theorem dX6_readNumber_17 : decode cX6_readNumber 17 = .ok (.getfield 9, 3) := by decide +kernel
theorem dX6_readNumber_20 : decode cX6_readNumber 20 = .ok (.aload_n 0, 1) := by decide +kernel
theorem dX6_readNumber_21 : decode cX6_readNumber 21 = .ok (.getfield 19, 3) := by decide +kernel
theorem dX6_readNumber_24 : decode cX6_readNumber 24 = .ok (.baload, 1) := by decide +kernel
theorem dX6_readNumber_25 : decode cX6_readNumber 25 = .ok (.invokestatic 35, 3) := by decide +kernel
theorem dX6_readNumber_28 : decode cX6_readNumber 28 = .ok (.ifCond .eq 40, 3) := by decide +kernel
theorem dX6_readNumber_31 : decode cX6_readNumber 31 = .ok (.aload_n 0, 1) := by decide +kernel
theorem dX6_readNumber_32 : decode cX6_readNumber 32 = .ok (.bipush 10, 2) := by decide +kernel
theorem dX6_readNumber_34 : decode cX6_readNumber 34 = .ok (.aload_n 0, 1) := by decide +kernel
theorem dX6_readNumber_35 : decode cX6_readNumber 35 = .ok (.getfield 41, 3) := by decide +kernel
theorem dX6_readNumber_38 : decode cX6_readNumber 38 = .ok (.imul, 1) := by decide +kernel
theorem dX6_readNumber_39 : decode cX6_readNumber 39 = .ok (.aload_n 0, 1) := by decide +kernel
theorem dX6_readNumber_40 : decode cX6_readNumber 40 = .ok (.getfield 9, 3) := by decide +kernel
theorem dX6_readNumber_43 : decode cX6_readNumber 43 = .ok (.aload_n 0, 1) := by decide +kernel
theorem dX6_readNumber_44 : decode cX6_readNumber 44 = .ok (.getfield 19, 3) := by decide +kernel
theorem dX6_readNumber_47 : decode cX6_readNumber 47 = .ok (.baload, 1) := by decide +kernel
theorem dX6_readNumber_48 : decode cX6_readNumber 48 = .ok (.iadd, 1) := by decide +kernel
theorem dX6_readNumber_49 : decode cX6_readNumber 49 = .ok (.bipush 48, 2) := by decide +kernel
theorem dX6_readNumber_51 : decode cX6_readNumber 51 = .ok (.isub, 1) := by decide +kernel
theorem dX6_readNumber_52 : decode cX6_readNumber 52 = .ok (.putfield 41, 3) := by decide +kernel
theorem dX6_readNumber_55 : decode cX6_readNumber 55 = .ok (.aload_n 0, 1) := by decide +kernel
theorem dX6_readNumber_56 : decode cX6_readNumber 56 = .ok (.dup, 1) := by decide +kernel
theorem dX6_readNumber_57 : decode cX6_readNumber 57 = .ok (.getfield 19, 3) := by decide +kernel
theorem dX6_readNumber_60 : decode cX6_readNumber 60 = .ok (.iconst 1, 1) := by decide +kernel
theorem dX6_readNumber_61 : decode cX6_readNumber 61 = .ok (.iadd, 1) := by decide +kernel
theorem dX6_readNumber_62 : decode cX6_readNumber 62 = .ok (.putfield 19, 3) := by decide +kernel
theorem dX6_readNumber_65 : decode cX6_readNumber 65 = .ok (.goto (-60), 3) := by decide +kernel
theorem dX6_readNumber_68 : decode cX6_readNumber 68 = .ok (.aload_n 0, 1) := by decide +kernel
theorem dX6_readNumber_69 : decode cX6_readNumber 69 = .ok (.aload_n 0, 1) := by decide +kernel
theorem dX6_readNumber_70 : decode cX6_readNumber 70 = .ok (.getfield 19, 3) := by decide +kernel
theorem dX6_readNumber_73 : decode cX6_readNumber 73 = .ok (.aload_n 0, 1) := by decide +kernel
theorem dX6_readNumber_74 : decode cX6_readNumber 74 = .ok (.getfield 22, 3) := by decide +kernel
theorem dX6_readNumber_77 : decode cX6_readNumber 77 = .ok (.isub, 1) := by decide +kernel
theorem dX6_readNumber_78 : decode cX6_readNumber 78 = .ok (.iconst 2, 1) := by decide +kernel
theorem dX6_readNumber_79 : decode cX6_readNumber 79 = .ok (.if_icmp .le 7, 3) := by decide +kernel
theorem dX6_readNumber_82 : decode cX6_readNumber 82 = .ok (.iconst 1, 1) := by decide +kernel
theorem dX6_readNumber_83 : decode cX6_readNumber 83 = .ok (.goto 4, 3) := by decide +kernel
theorem dX6_readNumber_86 : decode cX6_readNumber 86 = .ok (.iconst 3, 1) := by decide +kernel
theorem dX6_readNumber_87 : decode cX6_readNumber 87 = .ok (.putfield 25, 3) := by decide +kernel
theorem dX6_readNumber_90 : decode cX6_readNumber 90 = .ok (.return_, 1) := by decide +kernel
def f_X6_readNumber_J68 (Λ : List Ly) (d : Dt) (p0 : Nat) : Option Dt := if clsAt Λ p0 = some 6 then (if ((d.1 p0 5) - (d.1 p0 3)) ≤ (2 : Int32) then (some (pI d p0 2 (3 : Int32))) else (some (pI d p0 2 (1 : Int32)))) else none
def f_X6_readNumber_L5 (Λ : List Ly) (p0 : Nat) : Nat → Dt → Option Dt
  | 0, _ => none
  | n + 1, d => if clsAt Λ p0 = some 6 then (if (d.1 p0 1) ≤ (d.1 p0 5) then (f_X6_readNumber_J68 Λ d p0) else (Option.bind (rf Λ p0 6 0) fun q6 => if okA Λ q6 0 (d.1 p0 5) = true then (if (f_X6_isFigure (d.1 q6 ((d.1 p0 5)).toNatClampNeg)) = 0 then (f_X6_readNumber_J68 Λ d p0) else (f_X6_readNumber_L5 Λ p0 n (pI (pI d p0 4 ((((10 : Int32) * (d.1 p0 4)) + (d.1 q6 ((d.1 p0 5)).toNatClampNeg)) - (48 : Int32))) p0 5 (((pI d p0 4 ((((10 : Int32) * (d.1 p0 4)) + (d.1 q6 ((d.1 p0 5)).toNatClampNeg)) - (48 : Int32))).1 p0 5) + (1 : Int32))))) else none)) else none
def f_X6_readNumber (Λ : List Ly) (d : Dt) (p0 : Nat) : Option Dt := if clsAt Λ p0 = some 6 then (f_X6_readNumber_L5 Λ p0 FU (pI d p0 4 (0 : Int32))) else none
set_option maxHeartbeats 4000000 in
set_option maxRecDepth 100000 in
theorem w_X6_readNumber_J68 {p : Program} {l : Launch} {e : Env} {s : State} {m : MethodId} {args : Array Value} {below : List Frame} {meth : Method} {c : Code} {Γ : Cx} {Λ : List Ly} {z : Dt} {d : Dt} (C0 : Ct Γ p s m args c cX6_readNumber 1 "SeasonBound$Tape") (hr : meth.sig.returnType = none) (hlocks : meth.locks = false) (p0 : Nat)
    (hf : f_X6_readNumber_J68 Λ d p0 = some z) (H : Heap) (locs : List Loc) (ls : Array Slot) (hH : Hs Γ Λ d s H locs) (hl : lv_has ls 1 [(0, .ref (ad Γ.2.2.1 p0))]) : W p l e { frames := 1, cells := 0, slots := 0, locals := 20 } s m args below meth c H locs 0 0 (MQ below (QN Γ Λ z none) args s 0 0 (AP Γ)) (F0 m 68 ls []) := by
  obtain ⟨hx, hb, hml, hown, hts, hK⟩ := id C0
  unfold f_X6_readNumber_J68 at hf
  refine lv_aload_n hx hb dX6_readNumber_68 rfl (lv_at hl 0 rfl) ?_
  refine lv_aload_n hx hb dX6_readNumber_69 rfl (lv_at hl 0 rfl) ?_
  obtain ⟨g4, hf⟩ := gd hf
  refine r_geti C0 hH fl_X6_19 g4 rfl dX6_readNumber_70 ?_
  refine lv_aload_n hx hb dX6_readNumber_73 rfl (lv_at hl 0 rfl) ?_
  refine r_geti C0 hH fl_X6_22 g4 rfl dX6_readNumber_74 ?_
  refine lv_isub hx hb dX6_readNumber_77 ?_
  refine lv_iconst (v := (2 : Int32)) hx hb dX6_readNumber_78 (by decide) ?_
  refine lv_icmp_le (tgt := 86) hx hb dX6_readNumber_79 (by decide) (fun c5 => ?_) (fun c5 => ?_)
  · replace hf := it hf c5
    refine lv_iconst (v := (3 : Int32)) hx hb dX6_readNumber_86 (by decide) ?_
    refine r_puti C0 hH fw_X6_25 g4 rfl dX6_readNumber_87 (fun H locs hH => ?_)
    obtain rfl := Option.some.inj hf
    exact r_vret C0 hr hlocks hH dX6_readNumber_90
  · replace hf := ie hf c5
    refine lv_iconst (v := (1 : Int32)) hx hb dX6_readNumber_82 (by decide) ?_
    refine lv_goto (tgt := 87) hx hb dX6_readNumber_83 (by decide) ?_
    refine r_puti C0 hH fw_X6_25 g4 rfl dX6_readNumber_87 (fun H locs hH => ?_)
    obtain rfl := Option.some.inj hf
    exact r_vret C0 hr hlocks hH dX6_readNumber_90
set_option maxHeartbeats 4000000 in
set_option maxRecDepth 100000 in
theorem w_X6_readNumber_L5 {p : Program} {l : Launch} {e : Env} {s : State} {m : MethodId} {args : Array Value} {below : List Frame} {meth : Method} {c : Code} {Γ : Cx} {Λ : List Ly} {z : Dt} (C0 : Ct Γ p s m args c cX6_readNumber 1 "SeasonBound$Tape") (hr : meth.sig.returnType = none) (hlocks : meth.locks = false) (p0 : Nat) :
    ∀ (n : Nat)  (d : Dt), f_X6_readNumber_L5 Λ p0 n d = some z → ∀ (H : Heap) (locs : List Loc) (ls : Array Slot), Hs Γ Λ d s H locs → lv_has ls 1 [(0, .ref (ad Γ.2.2.1 p0))] → W p l e { frames := 1, cells := 0, slots := 0, locals := 20 } s m args below meth c H locs 0 0 (MQ below (QN Γ Λ z none) args s 0 0 (AP Γ)) (F0 m 5 ls []) := by
  obtain ⟨hx, hb, hml, hown, hts, hK⟩ := id C0
  intro n
  induction n with
  | zero =>
    intro d hf
    cases hf
  | succ n ih =>
    intro d hf H locs ls hH hl
    unfold f_X6_readNumber_L5 at hf
    refine lv_aload_n hx hb dX6_readNumber_5 rfl (lv_at hl 0 rfl) ?_
    obtain ⟨g2, hf⟩ := gd hf
    refine r_geti C0 hH fl_X6_19 g2 rfl dX6_readNumber_6 ?_
    refine lv_aload_n hx hb dX6_readNumber_9 rfl (lv_at hl 0 rfl) ?_
    refine r_geti C0 hH fl_X6_15 g2 rfl dX6_readNumber_10 ?_
    refine lv_icmp_ge (tgt := 68) hx hb dX6_readNumber_13 (by decide) (fun c3 => ?_) (fun c3 => ?_)
    · replace hf := it hf c3
      exact w_X6_readNumber_J68 C0 hr hlocks p0 hf _ _ _ hH (lv_sub hl [0] rfl)
    · replace hf := ie hf c3
      refine lv_aload_n hx hb dX6_readNumber_16 rfl (lv_at hl 0 rfl) ?_
      obtain ⟨q6, g6, hf⟩ := ob hf
      refine r_getr C0 hH fl_X6_9 g6 dX6_readNumber_17 ?_
      refine lv_aload_n hx hb dX6_readNumber_20 rfl (lv_at hl 0 rfl) ?_
      refine r_geti C0 hH fl_X6_19 g2 rfl dX6_readNumber_21 ?_
      obtain ⟨g7, hf⟩ := gd hf
      refine r_bald C0 hH g7 dX6_readNumber_24 ?_
      refine r_callSi (rest := []) C0 hH (c_X6_isFigure Γ l Λ d (d.1 q6 ((d.1 p0 5)).toNatClampNeg)) cs_X6_35 (by decide) rfl hl.1 rfl (Nat.le_of_ble_eq_true rfl) dX6_readNumber_25 (by decide) (fun H locs hH => ?_)
      refine lv_if_eq (tgt := 68) hx hb dX6_readNumber_28 (by decide) (fun c8 => ?_) (fun c8 => ?_)
      · replace hf := it hf c8
        exact w_X6_readNumber_J68 C0 hr hlocks p0 hf _ _ _ hH (lv_sub hl [0] rfl)
      · replace hf := ie hf c8
        refine lv_aload_n hx hb dX6_readNumber_31 rfl (lv_at hl 0 rfl) ?_
        refine lv_bipush (v := (10 : Int32)) hx hb dX6_readNumber_32 (by decide) ?_
        refine lv_aload_n hx hb dX6_readNumber_34 rfl (lv_at hl 0 rfl) ?_
        refine r_geti C0 hH fl_X6_41 g2 rfl dX6_readNumber_35 ?_
        refine lv_imul hx hb dX6_readNumber_38 ?_
        refine lv_aload_n hx hb dX6_readNumber_39 rfl (lv_at hl 0 rfl) ?_
        refine r_getr C0 hH fl_X6_9 g6 dX6_readNumber_40 ?_
        refine lv_aload_n hx hb dX6_readNumber_43 rfl (lv_at hl 0 rfl) ?_
        refine r_geti C0 hH fl_X6_19 g2 rfl dX6_readNumber_44 ?_
        refine r_bald C0 hH g7 dX6_readNumber_47 ?_
        refine lv_iadd hx hb dX6_readNumber_48 ?_
        refine lv_bipush (v := (48 : Int32)) hx hb dX6_readNumber_49 (by decide) ?_
        refine lv_isub hx hb dX6_readNumber_51 ?_
        refine r_puti C0 hH fw_X6_41 g2 rfl dX6_readNumber_52 (fun H locs hH => ?_)
        refine lv_aload_n hx hb dX6_readNumber_55 rfl (lv_at hl 0 rfl) ?_
        refine lv_dup hx hb dX6_readNumber_56 rfl ?_
        refine r_geti C0 hH fl_X6_19 g2 rfl dX6_readNumber_57 ?_
        refine lv_iconst (v := (1 : Int32)) hx hb dX6_readNumber_60 (by decide) ?_
        refine lv_iadd hx hb dX6_readNumber_61 ?_
        refine r_puti C0 hH fw_X6_19 g2 rfl dX6_readNumber_62 (fun H locs hH => ?_)
        refine lv_goto (tgt := 5) hx hb dX6_readNumber_65 (by decide) ?_
        exact ih (pI (pI d p0 4 ((((10 : Int32) * (d.1 p0 4)) + (d.1 q6 ((d.1 p0 5)).toNatClampNeg)) - (48 : Int32))) p0 5 (((pI d p0 4 ((((10 : Int32) * (d.1 p0 4)) + (d.1 q6 ((d.1 p0 5)).toNatClampNeg)) - (48 : Int32))).1 p0 5) + (1 : Int32))) hf _ _ _ hH (lv_sub hl [0] rfl)
set_option maxHeartbeats 4000000 in
set_option maxRecDepth 100000 in
theorem c_X6_readNumber (Γ : Cx) (l : Launch) (Λ : List Ly) (d : Dt) (p0 : Nat) (z : Dt) (hf : f_X6_readNumber Λ d p0 = some z) : Cn Γ l yX6_readNumber cX6_readNumber 1 none 1 20 [.ref (ad Γ.2.2.1 p0)] Λ d none z := by
  refine Cn.of (own := "SeasonBound$Tape") (by decide +kernel) rfl (Nat.le_of_ble_eq_true rfl) ?_
  intro p e s m below meth c C0 hr hlocks hH ls hl
  have hl : lv_has ls 1 [(0, .ref (ad Γ.2.2.1 p0))] := hl
  obtain ⟨hx, hb, hml, hown, hts, hK⟩ := id C0
  unfold f_X6_readNumber at hf
  refine lv_aload_n hx hb dX6_readNumber_0 rfl (lv_at hl 0 rfl) ?_
  refine lv_iconst (v := (0 : Int32)) hx hb dX6_readNumber_1 (by decide) ?_
  obtain ⟨g1, hf⟩ := gd hf
  refine r_puti C0 hH fw_X6_41 g1 rfl dX6_readNumber_2 (fun H locs hH => ?_)
  refine w_X6_readNumber_L5 C0 hr hlocks p0 FU (pI d p0 4 (0 : Int32)) hf _ _ _ hH (lv_sub hl [0] rfl)
theorem dX6_readToken_0 : decode cX6_readToken 0 = .ok (.aload_n 0, 1) := by decide +kernel
theorem dX6_readToken_1 : decode cX6_readToken 1 = .ok (.getfield 19, 3) := by decide +kernel
theorem dX6_readToken_4 : decode cX6_readToken 4 = .ok (.aload_n 0, 1) := by decide +kernel
theorem dX6_readToken_5 : decode cX6_readToken 5 = .ok (.getfield 15, 3) := by decide +kernel
theorem dX6_readToken_8 : decode cX6_readToken 8 = .ok (.if_icmp .ge 30, 3) := by decide +kernel
theorem dX6_readToken_11 : decode cX6_readToken 11 = .ok (.aload_n 0, 1) := by decide +kernel
theorem dX6_readToken_12 : decode cX6_readToken 12 = .ok (.getfield 9, 3) := by decide +kernel
theorem dX6_readToken_15 : decode cX6_readToken 15 = .ok (.aload_n 0, 1) := by decide +kernel
theorem dX6_readToken_16 : decode cX6_readToken 16 = .ok (.getfield 19, 3) := by decide +kernel
theorem dX6_readToken_19 : decode cX6_readToken 19 = .ok (.baload, 1) := by decide +kernel
theorem dX6_readToken_20 : decode cX6_readToken 20 = .ok (.bipush 32, 2) := by decide +kernel
theorem dX6_readToken_22 : decode cX6_readToken 22 = .ok (.if_icmp .ne 16, 3) := by decide +kernel
theorem dX6_readToken_25 : decode cX6_readToken 25 = .ok (.aload_n 0, 1) := by decide +kernel
theorem dX6_readToken_26 : decode cX6_readToken 26 = .ok (.dup, 1) := by decide +kernel
theorem dX6_readToken_27 : decode cX6_readToken 27 = .ok (.getfield 19, 3) := by decide +kernel
theorem dX6_readToken_30 : decode cX6_readToken 30 = .ok (.iconst 1, 1) := by decide +kernel
theorem dX6_readToken_31 : decode cX6_readToken 31 = .ok (.iadd, 1) := by decide +kernel
theorem dX6_readToken_32 : decode cX6_readToken 32 = .ok (.putfield 19, 3) := by decide +kernel
theorem dX6_readToken_35 : decode cX6_readToken 35 = .ok (.goto (-35), 3) := by decide +kernel
theorem dX6_readToken_38 : decode cX6_readToken 38 = .ok (.aload_n 0, 1) := by decide +kernel
theorem dX6_readToken_39 : decode cX6_readToken 39 = .ok (.aload_n 0, 1) := by decide +kernel
theorem dX6_readToken_40 : decode cX6_readToken 40 = .ok (.getfield 19, 3) := by decide +kernel
theorem dX6_readToken_43 : decode cX6_readToken 43 = .ok (.putfield 22, 3) := by decide +kernel
theorem dX6_readToken_46 : decode cX6_readToken 46 = .ok (.aload_n 0, 1) := by decide +kernel
theorem dX6_readToken_47 : decode cX6_readToken 47 = .ok (.getfield 19, 3) := by decide +kernel
theorem dX6_readToken_50 : decode cX6_readToken 50 = .ok (.aload_n 0, 1) := by decide +kernel
theorem dX6_readToken_51 : decode cX6_readToken 51 = .ok (.getfield 15, 3) := by decide +kernel
theorem dX6_readToken_54 : decode cX6_readToken 54 = .ok (.if_icmp .lt 11, 3) := by decide +kernel
theorem dX6_readToken_57 : decode cX6_readToken 57 = .ok (.aload_n 0, 1) := by decide +kernel
theorem dX6_readToken_58 : decode cX6_readToken 58 = .ok (.iconst 0, 1) := by decide +kernel
theorem dX6_readToken_59 : decode cX6_readToken 59 = .ok (.putfield 25, 3) := by decide +kernel
theorem dX6_readToken_62 : decode cX6_readToken 62 = .ok (.goto 80, 3) := by decide +kernel
theorem dX6_readToken_65 : decode cX6_readToken 65 = .ok (.aload_n 0, 1) := by decide +kernel
theorem dX6_readToken_66 : decode cX6_readToken 66 = .ok (.getfield 9, 3) := by decide +kernel
theorem dX6_readToken_69 : decode cX6_readToken 69 = .ok (.aload_n 0, 1) := by decide +kernel
theorem dX6_readToken_70 : decode cX6_readToken 70 = .ok (.getfield 19, 3) := by decide +kernel
theorem dX6_readToken_73 : decode cX6_readToken 73 = .ok (.baload, 1) := by decide +kernel
theorem dX6_readToken_74 : decode cX6_readToken 74 = .ok (.invokestatic 28, 3) := by decide +kernel
theorem dX6_readToken_77 : decode cX6_readToken 77 = .ok (.ifCond .eq 10, 3) := by decide +kernel
theorem dX6_readToken_80 : decode cX6_readToken 80 = .ok (.aload_n 0, 1) := by decide +kernel
theorem dX6_readToken_81 : decode cX6_readToken 81 = .ok (.invokevirtual 32, 3) := by decide +kernel
theorem dX6_readToken_84 : decode cX6_readToken 84 = .ok (.goto 58, 3) := by decide +kernel
theorem dX6_readToken_87 : decode cX6_readToken 87 = .ok (.aload_n 0, 1) := by decide +kernel
theorem dX6_readToken_88 : decode cX6_readToken 88 = .ok (.getfield 9, 3) := by decide +kernel
theorem dX6_readToken_91 : decode cX6_readToken 91 = .ok (.aload_n 0, 1) := by decide +kernel
theorem dX6_readToken_92 : decode cX6_readToken 92 = .ok (.getfield 19, 3) := by decide +kernel
theorem dX6_readToken_95 : decode cX6_readToken 95 = .ok (.baload, 1) := by decide +kernel
theorem dX6_readToken_96 : decode cX6_readToken 96 = .ok (.invokestatic 35, 3) := by decide +kernel
theorem dX6_readToken_99 : decode cX6_readToken 99 = .ok (.ifCond .eq 10, 3) := by decide +kernel
theorem dX6_readToken_102 : decode cX6_readToken 102 = .ok (.aload_n 0, 1) := by decide +kernel
theorem dX6_readToken_103 : decode cX6_readToken 103 = .ok (.invokevirtual 38, 3) := by decide +kernel
theorem dX6_readToken_106 : decode cX6_readToken 106 = .ok (.goto 36, 3) := by decide +kernel
theorem dX6_readToken_109 : decode cX6_readToken 109 = .ok (.aload_n 0, 1) := by decide +kernel
theorem dX6_readToken_110 : decode cX6_readToken 110 = .ok (.aload_n 0, 1) := by decide +kernel
theorem dX6_readToken_111 : decode cX6_readToken 111 = .ok (.getfield 9, 3) := by decide +kernel
theorem dX6_readToken_114 : decode cX6_readToken 114 = .ok (.aload_n 0, 1) := by decide +kernel
theorem dX6_readToken_115 : decode cX6_readToken 115 = .ok (.getfield 19, 3) := by decide +kernel
theorem dX6_readToken_118 : decode cX6_readToken 118 = .ok (.baload, 1) := by decide +kernel
theorem dX6_readToken_119 : decode cX6_readToken 119 = .ok (.bipush 59, 2) := by decide +kernel
theorem dX6_readToken_121 : decode cX6_readToken 121 = .ok (.if_icmp .ne 7, 3) := by decide +kernel
theorem dX6_readToken_124 : decode cX6_readToken 124 = .ok (.iconst 4, 1) := by decide +kernel
theorem dX6_readToken_125 : decode cX6_readToken 125 = .ok (.goto 4, 3) := by decide +kernel
theorem dX6_readToken_128 : decode cX6_readToken 128 = .ok (.iconst 1, 1) := by decide +kernel
theorem dX6_readToken_129 : decode cX6_readToken 129 = .ok (.putfield 25, 3) := by decide +kernel
theorem dX6_readToken_132 : decode cX6_readToken 132 = .ok (.aload_n 0, 1) := by decide +kernel
theorem dX6_readToken_133 : decode cX6_readToken 133 = .ok (.dup, 1) := by decide +kernel
theorem dX6_readToken_134 : decode cX6_readToken 134 = .ok (.getfield 19, 3) := by decide +kernel
theorem dX6_readToken_137 : decode cX6_readToken 137 = .ok (.iconst 1, 1) := by decide +kernel
theorem dX6_readToken_138 : decode cX6_readToken 138 = .ok (.iadd, 1) := by decide +kernel
theorem dX6_readToken_139 : decode cX6_readToken 139 = .ok (.putfield 19, 3) := by decide +kernel
theorem dX6_readToken_142 : decode cX6_readToken 142 = .ok (.return_, 1) := by decide +kernel
def f_X6_readToken_L0 (Λ : List Ly) (p0 : Nat) (k38 : Dt → Option Dt) : Nat → Dt → Option Dt
  | 0, _ => none
  | n + 1, d => if clsAt Λ p0 = some 6 then (if (d.1 p0 1) ≤ (d.1 p0 5) then (k38 d) else (Option.bind (rf Λ p0 6 0) fun q3 => if okA Λ q3 0 (d.1 p0 5) = true then (if (d.1 q3 ((d.1 p0 5)).toNatClampNeg) = (32 : Int32) then (f_X6_readToken_L0 Λ p0 k38 n (pI d p0 5 ((d.1 p0 5) + (1 : Int32)))) else (k38 d)) else none)) else none
def f_X6_readToken_J38 (Λ : List Ly) (d : Dt) (p0 : Nat) : Option Dt := if clsAt Λ p0 = some 6 then (if ((pI d p0 3 (d.1 p0 5)).1 p0 5) < ((pI d p0 3 (d.1 p0 5)).1 p0 1) then (Option.bind (rf Λ p0 6 0) fun q9 => if okA Λ q9 0 ((pI d p0 3 (d.1 p0 5)).1 p0 5) = true then (if (f_X6_isLetter ((pI d p0 3 (d.1 p0 5)).1 q9 (((pI d p0 3 (d.1 p0 5)).1 p0 5)).toNatClampNeg)) = 0 then (if (f_X6_isFigure ((pI d p0 3 (d.1 p0 5)).1 q9 (((pI d p0 3 (d.1 p0 5)).1 p0 5)).toNatClampNeg)) = 0 then (if ((pI d p0 3 (d.1 p0 5)).1 q9 (((pI d p0 3 (d.1 p0 5)).1 p0 5)).toNatClampNeg) = (59 : Int32) then (some (pI (pI (pI d p0 3 (d.1 p0 5)) p0 2 (4 : Int32)) p0 5 (((pI (pI d p0 3 (d.1 p0 5)) p0 2 (4 : Int32)).1 p0 5) + (1 : Int32)))) else (some (pI (pI (pI d p0 3 (d.1 p0 5)) p0 2 (1 : Int32)) p0 5 (((pI (pI d p0 3 (d.1 p0 5)) p0 2 (1 : Int32)).1 p0 5) + (1 : Int32))))) else (Option.bind (f_X6_readNumber Λ (pI d p0 3 (d.1 p0 5)) p0) fun z14 => some z14)) else (Option.bind (f_X6_readName Λ (pI d p0 3 (d.1 p0 5)) p0) fun z15 => some z15)) else none) else (some (pI (pI d p0 3 (d.1 p0 5)) p0 2 (0 : Int32)))) else none
def f_X6_readToken (Λ : List Ly) (d : Dt) (p0 : Nat) : Option Dt := f_X6_readToken_L0 Λ p0 (fun d6 => f_X6_readToken_J38 Λ d6 p0) FU d
set_option maxHeartbeats 4000000 in
set_option maxRecDepth 100000 in
theorem w_X6_readToken_L0 {p : Program} {l : Launch} {e : Env} {s : State} {m : MethodId} {args : Array Value} {below : List Frame} {meth : Method} {c : Code} {Γ : Cx} {Λ : List Ly} {z : Dt} (C0 : Ct Γ p s m args c cX6_readToken 1 "SeasonBound$Tape") (hr : meth.sig.returnType = none) (hlocks : meth.locks = false) (k38 : Dt → Option Dt) (p0 : Nat)
    (hk38 : ∀  (d : Dt), (k38 d = some z) → ∀ (H : Heap) (locs : List Loc) (ls : Array Slot), Hs Γ Λ d s H locs → lv_has ls 1 [(0, .ref (ad Γ.2.2.1 p0))] → W p l e { frames := 2, cells := 0, slots := 0, locals := 40 } s m args below meth c H locs 0 0 (MQ below (QN Γ Λ z none) args s 0 0 (AP Γ)) (F0 m 38 ls [])) :
    ∀ (n : Nat)  (d : Dt), f_X6_readToken_L0 Λ p0 k38 n d = some z → ∀ (H : Heap) (locs : List Loc) (ls : Array Slot), Hs Γ Λ d s H locs → lv_has ls 1 [(0, .ref (ad Γ.2.2.1 p0))] → W p l e { frames := 2, cells := 0, slots := 0, locals := 40 } s m args below meth c H locs 0 0 (MQ below (QN Γ Λ z none) args s 0 0 (AP Γ)) (F0 m 0 ls []) := by
  obtain ⟨hx, hb, hml, hown, hts, hK⟩ := id C0
  intro n
  induction n with
  | zero =>
    intro d hf
    cases hf
  | succ n ih =>
    intro d hf H locs ls hH hl
    unfold f_X6_readToken_L0 at hf
    refine lv_aload_n hx hb dX6_readToken_0 rfl (lv_at hl 0 rfl) ?_
    obtain ⟨g1, hf⟩ := gd hf
    refine r_geti C0 hH fl_X6_19 g1 rfl dX6_readToken_1 ?_
    refine lv_aload_n hx hb dX6_readToken_4 rfl (lv_at hl 0 rfl) ?_
    refine r_geti C0 hH fl_X6_15 g1 rfl dX6_readToken_5 ?_
    refine lv_icmp_ge (tgt := 38) hx hb dX6_readToken_8 (by decide) (fun c2 => ?_) (fun c2 => ?_)
    · replace hf := it hf c2
      exact hk38 d hf _ _ _ hH (lv_sub hl [0] rfl)
    · replace hf := ie hf c2
      refine lv_aload_n hx hb dX6_readToken_11 rfl (lv_at hl 0 rfl) ?_
      obtain ⟨q3, g3, hf⟩ := ob hf
      refine r_getr C0 hH fl_X6_9 g3 dX6_readToken_12 ?_
      refine lv_aload_n hx hb dX6_readToken_15 rfl (lv_at hl 0 rfl) ?_
      refine r_geti C0 hH fl_X6_19 g1 rfl dX6_readToken_16 ?_
      obtain ⟨g4, hf⟩ := gd hf
      refine r_bald C0 hH g4 dX6_readToken_19 ?_
      refine lv_bipush (v := (32 : Int32)) hx hb dX6_readToken_20 (by decide) ?_
      refine lv_icmp_ne (tgt := 38) hx hb dX6_readToken_22 (by decide) (fun c5 => ?_) (fun c5 => ?_)
      · replace hf := ie hf c5
        exact hk38 d hf _ _ _ hH (lv_sub hl [0] rfl)
      · replace hf := it hf c5
        refine lv_aload_n hx hb dX6_readToken_25 rfl (lv_at hl 0 rfl) ?_
        refine lv_dup hx hb dX6_readToken_26 rfl ?_
        refine r_geti C0 hH fl_X6_19 g1 rfl dX6_readToken_27 ?_
        refine lv_iconst (v := (1 : Int32)) hx hb dX6_readToken_30 (by decide) ?_
        refine lv_iadd hx hb dX6_readToken_31 ?_
        refine r_puti C0 hH fw_X6_19 g1 rfl dX6_readToken_32 (fun H locs hH => ?_)
        refine lv_goto (tgt := 0) hx hb dX6_readToken_35 (by decide) ?_
        exact ih (pI d p0 5 ((d.1 p0 5) + (1 : Int32))) hf _ _ _ hH (lv_sub hl [0] rfl)
set_option maxHeartbeats 4000000 in
set_option maxRecDepth 100000 in
theorem w_X6_readToken_J38 {p : Program} {l : Launch} {e : Env} {s : State} {m : MethodId} {args : Array Value} {below : List Frame} {meth : Method} {c : Code} {Γ : Cx} {Λ : List Ly} {z : Dt} {d : Dt} (C0 : Ct Γ p s m args c cX6_readToken 1 "SeasonBound$Tape") (hr : meth.sig.returnType = none) (hlocks : meth.locks = false) (p0 : Nat)
    (hf : f_X6_readToken_J38 Λ d p0 = some z) (H : Heap) (locs : List Loc) (ls : Array Slot) (hH : Hs Γ Λ d s H locs) (hl : lv_has ls 1 [(0, .ref (ad Γ.2.2.1 p0))]) : W p l e { frames := 2, cells := 0, slots := 0, locals := 40 } s m args below meth c H locs 0 0 (MQ below (QN Γ Λ z none) args s 0 0 (AP Γ)) (F0 m 38 ls []) := by
  obtain ⟨hx, hb, hml, hown, hts, hK⟩ := id C0
  unfold f_X6_readToken_J38 at hf
  refine lv_aload_n hx hb dX6_readToken_38 rfl (lv_at hl 0 rfl) ?_
  refine lv_aload_n hx hb dX6_readToken_39 rfl (lv_at hl 0 rfl) ?_
  obtain ⟨g7, hf⟩ := gd hf
  refine r_geti C0 hH fl_X6_19 g7 rfl dX6_readToken_40 ?_
  refine r_puti C0 hH fw_X6_22 g7 rfl dX6_readToken_43 (fun H locs hH => ?_)
  refine lv_aload_n hx hb dX6_readToken_46 rfl (lv_at hl 0 rfl) ?_
  refine r_geti C0 hH fl_X6_19 g7 rfl dX6_readToken_47 ?_
  refine lv_aload_n hx hb dX6_readToken_50 rfl (lv_at hl 0 rfl) ?_
  refine r_geti C0 hH fl_X6_15 g7 rfl dX6_readToken_51 ?_
  refine lv_icmp_lt (tgt := 65) hx hb dX6_readToken_54 (by decide) (fun c8 => ?_) (fun c8 => ?_)
  · replace hf := it hf c8
    refine lv_aload_n hx hb dX6_readToken_65 rfl (lv_at hl 0 rfl) ?_
    obtain ⟨q9, g9, hf⟩ := ob hf
    refine r_getr C0 hH fl_X6_9 g9 dX6_readToken_66 ?_
    refine lv_aload_n hx hb dX6_readToken_69 rfl (lv_at hl 0 rfl) ?_
    refine r_geti C0 hH fl_X6_19 g7 rfl dX6_readToken_70 ?_
    obtain ⟨g10, hf⟩ := gd hf
    refine r_bald C0 hH g10 dX6_readToken_73 ?_
    refine r_callSi (rest := []) C0 hH (c_X6_isLetter Γ l Λ (pI d p0 3 (d.1 p0 5)) ((pI d p0 3 (d.1 p0 5)).1 q9 (((pI d p0 3 (d.1 p0 5)).1 p0 5)).toNatClampNeg)) cs_X6_28 (by decide) rfl hl.1 rfl (Nat.le_of_ble_eq_true rfl) dX6_readToken_74 (by decide) (fun H locs hH => ?_)
    refine lv_if_eq (tgt := 87) hx hb dX6_readToken_77 (by decide) (fun c11 => ?_) (fun c11 => ?_)
    · replace hf := it hf c11
      refine lv_aload_n hx hb dX6_readToken_87 rfl (lv_at hl 0 rfl) ?_
      refine r_getr C0 hH fl_X6_9 g9 dX6_readToken_88 ?_
      refine lv_aload_n hx hb dX6_readToken_91 rfl (lv_at hl 0 rfl) ?_
      refine r_geti C0 hH fl_X6_19 g7 rfl dX6_readToken_92 ?_
      refine r_bald C0 hH g10 dX6_readToken_95 ?_
      refine r_callSi (rest := []) C0 hH (c_X6_isFigure Γ l Λ (pI d p0 3 (d.1 p0 5)) ((pI d p0 3 (d.1 p0 5)).1 q9 (((pI d p0 3 (d.1 p0 5)).1 p0 5)).toNatClampNeg)) cs_X6_35 (by decide) rfl hl.1 rfl (Nat.le_of_ble_eq_true rfl) dX6_readToken_96 (by decide) (fun H locs hH => ?_)
      refine lv_if_eq (tgt := 109) hx hb dX6_readToken_99 (by decide) (fun c12 => ?_) (fun c12 => ?_)
      · replace hf := it hf c12
        refine lv_aload_n hx hb dX6_readToken_109 rfl (lv_at hl 0 rfl) ?_
        refine lv_aload_n hx hb dX6_readToken_110 rfl (lv_at hl 0 rfl) ?_
        refine r_getr C0 hH fl_X6_9 g9 dX6_readToken_111 ?_
        refine lv_aload_n hx hb dX6_readToken_114 rfl (lv_at hl 0 rfl) ?_
        refine r_geti C0 hH fl_X6_19 g7 rfl dX6_readToken_115 ?_
        refine r_bald C0 hH g10 dX6_readToken_118 ?_
        refine lv_bipush (v := (59 : Int32)) hx hb dX6_readToken_119 (by decide) ?_
        refine lv_icmp_ne (tgt := 128) hx hb dX6_readToken_121 (by decide) (fun c13 => ?_) (fun c13 => ?_)
        · replace hf := ie hf c13
          refine lv_iconst (v := (1 : Int32)) hx hb dX6_readToken_128 (by decide) ?_
          refine r_puti C0 hH fw_X6_25 g7 rfl dX6_readToken_129 (fun H locs hH => ?_)
          refine lv_aload_n hx hb dX6_readToken_132 rfl (lv_at hl 0 rfl) ?_
          refine lv_dup hx hb dX6_readToken_133 rfl ?_
          refine r_geti C0 hH fl_X6_19 g7 rfl dX6_readToken_134 ?_
          refine lv_iconst (v := (1 : Int32)) hx hb dX6_readToken_137 (by decide) ?_
          refine lv_iadd hx hb dX6_readToken_138 ?_
          refine r_puti C0 hH fw_X6_19 g7 rfl dX6_readToken_139 (fun H locs hH => ?_)
          obtain rfl := Option.some.inj hf
          exact r_vret C0 hr hlocks hH dX6_readToken_142
        · replace hf := it hf c13
          refine lv_iconst (v := (4 : Int32)) hx hb dX6_readToken_124 (by decide) ?_
          refine lv_goto (tgt := 129) hx hb dX6_readToken_125 (by decide) ?_
          refine r_puti C0 hH fw_X6_25 g7 rfl dX6_readToken_129 (fun H locs hH => ?_)
          refine lv_aload_n hx hb dX6_readToken_132 rfl (lv_at hl 0 rfl) ?_
          refine lv_dup hx hb dX6_readToken_133 rfl ?_
          refine r_geti C0 hH fl_X6_19 g7 rfl dX6_readToken_134 ?_
          refine lv_iconst (v := (1 : Int32)) hx hb dX6_readToken_137 (by decide) ?_
          refine lv_iadd hx hb dX6_readToken_138 ?_
          refine r_puti C0 hH fw_X6_19 g7 rfl dX6_readToken_139 (fun H locs hH => ?_)
          obtain rfl := Option.some.inj hf
          exact r_vret C0 hr hlocks hH dX6_readToken_142
      · replace hf := ie hf c12
        refine lv_aload_n hx hb dX6_readToken_102 rfl (lv_at hl 0 rfl) ?_
        obtain ⟨z14, h14, hf⟩ := ob hf
        refine r_callVv (rest := []) C0 hH (c_X6_readNumber Γ l Λ (pI d p0 3 (d.1 p0 5)) p0 z14 h14) cv_X6_38 g7 (by decide) rfl hl.1 rfl (Nat.le_of_ble_eq_true rfl) dX6_readToken_103 (by decide) (fun H locs hH => ?_)
        refine lv_goto (tgt := 142) hx hb dX6_readToken_106 (by decide) ?_
        obtain rfl := Option.some.inj hf
        exact r_vret C0 hr hlocks hH dX6_readToken_142
    · replace hf := ie hf c11
      refine lv_aload_n hx hb dX6_readToken_80 rfl (lv_at hl 0 rfl) ?_
      obtain ⟨z15, h15, hf⟩ := ob hf
      refine r_callVv (rest := []) C0 hH (c_X6_readName Γ l Λ (pI d p0 3 (d.1 p0 5)) p0 z15 h15) cv_X6_32 g7 (by decide) rfl hl.1 rfl (Nat.le_of_ble_eq_true rfl) dX6_readToken_81 (by decide) (fun H locs hH => ?_)
      refine lv_goto (tgt := 142) hx hb dX6_readToken_84 (by decide) ?_
      obtain rfl := Option.some.inj hf
      exact r_vret C0 hr hlocks hH dX6_readToken_142
  · replace hf := ie hf c8
    refine lv_aload_n hx hb dX6_readToken_57 rfl (lv_at hl 0 rfl) ?_
    refine lv_iconst (v := (0 : Int32)) hx hb dX6_readToken_58 (by decide) ?_
    refine r_puti C0 hH fw_X6_25 g7 rfl dX6_readToken_59 (fun H locs hH => ?_)
    refine lv_goto (tgt := 142) hx hb dX6_readToken_62 (by decide) ?_
    obtain rfl := Option.some.inj hf
    exact r_vret C0 hr hlocks hH dX6_readToken_142
set_option maxHeartbeats 4000000 in
set_option maxRecDepth 100000 in
theorem c_X6_readToken (Γ : Cx) (l : Launch) (Λ : List Ly) (d : Dt) (p0 : Nat) (z : Dt) (hf : f_X6_readToken Λ d p0 = some z) : Cn Γ l yX6_readToken cX6_readToken 1 none 2 40 [.ref (ad Γ.2.2.1 p0)] Λ d none z := by
  refine Cn.of (own := "SeasonBound$Tape") (by decide +kernel) rfl (Nat.le_of_ble_eq_true rfl) ?_
  intro p e s m below meth c C0 hr hlocks hH ls hl
  have hl : lv_has ls 1 [(0, .ref (ad Γ.2.2.1 p0))] := hl
  obtain ⟨hx, hb, hml, hown, hts, hK⟩ := id C0
  unfold f_X6_readToken at hf
  refine w_X6_readToken_L0 C0 hr hlocks _ p0 ?k38 FU d hf _ _ _ hH (lv_sub hl [0] rfl)
  case k38 =>
    intro d6 hf H locs ls hH hl
    exact w_X6_readToken_J38 C0 hr hlocks p0 hf _ _ _ hH (lv_sub hl [0] rfl)
theorem dX3_nameOf_0 : decode cX3_nameOf 0 = .ok (.iload_n 0, 1) := by decide +kernel
theorem dX3_nameOf_1 : decode cX3_nameOf 1 = .ok (.tableswitch 64 0 6 #[43, 46, 49, 52, 55, 58, 61], 43) := by decide +kernel
theorem dX3_nameOf_44 : decode cX3_nameOf 44 = .ok (.ldc 73, 2) := by decide +kernel
theorem dX3_nameOf_46 : decode cX3_nameOf 46 = .ok (.areturn, 1) := by decide +kernel
theorem dX3_nameOf_47 : decode cX3_nameOf 47 = .ok (.ldc 75, 2) := by decide +kernel
theorem dX3_nameOf_49 : decode cX3_nameOf 49 = .ok (.areturn, 1) := by decide +kernel
theorem dX3_nameOf_50 : decode cX3_nameOf 50 = .ok (.ldc 77, 2) := by decide +kernel
theorem dX3_nameOf_52 : decode cX3_nameOf 52 = .ok (.areturn, 1) := by decide +kernel
theorem dX3_nameOf_53 : decode cX3_nameOf 53 = .ok (.ldc 79, 2) := by decide +kernel
theorem dX3_nameOf_55 : decode cX3_nameOf 55 = .ok (.areturn, 1) := by decide +kernel
theorem dX3_nameOf_56 : decode cX3_nameOf 56 = .ok (.ldc 81, 2) := by decide +kernel
theorem dX3_nameOf_58 : decode cX3_nameOf 58 = .ok (.areturn, 1) := by decide +kernel
theorem dX3_nameOf_59 : decode cX3_nameOf 59 = .ok (.ldc 83, 2) := by decide +kernel
theorem dX3_nameOf_61 : decode cX3_nameOf 61 = .ok (.areturn, 1) := by decide +kernel
theorem dX3_nameOf_62 : decode cX3_nameOf 62 = .ok (.ldc 85, 2) := by decide +kernel
theorem dX3_nameOf_64 : decode cX3_nameOf 64 = .ok (.areturn, 1) := by decide +kernel
theorem dX3_nameOf_65 : decode cX3_nameOf 65 = .ok (.ldc 87, 2) := by decide +kernel
theorem dX3_nameOf_67 : decode cX3_nameOf 67 = .ok (.areturn, 1) := by decide +kernel
def f_X3_nameOf (v0 : Int32) : Nat := if v0 = (0 : Int32) then (0) else (if v0 = (1 : Int32) then (1) else (if v0 = (2 : Int32) then (2) else (if v0 = (3 : Int32) then (3) else (if v0 = (4 : Int32) then (4) else (if v0 = (5 : Int32) then (5) else (if v0 = (6 : Int32) then (6) else (7)))))))
set_option maxHeartbeats 4000000 in
set_option maxRecDepth 100000 in
theorem c_X3_nameOf (Γ : Cx) (l : Launch) (Λ : List Ly) (d : Dt) (v0 : Int32) : Cn Γ l yX3_nameOf cX3_nameOf 1 (some (FieldType.object "java/lang/String")) 0 0 [.int v0] Λ d (some (.ref (Γ.2.2.2.1 (f_X3_nameOf v0)))) d := by
  generalize hf : f_X3_nameOf v0 = z
  refine Cn.of (own := "SeasonBound$Reader") (by decide +kernel) rfl (Nat.le_of_ble_eq_true rfl) ?_
  intro p e s m below meth c C0 hr hlocks hH ls hl
  have hl : lv_has ls 1 [(0, .int v0)] := hl
  obtain ⟨hx, hb, hml, hown, hts, hK⟩ := id C0
  unfold f_X3_nameOf at hf
  refine lv_iload_n hx hb dX3_nameOf_0 rfl (lv_at hl 0 rfl) ?_
  by_cases c1 : v0 = (0 : Int32)
  · replace hf := it hf c1
    refine lv_tableIn (off := 43) (tgt := 44) hx hb dX3_nameOf_1 (by rw [c1]; decide) (by rw [c1]; decide) (by rw [c1]; rfl) (by decide) ?_
    refine va_ldcS hx hb hown (hK.2.2.2.1 0 (by decide)) dX3_nameOf_44 ?_
    subst hf
    exact r_aret C0 hr (Or.inl ⟨_, rfl⟩) hlocks hH dX3_nameOf_46
  · replace hf := ie hf c1
    by_cases c2 : v0 = (1 : Int32)
    · replace hf := it hf c2
      refine lv_tableIn (off := 46) (tgt := 47) hx hb dX3_nameOf_1 (by rw [c2]; decide) (by rw [c2]; decide) (by rw [c2]; rfl) (by decide) ?_
      refine va_ldcS hx hb hown (hK.2.2.2.1 1 (by decide)) dX3_nameOf_47 ?_
      subst hf
      exact r_aret C0 hr (Or.inl ⟨_, rfl⟩) hlocks hH dX3_nameOf_49
    · replace hf := ie hf c2
      by_cases c3 : v0 = (2 : Int32)
      · replace hf := it hf c3
        refine lv_tableIn (off := 49) (tgt := 50) hx hb dX3_nameOf_1 (by rw [c3]; decide) (by rw [c3]; decide) (by rw [c3]; rfl) (by decide) ?_
        refine va_ldcS hx hb hown (hK.2.2.2.1 2 (by decide)) dX3_nameOf_50 ?_
        subst hf
        exact r_aret C0 hr (Or.inl ⟨_, rfl⟩) hlocks hH dX3_nameOf_52
      · replace hf := ie hf c3
        by_cases c4 : v0 = (3 : Int32)
        · replace hf := it hf c4
          refine lv_tableIn (off := 52) (tgt := 53) hx hb dX3_nameOf_1 (by rw [c4]; decide) (by rw [c4]; decide) (by rw [c4]; rfl) (by decide) ?_
          refine va_ldcS hx hb hown (hK.2.2.2.1 3 (by decide)) dX3_nameOf_53 ?_
          subst hf
          exact r_aret C0 hr (Or.inl ⟨_, rfl⟩) hlocks hH dX3_nameOf_55
        · replace hf := ie hf c4
          by_cases c5 : v0 = (4 : Int32)
          · replace hf := it hf c5
            refine lv_tableIn (off := 55) (tgt := 56) hx hb dX3_nameOf_1 (by rw [c5]; decide) (by rw [c5]; decide) (by rw [c5]; rfl) (by decide) ?_
            refine va_ldcS hx hb hown (hK.2.2.2.1 4 (by decide)) dX3_nameOf_56 ?_
            subst hf
            exact r_aret C0 hr (Or.inl ⟨_, rfl⟩) hlocks hH dX3_nameOf_58
          · replace hf := ie hf c5
            by_cases c6 : v0 = (5 : Int32)
            · replace hf := it hf c6
              refine lv_tableIn (off := 58) (tgt := 59) hx hb dX3_nameOf_1 (by rw [c6]; decide) (by rw [c6]; decide) (by rw [c6]; rfl) (by decide) ?_
              refine va_ldcS hx hb hown (hK.2.2.2.1 5 (by decide)) dX3_nameOf_59 ?_
              subst hf
              exact r_aret C0 hr (Or.inl ⟨_, rfl⟩) hlocks hH dX3_nameOf_61
            · replace hf := ie hf c6
              by_cases c7 : v0 = (6 : Int32)
              · replace hf := it hf c7
                refine lv_tableIn (off := 61) (tgt := 62) hx hb dX3_nameOf_1 (by rw [c7]; decide) (by rw [c7]; decide) (by rw [c7]; rfl) (by decide) ?_
                refine va_ldcS hx hb hown (hK.2.2.2.1 6 (by decide)) dX3_nameOf_62 ?_
                subst hf
                exact r_aret C0 hr (Or.inl ⟨_, rfl⟩) hlocks hH dX3_nameOf_64
              · replace hf := ie hf c7
                refine lv_tableOut (tgt := 65) hx hb dX3_nameOf_1 (by have hc1 := lv_neT c1 (a := 0) (by decide); have hc2 := lv_neT c2 (a := 1) (by decide); have hc3 := lv_neT c3 (a := 2) (by decide); have hc4 := lv_neT c4 (a := 3) (by decide); have hc5 := lv_neT c5 (a := 4) (by decide); have hc6 := lv_neT c6 (a := 5) (by decide); have hc7 := lv_neT c7 (a := 6) (by decide); omega) (by decide) ?_
                refine va_ldcS hx hb hown (hK.2.2.2.1 7 (by decide)) dX3_nameOf_65 ?_
                subst hf
                exact r_aret C0 hr (Or.inl ⟨_, rfl⟩) hlocks hH dX3_nameOf_67
theorem dX6_isNamed_0 : decode cX6_isNamed 0 = .ok (.aload_n 0, 1) := by decide +kernel
theorem dX6_isNamed_1 : decode cX6_isNamed 1 = .ok (.getfield 25, 3) := by decide +kernel
theorem dX6_isNamed_4 : decode cX6_isNamed 4 = .ok (.iconst 2, 1) := by decide +kernel
theorem dX6_isNamed_5 : decode cX6_isNamed 5 = .ok (.if_icmp .ne 19, 3) := by decide +kernel
theorem dX6_isNamed_8 : decode cX6_isNamed 8 = .ok (.aload_n 0, 1) := by decide +kernel
theorem dX6_isNamed_9 : decode cX6_isNamed 9 = .ok (.getfield 19, 3) := by decide +kernel
theorem dX6_isNamed_12 : decode cX6_isNamed 12 = .ok (.aload_n 0, 1) := by decide +kernel
theorem dX6_isNamed_13 : decode cX6_isNamed 13 = .ok (.getfield 22, 3) := by decide +kernel
theorem dX6_isNamed_16 : decode cX6_isNamed 16 = .ok (.isub, 1) := by decide +kernel
theorem dX6_isNamed_17 : decode cX6_isNamed 17 = .ok (.aload_n 1, 1) := by decide +kernel
theorem dX6_isNamed_18 : decode cX6_isNamed 18 = .ok (.invokevirtual 44, 3) := by decide +kernel
theorem dX6_isNamed_21 : decode cX6_isNamed 21 = .ok (.if_icmp .eq 5, 3) := by decide +kernel
theorem dX6_isNamed_24 : decode cX6_isNamed 24 = .ok (.iconst 0, 1) := by decide +kernel
theorem dX6_isNamed_25 : decode cX6_isNamed 25 = .ok (.ireturn, 1) := by decide +kernel
theorem dX6_isNamed_26 : decode cX6_isNamed 26 = .ok (.iconst 0, 1) := by decide +kernel
theorem dX6_isNamed_27 : decode cX6_isNamed 27 = .ok (.istore_n 2, 1) := by decide +kernel
theorem dX6_isNamed_28 : decode cX6_isNamed 28 = .ok (.iload_n 2, 1) := by decide +kernel
theorem dX6_isNamed_29 : decode cX6_isNamed 29 = .ok (.aload_n 1, 1) := by decide +kernel
theorem dX6_isNamed_30 : decode cX6_isNamed 30 = .ok (.invokevirtual 44, 3) := by decide +kernel
theorem dX6_isNamed_33 : decode cX6_isNamed 33 = .ok (.if_icmp .ge 30, 3) := by decide +kernel
theorem dX6_isNamed_36 : decode cX6_isNamed 36 = .ok (.aload_n 0, 1) := by decide +kernel
theorem dX6_isNamed_37 : decode cX6_isNamed 37 = .ok (.getfield 9, 3) := by decide +kernel
theorem dX6_isNamed_40 : decode cX6_isNamed 40 = .ok (.aload_n 0, 1) := by decide +kernel
theorem dX6_isNamed_41 : decode cX6_isNamed 41 = .ok (.getfield 22, 3) := by decide +kernel
theorem dX6_isNamed_44 : decode cX6_isNamed 44 = .ok (.iload_n 2, 1) := by decide +kernel
theorem dX6_isNamed_45 : decode cX6_isNamed 45 = .ok (.iadd, 1) := by decide +kernel
theorem dX6_isNamed_46 : decode cX6_isNamed 46 = .ok (.baload, 1) := by decide +kernel
theorem dX6_isNamed_47 : decode cX6_isNamed 47 = .ok (.aload_n 1, 1) := by decide +kernel
theorem dX6_isNamed_48 : decode cX6_isNamed 48 = .ok (.iload_n 2, 1) := by decide +kernel
theorem dX6_isNamed_49 : decode cX6_isNamed 49 = .ok (.invokevirtual 50, 3) := by decide +kernel
theorem dX6_isNamed_52 : decode cX6_isNamed 52 = .ok (.if_icmp .eq 5, 3) := by decide +kernel
theorem dX6_isNamed_55 : decode cX6_isNamed 55 = .ok (.iconst 0, 1) := by decide +kernel
theorem dX6_isNamed_56 : decode cX6_isNamed 56 = .ok (.ireturn, 1) := by decide +kernel
theorem dX6_isNamed_57 : decode cX6_isNamed 57 = .ok (.iinc 2 1, 3) := by decide +kernel
theorem dX6_isNamed_60 : decode cX6_isNamed 60 = .ok (.goto (-32), 3) := by decide +kernel
theorem dX6_isNamed_63 : decode cX6_isNamed 63 = .ok (.iconst 1, 1) := by decide +kernel
theorem dX6_isNamed_64 : decode cX6_isNamed 64 = .ok (.ireturn, 1) := by decide +kernel
def f_X6_isNamed_L28 (Λ : List Ly) (d : Dt) (p0 : Nat) (p1 : Nat) : Nat → Int32 → Option Int32
  | 0, _ => none
  | n + 1, v2 => Option.bind (sLen p1) fun z5 => if z5 ≤ v2 then (some (1 : Int32)) else (Option.bind (rf Λ p0 6 0) fun q7 => if clsAt Λ p0 = some 6 then (if okA Λ q7 0 ((d.1 p0 3) + v2) = true then (Option.bind (sCh p1 v2) fun z10 => if (d.1 q7 (((d.1 p0 3) + v2)).toNatClampNeg) = z10 then (f_X6_isNamed_L28 Λ d p0 p1 n (v2 + (1 : Int32))) else (some (0 : Int32))) else none) else none)
def f_X6_isNamed (Λ : List Ly) (d : Dt) (p0 : Nat) (p1 : Nat) : Option Int32 := if clsAt Λ p0 = some 6 then (if (d.1 p0 2) = (2 : Int32) then (Option.bind (sLen p1) fun z3 => if ((d.1 p0 5) - (d.1 p0 3)) = z3 then (f_X6_isNamed_L28 Λ d p0 p1 FU (0 : Int32)) else (some (0 : Int32))) else (some (0 : Int32))) else none
set_option maxHeartbeats 4000000 in
set_option maxRecDepth 100000 in
theorem w_X6_isNamed_L28 {p : Program} {l : Launch} {e : Env} {s : State} {m : MethodId} {args : Array Value} {below : List Frame} {meth : Method} {c : Code} {Γ : Cx} {Λ : List Ly} {z : Int32} {d : Dt} (C0 : Ct Γ p s m args c cX6_isNamed 3 "SeasonBound$Tape") (hr : meth.sig.returnType = (some FieldType.boolean)) (hlocks : meth.locks = false) (p0 : Nat) (p1 : Nat) :
    ∀ (n : Nat) (v2 : Int32), f_X6_isNamed_L28 Λ d p0 p1 n v2 = some z → ∀ (H : Heap) (locs : List Loc) (ls : Array Slot), Hs Γ Λ d s H locs → lv_has ls 3 [(0, .ref (ad Γ.2.2.1 p0)), (1, .ref (Γ.2.2.2.1 p1)), (2, .int v2)] → W p l e { frames := 5, cells := 0, slots := 0, locals := 106 } s m args below meth c H locs 0 0 (MQ below (QN Γ Λ d (some (.int z))) args s 0 0 (AP Γ)) (F0 m 28 ls []) := by
  obtain ⟨hx, hb, hml, hown, hts, hK⟩ := id C0
  intro n
  induction n with
  | zero =>
    intro v2 hf
    cases hf
  | succ n ih =>
    intro v2 hf H locs ls hH hl
    unfold f_X6_isNamed_L28 at hf
    refine lv_iload_n hx hb dX6_isNamed_28 rfl (lv_at hl 2 rfl) ?_
    refine lv_aload_n hx hb dX6_isNamed_29 rfl (lv_at hl 1 rfl) ?_
    obtain ⟨z5, h5, hf⟩ := ob hf
    refine r_callXi (rest := [.int v2]) C0 hH (c_sLen Γ l Λ d p1 z5 h5) cx_X6_44 (sLen_lt h5) (by decide) rfl hl.1 rfl (Nat.le_of_ble_eq_true rfl) dX6_isNamed_30 (by decide) (fun H locs hH => ?_)
    refine lv_icmp_ge (tgt := 63) hx hb dX6_isNamed_33 (by decide) (fun c6 => ?_) (fun c6 => ?_)
    · replace hf := it hf c6
      refine lv_iconst (v := (1 : Int32)) hx hb dX6_isNamed_63 (by decide) ?_
      obtain rfl := Option.some.inj hf
      exact r_iret (d' := d) C0 hr hlocks hH (nz (Or.inr rfl)) dX6_isNamed_64
    · replace hf := ie hf c6
      refine lv_aload_n hx hb dX6_isNamed_36 rfl (lv_at hl 0 rfl) ?_
      obtain ⟨q7, g7, hf⟩ := ob hf
      refine r_getr C0 hH fl_X6_9 g7 dX6_isNamed_37 ?_
      refine lv_aload_n hx hb dX6_isNamed_40 rfl (lv_at hl 0 rfl) ?_
      obtain ⟨g8, hf⟩ := gd hf
      refine r_geti C0 hH fl_X6_22 g8 rfl dX6_isNamed_41 ?_
      refine lv_iload_n hx hb dX6_isNamed_44 rfl (lv_at hl 2 rfl) ?_
      refine lv_iadd hx hb dX6_isNamed_45 ?_
      obtain ⟨g9, hf⟩ := gd hf
      refine r_bald C0 hH g9 dX6_isNamed_46 ?_
      refine lv_aload_n hx hb dX6_isNamed_47 rfl (lv_at hl 1 rfl) ?_
      refine lv_iload_n hx hb dX6_isNamed_48 rfl (lv_at hl 2 rfl) ?_
      obtain ⟨z10, h10, hf⟩ := ob hf
      refine r_callXi (rest := [.int (d.1 q7 (((d.1 p0 3) + v2)).toNatClampNeg)]) C0 hH (c_sCh Γ l Λ d p1 v2 z10 h10) cx_X6_50 (sCh_lt h10) (by decide) rfl hl.1 rfl (Nat.le_of_ble_eq_true rfl) dX6_isNamed_49 (by decide) (fun H locs hH => ?_)
      refine lv_icmp_eq (tgt := 57) hx hb dX6_isNamed_52 (by decide) (fun c11 => ?_) (fun c11 => ?_)
      · replace hf := it hf c11
        refine lv_iinc (v := (v2 + (1 : Int32))) (lv' := [(2, .int (v2 + (1 : Int32))), (0, .ref (ad Γ.2.2.1 p0)), (1, .ref (Γ.2.2.2.1 p1))]) hx hb dX6_isNamed_57 hl (k := 2) rfl (congrArg (fun w => v2 + w) (by decide)) (by decide) rfl (fun ls hl => ?_)
        refine lv_goto (tgt := 28) hx hb dX6_isNamed_60 (by decide) ?_
        exact ih (v2 + (1 : Int32)) hf _ _ _ hH (lv_sub hl [1, 2, 0] rfl)
      · replace hf := ie hf c11
        refine lv_iconst (v := (0 : Int32)) hx hb dX6_isNamed_55 (by decide) ?_
        obtain rfl := Option.some.inj hf
        exact r_iret (d' := d) C0 hr hlocks hH (nz (Or.inl rfl)) dX6_isNamed_56
set_option maxHeartbeats 4000000 in
set_option maxRecDepth 100000 in
theorem c_X6_isNamed (Γ : Cx) (l : Launch) (Λ : List Ly) (d : Dt) (p0 : Nat) (p1 : Nat) (z : Int32) (hf : f_X6_isNamed Λ d p0 p1 = some z) : Cn Γ l yX6_isNamed cX6_isNamed 3 (some FieldType.boolean) 5 106 [.ref (ad Γ.2.2.1 p0), .ref (Γ.2.2.2.1 p1)] Λ d (some (.int z)) d := by
  refine Cn.of (own := "SeasonBound$Tape") (by decide +kernel) rfl (Nat.le_of_ble_eq_true rfl) ?_
  intro p e s m below meth c C0 hr hlocks hH ls hl
  have hl : lv_has ls 3 [(0, .ref (ad Γ.2.2.1 p0)), (1, .ref (Γ.2.2.2.1 p1))] := hl
  obtain ⟨hx, hb, hml, hown, hts, hK⟩ := id C0
  unfold f_X6_isNamed at hf
  refine lv_aload_n hx hb dX6_isNamed_0 rfl (lv_at hl 0 rfl) ?_
  obtain ⟨g1, hf⟩ := gd hf
  refine r_geti C0 hH fl_X6_25 g1 rfl dX6_isNamed_1 ?_
  refine lv_iconst (v := (2 : Int32)) hx hb dX6_isNamed_4 (by decide) ?_
  refine lv_icmp_ne (tgt := 24) hx hb dX6_isNamed_5 (by decide) (fun c2 => ?_) (fun c2 => ?_)
  · replace hf := ie hf c2
    refine lv_iconst (v := (0 : Int32)) hx hb dX6_isNamed_24 (by decide) ?_
    obtain rfl := Option.some.inj hf
    exact r_iret (d' := d) C0 hr hlocks hH (nz (Or.inl rfl)) dX6_isNamed_25
  · replace hf := it hf c2
    refine lv_aload_n hx hb dX6_isNamed_8 rfl (lv_at hl 0 rfl) ?_
    refine r_geti C0 hH fl_X6_19 g1 rfl dX6_isNamed_9 ?_
    refine lv_aload_n hx hb dX6_isNamed_12 rfl (lv_at hl 0 rfl) ?_
    refine r_geti C0 hH fl_X6_22 g1 rfl dX6_isNamed_13 ?_
    refine lv_isub hx hb dX6_isNamed_16 ?_
    refine lv_aload_n hx hb dX6_isNamed_17 rfl (lv_at hl 1 rfl) ?_
    obtain ⟨z3, h3, hf⟩ := ob hf
    refine r_callXi (rest := [.int ((d.1 p0 5) - (d.1 p0 3))]) C0 hH (c_sLen Γ l Λ d p1 z3 h3) cx_X6_44 (sLen_lt h3) (by decide) rfl hl.1 rfl (Nat.le_of_ble_eq_true rfl) dX6_isNamed_18 (by decide) (fun H locs hH => ?_)
    refine lv_icmp_eq (tgt := 26) hx hb dX6_isNamed_21 (by decide) (fun c4 => ?_) (fun c4 => ?_)
    · replace hf := it hf c4
      refine lv_iconst (v := (0 : Int32)) hx hb dX6_isNamed_26 (by decide) ?_
      refine lv_istore_n (lv' := [(2, .int (0 : Int32)), (0, .ref (ad Γ.2.2.1 p0)), (1, .ref (Γ.2.2.2.1 p1))]) hx hb dX6_isNamed_27 rfl hl (by decide) rfl (fun ls hl => ?_)
      refine w_X6_isNamed_L28 C0 hr hlocks p0 p1 FU (0 : Int32) hf _ _ _ hH (lv_sub hl [1, 2, 0] rfl)
    · replace hf := ie hf c4
      refine lv_iconst (v := (0 : Int32)) hx hb dX6_isNamed_24 (by decide) ?_
      obtain rfl := Option.some.inj hf
      exact r_iret (d' := d) C0 hr hlocks hH (nz (Or.inl rfl)) dX6_isNamed_25
theorem dX3_fail_0 : decode cX3_fail 0 = .ok (.aload_n 0, 1) := by decide +kernel
theorem dX3_fail_1 : decode cX3_fail 1 = .ok (.iload_n 1, 1) := by decide +kernel
theorem dX3_fail_2 : decode cX3_fail 2 = .ok (.putfield 30, 3) := by decide +kernel
theorem dX3_fail_5 : decode cX3_fail 5 = .ok (.aload_n 0, 1) := by decide +kernel
theorem dX3_fail_6 : decode cX3_fail 6 = .ok (.aload_n 0, 1) := by decide +kernel
theorem dX3_fail_7 : decode cX3_fail 7 = .ok (.getfield 12, 3) := by decide +kernel
theorem dX3_fail_10 : decode cX3_fail 10 = .ok (.getfield 129, 3) := by decide +kernel
theorem dX3_fail_13 : decode cX3_fail 13 = .ok (.putfield 132, 3) := by decide +kernel
theorem dX3_fail_16 : decode cX3_fail 16 = .ok (.iconst 0, 1) := by decide +kernel
theorem dX3_fail_17 : decode cX3_fail 17 = .ok (.ireturn, 1) := by decide +kernel
def f_X3_fail (Λ : List Ly) (d : Dt) (p0 : Nat) (v1 : Int32) : Option (Int32 × Dt) := if clsAt Λ p0 = some 3 then (Option.bind (rf Λ p0 3 0) fun q2 => if clsAt Λ q2 = some 6 then (some ((0 : Int32), (pI (pI d p0 2 v1) p0 3 ((pI d p0 2 v1).1 q2 3)))) else none) else none
set_option maxHeartbeats 4000000 in
set_option maxRecDepth 100000 in
theorem c_X3_fail (Γ : Cx) (l : Launch) (Λ : List Ly) (d : Dt) (p0 : Nat) (v1 : Int32) (z : Int32 × Dt) (hf : f_X3_fail Λ d p0 v1 = some z) : Cn Γ l yX3_fail cX3_fail 2 (some FieldType.boolean) 0 0 [.ref (ad Γ.2.2.1 p0), .int v1] Λ d (some (.int z.1)) z.2 := by
  refine Cn.of (own := "SeasonBound$Reader") (by decide +kernel) rfl (Nat.le_of_ble_eq_true rfl) ?_
  intro p e s m below meth c C0 hr hlocks hH ls hl
  have hl : lv_has ls 2 [(0, .ref (ad Γ.2.2.1 p0)), (1, .int v1)] := hl
  obtain ⟨hx, hb, hml, hown, hts, hK⟩ := id C0
  unfold f_X3_fail at hf
  refine lv_aload_n hx hb dX3_fail_0 rfl (lv_at hl 0 rfl) ?_
  refine lv_iload_n hx hb dX3_fail_1 rfl (lv_at hl 1 rfl) ?_
  obtain ⟨g1, hf⟩ := gd hf
  refine r_puti C0 hH fw_X3_30 g1 rfl dX3_fail_2 (fun H locs hH => ?_)
  refine lv_aload_n hx hb dX3_fail_5 rfl (lv_at hl 0 rfl) ?_
  refine lv_aload_n hx hb dX3_fail_6 rfl (lv_at hl 0 rfl) ?_
  obtain ⟨q2, g2, hf⟩ := ob hf
  refine r_getr C0 hH fl_X3_12 g2 dX3_fail_7 ?_
  obtain ⟨g3, hf⟩ := gd hf
  refine r_geti C0 hH fl_X3_129 g3 rfl dX3_fail_10 ?_
  refine r_puti C0 hH fw_X3_132 g1 rfl dX3_fail_13 (fun H locs hH => ?_)
  refine lv_iconst (v := (0 : Int32)) hx hb dX3_fail_16 (by decide) ?_
  obtain rfl := Option.some.inj hf
  exact r_iret (d' := d) C0 hr hlocks hH (nz (Or.inl rfl)) dX3_fail_17
theorem dX3_failAtToken_0 : decode cX3_failAtToken 0 = .ok (.aload_n 0, 1) := by decide +kernel
theorem dX3_failAtToken_1 : decode cX3_failAtToken 1 = .ok (.aload_n 0, 1) := by decide +kernel
theorem dX3_failAtToken_2 : decode cX3_failAtToken 2 = .ok (.getfield 12, 3) := by decide +kernel
theorem dX3_failAtToken_5 : decode cX3_failAtToken 5 = .ok (.getfield 36, 3) := by decide +kernel
theorem dX3_failAtToken_8 : decode cX3_failAtToken 8 = .ok (.iconst 1, 1) := by decide +kernel
theorem dX3_failAtToken_9 : decode cX3_failAtToken 9 = .ok (.if_icmp .ne 7, 3) := by decide +kernel
theorem dX3_failAtToken_12 : decode cX3_failAtToken 12 = .ok (.iconst 1, 1) := by decide +kernel
theorem dX3_failAtToken_13 : decode cX3_failAtToken 13 = .ok (.goto 4, 3) := by decide +kernel
theorem dX3_failAtToken_16 : decode cX3_failAtToken 16 = .ok (.iconst 2, 1) := by decide +kernel
theorem dX3_failAtToken_17 : decode cX3_failAtToken 17 = .ok (.invokevirtual 89, 3) := by decide +kernel
theorem dX3_failAtToken_20 : decode cX3_failAtToken 20 = .ok (.ireturn, 1) := by decide +kernel
def f_X3_failAtToken (Λ : List Ly) (d : Dt) (p0 : Nat) : Option (Int32 × Dt) := Option.bind (rf Λ p0 3 0) fun q1 => if clsAt Λ q1 = some 6 then (if (d.1 q1 2) = (1 : Int32) then (if clsAt Λ p0 = some 3 then (Option.bind (f_X3_fail Λ d p0 (1 : Int32)) fun z8 => if (z8.1 = 0 ∨ z8.1 = 1) then (some (z8.1, z8.2)) else none) else none) else (if clsAt Λ p0 = some 3 then (Option.bind (f_X3_fail Λ d p0 (2 : Int32)) fun z5 => if (z5.1 = 0 ∨ z5.1 = 1) then (some (z5.1, z5.2)) else none) else none)) else none
set_option maxHeartbeats 4000000 in
set_option maxRecDepth 100000 in
theorem c_X3_failAtToken (Γ : Cx) (l : Launch) (Λ : List Ly) (d : Dt) (p0 : Nat) (z : Int32 × Dt) (hf : f_X3_failAtToken Λ d p0 = some z) : Cn Γ l yX3_failAtToken cX3_failAtToken 1 (some FieldType.boolean) 1 21 [.ref (ad Γ.2.2.1 p0)] Λ d (some (.int z.1)) z.2 := by
  refine Cn.of (own := "SeasonBound$Reader") (by decide +kernel) rfl (Nat.le_of_ble_eq_true rfl) ?_
  intro p e s m below meth c C0 hr hlocks hH ls hl
  have hl : lv_has ls 1 [(0, .ref (ad Γ.2.2.1 p0))] := hl
  obtain ⟨hx, hb, hml, hown, hts, hK⟩ := id C0
  unfold f_X3_failAtToken at hf
  refine lv_aload_n hx hb dX3_failAtToken_0 rfl (lv_at hl 0 rfl) ?_
  refine lv_aload_n hx hb dX3_failAtToken_1 rfl (lv_at hl 0 rfl) ?_
  obtain ⟨q1, g1, hf⟩ := ob hf
  refine r_getr C0 hH fl_X3_12 g1 dX3_failAtToken_2 ?_
  obtain ⟨g2, hf⟩ := gd hf
  refine r_geti C0 hH fl_X3_36 g2 rfl dX3_failAtToken_5 ?_
  refine lv_iconst (v := (1 : Int32)) hx hb dX3_failAtToken_8 (by decide) ?_
  refine lv_icmp_ne (tgt := 16) hx hb dX3_failAtToken_9 (by decide) (fun c3 => ?_) (fun c3 => ?_)
  · replace hf := ie hf c3
    refine lv_iconst (v := (2 : Int32)) hx hb dX3_failAtToken_16 (by decide) ?_
    obtain ⟨g4, hf⟩ := gd hf
    obtain ⟨z5, h5, hf⟩ := ob hf
    refine r_callVi (rest := []) C0 hH (c_X3_fail Γ l Λ d p0 (2 : Int32) z5 h5) cv_X3_89 g4 (by decide) rfl hl.1 rfl (Nat.le_of_ble_eq_true rfl) dX3_failAtToken_17 (by decide) (fun H locs hH => ?_)
    obtain ⟨g6, hf⟩ := gd hf
    obtain rfl := Option.some.inj hf
    exact r_iret (d' := d) C0 hr hlocks hH (nz g6) dX3_failAtToken_20
  · replace hf := it hf c3
    refine lv_iconst (v := (1 : Int32)) hx hb dX3_failAtToken_12 (by decide) ?_
    refine lv_goto (tgt := 17) hx hb dX3_failAtToken_13 (by decide) ?_
    obtain ⟨g7, hf⟩ := gd hf
    obtain ⟨z8, h8, hf⟩ := ob hf
    refine r_callVi (rest := []) C0 hH (c_X3_fail Γ l Λ d p0 (1 : Int32) z8 h8) cv_X3_89 g7 (by decide) rfl hl.1 rfl (Nat.le_of_ble_eq_true rfl) dX3_failAtToken_17 (by decide) (fun H locs hH => ?_)
    obtain ⟨g9, hf⟩ := gd hf
    obtain rfl := Option.some.inj hf
    exact r_iret (d' := d) C0 hr hlocks hH (nz g9) dX3_failAtToken_20
theorem dX3_readNumber_0 : decode cX3_readNumber 0 = .ok (.aload_n 0, 1) := by decide +kernel
theorem dX3_readNumber_1 : decode cX3_readNumber 1 = .ok (.getfield 12, 3) := by decide +kernel
theorem dX3_readNumber_4 : decode cX3_readNumber 4 = .ok (.invokevirtual 33, 3) := by decide +kernel
theorem dX3_readNumber_7 : decode cX3_readNumber 7 = .ok (.aload_n 0, 1) := by decide +kernel
theorem dX3_readNumber_8 : decode cX3_readNumber 8 = .ok (.getfield 12, 3) := by decide +kernel
theorem dX3_readNumber_11 : decode cX3_readNumber 11 = .ok (.getfield 36, 3) := by decide +kernel
theorem dX3_readNumber_14 : decode cX3_readNumber 14 = .ok (.iconst 3, 1) := by decide +kernel
theorem dX3_readNumber_15 : decode cX3_readNumber 15 = .ok (.if_icmp .eq 8, 3) := by decide +kernel
theorem dX3_readNumber_18 : decode cX3_readNumber 18 = .ok (.aload_n 0, 1) := by decide +kernel
theorem dX3_readNumber_19 : decode cX3_readNumber 19 = .ok (.invokevirtual 70, 3) := by decide +kernel
theorem dX3_readNumber_22 : decode cX3_readNumber 22 = .ok (.ireturn, 1) := by decide +kernel
theorem dX3_readNumber_23 : decode cX3_readNumber 23 = .ok (.aload_n 0, 1) := by decide +kernel
theorem dX3_readNumber_24 : decode cX3_readNumber 24 = .ok (.getfield 12, 3) := by decide +kernel
theorem dX3_readNumber_27 : decode cX3_readNumber 27 = .ok (.getfield 97, 3) := by decide +kernel
theorem dX3_readNumber_30 : decode cX3_readNumber 30 = .ok (.iload_n 1, 1) := by decide +kernel
theorem dX3_readNumber_31 : decode cX3_readNumber 31 = .ok (.iload_n 2, 1) := by decide +kernel
theorem dX3_readNumber_32 : decode cX3_readNumber 32 = .ok (.invokestatic 125, 3) := by decide +kernel
theorem dX3_readNumber_35 : decode cX3_readNumber 35 = .ok (.ifCond .ne 11, 3) := by decide +kernel
theorem dX3_readNumber_38 : decode cX3_readNumber 38 = .ok (.aload_n 0, 1) := by decide +kernel
theorem dX3_readNumber_39 : decode cX3_readNumber 39 = .ok (.iconst 3, 1) := by decide +kernel
theorem dX3_readNumber_40 : decode cX3_readNumber 40 = .ok (.invokevirtual 89, 3) := by decide +kernel
theorem dX3_readNumber_43 : decode cX3_readNumber 43 = .ok (.ifCond .eq 7, 3) := by decide +kernel
theorem dX3_readNumber_46 : decode cX3_readNumber 46 = .ok (.iconst 1, 1) := by decide +kernel
theorem dX3_readNumber_47 : decode cX3_readNumber 47 = .ok (.goto 4, 3) := by decide +kernel
theorem dX3_readNumber_50 : decode cX3_readNumber 50 = .ok (.iconst 0, 1) := by decide +kernel
theorem dX3_readNumber_51 : decode cX3_readNumber 51 = .ok (.ireturn, 1) := by decide +kernel
def f_X3_readNumber (Λ : List Ly) (d : Dt) (p0 : Nat) (v1 : Int32) (v2 : Int32) : Option (Int32 × Dt) := Option.bind (rf Λ p0 3 0) fun q1 => if clsAt Λ q1 = some 6 then (Option.bind (f_X6_readToken Λ d q1) fun z3 => if (z3.1 q1 2) = (3 : Int32) then (if (f_X8_within (z3.1 q1 4) v1 v2) = 0 then (if clsAt Λ p0 = some 3 then (Option.bind (f_X3_fail Λ z3 p0 (3 : Int32)) fun z7 => if z7.1 = 0 then (some ((0 : Int32), z7.2)) else (some ((1 : Int32), z7.2))) else none) else (some ((1 : Int32), z3))) else (if clsAt Λ p0 = some 3 then (Option.bind (f_X3_failAtToken Λ z3 p0) fun z10 => if (z10.1 = 0 ∨ z10.1 = 1) then (some (z10.1, z10.2)) else none) else none)) else none
set_option maxHeartbeats 4000000 in
set_option maxRecDepth 100000 in
theorem c_X3_readNumber (Γ : Cx) (l : Launch) (Λ : List Ly) (d : Dt) (p0 : Nat) (v1 : Int32) (v2 : Int32) (z : Int32 × Dt) (hf : f_X3_readNumber Λ d p0 v1 v2 = some z) : Cn Γ l yX3_readNumber cX3_readNumber 3 (some FieldType.boolean) 3 60 [.ref (ad Γ.2.2.1 p0), .int v1, .int v2] Λ d (some (.int z.1)) z.2 := by
  refine Cn.of (own := "SeasonBound$Reader") (by decide +kernel) rfl (Nat.le_of_ble_eq_true rfl) ?_
  intro p e s m below meth c C0 hr hlocks hH ls hl
  have hl : lv_has ls 3 [(0, .ref (ad Γ.2.2.1 p0)), (1, .int v1), (2, .int v2)] := hl
  obtain ⟨hx, hb, hml, hown, hts, hK⟩ := id C0
  unfold f_X3_readNumber at hf
  refine lv_aload_n hx hb dX3_readNumber_0 rfl (lv_at hl 0 rfl) ?_
  obtain ⟨q1, g1, hf⟩ := ob hf
  refine r_getr C0 hH fl_X3_12 g1 dX3_readNumber_1 ?_
  obtain ⟨g2, hf⟩ := gd hf
  obtain ⟨z3, h3, hf⟩ := ob hf
  refine r_callVv (rest := []) C0 hH (c_X6_readToken Γ l Λ d q1 z3 h3) cv_X3_33 g2 (by decide) rfl hl.1 rfl (Nat.le_of_ble_eq_true rfl) dX3_readNumber_4 (by decide) (fun H locs hH => ?_)
  refine lv_aload_n hx hb dX3_readNumber_7 rfl (lv_at hl 0 rfl) ?_
  refine r_getr C0 hH fl_X3_12 g1 dX3_readNumber_8 ?_
  refine r_geti C0 hH fl_X3_36 g2 rfl dX3_readNumber_11 ?_
  refine lv_iconst (v := (3 : Int32)) hx hb dX3_readNumber_14 (by decide) ?_
  refine lv_icmp_eq (tgt := 23) hx hb dX3_readNumber_15 (by decide) (fun c4 => ?_) (fun c4 => ?_)
  · replace hf := it hf c4
    refine lv_aload_n hx hb dX3_readNumber_23 rfl (lv_at hl 0 rfl) ?_
    refine r_getr C0 hH fl_X3_12 g1 dX3_readNumber_24 ?_
    refine r_geti C0 hH fl_X3_97 g2 rfl dX3_readNumber_27 ?_
    refine lv_iload_n hx hb dX3_readNumber_30 rfl (lv_at hl 1 rfl) ?_
    refine lv_iload_n hx hb dX3_readNumber_31 rfl (lv_at hl 2 rfl) ?_
    refine r_callNi (rest := []) C0 hH (c_X8_within Γ l Λ z3 (z3.1 q1 4) v1 v2) cn_X3_125 (by decide) rfl hl.1 rfl (Nat.le_of_ble_eq_true rfl) dX3_readNumber_32 (by decide) (fun H locs hH => ?_)
    refine lv_if_ne (tgt := 46) hx hb dX3_readNumber_35 (by decide) (fun c5 => ?_) (fun c5 => ?_)
    · replace hf := ie hf c5
      refine lv_iconst (v := (1 : Int32)) hx hb dX3_readNumber_46 (by decide) ?_
      refine lv_goto (tgt := 51) hx hb dX3_readNumber_47 (by decide) ?_
      obtain rfl := Option.some.inj hf
      exact r_iret (d' := d) C0 hr hlocks hH (nz (Or.inr rfl)) dX3_readNumber_51
    · replace hf := it hf c5
      refine lv_aload_n hx hb dX3_readNumber_38 rfl (lv_at hl 0 rfl) ?_
      refine lv_iconst (v := (3 : Int32)) hx hb dX3_readNumber_39 (by decide) ?_
      obtain ⟨g6, hf⟩ := gd hf
      obtain ⟨z7, h7, hf⟩ := ob hf
      refine r_callVi (rest := []) C0 hH (c_X3_fail Γ l Λ z3 p0 (3 : Int32) z7 h7) cv_X3_89 g6 (by decide) rfl hl.1 rfl (Nat.le_of_ble_eq_true rfl) dX3_readNumber_40 (by decide) (fun H locs hH => ?_)
      refine lv_if_eq (tgt := 50) hx hb dX3_readNumber_43 (by decide) (fun c8 => ?_) (fun c8 => ?_)
      · replace hf := it hf c8
        refine lv_iconst (v := (0 : Int32)) hx hb dX3_readNumber_50 (by decide) ?_
        obtain rfl := Option.some.inj hf
        exact r_iret (d' := d) C0 hr hlocks hH (nz (Or.inl rfl)) dX3_readNumber_51
      · replace hf := ie hf c8
        refine lv_iconst (v := (1 : Int32)) hx hb dX3_readNumber_46 (by decide) ?_
        refine lv_goto (tgt := 51) hx hb dX3_readNumber_47 (by decide) ?_
        obtain rfl := Option.some.inj hf
        exact r_iret (d' := d) C0 hr hlocks hH (nz (Or.inr rfl)) dX3_readNumber_51
  · replace hf := ie hf c4
    refine lv_aload_n hx hb dX3_readNumber_18 rfl (lv_at hl 0 rfl) ?_
    obtain ⟨g9, hf⟩ := gd hf
    obtain ⟨z10, h10, hf⟩ := ob hf
    refine r_callVi (rest := []) C0 hH (c_X3_failAtToken Γ l Λ z3 p0 z10 h10) cv_X3_70 g9 (by decide) rfl hl.1 rfl (Nat.le_of_ble_eq_true rfl) dX3_readNumber_19 (by decide) (fun H locs hH => ?_)
    obtain ⟨g11, hf⟩ := gd hf
    obtain rfl := Option.some.inj hf
    exact r_iret (d' := d) C0 hr hlocks hH (nz g11) dX3_readNumber_22
theorem dX3_readSeason_0 : decode cX3_readSeason 0 = .ok (.aload_n 0, 1) := by decide +kernel
theorem dX3_readSeason_1 : decode cX3_readSeason 1 = .ok (.getfield 26, 3) := by decide +kernel
theorem dX3_readSeason_4 : decode cX3_readSeason 4 = .ok (.iconst 1, 1) := by decide +kernel
theorem dX3_readSeason_5 : decode cX3_readSeason 5 = .ok (.iload_n 2, 1) := by decide +kernel
theorem dX3_readSeason_6 : decode cX3_readSeason 6 = .ok (.ishl, 1) := by decide +kernel
theorem dX3_readSeason_7 : decode cX3_readSeason 7 = .ok (.iand, 1) := by decide +kernel
theorem dX3_readSeason_8 : decode cX3_readSeason 8 = .ok (.ifCond .eq 9, 3) := by decide +kernel
theorem dX3_readSeason_11 : decode cX3_readSeason 11 = .ok (.aload_n 0, 1) := by decide +kernel
theorem dX3_readSeason_12 : decode cX3_readSeason 12 = .ok (.iconst 4, 1) := by decide +kernel
theorem dX3_readSeason_13 : decode cX3_readSeason 13 = .ok (.invokevirtual 89, 3) := by decide +kernel
theorem dX3_readSeason_16 : decode cX3_readSeason 16 = .ok (.ireturn, 1) := by decide +kernel
theorem dX3_readSeason_17 : decode cX3_readSeason 17 = .ok (.aload_n 0, 1) := by decide +kernel
theorem dX3_readSeason_18 : decode cX3_readSeason 18 = .ok (.dup, 1) := by decide +kernel
theorem dX3_readSeason_19 : decode cX3_readSeason 19 = .ok (.getfield 26, 3) := by decide +kernel
theorem dX3_readSeason_22 : decode cX3_readSeason 22 = .ok (.iconst 1, 1) := by decide +kernel
theorem dX3_readSeason_23 : decode cX3_readSeason 23 = .ok (.iload_n 2, 1) := by decide +kernel
theorem dX3_readSeason_24 : decode cX3_readSeason 24 = .ok (.ishl, 1) := by decide +kernel
theorem dX3_readSeason_25 : decode cX3_readSeason 25 = .ok (.ior, 1) := by decide +kernel
theorem dX3_readSeason_26 : decode cX3_readSeason 26 = .ok (.putfield 26, 3) := by decide +kernel
theorem dX3_readSeason_29 : decode cX3_readSeason 29 = .ok (.aload_n 0, 1) := by decide +kernel
theorem dX3_readSeason_30 : decode cX3_readSeason 30 = .ok (.iconst 1, 1) := by decide +kernel
theorem dX3_readSeason_31 : decode cX3_readSeason 31 = .ok (.bipush 9, 2) := by decide +kernel
theorem dX3_readSeason_33 : decode cX3_readSeason 33 = .ok (.invokevirtual 93, 3) := by decide +kernel
theorem dX3_readSeason_36 : decode cX3_readSeason 36 = .ok (.ifCond .ne 5, 3) := by decide +kernel
theorem dX3_readSeason_39 : decode cX3_readSeason 39 = .ok (.iconst 0, 1) := by decide +kernel
theorem dX3_readSeason_40 : decode cX3_readSeason 40 = .ok (.ireturn, 1) := by decide +kernel
theorem dX3_readSeason_41 : decode cX3_readSeason 41 = .ok (.aload_n 1, 1) := by decide +kernel
theorem dX3_readSeason_42 : decode cX3_readSeason 42 = .ok (.aload_n 0, 1) := by decide +kernel
theorem dX3_readSeason_43 : decode cX3_readSeason 43 = .ok (.getfield 12, 3) := by decide +kernel
theorem dX3_readSeason_46 : decode cX3_readSeason 46 = .ok (.getfield 97, 3) := by decide +kernel
theorem dX3_readSeason_49 : decode cX3_readSeason 49 = .ok (.putfield 100, 3) := by decide +kernel
theorem dX3_readSeason_52 : decode cX3_readSeason 52 = .ok (.aload_n 0, 1) := by decide +kernel
theorem dX3_readSeason_53 : decode cX3_readSeason 53 = .ok (.iconst 0, 1) := by decide +kernel
theorem dX3_readSeason_54 : decode cX3_readSeason 54 = .ok (.bipush 9, 2) := by decide +kernel
theorem dX3_readSeason_56 : decode cX3_readSeason 56 = .ok (.invokevirtual 93, 3) := by decide +kernel
theorem dX3_readSeason_59 : decode cX3_readSeason 59 = .ok (.ifCond .ne 5, 3) := by decide +kernel
theorem dX3_readSeason_62 : decode cX3_readSeason 62 = .ok (.iconst 0, 1) := by decide +kernel
theorem dX3_readSeason_63 : decode cX3_readSeason 63 = .ok (.ireturn, 1) := by decide +kernel
theorem dX3_readSeason_64 : decode cX3_readSeason 64 = .ok (.aload_n 1, 1) := by decide +kernel
theorem dX3_readSeason_65 : decode cX3_readSeason 65 = .ok (.aload_n 0, 1) := by decide +kernel
theorem dX3_readSeason_66 : decode cX3_readSeason 66 = .ok (.getfield 12, 3) := by decide +kernel
theorem dX3_readSeason_69 : decode cX3_readSeason 69 = .ok (.getfield 97, 3) := by decide +kernel
theorem dX3_readSeason_72 : decode cX3_readSeason 72 = .ok (.putfield 105, 3) := by decide +kernel
theorem dX3_readSeason_75 : decode cX3_readSeason 75 = .ok (.aload_n 0, 1) := by decide +kernel
theorem dX3_readSeason_76 : decode cX3_readSeason 76 = .ok (.iconst 0, 1) := by decide +kernel
theorem dX3_readSeason_77 : decode cX3_readSeason 77 = .ok (.bipush 99, 2) := by decide +kernel
theorem dX3_readSeason_79 : decode cX3_readSeason 79 = .ok (.invokevirtual 93, 3) := by decide +kernel
theorem dX3_readSeason_82 : decode cX3_readSeason 82 = .ok (.ifCond .ne 5, 3) := by decide +kernel
theorem dX3_readSeason_85 : decode cX3_readSeason 85 = .ok (.iconst 0, 1) := by decide +kernel
theorem dX3_readSeason_86 : decode cX3_readSeason 86 = .ok (.ireturn, 1) := by decide +kernel
theorem dX3_readSeason_87 : decode cX3_readSeason 87 = .ok (.aload_n 1, 1) := by decide +kernel
theorem dX3_readSeason_88 : decode cX3_readSeason 88 = .ok (.aload_n 0, 1) := by decide +kernel
theorem dX3_readSeason_89 : decode cX3_readSeason 89 = .ok (.getfield 12, 3) := by decide +kernel
theorem dX3_readSeason_92 : decode cX3_readSeason 92 = .ok (.getfield 97, 3) := by decide +kernel
theorem dX3_readSeason_95 : decode cX3_readSeason 95 = .ok (.putfield 108, 3) := by decide +kernel
theorem dX3_readSeason_98 : decode cX3_readSeason 98 = .ok (.iconst 1, 1) := by decide +kernel
theorem dX3_readSeason_99 : decode cX3_readSeason 99 = .ok (.ireturn, 1) := by decide +kernel
def f_X3_readSeason (Λ : List Ly) (d : Dt) (p0 : Nat) (p1 : Nat) (v2 : Int32) : Option (Int32 × Dt) := if clsAt Λ p0 = some 3 then (if ((d.1 p0 1) &&& ((1 : Int32) <<< (v2 &&& 31))) = 0 then (Option.bind (f_X3_readNumber Λ (pI d p0 1 ((d.1 p0 1) ||| ((1 : Int32) <<< (v2 &&& 31)))) p0 (1 : Int32) (9 : Int32)) fun z3 => if z3.1 = 0 then (some ((0 : Int32), z3.2)) else (Option.bind (rf Λ p0 3 0) fun q5 => if clsAt Λ q5 = some 6 then (if clsAt Λ p1 = some 4 then (Option.bind (f_X3_readNumber Λ (pI z3.2 p1 0 (z3.2.1 q5 4)) p0 (0 : Int32) (9 : Int32)) fun z8 => if z8.1 = 0 then (some ((0 : Int32), z8.2)) else (Option.bind (f_X3_readNumber Λ (pI z8.2 p1 1 (z8.2.1 q5 4)) p0 (0 : Int32) (99 : Int32)) fun z10 => if z10.1 = 0 then (some ((0 : Int32), z10.2)) else (some ((1 : Int32), (pI z10.2 p1 2 (z10.2.1 q5 4)))))) else none) else none)) else (Option.bind (f_X3_fail Λ d p0 (4 : Int32)) fun z12 => if (z12.1 = 0 ∨ z12.1 = 1) then (some (z12.1, z12.2)) else none)) else none
set_option maxHeartbeats 4000000 in
set_option maxRecDepth 100000 in
theorem c_X3_readSeason (Γ : Cx) (l : Launch) (Λ : List Ly) (d : Dt) (p0 : Nat) (p1 : Nat) (v2 : Int32) (z : Int32 × Dt) (hf : f_X3_readSeason Λ d p0 p1 v2 = some z) : Cn Γ l yX3_readSeason cX3_readSeason 3 (some FieldType.boolean) 4 82 [.ref (ad Γ.2.2.1 p0), .ref (ad Γ.2.2.1 p1), .int v2] Λ d (some (.int z.1)) z.2 := by
  refine Cn.of (own := "SeasonBound$Reader") (by decide +kernel) rfl (Nat.le_of_ble_eq_true rfl) ?_
  intro p e s m below meth c C0 hr hlocks hH ls hl
  have hl : lv_has ls 3 [(0, .ref (ad Γ.2.2.1 p0)), (1, .ref (ad Γ.2.2.1 p1)), (2, .int v2)] := hl
  obtain ⟨hx, hb, hml, hown, hts, hK⟩ := id C0
  unfold f_X3_readSeason at hf
  refine lv_aload_n hx hb dX3_readSeason_0 rfl (lv_at hl 0 rfl) ?_
  obtain ⟨g1, hf⟩ := gd hf
  refine r_geti C0 hH fl_X3_26 g1 rfl dX3_readSeason_1 ?_
  refine lv_iconst (v := (1 : Int32)) hx hb dX3_readSeason_4 (by decide) ?_
  refine lv_iload_n hx hb dX3_readSeason_5 rfl (lv_at hl 2 rfl) ?_
  refine lv_ishl hx hb dX3_readSeason_6 ?_
  refine lv_iand hx hb dX3_readSeason_7 ?_
  refine lv_if_eq (tgt := 17) hx hb dX3_readSeason_8 (by decide) (fun c2 => ?_) (fun c2 => ?_)
  · replace hf := it hf c2
    refine lv_aload_n hx hb dX3_readSeason_17 rfl (lv_at hl 0 rfl) ?_
    refine lv_dup hx hb dX3_readSeason_18 rfl ?_
    refine r_geti C0 hH fl_X3_26 g1 rfl dX3_readSeason_19 ?_
    refine lv_iconst (v := (1 : Int32)) hx hb dX3_readSeason_22 (by decide) ?_
    refine lv_iload_n hx hb dX3_readSeason_23 rfl (lv_at hl 2 rfl) ?_
    refine lv_ishl hx hb dX3_readSeason_24 ?_
    refine lv_ior hx hb dX3_readSeason_25 ?_
    refine r_puti C0 hH fw_X3_26 g1 rfl dX3_readSeason_26 (fun H locs hH => ?_)
    refine lv_aload_n hx hb dX3_readSeason_29 rfl (lv_at hl 0 rfl) ?_
    refine lv_iconst (v := (1 : Int32)) hx hb dX3_readSeason_30 (by decide) ?_
    refine lv_bipush (v := (9 : Int32)) hx hb dX3_readSeason_31 (by decide) ?_
    obtain ⟨z3, h3, hf⟩ := ob hf
    refine r_callVi (rest := []) C0 hH (c_X3_readNumber Γ l Λ (pI d p0 1 ((d.1 p0 1) ||| ((1 : Int32) <<< (v2 &&& 31)))) p0 (1 : Int32) (9 : Int32) z3 h3) cv_X3_93 g1 (by decide) rfl hl.1 rfl (Nat.le_of_ble_eq_true rfl) dX3_readSeason_33 (by decide) (fun H locs hH => ?_)
    refine lv_if_ne (tgt := 41) hx hb dX3_readSeason_36 (by decide) (fun c4 => ?_) (fun c4 => ?_)
    · replace hf := ie hf c4
      refine lv_aload_n hx hb dX3_readSeason_41 rfl (lv_at hl 1 rfl) ?_
      refine lv_aload_n hx hb dX3_readSeason_42 rfl (lv_at hl 0 rfl) ?_
      obtain ⟨q5, g5, hf⟩ := ob hf
      refine r_getr C0 hH fl_X3_12 g5 dX3_readSeason_43 ?_
      obtain ⟨g6, hf⟩ := gd hf
      refine r_geti C0 hH fl_X3_97 g6 rfl dX3_readSeason_46 ?_
      obtain ⟨g7, hf⟩ := gd hf
      refine r_puti C0 hH fw_X3_100 g7 rfl dX3_readSeason_49 (fun H locs hH => ?_)
      refine lv_aload_n hx hb dX3_readSeason_52 rfl (lv_at hl 0 rfl) ?_
      refine lv_iconst (v := (0 : Int32)) hx hb dX3_readSeason_53 (by decide) ?_
      refine lv_bipush (v := (9 : Int32)) hx hb dX3_readSeason_54 (by decide) ?_
      obtain ⟨z8, h8, hf⟩ := ob hf
      refine r_callVi (rest := []) C0 hH (c_X3_readNumber Γ l Λ (pI z3.2 p1 0 (z3.2.1 q5 4)) p0 (0 : Int32) (9 : Int32) z8 h8) cv_X3_93 g1 (by decide) rfl hl.1 rfl (Nat.le_of_ble_eq_true rfl) dX3_readSeason_56 (by decide) (fun H locs hH => ?_)
      refine lv_if_ne (tgt := 64) hx hb dX3_readSeason_59 (by decide) (fun c9 => ?_) (fun c9 => ?_)
      · replace hf := ie hf c9
        refine lv_aload_n hx hb dX3_readSeason_64 rfl (lv_at hl 1 rfl) ?_
        refine lv_aload_n hx hb dX3_readSeason_65 rfl (lv_at hl 0 rfl) ?_
        refine r_getr C0 hH fl_X3_12 g5 dX3_readSeason_66 ?_
        refine r_geti C0 hH fl_X3_97 g6 rfl dX3_readSeason_69 ?_
        refine r_puti C0 hH fw_X3_105 g7 rfl dX3_readSeason_72 (fun H locs hH => ?_)
        refine lv_aload_n hx hb dX3_readSeason_75 rfl (lv_at hl 0 rfl) ?_
        refine lv_iconst (v := (0 : Int32)) hx hb dX3_readSeason_76 (by decide) ?_
        refine lv_bipush (v := (99 : Int32)) hx hb dX3_readSeason_77 (by decide) ?_
        obtain ⟨z10, h10, hf⟩ := ob hf
        refine r_callVi (rest := []) C0 hH (c_X3_readNumber Γ l Λ (pI z8.2 p1 1 (z8.2.1 q5 4)) p0 (0 : Int32) (99 : Int32) z10 h10) cv_X3_93 g1 (by decide) rfl hl.1 rfl (Nat.le_of_ble_eq_true rfl) dX3_readSeason_79 (by decide) (fun H locs hH => ?_)
        refine lv_if_ne (tgt := 87) hx hb dX3_readSeason_82 (by decide) (fun c11 => ?_) (fun c11 => ?_)
        · replace hf := ie hf c11
          refine lv_aload_n hx hb dX3_readSeason_87 rfl (lv_at hl 1 rfl) ?_
          refine lv_aload_n hx hb dX3_readSeason_88 rfl (lv_at hl 0 rfl) ?_
          refine r_getr C0 hH fl_X3_12 g5 dX3_readSeason_89 ?_
          refine r_geti C0 hH fl_X3_97 g6 rfl dX3_readSeason_92 ?_
          refine r_puti C0 hH fw_X3_108 g7 rfl dX3_readSeason_95 (fun H locs hH => ?_)
          refine lv_iconst (v := (1 : Int32)) hx hb dX3_readSeason_98 (by decide) ?_
          obtain rfl := Option.some.inj hf
          exact r_iret (d' := d) C0 hr hlocks hH (nz (Or.inr rfl)) dX3_readSeason_99
        · replace hf := it hf c11
          refine lv_iconst (v := (0 : Int32)) hx hb dX3_readSeason_85 (by decide) ?_
          obtain rfl := Option.some.inj hf
          exact r_iret (d' := d) C0 hr hlocks hH (nz (Or.inl rfl)) dX3_readSeason_86
      · replace hf := it hf c9
        refine lv_iconst (v := (0 : Int32)) hx hb dX3_readSeason_62 (by decide) ?_
        obtain rfl := Option.some.inj hf
        exact r_iret (d' := d) C0 hr hlocks hH (nz (Or.inl rfl)) dX3_readSeason_63
    · replace hf := it hf c4
      refine lv_iconst (v := (0 : Int32)) hx hb dX3_readSeason_39 (by decide) ?_
      obtain rfl := Option.some.inj hf
      exact r_iret (d' := d) C0 hr hlocks hH (nz (Or.inl rfl)) dX3_readSeason_40
  · replace hf := ie hf c2
    refine lv_aload_n hx hb dX3_readSeason_11 rfl (lv_at hl 0 rfl) ?_
    refine lv_iconst (v := (4 : Int32)) hx hb dX3_readSeason_12 (by decide) ?_
    obtain ⟨z12, h12, hf⟩ := ob hf
    refine r_callVi (rest := []) C0 hH (c_X3_fail Γ l Λ d p0 (4 : Int32) z12 h12) cv_X3_89 g1 (by decide) rfl hl.1 rfl (Nat.le_of_ble_eq_true rfl) dX3_readSeason_13 (by decide) (fun H locs hH => ?_)
    obtain ⟨g13, hf⟩ := gd hf
    obtain rfl := Option.some.inj hf
    exact r_iret (d' := d) C0 hr hlocks hH (nz g13) dX3_readSeason_16
theorem dX8_isSeason_0 : decode cX8_isSeason 0 = .ok (.iload_n 0, 1) := by decide +kernel
theorem dX8_isSeason_1 : decode cX8_isSeason 1 = .ok (.iconst 0, 1) := by decide +kernel
theorem dX8_isSeason_2 : decode cX8_isSeason 2 = .ok (.iconst 3, 1) := by decide +kernel
theorem dX8_isSeason_3 : decode cX8_isSeason 3 = .ok (.invokestatic 60, 3) := by decide +kernel
theorem dX8_isSeason_6 : decode cX8_isSeason 6 = .ok (.ireturn, 1) := by decide +kernel
def f_X8_isSeason (v0 : Int32) : Int32 := (f_X8_within v0 (0 : Int32) (3 : Int32))
theorem bo_X8_isSeason (v0 : Int32) : f_X8_isSeason v0 = 0 ∨ f_X8_isSeason v0 = 1 := by
  unfold f_X8_isSeason
  (repeat' split) <;> first | exact Or.inl rfl | exact Or.inr rfl | exact bo_X8_within _ _ _
set_option maxHeartbeats 4000000 in
set_option maxRecDepth 100000 in
theorem c_X8_isSeason (Γ : Cx) (l : Launch) (Λ : List Ly) (d : Dt) (v0 : Int32) : Cn Γ l yX8_isSeason cX8_isSeason 1 (some FieldType.boolean) 1 22 [.int v0] Λ d (some (.int (f_X8_isSeason v0))) d := by
  generalize hf : f_X8_isSeason v0 = z
  refine Cn.of (own := "SeasonBound") (by decide +kernel) rfl (Nat.le_of_ble_eq_true rfl) ?_
  intro p e s m below meth c C0 hr hlocks hH ls hl
  have hl : lv_has ls 1 [(0, .int v0)] := hl
  obtain ⟨hx, hb, hml, hown, hts, hK⟩ := id C0
  unfold f_X8_isSeason at hf
  refine lv_iload_n hx hb dX8_isSeason_0 rfl (lv_at hl 0 rfl) ?_
  refine lv_iconst (v := (0 : Int32)) hx hb dX8_isSeason_1 (by decide) ?_
  refine lv_iconst (v := (3 : Int32)) hx hb dX8_isSeason_2 (by decide) ?_
  refine r_callSi (rest := []) C0 hH (c_X8_within Γ l Λ d v0 (0 : Int32) (3 : Int32)) cs_X8_60 (by decide) rfl hl.1 rfl (Nat.le_of_ble_eq_true rfl) dX8_isSeason_3 (by decide) (fun H locs hH => ?_)
  subst hf
  exact r_iret (d' := d) C0 hr hlocks hH (nz (bo_X8_within _ _ _)) dX8_isSeason_6
theorem dX7_add_0 : decode cX7_add 0 = .ok (.aload_n 0, 1) := by decide +kernel
theorem dX7_add_1 : decode cX7_add 1 = .ok (.getfield 39, 3) := by decide +kernel
theorem dX7_add_4 : decode cX7_add 4 = .ok (.iconst 5, 1) := by decide +kernel
theorem dX7_add_5 : decode cX7_add 5 = .ok (.if_icmp .ge 26, 3) := by decide +kernel
theorem dX7_add_8 : decode cX7_add 8 = .ok (.aload_n 0, 1) := by decide +kernel
theorem dX7_add_9 : decode cX7_add 9 = .ok (.getfield 19, 3) := by decide +kernel
theorem dX7_add_12 : decode cX7_add 12 = .ok (.aload_n 0, 1) := by decide +kernel
theorem dX7_add_13 : decode cX7_add 13 = .ok (.getfield 39, 3) := by decide +kernel
theorem dX7_add_16 : decode cX7_add 16 = .ok (.aaload, 1) := by decide +kernel
theorem dX7_add_17 : decode cX7_add 17 = .ok (.iload_n 1, 1) := by decide +kernel
theorem dX7_add_18 : decode cX7_add 18 = .ok (.invokevirtual 72, 3) := by decide +kernel
theorem dX7_add_21 : decode cX7_add 21 = .ok (.aload_n 0, 1) := by decide +kernel
theorem dX7_add_22 : decode cX7_add 22 = .ok (.dup, 1) := by decide +kernel
theorem dX7_add_23 : decode cX7_add 23 = .ok (.getfield 39, 3) := by decide +kernel
theorem dX7_add_26 : decode cX7_add 26 = .ok (.iconst 1, 1) := by decide +kernel
theorem dX7_add_27 : decode cX7_add 27 = .ok (.iadd, 1) := by decide +kernel
theorem dX7_add_28 : decode cX7_add 28 = .ok (.putfield 39, 3) := by decide +kernel
theorem dX7_add_31 : decode cX7_add 31 = .ok (.return_, 1) := by decide +kernel
def f_X7_add (Λ : List Ly) (d : Dt) (p0 : Nat) (v1 : Int32) : Option Dt := if clsAt Λ p0 = some 7 then (if (5 : Int32) ≤ (d.1 p0 2) then (some d) else (Option.bind (rf Λ p0 7 1) fun q3 => Option.bind (ra Λ q3 4 (d.1 p0 2)) fun q4 => if clsAt Λ q4 = some 1 then (Option.bind (f_X1_renew Λ d q4 v1) fun z6 => some (pI z6 p0 2 ((z6.1 p0 2) + (1 : Int32)))) else none)) else none
set_option maxHeartbeats 4000000 in
set_option maxRecDepth 100000 in
theorem c_X7_add (Γ : Cx) (l : Launch) (Λ : List Ly) (d : Dt) (p0 : Nat) (v1 : Int32) (z : Dt) (hf : f_X7_add Λ d p0 v1 = some z) : Cn Γ l yX7_add cX7_add 2 none 1 21 [.ref (ad Γ.2.2.1 p0), .int v1] Λ d none z := by
  refine Cn.of (own := "SeasonBound$World") (by decide +kernel) rfl (Nat.le_of_ble_eq_true rfl) ?_
  intro p e s m below meth c C0 hr hlocks hH ls hl
  have hl : lv_has ls 2 [(0, .ref (ad Γ.2.2.1 p0)), (1, .int v1)] := hl
  obtain ⟨hx, hb, hml, hown, hts, hK⟩ := id C0
  unfold f_X7_add at hf
  refine lv_aload_n hx hb dX7_add_0 rfl (lv_at hl 0 rfl) ?_
  obtain ⟨g1, hf⟩ := gd hf
  refine r_geti C0 hH fl_X7_39 g1 rfl dX7_add_1 ?_
  refine lv_iconst (v := (5 : Int32)) hx hb dX7_add_4 (by decide) ?_
  refine lv_icmp_ge (tgt := 31) hx hb dX7_add_5 (by decide) (fun c2 => ?_) (fun c2 => ?_)
  · replace hf := it hf c2
    obtain rfl := Option.some.inj hf
    exact r_vret C0 hr hlocks hH dX7_add_31
  · replace hf := ie hf c2
    refine lv_aload_n hx hb dX7_add_8 rfl (lv_at hl 0 rfl) ?_
    obtain ⟨q3, g3, hf⟩ := ob hf
    refine r_getr C0 hH fl_X7_19 g3 dX7_add_9 ?_
    refine lv_aload_n hx hb dX7_add_12 rfl (lv_at hl 0 rfl) ?_
    refine r_geti C0 hH fl_X7_39 g1 rfl dX7_add_13 ?_
    obtain ⟨q4, g4, hf⟩ := ob hf
    refine r_aald (C := "SeasonBound$Child") C0 hH g4 (by decide) rfl dX7_add_16 ?_
    refine lv_iload_n hx hb dX7_add_17 rfl (lv_at hl 1 rfl) ?_
    obtain ⟨g5, hf⟩ := gd hf
    obtain ⟨z6, h6, hf⟩ := ob hf
    refine r_callVv (rest := []) C0 hH (c_X1_renew Γ l Λ d q4 v1 z6 h6) cv_X7_72 g5 (by decide) rfl hl.1 rfl (Nat.le_of_ble_eq_true rfl) dX7_add_18 (by decide) (fun H locs hH => ?_)
    refine lv_aload_n hx hb dX7_add_21 rfl (lv_at hl 0 rfl) ?_
    refine lv_dup hx hb dX7_add_22 rfl ?_
    refine r_geti C0 hH fl_X7_39 g1 rfl dX7_add_23 ?_
    refine lv_iconst (v := (1 : Int32)) hx hb dX7_add_26 (by decide) ?_
    refine lv_iadd hx hb dX7_add_27 ?_
    refine r_puti C0 hH fw_X7_39 g1 rfl dX7_add_28 (fun H locs hH => ?_)
    obtain rfl := Option.some.inj hf
    exact r_vret C0 hr hlocks hH dX7_add_31
