theorem lnk {a b c k j : Nat} (h1 : a = b + j) (h2 : b = c + k) : a = c + (k + j) := by omega
theorem fl_X8_16 : FL "SeasonBound" 16 3 0 := ⟨_, rfl, by decide, mTB 63 (by decide +kernel) (by decide +kernel)⟩
theorem cv_X7_35 : CV "SeasonBound$World" 35 7 yX7_renew cX7_renew 2 none 0 := ⟨mTB 146 (by decide +kernel) (by decide +kernel), mTB 147 (by decide +kernel) (by decide +kernel), mTB 148 (by decide +kernel) (by decide +kernel), mTB 4 (by decide +kernel) (by decide +kernel), mTB 149 (by decide +kernel) (by decide +kernel), ⟨by decide +kernel, by decide +kernel, by decide +kernel⟩, _, rfl, rfl⟩
theorem ci_X8_23 : CI "SeasonBound" 23 yX7_init cX7_init 2 0 := ⟨mTB 80 (by decide +kernel) (by decide +kernel), mTB 81 (by decide +kernel) (by decide +kernel), mTB 4 (by decide +kernel) (by decide +kernel), mTB 82 (by decide +kernel) (by decide +kernel), ⟨by decide +kernel, by decide +kernel, by decide +kernel⟩, rfl⟩
theorem cj_X3_11 : CJ "SeasonBound$Reader" 11 yX6_init cX6_init 1 0 := ⟨⟨"SeasonBound", by decide +kernel⟩, mTB 35 (by decide +kernel) (by decide +kernel), mTB 3 (by decide +kernel) (by decide +kernel), mTB 36 (by decide +kernel) (by decide +kernel), ⟨by decide +kernel, by decide +kernel, by decide +kernel⟩, rfl⟩
theorem cj_X7_33 : CJ "SeasonBound$World" 33 yX4_init cX4_init 1 0 := ⟨⟨"SeasonBound", by decide +kernel⟩, mTB 90 (by decide +kernel) (by decide +kernel), mTB 5 (by decide +kernel) (by decide +kernel), mTB 91 (by decide +kernel) (by decide +kernel), ⟨by decide +kernel, by decide +kernel, by decide +kernel⟩, rfl⟩
theorem cj_X7_34 : CJ "SeasonBound$World" 34 yX1_init cX1_init 1 0 := ⟨⟨"SeasonBound", by decide +kernel⟩, mTB 117 (by decide +kernel) (by decide +kernel), mTB 6 (by decide +kernel) (by decide +kernel), mTB 118 (by decide +kernel) (by decide +kernel), ⟨by decide +kernel, by decide +kernel, by decide +kernel⟩, rfl⟩
theorem cj_X8_47 : CJ "SeasonBound" 47 yX0_init cX0_init 1 0 := ⟨⟨"SeasonBound", by decide +kernel⟩, mTB 204 (by decide +kernel) (by decide +kernel), mTB 7 (by decide +kernel) (by decide +kernel), mTB 205 (by decide +kernel) (by decide +kernel), ⟨by decide +kernel, by decide +kernel, by decide +kernel⟩, rfl⟩
theorem cj_X8_54 : CJ "SeasonBound" 54 yX2_init cX2_init 1 0 := ⟨⟨"SeasonBound", by decide +kernel⟩, mTB 218 (by decide +kernel) (by decide +kernel), mTB 8 (by decide +kernel) (by decide +kernel), mTB 219 (by decide +kernel) (by decide +kernel), ⟨by decide +kernel, by decide +kernel, by decide +kernel⟩, rfl⟩
theorem cj_X8_59 : CJ "SeasonBound" 59 yX5_init cX5_init 1 0 := ⟨⟨"SeasonBound", by decide +kernel⟩, mTB 228 (by decide +kernel) (by decide +kernel), mTB 9 (by decide +kernel) (by decide +kernel), mTB 229 (by decide +kernel) (by decide +kernel), ⟨by decide +kernel, by decide +kernel, by decide +kernel⟩, rfl⟩
theorem cj_X8_9 : CJ "SeasonBound" 9 yX3_init cX3_init 1 0 := ⟨⟨"SeasonBound", by decide +kernel⟩, mTB 29 (by decide +kernel) (by decide +kernel), mTB 2 (by decide +kernel) (by decide +kernel), mTB 30 (by decide +kernel) (by decide +kernel), ⟨by decide +kernel, by decide +kernel, by decide +kernel⟩, rfl⟩
theorem ff_X2_9 : FF "SeasonBound$Odds" 9 2 0 (.array .long) := ⟨fl_X2_9, _, rfl, rfl, rfl, by decide +kernel, fun j hj => ⟨_, tyX2_ok j hj⟩⟩
theorem ff_X3_12 : FF "SeasonBound$Reader" 12 3 0 (.object "SeasonBound$Tape") := ⟨fl_X3_12, _, rfl, rfl, rfl, by decide +kernel, fun j hj => ⟨_, tyX3_ok j hj⟩⟩
theorem ff_X5_9 : FF "SeasonBound$Sheet" 9 5 0 (.array .int) := ⟨fl_X5_9, _, rfl, rfl, rfl, by decide +kernel, fun j hj => ⟨_, tyX5_ok j hj⟩⟩
theorem ff_X6_9 : FF "SeasonBound$Tape" 9 6 0 (.array .byte) := ⟨fl_X6_9, _, rfl, rfl, rfl, by decide +kernel, fun j hj => ⟨_, tyX6_ok j hj⟩⟩
theorem ff_X7_11 : FF "SeasonBound$World" 11 7 0 (.array (.object "SeasonBound$Season")) := ⟨fl_X7_11, _, rfl, rfl, rfl, by decide +kernel, fun j hj => ⟨_, tyX7_ok j hj⟩⟩
theorem ff_X7_19 : FF "SeasonBound$World" 19 7 1 (.array (.object "SeasonBound$Child")) := ⟨fl_X7_19, _, rfl, rfl, rfl, by decide +kernel, fun j hj => ⟨_, tyX7_ok j hj⟩⟩
theorem ff_X7_23 : FF "SeasonBound$World" 23 7 6 (.array .int) := ⟨fl_X7_23, _, rfl, rfl, rfl, by decide +kernel, fun j hj => ⟨_, tyX7_ok j hj⟩⟩
theorem ff_X7_27 : FF "SeasonBound$World" 27 7 7 (.array .int) := ⟨fl_X7_27, _, rfl, rfl, rfl, by decide +kernel, fun j hj => ⟨_, tyX7_ok j hj⟩⟩
theorem ff_X7_30 : FF "SeasonBound$World" 30 7 8 (.array .int) := ⟨fl_X7_30, _, rfl, rfl, rfl, by decide +kernel, fun j hj => ⟨_, tyX7_ok j hj⟩⟩
theorem ff_X8_10 : FF "SeasonBound" 10 8 0 (.object "SeasonBound$Reader") := ⟨fl_X8_10, _, rfl, rfl, rfl, by decide +kernel, fun j hj => ⟨_, tyX8_ok j hj⟩⟩
theorem ff_X8_20 : FF "SeasonBound" 20 8 1 (.object "SeasonBound$Tape") := ⟨fl_X8_20, _, rfl, rfl, rfl, by decide +kernel, fun j hj => ⟨_, tyX8_ok j hj⟩⟩
theorem ff_X8_24 : FF "SeasonBound" 24 8 2 (.object "SeasonBound$World") := ⟨fl_X8_24, _, rfl, rfl, rfl, by decide +kernel, fun j hj => ⟨_, tyX8_ok j hj⟩⟩
theorem ff_X8_28 : FF "SeasonBound" 28 8 3 (.object "SeasonBound$World") := ⟨fl_X8_28, _, rfl, rfl, rfl, by decide +kernel, fun j hj => ⟨_, tyX8_ok j hj⟩⟩
theorem ff_X8_31 : FF "SeasonBound" 31 8 4 (.array (.object "SeasonBound$World")) := ⟨fl_X8_31, _, rfl, rfl, rfl, by decide +kernel, fun j hj => ⟨_, tyX8_ok j hj⟩⟩
theorem ff_X8_35 : FF "SeasonBound" 35 8 5 (.array .boolean) := ⟨fl_X8_35, _, rfl, rfl, rfl, by decide +kernel, fun j hj => ⟨_, tyX8_ok j hj⟩⟩
theorem ff_X8_41 : FF "SeasonBound" 41 8 6 (.array (.object "SeasonBound$Sheet")) := ⟨fl_X8_41, _, rfl, rfl, rfl, by decide +kernel, fun j hj => ⟨_, tyX8_ok j hj⟩⟩
theorem ff_X8_48 : FF "SeasonBound" 48 8 7 (.object "SeasonBound$Best") := ⟨fl_X8_48, _, rfl, rfl, rfl, by decide +kernel, fun j hj => ⟨_, tyX8_ok j hj⟩⟩
theorem ff_X8_55 : FF "SeasonBound" 55 8 8 (.object "SeasonBound$Odds") := ⟨fl_X8_55, _, rfl, rfl, rfl, by decide +kernel, fun j hj => ⟨_, tyX8_ok j hj⟩⟩
theorem ff_X9_13 : FF "SeasonBoundModel" 13 9 1 (.array .int) := ⟨fl_X9_13, _, rfl, rfl, rfl, by decide +kernel, fun j hj => ⟨_, tyX9_ok j hj⟩⟩
theorem ff_X9_16 : FF "SeasonBoundModel" 16 9 2 (.array .boolean) := ⟨fl_X9_16, _, rfl, rfl, rfl, by decide +kernel, fun j hj => ⟨_, tyX9_ok j hj⟩⟩
theorem ff_X9_20 : FF "SeasonBoundModel" 20 9 3 (.array .int) := ⟨fl_X9_20, _, rfl, rfl, rfl, by decide +kernel, fun j hj => ⟨_, tyX9_ok j hj⟩⟩
theorem ff_X9_23 : FF "SeasonBoundModel" 23 9 5 (.array .int) := ⟨fl_X9_23, _, rfl, rfl, rfl, by decide +kernel, fun j hj => ⟨_, tyX9_ok j hj⟩⟩
theorem ff_X9_26 : FF "SeasonBoundModel" 26 9 18 (.array .int) := ⟨fl_X9_26, _, rfl, rfl, rfl, by decide +kernel, fun j hj => ⟨_, tyX9_ok j hj⟩⟩
theorem ff_X9_29 : FF "SeasonBoundModel" 29 9 19 (.array .int) := ⟨fl_X9_29, _, rfl, rfl, rfl, by decide +kernel, fun j hj => ⟨_, tyX9_ok j hj⟩⟩
theorem ff_X9_32 : FF "SeasonBoundModel" 32 9 20 (.array .int) := ⟨fl_X9_32, _, rfl, rfl, rfl, by decide +kernel, fun j hj => ⟨_, tyX9_ok j hj⟩⟩
theorem ff_X9_35 : FF "SeasonBoundModel" 35 9 21 (.array .int) := ⟨fl_X9_35, _, rfl, rfl, rfl, by decide +kernel, fun j hj => ⟨_, tyX9_ok j hj⟩⟩
theorem ff_X9_38 : FF "SeasonBoundModel" 38 9 22 (.array .int) := ⟨fl_X9_38, _, rfl, rfl, rfl, by decide +kernel, fun j hj => ⟨_, tyX9_ok j hj⟩⟩
theorem ff_X9_41 : FF "SeasonBoundModel" 41 9 24 (.array .int) := ⟨fl_X9_41, _, rfl, rfl, rfl, by decide +kernel, fun j hj => ⟨_, tyX9_ok j hj⟩⟩
theorem ff_X9_7 : FF "SeasonBoundModel" 7 9 0 (.array .int) := ⟨fl_X9_7, _, rfl, rfl, rfl, by decide +kernel, fun j hj => ⟨_, tyX9_ok j hj⟩⟩
theorem ns_X3_9 : NS "SeasonBound$Reader" 9 6 6 := ⟨_, rfl, rfl, mTB 32 (by decide +kernel) (by decide +kernel), mTB 33 (by decide +kernel) (by decide +kernel), mTB 3 (by decide +kernel) (by decide +kernel), tyX6, tyX6_ok, by decide +kernel⟩
theorem ns_X7_17 : NS "SeasonBound$World" 17 1 5 := ⟨_, rfl, rfl, mTB 86 (by decide +kernel) (by decide +kernel), mTB 115 (by decide +kernel) (by decide +kernel), mTB 6 (by decide +kernel) (by decide +kernel), tyX1, tyX1_ok, by decide +kernel⟩
theorem ns_X7_9 : NS "SeasonBound$World" 9 4 3 := ⟨_, rfl, rfl, mTB 84 (by decide +kernel) (by decide +kernel), mTB 88 (by decide +kernel) (by decide +kernel), mTB 5 (by decide +kernel) (by decide +kernel), tyX4, tyX4_ok, by decide +kernel⟩
theorem ns_X8_21 : NS "SeasonBound" 21 7 10 := ⟨_, rfl, rfl, mTB 78 (by decide +kernel) (by decide +kernel), mTB 79 (by decide +kernel) (by decide +kernel), mTB 4 (by decide +kernel) (by decide +kernel), tyX7, tyX7_ok, by decide +kernel⟩
theorem ns_X8_39 : NS "SeasonBound" 39 5 3 := ⟨_, rfl, rfl, mTB 199 (by decide +kernel) (by decide +kernel), mTB 226 (by decide +kernel) (by decide +kernel), mTB 9 (by decide +kernel) (by decide +kernel), tyX5, tyX5_ok, by decide +kernel⟩
theorem ns_X8_45 : NS "SeasonBound" 45 0 2 := ⟨_, rfl, rfl, mTB 201 (by decide +kernel) (by decide +kernel), mTB 202 (by decide +kernel) (by decide +kernel), mTB 7 (by decide +kernel) (by decide +kernel), tyX0, tyX0_ok, by decide +kernel⟩
theorem ns_X8_52 : NS "SeasonBound" 52 2 1 := ⟨_, rfl, rfl, mTB 215 (by decide +kernel) (by decide +kernel), mTB 216 (by decide +kernel) (by decide +kernel), mTB 8 (by decide +kernel) (by decide +kernel), tyX2, tyX2_ok, by decide +kernel⟩
theorem ns_X8_7 : NS "SeasonBound" 7 3 4 := ⟨_, rfl, rfl, mTB 26 (by decide +kernel) (by decide +kernel), mTB 27 (by decide +kernel) (by decide +kernel), mTB 2 (by decide +kernel) (by decide +kernel), tyX3, tyX3_ok, by decide +kernel⟩
theorem wa_0 : Cond.arrayClass (tyA 0) ∈ TB := mTB 61 (by decide +kernel) (by decide +kernel)
theorem wa_1 : Cond.arrayClass (tyA 1) ∈ TB := mTB 114 (by decide +kernel) (by decide +kernel)
theorem wa_2 : Cond.arrayClass (tyA 2) ∈ TB := mTB 225 (by decide +kernel) (by decide +kernel)
theorem wa_3 : Cond.arrayClass (tyA 3) ∈ TB := mTB 214 (by decide +kernel) (by decide +kernel)
theorem wl_X7_17 : Cond.classLink "SeasonBound$World" 17 "SeasonBound$Child" ∈ TB := mTB 86 (by decide +kernel) (by decide +kernel)
theorem wl_X7_9 : Cond.classLink "SeasonBound$World" 9 "SeasonBound$Season" ∈ TB := mTB 84 (by decide +kernel) (by decide +kernel)
theorem wl_X8_21 : Cond.classLink "SeasonBound" 21 "SeasonBound$World" ∈ TB := mTB 78 (by decide +kernel) (by decide +kernel)
theorem wl_X8_39 : Cond.classLink "SeasonBound" 39 "SeasonBound$Sheet" ∈ TB := mTB 199 (by decide +kernel) (by decide +kernel)
theorem wo_X0_3 : Cond.methodLink "SeasonBound$Best" 3 Lib.objectInit ∈ TB ∧ Cond.instanceMethod Lib.objectInit ∈ TB ∧ Cond.code Lib.objectInit ⟨#[0xb1]⟩ 1 none ∈ TB := ⟨mTB 206 (by decide +kernel) (by decide +kernel), by decide +kernel, by decide +kernel⟩
theorem wo_X1_3 : Cond.methodLink "SeasonBound$Child" 3 Lib.objectInit ∈ TB ∧ Cond.instanceMethod Lib.objectInit ∈ TB ∧ Cond.code Lib.objectInit ⟨#[0xb1]⟩ 1 none ∈ TB := ⟨mTB 119 (by decide +kernel) (by decide +kernel), by decide +kernel, by decide +kernel⟩
theorem wo_X2_3 : Cond.methodLink "SeasonBound$Odds" 3 Lib.objectInit ∈ TB ∧ Cond.instanceMethod Lib.objectInit ∈ TB ∧ Cond.code Lib.objectInit ⟨#[0xb1]⟩ 1 none ∈ TB := ⟨mTB 220 (by decide +kernel) (by decide +kernel), by decide +kernel, by decide +kernel⟩
theorem wo_X3_3 : Cond.methodLink "SeasonBound$Reader" 3 Lib.objectInit ∈ TB ∧ Cond.instanceMethod Lib.objectInit ∈ TB ∧ Cond.code Lib.objectInit ⟨#[0xb1]⟩ 1 none ∈ TB := ⟨mTB 31 (by decide +kernel) (by decide +kernel), by decide +kernel, by decide +kernel⟩
theorem wo_X4_3 : Cond.methodLink "SeasonBound$Season" 3 Lib.objectInit ∈ TB ∧ Cond.instanceMethod Lib.objectInit ∈ TB ∧ Cond.code Lib.objectInit ⟨#[0xb1]⟩ 1 none ∈ TB := ⟨mTB 92 (by decide +kernel) (by decide +kernel), by decide +kernel, by decide +kernel⟩
theorem wo_X5_3 : Cond.methodLink "SeasonBound$Sheet" 3 Lib.objectInit ∈ TB ∧ Cond.instanceMethod Lib.objectInit ∈ TB ∧ Cond.code Lib.objectInit ⟨#[0xb1]⟩ 1 none ∈ TB := ⟨mTB 230 (by decide +kernel) (by decide +kernel), by decide +kernel, by decide +kernel⟩
theorem wo_X6_3 : Cond.methodLink "SeasonBound$Tape" 3 Lib.objectInit ∈ TB ∧ Cond.instanceMethod Lib.objectInit ∈ TB ∧ Cond.code Lib.objectInit ⟨#[0xb1]⟩ 1 none ∈ TB := ⟨mTB 37 (by decide +kernel) (by decide +kernel), by decide +kernel, by decide +kernel⟩
theorem wo_X7_3 : Cond.methodLink "SeasonBound$World" 3 Lib.objectInit ∈ TB ∧ Cond.instanceMethod Lib.objectInit ∈ TB ∧ Cond.code Lib.objectInit ⟨#[0xb1]⟩ 1 none ∈ TB := ⟨mTB 83 (by decide +kernel) (by decide +kernel), by decide +kernel, by decide +kernel⟩
theorem wo_X8_1 : Cond.methodLink "SeasonBound" 1 Lib.objectInit ∈ TB ∧ Cond.instanceMethod Lib.objectInit ∈ TB ∧ Cond.code Lib.objectInit ⟨#[0xb1]⟩ 1 none ∈ TB := ⟨mTB 23 (by decide +kernel) (by decide +kernel), by decide +kernel, by decide +kernel⟩
theorem wo_X9_1 : Cond.methodLink "SeasonBoundModel" 1 Lib.objectInit ∈ TB ∧ Cond.instanceMethod Lib.objectInit ∈ TB ∧ Cond.code Lib.objectInit ⟨#[0xb1]⟩ 1 none ∈ TB := ⟨mTB 812 (by decide +kernel) (by decide +kernel), by decide +kernel, by decide +kernel⟩
theorem dX0_init_0 : decode cX0_init 0 = .ok (.aload_n 0, 1) := by decide +kernel
theorem dX0_init_1 : decode cX0_init 1 = .ok (.invokespecial 3, 3) := by decide +kernel
theorem dX0_init_4 : decode cX0_init 4 = .ok (.return_, 1) := by decide +kernel
def f_X0_init (Λ : List Ly) (d : Dt) (p0 : Nat) : Option (List Ly × Dt) := some (Λ, d)
set_option maxHeartbeats 4000000 in
set_option maxRecDepth 100000 in
theorem n_X0_init {Λ : List Ly} {d : Dt} {p0 : Nat} {z : List Ly × Dt} (hf : f_X0_init Λ d p0 = some z) : z.1.length = Λ.length + 0 := by
  have n0 : Λ.length = Λ.length + 0 := rfl
  unfold f_X0_init at hf
  obtain rfl := Option.some.inj hf
  exact n0
set_option maxHeartbeats 4000000 in
set_option maxRecDepth 100000 in
theorem c_X0_init (Γ : Cx) (l : Launch) (Λ : List Ly) (d : Dt) (p0 : Nat) (z : List Ly × Dt) (hf : f_X0_init Λ d p0 = some z) : Ca Γ l yX0_init cX0_init 1 1 12 0 0 [.ref (ad Γ.2.2.1 p0)] Λ d z.1 z.2 := by
  refine Ca.of (own := "SeasonBound$Best") (by decide +kernel) rfl rfl (Nat.le_of_ble_eq_true rfl) ?_
  intro p e s m below meth c C0 hA hz hin hr hlocks hH ls hl
  have hl : lv_has ls 1 [(0, .ref (ad Γ.2.2.1 p0))] := hl
  obtain ⟨hx, hb, hml, hown, hts, hK⟩ := id C0
  have n0 : Λ.length = Λ.length + 0 := rfl
  unfold f_X0_init at hf
  refine lv_aload_n hx hb dX0_init_0 rfl (lv_at hl 0 rfl) ?_
  refine r_oinit C0 wo_X0_3 hl.1 (by decide) (Nat.le_of_ble_eq_true rfl) dX0_init_1 ?_
  obtain rfl := Option.some.inj hf
  exact r_vret C0 hr hlocks hH dX0_init_4
theorem dX1_init_0 : decode cX1_init 0 = .ok (.aload_n 0, 1) := by decide +kernel
theorem dX1_init_1 : decode cX1_init 1 = .ok (.invokespecial 3, 3) := by decide +kernel
theorem dX1_init_4 : decode cX1_init 4 = .ok (.return_, 1) := by decide +kernel
def f_X1_init (Λ : List Ly) (d : Dt) (p0 : Nat) : Option (List Ly × Dt) := some (Λ, d)
set_option maxHeartbeats 4000000 in
set_option maxRecDepth 100000 in
theorem n_X1_init {Λ : List Ly} {d : Dt} {p0 : Nat} {z : List Ly × Dt} (hf : f_X1_init Λ d p0 = some z) : z.1.length = Λ.length + 0 := by
  have n0 : Λ.length = Λ.length + 0 := rfl
  unfold f_X1_init at hf
  obtain rfl := Option.some.inj hf
  exact n0
set_option maxHeartbeats 4000000 in
set_option maxRecDepth 100000 in
theorem c_X1_init (Γ : Cx) (l : Launch) (Λ : List Ly) (d : Dt) (p0 : Nat) (z : List Ly × Dt) (hf : f_X1_init Λ d p0 = some z) : Ca Γ l yX1_init cX1_init 1 1 12 0 0 [.ref (ad Γ.2.2.1 p0)] Λ d z.1 z.2 := by
  refine Ca.of (own := "SeasonBound$Child") (by decide +kernel) rfl rfl (Nat.le_of_ble_eq_true rfl) ?_
  intro p e s m below meth c C0 hA hz hin hr hlocks hH ls hl
  have hl : lv_has ls 1 [(0, .ref (ad Γ.2.2.1 p0))] := hl
  obtain ⟨hx, hb, hml, hown, hts, hK⟩ := id C0
  have n0 : Λ.length = Λ.length + 0 := rfl
  unfold f_X1_init at hf
  refine lv_aload_n hx hb dX1_init_0 rfl (lv_at hl 0 rfl) ?_
  refine r_oinit C0 wo_X1_3 hl.1 (by decide) (Nat.le_of_ble_eq_true rfl) dX1_init_1 ?_
  obtain rfl := Option.some.inj hf
  exact r_vret C0 hr hlocks hH dX1_init_4
theorem dX4_init_0 : decode cX4_init 0 = .ok (.aload_n 0, 1) := by decide +kernel
theorem dX4_init_1 : decode cX4_init 1 = .ok (.invokespecial 3, 3) := by decide +kernel
theorem dX4_init_4 : decode cX4_init 4 = .ok (.return_, 1) := by decide +kernel
def f_X4_init (Λ : List Ly) (d : Dt) (p0 : Nat) : Option (List Ly × Dt) := some (Λ, d)
set_option maxHeartbeats 4000000 in
set_option maxRecDepth 100000 in
theorem n_X4_init {Λ : List Ly} {d : Dt} {p0 : Nat} {z : List Ly × Dt} (hf : f_X4_init Λ d p0 = some z) : z.1.length = Λ.length + 0 := by
  have n0 : Λ.length = Λ.length + 0 := rfl
  unfold f_X4_init at hf
  obtain rfl := Option.some.inj hf
  exact n0
set_option maxHeartbeats 4000000 in
set_option maxRecDepth 100000 in
theorem c_X4_init (Γ : Cx) (l : Launch) (Λ : List Ly) (d : Dt) (p0 : Nat) (z : List Ly × Dt) (hf : f_X4_init Λ d p0 = some z) : Ca Γ l yX4_init cX4_init 1 1 12 0 0 [.ref (ad Γ.2.2.1 p0)] Λ d z.1 z.2 := by
  refine Ca.of (own := "SeasonBound$Season") (by decide +kernel) rfl rfl (Nat.le_of_ble_eq_true rfl) ?_
  intro p e s m below meth c C0 hA hz hin hr hlocks hH ls hl
  have hl : lv_has ls 1 [(0, .ref (ad Γ.2.2.1 p0))] := hl
  obtain ⟨hx, hb, hml, hown, hts, hK⟩ := id C0
  have n0 : Λ.length = Λ.length + 0 := rfl
  unfold f_X4_init at hf
  refine lv_aload_n hx hb dX4_init_0 rfl (lv_at hl 0 rfl) ?_
  refine r_oinit C0 wo_X4_3 hl.1 (by decide) (Nat.le_of_ble_eq_true rfl) dX4_init_1 ?_
  obtain rfl := Option.some.inj hf
  exact r_vret C0 hr hlocks hH dX4_init_4
theorem dX2_init_0 : decode cX2_init 0 = .ok (.aload_n 0, 1) := by decide +kernel
theorem dX2_init_1 : decode cX2_init 1 = .ok (.invokespecial 3, 3) := by decide +kernel
theorem dX2_init_4 : decode cX2_init 4 = .ok (.aload_n 0, 1) := by decide +kernel
theorem dX2_init_5 : decode cX2_init 5 = .ok (.bipush 9, 2) := by decide +kernel
theorem dX2_init_7 : decode cX2_init 7 = .ok (.newarray .long, 2) := by decide +kernel
theorem dX2_init_9 : decode cX2_init 9 = .ok (.putfield 9, 3) := by decide +kernel
theorem dX2_init_12 : decode cX2_init 12 = .ok (.return_, 1) := by decide +kernel
def f_X2_init (Λ : List Ly) (d : Dt) (p0 : Nat) : Option (List Ly × Dt) := Option.bind (nwA Λ d 2 9) fun z1 => Option.bind (pR z1.1 p0 2 0 Λ.length) fun l2 => some (l2, z1.2)
set_option maxHeartbeats 4000000 in
set_option maxRecDepth 100000 in
theorem n_X2_init {Λ : List Ly} {d : Dt} {p0 : Nat} {z : List Ly × Dt} (hf : f_X2_init Λ d p0 = some z) : z.1.length = Λ.length + 1 := by
  have n0 : Λ.length = Λ.length + 0 := rfl
  unfold f_X2_init at hf
  obtain ⟨z1, g1, hf⟩ := ob hf
  have n1 : z1.1.length = Λ.length + 1 := lnk (nwA_len g1) n0
  obtain ⟨l2, g2, hf⟩ := ob hf
  have n2 : l2.length = Λ.length + 1 := (pR_len g2).trans n1
  obtain rfl := Option.some.inj hf
  exact n2
set_option maxHeartbeats 4000000 in
set_option maxRecDepth 100000 in
theorem c_X2_init (Γ : Cx) (l : Launch) (Λ : List Ly) (d : Dt) (p0 : Nat) (z : List Ly × Dt) (hf : f_X2_init Λ d p0 = some z) : Ca Γ l yX2_init cX2_init 1 1 12 1 9 [.ref (ad Γ.2.2.1 p0)] Λ d z.1 z.2 := by
  refine Ca.of (own := "SeasonBound$Odds") (by decide +kernel) rfl rfl (Nat.le_of_ble_eq_true rfl) ?_
  intro p e s m below meth c C0 hA hz hin hr hlocks hH ls hl
  have hl : lv_has ls 1 [(0, .ref (ad Γ.2.2.1 p0))] := hl
  obtain ⟨hx, hb, hml, hown, hts, hK⟩ := id C0
  have n0 : Λ.length = Λ.length + 0 := rfl
  unfold f_X2_init at hf
  refine lv_aload_n hx hb dX2_init_0 rfl (lv_at hl 0 rfl) ?_
  refine r_oinit C0 wo_X2_3 hl.1 (by decide) (Nat.le_of_ble_eq_true rfl) dX2_init_1 ?_
  refine lv_aload_n hx hb dX2_init_4 rfl (lv_at hl 0 rfl) ?_
  refine lv_bipush (v := (9 : Int32)) hx hb dX2_init_5 (by decide) ?_
  obtain ⟨z1, g1, hf⟩ := ob hf
  have n1 : z1.1.length = Λ.length + 1 := lnk (nwA_len g1) n0
  refine r_newA (ti := 2) (n := 9) C0 hH hz n0 g1 rfl (by decide) wa_2 (by decide) (by decide) dX2_init_7 (fun H hH => ?_)
  obtain ⟨l2, g2, hf⟩ := ob hf
  have n2 : l2.length = Λ.length + 1 := (pR_len g2).trans n1
  refine r_putr C0 hin hH ff_X2_9 g2 (fun _ => rfl) (fun _ => rfl) dX2_init_9 (fun H locs hH => ?_)
  obtain rfl := Option.some.inj hf
  exact r_vret C0 hr hlocks hH dX2_init_12
theorem dX6_init_0 : decode cX6_init 0 = .ok (.aload_n 0, 1) := by decide +kernel
theorem dX6_init_1 : decode cX6_init 1 = .ok (.invokespecial 3, 3) := by decide +kernel
theorem dX6_init_4 : decode cX6_init 4 = .ok (.aload_n 0, 1) := by decide +kernel
theorem dX6_init_5 : decode cX6_init 5 = .ok (.sipush 160, 3) := by decide +kernel
theorem dX6_init_8 : decode cX6_init 8 = .ok (.newarray .byte, 2) := by decide +kernel
theorem dX6_init_10 : decode cX6_init 10 = .ok (.putfield 9, 3) := by decide +kernel
theorem dX6_init_13 : decode cX6_init 13 = .ok (.return_, 1) := by decide +kernel
def f_X6_init (Λ : List Ly) (d : Dt) (p0 : Nat) : Option (List Ly × Dt) := Option.bind (nwA Λ d 0 160) fun z1 => Option.bind (pR z1.1 p0 6 0 Λ.length) fun l2 => some (l2, z1.2)
set_option maxHeartbeats 4000000 in
set_option maxRecDepth 100000 in
theorem n_X6_init {Λ : List Ly} {d : Dt} {p0 : Nat} {z : List Ly × Dt} (hf : f_X6_init Λ d p0 = some z) : z.1.length = Λ.length + 1 := by
  have n0 : Λ.length = Λ.length + 0 := rfl
  unfold f_X6_init at hf
  obtain ⟨z1, g1, hf⟩ := ob hf
  have n1 : z1.1.length = Λ.length + 1 := lnk (nwA_len g1) n0
  obtain ⟨l2, g2, hf⟩ := ob hf
  have n2 : l2.length = Λ.length + 1 := (pR_len g2).trans n1
  obtain rfl := Option.some.inj hf
  exact n2
set_option maxHeartbeats 4000000 in
set_option maxRecDepth 100000 in
theorem c_X6_init (Γ : Cx) (l : Launch) (Λ : List Ly) (d : Dt) (p0 : Nat) (z : List Ly × Dt) (hf : f_X6_init Λ d p0 = some z) : Ca Γ l yX6_init cX6_init 1 1 12 1 160 [.ref (ad Γ.2.2.1 p0)] Λ d z.1 z.2 := by
  refine Ca.of (own := "SeasonBound$Tape") (by decide +kernel) rfl rfl (Nat.le_of_ble_eq_true rfl) ?_
  intro p e s m below meth c C0 hA hz hin hr hlocks hH ls hl
  have hl : lv_has ls 1 [(0, .ref (ad Γ.2.2.1 p0))] := hl
  obtain ⟨hx, hb, hml, hown, hts, hK⟩ := id C0
  have n0 : Λ.length = Λ.length + 0 := rfl
  unfold f_X6_init at hf
  refine lv_aload_n hx hb dX6_init_0 rfl (lv_at hl 0 rfl) ?_
  refine r_oinit C0 wo_X6_3 hl.1 (by decide) (Nat.le_of_ble_eq_true rfl) dX6_init_1 ?_
  refine lv_aload_n hx hb dX6_init_4 rfl (lv_at hl 0 rfl) ?_
  refine lv_sipush (v := (160 : Int32)) hx hb dX6_init_5 (by decide) ?_
  obtain ⟨z1, g1, hf⟩ := ob hf
  have n1 : z1.1.length = Λ.length + 1 := lnk (nwA_len g1) n0
  refine r_newA (ti := 0) (n := 160) C0 hH hz n0 g1 rfl (by decide) wa_0 (by decide) (by decide) dX6_init_8 (fun H hH => ?_)
  obtain ⟨l2, g2, hf⟩ := ob hf
  have n2 : l2.length = Λ.length + 1 := (pR_len g2).trans n1
  refine r_putr C0 hin hH ff_X6_9 g2 (fun _ => rfl) (fun _ => rfl) dX6_init_10 (fun H locs hH => ?_)
  obtain rfl := Option.some.inj hf
  exact r_vret C0 hr hlocks hH dX6_init_13
theorem dX5_init_0 : decode cX5_init 0 = .ok (.aload_n 0, 1) := by decide +kernel
theorem dX5_init_1 : decode cX5_init 1 = .ok (.invokespecial 3, 3) := by decide +kernel
theorem dX5_init_4 : decode cX5_init 4 = .ok (.aload_n 0, 1) := by decide +kernel
theorem dX5_init_5 : decode cX5_init 5 = .ok (.bipush 40, 2) := by decide +kernel
theorem dX5_init_7 : decode cX5_init 7 = .ok (.newarray .int, 2) := by decide +kernel
theorem dX5_init_9 : decode cX5_init 9 = .ok (.putfield 9, 3) := by decide +kernel
theorem dX5_init_12 : decode cX5_init 12 = .ok (.aload_n 0, 1) := by decide +kernel
theorem dX5_init_13 : decode cX5_init 13 = .ok (.bipush (-4), 2) := by decide +kernel
theorem dX5_init_15 : decode cX5_init 15 = .ok (.putfield 15, 3) := by decide +kernel
theorem dX5_init_18 : decode cX5_init 18 = .ok (.return_, 1) := by decide +kernel
def f_X5_init (Λ : List Ly) (d : Dt) (p0 : Nat) : Option (List Ly × Dt) := Option.bind (nwA Λ d 1 40) fun z1 => Option.bind (pR z1.1 p0 5 0 Λ.length) fun l2 => if clsAt l2 p0 = some 5 then (some (l2, (pI z1.2 p0 2 (-4 : Int32)))) else none
set_option maxHeartbeats 4000000 in
set_option maxRecDepth 100000 in
theorem n_X5_init {Λ : List Ly} {d : Dt} {p0 : Nat} {z : List Ly × Dt} (hf : f_X5_init Λ d p0 = some z) : z.1.length = Λ.length + 1 := by
  have n0 : Λ.length = Λ.length + 0 := rfl
  unfold f_X5_init at hf
  obtain ⟨z1, g1, hf⟩ := ob hf
  have n1 : z1.1.length = Λ.length + 1 := lnk (nwA_len g1) n0
  obtain ⟨l2, g2, hf⟩ := ob hf
  have n2 : l2.length = Λ.length + 1 := (pR_len g2).trans n1
  obtain ⟨g3, hf⟩ := gd hf
  obtain rfl := Option.some.inj hf
  exact n2
set_option maxHeartbeats 4000000 in
set_option maxRecDepth 100000 in
theorem c_X5_init (Γ : Cx) (l : Launch) (Λ : List Ly) (d : Dt) (p0 : Nat) (z : List Ly × Dt) (hf : f_X5_init Λ d p0 = some z) : Ca Γ l yX5_init cX5_init 1 1 12 1 40 [.ref (ad Γ.2.2.1 p0)] Λ d z.1 z.2 := by
  refine Ca.of (own := "SeasonBound$Sheet") (by decide +kernel) rfl rfl (Nat.le_of_ble_eq_true rfl) ?_
  intro p e s m below meth c C0 hA hz hin hr hlocks hH ls hl
  have hl : lv_has ls 1 [(0, .ref (ad Γ.2.2.1 p0))] := hl
  obtain ⟨hx, hb, hml, hown, hts, hK⟩ := id C0
  have n0 : Λ.length = Λ.length + 0 := rfl
  unfold f_X5_init at hf
  refine lv_aload_n hx hb dX5_init_0 rfl (lv_at hl 0 rfl) ?_
  refine r_oinit C0 wo_X5_3 hl.1 (by decide) (Nat.le_of_ble_eq_true rfl) dX5_init_1 ?_
  refine lv_aload_n hx hb dX5_init_4 rfl (lv_at hl 0 rfl) ?_
  refine lv_bipush (v := (40 : Int32)) hx hb dX5_init_5 (by decide) ?_
  obtain ⟨z1, g1, hf⟩ := ob hf
  have n1 : z1.1.length = Λ.length + 1 := lnk (nwA_len g1) n0
  refine r_newA (ti := 1) (n := 40) C0 hH hz n0 g1 rfl (by decide) wa_1 (by decide) (by decide) dX5_init_7 (fun H hH => ?_)
  obtain ⟨l2, g2, hf⟩ := ob hf
  have n2 : l2.length = Λ.length + 1 := (pR_len g2).trans n1
  refine r_putr C0 hin hH ff_X5_9 g2 (fun _ => rfl) (fun _ => rfl) dX5_init_9 (fun H locs hH => ?_)
  refine lv_aload_n hx hb dX5_init_12 rfl (lv_at hl 0 rfl) ?_
  refine lv_bipush (v := (-4 : Int32)) hx hb dX5_init_13 (by decide) ?_
  obtain ⟨g3, hf⟩ := gd hf
  refine r_puti C0 hH fw_X5_15 g3 rfl dX5_init_15 (fun H locs hH => ?_)
  obtain rfl := Option.some.inj hf
  exact r_vret C0 hr hlocks hH dX5_init_18
theorem dX7_init_0 : decode cX7_init 0 = .ok (.aload_n 0, 1) := by decide +kernel
theorem dX7_init_1 : decode cX7_init 1 = .ok (.invokespecial 3, 3) := by decide +kernel
theorem dX7_init_4 : decode cX7_init 4 = .ok (.aload_n 0, 1) := by decide +kernel
theorem dX7_init_5 : decode cX7_init 5 = .ok (.iconst 4, 1) := by decide +kernel
theorem dX7_init_6 : decode cX7_init 6 = .ok (.anewarray 9, 3) := by decide +kernel
theorem dX7_init_9 : decode cX7_init 9 = .ok (.putfield 11, 3) := by decide +kernel
theorem dX7_init_12 : decode cX7_init 12 = .ok (.aload_n 0, 1) := by decide +kernel
theorem dX7_init_13 : decode cX7_init 13 = .ok (.iconst 5, 1) := by decide +kernel
theorem dX7_init_14 : decode cX7_init 14 = .ok (.anewarray 17, 3) := by decide +kernel
theorem dX7_init_17 : decode cX7_init 17 = .ok (.putfield 19, 3) := by decide +kernel
theorem dX7_init_20 : decode cX7_init 20 = .ok (.aload_n 0, 1) := by decide +kernel
theorem dX7_init_21 : decode cX7_init 21 = .ok (.bipush 6, 2) := by decide +kernel
theorem dX7_init_23 : decode cX7_init 23 = .ok (.newarray .int, 2) := by decide +kernel
theorem dX7_init_25 : decode cX7_init 25 = .ok (.putfield 23, 3) := by decide +kernel
theorem dX7_init_28 : decode cX7_init 28 = .ok (.aload_n 0, 1) := by decide +kernel
theorem dX7_init_29 : decode cX7_init 29 = .ok (.bipush 6, 2) := by decide +kernel
theorem dX7_init_31 : decode cX7_init 31 = .ok (.newarray .int, 2) := by decide +kernel
theorem dX7_init_33 : decode cX7_init 33 = .ok (.putfield 27, 3) := by decide +kernel
theorem dX7_init_36 : decode cX7_init 36 = .ok (.aload_n 0, 1) := by decide +kernel
theorem dX7_init_37 : decode cX7_init 37 = .ok (.bipush 6, 2) := by decide +kernel
theorem dX7_init_39 : decode cX7_init 39 = .ok (.newarray .int, 2) := by decide +kernel
theorem dX7_init_41 : decode cX7_init 41 = .ok (.putfield 30, 3) := by decide +kernel
theorem dX7_init_44 : decode cX7_init 44 = .ok (.iconst 0, 1) := by decide +kernel
theorem dX7_init_45 : decode cX7_init 45 = .ok (.istore_n 1, 1) := by decide +kernel
theorem dX7_init_46 : decode cX7_init 46 = .ok (.iload_n 1, 1) := by decide +kernel
theorem dX7_init_47 : decode cX7_init 47 = .ok (.iconst 4, 1) := by decide +kernel
theorem dX7_init_48 : decode cX7_init 48 = .ok (.if_icmp .ge 22, 3) := by decide +kernel
theorem dX7_init_51 : decode cX7_init 51 = .ok (.aload_n 0, 1) := by decide +kernel
theorem dX7_init_52 : decode cX7_init 52 = .ok (.getfield 11, 3) := by decide +kernel
theorem dX7_init_55 : decode cX7_init 55 = .ok (.iload_n 1, 1) := by decide +kernel
theorem dX7_init_56 : decode cX7_init 56 = .ok (.new 9, 3) := by decide +kernel
theorem dX7_init_59 : decode cX7_init 59 = .ok (.dup, 1) := by decide +kernel
theorem dX7_init_60 : decode cX7_init 60 = .ok (.invokespecial 33, 3) := by decide +kernel
theorem dX7_init_63 : decode cX7_init 63 = .ok (.aastore, 1) := by decide +kernel
theorem dX7_init_64 : decode cX7_init 64 = .ok (.iinc 1 1, 3) := by decide +kernel
theorem dX7_init_67 : decode cX7_init 67 = .ok (.goto (-21), 3) := by decide +kernel
theorem dX7_init_70 : decode cX7_init 70 = .ok (.iconst 0, 1) := by decide +kernel
theorem dX7_init_71 : decode cX7_init 71 = .ok (.istore_n 1, 1) := by decide +kernel
theorem dX7_init_72 : decode cX7_init 72 = .ok (.iload_n 1, 1) := by decide +kernel
theorem dX7_init_73 : decode cX7_init 73 = .ok (.iconst 5, 1) := by decide +kernel
theorem dX7_init_74 : decode cX7_init 74 = .ok (.if_icmp .ge 22, 3) := by decide +kernel
theorem dX7_init_77 : decode cX7_init 77 = .ok (.aload_n 0, 1) := by decide +kernel
theorem dX7_init_78 : decode cX7_init 78 = .ok (.getfield 19, 3) := by decide +kernel
theorem dX7_init_81 : decode cX7_init 81 = .ok (.iload_n 1, 1) := by decide +kernel
theorem dX7_init_82 : decode cX7_init 82 = .ok (.new 17, 3) := by decide +kernel
theorem dX7_init_85 : decode cX7_init 85 = .ok (.dup, 1) := by decide +kernel
theorem dX7_init_86 : decode cX7_init 86 = .ok (.invokespecial 34, 3) := by decide +kernel
theorem dX7_init_89 : decode cX7_init 89 = .ok (.aastore, 1) := by decide +kernel
theorem dX7_init_90 : decode cX7_init 90 = .ok (.iinc 1 1, 3) := by decide +kernel
theorem dX7_init_93 : decode cX7_init 93 = .ok (.goto (-21), 3) := by decide +kernel
theorem dX7_init_96 : decode cX7_init 96 = .ok (.aload_n 0, 1) := by decide +kernel
theorem dX7_init_97 : decode cX7_init 97 = .ok (.invokevirtual 35, 3) := by decide +kernel
theorem dX7_init_100 : decode cX7_init 100 = .ok (.return_, 1) := by decide +kernel
def f_X7_init (Λ : List Ly) (d : Dt) (p0 : Nat) : Option (List Ly × Dt) := Option.bind (nwR Λ d 5 4) fun z1 => Option.bind (pR z1.1 p0 7 0 Λ.length) fun l2 => Option.bind (nwR l2 z1.2 4 5) fun z3 => Option.bind (pR z3.1 p0 7 1 l2.length) fun l4 => Option.bind (nwA l4 z3.2 1 6) fun z5 => Option.bind (pR z5.1 p0 7 6 l4.length) fun l6 => Option.bind (nwA l6 z5.2 1 6) fun z7 => Option.bind (pR z7.1 p0 7 7 l6.length) fun l8 => Option.bind (nwA l8 z7.2 1 6) fun z9 => Option.bind (pR z9.1 p0 7 8 l8.length) fun l10 => Option.bind (rf l10 p0 7 0) fun q11 => Option.bind (nwO l10 z9.2 4) fun z12 => Option.bind (f_X4_init z12.1 z12.2 l10.length) fun z13 => if clsAt z13.1 l10.length = some 4 then (Option.bind (aR z13.1 q11 5 (0 : Int32) l10.length) fun l15 => Option.bind (rf l15 p0 7 0) fun q16 => Option.bind (nwO l15 z13.2 4) fun z17 => Option.bind (f_X4_init z17.1 z17.2 l15.length) fun z18 => if clsAt z18.1 l15.length = some 4 then (Option.bind (aR z18.1 q16 5 (1 : Int32) l15.length) fun l20 => Option.bind (rf l20 p0 7 0) fun q21 => Option.bind (nwO l20 z18.2 4) fun z22 => Option.bind (f_X4_init z22.1 z22.2 l20.length) fun z23 => if clsAt z23.1 l20.length = some 4 then (Option.bind (aR z23.1 q21 5 (2 : Int32) l20.length) fun l25 => Option.bind (rf l25 p0 7 0) fun q26 => Option.bind (nwO l25 z23.2 4) fun z27 => Option.bind (f_X4_init z27.1 z27.2 l25.length) fun z28 => if clsAt z28.1 l25.length = some 4 then (Option.bind (aR z28.1 q26 5 (3 : Int32) l25.length) fun l30 => Option.bind (rf l30 p0 7 1) fun q31 => Option.bind (nwO l30 z28.2 1) fun z32 => Option.bind (f_X1_init z32.1 z32.2 l30.length) fun z33 => if clsAt z33.1 l30.length = some 1 then (Option.bind (aR z33.1 q31 4 (0 : Int32) l30.length) fun l35 => Option.bind (rf l35 p0 7 1) fun q36 => Option.bind (nwO l35 z33.2 1) fun z37 => Option.bind (f_X1_init z37.1 z37.2 l35.length) fun z38 => if clsAt z38.1 l35.length = some 1 then (Option.bind (aR z38.1 q36 4 (1 : Int32) l35.length) fun l40 => Option.bind (rf l40 p0 7 1) fun q41 => Option.bind (nwO l40 z38.2 1) fun z42 => Option.bind (f_X1_init z42.1 z42.2 l40.length) fun z43 => if clsAt z43.1 l40.length = some 1 then (Option.bind (aR z43.1 q41 4 (2 : Int32) l40.length) fun l45 => Option.bind (rf l45 p0 7 1) fun q46 => Option.bind (nwO l45 z43.2 1) fun z47 => Option.bind (f_X1_init z47.1 z47.2 l45.length) fun z48 => if clsAt z48.1 l45.length = some 1 then (Option.bind (aR z48.1 q46 4 (3 : Int32) l45.length) fun l50 => Option.bind (rf l50 p0 7 1) fun q51 => Option.bind (nwO l50 z48.2 1) fun z52 => Option.bind (f_X1_init z52.1 z52.2 l50.length) fun z53 => if clsAt z53.1 l50.length = some 1 then (Option.bind (aR z53.1 q51 4 (4 : Int32) l50.length) fun l55 => if clsAt l55 p0 = some 7 then (Option.bind (f_X7_renew l55 z53.2 p0) fun z57 => some (l55, z57)) else none) else none) else none) else none) else none) else none) else none) else none) else none) else none
set_option maxHeartbeats 4000000 in
set_option maxRecDepth 100000 in
theorem n_X7_init {Λ : List Ly} {d : Dt} {p0 : Nat} {z : List Ly × Dt} (hf : f_X7_init Λ d p0 = some z) : z.1.length = Λ.length + 14 := by
  have n0 : Λ.length = Λ.length + 0 := rfl
  unfold f_X7_init at hf
  obtain ⟨z1, g1, hf⟩ := ob hf
  have n1 : z1.1.length = Λ.length + 1 := lnk (nwR_len g1) n0
  obtain ⟨l2, g2, hf⟩ := ob hf
  have n2 : l2.length = Λ.length + 1 := (pR_len g2).trans n1
  obtain ⟨z3, g3, hf⟩ := ob hf
  have n3 : z3.1.length = Λ.length + 2 := lnk (nwR_len g3) n2
  obtain ⟨l4, g4, hf⟩ := ob hf
  have n4 : l4.length = Λ.length + 2 := (pR_len g4).trans n3
  obtain ⟨z5, g5, hf⟩ := ob hf
  have n5 : z5.1.length = Λ.length + 3 := lnk (nwA_len g5) n4
  obtain ⟨l6, g6, hf⟩ := ob hf
  have n6 : l6.length = Λ.length + 3 := (pR_len g6).trans n5
  obtain ⟨z7, g7, hf⟩ := ob hf
  have n7 : z7.1.length = Λ.length + 4 := lnk (nwA_len g7) n6
  obtain ⟨l8, g8, hf⟩ := ob hf
  have n8 : l8.length = Λ.length + 4 := (pR_len g8).trans n7
  obtain ⟨z9, g9, hf⟩ := ob hf
  have n9 : z9.1.length = Λ.length + 5 := lnk (nwA_len g9) n8
  obtain ⟨l10, g10, hf⟩ := ob hf
  have n10 : l10.length = Λ.length + 5 := (pR_len g10).trans n9
  obtain ⟨q11, g11, hf⟩ := ob hf
  obtain ⟨z12, g12, hf⟩ := ob hf
  have n12 : z12.1.length = Λ.length + 6 := lnk (nwO_len g12) n10
  obtain ⟨z13, g13, hf⟩ := ob hf
  have n13 : z13.1.length = Λ.length + 6 := lnk (n_X4_init g13) n12
  obtain ⟨g14, hf⟩ := gd hf
  obtain ⟨l15, g15, hf⟩ := ob hf
  have n15 : l15.length = Λ.length + 6 := (aR_len g15).trans n13
  obtain ⟨q16, g16, hf⟩ := ob hf
  obtain ⟨z17, g17, hf⟩ := ob hf
  have n17 : z17.1.length = Λ.length + 7 := lnk (nwO_len g17) n15
  obtain ⟨z18, g18, hf⟩ := ob hf
  have n18 : z18.1.length = Λ.length + 7 := lnk (n_X4_init g18) n17
  obtain ⟨g19, hf⟩ := gd hf
  obtain ⟨l20, g20, hf⟩ := ob hf
  have n20 : l20.length = Λ.length + 7 := (aR_len g20).trans n18
  obtain ⟨q21, g21, hf⟩ := ob hf
  obtain ⟨z22, g22, hf⟩ := ob hf
  have n22 : z22.1.length = Λ.length + 8 := lnk (nwO_len g22) n20
  obtain ⟨z23, g23, hf⟩ := ob hf
  have n23 : z23.1.length = Λ.length + 8 := lnk (n_X4_init g23) n22
  obtain ⟨g24, hf⟩ := gd hf
  obtain ⟨l25, g25, hf⟩ := ob hf
  have n25 : l25.length = Λ.length + 8 := (aR_len g25).trans n23
  obtain ⟨q26, g26, hf⟩ := ob hf
  obtain ⟨z27, g27, hf⟩ := ob hf
  have n27 : z27.1.length = Λ.length + 9 := lnk (nwO_len g27) n25
  obtain ⟨z28, g28, hf⟩ := ob hf
  have n28 : z28.1.length = Λ.length + 9 := lnk (n_X4_init g28) n27
  obtain ⟨g29, hf⟩ := gd hf
  obtain ⟨l30, g30, hf⟩ := ob hf
  have n30 : l30.length = Λ.length + 9 := (aR_len g30).trans n28
  obtain ⟨q31, g31, hf⟩ := ob hf
  obtain ⟨z32, g32, hf⟩ := ob hf
  have n32 : z32.1.length = Λ.length + 10 := lnk (nwO_len g32) n30
  obtain ⟨z33, g33, hf⟩ := ob hf
  have n33 : z33.1.length = Λ.length + 10 := lnk (n_X1_init g33) n32
  obtain ⟨g34, hf⟩ := gd hf
  obtain ⟨l35, g35, hf⟩ := ob hf
  have n35 : l35.length = Λ.length + 10 := (aR_len g35).trans n33
  obtain ⟨q36, g36, hf⟩ := ob hf
  obtain ⟨z37, g37, hf⟩ := ob hf
  have n37 : z37.1.length = Λ.length + 11 := lnk (nwO_len g37) n35
  obtain ⟨z38, g38, hf⟩ := ob hf
  have n38 : z38.1.length = Λ.length + 11 := lnk (n_X1_init g38) n37
  obtain ⟨g39, hf⟩ := gd hf
  obtain ⟨l40, g40, hf⟩ := ob hf
  have n40 : l40.length = Λ.length + 11 := (aR_len g40).trans n38
  obtain ⟨q41, g41, hf⟩ := ob hf
  obtain ⟨z42, g42, hf⟩ := ob hf
  have n42 : z42.1.length = Λ.length + 12 := lnk (nwO_len g42) n40
  obtain ⟨z43, g43, hf⟩ := ob hf
  have n43 : z43.1.length = Λ.length + 12 := lnk (n_X1_init g43) n42
  obtain ⟨g44, hf⟩ := gd hf
  obtain ⟨l45, g45, hf⟩ := ob hf
  have n45 : l45.length = Λ.length + 12 := (aR_len g45).trans n43
  obtain ⟨q46, g46, hf⟩ := ob hf
  obtain ⟨z47, g47, hf⟩ := ob hf
  have n47 : z47.1.length = Λ.length + 13 := lnk (nwO_len g47) n45
  obtain ⟨z48, g48, hf⟩ := ob hf
  have n48 : z48.1.length = Λ.length + 13 := lnk (n_X1_init g48) n47
  obtain ⟨g49, hf⟩ := gd hf
  obtain ⟨l50, g50, hf⟩ := ob hf
  have n50 : l50.length = Λ.length + 13 := (aR_len g50).trans n48
  obtain ⟨q51, g51, hf⟩ := ob hf
  obtain ⟨z52, g52, hf⟩ := ob hf
  have n52 : z52.1.length = Λ.length + 14 := lnk (nwO_len g52) n50
  obtain ⟨z53, g53, hf⟩ := ob hf
  have n53 : z53.1.length = Λ.length + 14 := lnk (n_X1_init g53) n52
  obtain ⟨g54, hf⟩ := gd hf
  obtain ⟨l55, g55, hf⟩ := ob hf
  have n55 : l55.length = Λ.length + 14 := (aR_len g55).trans n53
  obtain ⟨g56, hf⟩ := gd hf
  obtain ⟨z57, g57, hf⟩ := ob hf
  obtain rfl := Option.some.inj hf
  exact n55
set_option maxHeartbeats 4000000 in
set_option maxRecDepth 100000 in
theorem c_X7_init (Γ : Cx) (l : Launch) (Λ : List Ly) (d : Dt) (p0 : Nat) (z : List Ly × Dt) (hf : f_X7_init Λ d p0 = some z) : Ca Γ l yX7_init cX7_init 2 2 41 14 64 [.ref (ad Γ.2.2.1 p0)] Λ d z.1 z.2 := by
  refine Ca.of (own := "SeasonBound$World") (by decide +kernel) rfl rfl (Nat.le_of_ble_eq_true rfl) ?_
  intro p e s m below meth c C0 hA hz hin hr hlocks hH ls hl
  have hl : lv_has ls 2 [(0, .ref (ad Γ.2.2.1 p0))] := hl
  obtain ⟨hx, hb, hml, hown, hts, hK⟩ := id C0
  have n0 : Λ.length = Λ.length + 0 := rfl
  unfold f_X7_init at hf
  refine lv_aload_n hx hb dX7_init_0 rfl (lv_at hl 0 rfl) ?_
  refine r_oinit C0 wo_X7_3 hl.1 (by decide) (Nat.le_of_ble_eq_true rfl) dX7_init_1 ?_
  refine lv_aload_n hx hb dX7_init_4 rfl (lv_at hl 0 rfl) ?_
  refine lv_iconst (v := (4 : Int32)) hx hb dX7_init_5 (by decide) ?_
  obtain ⟨z1, g1, hf⟩ := ob hf
  have n1 : z1.1.length = Λ.length + 1 := lnk (nwR_len g1) n0
  refine r_newR (ti := 5) (n := 4) (C := "SeasonBound$Season") C0 hH hz n0 g1 (by decide) rfl wl_X7_9 hA.2.1 (by decide) (by decide) dX7_init_6 (fun H hH => ?_)
  obtain ⟨l2, g2, hf⟩ := ob hf
  have n2 : l2.length = Λ.length + 1 := (pR_len g2).trans n1
  refine r_putr C0 hin hH ff_X7_11 g2 (fun _ => rfl) (fun _ => rfl) dX7_init_9 (fun H locs hH => ?_)
  refine lv_aload_n hx hb dX7_init_12 rfl (lv_at hl 0 rfl) ?_
  refine lv_iconst (v := (5 : Int32)) hx hb dX7_init_13 (by decide) ?_
  obtain ⟨z3, g3, hf⟩ := ob hf
  have n3 : z3.1.length = Λ.length + 2 := lnk (nwR_len g3) n2
  refine r_newR (ti := 4) (n := 5) (C := "SeasonBound$Child") C0 hH hz n2 g3 (by decide) rfl wl_X7_17 hA.1 (by decide) (by decide) dX7_init_14 (fun H hH => ?_)
  obtain ⟨l4, g4, hf⟩ := ob hf
  have n4 : l4.length = Λ.length + 2 := (pR_len g4).trans n3
  refine r_putr C0 hin hH ff_X7_19 g4 (fun _ => rfl) (fun _ => rfl) dX7_init_17 (fun H locs hH => ?_)
  refine lv_aload_n hx hb dX7_init_20 rfl (lv_at hl 0 rfl) ?_
  refine lv_bipush (v := (6 : Int32)) hx hb dX7_init_21 (by decide) ?_
  obtain ⟨z5, g5, hf⟩ := ob hf
  have n5 : z5.1.length = Λ.length + 3 := lnk (nwA_len g5) n4
  refine r_newA (ti := 1) (n := 6) C0 hH hz n4 g5 rfl (by decide) wa_1 (by decide) (by decide) dX7_init_23 (fun H hH => ?_)
  obtain ⟨l6, g6, hf⟩ := ob hf
  have n6 : l6.length = Λ.length + 3 := (pR_len g6).trans n5
  refine r_putr C0 hin hH ff_X7_23 g6 (fun _ => rfl) (fun _ => rfl) dX7_init_25 (fun H locs hH => ?_)
  refine lv_aload_n hx hb dX7_init_28 rfl (lv_at hl 0 rfl) ?_
  refine lv_bipush (v := (6 : Int32)) hx hb dX7_init_29 (by decide) ?_
  obtain ⟨z7, g7, hf⟩ := ob hf
  have n7 : z7.1.length = Λ.length + 4 := lnk (nwA_len g7) n6
  refine r_newA (ti := 1) (n := 6) C0 hH hz n6 g7 rfl (by decide) wa_1 (by decide) (by decide) dX7_init_31 (fun H hH => ?_)
  obtain ⟨l8, g8, hf⟩ := ob hf
  have n8 : l8.length = Λ.length + 4 := (pR_len g8).trans n7
  refine r_putr C0 hin hH ff_X7_27 g8 (fun _ => rfl) (fun _ => rfl) dX7_init_33 (fun H locs hH => ?_)
  refine lv_aload_n hx hb dX7_init_36 rfl (lv_at hl 0 rfl) ?_
  refine lv_bipush (v := (6 : Int32)) hx hb dX7_init_37 (by decide) ?_
  obtain ⟨z9, g9, hf⟩ := ob hf
  have n9 : z9.1.length = Λ.length + 5 := lnk (nwA_len g9) n8
  refine r_newA (ti := 1) (n := 6) C0 hH hz n8 g9 rfl (by decide) wa_1 (by decide) (by decide) dX7_init_39 (fun H hH => ?_)
  obtain ⟨l10, g10, hf⟩ := ob hf
  have n10 : l10.length = Λ.length + 5 := (pR_len g10).trans n9
  refine r_putr C0 hin hH ff_X7_30 g10 (fun _ => rfl) (fun _ => rfl) dX7_init_41 (fun H locs hH => ?_)
  refine lv_iconst (v := (0 : Int32)) hx hb dX7_init_44 (by decide) ?_
  refine lv_istore_n (lv' := [(1, .int (0 : Int32)), (0, .ref (ad Γ.2.2.1 p0))]) hx hb dX7_init_45 rfl hl (by decide) rfl (fun ls hl => ?_)
  refine lv_iload_n hx hb dX7_init_46 rfl (lv_at hl 0 rfl) ?_
  refine lv_iconst (v := (4 : Int32)) hx hb dX7_init_47 (by decide) ?_
  refine lv_icmp_ge (tgt := 70) hx hb dX7_init_48 (by decide) (fun c9 => absurd c9 (by decide)) (fun _ => ?_)
  refine lv_aload_n hx hb dX7_init_51 rfl (lv_at hl 1 rfl) ?_
  obtain ⟨q11, g11, hf⟩ := ob hf
  refine r_getr C0 hH fl_X7_11 g11 dX7_init_52 ?_
  refine lv_iload_n hx hb dX7_init_55 rfl (lv_at hl 0 rfl) ?_
  obtain ⟨z12, g12, hf⟩ := ob hf
  have n12 : z12.1.length = Λ.length + 6 := lnk (nwO_len g12) n10
  refine r_new C0 hH hz n10 g12 ns_X7_9 (by decide) dX7_init_56 (fun H hH => ?_)
  refine lv_dup hx hb dX7_init_59 rfl ?_
  obtain ⟨z13, g13, hf⟩ := ob hf
  have n13 : z13.1.length = Λ.length + 6 := lnk (n_X4_init g13) n12
  refine r_callJ (rest := [.ref (ad Γ.2.2.1 l10.length), .int (0 : Int32), .ref (ad Γ.2.2.1 q11)]) C0 hA hH hz n12 (c_X4_init Γ l z12.1 z12.2 l10.length z13 g13) cj_X7_33 (by decide) rfl hl.1 rfl (Nat.le_of_ble_eq_true rfl) dX7_init_60 (by decide) (fun H locs hH => ?_)
  obtain ⟨g14, hf⟩ := gd hf
  obtain ⟨l15, g15, hf⟩ := ob hf
  have n15 : l15.length = Λ.length + 6 := (aR_len g15).trans n13
  refine r_aast C0 hH g15 (by decide) rfl rfl g14 dX7_init_63 (fun H locs hH => ?_)
  refine lv_iinc (v := (1 : Int32)) (lv' := [(1, .int (1 : Int32)), (0, .ref (ad Γ.2.2.1 p0))]) hx hb dX7_init_64 hl (k := 0) rfl (by decide) (by decide) rfl (fun ls hl => ?_)
  refine lv_goto (tgt := 46) hx hb dX7_init_67 (by decide) ?_
  refine lv_iload_n hx hb dX7_init_46 rfl (lv_at hl 0 rfl) ?_
  refine lv_iconst (v := (4 : Int32)) hx hb dX7_init_47 (by decide) ?_
  refine lv_icmp_ge (tgt := 70) hx hb dX7_init_48 (by decide) (fun c9 => absurd c9 (by decide)) (fun _ => ?_)
  refine lv_aload_n hx hb dX7_init_51 rfl (lv_at hl 1 rfl) ?_
  obtain ⟨q16, g16, hf⟩ := ob hf
  refine r_getr C0 hH fl_X7_11 g16 dX7_init_52 ?_
  refine lv_iload_n hx hb dX7_init_55 rfl (lv_at hl 0 rfl) ?_
  obtain ⟨z17, g17, hf⟩ := ob hf
  have n17 : z17.1.length = Λ.length + 7 := lnk (nwO_len g17) n15
  refine r_new C0 hH hz n15 g17 ns_X7_9 (by decide) dX7_init_56 (fun H hH => ?_)
  refine lv_dup hx hb dX7_init_59 rfl ?_
  obtain ⟨z18, g18, hf⟩ := ob hf
  have n18 : z18.1.length = Λ.length + 7 := lnk (n_X4_init g18) n17
  refine r_callJ (rest := [.ref (ad Γ.2.2.1 l15.length), .int (1 : Int32), .ref (ad Γ.2.2.1 q16)]) C0 hA hH hz n17 (c_X4_init Γ l z17.1 z17.2 l15.length z18 g18) cj_X7_33 (by decide) rfl hl.1 rfl (Nat.le_of_ble_eq_true rfl) dX7_init_60 (by decide) (fun H locs hH => ?_)
  obtain ⟨g19, hf⟩ := gd hf
  obtain ⟨l20, g20, hf⟩ := ob hf
  have n20 : l20.length = Λ.length + 7 := (aR_len g20).trans n18
  refine r_aast C0 hH g20 (by decide) rfl rfl g19 dX7_init_63 (fun H locs hH => ?_)
  refine lv_iinc (v := (2 : Int32)) (lv' := [(1, .int (2 : Int32)), (0, .ref (ad Γ.2.2.1 p0))]) hx hb dX7_init_64 hl (k := 0) rfl (by decide) (by decide) rfl (fun ls hl => ?_)
  refine lv_goto (tgt := 46) hx hb dX7_init_67 (by decide) ?_
  refine lv_iload_n hx hb dX7_init_46 rfl (lv_at hl 0 rfl) ?_
  refine lv_iconst (v := (4 : Int32)) hx hb dX7_init_47 (by decide) ?_
  refine lv_icmp_ge (tgt := 70) hx hb dX7_init_48 (by decide) (fun c9 => absurd c9 (by decide)) (fun _ => ?_)
  refine lv_aload_n hx hb dX7_init_51 rfl (lv_at hl 1 rfl) ?_
  obtain ⟨q21, g21, hf⟩ := ob hf
  refine r_getr C0 hH fl_X7_11 g21 dX7_init_52 ?_
  refine lv_iload_n hx hb dX7_init_55 rfl (lv_at hl 0 rfl) ?_
  obtain ⟨z22, g22, hf⟩ := ob hf
  have n22 : z22.1.length = Λ.length + 8 := lnk (nwO_len g22) n20
  refine r_new C0 hH hz n20 g22 ns_X7_9 (by decide) dX7_init_56 (fun H hH => ?_)
  refine lv_dup hx hb dX7_init_59 rfl ?_
  obtain ⟨z23, g23, hf⟩ := ob hf
  have n23 : z23.1.length = Λ.length + 8 := lnk (n_X4_init g23) n22
  refine r_callJ (rest := [.ref (ad Γ.2.2.1 l20.length), .int (2 : Int32), .ref (ad Γ.2.2.1 q21)]) C0 hA hH hz n22 (c_X4_init Γ l z22.1 z22.2 l20.length z23 g23) cj_X7_33 (by decide) rfl hl.1 rfl (Nat.le_of_ble_eq_true rfl) dX7_init_60 (by decide) (fun H locs hH => ?_)
  obtain ⟨g24, hf⟩ := gd hf
  obtain ⟨l25, g25, hf⟩ := ob hf
  have n25 : l25.length = Λ.length + 8 := (aR_len g25).trans n23
  refine r_aast C0 hH g25 (by decide) rfl rfl g24 dX7_init_63 (fun H locs hH => ?_)
  refine lv_iinc (v := (3 : Int32)) (lv' := [(1, .int (3 : Int32)), (0, .ref (ad Γ.2.2.1 p0))]) hx hb dX7_init_64 hl (k := 0) rfl (by decide) (by decide) rfl (fun ls hl => ?_)
  refine lv_goto (tgt := 46) hx hb dX7_init_67 (by decide) ?_
  refine lv_iload_n hx hb dX7_init_46 rfl (lv_at hl 0 rfl) ?_
  refine lv_iconst (v := (4 : Int32)) hx hb dX7_init_47 (by decide) ?_
  refine lv_icmp_ge (tgt := 70) hx hb dX7_init_48 (by decide) (fun c9 => absurd c9 (by decide)) (fun _ => ?_)
  refine lv_aload_n hx hb dX7_init_51 rfl (lv_at hl 1 rfl) ?_
  obtain ⟨q26, g26, hf⟩ := ob hf
  refine r_getr C0 hH fl_X7_11 g26 dX7_init_52 ?_
  refine lv_iload_n hx hb dX7_init_55 rfl (lv_at hl 0 rfl) ?_
  obtain ⟨z27, g27, hf⟩ := ob hf
  have n27 : z27.1.length = Λ.length + 9 := lnk (nwO_len g27) n25
  refine r_new C0 hH hz n25 g27 ns_X7_9 (by decide) dX7_init_56 (fun H hH => ?_)
  refine lv_dup hx hb dX7_init_59 rfl ?_
  obtain ⟨z28, g28, hf⟩ := ob hf
  have n28 : z28.1.length = Λ.length + 9 := lnk (n_X4_init g28) n27
  refine r_callJ (rest := [.ref (ad Γ.2.2.1 l25.length), .int (3 : Int32), .ref (ad Γ.2.2.1 q26)]) C0 hA hH hz n27 (c_X4_init Γ l z27.1 z27.2 l25.length z28 g28) cj_X7_33 (by decide) rfl hl.1 rfl (Nat.le_of_ble_eq_true rfl) dX7_init_60 (by decide) (fun H locs hH => ?_)
  obtain ⟨g29, hf⟩ := gd hf
  obtain ⟨l30, g30, hf⟩ := ob hf
  have n30 : l30.length = Λ.length + 9 := (aR_len g30).trans n28
  refine r_aast C0 hH g30 (by decide) rfl rfl g29 dX7_init_63 (fun H locs hH => ?_)
  refine lv_iinc (v := (4 : Int32)) (lv' := [(1, .int (4 : Int32)), (0, .ref (ad Γ.2.2.1 p0))]) hx hb dX7_init_64 hl (k := 0) rfl (by decide) (by decide) rfl (fun ls hl => ?_)
  refine lv_goto (tgt := 46) hx hb dX7_init_67 (by decide) ?_
  refine lv_iload_n hx hb dX7_init_46 rfl (lv_at hl 0 rfl) ?_
  refine lv_iconst (v := (4 : Int32)) hx hb dX7_init_47 (by decide) ?_
  refine lv_icmp_ge (tgt := 70) hx hb dX7_init_48 (by decide) (fun _ => ?_) (fun c9 => absurd (by decide) c9)
  refine lv_iconst (v := (0 : Int32)) hx hb dX7_init_70 (by decide) ?_
  refine lv_istore_n (lv' := [(1, .int (0 : Int32)), (0, .ref (ad Γ.2.2.1 p0))]) hx hb dX7_init_71 rfl hl (by decide) rfl (fun ls hl => ?_)
  refine lv_iload_n hx hb dX7_init_72 rfl (lv_at hl 0 rfl) ?_
  refine lv_iconst (v := (5 : Int32)) hx hb dX7_init_73 (by decide) ?_
  refine lv_icmp_ge (tgt := 96) hx hb dX7_init_74 (by decide) (fun c9 => absurd c9 (by decide)) (fun _ => ?_)
  refine lv_aload_n hx hb dX7_init_77 rfl (lv_at hl 1 rfl) ?_
  obtain ⟨q31, g31, hf⟩ := ob hf
  refine r_getr C0 hH fl_X7_19 g31 dX7_init_78 ?_
  refine lv_iload_n hx hb dX7_init_81 rfl (lv_at hl 0 rfl) ?_
  obtain ⟨z32, g32, hf⟩ := ob hf
  have n32 : z32.1.length = Λ.length + 10 := lnk (nwO_len g32) n30
  refine r_new C0 hH hz n30 g32 ns_X7_17 (by decide) dX7_init_82 (fun H hH => ?_)
  refine lv_dup hx hb dX7_init_85 rfl ?_
  obtain ⟨z33, g33, hf⟩ := ob hf
  have n33 : z33.1.length = Λ.length + 10 := lnk (n_X1_init g33) n32
  refine r_callJ (rest := [.ref (ad Γ.2.2.1 l30.length), .int (0 : Int32), .ref (ad Γ.2.2.1 q31)]) C0 hA hH hz n32 (c_X1_init Γ l z32.1 z32.2 l30.length z33 g33) cj_X7_34 (by decide) rfl hl.1 rfl (Nat.le_of_ble_eq_true rfl) dX7_init_86 (by decide) (fun H locs hH => ?_)
  obtain ⟨g34, hf⟩ := gd hf
  obtain ⟨l35, g35, hf⟩ := ob hf
  have n35 : l35.length = Λ.length + 10 := (aR_len g35).trans n33
  refine r_aast C0 hH g35 (by decide) rfl rfl g34 dX7_init_89 (fun H locs hH => ?_)
  refine lv_iinc (v := (1 : Int32)) (lv' := [(1, .int (1 : Int32)), (0, .ref (ad Γ.2.2.1 p0))]) hx hb dX7_init_90 hl (k := 0) rfl (by decide) (by decide) rfl (fun ls hl => ?_)
  refine lv_goto (tgt := 72) hx hb dX7_init_93 (by decide) ?_
  refine lv_iload_n hx hb dX7_init_72 rfl (lv_at hl 0 rfl) ?_
  refine lv_iconst (v := (5 : Int32)) hx hb dX7_init_73 (by decide) ?_
  refine lv_icmp_ge (tgt := 96) hx hb dX7_init_74 (by decide) (fun c9 => absurd c9 (by decide)) (fun _ => ?_)
  refine lv_aload_n hx hb dX7_init_77 rfl (lv_at hl 1 rfl) ?_
  obtain ⟨q36, g36, hf⟩ := ob hf
  refine r_getr C0 hH fl_X7_19 g36 dX7_init_78 ?_
  refine lv_iload_n hx hb dX7_init_81 rfl (lv_at hl 0 rfl) ?_
  obtain ⟨z37, g37, hf⟩ := ob hf
  have n37 : z37.1.length = Λ.length + 11 := lnk (nwO_len g37) n35
  refine r_new C0 hH hz n35 g37 ns_X7_17 (by decide) dX7_init_82 (fun H hH => ?_)
  refine lv_dup hx hb dX7_init_85 rfl ?_
  obtain ⟨z38, g38, hf⟩ := ob hf
  have n38 : z38.1.length = Λ.length + 11 := lnk (n_X1_init g38) n37
  refine r_callJ (rest := [.ref (ad Γ.2.2.1 l35.length), .int (1 : Int32), .ref (ad Γ.2.2.1 q36)]) C0 hA hH hz n37 (c_X1_init Γ l z37.1 z37.2 l35.length z38 g38) cj_X7_34 (by decide) rfl hl.1 rfl (Nat.le_of_ble_eq_true rfl) dX7_init_86 (by decide) (fun H locs hH => ?_)
  obtain ⟨g39, hf⟩ := gd hf
  obtain ⟨l40, g40, hf⟩ := ob hf
  have n40 : l40.length = Λ.length + 11 := (aR_len g40).trans n38
  refine r_aast C0 hH g40 (by decide) rfl rfl g39 dX7_init_89 (fun H locs hH => ?_)
  refine lv_iinc (v := (2 : Int32)) (lv' := [(1, .int (2 : Int32)), (0, .ref (ad Γ.2.2.1 p0))]) hx hb dX7_init_90 hl (k := 0) rfl (by decide) (by decide) rfl (fun ls hl => ?_)
  refine lv_goto (tgt := 72) hx hb dX7_init_93 (by decide) ?_
  refine lv_iload_n hx hb dX7_init_72 rfl (lv_at hl 0 rfl) ?_
  refine lv_iconst (v := (5 : Int32)) hx hb dX7_init_73 (by decide) ?_
  refine lv_icmp_ge (tgt := 96) hx hb dX7_init_74 (by decide) (fun c9 => absurd c9 (by decide)) (fun _ => ?_)
  refine lv_aload_n hx hb dX7_init_77 rfl (lv_at hl 1 rfl) ?_
  obtain ⟨q41, g41, hf⟩ := ob hf
  refine r_getr C0 hH fl_X7_19 g41 dX7_init_78 ?_
  refine lv_iload_n hx hb dX7_init_81 rfl (lv_at hl 0 rfl) ?_
  obtain ⟨z42, g42, hf⟩ := ob hf
  have n42 : z42.1.length = Λ.length + 12 := lnk (nwO_len g42) n40
  refine r_new C0 hH hz n40 g42 ns_X7_17 (by decide) dX7_init_82 (fun H hH => ?_)
  refine lv_dup hx hb dX7_init_85 rfl ?_
  obtain ⟨z43, g43, hf⟩ := ob hf
  have n43 : z43.1.length = Λ.length + 12 := lnk (n_X1_init g43) n42
  refine r_callJ (rest := [.ref (ad Γ.2.2.1 l40.length), .int (2 : Int32), .ref (ad Γ.2.2.1 q41)]) C0 hA hH hz n42 (c_X1_init Γ l z42.1 z42.2 l40.length z43 g43) cj_X7_34 (by decide) rfl hl.1 rfl (Nat.le_of_ble_eq_true rfl) dX7_init_86 (by decide) (fun H locs hH => ?_)
  obtain ⟨g44, hf⟩ := gd hf
  obtain ⟨l45, g45, hf⟩ := ob hf
  have n45 : l45.length = Λ.length + 12 := (aR_len g45).trans n43
  refine r_aast C0 hH g45 (by decide) rfl rfl g44 dX7_init_89 (fun H locs hH => ?_)
  refine lv_iinc (v := (3 : Int32)) (lv' := [(1, .int (3 : Int32)), (0, .ref (ad Γ.2.2.1 p0))]) hx hb dX7_init_90 hl (k := 0) rfl (by decide) (by decide) rfl (fun ls hl => ?_)
  refine lv_goto (tgt := 72) hx hb dX7_init_93 (by decide) ?_
  refine lv_iload_n hx hb dX7_init_72 rfl (lv_at hl 0 rfl) ?_
  refine lv_iconst (v := (5 : Int32)) hx hb dX7_init_73 (by decide) ?_
  refine lv_icmp_ge (tgt := 96) hx hb dX7_init_74 (by decide) (fun c9 => absurd c9 (by decide)) (fun _ => ?_)
  refine lv_aload_n hx hb dX7_init_77 rfl (lv_at hl 1 rfl) ?_
  obtain ⟨q46, g46, hf⟩ := ob hf
  refine r_getr C0 hH fl_X7_19 g46 dX7_init_78 ?_
  refine lv_iload_n hx hb dX7_init_81 rfl (lv_at hl 0 rfl) ?_
  obtain ⟨z47, g47, hf⟩ := ob hf
  have n47 : z47.1.length = Λ.length + 13 := lnk (nwO_len g47) n45
  refine r_new C0 hH hz n45 g47 ns_X7_17 (by decide) dX7_init_82 (fun H hH => ?_)
  refine lv_dup hx hb dX7_init_85 rfl ?_
  obtain ⟨z48, g48, hf⟩ := ob hf
  have n48 : z48.1.length = Λ.length + 13 := lnk (n_X1_init g48) n47
  refine r_callJ (rest := [.ref (ad Γ.2.2.1 l45.length), .int (3 : Int32), .ref (ad Γ.2.2.1 q46)]) C0 hA hH hz n47 (c_X1_init Γ l z47.1 z47.2 l45.length z48 g48) cj_X7_34 (by decide) rfl hl.1 rfl (Nat.le_of_ble_eq_true rfl) dX7_init_86 (by decide) (fun H locs hH => ?_)
  obtain ⟨g49, hf⟩ := gd hf
  obtain ⟨l50, g50, hf⟩ := ob hf
  have n50 : l50.length = Λ.length + 13 := (aR_len g50).trans n48
  refine r_aast C0 hH g50 (by decide) rfl rfl g49 dX7_init_89 (fun H locs hH => ?_)
  refine lv_iinc (v := (4 : Int32)) (lv' := [(1, .int (4 : Int32)), (0, .ref (ad Γ.2.2.1 p0))]) hx hb dX7_init_90 hl (k := 0) rfl (by decide) (by decide) rfl (fun ls hl => ?_)
  refine lv_goto (tgt := 72) hx hb dX7_init_93 (by decide) ?_
  refine lv_iload_n hx hb dX7_init_72 rfl (lv_at hl 0 rfl) ?_
  refine lv_iconst (v := (5 : Int32)) hx hb dX7_init_73 (by decide) ?_
  refine lv_icmp_ge (tgt := 96) hx hb dX7_init_74 (by decide) (fun c9 => absurd c9 (by decide)) (fun _ => ?_)
  refine lv_aload_n hx hb dX7_init_77 rfl (lv_at hl 1 rfl) ?_
  obtain ⟨q51, g51, hf⟩ := ob hf
  refine r_getr C0 hH fl_X7_19 g51 dX7_init_78 ?_
  refine lv_iload_n hx hb dX7_init_81 rfl (lv_at hl 0 rfl) ?_
  obtain ⟨z52, g52, hf⟩ := ob hf
  have n52 : z52.1.length = Λ.length + 14 := lnk (nwO_len g52) n50
  refine r_new C0 hH hz n50 g52 ns_X7_17 (by decide) dX7_init_82 (fun H hH => ?_)
  refine lv_dup hx hb dX7_init_85 rfl ?_
  obtain ⟨z53, g53, hf⟩ := ob hf
  have n53 : z53.1.length = Λ.length + 14 := lnk (n_X1_init g53) n52
  refine r_callJ (rest := [.ref (ad Γ.2.2.1 l50.length), .int (4 : Int32), .ref (ad Γ.2.2.1 q51)]) C0 hA hH hz n52 (c_X1_init Γ l z52.1 z52.2 l50.length z53 g53) cj_X7_34 (by decide) rfl hl.1 rfl (Nat.le_of_ble_eq_true rfl) dX7_init_86 (by decide) (fun H locs hH => ?_)
  obtain ⟨g54, hf⟩ := gd hf
  obtain ⟨l55, g55, hf⟩ := ob hf
  have n55 : l55.length = Λ.length + 14 := (aR_len g55).trans n53
  refine r_aast C0 hH g55 (by decide) rfl rfl g54 dX7_init_89 (fun H locs hH => ?_)
  refine lv_iinc (v := (5 : Int32)) (lv' := [(1, .int (5 : Int32)), (0, .ref (ad Γ.2.2.1 p0))]) hx hb dX7_init_90 hl (k := 0) rfl (by decide) (by decide) rfl (fun ls hl => ?_)
  refine lv_goto (tgt := 72) hx hb dX7_init_93 (by decide) ?_
  refine lv_iload_n hx hb dX7_init_72 rfl (lv_at hl 0 rfl) ?_
  refine lv_iconst (v := (5 : Int32)) hx hb dX7_init_73 (by decide) ?_
  refine lv_icmp_ge (tgt := 96) hx hb dX7_init_74 (by decide) (fun _ => ?_) (fun c9 => absurd (by decide) c9)
  refine lv_aload_n hx hb dX7_init_96 rfl (lv_at hl 1 rfl) ?_
  obtain ⟨g56, hf⟩ := gd hf
  obtain ⟨z57, g57, hf⟩ := ob hf
  refine r_callVv (rest := []) C0 hH (c_X7_renew Γ l l55 z53.2 p0 z57 g57) cv_X7_35 g56 (by decide) rfl hl.1 rfl (Nat.le_of_ble_eq_true rfl) dX7_init_97 (by decide) (fun H locs hH => ?_)
  obtain rfl := Option.some.inj hf
  exact r_vret C0 hr hlocks hH dX7_init_100
theorem dX3_init_0 : decode cX3_init 0 = .ok (.aload_n 0, 1) := by decide +kernel
theorem dX3_init_1 : decode cX3_init 1 = .ok (.invokespecial 3, 3) := by decide +kernel
theorem dX3_init_4 : decode cX3_init 4 = .ok (.aload_n 0, 1) := by decide +kernel
theorem dX3_init_5 : decode cX3_init 5 = .ok (.new 9, 3) := by decide +kernel
theorem dX3_init_8 : decode cX3_init 8 = .ok (.dup, 1) := by decide +kernel
theorem dX3_init_9 : decode cX3_init 9 = .ok (.invokespecial 11, 3) := by decide +kernel
theorem dX3_init_12 : decode cX3_init 12 = .ok (.putfield 12, 3) := by decide +kernel
theorem dX3_init_15 : decode cX3_init 15 = .ok (.return_, 1) := by decide +kernel
def f_X3_init (Λ : List Ly) (d : Dt) (p0 : Nat) : Option (List Ly × Dt) := Option.bind (nwO Λ d 6) fun z1 => Option.bind (f_X6_init z1.1 z1.2 Λ.length) fun z2 => Option.bind (pR z2.1 p0 3 0 Λ.length) fun l3 => some (l3, z2.2)
set_option maxHeartbeats 4000000 in
set_option maxRecDepth 100000 in
theorem n_X3_init {Λ : List Ly} {d : Dt} {p0 : Nat} {z : List Ly × Dt} (hf : f_X3_init Λ d p0 = some z) : z.1.length = Λ.length + 2 := by
  have n0 : Λ.length = Λ.length + 0 := rfl
  unfold f_X3_init at hf
  obtain ⟨z1, g1, hf⟩ := ob hf
  have n1 : z1.1.length = Λ.length + 1 := lnk (nwO_len g1) n0
  obtain ⟨z2, g2, hf⟩ := ob hf
  have n2 : z2.1.length = Λ.length + 2 := lnk (n_X6_init g2) n1
  obtain ⟨l3, g3, hf⟩ := ob hf
  have n3 : l3.length = Λ.length + 2 := (pR_len g3).trans n2
  obtain rfl := Option.some.inj hf
  exact n3
set_option maxHeartbeats 4000000 in
set_option maxRecDepth 100000 in
theorem c_X3_init (Γ : Cx) (l : Launch) (Λ : List Ly) (d : Dt) (p0 : Nat) (z : List Ly × Dt) (hf : f_X3_init Λ d p0 = some z) : Ca Γ l yX3_init cX3_init 1 2 32 2 166 [.ref (ad Γ.2.2.1 p0)] Λ d z.1 z.2 := by
  refine Ca.of (own := "SeasonBound$Reader") (by decide +kernel) rfl rfl (Nat.le_of_ble_eq_true rfl) ?_
  intro p e s m below meth c C0 hA hz hin hr hlocks hH ls hl
  have hl : lv_has ls 1 [(0, .ref (ad Γ.2.2.1 p0))] := hl
  obtain ⟨hx, hb, hml, hown, hts, hK⟩ := id C0
  have n0 : Λ.length = Λ.length + 0 := rfl
  unfold f_X3_init at hf
  refine lv_aload_n hx hb dX3_init_0 rfl (lv_at hl 0 rfl) ?_
  refine r_oinit C0 wo_X3_3 hl.1 (by decide) (Nat.le_of_ble_eq_true rfl) dX3_init_1 ?_
  refine lv_aload_n hx hb dX3_init_4 rfl (lv_at hl 0 rfl) ?_
  obtain ⟨z1, g1, hf⟩ := ob hf
  have n1 : z1.1.length = Λ.length + 1 := lnk (nwO_len g1) n0
  refine r_new C0 hH hz n0 g1 ns_X3_9 (by decide) dX3_init_5 (fun H hH => ?_)
  refine lv_dup hx hb dX3_init_8 rfl ?_
  obtain ⟨z2, g2, hf⟩ := ob hf
  have n2 : z2.1.length = Λ.length + 2 := lnk (n_X6_init g2) n1
  refine r_callJ (rest := [.ref (ad Γ.2.2.1 Λ.length), .ref (ad Γ.2.2.1 p0)]) C0 hA hH hz n1 (c_X6_init Γ l z1.1 z1.2 Λ.length z2 g2) cj_X3_11 (by decide) rfl hl.1 rfl (Nat.le_of_ble_eq_true rfl) dX3_init_9 (by decide) (fun H locs hH => ?_)
  obtain ⟨l3, g3, hf⟩ := ob hf
  have n3 : l3.length = Λ.length + 2 := (pR_len g3).trans n2
  refine r_putr C0 hin hH ff_X3_12 g3 (fun _ => rfl) (fun _ => rfl) dX3_init_12 (fun H locs hH => ?_)
  obtain rfl := Option.some.inj hf
  exact r_vret C0 hr hlocks hH dX3_init_15
theorem dX8_init_0 : decode cX8_init 0 = .ok (.aload_n 0, 1) := by decide +kernel
theorem dX8_init_1 : decode cX8_init 1 = .ok (.invokespecial 1, 3) := by decide +kernel
theorem dX8_init_4 : decode cX8_init 4 = .ok (.aload_n 0, 1) := by decide +kernel
theorem dX8_init_5 : decode cX8_init 5 = .ok (.new 7, 3) := by decide +kernel
theorem dX8_init_8 : decode cX8_init 8 = .ok (.dup, 1) := by decide +kernel
theorem dX8_init_9 : decode cX8_init 9 = .ok (.invokespecial 9, 3) := by decide +kernel
theorem dX8_init_12 : decode cX8_init 12 = .ok (.putfield 10, 3) := by decide +kernel
theorem dX8_init_15 : decode cX8_init 15 = .ok (.aload_n 0, 1) := by decide +kernel
theorem dX8_init_16 : decode cX8_init 16 = .ok (.aload_n 0, 1) := by decide +kernel
theorem dX8_init_17 : decode cX8_init 17 = .ok (.getfield 10, 3) := by decide +kernel
theorem dX8_init_20 : decode cX8_init 20 = .ok (.getfield 16, 3) := by decide +kernel
theorem dX8_init_23 : decode cX8_init 23 = .ok (.putfield 20, 3) := by decide +kernel
theorem dX8_init_26 : decode cX8_init 26 = .ok (.aload_n 0, 1) := by decide +kernel
theorem dX8_init_27 : decode cX8_init 27 = .ok (.new 21, 3) := by decide +kernel
theorem dX8_init_30 : decode cX8_init 30 = .ok (.dup, 1) := by decide +kernel
theorem dX8_init_31 : decode cX8_init 31 = .ok (.invokespecial 23, 3) := by decide +kernel
theorem dX8_init_34 : decode cX8_init 34 = .ok (.putfield 24, 3) := by decide +kernel
theorem dX8_init_37 : decode cX8_init 37 = .ok (.aload_n 0, 1) := by decide +kernel
theorem dX8_init_38 : decode cX8_init 38 = .ok (.new 21, 3) := by decide +kernel
theorem dX8_init_41 : decode cX8_init 41 = .ok (.dup, 1) := by decide +kernel
theorem dX8_init_42 : decode cX8_init 42 = .ok (.invokespecial 23, 3) := by decide +kernel
theorem dX8_init_45 : decode cX8_init 45 = .ok (.putfield 28, 3) := by decide +kernel
theorem dX8_init_48 : decode cX8_init 48 = .ok (.aload_n 0, 1) := by decide +kernel
theorem dX8_init_49 : decode cX8_init 49 = .ok (.iconst 2, 1) := by decide +kernel
theorem dX8_init_50 : decode cX8_init 50 = .ok (.anewarray 21, 3) := by decide +kernel
theorem dX8_init_53 : decode cX8_init 53 = .ok (.putfield 31, 3) := by decide +kernel
theorem dX8_init_56 : decode cX8_init 56 = .ok (.aload_n 0, 1) := by decide +kernel
theorem dX8_init_57 : decode cX8_init 57 = .ok (.iconst 2, 1) := by decide +kernel
theorem dX8_init_58 : decode cX8_init 58 = .ok (.newarray .boolean, 2) := by decide +kernel
theorem dX8_init_60 : decode cX8_init 60 = .ok (.putfield 35, 3) := by decide +kernel
theorem dX8_init_63 : decode cX8_init 63 = .ok (.aload_n 0, 1) := by decide +kernel
theorem dX8_init_64 : decode cX8_init 64 = .ok (.iconst 4, 1) := by decide +kernel
theorem dX8_init_65 : decode cX8_init 65 = .ok (.anewarray 39, 3) := by decide +kernel
theorem dX8_init_68 : decode cX8_init 68 = .ok (.putfield 41, 3) := by decide +kernel
theorem dX8_init_71 : decode cX8_init 71 = .ok (.aload_n 0, 1) := by decide +kernel
theorem dX8_init_72 : decode cX8_init 72 = .ok (.new 45, 3) := by decide +kernel
theorem dX8_init_75 : decode cX8_init 75 = .ok (.dup, 1) := by decide +kernel
theorem dX8_init_76 : decode cX8_init 76 = .ok (.invokespecial 47, 3) := by decide +kernel
theorem dX8_init_79 : decode cX8_init 79 = .ok (.putfield 48, 3) := by decide +kernel
theorem dX8_init_82 : decode cX8_init 82 = .ok (.aload_n 0, 1) := by decide +kernel
theorem dX8_init_83 : decode cX8_init 83 = .ok (.new 52, 3) := by decide +kernel
theorem dX8_init_86 : decode cX8_init 86 = .ok (.dup, 1) := by decide +kernel
theorem dX8_init_87 : decode cX8_init 87 = .ok (.invokespecial 54, 3) := by decide +kernel
theorem dX8_init_90 : decode cX8_init 90 = .ok (.putfield 55, 3) := by decide +kernel
theorem dX8_init_93 : decode cX8_init 93 = .ok (.iconst 0, 1) := by decide +kernel
theorem dX8_init_94 : decode cX8_init 94 = .ok (.istore_n 1, 1) := by decide +kernel
theorem dX8_init_95 : decode cX8_init 95 = .ok (.iload_n 1, 1) := by decide +kernel
theorem dX8_init_96 : decode cX8_init 96 = .ok (.iconst 2, 1) := by decide +kernel
theorem dX8_init_97 : decode cX8_init 97 = .ok (.if_icmp .ge 22, 3) := by decide +kernel
theorem dX8_init_100 : decode cX8_init 100 = .ok (.aload_n 0, 1) := by decide +kernel
theorem dX8_init_101 : decode cX8_init 101 = .ok (.getfield 31, 3) := by decide +kernel
theorem dX8_init_104 : decode cX8_init 104 = .ok (.iload_n 1, 1) := by decide +kernel
theorem dX8_init_105 : decode cX8_init 105 = .ok (.new 21, 3) := by decide +kernel
theorem dX8_init_108 : decode cX8_init 108 = .ok (.dup, 1) := by decide +kernel
theorem dX8_init_109 : decode cX8_init 109 = .ok (.invokespecial 23, 3) := by decide +kernel
theorem dX8_init_112 : decode cX8_init 112 = .ok (.aastore, 1) := by decide +kernel
theorem dX8_init_113 : decode cX8_init 113 = .ok (.iinc 1 1, 3) := by decide +kernel
theorem dX8_init_116 : decode cX8_init 116 = .ok (.goto (-21), 3) := by decide +kernel
theorem dX8_init_119 : decode cX8_init 119 = .ok (.iconst 0, 1) := by decide +kernel
theorem dX8_init_120 : decode cX8_init 120 = .ok (.istore_n 1, 1) := by decide +kernel
theorem dX8_init_121 : decode cX8_init 121 = .ok (.iload_n 1, 1) := by decide +kernel
theorem dX8_init_122 : decode cX8_init 122 = .ok (.iconst 4, 1) := by decide +kernel
theorem dX8_init_123 : decode cX8_init 123 = .ok (.if_icmp .ge 22, 3) := by decide +kernel
theorem dX8_init_126 : decode cX8_init 126 = .ok (.aload_n 0, 1) := by decide +kernel
theorem dX8_init_127 : decode cX8_init 127 = .ok (.getfield 41, 3) := by decide +kernel
theorem dX8_init_130 : decode cX8_init 130 = .ok (.iload_n 1, 1) := by decide +kernel
theorem dX8_init_131 : decode cX8_init 131 = .ok (.new 39, 3) := by decide +kernel
theorem dX8_init_134 : decode cX8_init 134 = .ok (.dup, 1) := by decide +kernel
theorem dX8_init_135 : decode cX8_init 135 = .ok (.invokespecial 59, 3) := by decide +kernel
theorem dX8_init_138 : decode cX8_init 138 = .ok (.aastore, 1) := by decide +kernel
theorem dX8_init_139 : decode cX8_init 139 = .ok (.iinc 1 1, 3) := by decide +kernel
theorem dX8_init_142 : decode cX8_init 142 = .ok (.goto (-21), 3) := by decide +kernel
theorem dX8_init_145 : decode cX8_init 145 = .ok (.return_, 1) := by decide +kernel
def f_X8_init (Λ : List Ly) (d : Dt) (p0 : Nat) : Option (List Ly × Dt) := Option.bind (nwO Λ d 3) fun z1 => Option.bind (f_X3_init z1.1 z1.2 Λ.length) fun z2 => Option.bind (pR z2.1 p0 8 0 Λ.length) fun l3 => Option.bind (rf l3 p0 8 0) fun q4 => Option.bind (rf l3 q4 3 0) fun q5 => Option.bind (pR l3 p0 8 1 q5) fun l6 => Option.bind (nwO l6 z2.2 7) fun z7 => Option.bind (f_X7_init z7.1 z7.2 l6.length) fun z8 => Option.bind (pR z8.1 p0 8 2 l6.length) fun l9 => Option.bind (nwO l9 z8.2 7) fun z10 => Option.bind (f_X7_init z10.1 z10.2 l9.length) fun z11 => Option.bind (pR z11.1 p0 8 3 l9.length) fun l12 => Option.bind (nwR l12 z11.2 7 2) fun z13 => Option.bind (pR z13.1 p0 8 4 l12.length) fun l14 => Option.bind (nwA l14 z13.2 3 2) fun z15 => Option.bind (pR z15.1 p0 8 5 l14.length) fun l16 => Option.bind (nwR l16 z15.2 6 4) fun z17 => Option.bind (pR z17.1 p0 8 6 l16.length) fun l18 => Option.bind (nwO l18 z17.2 0) fun z19 => Option.bind (f_X0_init z19.1 z19.2 l18.length) fun z20 => Option.bind (pR z20.1 p0 8 7 l18.length) fun l21 => Option.bind (nwO l21 z20.2 2) fun z22 => Option.bind (f_X2_init z22.1 z22.2 l21.length) fun z23 => Option.bind (pR z23.1 p0 8 8 l21.length) fun l24 => Option.bind (rf l24 p0 8 4) fun q25 => Option.bind (nwO l24 z23.2 7) fun z26 => Option.bind (f_X7_init z26.1 z26.2 l24.length) fun z27 => if clsAt z27.1 l24.length = some 7 then (Option.bind (aR z27.1 q25 7 (0 : Int32) l24.length) fun l29 => Option.bind (rf l29 p0 8 4) fun q30 => Option.bind (nwO l29 z27.2 7) fun z31 => Option.bind (f_X7_init z31.1 z31.2 l29.length) fun z32 => if clsAt z32.1 l29.length = some 7 then (Option.bind (aR z32.1 q30 7 (1 : Int32) l29.length) fun l34 => Option.bind (rf l34 p0 8 6) fun q35 => Option.bind (nwO l34 z32.2 5) fun z36 => Option.bind (f_X5_init z36.1 z36.2 l34.length) fun z37 => if clsAt z37.1 l34.length = some 5 then (Option.bind (aR z37.1 q35 6 (0 : Int32) l34.length) fun l39 => Option.bind (rf l39 p0 8 6) fun q40 => Option.bind (nwO l39 z37.2 5) fun z41 => Option.bind (f_X5_init z41.1 z41.2 l39.length) fun z42 => if clsAt z42.1 l39.length = some 5 then (Option.bind (aR z42.1 q40 6 (1 : Int32) l39.length) fun l44 => Option.bind (rf l44 p0 8 6) fun q45 => Option.bind (nwO l44 z42.2 5) fun z46 => Option.bind (f_X5_init z46.1 z46.2 l44.length) fun z47 => if clsAt z47.1 l44.length = some 5 then (Option.bind (aR z47.1 q45 6 (2 : Int32) l44.length) fun l49 => Option.bind (rf l49 p0 8 6) fun q50 => Option.bind (nwO l49 z47.2 5) fun z51 => Option.bind (f_X5_init z51.1 z51.2 l49.length) fun z52 => if clsAt z52.1 l49.length = some 5 then (Option.bind (aR z52.1 q50 6 (3 : Int32) l49.length) fun l54 => some (l54, z52.2)) else none) else none) else none) else none) else none) else none
set_option maxHeartbeats 4000000 in
set_option maxRecDepth 100000 in
theorem n_X8_init {Λ : List Ly} {d : Dt} {p0 : Nat} {z : List Ly × Dt} (hf : f_X8_init Λ d p0 = some z) : z.1.length = Λ.length + 77 := by
  have n0 : Λ.length = Λ.length + 0 := rfl
  unfold f_X8_init at hf
  obtain ⟨z1, g1, hf⟩ := ob hf
  have n1 : z1.1.length = Λ.length + 1 := lnk (nwO_len g1) n0
  obtain ⟨z2, g2, hf⟩ := ob hf
  have n2 : z2.1.length = Λ.length + 3 := lnk (n_X3_init g2) n1
  obtain ⟨l3, g3, hf⟩ := ob hf
  have n3 : l3.length = Λ.length + 3 := (pR_len g3).trans n2
  obtain ⟨q4, g4, hf⟩ := ob hf
  obtain ⟨q5, g5, hf⟩ := ob hf
  obtain ⟨l6, g6, hf⟩ := ob hf
  have n6 : l6.length = Λ.length + 3 := (pR_len g6).trans n3
  obtain ⟨z7, g7, hf⟩ := ob hf
  have n7 : z7.1.length = Λ.length + 4 := lnk (nwO_len g7) n6
  obtain ⟨z8, g8, hf⟩ := ob hf
  have n8 : z8.1.length = Λ.length + 18 := lnk (n_X7_init g8) n7
  obtain ⟨l9, g9, hf⟩ := ob hf
  have n9 : l9.length = Λ.length + 18 := (pR_len g9).trans n8
  obtain ⟨z10, g10, hf⟩ := ob hf
  have n10 : z10.1.length = Λ.length + 19 := lnk (nwO_len g10) n9
  obtain ⟨z11, g11, hf⟩ := ob hf
  have n11 : z11.1.length = Λ.length + 33 := lnk (n_X7_init g11) n10
  obtain ⟨l12, g12, hf⟩ := ob hf
  have n12 : l12.length = Λ.length + 33 := (pR_len g12).trans n11
  obtain ⟨z13, g13, hf⟩ := ob hf
  have n13 : z13.1.length = Λ.length + 34 := lnk (nwR_len g13) n12
  obtain ⟨l14, g14, hf⟩ := ob hf
  have n14 : l14.length = Λ.length + 34 := (pR_len g14).trans n13
  obtain ⟨z15, g15, hf⟩ := ob hf
  have n15 : z15.1.length = Λ.length + 35 := lnk (nwA_len g15) n14
  obtain ⟨l16, g16, hf⟩ := ob hf
  have n16 : l16.length = Λ.length + 35 := (pR_len g16).trans n15
  obtain ⟨z17, g17, hf⟩ := ob hf
  have n17 : z17.1.length = Λ.length + 36 := lnk (nwR_len g17) n16
  obtain ⟨l18, g18, hf⟩ := ob hf
  have n18 : l18.length = Λ.length + 36 := (pR_len g18).trans n17
  obtain ⟨z19, g19, hf⟩ := ob hf
  have n19 : z19.1.length = Λ.length + 37 := lnk (nwO_len g19) n18
  obtain ⟨z20, g20, hf⟩ := ob hf
  have n20 : z20.1.length = Λ.length + 37 := lnk (n_X0_init g20) n19
  obtain ⟨l21, g21, hf⟩ := ob hf
  have n21 : l21.length = Λ.length + 37 := (pR_len g21).trans n20
  obtain ⟨z22, g22, hf⟩ := ob hf
  have n22 : z22.1.length = Λ.length + 38 := lnk (nwO_len g22) n21
  obtain ⟨z23, g23, hf⟩ := ob hf
  have n23 : z23.1.length = Λ.length + 39 := lnk (n_X2_init g23) n22
  obtain ⟨l24, g24, hf⟩ := ob hf
  have n24 : l24.length = Λ.length + 39 := (pR_len g24).trans n23
  obtain ⟨q25, g25, hf⟩ := ob hf
  obtain ⟨z26, g26, hf⟩ := ob hf
  have n26 : z26.1.length = Λ.length + 40 := lnk (nwO_len g26) n24
  obtain ⟨z27, g27, hf⟩ := ob hf
  have n27 : z27.1.length = Λ.length + 54 := lnk (n_X7_init g27) n26
  obtain ⟨g28, hf⟩ := gd hf
  obtain ⟨l29, g29, hf⟩ := ob hf
  have n29 : l29.length = Λ.length + 54 := (aR_len g29).trans n27
  obtain ⟨q30, g30, hf⟩ := ob hf
  obtain ⟨z31, g31, hf⟩ := ob hf
  have n31 : z31.1.length = Λ.length + 55 := lnk (nwO_len g31) n29
  obtain ⟨z32, g32, hf⟩ := ob hf
  have n32 : z32.1.length = Λ.length + 69 := lnk (n_X7_init g32) n31
  obtain ⟨g33, hf⟩ := gd hf
  obtain ⟨l34, g34, hf⟩ := ob hf
  have n34 : l34.length = Λ.length + 69 := (aR_len g34).trans n32
  obtain ⟨q35, g35, hf⟩ := ob hf
  obtain ⟨z36, g36, hf⟩ := ob hf
  have n36 : z36.1.length = Λ.length + 70 := lnk (nwO_len g36) n34
  obtain ⟨z37, g37, hf⟩ := ob hf
  have n37 : z37.1.length = Λ.length + 71 := lnk (n_X5_init g37) n36
  obtain ⟨g38, hf⟩ := gd hf
  obtain ⟨l39, g39, hf⟩ := ob hf
  have n39 : l39.length = Λ.length + 71 := (aR_len g39).trans n37
  obtain ⟨q40, g40, hf⟩ := ob hf
  obtain ⟨z41, g41, hf⟩ := ob hf
  have n41 : z41.1.length = Λ.length + 72 := lnk (nwO_len g41) n39
  obtain ⟨z42, g42, hf⟩ := ob hf
  have n42 : z42.1.length = Λ.length + 73 := lnk (n_X5_init g42) n41
  obtain ⟨g43, hf⟩ := gd hf
  obtain ⟨l44, g44, hf⟩ := ob hf
  have n44 : l44.length = Λ.length + 73 := (aR_len g44).trans n42
  obtain ⟨q45, g45, hf⟩ := ob hf
  obtain ⟨z46, g46, hf⟩ := ob hf
  have n46 : z46.1.length = Λ.length + 74 := lnk (nwO_len g46) n44
  obtain ⟨z47, g47, hf⟩ := ob hf
  have n47 : z47.1.length = Λ.length + 75 := lnk (n_X5_init g47) n46
  obtain ⟨g48, hf⟩ := gd hf
  obtain ⟨l49, g49, hf⟩ := ob hf
  have n49 : l49.length = Λ.length + 75 := (aR_len g49).trans n47
  obtain ⟨q50, g50, hf⟩ := ob hf
  obtain ⟨z51, g51, hf⟩ := ob hf
  have n51 : z51.1.length = Λ.length + 76 := lnk (nwO_len g51) n49
  obtain ⟨z52, g52, hf⟩ := ob hf
  have n52 : z52.1.length = Λ.length + 77 := lnk (n_X5_init g52) n51
  obtain ⟨g53, hf⟩ := gd hf
  obtain ⟨l54, g54, hf⟩ := ob hf
  have n54 : l54.length = Λ.length + 77 := (aR_len g54).trans n52
  obtain rfl := Option.some.inj hf
  exact n54
set_option maxHeartbeats 4000000 in
set_option maxRecDepth 100000 in
theorem c_X8_init (Γ : Cx) (l : Launch) (Λ : List Ly) (d : Dt) (p0 : Nat) (z : List Ly × Dt) (hf : f_X8_init Λ d p0 = some z) : Ca Γ l yX8_init cX8_init 2 3 62 77 658 [.ref (ad Γ.2.2.1 p0)] Λ d z.1 z.2 := by
  refine Ca.of (own := "SeasonBound") (by decide +kernel) rfl rfl (Nat.le_of_ble_eq_true rfl) ?_
  intro p e s m below meth c C0 hA hz hin hr hlocks hH ls hl
  have hl : lv_has ls 2 [(0, .ref (ad Γ.2.2.1 p0))] := hl
  obtain ⟨hx, hb, hml, hown, hts, hK⟩ := id C0
  have n0 : Λ.length = Λ.length + 0 := rfl
  unfold f_X8_init at hf
  refine lv_aload_n hx hb dX8_init_0 rfl (lv_at hl 0 rfl) ?_
  refine r_oinit C0 wo_X8_1 hl.1 (by decide) (Nat.le_of_ble_eq_true rfl) dX8_init_1 ?_
  refine lv_aload_n hx hb dX8_init_4 rfl (lv_at hl 0 rfl) ?_
  obtain ⟨z1, g1, hf⟩ := ob hf
  have n1 : z1.1.length = Λ.length + 1 := lnk (nwO_len g1) n0
  refine r_new C0 hH hz n0 g1 ns_X8_7 (by decide) dX8_init_5 (fun H hH => ?_)
  refine lv_dup hx hb dX8_init_8 rfl ?_
  obtain ⟨z2, g2, hf⟩ := ob hf
  have n2 : z2.1.length = Λ.length + 3 := lnk (n_X3_init g2) n1
  refine r_callJ (rest := [.ref (ad Γ.2.2.1 Λ.length), .ref (ad Γ.2.2.1 p0)]) C0 hA hH hz n1 (c_X3_init Γ l z1.1 z1.2 Λ.length z2 g2) cj_X8_9 (by decide) rfl hl.1 rfl (Nat.le_of_ble_eq_true rfl) dX8_init_9 (by decide) (fun H locs hH => ?_)
  obtain ⟨l3, g3, hf⟩ := ob hf
  have n3 : l3.length = Λ.length + 3 := (pR_len g3).trans n2
  refine r_putr C0 hin hH ff_X8_10 g3 (fun _ => rfl) (fun _ => rfl) dX8_init_12 (fun H locs hH => ?_)
  refine lv_aload_n hx hb dX8_init_15 rfl (lv_at hl 0 rfl) ?_
  refine lv_aload_n hx hb dX8_init_16 rfl (lv_at hl 0 rfl) ?_
  obtain ⟨q4, g4, hf⟩ := ob hf
  refine r_getr C0 hH fl_X8_10 g4 dX8_init_17 ?_
  obtain ⟨q5, g5, hf⟩ := ob hf
  refine r_getr C0 hH fl_X8_16 g5 dX8_init_20 ?_
  obtain ⟨l6, g6, hf⟩ := ob hf
  have n6 : l6.length = Λ.length + 3 := (pR_len g6).trans n3
  refine r_putr C0 hin hH ff_X8_20 g6 (fun _ => rfl) (fun _ => rfl) dX8_init_23 (fun H locs hH => ?_)
  refine lv_aload_n hx hb dX8_init_26 rfl (lv_at hl 0 rfl) ?_
  obtain ⟨z7, g7, hf⟩ := ob hf
  have n7 : z7.1.length = Λ.length + 4 := lnk (nwO_len g7) n6
  refine r_new C0 hH hz n6 g7 ns_X8_21 (by decide) dX8_init_27 (fun H hH => ?_)
  refine lv_dup hx hb dX8_init_30 rfl ?_
  obtain ⟨z8, g8, hf⟩ := ob hf
  have n8 : z8.1.length = Λ.length + 18 := lnk (n_X7_init g8) n7
  refine r_callI (rest := [.ref (ad Γ.2.2.1 l6.length), .ref (ad Γ.2.2.1 p0)]) C0 hA hH hz n7 (c_X7_init Γ l z7.1 z7.2 l6.length z8 g8) ci_X8_23 (by decide) rfl hl.1 rfl (Nat.le_of_ble_eq_true rfl) dX8_init_31 (by decide) (fun H locs hH => ?_)
  obtain ⟨l9, g9, hf⟩ := ob hf
  have n9 : l9.length = Λ.length + 18 := (pR_len g9).trans n8
  refine r_putr C0 hin hH ff_X8_24 g9 (fun _ => rfl) (fun _ => rfl) dX8_init_34 (fun H locs hH => ?_)
  refine lv_aload_n hx hb dX8_init_37 rfl (lv_at hl 0 rfl) ?_
  obtain ⟨z10, g10, hf⟩ := ob hf
  have n10 : z10.1.length = Λ.length + 19 := lnk (nwO_len g10) n9
  refine r_new C0 hH hz n9 g10 ns_X8_21 (by decide) dX8_init_38 (fun H hH => ?_)
  refine lv_dup hx hb dX8_init_41 rfl ?_
  obtain ⟨z11, g11, hf⟩ := ob hf
  have n11 : z11.1.length = Λ.length + 33 := lnk (n_X7_init g11) n10
  refine r_callI (rest := [.ref (ad Γ.2.2.1 l9.length), .ref (ad Γ.2.2.1 p0)]) C0 hA hH hz n10 (c_X7_init Γ l z10.1 z10.2 l9.length z11 g11) ci_X8_23 (by decide) rfl hl.1 rfl (Nat.le_of_ble_eq_true rfl) dX8_init_42 (by decide) (fun H locs hH => ?_)
  obtain ⟨l12, g12, hf⟩ := ob hf
  have n12 : l12.length = Λ.length + 33 := (pR_len g12).trans n11
  refine r_putr C0 hin hH ff_X8_28 g12 (fun _ => rfl) (fun _ => rfl) dX8_init_45 (fun H locs hH => ?_)
  refine lv_aload_n hx hb dX8_init_48 rfl (lv_at hl 0 rfl) ?_
  refine lv_iconst (v := (2 : Int32)) hx hb dX8_init_49 (by decide) ?_
  obtain ⟨z13, g13, hf⟩ := ob hf
  have n13 : z13.1.length = Λ.length + 34 := lnk (nwR_len g13) n12
  refine r_newR (ti := 7) (n := 2) (C := "SeasonBound$World") C0 hH hz n12 g13 (by decide) rfl wl_X8_21 hA.2.2.2 (by decide) (by decide) dX8_init_50 (fun H hH => ?_)
  obtain ⟨l14, g14, hf⟩ := ob hf
  have n14 : l14.length = Λ.length + 34 := (pR_len g14).trans n13
  refine r_putr C0 hin hH ff_X8_31 g14 (fun _ => rfl) (fun _ => rfl) dX8_init_53 (fun H locs hH => ?_)
  refine lv_aload_n hx hb dX8_init_56 rfl (lv_at hl 0 rfl) ?_
  refine lv_iconst (v := (2 : Int32)) hx hb dX8_init_57 (by decide) ?_
  obtain ⟨z15, g15, hf⟩ := ob hf
  have n15 : z15.1.length = Λ.length + 35 := lnk (nwA_len g15) n14
  refine r_newA (ti := 3) (n := 2) C0 hH hz n14 g15 rfl (by decide) wa_3 (by decide) (by decide) dX8_init_58 (fun H hH => ?_)
  obtain ⟨l16, g16, hf⟩ := ob hf
  have n16 : l16.length = Λ.length + 35 := (pR_len g16).trans n15
  refine r_putr C0 hin hH ff_X8_35 g16 (fun _ => rfl) (fun _ => rfl) dX8_init_60 (fun H locs hH => ?_)
  refine lv_aload_n hx hb dX8_init_63 rfl (lv_at hl 0 rfl) ?_
  refine lv_iconst (v := (4 : Int32)) hx hb dX8_init_64 (by decide) ?_
  obtain ⟨z17, g17, hf⟩ := ob hf
  have n17 : z17.1.length = Λ.length + 36 := lnk (nwR_len g17) n16
  refine r_newR (ti := 6) (n := 4) (C := "SeasonBound$Sheet") C0 hH hz n16 g17 (by decide) rfl wl_X8_39 hA.2.2.1 (by decide) (by decide) dX8_init_65 (fun H hH => ?_)
  obtain ⟨l18, g18, hf⟩ := ob hf
  have n18 : l18.length = Λ.length + 36 := (pR_len g18).trans n17
  refine r_putr C0 hin hH ff_X8_41 g18 (fun _ => rfl) (fun _ => rfl) dX8_init_68 (fun H locs hH => ?_)
  refine lv_aload_n hx hb dX8_init_71 rfl (lv_at hl 0 rfl) ?_
  obtain ⟨z19, g19, hf⟩ := ob hf
  have n19 : z19.1.length = Λ.length + 37 := lnk (nwO_len g19) n18
  refine r_new C0 hH hz n18 g19 ns_X8_45 (by decide) dX8_init_72 (fun H hH => ?_)
  refine lv_dup hx hb dX8_init_75 rfl ?_
  obtain ⟨z20, g20, hf⟩ := ob hf
  have n20 : z20.1.length = Λ.length + 37 := lnk (n_X0_init g20) n19
  refine r_callJ (rest := [.ref (ad Γ.2.2.1 l18.length), .ref (ad Γ.2.2.1 p0)]) C0 hA hH hz n19 (c_X0_init Γ l z19.1 z19.2 l18.length z20 g20) cj_X8_47 (by decide) rfl hl.1 rfl (Nat.le_of_ble_eq_true rfl) dX8_init_76 (by decide) (fun H locs hH => ?_)
  obtain ⟨l21, g21, hf⟩ := ob hf
  have n21 : l21.length = Λ.length + 37 := (pR_len g21).trans n20
  refine r_putr C0 hin hH ff_X8_48 g21 (fun _ => rfl) (fun _ => rfl) dX8_init_79 (fun H locs hH => ?_)
  refine lv_aload_n hx hb dX8_init_82 rfl (lv_at hl 0 rfl) ?_
  obtain ⟨z22, g22, hf⟩ := ob hf
  have n22 : z22.1.length = Λ.length + 38 := lnk (nwO_len g22) n21
  refine r_new C0 hH hz n21 g22 ns_X8_52 (by decide) dX8_init_83 (fun H hH => ?_)
  refine lv_dup hx hb dX8_init_86 rfl ?_
  obtain ⟨z23, g23, hf⟩ := ob hf
  have n23 : z23.1.length = Λ.length + 39 := lnk (n_X2_init g23) n22
  refine r_callJ (rest := [.ref (ad Γ.2.2.1 l21.length), .ref (ad Γ.2.2.1 p0)]) C0 hA hH hz n22 (c_X2_init Γ l z22.1 z22.2 l21.length z23 g23) cj_X8_54 (by decide) rfl hl.1 rfl (Nat.le_of_ble_eq_true rfl) dX8_init_87 (by decide) (fun H locs hH => ?_)
  obtain ⟨l24, g24, hf⟩ := ob hf
  have n24 : l24.length = Λ.length + 39 := (pR_len g24).trans n23
  refine r_putr C0 hin hH ff_X8_55 g24 (fun _ => rfl) (fun _ => rfl) dX8_init_90 (fun H locs hH => ?_)
  refine lv_iconst (v := (0 : Int32)) hx hb dX8_init_93 (by decide) ?_
  refine lv_istore_n (lv' := [(1, .int (0 : Int32)), (0, .ref (ad Γ.2.2.1 p0))]) hx hb dX8_init_94 rfl hl (by decide) rfl (fun ls hl => ?_)
  refine lv_iload_n hx hb dX8_init_95 rfl (lv_at hl 0 rfl) ?_
  refine lv_iconst (v := (2 : Int32)) hx hb dX8_init_96 (by decide) ?_
  refine lv_icmp_ge (tgt := 119) hx hb dX8_init_97 (by decide) (fun c9 => absurd c9 (by decide)) (fun _ => ?_)
  refine lv_aload_n hx hb dX8_init_100 rfl (lv_at hl 1 rfl) ?_
  obtain ⟨q25, g25, hf⟩ := ob hf
  refine r_getr C0 hH fl_X8_31 g25 dX8_init_101 ?_
  refine lv_iload_n hx hb dX8_init_104 rfl (lv_at hl 0 rfl) ?_
  obtain ⟨z26, g26, hf⟩ := ob hf
  have n26 : z26.1.length = Λ.length + 40 := lnk (nwO_len g26) n24
  refine r_new C0 hH hz n24 g26 ns_X8_21 (by decide) dX8_init_105 (fun H hH => ?_)
  refine lv_dup hx hb dX8_init_108 rfl ?_
  obtain ⟨z27, g27, hf⟩ := ob hf
  have n27 : z27.1.length = Λ.length + 54 := lnk (n_X7_init g27) n26
  refine r_callI (rest := [.ref (ad Γ.2.2.1 l24.length), .int (0 : Int32), .ref (ad Γ.2.2.1 q25)]) C0 hA hH hz n26 (c_X7_init Γ l z26.1 z26.2 l24.length z27 g27) ci_X8_23 (by decide) rfl hl.1 rfl (Nat.le_of_ble_eq_true rfl) dX8_init_109 (by decide) (fun H locs hH => ?_)
  obtain ⟨g28, hf⟩ := gd hf
  obtain ⟨l29, g29, hf⟩ := ob hf
  have n29 : l29.length = Λ.length + 54 := (aR_len g29).trans n27
  refine r_aast C0 hH g29 (by decide) rfl rfl g28 dX8_init_112 (fun H locs hH => ?_)
  refine lv_iinc (v := (1 : Int32)) (lv' := [(1, .int (1 : Int32)), (0, .ref (ad Γ.2.2.1 p0))]) hx hb dX8_init_113 hl (k := 0) rfl (by decide) (by decide) rfl (fun ls hl => ?_)
  refine lv_goto (tgt := 95) hx hb dX8_init_116 (by decide) ?_
  refine lv_iload_n hx hb dX8_init_95 rfl (lv_at hl 0 rfl) ?_
  refine lv_iconst (v := (2 : Int32)) hx hb dX8_init_96 (by decide) ?_
  refine lv_icmp_ge (tgt := 119) hx hb dX8_init_97 (by decide) (fun c9 => absurd c9 (by decide)) (fun _ => ?_)
  refine lv_aload_n hx hb dX8_init_100 rfl (lv_at hl 1 rfl) ?_
  obtain ⟨q30, g30, hf⟩ := ob hf
  refine r_getr C0 hH fl_X8_31 g30 dX8_init_101 ?_
  refine lv_iload_n hx hb dX8_init_104 rfl (lv_at hl 0 rfl) ?_
  obtain ⟨z31, g31, hf⟩ := ob hf
  have n31 : z31.1.length = Λ.length + 55 := lnk (nwO_len g31) n29
  refine r_new C0 hH hz n29 g31 ns_X8_21 (by decide) dX8_init_105 (fun H hH => ?_)
  refine lv_dup hx hb dX8_init_108 rfl ?_
  obtain ⟨z32, g32, hf⟩ := ob hf
  have n32 : z32.1.length = Λ.length + 69 := lnk (n_X7_init g32) n31
  refine r_callI (rest := [.ref (ad Γ.2.2.1 l29.length), .int (1 : Int32), .ref (ad Γ.2.2.1 q30)]) C0 hA hH hz n31 (c_X7_init Γ l z31.1 z31.2 l29.length z32 g32) ci_X8_23 (by decide) rfl hl.1 rfl (Nat.le_of_ble_eq_true rfl) dX8_init_109 (by decide) (fun H locs hH => ?_)
  obtain ⟨g33, hf⟩ := gd hf
  obtain ⟨l34, g34, hf⟩ := ob hf
  have n34 : l34.length = Λ.length + 69 := (aR_len g34).trans n32
  refine r_aast C0 hH g34 (by decide) rfl rfl g33 dX8_init_112 (fun H locs hH => ?_)
  refine lv_iinc (v := (2 : Int32)) (lv' := [(1, .int (2 : Int32)), (0, .ref (ad Γ.2.2.1 p0))]) hx hb dX8_init_113 hl (k := 0) rfl (by decide) (by decide) rfl (fun ls hl => ?_)
  refine lv_goto (tgt := 95) hx hb dX8_init_116 (by decide) ?_
  refine lv_iload_n hx hb dX8_init_95 rfl (lv_at hl 0 rfl) ?_
  refine lv_iconst (v := (2 : Int32)) hx hb dX8_init_96 (by decide) ?_
  refine lv_icmp_ge (tgt := 119) hx hb dX8_init_97 (by decide) (fun _ => ?_) (fun c9 => absurd (by decide) c9)
  refine lv_iconst (v := (0 : Int32)) hx hb dX8_init_119 (by decide) ?_
  refine lv_istore_n (lv' := [(1, .int (0 : Int32)), (0, .ref (ad Γ.2.2.1 p0))]) hx hb dX8_init_120 rfl hl (by decide) rfl (fun ls hl => ?_)
  refine lv_iload_n hx hb dX8_init_121 rfl (lv_at hl 0 rfl) ?_
  refine lv_iconst (v := (4 : Int32)) hx hb dX8_init_122 (by decide) ?_
  refine lv_icmp_ge (tgt := 145) hx hb dX8_init_123 (by decide) (fun c9 => absurd c9 (by decide)) (fun _ => ?_)
  refine lv_aload_n hx hb dX8_init_126 rfl (lv_at hl 1 rfl) ?_
  obtain ⟨q35, g35, hf⟩ := ob hf
  refine r_getr C0 hH fl_X8_41 g35 dX8_init_127 ?_
  refine lv_iload_n hx hb dX8_init_130 rfl (lv_at hl 0 rfl) ?_
  obtain ⟨z36, g36, hf⟩ := ob hf
  have n36 : z36.1.length = Λ.length + 70 := lnk (nwO_len g36) n34
  refine r_new C0 hH hz n34 g36 ns_X8_39 (by decide) dX8_init_131 (fun H hH => ?_)
  refine lv_dup hx hb dX8_init_134 rfl ?_
  obtain ⟨z37, g37, hf⟩ := ob hf
  have n37 : z37.1.length = Λ.length + 71 := lnk (n_X5_init g37) n36
  refine r_callJ (rest := [.ref (ad Γ.2.2.1 l34.length), .int (0 : Int32), .ref (ad Γ.2.2.1 q35)]) C0 hA hH hz n36 (c_X5_init Γ l z36.1 z36.2 l34.length z37 g37) cj_X8_59 (by decide) rfl hl.1 rfl (Nat.le_of_ble_eq_true rfl) dX8_init_135 (by decide) (fun H locs hH => ?_)
  obtain ⟨g38, hf⟩ := gd hf
  obtain ⟨l39, g39, hf⟩ := ob hf
  have n39 : l39.length = Λ.length + 71 := (aR_len g39).trans n37
  refine r_aast C0 hH g39 (by decide) rfl rfl g38 dX8_init_138 (fun H locs hH => ?_)
  refine lv_iinc (v := (1 : Int32)) (lv' := [(1, .int (1 : Int32)), (0, .ref (ad Γ.2.2.1 p0))]) hx hb dX8_init_139 hl (k := 0) rfl (by decide) (by decide) rfl (fun ls hl => ?_)
  refine lv_goto (tgt := 121) hx hb dX8_init_142 (by decide) ?_
  refine lv_iload_n hx hb dX8_init_121 rfl (lv_at hl 0 rfl) ?_
  refine lv_iconst (v := (4 : Int32)) hx hb dX8_init_122 (by decide) ?_
  refine lv_icmp_ge (tgt := 145) hx hb dX8_init_123 (by decide) (fun c9 => absurd c9 (by decide)) (fun _ => ?_)
  refine lv_aload_n hx hb dX8_init_126 rfl (lv_at hl 1 rfl) ?_
  obtain ⟨q40, g40, hf⟩ := ob hf
  refine r_getr C0 hH fl_X8_41 g40 dX8_init_127 ?_
  refine lv_iload_n hx hb dX8_init_130 rfl (lv_at hl 0 rfl) ?_
  obtain ⟨z41, g41, hf⟩ := ob hf
  have n41 : z41.1.length = Λ.length + 72 := lnk (nwO_len g41) n39
  refine r_new C0 hH hz n39 g41 ns_X8_39 (by decide) dX8_init_131 (fun H hH => ?_)
  refine lv_dup hx hb dX8_init_134 rfl ?_
  obtain ⟨z42, g42, hf⟩ := ob hf
  have n42 : z42.1.length = Λ.length + 73 := lnk (n_X5_init g42) n41
  refine r_callJ (rest := [.ref (ad Γ.2.2.1 l39.length), .int (1 : Int32), .ref (ad Γ.2.2.1 q40)]) C0 hA hH hz n41 (c_X5_init Γ l z41.1 z41.2 l39.length z42 g42) cj_X8_59 (by decide) rfl hl.1 rfl (Nat.le_of_ble_eq_true rfl) dX8_init_135 (by decide) (fun H locs hH => ?_)
  obtain ⟨g43, hf⟩ := gd hf
  obtain ⟨l44, g44, hf⟩ := ob hf
  have n44 : l44.length = Λ.length + 73 := (aR_len g44).trans n42
  refine r_aast C0 hH g44 (by decide) rfl rfl g43 dX8_init_138 (fun H locs hH => ?_)
  refine lv_iinc (v := (2 : Int32)) (lv' := [(1, .int (2 : Int32)), (0, .ref (ad Γ.2.2.1 p0))]) hx hb dX8_init_139 hl (k := 0) rfl (by decide) (by decide) rfl (fun ls hl => ?_)
  refine lv_goto (tgt := 121) hx hb dX8_init_142 (by decide) ?_
  refine lv_iload_n hx hb dX8_init_121 rfl (lv_at hl 0 rfl) ?_
  refine lv_iconst (v := (4 : Int32)) hx hb dX8_init_122 (by decide) ?_
  refine lv_icmp_ge (tgt := 145) hx hb dX8_init_123 (by decide) (fun c9 => absurd c9 (by decide)) (fun _ => ?_)
  refine lv_aload_n hx hb dX8_init_126 rfl (lv_at hl 1 rfl) ?_
  obtain ⟨q45, g45, hf⟩ := ob hf
  refine r_getr C0 hH fl_X8_41 g45 dX8_init_127 ?_
  refine lv_iload_n hx hb dX8_init_130 rfl (lv_at hl 0 rfl) ?_
  obtain ⟨z46, g46, hf⟩ := ob hf
  have n46 : z46.1.length = Λ.length + 74 := lnk (nwO_len g46) n44
  refine r_new C0 hH hz n44 g46 ns_X8_39 (by decide) dX8_init_131 (fun H hH => ?_)
  refine lv_dup hx hb dX8_init_134 rfl ?_
  obtain ⟨z47, g47, hf⟩ := ob hf
  have n47 : z47.1.length = Λ.length + 75 := lnk (n_X5_init g47) n46
  refine r_callJ (rest := [.ref (ad Γ.2.2.1 l44.length), .int (2 : Int32), .ref (ad Γ.2.2.1 q45)]) C0 hA hH hz n46 (c_X5_init Γ l z46.1 z46.2 l44.length z47 g47) cj_X8_59 (by decide) rfl hl.1 rfl (Nat.le_of_ble_eq_true rfl) dX8_init_135 (by decide) (fun H locs hH => ?_)
  obtain ⟨g48, hf⟩ := gd hf
  obtain ⟨l49, g49, hf⟩ := ob hf
  have n49 : l49.length = Λ.length + 75 := (aR_len g49).trans n47
  refine r_aast C0 hH g49 (by decide) rfl rfl g48 dX8_init_138 (fun H locs hH => ?_)
  refine lv_iinc (v := (3 : Int32)) (lv' := [(1, .int (3 : Int32)), (0, .ref (ad Γ.2.2.1 p0))]) hx hb dX8_init_139 hl (k := 0) rfl (by decide) (by decide) rfl (fun ls hl => ?_)
  refine lv_goto (tgt := 121) hx hb dX8_init_142 (by decide) ?_
  refine lv_iload_n hx hb dX8_init_121 rfl (lv_at hl 0 rfl) ?_
  refine lv_iconst (v := (4 : Int32)) hx hb dX8_init_122 (by decide) ?_
  refine lv_icmp_ge (tgt := 145) hx hb dX8_init_123 (by decide) (fun c9 => absurd c9 (by decide)) (fun _ => ?_)
  refine lv_aload_n hx hb dX8_init_126 rfl (lv_at hl 1 rfl) ?_
  obtain ⟨q50, g50, hf⟩ := ob hf
  refine r_getr C0 hH fl_X8_41 g50 dX8_init_127 ?_
  refine lv_iload_n hx hb dX8_init_130 rfl (lv_at hl 0 rfl) ?_
  obtain ⟨z51, g51, hf⟩ := ob hf
  have n51 : z51.1.length = Λ.length + 76 := lnk (nwO_len g51) n49
  refine r_new C0 hH hz n49 g51 ns_X8_39 (by decide) dX8_init_131 (fun H hH => ?_)
  refine lv_dup hx hb dX8_init_134 rfl ?_
  obtain ⟨z52, g52, hf⟩ := ob hf
  have n52 : z52.1.length = Λ.length + 77 := lnk (n_X5_init g52) n51
  refine r_callJ (rest := [.ref (ad Γ.2.2.1 l49.length), .int (3 : Int32), .ref (ad Γ.2.2.1 q50)]) C0 hA hH hz n51 (c_X5_init Γ l z51.1 z51.2 l49.length z52 g52) cj_X8_59 (by decide) rfl hl.1 rfl (Nat.le_of_ble_eq_true rfl) dX8_init_135 (by decide) (fun H locs hH => ?_)
  obtain ⟨g53, hf⟩ := gd hf
  obtain ⟨l54, g54, hf⟩ := ob hf
  have n54 : l54.length = Λ.length + 77 := (aR_len g54).trans n52
  refine r_aast C0 hH g54 (by decide) rfl rfl g53 dX8_init_138 (fun H locs hH => ?_)
  refine lv_iinc (v := (4 : Int32)) (lv' := [(1, .int (4 : Int32)), (0, .ref (ad Γ.2.2.1 p0))]) hx hb dX8_init_139 hl (k := 0) rfl (by decide) (by decide) rfl (fun ls hl => ?_)
  refine lv_goto (tgt := 121) hx hb dX8_init_142 (by decide) ?_
  refine lv_iload_n hx hb dX8_init_121 rfl (lv_at hl 0 rfl) ?_
  refine lv_iconst (v := (4 : Int32)) hx hb dX8_init_122 (by decide) ?_
  refine lv_icmp_ge (tgt := 145) hx hb dX8_init_123 (by decide) (fun _ => ?_) (fun c9 => absurd (by decide) c9)
  obtain rfl := Option.some.inj hf
  exact r_vret C0 hr hlocks hH dX8_init_145
theorem dX9_init_0 : decode cX9_init 0 = .ok (.aload_n 0, 1) := by decide +kernel
theorem dX9_init_1 : decode cX9_init 1 = .ok (.invokespecial 1, 3) := by decide +kernel
theorem dX9_init_4 : decode cX9_init 4 = .ok (.aload_n 0, 1) := by decide +kernel
theorem dX9_init_5 : decode cX9_init 5 = .ok (.sipush 180, 3) := by decide +kernel
theorem dX9_init_8 : decode cX9_init 8 = .ok (.newarray .int, 2) := by decide +kernel
theorem dX9_init_10 : decode cX9_init 10 = .ok (.putfield 7, 3) := by decide +kernel
theorem dX9_init_13 : decode cX9_init 13 = .ok (.aload_n 0, 1) := by decide +kernel
theorem dX9_init_14 : decode cX9_init 14 = .ok (.bipush 60, 2) := by decide +kernel
theorem dX9_init_16 : decode cX9_init 16 = .ok (.newarray .int, 2) := by decide +kernel
theorem dX9_init_18 : decode cX9_init 18 = .ok (.putfield 13, 3) := by decide +kernel
theorem dX9_init_21 : decode cX9_init 21 = .ok (.aload_n 0, 1) := by decide +kernel
theorem dX9_init_22 : decode cX9_init 22 = .ok (.iconst 2, 1) := by decide +kernel
theorem dX9_init_23 : decode cX9_init 23 = .ok (.newarray .boolean, 2) := by decide +kernel
theorem dX9_init_25 : decode cX9_init 25 = .ok (.putfield 16, 3) := by decide +kernel
theorem dX9_init_28 : decode cX9_init 28 = .ok (.aload_n 0, 1) := by decide +kernel
theorem dX9_init_29 : decode cX9_init 29 = .ok (.bipush 60, 2) := by decide +kernel
theorem dX9_init_31 : decode cX9_init 31 = .ok (.newarray .int, 2) := by decide +kernel
theorem dX9_init_33 : decode cX9_init 33 = .ok (.putfield 20, 3) := by decide +kernel
theorem dX9_init_36 : decode cX9_init 36 = .ok (.aload_n 0, 1) := by decide +kernel
theorem dX9_init_37 : decode cX9_init 37 = .ok (.sipush 160, 3) := by decide +kernel
theorem dX9_init_40 : decode cX9_init 40 = .ok (.newarray .int, 2) := by decide +kernel
theorem dX9_init_42 : decode cX9_init 42 = .ok (.putfield 23, 3) := by decide +kernel
theorem dX9_init_45 : decode cX9_init 45 = .ok (.aload_n 0, 1) := by decide +kernel
theorem dX9_init_46 : decode cX9_init 46 = .ok (.sipush 155, 3) := by decide +kernel
theorem dX9_init_49 : decode cX9_init 49 = .ok (.newarray .int, 2) := by decide +kernel
theorem dX9_init_51 : decode cX9_init 51 = .ok (.putfield 26, 3) := by decide +kernel
theorem dX9_init_54 : decode cX9_init 54 = .ok (.aload_n 0, 1) := by decide +kernel
theorem dX9_init_55 : decode cX9_init 55 = .ok (.sipush 1550, 3) := by decide +kernel
theorem dX9_init_58 : decode cX9_init 58 = .ok (.newarray .int, 2) := by decide +kernel
theorem dX9_init_60 : decode cX9_init 60 = .ok (.putfield 29, 3) := by decide +kernel
theorem dX9_init_63 : decode cX9_init 63 = .ok (.aload_n 0, 1) := by decide +kernel
theorem dX9_init_64 : decode cX9_init 64 = .ok (.iconst 4, 1) := by decide +kernel
theorem dX9_init_65 : decode cX9_init 65 = .ok (.newarray .int, 2) := by decide +kernel
theorem dX9_init_67 : decode cX9_init 67 = .ok (.putfield 32, 3) := by decide +kernel
theorem dX9_init_70 : decode cX9_init 70 = .ok (.aload_n 0, 1) := by decide +kernel
theorem dX9_init_71 : decode cX9_init 71 = .ok (.iconst 4, 1) := by decide +kernel
theorem dX9_init_72 : decode cX9_init 72 = .ok (.newarray .int, 2) := by decide +kernel
theorem dX9_init_74 : decode cX9_init 74 = .ok (.putfield 35, 3) := by decide +kernel
theorem dX9_init_77 : decode cX9_init 77 = .ok (.aload_n 0, 1) := by decide +kernel
theorem dX9_init_78 : decode cX9_init 78 = .ok (.sipush 160, 3) := by decide +kernel
theorem dX9_init_81 : decode cX9_init 81 = .ok (.newarray .int, 2) := by decide +kernel
theorem dX9_init_83 : decode cX9_init 83 = .ok (.putfield 38, 3) := by decide +kernel
theorem dX9_init_86 : decode cX9_init 86 = .ok (.aload_n 0, 1) := by decide +kernel
theorem dX9_init_87 : decode cX9_init 87 = .ok (.bipush 60, 2) := by decide +kernel
theorem dX9_init_89 : decode cX9_init 89 = .ok (.newarray .int, 2) := by decide +kernel
theorem dX9_init_91 : decode cX9_init 91 = .ok (.putfield 41, 3) := by decide +kernel
theorem dX9_init_94 : decode cX9_init 94 = .ok (.iconst 0, 1) := by decide +kernel
theorem dX9_init_95 : decode cX9_init 95 = .ok (.istore_n 1, 1) := by decide +kernel
theorem dX9_init_96 : decode cX9_init 96 = .ok (.iload_n 1, 1) := by decide +kernel
theorem dX9_init_97 : decode cX9_init 97 = .ok (.iconst 4, 1) := by decide +kernel
theorem dX9_init_98 : decode cX9_init 98 = .ok (.if_icmp .ge 17, 3) := by decide +kernel
theorem dX9_init_101 : decode cX9_init 101 = .ok (.aload_n 0, 1) := by decide +kernel
theorem dX9_init_102 : decode cX9_init 102 = .ok (.getfield 32, 3) := by decide +kernel
theorem dX9_init_105 : decode cX9_init 105 = .ok (.iload_n 1, 1) := by decide +kernel
theorem dX9_init_106 : decode cX9_init 106 = .ok (.bipush (-4), 2) := by decide +kernel
theorem dX9_init_108 : decode cX9_init 108 = .ok (.iastore, 1) := by decide +kernel
theorem dX9_init_109 : decode cX9_init 109 = .ok (.iinc 1 1, 3) := by decide +kernel
theorem dX9_init_112 : decode cX9_init 112 = .ok (.goto (-16), 3) := by decide +kernel
theorem dX9_init_115 : decode cX9_init 115 = .ok (.aload_n 0, 1) := by decide +kernel
theorem dX9_init_116 : decode cX9_init 116 = .ok (.invokevirtual 44, 3) := by decide +kernel
theorem dX9_init_119 : decode cX9_init 119 = .ok (.aload_n 0, 1) := by decide +kernel
theorem dX9_init_120 : decode cX9_init 120 = .ok (.invokevirtual 47, 3) := by decide +kernel
theorem dX9_init_123 : decode cX9_init 123 = .ok (.return_, 1) := by decide +kernel
def f_X9_init (Λ : List Ly) (d : Dt) (p0 : Nat) : Option (List Ly × Dt) := Option.bind (nwA Λ d 1 180) fun z1 => Option.bind (pR z1.1 p0 9 0 Λ.length) fun l2 => Option.bind (nwA l2 z1.2 1 60) fun z3 => Option.bind (pR z3.1 p0 9 1 l2.length) fun l4 => Option.bind (nwA l4 z3.2 3 2) fun z5 => Option.bind (pR z5.1 p0 9 2 l4.length) fun l6 => Option.bind (nwA l6 z5.2 1 60) fun z7 => Option.bind (pR z7.1 p0 9 3 l6.length) fun l8 => Option.bind (nwA l8 z7.2 1 160) fun z9 => Option.bind (pR z9.1 p0 9 5 l8.length) fun l10 => Option.bind (nwA l10 z9.2 1 155) fun z11 => Option.bind (pR z11.1 p0 9 18 l10.length) fun l12 => Option.bind (nwA l12 z11.2 1 1550) fun z13 => Option.bind (pR z13.1 p0 9 19 l12.length) fun l14 => Option.bind (nwA l14 z13.2 1 4) fun z15 => Option.bind (pR z15.1 p0 9 20 l14.length) fun l16 => Option.bind (nwA l16 z15.2 1 4) fun z17 => Option.bind (pR z17.1 p0 9 21 l16.length) fun l18 => Option.bind (nwA l18 z17.2 1 160) fun z19 => Option.bind (pR z19.1 p0 9 22 l18.length) fun l20 => Option.bind (nwA l20 z19.2 1 60) fun z21 => Option.bind (pR z21.1 p0 9 24 l20.length) fun l22 => Option.bind (rf l22 p0 9 20) fun q23 => if okA l22 q23 1 (0 : Int32) = true then (Option.bind (rf l22 p0 9 20) fun q25 => if okA l22 q25 1 (1 : Int32) = true then (Option.bind (rf l22 p0 9 20) fun q27 => if okA l22 q27 1 (2 : Int32) = true then (Option.bind (rf l22 p0 9 20) fun q29 => if okA l22 q29 1 (3 : Int32) = true then (if clsAt l22 p0 = some 9 then (Option.bind (f_X9_firstDraft l22 (pI (pI (pI (pI z21.2 q23 ((0 : Int32)).toNatClampNeg (-4 : Int32)) q25 ((1 : Int32)).toNatClampNeg (-4 : Int32)) q27 ((2 : Int32)).toNatClampNeg (-4 : Int32)) q29 ((3 : Int32)).toNatClampNeg (-4 : Int32)) p0) fun z32 => Option.bind (f_X9_keepDraft l22 z32 p0) fun z33 => some (l22, z33)) else none) else none) else none) else none) else none
set_option maxHeartbeats 4000000 in
set_option maxRecDepth 100000 in
theorem n_X9_init {Λ : List Ly} {d : Dt} {p0 : Nat} {z : List Ly × Dt} (hf : f_X9_init Λ d p0 = some z) : z.1.length = Λ.length + 11 := by
  have n0 : Λ.length = Λ.length + 0 := rfl
  unfold f_X9_init at hf
  obtain ⟨z1, g1, hf⟩ := ob hf
  have n1 : z1.1.length = Λ.length + 1 := lnk (nwA_len g1) n0
  obtain ⟨l2, g2, hf⟩ := ob hf
  have n2 : l2.length = Λ.length + 1 := (pR_len g2).trans n1
  obtain ⟨z3, g3, hf⟩ := ob hf
  have n3 : z3.1.length = Λ.length + 2 := lnk (nwA_len g3) n2
  obtain ⟨l4, g4, hf⟩ := ob hf
  have n4 : l4.length = Λ.length + 2 := (pR_len g4).trans n3
  obtain ⟨z5, g5, hf⟩ := ob hf
  have n5 : z5.1.length = Λ.length + 3 := lnk (nwA_len g5) n4
  obtain ⟨l6, g6, hf⟩ := ob hf
  have n6 : l6.length = Λ.length + 3 := (pR_len g6).trans n5
  obtain ⟨z7, g7, hf⟩ := ob hf
  have n7 : z7.1.length = Λ.length + 4 := lnk (nwA_len g7) n6
  obtain ⟨l8, g8, hf⟩ := ob hf
  have n8 : l8.length = Λ.length + 4 := (pR_len g8).trans n7
  obtain ⟨z9, g9, hf⟩ := ob hf
  have n9 : z9.1.length = Λ.length + 5 := lnk (nwA_len g9) n8
  obtain ⟨l10, g10, hf⟩ := ob hf
  have n10 : l10.length = Λ.length + 5 := (pR_len g10).trans n9
  obtain ⟨z11, g11, hf⟩ := ob hf
  have n11 : z11.1.length = Λ.length + 6 := lnk (nwA_len g11) n10
  obtain ⟨l12, g12, hf⟩ := ob hf
  have n12 : l12.length = Λ.length + 6 := (pR_len g12).trans n11
  obtain ⟨z13, g13, hf⟩ := ob hf
  have n13 : z13.1.length = Λ.length + 7 := lnk (nwA_len g13) n12
  obtain ⟨l14, g14, hf⟩ := ob hf
  have n14 : l14.length = Λ.length + 7 := (pR_len g14).trans n13
  obtain ⟨z15, g15, hf⟩ := ob hf
  have n15 : z15.1.length = Λ.length + 8 := lnk (nwA_len g15) n14
  obtain ⟨l16, g16, hf⟩ := ob hf
  have n16 : l16.length = Λ.length + 8 := (pR_len g16).trans n15
  obtain ⟨z17, g17, hf⟩ := ob hf
  have n17 : z17.1.length = Λ.length + 9 := lnk (nwA_len g17) n16
  obtain ⟨l18, g18, hf⟩ := ob hf
  have n18 : l18.length = Λ.length + 9 := (pR_len g18).trans n17
  obtain ⟨z19, g19, hf⟩ := ob hf
  have n19 : z19.1.length = Λ.length + 10 := lnk (nwA_len g19) n18
  obtain ⟨l20, g20, hf⟩ := ob hf
  have n20 : l20.length = Λ.length + 10 := (pR_len g20).trans n19
  obtain ⟨z21, g21, hf⟩ := ob hf
  have n21 : z21.1.length = Λ.length + 11 := lnk (nwA_len g21) n20
  obtain ⟨l22, g22, hf⟩ := ob hf
  have n22 : l22.length = Λ.length + 11 := (pR_len g22).trans n21
  obtain ⟨q23, g23, hf⟩ := ob hf
  obtain ⟨g24, hf⟩ := gd hf
  obtain ⟨q25, g25, hf⟩ := ob hf
  obtain ⟨g26, hf⟩ := gd hf
  obtain ⟨q27, g27, hf⟩ := ob hf
  obtain ⟨g28, hf⟩ := gd hf
  obtain ⟨q29, g29, hf⟩ := ob hf
  obtain ⟨g30, hf⟩ := gd hf
  obtain ⟨g31, hf⟩ := gd hf
  obtain ⟨z32, g32, hf⟩ := ob hf
  obtain ⟨z33, g33, hf⟩ := ob hf
  obtain rfl := Option.some.inj hf
  exact n22
set_option maxHeartbeats 4000000 in
set_option maxRecDepth 100000 in
theorem c_X9_init (Γ : Cx) (l : Launch) (Λ : List Ly) (d : Dt) (p0 : Nat) (z : List Ly × Dt) (hf : f_X9_init Λ d p0 = some z) : Ca Γ l yX9_init cX9_init 2 1 21 11 2395 [.ref (ad Γ.2.2.1 p0)] Λ d z.1 z.2 := by
  refine Ca.of (own := "SeasonBoundModel") (by decide +kernel) rfl rfl (Nat.le_of_ble_eq_true rfl) ?_
  intro p e s m below meth c C0 hA hz hin hr hlocks hH ls hl
  have hl : lv_has ls 2 [(0, .ref (ad Γ.2.2.1 p0))] := hl
  obtain ⟨hx, hb, hml, hown, hts, hK⟩ := id C0
  have n0 : Λ.length = Λ.length + 0 := rfl
  unfold f_X9_init at hf
  refine lv_aload_n hx hb dX9_init_0 rfl (lv_at hl 0 rfl) ?_
  refine r_oinit C0 wo_X9_1 hl.1 (by decide) (Nat.le_of_ble_eq_true rfl) dX9_init_1 ?_
  refine lv_aload_n hx hb dX9_init_4 rfl (lv_at hl 0 rfl) ?_
  refine lv_sipush (v := (180 : Int32)) hx hb dX9_init_5 (by decide) ?_
  obtain ⟨z1, g1, hf⟩ := ob hf
  have n1 : z1.1.length = Λ.length + 1 := lnk (nwA_len g1) n0
  refine r_newA (ti := 1) (n := 180) C0 hH hz n0 g1 rfl (by decide) wa_1 (by decide) (by decide) dX9_init_8 (fun H hH => ?_)
  obtain ⟨l2, g2, hf⟩ := ob hf
  have n2 : l2.length = Λ.length + 1 := (pR_len g2).trans n1
  refine r_putr C0 hin hH ff_X9_7 g2 (fun _ => rfl) (fun _ => rfl) dX9_init_10 (fun H locs hH => ?_)
  refine lv_aload_n hx hb dX9_init_13 rfl (lv_at hl 0 rfl) ?_
  refine lv_bipush (v := (60 : Int32)) hx hb dX9_init_14 (by decide) ?_
  obtain ⟨z3, g3, hf⟩ := ob hf
  have n3 : z3.1.length = Λ.length + 2 := lnk (nwA_len g3) n2
  refine r_newA (ti := 1) (n := 60) C0 hH hz n2 g3 rfl (by decide) wa_1 (by decide) (by decide) dX9_init_16 (fun H hH => ?_)
  obtain ⟨l4, g4, hf⟩ := ob hf
  have n4 : l4.length = Λ.length + 2 := (pR_len g4).trans n3
  refine r_putr C0 hin hH ff_X9_13 g4 (fun _ => rfl) (fun _ => rfl) dX9_init_18 (fun H locs hH => ?_)
  refine lv_aload_n hx hb dX9_init_21 rfl (lv_at hl 0 rfl) ?_
  refine lv_iconst (v := (2 : Int32)) hx hb dX9_init_22 (by decide) ?_
  obtain ⟨z5, g5, hf⟩ := ob hf
  have n5 : z5.1.length = Λ.length + 3 := lnk (nwA_len g5) n4
  refine r_newA (ti := 3) (n := 2) C0 hH hz n4 g5 rfl (by decide) wa_3 (by decide) (by decide) dX9_init_23 (fun H hH => ?_)
  obtain ⟨l6, g6, hf⟩ := ob hf
  have n6 : l6.length = Λ.length + 3 := (pR_len g6).trans n5
  refine r_putr C0 hin hH ff_X9_16 g6 (fun _ => rfl) (fun _ => rfl) dX9_init_25 (fun H locs hH => ?_)
  refine lv_aload_n hx hb dX9_init_28 rfl (lv_at hl 0 rfl) ?_
  refine lv_bipush (v := (60 : Int32)) hx hb dX9_init_29 (by decide) ?_
  obtain ⟨z7, g7, hf⟩ := ob hf
  have n7 : z7.1.length = Λ.length + 4 := lnk (nwA_len g7) n6
  refine r_newA (ti := 1) (n := 60) C0 hH hz n6 g7 rfl (by decide) wa_1 (by decide) (by decide) dX9_init_31 (fun H hH => ?_)
  obtain ⟨l8, g8, hf⟩ := ob hf
  have n8 : l8.length = Λ.length + 4 := (pR_len g8).trans n7
  refine r_putr C0 hin hH ff_X9_20 g8 (fun _ => rfl) (fun _ => rfl) dX9_init_33 (fun H locs hH => ?_)
  refine lv_aload_n hx hb dX9_init_36 rfl (lv_at hl 0 rfl) ?_
  refine lv_sipush (v := (160 : Int32)) hx hb dX9_init_37 (by decide) ?_
  obtain ⟨z9, g9, hf⟩ := ob hf
  have n9 : z9.1.length = Λ.length + 5 := lnk (nwA_len g9) n8
  refine r_newA (ti := 1) (n := 160) C0 hH hz n8 g9 rfl (by decide) wa_1 (by decide) (by decide) dX9_init_40 (fun H hH => ?_)
  obtain ⟨l10, g10, hf⟩ := ob hf
  have n10 : l10.length = Λ.length + 5 := (pR_len g10).trans n9
  refine r_putr C0 hin hH ff_X9_23 g10 (fun _ => rfl) (fun _ => rfl) dX9_init_42 (fun H locs hH => ?_)
  refine lv_aload_n hx hb dX9_init_45 rfl (lv_at hl 0 rfl) ?_
  refine lv_sipush (v := (155 : Int32)) hx hb dX9_init_46 (by decide) ?_
  obtain ⟨z11, g11, hf⟩ := ob hf
  have n11 : z11.1.length = Λ.length + 6 := lnk (nwA_len g11) n10
  refine r_newA (ti := 1) (n := 155) C0 hH hz n10 g11 rfl (by decide) wa_1 (by decide) (by decide) dX9_init_49 (fun H hH => ?_)
  obtain ⟨l12, g12, hf⟩ := ob hf
  have n12 : l12.length = Λ.length + 6 := (pR_len g12).trans n11
  refine r_putr C0 hin hH ff_X9_26 g12 (fun _ => rfl) (fun _ => rfl) dX9_init_51 (fun H locs hH => ?_)
  refine lv_aload_n hx hb dX9_init_54 rfl (lv_at hl 0 rfl) ?_
  refine lv_sipush (v := (1550 : Int32)) hx hb dX9_init_55 (by decide) ?_
  obtain ⟨z13, g13, hf⟩ := ob hf
  have n13 : z13.1.length = Λ.length + 7 := lnk (nwA_len g13) n12
  refine r_newA (ti := 1) (n := 1550) C0 hH hz n12 g13 rfl (by decide) wa_1 (by decide) (by decide) dX9_init_58 (fun H hH => ?_)
  obtain ⟨l14, g14, hf⟩ := ob hf
  have n14 : l14.length = Λ.length + 7 := (pR_len g14).trans n13
  refine r_putr C0 hin hH ff_X9_29 g14 (fun _ => rfl) (fun _ => rfl) dX9_init_60 (fun H locs hH => ?_)
  refine lv_aload_n hx hb dX9_init_63 rfl (lv_at hl 0 rfl) ?_
  refine lv_iconst (v := (4 : Int32)) hx hb dX9_init_64 (by decide) ?_
  obtain ⟨z15, g15, hf⟩ := ob hf
  have n15 : z15.1.length = Λ.length + 8 := lnk (nwA_len g15) n14
  refine r_newA (ti := 1) (n := 4) C0 hH hz n14 g15 rfl (by decide) wa_1 (by decide) (by decide) dX9_init_65 (fun H hH => ?_)
  obtain ⟨l16, g16, hf⟩ := ob hf
  have n16 : l16.length = Λ.length + 8 := (pR_len g16).trans n15
  refine r_putr C0 hin hH ff_X9_32 g16 (fun _ => rfl) (fun _ => rfl) dX9_init_67 (fun H locs hH => ?_)
  refine lv_aload_n hx hb dX9_init_70 rfl (lv_at hl 0 rfl) ?_
  refine lv_iconst (v := (4 : Int32)) hx hb dX9_init_71 (by decide) ?_
  obtain ⟨z17, g17, hf⟩ := ob hf
  have n17 : z17.1.length = Λ.length + 9 := lnk (nwA_len g17) n16
  refine r_newA (ti := 1) (n := 4) C0 hH hz n16 g17 rfl (by decide) wa_1 (by decide) (by decide) dX9_init_72 (fun H hH => ?_)
  obtain ⟨l18, g18, hf⟩ := ob hf
  have n18 : l18.length = Λ.length + 9 := (pR_len g18).trans n17
  refine r_putr C0 hin hH ff_X9_35 g18 (fun _ => rfl) (fun _ => rfl) dX9_init_74 (fun H locs hH => ?_)
  refine lv_aload_n hx hb dX9_init_77 rfl (lv_at hl 0 rfl) ?_
  refine lv_sipush (v := (160 : Int32)) hx hb dX9_init_78 (by decide) ?_
  obtain ⟨z19, g19, hf⟩ := ob hf
  have n19 : z19.1.length = Λ.length + 10 := lnk (nwA_len g19) n18
  refine r_newA (ti := 1) (n := 160) C0 hH hz n18 g19 rfl (by decide) wa_1 (by decide) (by decide) dX9_init_81 (fun H hH => ?_)
  obtain ⟨l20, g20, hf⟩ := ob hf
  have n20 : l20.length = Λ.length + 10 := (pR_len g20).trans n19
  refine r_putr C0 hin hH ff_X9_38 g20 (fun _ => rfl) (fun _ => rfl) dX9_init_83 (fun H locs hH => ?_)
  refine lv_aload_n hx hb dX9_init_86 rfl (lv_at hl 0 rfl) ?_
  refine lv_bipush (v := (60 : Int32)) hx hb dX9_init_87 (by decide) ?_
  obtain ⟨z21, g21, hf⟩ := ob hf
  have n21 : z21.1.length = Λ.length + 11 := lnk (nwA_len g21) n20
  refine r_newA (ti := 1) (n := 60) C0 hH hz n20 g21 rfl (by decide) wa_1 (by decide) (by decide) dX9_init_89 (fun H hH => ?_)
  obtain ⟨l22, g22, hf⟩ := ob hf
  have n22 : l22.length = Λ.length + 11 := (pR_len g22).trans n21
  refine r_putr C0 hin hH ff_X9_41 g22 (fun _ => rfl) (fun _ => rfl) dX9_init_91 (fun H locs hH => ?_)
  refine lv_iconst (v := (0 : Int32)) hx hb dX9_init_94 (by decide) ?_
  refine lv_istore_n (lv' := [(1, .int (0 : Int32)), (0, .ref (ad Γ.2.2.1 p0))]) hx hb dX9_init_95 rfl hl (by decide) rfl (fun ls hl => ?_)
  refine lv_iload_n hx hb dX9_init_96 rfl (lv_at hl 0 rfl) ?_
  refine lv_iconst (v := (4 : Int32)) hx hb dX9_init_97 (by decide) ?_
  refine lv_icmp_ge (tgt := 115) hx hb dX9_init_98 (by decide) (fun c9 => absurd c9 (by decide)) (fun _ => ?_)
  refine lv_aload_n hx hb dX9_init_101 rfl (lv_at hl 1 rfl) ?_
  obtain ⟨q23, g23, hf⟩ := ob hf
  refine r_getr C0 hH fl_X9_32 g23 dX9_init_102 ?_
  refine lv_iload_n hx hb dX9_init_105 rfl (lv_at hl 0 rfl) ?_
  refine lv_bipush (v := (-4 : Int32)) hx hb dX9_init_106 (by decide) ?_
  obtain ⟨g24, hf⟩ := gd hf
  refine r_iast C0 hH g24 dX9_init_108 (fun H locs hH => ?_)
  refine lv_iinc (v := (1 : Int32)) (lv' := [(1, .int (1 : Int32)), (0, .ref (ad Γ.2.2.1 p0))]) hx hb dX9_init_109 hl (k := 0) rfl (by decide) (by decide) rfl (fun ls hl => ?_)
  refine lv_goto (tgt := 96) hx hb dX9_init_112 (by decide) ?_
  refine lv_iload_n hx hb dX9_init_96 rfl (lv_at hl 0 rfl) ?_
  refine lv_iconst (v := (4 : Int32)) hx hb dX9_init_97 (by decide) ?_
  refine lv_icmp_ge (tgt := 115) hx hb dX9_init_98 (by decide) (fun c9 => absurd c9 (by decide)) (fun _ => ?_)
  refine lv_aload_n hx hb dX9_init_101 rfl (lv_at hl 1 rfl) ?_
  obtain ⟨q25, g25, hf⟩ := ob hf
  refine r_getr C0 hH fl_X9_32 g25 dX9_init_102 ?_
  refine lv_iload_n hx hb dX9_init_105 rfl (lv_at hl 0 rfl) ?_
  refine lv_bipush (v := (-4 : Int32)) hx hb dX9_init_106 (by decide) ?_
  obtain ⟨g26, hf⟩ := gd hf
  refine r_iast C0 hH g26 dX9_init_108 (fun H locs hH => ?_)
  refine lv_iinc (v := (2 : Int32)) (lv' := [(1, .int (2 : Int32)), (0, .ref (ad Γ.2.2.1 p0))]) hx hb dX9_init_109 hl (k := 0) rfl (by decide) (by decide) rfl (fun ls hl => ?_)
  refine lv_goto (tgt := 96) hx hb dX9_init_112 (by decide) ?_
  refine lv_iload_n hx hb dX9_init_96 rfl (lv_at hl 0 rfl) ?_
  refine lv_iconst (v := (4 : Int32)) hx hb dX9_init_97 (by decide) ?_
  refine lv_icmp_ge (tgt := 115) hx hb dX9_init_98 (by decide) (fun c9 => absurd c9 (by decide)) (fun _ => ?_)
  refine lv_aload_n hx hb dX9_init_101 rfl (lv_at hl 1 rfl) ?_
  obtain ⟨q27, g27, hf⟩ := ob hf
  refine r_getr C0 hH fl_X9_32 g27 dX9_init_102 ?_
  refine lv_iload_n hx hb dX9_init_105 rfl (lv_at hl 0 rfl) ?_
  refine lv_bipush (v := (-4 : Int32)) hx hb dX9_init_106 (by decide) ?_
  obtain ⟨g28, hf⟩ := gd hf
  refine r_iast C0 hH g28 dX9_init_108 (fun H locs hH => ?_)
  refine lv_iinc (v := (3 : Int32)) (lv' := [(1, .int (3 : Int32)), (0, .ref (ad Γ.2.2.1 p0))]) hx hb dX9_init_109 hl (k := 0) rfl (by decide) (by decide) rfl (fun ls hl => ?_)
  refine lv_goto (tgt := 96) hx hb dX9_init_112 (by decide) ?_
  refine lv_iload_n hx hb dX9_init_96 rfl (lv_at hl 0 rfl) ?_
  refine lv_iconst (v := (4 : Int32)) hx hb dX9_init_97 (by decide) ?_
  refine lv_icmp_ge (tgt := 115) hx hb dX9_init_98 (by decide) (fun c9 => absurd c9 (by decide)) (fun _ => ?_)
  refine lv_aload_n hx hb dX9_init_101 rfl (lv_at hl 1 rfl) ?_
  obtain ⟨q29, g29, hf⟩ := ob hf
  refine r_getr C0 hH fl_X9_32 g29 dX9_init_102 ?_
  refine lv_iload_n hx hb dX9_init_105 rfl (lv_at hl 0 rfl) ?_
  refine lv_bipush (v := (-4 : Int32)) hx hb dX9_init_106 (by decide) ?_
  obtain ⟨g30, hf⟩ := gd hf
  refine r_iast C0 hH g30 dX9_init_108 (fun H locs hH => ?_)
  refine lv_iinc (v := (4 : Int32)) (lv' := [(1, .int (4 : Int32)), (0, .ref (ad Γ.2.2.1 p0))]) hx hb dX9_init_109 hl (k := 0) rfl (by decide) (by decide) rfl (fun ls hl => ?_)
  refine lv_goto (tgt := 96) hx hb dX9_init_112 (by decide) ?_
  refine lv_iload_n hx hb dX9_init_96 rfl (lv_at hl 0 rfl) ?_
  refine lv_iconst (v := (4 : Int32)) hx hb dX9_init_97 (by decide) ?_
  refine lv_icmp_ge (tgt := 115) hx hb dX9_init_98 (by decide) (fun _ => ?_) (fun c9 => absurd (by decide) c9)
  refine lv_aload_n hx hb dX9_init_115 rfl (lv_at hl 1 rfl) ?_
  obtain ⟨g31, hf⟩ := gd hf
  obtain ⟨z32, g32, hf⟩ := ob hf
  refine r_callVv (rest := []) C0 hH (c_X9_firstDraft Γ l l22 (pI (pI (pI (pI z21.2 q23 ((0 : Int32)).toNatClampNeg (-4 : Int32)) q25 ((1 : Int32)).toNatClampNeg (-4 : Int32)) q27 ((2 : Int32)).toNatClampNeg (-4 : Int32)) q29 ((3 : Int32)).toNatClampNeg (-4 : Int32)) p0 z32 g32) cv_X9_44 g31 (by decide) rfl hl.1 rfl (Nat.le_of_ble_eq_true rfl) dX9_init_116 (by decide) (fun H locs hH => ?_)
  refine lv_aload_n hx hb dX9_init_119 rfl (lv_at hl 1 rfl) ?_
  obtain ⟨z33, g33, hf⟩ := ob hf
  refine r_callVv (rest := []) C0 hH (c_X9_keepDraft Γ l l22 z32 p0 z33 g33) cv_X9_47 g31 (by decide) rfl hl.1 rfl (Nat.le_of_ble_eq_true rfl) dX9_init_120 (by decide) (fun H locs hH => ?_)
  obtain rfl := Option.some.inj hf
  exact r_vret C0 hr hlocks hH dX9_init_123
