def Inv : Dt → Prop := fun _ => True
theorem Inv_0 : Inv d00 := sorry
theorem st_feed {d : Dt} (hI : Inv d) (a1 : Int32) : ∃ (z1 : Int32 × Dt) (z2 : Int32 × Dt), f_X8_feed L0 d 0 a1 = some z1 ∧ f_X9_feed L0 z1.2 78 a1 = some z2 ∧ z1.1 = z2.1 ∧ Inv z2.2 := sorry
theorem st_end {d : Dt} (hI : Inv d) (a1 : Int32) : ∃ (z1 : Int32 × Dt) (z2 : Int32 × Dt), f_X8_end L0 d 0 a1 = some z1 ∧ f_X9_end L0 z1.2 78 a1 = some z2 ∧ z1.1 = z2.1 ∧ Inv z2.2 := sorry
theorem st_text {d : Dt} (hI : Inv d) : ∃ (z1 : Int32 × Dt) (z2 : Int32 × Dt), f_X8_text L0 d 0 = some z1 ∧ f_X9_text L0 z1.2 78 = some z2 ∧ z1.1 = z2.1 ∧ Inv z2.2 := sorry
theorem st_fault {d : Dt} (hI : Inv d) : ∃ (z1 : Int32) (z2 : Int32), f_X8_fault L0 d 0 = some z1 ∧ f_X9_fault L0 d 78 = some z2 ∧ z1 = z2 ∧ Inv d := sorry
theorem st_rule {d : Dt} (hI : Inv d) (a1 : Int32) : ∃ (z1 : Int32) (z2 : Int32 × Dt), f_X8_rule L0 d 0 a1 = some z1 ∧ f_X9_rule L0 d 78 a1 = some z2 ∧ z1 = z2.1 ∧ Inv z2.2 := sorry
theorem st_child {d : Dt} (hI : Inv d) (a1 a2 : Int32) : ∃ (z1 : Int32) (z2 : Int32 × Dt), f_X8_child L0 d 0 a1 a2 = some z1 ∧ f_X9_child L0 d 78 a1 a2 = some z2 ∧ z1 = z2.1 ∧ Inv z2.2 := sorry
theorem st_season {d : Dt} (hI : Inv d) (a1 a2 : Int32) : ∃ (z1 : Int32) (z2 : Int32), f_X8_season L0 d 0 a1 a2 = some z1 ∧ f_X9_season L0 d 78 a1 a2 = some z2 ∧ z1 = z2 ∧ Inv d := sorry
theorem st_alter {d : Dt} (hI : Inv d) (a1 a2 a3 : Int32) : ∃ (z1 : Int32 × Dt) (z2 : Int32 × Dt), f_X8_alter L0 d 0 a1 a2 a3 = some z1 ∧ f_X9_alter L0 z1.2 78 a1 a2 a3 = some z2 ∧ z1.1 = z2.1 ∧ Inv z2.2 := sorry
theorem st_set {d : Dt} (hI : Inv d) (a1 a2 a3 : Int32) : ∃ (z1 : Int32 × Dt) (z2 : Int32 × Dt), f_X8_set L0 d 0 a1 a2 a3 = some z1 ∧ f_X9_set L0 z1.2 78 a1 a2 a3 = some z2 ∧ z1.1 = z2.1 ∧ Inv z2.2 := sorry
theorem st_bind {d : Dt} (hI : Inv d) (a1 a2 a3 : Int32) : ∃ (z1 : Int32 × Dt) (z2 : Int32 × Dt), f_X8_bind L0 d 0 a1 a2 a3 = some z1 ∧ f_X9_bind L0 z1.2 78 a1 a2 a3 = some z2 ∧ z1.1 = z2.1 ∧ Inv z2.2 := sorry
theorem st_free {d : Dt} (hI : Inv d) (a1 : Int32) : ∃ (z1 : Int32 × Dt) (z2 : Int32 × Dt), f_X8_free L0 d 0 a1 = some z1 ∧ f_X9_free L0 z1.2 78 a1 = some z2 ∧ z1.1 = z2.1 ∧ Inv z2.2 := sorry
theorem st_born {d : Dt} (hI : Inv d) (a1 : Int32) : ∃ (z1 : Int32 × Dt) (z2 : Int32 × Dt), f_X8_born L0 d 0 a1 = some z1 ∧ f_X9_born L0 z1.2 78 a1 = some z2 ∧ z1.1 = z2.1 ∧ Inv z2.2 := sorry
theorem st_weeks {d : Dt} (hI : Inv d) (a1 : Int32) : ∃ (z1 : Int32 × Dt) (z2 : Int32 × Dt), f_X8_weeks L0 d 0 a1 = some z1 ∧ f_X9_weeks L0 z1.2 78 a1 = some z2 ∧ z1.1 = z2.1 ∧ Inv z2.2 := sorry
theorem st_runs {d : Dt} (hI : Inv d) (a1 a2 : Int32) : ∃ (z1 : Int32 × Dt) (z2 : Int32 × Dt), f_X8_runs L0 d 0 a1 a2 = some z1 ∧ f_X9_runs L0 z1.2 78 a1 a2 = some z2 ∧ z1.1 = z2.1 ∧ Inv z2.2 := sorry
theorem st_ahead {d : Dt} (hI : Inv d) (a1 a2 a3 : Int32) : ∃ (z1 : Int32 × Dt) (z2 : Int32 × Dt), f_X8_ahead L0 d 0 a1 a2 a3 = some z1 ∧ f_X9_ahead L0 z1.2 78 a1 a2 a3 = some z2 ∧ z1.1 = z2.1 ∧ Inv z2.2 := sorry
theorem st_home {d : Dt} (hI : Inv d) (a1 : Int32) : ∃ (z1 : Int32 × Dt) (z2 : Int32 × Dt), f_X8_home L0 d 0 a1 = some z1 ∧ f_X9_home L0 z1.2 78 a1 = some z2 ∧ z1.1 = z2.1 ∧ Inv z2.2 := sorry
theorem st_meet {d : Dt} (hI : Inv d) (a1 a2 : Int32) : ∃ (z1 : Int32 × Dt) (z2 : Int32 × Dt), f_X8_meet L0 d 0 a1 a2 = some z1 ∧ f_X9_meet L0 z1.2 78 a1 a2 = some z2 ∧ z1.1 = z2.1 ∧ Inv z2.2 := sorry
theorem st_place {d : Dt} (hI : Inv d) (a1 a2 a3 : Int32) : ∃ (z1 : Int32 × Dt) (z2 : Int32 × Dt), f_X8_place L0 d 0 a1 a2 a3 = some z1 ∧ f_X9_place L0 z1.2 78 a1 a2 a3 = some z2 ∧ z1.1 = z2.1 ∧ Inv z2.2 := sorry
theorem st_swap {d : Dt} (hI : Inv d) (a1 a2 : Int32) : ∃ (z1 : Int32 × Dt) (z2 : Int32 × Dt), f_X8_swap L0 d 0 a1 a2 = some z1 ∧ f_X9_swap L0 z1.2 78 a1 a2 = some z2 ∧ z1.1 = z2.1 ∧ Inv z2.2 := sorry
theorem st_span {d : Dt} (hI : Inv d) (a1 a2 a3 : Int32) : ∃ (z1 : Int32 × Dt) (z2 : Int32 × Dt), f_X8_span L0 d 0 a1 a2 a3 = some z1 ∧ f_X9_span L0 z1.2 78 a1 a2 a3 = some z2 ∧ z1.1 = z2.1 ∧ Inv z2.2 := sorry
theorem st_gift {d : Dt} (hI : Inv d) (a1 a2 : Int32) : ∃ (z1 : Int32 × Dt) (z2 : Int32 × Dt), f_X8_gift L0 d 0 a1 a2 = some z1 ∧ f_X9_gift L0 z1.2 78 a1 a2 = some z2 ∧ z1.1 = z2.1 ∧ Inv z2.2 := sorry
theorem st_term {d : Dt} (hI : Inv d) (a1 a2 a3 : Int32) : ∃ (z1 : Int32 × Dt) (z2 : Int32 × Dt), f_X8_term L0 d 0 a1 a2 a3 = some z1 ∧ f_X9_term L0 z1.2 78 a1 a2 a3 = some z2 ∧ z1.1 = z2.1 ∧ Inv z2.2 := sorry
theorem st_kind {d : Dt} (hI : Inv d) (a1 a2 a3 : Int32) : ∃ (z1 : Int32 × Dt) (z2 : Int32 × Dt), f_X8_kind L0 d 0 a1 a2 a3 = some z1 ∧ f_X9_kind L0 z1.2 78 a1 a2 a3 = some z2 ∧ z1.1 = z2.1 ∧ Inv z2.2 := sorry
theorem st_luck {d : Dt} (hI : Inv d) (a1 a2 a3 a4 a5 : Int32) : ∃ (z1 : Int64 × Dt) (z2 : Int64 × Dt), f_X8_luck L0 d 0 a1 a2 a3 a4 a5 = some z1 ∧ f_X9_luck L0 z1.2 78 a1 a2 a3 a4 a5 = some z2 ∧ z1.1 = z2.1 ∧ Inv z2.2 := sorry
theorem st_mean {d : Dt} (hI : Inv d) (a1 a2 a3 : Int32) : ∃ (z1 : Int64 × Dt) (z2 : Int64 × Dt), f_X8_mean L0 d 0 a1 a2 a3 = some z1 ∧ f_X9_mean L0 z1.2 78 a1 a2 a3 = some z2 ∧ z1.1 = z2.1 ∧ Inv z2.2 := sorry
theorem st_see {d : Dt} (hI : Inv d) (a1 a2 a3 : Int32) : ∃ (z1 : Int32 × Dt) (z2 : Int32 × Dt), f_X8_see L0 d 0 a1 a2 a3 = some z1 ∧ f_X9_see L0 z1.2 78 a1 a2 a3 = some z2 ∧ z1.1 = z2.1 ∧ Inv z2.2 := sorry
theorem st_forget {d : Dt} (hI : Inv d) (a1 : Int32) : ∃ (z1 : Int32 × Dt) (z2 : Int32 × Dt), f_X8_forget L0 d 0 a1 = some z1 ∧ f_X9_forget L0 z1.2 78 a1 = some z2 ∧ z1.1 = z2.1 ∧ Inv z2.2 := sorry
theorem st_kinds {d : Dt} (hI : Inv d) (a1 : Int32) : ∃ (z1 : Int32 × Dt) (z2 : Int32 × Dt), f_X8_kinds L0 d 0 a1 = some z1 ∧ f_X9_kinds L0 z1.2 78 a1 = some z2 ∧ z1.1 = z2.1 ∧ Inv z2.2 := sorry
theorem st_seasons {d : Dt} (hI : Inv d) (a1 : Int32) : ∃ (z1 : Int32 × Dt) (z2 : Int32 × Dt), f_X8_seasons L0 d 0 a1 = some z1 ∧ f_X9_seasons L0 z1.2 78 a1 = some z2 ∧ z1.1 = z2.1 ∧ Inv z2.2 := sorry
theorem st_gifts {d : Dt} (hI : Inv d) (a1 : Int32) : ∃ (z1 : Int32 × Dt) (z2 : Int32 × Dt), f_X8_gifts L0 d 0 a1 = some z1 ∧ f_X9_gifts L0 z1.2 78 a1 = some z2 ∧ z1.1 = z2.1 ∧ Inv z2.2 := sorry
theorem st_ask {d : Dt} (hI : Inv d) (a1 a2 : Int32) : ∃ (z1 : Int32 × Dt) (z2 : Int32 × Dt), f_X8_ask L0 d 0 a1 a2 = some z1 ∧ f_X9_ask L0 z1.2 78 a1 a2 = some z2 ∧ z1.1 = z2.1 ∧ Inv z2.2 := sorry
theorem st_drift {d : Dt} (hI : Inv d) (a1 a2 a3 : Int32) : ∃ (z1 : Int32 × Dt) (z2 : Int32 × Dt), f_X8_drift L0 d 0 a1 a2 a3 = some z1 ∧ f_X9_drift L0 z1.2 78 a1 a2 a3 = some z2 ∧ z1.1 = z2.1 ∧ Inv z2.2 := sorry
theorem st_keep {d : Dt} (hI : Inv d) (a1 : Int32) : ∃ (z1 : Int32 × Dt) (z2 : Int32 × Dt), f_X8_keep L0 d 0 a1 = some z1 ∧ f_X9_keep L0 z1.2 78 a1 = some z2 ∧ z1.1 = z2.1 ∧ Inv z2.2 := sorry
theorem st_back {d : Dt} (hI : Inv d) (a1 : Int32) : ∃ (z1 : Int32 × Dt) (z2 : Int32 × Dt), f_X8_back L0 d 0 a1 = some z1 ∧ f_X9_back L0 z1.2 78 a1 = some z2 ∧ z1.1 = z2.1 ∧ Inv z2.2 := sorry
theorem st_sheet {d : Dt} (hI : Inv d) (a1 a2 a3 : Int32) : ∃ (z1 : Int32 × Dt) (z2 : Int32 × Dt), f_X8_sheet L0 d 0 a1 a2 a3 = some z1 ∧ f_X9_sheet L0 z1.2 78 a1 a2 a3 = some z2 ∧ z1.1 = z2.1 ∧ Inv z2.2 := sorry
theorem st_lay {d : Dt} (hI : Inv d) (a1 a2 a3 : Int32) : ∃ (z1 : Int32 × Dt) (z2 : Int32 × Dt), f_X8_lay L0 d 0 a1 a2 a3 = some z1 ∧ f_X9_lay L0 z1.2 78 a1 a2 a3 = some z2 ∧ z1.1 = z2.1 ∧ Inv z2.2 := sorry
theorem st_read {d : Dt} (hI : Inv d) (a1 a2 a3 a4 : Int32) : ∃ (z1 : Int32 × Dt) (z2 : Int32 × Dt), f_X8_read L0 d 0 a1 a2 a3 a4 = some z1 ∧ f_X9_read L0 z1.2 78 a1 a2 a3 a4 = some z2 ∧ z1.1 = z2.1 ∧ Inv z2.2 := sorry
theorem st_torn {d : Dt} (hI : Inv d) : ∃ (z1 : Int32) (z2 : Int32), f_X8_torn L0 d 0 = some z1 ∧ f_X9_torn L0 d 78 = some z2 ∧ z1 = z2 ∧ Inv d := sorry
theorem st_count {d : Dt} (hI : Inv d) (a1 : Int32) : ∃ (z1 : Int32) (z2 : Int32 × Dt), f_X8_count L0 d 0 a1 = some z1 ∧ f_X9_count L0 d 78 a1 = some z2 ∧ z1 = z2.1 ∧ Inv z2.2 := sorry
