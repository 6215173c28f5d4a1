abbrev flat1 : List Cond := flatC (Jvm.Cond.and given_1 narrow_1)
def tmS (i : Nat) : Term := .string "SeasonBound$Reader" (strI.getD i 0)
set_option maxRecDepth 100000 in
theorem fm_ex : ∀ i, i < 8 → Cond.exactly (tmS i) "java/lang/String" ∈ flat1 := by decide +kernel
set_option maxRecDepth 100000 in
theorem fm_co : ∀ i, i < 8 → Cond.eq (.field (tmS i) "java/lang/String" "coder" "B") (.int 0) ∈ flat1 := by decide +kernel
set_option maxRecDepth 100000 in
theorem fm_ar : ∀ i, i < 8 → Cond.arrayOf (.field (tmS i) "java/lang/String" "value" "[B") .byte ∈ flat1 := by decide +kernel
set_option maxRecDepth 100000 in
theorem fm_le : ∀ i, i < 8 → Cond.eq (.length (.field (tmS i) "java/lang/String" "value" "[B")) (.int (Int32.ofNat (strN.getD i 0))) ∈ flat1 := by decide +kernel
set_option maxRecDepth 100000 in
theorem fm_el : ∀ i, i < 8 → ∀ j, j < strN.getD i 0 → Cond.eq (.elem (.field (tmS i) "java/lang/String" "value" "[B") (.int (Int32.ofNat j))) (.int ((strB.getD i []).getD j 0)) ∈ flat1 := by decide +kernel
set_option maxRecDepth 100000 in
theorem fm_ne : ∀ i, i < 8 → ∀ j, j < 8 → i ≠ j → Cond.not (Cond.eq (tmS i) (tmS j)) ∈ flat1 ∨ Cond.not (Cond.eq (tmS j) (tmS i)) ∈ flat1 := by decide +kernel
set_option maxRecDepth 100000 in
theorem fm_cs : Cond.eq (.static "java/lang/String" "COMPACT_STRINGS" "Z") (.int 1) ∈ flat1 := by decide +kernel
set_option maxRecDepth 100000 in
theorem fm_si : Cond.isRef (.static "jdk/internal/util/Preconditions" "SIOOBE_FORMATTER" "Ljava/util/function/BiFunction;") ∈ flat1 := by decide +kernel
set_option maxRecDepth 100000 in
theorem lm_nest : ∀ q ∈ nestT, Cond.methodLinkNest q.1 q.2.1 q.2.2.1 q.2.2.2 ∈ lw_tbl := by decide +kernel
set_option maxRecDepth 100000 in
theorem lm_str : ∀ i, i < 8 → Cond.stringRef "SeasonBound$Reader" (strI.getD i 0) (strX.getD i "") ∈ lw_tbl := by decide +kernel
theorem arrP {s : State} {A : Array Value} {ty : FieldType} (h : (Cond.arrayClass ty).before A s = true) (hra : ∀ cA, s.vm.findClass ("[" ++ ty.toString) = some cA → va_RA s cA ty) : ∃ cA : ClassId, ArrOfT s cA ty ∧ va_RA s cA ty := by
  obtain ⟨cA, kA, comp, h1, h2, h3⟩ := Cond.arrayClass_spec h
  exact ⟨cA, fun n z => ⟨fun k h => (by cases h), kA, h2, comp, h3⟩, hra cA h1⟩
theorem arrQ {s : State} {C : String} (h : va_AO C s) : ∃ cA : ClassId, ArrOfT s cA (.object C) ∧ va_RA s cA (.object C) := by
  obtain ⟨comp, cA, kA, h1, h2, h3, h4, h5⟩ := Cond.arrayOver_spec h
  exact ⟨cA, fun n z => ⟨fun k h => (by cases h), kA, h3, comp, h4⟩, kA, comp, h3, h4, h1, h5⟩
set_option maxHeartbeats 8000000 in
set_option maxRecDepth 100000 in
theorem start_ctx {s : State} {b : Nat} (hts : ∀ w ∈ lw_tbl, w.before #[Value.ref b] s = true) (hgv : (Jvm.Cond.and given_1 narrow_1).before #[Value.ref b] s = true) : ∃ Γ : Cx, Γ.2.2.1 = (s.heap.size, false) ∧ KP Γ s ∧ KA s := by
  have hs := flat_of_before _ hgv
  obtain ⟨c0, i0, hk0⟩ := u_known (C := RX0) (T := TX0) (N := 2) (n := 2) hts (fun w h => TB_lw (inT0 w h)) (hts (.instantiable RX0 2) (by decide +kernel))
  obtain ⟨c1, i1, hk1⟩ := u_known (C := RX1) (T := TX1) (N := 5) (n := 5) hts (fun w h => TB_lw (inT1 w h)) (hts (.instantiable RX1 5) (by decide +kernel))
  obtain ⟨c2, i2, hk2⟩ := u_known (C := RX2) (T := TX2) (N := 1) (n := 1) hts (fun w h => TB_lw (inT2 w h)) (hts (.instantiable RX2 1) (by decide +kernel))
  obtain ⟨c3, i3, hk3⟩ := u_known (C := RX3) (T := TX3) (N := 4) (n := 4) hts (fun w h => TB_lw (inT3 w h)) (hts (.instantiable RX3 4) (by decide +kernel))
  obtain ⟨c4, i4, hk4⟩ := u_known (C := RX4) (T := TX4) (N := 3) (n := 3) hts (fun w h => TB_lw (inT4 w h)) (hts (.instantiable RX4 3) (by decide +kernel))
  obtain ⟨c5, i5, hk5⟩ := u_known (C := RX5) (T := TX5) (N := 3) (n := 3) hts (fun w h => TB_lw (inT5 w h)) (hts (.instantiable RX5 3) (by decide +kernel))
  obtain ⟨c6, i6, hk6⟩ := u_known (C := RX6) (T := TX6) (N := 6) (n := 6) hts (fun w h => TB_lw (inT6 w h)) (hts (.instantiable RX6 6) (by decide +kernel))
  obtain ⟨c7, i7, hk7⟩ := u_known (C := RX7) (T := TX7) (N := 10) (n := 10) hts (fun w h => TB_lw (inT7 w h)) (hts (.instantiable RX7 10) (by decide +kernel))
  obtain ⟨c8, i8, hk8⟩ := u_known (C := RX8) (T := TX8) (N := 11) (n := 11) hts (fun w h => TB_lw (inT8 w h)) (hts (.instantiable RX8 11) (by decide +kernel))
  obtain ⟨c9, i9, hk9⟩ := u_known (C := RX9) (T := TX9) (N := 25) (n := 25) hts (fun w h => TB_lw (inT9 w h)) (hts (.instantiable RX9 25) (by decide +kernel))
  obtain ⟨dC, dI, hKc⟩ : ∃ (dC : Nat → ClassId) (dI : Nat → Nat → Nat), ∀ (k : Nat) (q : vw_C), clsA[k]? = some q → u_Kn s q.1 q.2.1 q.2.2 (dC k) (dI k) := by
    refine ⟨fun k => [c0, c1, c2, c3, c4, c5, c6, c7, c8, c9].getD k c0, fun k => [i0, i1, i2, i3, i4, i5, i6, i7, i8, i9].getD k i0, ?_⟩
    intro k q hq
    match k, hq with
    | 0, hq => cases hq; exact hk0
    | 1, hq => cases hq; exact hk1
    | 2, hq => cases hq; exact hk2
    | 3, hq => cases hq; exact hk3
    | 4, hq => cases hq; exact hk4
    | 5, hq => cases hq; exact hk5
    | 6, hq => cases hq; exact hk6
    | 7, hq => cases hq; exact hk7
    | 8, hq => cases hq; exact hk8
    | 9, hq => cases hq; exact hk9
    | k + 10, hq => simp [clsA] at hq
  have hA : KA s := ⟨va_AO.of (hts (.arrayOver (.object "SeasonBound$Child")) (by decide +kernel)), va_AO.of (hts (.arrayOver (.object "SeasonBound$Season")) (by decide +kernel)), va_AO.of (hts (.arrayOver (.object "SeasonBound$Sheet")) (by decide +kernel)), va_AO.of (hts (.arrayOver (.object "SeasonBound$World")) (by decide +kernel))⟩
  obtain ⟨a0, ha0⟩ := arrP (ty := .byte) (hts (.arrayClass .byte) (by decide +kernel)) (fun _ h => h)
  obtain ⟨a1, ha1⟩ := arrP (ty := .int) (hts (.arrayClass .int) (by decide +kernel)) (fun _ h => h)
  obtain ⟨a2, ha2⟩ := arrP (ty := .long) (hts (.arrayClass .long) (by decide +kernel)) (fun _ h => h)
  obtain ⟨a3, ha3⟩ := arrP (ty := .boolean) (hts (.arrayClass .boolean) (by decide +kernel)) (fun _ h => h)
  obtain ⟨a4, ha4⟩ := arrQ hA.1
  obtain ⟨a5, ha5⟩ := arrQ hA.2.1
  obtain ⟨a6, ha6⟩ := arrQ hA.2.2.1
  obtain ⟨a7, ha7⟩ := arrQ hA.2.2.2
  have hout : ∀ a : Nat, a < s.heap.size → ¬ (fun q => s.heap.size ≤ q) a := fun a h1 h2 => Nat.lt_irrefl _ (Nat.lt_of_lt_of_le h1 h2)
  obtain ⟨adK, adV, hS, hT⟩ := vk_Sof (args := #[Value.ref b]) (s := s) (N := 8) (tm := tmS) (len := strN) (byt := strB) (A := fun q => s.heap.size ≤ q) strN_lt (fun i hi => hs _ (fm_ex i hi)) (fun i hi => hs _ (fm_co i hi)) (fun i hi => hs _ (fm_ar i hi)) (fun i hi => hs _ (fm_le i hi)) (fun i hi j hj => hs _ (fm_el i hi j hj)) (fun i j hi hj hij => (fm_ne i hi j hj hij).imp (hs _) (hs _)) hout
  refine ⟨((dC, dI), fun k => [a0, a1, a2, a3, a4, a5, a6, a7].getD k a0, (s.heap.size, false), adK, adV), rfl, ⟨⟨hKc, ?_⟩, fun q hq => va_Nw.of rfl (hts _ (lm_nest q hq)), hS, ?_, ?_, ?_⟩, hA⟩
  · intro k q hq
    match k, hq with
    | 0, hq => cases hq; exact ha0
    | 1, hq => cases hq; exact ha1
    | 2, hq => cases hq; exact ha2
    | 3, hq => cases hq; exact ha3
    | 4, hq => cases hq; exact ha4
    | 5, hq => cases hq; exact ha5
    | 6, hq => cases hq; exact ha6
    | 7, hq => cases hq; exact ha7
    | k + 8, hq => simp [tysA] at hq
  · intro i hi
    exact vk_R.of (A := #[Value.ref b]) (hts _ (lm_str i hi)) (hT i hi)
  · exact va_Zof (args := #[Value.ref b]) (hts (.laysStatic "java/lang/String" "COMPACT_STRINGS" "Z") (by decide +kernel)) (hts (.initialized "java/lang/String") (by decide +kernel)) (va_eqi (hs _ fm_cs)) hout
  · exact va_Zqof (args := #[Value.ref b]) (hts (.laysStatic "jdk/internal/util/Preconditions" "SIOOBE_FORMATTER" "Ljava/util/function/BiFunction;") (by decide +kernel)) (hts (.initialized "jdk/internal/util/Preconditions") (by decide +kernel)) (hs _ fm_si) hout
theorem ns_L_7 : NS "SeasonBoundLaw" 7 8 11 := ⟨_, rfl, rfl, mTB 18 (by decide +kernel) (by decide +kernel), mTB 19 (by decide +kernel) (by decide +kernel), mTB 1 (by decide +kernel) (by decide +kernel), tyX8, tyX8_ok, by decide +kernel⟩
theorem ns_L_10 : NS "SeasonBoundLaw" 10 9 25 := ⟨_, rfl, rfl, mTB 807 (by decide +kernel) (by decide +kernel), mTB 808 (by decide +kernel) (by decide +kernel), mTB 10 (by decide +kernel) (by decide +kernel), tyX9, tyX9_ok, by decide +kernel⟩
theorem ci_L_9 : CI "SeasonBoundLaw" 9 yX8_init cX8_init 2 0 := ⟨mTB 20 (by decide +kernel) (by decide +kernel), mTB 21 (by decide +kernel) (by decide +kernel), mTB 1 (by decide +kernel) (by decide +kernel), mTB 22 (by decide +kernel) (by decide +kernel), ⟨by decide +kernel, by decide +kernel, by decide +kernel⟩, rfl⟩
theorem ci_L_12 : CI "SeasonBoundLaw" 12 yX9_init cX9_init 2 0 := ⟨mTB 809 (by decide +kernel) (by decide +kernel), mTB 810 (by decide +kernel) (by decide +kernel), mTB 10 (by decide +kernel) (by decide +kernel), mTB 811 (by decide +kernel) (by decide +kernel), ⟨by decide +kernel, by decide +kernel, by decide +kernel⟩, rfl⟩
/-- the same cells, counted otherwise -/
def upG (Γ : Cx) : Cx := (Γ.1, Γ.2.1, (Γ.2.2.1.1, true), Γ.2.2.2)
theorem ad_up {Γ : Cx} (hf : Γ.2.2.1.2 = false) (q : Nat) (h : pm q = q) : ad (upG Γ).2.2.1 q = ad Γ.2.2.1 q := by
  rw [ad_f hf]
  show Γ.2.2.1.1 + (if true = true then pm q else q) = _
  rw [if_pos rfl, h]
theorem ad_pm {Γ : Cx} (hf : Γ.2.2.1.2 = false) (q : Nat) : ad (upG Γ).2.2.1 q = ad Γ.2.2.1 (pm q) := by
  rw [ad_f hf]
  show Γ.2.2.1.1 + (if true = true then pm q else q) = _
  rw [if_pos rfl]
theorem ad_pn {Γ : Cx} (hf : Γ.2.2.1.2 = false) (z : Nat) : ad (upG Γ).2.2.1 (pn z) = ad Γ.2.2.1 z := by
  rw [ad_pm hf, pm_pn]
theorem fvL_up {Γ : Cx} (hf : Γ.2.2.1.2 = false) {d : Dt} {q k : Nat} (x : Option Nat ⊕ Bool) : fvL (upG Γ).2.2.1 (fun a => d.1 (pm a), fun a => d.2 (pm a)) q k (rnF x) = fvL Γ.2.2.1 d (pm q) k x := by
  rcases x with r | z
  · cases r with
    | none => rfl
    | some z =>
      show va_rf (some (ad (upG Γ).2.2.1 (pn z))) = va_rf (some (ad Γ.2.2.1 z))
      rw [ad_pn hf]
  · cases z <;> rfl
theorem cellL_up {Γ : Cx} (hf : Γ.2.2.1.2 = false) {d : Dt} {q : Nat} (x : Ly) : cellL (upG Γ).2.1 (upG Γ).2.2.1 (fun a => d.1 (pm a), fun a => d.2 (pm a)) q (rnL x) = cellL Γ.2.1 Γ.2.2.1 d (pm q) x := by
  rcases x with o | ⟨t, n, z | l⟩
  · show Sum.inr (o.1, (o.2.map rnF).mapIdx (fun k x => fvL (upG Γ).2.2.1 (fun a => d.1 (pm a), fun a => d.2 (pm a)) q k x)) = Sum.inr (o.1, o.2.mapIdx (fun k x => fvL Γ.2.2.1 d (pm q) k x))
    congr 2
    apply List.ext_getElem?
    intro i
    rw [List.getElem?_mapIdx, List.getElem?_mapIdx, List.getElem?_map]
    cases o.2[i]? with
    | none => rfl
    | some y => exact congrArg some (fvL_up hf y)
  · cases z <;> rfl
  · show Sum.inl (Γ.2.1 t, n, Sum.inr (Sum.inr (Sum.inr (Sum.inr (fun j => ((l.map (Option.map pn)).getD j none).map (fun z => ad (upG Γ).2.2.1 z)))))) = Sum.inl (Γ.2.1 t, n, Sum.inr (Sum.inr (Sum.inr (Sum.inr (fun j => (l.getD j none).map (fun z => ad Γ.2.2.1 z))))))
    have hfun : (fun j => ((l.map (Option.map pn)).getD j none).map (fun z => ad (upG Γ).2.2.1 z)) = (fun j => (l.getD j none).map (fun z => ad Γ.2.2.1 z)) := by
      funext j
      rw [List.getD_eq_getElem?_getD, List.getD_eq_getElem?_getD, List.getElem?_map]
      cases l[j]? with
      | none => rfl
      | some y => cases y with
        | none => rfl
        | some z => exact congrArg some (ad_pn hf z)
    rw [hfun]
theorem HP_up {Γ : Cx} (hf : Γ.2.2.1.2 = false) {Λ Λ' : List Ly} {d d' : Dt} {H : Heap} (hL : ∀ (q : Nat) (x' : Ly), Λ'[q]? = some x' → ∃ x, Λ[pm q]? = some x ∧ x' = rnL x) (hd : d' = (fun a => d.1 (pm a), fun a => d.2 (pm a))) (h : HP Γ Λ d H) : HP (upG Γ) Λ' d' H := by
  subst hd
  refine ⟨?_, ?_⟩
  · intro q ci fs hq
    obtain ⟨x, hx, e⟩ := hL q _ hq
    rcases x with ⟨c0, f0⟩ | ⟨t, n, z | l⟩
    · cases e
      rw [← h.1 _ _ _ hx, List.map_map]
      apply List.map_congr_left
      intro y _
      rcases y with r | z <;> rfl
    · cases e
    · cases e
  · intro k y hy
    obtain ⟨x', hx', rfl⟩ := wsL_inv hy
    obtain ⟨x, hx, rfl⟩ := hL k _ hx'
    have := h.2 _ _ (wsL_at (cA := Γ.2.1) (b := Γ.2.2.1) (d := d) hx)
    rw [ad_pm hf, cellL_up hf]
    exact this
set_option maxHeartbeats 8000000 in
set_option maxRecDepth 100000 in
/-- from the entry, for every script of at most 384 ints, the law comes to its end with true -/
theorem whole_start {p : Program} {e : Env} {s : State} {m : MethodId} {below : List Frame} {meth : Method} {c : Code} (l : Launch) {b L : Nat} {xs : Nat → Int32} (hL : L ≤ 384) (C0 : lw_At p s m meth c b L xs) : W p l e room_1 s m #[Value.ref b] below meth c s.heap [] 0 0 (lw_Z below #[Value.ref b] s) (entryFrame m ([Value.ref b] : List Value).toArray 4) := by
  obtain ⟨hx, hb, hr, hml, hown, hts, hX, hbl, hlocks, hgv⟩ := id C0
  obtain ⟨Γ, hb0, hK, hA⟩ := start_ctx hts hgv
  have C1 : Ct Γ p s m #[Value.ref b] c code 4 "SeasonBoundLaw" := ⟨hx, hb, hml, hown, fun w h => hts w (TB_lw h), hK⟩
  obtain ⟨z1, z2, z3, e1, e2, e3, e4⟩ := chain0_steps
  have hH : Hs Γ [] dz s s.heap [] := ⟨⟨fun q ci fs h => by simp at h, fun k q h => by simp [wsL] at h⟩, va_S.rf⟩
  have hf : Γ.2.2.1.2 = false := by rw [hb0]
  have hb1 : Γ.2.2.1.1 = s.heap.size := by rw [hb0]
  have hz : Sz Γ.2.2.1 s.heap.size 0 := ⟨hb1.symm, hf⟩
  have n1 : z1.1.length = 0 + 1 := nwO_len e1
  have n2 : z2.1.length = 0 + 78 := (n_X8_init e2).trans (by rw [n1])
  have n3 : z3.1.length = 0 + 79 := (nwO_len e3).trans (by rw [n2])
  have hl := lv_entry ([.ref b]) (n := 4) (Nat.le_of_ble_eq_true rfl)
  rw [lg_entry_eq]
  generalize (lg_sl ([.ref b]) ++ List.replicate (4 - (lg_sl ([.ref b])).length) Slot.unset).toArray = ls at hl ⊢
  have hl : lv_has ls 4 [(0, .ref b)] := hl
  refine r_new C1 hH hz (by rfl) e1 ns_L_7 (by decide) dL_law_0 (fun H hH => ?_)
  refine lv_dup hx hb dL_law_3 rfl ?_
  refine r_callI (rest := [.ref (ad Γ.2.2.1 0)]) C1 hA hH hz n1 (c_X8_init Γ l z1.1 z1.2 0 z2 e2) ci_L_9 (by decide) rfl hl.1 rfl (Nat.le_of_ble_eq_true rfl) dL_law_4 (by decide) (fun H locs hH => ?_)
  refine lv_astore_n (lv' := [(1, .ref (ad Γ.2.2.1 0)), (0, .ref b)]) hx hb dL_law_7 rfl hl (by decide) rfl (fun ls hl => ?_)
  refine r_new C1 hH hz n2 e3 ns_L_10 (by decide) dL_law_8 (fun H hH => ?_)
  rw [n2]
  refine lv_dup hx hb dL_law_11 rfl ?_
  refine r_callI (rest := [.ref (ad Γ.2.2.1 78)]) C1 hA hH hz n3 (c_X9_init Γ l z3.1 z3.2 78 (L0c, d0c) e4) ci_L_12 (by decide) rfl hl.1 rfl (Nat.le_of_ble_eq_true rfl) dL_law_12 (by decide) (fun H locs hH => ?_)
  refine lv_astore_n (lv' := [(2, .ref (ad Γ.2.2.1 78)), (1, .ref (ad Γ.2.2.1 0)), (0, .ref b)]) hx hb dL_law_15 rfl hl (by decide) rfl (fun ls hl => ?_)
  refine lv_iconst (v := (0 : Int32)) hx hb dL_law_16 (by decide) ?_
  refine lv_istore_n (lv' := [(3, .int (0 : Int32)), (2, .ref (ad Γ.2.2.1 78)), (1, .ref (ad Γ.2.2.1 0)), (0, .ref b)]) hx hb dL_law_17 rfl hl (by decide) rfl (fun ls hl => ?_)
  rw [← ad_up hf 0 rfl, ← ad_up hf 78 rfl] at hl
  have C2 : Ct (upG Γ) p s m #[Value.ref b] c code 4 "SeasonBoundLaw" := ⟨hx, hb, hml, hown, fun w h => hts w (TB_lw h), hK⟩
  have hH2 : Hs (upG Γ) L0 d00 s H locs := ⟨HP_up hf L0_rn rfl hH.1, hH.2⟩
  exact law_loop hL C2 hr hlocks hX hbl hb1 (L + 2) 0 (0 : Int32) d00 (by omega) (Nat.zero_le L) nI_0.symm Inv_0 _ _ _ hH2 (lv_sub hl [3, 2, 1, 0] rfl)
