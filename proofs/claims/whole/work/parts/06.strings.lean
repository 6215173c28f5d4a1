/-! ===== the strings: length, charAt of the eight names ===== -/
theorem Cn.ofF {Γ : Cx} {l : Launch} {y : MethodName} {b : ByteArray} {nL : Nat} {ret : Option FieldType} {fr lo : Nat} {As : List Value} {Λ : List Ly} {d : Dt} {rv : Option Value} {d' : Dt} {own : String} (hy : plainFor y = true) (ho : y.cls = own) (hlen : (lg_sl As).length ≤ nL)
    (body : ∀ (p : Program) (e : Env) (s : State) (m : MethodId) (below : List Frame) (meth : Method) (c : Code), Ct Γ p s m As.toArray c b nL own → meth.sig.returnType = ret → meth.locks = false → Hs Γ Λ d s s.heap [] → ∀ ls : Array Slot, lv_has ls nL (lv_args 0 As) →
      W p l e { frames := fr, cells := 0, slots := 0, locals := lo } s m As.toArray below meth c s.heap [] 0 0 (MQ below (QN Γ Λ d' rv) As.toArray s 0 0 (AP Γ)) (F0 m 0 ls [])) : Cn Γ l y b nL ret fr lo As Λ d rv d' := by
  refine va_MetF (cc := b) (maxL := nL) (ret := ret) hy rfl ?_
  intro p e s m args below meth c s₁ B hml hv
  obtain ⟨rfl, hK, hP⟩ := hv
  have hts := atoms_spec (ws := Cond.code y b nL ret :: TB) B.pre
  have hown : s.vm.findClass own = some m.cls := by rw [← ho]; exact findClass_of_methodNamed B.named
  have hl := lv_entry As (n := nL) hlen
  rw [lg_entry_eq]
  exact body p e s m below meth c ⟨B.exec, B.bytes, hml, hown, fun w h => hts w (List.mem_cons_of_mem _ h), hK⟩ B.returns B.notSynchronized ⟨hP, va_S.rf⟩ _ hl
def sLen (i : Nat) : Option Int32 := if i < 8 then some (Int32.ofNat (strN.getD i 0)) else none
def sCh (i : Nat) (j : Int32) : Option Int32 := if i < 8 ∧ inb j (strN.getD i 0) then some ((strB.getD i []).getD j.toNatClampNeg 0) else none
theorem sLen_lt {i : Nat} {z : Int32} (h : sLen i = some z) : i < 8 := (gd h).1
theorem sCh_lt {i : Nat} {j z : Int32} (h : sCh i j = some z) : i < 8 := (gd h).1.1
/-- a virtual call's words, of a String -/
def CX (own : String) (idx : Nat) (y : MethodName) (b : ByteArray) (nL : Nat) (ret : Option FieldType) (n : Nat) : Prop := Cond.methodLink own idx y ∈ TB ∧ Cond.instanceMethod y ∈ TB ∧ Cond.selects y.cls y y ∈ TB ∧ Cond.initialized y.cls ∈ TB ∧ Cond.code y b nL ret ∈ TB ∧ yOk y n ∧ y.cls = "java/lang/String"
section STR
variable {p : Program} {l : Launch} {e : Env} {R : Room} {s : State} {m : MethodId} {args : Array Value} {below : List Frame} {meth : Method} {c : Code} {H : Heap} {locs : List Loc} {cells slots : Nat} {Q : State → Prop}
variable {cc : ByteArray} {pc nL : Nat} {ls : Array Slot} {rest : List Value} {own : String} {Γ : Cx} {Λ : List Ly} {d : Dt}
theorem r_callXi {As st0 : List Value} {r : Int32} {d' : Dt} {y : MethodName} {b' : ByteArray} {nL' : Nat} {ret' : Option FieldType} {fr lo idx n i : Nat} (C0 : Ct Γ p s m args c cc nL own) (h : Hs Γ Λ d s H locs) (hM : Cn Γ l y b' nL' ret' fr lo (.ref (Γ.2.2.2.1 i) :: As) Λ d (some (.int r)) d') (cs : CX own idx y b' nL' ret' n) (hi : i < 8)
    (hR : fr + 1 ≤ R.frames ∧ 8 + (nL' + 11) + lo ≤ R.locals) (hn : As.length = n) (hls : ls.size = nL) (hst : st0 = As.reverse ++ .ref (Γ.2.2.2.1 i) :: rest) (hW : (rest.map fun v => v.category).sum ≤ 8) (hdg : decode cc pc = .ok (.invokevirtual idx, 3)) (hcs : cells ≤ R.cells ∧ slots ≤ R.slots)
    (kk : ∀ (H : Heap) (locs : List Loc), Hs Γ Λ d' s H locs → W p l e R s m args below meth c H locs cells slots Q (F0 m (pc + 3) ls (.int r :: rest))) : W p l e R s m args below meth c H locs cells slots Q (F0 m pc ls st0) := by
  obtain ⟨hx, hb, hml, hown, hts, hK⟩ := C0
  obtain ⟨w1, w2, w2', w3, w4, w5, w6⟩ := cs
  exact r_call (va_runV (C := y.cls) (As := As) (rest := rest) ⟨hx, hb, hml, hown, hts⟩ hM ⟨callB_of n hts (goodTB w4) rfl rfl rfl (hts _ w3) (hts _ w1) w5 hR, hts _ w2, hts _ w2'⟩ ⟨blindKP, by rw [w6]; exact vk_recv hK.2.2.1 hi h.2, fun U hU hWm => ⟨rfl, hK.go hWm hU h.2, by rw [hU]; exact h.1⟩⟩ rfl hn hls hst (lv_room hW) hdg hcs) h kk
end STR
theorem dJ0_coder_7d493_0 : decode cJ0_coder_7d493 0 = .ok (.getstatic 38, 3) := by decide +kernel
theorem dJ0_coder_7d493_3 : decode cJ0_coder_7d493 3 = .ok (.ifCond .eq 10, 3) := by decide +kernel
theorem dJ0_coder_7d493_6 : decode cJ0_coder_7d493 6 = .ok (.aload_n 0, 1) := by decide +kernel
theorem dJ0_coder_7d493_7 : decode cJ0_coder_7d493 7 = .ok (.getfield 15, 3) := by decide +kernel
theorem dJ0_coder_7d493_10 : decode cJ0_coder_7d493 10 = .ok (.goto 4, 3) := by decide +kernel
theorem dJ0_coder_7d493_13 : decode cJ0_coder_7d493 13 = .ok (.iconst 1, 1) := by decide +kernel
theorem dJ0_coder_7d493_14 : decode cJ0_coder_7d493 14 = .ok (.ireturn, 1) := by decide +kernel
theorem dJ0_isLatin1_aae02_0 : decode cJ0_isLatin1_aae02 0 = .ok (.getstatic 38, 3) := by decide +kernel
theorem dJ0_isLatin1_aae02_3 : decode cJ0_isLatin1_aae02 3 = .ok (.ifCond .eq 14, 3) := by decide +kernel
theorem dJ0_isLatin1_aae02_6 : decode cJ0_isLatin1_aae02 6 = .ok (.aload_n 0, 1) := by decide +kernel
theorem dJ0_isLatin1_aae02_7 : decode cJ0_isLatin1_aae02 7 = .ok (.getfield 15, 3) := by decide +kernel
theorem dJ0_isLatin1_aae02_10 : decode cJ0_isLatin1_aae02 10 = .ok (.ifCond .ne 7, 3) := by decide +kernel
theorem dJ0_isLatin1_aae02_13 : decode cJ0_isLatin1_aae02 13 = .ok (.iconst 1, 1) := by decide +kernel
theorem dJ0_isLatin1_aae02_14 : decode cJ0_isLatin1_aae02 14 = .ok (.goto 4, 3) := by decide +kernel
theorem dJ0_isLatin1_aae02_17 : decode cJ0_isLatin1_aae02 17 = .ok (.iconst 0, 1) := by decide +kernel
theorem dJ0_isLatin1_aae02_18 : decode cJ0_isLatin1_aae02 18 = .ok (.ireturn, 1) := by decide +kernel
theorem dJ0_length_8abf5_0 : decode cJ0_length_8abf5 0 = .ok (.aload_n 0, 1) := by decide +kernel
theorem dJ0_length_8abf5_1 : decode cJ0_length_8abf5 1 = .ok (.getfield 9, 3) := by decide +kernel
theorem dJ0_length_8abf5_4 : decode cJ0_length_8abf5 4 = .ok (.arraylength, 1) := by decide +kernel
theorem dJ0_length_8abf5_5 : decode cJ0_length_8abf5 5 = .ok (.aload_n 0, 1) := by decide +kernel
theorem dJ0_length_8abf5_6 : decode cJ0_length_8abf5 6 = .ok (.invokevirtual 335, 3) := by decide +kernel
theorem dJ0_length_8abf5_9 : decode cJ0_length_8abf5 9 = .ok (.ishr, 1) := by decide +kernel
theorem dJ0_length_8abf5_10 : decode cJ0_length_8abf5 10 = .ok (.ireturn, 1) := by decide +kernel
theorem dJ3_checkIndex_8e157_0 : decode cJ3_checkIndex_8e157 0 = .ok (.iload_n 0, 1) := by decide +kernel
theorem dJ3_checkIndex_8e157_1 : decode cJ3_checkIndex_8e157 1 = .ok (.ifCond .lt 8, 3) := by decide +kernel
theorem dJ3_checkIndex_8e157_4 : decode cJ3_checkIndex_8e157 4 = .ok (.iload_n 0, 1) := by decide +kernel
theorem dJ3_checkIndex_8e157_5 : decode cJ3_checkIndex_8e157 5 = .ok (.iload_n 1, 1) := by decide +kernel
theorem dJ3_checkIndex_8e157_6 : decode cJ3_checkIndex_8e157 6 = .ok (.if_icmp .lt 10, 3) := by decide +kernel
theorem dJ3_checkIndex_8e157_9 : decode cJ3_checkIndex_8e157 9 = .ok (.aload_n 2, 1) := by decide +kernel
theorem dJ3_checkIndex_8e157_10 : decode cJ3_checkIndex_8e157 10 = .ok (.iload_n 0, 1) := by decide +kernel
theorem dJ3_checkIndex_8e157_11 : decode cJ3_checkIndex_8e157 11 = .ok (.iload_n 1, 1) := by decide +kernel
theorem dJ3_checkIndex_8e157_12 : decode cJ3_checkIndex_8e157 12 = .ok (.invokestatic 95, 3) := by decide +kernel
theorem dJ3_checkIndex_8e157_15 : decode cJ3_checkIndex_8e157 15 = .ok (.athrow, 1) := by decide +kernel
theorem dJ3_checkIndex_8e157_16 : decode cJ3_checkIndex_8e157 16 = .ok (.iload_n 0, 1) := by decide +kernel
theorem dJ3_checkIndex_8e157_17 : decode cJ3_checkIndex_8e157 17 = .ok (.ireturn, 1) := by decide +kernel
theorem dJ0_checkIndex_df160_0 : decode cJ0_checkIndex_df160 0 = .ok (.iload_n 0, 1) := by decide +kernel
theorem dJ0_checkIndex_df160_1 : decode cJ0_checkIndex_df160 1 = .ok (.iload_n 1, 1) := by decide +kernel
theorem dJ0_checkIndex_df160_2 : decode cJ0_checkIndex_df160 2 = .ok (.getstatic 1053, 3) := by decide +kernel
theorem dJ0_checkIndex_df160_5 : decode cJ0_checkIndex_df160 5 = .ok (.invokestatic 1059, 3) := by decide +kernel
theorem dJ0_checkIndex_df160_8 : decode cJ0_checkIndex_df160 8 = .ok (.pop, 1) := by decide +kernel
theorem dJ0_checkIndex_df160_9 : decode cJ0_checkIndex_df160 9 = .ok (.return_, 1) := by decide +kernel
theorem dJ1_charAt_3b067_0 : decode cJ1_charAt_3b067 0 = .ok (.iload_n 1, 1) := by decide +kernel
theorem dJ1_charAt_3b067_1 : decode cJ1_charAt_3b067 1 = .ok (.aload_n 0, 1) := by decide +kernel
theorem dJ1_charAt_3b067_2 : decode cJ1_charAt_3b067 2 = .ok (.arraylength, 1) := by decide +kernel
theorem dJ1_charAt_3b067_3 : decode cJ1_charAt_3b067 3 = .ok (.invokestatic 9, 3) := by decide +kernel
theorem dJ1_charAt_3b067_6 : decode cJ1_charAt_3b067 6 = .ok (.aload_n 0, 1) := by decide +kernel
theorem dJ1_charAt_3b067_7 : decode cJ1_charAt_3b067 7 = .ok (.iload_n 1, 1) := by decide +kernel
theorem dJ1_charAt_3b067_8 : decode cJ1_charAt_3b067 8 = .ok (.baload, 1) := by decide +kernel
theorem dJ1_charAt_3b067_9 : decode cJ1_charAt_3b067 9 = .ok (.sipush 255, 3) := by decide +kernel
theorem dJ1_charAt_3b067_12 : decode cJ1_charAt_3b067 12 = .ok (.iand, 1) := by decide +kernel
theorem dJ1_charAt_3b067_13 : decode cJ1_charAt_3b067 13 = .ok (.i2c, 1) := by decide +kernel
theorem dJ1_charAt_3b067_14 : decode cJ1_charAt_3b067 14 = .ok (.ireturn, 1) := by decide +kernel
theorem dJ0_charAt_5068e_0 : decode cJ0_charAt_5068e 0 = .ok (.aload_n 0, 1) := by decide +kernel
theorem dJ0_charAt_5068e_1 : decode cJ0_charAt_5068e 1 = .ok (.invokevirtual 492, 3) := by decide +kernel
theorem dJ0_charAt_5068e_4 : decode cJ0_charAt_5068e 4 = .ok (.ifCond .eq 12, 3) := by decide +kernel
theorem dJ0_charAt_5068e_7 : decode cJ0_charAt_5068e 7 = .ok (.aload_n 0, 1) := by decide +kernel
theorem dJ0_charAt_5068e_8 : decode cJ0_charAt_5068e 8 = .ok (.getfield 9, 3) := by decide +kernel
theorem dJ0_charAt_5068e_11 : decode cJ0_charAt_5068e 11 = .ok (.iload_n 1, 1) := by decide +kernel
theorem dJ0_charAt_5068e_12 : decode cJ0_charAt_5068e 12 = .ok (.invokestatic 495, 3) := by decide +kernel
theorem dJ0_charAt_5068e_15 : decode cJ0_charAt_5068e 15 = .ok (.ireturn, 1) := by decide +kernel
theorem dJ0_charAt_5068e_16 : decode cJ0_charAt_5068e 16 = .ok (.aload_n 0, 1) := by decide +kernel
theorem dJ0_charAt_5068e_17 : decode cJ0_charAt_5068e 17 = .ok (.getfield 9, 3) := by decide +kernel
theorem dJ0_charAt_5068e_20 : decode cJ0_charAt_5068e 20 = .ok (.iload_n 1, 1) := by decide +kernel
theorem dJ0_charAt_5068e_21 : decode cJ0_charAt_5068e 21 = .ok (.invokestatic 498, 3) := by decide +kernel
theorem dJ0_charAt_5068e_24 : decode cJ0_charAt_5068e 24 = .ok (.ireturn, 1) := by decide +kernel
theorem fs_38 : Cond.fieldLink "java/lang/String" 38 "java/lang/String" "COMPACT_STRINGS" "Z" ∈ TB := mTB 351 (by decide +kernel) (by decide +kernel)
theorem fs_15 : Cond.fieldLink "java/lang/String" 15 "java/lang/String" "coder" "B" ∈ TB := mTB 1251 (by decide +kernel) (by decide +kernel)
theorem fs_9 : Cond.fieldLink "java/lang/String" 9 "java/lang/String" "value" "[B" ∈ TB := mTB 1250 (by decide +kernel) (by decide +kernel)
theorem fs_1053 : Cond.fieldLink "java/lang/String" 1053 "jdk/internal/util/Preconditions" "SIOOBE_FORMATTER" "Ljava/util/function/BiFunction;" ∈ TB := mTB 367 (by decide +kernel) (by decide +kernel)
theorem cx_J0_335 : CX "java/lang/String" 335 yJ0_coder_7d493 cJ0_coder_7d493 1 (some FieldType.byte) 0 := ⟨mTB 347 (by decide +kernel) (by decide +kernel), mTB 348 (by decide +kernel) (by decide +kernel), mTB 349 (by decide +kernel) (by decide +kernel), mTB 11 (by decide +kernel) (by decide +kernel), mTB 350 (by decide +kernel) (by decide +kernel), ⟨by decide +kernel, by decide +kernel, by decide +kernel⟩, rfl⟩
theorem cx_J0_492 : CX "java/lang/String" 492 yJ0_isLatin1_aae02 cJ0_isLatin1_aae02 1 (some FieldType.boolean) 0 := ⟨mTB 357 (by decide +kernel) (by decide +kernel), mTB 358 (by decide +kernel) (by decide +kernel), mTB 359 (by decide +kernel) (by decide +kernel), mTB 11 (by decide +kernel) (by decide +kernel), mTB 360 (by decide +kernel) (by decide +kernel), ⟨by decide +kernel, by decide +kernel, by decide +kernel⟩, rfl⟩
theorem cx_X6_44 : CX "SeasonBound$Tape" 44 yJ0_length_8abf5 cJ0_length_8abf5 1 (some FieldType.int) 0 := ⟨mTB 343 (by decide +kernel) (by decide +kernel), mTB 344 (by decide +kernel) (by decide +kernel), mTB 345 (by decide +kernel) (by decide +kernel), mTB 11 (by decide +kernel) (by decide +kernel), mTB 346 (by decide +kernel) (by decide +kernel), ⟨by decide +kernel, by decide +kernel, by decide +kernel⟩, rfl⟩
theorem cx_X6_50 : CX "SeasonBound$Tape" 50 yJ0_charAt_5068e cJ0_charAt_5068e 2 (some FieldType.char) 1 := ⟨mTB 353 (by decide +kernel) (by decide +kernel), mTB 354 (by decide +kernel) (by decide +kernel), mTB 355 (by decide +kernel) (by decide +kernel), mTB 11 (by decide +kernel) (by decide +kernel), mTB 356 (by decide +kernel) (by decide +kernel), ⟨by decide +kernel, by decide +kernel, by decide +kernel⟩, rfl⟩
theorem cs_J0_495 : CS "java/lang/String" 495 yJ1_charAt_3b067 cJ1_charAt_3b067 2 (some FieldType.char) 2 := ⟨mTB 361 (by decide +kernel) (by decide +kernel), mTB 362 (by decide +kernel) (by decide +kernel), mTB 12 (by decide +kernel) (by decide +kernel), mTB 363 (by decide +kernel) (by decide +kernel), ⟨by decide +kernel, by decide +kernel, by decide +kernel⟩⟩
theorem cs_J1_9 : CS "java/lang/StringLatin1" 9 yJ0_checkIndex_df160 cJ0_checkIndex_df160 2 none 2 := ⟨mTB 364 (by decide +kernel) (by decide +kernel), mTB 365 (by decide +kernel) (by decide +kernel), mTB 11 (by decide +kernel) (by decide +kernel), mTB 366 (by decide +kernel) (by decide +kernel), ⟨by decide +kernel, by decide +kernel, by decide +kernel⟩⟩
theorem cs_J0_1059 : CS "java/lang/String" 1059 yJ3_checkIndex_8e157 cJ3_checkIndex_8e157 3 (some FieldType.int) 3 := ⟨mTB 369 (by decide +kernel) (by decide +kernel), mTB 370 (by decide +kernel) (by decide +kernel), mTB 13 (by decide +kernel) (by decide +kernel), mTB 371 (by decide +kernel) (by decide +kernel), ⟨by decide +kernel, by decide +kernel, by decide +kernel⟩⟩
set_option maxHeartbeats 4000000 in
set_option maxRecDepth 100000 in
theorem c_coder (Γ : Cx) (l : Launch) (Λ : List Ly) (d : Dt) (i : Nat) (hi : i < 8) : Cn Γ l yJ0_coder_7d493 cJ0_coder_7d493 1 (some FieldType.byte) 0 0 [.ref (Γ.2.2.2.1 i)] Λ d (some (.int 0)) d := by
  refine Cn.ofF (own := "java/lang/String") (by decide +kernel) rfl (Nat.le_of_ble_eq_true rfl) ?_
  intro p e s m below meth c C0 hr hlocks hH ls hl
  have hl : lv_has ls 1 [(0, .ref (Γ.2.2.2.1 i))] := hl
  obtain ⟨hx, hb, hml, hown, hts, hK⟩ := id C0
  refine va_gets hx hb hK.2.2.2.2.1 hH.2 hown (hts _ fs_38) (fun _ h9 => h9) dJ0_coder_7d493_0 ?_
  refine lv_if_eq (tgt := 13) hx hb dJ0_coder_7d493_3 (by decide) (fun c1 => absurd c1 (by decide)) (fun c1 => ?_)
  refine lv_aload_n hx hb dJ0_coder_7d493_6 rfl (lv_at hl 0 rfl) ?_
  refine vk_getf hx hb (hK.2.2.1.1 i hi).2.1 hH.2 hown (hts _ fs_15) (fun _ h9 => h9) dJ0_coder_7d493_7 ?_
  refine lv_goto (tgt := 14) hx hb dJ0_coder_7d493_10 (by decide) ?_
  exact r_iret (d' := d) C0 hr hlocks hH rfl dJ0_coder_7d493_14
set_option maxHeartbeats 4000000 in
set_option maxRecDepth 100000 in
theorem c_isLatin1 (Γ : Cx) (l : Launch) (Λ : List Ly) (d : Dt) (i : Nat) (hi : i < 8) : Cn Γ l yJ0_isLatin1_aae02 cJ0_isLatin1_aae02 1 (some FieldType.boolean) 0 0 [.ref (Γ.2.2.2.1 i)] Λ d (some (.int 1)) d := by
  refine Cn.ofF (own := "java/lang/String") (by decide +kernel) rfl (Nat.le_of_ble_eq_true rfl) ?_
  intro p e s m below meth c C0 hr hlocks hH ls hl
  have hl : lv_has ls 1 [(0, .ref (Γ.2.2.2.1 i))] := hl
  obtain ⟨hx, hb, hml, hown, hts, hK⟩ := id C0
  refine va_gets hx hb hK.2.2.2.2.1 hH.2 hown (hts _ fs_38) (fun _ h9 => h9) dJ0_isLatin1_aae02_0 ?_
  refine lv_if_eq (tgt := 17) hx hb dJ0_isLatin1_aae02_3 (by decide) (fun c1 => absurd c1 (by decide)) (fun c1 => ?_)
  refine lv_aload_n hx hb dJ0_isLatin1_aae02_6 rfl (lv_at hl 0 rfl) ?_
  refine vk_getf hx hb (hK.2.2.1.1 i hi).2.1 hH.2 hown (hts _ fs_15) (fun _ h9 => h9) dJ0_isLatin1_aae02_7 ?_
  refine lv_if_ne (tgt := 17) hx hb dJ0_isLatin1_aae02_10 (by decide) (fun c1 => absurd rfl c1) (fun c1 => ?_)
  refine lv_iconst (v := (1 : Int32)) hx hb dJ0_isLatin1_aae02_13 (by decide) ?_
  refine lv_goto (tgt := 18) hx hb dJ0_isLatin1_aae02_14 (by decide) ?_
  exact r_iret (d' := d) C0 hr hlocks hH (nz (Or.inr rfl)) dJ0_isLatin1_aae02_18
theorem ishr0 : ∀ i, i < 8 → (Int32.ofNat (strN.getD i 0)) >>> ((0 : Int32) &&& 31) = Int32.ofNat (strN.getD i 0) := by decide +kernel
set_option maxHeartbeats 4000000 in
set_option maxRecDepth 100000 in
theorem c_sLen (Γ : Cx) (l : Launch) (Λ : List Ly) (d : Dt) (i : Nat) (z : Int32) (hf : sLen i = some z) : Cn Γ l yJ0_length_8abf5 cJ0_length_8abf5 1 (some FieldType.int) 1 20 [.ref (Γ.2.2.2.1 i)] Λ d (some (.int z)) d := by
  obtain ⟨hi, hf⟩ := gd hf
  obtain rfl := Option.some.inj hf
  refine Cn.ofF (own := "java/lang/String") (by decide +kernel) rfl (Nat.le_of_ble_eq_true rfl) ?_
  intro p e s m below meth c C0 hr hlocks hH ls hl
  have hl : lv_has ls 1 [(0, .ref (Γ.2.2.2.1 i))] := hl
  obtain ⟨hx, hb, hml, hown, hts, hK⟩ := id C0
  refine lv_aload_n hx hb dJ0_length_8abf5_0 rfl (lv_at hl 0 rfl) ?_
  refine vk_getf hx hb (hK.2.2.1.1 i hi).2.2.1 hH.2 hown (hts _ fs_9) (fun _ h9 => h9) dJ0_length_8abf5_1 ?_
  refine va_tlen hx hb (hK.2.2.1.1 i hi).2.2.2 hH.2 rfl dJ0_length_8abf5_4 ?_
  refine lv_aload_n hx hb dJ0_length_8abf5_5 rfl (lv_at hl 0 rfl) ?_
  refine r_callXi (rest := [.int (Int32.ofNat (strN.getD i 0))]) C0 hH (c_coder Γ l Λ d i hi) cx_J0_335 hi (by decide) rfl hl.1 rfl (Nat.le_of_ble_eq_true rfl) dJ0_length_8abf5_6 (by decide) (fun H locs hH => ?_)
  refine lv_ishr hx hb dJ0_length_8abf5_9 ?_
  rw [ishr0 i hi]
  exact r_iret (d' := d) C0 hr hlocks hH rfl dJ0_length_8abf5_10
set_option maxHeartbeats 4000000 in
set_option maxRecDepth 100000 in
theorem c_chk3N (Γ : Cx) (l : Launch) (Λ : List Ly) (d : Dt) (j n : Int32) (h1 : ¬ j < 0) (h2 : j < n) : Cn Γ l yJ3_checkIndex_8e157 cJ3_checkIndex_8e157 3 (some FieldType.int) 0 0 [.int j, .int n, .null] Λ d (some (.int j)) d := by
  refine Cn.ofF (own := "jdk/internal/util/Preconditions") (by decide +kernel) rfl (Nat.le_of_ble_eq_true rfl) ?_
  intro p e s m below meth c C0 hr hlocks hH ls hl
  have hl : lv_has ls 3 [(0, .int j), (1, .int n), (2, .null)] := hl
  obtain ⟨hx, hb, hml, hown, hts, hK⟩ := id C0
  refine lv_iload_n hx hb dJ3_checkIndex_8e157_0 rfl (lv_at hl 0 rfl) ?_
  refine lv_if_lt (tgt := 9) hx hb dJ3_checkIndex_8e157_1 (by decide) (fun c1 => absurd c1 h1) (fun c1 => ?_)
  refine lv_iload_n hx hb dJ3_checkIndex_8e157_4 rfl (lv_at hl 0 rfl) ?_
  refine lv_iload_n hx hb dJ3_checkIndex_8e157_5 rfl (lv_at hl 1 rfl) ?_
  refine lv_icmp_lt (tgt := 16) hx hb dJ3_checkIndex_8e157_6 (by decide) (fun c1 => ?_) (fun c1 => absurd h2 c1)
  refine lv_iload_n hx hb dJ3_checkIndex_8e157_16 rfl (lv_at hl 0 rfl) ?_
  exact r_iret (d' := d) C0 hr hlocks hH rfl dJ3_checkIndex_8e157_17
set_option maxHeartbeats 4000000 in
set_option maxRecDepth 100000 in
theorem c_chk3R (Γ : Cx) (l : Launch) (Λ : List Ly) (d : Dt) (j n : Int32) (t : Nat) (h1 : ¬ j < 0) (h2 : j < n) : Cn Γ l yJ3_checkIndex_8e157 cJ3_checkIndex_8e157 3 (some FieldType.int) 0 0 [.int j, .int n, .ref t] Λ d (some (.int j)) d := by
  refine Cn.ofF (own := "jdk/internal/util/Preconditions") (by decide +kernel) rfl (Nat.le_of_ble_eq_true rfl) ?_
  intro p e s m below meth c C0 hr hlocks hH ls hl
  have hl : lv_has ls 3 [(0, .int j), (1, .int n), (2, .ref t)] := hl
  obtain ⟨hx, hb, hml, hown, hts, hK⟩ := id C0
  refine lv_iload_n hx hb dJ3_checkIndex_8e157_0 rfl (lv_at hl 0 rfl) ?_
  refine lv_if_lt (tgt := 9) hx hb dJ3_checkIndex_8e157_1 (by decide) (fun c1 => absurd c1 h1) (fun c1 => ?_)
  refine lv_iload_n hx hb dJ3_checkIndex_8e157_4 rfl (lv_at hl 0 rfl) ?_
  refine lv_iload_n hx hb dJ3_checkIndex_8e157_5 rfl (lv_at hl 1 rfl) ?_
  refine lv_icmp_lt (tgt := 16) hx hb dJ3_checkIndex_8e157_6 (by decide) (fun c1 => ?_) (fun c1 => absurd h2 c1)
  refine lv_iload_n hx hb dJ3_checkIndex_8e157_16 rfl (lv_at hl 0 rfl) ?_
  exact r_iret (d' := d) C0 hr hlocks hH rfl dJ3_checkIndex_8e157_17
set_option maxHeartbeats 4000000 in
set_option maxRecDepth 100000 in
theorem c_chk2 (Γ : Cx) (l : Launch) (Λ : List Ly) (d : Dt) (j n : Int32) (h1 : ¬ j < 0) (h2 : j < n) : Cn Γ l yJ0_checkIndex_df160 cJ0_checkIndex_df160 2 none 1 22 [.int j, .int n] Λ d none d := by
  refine Cn.ofF (own := "java/lang/String") (by decide +kernel) rfl (Nat.le_of_ble_eq_true rfl) ?_
  intro p e s m below meth c C0 hr hlocks hH ls hl
  have hl : lv_has ls 2 [(0, .int j), (1, .int n)] := hl
  obtain ⟨hx, hb, hml, hown, hts, hK⟩ := id C0
  refine lv_iload_n hx hb dJ0_checkIndex_df160_0 rfl (lv_at hl 0 rfl) ?_
  refine lv_iload_n hx hb dJ0_checkIndex_df160_1 rfl (lv_at hl 1 rfl) ?_
  rcases hK.2.2.2.2.2 with hZ | ⟨t, hZ⟩
  · refine va_gets hx hb hZ hH.2 hown (hts _ fs_1053) (fun _ h9 => h9) dJ0_checkIndex_df160_2 ?_
    refine r_callSi (rest := []) C0 hH (c_chk3N Γ l Λ d j n h1 h2) cs_J0_1059 (by decide) rfl hl.1 rfl (Nat.le_of_ble_eq_true rfl) dJ0_checkIndex_df160_5 (by decide) (fun H locs hH => ?_)
    refine lv_pop hx hb dJ0_checkIndex_df160_8 rfl ?_
    exact r_vret C0 hr hlocks hH dJ0_checkIndex_df160_9
  · refine va_gets hx hb hZ hH.2 hown (hts _ fs_1053) (fun _ h9 => h9) dJ0_checkIndex_df160_2 ?_
    refine r_callSi (rest := []) C0 hH (c_chk3R Γ l Λ d j n t h1 h2) cs_J0_1059 (by decide) rfl hl.1 rfl (Nat.le_of_ble_eq_true rfl) dJ0_checkIndex_df160_5 (by decide) (fun H locs hH => ?_)
    refine lv_pop hx hb dJ0_checkIndex_df160_8 rfl ?_
    exact r_vret C0 hr hlocks hH dJ0_checkIndex_df160_9
theorem chb : ∀ i, i < 8 → ∀ j, j < strN.getD i 0 → ((((strB.getD i []).getD j 0 &&& 255).toUInt32 % 65536).toInt32 = (strB.getD i []).getD j 0) ∧ vp_nar .char ((strB.getD i []).getD j 0) = (strB.getD i []).getD j 0 := by decide +kernel
theorem inb_lt {j : Int32} {n : Nat} (h : inb j n) (hn : n < 2 ^ 31) : ¬ j < 0 ∧ j < Int32.ofNat n := by
  obtain ⟨k, hk, rfl⟩ := vp_in_of (x := j) (n := n) h hn
  exact ⟨nI_pos (by omega), nI_lt hk hn⟩
theorem strN_lt : ∀ i, i < 8 → strN.getD i 0 < 2 ^ 31 := by decide +kernel
theorem narC (v : Int32) : narrow .char (.int v) = .int (vp_nar .char v) := rfl
set_option maxHeartbeats 4000000 in
set_option maxRecDepth 100000 in
theorem c_l1Ch (Γ : Cx) (l : Launch) (Λ : List Ly) (d : Dt) (i : Nat) (j z : Int32) (hf : sCh i j = some z) : Cn Γ l yJ1_charAt_3b067 cJ1_charAt_3b067 2 (some FieldType.char) 2 43 [.ref (Γ.2.2.2.2 i), .int j] Λ d (some (.int z)) d := by
  obtain ⟨⟨hi, hj⟩, hf⟩ := gd hf
  obtain rfl := Option.some.inj hf
  have hlt : j.toNatClampNeg < strN.getD i 0 := Nat.not_le.mp fun q => hj (Or.inr q)
  obtain ⟨h1, h2⟩ := inb_lt hj (strN_lt i hi)
  obtain ⟨hc1, hc2⟩ := chb i hi j.toNatClampNeg hlt
  refine Cn.ofF (own := "java/lang/StringLatin1") (by decide +kernel) rfl (Nat.le_of_ble_eq_true rfl) ?_
  intro p e s m below meth c C0 hr hlocks hH ls hl
  have hl : lv_has ls 2 [(0, .ref (Γ.2.2.2.2 i)), (1, .int j)] := hl
  obtain ⟨hx, hb, hml, hown, hts, hK⟩ := id C0
  refine lv_iload_n hx hb dJ1_charAt_3b067_0 rfl (lv_at hl 1 rfl) ?_
  refine lv_aload_n hx hb dJ1_charAt_3b067_1 rfl (lv_at hl 0 rfl) ?_
  refine va_tlen hx hb (hK.2.2.1.1 i hi).2.2.2 hH.2 rfl dJ1_charAt_3b067_2 ?_
  refine r_callSv (rest := []) C0 hH (c_chk2 Γ l Λ d j (Int32.ofNat (strN.getD i 0)) h1 h2) cs_J1_9 (by decide) rfl hl.1 rfl (Nat.le_of_ble_eq_true rfl) dJ1_charAt_3b067_3 (by decide) (fun H locs hH => ?_)
  refine lv_aload_n hx hb dJ1_charAt_3b067_6 rfl (lv_at hl 0 rfl) ?_
  refine lv_iload_n hx hb dJ1_charAt_3b067_7 rfl (lv_at hl 1 rfl) ?_
  refine va_tb hx hb (hK.2.2.1.1 i hi).2.2.2 hH.2 hj rfl dJ1_charAt_3b067_8 ?_
  refine lv_sipush (v := (255 : Int32)) hx hb dJ1_charAt_3b067_9 (by decide) ?_
  refine lv_iand hx hb dJ1_charAt_3b067_12 ?_
  refine lv_i2c (v := (strB.getD i []).getD j.toNatClampNeg 0) hx hb dJ1_charAt_3b067_13 hc1 ?_
  exact r_iret (d' := d) C0 hr hlocks hH (by rw [narC, hc2]) dJ1_charAt_3b067_14
set_option maxHeartbeats 4000000 in
set_option maxRecDepth 100000 in
theorem c_sCh (Γ : Cx) (l : Launch) (Λ : List Ly) (d : Dt) (i : Nat) (j z : Int32) (hf : sCh i j = some z) : Cn Γ l yJ0_charAt_5068e cJ0_charAt_5068e 2 (some FieldType.char) 3 64 [.ref (Γ.2.2.2.1 i), .int j] Λ d (some (.int z)) d := by
  have hi := sCh_lt hf
  have hz : narrow .char (.int z) = .int z := by
    obtain ⟨⟨hi, hj⟩, hf⟩ := gd hf
    obtain rfl := Option.some.inj hf
    have hlt : j.toNatClampNeg < strN.getD i 0 := Nat.not_le.mp fun q => hj (Or.inr q)
    rw [narC, (chb i hi j.toNatClampNeg hlt).2]
  refine Cn.ofF (own := "java/lang/String") (by decide +kernel) rfl (Nat.le_of_ble_eq_true rfl) ?_
  intro p e s m below meth c C0 hr hlocks hH ls hl
  have hl : lv_has ls 2 [(0, .ref (Γ.2.2.2.1 i)), (1, .int j)] := hl
  obtain ⟨hx, hb, hml, hown, hts, hK⟩ := id C0
  refine lv_aload_n hx hb dJ0_charAt_5068e_0 rfl (lv_at hl 0 rfl) ?_
  refine r_callXi (rest := []) C0 hH (c_isLatin1 Γ l Λ d i hi) cx_J0_492 hi (by decide) rfl hl.1 rfl (Nat.le_of_ble_eq_true rfl) dJ0_charAt_5068e_1 (by decide) (fun H locs hH => ?_)
  refine lv_if_eq (tgt := 16) hx hb dJ0_charAt_5068e_4 (by decide) (fun c1 => absurd c1 (by decide)) (fun c1 => ?_)
  refine lv_aload_n hx hb dJ0_charAt_5068e_7 rfl (lv_at hl 0 rfl) ?_
  refine vk_getf hx hb (hK.2.2.1.1 i hi).2.2.1 hH.2 hown (hts _ fs_9) (fun _ h9 => h9) dJ0_charAt_5068e_8 ?_
  refine lv_iload_n hx hb dJ0_charAt_5068e_11 rfl (lv_at hl 1 rfl) ?_
  refine r_callSi (rest := []) C0 hH (c_l1Ch Γ l Λ d i j z hf) cs_J0_495 (by decide) rfl hl.1 rfl (Nat.le_of_ble_eq_true rfl) dJ0_charAt_5068e_12 (by decide) (fun H locs hH => ?_)
  exact r_iret (d' := d) C0 hr hlocks hH hz dJ0_charAt_5068e_15
