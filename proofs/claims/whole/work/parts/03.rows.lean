/-! ===== the light layer: context, worlds, contracts, rows ===== -/
def AP (Γ : Cx) : Nat → Prop := fun q => Γ.2.2.1.1 ≤ q
def WFl (Λ : List Ly) : Prop := ∀ (q ci : Nat) (fs : List (Option Nat ⊕ Bool)), Λ[q]? = some (.inl (ci, fs)) → fs.map kdF = shp ci
def HP (Γ : Cx) (Λ : List Ly) (d : Dt) (H : Heap) : Prop := WFl Λ ∧ va_P Γ.1 clsA (wsL Γ.2.1 Γ.2.2.1 Λ d) H
def KS (Γ : Cx) (U : State) (H : Heap) : Prop := vk_S 8 strN strB Γ.2.2.2.1 Γ.2.2.2.2 (AP Γ) U H ∧ (∀ i : Nat, i < 8 → vk_R "SeasonBound$Reader" (strI.getD i 0) (strX.getD i "") (Γ.2.2.2.1 i) U) ∧ va_Z "java/lang/String" "COMPACT_STRINGS" "Z" (.int 1) (AP Γ) U H ∧ va_Zq "jdk/internal/util/Preconditions" "SIOOBE_FORMATTER" "Ljava/util/function/BiFunction;" (AP Γ) U H
def KP (Γ : Cx) (U : State) : Prop := va_K Γ.1 clsA (tysA Γ.2.1) U ∧ (∀ q ∈ nestT, va_Nw (.methodLinkNest q.1 q.2.1 q.2.2.1 q.2.2.2) U) ∧ KS Γ U U.heap
theorem KP.go {Γ : Cx} {s U : State} {H : Heap} {locs : List Loc} (h : KP Γ s) (hW : s.WarmedH U.vm) (hU : U.heap = H) (hS : va_S (AP Γ) s.heap H locs) : KP Γ U := by
  refine ⟨va_K.moved hW.alike h.1, fun q hq => va_Nw.warmM hW (h.2.1 q hq), ?_⟩
  rw [hU]
  exact ⟨(h.2.2.1.moved hW.alike).kept hS.2.1, fun i hi => (h.2.2.2.1 i hi).warm hW, (h.2.2.2.2.1.moved hW.alike).kept hS.2.1, (h.2.2.2.2.2.moved hW.alike).kept hS.2.1⟩
theorem KP.calling {Γ : Cx} {U : State} (h : KP Γ U) (g : JFrame) (mk : MethodId) (a : Array Value) : KP Γ (U.calling g mk a) :=
  ⟨va_K.moved (u := U) (U := U.calling g mk a) (Vm.Alike.refl U.vm) h.1, fun q hq => va_Nw.same (u := U) (U := U.calling g mk a) rfl rfl (h.2.1 q hq), h.2.2.1.moved (u := U) (U := U.calling g mk a) (Vm.Alike.refl U.vm), fun i hi => vk_R.same (u := U) (U := U.calling g mk a) rfl (h.2.2.2.1 i hi), h.2.2.2.2.1.moved (u := U) (U := U.calling g mk a) (Vm.Alike.refl U.vm), h.2.2.2.2.2.moved (u := U) (U := U.calling g mk a) (Vm.Alike.refl U.vm)⟩
/-- the frame's context -/
def Ct (Γ : Cx) (p : Program) (s : State) (m : MethodId) (args : Array Value) (c : Code) (cc : ByteArray) (nL : Nat) (own : String) : Prop :=
  p.tables.exec = Jvm.exec ∧ c.code = cc ∧ c.maxLocals = nL ∧ s.vm.findClass own = some m.cls ∧ (∀ w ∈ TB, w.before args s = true) ∧ KP Γ s
/-- the heap now, and since the method's start -/
def Hs (Γ : Cx) (Λ : List Ly) (d : Dt) (s : State) (H : Heap) (locs : List Loc) : Prop := HP Γ Λ d H ∧ va_S (AP Γ) s.heap H locs
/-- a method's end -/
def QN (Γ : Cx) (Λ : List Ly) (d : Dt) (rv : Option Value) : Array Value → State → Outcome → State → Prop := fun _ st oc t => (oc = .returned rv ∧ HP Γ Λ d t.heap) ∧ va_F (AP Γ) st t
/-- a method's contract: it makes nothing -/
def Cn (Γ : Cx) (l : Launch) (y : MethodName) (b : ByteArray) (nL : Nat) (ret : Option FieldType) (fr lo : Nat) (As : List Value) (Λ : List Ly) (d : Dt) (rv : Option Value) (d' : Dt) : Prop :=
  Met l y (Cond.code y b nL ret :: TB) { frames := fr, cells := 0, slots := 0, locals := lo } (va_Pc As (fun U => KP Γ U ∧ HP Γ Λ d U.heap)) (QN Γ Λ d' rv) 0 0 (AP Γ)
theorem Cn.of {Γ : Cx} {l : Launch} {y : MethodName} {b : ByteArray} {nL : Nat} {ret : Option FieldType} {fr lo : Nat} {As : List Value} {Λ : List Ly} {d : Dt} {rv : Option Value} {d' : Dt} {own : String} (hy : plainName y.cls = true) (ho : y.cls = own) (hlen : (lg_sl As).length ≤ nL)
    (body : ∀ (p : Program) (e : Env) (s : State) (m : MethodId) (below : List Frame) (meth : Method) (c : Code), Ct Γ p s m As.toArray c b nL own → meth.sig.returnType = ret → meth.locks = false → Hs Γ Λ d s s.heap [] → ∀ ls : Array Slot, lv_has ls nL (lv_args 0 As) →
      W p l e { frames := fr, cells := 0, slots := 0, locals := lo } s m As.toArray below meth c s.heap [] 0 0 (MQ below (QN Γ Λ d' rv) As.toArray s 0 0 (AP Γ)) (F0 m 0 ls [])) : Cn Γ l y b nL ret fr lo As Λ d rv d' := by
  refine Met.ofW (cc := b) (maxL := nL) (ret := ret) hy rfl ?_
  intro p e s m args below meth c s₁ B hml hv
  obtain ⟨rfl, hK, hP⟩ := hv
  have hts := atoms_spec (ws := Cond.code y b nL ret :: TB) B.pre
  have hown : s.vm.findClass own = some m.cls := by rw [← ho]; exact findClass_of_methodNamed B.named
  have hl := lv_entry As (n := nL) hlen
  rw [lg_entry_eq]
  exact body p e s m below meth c ⟨B.exec, B.bytes, hml, hown, fun w h => hts w (List.mem_cons_of_mem _ h), hK⟩ B.returns B.notSynchronized ⟨hP, va_S.rf⟩ _ hl
/-- a field's link -/
def FL (own : String) (idx ci k : Nat) : Prop := ∃ q : vw_C, clsA[ci]? = some q ∧ k < q.2.2 ∧ Cond.fieldLink own idx (q.2.1 k).1 (q.2.1 k).2.1 (q.2.1 k).2.2.1 ∈ TB
/-- .. of a field that may be written -/
def FW (own : String) (idx ci k : Nat) (ty : FieldType) : Prop := FL own idx ci k ∧ ∃ q : vw_C, clsA[ci]? = some q ∧ (q.2.1 k).2.2.2 = false ∧ parseFieldDescriptor (q.2.1 k).2.2.1 = some ty ∧ (∀ j, j < q.2.2 → ∃ z, parseFieldDescriptor (q.2.1 j).2.2.1 = some z)
theorem kd_at {fs : List (Option Nat ⊕ Bool)} {L : List Nat} {k z : Nat} (h : fs.map kdF = L) (hz : L[k]? = some z) : ∃ x, fs[k]? = some x ∧ kdF x = z := by
  subst h
  rw [List.getElem?_map] at hz
  cases hx : fs[k]? with
  | none => rw [hx] at hz; cases hz
  | some x => rw [hx] at hz; exact ⟨x, rfl, Option.some.inj hz⟩
theorem kd1 {x : Option Nat ⊕ Bool} (h : kdF x = 1) : x = .inr false := by
  rcases x with r | z
  · cases h
  · cases z
    · rfl
    · cases h
theorem kd2 {x : Option Nat ⊕ Bool} (h : kdF x = 2) : x = .inr true := by
  rcases x with r | z
  · cases h
  · cases z
    · cases h
    · rfl
section LITE
variable {p : Program} {l : Launch} {e : Env} {R : Room} {s : State} {m : MethodId} {args : Array Value} {below : List Frame} {meth : Method} {c : Code} {H : Heap} {locs : List Loc} {cells slots : Nat} {Q : State → Prop}
variable {cc : ByteArray} {pc nL : Nat} {ls : Array Slot} {rest : List Value} {own : String} {Γ : Cx} {Λ : List Ly} {d : Dt}
theorem r_geti (C0 : Ct Γ p s m args c cc nL own) (h : Hs Γ Λ d s H locs) {q ci k idx : Nat} (fl : FL own idx ci k) (ho : clsAt Λ q = some ci) (hk : (shp ci)[k]? = some 1) (hdg : decode cc pc = .ok (.getfield idx, 3))
    (kk : W p l e R s m args below meth c H locs cells slots Q (F0 m (pc + 3) ls (.int (d.1 q k) :: rest))) : W p l e R s m args below meth c H locs cells slots Q (F0 m pc ls (.ref (ad Γ.2.2.1 q) :: rest)) := by
  obtain ⟨hx, hb, hml, hown, hts, hK⟩ := C0
  obtain ⟨⟨hwf, hP⟩, hS⟩ := h
  obtain ⟨fs, hfs⟩ := clsAt_spec ho
  obtain ⟨x, hx1, hx2⟩ := kd_at (hwf q ci fs hfs) hk
  have hx3 := kd1 hx2
  subst hx3
  obtain ⟨⟨C, T, N⟩, hc, hkN, hlink⟩ := fl
  exact va_get (D := Γ.1) (ci := ci) (v := .int (d.1 q k)) (C := C) (T := T) (N := N) hx hb hts (inTall ci _ hc) hown hK.1 hP q (wsL_at hfs) hc k hkN (hts _ hlink) (fun _ h9 => h9) (by rw [List.getElem?_mapIdx, hx1]; rfl) hdg kk
theorem r_getj (C0 : Ct Γ p s m args c cc nL own) (h : Hs Γ Λ d s H locs) {q ci k idx : Nat} (fl : FL own idx ci k) (ho : clsAt Λ q = some ci) (hk : (shp ci)[k]? = some 2) (hdg : decode cc pc = .ok (.getfield idx, 3))
    (kk : W p l e R s m args below meth c H locs cells slots Q (F0 m (pc + 3) ls (.long (d.2 q k) :: rest))) : W p l e R s m args below meth c H locs cells slots Q (F0 m pc ls (.ref (ad Γ.2.2.1 q) :: rest)) := by
  obtain ⟨hx, hb, hml, hown, hts, hK⟩ := C0
  obtain ⟨⟨hwf, hP⟩, hS⟩ := h
  obtain ⟨fs, hfs⟩ := clsAt_spec ho
  obtain ⟨x, hx1, hx2⟩ := kd_at (hwf q ci fs hfs) hk
  have hx3 := kd2 hx2
  subst hx3
  obtain ⟨⟨C, T, N⟩, hc, hkN, hlink⟩ := fl
  exact va_get (D := Γ.1) (ci := ci) (v := .long (d.2 q k)) (C := C) (T := T) (N := N) hx hb hts (inTall ci _ hc) hown hK.1 hP q (wsL_at hfs) hc k hkN (hts _ hlink) (fun _ h9 => h9) (by rw [List.getElem?_mapIdx, hx1]; rfl) hdg kk
theorem r_getr (C0 : Ct Γ p s m args c cc nL own) (h : Hs Γ Λ d s H locs) {q ci k idx r : Nat} (fl : FL own idx ci k) (ho : rf Λ q ci k = some r) (hdg : decode cc pc = .ok (.getfield idx, 3))
    (kk : W p l e R s m args below meth c H locs cells slots Q (F0 m (pc + 3) ls (.ref (ad Γ.2.2.1 r) :: rest))) : W p l e R s m args below meth c H locs cells slots Q (F0 m pc ls (.ref (ad Γ.2.2.1 q) :: rest)) := by
  obtain ⟨hx, hb, hml, hown, hts, hK⟩ := C0
  obtain ⟨⟨hwf, hP⟩, hS⟩ := h
  obtain ⟨fs, hfs, hx1⟩ := rf_spec ho
  obtain ⟨⟨C, T, N⟩, hc, hkN, hlink⟩ := fl
  exact va_get (D := Γ.1) (ci := ci) (v := .ref (ad Γ.2.2.1 r)) (C := C) (T := T) (N := N) hx hb hts (inTall ci _ hc) hown hK.1 hP q (wsL_at hfs) hc k hkN (hts _ hlink) (fun _ h9 => h9) (by rw [List.getElem?_mapIdx, hx1]; rfl) hdg kk
theorem hs_set {x : Ly} {q : Nat} {d' : Dt} {H1 : Heap} {locs1 : List Loc} (h : Hs Γ Λ d s H locs) (hx : Λ[q]? = some x) (h1 : ∀ a, a ≠ q → d'.1 a = d.1 a) (h2 : ∀ a, a ≠ q → d'.2 a = d.2 a) (hP : va_P Γ.1 clsA ((wsL Γ.2.1 Γ.2.2.1 Λ d).set q (ad Γ.2.2.1 q, cellL Γ.2.1 Γ.2.2.1 d' q x)) H1) (hS : va_S (AP Γ) s.heap H1 locs1) : Hs Γ Λ d' s H1 locs1 := by
  rw [wsL_set hx h1 h2] at hP
  exact ⟨⟨h.1.1, hP⟩, hS⟩
theorem tyOf {q : vw_C} (h : ∀ j, j < q.2.2 → ∃ z, parseFieldDescriptor (q.2.1 j).2.2.1 = some z) : ∃ ty : Nat → FieldType, ∀ j, j < q.2.2 → parseFieldDescriptor (q.2.1 j).2.2.1 = some (ty j) := by
  refine ⟨fun j => (parseFieldDescriptor (q.2.1 j).2.2.1).getD .int, fun j hj => ?_⟩
  obtain ⟨z, hz⟩ := h j hj
  show _ = some ((parseFieldDescriptor (q.2.1 j).2.2.1).getD .int)
  rw [hz]
  rfl
theorem r_puti (C0 : Ct Γ p s m args c cc nL own) (h : Hs Γ Λ d s H locs) {q ci k idx : Nat} {v : Int32} (fw : FW own idx ci k .int) (ho : clsAt Λ q = some ci) (hk : (shp ci)[k]? = some 1) (hdg : decode cc pc = .ok (.putfield idx, 3))
    (kk : ∀ (H : Heap) (locs : List Loc), Hs Γ Λ (pI d q k v) s H locs → W p l e R s m args below meth c H locs cells slots Q (F0 m (pc + 3) ls rest)) : W p l e R s m args below meth c H locs cells slots Q (F0 m pc ls (.int v :: .ref (ad Γ.2.2.1 q) :: rest)) := by
  obtain ⟨hx, hb, hml, hown, hts, hK⟩ := C0
  have h' := h
  obtain ⟨⟨hwf, hP⟩, hS⟩ := h
  obtain ⟨fs, hfs⟩ := clsAt_spec ho
  obtain ⟨x, hx1, hx2⟩ := kd_at (hwf q ci fs hfs) hk
  have hx3 := kd1 hx2
  subst hx3
  obtain ⟨fl, q9, hc9, hfin, hty, htys⟩ := fw
  obtain ⟨⟨C, T, N⟩, hc, hkN, hlink⟩ := fl
  cases (hc.symm.trans hc9)
  obtain ⟨ty0, hty0⟩ := tyOf (q := (C, T, N)) htys
  have hl : k < (fs.mapIdx (fun k x => fvL Γ.2.2.1 d q k x)).length := by rw [List.length_mapIdx]; exact (List.getElem?_eq_some_iff.mp hx1).1
  refine va_put (D := Γ.1) (ci := ci) (v := .int v) (ty := .int) (C := C) (T := T) (N := N) (fs := fs.mapIdx (fun k x => fvL Γ.2.2.1 d q k x)) hx hb hts (inTall ci _ hc) ty0 hty0 (nmAll ci _ hc) hown hK.1 hP wsL_D hS q (wsL_at hfs) hc k hkN (hts _ hlink) (fun _ h9 => h9) hfin hty rfl rfl hl hdg (fun H1 locs1 hP1 _ hS1 => kk H1 locs1 (hs_set h' hfs (fun a ha => pI_ne ha) (fun a ha => rfl) ?_ hS1))
  rw [cellL_pI hx1]
  exact hP1
theorem r_putj (C0 : Ct Γ p s m args c cc nL own) (h : Hs Γ Λ d s H locs) {q ci k idx : Nat} {v : Int64} (fw : FW own idx ci k .long) (ho : clsAt Λ q = some ci) (hk : (shp ci)[k]? = some 2) (hdg : decode cc pc = .ok (.putfield idx, 3))
    (kk : ∀ (H : Heap) (locs : List Loc), Hs Γ Λ (pJ d q k v) s H locs → W p l e R s m args below meth c H locs cells slots Q (F0 m (pc + 3) ls rest)) : W p l e R s m args below meth c H locs cells slots Q (F0 m pc ls (.long v :: .ref (ad Γ.2.2.1 q) :: rest)) := by
  obtain ⟨hx, hb, hml, hown, hts, hK⟩ := C0
  have h' := h
  obtain ⟨⟨hwf, hP⟩, hS⟩ := h
  obtain ⟨fs, hfs⟩ := clsAt_spec ho
  obtain ⟨x, hx1, hx2⟩ := kd_at (hwf q ci fs hfs) hk
  have hx3 := kd2 hx2
  subst hx3
  obtain ⟨fl, q9, hc9, hfin, hty, htys⟩ := fw
  obtain ⟨⟨C, T, N⟩, hc, hkN, hlink⟩ := fl
  cases (hc.symm.trans hc9)
  obtain ⟨ty0, hty0⟩ := tyOf (q := (C, T, N)) htys
  have hl : k < (fs.mapIdx (fun k x => fvL Γ.2.2.1 d q k x)).length := by rw [List.length_mapIdx]; exact (List.getElem?_eq_some_iff.mp hx1).1
  refine va_put (D := Γ.1) (ci := ci) (v := .long v) (ty := .long) (C := C) (T := T) (N := N) (fs := fs.mapIdx (fun k x => fvL Γ.2.2.1 d q k x)) hx hb hts (inTall ci _ hc) ty0 hty0 (nmAll ci _ hc) hown hK.1 hP wsL_D hS q (wsL_at hfs) hc k hkN (hts _ hlink) (fun _ h9 => h9) hfin hty rfl rfl hl hdg (fun H1 locs1 hP1 _ hS1 => kk H1 locs1 (hs_set h' hfs (fun a ha => rfl) (fun a ha => pJ_ne ha) ?_ hS1))
  rw [cellL_pJ hx1]
  exact hP1
theorem r_iald (C0 : Ct Γ p s m args c cc nL own) (h : Hs Γ Λ d s H locs) {q : Nat} {i : Int32} (ho : okA Λ q 1 i = true) (hdg : decode cc pc = .ok (.iaload, 1))
    (kk : W p l e R s m args below meth c H locs cells slots Q (F0 m (pc + 1) ls (.int (d.1 q i.toNatClampNeg) :: rest))) : W p l e R s m args below meth c H locs cells slots Q (F0 m pc ls (.int i :: .ref (ad Γ.2.2.1 q) :: rest)) := by
  obtain ⟨hx, hb, hml, hown, hts, hK⟩ := C0
  obtain ⟨n, hn, hi⟩ := okA_spec ho
  exact va_iald hx hb hK.1 h.1.2 q 1 (wsL_at hn) (tysA_at _ 1 (by decide)) hi hdg kk
theorem r_bald (C0 : Ct Γ p s m args c cc nL own) (h : Hs Γ Λ d s H locs) {q : Nat} {i : Int32} (ho : okA Λ q 0 i = true) (hdg : decode cc pc = .ok (.baload, 1))
    (kk : W p l e R s m args below meth c H locs cells slots Q (F0 m (pc + 1) ls (.int (d.1 q i.toNatClampNeg) :: rest))) : W p l e R s m args below meth c H locs cells slots Q (F0 m pc ls (.int i :: .ref (ad Γ.2.2.1 q) :: rest)) := by
  obtain ⟨hx, hb, hml, hown, hts, hK⟩ := C0
  obtain ⟨n, hn, hi⟩ := okA_spec ho
  exact va_bald hx hb hK.1 h.1.2 q 0 (wsL_at hn) (tysA_at _ 0 (by decide)) hi hdg kk
theorem r_zald (C0 : Ct Γ p s m args c cc nL own) (h : Hs Γ Λ d s H locs) {q : Nat} {i : Int32} (ho : okA Λ q 3 i = true) (hdg : decode cc pc = .ok (.baload, 1))
    (kk : W p l e R s m args below meth c H locs cells slots Q (F0 m (pc + 1) ls (.int (d.1 q i.toNatClampNeg) :: rest))) : W p l e R s m args below meth c H locs cells slots Q (F0 m pc ls (.int i :: .ref (ad Γ.2.2.1 q) :: rest)) := by
  obtain ⟨hx, hb, hml, hown, hts, hK⟩ := C0
  obtain ⟨n, hn, hi⟩ := okA_spec ho
  exact va_zald hx hb hK.1 h.1.2 q 3 (wsL_at hn) (tysA_at _ 3 (by decide)) hi hdg kk
theorem r_lald (C0 : Ct Γ p s m args c cc nL own) (h : Hs Γ Λ d s H locs) {q : Nat} {i : Int32} (ho : okL Λ q i = true) (hdg : decode cc pc = .ok (.laload, 1))
    (kk : W p l e R s m args below meth c H locs cells slots Q (F0 m (pc + 1) ls (.long (d.2 q i.toNatClampNeg) :: rest))) : W p l e R s m args below meth c H locs cells slots Q (F0 m pc ls (.int i :: .ref (ad Γ.2.2.1 q) :: rest)) := by
  obtain ⟨hx, hb, hml, hown, hts, hK⟩ := C0
  obtain ⟨n, hn, hi⟩ := okL_spec ho
  exact va_lald hx hb hK.1 h.1.2 q 2 (wsL_at hn) (tysA_at _ 2 (by decide)) hi hdg kk
theorem r_aald (C0 : Ct Γ p s m args c cc nL own) (h : Hs Γ Λ d s H locs) {q ti r : Nat} {C : String} {i : Int32} (ho : ra Λ q ti i = some r) (ht : ti < 8) (hty : tyA ti = .object C) (hdg : decode cc pc = .ok (.aaload, 1))
    (kk : W p l e R s m args below meth c H locs cells slots Q (F0 m (pc + 1) ls (.ref (ad Γ.2.2.1 r) :: rest))) : W p l e R s m args below meth c H locs cells slots Q (F0 m pc ls (.int i :: .ref (ad Γ.2.2.1 q) :: rest)) := by
  obtain ⟨hx, hb, hml, hown, hts, hK⟩ := C0
  obtain ⟨n, lst, hn, hi, hr⟩ := ra_spec ho
  refine va_aldq (C := C) hx hb hK.1 h.1.2 q ti (wsL_at hn) (by rw [tysA_at _ ti ht, hty]) hi hdg ?_
  rw [hr]
  exact kk
theorem r_alen (C0 : Ct Γ p s m args c cc nL own) (h : Hs Γ Λ d s H locs) {q ti n : Nat} (ho : aLn Λ q ti = some n) (ht : ti < 8) (hdg : decode cc pc = .ok (.arraylength, 1))
    (kk : W p l e R s m args below meth c H locs cells slots Q (F0 m (pc + 1) ls (.int (Int32.ofNat n) :: rest))) : W p l e R s m args below meth c H locs cells slots Q (F0 m pc ls (.ref (ad Γ.2.2.1 q) :: rest)) := by
  obtain ⟨hx, hb, hml, hown, hts, hK⟩ := C0
  obtain ⟨z, hn⟩ := aLn_spec ho
  rcases z with z | lst
  · cases z
    · exact va_alen hx hb hK.1 h.1.2 q ti (wsL_at hn) (tysA_at _ ti ht) rfl hdg kk
    · exact va_alen hx hb hK.1 h.1.2 q ti (wsL_at hn) (tysA_at _ ti ht) rfl hdg kk
  · exact va_alen hx hb hK.1 h.1.2 q ti (wsL_at hn) (tysA_at _ ti ht) rfl hdg kk
theorem r_iast (C0 : Ct Γ p s m args c cc nL own) (h : Hs Γ Λ d s H locs) {q : Nat} {i v : Int32} (ho : okA Λ q 1 i = true) (hdg : decode cc pc = .ok (.iastore, 1))
    (kk : ∀ (H : Heap) (locs : List Loc), Hs Γ Λ (pI d q i.toNatClampNeg v) s H locs → W p l e R s m args below meth c H locs cells slots Q (F0 m (pc + 1) ls rest)) : W p l e R s m args below meth c H locs cells slots Q (F0 m pc ls (.int v :: .int i :: .ref (ad Γ.2.2.1 q) :: rest)) := by
  obtain ⟨hx, hb, hml, hown, hts, hK⟩ := C0
  obtain ⟨n, hn, hi⟩ := okA_spec ho
  refine va_iast hx hb hK.1 h.1.2 wsL_D h.2 q 1 (wsL_at hn) (tysA_at _ 1 (by decide)) hi hdg (fun H1 locs1 hP1 _ hS1 => kk H1 locs1 (hs_set h hn (fun a ha => pI_ne ha) (fun a ha => rfl) ?_ hS1))
  show va_P _ _ (List.set _ _ (_, Sum.inl (_, _, Sum.inl ((pI d q i.toNatClampNeg v).1 q)))) _
  rw [pI_self]
  exact hP1
theorem r_bast (C0 : Ct Γ p s m args c cc nL own) (h : Hs Γ Λ d s H locs) {q : Nat} {i v : Int32} (ho : okA Λ q 0 i = true) (hdg : decode cc pc = .ok (.bastore, 1))
    (kk : ∀ (H : Heap) (locs : List Loc), Hs Γ Λ (pI d q i.toNatClampNeg (vp_nar .byte v)) s H locs → W p l e R s m args below meth c H locs cells slots Q (F0 m (pc + 1) ls rest)) : W p l e R s m args below meth c H locs cells slots Q (F0 m pc ls (.int v :: .int i :: .ref (ad Γ.2.2.1 q) :: rest)) := by
  obtain ⟨hx, hb, hml, hown, hts, hK⟩ := C0
  obtain ⟨n, hn, hi⟩ := okA_spec ho
  refine va_bast hx hb hK.1 h.1.2 wsL_D h.2 q 0 (wsL_at hn) (tysA_at _ 0 (by decide)) hi hdg (fun H1 locs1 hP1 _ hS1 => kk H1 locs1 (hs_set h hn (fun a ha => pI_ne ha) (fun a ha => rfl) ?_ hS1))
  show va_P _ _ (List.set _ _ (_, Sum.inl (_, _, Sum.inl ((pI d q i.toNatClampNeg (vp_nar .byte v)).1 q)))) _
  rw [pI_self]
  exact hP1
theorem r_zast (C0 : Ct Γ p s m args c cc nL own) (h : Hs Γ Λ d s H locs) {q : Nat} {i v : Int32} (ho : okA Λ q 3 i = true) (hdg : decode cc pc = .ok (.bastore, 1))
    (kk : ∀ (H : Heap) (locs : List Loc), Hs Γ Λ (pI d q i.toNatClampNeg (vp_nar .boolean v)) s H locs → W p l e R s m args below meth c H locs cells slots Q (F0 m (pc + 1) ls rest)) : W p l e R s m args below meth c H locs cells slots Q (F0 m pc ls (.int v :: .int i :: .ref (ad Γ.2.2.1 q) :: rest)) := by
  obtain ⟨hx, hb, hml, hown, hts, hK⟩ := C0
  obtain ⟨n, hn, hi⟩ := okA_spec ho
  refine va_zast hx hb hK.1 h.1.2 wsL_D h.2 q 3 (wsL_at hn) (tysA_at _ 3 (by decide)) hi hdg (fun H1 locs1 hP1 _ hS1 => kk H1 locs1 (hs_set h hn (fun a ha => pI_ne ha) (fun a ha => rfl) ?_ hS1))
  show va_P _ _ (List.set _ _ (_, Sum.inl (_, _, Sum.inl ((pI d q i.toNatClampNeg (vp_nar .boolean v)).1 q)))) _
  rw [pI_self]
  exact hP1
theorem r_last (C0 : Ct Γ p s m args c cc nL own) (h : Hs Γ Λ d s H locs) {q : Nat} {i : Int32} {v : Int64} (ho : okL Λ q i = true) (hdg : decode cc pc = .ok (.lastore, 1))
    (kk : ∀ (H : Heap) (locs : List Loc), Hs Γ Λ (pJ d q i.toNatClampNeg v) s H locs → W p l e R s m args below meth c H locs cells slots Q (F0 m (pc + 1) ls rest)) : W p l e R s m args below meth c H locs cells slots Q (F0 m pc ls (.long v :: .int i :: .ref (ad Γ.2.2.1 q) :: rest)) := by
  obtain ⟨hx, hb, hml, hown, hts, hK⟩ := C0
  obtain ⟨n, hn, hi⟩ := okL_spec ho
  refine va_last hx hb hK.1 h.1.2 wsL_D h.2 q 2 (wsL_at hn) (tysA_at _ 2 (by decide)) hi hdg (fun H1 locs1 hP1 _ hS1 => kk H1 locs1 (hs_set h hn (fun a ha => rfl) (fun a ha => pJ_ne ha) ?_ hS1))
  show va_P _ _ (List.set _ _ (_, Sum.inl (_, _, Sum.inr (Sum.inl ((pJ d q i.toNatClampNeg v).2 q))))) _
  rw [pJ_self]
  exact hP1
/-! returns -/
theorem r_iret {d' : Dt} {ty : FieldType} (C0 : Ct Γ p s m args c cc nL own) (hr : meth.sig.returnType = some ty) (hlocks : meth.locks = false) (h : Hs Γ Λ d s H locs) {v : Int32} (hn : narrow ty (.int v) = .int v) (hdg : decode cc pc = .ok (.ireturn, 1)) : W p l e R s m args below meth c H locs cells slots (MQ below (QN Γ Λ d (some (.int v))) args s cells slots (AP Γ)) (F0 m pc ls [.int v]) :=
  W.zret C0.1 C0.2.1 hr hn (fun t ht hW => ⟨⟨rfl, by rw [ht]; exact h.1⟩, h.2.F ht⟩) h.2.2.2 hdg hlocks
theorem r_lret (C0 : Ct Γ p s m args c cc nL own) (hr : meth.sig.returnType = some .long) (hlocks : meth.locks = false) (h : Hs Γ Λ d s H locs) {v : Int64} (hdg : decode cc pc = .ok (.lreturn, 1)) : W p l e R s m args below meth c H locs cells slots (MQ below (QN Γ Λ d (some (.long v))) args s cells slots (AP Γ)) (F0 m pc ls [.long v]) :=
  W.lret C0.1 C0.2.1 hr (fun t ht hW => ⟨⟨rfl, by rw [ht]; exact h.1⟩, h.2.F ht⟩) h.2.2.2 hdg hlocks
theorem r_vret (C0 : Ct Γ p s m args c cc nL own) (hr : meth.sig.returnType = none) (hlocks : meth.locks = false) (h : Hs Γ Λ d s H locs) (hdg : decode cc pc = .ok (.return_, 1)) : W p l e R s m args below meth c H locs cells slots (MQ below (QN Γ Λ d none) args s cells slots (AP Γ)) (F0 m pc ls []) :=
  W.vret C0.1 C0.2.1 hr (fun t ht hW => ⟨⟨rfl, by rw [ht]; exact h.1⟩, h.2.F ht⟩) h.2.2.2 hdg hlocks
theorem r_aret {rt : FieldType} (C0 : Ct Γ p s m args c cc nL own) (hr : meth.sig.returnType = some rt) (hrt : (∃ n, rt = .object n) ∨ ∃ t, rt = .array t) (hlocks : meth.locks = false) (h : Hs Γ Λ d s H locs) {a : Nat} (hdg : decode cc pc = .ok (.areturn, 1)) : W p l e R s m args below meth c H locs cells slots (MQ below (QN Γ Λ d (some (.ref a))) args s cells slots (AP Γ)) (F0 m pc ls [.ref a]) :=
  W.aret C0.1 C0.2.1 hr hrt (Or.inr ⟨a, rfl⟩) (fun t ht hW => ⟨⟨rfl, by rw [ht]; exact h.1⟩, h.2.F ht⟩) h.2.2.2 hdg hlocks
/-! calls -/
def yOk (y : MethodName) (n : Nat) : Prop := y.cls ≠ "java/lang/invoke/MethodHandle" ∧ y.cls ≠ "java/lang/invoke/VarHandle" ∧ (parseMethodDescriptor y.desc).map (fun d => d.parameters.length) = some n
/-- a static call's words -/
def CS (own : String) (idx : Nat) (y : MethodName) (b : ByteArray) (nL : Nat) (ret : Option FieldType) (n : Nat) : Prop := Cond.methodLink own idx y ∈ TB ∧ Cond.static y ∈ TB ∧ Cond.initialized y.cls ∈ TB ∧ Cond.code y b nL ret ∈ TB ∧ yOk y n
/-- a static call's words, of a nest mate -/
def CN (own : String) (idx : Nat) (y : MethodName) (b : ByteArray) (nL : Nat) (ret : Option FieldType) (n : Nat) : Prop := (∃ host, (own, idx, y, host) ∈ nestT) ∧ Cond.static y ∈ TB ∧ Cond.initialized y.cls ∈ TB ∧ Cond.code y b nL ret ∈ TB ∧ yOk y n
/-- a virtual call's words -/
def CV (own : String) (idx ci : Nat) (y : MethodName) (b : ByteArray) (nL : Nat) (ret : Option FieldType) (n : Nat) : Prop := Cond.methodLink own idx y ∈ TB ∧ Cond.instanceMethod y ∈ TB ∧ Cond.selects y.cls y y ∈ TB ∧ Cond.initialized y.cls ∈ TB ∧ Cond.code y b nL ret ∈ TB ∧ yOk y n ∧ ∃ q : vw_C, clsA[ci]? = some q ∧ q.1 = y.cls
theorem goodTB {y : MethodName} {b : ByteArray} {nL : Nat} {ret : Option FieldType} (h : Cond.code y b nL ret ∈ TB) : GoodIn TB (Cond.code y b nL ret :: TB) := by
  intro w hw
  have hw : w ∈ TB := by
    rcases List.mem_cons.mp hw with rfl | hw
    · exact h
    · exact hw
  exact ⟨hw, good_of_word (List.mem_filter.mp hw).2⟩
theorem blindKP {As : List Value} : FrameBlind (va_Pc As (fun U => KP Γ U ∧ HP Γ Λ d U.heap)) := fun a U g mk q => ⟨q.1, q.2.1.calling g mk a, q.2.2⟩
theorem r_call {st0 : List Value} {a : Array Value} {rv : Option Value} {d' : Dt} (hr : va_Run p l e R s m args below meth c H locs cells slots 0 0 (F0 m pc ls st0) rest (QN Γ Λ d' rv a) (AP Γ)) (h : Hs Γ Λ d s H locs)
    (kk : ∀ (H : Heap) (locs : List Loc), Hs Γ Λ d' s H locs → W p l e R s m args below meth c H locs cells slots Q (F0 m (pc + 3) ls (rv.toList ++ rest))) : W p l e R s m args below meth c H locs cells slots Q (F0 m pc ls st0) := by
  intro T hT X
  obtain ⟨v, st₀, t, T', L, h0, X', hL, e1, e2, ⟨⟨hv, hP1⟩, hz, hk⟩, st⟩ := hr T hT X
  cases hv
  rw [h0] at hz hk
  obtain ⟨t2, a1, b1⟩ := kk T'.heap (locs ++ L) ⟨by rw [e1]; exact hP1, Nat.le_trans h.2.1 (by rw [e1]; exact hz), fun q h1 h2 => by rw [e1, hk q (Nat.lt_of_lt_of_le h1 h.2.1) h2]; exact h.2.2.1 q h1 h2, fun q hq => by
      rcases List.mem_append.mp hq with h3 | h3
      · exact h.2.2.2 q h3
      · exact hL q h3⟩ T' rfl X'
  exact ⟨t2, st t2 a1, b1⟩
theorem r_callS {As st0 : List Value} {rv : Option Value} {d' : Dt} {y : MethodName} {b' : ByteArray} {nL' : Nat} {ret' : Option FieldType} {fr lo idx n : Nat} (C0 : Ct Γ p s m args c cc nL own) (h : Hs Γ Λ d s H locs) (hM : Cn Γ l y b' nL' ret' fr lo As Λ d rv d') (cs : CS own idx y b' nL' ret' n)
    (hR : fr + 1 ≤ R.frames ∧ 8 + (nL' + 11) + lo ≤ R.locals) (hn : As.length = n) (hls : ls.size = nL) (hst : st0 = As.reverse ++ rest) (hW : (rest.map fun v => v.category).sum ≤ 8) (hdg : decode cc pc = .ok (.invokestatic idx, 3)) (hcs : cells ≤ R.cells ∧ slots ≤ R.slots)
    (kk : ∀ (H : Heap) (locs : List Loc), Hs Γ Λ d' s H locs → W p l e R s m args below meth c H locs cells slots Q (F0 m (pc + 3) ls (rv.toList ++ rest))) : W p l e R s m args below meth c H locs cells slots Q (F0 m pc ls st0) := by
  obtain ⟨hx, hb, hml, hown, hts, hK⟩ := C0
  obtain ⟨w1, w2, w3, w4, w5⟩ := cs
  exact r_call (va_runS (As := As) (rest := rest) ⟨hx, hb, hml, hown, hts⟩ hM ⟨callB_of n hts (goodTB w4) rfl rfl rfl (hts _ w3) (hts _ w1) w5 hR, hts _ w2⟩ ⟨blindKP, fun U hU hWm => ⟨rfl, hK.go hWm hU h.2, by rw [hU]; exact h.1⟩⟩ rfl hn hls hst (lv_room hW) hdg hcs) h kk
theorem r_callN {As st0 : List Value} {rv : Option Value} {d' : Dt} {y : MethodName} {b' : ByteArray} {nL' : Nat} {ret' : Option FieldType} {fr lo idx n : Nat} (C0 : Ct Γ p s m args c cc nL own) (h : Hs Γ Λ d s H locs) (hM : Cn Γ l y b' nL' ret' fr lo As Λ d rv d') (cs : CN own idx y b' nL' ret' n)
    (hR : fr + 1 ≤ R.frames ∧ 8 + (nL' + 11) + lo ≤ R.locals) (hn : As.length = n) (hls : ls.size = nL) (hst : st0 = As.reverse ++ rest) (hW : (rest.map fun v => v.category).sum ≤ 8) (hdg : decode cc pc = .ok (.invokestatic idx, 3)) (hcs : cells ≤ R.cells ∧ slots ≤ R.slots)
    (kk : ∀ (H : Heap) (locs : List Loc), Hs Γ Λ d' s H locs → W p l e R s m args below meth c H locs cells slots Q (F0 m (pc + 3) ls (rv.toList ++ rest))) : W p l e R s m args below meth c H locs cells slots Q (F0 m pc ls st0) := by
  obtain ⟨hx, hb, hml, hown, hts, hK⟩ := C0
  obtain ⟨⟨host, w1⟩, w2, w3, w4, w5⟩ := cs
  exact r_call (va_runSN (As := As) (rest := rest) ⟨hx, hb, hml, hown, hts⟩ hM ⟨va_cnB n hts (goodTB w4) rfl rfl rfl (hK.2.1 _ w1) (hts _ w3) w5 hR, hts _ w2, trivial⟩ ⟨blindKP, fun U hU hWm => ⟨rfl, hK.go hWm hU h.2, by rw [hU]; exact h.1⟩⟩ rfl hn hls hst (lv_room hW) hdg hcs) h kk
theorem r_callV {As st0 : List Value} {rv : Option Value} {d' : Dt} {y : MethodName} {b' : ByteArray} {nL' : Nat} {ret' : Option FieldType} {fr lo idx n q ci : Nat} (C0 : Ct Γ p s m args c cc nL own) (h : Hs Γ Λ d s H locs) (hM : Cn Γ l y b' nL' ret' fr lo (.ref (ad Γ.2.2.1 q) :: As) Λ d rv d') (cs : CV own idx ci y b' nL' ret' n) (ho : clsAt Λ q = some ci)
    (hR : fr + 1 ≤ R.frames ∧ 8 + (nL' + 11) + lo ≤ R.locals) (hn : As.length = n) (hls : ls.size = nL) (hst : st0 = As.reverse ++ .ref (ad Γ.2.2.1 q) :: rest) (hW : (rest.map fun v => v.category).sum ≤ 8) (hdg : decode cc pc = .ok (.invokevirtual idx, 3)) (hcs : cells ≤ R.cells ∧ slots ≤ R.slots)
    (kk : ∀ (H : Heap) (locs : List Loc), Hs Γ Λ d' s H locs → W p l e R s m args below meth c H locs cells slots Q (F0 m (pc + 3) ls (rv.toList ++ rest))) : W p l e R s m args below meth c H locs cells slots Q (F0 m pc ls st0) := by
  obtain ⟨hx, hb, hml, hown, hts, hK⟩ := C0
  obtain ⟨w1, w2, w2', w3, w4, w5, q9, hc, hq9⟩ := cs
  obtain ⟨fs, hfs⟩ := clsAt_spec ho
  exact r_call (va_runV (C := y.cls) (As := As) (rest := rest) ⟨hx, hb, hml, hown, hts⟩ hM ⟨callB_of n hts (goodTB w4) rfl rfl rfl (hts _ w3) (hts _ w1) w5 hR, hts _ w2, hts _ w2'⟩ ⟨blindKP, by rw [← hq9]; exact va_recv hK.1 h.1.2 hc (wsL_at hfs), fun U hU hWm => ⟨rfl, hK.go hWm hU h.2, by rw [hU]; exact h.1⟩⟩ rfl hn hls hst (lv_room hW) hdg hcs) h kk
end LITE
