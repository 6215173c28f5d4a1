/-! ===== the light layer: making cells ===== -/
def zD (d : Dt) (q : Nat) : Dt := (fun a => if a = q then fun _ => 0 else d.1 a, fun a => if a = q then fun _ => 0 else d.2 a)
def dflF (n : Nat) : (Option Nat ⊕ Bool) := match n with
  | 0 => .inl none
  | 1 => .inr false
  | _ => .inr true
def dvv (n : Nat) : Value := match n with
  | 0 => .null
  | 1 => .int 0
  | _ => .long 0
def nwO (Λ : List Ly) (d : Dt) (ci : Nat) : Option (List Ly × Dt) := some (Λ ++ [.inl (ci, (shp ci).map dflF)], zD d Λ.length)
def nwA (Λ : List Ly) (d : Dt) (ti n : Nat) : Option (List Ly × Dt) := some (Λ ++ [.inr (ti, n, .inl (ti == 2))], zD d Λ.length)
def nwR (Λ : List Ly) (d : Dt) (ti n : Nat) : Option (List Ly × Dt) := some (Λ ++ [.inr (ti, n, .inr (List.replicate n none))], zD d Λ.length)
def pR (Λ : List Ly) (q ci k r : Nat) : Option (List Ly) := match Λ[q]? with
  | some (.inl o) => if o.1 = ci ∧ (shp ci)[k]? = some 0 then some (Λ.set q (.inl (ci, o.2.set k (.inl (some r))))) else none
  | _ => none
def aR (Λ : List Ly) (q ti : Nat) (i : Int32) (r : Nat) : Option (List Ly) := match Λ[q]? with
  | some (.inr (t, n, .inr l)) => if t = ti ∧ inb i n ∧ l.length = n then some (Λ.set q (.inr (ti, n, .inr (l.set i.toNatClampNeg (some r))))) else none
  | _ => none
theorem nwO_len {Λ : List Ly} {d : Dt} {ci : Nat} {z : List Ly × Dt} (h : nwO Λ d ci = some z) : z.1.length = Λ.length + 1 := by
  obtain rfl := Option.some.inj h
  simp
theorem nwA_len {Λ : List Ly} {d : Dt} {ti n : Nat} {z : List Ly × Dt} (h : nwA Λ d ti n = some z) : z.1.length = Λ.length + 1 := by
  obtain rfl := Option.some.inj h
  simp
theorem nwR_len {Λ : List Ly} {d : Dt} {ti n : Nat} {z : List Ly × Dt} (h : nwR Λ d ti n = some z) : z.1.length = Λ.length + 1 := by
  obtain rfl := Option.some.inj h
  simp
theorem pR_spec {Λ Λ' : List Ly} {q ci k r : Nat} (h : pR Λ q ci k r = some Λ') : ∃ fs, Λ[q]? = some (.inl (ci, fs)) ∧ (shp ci)[k]? = some 0 ∧ Λ' = Λ.set q (.inl (ci, fs.set k (.inl (some r)))) := by
  unfold pR at h
  split at h
  · rename_i o ho
    split at h
    · rename_i hc
      obtain ⟨rfl, hc⟩ := hc
      exact ⟨o.2, ho, hc, (Option.some.inj h).symm⟩
    · cases h
  · cases h
theorem aR_spec {Λ Λ' : List Ly} {q ti r : Nat} {i : Int32} (h : aR Λ q ti i r = some Λ') : ∃ n l, Λ[q]? = some (.inr (ti, n, .inr l)) ∧ inb i n ∧ l.length = n ∧ Λ' = Λ.set q (.inr (ti, n, .inr (l.set i.toNatClampNeg (some r)))) := by
  unfold aR at h
  split at h
  · rename_i t n l ho
    split at h
    · rename_i hc
      obtain ⟨rfl, h1, h2⟩ := hc
      exact ⟨n, l, ho, h1, h2, (Option.some.inj h).symm⟩
    · cases h
  · cases h
theorem pR_len {Λ Λ' : List Ly} {q ci k r : Nat} (h : pR Λ q ci k r = some Λ') : Λ'.length = Λ.length := by
  obtain ⟨_, _, _, rfl⟩ := pR_spec h
  simp
theorem aR_len {Λ Λ' : List Ly} {q ti r : Nat} {i : Int32} (h : aR Λ q ti i r = some Λ') : Λ'.length = Λ.length := by
  obtain ⟨_, _, _, _, _, rfl⟩ := aR_spec h
  simp
theorem zD_ne1 {d : Dt} {q a : Nat} (h : a ≠ q) : (zD d q).1 a = d.1 a := by simp [zD, h]
theorem zD_ne2 {d : Dt} {q a : Nat} (h : a ≠ q) : (zD d q).2 a = d.2 a := by simp [zD, h]
theorem wsL_push {cA : Nat → ClassId} {b : Nat × Bool} {Λ : List Ly} {d : Dt} (x : Ly) : wsL cA b (Λ ++ [x]) (zD d Λ.length) = wsL cA b Λ d ++ [(ad b Λ.length, cellL cA b (zD d Λ.length) Λ.length x)] := by
  unfold wsL
  rw [List.mapIdx_append]
  congr 1
  · apply List.ext_getElem?
    intro i
    rw [List.getElem?_mapIdx, List.getElem?_mapIdx]
    cases hi : Λ[i]? with
    | none => rfl
    | some y =>
      have hl : i < Λ.length := (List.getElem?_eq_some_iff.mp hi).1
      show some (ad b i, cellL cA b (zD d Λ.length) i y) = some (ad b i, cellL cA b d i y)
      rw [cellL_congr (zD_ne1 (by omega)) (zD_ne2 (by omega))]
  · simp
theorem wsL_setL {cA : Nat → ClassId} {b : Nat × Bool} {Λ : List Ly} {d : Dt} {q : Nat} {x' : Ly} : (wsL cA b Λ d).set q (ad b q, cellL cA b d q x') = wsL cA b (Λ.set q x') d := by
  apply List.ext_getElem?
  intro i
  unfold wsL
  rw [List.getElem?_set, List.length_mapIdx, List.getElem?_mapIdx, List.getElem?_mapIdx, List.getElem?_set]
  by_cases hi : q = i
  · subst hi
    by_cases hl : q < Λ.length
    · rw [if_pos rfl, if_pos hl, if_pos rfl, if_pos hl]
      rfl
    · rw [if_pos rfl, if_neg hl, if_pos rfl, if_neg hl]
      rfl
  · rw [if_neg hi, if_neg hi]
theorem place_of {D : va_G} {cl : List vw_C} {cA : Nat → ClassId} {b : Nat × Bool} {Λ : List Ly} {d : Dt} {q : Nat} {x : va_E} {H1 : Heap} (hf : b.2 = false) (hP : va_P D cl (wsL cA b Λ d ++ [(q, x)]) H1) (hD : va_D (fun q => b.1 ≤ q) (wsL cA b Λ d ++ [(q, x)])) (hz : H1.size ≤ b.1 + Λ.length + 1) : q = ad b Λ.length := by
  rw [ad_f hf]
  have hlen : (wsL cA b Λ d).length = Λ.length := by unfold wsL; rw [List.length_mapIdx]
  have hat : (wsL cA b Λ d ++ [(q, x)])[Λ.length]? = some (q, x) := by
    rw [List.getElem?_append_right (by omega), hlen]
    simp
  have h1 : b.1 ≤ q := hD.2 _ _ hat
  have h2 : q < H1.size := (hP _ _ hat).lt
  rcases Nat.lt_or_ge q (b.1 + Λ.length) with h3 | h3
  · exfalso
    have hj : q - b.1 < Λ.length := by omega
    obtain ⟨y, hy⟩ : ∃ y, Λ[q - b.1]? = some y := ⟨_, List.getElem?_eq_getElem hj⟩
    have h4 : (wsL cA b Λ d ++ [(q, x)])[q - b.1]? = some (ad b (q - b.1), cellL cA b d (q - b.1) y) := by
      rw [List.getElem?_append_left (by omega)]
      exact wsL_at hy
    have h5 := hD.1 _ _ _ _ h4 hat (by show ad b (q - b.1) = q; rw [ad_f hf]; omega)
    omega
  · omega
theorem shp_dfl (ci : Nat) : ((shp ci).map dflF).map kdF = shp ci := by
  match ci with
  | 0 => rfl
  | 1 => rfl
  | 2 => rfl
  | 3 => rfl
  | 4 => rfl
  | 5 => rfl
  | 6 => rfl
  | 7 => rfl
  | 8 => rfl
  | n + 9 => rfl
theorem WF_push {Λ : List Ly} (h : WFl Λ) {x : Ly} (hx : ∀ ci fs, x = .inl (ci, fs) → fs.map kdF = shp ci) : WFl (Λ ++ [x]) := by
  intro q ci fs hq
  rcases Nat.lt_or_ge q Λ.length with hl | hl
  · rw [List.getElem?_append_left hl] at hq
    exact h q ci fs hq
  · rw [List.getElem?_append_right hl] at hq
    have hz : q - Λ.length < 1 := (List.getElem?_eq_some_iff.mp hq).1
    rw [show q - Λ.length = 0 by omega] at hq
    exact hx ci fs (Option.some.inj hq)
theorem WF_set {Λ : List Ly} (h : WFl Λ) {q0 : Nat} {x : Ly} (hx : ∀ ci fs, x = .inl (ci, fs) → fs.map kdF = shp ci) : WFl (Λ.set q0 x) := by
  intro q ci fs hq
  rw [List.getElem?_set] at hq
  by_cases e : q0 = q
  · rw [if_pos e] at hq
    split at hq
    · exact hx ci fs (Option.some.inj hq)
    · cases hq
  · rw [if_neg e] at hq
    exact h q ci fs hq
theorem set_kd {fs : List (Option Nat ⊕ Bool)} {k : Nat} {r : Option Nat} {L : List Nat} (h : fs.map kdF = L) (hk : L[k]? = some 0) : (fs.set k (.inl r)).map kdF = L := by
  subst h
  apply List.ext_getElem?
  intro i
  rw [List.getElem?_map, List.getElem?_set, List.getElem?_map]
  by_cases e : k = i
  · subst e
    rw [List.getElem?_map] at hk
    cases hf : fs[k]? with
    | none => rw [hf] at hk; cases hk
    | some x =>
      rw [hf] at hk
      have hl : k < fs.length := (List.getElem?_eq_some_iff.mp hf).1
      rw [if_pos rfl, if_pos hl]
      exact hk.symm
  · rw [if_neg e]
/-- that arrays over the classes stand -/
def KA (U : State) : Prop := va_AO "SeasonBound$Child" U ∧ va_AO "SeasonBound$Season" U ∧ va_AO "SeasonBound$Sheet" U ∧ va_AO "SeasonBound$World" U
theorem KA.moved {u U : State} (hvm : u.vm.Alike U.vm) (h : KA u) : KA U := ⟨h.1.moved hvm, h.2.1.moved hvm, h.2.2.1.moved hvm, h.2.2.2.moved hvm⟩
/-- a maker's contract -/
def Ca (Γ : Cx) (l : Launch) (y : MethodName) (b : ByteArray) (nL : Nat) (fr lo mc ms : Nat) (As : List Value) (Λ : List Ly) (d : Dt) (Λ' : List Ly) (d' : Dt) : Prop :=
  Met l y (Cond.code y b nL none :: TB) { frames := fr, cells := mc, slots := ms, locals := lo } (va_Pc As (fun U => KP Γ U ∧ KA U ∧ HP Γ Λ d U.heap ∧ Sz Γ.2.2.1 U.heap.size Λ.length)) (QN Γ Λ' d' none) mc ms (AP Γ)
theorem Ca.of {Γ : Cx} {l : Launch} {y : MethodName} {b : ByteArray} {nL : Nat} {fr lo mc ms : Nat} {As : List Value} {Λ Λ' : List Ly} {d d' : Dt} {own : String} (hy : plainName y.cls = true) (ho : y.cls = own) (hyn : y.name = "<init>") (hlen : (lg_sl As).length ≤ nL)
    (body : ∀ (p : Program) (e : Env) (s : State) (m : MethodId) (below : List Frame) (meth : Method) (c : Code), Ct Γ p s m As.toArray c b nL own → KA s → Sz Γ.2.2.1 s.heap.size Λ.length → meth.name = "<init>" → meth.sig.returnType = none → meth.locks = false → Hs Γ Λ d s s.heap [] → ∀ ls : Array Slot, lv_has ls nL (lv_args 0 As) →
      W p l e { frames := fr, cells := mc, slots := ms, locals := lo } s m As.toArray below meth c s.heap [] 0 0 (MQ below (QN Γ Λ' d' none) As.toArray s mc ms (AP Γ)) (F0 m 0 ls [])) : Ca Γ l y b nL fr lo mc ms As Λ d Λ' d' := by
  refine Met.ofW (cc := b) (maxL := nL) (ret := none) hy rfl ?_
  intro p e s m args below meth c s₁ B hml hv
  obtain ⟨rfl, hK, hA, hP, hz⟩ := hv
  have hts := atoms_spec (ws := Cond.code y b nL none :: TB) B.pre
  have hown : s.vm.findClass own = some m.cls := by rw [← ho]; exact findClass_of_methodNamed B.named
  have hl := lv_entry As (n := nL) hlen
  have hin : meth.name = "<init>" := by rw [← hyn]; exact (name_of_methodNamed B.named B.method).1
  rw [lg_entry_eq]
  exact body p e s m below meth c ⟨B.exec, B.bytes, hml, hown, fun w h => hts w (List.mem_cons_of_mem _ h), hK⟩ hA hz hin B.returns B.notSynchronized ⟨hP, va_S.rf⟩ _ hl
/-- the words of 'new' -/
def NS (own : String) (idx ci n : Nat) : Prop := ∃ q : vw_C, clsA[ci]? = some q ∧ q.2.2 = n ∧ Cond.classLink own idx q.1 ∈ TB ∧ Cond.instantiable q.1 n ∈ TB ∧ Cond.initialized q.1 ∈ TB ∧ ∃ ty : Nat → FieldType, (∀ k, k < n → parseFieldDescriptor (q.2.1 k).2.2.1 = some (ty k)) ∧ ∀ j, j < n → defaultValue (ty j) = dvv ((shp ci).getD j 0) ∧ j < (shp ci).length
/-- a final field's link -/
def FF (own : String) (idx ci k : Nat) (ty : FieldType) : Prop := FL own idx ci k ∧ ∃ q : vw_C, clsA[ci]? = some q ∧ (q.2.1 k).2.2.2 = true ∧ (q.2.1 k).1 = own ∧ parseFieldDescriptor (q.2.1 k).2.2.1 = some ty ∧ (∀ j, j < q.2.2 → ∃ z, parseFieldDescriptor (q.2.1 j).2.2.1 = some z)
section ALLOC
variable {p : Program} {l : Launch} {e : Env} {R : Room} {s : State} {m : MethodId} {args : Array Value} {below : List Frame} {meth : Method} {c : Code} {H : Heap} {locs : List Loc} {cells slots : Nat} {Q : State → Prop}
variable {cc : ByteArray} {pc nL N : Nat} {ls : Array Slot} {rest : List Value} {own : String} {Γ : Cx} {Λ : List Ly} {d : Dt}
theorem dvv_at {b : Nat × Bool} {ci j : Nat} {q : Nat} {d : Dt} (hj : j < (shp ci).length) : dvv ((shp ci).getD j 0) = vp_V (((shp ci).map dflF).mapIdx (fun k x => fvL b (zD d q) q k x)) j := by
  unfold vp_V
  have h : (((shp ci).map dflF).mapIdx (fun k x => fvL b (zD d q) q k x))[j]? = some (fvL b (zD d q) q j (dflF ((shp ci).getD j 0))) := by
    rw [List.getElem?_mapIdx, List.getElem?_map, List.getElem?_eq_getElem hj]
    simp [hj]
  have h2 : (((shp ci).map dflF).mapIdx (fun k x => fvL b (zD d q) q k x)).getD j Value.null = fvL b (zD d q) q j (dflF ((shp ci).getD j 0)) := by
    rw [List.getD_eq_getElem?_getD (l := ((shp ci).map dflF).mapIdx (fun k x => fvL b (zD d q) q k x)), h]
    rfl
  rw [h2]
  generalize (shp ci).getD j 0 = v
  match v with
  | 0 => rfl
  | 1 => simp [dvv, dflF, fvL, zD]
  | n + 2 => simp [dvv, dflF, fvL, zD]
theorem r_new (C0 : Ct Γ p s m args c cc nL own) (h : Hs Γ Λ d s H locs) (hz : Sz Γ.2.2.1 s.heap.size N) (hn : Λ.length = N + cells) {ci n idx : Nat} {z : List Ly × Dt} (hw : nwO Λ d ci = some z) (ns : NS own idx ci n) (hcs : cells + 1 ≤ R.cells ∧ slots + n ≤ R.slots) (hdg : decode cc pc = .ok (.new idx, 3))
    (kk : ∀ H : Heap, Hs Γ z.1 z.2 s H locs → W p l e R s m args below meth c H locs (cells + 1) (slots + n) Q (F0 m (pc + 3) ls (.ref (ad Γ.2.2.1 Λ.length) :: rest))) : W p l e R s m args below meth c H locs cells slots Q (F0 m pc ls rest) := by
  obtain ⟨hz, hf⟩ := hz
  obtain ⟨hx, hb, hml, hown, hts, hK⟩ := C0
  obtain ⟨⟨C, T, N'⟩, hc, hN, w1, w2, w3, ty, hty, hdv⟩ := ns
  obtain rfl : N' = n := hN
  obtain rfl := Option.some.inj hw
  obtain ⟨⟨hwf, hP⟩, hS⟩ := h
  refine va_new (D := Γ.1) (cl := clsA) (ci := ci) (fs := ((shp ci).map dflF).mapIdx (fun k x => fvL Γ.2.2.1 (zD d Λ.length) Λ.length k x)) (C := C) (T := T) (N := N') hx hb hts (inTall ci _ hc) ty hty hown (hts _ w1) (hts _ w2) (hts _ w3) hK.1 hP (wsL_D (b := Γ.2.2.1)) hS (fun q hq => (by show Γ.2.2.1.1 ≤ q; omega)) hc (fun j hj => by rw [(hdv j hj).1]; exact dvv_at (hdv j hj).2) hcs.1 hcs.2 hdg (fun q H1 hP1 hD1 hS1 => ?_)
  intro T1 hT1 X1
  have hsz : H1.size ≤ Γ.2.2.1.1 + Λ.length + 1 := by
    have := X1.heapSize
    rw [hT1] at this
    omega
  obtain rfl := place_of hf hP1 hD1 hsz
  refine kk H1 ⟨⟨WF_push hwf (fun ci' fs' e9 => ?_), ?_⟩, hS1⟩ T1 hT1 X1
  · cases e9
    exact shp_dfl ci
  · show va_P _ _ (wsL Γ.2.1 Γ.2.2.1 (Λ ++ [.inl (ci, (shp ci).map dflF)]) (zD d Λ.length)) H1
    rw [wsL_push]
    exact hP1
theorem r_newA (C0 : Ct Γ p s m args c cc nL own) (h : Hs Γ Λ d s H locs) (hz : Sz Γ.2.2.1 s.heap.size N) (hn : Λ.length = N + cells) {ti n : Nat} {v : Int32} {z : List Ly × Dt} {atype : ArrayType} (hw : nwA Λ d ti n = some z) (hat : newarray.typeOf atype = tyA ti) (hti : ti < 4) (wa : Cond.arrayClass (tyA ti) ∈ TB) (hv : ¬ v < 0 ∧ v.toNatClampNeg = n ∧ n * componentBytes (tyA ti) ≤ 536870912) (hcs : cells + 1 ≤ R.cells ∧ slots + n ≤ R.slots) (hdg : decode cc pc = .ok (.newarray atype, 2))
    (kk : ∀ H : Heap, Hs Γ z.1 z.2 s H locs → W p l e R s m args below meth c H locs (cells + 1) (slots + n) Q (F0 m (pc + 2) ls (.ref (ad Γ.2.2.1 Λ.length) :: rest))) : W p l e R s m args below meth c H locs cells slots Q (F0 m pc ls (.int v :: rest)) := by
  obtain ⟨hz, hf⟩ := hz
  obtain ⟨hx, hb, hml, hown, hts, hK⟩ := C0
  obtain rfl := Option.some.inj hw
  obtain ⟨⟨hwf, hP⟩, hS⟩ := h
  have hcell : ∀ cA : ClassId, ∃ a0 : vp_A, vp_cell cA a0 = arrV cA n (fun _ => defaultValue (tyA ti)) ∧ (cA = Γ.2.1 ti → cellL Γ.2.1 Γ.2.2.1 (zD d Λ.length) Λ.length (.inr (ti, n, .inl (ti == 2))) = .inl (cA, a0)) ∧ a0 = if ti = 2 then (n, .inr (.inl (fun _ => 0))) else (n, .inl (fun _ => 0)) := by
    intro cA
    refine ⟨_, ?_, ?_, rfl⟩
    · match ti, hti with
      | 0, _ => rfl
      | 1, _ => rfl
      | 2, _ => rfl
      | 3, _ => rfl
    · intro e1
      subst e1
      match ti, hti with
      | 0, _ => simp [cellL, zD]
      | 1, _ => simp [cellL, zD]
      | 2, _ => simp [cellL, zD]
      | 3, _ => simp [cellL, zD]
  generalize ha0 : (if ti = 2 then ((n, .inr (.inl (fun _ => 0))) : vp_A) else (n, .inl (fun _ => 0))) = a0 at hcell
  refine va_newa (D := Γ.1) (cl := clsA) (a0 := a0) hx hb (by rw [hat]; exact hts _ wa) hat hK.1 hP (wsL_D (b := Γ.2.2.1)) hS (fun q hq => (by show Γ.2.2.1.1 ≤ q; omega)) (N' := n) (fun cA => ?_) hv.1 hv.2.1 hv.2.2 hcs.1 hcs.2 hdg (fun q cA H1 hK1 hP1 hD1 hS1 => ?_)
  · obtain ⟨a1, h1, -, h3⟩ := hcell cA
    rw [← h3]
    exact h1
  intro T1 hT1 X1
  have hsz : H1.size ≤ Γ.2.2.1.1 + Λ.length + 1 := by
    have := X1.heapSize
    rw [hT1] at this
    omega
  obtain rfl := place_of hf hP1 hD1 hsz
  have hcA : cA = Γ.2.1 ti := by
    have e1 := (hK1.2 8 (cA, tyA ti) rfl).2
    have e2 := (hK.1.2 ti _ (tysA_at Γ.2.1 ti (by omega))).2
    match ti, hti with
    | 0, _ => exact Option.some.inj (Eq.trans (Eq.symm e1) e2)
    | 1, _ => exact Option.some.inj (Eq.trans (Eq.symm e1) e2)
    | 2, _ => exact Option.some.inj (Eq.trans (Eq.symm e1) e2)
    | 3, _ => exact Option.some.inj (Eq.trans (Eq.symm e1) e2)
  refine kk H1 ⟨⟨WF_push hwf (fun ci' fs' e9 => by cases e9), ?_⟩, hS1⟩ T1 hT1 X1
  show va_P _ _ (wsL Γ.2.1 Γ.2.2.1 (Λ ++ [.inr (ti, n, .inl (ti == 2))]) (zD d Λ.length)) H1
  obtain ⟨a1, -, h2, h3⟩ := hcell cA
  rw [wsL_push, h2 hcA, h3]
  exact hP1
theorem r_newR (C0 : Ct Γ p s m args c cc nL own) (h : Hs Γ Λ d s H locs) (hz : Sz Γ.2.2.1 s.heap.size N) (hn : Λ.length = N + cells) {ti n idx : Nat} {v : Int32} {C : String} {z : List Ly × Dt} (hw : nwR Λ d ti n = some z) (hti : ti < 8) (hty : tyA ti = .object C) (wl : Cond.classLink own idx C ∈ TB) (ho : va_AO C s) (hv : ¬ v < 0 ∧ v.toNatClampNeg = n ∧ n * 4 ≤ 536870912) (hcs : cells + 1 ≤ R.cells ∧ slots + n ≤ R.slots) (hdg : decode cc pc = .ok (.anewarray idx, 3))
    (kk : ∀ H : Heap, Hs Γ z.1 z.2 s H locs → W p l e R s m args below meth c H locs (cells + 1) (slots + n) Q (F0 m (pc + 3) ls (.ref (ad Γ.2.2.1 Λ.length) :: rest))) : W p l e R s m args below meth c H locs cells slots Q (F0 m pc ls (.int v :: rest)) := by
  obtain ⟨hz, hf⟩ := hz
  obtain ⟨hx, hb, hml, hown, hts, hK⟩ := C0
  obtain rfl := Option.some.inj hw
  obtain ⟨⟨hwf, hP⟩, hS⟩ := h
  refine va_newq (D := Γ.1) (cl := clsA) (C := C) hx hb hown (hts _ wl) ho hK.1 hP (wsL_D (b := Γ.2.2.1)) hS (fun q hq => (by show Γ.2.2.1.1 ≤ q; omega)) (N' := n) hv.1 hv.2.1 hv.2.2 hcs.1 hcs.2 hdg (fun q cA H1 hK1 hP1 hD1 hS1 => ?_)
  intro T1 hT1 X1
  have hsz : H1.size ≤ Γ.2.2.1.1 + Λ.length + 1 := by
    have := X1.heapSize
    rw [hT1] at this
    omega
  obtain rfl := place_of hf hP1 hD1 hsz
  have hcA : cA = Γ.2.1 ti := by
    obtain ⟨_, _, _, _, _, e1⟩ := (hK1.2 8 (cA, .object C) rfl).2
    have e2 := (hK.1.2 ti _ (tysA_at Γ.2.1 ti hti)).2
    rw [hty] at e2
    obtain ⟨_, _, _, _, _, e2⟩ := e2
    exact Option.some.inj (Eq.trans (Eq.symm e1) e2)
  refine kk H1 ⟨⟨WF_push hwf (fun ci' fs' e9 => by cases e9), ?_⟩, hS1⟩ T1 hT1 X1
  show va_P _ _ (wsL Γ.2.1 Γ.2.2.1 (Λ ++ [.inr (ti, n, .inr (List.replicate n none))]) (zD d Λ.length)) H1
  rw [wsL_push]
  subst hcA
  have hfun : (fun j => ((List.replicate n (none : Option Nat)).getD j none).map (fun z => ad Γ.2.2.1 z)) = fun _ => (none : Option Nat) := by
    funext j
    have : (List.replicate n (none : Option Nat)).getD j none = none := by
      rw [List.getD_eq_getElem?_getD, List.getElem?_replicate]
      split <;> rfl
    rw [this]
    rfl
  show va_P _ _ (_ ++ [(_, Sum.inl (_, _, Sum.inr (Sum.inr (Sum.inr (Sum.inr (fun j => ((List.replicate n (none : Option Nat)).getD j none).map (fun z => ad Γ.2.2.1 z)))))))]) H1
  rw [hfun]
  exact hP1
theorem r_putr (C0 : Ct Γ p s m args c cc nL own) (hin : meth.name = "<init>") (h : Hs Γ Λ d s H locs) {q ci k idx r : Nat} {Λ' : List Ly} {ty : FieldType} (ff : FF own idx ci k ty) (hw : pR Λ q ci k r = some Λ') (hnr : ∀ a, narrow ty (.ref a) = .ref a) (hft : ∀ a, fits ty (.ref a) = true) (hdg : decode cc pc = .ok (.putfield idx, 3))
    (kk : ∀ (H : Heap) (locs : List Loc), Hs Γ Λ' d s H locs → W p l e R s m args below meth c H locs cells slots Q (F0 m (pc + 3) ls rest)) : W p l e R s m args below meth c H locs cells slots Q (F0 m pc ls (.ref (ad Γ.2.2.1 r) :: .ref (ad Γ.2.2.1 q) :: rest)) := by
  obtain ⟨hx, hb, hml, hown, hts, hK⟩ := C0
  obtain ⟨⟨hwf, hP⟩, hS⟩ := h
  obtain ⟨fs, hfs, hk, rfl⟩ := pR_spec hw
  obtain ⟨fl, q9, hc9, hfin, hdecl, hty, htys⟩ := ff
  obtain ⟨⟨C, T, N⟩, hc, hkN, hlink⟩ := fl
  cases (hc.symm.trans hc9)
  obtain ⟨ty0, hty0⟩ := tyOf (q := (C, T, N)) htys
  obtain ⟨x, hx1, hx2⟩ := kd_at (hwf q ci fs hfs) hk
  have hkl : k < fs.length := (List.getElem?_eq_some_iff.mp hx1).1
  have hl : k < (fs.mapIdx (fun k x => fvL Γ.2.2.1 d q k x)).length := by rw [List.length_mapIdx]; exact hkl
  refine va_putF (D := Γ.1) (ci := ci) (v := .ref (ad Γ.2.2.1 r)) (ty := ty) (C := C) (T := T) (N := N) (fs := fs.mapIdx (fun k x => fvL Γ.2.2.1 d q k x)) hx hb hts (inTall ci _ hc) ty0 hty0 (nmAll ci _ hc) hown hK.1 hP (wsL_D (b := Γ.2.2.1)) hS q (wsL_at hfs) hc k hkN (hts _ hlink) (fun _ h9 => h9) hfin hin hdecl hty (hnr _) (hft _) hl hdg (fun H1 locs1 hP1 _ hS1 => kk H1 locs1 ⟨⟨WF_set hwf (fun ci' fs' e9 => ?_), ?_⟩, hS1⟩)
  · cases e9
    exact set_kd (hwf q ci fs hfs) hk
  · rw [← wsL_setL]
    have he : cellL Γ.2.1 Γ.2.2.1 d q (.inl (ci, fs.set k (.inl (some r)))) = .inr (ci, (fs.mapIdx (fun k x => fvL Γ.2.2.1 d q k x)).set k (.ref (ad Γ.2.2.1 r))) := by
      show Sum.inr (ci, (fs.set k (.inl (some r))).mapIdx (fun k' x => fvL Γ.2.2.1 d q k' x)) = _
      congr 2
      apply List.ext_getElem?
      intro i
      rw [List.getElem?_set, List.length_mapIdx, List.getElem?_mapIdx, List.getElem?_mapIdx, List.getElem?_set]
      by_cases e9 : k = i
      · subst e9
        rw [if_pos rfl, if_pos hkl, if_pos rfl, if_pos hkl]
        rfl
      · rw [if_neg e9, if_neg e9]
    rw [he]
    exact hP1
theorem r_aast (C0 : Ct Γ p s m args c cc nL own) (h : Hs Γ Λ d s H locs) {q ti ci r : Nat} {i : Int32} {Λ' : List Ly} {qc : vw_C} (hw : aR Λ q ti i r = some Λ') (hti : ti < 8) (hc : clsA[ci]? = some qc) (hty : tyA ti = .object qc.1) (ho : clsAt Λ r = some ci) (hdg : decode cc pc = .ok (.aastore, 1))
    (kk : ∀ (H : Heap) (locs : List Loc), Hs Γ Λ' d s H locs → W p l e R s m args below meth c H locs cells slots Q (F0 m (pc + 1) ls rest)) : W p l e R s m args below meth c H locs cells slots Q (F0 m pc ls (.ref (ad Γ.2.2.1 r) :: .int i :: .ref (ad Γ.2.2.1 q) :: rest)) := by
  obtain ⟨hx, hb, hml, hown, hts, hK⟩ := C0
  obtain ⟨⟨hwf, hP⟩, hS⟩ := h
  obtain ⟨n, lst, hq, hi, hll, rfl⟩ := aR_spec hw
  obtain ⟨fs, hfs⟩ := clsAt_spec ho
  refine va_astq (D := Γ.1) (cl := clsA) hx hb hK.1 hP (wsL_D (b := Γ.2.2.1)) hS q ti r ci (wsL_at hq) (by rw [tysA_at _ ti hti, hty]) (wsL_at hfs) hc hi hdg (fun H1 locs1 hP1 _ hS1 => kk H1 locs1 ⟨⟨WF_set hwf (fun ci' fs' e9 => by cases e9), ?_⟩, hS1⟩)
  rw [← wsL_setL]
  have hlt : i.toNatClampNeg < lst.length := by rw [hll]; exact Nat.not_le.mp fun q => hi (Or.inr q)
  have hfun : (fun j => ((lst.set i.toNatClampNeg (some r)).getD j none).map (fun z => ad Γ.2.2.1 z)) = va_up (fun j => (lst.getD j none).map (fun z => ad Γ.2.2.1 z)) i.toNatClampNeg (some (ad Γ.2.2.1 r)) := by
    funext j
    by_cases e9 : j = i.toNatClampNeg
    · subst e9
      simp [va_up, hlt]
    · rw [va_up_ne _ _ e9, List.getD_eq_getElem?_getD, List.getElem?_set, if_neg (fun h => e9 h.symm), ← List.getD_eq_getElem?_getD]
  show va_P _ _ (List.set _ _ (_, Sum.inl (_, _, Sum.inr (Sum.inr (Sum.inr (Sum.inr (fun j => ((lst.set i.toNatClampNeg (some r)).getD j none).map (fun z => ad Γ.2.2.1 z)))))))) H1
  rw [hfun]
  exact hP1
theorem r_oinit (C0 : Ct Γ p s m args c cc nL own) {idx a : Nat} (wl : Cond.methodLink own idx Lib.objectInit ∈ TB ∧ Cond.instanceMethod Lib.objectInit ∈ TB ∧ Cond.code Lib.objectInit ⟨#[0xb1]⟩ 1 none ∈ TB) (hls : ls.size = nL) (hfr : 1 ≤ R.frames) (hlo : (rest.map fun v => v.category).sum + 12 ≤ R.locals) (hdg : decode cc pc = .ok (.invokespecial idx, 3))
    (kk : W p l e R s m args below meth c H locs cells slots Q (F0 m (pc + 3) ls rest)) : W p l e R s m args below meth c H locs cells slots Q (F0 m pc ls (.ref a :: rest)) := by
  obtain ⟨hx, hb, hml, hown, hts, hK⟩ := C0
  exact W.objInit hx hb hown (hts _ wl.1) (hts _ wl.2.1) (hts _ wl.2.2) rfl (by rw [hml]; exact hls) rfl hdg hfr (by show 2 * 0 + _ + 12 ≤ _; omega) kk
/-- a constructor call's words -/
def CI (own : String) (idx : Nat) (y : MethodName) (b : ByteArray) (nL n : Nat) : Prop := Cond.methodLink own idx y ∈ TB ∧ Cond.instanceMethod y ∈ TB ∧ Cond.initialized y.cls ∈ TB ∧ Cond.code y b nL none ∈ TB ∧ yOk y n ∧ y.name = "<init>"
/-- .. of a nest mate -/
def CJ (own : String) (idx : Nat) (y : MethodName) (b : ByteArray) (nL n : Nat) : Prop := (∃ host, (own, idx, y, host) ∈ nestT) ∧ Cond.instanceMethod y ∈ TB ∧ Cond.initialized y.cls ∈ TB ∧ Cond.code y b nL none ∈ TB ∧ yOk y n ∧ y.name = "<init>"
theorem blindCa {As : List Value} : FrameBlind (va_Pc As (fun U => KP Γ U ∧ KA U ∧ HP Γ Λ d U.heap ∧ Sz Γ.2.2.1 U.heap.size Λ.length)) := fun a U g mk q => ⟨q.1, q.2.1.calling g mk a, KA.moved (u := U) (U := U.calling g mk a) (Vm.Alike.refl U.vm) q.2.2.1, q.2.2.2⟩
theorem lo_size (h : Hs Γ Λ d s H locs) (hz : Sz Γ.2.2.1 s.heap.size N) (hn : Λ.length = N + cells) (hu : H.size ≤ s.heap.size + cells) : Sz Γ.2.2.1 H.size Λ.length := by
  obtain ⟨hz, hf⟩ := hz
  refine ⟨?_, hf⟩
  rcases Nat.eq_zero_or_pos Λ.length with h0 | h0
  · have := h.2.1
    omega
  · have hl : Λ.length - 1 < Λ.length := by omega
    have h1 := (h.1.2 _ _ (wsL_at (cA := Γ.2.1) (b := Γ.2.2.1) (d := d) (List.getElem?_eq_getElem hl))).lt
    dsimp only at h1
    rw [ad_f hf] at h1
    omega
theorem r_callA {st0 : List Value} {a : Array Value} {Λ' : List Ly} {d' : Dt} {mc ms : Nat} (hr : va_Run p l e R s m args below meth c H locs cells slots mc ms (F0 m pc ls st0) rest (QN Γ Λ' d' none a) (AP Γ)) (h : Hs Γ Λ d s H locs)
    (kk : ∀ (H : Heap) (locs : List Loc), Hs Γ Λ' d' s H locs → W p l e R s m args below meth c H locs (cells + mc) (slots + ms) Q (F0 m (pc + 3) ls rest)) : W p l e R s m args below meth c H locs cells slots Q (F0 m pc ls st0) := by
  intro T hT X
  obtain ⟨v, st₀, t, T', L, h0, X', hL, e1, e2, ⟨⟨hv, hP1⟩, hz, hk⟩, st⟩ := hr T hT X
  cases hv
  rw [h0] at hz hk
  obtain ⟨t2, a1, b1⟩ := kk T'.heap (locs ++ L) ⟨by rw [e1]; exact hP1, Nat.le_trans h.2.1 (by rw [e1]; exact hz), fun q h1 h2 => by rw [e1, hk q (Nat.lt_of_lt_of_le h1 h.2.1) h2]; exact h.2.2.1 q h1 h2, fun q hq => by
      rcases List.mem_append.mp hq with h3 | h3
      · exact h.2.2.2 q h3
      · exact hL q h3⟩ T' rfl X'
  exact ⟨t2, st t2 a1, b1⟩
theorem r_callI {As st0 : List Value} {Λ' : List Ly} {d' : Dt} {y : MethodName} {b' : ByteArray} {nL' fr lo mc ms idx n q : Nat} (C0 : Ct Γ p s m args c cc nL own) (hA : KA s) (h : Hs Γ Λ d s H locs) (hz : Sz Γ.2.2.1 s.heap.size N) (hl : Λ.length = N + cells) (hM : Ca Γ l y b' nL' fr lo mc ms (.ref (ad Γ.2.2.1 q) :: As) Λ d Λ' d') (cs : CI own idx y b' nL' n)
    (hR : fr + 1 ≤ R.frames ∧ 8 + (nL' + 11) + lo ≤ R.locals) (hn : As.length = n) (hls : ls.size = nL) (hst : st0 = As.reverse ++ .ref (ad Γ.2.2.1 q) :: rest) (hW : (rest.map fun v => v.category).sum ≤ 8) (hdg : decode cc pc = .ok (.invokespecial idx, 3)) (hcs : cells + mc ≤ R.cells ∧ slots + ms ≤ R.slots)
    (kk : ∀ (H : Heap) (locs : List Loc), Hs Γ Λ' d' s H locs → W p l e R s m args below meth c H locs (cells + mc) (slots + ms) Q (F0 m (pc + 3) ls rest)) : W p l e R s m args below meth c H locs cells slots Q (F0 m pc ls st0) := by
  obtain ⟨hx, hb, hml, hown, hts, hK⟩ := C0
  obtain ⟨w1, w2, w3, w4, w5, w6⟩ := cs
  intro T hT X
  have hu := X.heapSize
  rw [hT] at hu
  have hsz := lo_size h hz hl hu
  exact r_callA (va_runI (As := As) (rest := rest) ⟨hx, hb, hml, hown, hts⟩ hM ⟨callB_of n hts (goodTB w4) rfl rfl rfl (hts _ w3) (hts _ w1) w5 hR, w6, hts _ w2⟩ ⟨blindCa, fun U hU hWm => ⟨rfl, hK.go hWm hU h.2, KA.moved hWm.alike hA, by rw [hU]; exact h.1, by rw [hU]; exact hsz⟩⟩ rfl hn hls hst (lv_room hW) hdg hcs) h kk T hT X
theorem r_callJ {As st0 : List Value} {Λ' : List Ly} {d' : Dt} {y : MethodName} {b' : ByteArray} {nL' fr lo mc ms idx n q : Nat} (C0 : Ct Γ p s m args c cc nL own) (hA : KA s) (h : Hs Γ Λ d s H locs) (hz : Sz Γ.2.2.1 s.heap.size N) (hl : Λ.length = N + cells) (hM : Ca Γ l y b' nL' fr lo mc ms (.ref (ad Γ.2.2.1 q) :: As) Λ d Λ' d') (cs : CJ own idx y b' nL' n)
    (hR : fr + 1 ≤ R.frames ∧ 8 + (nL' + 11) + lo ≤ R.locals) (hn : As.length = n) (hls : ls.size = nL) (hst : st0 = As.reverse ++ .ref (ad Γ.2.2.1 q) :: rest) (hW : (rest.map fun v => v.category).sum ≤ 8) (hdg : decode cc pc = .ok (.invokespecial idx, 3)) (hcs : cells + mc ≤ R.cells ∧ slots + ms ≤ R.slots)
    (kk : ∀ (H : Heap) (locs : List Loc), Hs Γ Λ' d' s H locs → W p l e R s m args below meth c H locs (cells + mc) (slots + ms) Q (F0 m (pc + 3) ls rest)) : W p l e R s m args below meth c H locs cells slots Q (F0 m pc ls st0) := by
  obtain ⟨hx, hb, hml, hown, hts, hK⟩ := C0
  obtain ⟨⟨host, w1⟩, w2, w3, w4, w5, w6⟩ := cs
  intro T hT X
  have hu := X.heapSize
  rw [hT] at hu
  have hsz := lo_size h hz hl hu
  exact r_callA (va_runIN (As := As) (rest := rest) ⟨hx, hb, hml, hown, hts⟩ hM ⟨va_cnB n hts (goodTB w4) rfl rfl rfl (hK.2.1 _ w1) (hts _ w3) w5 hR, w6, hts _ w2⟩ ⟨blindCa, fun U hU hWm => ⟨rfl, hK.go hWm hU h.2, KA.moved hWm.alike hA, by rw [hU]; exact h.1, by rw [hU]; exact hsz⟩⟩ rfl hn hls hst (lv_room hW) hdg hcs) h kk T hT X
end ALLOC
