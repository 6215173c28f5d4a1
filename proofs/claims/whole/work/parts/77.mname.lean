/-! ===== text: the reference's names ===== -/
section MNM
variable {b : Nat → Nat} {n : Nat}
theorem nA_iff {s e l c0 c1 c2 c3 : Nat} : nA b s e l c0 c1 c2 c3 = true ↔ e - s = l ∧ b s = c0 ∧ b (s + 1) = c1 ∧ b (s + 2) = c2 ∧ b (s + 3) = c3 := decide_eq_true_iff
theorem m_bi {d : Dt} {s i : Nat} (hX : TpM b n d) (h : s + i < n) : f_X9_byteAt L0 d 78 (nI s + nI i) = some (nI (b (s + i))) := by
  have hn := hX.1
  rw [nI_add, m_by hX (by omega), if_pos h]
theorem b_ne {d : Dt} {j c : Nat} (hX : TpM b n d) (hj : j < n) (hc : c < 128) (h : ¬ b j = c) : ¬ nI (b j) = nI c := fun q => h (nI_inj (by have := (hX.2.1 j hj).1; omega) (by omega) q)
theorem m_is {d : Dt} {s e l c0 c1 c2 c3 : Nat} (hX : TpM b n d) (h7 : d.1 78 7 = nI e) (h8 : d.1 78 8 = nI s) (hse : s ≤ e) (he : e ≤ n) (hl : 4 ≤ l) (hl2 : l < 10) (k0 : c0 < 128) (k1 : c1 < 128) (k2 : c2 < 128) (k3 : c3 < 128) : f_X9_is L0 d 78 (nI l) (nI c0) (nI c1) (nI c2) (nI c3) = some (if nA b s e l c0 c1 c2 c3 = true then 1 else 0) := by
  have hn := hX.1
  unfold f_X9_is
  rw [M_cls, if_pos rfl, h7, h8, nI_sub hse]
  by_cases g : e - s = l
  · rw [if_pos (by rw [g]), show f_X9_byteAt L0 d 78 (nI s) = _ from m_by hX (by omega), Option.bind_some, if_pos (show s < n by omega)]
    by_cases g0 : b s = c0
    · rw [if_pos (by rw [g0]), show f_X9_byteAt L0 d 78 (nI s + (1 : Int32)) = _ from m_bi (i := 1) hX (by omega), Option.bind_some]
      by_cases g1 : b (s + 1) = c1
      · rw [if_pos (by rw [g1]), show f_X9_byteAt L0 d 78 (nI s + (2 : Int32)) = _ from m_bi (i := 2) hX (by omega), Option.bind_some]
        by_cases g2 : b (s + 2) = c2
        · rw [if_pos (by rw [g2]), show f_X9_byteAt L0 d 78 (nI s + (3 : Int32)) = _ from m_bi (i := 3) hX (by omega), Option.bind_some]
          by_cases g3 : b (s + 3) = c3
          · rw [if_pos (by rw [g3]), if_pos (nA_iff.mpr ⟨g, g0, g1, g2, g3⟩)]
          · rw [if_neg (b_ne hX (by omega) k3 g3), if_neg (fun h => g3 (nA_iff.mp h).2.2.2.2)]
        · rw [if_neg (b_ne hX (by omega) k2 g2), if_neg (fun h => g2 (nA_iff.mp h).2.2.2.1)]
      · rw [if_neg (b_ne hX (by omega) k1 g1), if_neg (fun h => g1 (nA_iff.mp h).2.2.1)]
    · rw [if_neg (b_ne hX (by omega) k0 g0), if_neg (fun h => g0 (nA_iff.mp h).2.1)]
  · rw [if_neg (fun q => g (nI_inj (by omega) (by omega) q)), if_neg (fun h => g (nA_iff.mp h).1)]
theorem m_end1 {d : Dt} {s a : Nat} (hX : TpM b n d) (h8 : d.1 78 8 = nI s) (hs : s + 5 ≤ n) (ka : a < 128) : f_X9_ends L0 d 78 (nI a) (0 : Int32) = some (if nE1 b s a = true then 1 else 0) := by
  unfold f_X9_ends
  rw [M_cls, if_pos rfl, h8, show f_X9_byteAt L0 d 78 (nI s + (4 : Int32)) = _ from m_bi (i := 4) hX (by omega), Option.bind_some]
  by_cases g : b (s + 4) = a
  · rw [if_pos (by rw [g]), if_pos rfl, if_pos (show nE1 b s a = true from decide_eq_true g)]
  · rw [if_neg (b_ne hX (by omega) ka g), if_neg (show ¬ nE1 b s a = true from fun h => g (of_decide_eq_true h))]
theorem m_end2 {d : Dt} {s a c : Nat} (hX : TpM b n d) (h8 : d.1 78 8 = nI s) (hs : s + 6 ≤ n) (ka : a < 128) (kc : c < 128) (kc0 : 0 < c) : f_X9_ends L0 d 78 (nI a) (nI c) = some (if nE2 b s a c = true then 1 else 0) := by
  unfold f_X9_ends
  rw [M_cls, if_pos rfl, h8, show f_X9_byteAt L0 d 78 (nI s + (4 : Int32)) = _ from m_bi (i := 4) hX (by omega), Option.bind_some]
  by_cases g : b (s + 4) = a
  · rw [if_pos (by rw [g]), if_neg (nI_ne0 kc0 (by omega)), show f_X9_byteAt L0 d 78 (nI s + (5 : Int32)) = _ from m_bi (i := 5) hX (by omega), Option.bind_some]
    by_cases g2 : b (s + 5) = c
    · rw [if_pos (by rw [g2]), if_pos (show nE2 b s a c = true from decide_eq_true ⟨g, g2⟩)]
    · rw [if_neg (b_ne hX (by omega) kc g2), if_neg (show ¬ nE2 b s a c = true from fun h => g2 (of_decide_eq_true h).2)]
  · rw [if_neg (b_ne hX (by omega) ka g), if_neg (show ¬ nE2 b s a c = true from fun h => g (of_decide_eq_true h).1)]
theorem m_w6 {d : Dt} {s e c0 c1 c2 c3 c4 c5 : Nat} {X : Option Int32} {v : Int32} (hX : TpM b n d) (h7 : d.1 78 7 = nI e) (h8 : d.1 78 8 = nI s) (hse : s ≤ e) (he : e ≤ n) (k0 : c0 < 128) (k1 : c1 < 128) (k2 : c2 < 128) (k3 : c3 < 128) (k4 : c4 < 128) (k5 : c5 < 128) (k6 : 0 < c5) : (Option.bind (f_X9_is L0 d 78 (nI 6) (nI c0) (nI c1) (nI c2) (nI c3)) fun z => if z = 0 then X else (Option.bind (f_X9_ends L0 d 78 (nI c4) (nI c5)) fun z' => if z' = 0 then X else (some v))) = if (nA b s e 6 c0 c1 c2 c3 && nE2 b s c4 c5) = true then some v else X := by
  rw [m_is hX h7 h8 hse he (by omega) (by omega) k0 k1 k2 k3, Option.bind_some]
  by_cases h : nA b s e 6 c0 c1 c2 c3 = true
  · have hl := (nA_iff.mp h).1
    rw [if_pos h, if_neg one_ne, m_end2 hX h8 (by omega) k4 k5 k6, Option.bind_some, h]
    by_cases h' : nE2 b s c4 c5 = true
    · rw [if_pos h', if_neg one_ne, if_pos (show (true && nE2 b s c4 c5) = true from h')]
    · rw [if_neg h', if_pos rfl, if_neg (show ¬ (true && nE2 b s c4 c5) = true from h')]
  · rw [if_neg h, if_pos rfl, if_neg (fun q => h (Bool.and_eq_true .. ▸ q).1)]
theorem m_w5 {d : Dt} {s e c0 c1 c2 c3 c4 : Nat} {X : Option Int32} {v : Int32} (hX : TpM b n d) (h7 : d.1 78 7 = nI e) (h8 : d.1 78 8 = nI s) (hse : s ≤ e) (he : e ≤ n) (k0 : c0 < 128) (k1 : c1 < 128) (k2 : c2 < 128) (k3 : c3 < 128) (k4 : c4 < 128) : (Option.bind (f_X9_is L0 d 78 (nI 5) (nI c0) (nI c1) (nI c2) (nI c3)) fun z => if z = 0 then X else (Option.bind (f_X9_ends L0 d 78 (nI c4) (0 : Int32)) fun z' => if z' = 0 then X else (some v))) = if (nA b s e 5 c0 c1 c2 c3 && nE1 b s c4) = true then some v else X := by
  rw [m_is hX h7 h8 hse he (by omega) (by omega) k0 k1 k2 k3, Option.bind_some]
  by_cases h : nA b s e 5 c0 c1 c2 c3 = true
  · have hl := (nA_iff.mp h).1
    rw [if_pos h, if_neg one_ne, m_end1 hX h8 (by omega) k4, Option.bind_some, h]
    by_cases h' : nE1 b s c4 = true
    · rw [if_pos h', if_neg one_ne, if_pos (show (true && nE1 b s c4) = true from h')]
    · rw [if_neg h', if_pos rfl, if_neg (show ¬ (true && nE1 b s c4) = true from h')]
  · rw [if_neg h, if_pos rfl, if_neg (fun q => h (Bool.and_eq_true .. ▸ q).1)]
theorem m_lineNow {d : Dt} {s e : Nat} (hX : TpM b n d) (h7 : d.1 78 7 = nI e) (h8 : d.1 78 8 = nI s) (hse : s ≤ e) (he : e ≤ n) : f_X9_lineNow L0 d 78 = if wd b s e 4 = true then some 0 else if wd b s e 5 = true then some 1 else if wd b s e 6 = true then some 2 else if wd b s e 7 = true then some 3 else if wd b s e 0 = true then some 4 else if wd b s e 1 = true then some 5 else if wd b s e 2 = true then some 6 else if wd b s e 3 = true then some 7 else some (-4) := by
  have s3 : f_X9_seasonNow_J91 L0 d 78 = if wd b s e 3 = true then some 7 else some (-4) := by
    unfold f_X9_seasonNow_J91
    rw [M_cls, if_pos rfl]
    exact m_w6 (c0 := 119) (c1 := 105) (c2 := 110) (c3 := 116) (c4 := 101) (c5 := 114) hX h7 h8 hse he (by decide) (by decide) (by decide) (by decide) (by decide) (by decide) (by decide)
  have s2 : f_X9_seasonNow_J60 L0 d 78 = if wd b s e 2 = true then some 6 else f_X9_seasonNow_J91 L0 d 78 := by
    unfold f_X9_seasonNow_J60
    rw [M_cls, if_pos rfl]
    exact m_w6 (c0 := 97) (c1 := 117) (c2 := 116) (c3 := 117) (c4 := 109) (c5 := 110) hX h7 h8 hse he (by decide) (by decide) (by decide) (by decide) (by decide) (by decide) (by decide)
  have s1 : f_X9_seasonNow_J30 L0 d 78 = if wd b s e 1 = true then some 5 else f_X9_seasonNow_J60 L0 d 78 := by
    unfold f_X9_seasonNow_J30
    rw [M_cls, if_pos rfl]
    exact m_w6 (c0 := 115) (c1 := 117) (c2 := 109) (c3 := 109) (c4 := 101) (c5 := 114) hX h7 h8 hse he (by decide) (by decide) (by decide) (by decide) (by decide) (by decide) (by decide)
  have s0 : f_X9_seasonNow L0 d 78 = if wd b s e 0 = true then some 4 else f_X9_seasonNow_J30 L0 d 78 := by
    unfold f_X9_seasonNow
    rw [M_cls, if_pos rfl]
    exact m_w6 (c0 := 115) (c1 := 112) (c2 := 114) (c3 := 105) (c4 := 110) (c5 := 103) hX h7 h8 hse he (by decide) (by decide) (by decide) (by decide) (by decide) (by decide) (by decide)
  have e7 : ∀ x : Option Int32, (Option.bind x fun z => some z) = x := fun x => by cases x <;> rfl
  have s6 : f_X9_lineNow_J56 L0 d 78 = if wd b s e 6 = true then some 2 else if wd b s e 7 = true then some 3 else f_X9_seasonNow L0 d 78 := by
    unfold f_X9_lineNow_J56
    rw [M_cls, if_pos rfl, show f_X9_is L0 d 78 (4 : Int32) (115 : Int32) (108 : Int32) (111 : Int32) (119 : Int32) = _ from m_is (l := 4) (c0 := 115) (c1 := 108) (c2 := 111) (c3 := 119) hX h7 h8 hse he (by omega) (by omega) (by omega) (by omega) (by omega) (by omega), Option.bind_some, e7]
    by_cases h : wd b s e 6 = true
    · rw [if_pos h, if_pos (show nA b s e 4 115 108 111 119 = true from h), if_neg one_ne]
    · rw [if_neg h, if_neg (show ¬ nA b s e 4 115 108 111 119 = true from h), if_pos rfl]
      exact m_w6 (c0 := 111) (c1 := 114) (c2 := 112) (c3 := 104) (c4 := 97) (c5 := 110) hX h7 h8 hse he (by decide) (by decide) (by decide) (by decide) (by decide) (by decide) (by decide)
  have s5 : f_X9_lineNow_J28 L0 d 78 = if wd b s e 5 = true then some 1 else f_X9_lineNow_J56 L0 d 78 := by
    unfold f_X9_lineNow_J28
    rw [M_cls, if_pos rfl]
    exact m_w5 (c0 := 113) (c1 := 117) (c2 := 105) (c3 := 99) (c4 := 107) hX h7 h8 hse he (by decide) (by decide) (by decide) (by decide) (by decide)
  have s4 : f_X9_lineNow L0 d 78 = if wd b s e 4 = true then some 0 else f_X9_lineNow_J28 L0 d 78 := by
    unfold f_X9_lineNow
    rw [M_cls, if_pos rfl]
    exact m_w5 (c0 := 112) (c1 := 108) (c2 := 97) (c3 := 105) (c4 := 110) hX h7 h8 hse he (by decide) (by decide) (by decide) (by decide) (by decide)
  rw [s4, s5, s6, s0, s1, s2, s3]
theorem wd_A {s e : Nat} : ∀ i, i < 8 → wd b s e i = true → b s = ([115, 115, 97, 119, 112, 113, 115, 111] : List Nat).getD i 0 ∧ b (s + 1) = ([112, 117, 117, 105, 108, 117, 108, 114] : List Nat).getD i 0 := by
  intro i hi h
  rcases (show i = 0 ∨ i = 1 ∨ i = 2 ∨ i = 3 ∨ i = 4 ∨ i = 5 ∨ i = 6 ∨ i = 7 by omega) with rfl | rfl | rfl | rfl | rfl | rfl | rfl | rfl
  · have q := (wd_0 (b := b)).mp h
    exact ⟨q.2 0 (by decide), q.2 1 (by decide)⟩
  · have q := (wd_1 (b := b)).mp h
    exact ⟨q.2 0 (by decide), q.2 1 (by decide)⟩
  · have q := (wd_2 (b := b)).mp h
    exact ⟨q.2 0 (by decide), q.2 1 (by decide)⟩
  · have q := (wd_3 (b := b)).mp h
    exact ⟨q.2 0 (by decide), q.2 1 (by decide)⟩
  · have q := (wd_4 (b := b)).mp h
    exact ⟨q.2 0 (by decide), q.2 1 (by decide)⟩
  · have q := (wd_5 (b := b)).mp h
    exact ⟨q.2 0 (by decide), q.2 1 (by decide)⟩
  · have q := nA_iff.mp (show nA b s e 4 115 108 111 119 = true from h)
    exact ⟨q.2.1, q.2.2.1⟩
  · have q := (wd_7 (b := b)).mp h
    exact ⟨q.2 0 (by decide), q.2 1 (by decide)⟩
theorem wd_dj {s e i j : Nat} (hi : i < 8) (hj : j < 8) (h : wd b s e i = true) (h' : wd b s e j = true) : i = j := by
  have a := wd_A i hi h
  have c := wd_A j hj h'
  have key : ∀ i, i < 8 → ∀ j, j < 8 → ([115, 115, 97, 119, 112, 113, 115, 111] : List Nat).getD i 0 = ([115, 115, 97, 119, 112, 113, 115, 111] : List Nat).getD j 0 → ([112, 117, 117, 105, 108, 117, 108, 114] : List Nat).getD i 0 = ([112, 117, 117, 105, 108, 117, 108, 114] : List Nat).getD j 0 → i = j := by decide
  exact key i hi j hj (a.1.symm.trans c.1) (a.2.symm.trans c.2)
theorem wdp_2 {p k : Nat} (h2 : tK b n p = 2) : wdp b n p k = wd b (tS b n p) (tE b n p) k := by unfold wdp; rw [decide_eq_true h2]; rfl
theorem li_at {p k : Nat} (hk : k < 8) (h2 : tK b n p = 2) (hw : wd b (tS b n p) (tE b n p) k = true) : li b n p = k := by
  refine sk_at (n := 8) (j := k) (P := fun i => !(wdp b n p i)) hk ?_ 0 (Nat.zero_le _) (fun i _ hik => ?_)
  · show ¬ (!(wdp b n p k)) = true
    rw [wdp_2 h2, hw]; decide
  · show (!(wdp b n p i)) = true
    rw [wdp_2 h2, Bool.not_eq_true', Bool.eq_false_iff]
    intro q
    have := wd_dj (by omega) hk q hw
    omega
def lv (k : Nat) : Int32 := if k < 8 then nI ((k + 4) % 8) else -4
theorem m_name {d : Dt} {p : Nat} (hX : TpM b n d) (hp : p ≤ n) (h2 : tK b n p = 2) (hT : MT b n d p) : f_X9_lineNow L0 d 78 = some (lv (li b n p)) := by
  obtain ⟨-, -, h8, h7, -⟩ := hT.2 (by omega)
  have hE := tE_le (b := b) hp
  rw [m_lineNow hX h7 h8 hE.1 hE.2]
  by_cases c4 : wd b (tS b n p) (tE b n p) 4 = true
  · rw [if_pos c4, li_at (by omega) h2 c4]; rfl
  by_cases c5 : wd b (tS b n p) (tE b n p) 5 = true
  · rw [if_neg c4, if_pos c5, li_at (by omega) h2 c5]; rfl
  by_cases c6 : wd b (tS b n p) (tE b n p) 6 = true
  · rw [if_neg c4, if_neg c5, if_pos c6, li_at (by omega) h2 c6]; rfl
  by_cases c7 : wd b (tS b n p) (tE b n p) 7 = true
  · rw [if_neg c4, if_neg c5, if_neg c6, if_pos c7, li_at (by omega) h2 c7]; rfl
  by_cases c0 : wd b (tS b n p) (tE b n p) 0 = true
  · rw [if_neg c4, if_neg c5, if_neg c6, if_neg c7, if_pos c0, li_at (by omega) h2 c0]; rfl
  by_cases c1 : wd b (tS b n p) (tE b n p) 1 = true
  · rw [if_neg c4, if_neg c5, if_neg c6, if_neg c7, if_neg c0, if_pos c1, li_at (by omega) h2 c1]; rfl
  by_cases c2 : wd b (tS b n p) (tE b n p) 2 = true
  · rw [if_neg c4, if_neg c5, if_neg c6, if_neg c7, if_neg c0, if_neg c1, if_pos c2, li_at (by omega) h2 c2]; rfl
  by_cases c3 : wd b (tS b n p) (tE b n p) 3 = true
  · rw [if_neg c4, if_neg c5, if_neg c6, if_neg c7, if_neg c0, if_neg c1, if_neg c2, if_pos c3, li_at (by omega) h2 c3]; rfl
  have h88 : li b n p = 8 := by
    refine sk_no (n := 8) (P := fun i => !(wdp b n p i)) (fun i hi => ?_) 0 (by omega)
    show (!(wdp b n p i)) = true
    rw [wdp_2 h2, Bool.not_eq_true', Bool.eq_false_iff]
    rcases (show i = 0 ∨ i = 1 ∨ i = 2 ∨ i = 3 ∨ i = 4 ∨ i = 5 ∨ i = 6 ∨ i = 7 by omega) with rfl | rfl | rfl | rfl | rfl | rfl | rfl | rfl
    · exact c0
    · exact c1
    · exact c2
    · exact c3
    · exact c4
    · exact c5
    · exact c6
    · exact c7
  rw [if_neg c4, if_neg c5, if_neg c6, if_neg c7, if_neg c0, if_neg c1, if_neg c2, if_neg c3, h88]; rfl
end MNM
