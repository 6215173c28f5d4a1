/-! ===== read ===== -/
theorem Inv.rd {d D : Dt} (hI : Inv d) (e : ∀ a, (a = 1 ∨ a = 2 ∨ (34 ≤ a ∧ a ≤ 36) ∨ (40 ≤ a ∧ a ≤ 77) ∨ a = 81 ∨ a = 83 ∨ (86 ≤ a ∧ a ≤ 88)) → D.1 a = d.1 a) (h79 : ∀ j, 60 ≤ j → D.1 79 j = d.1 79 j) (hR : RW D 3 (D.1 79)) (hG : Good (D.1 79)) (e9 : D.1 0 9 = D.1 78 11) (e10 : D.1 0 10 = D.1 78 23) (e6 : D.1 78 6 = d.1 78 6) : Inv D := by
  obtain ⟨-, -, h3, h4, -, -, h7⟩ := hI
  exact ⟨hR, hG, fun k hk => (h3 k hk).mv2 hk (by rw [e 35 (by omega)]) (by rw [e 81 (by omega)]) (fun a _ _ => e a (by omega)) (fun j _ _ => h79 j (by omega)), h4.mv (e 1 (by omega)) (e 2 (by omega)) (e 83 (by omega)) e6, e9, e10, fun k hk => (h7 k hk).mv hk (fun a _ _ => e a (by omega)) (e 86 (by omega)) (e 87 (by omega)) (e 88 (by omega))⟩
theorem apF_good {r : Rw} (hG : Good r) (v1 v2 v3 : Int32) : Good (apF r v1 v2 v3).2 := by
  have h5 := hG.1.2
  unfold apF
  by_cases h : f_X8_within v1 0 (r 37 - 1) = 0
  · rw [if_pos h]; exact hG
  rw [if_neg h]
  by_cases h2 : f_X8_isSeason v2 = 0
  · rw [if_pos h2]; exact hG
  rw [if_neg h2]
  by_cases h3 : f_X8_within v3 1 99 = 0
  · rw [if_pos h3]; exact hG
  rw [if_neg h3]
  rw [hG.1.1] at h
  obtain ⟨c, hc, rfl⟩ := (has_iff (by omega)).mp h
  obtain ⟨s, hs, rfl⟩ := seas_iff.mp h2
  obtain ⟨t, ht1, ht2, rfl⟩ := (wi_iff (a := 1) (b := 99) (by omega) (by omega)).mp h3
  have ec : (nI c).toNatClampNeg = c := nI_clamp (by omega)
  obtain ⟨g1, g2, g3, g4⟩ := hG.2.2.2.2.2.2.1 c hc
  split
  · refine hG.kid hc (fun j hj => by show apR r (nI c) (nI s) (nI t) j = r j; unfold apR; rw [ec, upd_n (by omega), upd_n (by omega)]) ?_
    show GK (apR r (nI c) (nI s) (nI t)) c
    unfold apR GK
    rw [ec, upd_n (by omega), upd_n (by omega), upd_s, upd_n (by omega), upd_s, upd_n (by omega), upd_n (by omega), upd_n (by omega), upd_n (by omega)]
    exact ⟨g1, ⟨t, ht2, rfl, Or.inr ⟨by omega, s, hs, rfl⟩⟩, g3, g4⟩
  · exact hG
def ftF (d : Dt) (k : Nat) (v2 v3 : Int32) (i : Nat) : Int32 := if d.1 86 k = -4 then 1 else if v2 = d.1 86 k then (if f_X8_within (v3 + 3 * nI i) 0 (d.1 87 k - 3) = 0 then 2 else 0) else 3
def ce (d : Dt) (k : Nat) (v3 : Int32) (i t : Nat) : Int32 := d.1 88 (40 * k + ((v3 + 3 * nI i).toNatClampNeg + t))
def rdF (d : Dt) (k : Nat) (v2 v3 : Int32) : Nat → Nat → Rw → Nat ⊕ (Nat × Int32 × Rw)
  | 0, i, r => .inr (i, 0, r)
  | n + 1, i, r => if ftF d k v2 v3 i = 0 then (if 0 ≤ (apF r (ce d k v3 i 0) (ce d k v3 i 1) (ce d k v3 i 2)).1 then rdF d k v2 v3 n (i + 1) (apF r (ce d k v3 i 0) (ce d k v3 i 1) (ce d k v3 i 2)).2 else .inl i) else .inr (i, ftF d k v2 v3 i, r)
theorem i3 (i : Nat) : (3 : Int32) * nI i = nI (3 * i) := by rw [show (3 : Int32) = nI 3 from rfl, nI_mul]
theorem toInt_sm {v : Int32} {i : Nat} (hi : i < 1000) : (v + nI i).toInt = v.toInt + i ∨ (v + nI i).toInt = v.toInt + i - 4294967296 ∧ 2147483648 ≤ v.toInt + i := by
  have h1 := v.le_toInt
  have h2 := v.toInt_lt
  rw [Int32.toInt_add, nI_toInt (by omega), Int.bmod_def]
  split <;> omega
theorem wr_iff {v3 : Int32} {i n : Nat} (hi : i < 300) (hn : n ≤ 40) : ¬ f_X8_within (v3 + 3 * nI i) 0 (nI n - 3) = 0 ↔ 0 ≤ v3.toInt + (3 * i : Nat) ∧ v3.toInt + (3 * i : Nat) + 3 ≤ n := by
  have h1 := v3.le_toInt
  have h2 := v3.toInt_lt
  have hx := toInt_sm (v := v3) (i := 3 * i) (by omega)
  have hb : (nI n - 3).toInt = (n : Int) - 3 := by
    rw [Int32.toInt_sub, nI_toInt (by omega), show (3 : Int32).toInt = 3 by decide, Int.bmod_def]
    split <;> omega
  unfold f_X8_within
  rw [i3]
  have c1 : (v3 + nI (3 * i) < 0) ↔ (v3 + nI (3 * i)).toInt < 0 := by rw [Int32.lt_iff_toInt_lt]; rfl
  have c2 : (nI n - 3 < v3 + nI (3 * i)) ↔ (n : Int) - 3 < (v3 + nI (3 * i)).toInt := by rw [Int32.lt_iff_toInt_lt, hb]
  by_cases q1 : v3 + nI (3 * i) < 0
  · rw [if_pos q1]
    have := c1.mp q1
    exact ⟨fun q => absurd rfl q, fun q => by omega⟩
  · rw [if_neg q1]
    have q1' : ¬ (v3 + nI (3 * i)).toInt < 0 := fun q => q1 (c1.mpr q)
    by_cases q2 : nI n - 3 < v3 + nI (3 * i)
    · rw [if_pos q2]
      have := c2.mp q2
      exact ⟨fun q => absurd rfl q, fun q => by omega⟩
    · rw [if_neg q2]
      have q2' : ¬ (n : Int) - 3 < (v3 + nI (3 * i)).toInt := fun q => q2 (c2.mpr q)
      exact ⟨fun _ => by omega, fun _ => one_ne⟩
theorem ft0 {d : Dt} {k : Nat} {v2 v3 : Int32} {i : Nat} (hS : Sh d k) (hi : i < 300) (h : ftF d k v2 v3 i = 0) : ∃ q n, v3 + 3 * nI i = nI q ∧ q + 3 ≤ n ∧ n ≤ 40 ∧ d.1 87 k = nI n := by
  unfold ftF at h
  by_cases h1 : d.1 86 k = -4
  · rw [if_pos h1] at h; exact absurd h one_ne
  rw [if_neg h1] at h
  by_cases h2 : v2 = d.1 86 k
  · rw [if_pos h2] at h
    by_cases h3 : f_X8_within (v3 + 3 * nI i) 0 (d.1 87 k - 3) = 0
    · rw [if_pos h3] at h; exact absurd h (by decide)
    · rcases hS with h0 | ⟨l, n, q1, q2, q3, q4, q5, q6, q7⟩
      · exact absurd h0.2 h1
      · rw [q6] at h3
        have hw := (wr_iff hi q2).mp h3
        have h30 : ¬ v3 + 3 * nI i < 0 := fun q => h3 (by unfold f_X8_within; rw [if_pos q])
        obtain ⟨q, hq, eq⟩ := nI_of h30
        refine ⟨q, n, eq, ?_, q2, q6⟩
        have e1 := toInt_sm (v := v3) (i := 3 * i) (by omega)
        rw [i3] at eq
        rw [eq, nI_toInt hq] at e1
        omega
  · rw [if_neg h2] at h; exact absurd h (by decide)
theorem x_fault {d : Dt} {k : Nat} (hk : k < 4) (hS : Sh d k) (v2 v3 : Int32) (i : Nat) : f_X5_faultIn L0 d (70 + 2 * k) v2 (v3 + 3 * nI i) 3 = some (ftF d k v2 v3 i) := by
  unfold f_X5_faultIn ftF
  rw [S_cls hk, if_pos rfl, hS.no hk, Option.bind_some]
  by_cases h1 : d.1 86 k = -4
  · rw [if_pos h1, if_pos h1, if_neg one_ne]
  · rw [if_neg h1, if_neg h1, if_pos rfl]
    rcases hS with h0 | ⟨l, n, q1, q2, q3, q4, q5, q6, q7⟩
    · exact absurd h0.2 h1
    · rw [q3, q4, q5, q6]
      split
      · split <;> rfl
      · rfl
theorem ftF_mv {d d' : Dt} {k i : Nat} {v2 v3 : Int32} (e86 : d'.1 86 = d.1 86) (e87 : d'.1 87 = d.1 87) : ftF d' k v2 v3 i = ftF d k v2 v3 i := by
  unfold ftF
  rw [e86, e87]
def Rx (d0 : Dt) (res : Option (Int32 × Dt)) : Nat ⊕ (Nat × Int32 × Rw) → Prop
  | .inl j => ∃ D, Bw 18 d0 D ∧ res = some (-20 - nI j, D)
  | .inr q => ∃ z, RW z 3 q.2.2 ∧ Good q.2.2 ∧ (∀ a, (a < 3 ∨ 33 ≤ a) → z.1 a = d0.1 a) ∧ res = some (nI q.1, pI z 0 10 q.2.1)
theorem x_read_L {d0 : Dt} (hI : Inv d0) {k m : Nat} (hk : k < 4) (hm : m ≤ 13) (v2 v3 : Int32) : ∀ (f i : Nat) (d : Dt) (r : Rw), i ≤ m → m - i < f → Bw 18 d0 d → RW d 18 r → Good r → Rx d0 (f_X8_read_L52 L0 0 v2 v3 (nI m) (70 + 2 * k) f (nI i) 0 d) (rdF d0 k v2 v3 (m - i) i r) := by
  intro f
  induction f with
  | zero => intro i d r h1 h2; omega
  | succ f ih =>
    intro i d r h1 h2 hB hR hG
    have hI' := hI.mv (Sc.bw hB)
    have hSh := hI'.2.2.2.2.2.2 k hk
    have cpb : ∃ z, f_X7_copy L0 d 3 18 = some z ∧ RW z 3 r ∧ ∀ a, (a < 3 ∨ 33 ≤ a) → z.1 a = d0.1 a := by
      obtain ⟨z, e, hRz, hBz⟩ := x_copy isW18 isW3 (by omega) hG hR
      exact ⟨z, e, hRz, fun a ha => by rw [hBz.1 a (by omega), hB.1 a (by omega)]⟩
    obtain ⟨z, ez, hRz, hz⟩ := cpb
    unfold f_X8_read_L52
    by_cases hi : i < m
    · rw [if_neg (fun q => by have := (nI_leI (a := m) (b := i) (by omega) (by omega)).mp q; omega), S_cls hk, if_pos rfl, x_fault hk hSh, Option.bind_some, ftF_mv (hB.1 86 (by omega)) (hB.1 87 (by omega)), show m - i = (m - (i + 1)) + 1 by omega]
      unfold rdF
      by_cases hf : ftF d0 k v2 v3 i = 0
      · obtain ⟨q, n, e1, e2, e3, e4⟩ := ft0 (hI.2.2.2.2.2.2 k hk) (by omega) hf
        have hS0 := hI.2.2.2.2.2.2 k hk
        have hce : ∀ t, t < 3 → d.1 (71 + 2 * k) (q + t) = ce d0 k v3 i t := by
          intro t ht
          unfold ce
          rw [hB.1 _ (by omega), e1, nI_clamp (by omega)]
          rcases hS0 with h0 | ⟨l, n', q1, q2, q3, q4, q5, q6, q7⟩
          · unfold ftF at hf
            rw [if_pos h0.2] at hf
            exact absurd hf one_ne
          · exact q7 _ (by omega)
        obtain ⟨d1, g1, hR1, hG1, hB1⟩ := x_app isW18 hR hG (ce d0 k v3 i 0) (ce d0 k v3 i 1) (ce d0 k v3 i 2)
        have hxx : ((rf L0 0 8 3).bind fun q19 => (rf L0 (70 + 2 * k) 5 0).bind fun q20 => if okA L0 q20 1 (v3 + (3 * nI i)) = true then (if okA L0 q20 1 ((v3 + (3 * nI i)) + 1) = true then (if okA L0 q20 1 ((v3 + (3 * nI i)) + 2) = true then (if clsAt L0 q19 = some 7 then ((f_X7_apprentice L0 d q19 (d.1 q20 ((v3 + (3 * nI i))).toNatClampNeg) (d.1 q20 (((v3 + (3 * nI i)) + 1)).toNatClampNeg) (d.1 q20 (((v3 + (3 * nI i)) + 2)).toNatClampNeg)).bind fun z25 => if 0 ≤ z25.1 then (f_X8_read_L52 L0 0 v2 v3 (nI m) (70 + 2 * k) f (nI i + 1) 0 z25.2) else (some ((-20 - nI i), z25.2))) else none) else none) else none) else none) = if 0 ≤ (apF r (ce d0 k v3 i 0) (ce d0 k v3 i 1) (ce d0 k v3 i 2)).1 then (f_X8_read_L52 L0 0 v2 v3 (nI m) (70 + 2 * k) f (nI (i + 1)) 0 d1) else (some ((-20 - nI i), d1)) := by
          rw [X_trial, Option.bind_some, S_ce hk, Option.bind_some, e1, S_ok hk (by omega), if_pos rfl, nI_1, S_ok hk (by omega), if_pos rfl, show nI q + (2 : Int32) = nI (q + 2) from nI_add q 2, S_ok hk (by omega), if_pos rfl, W_cls isW18, if_pos rfl, nI_clamp (by omega), nI_clamp (by omega), nI_clamp (by omega), show d.1 (71 + 2 * k) q = _ from hce 0 (by omega), hce 1 (by omega), hce 2 (by omega), g1, Option.bind_some, nI_1]
        rw [if_pos hf, if_pos hf, hf, hxx]
        by_cases h0 : 0 ≤ (apF r (ce d0 k v3 i 0) (ce d0 k v3 i 1) (ce d0 k v3 i 2)).1
        · rw [if_pos h0, if_pos h0]
          exact ih (i + 1) d1 _ (by omega) (by omega) (hB.tr hB1) hR1 hG1
        · rw [if_neg h0, if_neg h0]
          exact ⟨d1, hB.tr hB1, rfl⟩
      · rw [if_neg hf, if_neg hf]
        refine ⟨z, hRz, hG, hz, ?_⟩
        rw [X_world, Option.bind_some, X_trial, Option.bind_some, W_cls isW3, if_pos rfl, ez, Option.bind_some, X_cls, if_pos rfl]
    · have : i = m := by omega
      subst this
      rw [if_pos ((nI_leI (by omega) (by omega)).mpr (by omega)), Nat.sub_self]
      refine ⟨z, hRz, hG, hz, ?_⟩
      rw [X_world, Option.bind_some, X_trial, Option.bind_some, W_cls isW3, if_pos rfl, ez, Option.bind_some, X_cls, if_pos rfl]
/-! the reference -/
theorem m_rd_ne {d : Dt} {v1 v2 v3 v4 v6 v7 v5 v8 : Int32} {k : Int32 → Int32 → Option (Int32 × Dt)} (h : ¬ v5 = 0) {n : Nat} : f_X9_read_L77 L0 d 78 v1 v2 v3 v4 v6 v7 k (n + 1) v5 v8 = k v5 v8 := by
  unfold f_X9_read_L77
  rw [if_neg h]
  split <;> rfl
theorem lsum {v3 : Int32} {a b : Nat} (ha : a < 1000) (hb : b < 1000) : ((v3.toInt64 + (nI a).toInt64) + (nI b).toInt64).toInt = v3.toInt + a + b := by
  have h1 := v3.le_toInt
  have h2 := v3.toInt_lt
  rw [Int64.toInt_add, Int64.toInt_add, Int32.toInt_toInt64, Int32.toInt_toInt64, Int32.toInt_toInt64, nI_toInt (by omega), nI_toInt (by omega), Int.bmod_def, Int.bmod_def]
  split <;> split <;> omega
theorem m_rd_T {d : Dt} {kk i n : Nat} {v2 v3 v4 v6 : Int32} (hk : kk < 4) (hi : i < 300) (hn : n ≤ 40) (h1 : ¬ d.1 86 kk = -4) (h2 : d.1 86 kk = v2) (h3 : d.1 87 kk = nI n) {k : Int32 → Int32 → Option (Int32 × Dt)} : ∀ (f c : Nat), c ≤ 3 → 4 - c < f → ∃ y, f_X9_read_L77 L0 d 78 (nI kk) v2 v3 v4 v6 (nI i) k f 0 (nI c) = k (if 3 ≤ c ∨ (0 ≤ v3.toInt + (3 * i : Nat) + c ∧ v3.toInt + (3 * i : Nat) + 3 ≤ n) then 0 else 2) y := by
  intro f
  induction f with
  | zero => intro c a b; omega
  | succ f ih =>
    intro c a b
    obtain ⟨f', rfl⟩ : ∃ f', f = f' + 1 := ⟨f - 1, by omega⟩
    by_cases hc : c < 3
    · unfold f_X9_read_L77
      rw [if_neg (fun q => by have := (nI_leI (a := 3) (b := c) (by omega) (by omega)).mp q; omega), if_pos rfl, M_lan, Option.bind_some, Mo_lan hk, if_pos rfl, nI_clamp (by omega), if_neg h1, if_pos h2, i3, M_siz, Option.bind_some, Mo_siz hk, if_pos rfl, h3, nI_1]
      have e1 : (lg_cmp ((v3.toInt64 + (nI (3 * i)).toInt64) + (nI c).toInt64) (0 : Int64) < 0) ↔ v3.toInt + (3 * i : Nat) + c < 0 := by
        rw [lg_lt, Int64.lt_iff_toInt_lt, lsum (by omega) (by omega)]
        rfl
      have e2 : (lg_cmp ((v3.toInt64 + (nI (3 * i)).toInt64) + (nI c).toInt64) (nI n).toInt64 < 0) ↔ v3.toInt + (3 * i : Nat) + c < n := by
        rw [lg_lt, Int64.lt_iff_toInt_lt, lsum (by omega) (by omega), Int32.toInt_toInt64, nI_toInt (by omega)]
      by_cases q1 : lg_cmp ((v3.toInt64 + (nI (3 * i)).toInt64) + (nI c).toInt64) (0 : Int64) < 0
      · have := e1.mp q1
        rw [if_pos q1, m_rd_ne (by decide), if_neg (by omega)]
        exact ⟨_, rfl⟩
      · have q1' : ¬ v3.toInt + (3 * i : Nat) + c < 0 := fun q => q1 (e1.mpr q)
        rw [if_neg q1]
        by_cases q2 : lg_cmp ((v3.toInt64 + (nI (3 * i)).toInt64) + (nI c).toInt64) (nI n).toInt64 < 0
        · have := e2.mp q2
          rw [if_pos q2]
          obtain ⟨y, hy⟩ := ih (c + 1) (by omega) (by omega)
          refine ⟨y, ?_⟩
          rw [hy]
          congr 1
          by_cases z : 3 ≤ c + 1 ∨ (0 ≤ v3.toInt + (3 * i : Nat) + (c + 1 : Nat) ∧ v3.toInt + (3 * i : Nat) + 3 ≤ n)
          · rw [if_pos z, if_pos (by omega)]
          · rw [if_neg z, if_neg (by omega)]
        · have q2' : ¬ v3.toInt + (3 * i : Nat) + c < n := fun q => q2 (e2.mpr q)
          rw [if_neg q2, m_rd_ne (by decide), if_neg (by omega)]
          exact ⟨_, rfl⟩
    · unfold f_X9_read_L77
      rw [if_pos (show (3 : Int32) ≤ nI c from (nI_leI (a := 3) (by omega) (by omega)).mpr (by omega)), if_pos (by omega)]
      exact ⟨_, rfl⟩
theorem m_fault {d : Dt} {kk i : Nat} {v2 v3 v4 v6 : Int32} (hk : kk < 4) (hi : i < 300) (hS : Sh d kk) {k : Int32 → Int32 → Option (Int32 × Dt)} : ∃ y, f_X9_read_L77 L0 d 78 (nI kk) v2 v3 v4 v6 (nI i) k FU 0 0 = k (ftF d kk v2 v3 i) y := by
  have hz : ∀ f, 5 < f → d.1 86 kk = -4 ∨ ¬ d.1 86 kk = v2 → ∃ y, f_X9_read_L77 L0 d 78 (nI kk) v2 v3 v4 v6 (nI i) k f 0 (nI 0) = k (ftF d kk v2 v3 i) y := by
    intro f hf h
    obtain ⟨f', rfl⟩ : ∃ f', f = (f' + 1) + 1 := ⟨f - 2, by omega⟩
    unfold f_X9_read_L77 ftF
    rw [if_neg (by decide), if_pos rfl, M_lan, Option.bind_some, Mo_lan hk, if_pos rfl, nI_clamp (by omega)]
    by_cases h1 : d.1 86 kk = -4
    · rw [if_pos h1, if_pos h1, m_rd_ne one_ne]
      exact ⟨_, rfl⟩
    · have h2 : ¬ d.1 86 kk = v2 := h.resolve_left h1
      rw [if_neg h1, if_neg h1, if_neg h2, if_neg (fun q => h2 q.symm), m_rd_ne (by decide)]
      exact ⟨_, rfl⟩
  by_cases h : d.1 86 kk = -4 ∨ ¬ d.1 86 kk = v2
  · exact hz FU (by unfold FU; omega) h
  · have h1 : ¬ d.1 86 kk = -4 := fun q => h (Or.inl q)
    have h2 : d.1 86 kk = v2 := Decidable.not_not.mp (fun q => h (Or.inr q))
    rcases hS with h0 | ⟨l, n, q1, q2, q3, q4, q5, q6, q7⟩
    · exact absurd h0.2 h1
    · obtain ⟨y, hy⟩ := m_rd_T (v4 := v4) (v6 := v6) (v3 := v3) hk hi q2 h1 h2 q6 (k := k) FU 0 (by omega) (by unfold FU; omega)
      refine ⟨y, hy.trans ?_⟩
      congr 1
      unfold ftF
      rw [if_neg h1, if_pos h2.symm, q6]
      by_cases hw : f_X8_within (v3 + 3 * nI i) 0 (nI n - 3) = 0
      · rw [if_pos hw, if_neg (fun q => by
          have hq : 0 ≤ v3.toInt + (3 * i : Nat) ∧ v3.toInt + (3 * i : Nat) + 3 ≤ n := by omega
          exact (wr_iff hi q2).mpr hq hw)]
      · have := (wr_iff hi q2).mp hw
        rw [if_neg hw, if_pos (by omega)]
/-- what the reference keeps while it reads -/
def By (d d' : Dt) : Prop := (∀ a, a ≠ 79 → d'.1 a = d.1 a) ∧ d'.2 = d.2
theorem m_back_L {d0 : Dt} {v7 : Int32} {s b : Rw} : ∀ (n c : Nat) (d : Dt), c ≤ 60 → 60 - c < n → d.1 89 = s → d.1 79 = cpn c s b → f_X9_read_L217 L0 78 v7 n (nI c) d = some (-20 - v7, sR d 79 (cpn 60 s b)) := by
  intro n
  induction n with
  | zero => intro c d h1 h2; omega
  | succ n ih =>
    intro c d h1 h2 e1 e2
    unfold f_X9_read_L217
    by_cases hc : c < 60
    · rw [if_neg (fun q => by have := (nI_leI (a := 60) (b := c) (by omega) (by omega)).mp q; omega), M_st, Option.bind_some, M_bef, Option.bind_some, Mo_bef (by omega), if_pos rfl, Mo_st (by omega), if_pos rfl, nI_1, nI_clamp (by omega), ih (c + 1) _ (by omega) (by omega) (by rw [pI_ne (by omega)]; exact e1) (by rw [pI_self, e2, e1]; exact cpn_succ c s b), pI_sR, sR_sR]
    · have : c = 60 := by omega
      subst this
      rw [if_pos (by decide), ← e2, sR_id]
theorem m_keep_L {s b : Rw} {v1 v2 v3 v4 : Int32} {k : Int32 → Dt → Option (Int32 × Dt)} : ∀ (n c : Nat) (d : Dt), c ≤ 60 → 60 - c < n → d.1 79 = s → d.1 89 = cpn c s b → ∃ y, f_X9_read_L26 L0 78 v1 v2 v3 v4 k n (nI c) d = k y (sR d 89 (cpn 60 s b)) := by
  intro n
  induction n with
  | zero => intro c d h1 h2; omega
  | succ n ih =>
    intro c d h1 h2 e1 e2
    unfold f_X9_read_L26
    by_cases hc : c < 60
    · obtain ⟨y, hy⟩ := ih (c + 1) (pI d 89 c (s c)) (by omega) (by omega) (by rw [pI_ne (by omega)]; exact e1) (by rw [pI_self, e2]; exact cpn_succ c s b)
      refine ⟨y, ?_⟩
      rw [if_neg (fun q => by have := (nI_leI (a := 60) (b := c) (by omega) (by omega)).mp q; omega), M_bef, Option.bind_some, M_st, Option.bind_some, Mo_st (by omega), if_pos rfl, Mo_bef (by omega), if_pos rfl, nI_1, nI_clamp (by omega), e1, hy, pI_sR, sR_sR]
    · have : c = 60 := by omega
      subst this
      rw [if_pos (by decide), ← e2, sR_id]
      exact ⟨_, rfl⟩
def Rm (st0 : Rw) (d0 : Dt) (res : Option (Int32 × Dt)) : Nat ⊕ (Nat × Int32 × Rw) → Prop
  | .inl j => ∃ D, (∀ a, a ≠ 79 → D.1 a = d0.1 a) ∧ D.1 79 = st0 ∧ res = some (-20 - nI j, D)
  | .inr q => ∃ D, (∀ a, a ≠ 79 → D.1 a = d0.1 a) ∧ D.1 79 = q.2.2 ∧ Good q.2.2 ∧ (∀ j, 60 ≤ j → q.2.2 j = st0 j) ∧ res = some (nI q.1, pI D 78 23 q.2.1)
theorem m_read_L {dx d0 : Dt} {st0 : Rw} {k m : Nat} (hk : k < 4) (hm : m ≤ 13) (hSh : Sh d0 k) (x6 : d0.1 86 = dx.1 86) (x7 : d0.1 87 = dx.1 87) (x8 : d0.1 88 = dx.1 88) (h89 : Eq60 (d0.1 89) st0) (v2 v3 : Int32) : ∀ (f i : Nat) (d : Dt), i ≤ m → m - i < f → (∀ a, a ≠ 79 → d.1 a = d0.1 a) → Good (d.1 79) → (∀ j, 60 ≤ j → d.1 79 j = st0 j) → Rm st0 d0 (f_X9_read_L62 L0 78 (nI k) v2 v3 (nI m) f 0 (nI i) (nI i) d) (rdF dx k v2 v3 (m - i) i (d.1 79)) := by
  intro f
  induction f with
  | zero => intro i d h1 h2; omega
  | succ f ih =>
    intro i d h1 h2 hB hG hst
    have hSd : Sh d k := hSh.mv hk (fun a _ _ => hB a (by omega)) (hB 86 (by omega)) (hB 87 (by omega)) (hB 88 (by omega))
    have eft : ftF d k v2 v3 i = ftF dx k v2 v3 i := ftF_mv ((hB 86 (by omega)).trans x6) ((hB 87 (by omega)).trans x7)
    unfold f_X9_read_L62
    by_cases hi : i < m
    · obtain ⟨y, hy⟩ := m_fault (v4 := nI m) (v6 := nI i) (v2 := v2) (v3 := v3) (i := i) hk (by omega) hSd (k := fun x23_5 x23_8 => f_X9_read_J164 L0 d (f_X9_read_L62 L0 78 (nI k) v2 v3 (nI m) f) 78 (nI k) v2 v3 (nI m) x23_5 (nI i) (nI i))
      rw [if_neg (fun q => by have := (nI_leI (a := m) (b := i) (by omega) (by omega)).mp q; omega), if_pos rfl, hy, eft, show m - i = (m - (i + 1)) + 1 by omega]
      unfold rdF
      by_cases hf : ftF dx k v2 v3 i = 0
      · obtain ⟨q, n, e1, e2, e3, e4⟩ := ft0 hSd (by omega) (eft.trans hf)
        have hce : ∀ t, t < 3 → d.1 88 (40 * k + q + t) = ce dx k v3 i t := by
          intro t ht
          unfold ce
          rw [hB 88 (by omega), x8, e1, nI_clamp (by omega), Nat.add_assoc]
        have ix : (((40 : Int32) * nI k) + v3) + ((3 : Int32) * nI i) = nI (40 * k + q) := by
          rw [Int32.add_assoc, e1, i40k]
        have hGa := apF_good hG (ce dx k v3 i 0) (ce dx k v3 i 1) (ce dx k v3 i 2)
        have hJ : f_X9_read_J164 L0 d (f_X9_read_L62 L0 78 (nI k) v2 v3 (nI m) f) 78 (nI k) v2 v3 (nI m) 0 (nI i) (nI i) = if 0 ≤ (apF (d.1 79) (ce dx k v3 i 0) (ce dx k v3 i 1) (ce dx k v3 i 2)).1 then f_X9_read_L62 L0 78 (nI k) v2 v3 (nI m) f 0 (nI (i + 1)) (nI (i + 1)) (sR d 79 (apF (d.1 79) (ce dx k v3 i 0) (ce dx k v3 i 1) (ce dx k v3 i 2)).2) else f_X9_read_L217 L0 78 (nI i) FU 0 (sR d 79 (apF (d.1 79) (ce dx k v3 i 0) (ce dx k v3 i 1) (ce dx k v3 i 2)).2) := by
          unfold f_X9_read_J164
          rw [if_pos rfl, M_cel, Option.bind_some, ix, Mo_cel (by omega), if_pos rfl, nI_1, Mo_cel (by omega), if_pos rfl, show nI (40 * k + q) + (2 : Int32) = nI (40 * k + q + 2) from nI_add _ 2, Mo_cel (by omega), if_pos rfl, M_cls, if_pos rfl, nI_clamp (by omega), nI_clamp (by omega), nI_clamp (by omega), show d.1 88 (40 * k + q) = _ from hce 0 (by omega), hce 1 (by omega), hce 2 (by omega), m_bind hG _ _ _ hGa, Option.bind_some, nI_1]
        show Rm st0 d0 (f_X9_read_J164 L0 d (f_X9_read_L62 L0 78 (nI k) v2 v3 (nI m) f) 78 (nI k) v2 v3 (nI m) (ftF dx k v2 v3 i) (nI i) (nI i)) _
        rw [if_pos hf, hf, hJ]
        by_cases h0 : 0 ≤ (apF (d.1 79) (ce dx k v3 i 0) (ce dx k v3 i 1) (ce dx k v3 i 2)).1
        · rw [if_pos h0, if_pos h0]
          have := ih (i + 1) (sR d 79 (apF (d.1 79) (ce dx k v3 i 0) (ce dx k v3 i 1) (ce dx k v3 i 2)).2) (by omega) (by omega) (fun a ha => by rw [sR_ne ha]; exact hB a ha) (by rw [sR_self]; exact hGa) (fun j hj => by rw [sR_self, apF_hi hG (by omega)]; exact hst j hj)
          rw [sR_self] at this
          exact this
        · rw [if_neg h0, if_neg h0]
          have hbk := m_back_L (d0 := d) (v7 := nI i) (s := d0.1 89) (b := (apF (d.1 79) (ce dx k v3 i 0) (ce dx k v3 i 1) (ce dx k v3 i 2)).2) FU 0 (sR d 79 (apF (d.1 79) (ce dx k v3 i 0) (ce dx k v3 i 1) (ce dx k v3 i 2)).2) (by omega) (by unfold FU; omega) (by rw [sR_ne (by omega)]; exact hB 89 (by omega)) (by rw [sR_self]; funext j; simp [cpn])
          refine ⟨_, fun a ha => ?_, ?_, hbk⟩
          · rw [sR_ne ha, sR_ne ha]; exact hB a ha
          · rw [sR_self]
            funext j
            unfold cpn
            by_cases hj : j < 60
            · rw [if_pos hj]; exact h89 j hj
            · rw [if_neg hj, apF_hi hG (by omega)]; exact hst j (by omega)
      · have hJ : f_X9_read_J164 L0 d (f_X9_read_L62 L0 78 (nI k) v2 v3 (nI m) f) 78 (nI k) v2 v3 (nI m) (ftF dx k v2 v3 i) (nI i) (nI i) = some (nI i, pI d 78 23 (ftF dx k v2 v3 i)) := by
          unfold f_X9_read_J164
          rw [if_neg hf]
          obtain ⟨f', rfl⟩ : ∃ f', f = f' + 1 := ⟨f - 1, by omega⟩
          unfold f_X9_read_L62
          rw [if_neg hf, M_cls, if_pos rfl]
          split <;> rfl
        show Rm st0 d0 (f_X9_read_J164 L0 d (f_X9_read_L62 L0 78 (nI k) v2 v3 (nI m) f) 78 (nI k) v2 v3 (nI m) (ftF dx k v2 v3 i) (nI i) (nI i)) _
        rw [if_neg hf, hJ]
        exact ⟨d, hB, rfl, hG, hst, rfl⟩
    · have : i = m := by omega
      subst this
      rw [if_pos ((nI_leI (by omega) (by omega)).mpr (by omega)), Nat.sub_self, M_cls, if_pos rfl]
      exact ⟨d, hB, rfl, hG, hst, rfl⟩
theorem st_read {d : Dt} (hI : Inv d) (a1 a2 a3 a4 : Int32) : ∃ (z1 : Int32 × Dt) (z2 : Int32 × Dt), f_X8_read L0 d 0 a1 a2 a3 a4 = some z1 ∧ f_X9_read L0 z1.2 78 a1 a2 a3 a4 = some z2 ∧ z1.1 = z2.1 ∧ Inv z2.2 := by
  obtain ⟨hR, hG, -, -, h5', h6', h7⟩ := id hI
  have hin : f_X9_in a4.toInt64 (0 : Int64) (13 : Int64) = f_X8_within a4 0 13 := in_w0 a4 13 (by omega) 13 rfl
  by_cases h : f_X8_isSheet a1 = 0
  · exact ⟨(-1, d), (-1, d), by unfold f_X8_read; rw [if_pos h], by unfold f_X9_read; rw [m_isSheet, if_pos h, if_pos rfl], rfl, hI⟩
  by_cases h2 : f_X8_isLane a2 = 0
  · exact ⟨(-1, d), (-1, d), by unfold f_X8_read; rw [if_neg h, if_pos h2], by unfold f_X9_read; rw [m_isSheet, if_neg h, if_pos h2, if_pos rfl], rfl, hI⟩
  have hm : f_X9_isSheet a1 a2 = 1 := by rw [m_isSheet, if_neg h, if_neg h2]
  by_cases h3 : f_X8_within a4 0 13 = 0
  · exact ⟨(-1, d), (-1, d), by unfold f_X8_read; rw [if_neg h, if_neg h2, if_pos h3], by unfold f_X9_read; rw [hm, if_neg one_ne, hin, if_pos h3], rfl, hI⟩
  obtain ⟨k, hk, rfl⟩ := sh_iff.mp h
  obtain ⟨m, hm13, rfl⟩ := (wi0_iff 13 (by omega)).mp h3
  obtain ⟨d0, e0, hR0, hB0⟩ := x_cp hI
  have hx := x_read_L hI hk hm13 a2 a3 FU 0 d0 (d.1 79) (by omega) (by unfold FU; omega) hB0 hR0 hG
  have hX : f_X8_read L0 d 0 (nI k) a2 a3 (nI m) = f_X8_read_L52 L0 0 a2 a3 (nI m) (70 + 2 * k) FU 0 0 d0 := by
    unfold f_X8_read
    rw [if_neg h, if_neg h2, if_neg h3, X_sheets, Option.bind_some, S_ra hk, Option.bind_some, X_trial, Option.bind_some, X_world, Option.bind_some, W_cls isW18, if_pos rfl, e0, Option.bind_some]
  have hM : ∀ D : Dt, D.1 79 = d.1 79 → D.1 86 = d.1 86 → D.1 87 = d.1 87 → D.1 88 = d.1 88 → Sh D k → ∃ D1, (∀ a, a ≠ 89 → D1.1 a = D.1 a) ∧ f_X9_read L0 D 78 (nI k) a2 a3 (nI m) = f_X9_read_L62 L0 78 (nI k) a2 a3 (nI m) FU 0 0 0 D1 ∧ Rm (d.1 79) D1 (f_X9_read_L62 L0 78 (nI k) a2 a3 (nI m) FU 0 0 0 D1) (rdF d k a2 a3 (m - 0) 0 (d.1 79)) := by
    intro D q79 q86 q87 q88 qS
    obtain ⟨y, hy⟩ := m_keep_L (s := d.1 79) (b := D.1 89) (v1 := nI k) (v2 := a2) (v3 := a3) (v4 := nI m) (k := fun x8_5 d8 => f_X9_read_L62 L0 78 (nI k) a2 a3 (nI m) FU 0 0 0 d8) FU 0 D (by omega) (by unfold FU; omega) q79 (by funext j; simp [cpn])
    refine ⟨sR D 89 (cpn 60 (d.1 79) (D.1 89)), fun a ha => sR_ne ha, ?_, ?_⟩
    · unfold f_X9_read
      rw [hm, if_neg one_ne, hin, if_neg h3]
      exact hy
    · have e79 : (sR D 89 (cpn 60 (d.1 79) (D.1 89))).1 79 = d.1 79 := by rw [sR_ne (by omega)]; exact q79
      have := m_read_L (dx := d) (d0 := sR D 89 (cpn 60 (d.1 79) (D.1 89))) (st0 := d.1 79) hk hm13 (qS.mv hk (fun a _ _ => sR_ne (by omega)) (sR_ne (by omega)) (sR_ne (by omega)) (sR_ne (by omega))) (by rw [sR_ne (by omega)]; exact q86) (by rw [sR_ne (by omega)]; exact q87) (by rw [sR_ne (by omega)]; exact q88) (by rw [sR_self]; intro j hj; unfold cpn; rw [if_pos hj]) a2 a3 FU 0 (sR D 89 (cpn 60 (d.1 79) (D.1 89))) (by omega) (by unfold FU; omega) (fun a _ => rfl) (by rw [e79]; exact hG) (fun j _ => by rw [e79])
      rw [e79] at this
      exact this
  rw [hX]
  have hx' : Rx d (f_X8_read_L52 L0 0 a2 a3 (nI m) (70 + 2 * k) FU 0 0 d0) (rdF d k a2 a3 (m - 0) 0 (d.1 79)) := hx
  generalize rdF d k a2 a3 (m - 0) 0 (d.1 79) = o at hx' hM
  cases o with
  | inl j =>
    obtain ⟨D, hBD, eD⟩ := hx'
    obtain ⟨D1, a1, a2', a3'⟩ := hM D (hBD.1 79 (by omega)) (hBD.1 86 (by omega)) (hBD.1 87 (by omega)) (hBD.1 88 (by omega)) ((hI.mv (Sc.bw hBD)).2.2.2.2.2.2 k hk)
    obtain ⟨D2, b1, b2, b3⟩ := a3'
    refine ⟨_, _, eD, a2'.trans b3, rfl, ?_⟩
    have hq : ∀ a, a ≠ 79 → a ≠ 89 → D2.1 a = D.1 a := fun a x y => by rw [b1 a x, a1 a y]
    refine (hI.mv (Sc.bw hBD)).mv ⟨fun a ha => ?_, by rw [hq 78 (by omega) (by omega)], by rw [hq 78 (by omega) (by omega)], by rw [hq 78 (by omega) (by omega)]⟩
    by_cases e : a = 79
    · subst e; rw [b2, hBD.1 79 (by omega)]
    · exact hq a e (fun e' => ha (e' ▸ (by unfold scr; omega)))
  | inr q =>
    obtain ⟨z, hRz, hGz, hz, eD⟩ := hx'
    have hP : ∀ a, (a < 3 ∨ 33 ≤ a) → a ≠ 0 → (pI z 0 10 q.2.1).1 a = d.1 a := fun a x y => by rw [pI_ne y]; exact hz a x
    obtain ⟨D1, a1, a2', a3'⟩ := hM (pI z 0 10 q.2.1) (hP 79 (by omega) (by omega)) (hP 86 (by omega) (by omega)) (hP 87 (by omega) (by omega)) (hP 88 (by omega) (by omega)) ((h7 k hk).mv hk (fun a _ _ => hP a (by omega) (by omega)) (hP 86 (by omega) (by omega)) (hP 87 (by omega) (by omega)) (hP 88 (by omega) (by omega)))
    obtain ⟨D2, b1, b2, b3, b4, b5⟩ := a3'
    refine ⟨_, _, eD, a2'.trans b5, rfl, ?_⟩
    have hq : ∀ a, a ≠ 79 → a ≠ 89 → D2.1 a = (pI z 0 10 q.2.1).1 a := fun a x y => by rw [b1 a x, a1 a y]
    have e79 : (pI D2 78 23 q.2.1).1 79 = q.2.2 := by rw [pI_ne (by omega)]; exact b2
    show Inv (pI D2 78 23 q.2.1)
    have hq2 : ∀ a, a ≠ 78 → a ≠ 79 → a ≠ 89 → (pI D2 78 23 q.2.1).1 a = (pI z 0 10 q.2.1).1 a := fun a x y w => by rw [pI_ne x, hq a y w]
    refine hI.rd (fun a ha => by rw [hq2 a (by omega) (by omega) (by omega), hP a (by omega) (by omega)]) (fun j hj => by rw [e79]; exact b4 j hj) ?_ (by rw [e79]; exact hGz) ?_ ?_ ?_
    · rw [e79]
      exact hRz.mv (fun a _ _ => by rw [hq2 a (by omega) (by omega) (by omega), pI_ne (by omega)]) hGz.1.2
    · rw [hq2 0 (by omega) (by omega) (by omega), pk (by decide), hz 0 (by omega), pk (by decide), hq 78 (by omega) (by omega), hP 78 (by omega) (by omega)]
      exact h5'
    · rw [hq2 0 (by omega) (by omega) (by omega), ps, ps]
    · rw [pk (by decide), hq 78 (by omega) (by omega), hP 78 (by omega) (by omega)]
