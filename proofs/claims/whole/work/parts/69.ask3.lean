/-! ===== ask: the class ===== -/
theorem lrn_mono {k i j : Nat} (h : i ≤ j) : lrnN k i ≤ lrnN k j := by
  unfold lrnN
  by_cases h0 : k = 0
  · rw [if_pos h0, if_pos h0]; exact h
  · rw [if_neg h0, if_neg h0]
    by_cases h1 : k = 1
    · rw [if_pos h1, if_pos h1]; omega
    · rw [if_neg h1, if_neg h1]
      by_cases h2 : k = 2
      · rw [if_pos h2, if_pos h2]; omega
      · rw [if_neg h2, if_neg h2]; omega
theorem rsd_mo {x p q m : Nat} (h : p ≤ q) : rsd x p m ≤ rsd x q m := by
  unfold rsd
  split <;> omega
theorem rsd_b9 {x p m : Nat} (hx : x ≤ 99) (hm : m ≤ 99) : rsd x p m ≤ 99 := by
  unfold rsd
  split <;> omega
theorem BM.le {fit : Nat → Bool} {val : Nat → Nat} {n B : Nat} (h : BM fit val n B) : B ≤ n := by
  rcases h.2 with e | ⟨i, -, -, e⟩
  · omega
  · have h1 := cG_le (fit := fit) (val := val) (a := val i) n
    have h2 := rk_le (fit := fit) n
    omega
theorem RLn.le {fit : Nat → Bool} {val : Nat → Nat} {n run : Nat} {last : Int32} (h : RLn fit val n run last) : run ≤ n := by
  rcases h with ⟨-, e, -⟩ | ⟨l, -, -, -, e, -⟩
  · omega
  · have h1 := cG_le (fit := fit) (val := val) (a := val l) n
    have h2 := rk_le (fit := fit) n
    omega
theorem x_alike_L {d : Dt} {s c q k x m : Nat} (hs : s < 4) (hc : c < 5) (hk : k < 4) (e0 : d.1 (3 + 10 + c) 0 = nI k) (e3 : d.1 (3 + 10 + c) 3 = nI x) (em : d.1 (3 + 6 + s) 2 = nI m) (hx : x ≤ 99) (hm : m ≤ 99) (hq : q ≤ 99) {fit : Nat → Bool} : ∀ (f g B run : Nat) (last : Int32), g ≤ 10 → 10 - g < f → BM fit (fun g => rsd x (q * lrnN k g) m) g B → RLn fit (fun g => rsd x (q * lrnN k g) m) g run last → f_X8_mostAlike_L31 L0 d 0 (nI s) (bits fit) (3 + 10 + c) (nI q) f (nI B) (nI run) last (nI g) = some (nI (mcG fit (fun g => rsd x (q * lrnN k g) m) 10)) := by
  intro f
  induction f with
  | zero => intro g B run last h1 h2; omega
  | succ f ih =>
    intro g B run last h1 h2 hB hR
    have hBl := hB.le
    have hRl := hR.le
    unfold f_X8_mostAlike_L31
    by_cases hg : g < 10
    · rw [if_neg (fun q => by have := (nI_ltI (a := 9) (b := g) (by omega) (by omega)).mp q; omega)]
      by_cases hf : fit g = true
      · have h0 : ¬ (bits fit &&& ((1 : Int32) <<< (nI g &&& 31))) = 0 := fun z => ((bits_ok fit).2 g hg).mp z hf
        obtain ⟨l1, -, l3⟩ := learn_all k hk g hg
        have hql : q * lrnN k g < 10000 := Nat.lt_of_le_of_lt (Nat.mul_le_mul hq l3) (by omega)
        have hvb : ∀ i, (fun g => rsd x (q * lrnN k g) m) i < 2 ^ 31 := fun i => Nat.lt_of_le_of_lt (rsd_b9 hx hm) (by omega)
        have hvm : ∀ i j, i ≤ j → (fun g => rsd x (q * lrnN k g) m) i ≤ (fun g => rsd x (q * lrnN k g) m) j := fun i j hij => rsd_mo (Nat.mul_le_mul_left q (lrn_mono hij))
        rw [if_neg h0, W_ccl isW3 hc, if_pos rfl, X_world, Option.bind_some, W_se isW3, Option.bind_some, W_ras isW3 hs, Option.bind_some, W_scl isW3 hs, if_pos rfl, e0, e3, em, l1, nI_mul, raised_nI (by omega) hql (by omega)]
        by_cases he : nI (rsd x (q * lrnN k g) m) = last
        · obtain ⟨w1, w2⟩ := walk_same hvb hB hR hf he
          rw [if_pos he, nI_1, nI_1, jmax_nI (by omega) (by omega)]
          exact ih (g + 1) _ (run + 1) _ (by omega) (by omega) w1 w2
        · obtain ⟨w1, w2⟩ := walk_new hvm hB hR hf he
          rw [if_neg he, nI_1, show jmax (nI B) (1 : Int32) = nI (max B 1) from jmax_nI (b := 1) (by omega) (by omega)]
          exact ih (g + 1) _ 1 _ (by omega) (by omega) w1 w2
      · have h0 : (bits fit &&& ((1 : Int32) <<< (nI g &&& 31))) = 0 := ((bits_ok fit).2 g hg).mpr hf
        obtain ⟨w1, w2⟩ := walk_skip hB hR hf
        rw [if_pos h0, nI_1]
        exact ih (g + 1) _ _ _ (by omega) (by omega) w1 w2
    · have : g = 10 := by omega
      subst this
      rw [if_pos (by decide), hB.uniq (mcG_BM fit _ 10)]
theorem x_alike {d : Dt} {r : Rw} (hR : RW d 3 r) (hG : Good r) {s c u : Nat} (hs : s < 4) (hc : c < nk r) (hT : RW d 18 (wkN u r)) (hb : r (12 + 5 * c + 1) = nI s) {fit : Nat → Bool} : f_X8_mostAlike L0 d 0 (nI s) (bits fit) (nI c) = some (nI (mcG fit (VN r s u c) 10)) := by
  have h5 := hG.1.2
  have hk := hG.knN hc
  have hK := hR.2.2.1 c hc
  obtain ⟨y, a1, a2, a3, a4, a5, a6, a7⟩ := hG.snN hs
  have ht : 0 < tN r c := by
    rcases Nat.eq_zero_or_pos (tN r c) with h0 | h0
    · have h1 : r (12 + 5 * c + 1) = -4 := hk.fr h0
      rw [hb] at h1
      exact absurd h1 (nI_ne4 (by omega))
    · exact h0
  have hbs : bN r c = s := by
    obtain ⟨b1, b2⟩ := hk.bd ht
    have b3 : nI (bN r c) = nI s := b1.symm.trans hb
    exact nI_inj (by omega) (by omega) b3
  have eV : VN r s u c = fun g => rsd (xN r c) (qN r c u * lrnN (kN r c) g) (mN r s) := by
    funext g
    unfold VN
    rw [if_pos ⟨hbs, ht⟩, hbs]
  have hq := (cq_le (S := seN r) (b := bN r c) (t := tN r c) u).1
  have hq' : qN r c u ≤ 99 := by have := hk.te.2; unfold qN; omega
  unfold f_X8_mostAlike
  rw [X_world, Option.bind_some, W_ch isW3, Option.bind_some, W_rac isW3 (by omega), Option.bind_some, X_cls, if_pos rfl, x_less hR hG hT hc, Option.bind_some, eV]
  exact x_alike_L hs (by omega) hk.2.1 (hK.1.trans hk.1) (hK.2.2.1.trans hk.sk.1) ((hR.2.1 s hs).2.2.trans a6) hk.sk.2 a7 hq' FU 0 0 0 (-4) (by omega) (by unfold FU; omega) ⟨fun i hi => by omega, Or.inl rfl⟩ (Or.inl ⟨fun i hi => by omega, rfl, rfl⟩)
theorem wG_un {r : Rw} (hG : Good r) {s c u : Nat} (hs : s < 4) (hc : c < nk r) (hb : ¬ r (12 + 5 * c + 1) = nI s) : wG r s (5 * u + c) = rk (fG r s) 10 := by
  have h5 := hG.1.2
  have hk := hG.knN hc
  unfold wG
  rw [show (5 * u + c) / 5 = u by omega, show (5 * u + c) % 5 = c by omega]
  refine mcG_all (a := VN r s u c 0) (fun i => ?_)
  have hne : ¬ (bN r c = s ∧ 0 < tN r c) := by
    rintro ⟨h1, h2⟩
    have := (hk.bd h2).1
    rw [h1] at this
    exact hb this
  unfold VN
  rw [if_neg hne, if_neg hne]
theorem x_ask_c {d0 d : Dt} (hI : Inv d0) (hS : Sc d0 d) {s u : Nat} (hs : s < 4) (hu : u ≤ 30) (hT : RW d 18 (wkN u (d0.1 79))) {v2 : Int32} {K : Int32 → Int32 → Int32 → Option (Int32 × Dt)} : ∀ (f c : Nat) (p : Nat × Nat), c ≤ nk (d0.1 79) → nk (d0.1 79) - c < f → p.1 ≤ rk (fG (d0.1 79) s) 10 → f_X8_ask_L62 L0 d 0 (nI s) v2 (bits (fG (d0.1 79) s)) (nI u) K f (nI p.1) (qc p.2) (nI c) = K (nI (fo (fS (wG (d0.1 79) s) (nk (d0.1 79))) (nk (d0.1 79) - c) (5 * u + c) p).1) (qc (fo (fS (wG (d0.1 79) s) (nk (d0.1 79))) (nk (d0.1 79) - c) (5 * u + c) p).2) (nI (nk (d0.1 79))) := by
  have hG := hI.2.1
  have h5 := hG.1.2
  have hR : RW d 3 (d0.1 79) := by
    have := (hI.mv hS).1
    rw [hS.e79] at this
    exact this
  have hrk := rk_le (fit := fG (d0.1 79) s) 10
  intro f
  induction f with
  | zero => intro c p h1 h2; omega
  | succ f ih =>
    intro c p h1 h2 hp
    unfold f_X8_ask_L62
    rw [X_world, Option.bind_some, W_cls isW3, if_pos rfl]
    by_cases hc : c < nk (d0.1 79)
    · have hwl := wG_le (r := d0.1 79) (s := s) (j := 5 * u + c)
      have hj5 : ¬ nk (d0.1 79) ≤ (5 * u + c) % 5 := by omega
      rw [if_neg (fun q => by have := (x_le hR hG (c := c) (by omega)).mp q; omega), W_ch isW3, Option.bind_some, W_rac isW3 (by omega), Option.bind_some, W_ccl isW3 (by omega), if_pos rfl, x_isBoundTo isW3 hR hG hc hs, Option.bind_some, fo_succ' hc]
      by_cases hb : d0.1 79 (12 + 5 * c + 1) = nI s
      · have hw : mcG (fG (d0.1 79) s) (VN (d0.1 79) s u c) 10 = wG (d0.1 79) s (5 * u + c) := by
          unfold wG
          rw [show (5 * u + c) / 5 = u by omega, show (5 * u + c) % 5 = c by omega]
        rw [if_pos hb, if_neg one_ne, X_cls, if_pos rfl, x_alike hR hG hs hc hT hb, Option.bind_some, hw]
        by_cases hle : p.1 ≤ wG (d0.1 79) s (5 * u + c)
        · have e : fS (wG (d0.1 79) s) (nk (d0.1 79)) p (5 * u + c) = p := by unfold fS; rw [if_neg hj5, if_pos hle]
          rw [if_pos ((nI_leI (by omega) (by omega)).mpr hle), nI_1, e]
          exact ih (c + 1) p (by omega) (by omega) hp
        · have e : fS (wG (d0.1 79) s) (nk (d0.1 79)) p (5 * u + c) = (wG (d0.1 79) s (5 * u + c), 5 * u + c) := by unfold fS; rw [if_neg hj5, if_neg hle]
          have e2 : ((10 : Int32) * nI u) + nI c = qc (5 * u + c) := by
            unfold qc
            rw [if_neg (by omega), show (5 * u + c) / 5 = u by omega, show (5 * u + c) % 5 = c by omega, show (10 : Int32) = nI 10 from rfl, nI_mul, nI_add]
          rw [if_neg (fun q => hle ((nI_leI (by omega) (by omega)).mp q)), nI_1, e, e2]
          exact ih (c + 1) (wG (d0.1 79) s (5 * u + c), 5 * u + c) (by omega) (by omega) hwl
      · have hw := wG_un hG (u := u) hs hc hb
        have e : fS (wG (d0.1 79) s) (nk (d0.1 79)) p (5 * u + c) = p := by unfold fS; rw [if_neg hj5, if_pos (by omega)]
        rw [if_neg hb, if_pos rfl, nI_1, e]
        exact ih (c + 1) p (by omega) (by omega) hp
    · have : c = nk (d0.1 79) := by omega
      subst this
      rw [if_pos ((x_le hR hG (by omega)).mpr (by omega)), Nat.sub_self]
      rfl
theorem askV_e {p : Nat × Nat} {v : Int32} {d : Dt} (h : p.2 = 999 ∨ p.2 < 155) : (if qc p.2 = (-4 : Int32) then (some (qc p.2, d)) else (if v = 0 then (some (qc p.2, d)) else (some (nI p.1, d)))) = some (askV p v, d) := by
  unfold askV
  rcases h with h | h
  · rw [h, if_pos (show qc 999 = -4 from rfl), if_pos rfl]
    rfl
  · have e : qc p.2 = nI (10 * (p.2 / 5) + p.2 % 5) := if_neg (by omega)
    rw [e, if_neg (nI_ne4 (by omega)), if_neg (show ¬ p.2 = 999 by omega)]
    by_cases hv0 : v = 0
    · rw [if_pos hv0, if_pos hv0]
    · rw [if_neg hv0, if_neg hv0]
theorem x_ask_u {d0 : Dt} (hI : Inv d0) {s : Nat} (hs : s < 4) {v2 : Int32} : ∀ (f u : Nat) (d : Dt) (p : Nat × Nat), u ≤ 31 → 31 - u < f → Sc d0 d → RW d 18 (wkN u (d0.1 79)) → p.1 ≤ rk (fG (d0.1 79) s) 10 → (p.2 = 999 ∨ p.2 < 155) → ∃ D, Sc d0 D ∧ f_X8_ask_L46 L0 0 (nI s) v2 (bits (fG (d0.1 79) s)) f (nI p.1) (qc p.2) (nI u) d = some (askV (fo (fS (wG (d0.1 79) s) (nk (d0.1 79))) (155 - 5 * u) (5 * u) p) v2, D) := by
  have hG := hI.2.1
  have h5 := hG.1.2
  have hrk := rk_le (fit := fG (d0.1 79) s) 10
  intro f
  induction f with
  | zero => intro u d p h1 h2; omega
  | succ f ih =>
    intro u d p h1 h2 hS hT hp hp2
    unfold f_X8_ask_L46
    by_cases hu : u < 31
    · rw [if_neg (fun q => by have := (nI_ltI (a := 30) (b := u) (by omega) (by omega)).mp q; omega)]
      by_cases h1' : p.1 ≤ 1
      · refine ⟨d, hS, ?_⟩
        rw [if_pos (show nI p.1 ≤ (1 : Int32) from nI_le (b := 1) h1' (by omega)), askV_e hp2, fo_id]
        intro j _ _
        unfold fS
        split
        · rfl
        · rw [if_pos]
          rcases (show p.1 = 0 ∨ p.1 = 1 by omega) with e | e
          · omega
          · have : 1 ≤ wG (d0.1 79) s j := mcG_1 (by omega)
            omega
      · rw [if_neg (show ¬ nI p.1 ≤ (1 : Int32) from fun q => h1' ((nI_leI (b := 1) (by omega) (by omega)).mp q))]
        obtain ⟨e1, g1, hR1, hB1⟩ := x_passOne isW18 (hG.wkN u) hT
        rw [← wkN_succ'] at hR1
        have hS1 : Sc d0 e1 := hS.tr (Sc.bw hB1)
        have hpl := fSf_le (w := wG (d0.1 79) s) (n := nk (d0.1 79)) (nk (d0.1 79)) (5 * u) p
        obtain ⟨D, hD, hq⟩ := ih (u + 1) e1 (fo (fS (wG (d0.1 79) s) (nk (d0.1 79))) (nk (d0.1 79)) (5 * u) p) (by omega) (by omega) hS1 hR1 (by omega) (fSf_b _ _ _ (by omega) hp2)
        refine ⟨D, hD, ?_⟩
        refine (x_ask_c hI hS hs (by omega) hT FU 0 p (by omega) (by unfold FU; omega) hp).trans ?_
        rw [X_trial, Option.bind_some, W_cls isW18, if_pos rfl, g1, Option.bind_some, nI_1]
        have ef : fo (fS (wG (d0.1 79) s) (nk (d0.1 79))) (155 - 5 * u) (5 * u) p = fo (fS (wG (d0.1 79) s) (nk (d0.1 79))) (155 - 5 * (u + 1)) (5 * (u + 1)) (fo (fS (wG (d0.1 79) s) (nk (d0.1 79))) (nk (d0.1 79)) (5 * u) p) := by
          rw [show 155 - 5 * u = nk (d0.1 79) + ((5 - nk (d0.1 79)) + (155 - 5 * (u + 1))) by omega, fo_app, fo_app, show 5 * u + nk (d0.1 79) + (5 - nk (d0.1 79)) = 5 * (u + 1) by omega]
          congr 1
          refine fo_id _ _ _ (fun j j1 j2 => ?_)
          unfold fS
          rw [if_pos (by omega)]
        rw [ef]
        exact hq
    · have : u = 31 := by omega
      subst this
      refine ⟨d, hS, ?_⟩
      rw [if_pos (by decide), askV_e hp2]
      rfl
theorem st_ask {d : Dt} (hI : Inv d) (a1 a2 : Int32) : ∃ (z1 : Int32 × Dt) (z2 : Int32 × Dt), f_X8_ask L0 d 0 a1 a2 = some z1 ∧ f_X9_ask L0 z1.2 78 a1 a2 = some z2 ∧ z1.1 = z2.1 ∧ Inv z2.2 := by
  have hG := hI.2.1
  by_cases h : f_X8_isSeason a1 = 0
  · exact ⟨(-1, d), (-1, d), by unfold f_X8_ask; rw [if_pos h], by unfold f_X9_ask; rw [m_isSeason, if_pos h], rfl, hI⟩
  by_cases h2 : f_X8_isWhichOrHowMuch a2 = 0
  · exact ⟨(-1, d), (-1, d), by unfold f_X8_ask; rw [if_neg h, if_pos h2], by unfold f_X9_ask; rw [m_isSeason, if_neg h, m_isPart, if_pos h2], rfl, hI⟩
  obtain ⟨s, hs, rfl⟩ := seas_iff.mp h
  obtain ⟨dF, hSF, eF⟩ := x_fitting hI Sc.rf hs
  obtain ⟨e1, g1, hR1, hB1⟩ := x_cpJ hI hSF
  have eb : fo (whF (d.1 79) (3 * s + 1)) 10 0 0 = bits (fG (d.1 79) s) := rfl
  obtain ⟨D1, hD1, hq1⟩ := x_ask_u hI hs (v2 := a2) FU 0 e1 (rk (fG (d.1 79) s) 10, 999) (by omega) (by unfold FU; omega) (hSF.tr (Sc.bw hB1)) hR1 (Nat.le_refl _) (Or.inl rfl)
  obtain ⟨D2, hD2, hq2⟩ := m_ask hI hD1 hs h2 h
  refine ⟨(askV (askP (d.1 79) s) a2, D1), (askV (askP (d.1 79) s) a2, D2), ?_, hq2, rfl, hI.mv hD2⟩
  unfold f_X8_ask
  rw [if_neg h, if_neg h2, X_cls, if_pos rfl, eF, Option.bind_some, X_trial, Option.bind_some, X_world, Option.bind_some, W_cls isW18, if_pos rfl, g1, Option.bind_some, eb, (bits_ok (fG (d.1 79) s)).1]
  exact hq1
