/-! ===== text: the reference's tokens ===== -/
def TpM (b : Nat → Nat) (n : Nat) (d : Dt) : Prop := n ≤ 160 ∧ (∀ i, i < n → b i ≤ 127 ∧ d.1 83 i = nI (b i)) ∧ d.1 78 6 = nI n
/-- of the reference's own fields those of a list may differ, and nothing else -/
def Fs (l : List Nat) (d D : Dt) : Prop := (∀ a, a ≠ 78 → D.1 a = d.1 a) ∧ ∀ k, ¬ k ∈ l → D.1 78 k = d.1 78 k
theorem Fs.rf {l : List Nat} {d : Dt} : Fs l d d := ⟨fun _ _ => rfl, fun _ _ => rfl⟩
theorem Fs.tr {l : List Nat} {d d' d'' : Dt} (h : Fs l d d') (h' : Fs l d' d'') : Fs l d d'' := ⟨fun a ha => (h'.1 a ha).trans (h.1 a ha), fun k hk => (h'.2 k hk).trans (h.2 k hk)⟩
theorem Fs.pi {l : List Nat} {d : Dt} {k : Nat} {v : Int32} (h : k ∈ l) : Fs l d (pI d 78 k v) := ⟨fun a ha => pI_ne ha, fun j hj => pk (fun e => hj (e ▸ h))⟩
theorem Fs.up {l l' : List Nat} {d D : Dt} (h : Fs l d D) (hl : ∀ k ∈ l, k ∈ l') : Fs l' d D := ⟨h.1, fun k hk => h.2 k (fun q => hk (hl k q))⟩
def Fk (d D : Dt) : Prop := Fs [7, 8, 9, 10, 11, 12] d D
theorem TpM.mv {b : Nat → Nat} {n : Nat} {d D : Dt} {l : List Nat} (h : TpM b n d) (f : Fs l d D) (hl : ¬ 6 ∈ l) : TpM b n D := ⟨h.1, fun i hi => ⟨(h.2.1 i hi).1, by rw [f.1 83 (by omega)]; exact (h.2.1 i hi).2⟩, (f.2 6 hl).trans h.2.2⟩
theorem m_needs1 {d : Dt} {c : Int32} : f_X9_needs L0 d 78 (1 : Int32) c = some d := by
  unfold f_X9_needs
  rw [if_neg one_ne]
theorem m_needs0 {d : Dt} {c : Int32} (h : d.1 78 11 = 0) : f_X9_needs L0 d 78 (0 : Int32) c = some (pI (pI d 78 11 c) 78 12 (d.1 78 8)) := by
  unfold f_X9_needs
  rw [if_pos rfl, M_cls, if_pos rfl, if_pos h, pk (by decide)]
theorem m_needsf {d : Dt} {v c : Int32} (h : ¬ d.1 78 11 = 0) : f_X9_needs L0 d 78 v c = some d := by
  unfold f_X9_needs
  rw [M_cls, if_pos rfl, if_neg h]
  split <;> rfl
def MF (D : Dt) (c q : Nat) : Prop := D.1 78 11 = nI c ∧ D.1 78 12 = nI q ∧ 1 ≤ c ∧ c ≤ 5
def MT (b : Nat → Nat) (n : Nat) (D : Dt) (p : Nat) : Prop := (tK b n p = 1 → MF D 1 (tS b n p)) ∧ (¬ tK b n p = 1 → D.1 78 11 = 0 ∧ D.1 78 9 = nI (tK b n p - 1) ∧ D.1 78 8 = nI (tS b n p) ∧ D.1 78 7 = nI (tE b n p) ∧ (tK b n p = 3 → D.1 78 10 = nI (tV b n p)))
section MTK
variable {b : Nat → Nat} {n : Nat}
theorem m_by {d : Dt} {p : Nat} (h : TpM b n d) (hp : p < 1000) : f_X9_byteAt L0 d 78 (nI p) = some (if p < n then nI (b p) else -1) := by
  have hn := h.1
  unfold f_X9_byteAt
  rw [M_cls, if_pos rfl, h.2.2]
  by_cases hq : p < n
  · rw [if_neg (nI_ge hq (by omega)), M_tape, Option.bind_some, Mo_tape (by omega), if_pos rfl, nI_clamp (by omega), (h.2.1 p hq).2, if_pos hq]
  · rw [if_pos (nI_le (by omega) (by omega)), if_neg hq]
theorem m_skip : ∀ (f p : Nat) (d : Dt), p ≤ n → n - p < f → TpM b n d → d.1 78 7 = nI p → ∃ D, (∀ K, f_X9_reads_L8 L0 78 K f d = K D) ∧ Fs [7] d D ∧ D.1 78 7 = nI (tS b n p) := by
  intro f
  induction f with
  | zero => intro p d h1 h2; omega
  | succ f ih =>
    intro p d h1 h2 hX h7
    have hn := hX.1
    unfold tS
    by_cases hp : p < n
    · obtain ⟨hb, hc⟩ := hX.2.1 p hp
      rw [sk_succ hp]
      by_cases h32 : b p = 32
      · rw [if_pos (show pSp b p = true from decide_eq_true h32)]
        obtain ⟨D, e, F, g⟩ := ih (p + 1) (pI d 78 7 (nI (p + 1))) (by omega) (by omega) (hX.mv (l := [7]) (Fs.pi (by decide)) (by decide)) ps
        refine ⟨D, fun K => ?_, (Fs.pi (by decide)).tr F, g⟩
        unfold f_X9_reads_L8
        rw [M_cls, if_pos rfl, h7, m_by hX (by omega), Option.bind_some, if_pos hp, if_pos (show nI (b p) = 32 by rw [h32]; rfl), nI_1]
        exact e K
      · rw [if_neg (show ¬ pSp b p = true from fun q => h32 (of_decide_eq_true q))]
        refine ⟨d, fun K => ?_, Fs.rf, h7⟩
        unfold f_X9_reads_L8
        rw [M_cls, if_pos rfl, h7, m_by hX (by omega), Option.bind_some, if_pos hp, if_neg (show ¬ nI (b p) = 32 from fun q => h32 (nI_inj (b := 32) (by omega) (by omega) q))]
    · rw [sk_end hp]
      refine ⟨d, fun K => ?_, Fs.rf, h7⟩
      unfold f_X9_reads_L8
      rw [M_cls, if_pos rfl, h7, m_by hX (by omega), Option.bind_some, if_neg hp, if_neg (show ¬ (-1 : Int32) = 32 by decide)]
theorem m_nm : ∀ (f p : Nat) (d : Dt), p ≤ n → n - p < f → TpM b n d → d.1 78 7 = nI p → ∃ D, f_X9_reads_L82 L0 78 f d = some D ∧ Fs [7] d D ∧ D.1 78 7 = nI (sk (pLe b) (n - p) p) := by
  intro f
  induction f with
  | zero => intro p d h1 h2; omega
  | succ f ih =>
    intro p d h1 h2 hX h7
    have hn := hX.1
    unfold f_X9_reads_L82
    rw [M_cls, if_pos rfl, h7, m_by hX (by omega), Option.bind_some]
    by_cases hp : p < n
    · obtain ⟨hb, hc⟩ := hX.2.1 p hp
      rw [if_pos hp, sk_succ hp]
      by_cases hl : 97 ≤ b p ∧ b p ≤ 122
      · rw [if_neg (fun q => (let_all (b p) (by omega)).2.mp q hl), nI_1, if_pos (show pLe b p = true from decide_eq_true hl)]
        obtain ⟨D, e, F, g⟩ := ih (p + 1) (pI d 78 7 (nI (p + 1))) (by omega) (by omega) (hX.mv (l := [7]) (Fs.pi (by decide)) (by decide)) ps
        exact ⟨D, e, (Fs.pi (by decide)).tr F, g⟩
      · rw [if_pos ((let_all (b p) (by omega)).2.mpr hl), if_neg (show ¬ pLe b p = true from fun q => hl (of_decide_eq_true q))]
        exact ⟨d, rfl, Fs.rf, h7⟩
    · rw [if_neg hp, if_pos in_m1.1, sk_end hp]
      exact ⟨d, rfl, Fs.rf, h7⟩
theorem m_nu {s : Nat} : ∀ (f p : Nat) (d : Dt), s ≤ p → p ≤ n → n - p < f → TpM b n d → d.1 78 7 = nI p → d.1 78 8 = nI s → d.1 78 10 = nI (dv b s (min 2 (p - s))) → ∃ D, (∀ K, f_X9_reads_L140 L0 78 K f d = K D) ∧ Fs [7, 10] d D ∧ D.1 78 7 = nI (sk (pFi b) (n - p) p) ∧ D.1 78 10 = nI (dv b s (min 2 (sk (pFi b) (n - p) p - s))) := by
  intro f
  induction f with
  | zero => intro p d h0 h1 h2; omega
  | succ f ih =>
    intro p d h0 h1 h2 hX h7 h8 h10
    have hn := hX.1
    by_cases hp : p < n
    · obtain ⟨hb, hc⟩ := hX.2.1 p hp
      rw [sk_succ hp]
      by_cases hl : 48 ≤ b p ∧ b p ≤ 57
      · rw [if_pos (show pFi b p = true from decide_eq_true hl)]
        have hin : ¬ f_X9_in (nI (b p)).toInt64 (48 : Int64) (57 : Int64) = 0 := fun q => (fig_all (b p) (by omega)).2.mp q hl
        by_cases h2s : 2 ≤ p - s
        · obtain ⟨D, e, F, g, g2⟩ := ih (p + 1) (pI (pI d 78 10 (d.1 78 10)) 78 7 (nI (p + 1))) (by omega) (by omega) (by omega) (hX.mv (l := [7, 10]) ((Fs.pi (by decide)).tr (Fs.pi (by decide))) (by decide)) ps (by rw [pk (by decide), pk (by decide)]; exact h8) (by rw [pk (by decide), ps, h10, show min 2 (p - s) = 2 by omega, show min 2 (p + 1 - s) = 2 by omega])
          refine ⟨D, fun K => ?_, ((Fs.pi (by decide)).tr (Fs.pi (by decide))).tr F, g, g2⟩
          unfold f_X9_reads_L140
          rw [M_cls, if_pos rfl, h7, m_by hX (by omega), Option.bind_some, if_pos hp, if_neg hin, h8, nI_sub h0, if_pos (show (2 : Int32) ≤ nI (p - s) from nI_le (a := 2) h2s (by omega)), pk (by decide), h7, nI_1]
          exact e K
        · have ev : (10 : Int32) * d.1 78 10 + nI (b p) - 48 = nI (dv b s (min 2 (p + 1 - s))) := by
            rw [h10, show min 2 (p + 1 - s) = (p - s) + 1 by omega, show min 2 (p - s) = p - s by omega]
            show _ = nI (10 * dv b s (p - s) + b (s + (p - s)) - 48)
            rw [show s + (p - s) = p by omega, show (10 : Int32) = nI 10 from rfl, nI_mul, nI_add, show (48 : Int32) = nI 48 from rfl, nI_sub (by omega)]
          obtain ⟨D, e, F, g, g2⟩ := ih (p + 1) (pI (pI d 78 10 (nI (dv b s (min 2 (p + 1 - s))))) 78 7 (nI (p + 1))) (by omega) (by omega) (by omega) (hX.mv (l := [7, 10]) ((Fs.pi (by decide)).tr (Fs.pi (by decide))) (by decide)) ps (by rw [pk (by decide), pk (by decide)]; exact h8) (by rw [pk (by decide), ps])
          refine ⟨D, fun K => ?_, ((Fs.pi (by decide)).tr (Fs.pi (by decide))).tr F, g, g2⟩
          unfold f_X9_reads_L140
          rw [M_cls, if_pos rfl, h7, m_by hX (by omega), Option.bind_some, if_pos hp, if_neg hin, h8, nI_sub h0, if_neg (show ¬ (2 : Int32) ≤ nI (p - s) from nI_ge (b := 2) (by omega) (by omega)), Option.bind_some, ev, pk (by decide), h7, nI_1]
          exact e K
      · rw [if_neg (show ¬ pFi b p = true from fun q => hl (of_decide_eq_true q))]
        refine ⟨d, fun K => ?_, Fs.rf, h7, h10⟩
        unfold f_X9_reads_L140
        rw [M_cls, if_pos rfl, h7, m_by hX (by omega), Option.bind_some, if_pos hp, if_pos ((fig_all (b p) (by omega)).2.mpr hl)]
    · rw [sk_end hp]
      refine ⟨d, fun K => ?_, Fs.rf, h7, h10⟩
      unfold f_X9_reads_L140
      rw [M_cls, if_pos rfl, h7, m_by hX (by omega), Option.bind_some, if_neg hp, if_pos in_m1.2]
theorem Fk.pi {d : Dt} {k : Nat} {v : Int32} (h : k ∈ [7, 8, 9, 10, 11, 12]) : Fk d (pI d 78 k v) := Fs.pi h
theorem Fk.rf {d : Dt} : Fk d d := Fs.rf
theorem Fk.tr {d d' d'' : Dt} (h : Fk d d') (h' : Fk d' d'') : Fk d d'' := Fs.tr h h'
theorem m_reads {p : Nat} {d : Dt} (hX : TpM b n d) (h11 : d.1 78 11 = 0) (h7 : d.1 78 7 = nI p) (hp : p ≤ n) : ∃ D, f_X9_reads L0 d 78 = some D ∧ Fk d D ∧ MT b n D p := by
  have hn := hX.1
  unfold f_X9_reads
  obtain ⟨D0, e0, F0, g0⟩ := m_skip FU p d hp (by unfold FU; omega) hX h7
  rw [M_cls, if_pos rfl, if_pos (show d.1 78 11 ≤ 0 by rw [h11]; decide), e0, g0]
  have F0' : Fk d D0 := F0.up (by decide)
  have hq := tS_le (b := b) hp
  have g7 : (pI D0 78 8 (nI (tS b n p))).1 78 7 = nI (tS b n p) := by rw [pk (by decide)]; exact g0
  have g8 : (pI D0 78 8 (nI (tS b n p))).1 78 8 = nI (tS b n p) := ps
  have g11 : (pI D0 78 8 (nI (tS b n p))).1 78 11 = 0 := by rw [pk (by decide), F0.2 11 (by decide)]; exact h11
  have F1 : Fk d (pI D0 78 8 (nI (tS b n p))) := F0'.tr (Fk.pi (by decide))
  have hX1 : TpM b n (pI D0 78 8 (nI (tS b n p))) := hX.mv F1 (by decide)
  rw [g7]
  unfold MT tV tE tK
  generalize hD1 : pI D0 78 8 (nI (tS b n p)) = D1 at *
  generalize hqq : tS b n p = q at *
  rw [m_by hX1 (by omega), Option.bind_some]
  by_cases hqn : n ≤ q
  · rw [if_neg (show ¬ q < n by omega), if_neg (show ¬ (0 : Int32) ≤ -1 by decide), if_pos hqn, if_pos hqn]
    exact ⟨_, rfl, F1.tr (Fk.pi (by decide)), fun z => absurd z (by omega), fun _ => ⟨by rw [pk (by decide)]; exact g11, ps, by rw [pk (by decide)]; exact g8, by rw [pk (by decide)]; exact g7, fun z => absurd z (by omega)⟩⟩
  · obtain ⟨hb, hc⟩ := hX1.2.1 q (by omega)
    rw [if_pos (show q < n by omega), if_pos (nI_pos' (by omega)), if_neg hqn, if_neg hqn]
    by_cases hl : 97 ≤ b q ∧ b q ≤ 122
    · have hl' : pLe b q = true := decide_eq_true hl
      rw [if_neg (fun z => (let_all (b q) (by omega)).2.mp z hl), if_pos hl', if_pos hl']
      have F2 : Fk D1 (pI D1 78 9 1) := Fk.pi (by decide)
      obtain ⟨D, e, F, a7⟩ := m_nm FU q (pI D1 78 9 1) (by omega) (by unfold FU; omega) (hX1.mv F2 (by decide)) (by rw [pk (by decide)]; exact g7)
      refine ⟨D, e, (F1.tr F2).tr (F.up (by decide)), fun z => absurd z (by omega), fun _ => ⟨by rw [F.2 11 (by decide), pk (by decide)]; exact g11, by rw [F.2 9 (by decide), ps]; rfl, by rw [F.2 8 (by decide), pk (by decide)]; exact g8, a7, fun z => absurd z (by omega)⟩⟩
    · have hl' : ¬ pLe b q = true := fun z => hl (of_decide_eq_true z)
      rw [if_pos ((let_all (b q) (by omega)).2.mpr hl), if_neg hl', if_neg hl']
      by_cases hf : 48 ≤ b q ∧ b q ≤ 57
      · have hf' : pFi b q = true := decide_eq_true hf
        rw [if_neg (fun z => (fig_all (b q) (by omega)).2.mp z hf), if_pos hf', if_pos hf']
        have F2 : Fk D1 (pI (pI D1 78 9 2) 78 10 0) := (Fk.pi (by decide)).tr (Fk.pi (by decide))
        obtain ⟨D, e, F, a7, a10⟩ := m_nu (s := q) FU q (pI (pI D1 78 9 2) 78 10 0) (by omega) (by omega) (by unfold FU; omega) (hX1.mv F2 (by decide)) (by rw [pk (by decide), pk (by decide)]; exact g7) (by rw [pk (by decide), pk (by decide)]; exact g8) (by rw [ps, Nat.sub_self]; rfl)
        have a8 : D.1 78 8 = nI q := by rw [F.2 8 (by decide), pk (by decide), pk (by decide)]; exact g8
        have a11 : D.1 78 11 = 0 := by rw [F.2 11 (by decide), pk (by decide), pk (by decide)]; exact g11
        have a9 : D.1 78 9 = 2 := by rw [F.2 9 (by decide), pk (by decide), ps]
        have hsk := skp_le (P := pFi b) (n := n) (p := q) (by omega)
        have FF : Fk d D := (F1.tr F2).tr (F.up (by decide))
        rw [e, a7, a8, nI_sub hsk.1]
        by_cases h2 : sk (pFi b) (n - q) q - q ≤ 2
        · rw [if_neg (show ¬ (2 : Int32) < nI (sk (pFi b) (n - q) q - q) from nI_nlt (b := sk (pFi b) (n - q) q - q) (a := 2) h2 (by omega)), m_needs1, Option.bind_some, if_pos h2]
          refine ⟨D, rfl, FF, fun z => absurd z (by omega), fun _ => ⟨a11, a9, a8, a7, fun _ => ?_⟩⟩
          rw [a10, show min 2 (sk (pFi b) (n - q) q - q) = sk (pFi b) (n - q) q - q by omega]
        · rw [if_pos (show (2 : Int32) < nI (sk (pFi b) (n - q) q - q) from nI_lt (a := 2) (by omega) (by omega)), m_needs0 a11, Option.bind_some, if_neg h2]
          exact ⟨_, rfl, FF.tr ((Fk.pi (by decide)).tr (Fk.pi (by decide))), fun _ => ⟨by rw [pk (by decide), ps]; rfl, by rw [ps]; exact a8, by omega, by omega⟩, fun z => absurd rfl z⟩
      · have hf' : ¬ pFi b q = true := fun z => hf (of_decide_eq_true z)
        rw [if_pos ((fig_all (b q) (by omega)).2.mpr hf), if_neg hf', if_neg hf']
        have F2 : Fk d (pI D1 78 9 3) := F1.tr (Fk.pi (by decide))
        have g11' : (pI D1 78 9 3).1 78 11 = 0 := by rw [pk (by decide)]; exact g11
        by_cases h59 : b q = 59
        · rw [if_pos (show nI (b q) = 59 by rw [h59]; rfl), if_pos h59, m_needs1, Option.bind_some, pk (by decide), g7, nI_1]
          exact ⟨_, rfl, F2.tr (Fk.pi (by decide)), fun z => absurd z (by omega), fun _ => ⟨by rw [pk (by decide)]; exact g11', by rw [pk (by decide), ps]; rfl, by rw [pk (by decide), pk (by decide)]; exact g8, ps, fun z => absurd z (by omega)⟩⟩
        · rw [if_neg (show ¬ nI (b q) = 59 from fun z => h59 (nI_inj (b := 59) (by omega) (by omega) z)), if_neg h59, m_needs0 g11', Option.bind_some]
          exact ⟨_, rfl, (F2.tr ((Fk.pi (by decide)).tr (Fk.pi (by decide)))).tr (Fk.pi (by decide)), fun _ => ⟨by rw [pk (by decide), pk (by decide), ps]; rfl, by rw [pk (by decide), ps, pk (by decide)]; exact g8, by omega, by omega⟩, fun z => absurd rfl z⟩
theorem m_readsf {d : Dt} {c q : Nat} (h : MF d c q) : f_X9_reads L0 d 78 = some d := by
  obtain ⟨h1, -, h3, h4⟩ := h
  unfold f_X9_reads
  rw [M_cls, if_pos rfl, h1, if_neg (nI_nle (by omega) (by omega))]
end MTK
