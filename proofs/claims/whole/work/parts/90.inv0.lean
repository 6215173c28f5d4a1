/-! ===== the start ===== -/
set_option maxRecDepth 100000 in
theorem i0_79 : ∀ j, j < 60 → d00.1 79 j = r00 j := by decide +kernel
set_option maxRecDepth 100000 in
theorem i0_w : d00.1 3 2 = 0 ∧ d00.1 3 3 = 0 ∧ d00.1 3 4 = 3 ∧ d00.1 3 5 = 0 ∧ d00.1 3 9 = 0 ∧ (∀ s, s < 4 → d00.1 (3 + 6 + s) 0 = 3 ∧ d00.1 (3 + 6 + s) 1 = 1 ∧ d00.1 (3 + 6 + s) 2 = 99) := by decide +kernel
set_option maxRecDepth 100000 in
theorem i0_k : ∀ k, k < 2 → d00.1 35 k = 0 ∧ d00.1 81 k = 0 := by decide +kernel
set_option maxRecDepth 100000 in
theorem i0_t : d00.1 1 1 = 0 ∧ d00.1 78 6 = 0 ∧ d00.1 0 9 = d00.1 78 11 ∧ d00.1 0 10 = d00.1 78 23 := by decide +kernel
set_option maxRecDepth 100000 in
theorem i0_s : ∀ k, k < 4 → d00.1 (70 + 2 * k) 2 = -4 ∧ d00.1 86 k = -4 := by decide +kernel
theorem Inv_0 : Inv d00 := by
  have ei : Eq60 r00 (d00.1 79) := fun j hj => (i0_79 j hj).symm
  have hR : RW d00 3 r00 := by
    obtain ⟨a, c, e, f, g, h⟩ := i0_w
    refine ⟨⟨by rw [a]; decide, by rw [c]; decide, by rw [e]; decide, by rw [f]; decide, by rw [g]; decide⟩, fun s hs => ?_, fun c hc => ?_, fun i hi => ?_⟩
    · obtain ⟨a0, a1, a2⟩ := r00_s s hs
      rw [a0, a1, a2]
      exact h s hs
    · rw [r00_nk] at hc; omega
    · rw [r00_ns] at hi; omega
  obtain ⟨t1, t2, t3, t4⟩ := i0_t
  exact ⟨RW.eq ei (by rw [r00_nk]; omega) (by rw [r00_ns]; omega) hR, SI0.1.eq ei, fun k hk => ⟨(i0_k k hk).1.trans (i0_k k hk).2.symm, Or.inl (i0_k k hk).2⟩, ⟨0, by omega, t1, t2, fun i hi => absurd hi (by omega)⟩, t3, t4, fun k hk => Or.inl (i0_s k hk)⟩
