/-! ===== places ===== -/
def isW (w : Nat) : Prop := w = 3 ∨ w = 18 ∨ w = 40 ∨ w = 55
theorem W_cls {w : Nat} (h : isW w) : clsAt L0 w = some 7 := by
  rcases h with rfl | rfl | rfl | rfl <;> rfl
theorem W_se {w : Nat} (h : isW w) : rf L0 w 7 0 = some (w + 1) := by
  rcases h with rfl | rfl | rfl | rfl <;> rfl
theorem W_ch {w : Nat} (h : isW w) : rf L0 w 7 1 = some (w + 2) := by
  rcases h with rfl | rfl | rfl | rfl <;> rfl
theorem W_sb {w : Nat} (h : isW w) : rf L0 w 7 6 = some (w + 3) := by
  rcases h with rfl | rfl | rfl | rfl <;> rfl
theorem W_sc {w : Nat} (h : isW w) : rf L0 w 7 7 = some (w + 4) := by
  rcases h with rfl | rfl | rfl | rfl <;> rfl
theorem W_sk {w : Nat} (h : isW w) : rf L0 w 7 8 = some (w + 5) := by
  rcases h with rfl | rfl | rfl | rfl <;> rfl
theorem W_ras_ : ∀ w ∈ [3, 18, 40, 55], ∀ s, s < 4 → ra L0 (w + 1) 5 (nI s) = some (w + 6 + s) := by decide +kernel
theorem W_ras {w s : Nat} (h : isW w) (hc : s < 4) : ra L0 (w + 1) 5 (nI s) = some (w + 6 + s) := W_ras_ w (by rcases h with rfl | rfl | rfl | rfl <;> decide) s hc
theorem W_rac_ : ∀ w ∈ [3, 18, 40, 55], ∀ c, c < 5 → ra L0 (w + 2) 4 (nI c) = some (w + 10 + c) := by decide +kernel
theorem W_rac {w c : Nat} (h : isW w) (hc : c < 5) : ra L0 (w + 2) 4 (nI c) = some (w + 10 + c) := W_rac_ w (by rcases h with rfl | rfl | rfl | rfl <;> decide) c hc
theorem W_scl_ : ∀ w ∈ [3, 18, 40, 55], ∀ s, s < 4 → clsAt L0 (w + 6 + s) = some 4 := by decide +kernel
theorem W_scl {w s : Nat} (h : isW w) (hc : s < 4) : clsAt L0 (w + 6 + s) = some 4 := W_scl_ w (by rcases h with rfl | rfl | rfl | rfl <;> decide) s hc
theorem W_ccl_ : ∀ w ∈ [3, 18, 40, 55], ∀ c, c < 5 → clsAt L0 (w + 10 + c) = some 1 := by decide +kernel
theorem W_ccl {w c : Nat} (h : isW w) (hc : c < 5) : clsAt L0 (w + 10 + c) = some 1 := W_ccl_ w (by rcases h with rfl | rfl | rfl | rfl <;> decide) c hc
theorem W_ok3_ : ∀ w ∈ [3, 18, 40, 55], ∀ i, i < 6 → okA L0 (w + 3) 1 (nI i) = true := by decide +kernel
theorem W_ok3 {w i : Nat} (h : isW w) (hc : i < 6) : okA L0 (w + 3) 1 (nI i) = true := W_ok3_ w (by rcases h with rfl | rfl | rfl | rfl <;> decide) i hc
theorem W_ok4_ : ∀ w ∈ [3, 18, 40, 55], ∀ i, i < 6 → okA L0 (w + 4) 1 (nI i) = true := by decide +kernel
theorem W_ok4 {w i : Nat} (h : isW w) (hc : i < 6) : okA L0 (w + 4) 1 (nI i) = true := W_ok4_ w (by rcases h with rfl | rfl | rfl | rfl <;> decide) i hc
theorem W_ok5_ : ∀ w ∈ [3, 18, 40, 55], ∀ i, i < 6 → okA L0 (w + 5) 1 (nI i) = true := by decide +kernel
theorem W_ok5 {w i : Nat} (h : isW w) (hc : i < 6) : okA L0 (w + 5) 1 (nI i) = true := W_ok5_ w (by rcases h with rfl | rfl | rfl | rfl <;> decide) i hc
theorem M_cls : clsAt L0 78 = some 9 := rfl
theorem M_st : rf L0 78 9 0 = some 79 := rfl
theorem M_now : rf L0 78 9 1 = some 80 := rfl
theorem M_kept : rf L0 78 9 2 = some 81 := rfl
theorem M_draft : rf L0 78 9 3 = some 82 := rfl
theorem M_tape : rf L0 78 9 5 = some 83 := rfl
theorem M_skl : rf L0 78 9 18 = some 84 := rfl
theorem M_byg : rf L0 78 9 19 = some 85 := rfl
theorem M_lan : rf L0 78 9 20 = some 86 := rfl
theorem M_siz : rf L0 78 9 21 = some 87 := rfl
theorem M_cel : rf L0 78 9 22 = some 88 := rfl
theorem M_bef : rf L0 78 9 24 = some 89 := rfl
theorem Mo_st : ∀ {j : Nat}, j < 180 → okA L0 79 1 (nI j) = true := by
  have h : ∀ j, j < 180 → okA L0 79 1 (nI j) = true := by decide +kernel
  intro _ hc; exact h _ hc
theorem Mo_now : ∀ {j : Nat}, j < 60 → okA L0 80 1 (nI j) = true := by
  have h : ∀ j, j < 60 → okA L0 80 1 (nI j) = true := by decide +kernel
  intro _ hc; exact h _ hc
theorem Mo_draft : ∀ {j : Nat}, j < 60 → okA L0 82 1 (nI j) = true := by
  have h : ∀ j, j < 60 → okA L0 82 1 (nI j) = true := by decide +kernel
  intro _ hc; exact h _ hc
theorem Mo_tape : ∀ {j : Nat}, j < 160 → okA L0 83 1 (nI j) = true := by
  have h : ∀ j, j < 160 → okA L0 83 1 (nI j) = true := by decide +kernel
  intro _ hc; exact h _ hc
theorem Mo_skl : ∀ {j : Nat}, j < 155 → okA L0 84 1 (nI j) = true := by
  have h : ∀ j, j < 155 → okA L0 84 1 (nI j) = true := by decide +kernel
  intro _ hc; exact h _ hc
theorem Mo_byg : ∀ {j : Nat}, j < 1550 → okA L0 85 1 (nI j) = true := by
  have h : ∀ j, j < 1550 → okA L0 85 1 (nI j) = true := by decide +kernel
  intro _ hc; exact h _ hc
theorem Mo_lan : ∀ {j : Nat}, j < 4 → okA L0 86 1 (nI j) = true := by
  have h : ∀ j, j < 4 → okA L0 86 1 (nI j) = true := by decide +kernel
  intro _ hc; exact h _ hc
theorem Mo_siz : ∀ {j : Nat}, j < 4 → okA L0 87 1 (nI j) = true := by
  have h : ∀ j, j < 4 → okA L0 87 1 (nI j) = true := by decide +kernel
  intro _ hc; exact h _ hc
theorem Mo_cel : ∀ {j : Nat}, j < 160 → okA L0 88 1 (nI j) = true := by
  have h : ∀ j, j < 160 → okA L0 88 1 (nI j) = true := by decide +kernel
  intro _ hc; exact h _ hc
theorem Mo_bef : ∀ {j : Nat}, j < 60 → okA L0 89 1 (nI j) = true := by
  have h : ∀ j, j < 60 → okA L0 89 1 (nI j) = true := by decide +kernel
  intro _ hc; exact h _ hc
theorem Mo_kept : ∀ {j : Nat}, j < 2 → okA L0 81 3 (nI j) = true := by
  have h : ∀ j, j < 2 → okA L0 81 3 (nI j) = true := by decide +kernel
  intro _ hc; exact h _ hc
theorem X_cls : clsAt L0 0 = some 8 := rfl
theorem X_tape : rf L0 0 8 1 = some 1 := rfl
theorem X_world : rf L0 0 8 2 = some 3 := rfl
theorem X_trial : rf L0 0 8 3 = some 18 := rfl
theorem X_reader : rf L0 0 8 0 = some 33 := rfl
theorem X_images : rf L0 0 8 4 = some 34 := rfl
theorem X_kept : rf L0 0 8 5 = some 35 := rfl
theorem X_sheets : rf L0 0 8 6 = some 36 := rfl
theorem X_best : rf L0 0 8 7 = some 37 := rfl
theorem X_odds : rf L0 0 8 8 = some 38 := rfl
theorem T_cls : clsAt L0 1 = some 6 := rfl
theorem T_by : rf L0 1 6 0 = some 2 := rfl
theorem T_ok : ∀ {j : Nat}, j < 160 → okA L0 2 0 (nI j) = true := by
  have h : ∀ j, j < 160 → okA L0 2 0 (nI j) = true := by decide +kernel
  intro _ hc; exact h _ hc
theorem Rd_cls : clsAt L0 33 = some 3 := rfl
theorem Rd_t : rf L0 33 3 0 = some 1 := rfl
theorem I_ra : ∀ {k : Nat}, k < 2 → ra L0 34 7 (nI k) = some (40 + 15 * k) := by
  have h : ∀ k, k < 2 → ra L0 34 7 (nI k) = some (40 + 15 * k) := by decide +kernel
  intro _ hc; exact h _ hc
theorem K_ok : ∀ {k : Nat}, k < 2 → okA L0 35 3 (nI k) = true := by
  have h : ∀ k, k < 2 → okA L0 35 3 (nI k) = true := by decide +kernel
  intro _ hc; exact h _ hc
theorem S_ra : ∀ {k : Nat}, k < 4 → ra L0 36 6 (nI k) = some (70 + 2 * k) := by
  have h : ∀ k, k < 4 → ra L0 36 6 (nI k) = some (70 + 2 * k) := by decide +kernel
  intro _ hc; exact h _ hc
theorem S_cls : ∀ {k : Nat}, k < 4 → clsAt L0 (70 + 2 * k) = some 5 := by
  have h : ∀ k, k < 4 → clsAt L0 (70 + 2 * k) = some 5 := by decide +kernel
  intro _ hc; exact h _ hc
theorem S_ce : ∀ {k : Nat}, k < 4 → rf L0 (70 + 2 * k) 5 0 = some (71 + 2 * k) := by
  have h : ∀ k, k < 4 → rf L0 (70 + 2 * k) 5 0 = some (71 + 2 * k) := by decide +kernel
  intro _ hc; exact h _ hc
theorem S_ln : ∀ {k : Nat}, k < 4 → aLn L0 (71 + 2 * k) 1 = some 40 := by
  have h : ∀ k, k < 4 → aLn L0 (71 + 2 * k) 1 = some 40 := by decide +kernel
  intro _ hc; exact h _ hc
theorem S_ok_ : ∀ k, k < 4 → ∀ i, i < 40 → okA L0 (71 + 2 * k) 1 (nI i) = true := by decide +kernel
theorem S_ok {k i : Nat} (hk : k < 4) (hi : i < 40) : okA L0 (71 + 2 * k) 1 (nI i) = true := S_ok_ k hk i hi
theorem B_cls : clsAt L0 37 = some 0 := rfl
theorem O_cls : clsAt L0 38 = some 2 := rfl
theorem O_w : rf L0 38 2 0 = some 39 := rfl
theorem O_ln : aLn L0 39 2 = some 9 := rfl
theorem O_ok : ∀ {i : Nat}, i < 9 → okL L0 39 (nI i) = true := by
  have h : ∀ i, i < 9 → okL L0 39 (nI i) = true := by decide +kernel
  intro _ hc; exact h _ hc
theorem isW3 : isW 3 := Or.inl rfl
theorem isW18 : isW 18 := Or.inr (Or.inl rfl)
theorem isWi {k : Nat} (h : k < 2) : isW (40 + 15 * k) := by
  rcases (show k = 0 ∨ k = 1 by omega) with rfl | rfl
  · exact Or.inr (Or.inr (Or.inl rfl))
  · exact Or.inr (Or.inr (Or.inr rfl))
theorem isW_lt {w : Nat} (h : isW w) : w + 15 ≤ 70 ∧ 3 ≤ w := by rcases h with rfl | rfl | rfl | rfl <;> omega
