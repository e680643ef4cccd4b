theorem px_meet {ps e nm : Nat} {M : xm_M} (he : e < 120) (hf : cFree e M) (hm : M.1 13 e = nI nm) (hm6 : nm < 6) :
    ∃ M', fX2_meet (nI e) M = some M' ∧ cE (cV ps M) e (M.1 49 3, M.1 49 4, M.1 49 5, M.1 49 6, M.1 49 7) M M' := by
  have h3 : sp_step (cV ps M) e (M.1 49 3, M.1 49 4, M.1 49 5, M.1 49 6, M.1 49 7) = ((1000 * M.1 10 nm, 1000 * M.1 11 nm, M.1 49 5, M.1 49 6, M.1 49 7), sp_row 4 (nI nm) sp_NG sp_NG sp_NG sp_NG sp_NG sp_NG sp_NG (M.1 49 3 - 1000 * M.1 10 nm) (M.1 49 4 - 1000 * M.1 11 nm)) := by
    have e9 : cV ps M 9 e = nI nm := hm
    have h0 : 0 ≤ cV ps M 9 e := by
      rw [e9]
      exact Int32.le_iff_toInt_le.mpr (by rw [nI_toInt (by omega)]; exact Int.natCast_nonneg nm)
    unfold sp_step
    rw [if_pos h0]
    unfold sp_mx sp_my
    rw [e9, nI_clamp (by omega)]
    rfl
  unfold fX2_meet
  simp only [px_lI_0 he, pb_i, pb_v, pb_lt, hm, px_mI_0 hm6, px_mI_1 hm6, px_KK_4 he, px_fK_1 he, px_fK_9 he, px_fK_10 he, pm_s, Nat.reduceEqDiff, false_and, if_false]
  refine ⟨_, rfl, ?_⟩
  unfold cE
  rw [h3]
  refine ⟨?_, ?_, ?_, ?_, ?_, ?_⟩
  · intro k j hk
    simp only [pm_s, pm_l]
    simp only [show ¬ k = 57 by omega, show ¬ k = 58 by omega, show ¬ k = 66 by omega, show ¬ k = 67 by omega, show ¬ k = 68 by omega, show ¬ k = 49 by omega, false_and, if_false]
  · intro r j hr
    revert r
    refine px_r11 ?_ ?_ ?_ ?_ ?_ ?_ ?_ ?_ ?_ ?_ ?_
    all_goals simp [pm_s, pm_l, sp_row]
    all_goals (intro hj; subst hj; first | exact hf 2 (by decide) | exact hf 3 (by decide) | exact hf 4 (by decide) | exact hf 5 (by decide) | exact hf 6 (by decide) | exact hf 7 (by decide) | exact hf 8 (by decide))
  · simp [pm_s, pm_l]
  · simp [pm_s, pm_l, sp_row, sp_NG]
  · simp [pm_s, pm_l2, pm_s2, sp_row, sp_ab32]
  · refine px_r5 ?_ ?_ ?_ ?_ ?_
    all_goals simp [pm_s, pm_l, sp_row, px_n0, px_n1, px_n2, px_n3, px_n4]
/-- the counts over the entries up to n -/
noncomputable def sp_nK (V : sV) (k : Int32) : Nat → Int32
  | 0 => 0
  | n + 1 => sp_nK V k n + (if sp_F V n 0 = k then 1 else 0)
noncomputable def sp_nP (V : sV) : Nat → Int32
  | 0 => 0
  | n + 1 => sp_nP V n + (if 0 ≤ sp_F V n 7 then 1 else 0)
noncomputable def sp_E (V : sV) : Nat → Int64
  | 0 => 0
  | n + 1 => sp_E V n + (if sp_F V n 0 = 4 then (sp_ab32 (sp_F V n 9)).toInt64 + (sp_ab32 (sp_F V n 10)).toInt64 else 0)
/-- the way behind n entries -/
def cW (V : sV) (M0 M : xm_M) (n : Nat) : Prop :=
  (∀ k j, (k < 49 ∨ 68 < k) → M.1 k j = M0.1 k j) ∧
  (∀ r j, r < 11 → j < 120 → M.1 (57 + r) j = if j < n then sp_F V j r else sp_NG) ∧
  (M.1 49 3, M.1 49 4, M.1 49 5, M.1 49 6, M.1 49 7) = sp_P V n ∧
  (∀ j, j ≤ n → (M.1 51 j, M.1 52 j, M.1 53 j, M.1 54 j, M.1 55 j) = sp_P V j) ∧
  M.1 49 8 = sp_nP V n ∧ M.2 49 9 = sp_E V n ∧
  (∀ k, k < 5 → M.1 68 k = sp_nK V (nI k) n)
theorem px_P2 (V : sV) (n : Nat) : sp_P V (n + 1) = (sp_step V n (sp_P V n)).1 := rfl
theorem px_W1 {V : sV} {M0 M M' : xm_M} {e : Nat} (he : e < 120) (h : cW V M0 M e) (hE : cE V e (M.1 49 3, M.1 49 4, M.1 49 5, M.1 49 6, M.1 49 7) M M') :
    ∃ M2, fX2_keepPose (nI (e + 1)) M' = some M2 ∧ cW V M0 M2 (e + 1) := by
  obtain ⟨h1, h2, h3, h4, h5, h6, h7⟩ := h
  rw [h3] at hE
  obtain ⟨g1, g2, g3, g4, g5, g6⟩ := hE
  rw [px_keepPose (by omega)]
  refine ⟨_, rfl, ?_⟩
  have g3' := g3
  rw [← px_P2 V e] at g3
  refine ⟨?_, ?_, ?_, ?_, ?_, ?_, ?_⟩
  · intro k j hk
    simp only [pm_s]
    simp only [show ¬ k = 51 by omega, show ¬ k = 52 by omega, show ¬ k = 53 by omega, show ¬ k = 54 by omega, show ¬ k = 55 by omega, false_and, if_false]
    rw [g1 k j (by omega), h1 k j hk]
  · intro r j hr hj
    simp only [pm_s]
    simp only [show ¬ 57 + r = 51 by omega, show ¬ 57 + r = 52 by omega, show ¬ 57 + r = 53 by omega, show ¬ 57 + r = 54 by omega, show ¬ 57 + r = 55 by omega, false_and, if_false]
    rw [g2 r j hr]
    by_cases hje : j = e
    · subst hje
      rw [if_pos rfl, if_pos (by omega)]
      rfl
    · rw [if_neg hje, h2 r j hr hj]
      by_cases hl : j < e
      · rw [if_pos hl, if_pos (by omega)]
      · rw [if_neg hl, if_neg (by omega)]
  · simp only [pm_s, Nat.reduceEqDiff, false_and, if_false]
    exact g3
  · intro j hj
    simp only [pm_s, Nat.reduceEqDiff, false_and, if_false, true_and]
    by_cases hje : j = e + 1
    · subst hje
      simp only [if_true]
      exact g3
    · simp only [hje, if_false]
      rw [g1 51 j (by omega), g1 52 j (by omega), g1 53 j (by omega), g1 54 j (by omega), g1 55 j (by omega)]
      exact h4 j (by omega)
  · simp only [pm_s, Nat.reduceEqDiff, false_and, if_false]
    rw [g4, h5]
    rfl
  · simp only [pm_s2]
    rw [g5, h6]
    rfl
  · intro k hk
    simp only [pm_s, Nat.reduceEqDiff, false_and, if_false]
    rw [g6 k hk, h7 k hk]
    rfl
theorem px_isSight {e : Nat} {M : xm_M} (he : e < 120) : fX1_isSight (nI e) M = some (if 0 ≤ M.1 13 e then 1 else 0, M) := by
  unfold fX1_isSight
  simp only [px_lI_0 he, pb_i]
  by_cases h : 0 ≤ M.1 13 e
  · rw [if_pos h, if_neg (Int32.not_lt.mpr h)]
  · rw [if_neg h, if_pos (Int32.not_le.mp h)]
