/-- state and array taken over within their bounds -/
theorem sS_congr {V V' : sV} {A A' : Nat → Int32} (h : sS V A) (h0 : ∀ b, b < 9 → V' 0 b = V 0 b) (h1 : ∀ b, b < 6 → V' 1 b = V 1 b) (h2 : ∀ r b, 2 ≤ r → r < 7 → b < 8 → V' r b = V r b) (h3 : ∀ r b, 7 ≤ r → r < 9 → b < 6 → V' r b = V r b) (h4 : ∀ r b, 9 ≤ r → r < 13 → b < 120 → V' r b = V r b) (hA : ∀ k, k < 547 → A' k = A k) : sS V' A' := by
  obtain ⟨hS, ⟨⟨p0, p1, p2, p3, p4, p5⟩, q2⟩, hC, hK, hL⟩ := (sS_iff _ _).mp h
  refine (sS_iff _ _).mpr ⟨?_, ⟨⟨?_, ?_, ?_, ?_, ?_, ?_⟩, ?_⟩, ?_, ?_, ?_⟩
  · intro j hj
    rw [h0 j hj, hA j (by omega)]
    exact hS j hj
  · rw [h1 0 (by omega)]; exact p0
  · rw [h1 1 (by omega)]; exact p1
  · rw [h1 2 (by omega)]; exact p2
  · rw [h1 3 (by omega)]; exact p3
  · rw [h1 4 (by omega)]; exact p4
  · rw [h1 5 (by omega)]; exact p5
  · intro j hj
    rw [h1 j hj, hA (9 + j) (by omega)]
    exact q2 j hj
  · rw [h1 0 (by omega)]
    intro c hc
    exact okC_keep (hC c hc) (fun r r1 r2 => h2 r c r1 r2 (by omega)) (fun i hi => hA _ (by omega))
  · rw [h1 1 (by omega)]
    intro c hc
    exact okK_keep (hK c hc) (fun r r1 r2 => h3 r c r1 r2 (by omega)) (fun i hi => hA _ (by omega))
  · rw [h1 1 (by omega), h1 2 (by omega)]
    intro c hc
    exact okL_keep (hL c hc) (Int.le_refl _) (fun r r1 r2 => h4 r c r1 r2 (by omega)) (fun i hi => hA _ (by omega))
theorem pi_547 {s k : Nat} : (547 : Int32) * nI s + nI k = nI (547 * s + k) := by
  rw [show (547 : Int32) = nI 547 from rfl, pi_mul, pi_add]
theorem pm_save {s : Nat} (hs : s < 2) (N0 : xm_M) : ∃ N', fX4_save_14_it xm_N (nI s) 0 N0 = some (N0.1 1 11, N') ∧ (∀ k j, N'.1 k j = if k = 3 ∧ j = s then 1 else if k = 2 ∧ 547 * s ≤ j ∧ j < 547 * s + 547 then N0.1 1 (j - 547 * s) else N0.1 k j) := by
  have loop : ∀ (q c : Nat) (N : xm_M), c ≤ 547 → 547 - c < q → (∀ k j, N.1 k j = if k = 2 ∧ 547 * s ≤ j ∧ j < 547 * s + c then N0.1 1 (j - 547 * s) else N0.1 k j) → ∃ N', fX4_save_14_it q (nI s) (nI c) N = some (N0.1 1 11, N') ∧ (∀ k j, N'.1 k j = if k = 3 ∧ j = s then 1 else if k = 2 ∧ 547 * s ≤ j ∧ j < 547 * s + 547 then N0.1 1 (j - 547 * s) else N0.1 k j) := by
    intro q
    induction q with
    | zero => intro c _ _ h; omega
    | succ q ih =>
      intro c N hc hq hN
      show ∃ N', fX4_save_14 (fX4_save_14_it q) (nI s) (nI c) N = some (N0.1 1 11, N') ∧ _
      unfold fX4_save_14
      have e1 : (547 : Int32) = nI 547 := rfl
      by_cases hlt : c < 547
      · rw [if_neg (by rw [e1, nI_leI (by omega) (by omega)]; omega), if_neg (px_kn hlt (by omega)), pi_547, if_neg (px_kn (n := 1094) (by omega) (by omega)), pb_lt, pb_lt, show nI c + Int32.ofInt 1 = nI (c + 1) from (nI_succ c).symm, nI_clamp (by omega), nI_clamp (by omega)]
        refine ih (c + 1) _ (by omega) (by omega) ?_
        intro k j
        rw [pm_s]
        by_cases h : k = 2 ∧ j = 547 * s + c
        · rw [if_pos h, if_pos (by omega), hN, if_neg (by omega), show j - 547 * s = c by omega]
        · rw [if_neg h, hN]
          by_cases h2 : k = 2 ∧ 547 * s ≤ j ∧ j < 547 * s + c
          · rw [if_pos h2, if_pos (by omega)]
          · rw [if_neg h2, if_neg (by omega)]
      · rw [if_pos (by rw [e1, nI_leI (by omega) (by omega)]; omega), if_neg (px_kn hs (by omega)), pb_lt, nI_clamp (by omega)]
        have : c = 547 := by omega
        subst this
        have e11 : (xm_s N 3 s (vp_nar .boolean (1 : Int32))).1 1 11 = N0.1 1 11 := by
          rw [pm_s, if_neg (by omega), hN, if_neg (by omega)]
        rw [e11]
        refine ⟨_, rfl, ?_⟩
        intro k j
        rw [pm_s]
        by_cases h : k = 3 ∧ j = s
        · rw [if_pos h, if_pos h]
          decide
        · rw [if_neg h, if_neg h, hN]
  exact loop xm_N 0 N0 (by omega) (by show 547 - 0 < 4096; omega) (fun k j => by rw [if_neg (by omega)])
theorem pm_restore {s : Nat} (hs : s < 2) (N0 : xm_M) : ∃ N', fX4_restore_26_it xm_N (nI s) 0 N0 = some (N'.1 1 11, N') ∧ (∀ k j, N'.1 k j = if k = 1 ∧ j < 547 then N0.1 2 (547 * s + j) else N0.1 k j) := by
  have loop : ∀ (q c : Nat) (N : xm_M), c ≤ 547 → 547 - c < q → (∀ k j, N.1 k j = if k = 1 ∧ j < c then N0.1 2 (547 * s + j) else N0.1 k j) → ∃ N', fX4_restore_26_it q (nI s) (nI c) N = some (N'.1 1 11, N') ∧ (∀ k j, N'.1 k j = if k = 1 ∧ j < 547 then N0.1 2 (547 * s + j) else N0.1 k j) := by
    intro q
    induction q with
    | zero => intro c _ _ h; omega
    | succ q ih =>
      intro c N hc hq hN
      show ∃ N', fX4_restore_26 (fX4_restore_26_it q) (nI s) (nI c) N = some (N'.1 1 11, N') ∧ _
      unfold fX4_restore_26
      have e1 : (547 : Int32) = nI 547 := rfl
      by_cases hlt : c < 547
      · rw [if_neg (by rw [e1, nI_leI (by omega) (by omega)]; omega), pi_547, if_neg (px_kn (n := 1094) (by omega) (by omega)), if_neg (px_kn hlt (by omega)), pb_lt, pb_lt, show nI c + Int32.ofInt 1 = nI (c + 1) from (nI_succ c).symm, nI_clamp (by omega), nI_clamp (by omega)]
        refine ih (c + 1) _ (by omega) (by omega) ?_
        intro k j
        rw [pm_s]
        by_cases h : k = 1 ∧ j = c
        · rw [if_pos h, if_pos (by omega), hN, if_neg (by omega), h.2]
        · rw [if_neg h, hN]
          by_cases h2 : k = 1 ∧ j < c
          · rw [if_pos h2, if_pos (by omega)]
          · rw [if_neg h2, if_neg (by omega)]
      · rw [if_pos (by rw [e1, nI_leI (by omega) (by omega)]; omega)]
        have : c = 547 := by omega
        subst this
        exact ⟨N, rfl, hN⟩
  exact loop xm_N 0 N0 (by omega) (by show 547 - 0 < 4096; omega) (fun k j => by rw [if_neg (by omega)])
