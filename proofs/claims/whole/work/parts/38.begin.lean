/-! AT THE BEGINNING, and all of it -/
theorem xb_s {s : Nat} (hs : s = 1 ∨ s = 17 ∨ s = 33) : sS (cVs s xk_Mc) (xk_Mm.1 1) := by
  have hz : ∀ r j, 1 ≤ r → cVs s xk_Mc r j = 0 := by
    intro r j hr
    have e : ∀ k i, ¬ k = 2 → ¬ k = 18 → ¬ k = 34 → ¬ k = 72 → xk_Mc.1 k i = 0 := by
      intro k i h1 h2 h3 h4
      unfold xk_Mc
      show (if k = 2 then xk_fv else if k = 18 then xk_fv else if k = 34 then xk_fv else if k = 72 then xk_fv else fun _ => 0) i = 0
      rw [if_neg h1, if_neg h2, if_neg h3, if_neg h4]
    unfold cVs
    repeat' split
    all_goals first | rfl | omega | exact e _ _ (by omega) (by omega) (by omega) (by omega)
  have h0 : ∀ j, cVs s xk_Mc 0 j = xk_fv j := by
    intro j
    rcases hs with rfl | rfl | rfl <;> rfl
  have z0 : (0 : Int32).toInt = 0 := rfl
  refine (sS_iff _ _).mpr ⟨?_, ⟨⟨?_, ?_, ?_, ?_, ?_, ?_⟩, ?_⟩, ?_, ?_, ?_⟩
  · intro j hj
    rw [h0]
    revert j
    refine px_r9 ?_ ?_ ?_ ?_ ?_ ?_ ?_ ?_ ?_
    all_goals decide
  · rw [hz 1 0 (by omega), z0]; omega
  · rw [hz 1 1 (by omega), z0]; omega
  · rw [hz 1 2 (by omega), z0]; omega
  · rw [hz 1 3 (by omega), z0]; omega
  · rw [hz 1 4 (by omega), z0]; omega
  · rw [hz 1 5 (by omega), z0]; omega
  · intro j hj
    rw [hz 1 j (by omega)]
    match j, hj with
    | 0, _ => rfl
    | 1, _ => rfl
    | 2, _ => rfl
    | 3, _ => rfl
    | 4, _ => rfl
    | 5, _ => rfl
  · intro c hc
    rw [hz 1 0 (by omega), z0] at hc
    omega
  · intro c hc
    rw [hz 1 1 (by omega), z0] at hc
    omega
  · intro c hc
    rw [hz 1 2 (by omega), z0] at hc
    omega
theorem xb_R : xR xk_Mc xk_Mm := by
  refine ⟨xb_s (Or.inl rfl), Or.inl ⟨rfl, rfl⟩, Or.inl ⟨rfl, rfl⟩, rfl, by decide, by decide, ?_⟩
  intro j hj
  have e : (xk_Mc.1 69 1).toInt = 0 := rfl
  rw [e] at hj
  omega
