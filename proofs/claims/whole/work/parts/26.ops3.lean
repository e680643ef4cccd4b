theorem xs_marker (x y : Int32) (M N : xm_M) (h : xR M N) : ∃ (r : Int32) (M1 N1 : xm_M), fX3_marker x y M = some (r, M1) ∧ fX4_marker x y N = some (r, N1) ∧ xR M1 N1 := by
  unfold fX3_marker fX4_marker
  simp only [fX3_isPlace, fX4_isPlace, px_in, pm_in, pb_i, pm_bit (fun x => some (x, N))]
  by_cases h1 : -100000 ≤ x ∧ x ≤ 100000
  case neg =>
    simp only [if_neg h1, pb_i, show ¬ (1 : Int32) = 0 by decide, if_false, if_true]
    exact ⟨_, _, _, rfl, rfl, h⟩
  by_cases h2 : -100000 ≤ y ∧ y ≤ 100000
  case neg =>
    simp only [if_pos h1, if_neg h2, pb_i, show ¬ (1 : Int32) = 0 by decide, if_false, if_true]
    exact ⟨_, _, _, rfl, rfl, h⟩
  simp only [if_pos h1, if_pos h2, pb_i, show ¬ (1 : Int32) = 0 by decide, if_false, pb_lt]
  obtain ⟨hS, ⟨⟨p0, p1, p2, p3, p4, p5⟩, q2⟩, hC, hK, hL⟩ := (sS_iff _ _).mp h.1
  obtain ⟨c, hc6, hc, hc2, _⟩ := pn_ofI (n := 6) p1.1 p1.2
  have e9 : N.1 1 10 = nI c := by rw [← hc]; exact q2 1 (by omega)
  have e4 : M.1 1 5 = nI c := hc
  rw [e4, e9]
  by_cases hf : c < 6
  case neg =>
    have : c = 6 := by omega
    subst this
    rw [if_neg (by decide), if_pos (by decide)]
    exact ⟨_, _, _, rfl, rfl, h⟩
  have l1 : nI c < (6 : Int32) := (px_lt_nI (n := 6) rfl (by omega) (by omega)).mpr hf
  have l2 : ¬ nI c = (6 : Int32) := fun z => by
    have := (px_eq_nI (n := 6) rfl (by omega) (by omega)).mp z
    omega
  have hx : -100000 ≤ x.toInt ∧ x.toInt ≤ 100000 := ⟨Int32.le_iff_toInt_le.mp h1.1, Int32.le_iff_toInt_le.mp h1.2⟩
  have hy : -100000 ≤ y.toInt ∧ y.toInt ≤ 100000 := ⟨Int32.le_iff_toInt_le.mp h2.1, Int32.le_iff_toInt_le.mp h2.2⟩
  rw [if_pos l1, if_neg l2]
  simp only [px_mK_0 hf, px_mK_1 hf, pb_v]
  have ea : (55 : Int32) + 2 * nI c = nI (55 + 2 * c) := by rw [show (55 : Int32) = nI 55 from rfl, show (2 : Int32) = nI 2 from rfl, pi_mul, pi_add]
  rw [ea, if_neg (px_kn (show 55 + 2 * c < 547 by omega) (by omega)), nI_clamp (by omega)]
  simp only [pm_s, true_and, show ¬ 10 = 55 + 2 * c by omega, if_false, e9, ea, pi_succ]
  rw [if_neg (px_kn (show 55 + 2 * c + 1 < 547 by omega) (by omega)), nI_clamp (by omega)]
  simp only [pm_s, true_and, show ¬ 10 = 55 + 2 * c + 1 by omega, show ¬ 10 = 55 + 2 * c by omega, if_false, if_true, e9, pi_succ, pi_pred]
  refine ⟨_, _, _, rfl, rfl, xR_state h ?_ ?_ ?_⟩
  · intro k i hk
    simp only [pm_s]
    rw [if_neg (by omega), if_neg (by omega), if_neg (by omega)]
  · intro k i hk
    simp only [pm_s]
    simp only [hk, false_and, if_false]
  · have hV : ∀ r i, ¬ (r = 1 ∧ i = 1) → ¬ (7 ≤ r ∧ r < 9 ∧ i = c) → cVs 1 (xm_s (xm_s (xm_s M 10 c x) 11 c y) 1 5 (nI (c + 1))) r i = cVs 1 M r i := by
      intro r i hi hi2
      rw [cVs_st, cVs_st, cVs_st, if_neg (by omega), if_neg (by omega), if_neg (by omega)]
    have v0 : cVs 1 (xm_s (xm_s (xm_s M 10 c x) 11 c y) 1 5 (nI (c + 1))) 1 1 = nI (c + 1) := by simp [cVs_st]
    have v2 : cVs 1 (xm_s (xm_s (xm_s M 10 c x) 11 c y) 1 5 (nI (c + 1))) 7 c = x := by simp [cVs_st]
    have v3 : cVs 1 (xm_s (xm_s (xm_s M 10 c x) 11 c y) 1 5 (nI (c + 1))) 8 c = y := by simp [cVs_st]
    generalize cVs 1 (xm_s (xm_s (xm_s M 10 c x) 11 c y) 1 5 (nI (c + 1))) = V' at hV v0 v2 v3 ⊢
    have hA : ∀ k, ¬ k = 10 → ¬ (55 + 2 * c ≤ k ∧ k < 55 + 2 * c + 2) → (xm_s (xm_s (xm_s N 1 (55 + 2 * c) x) 1 (55 + 2 * c + 1) y) 1 10 (nI (c + 1))).1 1 k = N.1 1 k := by
      intro k hk hk2
      simp only [pm_s]
      rw [if_neg (by omega), if_neg (by omega), if_neg (by omega)]
    have w9 : (xm_s (xm_s (xm_s N 1 (55 + 2 * c) x) 1 (55 + 2 * c + 1) y) 1 10 (nI (c + 1))).1 1 10 = nI (c + 1) := by simp [pm_s]
    have w0 : (xm_s (xm_s (xm_s N 1 (55 + 2 * c) x) 1 (55 + 2 * c + 1) y) 1 10 (nI (c + 1))).1 1 (55 + 2 * c) = x := by
      simp only [pm_s]
      rw [if_neg (by omega), if_neg (by omega), if_pos (by simp)]
    have w1 : (xm_s (xm_s (xm_s N 1 (55 + 2 * c) x) 1 (55 + 2 * c + 1) y) 1 10 (nI (c + 1))).1 1 (55 + 2 * c + 1) = y := by
      simp only [pm_s]
      rw [if_neg (by omega), if_pos (by simp)]
    generalize (xm_s (xm_s (xm_s N 1 (55 + 2 * c) x) 1 (55 + 2 * c + 1) y) 1 10 (nI (c + 1))).1 1 = A' at hA w9 w0 w1 ⊢
    have n9 : (nI (c + 1)).toInt = c + 1 := by rw [nI_toInt (by omega)]; omega
    refine (sS_iff _ _).mpr ⟨?_, ⟨⟨?_, ?_, ?_, ?_, ?_, ?_⟩, ?_⟩, ?_, ?_, ?_⟩
    · intro j hj
      rw [hV 0 j (by omega) (by omega), hA j (by omega) (by omega)]
      exact hS j hj
    · rw [hV 1 0 (by omega) (by omega)]; exact p0
    · rw [v0, n9]; omega
    · rw [hV 1 2 (by omega) (by omega)]; exact p2
    · rw [hV 1 3 (by omega) (by omega)]; exact p3
    · rw [hV 1 4 (by omega) (by omega)]; exact p4
    · rw [hV 1 5 (by omega) (by omega)]; exact p5
    · intro j hj
      by_cases z : j = 1
      · subst z; rw [v0]; exact w9
      · rw [hV 1 j (by omega) (by omega), hA (9 + j) (by omega) (by omega)]
        exact q2 j hj
    · rw [hV 1 0 (by omega) (by omega)]
      intro i hi
      exact okC_keep (hC i hi) (fun r _ _ => hV r i (by omega) (by omega)) (fun k hk => hA _ (by omega) (by omega))
    · rw [v0, n9]
      intro i hi
      by_cases z : i = c
      · subst z
        refine ⟨?_, ?_, ?_⟩
        · intro r hr hr2
          have : r = 7 ∨ r = 8 := by omega
          rcases this with z | z
          · subst z; rw [v2]; exact hx
          · subst z; rw [v3]; exact hy
        · rw [w0, v2]
        · rw [w1, v3]
      · exact okK_keep (hK i (by rw [hc2]; omega)) (fun r _ _ => hV r i (by omega) (by omega)) (fun k hk => hA _ (by omega) (by omega))
    · rw [v0, n9, hV 1 2 (by omega) (by omega)]
      intro i hi
      exact okL_keep (hL i hi) (by rw [hc2]; omega) (fun r _ _ => hV r i (by omega) (by omega)) (fun k hk => hA _ (by omega) (by omega))
theorem sS_less {V V' : sV} {A A' : Nat → Int32} {i c : Nat} (h : sS V A) (hi : i = 0 ∨ i = 2) (hc : (c : Int) ≤ (V 1 i).toInt) (hc2 : c < 1000) (hv : V' 1 i = nI c) (ha : A' (9 + i) = nI c) (hV : ∀ r j, ¬ (r = 1 ∧ j = i) → V' r j = V r j) (hA : ∀ k, ¬ k = 9 + i → A' k = A k) : sS V' A' := by
  obtain ⟨hS, ⟨⟨p0, p1, p2, p3, p4, p5⟩, q2⟩, hC, hK, hL⟩ := (sS_iff _ _).mp h
  have n9 : (V' 1 i).toInt = c := by rw [hv, nI_toInt (by omega)]
  have hle : ∀ j, j < 6 → ¬ j = i → V' 1 j = V 1 j := fun j _ z => hV 1 j (by omega)
  have hc0 : (V' 1 0).toInt ≤ (V 1 0).toInt ∧ 0 ≤ (V' 1 0).toInt := by
    rcases hi with z | z
    · subst z; rw [n9]; omega
    · rw [hV 1 0 (by omega)]; omega
  have hc2 : (V' 1 2).toInt ≤ (V 1 2).toInt ∧ 0 ≤ (V' 1 2).toInt := by
    rcases hi with z | z
    · rw [hV 1 2 (by omega)]; omega
    · subst z; rw [n9]; omega
  refine (sS_iff _ _).mpr ⟨?_, ⟨⟨?_, ?_, ?_, ?_, ?_, ?_⟩, ?_⟩, ?_, ?_, ?_⟩
  · intro j hj
    rw [hV 0 j (by omega), hA j (by omega)]
    exact hS j hj
  · omega
  · rw [hV 1 1 (by omega)]; exact p1
  · omega
  · rw [hV 1 3 (by omega)]; exact p3
  · rw [hV 1 4 (by omega)]; exact p4
  · rw [hV 1 5 (by omega)]; exact p5
  · intro j hj
    by_cases z : j = i
    · subst z; rw [hv, ha]
    · rw [hV 1 j (by omega), hA (9 + j) (by omega)]
      exact q2 j hj
  · intro k hk
    exact okC_keep (hC k (by omega)) (fun r _ _ => hV r k (by omega)) (fun q hq => hA _ (by omega))
  · intro k hk
    rw [hV 1 1 (by omega)] at hk
    exact okK_keep (hK k hk) (fun r _ _ => hV r k (by omega)) (fun q hq => hA _ (by omega))
  · intro k hk
    rw [hV 1 1 (by omega)]
    exact okL_keep (hL k (by omega)) (Int.le_refl _) (fun r _ _ => hV r k (by omega)) (fun q hq => hA _ (by omega))
theorem xs_closeCorridor (M N : xm_M) (h : xR M N) : ∃ (r : Int32) (M1 N1 : xm_M), fX3_closeCorridor M = some (r, M1) ∧ fX4_closeCorridor N = some (r, N1) ∧ xR M1 N1 := by
  unfold fX3_closeCorridor fX4_closeCorridor
  obtain ⟨hS, ⟨⟨p0, p1, p2, p3, p4, p5⟩, q2⟩, hC, hK, hL⟩ := (sS_iff _ _).mp h.1
  obtain ⟨c, hc8, hc, hc2, _⟩ := pn_ofI (n := 8) p0.1 p0.2
  have e9 : N.1 1 9 = nI c := by rw [← hc]; exact q2 0 (by omega)
  have e4 : M.1 1 4 = nI c := hc
  rw [e4, e9, pb_lt, pb_lt]
  cases c with
  | zero =>
    rw [if_neg (by decide), if_pos (by decide)]
    exact ⟨_, _, _, rfl, rfl, h⟩
  | succ c =>
    have l1 : (0 : Int32) < nI (c + 1) := by rw [Int32.lt_iff_toInt_lt, nI_toInt (by omega)]; show (0 : Int) < _; omega
    have l2 : ¬ nI (c + 1) = (0 : Int32) := fun z => by rw [z] at l1; exact absurd l1 (by decide)
    rw [if_pos l1, if_neg l2, pi_pred, pm_s, pm_s, if_pos ⟨rfl, rfl⟩, if_pos ⟨rfl, rfl⟩]
    refine ⟨_, _, _, rfl, rfl, xR_state h ?_ ?_ (sS_less (i := 0) (c := c) h.1 (Or.inl rfl) (by rw [hc2]; omega) (by omega) ?_ ?_ ?_ ?_)⟩
    · intro k i hk
      rw [pm_s, if_neg (by omega)]
    · intro k i hk
      rw [pm_s, if_neg (by omega)]
    · simp [cVs_st]
    · simp [pm_s]
    · intro r j hj
      rw [cVs_st, if_neg (by omega)]
    · intro k hk
      rw [pm_s, if_neg (by omega)]
theorem xs_cut (a : Int32) (M N : xm_M) (h : xR M N) : ∃ (r : Int32) (M1 N1 : xm_M), fX3_cut a M = some (r, M1) ∧ fX4_cut a N = some (r, N1) ∧ xR M1 N1 := by
  unfold fX3_cut fX4_cut
  obtain ⟨hS, ⟨⟨p0, p1, p2, p3, p4, p5⟩, q2⟩, hC, hK, hL⟩ := (sS_iff _ _).mp h.1
  obtain ⟨c, hc8, hc, hc2, _⟩ := pn_ofI (n := 120) p2.1 p2.2
  have e9 : N.1 1 11 = nI c := by rw [← hc]; exact q2 2 (by omega)
  have e4 : M.1 1 6 = nI c := hc
  rw [e4, e9, pb_lt, pb_lt]
  by_cases h1 : a < 1
  · rw [if_pos h1, if_pos h1]
    exact ⟨_, _, _, rfl, rfl, h⟩
  rw [if_neg h1, if_neg h1]
  by_cases h2 : a ≤ nI c
  case neg =>
    rw [if_neg h2, if_neg h2]
    exact ⟨_, _, _, rfl, rfl, h⟩
  rw [if_pos h2, if_pos h2]
  have a0 : 1 ≤ a.toInt := by
    have := Int32.le_iff_toInt_le.mp (Int32.not_lt.mp h1)
    exact this
  have a1 : a.toInt ≤ c := by
    have := Int32.le_iff_toInt_le.mp h2
    rw [nI_toInt (by omega)] at this
    exact this
  obtain ⟨d, hd, hd1, hd2, _⟩ := pn_ofI (n := c) (show 0 ≤ a.toInt by omega) a1
  have e5 : nI c - a = nI (c - d) := by
    have : nI c = nI (c - d) + nI d := by rw [pi_add, Nat.sub_add_cancel hd]
    rw [this, hd1]
    exact Int32.add_sub_cancel _ _
  rw [e5, pm_s, pm_s, if_pos ⟨rfl, rfl⟩, if_pos ⟨rfl, rfl⟩]
  refine ⟨_, _, _, rfl, rfl, xR_state h ?_ ?_ (sS_less (i := 2) (c := c - d) h.1 (Or.inr rfl) (by rw [hc2]; omega) (by omega) ?_ ?_ ?_ ?_)⟩
  · intro k i hk
    rw [pm_s, if_neg (by omega)]
  · intro k i hk
    rw [pm_s, if_neg (by omega)]
  · simp [cVs_st]
  · simp [pm_s]
  · intro r j hj
    rw [cVs_st, if_neg (by omega)]
  · intro k hk
    rw [pm_s, if_neg (by omega)]
