theorem pm_add {n : Nat} {s a b t : Int32} {N : xm_M} (hn : n < 120) (h11 : N.1 1 11 = nI n) :
    fX4_add s a b t N = some (xm_s (xm_s (xm_s (xm_s (xm_s N 1 (67 + 4 * n) s) 1 (67 + 4 * n + 1) a) 1 (67 + 4 * n + 2) b) 1 (67 + 4 * n + 3) t) 1 11 (nI (n + 1))) := by
  unfold fX4_add
  have k : ∀ {α : Type} (i : Nat) (x y : α), i < 4 → (if nI (67 + 4 * n + i) < 0 ∨ 547 ≤ (nI (67 + 4 * n + i)).toNatClampNeg then x else y) = y := fun i x y hi => if_neg (px_kn (n := 547) (by omega) (by omega))
  have k0 : ∀ {α : Type} (x y : α), (if nI (67 + 4 * n) < 0 ∨ 547 ≤ (nI (67 + 4 * n)).toNatClampNeg then x else y) = y := fun x y => if_neg (px_kn (n := 547) (by omega) (by omega))
  rw [h11, show (67 : Int32) + 4 * nI n = nI (67 + 4 * n) from by rw [show (67 : Int32) = nI 67 from rfl, show (4 : Int32) = nI 4 from rfl, pi_mul, pi_add], pb_lt, k0, pb_lt, show (1 : Int32) = nI 1 from rfl, show (2 : Int32) = nI 2 from rfl, show (3 : Int32) = nI 3 from rfl, pi_add, pi_add, pi_add, k 1 _ _ (by omega), pb_lt, k 2 _ _ (by omega), pb_lt, k 3 _ _ (by omega), pb_lt, pb_lt, nI_clamp (by omega), nI_clamp (by omega), nI_clamp (by omega), nI_clamp (by omega)]
  simp only [pm_s, true_and, show ¬ 11 = 67 + 4 * n by omega, show ¬ 11 = 67 + 4 * n + 1 by omega, show ¬ 11 = 67 + 4 * n + 2 by omega, show ¬ 11 = 67 + 4 * n + 3 by omega, if_false, h11, pi_add]
theorem sS_more {V V' : sV} {A A' : Nat → Int32} {n : Nat} (h : sS V A) (hn : V 1 2 = nI n) (hn2 : n < 120) (hv : V' 1 2 = nI (n + 1)) (ha : A' 11 = nI (n + 1)) (hV : ∀ r j, ¬ (r = 1 ∧ j = 2) → ¬ (9 ≤ r ∧ j = n) → V' r j = V r j) (hA : ∀ k, ¬ k = 11 → ¬ (67 + 4 * n ≤ k ∧ k < 67 + 4 * n + 4) → A' k = A k) (hl : okL V' A' (V 1 1).toInt n) : sS V' A' := by
  obtain ⟨hS, ⟨⟨p0, p1, p2, p3, p4, p5⟩, q2⟩, hC, hK, hL⟩ := (sS_iff _ _).mp h
  have n9 : (V' 1 2).toInt = n + 1 := by rw [hv, nI_toInt (by omega)]; omega
  have n8 : (V 1 2).toInt = n := by rw [hn, nI_toInt (by omega)]
  refine (sS_iff _ _).mpr ⟨?_, ⟨⟨?_, ?_, ?_, ?_, ?_, ?_⟩, ?_⟩, ?_, ?_, ?_⟩
  · intro j hj
    rw [hV 0 j (by omega) (by omega), hA j (by omega) (by omega)]
    exact hS j hj
  · rw [hV 1 0 (by omega) (by omega)]; exact p0
  · rw [hV 1 1 (by omega) (by omega)]; exact p1
  · omega
  · rw [hV 1 3 (by omega) (by omega)]; exact p3
  · rw [hV 1 4 (by omega) (by omega)]; exact p4
  · rw [hV 1 5 (by omega) (by omega)]; exact p5
  · intro j hj
    by_cases z : j = 2
    · subst z; rw [hv]; exact ha
    · rw [hV 1 j (by omega) (by omega), hA (9 + j) (by omega) (by omega)]
      exact q2 j hj
  · intro k hk
    rw [hV 1 0 (by omega) (by omega)] at hk
    exact okC_keep (hC k hk) (fun r _ _ => hV r k (by omega) (by omega)) (fun q hq => hA _ (by omega) (by omega))
  · intro k hk
    rw [hV 1 1 (by omega) (by omega)] at hk
    exact okK_keep (hK k hk) (fun r _ _ => hV r k (by omega) (by omega)) (fun q hq => hA _ (by omega) (by omega))
  · intro k hk
    rw [hV 1 1 (by omega) (by omega)]
    by_cases z : k = n
    · subst z; exact hl
    · exact okL_keep (hL k (by omega)) (Int.le_refl _) (fun r _ _ => hV r k (by omega) (by omega)) (fun q hq => hA _ (by omega) (by omega))
/-- an entry added on both sides; what it leaves alone -/
def xAdd (M N : xm_M) (c m : Option (Int32 × xm_M)) : Prop := ∃ (r : Int32) (M1 N1 : xm_M), c = some (r, M1) ∧ m = some (r, N1) ∧ xR M1 N1 ∧ (∀ k j, 17 ≤ k → M1.1 k j = M.1 k j) ∧ (∀ k j, ¬ k = 1 → N1.1 k j = N.1 k j)
theorem xs_addStep (a b t : Int32) (M N : xm_M) (h : xR M N) : xAdd M N (fX1_addStep a b t M) (fX4_step a b t N) := by
  unfold fX1_addStep fX4_step
  simp only [px_in, pm_in, pb_i]
  by_cases h1 : -300 ≤ a ∧ a ≤ 300
  case neg =>
    simp only [if_neg h1, pb_i, show ¬ (1 : Int32) = 0 by decide, if_false, if_true]
    exact ⟨_, _, _, rfl, rfl, h, fun _ _ _ => rfl, fun _ _ _ => rfl⟩
  by_cases h2 : -300 ≤ b ∧ b ≤ 300
  case neg =>
    simp only [if_pos h1, if_neg h2, pb_i, show ¬ (1 : Int32) = 0 by decide, if_false, if_true]
    exact ⟨_, _, _, rfl, rfl, h, fun _ _ _ => rfl, fun _ _ _ => rfl⟩
  by_cases h3 : -300000 ≤ t ∧ t ≤ 300000
  case neg =>
    simp only [if_pos h1, if_pos h2, if_neg h3, pb_i, show ¬ (1 : Int32) = 0 by decide, if_false, if_true]
    exact ⟨_, _, _, rfl, rfl, h, fun _ _ _ => rfl, fun _ _ _ => rfl⟩
  simp only [if_pos h1, if_pos h2, if_pos h3, pb_i, show ¬ (1 : Int32) = 0 by decide, if_false, pb_lt]
  obtain ⟨hS, ⟨⟨p0, p1, p2, p3, p4, p5⟩, q2⟩, hC, hK, hL⟩ := (sS_iff _ _).mp h.1
  obtain ⟨c, hc8, hc, hc2, _⟩ := pn_ofI (n := 120) p2.1 p2.2
  have e9 : N.1 1 11 = nI c := by rw [← hc]; exact q2 2 (by omega)
  have e4 : M.1 1 6 = nI c := hc
  rw [e4, e9]
  by_cases hf : c < 120
  case neg =>
    have : c = 120 := by omega
    subst this
    rw [if_neg (by decide), if_pos (by decide)]
    exact ⟨_, _, _, rfl, rfl, h, fun _ _ _ => rfl, fun _ _ _ => rfl⟩
  have l1 : nI c < (120 : Int32) := (px_lt_nI (n := 120) rfl (by omega) (by omega)).mpr hf
  have l2 : ¬ nI c = (120 : Int32) := fun z => by
    have := (px_eq_nI (n := 120) rfl (by omega) (by omega)).mp z
    omega
  rw [if_pos l1, if_neg l2]
  simp only [px_lK_0 hf, px_lK_1 hf, px_lK_2 hf, px_lK_3 hf, pb_v, pm_s, Nat.reduceEqDiff, false_and, if_false, e4, pi_succ]
  rw [pm_add hf e9, pb_v]
  simp only [pm_s, and_self, if_true]
  refine ⟨_, _, _, rfl, rfl, xR_state h ?_ ?_ ?_, ?_, ?_⟩
  · intro k i hk
    simp only [pm_s]
    rw [if_neg (by omega), if_neg (by omega), if_neg (by omega), if_neg (by omega), if_neg (by omega)]
  · intro k i hk
    simp only [pm_s]
    simp only [hk, false_and, if_false]
  · have a0 : -300 ≤ a.toInt ∧ a.toInt ≤ 300 := ⟨Int32.le_iff_toInt_le.mp h1.1, Int32.le_iff_toInt_le.mp h1.2⟩
    have b0 : -300 ≤ b.toInt ∧ b.toInt ≤ 300 := ⟨Int32.le_iff_toInt_le.mp h2.1, Int32.le_iff_toInt_le.mp h2.2⟩
    have t0 : -300000 ≤ t.toInt ∧ t.toInt ≤ 300000 := ⟨Int32.le_iff_toInt_le.mp h3.1, Int32.le_iff_toInt_le.mp h3.2⟩
    refine sS_more (n := c) h.1 hc hf ?_ ?_ ?_ ?_ ?_
    · simp [cVs_st]
    · simp [pm_s]
    · intro r j hr hj
      simp only [cVs_st]
      rw [if_neg (by omega), if_neg (by omega), if_neg (by omega), if_neg (by omega), if_neg (by omega)]
    · intro k hk hk2
      simp only [pm_s]
      rw [if_neg (by omega), if_neg (by omega), if_neg (by omega), if_neg (by omega), if_neg (by omega)]
    · refine Or.inl ⟨?_, ⟨?_, ?_, ?_⟩, ?_, ?_, ?_, ?_⟩
      · simp [cVs_st]
      · simpa [cVs_st] using a0
      · simpa [cVs_st] using b0
      · simpa [cVs_st] using t0
      · simp only [pm_s]
        rw [if_neg (by omega), if_neg (by omega), if_neg (by omega), if_neg (by omega), if_pos (by simp)]
      · simp only [pm_s]
        rw [if_neg (by omega), if_neg (by omega), if_neg (by omega), if_pos (by simp)]
        simp [cVs_st]
      · simp only [pm_s]
        rw [if_neg (by omega), if_neg (by omega), if_pos (by simp)]
        simp [cVs_st]
      · simp only [pm_s]
        rw [if_neg (by omega), if_pos (by simp)]
        simp [cVs_st]
  · intro k i hk
    simp only [pm_s]
    rw [if_neg (by omega), if_neg (by omega), if_neg (by omega), if_neg (by omega), if_neg (by omega)]
  · intro k i hk
    simp only [pm_s]
    simp only [hk, false_and, if_false]
theorem xs_addSight (a : Int32) (M N : xm_M) (h : xR M N) : xAdd M N (fX1_addSight a M) (fX4_see a N) := by
  unfold fX1_addSight fX4_see
  simp only [px_in, pb_i]
  obtain ⟨hS, ⟨⟨p0, p1, p2, p3, p4, p5⟩, q2⟩, hC, hK, hL⟩ := (sS_iff _ _).mp h.1
  obtain ⟨c, hc8, hc, hc2, _⟩ := pn_ofI (n := 120) p2.1 p2.2
  obtain ⟨m, hm6, hm, hm2, _⟩ := pn_ofI (n := 6) p1.1 p1.2
  have e9 : N.1 1 11 = nI c := by rw [← hc]; exact q2 2 (by omega)
  have e4 : M.1 1 6 = nI c := hc
  have e10 : N.1 1 10 = nI m := by rw [← hm]; exact q2 1 (by omega)
  have e5 : M.1 1 5 = nI m := hm
  rw [e4, e9, e5, e10]
  have hr : (0 ≤ a ∧ a ≤ nI m - 1) ↔ (0 ≤ a.toInt ∧ a.toInt < m) := by
    have e : (nI m - 1).toInt = (m : Int) - 1 := by
      have e1 : (1 : Int32).toInt = 1 := rfl
      rw [pn_sub (by rw [nI_toInt (by omega), e1]; omega) (by rw [nI_toInt (by omega), e1]; omega), nI_toInt (by omega), e1]
    rw [pn_nn, Int32.le_iff_toInt_le, e]
    omega
  have n1 : (a < 0) = ¬ 0 ≤ a.toInt := by
    rw [← pn_nn a]
    exact propext ⟨fun z => Int32.not_le.mpr z, fun z => Int32.not_le.mp z⟩
  have n2 : (a < nI m) = (a.toInt < m) := propext (by rw [Int32.lt_iff_toInt_lt, nI_toInt (by omega)])
  simp only [hr, n1, n2]
  by_cases h0 : 0 ≤ a.toInt
  case neg =>
    simp only [h0, false_and, if_false, not_false_eq_true, if_true]
    exact ⟨_, _, _, rfl, rfl, h, fun _ _ _ => rfl, fun _ _ _ => rfl⟩
  by_cases h1 : a.toInt < m
  case neg =>
    simp only [h0, h1, and_false, if_false, not_true_eq_false, if_true]
    exact ⟨_, _, _, rfl, rfl, h, fun _ _ _ => rfl, fun _ _ _ => rfl⟩
  simp only [h0, h1, and_self, if_true, not_true_eq_false, if_false, show ¬ (1 : Int32) = 0 by decide]
  by_cases hf : c < 120
  case neg =>
    have : c = 120 := by omega
    subst this
    rw [if_neg (by decide), if_pos (by decide)]
    exact ⟨_, _, _, rfl, rfl, h, fun _ _ _ => rfl, fun _ _ _ => rfl⟩
  have l1 : nI c < (120 : Int32) := (px_lt_nI (n := 120) rfl (by omega) (by omega)).mpr hf
  have l2 : ¬ nI c = (120 : Int32) := fun z => by
    have := (px_eq_nI (n := 120) rfl (by omega) (by omega)).mp z
    omega
  rw [if_pos l1, if_neg l2]
  simp only [px_lK_0 hf, pb_v, pb_lt, pm_s, Nat.reduceEqDiff, false_and, if_false, e4, pi_succ]
  rw [pm_add hf e9, pb_v]
  simp only [pm_s, and_self, if_true]
  refine ⟨_, _, _, rfl, rfl, xR_state h ?_ ?_ ?_, ?_, ?_⟩
  · intro k i hk
    simp only [pm_s]
    rw [if_neg (by omega), if_neg (by omega)]
  · intro k i hk
    simp only [pm_s]
    simp only [hk, false_and, if_false]
  · refine sS_more (n := c) h.1 hc hf ?_ ?_ ?_ ?_ ?_
    · simp [cVs_st]
    · simp [pm_s]
    · intro r j hr hj
      simp only [cVs_st]
      rw [if_neg (by omega), if_neg (by omega)]
    · intro k hk hk2
      simp only [pm_s]
      rw [if_neg (by omega), if_neg (by omega), if_neg (by omega), if_neg (by omega), if_neg (by omega)]
    · refine Or.inr ⟨?_, ?_, ?_⟩
      · rw [hm2]
        have : cVs 1 (xm_s (xm_s M 13 c a) 1 6 (nI (c + 1))) 9 c = a := by simp [cVs_st]
        rw [this]
        exact ⟨h0, h1⟩
      · simp only [pm_s]
        rw [if_neg (by omega), if_neg (by omega), if_neg (by omega), if_neg (by omega), if_pos (by simp)]
      · simp only [pm_s]
        rw [if_neg (by omega), if_neg (by omega), if_neg (by omega), if_pos (by simp)]
        simp [cVs_st]
  · intro k i hk
    simp only [pm_s]
    rw [if_neg (by omega), if_neg (by omega)]
  · intro k i hk
    simp only [pm_s]
    simp only [hk, false_and, if_false]
theorem xs_step (a b t : Int32) (M N : xm_M) (h : xR M N) : ∃ (r : Int32) (M1 N1 : xm_M), fX3_step a b t M = some (r, M1) ∧ fX4_step a b t N = some (r, N1) ∧ xR M1 N1 := by
  obtain ⟨r, M1, N1, h1, h2, h3, _⟩ := xs_addStep a b t M N h
  refine ⟨r, M1, N1, ?_, h2, h3⟩
  unfold fX3_step
  rw [h1, pb_i]
theorem xs_see (a : Int32) (M N : xm_M) (h : xR M N) : ∃ (r : Int32) (M1 N1 : xm_M), fX3_see a M = some (r, M1) ∧ fX4_see a N = some (r, N1) ∧ xR M1 N1 := by
  obtain ⟨r, M1, N1, h1, h2, h3, _⟩ := xs_addSight a M N h
  refine ⟨r, M1, N1, ?_, h2, h3⟩
  unfold fX3_see
  rw [h1, pb_i]
