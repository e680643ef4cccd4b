theorem xs_save (a : Int32) (M N : xm_M) (h : xR M N) : ∃ (r : Int32) (M1 N1 : xm_M), fX3_save a M = some (r, M1) ∧ fX4_save a N = some (r, N1) ∧ xR M1 N1 := by
  have e9 : N.1 1 11 = M.1 1 6 := h.1.2.2.1 2 (by omega)
  unfold fX3_save fX4_save fX3_slotOf
  rw [px_in, pm_in, pb_i, pb_i]
  by_cases h0 : 0 ≤ a ∧ a ≤ 1
  case neg =>
    simp only [if_neg h0, if_true]
    exact ⟨_, _, _, rfl, rfl, h⟩
  simp only [if_pos h0, show ¬ (1 : Int32) = 0 by decide, if_false, pb_lt]
  have h2a : 0 ≤ a.toInt := (pn_nn _).mp h0.1
  have h2b : a.toInt ≤ 1 := Int32.le_iff_toInt_le.mp h0.2
  obtain ⟨q, hq, rfl, _, _⟩ := pn_ofI (n := 1) h2a (by omega)
  obtain ⟨N', n1, n2⟩ := pm_save (s := q) (by omega) N
  rw [n1, e9]
  obtain ⟨x1, x2, x3, x4, x5, x6, x7⟩ := h
  rcases (show q = 0 ∨ q = 1 by omega) with rfl | rfl
  · obtain ⟨M', a1, a2, c0, c1, c2, c3, c4⟩ := px_take_17_1 M
    rw [if_pos (by decide), pb_r, if_pos rfl, a1, pb_v]
    have hr : (xm_s M' 17 10 1).1 1 6 = M.1 1 6 := by rw [pm_s, if_neg (by omega), a2 1 6 (by omega)]
    rw [hr]
    have hc : ∀ k j, (k < 17 ∨ 33 ≤ k) → (xm_s M' 17 10 1).1 k j = M.1 k j := fun k j z => by rw [pm_s, if_neg (by omega), a2 k j (by omega)]
    have hv : ∀ r j, ¬ (r = 1 ∧ j = 6) → cVs 17 (xm_s M' 17 10 1) r j = cVs 17 M' r j := by
      intro r j hrj
      unfold cVs
      repeat' split
      all_goals first | rfl | (rw [pm_s, if_neg (by omega)])
    refine ⟨_, _, _, rfl, rfl, ?_, Or.inr ⟨?_, ?_, ?_⟩, ?_, ?_, ?_, ?_, ?_⟩
    · rw [cVs_keep (s := 1) (fun k j k1 k2 => hc k j (by omega))]
      have : N'.1 1 = N.1 1 := by funext j; rw [n2, if_neg (by omega), if_neg (by omega)]
      rw [this]; exact x1
    · rw [pm_s, if_pos ⟨rfl, rfl⟩]
    · rw [n2, if_pos ⟨rfl, rfl⟩]
    · refine sS_congr x1 (fun b hb => (hv 0 b (by omega)).trans (c0 b hb)) (fun b hb => (hv 1 b (by omega)).trans (c1 b hb)) (fun r b r1 r2 hb => (hv r b (by omega)).trans (c2 r b r1 r2 hb)) (fun r b r1 r2 hb => (hv r b (by omega)).trans (c3 r b r1 r2 hb)) (fun r b r1 r2 hb => (hv r b (by omega)).trans (c4 r b r1 r2 hb)) ?_
      intro k hk
      show N'.1 2 k = _
      rw [n2, if_neg (by omega), if_pos (by omega), show k - 547 * 0 = k by omega]
    · rw [hc 33 10 (by omega), cVs_keep (s := 33) (fun k j k1 k2 => hc k j (by omega)), n2, if_neg (by omega), if_neg (by omega)]
      have : (fun k => N'.1 2 (547 + k)) = (fun k => N.1 2 (547 + k)) := by funext k; rw [n2, if_neg (by omega), if_neg (by omega)]
      rw [this]; exact x3
    · rw [hc 69 1 (by omega), n2, if_neg (by omega), if_neg (by omega)]; exact x4
    · rw [hc 69 1 (by omega)]; exact x5
    · rw [hc 69 1 (by omega)]; exact x6
    · intro j hj
      rw [hc 69 1 (by omega)] at hj
      rw [hc 70 j (by omega), n2, if_neg (by omega), if_neg (by omega)]
      exact x7 j hj
  · obtain ⟨M', a1, a2, c0, c1, c2, c3, c4⟩ := px_take_33_1 M
    rw [if_neg (by decide), pb_r, if_neg (by decide), if_pos rfl, a1, pb_v]
    have hr : (xm_s M' 33 10 1).1 1 6 = M.1 1 6 := by rw [pm_s, if_neg (by omega), a2 1 6 (by omega)]
    rw [hr]
    have hc : ∀ k j, (k < 33 ∨ 49 ≤ k) → (xm_s M' 33 10 1).1 k j = M.1 k j := fun k j z => by rw [pm_s, if_neg (by omega), a2 k j (by omega)]
    have hv : ∀ r j, ¬ (r = 1 ∧ j = 6) → cVs 33 (xm_s M' 33 10 1) r j = cVs 33 M' r j := by
      intro r j hrj
      unfold cVs
      repeat' split
      all_goals first | rfl | (rw [pm_s, if_neg (by omega)])
    refine ⟨_, _, _, rfl, rfl, ?_, ?_, Or.inr ⟨?_, ?_, ?_⟩, ?_, ?_, ?_, ?_⟩
    · rw [cVs_keep (s := 1) (fun k j k1 k2 => hc k j (by omega))]
      have : N'.1 1 = N.1 1 := by funext j; rw [n2, if_neg (by omega), if_neg (by omega)]
      rw [this]; exact x1
    · rw [hc 17 10 (by omega), cVs_keep (s := 17) (fun k j k1 k2 => hc k j (by omega)), n2, if_neg (by omega), if_neg (by omega)]
      rcases x2 with y | y
      · exact Or.inl y
      · refine Or.inr ⟨y.1, y.2.1, ?_⟩
        refine sS_congr y.2.2 (fun _ _ => rfl) (fun _ _ => rfl) (fun _ _ _ _ _ => rfl) (fun _ _ _ _ _ => rfl) (fun _ _ _ _ _ => rfl) ?_
        intro k hk
        show N'.1 2 k = _
        rw [n2, if_neg (by omega), if_neg (by omega)]
    · rw [pm_s, if_pos ⟨rfl, rfl⟩]
    · rw [n2, if_pos ⟨rfl, rfl⟩]
    · refine sS_congr x1 (fun b hb => (hv 0 b (by omega)).trans (c0 b hb)) (fun b hb => (hv 1 b (by omega)).trans (c1 b hb)) (fun r b r1 r2 hb => (hv r b (by omega)).trans (c2 r b r1 r2 hb)) (fun r b r1 r2 hb => (hv r b (by omega)).trans (c3 r b r1 r2 hb)) (fun r b r1 r2 hb => (hv r b (by omega)).trans (c4 r b r1 r2 hb)) ?_
      intro k hk
      show N'.1 2 (547 + k) = _
      rw [n2, if_neg (by omega), if_pos (by omega), show 547 + k - 547 * 1 = k by omega]
    · rw [hc 69 1 (by omega), n2, if_neg (by omega), if_neg (by omega)]; exact x4
    · rw [hc 69 1 (by omega)]; exact x5
    · rw [hc 69 1 (by omega)]; exact x6
    · intro j hj
      rw [hc 69 1 (by omega)] at hj
      rw [hc 70 j (by omega), n2, if_neg (by omega), if_neg (by omega)]
      exact x7 j hj
theorem xs_restore (a : Int32) (M N : xm_M) (h : xR M N) : ∃ (r : Int32) (M1 N1 : xm_M), fX3_restore a M = some (r, M1) ∧ fX4_restore a N = some (r, N1) ∧ xR M1 N1 := by
  unfold fX3_restore fX4_restore fX3_slotOf
  rw [px_in, pm_in, pb_i, pb_i]
  by_cases h0 : 0 ≤ a ∧ a ≤ 1
  case neg =>
    simp only [if_neg h0, if_true]
    exact ⟨_, _, _, rfl, rfl, h⟩
  simp only [if_pos h0, show ¬ (1 : Int32) = 0 by decide, if_false, pb_lt]
  have h2a : 0 ≤ a.toInt := (pn_nn _).mp h0.1
  have h2b : a.toInt ≤ 1 := Int32.le_iff_toInt_le.mp h0.2
  obtain ⟨q, hq, rfl, _, _⟩ := pn_ofI (n := 1) h2a (by omega)
  obtain ⟨N', n1, n2⟩ := pm_restore (s := q) (by omega) N
  rw [n1, if_neg (px_kn (n := 2) (show q < 2 by omega) (by omega)), nI_clamp (by omega)]
  obtain ⟨x1, x2, x3, x4, x5, x6, x7⟩ := h
  have hm : ∀ k j, ¬ k = 1 → N'.1 k j = N.1 k j := fun k j z => by rw [n2, if_neg (fun y => z y.1)]
  rcases (show q = 0 ∨ q = 1 by omega) with rfl | rfl
  · obtain ⟨M', a1, a2, c0, c1, c2, c3, c4⟩ := px_take_1_17 M
    rw [if_pos (by decide), pb_r, if_pos rfl]
    rcases x2 with y | y
    · rw [if_pos y.1, if_pos y.2]
      exact ⟨_, _, _, rfl, rfl, x1, Or.inl y, x3, x4, x5, x6, x7⟩
    rw [if_neg (by rw [y.1]; decide), if_neg (by rw [y.2.1]; decide), a1, pb_v]
    have hs : sS (cVs 1 M') (N'.1 1) := by
      refine sS_congr y.2.2 c0 c1 c2 c3 c4 ?_
      intro k hk
      show _ = N.1 2 k
      rw [n2, if_pos ⟨rfl, hk⟩, show 547 * 0 + k = k by omega]
    have e9 : N'.1 1 11 = M'.1 1 6 := hs.2.2.1 2 (by omega)
    rw [e9]
    exact ⟨_, _, _, rfl, rfl, xR_state ⟨x1, Or.inr y, x3, x4, x5, x6, x7⟩ (fun k j hk => a2 k j (by omega)) hm hs⟩
  · obtain ⟨M', a1, a2, c0, c1, c2, c3, c4⟩ := px_take_1_33 M
    rw [if_neg (by decide), pb_r, if_neg (by decide), if_pos rfl]
    rcases x3 with y | y
    · rw [if_pos y.1, if_pos y.2]
      exact ⟨_, _, _, rfl, rfl, x1, x2, Or.inl y, x4, x5, x6, x7⟩
    rw [if_neg (by rw [y.1]; decide), if_neg (by rw [y.2.1]; decide), a1, pb_v]
    have hs : sS (cVs 1 M') (N'.1 1) := by
      refine sS_congr y.2.2 c0 c1 c2 c3 c4 ?_
      intro k hk
      show _ = N.1 2 (547 + k)
      rw [n2, if_pos ⟨rfl, hk⟩, show 547 * 1 + k = 547 + k by omega]
    have e9 : N'.1 1 11 = M'.1 1 6 := hs.2.2.1 2 (by omega)
    rw [e9]
    exact ⟨_, _, _, rfl, rfl, xR_state ⟨x1, x2, Or.inr y, x4, x5, x6, x7⟩ (fun k j hk => a2 k j (by omega)) hm hs⟩
