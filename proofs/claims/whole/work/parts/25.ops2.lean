theorem pi_pred (c : Nat) : nI (c + 1) - 1 = nI c := by
  rw [show (1 : Int32) = nI 1 from rfl, ← pi_add]
  exact Int32.add_sub_cancel _ _
theorem pi_succ (c : Nat) : nI c + 1 = nI (c + 1) := by
  rw [show (1 : Int32) = nI 1 from rfl, pi_add]
theorem px_min (a b : Int32) : (if b < a then b else a) = (if b ≤ a then b else a) := by
  by_cases h : b < a
  · rw [if_pos h, if_pos (by rw [Int32.lt_iff_toInt_lt] at h; rw [Int32.le_iff_toInt_le]; omega)]
  · rw [if_neg h]
    by_cases h2 : b ≤ a
    · rw [if_pos h2]
      rw [Int32.lt_iff_toInt_lt] at h; rw [Int32.le_iff_toInt_le] at h2
      exact Int32.toInt_inj.mp (by omega)
    · rw [if_neg h2]
theorem px_max (a b : Int32) : (if a < b then b else a) = (if b ≤ a then a else b) := by
  by_cases h : a < b
  · rw [if_pos h, if_neg (Int32.not_le.mpr h)]
  · rw [if_neg h, if_pos (Int32.not_lt.mp h)]
theorem pm_addC {c : Nat} {a1 a2 a3 a4 a5 : Int32} {N : xm_M} (hc : c < 8) (h9 : N.1 1 9 = nI c) :
    (if a3 ≤ a1 then fX4_corridor_89 a1 a2 a3 a4 a5 (nI (15 + 5 * c)) a3 (nI (15 + 5 * c)) N else fX4_corridor_89 a1 a2 a3 a4 a5 (nI (15 + 5 * c)) a1 (nI (15 + 5 * c)) N) = some (nI c, xm_s (xm_s (xm_s (xm_s (xm_s (xm_s N 1 (15 + 5 * c) (if a3 ≤ a1 then a3 else a1)) 1 (15 + 5 * c + 1) (if a3 ≤ a1 then a1 else a3)) 1 (15 + 5 * c + 2) (if a4 ≤ a2 then a4 else a2)) 1 (15 + 5 * c + 3) (if a4 ≤ a2 then a2 else a4)) 1 (15 + 5 * c + 4) a5) 1 9 (nI (c + 1))) := by
  have k : ∀ {α : Type} (i : Nat) (x y : α), i < 5 → (if nI (15 + 5 * c + i) < 0 ∨ 547 ≤ (nI (15 + 5 * c + i)).toNatClampNeg then x else y) = y := fun i x y hi => if_neg (px_kn (n := 547) (by omega) (by omega))
  have k0 : ∀ {α : Type} (x y : α), (if nI (15 + 5 * c) < 0 ∨ 547 ≤ (nI (15 + 5 * c)).toNatClampNeg then x else y) = y := fun x y => if_neg (px_kn (n := 547) (by omega) (by omega))
  have q : ∀ i : Nat, i < 5 → (nI (15 + 5 * c + i)).toNatClampNeg = 15 + 5 * c + i := fun i hi => nI_clamp (by omega)
  have q0 : (nI (15 + 5 * c)).toNatClampNeg = 15 + 5 * c := nI_clamp (by omega)
  have e1 : nI (15 + 5 * c) + 1 = nI (15 + 5 * c + 1) := by rw [show (1 : Int32) = nI 1 from rfl, pi_add]
  have e2 : nI (15 + 5 * c) + 2 = nI (15 + 5 * c + 2) := by rw [show (2 : Int32) = nI 2 from rfl, pi_add]
  have e3 : nI (15 + 5 * c) + 3 = nI (15 + 5 * c + 3) := by rw [show (3 : Int32) = nI 3 from rfl, pi_add]
  have e4 : nI (15 + 5 * c) + 4 = nI (15 + 5 * c + 4) := by rw [show (4 : Int32) = nI 4 from rfl, pi_add]
  have fin : ∀ (X1 X2 Y1 Y2 : Int32), fX4_corridor_150 a5 (nI (15 + 5 * c)) Y2 (nI (15 + 5 * c + 3)) (xm_s (xm_s (xm_s N 1 (15 + 5 * c) X1) 1 (15 + 5 * c + 1) X2) 1 (15 + 5 * c + 2) Y1) = some (nI c, xm_s (xm_s (xm_s (xm_s (xm_s (xm_s N 1 (15 + 5 * c) X1) 1 (15 + 5 * c + 1) X2) 1 (15 + 5 * c + 2) Y1) 1 (15 + 5 * c + 3) Y2) 1 (15 + 5 * c + 4) a5) 1 9 (nI (c + 1))) := by
    intro X1 X2 Y1 Y2
    unfold fX4_corridor_150
    rw [k 3 _ _ (by omega), pb_lt, e4, k 4 _ _ (by omega), pb_lt, pb_lt, q 3 (by omega), q 4 (by omega)]
    simp only [pm_s, true_and, show ¬ 9 = 15 + 5 * c by omega, show ¬ 9 = 15 + 5 * c + 1 by omega, show ¬ 9 = 15 + 5 * c + 2 by omega, show ¬ 9 = 15 + 5 * c + 3 by omega, show ¬ 9 = 15 + 5 * c + 4 by omega, if_false, if_true]
    rw [h9, pi_succ, pi_pred]
  have f129 : ∀ (X1 X2 Y1 : Int32), fX4_corridor_129 a2 a4 a5 (nI (15 + 5 * c)) Y1 (nI (15 + 5 * c + 2)) (xm_s (xm_s N 1 (15 + 5 * c) X1) 1 (15 + 5 * c + 1) X2) = some (nI c, xm_s (xm_s (xm_s (xm_s (xm_s (xm_s N 1 (15 + 5 * c) X1) 1 (15 + 5 * c + 1) X2) 1 (15 + 5 * c + 2) Y1) 1 (15 + 5 * c + 3) (if a4 ≤ a2 then a2 else a4)) 1 (15 + 5 * c + 4) a5) 1 9 (nI (c + 1))) := by
    intro X1 X2 Y1
    unfold fX4_corridor_129
    rw [k 2 _ _ (by omega), pb_lt, e3, q 2 (by omega)]
    by_cases h : a4 ≤ a2
    · rw [if_pos h, if_pos h]; exact fin _ _ _ _
    · rw [if_neg h, if_neg h]; exact fin _ _ _ _
  have f108 : ∀ (X1 X2 : Int32), fX4_corridor_108 a2 a4 a5 (nI (15 + 5 * c)) X2 (nI (15 + 5 * c + 1)) (xm_s N 1 (15 + 5 * c) X1) = some (nI c, xm_s (xm_s (xm_s (xm_s (xm_s (xm_s N 1 (15 + 5 * c) X1) 1 (15 + 5 * c + 1) X2) 1 (15 + 5 * c + 2) (if a4 ≤ a2 then a4 else a2)) 1 (15 + 5 * c + 3) (if a4 ≤ a2 then a2 else a4)) 1 (15 + 5 * c + 4) a5) 1 9 (nI (c + 1))) := by
    intro X1 X2
    unfold fX4_corridor_108
    rw [k 1 _ _ (by omega), pb_lt, e2, q 1 (by omega)]
    by_cases h : a4 ≤ a2
    · have := f129 X1 X2 a4
      rw [if_pos h] at this
      rw [if_pos h, if_pos h, if_pos h]; exact this
    · have := f129 X1 X2 a2
      rw [if_neg h] at this
      rw [if_neg h, if_neg h, if_neg h]; exact this
  unfold fX4_corridor_89
  rw [k0, k0, pb_lt, pb_lt, e1, q0]
  by_cases h : a3 ≤ a1
  · rw [if_pos h, if_pos h, if_pos h, if_pos h]; exact f108 _ _
  · rw [if_neg h, if_neg h, if_neg h, if_neg h]; exact f108 _ _
theorem px_lt_nI {x : Int32} {c n : Nat} (hx : x = nI c) (hc : c < 2 ^ 31) (hn : n < 2 ^ 31) : (x < nI n) = (c < n) := by
  rw [hx]
  exact propext (by rw [Int32.lt_iff_toInt_lt, nI_toInt hc, nI_toInt hn]; omega)
theorem px_eq_nI {x : Int32} {c n : Nat} (hx : x = nI c) (hc : c < 2 ^ 31) (hn : n < 2 ^ 31) : (x = nI n) = (c = n) := by
  rw [hx]
  refine propext ⟨fun h => ?_, fun h => by rw [h]⟩
  have h2 := congrArg Int32.toInt h
  rw [nI_toInt hc, nI_toInt hn] at h2
  omega
theorem xs_corridor (a1 a2 a3 a4 a5 : Int32) (M N : xm_M) (h : xR M N) : ∃ (r : Int32) (M1 N1 : xm_M), fX3_corridor a1 a2 a3 a4 a5 M = some (r, M1) ∧ fX4_corridor a1 a2 a3 a4 a5 N = some (r, N1) ∧ xR M1 N1 := by
  unfold fX3_corridor fX4_corridor
  simp only [fX3_isPlace, fX4_isPlace, px_in, pm_in, pb_i, pm_bit (fun x => some (x, N))]
  by_cases h1 : -100000 ≤ a1 ∧ a1 ≤ 100000
  case neg =>
    simp only [if_neg h1, pb_i, show ¬ (1 : Int32) = 0 by decide, if_false, if_true]
    exact ⟨_, _, _, rfl, rfl, h⟩
  by_cases h2 : -100000 ≤ a2 ∧ a2 ≤ 100000
  case neg =>
    simp only [if_pos h1, if_neg h2, pb_i, show ¬ (1 : Int32) = 0 by decide, if_false, if_true]
    exact ⟨_, _, _, rfl, rfl, h⟩
  by_cases h3 : -100000 ≤ a3 ∧ a3 ≤ 100000
  case neg =>
    simp only [if_pos h1, if_pos h2, if_neg h3, pb_i, show ¬ (1 : Int32) = 0 by decide, if_false, if_true]
    exact ⟨_, _, _, rfl, rfl, h⟩
  by_cases h4 : -100000 ≤ a4 ∧ a4 ≤ 100000
  case neg =>
    simp only [if_pos h1, if_pos h2, if_pos h3, if_neg h4, pb_i, show ¬ (1 : Int32) = 0 by decide, if_false, if_true]
    exact ⟨_, _, _, rfl, rfl, h⟩
  by_cases h5 : 0 ≤ a5 ∧ a5 ≤ 17999
  case neg =>
    simp only [if_pos h1, if_pos h2, if_pos h3, if_pos h4, if_neg h5, pb_i, show ¬ (1 : Int32) = 0 by decide, if_false, if_true]
    exact ⟨_, _, _, rfl, rfl, h⟩
  simp only [if_pos h1, if_pos h2, if_pos h3, if_pos h4, if_pos h5, pb_i, show ¬ (1 : Int32) = 0 by decide, if_false, pb_lt]
  obtain ⟨hS, ⟨⟨p0, p1, p2, p3, p4, p5⟩, q2⟩, hC, hK, hL⟩ := (sS_iff _ _).mp h.1
  obtain ⟨c, hc8, hc, hc2, _⟩ := pn_ofI (n := 8) p0.1 p0.2
  have e9 : N.1 1 9 = nI c := by rw [← hc]; exact q2 0 (by omega)
  have e4 : M.1 1 4 = nI c := hc
  rw [e4, e9]
  by_cases hf : c < 8
  case neg =>
    have : c = 8 := by omega
    subst this
    rw [if_neg (by decide), if_pos (by decide)]
    exact ⟨_, _, _, rfl, rfl, h⟩
  have l1 : nI c < (8 : Int32) := (px_lt_nI (n := 8) rfl (by omega) (by omega)).mpr hf
  have l2 : ¬ nI c = (8 : Int32) := fun z => by
    have := (px_eq_nI (n := 8) rfl (by omega) (by omega)).mp z
    omega
  rw [if_pos l1, if_neg l2]
  simp only [px_cK_0 hf, px_cK_1 hf, px_cK_2 hf, px_cK_3 hf, px_cK_4 hf, pb_v, px_min, px_max]
  rw [show (15 : Int32) + 5 * nI c = nI (15 + 5 * c) from by rw [show (15 : Int32) = nI 15 from rfl, show (5 : Int32) = nI 5 from rfl, pi_mul, pi_add], pm_addC hf e9, pi_succ]
  refine ⟨_, _, _, rfl, rfl, xR_state h ?_ ?_ ?_⟩
  · intro k i hk
    simp only [pm_s]
    rw [if_neg (by omega), if_neg (by omega), if_neg (by omega), if_neg (by omega), if_neg (by omega), if_neg (by omega)]
  · intro k i hk
    simp only [pm_s]
    simp only [hk, false_and, if_false]
  · have hX1 : -100000 ≤ (if a3 ≤ a1 then a3 else a1).toInt ∧ (if a3 ≤ a1 then a3 else a1).toInt ≤ 100000 := by
      split
      · exact ⟨Int32.le_iff_toInt_le.mp h3.1, Int32.le_iff_toInt_le.mp h3.2⟩
      · exact ⟨Int32.le_iff_toInt_le.mp h1.1, Int32.le_iff_toInt_le.mp h1.2⟩
    have hX2 : -100000 ≤ (if a3 ≤ a1 then a1 else a3).toInt ∧ (if a3 ≤ a1 then a1 else a3).toInt ≤ 100000 := by
      split
      · exact ⟨Int32.le_iff_toInt_le.mp h1.1, Int32.le_iff_toInt_le.mp h1.2⟩
      · exact ⟨Int32.le_iff_toInt_le.mp h3.1, Int32.le_iff_toInt_le.mp h3.2⟩
    have hY1 : -100000 ≤ (if a4 ≤ a2 then a4 else a2).toInt ∧ (if a4 ≤ a2 then a4 else a2).toInt ≤ 100000 := by
      split
      · exact ⟨Int32.le_iff_toInt_le.mp h4.1, Int32.le_iff_toInt_le.mp h4.2⟩
      · exact ⟨Int32.le_iff_toInt_le.mp h2.1, Int32.le_iff_toInt_le.mp h2.2⟩
    have hY2 : -100000 ≤ (if a4 ≤ a2 then a2 else a4).toInt ∧ (if a4 ≤ a2 then a2 else a4).toInt ≤ 100000 := by
      split
      · exact ⟨Int32.le_iff_toInt_le.mp h2.1, Int32.le_iff_toInt_le.mp h2.2⟩
      · exact ⟨Int32.le_iff_toInt_le.mp h4.1, Int32.le_iff_toInt_le.mp h4.2⟩
    have t0 : 0 ≤ a5.toInt := (pn_nn a5).mp h5.1
    have t1 : a5.toInt ≤ 17999 := Int32.le_iff_toInt_le.mp h5.2
    generalize (if a3 ≤ a1 then a3 else a1) = X1 at hX1 ⊢
    generalize (if a3 ≤ a1 then a1 else a3) = X2 at hX2 ⊢
    generalize (if a4 ≤ a2 then a4 else a2) = Y1 at hY1 ⊢
    generalize (if a4 ≤ a2 then a2 else a4) = Y2 at hY2 ⊢
    have hV : ∀ r i, ¬ (r = 1 ∧ i = 0) → ¬ (2 ≤ r ∧ r < 7 ∧ i = c) → cVs 1 (xm_s (xm_s (xm_s (xm_s (xm_s (xm_s M 4 c X1) 5 c X2) 6 c Y1) 7 c Y2) 8 c a5) 1 4 (nI (c + 1))) r i = cVs 1 M r i := by
      intro r i hi hi2
      rw [cVs_st, cVs_st, cVs_st, cVs_st, cVs_st, cVs_st, if_neg (by omega), if_neg (by omega), if_neg (by omega), if_neg (by omega), if_neg (by omega), if_neg (by omega)]
    have v0 : cVs 1 (xm_s (xm_s (xm_s (xm_s (xm_s (xm_s M 4 c X1) 5 c X2) 6 c Y1) 7 c Y2) 8 c a5) 1 4 (nI (c + 1))) 1 0 = nI (c + 1) := by simp [cVs_st]
    have v2 : cVs 1 (xm_s (xm_s (xm_s (xm_s (xm_s (xm_s M 4 c X1) 5 c X2) 6 c Y1) 7 c Y2) 8 c a5) 1 4 (nI (c + 1))) 2 c = X1 := by simp [cVs_st]
    have v3 : cVs 1 (xm_s (xm_s (xm_s (xm_s (xm_s (xm_s M 4 c X1) 5 c X2) 6 c Y1) 7 c Y2) 8 c a5) 1 4 (nI (c + 1))) 3 c = X2 := by simp [cVs_st]
    have v4 : cVs 1 (xm_s (xm_s (xm_s (xm_s (xm_s (xm_s M 4 c X1) 5 c X2) 6 c Y1) 7 c Y2) 8 c a5) 1 4 (nI (c + 1))) 4 c = Y1 := by simp [cVs_st]
    have v5 : cVs 1 (xm_s (xm_s (xm_s (xm_s (xm_s (xm_s M 4 c X1) 5 c X2) 6 c Y1) 7 c Y2) 8 c a5) 1 4 (nI (c + 1))) 5 c = Y2 := by simp [cVs_st]
    have v6 : cVs 1 (xm_s (xm_s (xm_s (xm_s (xm_s (xm_s M 4 c X1) 5 c X2) 6 c Y1) 7 c Y2) 8 c a5) 1 4 (nI (c + 1))) 6 c = a5 := by simp [cVs_st]
    generalize cVs 1 (xm_s (xm_s (xm_s (xm_s (xm_s (xm_s M 4 c X1) 5 c X2) 6 c Y1) 7 c Y2) 8 c a5) 1 4 (nI (c + 1))) = V' at hV v0 v2 v3 v4 v5 v6 ⊢
    have hA : ∀ k, ¬ k = 9 → ¬ (15 + 5 * c ≤ k ∧ k < 15 + 5 * c + 5) → (xm_s (xm_s (xm_s (xm_s (xm_s (xm_s N 1 (15 + 5 * c) X1) 1 (15 + 5 * c + 1) X2) 1 (15 + 5 * c + 2) Y1) 1 (15 + 5 * c + 3) Y2) 1 (15 + 5 * c + 4) a5) 1 9 (nI (c + 1))).1 1 k = N.1 1 k := by
      intro k hk hk2
      simp only [pm_s]
      rw [if_neg (by omega), if_neg (by omega), if_neg (by omega), if_neg (by omega), if_neg (by omega), if_neg (by omega)]
    have w9 : (xm_s (xm_s (xm_s (xm_s (xm_s (xm_s N 1 (15 + 5 * c) X1) 1 (15 + 5 * c + 1) X2) 1 (15 + 5 * c + 2) Y1) 1 (15 + 5 * c + 3) Y2) 1 (15 + 5 * c + 4) a5) 1 9 (nI (c + 1))).1 1 9 = nI (c + 1) := by simp [pm_s]
    have w0 : (xm_s (xm_s (xm_s (xm_s (xm_s (xm_s N 1 (15 + 5 * c) X1) 1 (15 + 5 * c + 1) X2) 1 (15 + 5 * c + 2) Y1) 1 (15 + 5 * c + 3) Y2) 1 (15 + 5 * c + 4) a5) 1 9 (nI (c + 1))).1 1 (15 + 5 * c) = X1 := by
      simp only [pm_s]
      rw [if_neg (by omega), if_neg (by omega), if_neg (by omega), if_neg (by omega), if_neg (by omega), if_pos (by simp)]
    have w1 : (xm_s (xm_s (xm_s (xm_s (xm_s (xm_s N 1 (15 + 5 * c) X1) 1 (15 + 5 * c + 1) X2) 1 (15 + 5 * c + 2) Y1) 1 (15 + 5 * c + 3) Y2) 1 (15 + 5 * c + 4) a5) 1 9 (nI (c + 1))).1 1 (15 + 5 * c + 1) = X2 := by
      simp only [pm_s]
      rw [if_neg (by omega), if_neg (by omega), if_neg (by omega), if_neg (by omega), if_pos (by simp)]
    have w2 : (xm_s (xm_s (xm_s (xm_s (xm_s (xm_s N 1 (15 + 5 * c) X1) 1 (15 + 5 * c + 1) X2) 1 (15 + 5 * c + 2) Y1) 1 (15 + 5 * c + 3) Y2) 1 (15 + 5 * c + 4) a5) 1 9 (nI (c + 1))).1 1 (15 + 5 * c + 2) = Y1 := by
      simp only [pm_s]
      rw [if_neg (by omega), if_neg (by omega), if_neg (by omega), if_pos (by simp)]
    have w3 : (xm_s (xm_s (xm_s (xm_s (xm_s (xm_s N 1 (15 + 5 * c) X1) 1 (15 + 5 * c + 1) X2) 1 (15 + 5 * c + 2) Y1) 1 (15 + 5 * c + 3) Y2) 1 (15 + 5 * c + 4) a5) 1 9 (nI (c + 1))).1 1 (15 + 5 * c + 3) = Y2 := by
      simp only [pm_s]
      rw [if_neg (by omega), if_neg (by omega), if_pos (by simp)]
    have w4 : (xm_s (xm_s (xm_s (xm_s (xm_s (xm_s N 1 (15 + 5 * c) X1) 1 (15 + 5 * c + 1) X2) 1 (15 + 5 * c + 2) Y1) 1 (15 + 5 * c + 3) Y2) 1 (15 + 5 * c + 4) a5) 1 9 (nI (c + 1))).1 1 (15 + 5 * c + 4) = a5 := by
      simp only [pm_s]
      rw [if_neg (by omega), if_pos (by simp)]
    generalize (xm_s (xm_s (xm_s (xm_s (xm_s (xm_s N 1 (15 + 5 * c) X1) 1 (15 + 5 * c + 1) X2) 1 (15 + 5 * c + 2) Y1) 1 (15 + 5 * c + 3) Y2) 1 (15 + 5 * c + 4) a5) 1 9 (nI (c + 1))).1 1 = A' at hA w9 w0 w1 w2 w3 w4 ⊢
    have n9 : (nI (c + 1)).toInt = c + 1 := by rw [nI_toInt (by omega)]; omega
    refine (sS_iff _ _).mpr ⟨?_, ⟨⟨?_, ?_, ?_, ?_, ?_, ?_⟩, ?_⟩, ?_, ?_, ?_⟩
    · intro j hj
      rw [hV 0 j (by omega) (by omega), hA j (by omega) (by omega)]
      exact hS j hj
    · rw [v0, n9]; omega
    · rw [hV 1 1 (by omega) (by omega)]; exact p1
    · rw [hV 1 2 (by omega) (by omega)]; exact p2
    · rw [hV 1 3 (by omega) (by omega)]; exact p3
    · rw [hV 1 4 (by omega) (by omega)]; exact p4
    · rw [hV 1 5 (by omega) (by omega)]; exact p5
    · intro j hj
      by_cases z : j = 0
      · subst z; rw [v0]; exact w9
      · rw [hV 1 j (by omega) (by omega), hA (9 + j) (by omega) (by omega)]
        exact q2 j hj
    · rw [v0, n9]
      intro i hi
      by_cases z : i = c
      · subst z
        refine ⟨⟨?_, ?_⟩, ?_, ?_, ?_, ?_, ?_⟩
        · intro r hr hr2
          have : r = 2 ∨ r = 3 ∨ r = 4 ∨ r = 5 := by omega
          rcases this with z | z | z | z
          · subst z; rw [v2]; exact hX1
          · subst z; rw [v3]; exact hX2
          · subst z; rw [v4]; exact hY1
          · subst z; rw [v5]; exact hY2
        · rw [v6]; omega
        · rw [w0, v2]
        · rw [w1, v3]
        · rw [w2, v4]
        · rw [w3, v5]
        · rw [w4, v6]
      · exact okC_keep (hC i (by rw [hc2]; omega)) (fun r _ _ => hV r i (by omega) (by omega)) (fun k hk => hA _ (by omega) (by omega))
    · rw [hV 1 1 (by omega) (by omega)]
      intro i hi
      exact okK_keep (hK i hi) (fun r _ _ => hV r i (by omega) (by omega)) (fun k hk => hA _ (by omega) (by omega))
    · rw [hV 1 1 (by omega) (by omega), hV 1 2 (by omega) (by omega)]
      intro i hi
      exact okL_keep (hL i hi) (Int.le_refl _) (fun r _ _ => hV r i (by omega) (by omega)) (fun k hk => hA _ (by omega) (by omega))
