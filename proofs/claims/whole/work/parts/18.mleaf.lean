/-! THE MODEL: its leaves -/
theorem pi_add (a b : Nat) : nI a + nI b = nI (a + b) := (Int32.ofNat_add a b).symm
theorem pi_mul (a b : Nat) : nI a * nI b = nI (a * b) := (Int32.ofNat_mul a b).symm
theorem pm_in (a lo hi : Int32) (M : xm_M) : fX4_in a lo hi M = some (if lo ≤ a ∧ a ≤ hi then 1 else 0, M) := by
  unfold fX4_in
  by_cases h1 : a < lo
  · simp [h1, Int32.not_le.mpr h1]
  · by_cases h2 : hi < a
    · simp [h1, h2, Int32.not_le.mpr h2]
    · simp [h1, h2, Int32.not_lt.mp h1, Int32.not_lt.mp h2]
theorem pm_ofE {e r : Nat} (he : e < 120) (hr : r < 4) (M : xm_M) : fX4_ofEntry (nI e) (nI r) M = some (M.1 1 (67 + 4 * e + r), M) := by
  unfold fX4_ofEntry
  rw [show (67 : Int32) = nI 67 from rfl, show (4 : Int32) = nI 4 from rfl, pi_mul, pi_add, pi_add, if_neg (px_kn (by omega) (by omega)), nI_clamp (by omega)]
theorem pm_of0 {e : Nat} (he : e < 120) (M : xm_M) : fX4_ofEntry (nI e) 0 M = some (M.1 1 (67 + 4 * e), M) := pm_ofE (r := 0) he (by omega) M
theorem pm_of1 {e : Nat} (he : e < 120) (M : xm_M) : fX4_ofEntry (nI e) 1 M = some (M.1 1 (67 + 4 * e + 1), M) := pm_ofE (r := 1) he (by omega) M
theorem pm_of2 {e : Nat} (he : e < 120) (M : xm_M) : fX4_ofEntry (nI e) 2 M = some (M.1 1 (67 + 4 * e + 2), M) := pm_ofE (r := 2) he (by omega) M
theorem pm_of3 {e : Nat} (he : e < 120) (M : xm_M) : fX4_ofEntry (nI e) 3 M = some (M.1 1 (67 + 4 * e + 3), M) := pm_ofE (r := 3) he (by omega) M
theorem pm_set {j : Nat} (hj : j < 547) (M : xm_M) : fX4_setting (nI j) M = some (M.1 1 j, M) := by
  unfold fX4_setting
  rw [show (0 : Int32) + nI j = nI j from by rw [show (0 : Int32) = nI 0 from rfl, pi_add, Nat.zero_add], if_neg (px_kn hj (by omega)), nI_clamp (by omega)]
theorem pm_set0 (M : xm_M) : fX4_setting 0 M = some (M.1 1 0, M) := pm_set (j := 0) (by omega) M
theorem pm_set1 (M : xm_M) : fX4_setting 1 M = some (M.1 1 1, M) := pm_set (j := 1) (by omega) M
theorem pm_set2 (M : xm_M) : fX4_setting 2 M = some (M.1 1 2, M) := pm_set (j := 2) (by omega) M
theorem pm_set3 (M : xm_M) : fX4_setting 3 M = some (M.1 1 3, M) := pm_set (j := 3) (by omega) M
theorem pm_set4 (M : xm_M) : fX4_setting 4 M = some (M.1 1 4, M) := pm_set (j := 4) (by omega) M
theorem pm_set5 (M : xm_M) : fX4_setting 5 M = some (M.1 1 5, M) := pm_set (j := 5) (by omega) M
theorem pm_set6 (M : xm_M) : fX4_setting 6 M = some (M.1 1 6, M) := pm_set (j := 6) (by omega) M
theorem pm_set7 (M : xm_M) : fX4_setting 7 M = some (M.1 1 7, M) := pm_set (j := 7) (by omega) M
theorem pm_set8 (M : xm_M) : fX4_setting 8 M = some (M.1 1 8, M) := pm_set (j := 8) (by omega) M
theorem pm_head (x : Int64) (M : xm_M) : fX4_heading x M = some (sp_head x, M) := by
  unfold fX4_heading sp_head
  simp only [pb_lt, fX4_heading_21, pl_ge]
  rw [show x - x / 3600000 * 3600000 = sp_mod x from rfl]
  by_cases h : 0 ≤ sp_mod x
  · rw [if_pos h, if_pos h]
  · rw [if_neg h, if_neg h]
theorem pm_half {x : Int32} (h0 : 0 ≤ x.toInt) (h1 : x.toInt ≤ 18000) (M : xm_M) : fX4_halfSine x M = some (sp_half x, M) := by
  unfold fX4_halfSine sp_half
  obtain ⟨e1, e2⟩ := sp_half_ok h0 h1
  rw [pb_lt, e1, if_neg e2]
theorem pm_sine {a : Int32} (h0 : 0 ≤ a.toInt) (h1 : a.toInt < 36000) (M : xm_M) : fX4_sine a M = some (sp_sin a, M) := by
  unfold fX4_sine sp_sin
  by_cases h : 18000 < a
  · have h2 : 18000 < a.toInt := Int32.lt_iff_toInt_lt.mp h
    have e3 : (a - 18000).toInt = a.toInt - 18000 := pn_sub (y := 18000) (by rw [show (18000 : Int32).toInt = 18000 from rfl]; omega) (by rw [show (18000 : Int32).toInt = 18000 from rfl]; omega)
    rw [if_pos h, if_pos h, pm_half (by omega) (by omega), pb_i]
  · have h2 : a.toInt ≤ 18000 := Int32.le_iff_toInt_le.mp (Int32.not_lt.mp h)
    rw [if_neg h, if_neg h, pm_half h0 h2, pb_i]
theorem pm_cos {a : Int32} (h0 : 0 ≤ a.toInt) (h1 : a.toInt < 36000) (M : xm_M) : fX4_cosine a M = some (sp_cos a, M) := by
  unfold fX4_cosine
  have h := sp_mod36_in h0 h1
  rw [show a + 9000 - (a + 9000) / 36000 * 36000 = sp_mod36 (a + 9000) from rfl, pm_sine h.1 h.2, pb_i]
  rfl
theorem pm_size (a : Int32) (M : xm_M) : fX4_sizeOf a M = some (sp_ab32 a, M) := by
  unfold fX4_sizeOf sp_ab32
  by_cases h : 0 ≤ a
  · rw [if_pos h, if_pos h]
  · rw [if_neg h, if_neg h, Int32.zero_sub]
/-- the array of the model agrees with a view -/
def mA (V : sV) (A : Nat → Int32) : Prop :=
  (∀ j, j < 9 → A j = V 0 j) ∧ (∀ j, j < 6 → A (9 + j) = V 1 j) ∧
  (∀ c : Nat, (c : Int) < (V 1 0).toInt → A (15 + 5 * c) = V 2 c ∧ A (15 + 5 * c + 1) = V 3 c ∧ A (15 + 5 * c + 2) = V 4 c ∧ A (15 + 5 * c + 3) = V 5 c ∧ A (15 + 5 * c + 4) = V 6 c) ∧
  (∀ j : Nat, (j : Int) < (V 1 1).toInt → A (55 + 2 * j) = V 7 j ∧ A (55 + 2 * j + 1) = V 8 j) ∧
  (∀ e : Nat, (e : Int) < (V 1 2).toInt → (0 ≤ V 9 e ∧ A (67 + 4 * e) = 1 ∧ A (67 + 4 * e + 1) = V 9 e) ∨ (¬ 0 ≤ V 9 e ∧ A (67 + 4 * e) = 0 ∧ A (67 + 4 * e + 1) = V 10 e ∧ A (67 + 4 * e + 2) = V 11 e ∧ A (67 + 4 * e + 3) = V 12 e))
theorem pm_near {V : sV} {c : Nat} {M : xm_M} (hA : mA V (M.1 1)) (hc : (c : Int) < (V 1 0).toInt) (hc8 : c < 8) : ∃ b : Int32, fX4_isNear (nI c) M = some (b, M) ∧ (¬ b = 0 ↔ sp_near V c (M.1 0 18) (M.1 0 19)) := by
  unfold fX4_isNear
  obtain ⟨a0, a1, a2, a3, a4⟩ := hA.2.2.1 c hc
  have a7 := hA.1 7 (by omega)
  rw [show (5 : Int32) = nI 5 from rfl, show (15 : Int32) = nI 15 from rfl, show (1 : Int32) = nI 1 from rfl, show (2 : Int32) = nI 2 from rfl, show (3 : Int32) = nI 3 from rfl, pi_mul, pi_add, pb_lt, show (7 : Int32) = nI 7 from rfl, pm_set (by omega), pb_i, pi_add, pi_add, pi_add, if_neg (px_kn (by omega) (by omega)), if_neg (px_kn (by omega) (by omega)), pm_in, pb_i, if_neg (px_kn (by omega) (by omega)), if_neg (px_kn (by omega) (by omega)), pm_in, pb_i, nI_clamp (by omega), nI_clamp (by omega), nI_clamp (by omega), nI_clamp (by omega), a0, a1, a2, a3, a7]
  unfold sp_near
  by_cases h1 : V 2 c - V 0 7 ≤ M.1 0 18 / 1000 ∧ M.1 0 18 / 1000 ≤ V 3 c + V 0 7
  · by_cases h2 : V 4 c - V 0 7 ≤ M.1 0 19 / 1000 ∧ M.1 0 19 / 1000 ≤ V 5 c + V 0 7
    · exact ⟨1, by simp [h1, h2, px_n1], by simp [h1, h2]⟩
    · exact ⟨0, by simp [h1, h2, px_n1], by simp [h2]⟩
  · exact ⟨0, by simp [h1, px_n1], by simp [h1]⟩
theorem pm_off {V : sV} {c : Nat} {M : xm_M} (hA : mA V (M.1 1)) (hc : (c : Int) < (V 1 0).toInt) (hc8 : c < 8) : fX4_offOf (nI c) M = some (sp_off (M.1 0 20) (V 6 c), M) := by
  unfold fX4_offOf
  obtain ⟨a0, a1, a2, a3, a4⟩ := hA.2.2.1 c hc
  rw [show (5 : Int32) = nI 5 from rfl, show (15 : Int32) = nI 15 from rfl, show (4 : Int32) = nI 4 from rfl, pi_mul, pi_add, pi_add, if_neg (px_kn (by omega) (by omega)), nI_clamp (by omega), a4, pb_lt]
  unfold sp_off
  rw [show M.1 0 20 - 100 * V 6 c - (M.1 0 20 - 100 * V 6 c) / 1800000 * 1800000 = sp_rem18 (M.1 0 20 - 100 * V 6 c) from rfl]
  generalize sp_rem18 (M.1 0 20 - 100 * V 6 c) = z
  by_cases h1 : -900000 ≤ z
  · by_cases h2 : z ≤ 899999
    · simp only [if_pos h1, if_pos h2]
    · simp only [if_pos h1, if_neg h2]
  · simp only [if_neg h1]
