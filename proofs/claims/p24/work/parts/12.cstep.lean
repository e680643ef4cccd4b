/-! THE CLASS, a step: what the printed functions leave -/
/-- a memory's view: settings at ps, the state at 1 -/
def cV (ps : Nat) (M : xm_M) : sV := fun r j => if r = 0 then M.1 ps j else if r = 1 then M.1 1 (4 + j) else if r < 7 then M.1 (2 + r) j else if r < 9 then M.1 (3 + r) j else if r < 13 then M.1 (4 + r) j else 0
theorem px_weigh {ps e : Nat} {a b : Int64} {M : xm_M} (hps : ps < 49 ∨ 68 < ps) (he : e < 120) (hba : ¬ 1000 * (M.1 ps 2).toInt64 = 0) (w v : Int64) (hw : (b - a) * 572958 / (1000 * (M.1 ps 2).toInt64) = w) (hv : sp_v (M.1 49 7) (M.1 60 e) = v) (kd : Int32) (hk : sp_kind (M.1 ps 3) w v = kd) :
    fX2_weighStep ps (nI e) a b M = some (xm_s (xm_s (xm_s (xm_s (xm_s M 61 e w.toInt32) 57 e kd) 68 kd.toNatClampNeg (M.1 68 kd.toNatClampNeg + 1)) 49 10 (sp_turn (M.1 ps 3) (M.1 ps 4) w v)) 49 11 (sp_d (M.1 ps 3) (M.1 ps 2) a b w v)) := by
  have h57 : ¬ ps = 57 := by omega
  have h61 : ¬ ps = 61 := by omega
  have h68 : ¬ ps = 68 := by omega
  have h49 : ¬ ps = 49 := by omega
  unfold sp_v at hv
  unfold fX2_weighStep
  simp only [px_sI_2, px_sI_3, px_sI_4, pb_i, pb_lt]
  rw [px_ratio hba]
  simp only [pb_l, pb_i, pb_v, px_fI_3 he, px_fK_4 he, hw, hv, px_KK_1 he, pl_gt, pl_le, pm_s, h61, false_and, if_false]
  subst hk
  unfold sp_kind sp_turn sp_d sp_ab
  by_cases hs : (M.1 ps 3).toInt64 < (if 0 < w - v then w - v else -(w - v))
  · simp only [if_pos hs]
    by_cases hwv : w ≤ v
    · simp only [if_pos hwv, fX2_weighStep_153, fX2_weighStep_167, fX2_weighStep_200, px_KK_2 he, pb_v, pb_lt, sp_s]
      rfl
    · simp only [if_neg hwv, fX2_weighStep_153, fX2_weighStep_167, fX2_weighStep_200, px_KK_3 he, pb_v, pb_lt, sp_s]
      rfl
  · simp only [if_neg hs]
    rfl
theorem px_head (x : Int64) (M : xm_M) : fX3_asHeading x M = some (sp_head x, M) := by
  unfold fX3_asHeading fJ9_floorMod_f86c9 sp_head
  rw [if_neg (show ¬ (3600000 : Int64) = 0 by decide)]
  simp only [pb_lt, fJ9_floorMod_f86c9_25, pl_ge, pl_eq]
  have hm : sp_mod x = x - x / 3600000 * 3600000 := rfl
  rw [← hm]
  have ht : (sp_mod x).toInt = x.toInt.tmod 3600000 := by
    rw [hm, pn_lrem, Int64.toInt_mod]; rfl
  have hb := pn_tmod x.toInt 3600000 (by omega)
  have h0 : (0 ≤ x ^^^ 3600000) = (0 ≤ x) := propext (pn_xor64 x 3600000 (by decide))
  simp only [h0]
  have e0 : (0 ≤ x) = (0 ≤ x.toInt) := propext Int64.le_iff_toInt_le
  have e1 : (0 ≤ sp_mod x) = (0 ≤ (sp_mod x).toInt) := propext Int64.le_iff_toInt_le
  have e2 : (sp_mod x = 0) = ((sp_mod x).toInt = 0) := propext Int64.toInt_inj.symm
  simp only [e0, e1, e2, ht]
  by_cases h : 0 ≤ x.toInt
  · rw [if_pos h, if_pos (hb.1 h).1]; rfl
  · have h2 := hb.2 (by omega)
    rw [if_neg h]
    by_cases h3 : x.toInt.tmod 3600000 = 0
    · rw [if_pos h3, if_pos (by omega)]; rfl
    · rw [if_neg h3, if_neg (by omega)]; rfl
theorem px_cosA (a : Int32) (M : xm_M) : fX3_angleOfCosine a M = some (sp_mod36 (a + 9000), M) := rfl
/-- the heading is from 0 on -/
theorem sp_head_in (x : Int64) : 0 ≤ (sp_head x).toInt ∧ (sp_head x).toInt < 3600000 := by
  have hm : sp_mod x = x - x / 3600000 * 3600000 := rfl
  have ht : (sp_mod x).toInt = x.toInt.tmod 3600000 := by
    rw [hm, pn_lrem, Int64.toInt_mod]; rfl
  have hb := tmod_bounds (a := x.toInt) (M := 3600000) (by omega)
  have e1 : (0 ≤ sp_mod x) = (0 ≤ (sp_mod x).toInt) := propext Int64.le_iff_toInt_le
  unfold sp_head
  simp only [e1, ht]
  by_cases h : 0 ≤ x.toInt.tmod 3600000
  · rw [if_pos h, Int64.toInt_toInt32, ht, Int.bmod_eq_of_le_mul_two (by omega) (by omega)]
    omega
  · rw [if_neg h, Int64.toInt_toInt32, Int64.toInt_add, ht]
    rw [show (3600000 : Int64).toInt = 3600000 from rfl, Int.bmod_eq_of_le_mul_two (x := x.toInt.tmod 3600000 + 3600000) (y := 2 ^ 64) (by omega) (by omega), Int.bmod_eq_of_le_mul_two (by omega) (by omega)]
    omega
theorem pn_mulr {x y A B : Int} (h1 : 0 ≤ x) (h2 : x ≤ A) (h3 : 0 ≤ y) (h4 : y ≤ B) : 0 ≤ x * y ∧ x * y ≤ A * B := ⟨Int.mul_nonneg h1 h3, Int.mul_le_mul h2 h4 h3 (by omega)⟩
theorem sp_half_ok {x : Int32} (h0 : 0 ≤ x.toInt) (h1 : x.toInt ≤ 18000) : (18000 - x).toInt64 = 18000 - x.toInt64 ∧ ¬ (405000000 - x.toInt64 * (18000 - x.toInt64) = 0) := by
  have e1 : (18000 - x).toInt = 18000 - x.toInt := pn_sub (x := 18000) (by rw [show (18000 : Int32).toInt = 18000 from rfl]; omega) (by rw [show (18000 : Int32).toInt = 18000 from rfl]; omega)
  have e2 : (18000 - x.toInt64).toInt = 18000 - x.toInt := by
    rw [pn_sub64 (x := 18000) (by rw [pn_i64, show (18000 : Int64).toInt = 18000 from rfl]; omega) (by rw [pn_i64, show (18000 : Int64).toInt = 18000 from rfl]; omega), pn_i64]; rfl
  refine ⟨Int64.toInt_inj.mp (by rw [pn_i64, e1, e2]), fun h => ?_⟩
  have hb := pn_mulr h0 h1 (show 0 ≤ 18000 - x.toInt by omega) (show 18000 - x.toInt ≤ 18000 by omega)
  have e3 : (x.toInt64 * (18000 - x.toInt64)).toInt = x.toInt * (18000 - x.toInt) := by
    rw [pn_mul64 (by rw [pn_i64, e2]; omega) (by rw [pn_i64, e2]; omega), pn_i64, e2]
  have h4 := congrArg Int64.toInt h
  rw [pn_sub64 (x := 405000000) (by rw [e3, show (405000000 : Int64).toInt = 405000000 from rfl]; omega) (by rw [e3, show (405000000 : Int64).toInt = 405000000 from rfl]; omega), e3, show (405000000 : Int64).toInt = 405000000 from rfl, show (0 : Int64).toInt = 0 from rfl] at h4
  omega
theorem px_sine18 {b s : Int64} {b0 : Int32} {M : xm_M} (hb : s * (18000 - s) = b) (h : ¬ (405000000 - b = 0)) : fX3_sine_18 b0 s M = some (if b0 ≤ 18000 then (4000000 * b / (405000000 - b)).toInt32 else -(4000000 * b / (405000000 - b)).toInt32, M) := by
  unfold fX3_sine_18
  simp only [pb_lt]
  rw [hb, px_ratio h, pb_l]
  by_cases h2 : b0 ≤ 18000
  · rw [if_pos h2, if_pos h2]
  · rw [if_neg h2, if_neg h2]
theorem px_sine {a : Int32} (h0 : 0 ≤ a.toInt) (h1 : a.toInt < 36000) (M : xm_M) : fX3_sine a M = some (sp_sin a, M) := by
  unfold fX3_sine sp_sin sp_half
  by_cases h : a ≤ 18000
  · have h2 : a.toInt ≤ 18000 := Int32.le_iff_toInt_le.mp h
    obtain ⟨e1, e2⟩ := sp_half_ok h0 h2
    rw [if_pos h, if_neg (Int32.not_lt.mpr h), e1]
    generalize hb : a.toInt64 * (18000 - a.toInt64) = b at e2 ⊢
    rw [px_sine18 hb e2, if_pos h]
  · have h2 : 18000 < a.toInt := Int32.lt_iff_toInt_lt.mp (Int32.not_le.mp h)
    have e3 : (a - 18000).toInt = a.toInt - 18000 := pn_sub (y := 18000) (by rw [show (18000 : Int32).toInt = 18000 from rfl]; omega) (by rw [show (18000 : Int32).toInt = 18000 from rfl]; omega)
    obtain ⟨e1, e2⟩ := sp_half_ok (x := a - 18000) (by omega) (by omega)
    rw [if_neg h, if_pos (Int32.not_le.mp h), e1]
    generalize hb : (a - 18000).toInt64 * (18000 - (a - 18000).toInt64) = b at e2 ⊢
    rw [px_sine18 hb e2, if_neg h]
theorem sp_mod36_in {a : Int32} (h0 : 0 ≤ a.toInt) (h1 : a.toInt < 36000) : 0 ≤ (sp_mod36 (a + 9000)).toInt ∧ (sp_mod36 (a + 9000)).toInt < 36000 := by
  unfold sp_mod36
  rw [pn_irem, Int32.toInt_mod, pn_add (y := 9000) (by rw [show (9000 : Int32).toInt = 9000 from rfl]; omega) (by rw [show (9000 : Int32).toInt = 9000 from rfl]; omega), show (9000 : Int32).toInt = 9000 from rfl, show (36000 : Int32).toInt = 36000 from rfl]
  exact (pn_tmod (a.toInt + 9000) 36000 (by omega)).1 (by omega)
theorem sp_ang_in (h t : Int32) : 0 ≤ (sp_ang h t).toInt ∧ (sp_ang h t).toInt < 36000 := by
  unfold sp_ang
  have hb := sp_head_in (h.toInt64 + (t / 2).toInt64)
  rw [pn_div (y := 100) (by decide), show (100 : Int32).toInt = 100 from rfl, Int.tdiv_eq_ediv_of_nonneg hb.1]
  omega
theorem pn_tm (a m : Int) (hm : 0 < m) : a.tmod m = if 0 ≤ a then a % m else -((-a) % m) := by
  by_cases h : 0 ≤ a
  · rw [if_pos h, Int.tmod_eq_emod_of_nonneg h]
  · rw [if_neg h]
    have e : a.tmod m = -((-a).tmod m) := by rw [Int.neg_tmod, Int.neg_neg]
    rw [e, Int.tmod_eq_emod_of_nonneg (by omega)]
theorem px_fmod {a : Int32} {M : xm_M} (h0 : -900000 < a.toInt) (h1 : a.toInt < 4500000) : ∃ r : Int32, fJ9_floorMod_7cf53 a 1800000 M = some (r, M) ∧ r.toInt = a.toInt % 1800000 := by
  unfold fJ9_floorMod_7cf53
  rw [if_neg (show ¬ (1800000 : Int32) = 0 by decide)]
  simp only [pb_lt, fJ9_floorMod_7cf53_18]
  have ht : (a - a / 1800000 * 1800000).toInt = a.toInt.tmod 1800000 := by
    rw [pn_irem, Int32.toInt_mod]; rfl
  rw [pn_tm _ _ (by omega)] at ht
  generalize a - a / 1800000 * 1800000 = r at ht ⊢
  have hx : (0 ≤ a ^^^ 1800000) = (0 ≤ a) := propext (pn_xor32 a 1800000 (by decide))
  have e0 : (0 ≤ a) = (0 ≤ a.toInt) := propext Int32.le_iff_toInt_le
  have e2 : (r = 0) = (r.toInt = 0) := propext Int32.toInt_inj.symm
  simp only [hx, e0, e2]
  by_cases h : 0 ≤ a.toInt
  · rw [if_pos h] at ht ⊢
    exact ⟨r, rfl, ht⟩
  · rw [if_neg h] at ht ⊢
    by_cases h3 : r.toInt = 0
    · rw [if_pos h3]
      exact ⟨r, rfl, by omega⟩
    · rw [if_neg h3]
      refine ⟨_, rfl, ?_⟩
      rw [pn_add (y := 1800000) (by rw [show (1800000 : Int32).toInt = 1800000 from rfl]; omega) (by rw [show (1800000 : Int32).toInt = 1800000 from rfl]; omega), show (1800000 : Int32).toInt = 1800000 from rfl]
      omega
theorem sp_off_int {h dir : Int32} (h0 : 0 ≤ h.toInt) (h1 : h.toInt < 3600000) (d0 : 0 ≤ dir.toInt) (d1 : dir.toInt < 18000) : (h - 100 * dir).toInt = h.toInt - 100 * dir.toInt ∧ (sp_off h dir).toInt = (h.toInt - 100 * dir.toInt + 900000) % 1800000 - 900000 := by
  have e1 : (100 * dir).toInt = 100 * dir.toInt := pn_mul (x := 100) (by rw [show (100 : Int32).toInt = 100 from rfl]; omega) (by rw [show (100 : Int32).toInt = 100 from rfl]; omega)
  have e2 : (h - 100 * dir).toInt = h.toInt - 100 * dir.toInt := by rw [pn_sub (by rw [e1]; omega) (by rw [e1]; omega), e1]
  refine ⟨e2, ?_⟩
  unfold sp_off
  have ht : (sp_rem18 (h - 100 * dir)).toInt = (h.toInt - 100 * dir.toInt).tmod 1800000 := by
    unfold sp_rem18
    rw [pn_irem, Int32.toInt_mod, e2]; rfl
  rw [pn_tm _ _ (by omega)] at ht
  generalize sp_rem18 (h - 100 * dir) = r at ht ⊢
  have q1 : (-900000 ≤ r) = (-900000 ≤ r.toInt) := propext Int32.le_iff_toInt_le
  have q2 : (r ≤ 899999) = (r.toInt ≤ 899999) := propext Int32.le_iff_toInt_le
  have q3 : (1800000 : Int32).toInt = 1800000 := rfl
  simp only [q1, q2]
  have hb : -1800000 < r.toInt ∧ r.toInt < 1800000 := by
    split at ht <;> omega
  by_cases z1 : -900000 ≤ r.toInt
  · rw [if_pos z1]
    by_cases z2 : r.toInt ≤ 899999
    · rw [if_pos z2]
      split at ht <;> omega
    · rw [if_neg z2, pn_sub (by rw [q3]; omega) (by rw [q3]; omega), q3]
      split at ht <;> omega
  · rw [if_neg z1, pn_add (by rw [q3]; omega) (by rw [q3]; omega), q3]
    split at ht <;> omega
theorem px_off {h dir : Int32} {M : xm_M} (eh : M.1 49 5 = h) (h0 : 0 ≤ h.toInt) (h1 : h.toInt < 3600000) (d0 : 0 ≤ dir.toInt) (d1 : dir.toInt < 18000) : fX2_offDirection dir M = some (sp_off h dir, M) := by
  unfold fX2_offDirection
  obtain ⟨e2, e3⟩ := sp_off_int h0 h1 d0 d1
  have q9 : (900000 : Int32).toInt = 900000 := rfl
  have e4 : (h - 100 * dir + 900000).toInt = h.toInt - 100 * dir.toInt + 900000 := by rw [pn_add (by rw [e2, q9]; omega) (by rw [e2, q9]; omega), e2, q9]
  obtain ⟨r, hr1, hr2⟩ := px_fmod (a := h - 100 * dir + 900000) (M := M) (by omega) (by omega)
  rw [eh, hr1, pb_i]
  have e5 : r - 900000 = sp_off h dir := Int32.toInt_inj.mp (by
    rw [e3, pn_sub (by rw [q9]; omega) (by rw [q9]; omega), q9, hr2, e4])
  rw [e5]
