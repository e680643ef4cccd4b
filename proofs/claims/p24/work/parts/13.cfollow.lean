/-! THE CLASS, the corridors, a step whole, the way along the log -/
theorem px_near {c : Nat} {x y rc : Int32} {M : xm_M} (hc : c < 8) : fX1_isNear (nI c) x y rc M = some (if (M.1 4 c - rc ≤ x ∧ x ≤ M.1 5 c + rc) ∧ M.1 6 c - rc ≤ y ∧ y ≤ M.1 7 c + rc then 1 else 0, M) := by
  unfold fX1_isNear
  simp only [px_cI_0 hc, px_cI_1 hc, px_cI_2 hc, px_cI_3 hc, pb_i, px_in]
  by_cases h1 : M.1 4 c - rc ≤ x ∧ x ≤ M.1 5 c + rc
  · by_cases h2 : M.1 6 c - rc ≤ y ∧ y ≤ M.1 7 c + rc
    · simp only [h1, h2, and_self, if_true, show ¬ (1 : Int32) = 0 by decide, if_false]
    · simp only [h1, h2, and_false, and_true, if_true, show ¬ (1 : Int32) = 0 by decide, if_false, true_and]
  · simp only [h1, false_and, if_false, if_true]
/-- ranges that hold in every desk -/
def sp_ok (V : sV) : Prop :=
  (100 ≤ (V 0 0).toInt ∧ (V 0 0).toInt ≤ 2000) ∧ (100 ≤ (V 0 1).toInt ∧ (V 0 1).toInt ≤ 2000) ∧ (100 ≤ (V 0 2).toInt ∧ (V 0 2).toInt ≤ 1000) ∧ (0 ≤ (V 0 3).toInt ∧ (V 0 3).toInt ≤ 200000) ∧ (0 ≤ (V 0 4).toInt ∧ (V 0 4).toInt ≤ 100) ∧ (1 ≤ (V 0 5).toInt ∧ (V 0 5).toInt ≤ 64) ∧ (0 ≤ (V 0 6).toInt ∧ (V 0 6).toInt ≤ 100) ∧ (0 ≤ (V 0 7).toInt ∧ (V 0 7).toInt ≤ 2000) ∧ (0 ≤ (V 0 8).toInt ∧ (V 0 8).toInt ≤ 900000) ∧
  (0 ≤ (V 1 0).toInt ∧ (V 1 0).toInt ≤ 8) ∧ (0 ≤ (V 1 1).toInt ∧ (V 1 1).toInt ≤ 6) ∧ (0 ≤ (V 1 2).toInt ∧ (V 1 2).toInt ≤ 120) ∧ (-100000 ≤ (V 1 3).toInt ∧ (V 1 3).toInt ≤ 100000) ∧ (-100000 ≤ (V 1 4).toInt ∧ (V 1 4).toInt ≤ 100000) ∧ (0 ≤ (V 1 5).toInt ∧ (V 1 5).toInt < 3600000) ∧
  (∀ c : Nat, (c : Int) < (V 1 0).toInt → (∀ r, 2 ≤ r → r < 6 → -100000 ≤ (V r c).toInt ∧ (V r c).toInt ≤ 100000) ∧ 0 ≤ (V 6 c).toInt ∧ (V 6 c).toInt < 18000) ∧
  (∀ j : Nat, (j : Int) < (V 1 1).toInt → ∀ r, 7 ≤ r → r < 9 → -100000 ≤ (V r j).toInt ∧ (V r j).toInt ≤ 100000) ∧
  (∀ e : Nat, (e : Int) < (V 1 2).toInt → (V 9 e = -6 ∧ (-300 ≤ (V 10 e).toInt ∧ (V 10 e).toInt ≤ 300) ∧ (-300 ≤ (V 11 e).toInt ∧ (V 11 e).toInt ≤ 300) ∧ -300000 ≤ (V 12 e).toInt ∧ (V 12 e).toInt ≤ 300000) ∨ (0 ≤ (V 9 e).toInt ∧ (V 9 e).toInt < (V 1 1).toInt))
theorem pn_ofI {x : Int32} {n : Nat} (h0 : 0 ≤ x.toInt) (h1 : x.toInt ≤ n) : ∃ j : Nat, j ≤ n ∧ x = nI j ∧ x.toInt = (j : Int) ∧ x.toNatClampNeg = j := by
  have h2 := Int32.toInt_lt x
  refine ⟨x.toInt.toNat, by omega, Int32.toInt_inj.mp ?_, by omega, rfl⟩
  rw [nI_toInt (by omega)]
  omega
/-- behind the corridors' pull -/
noncomputable def px_pulled (ps e : Nat) (h : Int32) (M : xm_M) : Option Nat → xm_M
  | none => M
  | some c => xm_s (xm_s (xm_s (xm_s M 49 5 (sp_head (h.toInt64 - (sp_pl (cV ps M) h c).toInt64))) 49 8 (M.1 49 8 + 1)) 64 e (nI c)) 65 e (sp_pl (cV ps M) h c)
theorem px_corr {ps e nc : Nat} {h x y : Int32} {M : xm_M} (hps : ps < 49 ∨ 68 < ps) (he : e < 120) (hnc : M.1 1 4 = nI nc) (hn8 : nc ≤ 8) (eh : M.1 49 5 = h) (ex : M.1 49 3 = x) (ey : M.1 49 4 = y) (h0 : 0 ≤ h.toInt) (h1 : h.toInt < 3600000) (hd : ∀ c, c < nc → 0 ≤ (M.1 8 c).toInt ∧ (M.1 8 c).toInt < 18000) :
    ∀ (n c : Nat), c ≤ nc → nc - c < n → fX2_followCorridor_3_it ps n (nI e) (nI c) M = some (px_pulled ps e h M (sp_fst (sp_pulls (cV ps M) x y h) (nc - c) c)) := by
  have h49 : ¬ ps = 49 := by omega
  intro n
  induction n with
  | zero => intro c _ h9; omega
  | succ n ih =>
    intro c hc hn
    show fX2_followCorridor_3 ps (fX2_followCorridor_3_it ps n) (nI e) (nI c) M = _
    unfold fX2_followCorridor_3
    by_cases hlt : c < nc
    · rw [if_neg (by rw [hnc, nI_leI (by omega) (by omega)]; omega)]
      have hc8 : c < 8 := by omega
      simp only [px_cI_4 hc8, pb_i]
      rw [px_off eh h0 h1 (hd c hlt).1 (hd c hlt).2]
      simp only [pb_i, px_sI_7, px_sI_8, px_sI_6, px_near hc8, ex, ey, eh]
      rw [show nc - c = (nc - (c + 1)) + 1 by omega]
      unfold sp_fst
      have hpl : sp_pulls (cV ps M) x y h c ↔ ((M.1 4 c - M.1 ps 7 ≤ x / 1000 ∧ x / 1000 ≤ M.1 5 c + M.1 ps 7) ∧ M.1 6 c - M.1 ps 7 ≤ y / 1000 ∧ y / 1000 ≤ M.1 7 c + M.1 ps 7) ∧ sp_ab32 (sp_off h (M.1 8 c)) ≤ M.1 ps 8 := Iff.rfl
      have hnext : fX2_followCorridor_138 ps (fX2_followCorridor_3_it ps n) (nI e) (nI c) M = some (px_pulled ps e h M (sp_fst (sp_pulls (cV ps M) x y h) (nc - (c + 1)) (c + 1))) := by
        unfold fX2_followCorridor_138
        rw [pb_lt, show nI c + Int32.ofInt 1 = nI (c + 1) from (nI_succ c).symm]
        exact ih (c + 1) (by omega) (by omega)
      by_cases hP : sp_pulls (cV ps M) x y h c
      · rw [if_pos hP]
        have h2 := hpl.mp hP
        rw [if_pos h2.1, if_neg (show ¬ (1 : Int32) = 0 by decide)]
        have h3 : ¬ M.1 ps 8 < (if 0 ≤ sp_off h (M.1 8 c) then sp_off h (M.1 8 c) else 0 - sp_off h (M.1 8 c)) := Int32.not_lt.mpr h2.2
        rw [if_neg h3]
        simp only [pb_lt, px_head, pb_i, px_fK_7 he, px_fK_8 he, pb_v, pm_s]
        rfl
      · rw [if_neg hP]
        by_cases hN : (M.1 4 c - M.1 ps 7 ≤ x / 1000 ∧ x / 1000 ≤ M.1 5 c + M.1 ps 7) ∧ M.1 6 c - M.1 ps 7 ≤ y / 1000 ∧ y / 1000 ≤ M.1 7 c + M.1 ps 7
        · rw [if_pos hN, if_neg (show ¬ (1 : Int32) = 0 by decide)]
          have h3 : M.1 ps 8 < (if 0 ≤ sp_off h (M.1 8 c) then sp_off h (M.1 8 c) else 0 - sp_off h (M.1 8 c)) := Int32.not_le.mp (fun z => hP (hpl.mpr ⟨hN, z⟩))
          rw [if_pos h3]
          exact hnext
        · rw [if_neg hN, if_pos rfl]
          exact hnext
    · rw [if_pos (by rw [hnc, nI_leI (by omega) (by omega)]; omega), show nc - c = 0 by omega]
      rfl
