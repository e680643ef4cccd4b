/-! THE MODEL, a step -/
theorem pm_214 {e : Nat} {a b w t : Int64} {d T : Int32} {M : xm_M} (he : e < 120) (hd : (a + b) / 2 = d.toInt64) (hd1 : -1200000 ≤ d.toInt ∧ d.toInt ≤ 1200000) (hT : t = T.toInt64) :
    fX4_findStep_214 (nI e) a b w t M = some (xm_s (xm_s (xm_s (xm_s (xm_s (xm_s (xm_s M 0 18 (M.1 0 18 + sp_dx d (sp_ang (M.1 0 20) T))) 0 19 (M.1 0 19 + sp_dy d (sp_ang (M.1 0 20) T))) 0 20 (sp_head ((M.1 0 20).toInt64 + T.toInt64))) 0 21 (M.1 0 21 + sp_ab32 d)) 11 e w.toInt32) 12 e T) 13 e d) := by
  have ha := sp_ang_in (M.1 0 20) T
  unfold fX4_findStep_214
  rw [pb_lt, hd, hT, ← pn_half, pm_head, pb_i, pb_lt, show sp_head ((M.1 0 20).toInt64 + (T / 2).toInt64) / 100 = sp_ang (M.1 0 20) T from rfl, pm_cos ha.1 ha.2, pb_i, pb_lt, pm_sine ha.1 ha.2, pb_i, pb_lt]
  simp only [pm_s, Nat.reduceEqDiff, and_false, if_false]
  rw [pm_head, pb_i, pb_lt]
  have e1 : T.toInt64.toInt32 = T := Int32.toInt32_toInt64 T
  have e2 : d.toInt64.toInt32 = d := Int32.toInt32_toInt64 d
  have e3 : (-d.toInt64).toInt32 = 0 - d := by
    have h1 : (-d.toInt64).toInt = -d.toInt := by rw [pn_neg64 (by rw [pn_i64]; omega), pn_i64]
    apply Int32.toInt_inj.mp
    rw [pn_l2i (by omega) (by omega), h1, pn_sub (by rw [show (0 : Int32).toInt = 0 from rfl]; omega) (by rw [show (0 : Int32).toInt = 0 from rfl]; omega), show (0 : Int32).toInt = 0 from rfl]
    omega
  have q1 : (0 ≤ d.toInt64) = (0 ≤ d) := propext (by rw [Int64.le_iff_toInt_le, Int32.le_iff_toInt_le, pn_i64]; rfl)
  simp only [fX4_findStep_325, pb_lt, pm_s, px_ifE he, px_ifC he, nI_clamp (show e < 2 ^ 31 by omega), e1, e2, e3, pl_ge, q1, Nat.reduceEqDiff, and_false, if_false]
  unfold sp_ab32
  by_cases h : 0 ≤ d
  · simp only [if_pos h]
    rfl
  · simp only [if_neg h]
    rfl
def mG (V : sV) (e : Nat) (p : sP) (M M' : xm_M) : Prop :=
  (∀ k j, ((k = 0 ∧ j = 4) ∨ (1 ≤ k ∧ k ≤ 4) ∨ (6 ≤ k ∧ k ≤ 10) ∨ k = 14 ∨ k = 15) → M'.1 k j = M.1 k j) ∧
  (∀ k j, 5 ≤ k → k ≤ 17 → ¬ j = e → M'.1 k j = M.1 k j) ∧
  (M'.1 0 18 = sp_X V e p ∧ M'.1 0 19 = sp_Y V e p ∧ M'.1 0 20 = sp_H V e p ∧ M'.1 0 21 = sp_L V e p ∧ M'.1 0 22 = p.2.2.2.2) ∧
  M'.1 5 e = sp_K V e p.2.2.2.2 ∧ M'.1 11 e = (sp_stepW V e).toInt32 ∧ M'.1 12 e = sp_T V e p.2.2.2.2 ∧ M'.1 13 e = sp_Dd V e p.2.2.2.2
theorem mG_of {V : sV} {e : Nat} {x y h l b K T d w : Int32} {M M1 : xm_M} (h1 : ∀ k j, ¬ (k = 5 ∧ j = e) → M1.1 k j = M.1 k j) (h2 : M1.1 5 e = K) (ex : M.1 0 18 = x) (ey : M.1 0 19 = y) (eh : M.1 0 20 = h) (el : M.1 0 21 = l) (eb : M.1 0 22 = b) (hK : sp_K V e b = K) (hT : sp_T V e b = T) (hd : sp_Dd V e b = d) (hw : (sp_stepW V e).toInt32 = w) :
    mG V e (x, y, h, l, b) M (xm_s (xm_s (xm_s (xm_s (xm_s (xm_s (xm_s M1 0 18 (M1.1 0 18 + sp_dx d (sp_ang (M1.1 0 20) T))) 0 19 (M1.1 0 19 + sp_dy d (sp_ang (M1.1 0 20) T))) 0 20 (sp_head ((M1.1 0 20).toInt64 + T.toInt64))) 0 21 (M1.1 0 21 + sp_ab32 d)) 11 e w) 12 e T) 13 e d) := by
  rw [h1 0 18 (by omega), h1 0 19 (by omega), h1 0 20 (by omega), h1 0 21 (by omega), ex, ey, eh, el]
  subst hK hT hd hw
  refine ⟨?_, ?_, ⟨?_, ?_, ?_, ?_, ?_⟩, ?_, ?_, ?_, ?_⟩
  · intro k j hk
    simp only [pm_s]
    simp only [show ¬ k = 11 by omega, show ¬ k = 12 by omega, show ¬ k = 13 by omega, false_and, if_false]
    rw [if_neg (by omega), if_neg (by omega), if_neg (by omega), if_neg (by omega), h1 k j (by omega)]
  · intro k j hk1 hk2 hj
    simp only [pm_s]
    simp only [show ¬ k = 0 by omega, hj, and_false, false_and, if_false]
    exact h1 k j (by omega)
  · simp [pm_s]; rfl
  · simp [pm_s]; rfl
  · simp [pm_s]; rfl
  · simp [pm_s]; rfl
  · simp [pm_s]
    rw [h1 0 22 (by omega), eb]
  · simp [pm_s]
    exact h2
  · simp [pm_s]
  · simp [pm_s]
  · simp [pm_s]
theorem pn_nn (x : Int32) : 0 ≤ x ↔ 0 ≤ x.toInt := Int32.le_iff_toInt_le
theorem pm_step {V : sV} {e : Nat} {x y h l b : Int32} {M : xm_M} (hok : sp_ok V) (hA : mA V (M.1 1)) (he : e < 120) (hen : (e : Int) < (V 1 2).toInt) (hs : ¬ 0 ≤ V 9 e) (hb : -4800000 ≤ b.toInt ∧ b.toInt ≤ 4800000) (ex : M.1 0 18 = x) (ey : M.1 0 19 = y) (eh : M.1 0 20 = h) (el : M.1 0 21 = l) (eb : M.1 0 22 = b) :
    ∃ M', fX4_findStep (nI e) M = some M' ∧ mG V e (x, y, h, l, b) M M' := by
  obtain ⟨r0, r1, r2, r3, r4, r5, r6, r7, r8, _, _, _, _, _, _, _, _, rlog⟩ := hok
  have hl : (-300 ≤ (V 10 e).toInt ∧ (V 10 e).toInt ≤ 300) ∧ (-300 ≤ (V 11 e).toInt ∧ (V 11 e).toInt ≤ 300) ∧ -300000 ≤ (V 12 e).toInt ∧ (V 12 e).toInt ≤ 300000 := by
    rcases rlog e hen with z | z
    · exact z.2
    · exact absurd ((pn_nn _).mpr z.1) hs
  have hent : M.1 1 (67 + 4 * e) = 0 ∧ M.1 1 (67 + 4 * e + 1) = V 10 e ∧ M.1 1 (67 + 4 * e + 2) = V 11 e ∧ M.1 1 (67 + 4 * e + 3) = V 12 e := by
    rcases hA.2.2.2.2 e hen with z | z
    · exact absurd z.1 hs
    · exact z.2
  have s0 : M.1 1 0 = V 0 0 := hA.1 0 (by omega)
  have s1 : M.1 1 1 = V 0 1 := hA.1 1 (by omega)
  have s2 : M.1 1 2 = V 0 2 := hA.1 2 (by omega)
  have s3 : M.1 1 3 = V 0 3 := hA.1 3 (by omega)
  have s4 : M.1 1 4 = V 0 4 := hA.1 4 (by omega)
  have hw : -100000000 ≤ (sp_stepW V e).toInt ∧ (sp_stepW V e).toInt ≤ 100000000 := sp_w_in r0 r1 r2 hl.1 hl.2.1
  have hv := sp_v_in hb hl.2.2
  have hab := sp_ab_eq hw.1 hw.2 (by omega) (by omega : (sp_v b (V 12 e)).toInt ≤ 100000000)
  have hT := sp_turn64 r3 r4 hw hv
  have eA : (sp_A V e).toInt = (V 0 0).toInt * (V 10 e).toInt ∧ -(2000 * 300) ≤ (V 0 0).toInt * (V 10 e).toInt ∧ (V 0 0).toInt * (V 10 e).toInt ≤ 2000 * 300 := pn_m64 (a := 2000) (b := 300) (by omega) (by omega) (by omega) (by omega) (by omega)
  have eB : (sp_B V e).toInt = (V 0 1).toInt * (V 11 e).toInt ∧ -(2000 * 300) ≤ (V 0 1).toInt * (V 11 e).toInt ∧ (V 0 1).toInt * (V 11 e).toInt ≤ 2000 * 300 := pn_m64 (a := 2000) (b := 300) (by omega) (by omega) (by omega) (by omega) (by omega)
  have hd := sp_d64 (sl := V 0 3) (ba := V 0 2) (a := sp_A V e) (b := sp_B V e) (w := sp_stepW V e) (v := sp_v b (V 12 e)) r2 (by omega) (by omega) hv
  have hba := (sp_baseOk r2.1 r2.2).2
  have hKd : sp_K V e b = sp_kind (V 0 3) (sp_stepW V e) (sp_v b (V 12 e)) := rfl
  have hTd : sp_T V e b = sp_turn (V 0 3) (V 0 4) (sp_stepW V e) (sp_v b (V 12 e)) := rfl
  have hDd : sp_Dd V e b = sp_d (V 0 3) (V 0 2) (sp_A V e) (sp_B V e) (sp_stepW V e) (sp_v b (V 12 e)) := rfl
  have hsd : sp_v b (V 12 e) * (1000 * (V 0 2).toInt64) / 572958 = sp_s (V 0 2) (sp_v b (V 12 e)) := rfl
  unfold fX4_findStep
  simp only [pm_set0, pm_set1, pm_set2, pm_of1 he, pm_of2 he, pm_of3 he, pb_i, pb_lt, s0, s1, s2, hent.2.1, hent.2.2.1, hent.2.2.2, eb]
  rw [if_neg hba, show (((V 0 1).toInt64 * (V 11 e).toInt64 - (V 0 0).toInt64 * (V 10 e).toInt64) * 572958 / (1000 * (V 0 2).toInt64)) = sp_stepW V e from rfl, show (V 12 e - b / 16).toInt64 = sp_v b (V 12 e) from rfl, show (V 0 0).toInt64 * (V 10 e).toInt64 = sp_A V e from rfl, show (V 0 1).toInt64 * (V 11 e).toInt64 = sp_B V e from rfl]
  rw [← hTd] at hT
  rw [← hDd] at hd
  have hab1 := hab.1
  unfold sp_kind at hKd
  generalize hW : sp_stepW V e = w at *
  generalize hVv : sp_v b (V 12 e) = v at *
  have h94 : ∃ M', fX4_findStep_94 (nI e) (sp_A V e) (sp_B V e) (1000 * (V 0 2).toInt64) w v (sp_ab (w - v)) M = some M' ∧ mG V e (x, y, h, l, b) M M' := by
    unfold fX4_findStep_94
    simp only [pm_set4, pm_set3, pb_i, pb_lt, px_ifE he, px_ifC he, pm_s, Nat.reduceEqDiff, false_and, if_false, s3, s4, pl_le, nI_clamp (show e < 2 ^ 31 by omega)]
    by_cases hsl : (V 0 3).toInt64 < sp_ab (w - v)
    · rw [if_neg (fun z => by
        have z1 := Int64.le_iff_toInt_le.mp z
        have z2 := Int64.lt_iff_toInt_lt.mp hsl
        omega)]
      rw [if_pos hsl] at hT hd hKd
      rw [hsd]
      by_cases hwv : w ≤ v
      · rw [if_pos hwv] at hd hKd ⊢
        simp only [fX4_findStep_172, fX4_findStep_190, fX4_findStep_209, px_ifE he, px_ifC he, pl_le, if_pos hwv, pb_lt, nI_clamp (show e < 2 ^ 31 by omega)]
        rw [pm_214 he hd.1.symm hd.2 hT.symm]
        refine ⟨_, rfl, mG_of ?_ ?_ ex ey eh el eb hKd rfl rfl (by rw [hW])⟩
        · intro k j hkj
          simp only [pm_s, if_neg hkj]
        · simp [pm_s]
      · rw [if_neg hwv] at hd hKd ⊢
        simp only [fX4_findStep_172, fX4_findStep_190, fX4_findStep_209, px_ifE he, px_ifC he, pl_le, if_neg hwv, pb_lt, nI_clamp (show e < 2 ^ 31 by omega)]
        rw [pm_214 he hd.1.symm hd.2 hT.symm]
        refine ⟨_, rfl, mG_of ?_ ?_ ex ey eh el eb hKd rfl rfl (by rw [hW])⟩
        · intro k j hkj
          simp only [pm_s, if_neg hkj]
        · simp [pm_s]
    · rw [if_pos (by
        rw [Int64.le_iff_toInt_le]
        have z2 : ¬ (V 0 3).toInt64.toInt < (sp_ab (w - v)).toInt := fun z => hsl (Int64.lt_iff_toInt_lt.mpr z)
        omega)]
      rw [if_neg hsl] at hT hd hKd
      rw [pm_214 he hd.1.symm hd.2 hT.symm]
      refine ⟨_, rfl, mG_of ?_ ?_ ex ey eh el eb hKd rfl rfl (by rw [hW])⟩
      · intro k j hkj
        simp only [pm_s, if_neg hkj]
      · simp [pm_s]
  by_cases hwv : w ≤ v
  · rw [if_pos hwv] at hab1
    rw [if_pos ((pl_b w v).2.2.2.1.mpr hwv), hab1]
    exact h94
  · rw [if_neg hwv] at hab1
    rw [if_neg (fun z => hwv ((pl_b w v).2.2.2.1.mp z)), hab1]
    exact h94
