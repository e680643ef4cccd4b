/-! THE LAW: spread -/
theorem pn_qabs {f E D : Int} (h0 : 0 ≤ E) (h1 : E ≤ D) (hD : 0 < D) : ((f * E).tdiv D).natAbs ≤ f.natAbs := by
  rw [Int.natAbs_tdiv, Int.natAbs_mul]
  have h : f.natAbs * E.natAbs ≤ f.natAbs * D.natAbs := Nat.mul_le_mul (Nat.le_refl _) (by omega)
  exact Nat.div_le_of_le_mul (by rw [Nat.mul_comm D.natAbs]; exact h)
theorem pn_ssc (x y : Int32) : x - (x - y) = y := by
  apply Int32.toBitVec_inj.mp
  simp only [Int32.toBitVec_sub]
  bv_omega
theorem pn_sub32 (x : Int32) (y : Int64) : (x.toInt64 - y).toInt32 = x - y.toInt32 := by
  rw [Int64.toInt32_sub, Int32.toInt32_toInt64]
/-- off by the part of the error that the way is of the stretch, to less than one -/
theorem sp_off_ok {x X F wE wL wF : Int32} (r1 : 0 ≤ wL.toInt) (r2 : wL.toInt ≤ wE.toInt) (r3 : wE.toInt ≤ wF.toInt) (r4 : wF.toInt ≤ 150000000) (hne : wL.toInt < wF.toInt) (hX : X = (x.toInt64 - F.toInt64 * (wE.toInt64 - wL.toInt64) / (wF.toInt64 - wL.toInt64)).toInt32) :
    (-(wF.toInt - wL.toInt) < ((x - X).toInt64 * (wF - wL).toInt64 - F.toInt64 * (wE - wL).toInt64).toInt ∧ ((x - X).toInt64 * (wF - wL).toInt64 - F.toInt64 * (wE - wL).toInt64).toInt < wF.toInt - wL.toInt) ∧ (wE = wL → X = x) := by
  have f1 := Int32.le_toInt F
  have f2 := Int32.toInt_lt F
  have d1 : (wF.toInt64 - wL.toInt64).toInt = wF.toInt - wL.toInt := by rw [pn_sub64 (by rw [pn_i64, pn_i64]; omega) (by rw [pn_i64, pn_i64]; omega), pn_i64, pn_i64]
  have d2 : (wE.toInt64 - wL.toInt64).toInt = wE.toInt - wL.toInt := by rw [pn_sub64 (by rw [pn_i64, pn_i64]; omega) (by rw [pn_i64, pn_i64]; omega), pn_i64, pn_i64]
  have d3 : (wF - wL).toInt = wF.toInt - wL.toInt := pn_sub (by omega) (by omega)
  have d4 : (wE - wL).toInt = wE.toInt - wL.toInt := pn_sub (by omega) (by omega)
  have hz : wE = wL → wE.toInt = wL.toInt := fun z => by rw [z]
  generalize hE : wE.toInt - wL.toInt = E at d2 d4
  generalize hD : wF.toInt - wL.toInt = D at d1 d3 ⊢
  have e0 : 0 ≤ E := by omega
  have e1 : E ≤ D := by omega
  have e2 : 0 < D := by omega
  have e3 : D ≤ 150000000 := by omega
  clear r1 r2 r3 r4 hne hD
  have m1 := pn_mulb (x := F.toInt) (y := E) (a := 2147483648) (b := 150000000) (by omega) (by omega) (by omega) (by omega)
  have p1 : (F.toInt64 * (wE.toInt64 - wL.toInt64)).toInt = F.toInt * E := by rw [pn_mul64 (by rw [pn_i64, d2]; omega) (by rw [pn_i64, d2]; omega), pn_i64, d2]
  have p2 : (F.toInt64 * (wE - wL).toInt64).toInt = F.toInt * E := by rw [pn_mul64 (by rw [pn_i64, pn_i64, d4]; omega) (by rw [pn_i64, pn_i64, d4]; omega), pn_i64, pn_i64, d4]
  have hq : (F.toInt64 * (wE.toInt64 - wL.toInt64) / (wF.toInt64 - wL.toInt64)).toInt = (F.toInt * E).tdiv D := by rw [pn_div64 (by rw [d1]; exact e2), p1, d1]
  have hqa := pn_qabs (f := F.toInt) e0 e1 e2
  generalize F.toInt64 * (wE.toInt64 - wL.toInt64) / (wF.toInt64 - wL.toInt64) = Q at hq hX
  have hqs : F.toInt < 0 ∨ 0 ≤ F.toInt := by omega
  have hsg : (0 ≤ F.toInt → 0 ≤ (F.toInt * E).tdiv D) := fun h => Int.tdiv_nonneg (Int.mul_nonneg h e0) (by omega)
  generalize hqq : (F.toInt * E).tdiv D = q at hq hqa hsg
  have hqr : -2147483648 ≤ q ∧ q ≤ 2147483647 := by
    rcases hqs with h | h
    · have h9 : F.toInt ≤ 0 := by omega
      have : (F.toInt * E).tdiv D ≤ 0 := by
        have hn : F.toInt * E ≤ 0 := Int.mul_nonpos_of_nonpos_of_nonneg h9 e0
        exact ((pn_tdiv (F.toInt * E) D e2).2 hn).2
      rw [hqq] at this
      omega
    · have := hsg h
      omega
  have hx : (x - X).toInt64 = Q := by
    rw [hX, pn_sub32, pn_ssc, pn_64 (by rw [hq]; exact hqr.1) (by rw [hq]; exact hqr.2)]
  have m2 := pn_mulb (x := q) (y := D) (a := 2147483648) (b := 150000000) (by omega) (by omega) (by omega) (by omega)
  have p3 : (Q * (wF - wL).toInt64).toInt = q * D := by rw [pn_mul64 (by rw [hq, pn_i64, d3]; omega) (by rw [hq, pn_i64, d3]; omega), hq, pn_i64, d3]
  have hr := pn_tmod (F.toInt * E) D e2
  have hm : q * D + (F.toInt * E).tmod D = F.toInt * E := by rw [← hqq, Int.mul_comm]; exact Int.mul_tdiv_add_tmod _ _
  refine ⟨?_, fun z => ?_⟩
  · rw [hx, pn_sub64 (by rw [p3, p2]; omega) (by rw [p3, p2]; omega), p3, p2]
    by_cases h : 0 ≤ F.toInt * E
    · have := hr.1 h; omega
    · have := hr.2 (by omega); omega
  · have hE0 : E = 0 := by have := hz z; omega
    have hq0 : q = 0 := by rw [← hqq, hE0, Int.mul_zero, Int.zero_tdiv]
    have hQ0 : Q = 0 := Int64.toInt_inj.mp (by rw [hq, hq0]; rfl)
    rw [hX, hQ0, Int64.sub_zero, Int32.toInt32_toInt64]
/-- at a sight: all of its error -/
theorem sp_off_at {x X F wL wF : Int32} (r1 : 0 ≤ wL.toInt) (r4 : wF.toInt ≤ 150000000) (hne : wL.toInt < wF.toInt) (hX : X = (x.toInt64 - F.toInt64 * (wF.toInt64 - wL.toInt64) / (wF.toInt64 - wL.toInt64)).toInt32) : X = x - F := by
  have f1 := Int32.le_toInt F
  have f2 := Int32.toInt_lt F
  have d1 : (wF.toInt64 - wL.toInt64).toInt = wF.toInt - wL.toInt := by rw [pn_sub64 (by rw [pn_i64, pn_i64]; omega) (by rw [pn_i64, pn_i64]; omega), pn_i64, pn_i64]
  have m1 := pn_mulb (x := F.toInt) (y := wF.toInt - wL.toInt) (a := 2147483648) (b := 150000000) (by omega) (by omega) (by omega) (by omega)
  have p1 : (F.toInt64 * (wF.toInt64 - wL.toInt64)).toInt = F.toInt * (wF.toInt - wL.toInt) := by rw [pn_mul64 (by rw [pn_i64, d1]; omega) (by rw [pn_i64, d1]; omega), pn_i64, d1]
  have hq : F.toInt64 * (wF.toInt64 - wL.toInt64) / (wF.toInt64 - wL.toInt64) = F.toInt64 := Int64.toInt_inj.mp (by
    rw [pn_div64 (by rw [d1]; omega), p1, d1, pn_i64]
    exact Int.mul_tdiv_cancel _ (by omega))
  rw [hX, hq, pn_sub32, Int32.toInt32_toInt64]
theorem sp_way_mono {V : sV} {n : Nat} (hS : cS V n) {a b : Nat} (hab : a ≤ b) (hb : b ≤ n) : (sp_ax (sp_P V a) 3).toInt ≤ (sp_ax (sp_P V b) 3).toInt := by
  induction b with
  | zero => rw [Nat.le_zero.mp hab]; exact Int.le_refl _
  | succ b ih =>
    by_cases e : a = b + 1
    · rw [e]; exact Int.le_refl _
    · refine Int.le_trans (ih (by omega) (by omega)) ?_
      have hN : (V 1 2).toInt = (n : Int) := by rw [hS.2.1, nI_toInt (by have := hS.2.2; omega)]
      have w0 := (sp_P_in hS.1 b (by omega)).2
      have w1 := (sp_P_in hS.1 (b + 1) (by omega)).2
      show (sp_P V b).2.2.2.1.toInt ≤ (sp_P V (b + 1)).2.2.2.1.toInt
      by_cases hs : 0 ≤ V 9 b
      · rw [(sp_sight hs).1]; exact Int.le_refl _
      · by_cases h0 : V 10 b = 0 ∧ V 11 b = 0
        · rw [(sp_stand hs h0).1]; exact Int.le_refl _
        · obtain ⟨_, ⟨_, _, x3, _⟩, _⟩ := sp_go hs h0
          obtain ⟨⟨r10, r11, r12⟩, rb⟩ := sp_ranges hS (show b < n by omega) hs
          obtain ⟨q0, q1, q2, q3, q4, _⟩ := id hS.1
          have eA : (sp_A V b).toInt = (V 0 0).toInt * (V 10 b).toInt ∧ -(2000 * 300) ≤ (V 0 0).toInt * (V 10 b).toInt ∧ (V 0 0).toInt * (V 10 b).toInt ≤ 2000 * 300 := pn_m64 (a := 2000) (b := 300) (by omega) (by omega) (by omega) (by omega) (by omega)
          have eB : (sp_B V b).toInt = (V 0 1).toInt * (V 11 b).toInt ∧ -(2000 * 300) ≤ (V 0 1).toInt * (V 11 b).toInt ∧ (V 0 1).toInt * (V 11 b).toInt ≤ 2000 * 300 := pn_m64 (a := 2000) (b := 300) (by omega) (by omega) (by omega) (by omega) (by omega)
          have hD : -1200000 ≤ (sp_Dd V b (sp_P V b).2.2.2.2).toInt ∧ (sp_Dd V b (sp_P V b).2.2.2.2).toInt ≤ 1200000 := (sp_d64 (sl := V 0 3) (ba := V 0 2) (a := sp_A V b) (b := sp_B V b) (w := sp_stepW V b) (v := sp_v (sp_P V b).2.2.2.2 (V 12 b)) q2 (by omega) (by omega) (sp_v_in rb r12)).2
          rw [x3]
          unfold sp_L
          generalize sp_Dd V b (sp_P V b).2.2.2.2 = D at hD
          have hsD := sp_ab32_int (x := D) (by omega)
          have hn := hS.2.2
          clear w1 eA eB
          have hw : (sp_P V b).2.2.2.1.toInt ≤ 150000000 := by omega
          rw [pn_add (by rw [hsD]; omega) (by rw [hsD]; omega), hsD]
          omega
