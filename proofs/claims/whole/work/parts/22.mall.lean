/-! THE MODEL, the way along the log -/
/-- what the rows tell of entry e, F its facts -/
def mR (F : Nat → Int32) (e : Nat) (M : xm_M) : Prop :=
  M.1 5 e = F 0 ∧ (F 0 = 4 → M.1 16 e = F 9 ∧ M.1 17 e = F 10) ∧ (¬ F 0 = 4 → ¬ F 0 = 0 → M.1 11 e = F 4 ∧ M.1 12 e = F 5 ∧ M.1 13 e = F 6) ∧ (0 ≤ F 7 → M.1 14 e = F 7 ∧ M.1 15 e = F 8) ∧ (¬ 0 ≤ F 7 → M.1 14 e = -6)
def mE (V : sV) (e : Nat) (p : sP) (M M' : xm_M) : Prop :=
  (∀ k j, ((k = 0 ∧ j = 4) ∨ (1 ≤ k ∧ k ≤ 4) ∨ (6 ≤ k ∧ k ≤ 10)) → M'.1 k j = M.1 k j) ∧
  (∀ k j, 5 ≤ k → k ≤ 17 → ¬ j = e → M'.1 k j = M.1 k j) ∧
  (M'.1 0 18, M'.1 0 19, M'.1 0 20, M'.1 0 21, M'.1 0 22) = (sp_step V e p).1 ∧
  mR (sp_step V e p).2 e M'
def mW (V : sV) (M0 M : xm_M) (n : Nat) : Prop :=
  (∀ k j, ((k = 0 ∧ j = 4) ∨ (1 ≤ k ∧ k ≤ 4)) → M.1 k j = M0.1 k j) ∧
  (M.1 0 18, M.1 0 19, M.1 0 20, M.1 0 21, M.1 0 22) = sp_P V n ∧
  (∀ j, j < n → mR (sp_F V j) j M ∧ (M.1 6 j, M.1 7 j, M.1 8 j, M.1 9 j, M.1 10 j) = sp_P V (j + 1))
theorem mR_keep {F : Nat → Int32} {e : Nat} {M M' : xm_M} (h : ∀ k, 5 ≤ k → k ≤ 17 → M'.1 k e = M.1 k e) (hR : mR F e M) : mR F e M' := by
  obtain ⟨h1, h2, h3, h4, h5⟩ := hR
  refine ⟨?_, ?_, ?_, ?_, ?_⟩
  · rw [h 5 (by omega) (by omega)]; exact h1
  · intro z; rw [h 16 (by omega) (by omega), h 17 (by omega) (by omega)]; exact h2 z
  · intro z y; rw [h 11 (by omega) (by omega), h 12 (by omega) (by omega), h 13 (by omega) (by omega)]; exact h3 z y
  · intro z; rw [h 14 (by omega) (by omega), h 15 (by omega) (by omega)]; exact h4 z
  · intro z; rw [h 14 (by omega) (by omega)]; exact h5 z
/-- ranges of the place that the way has come to -/
theorem sp_P_in {V : sV} (hok : sp_ok V) : ∀ n : Nat, (n : Int) ≤ (V 1 2).toInt → (-4800000 ≤ (sp_P V n).2.2.2.2.toInt ∧ (sp_P V n).2.2.2.2.toInt ≤ 4800000) ∧ 0 ≤ (sp_P V n).2.2.2.1.toInt ∧ (sp_P V n).2.2.2.1.toInt ≤ 1200000 * n := by
  obtain ⟨r0, r1, r2, r3, r4, r5, r6, r7, r8, _, _, rn, _, _, _, _, _, rlog⟩ := hok
  intro n
  induction n with
  | zero => intro _; exact (by decide : (-4800000 ≤ (0 : Int32).toInt ∧ (0 : Int32).toInt ≤ 4800000) ∧ 0 ≤ (0 : Int32).toInt ∧ (0 : Int32).toInt ≤ 1200000 * ((0 : Nat) : Int))
  | succ n ih =>
    intro hn
    obtain ⟨hb, hl⟩ := ih (by omega)
    rw [px_P2]
    generalize sp_P V n = p at hb hl ⊢
    by_cases hs : 0 ≤ V 9 n
    · have e : (sp_step V n p).1 = (sp_mx V n, sp_my V n, p.2.2.1, p.2.2.2.1, p.2.2.2.2) := by unfold sp_step; rw [if_pos hs]
      rw [e]
      exact ⟨hb, hl.1, by show p.2.2.2.1.toInt ≤ _; omega⟩
    · have hl2 : (-300 ≤ (V 10 n).toInt ∧ (V 10 n).toInt ≤ 300) ∧ (-300 ≤ (V 11 n).toInt ∧ (V 11 n).toInt ≤ 300) ∧ -300000 ≤ (V 12 n).toInt ∧ (V 12 n).toInt ≤ 300000 := by
        rcases rlog n (by omega) with z | z
        · exact z.2
        · exact absurd ((pn_nn _).mpr z.1) hs
      by_cases h0 : V 10 n = 0 ∧ V 11 n = 0
      · have e : (sp_step V n p).1 = (p.1, p.2.1, p.2.2.1, p.2.2.2.1, sp_bias V n p.2.2.2.2) := by unfold sp_step; rw [if_neg hs, if_pos h0]
        rw [e]
        exact ⟨(sp_bias_in r5 hl2.2.2 hb).2, hl.1, by show p.2.2.2.1.toInt ≤ _; omega⟩
      · have e : (sp_step V n p).1.2.2.2 = (sp_L V n p, p.2.2.2.2) := by
          unfold sp_step
          rw [if_neg hs, if_neg h0]
          split <;> rfl
        have eA : (sp_A V n).toInt = (V 0 0).toInt * (V 10 n).toInt ∧ -(2000 * 300) ≤ (V 0 0).toInt * (V 10 n).toInt ∧ (V 0 0).toInt * (V 10 n).toInt ≤ 2000 * 300 := pn_m64 (a := 2000) (b := 300) (by omega) (by omega) (by omega) (by omega) (by omega)
        have eB : (sp_B V n).toInt = (V 0 1).toInt * (V 11 n).toInt ∧ -(2000 * 300) ≤ (V 0 1).toInt * (V 11 n).toInt ∧ (V 0 1).toInt * (V 11 n).toInt ≤ 2000 * 300 := pn_m64 (a := 2000) (b := 300) (by omega) (by omega) (by omega) (by omega) (by omega)
        have hd := (sp_d64 (sl := V 0 3) (ba := V 0 2) (a := sp_A V n) (b := sp_B V n) (w := sp_stepW V n) (v := sp_v p.2.2.2.2 (V 12 n)) r2 (by omega) (by omega) (sp_v_in hb hl2.2.2)).2
        rw [e]
        refine ⟨hb, ?_⟩
        show 0 ≤ (sp_L V n p).toInt ∧ (sp_L V n p).toInt ≤ _
        unfold sp_L
        have hd2 : -1200000 ≤ (sp_Dd V n p.2.2.2.2).toInt ∧ (sp_Dd V n p.2.2.2.2).toInt ≤ 1200000 := hd
        generalize sp_Dd V n p.2.2.2.2 = d at hd2
        have h3 : 0 ≤ (sp_ab32 d).toInt ∧ (sp_ab32 d).toInt ≤ 1200000 := by
          unfold sp_ab32
          by_cases z : 0 ≤ d
          · rw [if_pos z]
            exact ⟨(pn_nn d).mp z, hd2.2⟩
          · rw [if_neg z, pn_sub (by rw [show (0 : Int32).toInt = 0 from rfl]; omega) (by rw [show (0 : Int32).toInt = 0 from rfl]; omega), show (0 : Int32).toInt = 0 from rfl]
            have : ¬ 0 ≤ d.toInt := fun y => z ((pn_nn d).mpr y)
            omega
        rw [pn_add (by omega) (by omega)]
        omega
theorem pm_157 {V : sV} {M0 M M' : xm_M} {e : Nat} (k53 : Int32 → xm_M → Option xm_M) (he : e < 120) (h : mW V M0 M e) (hE : mE V e (M.1 0 18, M.1 0 19, M.1 0 20, M.1 0 21, M.1 0 22) M M') :
    ∃ M2, fX4_findAll_157 k53 (nI e) M' = k53 (nI (e + 1)) M2 ∧ mW V M0 M2 (e + 1) := by
  obtain ⟨h1, h2, h3⟩ := h
  rw [h2] at hE
  obtain ⟨g1, g2, g3, g4⟩ := hE
  unfold fX4_findAll_157
  simp only [px_ifE he, px_ifC he, pb_lt, nI_clamp (show e < 2 ^ 31 by omega), show nI e + Int32.ofInt 1 = nI (e + 1) from (nI_succ e).symm, pm_s, Nat.reduceEqDiff, false_and, if_false]
  refine ⟨_, rfl, ?_, ?_, ?_⟩
  · intro k j hk
    simp only [pm_s]
    simp only [show ¬ k = 6 by omega, show ¬ k = 7 by omega, show ¬ k = 8 by omega, show ¬ k = 9 by omega, show ¬ k = 10 by omega, false_and, if_false]
    rw [g1 k j (by omega), h1 k j hk]
  · simp only [pm_s, Nat.reduceEqDiff, false_and, if_false]
    exact g3
  · intro j hj
    by_cases hje : j = e
    · subst hje
      refine ⟨?_, ?_⟩
      · obtain ⟨q1, q2, q3, q4, q5⟩ := g4
        refine ⟨?_, ?_, ?_, ?_, ?_⟩ <;> simp only [pm_s, Nat.reduceEqDiff, false_and, if_false]
        · exact q1
        · exact q2
        · exact q3
        · exact q4
        · exact q5
      · simp only [pm_s, Nat.reduceEqDiff, false_and, if_false, and_self, if_true]
        exact g3
    · have hk : ∀ k, 5 ≤ k → k ≤ 17 → (xm_s (xm_s (xm_s (xm_s (xm_s M' 6 e (M'.1 0 18)) 7 e (M'.1 0 19)) 8 e (M'.1 0 20)) 9 e (M'.1 0 21)) 10 e (M'.1 0 22)).1 k j = M.1 k j := by
        intro k k1 k2
        simp only [pm_s]
        simp only [hje, and_false, if_false]
        exact g2 k j k1 k2 hje
      obtain ⟨z1, z2⟩ := h3 j (by omega)
      refine ⟨mR_keep hk z1, ?_⟩
      rw [hk 6 (by omega) (by omega), hk 7 (by omega) (by omega), hk 8 (by omega) (by omega), hk 9 (by omega) (by omega), hk 10 (by omega) (by omega)]
      exact z2
theorem pm_sight {V : sV} {e nm : Nat} {M : xm_M} (hA : mA V (M.1 1)) (he : e < 120) (hen : (e : Int) < (V 1 2).toInt) (hs : 0 ≤ V 9 e) (hm : V 9 e = nI nm) (hm6 : nm < 6) (hmi : (nm : Int) < (V 1 1).toInt) (h14 : M.1 14 e = -6) :
    ∃ M', fX4_findSight (nI e) M = some M' ∧ mE V e (M.1 0 18, M.1 0 19, M.1 0 20, M.1 0 21, M.1 0 22) M M' := by
  have hent : M.1 1 (67 + 4 * e) = 1 ∧ M.1 1 (67 + 4 * e + 1) = V 9 e := by
    rcases hA.2.2.2.2 e hen with z | z
    · exact z.2
    · exact absurd hs z.1
  have hmk := hA.2.2.2.1 nm hmi
  unfold fX4_findSight
  rw [pm_of1 he, pb_i, hent.2, hm, show (2 : Int32) = nI 2 from rfl, show (55 : Int32) = nI 55 from rfl, show (1 : Int32) = nI 1 from rfl, pi_mul, pi_add, pi_add, if_neg (px_kn (by omega) (by omega)), pb_lt, if_neg (px_kn (by omega) (by omega)), pb_lt, nI_clamp (by omega), nI_clamp (by omega), nI_clamp (by omega), hmk.1, hmk.2]
  simp only [px_ifE he, px_ifC he, pb_lt, nI_clamp (show e < 2 ^ 31 by omega), pm_s, Nat.reduceEqDiff, false_and, if_false]
  refine ⟨_, rfl, ?_⟩
  have h3 : sp_step V e (M.1 0 18, M.1 0 19, M.1 0 20, M.1 0 21, M.1 0 22) = ((1000 * V 7 nm, 1000 * V 8 nm, M.1 0 20, M.1 0 21, M.1 0 22), sp_row 4 (nI nm) sp_NG sp_NG sp_NG sp_NG sp_NG sp_NG sp_NG (M.1 0 18 - 1000 * V 7 nm) (M.1 0 19 - 1000 * V 8 nm)) := by
    unfold sp_step
    rw [if_pos hs]
    unfold sp_mx sp_my
    rw [hm, nI_clamp (by omega)]
  unfold mE
  rw [h3]
  refine ⟨?_, ?_, ?_, ?_⟩
  · intro k j hk
    simp only [pm_s]
    simp only [show ¬ k = 5 by omega, show ¬ k = 16 by omega, show ¬ k = 17 by omega, false_and, if_false]
    rw [if_neg (by omega), if_neg (by omega)]
  · intro k j hk1 hk2 hj
    simp only [pm_s]
    simp only [show ¬ k = 0 by omega, hj, and_false, false_and, if_false]
  · simp [pm_s]
  · refine ⟨?_, ?_, ?_, ?_, ?_⟩
    · simp [pm_s, sp_row]
    · simp [pm_s, sp_row]
    · simp [sp_row]
    · intro z; exact absurd z (by simp only [sp_row]; decide)
    · intro z; simp [pm_s]; exact h14
theorem pm_go {V : sV} {e nc : Nat} {M : xm_M} (hok : sp_ok V) (hA : mA V (M.1 1)) (he : e < 120) (hen : (e : Int) < (V 1 2).toInt) (hs : ¬ 0 ≤ V 9 e) (h0 : ¬ (V 10 e = 0 ∧ V 11 e = 0)) (hb : -4800000 ≤ (M.1 0 22).toInt ∧ (M.1 0 22).toInt ≤ 4800000) (h14 : M.1 14 e = -6) (hnc : V 1 0 = nI nc) (hn8 : nc ≤ 8) :
    ∃ Ma M', fX4_findStep (nI e) M = some Ma ∧ fX4_findPull (nI e) Ma = some M' ∧ mE V e (M.1 0 18, M.1 0 19, M.1 0 20, M.1 0 21, M.1 0 22) M M' := by
  obtain ⟨Ma, e1, hG⟩ := pm_step hok hA he hen hs hb rfl rfl rfl rfl rfl
  generalize hp : (M.1 0 18, M.1 0 19, M.1 0 20, M.1 0 21, M.1 0 22) = p at hG ⊢
  obtain ⟨g1, g2, ⟨gx, gy, gh, gl, gb⟩, g5, g11, g12, g13⟩ := hG
  have hAa : mA V (Ma.1 1) := by
    have : Ma.1 1 = M.1 1 := by funext j; exact g1 1 j (by omega)
    rw [this]; exact hA
  have hc := pm_corr hAa he hnc hn8 gh gx gy xm_N 0 (Nat.zero_le _) (by show nc - 0 < 4096; omega)
  rw [Nat.sub_zero, show nI 0 = 0 from rfl] at hc
  refine ⟨Ma, _, e1, by unfold fX4_findPull; rw [pb_lt]; exact hc, ?_⟩
  have hw0 : sp_who V (sp_X V e p) (sp_Y V e p) (sp_H V e p) = sp_fst (sp_pulls V (sp_X V e p) (sp_Y V e p) (sp_H V e p)) nc 0 := by
    unfold sp_who
    rw [hnc, nI_clamp (by omega)]
  have hk : sp_K V e p.2.2.2.2 = 1 ∨ sp_K V e p.2.2.2.2 = 2 ∨ sp_K V e p.2.2.2.2 = 3 := sp_kind_in _ _ _
  have hk4 : ¬ sp_K V e p.2.2.2.2 = 4 := by
    rcases hk with h | h | h <;> rw [h] <;> decide
  have hNG : ¬ (0 : Int32) ≤ sp_NG := by decide
  cases hw : sp_fst (sp_pulls V (sp_X V e p) (sp_Y V e p) (sp_H V e p)) nc 0 with
  | none =>
    have hst : sp_step V e p = ((sp_X V e p, sp_Y V e p, sp_H V e p, sp_L V e p, p.2.2.2.2), sp_row (sp_K V e p.2.2.2.2) (V 10 e) (V 11 e) (V 12 e) (sp_stepW V e).toInt32 (sp_T V e p.2.2.2.2) (sp_Dd V e p.2.2.2.2) sp_NG sp_NG sp_NG sp_NG) := by
      unfold sp_step
      rw [if_neg hs, if_neg h0, hw0, hw]
    unfold mE
    rw [hst]
    refine ⟨fun k j hk => g1 k j (by omega), g2, ?_, ?_, ?_, ?_, ?_, ?_⟩
    · show (Ma.1 0 18, Ma.1 0 19, Ma.1 0 20, Ma.1 0 21, Ma.1 0 22) = _
      rw [gx, gy, gh, gl, gb]
    · exact g5
    · intro z; exact absurd z hk4
    · intro _ _; exact ⟨g11, g12, g13⟩
    · intro z; exact absurd z hNG
    · intro _; exact (g1 14 e (by omega)).trans h14
  | some c =>
    have hst : sp_step V e p = ((sp_X V e p, sp_Y V e p, sp_head ((sp_H V e p).toInt64 - (sp_pl V (sp_H V e p) c).toInt64), sp_L V e p, p.2.2.2.2), sp_row (sp_K V e p.2.2.2.2) (V 10 e) (V 11 e) (V 12 e) (sp_stepW V e).toInt32 (sp_T V e p.2.2.2.2) (sp_Dd V e p.2.2.2.2) (nI c) (sp_pl V (sp_H V e p) c) sp_NG sp_NG) := by
      unfold sp_step
      rw [if_neg hs, if_neg h0, hw0, hw]
    have hc8 : c < 8 := by
      have := (sp_fst_in _ _ _ hw).2.1
      omega
    have h9 : (0 : Int32) ≤ nI c := Int32.le_iff_toInt_le.mpr (by rw [nI_toInt (by omega)]; exact Int.natCast_nonneg c)
    unfold mE
    rw [hst]
    unfold pm_pulled
    refine ⟨?_, ?_, ?_, ?_, ?_, ?_, ?_, ?_⟩
    · intro k j hk
      simp only [pm_s]
      simp only [show ¬ k = 14 by omega, show ¬ k = 15 by omega, false_and, if_false]
      rw [if_neg (by omega)]
      exact g1 k j (by omega)
    · intro k j hk1 hk2 hj
      simp only [pm_s]
      simp only [show ¬ k = 0 by omega, hj, and_false, false_and, if_false]
      exact g2 k j hk1 hk2 hj
    · simp [pm_s, gx, gy, gl, gb]
    · simp [pm_s, sp_row]; exact g5
    · intro z; exact absurd z hk4
    · intro _ _; simp [pm_s, sp_row]; exact ⟨g11, g12, g13⟩
    · intro _; simp [pm_s, sp_row]
    · intro z; exact absurd h9 z
theorem pm_F53 {V : sV} {N nc : Nat} {M0 : xm_M} (hok : sp_ok V) (hA : mA V (M0.1 1)) (hN : V 1 2 = nI N) (hN2 : N ≤ 120) (hnc : V 1 0 = nI nc) (hn8 : nc ≤ 8) : ∀ (q e : Nat) (M : xm_M), e ≤ N → N - e < q → mW V M0 M e → ∃ M', fX4_findAll_53_it q (nI e) M = some M' ∧ mW V M0 M' N := by
  intro q
  induction q with
  | zero => intro e M _ h; omega
  | succ q ih =>
    intro e M he hq hW
    show ∃ M', fX4_findAll_53 (fX4_findAll_53_it q) (nI e) M = some M' ∧ _
    unfold fX4_findAll_53
    have hrow : M.1 1 = M0.1 1 := by funext j; exact hW.1 1 j (by omega)
    have e11 : M.1 1 11 = nI N := by rw [hrow, ← hN]; exact hA.2.1 2 (by omega)
    by_cases hlt : e < N
    · have he2 : e < 120 := by omega
      have hen : (e : Int) < (V 1 2).toInt := by rw [hN, nI_toInt (by omega)]; omega
      rw [if_neg (by rw [e11, nI_leI (by omega) (by omega)]; omega), if_neg (px_kn he2 (by omega)), pb_lt, nI_clamp (by omega)]
      have h14 : (xm_s M 14 e (-6)).1 14 e = -6 := by rw [pm_s, if_pos ⟨rfl, rfl⟩]
      have hrow7 : (xm_s M 14 e (-6)).1 1 = M.1 1 := pm_row (by omega)
      have hz : ∀ j, (xm_s M 14 e (-6)).1 0 j = M.1 0 j := fun j => by rw [pm_row (by omega)]
      have hoth : ∀ k j, ¬ (k = 14 ∧ j = e) → (xm_s M 14 e (-6)).1 k j = M.1 k j := fun k j h => by rw [pm_s, if_neg h]
      have hW7 : mW V M0 (xm_s M 14 e (-6)) e := by
        obtain ⟨w1, w2, w3⟩ := hW
        refine ⟨?_, ?_, ?_⟩
        · intro k j hk
          rw [hoth k j (by omega)]; exact w1 k j hk
        · rw [hz, hz, hz, hz, hz]; exact w2
        · intro j hj
          obtain ⟨z1, z2⟩ := w3 j hj
          refine ⟨mR_keep (fun k _ _ => hoth k j (by omega)) z1, ?_⟩
          rw [hoth _ _ (by omega), hoth _ _ (by omega), hoth _ _ (by omega), hoth _ _ (by omega), hoth _ _ (by omega)]
          exact z2
      have hA7 : mA V ((xm_s M 14 e (-6)).1 1) := by rw [hrow7, hrow]; exact hA
      have hbias : -4800000 ≤ ((xm_s M 14 e (-6)).1 0 22).toInt ∧ ((xm_s M 14 e (-6)).1 0 22).toInt ≤ 4800000 := by
        have h1 := (sp_P_in hok e (by omega)).1
        have h2 := congrArg (fun p : sP => p.2.2.2.2) hW7.2.1
        rw [← h2] at h1
        exact h1
      generalize xm_s M 14 e (-6) = M7 at h14 hrow7 hW7 hA7 hbias ⊢
      have hnext : ∀ M', mE V e (M7.1 0 18, M7.1 0 19, M7.1 0 20, M7.1 0 21, M7.1 0 22) M7 M' → ∃ M2, fX4_findAll_157 (fX4_findAll_53_it q) (nI e) M' = some M2 ∧ mW V M0 M2 N := by
        intro M' hE
        obtain ⟨M2, q1, q2⟩ := pm_157 (fX4_findAll_53_it q) he2 hW7 hE
        rw [q1]
        exact ih (e + 1) M2 (by omega) (by omega) q2
      rw [pm_of0 he2, pb_i]
      have hent := hA7.2.2.2.2 e hen
      have hlog := hok.2.2.2.2.2.2.2.2.2.2.2.2.2.2.2.2.2 e hen
      by_cases hs : 0 ≤ V 9 e
      · have h1 : M7.1 1 (67 + 4 * e) = 1 := by
          rcases hent with z | z
          · exact z.2.1
          · exact absurd hs z.1
        rw [h1, if_pos rfl]
        have hr : 0 ≤ (V 9 e).toInt ∧ (V 9 e).toInt < (V 1 1).toInt := by
          rcases hlog with h | h
          · rw [h.1] at hs
            exact absurd hs (by decide)
          · exact h
        have hm6 := hok.2.2.2.2.2.2.2.2.2.2.1.2
        obtain ⟨nm, n1, n2, n3, n4⟩ := pn_ofI (n := 5) hr.1 (by omega)
        obtain ⟨M', q1, q2⟩ := pm_sight hA7 he2 hen hs n2 (by omega) (by omega) h14
        rw [q1, pb_v]
        exact hnext M' q2
      · obtain ⟨d0, d1, d2, d3⟩ : M7.1 1 (67 + 4 * e) = 0 ∧ M7.1 1 (67 + 4 * e + 1) = V 10 e ∧ M7.1 1 (67 + 4 * e + 2) = V 11 e ∧ M7.1 1 (67 + 4 * e + 3) = V 12 e := by
          rcases hent with z | z
          · exact absurd z.1 hs
          · exact z.2
        rw [d0, if_neg (by decide), pm_of1 he2, pb_i, d1, pm_of2 he2]
        have hgo : ¬ (V 10 e = 0 ∧ V 11 e = 0) → ∃ M2, fX4_findAll_147 (fX4_findAll_53_it q) (nI e) M7 = some M2 ∧ mW V M0 M2 N := by
          intro h0
          obtain ⟨Ma, M', q1, q2, q3⟩ := pm_go hok hA7 he2 hen hs h0 hbias h14 hnc hn8
          unfold fX4_findAll_147
          rw [q1, pb_v, q2, pb_v]
          exact hnext M' q3
        by_cases ha : V 10 e = 0
        · rw [if_pos ha, pb_i, d2]
          by_cases hb : V 11 e = 0
          · rw [if_pos hb, px_ifC he2, pb_lt, pm_of3 he2, pb_i, pm_set5, pb_i]
            have h5 : M7.1 1 5 = V 0 5 := hA7.1 5 (by omega)
            have r5 := hok.2.2.2.2.2.1
            have hV5 : ¬ V 0 5 = 0 := fun z => by rw [z] at r5; exact absurd r5.1 (by decide)
            simp only [pm_s, Nat.reduceEqDiff, false_and, if_false, d3, h5, if_neg hV5, pb_lt]
            have hl2 : -300000 ≤ (V 12 e).toInt ∧ (V 12 e).toInt ≤ 300000 := by
              rcases hlog with z | z
              · exact z.2.2.2
              · exact absurd ((pn_nn _).mpr z.1) hs
            have hbs := (sp_bias_in (V := V) (e := e) r5 hl2 hbias).1
            refine hnext _ ?_
            have hst : sp_step V e (M7.1 0 18, M7.1 0 19, M7.1 0 20, M7.1 0 21, M7.1 0 22) = ((M7.1 0 18, M7.1 0 19, M7.1 0 20, M7.1 0 21, sp_bias V e (M7.1 0 22)), sp_row 0 (V 10 e) (V 11 e) (V 12 e) sp_NG sp_NG sp_NG sp_NG sp_NG sp_NG sp_NG) := by
              unfold sp_step
              rw [if_neg hs, if_pos ⟨ha, hb⟩, ha, hb]
            unfold mE
            rw [hst, hbs]
            refine ⟨?_, ?_, ?_, ?_, ?_, ?_, ?_, ?_⟩
            · intro k j hk
              simp only [pm_s]
              simp only [show ¬ k = 5 by omega, false_and, if_false]
              rw [if_neg (by omega)]
            · intro k j hk1 hk2 hj
              simp only [pm_s]
              simp only [show ¬ k = 0 by omega, hj, and_false, false_and, if_false]
            · simp [pm_s]
            · simp [pm_s, sp_row]
            · intro z; exact absurd z (by simp only [sp_row]; decide)
            · intro _ z; exact absurd rfl z
            · intro z; exact absurd z (by simp only [sp_row]; decide)
            · intro _; simp [pm_s]; exact h14
          · rw [if_neg hb]
            exact hgo (fun z => hb z.2)
        · rw [if_neg ha]
          exact hgo (fun z => ha z.1)
    · rw [if_pos (by rw [e11, nI_leI (by omega) (by omega)]; omega)]
      have : e = N := by omega
      subst this
      exact ⟨M, rfl, hW⟩
theorem pm_all {V : sV} {N : Nat} {M : xm_M} (hok : sp_ok V) (hA : mA V (M.1 1)) (hN : V 1 2 = nI N) (hN2 : N ≤ 120) : ∃ M', fX4_findAll M = some M' ∧ mW V M M' N := by
  obtain ⟨nc, hn8, hnc, _, _⟩ := pn_ofI (n := 8) hok.2.2.2.2.2.2.2.2.2.1.1 hok.2.2.2.2.2.2.2.2.2.1.2
  unfold fX4_findAll
  simp only [pb_lt, pm_s, Nat.reduceEqDiff, false_and, if_false]
  refine pm_F53 hok hA hN hN2 hnc hn8 xm_N 0 _ (Nat.zero_le _) (by show N - 0 < 4096; omega) ?_
  refine ⟨?_, ?_, ?_⟩
  · intro k j hk
    simp only [pm_s]
    rw [if_neg (by omega), if_neg (by omega), if_neg (by omega), if_neg (by omega), if_neg (by omega)]
  · simp [pm_s]
    have a3 := hA.2.1 3 (by omega)
    have a4 := hA.2.1 4 (by omega)
    have a5 := hA.2.1 5 (by omega)
    rw [show M.1 1 12 = V 1 3 from a3, show M.1 1 13 = V 1 4 from a4, show M.1 1 14 = V 1 5 from a5]
    rfl
  · intro j hj
    omega
