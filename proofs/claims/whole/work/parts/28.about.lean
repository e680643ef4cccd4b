/-! THE CALLS that ask: about -/
theorem xs_way {M N : xm_M} (h : xR M N) : ∃ (n : Nat) (M1 N1 : xm_M), n ≤ 120 ∧ cVs 1 M 1 2 = nI n ∧ fX2_follow 2 M = some M1 ∧ fX4_findAll N = some N1 ∧ cW (cVs 1 M) M M1 n ∧ mW (cVs 1 M) N N1 n ∧ cK M M1 ∧ mK N N1 := by
  obtain ⟨ho, ha⟩ := h.1
  have p2 := ho.2.2.2.2.2.2.2.2.2.2.2.1
  obtain ⟨n, hn, hn1, _, _⟩ := pn_ofI (n := 120) p2.1 p2.2
  obtain ⟨M1, a1, a2⟩ := px_follow (ps := 2) (M := M) (by omega) (cVs_1 M) ho hn1 hn
  obtain ⟨N1, b1, b2⟩ := pm_all ho ha hn1 hn
  refine ⟨n, M1, N1, hn, hn1, a1, b1, a2, b2, ?_, ?_⟩
  · intro k j hk
    exact a2.1 k j (by omega)
  · intro k j hk
    exact b2.1 k j hk
/-- the four forms of an entry's facts -/
def sp_form (V : sV) (e : Nat) (F : Nat → Int32) : Prop :=
  (0 ≤ V 9 e ∧ ∃ x y, F = sp_row 4 (V 9 e) sp_NG sp_NG sp_NG sp_NG sp_NG sp_NG sp_NG x y) ∨
  (¬ 0 ≤ V 9 e ∧ V 10 e = 0 ∧ V 11 e = 0 ∧ F = sp_row 0 0 0 (V 12 e) sp_NG sp_NG sp_NG sp_NG sp_NG sp_NG sp_NG) ∨
  (¬ 0 ≤ V 9 e ∧ ∃ k w t d, (k = 1 ∨ k = 2 ∨ k = 3) ∧ F = sp_row k (V 10 e) (V 11 e) (V 12 e) w t d sp_NG sp_NG sp_NG sp_NG) ∨
  (¬ 0 ≤ V 9 e ∧ ∃ k w t d c q, (k = 1 ∨ k = 2 ∨ k = 3) ∧ (0 : Int32) ≤ c ∧ F = sp_row k (V 10 e) (V 11 e) (V 12 e) w t d c q sp_NG sp_NG)
theorem sp_forms {V : sV} (hok : sp_ok V) (e : Nat) (p : sP) : sp_form V e (sp_step V e p).2 := by
  by_cases hs : 0 ≤ V 9 e
  · refine Or.inl ⟨hs, p.1 - sp_mx V e, p.2.1 - sp_my V e, ?_⟩
    unfold sp_step
    rw [if_pos hs]
  · refine Or.inr ?_
    by_cases h0 : V 10 e = 0 ∧ V 11 e = 0
    · refine Or.inl ⟨hs, h0.1, h0.2, ?_⟩
      unfold sp_step
      rw [if_neg hs, if_pos h0]
    · refine Or.inr ?_
      cases hw : sp_who V (sp_X V e p) (sp_Y V e p) (sp_H V e p) with
      | none =>
        refine Or.inl ⟨hs, sp_K V e p.2.2.2.2, (sp_stepW V e).toInt32, sp_T V e p.2.2.2.2, sp_Dd V e p.2.2.2.2, sp_kind_in _ _ _, ?_⟩
        unfold sp_step
        rw [if_neg hs, if_neg h0, hw]
      | some c =>
        refine Or.inr ⟨hs, sp_K V e p.2.2.2.2, (sp_stepW V e).toInt32, sp_T V e p.2.2.2.2, sp_Dd V e p.2.2.2.2, nI c, sp_pl V (sp_H V e p) c, sp_kind_in _ _ _, ?_, by unfold sp_step; rw [if_neg hs, if_neg h0, hw]⟩
        have h8 := hok.2.2.2.2.2.2.2.2.2.1
        have hc : c < 8 := by
          have := (sp_fst_in _ _ _ hw).2.1
          have h9 : (V 1 0).toNatClampNeg = (V 1 0).toInt.toNat := rfl
          omega
        exact (pn_nn _).mpr (by rw [nI_toInt (by omega)]; omega)
theorem px_n5 : nI 5 = 5 := rfl
theorem px_n6 : nI 6 = 6 := rfl
theorem px_n7 : nI 7 = 7 := rfl
theorem px_n8 : nI 8 = 8 := rfl
theorem px_n9 : nI 9 = 9 := rfl
theorem px_n10 : nI 10 = 10 := rfl
theorem pm_told {V : sV} {e : Nat} {F : Nat → Int32} {N : xm_M} (he : e < 120) (hen : (e : Int) < (V 1 2).toInt) (hA : mA V (N.1 1)) (hR : mR F e N) (hF : sp_form V e F) : ∀ w, w < 11 → (xm_bi (fX4_hasNumber (nI e) (nI w) N) (fun x5 M4 => if x5 = 0 then some ((-1000000006 : Int32), M4) else xm_bi (fX4_toldOf (nI e) (nI w) M4) (fun x7 M6 => some (x7, M6)))) = some (F w, N) := by
  obtain ⟨r1, r2, r3, r4, r5⟩ := hR
  have hent := hA.2.2.2.2 e hen
  unfold fX4_hasNumber fX4_hasNumber_73 fX4_toldOf fX4_toldOf_116
  rcases hF with ⟨hs, x, y, hF⟩ | ⟨hs, h10, h11, hF⟩ | ⟨hs, k, w, t, d, hk, hF⟩ | ⟨hs, k, w, t, d, c, q, hk, hc, hF⟩
  · have hen : N.1 1 (67 + 4 * e + 1) = V 9 e := by
      rcases hent with z | z
      · exact z.2.2
      · exact absurd hs z.1
    subst hF
    have q5 : N.1 5 e = 4 := r1
    have q16 := (r2 rfl).1
    have q17 := (r2 rfl).2
    simp only [sp_row] at q16 q17
    refine px_r11 ?_ ?_ ?_ ?_ ?_ ?_ ?_ ?_ ?_ ?_ ?_
    all_goals simp [px_ifE he, px_ifC he, nI_clamp (show e < 2 ^ 31 by omega), pb_lt, pb_i, q5, q16, q17, px_n0, px_n1, px_n2, px_n3, px_n4, px_n5, px_n6, px_n7, px_n8, px_n9, px_n10, pm_of1 he, hen, sp_row, sp_NG]
  · obtain ⟨d0, d1, d2, d3⟩ : N.1 1 (67 + 4 * e) = 0 ∧ N.1 1 (67 + 4 * e + 1) = V 10 e ∧ N.1 1 (67 + 4 * e + 2) = V 11 e ∧ N.1 1 (67 + 4 * e + 3) = V 12 e := by
      rcases hent with z | z
      · exact absurd z.1 hs
      · exact z.2
    subst hF
    have q5 : N.1 5 e = 0 := r1
    refine px_r11 ?_ ?_ ?_ ?_ ?_ ?_ ?_ ?_ ?_ ?_ ?_
    all_goals simp [px_ifE he, px_ifC he, nI_clamp (show e < 2 ^ 31 by omega), pb_lt, pb_i, q5, px_n0, px_n1, px_n2, px_n3, px_n4, px_n5, px_n6, px_n7, px_n8, px_n9, px_n10, pm_of1 he, pm_of2 he, pm_of3 he, d1, d2, d3, h10, h11, sp_row, sp_NG]
  · obtain ⟨d0, d1, d2, d3⟩ : N.1 1 (67 + 4 * e) = 0 ∧ N.1 1 (67 + 4 * e + 1) = V 10 e ∧ N.1 1 (67 + 4 * e + 2) = V 11 e ∧ N.1 1 (67 + 4 * e + 3) = V 12 e := by
      rcases hent with z | z
      · exact absurd z.1 hs
      · exact z.2
    subst hF
    have q5 : N.1 5 e = k := r1
    have k4 : ¬ k = 4 := by rcases hk with h | h | h <;> rw [h] <;> decide
    have k0 : ¬ k = 0 := by rcases hk with h | h | h <;> rw [h] <;> decide
    obtain ⟨g1, g2, g3⟩ := r3 k4 k0
    simp only [sp_row] at g1 g2 g3
    have g4 : N.1 14 e = -6 := r5 (by simp only [sp_row]; decide)
    refine px_r11 ?_ ?_ ?_ ?_ ?_ ?_ ?_ ?_ ?_ ?_ ?_
    all_goals simp [px_ifE he, px_ifC he, nI_clamp (show e < 2 ^ 31 by omega), pb_lt, pb_i, q5, k4, k0, g1, g2, g3, g4, px_n0, px_n1, px_n2, px_n3, px_n4, px_n5, px_n6, px_n7, px_n8, px_n9, px_n10, pm_of1 he, pm_of2 he, pm_of3 he, d1, d2, d3, sp_row, sp_NG]
  · obtain ⟨d0, d1, d2, d3⟩ : N.1 1 (67 + 4 * e) = 0 ∧ N.1 1 (67 + 4 * e + 1) = V 10 e ∧ N.1 1 (67 + 4 * e + 2) = V 11 e ∧ N.1 1 (67 + 4 * e + 3) = V 12 e := by
      rcases hent with z | z
      · exact absurd z.1 hs
      · exact z.2
    subst hF
    have q5 : N.1 5 e = k := r1
    have k4 : ¬ k = 4 := by rcases hk with h | h | h <;> rw [h] <;> decide
    have k0 : ¬ k = 0 := by rcases hk with h | h | h <;> rw [h] <;> decide
    obtain ⟨g1, g2, g3⟩ := r3 k4 k0
    obtain ⟨g4, g5⟩ := r4 hc
    simp only [sp_row] at g1 g2 g3 g4 g5
    have c0 : ¬ c < 0 := Int32.not_lt.mpr hc
    refine px_r11 ?_ ?_ ?_ ?_ ?_ ?_ ?_ ?_ ?_ ?_ ?_
    all_goals simp [px_ifE he, px_ifC he, nI_clamp (show e < 2 ^ 31 by omega), pb_lt, pb_i, q5, k4, k0, g1, g2, g3, g4, g5, c0, px_n0, px_n1, px_n2, px_n3, px_n4, px_n5, px_n6, px_n7, px_n8, px_n9, px_n10, pm_of1 he, pm_of2 he, pm_of3 he, d1, d2, d3, sp_row, sp_NG]
theorem px_facts {w e : Nat} {M : xm_M} (hw : w < 11) (he : e < 120) : fX3_item_ 56 11 57 120 (nI w) (nI e) M = some (M.1 (57 + w) e, M) := by
  rw [px_item_ (px_kn hw (by omega)) (by omega) (px_kn he (by omega)) (by omega), nI_clamp (by omega), nI_clamp (by omega)]
/-- an entry's number within, on both sides -/
theorem px_wn {a : Int32} {n : Nat} (hn : n < 1000) (lo : Int32) : (lo ≤ a ∧ a ≤ nI n - 1) ↔ (lo.toInt ≤ a.toInt ∧ a.toInt < n) := by
  have e : (nI n - 1).toInt = (n : Int) - 1 := by
    have e1 : (1 : Int32).toInt = 1 := rfl
    rw [pn_sub (by rw [nI_toInt (by omega), e1]; omega) (by rw [nI_toInt (by omega), e1]; omega), nI_toInt (by omega), e1]
  rw [Int32.le_iff_toInt_le, Int32.le_iff_toInt_le, e]
  omega
theorem px_ltn {a : Int32} {n : Nat} (hn : n < 1000) : (a < nI n) = (a.toInt < n) := propext (by rw [Int32.lt_iff_toInt_lt, nI_toInt (by omega)])
theorem px_lt0 (a : Int32) : (a < 0) = ¬ 0 ≤ a.toInt := by
  rw [← pn_nn a]
  exact propext ⟨fun z => Int32.not_le.mpr z, fun z => Int32.not_le.mp z⟩
theorem px_to (lo hi : Int32) (a : Int32) : (lo ≤ a ∧ a ≤ hi) ↔ (lo.toInt ≤ a.toInt ∧ a.toInt ≤ hi.toInt) := by
  rw [Int32.le_iff_toInt_le, Int32.le_iff_toInt_le]
theorem px_z0 : (0 : Int32).toInt = 0 := rfl
theorem xs_about (a w : Int32) (M N : xm_M) (h : xR M N) : ∃ (r : Int32) (M1 N1 : xm_M), fX3_about a w M = some (r, M1) ∧ fX4_about a w N = some (r, N1) ∧ xR M1 N1 := by
  obtain ⟨n, M1, N1, hn, hn1, f1, f2, hW, hm, hc, hk⟩ := xs_way h
  have e4 : M.1 1 6 = nI n := hn1
  have e9 : N.1 1 11 = nI n := by rw [← hn1]; exact h.1.2.2.1 2 (by omega)
  unfold fX3_about fX4_about
  simp only [px_in, pm_in, pb_i, e4, e9, f1, f2, pb_v, px_wn (show n < 1000 by omega) 0, px_ltn (show n < 1000 by omega), px_lt0, px_to 0 10, px_z0]
  by_cases h0 : 0 ≤ a.toInt
  case neg =>
    simp only [h0, false_and, if_false, not_false_eq_true, if_true]
    exact ⟨_, _, _, rfl, rfl, h⟩
  by_cases h1 : a.toInt < n
  case neg =>
    simp only [h0, h1, and_false, if_false, not_true_eq_false, if_true]
    exact ⟨_, _, _, rfl, rfl, h⟩
  simp only [h0, h1, not_true_eq_false, if_false, if_true, show ¬ (1 : Int32) = 0 by decide, and_self]
  by_cases h2 : 0 ≤ w.toInt ∧ w.toInt ≤ (10 : Int32).toInt
  case neg =>
    simp only [if_neg h2, if_true]
    exact ⟨_, _, _, rfl, rfl, h⟩
  have h2' : 0 ≤ w.toInt ∧ w.toInt ≤ 10 := h2
  simp only [if_pos h2, show ¬ (1 : Int32) = 0 by decide, if_false]
  obtain ⟨e, he, rfl, he2, _⟩ := pn_ofI (n := 119) h0 (by omega)
  obtain ⟨q, hq, rfl, _, _⟩ := pn_ofI (n := 10) h2'.1 (by omega)
  have hA1 : mA (cVs 1 M) (N1.1 1) := by
    have : N1.1 1 = N.1 1 := by funext j; exact hk 1 j (by omega)
    rw [this]; exact h.1.2
  have ht := pm_told (V := cVs 1 M) (e := e) (F := sp_F (cVs 1 M) e) (N := N1) (by omega) (by rw [hn1, nI_toInt (by omega)]; omega) hA1 (hm.2.2 e (by omega)).1 (sp_forms h.1.1 e _) q (by omega)
  rw [ht, px_facts (by omega) (by omega), pb_i, hW.2.1 q e (by omega) (by omega), if_pos (by omega)]
  exact ⟨_, _, _, rfl, rfl, xR_keep h hc hk⟩
