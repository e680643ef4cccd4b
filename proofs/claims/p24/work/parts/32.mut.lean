/-! THE CLASS ALONE: the calls that change a desk -/
/-- beyond the state nothing changes -/
def cO (M M' : xm_M) : Prop := ∀ k j, 17 ≤ k → M'.1 k j = M.1 k j
theorem cO_refl (M : xm_M) : cO M M := fun _ _ _ => rfl
theorem cO_trans {M M1 M2 : xm_M} (h1 : cO M M1) (h2 : cO M1 M2) : cO M M2 := fun k j h => (h2 k j h).trans (h1 k j h)
theorem sp_ok_try {V : sV} {j : Nat} {v : Int32} (h : sp_ok V) (h1 : sp_lo j ≤ v.toInt) (h2 : v.toInt ≤ sp_hi j) : sp_ok (sp_try V j v) := by
  obtain ⟨o1, o2⟩ := (sp_ok_iff V).mp h
  refine (sp_ok_iff _).mpr ⟨?_, ?_⟩
  · intro i hi
    show sp_lo i ≤ (if (0 : Nat) = 0 then (if i = j then v else V 0 i) else V 0 i).toInt ∧ (if (0 : Nat) = 0 then (if i = j then v else V 0 i) else V 0 i).toInt ≤ sp_hi i
    rw [if_pos rfl]
    by_cases z : i = j
    · subst z; rw [if_pos rfl]; exact ⟨h1, h2⟩
    · rw [if_neg z]; exact o1 i hi
  · have e : ∀ r, 1 ≤ r → sp_try V j v r = V r := fun r hr => funext fun i => if_neg (by omega)
    unfold sp_okM
    rw [e 1 (by omega), e 9 (by omega), e 10 (by omega), e 11 (by omega), e 12 (by omega), e 6 (by omega)]
    obtain ⟨p0, p1, p2, p3, p4, p5, p6, p7, p8⟩ := o2
    refine ⟨p0, p1, p2, p3, p4, p5, ?_, ?_, p8⟩
    · intro c hc
      refine ⟨?_, (p6 c hc).2⟩
      intro r hr hr2
      rw [e r (by omega)]
      exact (p6 c hc).1 r hr hr2
    · intro c hc r hr hr2
      rw [e r (by omega)]
      exact p7 c hc r hr hr2
theorem sp_try_r {V : sV} {j : Nat} {v : Int32} {r : Nat} (hr : 1 ≤ r) : sp_try V j v r = V r := funext fun i => if_neg (by omega)
theorem sp_try_0 {V : sV} {j i : Nat} {v : Int32} : sp_try V j v 0 i = if i = j then v else V 0 i := if_pos rfl
theorem sp_try_back {V : sV} {j : Nat} {v : Int32} : sp_try (sp_try V j v) j (V 0 j) = V := by
  funext r i
  by_cases hr : r = 0
  · subst hr
    rw [sp_try_0, sp_try_0]
    by_cases h : i = j
    · rw [if_pos h, h]
    · rw [if_neg h, if_neg h]
  · rw [sp_try_r (by omega), sp_try_r (by omega)]
theorem cm_setF {a v : Int32} {M : xm_M} (hk : sp_tk a v = 0) : fX3_set a v M = some (-2, M) := by
  unfold fX3_set
  rw [px_isSet, pb_i, if_pos hk]
theorem sp_tk_ok {j : Nat} {v : Int32} (hj : j < 9) (h1 : sp_lo j ≤ v.toInt) (h2 : v.toInt ≤ sp_hi j) : sp_tk (nI j) v = 1 := by
  have c0 : ((100 : Int32).toInt = 100) := rfl
  have c1 : ((2000 : Int32).toInt = 2000) := rfl
  have c2 : ((1000 : Int32).toInt = 1000) := rfl
  have c3 : ((0 : Int32).toInt = 0) := rfl
  have c4 : ((200000 : Int32).toInt = 200000) := rfl
  have c5 : ((1 : Int32).toInt = 1) := rfl
  have c6 : ((64 : Int32).toInt = 64) := rfl
  have c7 : ((900000 : Int32).toInt = 900000) := rfl
  unfold sp_tk
  simp only [Int32.le_iff_toInt_le, c0, c1, c2, c3, c4, c5, c6, c7]
  match j, hj with
  | 0, _ => have h1 : 100 ≤ v.toInt := h1; have h2 : v.toInt ≤ 2000 := h2; rw [if_pos (show nI 0 = 0 ∨ nI 0 = 1 by decide), if_pos ⟨h1, h2⟩]
  | 1, _ => have h1 : 100 ≤ v.toInt := h1; have h2 : v.toInt ≤ 2000 := h2; rw [if_pos (show nI 1 = 0 ∨ nI 1 = 1 by decide), if_pos ⟨h1, h2⟩]
  | 2, _ => have h1 : 100 ≤ v.toInt := h1; have h2 : v.toInt ≤ 1000 := h2; rw [if_neg (by decide), if_pos (show nI 2 = 2 by decide), if_pos ⟨h1, h2⟩]
  | 3, _ => have h1 : 0 ≤ v.toInt := h1; have h2 : v.toInt ≤ 200000 := h2; rw [if_neg (by decide), if_neg (by decide), if_pos (show nI 3 = 3 by decide), if_pos ⟨h1, h2⟩]
  | 4, _ => have h1 : 0 ≤ v.toInt := h1; have h2 : v.toInt ≤ 100 := h2; rw [if_neg (by decide), if_neg (by decide), if_neg (by decide), if_pos (show nI 4 = 4 ∨ nI 4 = 6 by decide), if_pos ⟨h1, h2⟩]
  | 5, _ => have h1 : 1 ≤ v.toInt := h1; have h2 : v.toInt ≤ 64 := h2; rw [if_neg (by decide), if_neg (by decide), if_neg (by decide), if_neg (by decide), if_pos (show nI 5 = 5 by decide), if_pos ⟨h1, h2⟩]
  | 6, _ => have h1 : 0 ≤ v.toInt := h1; have h2 : v.toInt ≤ 100 := h2; rw [if_neg (by decide), if_neg (by decide), if_neg (by decide), if_pos (show nI 6 = 4 ∨ nI 6 = 6 by decide), if_pos ⟨h1, h2⟩]
  | 7, _ => have h1 : 0 ≤ v.toInt := h1; have h2 : v.toInt ≤ 2000 := h2; rw [if_neg (by decide), if_neg (by decide), if_neg (by decide), if_neg (by decide), if_neg (by decide), if_pos (show nI 7 = 7 by decide), if_pos ⟨h1, h2⟩]
  | 8, _ => have h1 : 0 ≤ v.toInt := h1; have h2 : v.toInt ≤ 900000 := h2; rw [if_neg (by decide), if_neg (by decide), if_neg (by decide), if_neg (by decide), if_neg (by decide), if_neg (by decide), if_pos (show nI 8 = 8 by decide), if_pos ⟨h1, h2⟩]
theorem cm_setOk {j : Nat} {v : Int32} {M : xm_M} (hj : j < 9) (h1 : sp_lo j ≤ v.toInt) (h2 : v.toInt ≤ sp_hi j) : ∃ M1, fX3_set (nI j) v M = some (cVs 1 M 0 j, M1) ∧ cVs 1 M1 = sp_try (cVs 1 M) j v ∧ cO M M1 := by
  unfold fX3_set
  rw [px_isSet, sp_tk_ok hj h1 h2, pb_i, if_neg (by decide), px_item (px_kn hj (by omega)) (by omega), pb_i, px_keep (px_kn hj (by omega)) (by omega), pb_v, nI_clamp (by omega)]
  refine ⟨_, rfl, ?_, ?_⟩
  · funext r i
    by_cases hr : r = 0
    · subst hr
      rw [sp_try_0]
      show (xm_s M 2 j v).1 2 i = _
      rw [pm_s]
      by_cases z : i = j
      · rw [if_pos ⟨rfl, z⟩, if_pos z]
      · rw [if_neg (fun y => z y.2), if_neg z]
        rfl
    · rw [sp_try_r (by omega)]
      unfold cVs
      repeat' split
      all_goals first | rfl | omega | (rw [pm_s, if_neg (by omega)])
  · intro k i hk
    rw [pm_s, if_neg (by omega)]
theorem cm_set (a v : Int32) {M : xm_M} (ho : sp_ok (cVs 1 M)) : ∃ r M1, fX3_set a v M = some (r, M1) ∧ sp_ok (cVs 1 M1) ∧ (∀ r, 1 ≤ r → cVs 1 M1 r = cVs 1 M r) ∧ cO M M1 := by
  by_cases hk : sp_tk a v = 0
  · exact ⟨_, M, cm_setF hk, ho, fun _ _ => rfl, cO_refl M⟩
  · obtain ⟨j, hj, rfl, h1, h2⟩ := sp_tk_of hk
    obtain ⟨M1, e1, e2, e3⟩ := cm_setOk (M := M) hj h1 h2
    exact ⟨_, M1, e1, by rw [e2]; exact sp_ok_try ho h1 h2, fun r hr => by rw [e2, sp_try_r hr], e3⟩
/-- another view within the ranges -/
theorem sp_ok_of {V V' : sV} (h : sp_ok V) (h0 : ∀ i, i < 9 → V' 0 i = V 0 i) (p0 : 0 ≤ (V' 1 0).toInt ∧ (V' 1 0).toInt ≤ 8) (p1 : 0 ≤ (V' 1 1).toInt ∧ (V' 1 1).toInt ≤ 6) (p2 : 0 ≤ (V' 1 2).toInt ∧ (V' 1 2).toInt ≤ 120) (p3 : -100000 ≤ (V' 1 3).toInt ∧ (V' 1 3).toInt ≤ 100000) (p4 : -100000 ≤ (V' 1 4).toInt ∧ (V' 1 4).toInt ≤ 100000) (p5 : 0 ≤ (V' 1 5).toInt ∧ (V' 1 5).toInt < 3600000)
    (p6 : ∀ c : Nat, (c : Int) < (V' 1 0).toInt → ((c : Int) < (V 1 0).toInt ∧ ∀ r, 2 ≤ r → r < 7 → V' r c = V r c) ∨ ((∀ r, 2 ≤ r → r < 6 → -100000 ≤ (V' r c).toInt ∧ (V' r c).toInt ≤ 100000) ∧ 0 ≤ (V' 6 c).toInt ∧ (V' 6 c).toInt < 18000))
    (p7 : ∀ j : Nat, (j : Int) < (V' 1 1).toInt → ((j : Int) < (V 1 1).toInt ∧ ∀ r, 7 ≤ r → r < 9 → V' r j = V r j) ∨ (∀ r, 7 ≤ r → r < 9 → -100000 ≤ (V' r j).toInt ∧ (V' r j).toInt ≤ 100000))
    (p8 : ∀ e : Nat, (e : Int) < (V' 1 2).toInt → ((e : Int) < (V 1 2).toInt ∧ (V 1 1).toInt ≤ (V' 1 1).toInt ∧ ∀ r, 9 ≤ r → r < 13 → V' r e = V r e) ∨ ((V' 9 e = -6 ∧ (-300 ≤ (V' 10 e).toInt ∧ (V' 10 e).toInt ≤ 300) ∧ (-300 ≤ (V' 11 e).toInt ∧ (V' 11 e).toInt ≤ 300) ∧ -300000 ≤ (V' 12 e).toInt ∧ (V' 12 e).toInt ≤ 300000) ∨ (0 ≤ (V' 9 e).toInt ∧ (V' 9 e).toInt < (V' 1 1).toInt))) : sp_ok V' := by
  obtain ⟨o1, o2⟩ := (sp_ok_iff V).mp h
  obtain ⟨q0, q1, q2, q3, q4, q5, q6, q7, q8⟩ := o2
  refine (sp_ok_iff _).mpr ⟨fun j hj => by rw [h0 j hj]; exact o1 j hj, p0, p1, p2, p3, p4, p5, ?_, ?_, ?_⟩
  · intro c hc
    rcases p6 c hc with ⟨a1, a2⟩ | a
    · refine ⟨fun r h1 h2 => ?_, ?_⟩
      · rw [a2 r h1 (by omega)]; exact (q6 c a1).1 r h1 h2
      · rw [a2 6 (by omega) (by omega)]; exact (q6 c a1).2
    · exact a
  · intro c hc
    rcases p7 c hc with ⟨a1, a2⟩ | a
    · intro r h1 h2
      rw [a2 r h1 h2]; exact q7 c a1 r h1 h2
    · exact a
  · intro c hc
    rcases p8 c hc with ⟨a1, a3, a2⟩ | a
    · rw [a2 9 (by omega) (by omega), a2 10 (by omega) (by omega), a2 11 (by omega) (by omega), a2 12 (by omega) (by omega)]
      rcases q8 c a1 with z | z
      · exact Or.inl z
      · exact Or.inr ⟨z.1, by omega⟩
    · exact a
theorem sp_okM_of {V : sV} (h : sp_ok V) : sp_okM V := ((sp_ok_iff V).mp h).2
theorem cm_beginF {x y t : Int32} {M : xm_M} (h : ¬ ((-100000 ≤ x.toInt ∧ x.toInt ≤ 100000) ∧ (-100000 ≤ y.toInt ∧ y.toInt ≤ 100000) ∧ 0 ≤ t.toInt ∧ t.toInt ≤ 3599999)) : fX3_begin x y t M = some (-2, M) := by
  have c1 : (-100000 : Int32).toInt = -100000 := rfl
  have c2 : (100000 : Int32).toInt = 100000 := rfl
  have c3 : (3599999 : Int32).toInt = 3599999 := rfl
  unfold fX3_begin
  simp only [fX3_isPlace, px_in, pb_i, px_to, px_z0, c1, c2, c3]
  by_cases h1 : -100000 ≤ x.toInt ∧ x.toInt ≤ 100000
  · by_cases h2 : -100000 ≤ y.toInt ∧ y.toInt ≤ 100000
    · have h3 : ¬ (0 ≤ t.toInt ∧ t.toInt ≤ 3599999) := fun z => h ⟨h1, h2, z⟩
      simp only [if_pos h1, if_pos h2, if_neg h3, pb_i, show ¬ (1 : Int32) = 0 by decide, if_false, if_true]
    · simp only [if_pos h1, if_neg h2, pb_i, show ¬ (1 : Int32) = 0 by decide, if_false, if_true]
  · simp only [if_neg h1, pb_i, show ¬ (1 : Int32) = 0 by decide, if_false, if_true]
theorem cm_begin (x y t : Int32) {M : xm_M} (ho : sp_ok (cVs 1 M)) : ∃ r M1, fX3_begin x y t M = some (r, M1) ∧ sp_ok (cVs 1 M1) ∧ (∀ r i, ¬ (r = 1 ∧ 3 ≤ i ∧ i < 6) → cVs 1 M1 r i = cVs 1 M r i) ∧ cO M M1 := by
  by_cases h : (-100000 ≤ x.toInt ∧ x.toInt ≤ 100000) ∧ (-100000 ≤ y.toInt ∧ y.toInt ≤ 100000) ∧ 0 ≤ t.toInt ∧ t.toInt ≤ 3599999
  case neg => exact ⟨_, M, cm_beginF h, ho, fun _ _ _ => rfl, cO_refl M⟩
  obtain ⟨h1, h2, h3⟩ := h
  have c1 : (-100000 : Int32).toInt = -100000 := rfl
  have c2 : (100000 : Int32).toInt = 100000 := rfl
  have c3 : (3599999 : Int32).toInt = 3599999 := rfl
  have hV : ∀ r i, ¬ (r = 1 ∧ 3 ≤ i ∧ i < 6) → cVs 1 (xm_s (xm_s (xm_s M 1 7 x) 1 8 y) 1 9 t) r i = cVs 1 M r i := by
    intro r i hi
    rw [cVs_st, cVs_st, cVs_st, if_neg (by omega), if_neg (by omega), if_neg (by omega)]
  have hV3 : cVs 1 (xm_s (xm_s (xm_s M 1 7 x) 1 8 y) 1 9 t) 1 3 = x := by simp [cVs_st]
  have hV4 : cVs 1 (xm_s (xm_s (xm_s M 1 7 x) 1 8 y) 1 9 t) 1 4 = y := by simp [cVs_st]
  have hV5 : cVs 1 (xm_s (xm_s (xm_s M 1 7 x) 1 8 y) 1 9 t) 1 5 = t := by simp [cVs_st]
  have hfr : cO M (xm_s (xm_s (xm_s M 1 7 x) 1 8 y) 1 9 t) := by
    intro k i hk
    simp only [pm_s]
    simp only [show ¬ k = 1 by omega, false_and, if_false]
  obtain ⟨p0, p1, p2, p3, p4, p5, p6, p7, p8⟩ := sp_okM_of ho
  refine ⟨(xm_s (xm_s (xm_s M 1 7 x) 1 8 y) 1 9 t).1 1 6, xm_s (xm_s (xm_s M 1 7 x) 1 8 y) 1 9 t, ?_, ?_, hV, hfr⟩
  · unfold fX3_begin
    simp only [fX3_isPlace, px_in, pb_i, px_to, px_z0, c1, c2, c3]
    simp only [if_pos h1, if_pos h2, if_pos h3, pb_i, show ¬ (1 : Int32) = 0 by decide, if_false, pb_lt]
  · refine sp_ok_of ho (fun i _ => hV 0 i (by omega)) ?_ ?_ ?_ (by rw [hV3]; exact h1) (by rw [hV4]; exact h2) (by rw [hV5]; omega) ?_ ?_ ?_
    · rw [hV 1 0 (by omega)]; exact p0
    · rw [hV 1 1 (by omega)]; exact p1
    · rw [hV 1 2 (by omega)]; exact p2
    · rw [hV 1 0 (by omega)]; exact fun c hc => Or.inl ⟨hc, fun r _ _ => hV r c (by omega)⟩
    · rw [hV 1 1 (by omega)]; exact fun c hc => Or.inl ⟨hc, fun r _ _ => hV r c (by omega)⟩
    · rw [hV 1 1 (by omega), hV 1 2 (by omega)]; exact fun c hc => Or.inl ⟨hc, Int.le_refl _, fun r _ _ => hV r c (by omega)⟩
theorem cm_corrF {a1 a2 a3 a4 a5 : Int32} {M : xm_M} (h : ¬ ((-100000 ≤ a1.toInt ∧ a1.toInt ≤ 100000) ∧ (-100000 ≤ a2.toInt ∧ a2.toInt ≤ 100000) ∧ (-100000 ≤ a3.toInt ∧ a3.toInt ≤ 100000) ∧ (-100000 ≤ a4.toInt ∧ a4.toInt ≤ 100000) ∧ 0 ≤ a5.toInt ∧ a5.toInt ≤ 17999)) : fX3_corridor a1 a2 a3 a4 a5 M = some (-2, M) := by
  have c1 : (-100000 : Int32).toInt = -100000 := rfl
  have c2 : (100000 : Int32).toInt = 100000 := rfl
  have c3 : (17999 : Int32).toInt = 17999 := rfl
  unfold fX3_corridor
  simp only [fX3_isPlace, px_in, pb_i, px_to, px_z0, c1, c2, c3]
  by_cases h1 : -100000 ≤ a1.toInt ∧ a1.toInt ≤ 100000
  case neg => simp only [if_neg h1, pb_i, show ¬ (1 : Int32) = 0 by decide, if_false, if_true]
  by_cases h2 : -100000 ≤ a2.toInt ∧ a2.toInt ≤ 100000
  case neg => simp only [if_pos h1, if_neg h2, pb_i, show ¬ (1 : Int32) = 0 by decide, if_false, if_true]
  by_cases h3 : -100000 ≤ a3.toInt ∧ a3.toInt ≤ 100000
  case neg => simp only [if_pos h1, if_pos h2, if_neg h3, pb_i, show ¬ (1 : Int32) = 0 by decide, if_false, if_true]
  by_cases h4 : -100000 ≤ a4.toInt ∧ a4.toInt ≤ 100000
  case neg => simp only [if_pos h1, if_pos h2, if_pos h3, if_neg h4, pb_i, show ¬ (1 : Int32) = 0 by decide, if_false, if_true]
  have h5 : ¬ (0 ≤ a5.toInt ∧ a5.toInt ≤ 17999) := fun z => h ⟨h1, h2, h3, h4, z⟩
  simp only [if_pos h1, if_pos h2, if_pos h3, if_pos h4, if_neg h5, pb_i, show ¬ (1 : Int32) = 0 by decide, if_false, if_true]
theorem pn_mx (P : Prop) [Decidable P] {x y : Int32} {lo hi : Int} (h1 : lo ≤ x.toInt ∧ x.toInt ≤ hi) (h2 : lo ≤ y.toInt ∧ y.toInt ≤ hi) : lo ≤ (if P then x else y).toInt ∧ (if P then x else y).toInt ≤ hi := by
  by_cases h : P
  · rw [if_pos h]; exact h1
  · rw [if_neg h]; exact h2
theorem cm_corr (a1 a2 a3 a4 a5 : Int32) {M : xm_M} (ho : sp_ok (cVs 1 M)) : ∃ r M1, fX3_corridor a1 a2 a3 a4 a5 M = some (r, M1) ∧ sp_ok (cVs 1 M1) ∧ (∀ r i, ¬ (r = 1 ∧ i = 0) → ¬ (2 ≤ r ∧ r < 7) → cVs 1 M1 r i = cVs 1 M r i) ∧ cO M M1 := by
  by_cases h : (-100000 ≤ a1.toInt ∧ a1.toInt ≤ 100000) ∧ (-100000 ≤ a2.toInt ∧ a2.toInt ≤ 100000) ∧ (-100000 ≤ a3.toInt ∧ a3.toInt ≤ 100000) ∧ (-100000 ≤ a4.toInt ∧ a4.toInt ≤ 100000) ∧ 0 ≤ a5.toInt ∧ a5.toInt ≤ 17999
  case neg => exact ⟨_, M, cm_corrF h, ho, fun _ _ _ _ => rfl, cO_refl M⟩
  obtain ⟨h1, h2, h3, h4, h5⟩ := h
  have c1 : (-100000 : Int32).toInt = -100000 := rfl
  have c2 : (100000 : Int32).toInt = 100000 := rfl
  have c3 : (17999 : Int32).toInt = 17999 := rfl
  obtain ⟨p0, p1, p2, p3, p4, p5, p6, p7, p8⟩ := sp_okM_of ho
  obtain ⟨c, hc8, hc, hc2, _⟩ := pn_ofI (n := 8) p0.1 p0.2
  have e4 : M.1 1 4 = nI c := hc
  unfold fX3_corridor
  simp only [fX3_isPlace, px_in, pb_i, px_to, px_z0, c1, c2, c3]
  simp only [if_pos h1, if_pos h2, if_pos h3, if_pos h4, if_pos h5, pb_i, show ¬ (1 : Int32) = 0 by decide, if_false, pb_lt]
  rw [e4]
  by_cases hf : c < 8
  case neg =>
    have : c = 8 := by omega
    subst this
    rw [if_neg (by decide)]
    exact ⟨_, M, rfl, ho, fun _ _ _ _ => rfl, cO_refl M⟩
  have l1 : nI c < (8 : Int32) := (px_lt_nI (n := 8) rfl (by omega) (by omega)).mpr hf
  rw [if_pos l1]
  simp only [px_cK_0 hf, px_cK_1 hf, px_cK_2 hf, px_cK_3 hf, px_cK_4 hf, pb_v, px_min, px_max, pi_succ]
  refine ⟨_, _, rfl, ?_, ?_, ?_⟩
  · have hX1 := pn_mx (a3 ≤ a1) h3 h1
    have hX2 := pn_mx (a3 ≤ a1) h1 h3
    have hY1 := pn_mx (a4 ≤ a2) h4 h2
    have hY2 := pn_mx (a4 ≤ a2) h2 h4
    generalize (if a3 ≤ a1 then a3 else a1) = X1 at hX1 ⊢
    generalize (if a3 ≤ a1 then a1 else a3) = X2 at hX2 ⊢
    generalize (if a4 ≤ a2 then a4 else a2) = Y1 at hY1 ⊢
    generalize (if a4 ≤ a2 then a2 else a4) = Y2 at hY2 ⊢
    have hV : ∀ r i, ¬ (r = 1 ∧ i = 0) → ¬ (2 ≤ r ∧ r < 7 ∧ i = c) → cVs 1 (xm_s (xm_s (xm_s (xm_s (xm_s (xm_s M 4 c X1) 5 c X2) 6 c Y1) 7 c Y2) 8 c a5) 1 4 (nI (c + 1))) r i = cVs 1 M r i := by
      intro r i hi hi2
      rw [cVs_st, cVs_st, cVs_st, cVs_st, cVs_st, cVs_st, if_neg (by omega), if_neg (by omega), if_neg (by omega), if_neg (by omega), if_neg (by omega), if_neg (by omega)]
    have v0 : cVs 1 (xm_s (xm_s (xm_s (xm_s (xm_s (xm_s M 4 c X1) 5 c X2) 6 c Y1) 7 c Y2) 8 c a5) 1 4 (nI (c + 1))) 1 0 = nI (c + 1) := by simp [cVs_st]
    have v2 : cVs 1 (xm_s (xm_s (xm_s (xm_s (xm_s (xm_s M 4 c X1) 5 c X2) 6 c Y1) 7 c Y2) 8 c a5) 1 4 (nI (c + 1))) 2 c = X1 := by simp [cVs_st]
    have v3 : cVs 1 (xm_s (xm_s (xm_s (xm_s (xm_s (xm_s M 4 c X1) 5 c X2) 6 c Y1) 7 c Y2) 8 c a5) 1 4 (nI (c + 1))) 3 c = X2 := by simp [cVs_st]
    have v4 : cVs 1 (xm_s (xm_s (xm_s (xm_s (xm_s (xm_s M 4 c X1) 5 c X2) 6 c Y1) 7 c Y2) 8 c a5) 1 4 (nI (c + 1))) 4 c = Y1 := by simp [cVs_st]
    have v5 : cVs 1 (xm_s (xm_s (xm_s (xm_s (xm_s (xm_s M 4 c X1) 5 c X2) 6 c Y1) 7 c Y2) 8 c a5) 1 4 (nI (c + 1))) 5 c = Y2 := by simp [cVs_st]
    have v6 : cVs 1 (xm_s (xm_s (xm_s (xm_s (xm_s (xm_s M 4 c X1) 5 c X2) 6 c Y1) 7 c Y2) 8 c a5) 1 4 (nI (c + 1))) 6 c = a5 := by simp [cVs_st]
    generalize cVs 1 (xm_s (xm_s (xm_s (xm_s (xm_s (xm_s M 4 c X1) 5 c X2) 6 c Y1) 7 c Y2) 8 c a5) 1 4 (nI (c + 1))) = V' at hV v0 v2 v3 v4 v5 v6 ⊢
    have n9 : (nI (c + 1)).toInt = c + 1 := by rw [nI_toInt (by omega)]; omega
    refine sp_ok_of ho (fun i _ => hV 0 i (by omega) (by omega)) ?_ ?_ ?_ ?_ ?_ ?_ ?_ ?_ ?_
    · rw [v0, n9]; omega
    · rw [hV 1 1 (by omega) (by omega)]; exact p1
    · rw [hV 1 2 (by omega) (by omega)]; exact p2
    · rw [hV 1 3 (by omega) (by omega)]; exact p3
    · rw [hV 1 4 (by omega) (by omega)]; exact p4
    · rw [hV 1 5 (by omega) (by omega)]; exact p5
    · rw [v0, n9]
      intro i hi
      by_cases z : i = c
      · subst z
        refine Or.inr ⟨?_, ?_⟩
        · intro r hr hr2
          have : r = 2 ∨ r = 3 ∨ r = 4 ∨ r = 5 := by omega
          rcases this with z | z | z | z
          · subst z; rw [v2]; exact hX1
          · subst z; rw [v3]; exact hX2
          · subst z; rw [v4]; exact hY1
          · subst z; rw [v5]; exact hY2
        · rw [v6]; omega
      · exact Or.inl ⟨by rw [hc2]; omega, fun r _ _ => hV r i (by omega) (by omega)⟩
    · rw [hV 1 1 (by omega) (by omega)]; exact fun i hi => Or.inl ⟨hi, fun r _ _ => hV r i (by omega) (by omega)⟩
    · rw [hV 1 1 (by omega) (by omega), hV 1 2 (by omega) (by omega)]; exact fun i hi => Or.inl ⟨hi, Int.le_refl _, fun r _ _ => hV r i (by omega) (by omega)⟩
  · intro r i hi hi2
    rw [cVs_st, cVs_st, cVs_st, cVs_st, cVs_st, cVs_st, if_neg (by omega), if_neg (by omega), if_neg (by omega), if_neg (by omega), if_neg (by omega), if_neg (by omega)]
  · intro k i hk
    simp only [pm_s]
    rw [if_neg (by omega), if_neg (by omega), if_neg (by omega), if_neg (by omega), if_neg (by omega), if_neg (by omega)]
theorem cm_markF {x y : Int32} {M : xm_M} (h : ¬ ((-100000 ≤ x.toInt ∧ x.toInt ≤ 100000) ∧ (-100000 ≤ y.toInt ∧ y.toInt ≤ 100000))) : fX3_marker x y M = some (-2, M) := by
  have c1 : (-100000 : Int32).toInt = -100000 := rfl
  have c2 : (100000 : Int32).toInt = 100000 := rfl
  unfold fX3_marker
  simp only [fX3_isPlace, px_in, pb_i, px_to, c1, c2]
  by_cases h1 : -100000 ≤ x.toInt ∧ x.toInt ≤ 100000
  · have h2 : ¬ (-100000 ≤ y.toInt ∧ y.toInt ≤ 100000) := fun z => h ⟨h1, z⟩
    simp only [if_pos h1, if_neg h2, pb_i, show ¬ (1 : Int32) = 0 by decide, if_false, if_true]
  · simp only [if_neg h1, pb_i, show ¬ (1 : Int32) = 0 by decide, if_false, if_true]
theorem cm_mark {x y : Int32} {M : xm_M} {c : Nat} (ho : sp_ok (cVs 1 M)) (h1 : -100000 ≤ x.toInt ∧ x.toInt ≤ 100000) (h2 : -100000 ≤ y.toInt ∧ y.toInt ≤ 100000) (hc : cVs 1 M 1 1 = nI c) (hf : c < 6) : ∃ M1, fX3_marker x y M = some (nI c, M1) ∧ sp_ok (cVs 1 M1) ∧ cVs 1 M1 1 1 = nI (c + 1) ∧ (∀ r i, ¬ (r = 1 ∧ i = 1) → ¬ (7 ≤ r ∧ r < 9 ∧ i = c) → cVs 1 M1 r i = cVs 1 M r i) ∧ cO M M1 := by
  have c1 : (-100000 : Int32).toInt = -100000 := rfl
  have c2 : (100000 : Int32).toInt = 100000 := rfl
  obtain ⟨p0, p1, p2, p3, p4, p5, p6, p7, p8⟩ := sp_okM_of ho
  have e4 : M.1 1 5 = nI c := hc
  have hc2 : (cVs 1 M 1 1).toInt = c := by rw [hc, nI_toInt (by omega)]
  have l1 : nI c < (6 : Int32) := (px_lt_nI (n := 6) rfl (by omega) (by omega)).mpr hf
  have n9 : (nI (c + 1)).toInt = c + 1 := by rw [nI_toInt (by omega)]; omega
  have hV : ∀ r i, ¬ (r = 1 ∧ i = 1) → ¬ (7 ≤ r ∧ r < 9 ∧ i = c) → cVs 1 (xm_s (xm_s (xm_s M 10 c x) 11 c y) 1 5 (nI (c + 1))) r i = cVs 1 M r i := by
    intro r i hi hi2
    rw [cVs_st, cVs_st, cVs_st, if_neg (by omega), if_neg (by omega), if_neg (by omega)]
  have v0 : cVs 1 (xm_s (xm_s (xm_s M 10 c x) 11 c y) 1 5 (nI (c + 1))) 1 1 = nI (c + 1) := by simp [cVs_st]
  have v2 : cVs 1 (xm_s (xm_s (xm_s M 10 c x) 11 c y) 1 5 (nI (c + 1))) 7 c = x := by simp [cVs_st]
  have v3 : cVs 1 (xm_s (xm_s (xm_s M 10 c x) 11 c y) 1 5 (nI (c + 1))) 8 c = y := by simp [cVs_st]
  refine ⟨xm_s (xm_s (xm_s M 10 c x) 11 c y) 1 5 (nI (c + 1)), ?_, ?_, v0, hV, ?_⟩
  · unfold fX3_marker
    simp only [fX3_isPlace, px_in, pb_i, px_to, c1, c2]
    simp only [if_pos h1, if_pos h2, pb_i, show ¬ (1 : Int32) = 0 by decide, if_false, pb_lt, e4, if_pos l1, px_mK_0 hf, px_mK_1 hf, pb_v, pi_succ]
  · generalize cVs 1 (xm_s (xm_s (xm_s M 10 c x) 11 c y) 1 5 (nI (c + 1))) = V' at hV v0 v2 v3 ⊢
    refine sp_ok_of ho (fun i _ => hV 0 i (by omega) (by omega)) ?_ ?_ ?_ ?_ ?_ ?_ ?_ ?_ ?_
    · rw [hV 1 0 (by omega) (by omega)]; exact p0
    · rw [v0, n9]; omega
    · rw [hV 1 2 (by omega) (by omega)]; exact p2
    · rw [hV 1 3 (by omega) (by omega)]; exact p3
    · rw [hV 1 4 (by omega) (by omega)]; exact p4
    · rw [hV 1 5 (by omega) (by omega)]; exact p5
    · rw [hV 1 0 (by omega) (by omega)]; exact fun i hi => Or.inl ⟨hi, fun r _ _ => hV r i (by omega) (by omega)⟩
    · rw [v0, n9]
      intro i hi
      by_cases z : i = c
      · subst z
        refine Or.inr ?_
        intro r hr hr2
        have : r = 7 ∨ r = 8 := by omega
        rcases this with z | z
        · subst z; rw [v2]; exact h1
        · subst z; rw [v3]; exact h2
      · exact Or.inl ⟨by rw [hc2]; omega, fun r _ _ => hV r i (by omega) (by omega)⟩
    · rw [v0, n9, hV 1 2 (by omega) (by omega)]; exact fun i hi => Or.inl ⟨hi, by omega, fun r _ _ => hV r i (by omega) (by omega)⟩
  · intro k i hk
    simp only [pm_s]
    rw [if_neg (by omega), if_neg (by omega), if_neg (by omega)]
theorem cm_closeF {M : xm_M} (h : cVs 1 M 1 0 = 0) : fX3_closeCorridor M = some (-5, M) := by
  have e4 : M.1 1 4 = 0 := h
  unfold fX3_closeCorridor
  rw [e4, if_neg (by decide)]
theorem cm_close {M : xm_M} (ho : sp_ok (cVs 1 M)) : ∃ r M1, fX3_closeCorridor M = some (r, M1) ∧ sp_ok (cVs 1 M1) ∧ (∀ r i, ¬ (r = 1 ∧ i = 0) → cVs 1 M1 r i = cVs 1 M r i) ∧ cO M M1 := by
  obtain ⟨p0, p1, p2, p3, p4, p5, p6, p7, p8⟩ := sp_okM_of ho
  obtain ⟨c, hc8, hc, hc2, _⟩ := pn_ofI (n := 8) p0.1 p0.2
  cases c with
  | zero => exact ⟨_, M, cm_closeF hc, ho, fun _ _ _ => rfl, cO_refl M⟩
  | succ c =>
    have e4 : M.1 1 4 = nI (c + 1) := hc
    have l1 : (0 : Int32) < nI (c + 1) := by rw [Int32.lt_iff_toInt_lt, nI_toInt (by omega)]; show (0 : Int) < _; omega
    have hV : ∀ r i, ¬ (r = 1 ∧ i = 0) → cVs 1 (xm_s M 1 4 (nI c)) r i = cVs 1 M r i := by
      intro r j hj
      rw [cVs_st, if_neg (by omega)]
    have v0 : cVs 1 (xm_s M 1 4 (nI c)) 1 0 = nI c := by simp [cVs_st]
    unfold fX3_closeCorridor
    rw [e4, if_pos l1, pi_pred, pb_lt]
    refine ⟨_, _, rfl, ?_, hV, ?_⟩
    · refine sp_ok_of ho (fun i _ => hV 0 i (by omega)) ?_ ?_ ?_ ?_ ?_ ?_ ?_ ?_ ?_
      · rw [v0, nI_toInt (by omega)]; omega
      · rw [hV 1 1 (by omega)]; exact p1
      · rw [hV 1 2 (by omega)]; exact p2
      · rw [hV 1 3 (by omega)]; exact p3
      · rw [hV 1 4 (by omega)]; exact p4
      · rw [hV 1 5 (by omega)]; exact p5
      · rw [v0, nI_toInt (by omega)]; exact fun i hi => Or.inl ⟨by rw [hc2]; omega, fun r _ _ => hV r i (by omega)⟩
      · rw [hV 1 1 (by omega)]; exact fun i hi => Or.inl ⟨hi, fun r _ _ => hV r i (by omega)⟩
      · rw [hV 1 1 (by omega), hV 1 2 (by omega)]; exact fun i hi => Or.inl ⟨hi, Int.le_refl _, fun r _ _ => hV r i (by omega)⟩
    · intro k i hk
      rw [pm_s, if_neg (by omega)]
theorem cm_cutF {a : Int32} {M : xm_M} {n : Nat} (hn : cVs 1 M 1 2 = nI n) (hn2 : n ≤ 120) (h : ¬ (1 ≤ a.toInt ∧ a.toInt ≤ n)) : fX3_cut a M = some (-2, M) := by
  have e4 : M.1 1 6 = nI n := hn
  have c1 : (1 : Int32).toInt = 1 := rfl
  unfold fX3_cut
  by_cases h1 : a < 1
  · rw [if_pos h1]
  · have h2 := Int32.le_iff_toInt_le.mp (Int32.not_lt.mp h1)
    rw [if_neg h1, if_neg]
    rw [Int32.le_iff_toInt_le, e4, nI_toInt (by omega)]
    omega
theorem cm_cut {d n : Nat} {M : xm_M} (ho : sp_ok (cVs 1 M)) (hn : cVs 1 M 1 2 = nI n) (hn2 : n ≤ 120) (h1 : 1 ≤ d) (h2 : d ≤ n) : ∃ M1, fX3_cut (nI d) M = some (nI (n - d), M1) ∧ sp_ok (cVs 1 M1) ∧ cVs 1 M1 1 2 = nI (n - d) ∧ (∀ r i, ¬ (r = 1 ∧ i = 2) → cVs 1 M1 r i = cVs 1 M r i) ∧ cO M M1 := by
  obtain ⟨p0, p1, p2, p3, p4, p5, p6, p7, p8⟩ := sp_okM_of ho
  have e4 : M.1 1 6 = nI n := hn
  have hc2 : (cVs 1 M 1 2).toInt = n := by rw [hn, nI_toInt (by omega)]
  have e5 : nI n - nI d = nI (n - d) := by
    have : nI n = nI (n - d) + nI d := by rw [pi_add, Nat.sub_add_cancel h2]
    rw [this]
    exact Int32.add_sub_cancel _ _
  have hV : ∀ r i, ¬ (r = 1 ∧ i = 2) → cVs 1 (xm_s M 1 6 (nI (n - d))) r i = cVs 1 M r i := by
    intro r j hj
    rw [cVs_st, if_neg (by omega)]
  have v0 : cVs 1 (xm_s M 1 6 (nI (n - d))) 1 2 = nI (n - d) := by simp [cVs_st]
  refine ⟨xm_s M 1 6 (nI (n - d)), ?_, ?_, v0, hV, ?_⟩
  · unfold fX3_cut
    rw [if_neg (by rw [Int32.lt_iff_toInt_lt, nI_toInt (by omega)]; show ¬ (_ < (1 : Int)); omega), if_pos (by rw [e4, nI_leI (by omega) (by omega)]; exact h2), e4, e5, pb_lt, pm_s, if_pos ⟨rfl, rfl⟩]
  · refine sp_ok_of ho (fun i _ => hV 0 i (by omega)) ?_ ?_ ?_ ?_ ?_ ?_ ?_ ?_ ?_
    · rw [hV 1 0 (by omega)]; exact p0
    · rw [hV 1 1 (by omega)]; exact p1
    · rw [v0, nI_toInt (by omega)]; omega
    · rw [hV 1 3 (by omega)]; exact p3
    · rw [hV 1 4 (by omega)]; exact p4
    · rw [hV 1 5 (by omega)]; exact p5
    · rw [hV 1 0 (by omega)]; exact fun i hi => Or.inl ⟨hi, fun r _ _ => hV r i (by omega)⟩
    · rw [hV 1 1 (by omega)]; exact fun i hi => Or.inl ⟨hi, fun r _ _ => hV r i (by omega)⟩
    · rw [hV 1 1 (by omega), v0, nI_toInt (by omega)]; exact fun i hi => Or.inl ⟨by rw [hc2]; omega, Int.le_refl _, fun r _ _ => hV r i (by omega)⟩
  · intro k i hk
    rw [pm_s, if_neg (by omega)]
theorem cm_stepF {a b t : Int32} {M : xm_M} (h : ¬ ((-300 ≤ a.toInt ∧ a.toInt ≤ 300) ∧ (-300 ≤ b.toInt ∧ b.toInt ≤ 300) ∧ -300000 ≤ t.toInt ∧ t.toInt ≤ 300000)) : fX3_step a b t M = some (-2, M) := by
  have c1 : (-300 : Int32).toInt = -300 := rfl
  have c2 : (300 : Int32).toInt = 300 := rfl
  have c3 : (-300000 : Int32).toInt = -300000 := rfl
  have c4 : (300000 : Int32).toInt = 300000 := rfl
  unfold fX3_step fX1_addStep
  simp only [px_in, pb_i, px_to, c1, c2, c3, c4]
  by_cases h1 : -300 ≤ a.toInt ∧ a.toInt ≤ 300
  case neg => simp only [if_neg h1, pb_i, show ¬ (1 : Int32) = 0 by decide, if_false, if_true]
  by_cases h2 : -300 ≤ b.toInt ∧ b.toInt ≤ 300
  case neg => simp only [if_pos h1, if_neg h2, pb_i, show ¬ (1 : Int32) = 0 by decide, if_false, if_true]
  have h3 : ¬ (-300000 ≤ t.toInt ∧ t.toInt ≤ 300000) := fun z => h ⟨h1, h2, z⟩
  simp only [if_pos h1, if_pos h2, if_neg h3, pb_i, show ¬ (1 : Int32) = 0 by decide, if_false, if_true]
/-- an entry is added: its four numbers, all else as it was -/
def vMore (n : Nat) (s a b t : Int32) (V V' : sV) : Prop := V' 1 2 = nI (n + 1) ∧ V' 9 n = s ∧ V' 10 n = a ∧ V' 11 n = b ∧ V' 12 n = t ∧ ∀ r i, ¬ (r = 1 ∧ i = 2) → ¬ (9 ≤ r ∧ r < 13 ∧ i = n) → V' r i = V r i
theorem cm_addStep {a b t : Int32} {M : xm_M} {n : Nat} (ho : sp_ok (cVs 1 M)) (hn : cVs 1 M 1 2 = nI n) (hf : n < 120) (h1 : -300 ≤ a.toInt ∧ a.toInt ≤ 300) (h2 : -300 ≤ b.toInt ∧ b.toInt ≤ 300) (h3 : -300000 ≤ t.toInt ∧ t.toInt ≤ 300000) : ∃ M1, fX1_addStep a b t M = some (nI (n + 1), M1) ∧ sp_ok (cVs 1 M1) ∧ vMore n (-6) a b t (cVs 1 M) (cVs 1 M1) ∧ cO M M1 := by
  have c1 : (-300 : Int32).toInt = -300 := rfl
  have c2 : (300 : Int32).toInt = 300 := rfl
  have c3 : (-300000 : Int32).toInt = -300000 := rfl
  have c4 : (300000 : Int32).toInt = 300000 := rfl
  obtain ⟨p0, p1, p2, p3, p4, p5, p6, p7, p8⟩ := sp_okM_of ho
  have e4 : M.1 1 6 = nI n := hn
  have hc2 : (cVs 1 M 1 2).toInt = n := by rw [hn, nI_toInt (by omega)]
  have n9 : (nI (n + 1)).toInt = n + 1 := by rw [nI_toInt (by omega)]; omega
  have l1 : nI n < (120 : Int32) := (px_lt_nI (n := 120) rfl (by omega) (by omega)).mpr hf
  unfold fX1_addStep
  simp only [px_in, pb_i, px_to, c1, c2, c3, c4]
  simp only [if_pos h1, if_pos h2, if_pos h3, pb_i, show ¬ (1 : Int32) = 0 by decide, if_false, pb_lt, e4, if_pos l1]
  simp only [px_lK_0 hf, px_lK_1 hf, px_lK_2 hf, px_lK_3 hf, pb_v, pm_s, Nat.reduceEqDiff, false_and, if_false, e4, pi_succ]
  simp only [and_self, if_true]
  have hv : vMore n (-6) a b t (cVs 1 M) (cVs 1 (xm_s (xm_s (xm_s (xm_s (xm_s M 13 n (-6)) 14 n a) 15 n b) 16 n t) 1 6 (nI (n + 1)))) := by
    refine ⟨by simp [cVs_st], by simp [cVs_st], by simp [cVs_st], by simp [cVs_st], by simp [cVs_st], ?_⟩
    intro r j hr hj
    simp only [cVs_st]
    rw [if_neg (by omega), if_neg (by omega), if_neg (by omega), if_neg (by omega), if_neg (by omega)]
  refine ⟨_, rfl, ?_, hv, ?_⟩
  · generalize cVs 1 (xm_s (xm_s (xm_s (xm_s (xm_s M 13 n (-6)) 14 n a) 15 n b) 16 n t) 1 6 (nI (n + 1))) = V' at hv ⊢
    obtain ⟨v0, v9, v10, v11, v12, hV⟩ := hv
    refine sp_ok_of ho (fun i _ => hV 0 i (by omega) (by omega)) ?_ ?_ ?_ ?_ ?_ ?_ ?_ ?_ ?_
    · rw [hV 1 0 (by omega) (by omega)]; exact p0
    · rw [hV 1 1 (by omega) (by omega)]; exact p1
    · rw [v0, n9]; omega
    · rw [hV 1 3 (by omega) (by omega)]; exact p3
    · rw [hV 1 4 (by omega) (by omega)]; exact p4
    · rw [hV 1 5 (by omega) (by omega)]; exact p5
    · rw [hV 1 0 (by omega) (by omega)]; exact fun i hi => Or.inl ⟨hi, fun r _ _ => hV r i (by omega) (by omega)⟩
    · rw [hV 1 1 (by omega) (by omega)]; exact fun i hi => Or.inl ⟨hi, fun r _ _ => hV r i (by omega) (by omega)⟩
    · rw [hV 1 1 (by omega) (by omega), v0, n9]
      intro i hi
      by_cases z : i = n
      · subst z
        exact Or.inr (Or.inl ⟨v9, by rw [v10]; exact h1, by rw [v11]; exact h2, by rw [v12]; exact h3⟩)
      · exact Or.inl ⟨by rw [hc2]; omega, Int.le_refl _, fun r _ _ => hV r i (by omega) (by omega)⟩
  · intro k i hk
    simp only [pm_s]
    rw [if_neg (by omega), if_neg (by omega), if_neg (by omega), if_neg (by omega), if_neg (by omega)]
theorem cm_step {a b t : Int32} {M : xm_M} {n : Nat} (ho : sp_ok (cVs 1 M)) (hn : cVs 1 M 1 2 = nI n) (hf : n < 120) (h1 : -300 ≤ a.toInt ∧ a.toInt ≤ 300) (h2 : -300 ≤ b.toInt ∧ b.toInt ≤ 300) (h3 : -300000 ≤ t.toInt ∧ t.toInt ≤ 300000) : ∃ M1, fX3_step a b t M = some (nI (n + 1), M1) ∧ sp_ok (cVs 1 M1) ∧ vMore n (-6) a b t (cVs 1 M) (cVs 1 M1) ∧ cO M M1 := by
  obtain ⟨M1, e, h⟩ := cm_addStep ho hn hf h1 h2 h3
  refine ⟨M1, ?_, h⟩
  unfold fX3_step
  rw [e, pb_i]
theorem cm_seeF {a : Int32} {M : xm_M} (ho : sp_ok (cVs 1 M)) (h : ¬ (0 ≤ a.toInt ∧ a.toInt < (cVs 1 M 1 1).toInt)) : fX3_see a M = some (-1, M) := by
  obtain ⟨p0, p1, p2, p3, p4, p5, p6, p7, p8⟩ := sp_okM_of ho
  obtain ⟨m, hm6, hm, hm2, _⟩ := pn_ofI (n := 6) p1.1 p1.2
  have e5 : M.1 1 5 = nI m := hm
  rw [hm2] at h
  unfold fX3_see fX1_addSight
  simp only [px_in, pb_i, e5, px_wn (show m < 1000 by omega) 0, px_z0]
  rw [if_neg h, if_pos rfl, pb_i]
theorem cm_addSight {k : Nat} {M : xm_M} {n : Nat} (ho : sp_ok (cVs 1 M)) (hn : cVs 1 M 1 2 = nI n) (hf : n < 120) (hk : (k : Int) < (cVs 1 M 1 1).toInt) : ∃ M1, fX1_addSight (nI k) M = some (nI (n + 1), M1) ∧ sp_ok (cVs 1 M1) ∧ vMore n (nI k) (cVs 1 M 10 n) (cVs 1 M 11 n) (cVs 1 M 12 n) (cVs 1 M) (cVs 1 M1) ∧ cO M M1 := by
  obtain ⟨p0, p1, p2, p3, p4, p5, p6, p7, p8⟩ := sp_okM_of ho
  obtain ⟨m, hm6, hm, hm2, _⟩ := pn_ofI (n := 6) p1.1 p1.2
  have e5 : M.1 1 5 = nI m := hm
  have e4 : M.1 1 6 = nI n := hn
  have hc2 : (cVs 1 M 1 2).toInt = n := by rw [hn, nI_toInt (by omega)]
  have n9 : (nI (n + 1)).toInt = n + 1 := by rw [nI_toInt (by omega)]; omega
  have l1 : nI n < (120 : Int32) := (px_lt_nI (n := 120) rfl (by omega) (by omega)).mpr hf
  have ek : (nI k).toInt = (k : Int) := nI_toInt (by omega)
  unfold fX1_addSight
  rw [e5, px_inT (a := nI k) (lo := 0) (hi := nI m - 1) (by rw [px_z0, ek, pn_pred (by omega)]; omega), pb_i, if_neg (by decide)]
  simp only [pb_lt, e4, if_pos l1]
  simp only [px_lK_0 hf, pb_v, pm_s, Nat.reduceEqDiff, false_and, if_false, e4, pi_succ]
  simp only [and_self, if_true]
  have hv : vMore n (nI k) (cVs 1 M 10 n) (cVs 1 M 11 n) (cVs 1 M 12 n) (cVs 1 M) (cVs 1 (xm_s (xm_s M 13 n (nI k)) 1 6 (nI (n + 1)))) := by
    refine ⟨by simp [cVs_st], by simp [cVs_st], by simp [cVs_st], by simp [cVs_st], by simp [cVs_st], ?_⟩
    intro r j hr hj
    simp only [cVs_st]
    rw [if_neg (by omega), if_neg (by omega)]
  refine ⟨_, rfl, ?_, hv, ?_⟩
  · generalize cVs 1 (xm_s (xm_s M 13 n (nI k)) 1 6 (nI (n + 1))) = V' at hv ⊢
    obtain ⟨v0, v9, v10, v11, v12, hV⟩ := hv
    refine sp_ok_of ho (fun i _ => hV 0 i (by omega) (by omega)) ?_ ?_ ?_ ?_ ?_ ?_ ?_ ?_ ?_
    · rw [hV 1 0 (by omega) (by omega)]; exact p0
    · rw [hV 1 1 (by omega) (by omega)]; exact p1
    · rw [v0, n9]; omega
    · rw [hV 1 3 (by omega) (by omega)]; exact p3
    · rw [hV 1 4 (by omega) (by omega)]; exact p4
    · rw [hV 1 5 (by omega) (by omega)]; exact p5
    · rw [hV 1 0 (by omega) (by omega)]; exact fun i hi => Or.inl ⟨hi, fun r _ _ => hV r i (by omega) (by omega)⟩
    · rw [hV 1 1 (by omega) (by omega)]; exact fun i hi => Or.inl ⟨hi, fun r _ _ => hV r i (by omega) (by omega)⟩
    · rw [hV 1 1 (by omega) (by omega), v0, n9]
      intro i hi
      by_cases z : i = n
      · subst z
        exact Or.inr (Or.inr ⟨by rw [v9, ek]; omega, by rw [v9, ek]; exact hk⟩)
      · exact Or.inl ⟨by rw [hc2]; omega, Int.le_refl _, fun r _ _ => hV r i (by omega) (by omega)⟩
  · intro k i hk
    simp only [pm_s]
    rw [if_neg (by omega), if_neg (by omega)]
theorem cm_see {k : Nat} {M : xm_M} {n : Nat} (ho : sp_ok (cVs 1 M)) (hn : cVs 1 M 1 2 = nI n) (hf : n < 120) (hk : (k : Int) < (cVs 1 M 1 1).toInt) : ∃ M1, fX3_see (nI k) M = some (nI (n + 1), M1) ∧ sp_ok (cVs 1 M1) ∧ vMore n (nI k) (cVs 1 M 10 n) (cVs 1 M 11 n) (cVs 1 M 12 n) (cVs 1 M) (cVs 1 M1) ∧ cO M M1 := by
  obtain ⟨M1, e, h⟩ := cm_addSight ho hn hf hk
  refine ⟨M1, ?_, h⟩
  unfold fX3_see
  rw [e, pb_i]
theorem vMore_P {n : Nat} {s a b t : Int32} {V V' : sV} (h : vMore n s a b t V V') : vP n V V' := by
  obtain ⟨_, _, _, _, _, hV⟩ := h
  exact ⟨fun b h1 => hV 0 b (by omega) (by omega), fun b h1 h2 => hV 1 b (by omega) (by omega), fun r b _ _ _ => hV r b (by omega) (by omega), fun r b _ _ _ => hV r b (by omega) (by omega), fun r b _ _ h3 => hV r b (by omega) (by omega)⟩
