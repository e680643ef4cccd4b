/-! THE CALLS that change the state -/
theorem px_leI {a : Int32} {x : Int} {b : Int32} (hb : b.toInt = x) : (b ≤ a) = (x ≤ a.toInt) := by
  rw [← hb]; exact propext Int32.le_iff_toInt_le
theorem px_leJ {a : Int32} {x : Int} {b : Int32} (hb : b.toInt = x) : (a ≤ b) = (a.toInt ≤ x) := by
  rw [← hb]; exact propext Int32.le_iff_toInt_le
theorem sp_tk_of {a v : Int32} (h : ¬ sp_tk a v = 0) : ∃ j : Nat, j < 9 ∧ a = nI j ∧ sp_lo j ≤ v.toInt ∧ v.toInt ≤ sp_hi j := by
  have k : ∀ lo hi : Int32, ¬ (if lo ≤ v ∧ v ≤ hi then (1 : Int32) else 0) = 0 → lo.toInt ≤ v.toInt ∧ v.toInt ≤ hi.toInt := by
    intro lo hi z
    by_cases y : lo ≤ v ∧ v ≤ hi
    · exact ⟨Int32.le_iff_toInt_le.mp y.1, Int32.le_iff_toInt_le.mp y.2⟩
    · rw [if_neg y] at z; exact absurd rfl z
  unfold sp_tk at h
  by_cases h0 : a = 0
  · subst h0; exact ⟨0, by omega, rfl, k 100 2000 h⟩
  by_cases h1 : a = 1
  · subst h1; exact ⟨1, by omega, rfl, k 100 2000 h⟩
  by_cases h2 : a = 2
  · subst h2; exact ⟨2, by omega, rfl, k 100 1000 h⟩
  by_cases h3 : a = 3
  · subst h3; exact ⟨3, by omega, rfl, k 0 200000 h⟩
  by_cases h4 : a = 4
  · subst h4; exact ⟨4, by omega, rfl, k 0 100 h⟩
  by_cases h5 : a = 5
  · subst h5; exact ⟨5, by omega, rfl, k 1 64 h⟩
  by_cases h6 : a = 6
  · subst h6; exact ⟨6, by omega, rfl, k 0 100 h⟩
  by_cases h7 : a = 7
  · subst h7; exact ⟨7, by omega, rfl, k 0 2000 h⟩
  by_cases h8 : a = 8
  · subst h8; exact ⟨8, by omega, rfl, k 0 900000 h⟩
  simp only [h0, h1, h2, h3, h4, h5, h6, h7, h8, or_self, if_false] at h
  exact absurd trivial h
theorem sS_set {V V' : sV} {A A' : Nat → Int32} {j : Nat} {v : Int32} (h : sS V A) (hj : j < 9) (h1 : sp_lo j ≤ v.toInt) (h2 : v.toInt ≤ sp_hi j) (hV : ∀ i, i < 9 → V' 0 i = if i = j then v else V 0 i) (hV2 : ∀ r, 1 ≤ r → V' r = V r) (hA : ∀ k, A' k = if k = j then v else A k) : sS V' A' := by
  obtain ⟨ho, ha⟩ := h
  obtain ⟨o1, o2⟩ := (sp_ok_iff V).mp ho
  obtain ⟨a1, a2, a3, a4, a5⟩ := ha
  refine ⟨(sp_ok_iff V').mpr ⟨?_, ?_⟩, ?_, ?_, ?_, ?_, ?_⟩
  · intro i hi
    rw [hV i hi]
    by_cases z : i = j
    · subst z; rw [if_pos rfl]; exact ⟨h1, h2⟩
    · rw [if_neg z]; exact o1 i hi
  · unfold sp_okM
    rw [hV2 1 (by omega), hV2 9 (by omega), hV2 10 (by omega), hV2 11 (by omega), hV2 12 (by omega), hV2 6 (by omega)]
    obtain ⟨p0, p1, p2, p3, p4, p5, p6, p7, p8⟩ := o2
    refine ⟨p0, p1, p2, p3, p4, p5, ?_, ?_, p8⟩
    · intro c hc
      refine ⟨?_, (p6 c hc).2⟩
      intro r hr hr2
      rw [hV2 r (by omega)]
      exact (p6 c hc).1 r hr hr2
    · intro c hc r hr hr2
      rw [hV2 r (by omega)]
      exact p7 c hc r hr hr2
  · intro i hi
    rw [hA, hV i hi, a1 i hi]
  · intro i hi
    rw [hA, if_neg (by omega), hV2 1 (by omega)]
    exact a2 i hi
  · rw [hV2 1 (by omega), hV2 2 (by omega), hV2 3 (by omega), hV2 4 (by omega), hV2 5 (by omega), hV2 6 (by omega)]
    intro c hc
    rw [hA, hA, hA, hA, hA, if_neg (by omega), if_neg (by omega), if_neg (by omega), if_neg (by omega), if_neg (by omega)]
    exact a3 c hc
  · rw [hV2 1 (by omega), hV2 7 (by omega), hV2 8 (by omega)]
    intro c hc
    rw [hA, hA, if_neg (by omega), if_neg (by omega)]
    exact a4 c hc
  · rw [hV2 1 (by omega), hV2 9 (by omega), hV2 10 (by omega), hV2 11 (by omega), hV2 12 (by omega)]
    intro c hc
    rw [hA, hA, hA, hA, if_neg (by omega), if_neg (by omega), if_neg (by omega), if_neg (by omega)]
    exact a5 c hc
/-- the state alone has changed -/
theorem xR_state {M N M' N' : xm_M} (h : xR M N) (hc : ∀ k j, 17 ≤ k → M'.1 k j = M.1 k j) (hm : ∀ k j, ¬ k = 1 → N'.1 k j = N.1 k j) (hs : sS (cVs 1 M') (N'.1 1)) : xR M' N' := by
  obtain ⟨_, h2, h3, h4, h5, h6, h7⟩ := h
  have n2 : N'.1 2 = N.1 2 := by funext j; exact hm 2 j (by omega)
  unfold xR
  rw [cVs_keep (s := 17) (fun k j _ _ => hc k j (by omega)), cVs_keep (s := 33) (fun k j _ _ => hc k j (by omega)), n2, hc 17 10 (by omega), hc 33 10 (by omega), hm 3 0 (by omega), hm 3 1 (by omega), hc 69 1 (by omega), hm 0 4 (by omega)]
  refine ⟨hs, h2, h3, h4, h5, h6, ?_⟩
  intro j hj
  rw [hc 70 j (by omega), hm 4 j (by omega)]
  exact h7 j hj
theorem xs_set (a v : Int32) (M N : xm_M) (h : xR M N) : ∃ (r : Int32) (M1 N1 : xm_M), fX3_set a v M = some (r, M1) ∧ fX4_set a v N = some (r, N1) ∧ xR M1 N1 := by
  unfold fX3_set fX4_set
  rw [px_isSet, pm_takes, pb_i, pb_i]
  by_cases hk : sp_tk a v = 0
  · rw [if_pos hk, if_pos hk]
    exact ⟨_, _, _, rfl, rfl, h⟩
  · obtain ⟨j, hj, rfl, h1, h2⟩ := sp_tk_of hk
    rw [if_neg hk, if_neg hk, px_item (px_kn hj (by omega)) (by omega), pm_set (by omega), pb_i, pb_i, px_keep (px_kn hj (by omega)) (by omega), pb_v, nI_clamp (by omega), show (0 : Int32) + nI j = nI j from by rw [show (0 : Int32) = nI 0 from rfl, pi_add, Nat.zero_add], if_neg (px_kn (show j < 547 by omega) (by omega)), pb_lt, nI_clamp (by omega)]
    have e : N.1 1 j = M.1 2 j := h.1.2.1 j hj
    rw [e]
    refine ⟨_, _, _, rfl, rfl, xR_state h ?_ ?_ (sS_set h.1 hj h1 h2 ?_ ?_ ?_)⟩
    · intro k i hk
      rw [pm_s, if_neg (by omega)]
    · intro k i hk
      rw [pm_s, if_neg (by omega)]
    · intro i hi
      show (xm_s M 2 j v).1 2 i = _
      rw [pm_s]
      by_cases z : i = j
      · rw [if_pos ⟨rfl, z⟩, if_pos z]
      · rw [if_neg (fun y => z y.2), if_neg z]
        rfl
    · intro r hr
      funext i
      unfold cVs
      repeat' split
      all_goals first | rfl | omega | (rw [pm_s, if_neg (by omega)])
    · intro k
      rw [pm_s]
      by_cases z : k = j
      · rw [if_pos ⟨rfl, z⟩, if_pos z]
      · rw [if_neg (fun y => z y.2), if_neg z]
theorem xs_wave (a w : Int32) (M N : xm_M) (h : xR M N) : ∃ (r : Int32) (M1 N1 : xm_M), fX3_wave a w M = some (r, M1) ∧ fX4_wave a w N = some (r, N1) ∧ xR M1 N1 := by
  unfold fX3_wave fX4_wave
  simp only [px_in, pm_in, pb_i, fX3_wave_34, px_cosA]
  by_cases h1 : 0 ≤ a ∧ a ≤ 35999
  · have a0 : 0 ≤ a.toInt := (pn_nn a).mp h1.1
    have a1 : a.toInt ≤ 35999 := Int32.le_iff_toInt_le.mp h1.2
    by_cases h2 : 0 ≤ w ∧ w ≤ 1
    · simp only [if_pos h1, if_pos h2, show ¬ (1 : Int32) = 0 by decide, if_false]
      by_cases h3 : w = 0
      · simp only [if_pos h3]
        rw [px_sine a0 (by omega), pm_sine a0 (by omega), pb_i, pb_i]
        exact ⟨_, _, _, rfl, rfl, h⟩
      · have hm := sp_mod36_in a0 (by omega)
        simp only [if_neg h3]
        rw [px_sine hm.1 hm.2, pm_cos a0 (by omega), pb_i, pb_i]
        exact ⟨_, _, _, rfl, rfl, h⟩
    · simp only [if_pos h1, if_neg h2, show ¬ (1 : Int32) = 0 by decide, if_false, if_true]
      exact ⟨_, _, _, rfl, rfl, h⟩
  · simp only [if_neg h1, if_true]
    exact ⟨_, _, _, rfl, rfl, h⟩
theorem xs_wipe (M N : xm_M) (h : xR M N) : ∃ (r : Int32) (M1 N1 : xm_M), fX3_wipe M = some (r, M1) ∧ fX4_wipe N = some (r, N1) ∧ xR M1 N1 := by
  unfold fX3_wipe fX4_wipe
  obtain ⟨h1, h2, h3, h4, h5, h6, h7⟩ := h
  rw [pb_lt, pb_lt, pb_lt, pb_lt, ← h4]
  refine ⟨_, _, _, rfl, rfl, ?_⟩
  have hc : ∀ k j, ¬ (k = 69 ∧ j = 1) → (xm_s M 69 1 0).1 k j = M.1 k j := fun k j z => by rw [pm_s, if_neg z]
  have hm : ∀ k, ¬ k = 0 → (xm_s N 0 4 0).1 k = N.1 k := fun k z => pm_row z
  unfold xR
  rw [cVs_keep (s := 1) (fun k j _ _ => hc k j (by omega)), cVs_keep (s := 17) (fun k j _ _ => hc k j (by omega)), cVs_keep (s := 33) (fun k j _ _ => hc k j (by omega)), hm 1 (by omega), hm 2 (by omega), hm 3 (by omega), hm 4 (by omega), hc 17 10 (by omega), hc 33 10 (by omega), pm_s, pm_s, if_pos ⟨rfl, rfl⟩, if_pos ⟨rfl, rfl⟩]
  refine ⟨h1, h2, h3, rfl, by decide, by decide, ?_⟩
  intro j hj
  have : (0 : Int32).toInt = 0 := rfl
  omega
/-! state and array, piece by piece -/
def okC (V : sV) (A : Nat → Int32) (c : Nat) : Prop := ((∀ r, 2 ≤ r → r < 6 → -100000 ≤ (V r c).toInt ∧ (V r c).toInt ≤ 100000) ∧ 0 ≤ (V 6 c).toInt ∧ (V 6 c).toInt < 18000) ∧ A (15 + 5 * c) = V 2 c ∧ A (15 + 5 * c + 1) = V 3 c ∧ A (15 + 5 * c + 2) = V 4 c ∧ A (15 + 5 * c + 3) = V 5 c ∧ A (15 + 5 * c + 4) = V 6 c
def okK (V : sV) (A : Nat → Int32) (j : Nat) : Prop := (∀ r, 7 ≤ r → r < 9 → -100000 ≤ (V r j).toInt ∧ (V r j).toInt ≤ 100000) ∧ A (55 + 2 * j) = V 7 j ∧ A (55 + 2 * j + 1) = V 8 j
def okL (V : sV) (A : Nat → Int32) (m : Int) (e : Nat) : Prop := (V 9 e = -6 ∧ ((-300 ≤ (V 10 e).toInt ∧ (V 10 e).toInt ≤ 300) ∧ (-300 ≤ (V 11 e).toInt ∧ (V 11 e).toInt ≤ 300) ∧ -300000 ≤ (V 12 e).toInt ∧ (V 12 e).toInt ≤ 300000) ∧ A (67 + 4 * e) = 0 ∧ A (67 + 4 * e + 1) = V 10 e ∧ A (67 + 4 * e + 2) = V 11 e ∧ A (67 + 4 * e + 3) = V 12 e) ∨ ((0 ≤ (V 9 e).toInt ∧ (V 9 e).toInt < m) ∧ A (67 + 4 * e) = 1 ∧ A (67 + 4 * e + 1) = V 9 e)
def okH (V : sV) (A : Nat → Int32) : Prop :=
  ((0 ≤ (V 1 0).toInt ∧ (V 1 0).toInt ≤ 8) ∧ (0 ≤ (V 1 1).toInt ∧ (V 1 1).toInt ≤ 6) ∧ (0 ≤ (V 1 2).toInt ∧ (V 1 2).toInt ≤ 120) ∧ (-100000 ≤ (V 1 3).toInt ∧ (V 1 3).toInt ≤ 100000) ∧ (-100000 ≤ (V 1 4).toInt ∧ (V 1 4).toInt ≤ 100000) ∧ (0 ≤ (V 1 5).toInt ∧ (V 1 5).toInt < 3600000)) ∧ (∀ j, j < 6 → A (9 + j) = V 1 j)
def okS (V : sV) (A : Nat → Int32) : Prop := ∀ j, j < 9 → (sp_lo j ≤ (V 0 j).toInt ∧ (V 0 j).toInt ≤ sp_hi j) ∧ A j = V 0 j
theorem sS_iff (V : sV) (A : Nat → Int32) : sS V A ↔ okS V A ∧ okH V A ∧ (∀ c : Nat, (c : Int) < (V 1 0).toInt → okC V A c) ∧ (∀ j : Nat, (j : Int) < (V 1 1).toInt → okK V A j) ∧ (∀ e : Nat, (e : Int) < (V 1 2).toInt → okL V A (V 1 1).toInt e) := by
  constructor
  · intro h
    obtain ⟨ho, a1, a2, a3, a4, a5⟩ := h
    obtain ⟨o1, p0, p1, p2, p3, p4, p5, p6, p7, p8⟩ := (sp_ok_iff V).mp ho
    refine ⟨fun j hj => ⟨o1 j hj, a1 j hj⟩, ⟨⟨p0, p1, p2, p3, p4, p5⟩, a2⟩, fun c hc => ⟨p6 c hc, a3 c hc⟩, fun c hc => ⟨p7 c hc, a4 c hc⟩, ?_⟩
    intro e he
    rcases p8 e he with z | z
    · rcases a5 e he with y | y
      · have : ¬ 0 ≤ V 9 e := by rw [z.1]; decide
        exact absurd y.1 this
      · exact Or.inl ⟨z.1, z.2, y.2⟩
    · rcases a5 e he with y | y
      · exact Or.inr ⟨z, y.2⟩
      · exact absurd ((pn_nn _).mpr z.1) y.1
  · intro h
    obtain ⟨hS, ⟨⟨p0, p1, p2, p3, p4, p5⟩, a2⟩, hC, hK, hL⟩ := h
    refine ⟨(sp_ok_iff V).mpr ⟨fun j hj => (hS j hj).1, p0, p1, p2, p3, p4, p5, fun c hc => (hC c hc).1, fun c hc => (hK c hc).1, ?_⟩, fun j hj => (hS j hj).2, a2, fun c hc => (hC c hc).2, fun c hc => (hK c hc).2, ?_⟩
    · intro e he
      rcases hL e he with z | z
      · exact Or.inl ⟨z.1, z.2.1⟩
      · exact Or.inr z.1
    · intro e he
      rcases hL e he with z | z
      · refine Or.inr ⟨?_, z.2.2⟩
        rw [z.1]; decide
      · exact Or.inl ⟨(pn_nn _).mpr z.1.1, z.2⟩
theorem okC_keep {V V' : sV} {A A' : Nat → Int32} {c : Nat} (h : okC V A c) (hV : ∀ r, 2 ≤ r → r < 7 → V' r c = V r c) (hA : ∀ i, i < 5 → A' (15 + 5 * c + i) = A (15 + 5 * c + i)) : okC V' A' c := by
  obtain ⟨⟨h1, h2⟩, h3, h4, h5, h6, h7⟩ := h
  refine ⟨⟨?_, ?_⟩, ?_, ?_, ?_, ?_, ?_⟩
  · intro r hr hr2; rw [hV r hr (by omega)]; exact h1 r hr hr2
  · rw [hV 6 (by omega) (by omega)]; exact h2
  · rw [hV 2 (by omega) (by omega)]; exact (hA 0 (by omega)).trans h3
  · rw [hV 3 (by omega) (by omega)]; exact (hA 1 (by omega)).trans h4
  · rw [hV 4 (by omega) (by omega)]; exact (hA 2 (by omega)).trans h5
  · rw [hV 5 (by omega) (by omega)]; exact (hA 3 (by omega)).trans h6
  · rw [hV 6 (by omega) (by omega)]; exact (hA 4 (by omega)).trans h7
theorem okK_keep {V V' : sV} {A A' : Nat → Int32} {c : Nat} (h : okK V A c) (hV : ∀ r, 7 ≤ r → r < 9 → V' r c = V r c) (hA : ∀ i, i < 2 → A' (55 + 2 * c + i) = A (55 + 2 * c + i)) : okK V' A' c := by
  obtain ⟨h1, h3, h4⟩ := h
  refine ⟨?_, ?_, ?_⟩
  · intro r hr hr2; rw [hV r hr (by omega)]; exact h1 r hr hr2
  · rw [hV 7 (by omega) (by omega)]; exact (hA 0 (by omega)).trans h3
  · rw [hV 8 (by omega) (by omega)]; exact (hA 1 (by omega)).trans h4
theorem okL_keep {V V' : sV} {A A' : Nat → Int32} {m m' : Int} {e : Nat} (h : okL V A m e) (hm : m ≤ m') (hV : ∀ r, 9 ≤ r → r < 13 → V' r e = V r e) (hA : ∀ i, i < 4 → A' (67 + 4 * e + i) = A (67 + 4 * e + i)) : okL V' A' m' e := by
  unfold okL
  rw [hV 9 (by omega) (by omega), hV 10 (by omega) (by omega), hV 11 (by omega) (by omega), hV 12 (by omega) (by omega), show A' (67 + 4 * e) = A (67 + 4 * e) from hA 0 (by omega), hA 1 (by omega), hA 2 (by omega), hA 3 (by omega)]
  rcases h with h | h
  · exact Or.inl h
  · exact Or.inr ⟨⟨h.1.1, by have := h.1.2; omega⟩, h.2⟩
/-- a store into the state's cells, as the view has it -/
theorem cVs_st {k j : Nat} {v : Int32} {M : xm_M} {r i : Nat} : cVs 1 (xm_s M k j v) r i = if (r = 0 ∧ k = 2 ∧ i = j) ∨ (r = 1 ∧ k = 1 ∧ 4 + i = j) ∨ (2 ≤ r ∧ r < 7 ∧ k = 2 + r ∧ i = j) ∨ (7 ≤ r ∧ r < 9 ∧ k = 3 + r ∧ i = j) ∨ (9 ≤ r ∧ r < 13 ∧ k = 4 + r ∧ i = j) then v else cVs 1 M r i := by
  unfold cVs
  by_cases h0 : r = 0
  · rw [if_pos h0, if_pos h0, pm_s]
    by_cases h : 1 + 1 = k ∧ i = j
    · rw [if_pos h, if_pos (by omega)]
    · rw [if_neg h, if_neg (by omega)]
  · by_cases h1 : r = 1
    · rw [if_neg h0, if_pos h1, if_neg h0, if_pos h1, pm_s]
      by_cases h : 1 = k ∧ 4 + i = j
      · rw [if_pos h, if_pos (by omega)]
      · rw [if_neg h, if_neg (by omega)]
    · rw [if_neg h0, if_neg h1, if_neg h0, if_neg h1]
      by_cases h2 : r < 7
      · rw [if_pos h2, if_pos h2, pm_s]
        by_cases h : 1 + 1 + r = k ∧ i = j
        · rw [if_pos h, if_pos (by omega)]
        · rw [if_neg h, if_neg (by omega)]
      · rw [if_neg h2, if_neg h2]
        by_cases h3 : r < 9
        · rw [if_pos h3, if_pos h3, pm_s]
          by_cases h : 1 + 2 + r = k ∧ i = j
          · rw [if_pos h, if_pos (by omega)]
          · rw [if_neg h, if_neg (by omega)]
        · rw [if_neg h3, if_neg h3]
          by_cases h4 : r < 13
          · rw [if_pos h4, if_pos h4, pm_s]
            by_cases h : 1 + 3 + r = k ∧ i = j
            · rw [if_pos h, if_pos (by omega)]
            · rw [if_neg h, if_neg (by omega)]
          · rw [if_neg h4, if_neg h4, if_neg (by omega)]
theorem xs_begin (x y t : Int32) (M N : xm_M) (h : xR M N) : ∃ (r : Int32) (M1 N1 : xm_M), fX3_begin x y t M = some (r, M1) ∧ fX4_begin x y t N = some (r, N1) ∧ xR M1 N1 := by
  unfold fX3_begin fX4_begin
  simp only [fX3_isPlace, fX4_isPlace, px_in, pm_in, pb_i, pm_bit (fun x => some (x, N))]
  by_cases h1 : -100000 ≤ x ∧ x ≤ 100000
  · by_cases h2 : -100000 ≤ y ∧ y ≤ 100000
    · by_cases h3 : 0 ≤ t ∧ t ≤ 3599999
      · simp only [if_pos h1, if_pos h2, if_pos h3, pb_i, show ¬ (1 : Int32) = 0 by decide, if_false, pb_lt, pm_s, Nat.reduceEqDiff, and_false, false_and, if_false]
        have e : N.1 1 11 = M.1 1 6 := h.1.2.2.1 2 (by omega)
        rw [e]
        refine ⟨_, _, _, rfl, rfl, xR_state h ?_ ?_ ?_⟩
        · intro k i hk
          simp only [pm_s]
          simp only [show ¬ k = 1 by omega, false_and, if_false]
        · intro k i hk
          simp only [pm_s]
          simp only [hk, false_and, if_false]
        · obtain ⟨hS, ⟨⟨p0, p1, p2, p3, p4, p5⟩, a2⟩, hC, hK, hL⟩ := (sS_iff _ _).mp h.1
          have x0 := Int32.le_iff_toInt_le.mp h1.1
          have x1 := Int32.le_iff_toInt_le.mp h1.2
          have y0 := Int32.le_iff_toInt_le.mp h2.1
          have y1 := Int32.le_iff_toInt_le.mp h2.2
          have t0 : 0 ≤ t.toInt := (pn_nn t).mp h3.1
          have t1 : t.toInt ≤ 3599999 := Int32.le_iff_toInt_le.mp h3.2
          have hV : ∀ r i, ¬ (r = 1 ∧ 3 ≤ i ∧ i < 6) → cVs 1 (xm_s (xm_s (xm_s M 1 7 x) 1 8 y) 1 9 t) r i = cVs 1 M r i := by
            intro r i hi
            rw [cVs_st, cVs_st, cVs_st, if_neg (by omega), if_neg (by omega), if_neg (by omega)]
          have hA : ∀ k, ¬ (12 ≤ k ∧ k < 15) → (xm_s (xm_s (xm_s N 1 12 x) 1 13 y) 1 14 t).1 1 k = N.1 1 k := by
            intro k hk
            simp only [pm_s]
            rw [if_neg (by omega), if_neg (by omega), if_neg (by omega)]
          have hV3 : cVs 1 (xm_s (xm_s (xm_s M 1 7 x) 1 8 y) 1 9 t) 1 3 = x := by simp [cVs_st]
          have hV4 : cVs 1 (xm_s (xm_s (xm_s M 1 7 x) 1 8 y) 1 9 t) 1 4 = y := by simp [cVs_st]
          have hV5 : cVs 1 (xm_s (xm_s (xm_s M 1 7 x) 1 8 y) 1 9 t) 1 5 = t := by simp [cVs_st]
          refine (sS_iff _ _).mpr ⟨?_, ⟨⟨?_, ?_, ?_, ?_, ?_, ?_⟩, ?_⟩, ?_, ?_, ?_⟩
          · intro j hj
            rw [hV 0 j (by omega), hA j (by omega)]
            exact hS j hj
          · rw [hV 1 0 (by omega)]; exact p0
          · rw [hV 1 1 (by omega)]; exact p1
          · rw [hV 1 2 (by omega)]; exact p2
          · rw [hV3]; exact ⟨x0, x1⟩
          · rw [hV4]; exact ⟨y0, y1⟩
          · rw [hV5]; omega
          · intro j hj
            by_cases z : j < 3
            · rw [hV 1 j (by omega), hA (9 + j) (by omega)]
              exact a2 j hj
            · have : j = 3 ∨ j = 4 ∨ j = 5 := by omega
              rcases this with z | z | z
              · subst z; rw [hV3]; simp [pm_s]
              · subst z; rw [hV4]; simp [pm_s]
              · subst z; rw [hV5]; simp [pm_s]
          · rw [hV 1 0 (by omega)]
            intro c hc
            exact okC_keep (hC c hc) (fun r _ _ => hV r c (by omega)) (fun i hi => hA _ (by omega))
          · rw [hV 1 1 (by omega)]
            intro c hc
            exact okK_keep (hK c hc) (fun r _ _ => hV r c (by omega)) (fun i hi => hA _ (by omega))
          · rw [hV 1 1 (by omega), hV 1 2 (by omega)]
            intro c hc
            exact okL_keep (hL c hc) (Int.le_refl _) (fun r _ _ => hV r c (by omega)) (fun i hi => hA _ (by omega))
      · simp only [if_pos h1, if_pos h2, if_neg h3, pb_i, show ¬ (1 : Int32) = 0 by decide, if_false, if_true]
        exact ⟨_, _, _, rfl, rfl, h⟩
    · simp only [if_pos h1, if_neg h2, pb_i, show ¬ (1 : Int32) = 0 by decide, if_false, if_true]
      exact ⟨_, _, _, rfl, rfl, h⟩
  · simp only [if_neg h1, pb_i, show ¬ (1 : Int32) = 0 by decide, if_false, if_true]
    exact ⟨_, _, _, rfl, rfl, h⟩
