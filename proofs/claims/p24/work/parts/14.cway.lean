/-! THE CLASS, the way: a move, a step, a sight -/
theorem px_move {M : xm_M} : fX2_move M = some (xm_s (xm_s (xm_s (xm_s M 49 3 (M.1 49 3 + sp_dx (M.1 49 11) (sp_ang (M.1 49 5) (M.1 49 10)))) 49 4 (M.1 49 4 + sp_dy (M.1 49 11) (sp_ang (M.1 49 5) (M.1 49 10)))) 49 5 (sp_head ((M.1 49 5).toInt64 + (M.1 49 10).toInt64))) 49 6 (M.1 49 6 + sp_ab32 (M.1 49 11))) := by
  unfold fX2_move
  have ha := sp_ang_in (M.1 49 5) (M.1 49 10)
  have hc := sp_mod36_in ha.1 ha.2
  simp only [px_head, pb_i, pb_lt, px_cosA]
  rw [show sp_head ((M.1 49 5).toInt64 + (M.1 49 10 / 2).toInt64) / 100 = sp_ang (M.1 49 5) (M.1 49 10) from rfl]
  rw [px_sine hc.1 hc.2]
  simp only [pb_i, pb_lt]
  rw [px_sine ha.1 ha.2]
  simp only [pb_i, pb_lt, pm_s, px_head]
  rfl
/-- the effect of an entry upon the way, place p ahead of it -/
def cE (V : sV) (e : Nat) (p : sP) (M M' : xm_M) : Prop :=
  (∀ k j, (k < 49 ∨ 68 < k ∨ (50 ≤ k ∧ k ≤ 55)) → M'.1 k j = M.1 k j) ∧
  (∀ r j, r < 11 → M'.1 (57 + r) j = if j = e then (sp_step V e p).2 r else M.1 (57 + r) j) ∧
  (M'.1 49 3, M'.1 49 4, M'.1 49 5, M'.1 49 6, M'.1 49 7) = (sp_step V e p).1 ∧
  M'.1 49 8 = M.1 49 8 + (if 0 ≤ (sp_step V e p).2 7 then 1 else 0) ∧
  M'.2 49 9 = M.2 49 9 + (if (sp_step V e p).2 0 = 4 then (sp_ab32 ((sp_step V e p).2 9)).toInt64 + (sp_ab32 ((sp_step V e p).2 10)).toInt64 else 0) ∧
  (∀ k, k < 5 → M'.1 68 k = M.1 68 k + (if (sp_step V e p).2 0 = nI k then 1 else 0))
def cFree (e : Nat) (M : xm_M) : Prop := ∀ r, r < 11 → M.1 (57 + r) e = sp_NG
theorem px_r11 {P : Nat → Prop} (h0 : P 0) (h1 : P 1) (h2 : P 2) (h3 : P 3) (h4 : P 4) (h5 : P 5) (h6 : P 6) (h7 : P 7) (h8 : P 8) (h9 : P 9) (h10 : P 10) : ∀ r, r < 11 → P r := by
  intro r hr
  match r, hr with
  | 0, _ => exact h0
  | 1, _ => exact h1
  | 2, _ => exact h2
  | 3, _ => exact h3
  | 4, _ => exact h4
  | 5, _ => exact h5
  | 6, _ => exact h6
  | 7, _ => exact h7
  | 8, _ => exact h8
  | 9, _ => exact h9
  | 10, _ => exact h10
theorem px_r5 {P : Nat → Prop} (h0 : P 0) (h1 : P 1) (h2 : P 2) (h3 : P 3) (h4 : P 4) : ∀ r, r < 5 → P r := by
  intro r hr
  match r, hr with
  | 0, _ => exact h0
  | 1, _ => exact h1
  | 2, _ => exact h2
  | 3, _ => exact h3
  | 4, _ => exact h4
theorem px_n0 : nI 0 = 0 := rfl
theorem px_n1 : nI 1 = 1 := rfl
theorem px_n2 : nI 2 = 2 := rfl
theorem px_n3 : nI 3 = 3 := rfl
theorem px_n4 : nI 4 = 4 := rfl
theorem cV_keep {ps : Nat} {M M' : xm_M} (hps : ps < 49 ∨ 68 < ps) (h : ∀ k j, (k < 49 ∨ 68 < k) → M'.1 k j = M.1 k j) : cV ps M' = cV ps M := by
  funext r j
  unfold cV
  repeat' split
  · exact h _ _ hps
  · exact h _ _ (by omega)
  · exact h _ _ (by omega)
  · exact h _ _ (by omega)
  · exact h _ _ (by omega)
  · rfl
theorem px_go0 {ps e : Nat} {M : xm_M} (hps : ps < 49 ∨ 68 < ps) (he : e < 120) (hf : cFree e M) (hb : ¬ (M.1 ps 5).toInt64 = 0) (hs : ¬ 0 ≤ (cV ps M) 9 e) (h0 : (cV ps M) 10 e = 0 ∧ (cV ps M) 11 e = 0) :
    ∃ M', fX2_go ps (nI e) M = some M' ∧ cE (cV ps M) e (M.1 49 3, M.1 49 4, M.1 49 5, M.1 49 6, M.1 49 7) M M' := by
  have h49 : ¬ ps = 49 := by omega
  have h57 : ¬ ps = 57 := by omega
  have h58 : ¬ ps = 58 := by omega
  have h59 : ¬ ps = 59 := by omega
  have h60 : ¬ ps = 60 := by omega
  have h68 : ¬ ps = 68 := by omega
  have h1 : M.1 14 e = 0 := h0.1
  have h2 : M.1 15 e = 0 := h0.2
  have h3 : sp_step (cV ps M) e (M.1 49 3, M.1 49 4, M.1 49 5, M.1 49 6, M.1 49 7) = ((M.1 49 3, M.1 49 4, M.1 49 5, M.1 49 6, sp_bias (cV ps M) e (M.1 49 7)), sp_row 0 0 0 (M.1 16 e) sp_NG sp_NG sp_NG sp_NG sp_NG sp_NG sp_NG) := by
    unfold sp_step
    rw [if_neg hs, if_pos h0]
    rfl
  unfold fX2_go
  simp only [px_lI_1 he, px_lI_2 he, px_lI_3 he, pb_i, px_fK_1 he, px_fK_2 he, px_fK_3 he, pb_v, h1, h2, if_true, px_KK_0 he, px_sI_5]
  rw [px_ratio (by simpa only [pm_s, h58, h59, h60, h57, h68, false_and, if_false] using hb)]
  simp only [pb_l, pb_lt, pm_s, Nat.reduceEqDiff, h57, h58, h59, h60, h68, false_and, if_false]
  refine ⟨_, rfl, ?_⟩
  unfold cE
  rw [h3]
  refine ⟨?_, ?_, ?_, ?_, ?_, ?_⟩
  · intro k j hk
    simp only [pm_s]
    simp only [show ¬ k = 57 by omega, show ¬ k = 58 by omega, show ¬ k = 59 by omega, show ¬ k = 60 by omega, show ¬ k = 68 by omega, show ¬ k = 49 by omega, false_and, if_false]
  · intro r j hr
    revert r
    refine px_r11 ?_ ?_ ?_ ?_ ?_ ?_ ?_ ?_ ?_ ?_ ?_
    all_goals simp [pm_s, sp_row]
    all_goals (intro hj; subst hj; first | exact hf 4 (by decide) | exact hf 5 (by decide) | exact hf 6 (by decide) | exact hf 7 (by decide) | exact hf 8 (by decide) | exact hf 9 (by decide) | exact hf 10 (by decide))
  · simp [pm_s]
    rfl
  · simp [pm_s, sp_row, sp_NG]
  · simp [pm_s2, sp_row]
  · refine px_r5 ?_ ?_ ?_ ?_ ?_
    all_goals simp [pm_s, sp_row, px_n0, px_n1, px_n2, px_n3, px_n4]
theorem sp_baseOk {b : Int32} (h0 : 100 ≤ b.toInt) (h1 : b.toInt ≤ 1000) : (1000 * b.toInt64).toInt = 1000 * b.toInt ∧ ¬ 1000 * b.toInt64 = 0 := by
  have e1 : (1000 * b.toInt64).toInt = 1000 * b.toInt := by
    rw [pn_mul64 (x := 1000) (by rw [pn_i64, show (1000 : Int64).toInt = 1000 from rfl]; omega) (by rw [pn_i64, show (1000 : Int64).toInt = 1000 from rfl]; omega), pn_i64]; rfl
  refine ⟨e1, fun h => ?_⟩
  have h2 := congrArg Int64.toInt h
  rw [e1, show (0 : Int64).toInt = 0 from rfl] at h2
  omega
/-- a step whose corridors aren't gone through yet -/
def cG (V : sV) (e : Nat) (p : sP) (M M' : xm_M) : Prop :=
  (∀ k j, (k < 49 ∨ 68 < k ∨ (50 ≤ k ∧ k ≤ 55)) → M'.1 k j = M.1 k j) ∧
  (∀ r j, r < 11 → M'.1 (57 + r) j = if j = e then sp_row (sp_K V e p.2.2.2.2) (V 10 e) (V 11 e) (V 12 e) (sp_stepW V e).toInt32 (sp_T V e p.2.2.2.2) (sp_Dd V e p.2.2.2.2) sp_NG sp_NG sp_NG sp_NG r else M.1 (57 + r) j) ∧
  (M'.1 49 3 = sp_X V e p ∧ M'.1 49 4 = sp_Y V e p ∧ M'.1 49 5 = sp_H V e p ∧ M'.1 49 6 = sp_L V e p ∧ M'.1 49 7 = p.2.2.2.2) ∧
  M'.1 49 8 = M.1 49 8 ∧ M'.2 49 9 = M.2 49 9 ∧
  (∀ k, k < 5 → M'.1 68 k = M.1 68 k + (if sp_K V e p.2.2.2.2 = nI k then 1 else 0))
theorem sp_kind_in (sl : Int32) (w v : Int64) : sp_kind sl w v = 1 ∨ sp_kind sl w v = 2 ∨ sp_kind sl w v = 3 := by
  unfold sp_kind
  split
  · split
    · exact Or.inr (Or.inl rfl)
    · exact Or.inr (Or.inr rfl)
  · exact Or.inl rfl
theorem px_go1a {ps e : Nat} {M : xm_M} (hps : ps < 49 ∨ 68 < ps) (he : e < 120) (hf : cFree e M) (hok : sp_ok (cV ps M)) (h0 : ¬ ((cV ps M) 10 e = 0 ∧ (cV ps M) 11 e = 0)) :
    ∃ M', fX2_go ps (nI e) M = xm_bv (fX2_followCorridor ps (nI e) M') (fun M18 => some M18) ∧ cG (cV ps M) e (M.1 49 3, M.1 49 4, M.1 49 5, M.1 49 6, M.1 49 7) M M' := by
  have h49 : ¬ ps = 49 := by omega
  have h57 : ¬ ps = 57 := by omega
  have h58 : ¬ ps = 58 := by omega
  have h59 : ¬ ps = 59 := by omega
  have h60 : ¬ ps = 60 := by omega
  have h61 : ¬ ps = 61 := by omega
  have h62 : ¬ ps = 62 := by omega
  have h63 : ¬ ps = 63 := by omega
  have h68 : ¬ ps = 68 := by omega
  have hba : ¬ 1000 * (M.1 ps 2).toInt64 = 0 := (sp_baseOk hok.2.2.1.1 hok.2.2.1.2).2
  have hgo : fX2_go ps (nI e) M = fX2_go_113 ps (nI e) (M.1 14 e) (M.1 15 e) (xm_s (xm_s (xm_s M 58 e (M.1 14 e)) 59 e (M.1 15 e)) 60 e (M.1 16 e)) := by
    unfold fX2_go
    simp only [px_lI_1 he, px_lI_2 he, px_lI_3 he, pb_i, px_fK_1 he, px_fK_2 he, px_fK_3 he, pb_v]
    by_cases h1 : M.1 14 e = 0
    · rw [if_pos h1, if_neg (show ¬ M.1 15 e = 0 from fun z => h0 ⟨h1, z⟩)]
    · rw [if_neg h1]
  rw [hgo]
  unfold fX2_go_113
  simp only [px_sI_0, px_sI_1, pb_i]
  rw [px_weigh hps he (by simpa only [pm_s, h58, h59, h60, false_and, if_false] using hba) (sp_stepW (cV ps M) e) (sp_v (M.1 49 7) (M.1 16 e)) (by simp only [pm_s, h58, h59, h60, false_and, if_false]; rfl) (by simp only [pm_s, Nat.reduceEqDiff, false_and, if_false, and_self, if_true]) (sp_K (cV ps M) e (M.1 49 7)) (by simp only [pm_s, h58, h59, h60, false_and, if_false]; rfl)]
  simp only [pb_v, px_fK_5 he, px_fK_6 he]
  rw [px_move]
  simp only [pb_v, pm_s, Nat.reduceEqDiff, h57, h58, h59, h60, h61, h62, h63, h68, false_and, if_false, and_self, if_true, and_false, true_and]
  have eT : sp_turn (M.1 ps 3) (M.1 ps 4) (sp_stepW (cV ps M) e) (sp_v (M.1 49 7) (M.1 16 e)) = sp_T (cV ps M) e (M.1 49 7) := rfl
  have eD : sp_d (M.1 ps 3) (M.1 ps 2) ((M.1 ps 0).toInt64 * (M.1 14 e).toInt64) ((M.1 ps 1).toInt64 * (M.1 15 e).toInt64) (sp_stepW (cV ps M) e) (sp_v (M.1 49 7) (M.1 16 e)) = sp_Dd (cV ps M) e (M.1 49 7) := rfl
  simp only [eT, eD]
  refine ⟨_, rfl, ?_⟩
  unfold cG
  have hk : sp_K (cV ps M) e (M.1 49 7) = 1 ∨ sp_K (cV ps M) e (M.1 49 7) = 2 ∨ sp_K (cV ps M) e (M.1 49 7) = 3 := sp_kind_in _ _ _
  refine ⟨?_, ?_, ⟨?_, ?_, ?_, ?_, ?_⟩, ?_, ?_, ?_⟩
  · intro k j hk
    simp only [pm_s]
    simp only [show ¬ k = 57 by omega, show ¬ k = 58 by omega, show ¬ k = 59 by omega, show ¬ k = 60 by omega, show ¬ k = 61 by omega, show ¬ k = 62 by omega, show ¬ k = 63 by omega, show ¬ k = 68 by omega, show ¬ k = 49 by omega, false_and, if_false]
  · intro r j hr
    revert r
    have hk2 : ∀ z, sp_row z (cV ps M 10 e) (cV ps M 11 e) (cV ps M 12 e) = sp_row z (M.1 14 e) (M.1 15 e) (M.1 16 e) := fun z => rfl
    simp only [hk2]
    refine px_r11 ?_ ?_ ?_ ?_ ?_ ?_ ?_ ?_ ?_ ?_ ?_
    all_goals simp [pm_s, sp_row]
    all_goals (intro hj; subst hj; first | exact hf 7 (by decide) | exact hf 8 (by decide) | exact hf 9 (by decide) | exact hf 10 (by decide))
  · simp [pm_s]; rfl
  · simp [pm_s]; rfl
  · simp [pm_s]; rfl
  · simp [pm_s]; rfl
  · simp [pm_s]
  · simp [pm_s]
  · simp [pm_s2]
  · refine px_r5 ?_ ?_ ?_ ?_ ?_
    all_goals (rcases hk with h | h | h <;> rw [h] <;> simp [pm_s, px_n0, px_n1, px_n2, px_n3, px_n4])
