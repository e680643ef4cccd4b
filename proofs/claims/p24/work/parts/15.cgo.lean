/-! THE CLASS, a step whole, a sight, the way along the log -/
theorem sp_fst_in {P : Nat → Prop} : ∀ (n c k : Nat), sp_fst P n c = some k → c ≤ k ∧ k < c + n ∧ P k := by
  intro n
  induction n with
  | zero => intro c k h; exact absurd h (by unfold sp_fst; exact fun z => by cases z)
  | succ n ih =>
    intro c k h
    unfold sp_fst at h
    by_cases hp : P c
    · rw [if_pos hp] at h
      have := Option.some.inj h
      subst this
      exact ⟨Nat.le_refl _, by omega, hp⟩
    · rw [if_neg hp] at h
      have := ih (c + 1) k h
      exact ⟨by omega, by omega, this.2.2⟩
theorem px_go1 {ps e : Nat} {M : xm_M} (hps : ps < 49 ∨ 68 < ps) (he : e < 120) (hf : cFree e M) (hok : sp_ok (cV ps M)) (hs : ¬ 0 ≤ (cV ps M) 9 e) (h0 : ¬ ((cV ps M) 10 e = 0 ∧ (cV ps M) 11 e = 0)) :
    ∃ M', fX2_go ps (nI e) M = some M' ∧ cE (cV ps M) e (M.1 49 3, M.1 49 4, M.1 49 5, M.1 49 6, M.1 49 7) M M' := by
  obtain ⟨Mv, hgo, hg⟩ := px_go1a hps he hf hok h0
  obtain ⟨nc, hn8, hnc, hnc2, hnc3⟩ := pn_ofI (n := 8) hok.2.2.2.2.2.2.2.2.2.1.1 hok.2.2.2.2.2.2.2.2.2.1.2
  have hcor := hok.2.2.2.2.2.2.2.2.2.2.2.2.2.2.2.1
  obtain ⟨g1, g2, ⟨g3, g4, g5, g6, g7⟩, g8, g9, g10⟩ := hg
  have hV : cV ps Mv = cV ps M := cV_keep hps (fun k j hk => g1 k j (by omega))
  generalize hp : (M.1 49 3, M.1 49 4, M.1 49 5, M.1 49 6, M.1 49 7) = p at g2 g3 g4 g5 g6 g7 g10 ⊢
  have hH := sp_head_in (p.2.2.1.toInt64 + (sp_T (cV ps M) e p.2.2.2.2).toInt64)
  rw [hgo]
  unfold fX2_followCorridor
  rw [pb_lt]
  have hc := px_corr (M := Mv) (nc := nc) hps he (by rw [g1 1 4 (by omega)]; exact hnc) hn8 g5 g3 g4 hH.1 hH.2 (fun c hc => by
    rw [g1 8 c (by omega)]
    exact (hcor c (by rw [hnc2]; omega)).2) xm_N 0 (Nat.zero_le _) (by show nc - 0 < 4096; omega)
  rw [hV, Nat.sub_zero, ← hnc3, show nI 0 = 0 from rfl] at hc
  rw [hc, pb_v]
  refine ⟨_, rfl, ?_⟩
  have hst : sp_step (cV ps M) e p = match sp_fst (sp_pulls (cV ps M) (sp_X (cV ps M) e p) (sp_Y (cV ps M) e p) (sp_H (cV ps M) e p)) (cV ps M 1 0).toNatClampNeg 0 with
    | none => ((sp_X (cV ps M) e p, sp_Y (cV ps M) e p, sp_H (cV ps M) e p, sp_L (cV ps M) e p, p.2.2.2.2), sp_row (sp_K (cV ps M) e p.2.2.2.2) ((cV ps M) 10 e) ((cV ps M) 11 e) ((cV ps M) 12 e) (sp_stepW (cV ps M) e).toInt32 (sp_T (cV ps M) e p.2.2.2.2) (sp_Dd (cV ps M) e p.2.2.2.2) sp_NG sp_NG sp_NG sp_NG)
    | some c => ((sp_X (cV ps M) e p, sp_Y (cV ps M) e p, sp_head ((sp_H (cV ps M) e p).toInt64 - (sp_pl (cV ps M) (sp_H (cV ps M) e p) c).toInt64), sp_L (cV ps M) e p, p.2.2.2.2), sp_row (sp_K (cV ps M) e p.2.2.2.2) ((cV ps M) 10 e) ((cV ps M) 11 e) ((cV ps M) 12 e) (sp_stepW (cV ps M) e).toInt32 (sp_T (cV ps M) e p.2.2.2.2) (sp_Dd (cV ps M) e p.2.2.2.2) (nI c) (sp_pl (cV ps M) (sp_H (cV ps M) e p) c) sp_NG sp_NG) := by
    unfold sp_step
    rw [if_neg hs, if_neg h0]
    rfl
  have hk : sp_K (cV ps M) e p.2.2.2.2 = 1 ∨ sp_K (cV ps M) e p.2.2.2.2 = 2 ∨ sp_K (cV ps M) e p.2.2.2.2 = 3 := sp_kind_in _ _ _
  have hk4 : ¬ sp_K (cV ps M) e p.2.2.2.2 = 4 := by
    rcases hk with h | h | h <;> rw [h] <;> decide
  cases hw : sp_fst (sp_pulls (cV ps M) (sp_X (cV ps M) e p) (sp_Y (cV ps M) e p) (sp_H (cV ps M) e p)) (cV ps M 1 0).toNatClampNeg 0 with
  | none =>
    rw [hw] at hst
    unfold cE
    rw [hst]
    unfold px_pulled
    refine ⟨g1, g2, ?_, ?_, ?_, ?_⟩
    · rw [g3, g4, g5, g6, g7]
    · rw [g8]
      exact (Int32.add_zero _).symm
    · rw [g9]
      simp only [sp_row, if_neg hk4]
      exact (Int64.add_zero _).symm
    · exact g10
  | some c =>
    have hc8 : c < 8 := by
      have := (sp_fst_in _ _ _ hw).2.1
      rw [hnc3] at this
      omega
    rw [hw] at hst
    unfold cE
    rw [hst]
    unfold px_pulled
    rw [hV]
    refine ⟨?_, ?_, ?_, ?_, ?_, ?_⟩
    · intro k j hk
      simp only [pm_s]
      simp only [show ¬ k = 64 by omega, show ¬ k = 65 by omega, show ¬ k = 49 by omega, false_and, if_false]
      exact g1 k j hk
    · intro r j hr
      revert r
      have q := fun r hr => g2 r j hr
      refine px_r11 ?_ ?_ ?_ ?_ ?_ ?_ ?_ ?_ ?_ ?_ ?_
      · have := q 0 (by decide); simp [pm_s, sp_row] at this ⊢; exact this
      · have := q 1 (by decide); simp [pm_s, sp_row] at this ⊢; exact this
      · have := q 2 (by decide); simp [pm_s, sp_row] at this ⊢; exact this
      · have := q 3 (by decide); simp [pm_s, sp_row] at this ⊢; exact this
      · have := q 4 (by decide); simp [pm_s, sp_row] at this ⊢; exact this
      · have := q 5 (by decide); simp [pm_s, sp_row] at this ⊢; exact this
      · have := q 6 (by decide); simp [pm_s, sp_row] at this ⊢; exact this
      · have := q 7 (by decide)
        simp [pm_s, sp_row] at this ⊢
        by_cases hj : j = e
        · rw [if_pos hj, if_pos hj]
        · rw [if_neg hj, if_neg hj, this, if_neg hj]
      · have := q 8 (by decide)
        simp [pm_s, sp_row] at this ⊢
        by_cases hj : j = e
        · rw [if_pos hj, if_pos hj]
        · rw [if_neg hj, if_neg hj, this, if_neg hj]
      · have := q 9 (by decide); simp [pm_s, sp_row] at this ⊢; exact this
      · have := q 10 (by decide); simp [pm_s, sp_row] at this ⊢; exact this
    · simp [pm_s, g3, g4, g6, g7]
    · have h9 : (0 : Int32) ≤ nI c := Int32.le_iff_toInt_le.mpr (by rw [nI_toInt (by omega)]; exact Int.natCast_nonneg c)
      simp [pm_s, g8, sp_row, h9]
    · simp [pm_s2, g9, sp_row, hk4]
    · intro k hk
      simp only [pm_s]
      simp only [show ¬ 68 = 64 by omega, show ¬ 68 = 65 by omega, show ¬ 68 = 49 by omega, false_and, if_false]
      exact g10 k hk
