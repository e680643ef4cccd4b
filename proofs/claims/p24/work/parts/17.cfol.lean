theorem px_fill {k n : Nat} {v : Int32} (hn : n < 2 ^ 31) : ∀ (q c : Nat) (M : xm_M), c ≤ n → n - c < q → ∃ M', fJ7_fill_53178_5_it k n q v (nI c) (Int32.ofNat n) M = some M' ∧ (∀ a b, M'.1 a b = if a = k ∧ c ≤ b ∧ b < n then v else M.1 a b) ∧ M'.2 = M.2 := by
  intro q
  induction q with
  | zero => intro c M _ h; omega
  | succ q ih =>
    intro c M hc hq
    show ∃ M', fJ7_fill_53178_5 k n (fJ7_fill_53178_5_it k n q) v (nI c) (Int32.ofNat n) M = some M' ∧ _
    unfold fJ7_fill_53178_5
    have e1 : Int32.ofNat n = nI n := rfl
    by_cases hlt : c < n
    · rw [if_neg (by rw [e1, nI_leI (by omega) (by omega)]; omega), if_neg (px_kn hlt hn), pb_lt, pb_lt, show nI c + Int32.ofInt 1 = nI (c + 1) from (nI_succ c).symm, nI_clamp (by omega)]
      obtain ⟨M', h1, h2, h3⟩ := ih (c + 1) (xm_s M k c v) (by omega) (by omega)
      refine ⟨M', h1, ?_, h3⟩
      intro a b
      rw [h2 a b, pm_s]
      by_cases hb : b = c
      · subst hb
        by_cases ha : a = k
        · rw [if_neg (by omega), if_pos ⟨ha, rfl⟩, if_pos ⟨ha, by omega, by omega⟩]
        · rw [if_neg (by omega), if_neg (by omega), if_neg (by omega)]
      · by_cases hr : a = k ∧ c ≤ b ∧ b < n
        · rw [if_pos hr, if_pos (by omega)]
        · rw [if_neg hr, if_neg (by omega), if_neg (by omega)]
    · rw [if_pos (by rw [e1, nI_leI (by omega) (by omega)]; omega)]
      refine ⟨M, rfl, ?_, rfl⟩
      intro a b
      rw [if_neg (by omega)]
theorem px_fill0 {k n : Nat} {v : Int32} (hn : n < 4000) (M : xm_M) : ∃ M', fJ7_fill_53178 k n v M = some M' ∧ (∀ a b, M'.1 a b = if a = k ∧ b < n then v else M.1 a b) ∧ M'.2 = M.2 := by
  unfold fJ7_fill_53178
  rw [pb_lt, pb_lt]
  obtain ⟨M', h1, h2, h3⟩ := px_fill (k := k) (n := n) (v := v) (by omega) xm_N 0 M (by omega) (by show n - 0 < 4096; omega)
  refine ⟨M', h1, ?_, h3⟩
  intro a b
  rw [h2 a b]
  by_cases h : a = k ∧ b < n
  · rw [if_pos h, if_pos ⟨h.1, Nat.zero_le _, h.2⟩]
  · rw [if_neg h, if_neg (fun z => h ⟨z.1, z.2.2⟩)]
theorem px_F95 {ps N : Nat} {V : sV} {M0 : xm_M} (hps : ps < 49 ∨ 68 < ps) (hV : cV ps M0 = V) (hok : sp_ok V) (hN : V 1 2 = nI N) (hN2 : N ≤ 120) : ∀ (q e : Nat) (M : xm_M), e ≤ N → N - e < q → cW V M0 M e → ∃ M', fX2_follow_95_it ps q (nI e) M = some M' ∧ cW V M0 M' N := by
  intro q
  induction q with
  | zero => intro e M _ h; omega
  | succ q ih =>
    intro e M he hq hW
    show ∃ M', fX2_follow_95 ps (fX2_follow_95_it ps q) (nI e) M = some M' ∧ _
    unfold fX2_follow_95
    have hfr := hW.1
    have hVM : cV ps M = V := by rw [← hV]; exact cV_keep hps hfr
    have e6 : M.1 1 6 = nI N := by rw [hfr 1 6 (by omega), ← hN, ← hV]; rfl
    by_cases hlt : e < N
    · rw [if_neg (by rw [e6, nI_leI (by omega) (by omega)]; omega), px_isSight (by omega), pb_i]
      have hf : cFree e M := fun r hr => by rw [hW.2.1 r e hr (by omega), if_neg (by omega)]
      have hlog := hok.2.2.2.2.2.2.2.2.2.2.2.2.2.2.2.2.2 e (by rw [hN, nI_toInt (by omega)]; omega)
      have e9 : M.1 13 e = V 9 e := by rw [← hVM]; rfl
      have hstep : ∀ M', cE (cV ps M) e (M.1 49 3, M.1 49 4, M.1 49 5, M.1 49 6, M.1 49 7) M M' → ∃ M2, fX2_follow_127 ps (fX2_follow_95_it ps q) (nI e) M' = some M2 ∧ cW V M0 M2 N := by
        intro M' hE
        rw [hVM] at hE
        obtain ⟨M2, h1, h2⟩ := px_W1 (by omega) hW hE
        unfold fX2_follow_127
        have e1 : nI e + 1 = nI (e + 1) := (nI_succ e).symm
        have e2 : nI e + Int32.ofInt 1 = nI (e + 1) := (nI_succ e).symm
        rw [e1, e2, h1, pb_v, pb_lt]
        exact ih (e + 1) M2 (by omega) (by omega) h2
      by_cases hs : 0 ≤ V 9 e
      · rw [e9, if_pos hs, if_neg (by decide)]
        have hr : 0 ≤ (V 9 e).toInt ∧ (V 9 e).toInt < (V 1 1).toInt := by
          rcases hlog with h | h
          · rw [h.1] at hs
            exact absurd hs (by decide)
          · exact h
        have hm6 := hok.2.2.2.2.2.2.2.2.2.2.1.2
        obtain ⟨nm, n1, n2, n3, n4⟩ := pn_ofI (n := 5) hr.1 (by omega)
        obtain ⟨M', h1, h2⟩ := px_meet (ps := ps) (e := e) (nm := nm) (M := M) (by omega) hf (by rw [e9]; exact n2) (by omega)
        rw [h1, pb_v]
        exact hstep M' h2
      · rw [e9, if_neg hs, if_pos rfl]
        have hgo : ∃ M', fX2_go ps (nI e) M = some M' ∧ cE (cV ps M) e (M.1 49 3, M.1 49 4, M.1 49 5, M.1 49 6, M.1 49 7) M M' := by
          by_cases h0 : V 10 e = 0 ∧ V 11 e = 0
          · refine px_go0 hps (by omega) hf ?_ (by rw [hVM]; exact hs) (by rw [hVM]; exact h0)
            have hb := hok.2.2.2.2.2.1.1
            have e5 : M.1 ps 5 = V 0 5 := by rw [← hVM]; rfl
            rw [e5]
            intro h
            have h2 := congrArg Int64.toInt h
            rw [pn_i64, show (0 : Int64).toInt = 0 from rfl] at h2
            omega
          · exact px_go1 hps (by omega) hf (by rw [hVM]; exact hok) (by rw [hVM]; exact hs) (by rw [hVM]; exact h0)
        obtain ⟨M', h1, h2⟩ := hgo
        rw [h1, pb_v]
        exact hstep M' h2
    · rw [if_pos (by rw [e6, nI_leI (by omega) (by omega)]; omega)]
      have : e = N := by omega
      subst this
      exact ⟨M, rfl, hW⟩
theorem px_F62 {ps N : Nat} {V : sV} {M0 : xm_M} (hps : ps < 49 ∨ 68 < ps) (hV : cV ps M0 = V) (hok : sp_ok V) (hN : V 1 2 = nI N) (hN2 : N ≤ 120) : ∀ (q c : Nat) (M : xm_M), c ≤ 11 → 11 - c < q → (∀ k j, (k < 49 ∨ 68 < k) → M.1 k j = M0.1 k j) → (∀ r j, r < c → j < 120 → M.1 (57 + r) j = sp_NG) → (M.1 49 3, M.1 49 4, M.1 49 5, M.1 49 6, M.1 49 7) = sp_start V → M.1 49 8 = 0 → M.2 49 9 = 0 → (∀ k, k < 5 → M.1 68 k = 0) → ∃ M', fX2_follow_62_it ps q (nI c) M = some M' ∧ cW V M0 M' N := by
  intro q
  induction q with
  | zero => intro e M _ h; omega
  | succ q ih =>
    intro c M hc hq h1 h2 h3 h4 h5 h6
    show ∃ M', fX2_follow_62 ps (fX2_follow_62_it ps q) (nI c) M = some M' ∧ _
    unfold fX2_follow_62
    have e11 : (11 : Int32) = nI 11 := rfl
    by_cases hlt : c < 11
    · rw [if_neg (by rw [e11, nI_leI (by omega) (by omega)]; omega), if_neg (px_kn hlt (by omega)), nI_clamp (by omega)]
      obtain ⟨M', g1, g2, g3⟩ := px_fill0 (k := 57 + c) (n := 120) (v := -1000000006) (by omega) M
      rw [g1, pb_v, pb_lt, show nI c + Int32.ofInt 1 = nI (c + 1) from (nI_succ c).symm]
      have g4 : ∀ a b, ¬ a = 57 + c → M'.1 a b = M.1 a b := fun a b h => by rw [g2 a b, if_neg (fun z => h z.1)]
      refine ih (c + 1) M' (by omega) (by omega) ?_ ?_ ?_ ?_ ?_ ?_
      · intro k j hk
        rw [g4 k j (by omega), h1 k j hk]
      · intro r j hr hj
        by_cases hrc : r = c
        · subst hrc
          rw [g2, if_pos ⟨rfl, hj⟩]
          rfl
        · rw [g4 _ _ (by omega)]
          exact h2 r j (by omega) hj
      · rw [g4 _ _ (by omega), g4 _ _ (by omega), g4 _ _ (by omega), g4 _ _ (by omega), g4 _ _ (by omega)]
        exact h3
      · rw [g4 _ _ (by omega), h4]
      · rw [g3, h5]
      · intro k hk
        rw [g4 _ _ (by omega), h6 k hk]
    · rw [if_pos (by rw [e11, nI_leI (by omega) (by omega)]; omega)]
      rw [show (0 : Int32) = nI 0 from rfl, px_keepPose (by omega), pb_v, pb_lt]
      refine px_F95 hps hV hok hN hN2 xm_N 0 _ (by omega) (by show N - 0 < 4096; omega) ?_
      refine ⟨?_, ?_, ?_, ?_, ?_, ?_, ?_⟩
      · intro k j hk
        simp only [pm_s]
        simp only [show ¬ k = 51 by omega, show ¬ k = 52 by omega, show ¬ k = 53 by omega, show ¬ k = 54 by omega, show ¬ k = 55 by omega, false_and, if_false]
        exact h1 k j hk
      · intro r j hr hj
        simp only [pm_s]
        simp only [show ¬ 57 + r = 51 by omega, show ¬ 57 + r = 52 by omega, show ¬ 57 + r = 53 by omega, show ¬ 57 + r = 54 by omega, show ¬ 57 + r = 55 by omega, false_and, if_false]
        rw [if_neg (by omega)]
        exact h2 r j (by omega) hj
      · simp only [pm_s, Nat.reduceEqDiff, false_and, if_false]
        exact h3
      · intro j hj
        have : j = 0 := by omega
        subst this
        simp only [pm_s, Nat.reduceEqDiff, false_and, if_false, and_self, if_true]
        exact h3
      · simp only [pm_s, Nat.reduceEqDiff, false_and, if_false]
        exact h4
      · exact h5
      · intro k hk
        simp only [pm_s, Nat.reduceEqDiff, false_and, if_false]
        exact h6 k hk
theorem px_follow {ps N : Nat} {V : sV} {M : xm_M} (hps : ps < 49 ∨ 68 < ps) (hV : cV ps M = V) (hok : sp_ok V) (hN : V 1 2 = nI N) (hN2 : N ≤ 120) : ∃ M', fX2_follow ps M = some M' ∧ cW V M M' N := by
  unfold fX2_follow
  simp only [pb_lt, pm_s, pm_l, Nat.reduceEqDiff, false_and, if_false]
  obtain ⟨M', g1, g2, g3⟩ := px_fill0 (k := 68) (n := 5) (v := 0) (by omega) (xm_sl (xm_s (xm_s (xm_s (xm_s (xm_s (xm_s M 49 3 (1000 * M.1 1 7)) 49 4 (1000 * M.1 1 8)) 49 5 (M.1 1 9)) 49 6 0) 49 7 0) 49 8 0) 49 9 0)
  rw [g1, pb_v]
  have g4 : ∀ a b, ¬ a = 68 → M'.1 a b = (xm_sl (xm_s (xm_s (xm_s (xm_s (xm_s (xm_s M 49 3 (1000 * M.1 1 7)) 49 4 (1000 * M.1 1 8)) 49 5 (M.1 1 9)) 49 6 0) 49 7 0) 49 8 0) 49 9 0).1 a b := fun a b h => by rw [g2 a b, if_neg (fun z => h z.1)]
  refine px_F62 hps hV hok hN hN2 xm_N 0 _ (by omega) (by show 11 - 0 < 4096; omega) ?_ ?_ ?_ ?_ ?_ ?_
  · intro k j hk
    rw [g4 _ _ (by omega)]
    simp only [pm_s, pm_l]
    simp only [show ¬ k = 49 by omega, false_and, if_false]
  · intro r j hr
    omega
  · rw [g4 _ _ (by omega), g4 _ _ (by omega), g4 _ _ (by omega), g4 _ _ (by omega), g4 _ _ (by omega)]
    simp only [pm_s, pm_l, Nat.reduceEqDiff, false_and, and_false, if_false, and_self, if_true, true_and]
    rw [← hV]
    rfl
  · rw [g4 _ _ (by omega)]
    simp only [pm_s, pm_l, and_self, if_true]
  · rw [g3]
    simp only [pm_l2, and_self, if_true]
  · intro k hk
    rw [g2, if_pos ⟨rfl, hk⟩]
