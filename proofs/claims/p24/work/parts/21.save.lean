/-! saving -/
theorem px_copyN {k j n : Nat} (hn : n < 4096) (M : xm_M) : ∃ M', fX3_copy k n j n M = some M' ∧ (∀ a b, M'.1 a b = if a = j ∧ b < n then M.1 k b else M.1 a b) ∧ M'.2 = M.2 := by
  unfold fX3_copy
  have e0 : (0 : Int32).toNatClampNeg = 0 := by decide
  have e1 : Int32.ofNat n = nI n := rfl
  have e2 : ¬ nI n < 0 := fun z => px_kn (n := 5000) (show n < 5000 by omega) (by omega) (Or.inl z)
  simp only [ite_self, e1, e0, nI_clamp (show n < 2 ^ 31 by omega), Nat.zero_add]
  rw [if_neg (by
    intro z
    rcases z with z | z | z | z | z
    · exact absurd z (by decide)
    · exact absurd z (by decide)
    · exact e2 z
    · omega
    · omega), pb_lt]
  refine ⟨_, rfl, ?_, rfl⟩
  intro a b
  rw [pm_r]
  unfold va_cpy
  by_cases h : a = j
  · by_cases hb : b < n
    · rw [if_pos h, if_pos (show 0 ≤ b ∧ b < 0 + n by omega), if_pos ⟨h, hb⟩, Nat.zero_add, Nat.sub_zero]
    · rw [if_pos h, if_neg (show ¬ (0 ≤ b ∧ b < 0 + n) by omega), if_neg (fun z => hb z.2), h]
  · rw [if_neg h, if_neg (fun z => h z.1)]
theorem px_copyR {k N k0 n j j0 : Nat} (hN : N < 1000) (hn : n < 4096) (hd : k0 + N ≤ j0 ∨ j0 + N ≤ k0) (M0 : xm_M) : ∃ M', fX3_copy_ k N k0 n j N j0 n M0 = some M' ∧ (∀ a b, M'.1 a b = if j0 ≤ a ∧ a < j0 + N ∧ b < n then M0.1 (k0 + (a - j0)) b else M0.1 a b) ∧ M'.2 = M0.2 := by
  have loop : ∀ (q c : Nat) (M : xm_M), c ≤ N → N - c < q → (∀ a b, M.1 a b = if j0 ≤ a ∧ a < j0 + c ∧ b < n then M0.1 (k0 + (a - j0)) b else M0.1 a b) → M.2 = M0.2 → ∃ M', fX3_copy__2_it k N k0 n j N j0 n q (nI c) M = some M' ∧ (∀ a b, M'.1 a b = if j0 ≤ a ∧ a < j0 + N ∧ b < n then M0.1 (k0 + (a - j0)) b else M0.1 a b) ∧ M'.2 = M0.2 := by
    intro q
    induction q with
    | zero => intro c _ _ h; omega
    | succ q ih =>
      intro c M hc hq hM hM2
      show ∃ M', fX3_copy__2 k N k0 n j N j0 n (fX3_copy__2_it k N k0 n j N j0 n q) (nI c) M = some M' ∧ _
      unfold fX3_copy__2
      have e1 : Int32.ofNat N = nI N := rfl
      by_cases hlt : c < N
      · rw [if_neg (by rw [e1, nI_leI (by omega) (by omega)]; omega), if_neg (by rw [e1, nI_leI (by omega) (by omega)]; omega), if_neg (px_kn hlt (by omega)), if_neg (px_kn hlt (by omega)), nI_clamp (by omega)]
        obtain ⟨M1, a1, a2, a3⟩ := px_copyN (k := k0 + c) (j := j0 + c) hn M
        rw [a1, pb_v, pb_lt, show nI c + Int32.ofInt 1 = nI (c + 1) from (nI_succ c).symm]
        refine ih (c + 1) M1 (by omega) (by omega) ?_ (a3.trans hM2)
        intro a b
        rw [a2]
        by_cases h : a = j0 + c ∧ b < n
        · rw [if_pos h, hM, if_neg (by omega), if_pos (by omega), show k0 + (a - j0) = k0 + c by omega]
        · rw [if_neg h, hM]
          by_cases h2 : j0 ≤ a ∧ a < j0 + c ∧ b < n
          · rw [if_pos h2, if_pos (by omega)]
          · rw [if_neg h2, if_neg (by omega)]
      · rw [if_pos (by rw [e1, nI_leI (by omega) (by omega)]; omega)]
        have : c = N := by omega
        subst this
        exact ⟨M, rfl, hM, hM2⟩
  unfold fX3_copy_
  rw [pb_lt]
  exact loop xm_N 0 M0 (Nat.zero_le _) (by show N - 0 < 4096; omega) (fun a b => by rw [if_neg (by omega)]) rfl
theorem px_take_17_1 (M : xm_M) : ∃ M', fX1_takeOver_17_1 M = some M' ∧ (∀ a b, (a < 17 ∨ 33 ≤ a ∨ (a = 17 ∧ b = 10)) → M'.1 a b = M.1 a b) ∧
    (∀ b, b < 9 → cVs 17 M' 0 b = cVs 1 M 0 b) ∧ (∀ b, b < 6 → cVs 17 M' 1 b = cVs 1 M 1 b) ∧ (∀ r b, 2 ≤ r → r < 7 → b < 8 → cVs 17 M' r b = cVs 1 M r b) ∧ (∀ r b, 7 ≤ r → r < 9 → b < 6 → cVs 17 M' r b = cVs 1 M r b) ∧ (∀ r b, 9 ≤ r → r < 13 → b < 120 → cVs 17 M' r b = cVs 1 M r b) := by
  obtain ⟨M1, a1, b1, _⟩ := px_copyN (k := 2) (j := 18) (n := 9) (by omega) M
  obtain ⟨M2, a2, b2, _⟩ := px_copyR (k := 3) (N := 5) (k0 := 4) (n := 8) (j := 19) (j0 := 20) (by omega) (by omega) (by omega) M1
  obtain ⟨M3, a3, b3, _⟩ := px_copyR (k := 9) (N := 2) (k0 := 10) (n := 6) (j := 25) (j0 := 26) (by omega) (by omega) (by omega) M2
  obtain ⟨M4, a4, b4, _⟩ := px_copyR (k := 12) (N := 4) (k0 := 13) (n := 120) (j := 28) (j0 := 29) (by omega) (by omega) (by omega) M3
  have hM4 : ∀ a b, M4.1 a b = if a = 18 ∧ b < 9 then M.1 2 b else if 20 ≤ a ∧ a < 25 ∧ b < 8 then M.1 (4 + (a - 20)) b else if 26 ≤ a ∧ a < 28 ∧ b < 6 then M.1 (10 + (a - 26)) b else if 29 ≤ a ∧ a < 33 ∧ b < 120 then M.1 (13 + (a - 29)) b else M.1 a b := by
    intro a b
    rw [b4]
    by_cases h4 : 29 ≤ a ∧ a < 29 + 4 ∧ b < 120
    · rw [if_pos h4, b3, if_neg (by omega), b2, if_neg (by omega), b1, if_neg (by omega), if_neg (by omega), if_neg (by omega), if_neg (by omega), if_pos (by omega)]
    rw [if_neg h4, b3]
    by_cases h3 : 26 ≤ a ∧ a < 26 + 2 ∧ b < 6
    · rw [if_pos h3, b2, if_neg (by omega), b1, if_neg (by omega), if_neg (by omega), if_neg (by omega), if_pos (by omega)]
    rw [if_neg h3, b2]
    by_cases h2 : 20 ≤ a ∧ a < 20 + 5 ∧ b < 8
    · rw [if_pos h2, b1, if_neg (by omega), if_neg (by omega), if_pos (by omega)]
    rw [if_neg h2, b1]
    by_cases h1 : a = 18 ∧ b < 9
    · rw [if_pos h1, if_pos h1]
    · rw [if_neg h1, if_neg h1, if_neg (by omega), if_neg (by omega), if_neg (by omega)]
  unfold fX1_takeOver_17_1
  rw [a1, pb_v, a2, pb_v, a3, pb_v, a4, pb_v]
  simp only [pb_lt, pm_s, Nat.reduceEqDiff, false_and, if_false]
  refine ⟨_, rfl, ?_, ?_, ?_, ?_, ?_, ?_⟩
  · intro a b h
    simp only [pm_s]
    rw [if_neg (by omega), if_neg (by omega), if_neg (by omega), if_neg (by omega), if_neg (by omega), if_neg (by omega), hM4, if_neg (by omega), if_neg (by omega), if_neg (by omega), if_neg (by omega)]
  · intro b hb
    unfold cVs
    rw [if_pos rfl, if_pos rfl]
    simp only [pm_s]
    rw [if_neg (by omega), if_neg (by omega), if_neg (by omega), if_neg (by omega), if_neg (by omega), if_neg (by omega), hM4, if_pos (by omega)]
  · refine fun b hb => ?_
    unfold cVs
    rw [if_neg (by decide), if_pos rfl, if_neg (by decide), if_pos rfl]
    simp only [pm_s]
    have g : ∀ i, M4.1 1 i = M.1 1 i := fun i => by rw [hM4, if_neg (by omega), if_neg (by omega), if_neg (by omega), if_neg (by omega)]
    match b, hb with
    | 0, _ => simp [g]
    | 1, _ => simp [g]
    | 2, _ => simp [g]
    | 3, _ => simp [g]
    | 4, _ => simp [g]
    | 5, _ => simp [g]
  · intro r b h1 h2 hb
    unfold cVs
    rw [if_neg (by omega), if_neg (by omega), if_pos h2, if_neg (by omega), if_neg (by omega), if_pos h2]
    simp only [pm_s]
    rw [if_neg (by omega), if_neg (by omega), if_neg (by omega), if_neg (by omega), if_neg (by omega), if_neg (by omega), hM4, if_neg (by omega), if_pos (by omega)]
    exact congrArg (fun z => M.1 z b) (by omega)
  · intro r b h1 h2 hb
    unfold cVs
    rw [if_neg (by omega), if_neg (by omega), if_neg (by omega), if_pos h2, if_neg (by omega), if_neg (by omega), if_neg (by omega), if_pos h2]
    simp only [pm_s]
    rw [if_neg (by omega), if_neg (by omega), if_neg (by omega), if_neg (by omega), if_neg (by omega), if_neg (by omega), hM4, if_neg (by omega), if_neg (by omega), if_pos (by omega)]
    exact congrArg (fun z => M.1 z b) (by omega)
  · intro r b h1 h2 hb
    unfold cVs
    rw [if_neg (by omega), if_neg (by omega), if_neg (by omega), if_neg (by omega), if_pos h2, if_neg (by omega), if_neg (by omega), if_neg (by omega), if_neg (by omega), if_pos h2]
    simp only [pm_s]
    rw [if_neg (by omega), if_neg (by omega), if_neg (by omega), if_neg (by omega), if_neg (by omega), if_neg (by omega), hM4, if_neg (by omega), if_neg (by omega), if_neg (by omega), if_pos (by omega)]
    exact congrArg (fun z => M.1 z b) (by omega)
theorem px_take_33_1 (M : xm_M) : ∃ M', fX1_takeOver_33_1 M = some M' ∧ (∀ a b, (a < 33 ∨ 49 ≤ a ∨ (a = 33 ∧ b = 10)) → M'.1 a b = M.1 a b) ∧
    (∀ b, b < 9 → cVs 33 M' 0 b = cVs 1 M 0 b) ∧ (∀ b, b < 6 → cVs 33 M' 1 b = cVs 1 M 1 b) ∧ (∀ r b, 2 ≤ r → r < 7 → b < 8 → cVs 33 M' r b = cVs 1 M r b) ∧ (∀ r b, 7 ≤ r → r < 9 → b < 6 → cVs 33 M' r b = cVs 1 M r b) ∧ (∀ r b, 9 ≤ r → r < 13 → b < 120 → cVs 33 M' r b = cVs 1 M r b) := by
  obtain ⟨M1, a1, b1, _⟩ := px_copyN (k := 2) (j := 34) (n := 9) (by omega) M
  obtain ⟨M2, a2, b2, _⟩ := px_copyR (k := 3) (N := 5) (k0 := 4) (n := 8) (j := 35) (j0 := 36) (by omega) (by omega) (by omega) M1
  obtain ⟨M3, a3, b3, _⟩ := px_copyR (k := 9) (N := 2) (k0 := 10) (n := 6) (j := 41) (j0 := 42) (by omega) (by omega) (by omega) M2
  obtain ⟨M4, a4, b4, _⟩ := px_copyR (k := 12) (N := 4) (k0 := 13) (n := 120) (j := 44) (j0 := 45) (by omega) (by omega) (by omega) M3
  have hM4 : ∀ a b, M4.1 a b = if a = 34 ∧ b < 9 then M.1 2 b else if 36 ≤ a ∧ a < 41 ∧ b < 8 then M.1 (4 + (a - 36)) b else if 42 ≤ a ∧ a < 44 ∧ b < 6 then M.1 (10 + (a - 42)) b else if 45 ≤ a ∧ a < 49 ∧ b < 120 then M.1 (13 + (a - 45)) b else M.1 a b := by
    intro a b
    rw [b4]
    by_cases h4 : 45 ≤ a ∧ a < 45 + 4 ∧ b < 120
    · rw [if_pos h4, b3, if_neg (by omega), b2, if_neg (by omega), b1, if_neg (by omega), if_neg (by omega), if_neg (by omega), if_neg (by omega), if_pos (by omega)]
    rw [if_neg h4, b3]
    by_cases h3 : 42 ≤ a ∧ a < 42 + 2 ∧ b < 6
    · rw [if_pos h3, b2, if_neg (by omega), b1, if_neg (by omega), if_neg (by omega), if_neg (by omega), if_pos (by omega)]
    rw [if_neg h3, b2]
    by_cases h2 : 36 ≤ a ∧ a < 36 + 5 ∧ b < 8
    · rw [if_pos h2, b1, if_neg (by omega), if_neg (by omega), if_pos (by omega)]
    rw [if_neg h2, b1]
    by_cases h1 : a = 34 ∧ b < 9
    · rw [if_pos h1, if_pos h1]
    · rw [if_neg h1, if_neg h1, if_neg (by omega), if_neg (by omega), if_neg (by omega)]
  unfold fX1_takeOver_33_1
  rw [a1, pb_v, a2, pb_v, a3, pb_v, a4, pb_v]
  simp only [pb_lt, pm_s, Nat.reduceEqDiff, false_and, if_false]
  refine ⟨_, rfl, ?_, ?_, ?_, ?_, ?_, ?_⟩
  · intro a b h
    simp only [pm_s]
    rw [if_neg (by omega), if_neg (by omega), if_neg (by omega), if_neg (by omega), if_neg (by omega), if_neg (by omega), hM4, if_neg (by omega), if_neg (by omega), if_neg (by omega), if_neg (by omega)]
  · intro b hb
    unfold cVs
    rw [if_pos rfl, if_pos rfl]
    simp only [pm_s]
    rw [if_neg (by omega), if_neg (by omega), if_neg (by omega), if_neg (by omega), if_neg (by omega), if_neg (by omega), hM4, if_pos (by omega)]
  · refine fun b hb => ?_
    unfold cVs
    rw [if_neg (by decide), if_pos rfl, if_neg (by decide), if_pos rfl]
    simp only [pm_s]
    have g : ∀ i, M4.1 1 i = M.1 1 i := fun i => by rw [hM4, if_neg (by omega), if_neg (by omega), if_neg (by omega), if_neg (by omega)]
    match b, hb with
    | 0, _ => simp [g]
    | 1, _ => simp [g]
    | 2, _ => simp [g]
    | 3, _ => simp [g]
    | 4, _ => simp [g]
    | 5, _ => simp [g]
  · intro r b h1 h2 hb
    unfold cVs
    rw [if_neg (by omega), if_neg (by omega), if_pos h2, if_neg (by omega), if_neg (by omega), if_pos h2]
    simp only [pm_s]
    rw [if_neg (by omega), if_neg (by omega), if_neg (by omega), if_neg (by omega), if_neg (by omega), if_neg (by omega), hM4, if_neg (by omega), if_pos (by omega)]
    exact congrArg (fun z => M.1 z b) (by omega)
  · intro r b h1 h2 hb
    unfold cVs
    rw [if_neg (by omega), if_neg (by omega), if_neg (by omega), if_pos h2, if_neg (by omega), if_neg (by omega), if_neg (by omega), if_pos h2]
    simp only [pm_s]
    rw [if_neg (by omega), if_neg (by omega), if_neg (by omega), if_neg (by omega), if_neg (by omega), if_neg (by omega), hM4, if_neg (by omega), if_neg (by omega), if_pos (by omega)]
    exact congrArg (fun z => M.1 z b) (by omega)
  · intro r b h1 h2 hb
    unfold cVs
    rw [if_neg (by omega), if_neg (by omega), if_neg (by omega), if_neg (by omega), if_pos h2, if_neg (by omega), if_neg (by omega), if_neg (by omega), if_neg (by omega), if_pos h2]
    simp only [pm_s]
    rw [if_neg (by omega), if_neg (by omega), if_neg (by omega), if_neg (by omega), if_neg (by omega), if_neg (by omega), hM4, if_neg (by omega), if_neg (by omega), if_neg (by omega), if_pos (by omega)]
    exact congrArg (fun z => M.1 z b) (by omega)
theorem px_take_1_17 (M : xm_M) : ∃ M', fX1_takeOver_1_17 M = some M' ∧ (∀ a b, (a < 1 ∨ 17 ≤ a ∨ (a = 1 ∧ b = 10)) → M'.1 a b = M.1 a b) ∧
    (∀ b, b < 9 → cVs 1 M' 0 b = cVs 17 M 0 b) ∧ (∀ b, b < 6 → cVs 1 M' 1 b = cVs 17 M 1 b) ∧ (∀ r b, 2 ≤ r → r < 7 → b < 8 → cVs 1 M' r b = cVs 17 M r b) ∧ (∀ r b, 7 ≤ r → r < 9 → b < 6 → cVs 1 M' r b = cVs 17 M r b) ∧ (∀ r b, 9 ≤ r → r < 13 → b < 120 → cVs 1 M' r b = cVs 17 M r b) := by
  obtain ⟨M1, a1, b1, _⟩ := px_copyN (k := 18) (j := 2) (n := 9) (by omega) M
  obtain ⟨M2, a2, b2, _⟩ := px_copyR (k := 19) (N := 5) (k0 := 20) (n := 8) (j := 3) (j0 := 4) (by omega) (by omega) (by omega) M1
  obtain ⟨M3, a3, b3, _⟩ := px_copyR (k := 25) (N := 2) (k0 := 26) (n := 6) (j := 9) (j0 := 10) (by omega) (by omega) (by omega) M2
  obtain ⟨M4, a4, b4, _⟩ := px_copyR (k := 28) (N := 4) (k0 := 29) (n := 120) (j := 12) (j0 := 13) (by omega) (by omega) (by omega) M3
  have hM4 : ∀ a b, M4.1 a b = if a = 2 ∧ b < 9 then M.1 18 b else if 4 ≤ a ∧ a < 9 ∧ b < 8 then M.1 (20 + (a - 4)) b else if 10 ≤ a ∧ a < 12 ∧ b < 6 then M.1 (26 + (a - 10)) b else if 13 ≤ a ∧ a < 17 ∧ b < 120 then M.1 (29 + (a - 13)) b else M.1 a b := by
    intro a b
    rw [b4]
    by_cases h4 : 13 ≤ a ∧ a < 13 + 4 ∧ b < 120
    · rw [if_pos h4, b3, if_neg (by omega), b2, if_neg (by omega), b1, if_neg (by omega), if_neg (by omega), if_neg (by omega), if_neg (by omega), if_pos (by omega)]
    rw [if_neg h4, b3]
    by_cases h3 : 10 ≤ a ∧ a < 10 + 2 ∧ b < 6
    · rw [if_pos h3, b2, if_neg (by omega), b1, if_neg (by omega), if_neg (by omega), if_neg (by omega), if_pos (by omega)]
    rw [if_neg h3, b2]
    by_cases h2 : 4 ≤ a ∧ a < 4 + 5 ∧ b < 8
    · rw [if_pos h2, b1, if_neg (by omega), if_neg (by omega), if_pos (by omega)]
    rw [if_neg h2, b1]
    by_cases h1 : a = 2 ∧ b < 9
    · rw [if_pos h1, if_pos h1]
    · rw [if_neg h1, if_neg h1, if_neg (by omega), if_neg (by omega), if_neg (by omega)]
  unfold fX1_takeOver_1_17
  rw [a1, pb_v, a2, pb_v, a3, pb_v, a4, pb_v]
  simp only [pb_lt, pm_s, Nat.reduceEqDiff, false_and, if_false]
  refine ⟨_, rfl, ?_, ?_, ?_, ?_, ?_, ?_⟩
  · intro a b h
    simp only [pm_s]
    rw [if_neg (by omega), if_neg (by omega), if_neg (by omega), if_neg (by omega), if_neg (by omega), if_neg (by omega), hM4, if_neg (by omega), if_neg (by omega), if_neg (by omega), if_neg (by omega)]
  · intro b hb
    unfold cVs
    rw [if_pos rfl, if_pos rfl]
    simp only [pm_s]
    rw [if_neg (by omega), if_neg (by omega), if_neg (by omega), if_neg (by omega), if_neg (by omega), if_neg (by omega), hM4, if_pos (by omega)]
  · refine fun b hb => ?_
    unfold cVs
    rw [if_neg (by decide), if_pos rfl, if_neg (by decide), if_pos rfl]
    simp only [pm_s]
    have g : ∀ i, M4.1 17 i = M.1 17 i := fun i => by rw [hM4, if_neg (by omega), if_neg (by omega), if_neg (by omega), if_neg (by omega)]
    match b, hb with
    | 0, _ => simp [g]
    | 1, _ => simp [g]
    | 2, _ => simp [g]
    | 3, _ => simp [g]
    | 4, _ => simp [g]
    | 5, _ => simp [g]
  · intro r b h1 h2 hb
    unfold cVs
    rw [if_neg (by omega), if_neg (by omega), if_pos h2, if_neg (by omega), if_neg (by omega), if_pos h2]
    simp only [pm_s]
    rw [if_neg (by omega), if_neg (by omega), if_neg (by omega), if_neg (by omega), if_neg (by omega), if_neg (by omega), hM4, if_neg (by omega), if_pos (by omega)]
    exact congrArg (fun z => M.1 z b) (by omega)
  · intro r b h1 h2 hb
    unfold cVs
    rw [if_neg (by omega), if_neg (by omega), if_neg (by omega), if_pos h2, if_neg (by omega), if_neg (by omega), if_neg (by omega), if_pos h2]
    simp only [pm_s]
    rw [if_neg (by omega), if_neg (by omega), if_neg (by omega), if_neg (by omega), if_neg (by omega), if_neg (by omega), hM4, if_neg (by omega), if_neg (by omega), if_pos (by omega)]
    exact congrArg (fun z => M.1 z b) (by omega)
  · intro r b h1 h2 hb
    unfold cVs
    rw [if_neg (by omega), if_neg (by omega), if_neg (by omega), if_neg (by omega), if_pos h2, if_neg (by omega), if_neg (by omega), if_neg (by omega), if_neg (by omega), if_pos h2]
    simp only [pm_s]
    rw [if_neg (by omega), if_neg (by omega), if_neg (by omega), if_neg (by omega), if_neg (by omega), if_neg (by omega), hM4, if_neg (by omega), if_neg (by omega), if_neg (by omega), if_pos (by omega)]
    exact congrArg (fun z => M.1 z b) (by omega)
theorem px_take_1_33 (M : xm_M) : ∃ M', fX1_takeOver_1_33 M = some M' ∧ (∀ a b, (a < 1 ∨ 17 ≤ a ∨ (a = 1 ∧ b = 10)) → M'.1 a b = M.1 a b) ∧
    (∀ b, b < 9 → cVs 1 M' 0 b = cVs 33 M 0 b) ∧ (∀ b, b < 6 → cVs 1 M' 1 b = cVs 33 M 1 b) ∧ (∀ r b, 2 ≤ r → r < 7 → b < 8 → cVs 1 M' r b = cVs 33 M r b) ∧ (∀ r b, 7 ≤ r → r < 9 → b < 6 → cVs 1 M' r b = cVs 33 M r b) ∧ (∀ r b, 9 ≤ r → r < 13 → b < 120 → cVs 1 M' r b = cVs 33 M r b) := by
  obtain ⟨M1, a1, b1, _⟩ := px_copyN (k := 34) (j := 2) (n := 9) (by omega) M
  obtain ⟨M2, a2, b2, _⟩ := px_copyR (k := 35) (N := 5) (k0 := 36) (n := 8) (j := 3) (j0 := 4) (by omega) (by omega) (by omega) M1
  obtain ⟨M3, a3, b3, _⟩ := px_copyR (k := 41) (N := 2) (k0 := 42) (n := 6) (j := 9) (j0 := 10) (by omega) (by omega) (by omega) M2
  obtain ⟨M4, a4, b4, _⟩ := px_copyR (k := 44) (N := 4) (k0 := 45) (n := 120) (j := 12) (j0 := 13) (by omega) (by omega) (by omega) M3
  have hM4 : ∀ a b, M4.1 a b = if a = 2 ∧ b < 9 then M.1 34 b else if 4 ≤ a ∧ a < 9 ∧ b < 8 then M.1 (36 + (a - 4)) b else if 10 ≤ a ∧ a < 12 ∧ b < 6 then M.1 (42 + (a - 10)) b else if 13 ≤ a ∧ a < 17 ∧ b < 120 then M.1 (45 + (a - 13)) b else M.1 a b := by
    intro a b
    rw [b4]
    by_cases h4 : 13 ≤ a ∧ a < 13 + 4 ∧ b < 120
    · rw [if_pos h4, b3, if_neg (by omega), b2, if_neg (by omega), b1, if_neg (by omega), if_neg (by omega), if_neg (by omega), if_neg (by omega), if_pos (by omega)]
    rw [if_neg h4, b3]
    by_cases h3 : 10 ≤ a ∧ a < 10 + 2 ∧ b < 6
    · rw [if_pos h3, b2, if_neg (by omega), b1, if_neg (by omega), if_neg (by omega), if_neg (by omega), if_pos (by omega)]
    rw [if_neg h3, b2]
    by_cases h2 : 4 ≤ a ∧ a < 4 + 5 ∧ b < 8
    · rw [if_pos h2, b1, if_neg (by omega), if_neg (by omega), if_pos (by omega)]
    rw [if_neg h2, b1]
    by_cases h1 : a = 2 ∧ b < 9
    · rw [if_pos h1, if_pos h1]
    · rw [if_neg h1, if_neg h1, if_neg (by omega), if_neg (by omega), if_neg (by omega)]
  unfold fX1_takeOver_1_33
  rw [a1, pb_v, a2, pb_v, a3, pb_v, a4, pb_v]
  simp only [pb_lt, pm_s, Nat.reduceEqDiff, false_and, if_false]
  refine ⟨_, rfl, ?_, ?_, ?_, ?_, ?_, ?_⟩
  · intro a b h
    simp only [pm_s]
    rw [if_neg (by omega), if_neg (by omega), if_neg (by omega), if_neg (by omega), if_neg (by omega), if_neg (by omega), hM4, if_neg (by omega), if_neg (by omega), if_neg (by omega), if_neg (by omega)]
  · intro b hb
    unfold cVs
    rw [if_pos rfl, if_pos rfl]
    simp only [pm_s]
    rw [if_neg (by omega), if_neg (by omega), if_neg (by omega), if_neg (by omega), if_neg (by omega), if_neg (by omega), hM4, if_pos (by omega)]
  · refine fun b hb => ?_
    unfold cVs
    rw [if_neg (by decide), if_pos rfl, if_neg (by decide), if_pos rfl]
    simp only [pm_s]
    have g : ∀ i, M4.1 33 i = M.1 33 i := fun i => by rw [hM4, if_neg (by omega), if_neg (by omega), if_neg (by omega), if_neg (by omega)]
    match b, hb with
    | 0, _ => simp [g]
    | 1, _ => simp [g]
    | 2, _ => simp [g]
    | 3, _ => simp [g]
    | 4, _ => simp [g]
    | 5, _ => simp [g]
  · intro r b h1 h2 hb
    unfold cVs
    rw [if_neg (by omega), if_neg (by omega), if_pos h2, if_neg (by omega), if_neg (by omega), if_pos h2]
    simp only [pm_s]
    rw [if_neg (by omega), if_neg (by omega), if_neg (by omega), if_neg (by omega), if_neg (by omega), if_neg (by omega), hM4, if_neg (by omega), if_pos (by omega)]
    exact congrArg (fun z => M.1 z b) (by omega)
  · intro r b h1 h2 hb
    unfold cVs
    rw [if_neg (by omega), if_neg (by omega), if_neg (by omega), if_pos h2, if_neg (by omega), if_neg (by omega), if_neg (by omega), if_pos h2]
    simp only [pm_s]
    rw [if_neg (by omega), if_neg (by omega), if_neg (by omega), if_neg (by omega), if_neg (by omega), if_neg (by omega), hM4, if_neg (by omega), if_neg (by omega), if_pos (by omega)]
    exact congrArg (fun z => M.1 z b) (by omega)
  · intro r b h1 h2 hb
    unfold cVs
    rw [if_neg (by omega), if_neg (by omega), if_neg (by omega), if_neg (by omega), if_pos h2, if_neg (by omega), if_neg (by omega), if_neg (by omega), if_neg (by omega), if_pos h2]
    simp only [pm_s]
    rw [if_neg (by omega), if_neg (by omega), if_neg (by omega), if_neg (by omega), if_neg (by omega), if_neg (by omega), hM4, if_neg (by omega), if_neg (by omega), if_neg (by omega), if_pos (by omega)]
    exact congrArg (fun z => M.1 z b) (by omega)
theorem pi_547 {s k : Nat} : (547 : Int32) * nI s + nI k = nI (547 * s + k) := by
  rw [show (547 : Int32) = nI 547 from rfl, pi_mul, pi_add]
