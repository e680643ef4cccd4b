/-! saving -/
theorem px_copyN {k j n : Nat} (hn : n < 4096) (M : xm_M) : ∃ M', fX3_copy k n j n M = some M' ∧ (∀ a b, M'.1 a b = if a = j ∧ b < n then M.1 k b else M.1 a b) ∧ M'.2 = M.2 := by
  unfold fX3_copy
  have e0 : (0 : Int32).toNatClampNeg = 0 := by decide
  have e1 : Int32.ofNat n = nI n := rfl
  have e2 : ¬ nI n < 0 := fun z => px_kn (n := 5000) (show n < 5000 by omega) (by omega) (Or.inl z)
  simp only [ite_self, e1, e0, nI_clamp (show n < 2 ^ 31 by omega), Nat.zero_add]
  rw [if_neg (by
    intro z
    rcases z with z | z | z | z | z
    · exact absurd z (by decide)
    · exact absurd z (by decide)
    · exact e2 z
    · omega
    · omega), pb_lt]
  refine ⟨_, rfl, ?_, rfl⟩
  intro a b
  rw [pm_r]
  unfold va_cpy
  by_cases h : a = j
  · by_cases hb : b < n
    · rw [if_pos h, if_pos ⟨h, hb⟩, if_pos (by omega), Nat.zero_add, Nat.sub_zero]
    · rw [if_pos h, if_neg (fun z => hb z.2), if_neg (by omega), h]
  · rw [if_neg h, if_neg (fun z => h z.1)]
theorem px_copyR {k N k0 n j j0 : Nat} (hN : N < 1000) (hn : n < 4096) (hd : k0 + N ≤ j0 ∨ j0 + N ≤ k0) (M0 : xm_M) : ∃ M', fX3_copy_ k N k0 n j N j0 n M0 = some M' ∧ (∀ a b, M'.1 a b = if j0 ≤ a ∧ a < j0 + N ∧ b < n then M0.1 (k0 + (a - j0)) b else M0.1 a b) ∧ M'.2 = M0.2 := by
  have loop : ∀ (q c : Nat) (M : xm_M), c ≤ N → N - c < q → (∀ a b, M.1 a b = if j0 ≤ a ∧ a < j0 + c ∧ b < n then M0.1 (k0 + (a - j0)) b else M0.1 a b) → M.2 = M0.2 → ∃ M', fX3_copy__2_it k N k0 n j N j0 n q (nI c) M = some M' ∧ (∀ a b, M'.1 a b = if j0 ≤ a ∧ a < j0 + N ∧ b < n then M0.1 (k0 + (a - j0)) b else M0.1 a b) ∧ M'.2 = M0.2 := by
    intro q
    induction q with
    | zero => intro c _ _ h; omega
    | succ q ih =>
      intro c M hc hq hM hM2
      show ∃ M', fX3_copy__2 k N k0 n j N j0 n (fX3_copy__2_it k N k0 n j N j0 n q) (nI c) M = some M' ∧ _
      unfold fX3_copy__2
      have e1 : Int32.ofNat N = nI N := rfl
      by_cases hlt : c < N
      · rw [if_neg (by rw [e1, nI_leI (by omega) (by omega)]; omega), if_neg (by rw [e1, nI_leI (by omega) (by omega)]; omega), if_neg (px_kn hlt (by omega)), if_neg (px_kn hlt (by omega)), nI_clamp (by omega)]
        obtain ⟨M1, a1, a2, a3⟩ := px_copyN (k := k0 + c) (j := j0 + c) hn M
        rw [a1, pb_v, pb_lt, show nI c + Int32.ofInt 1 = nI (c + 1) from (nI_succ c).symm]
        refine ih (c + 1) M1 (by omega) (by omega) ?_ (a3.trans hM2)
        intro a b
        rw [a2]
        by_cases h : a = j0 + c ∧ b < n
        · rw [if_pos h, hM, if_neg (by omega), if_pos (by omega)]
          congr 1
          omega
        · rw [if_neg h, hM]
          by_cases h2 : j0 ≤ a ∧ a < j0 + c ∧ b < n
          · rw [if_pos h2, if_pos (by omega)]
          · rw [if_neg h2, if_neg (by omega)]
      · rw [if_pos (by rw [e1, nI_leI (by omega) (by omega)]; omega)]
        have : c = N := by omega
        subst this
        exact ⟨M, rfl, hM, hM2⟩
  unfold fX3_copy_
  rw [pb_lt]
  exact loop xm_N 0 M0 (Nat.zero_le _) (by show N - 0 < 4096; omega) (fun a b => by rw [if_neg (by omega)]) rfl
theorem px_take_17_1 (M : xm_M) : ∃ M', fX1_takeOver_17_1 M = some M' ∧ (∀ a b, (a < 17 ∨ 33 ≤ a ∨ (a = 17 ∧ b = 10)) → M'.1 a b = M.1 a b) ∧
    (∀ b, b < 9 → cVs 17 M' 0 b = cVs 1 M 0 b) ∧ (∀ b, b < 6 → cVs 17 M' 1 b = cVs 1 M 1 b) ∧ (∀ r b, 2 ≤ r → r < 7 → b < 8 → cVs 17 M' r b = cVs 1 M r b) ∧ (∀ r b, 7 ≤ r → r < 9 → b < 6 → cVs 17 M' r b = cVs 1 M r b) ∧ (∀ r b, 9 ≤ r → r < 13 → b < 120 → cVs 17 M' r b = cVs 1 M r b) := by
  obtain ⟨M1, a1, b1, _⟩ := px_copyN (k := 2) (j := 18) (n := 9) (by omega) M
  obtain ⟨M2, a2, b2, _⟩ := px_copyR (k := 3) (N := 5) (k0 := 4) (n := 8) (j := 19) (j0 := 20) (by omega) (by omega) (by omega) M1
  obtain ⟨M3, a3, b3, _⟩ := px_copyR (k := 9) (N := 2) (k0 := 10) (n := 6) (j := 25) (j0 := 26) (by omega) (by omega) (by omega) M2
  obtain ⟨M4, a4, b4, _⟩ := px_copyR (k := 12) (N := 4) (k0 := 13) (n := 120) (j := 28) (j0 := 29) (by omega) (by omega) (by omega) M3
  have hM4 : ∀ a b, M4.1 a b = if a = 18 ∧ b < 9 then M.1 2 b else if 20 ≤ a ∧ a < 25 ∧ b < 8 then M.1 (4 + (a - 20)) b else if 26 ≤ a ∧ a < 28 ∧ b < 6 then M.1 (10 + (a - 26)) b else if 29 ≤ a ∧ a < 33 ∧ b < 120 then M.1 (13 + (a - 29)) b else M.1 a b := by
    intro a b
    rw [b4]
    by_cases h4 : 29 ≤ a ∧ a < 29 + 4 ∧ b < 120
    · rw [if_pos h4, b3, if_neg (by omega), b2, if_neg (by omega), b1, if_neg (by omega), if_neg (by omega), if_neg (by omega), if_neg (by omega), if_pos (by omega)]
    rw [if_neg h4, b3]
    by_cases h3 : 26 ≤ a ∧ a < 26 + 2 ∧ b < 6
    · rw [if_pos h3, b2, if_neg (by omega), b1, if_neg (by omega), if_neg (by omega), if_neg (by omega), if_pos (by omega)]
    rw [if_neg h3, b2]
    by_cases h2 : 20 ≤ a ∧ a < 20 + 5 ∧ b < 8
    · rw [if_pos h2, b1, if_neg (by omega), if_neg (by omega), if_pos (by omega)]
    rw [if_neg h2, b1]
    by_cases h1 : a = 18 ∧ b < 9
    · rw [if_pos h1, if_pos h1]
    · rw [if_neg h1, if_neg h1, if_neg (by omega), if_neg (by omega), if_neg (by omega)]
  unfold fX1_takeOver_17_1
  rw [a1, pb_v, a2, pb_v, a3, pb_v, a4, pb_v]
  simp only [pb_lt, pm_s, Nat.reduceEqDiff, false_and, if_false]
  refine ⟨_, rfl, ?_, ?_, ?_, ?_, ?_, ?_⟩
  · intro a b h
    simp only [pm_s]
    rw [if_neg (by omega), if_neg (by omega), if_neg (by omega), if_neg (by omega), if_neg (by omega), if_neg (by omega), hM4, if_neg (by omega), if_neg (by omega), if_neg (by omega), if_neg (by omega)]
  · intro b hb
    unfold cVs
    rw [if_pos rfl, if_pos rfl]
    simp only [pm_s]
    rw [if_neg (by omega), if_neg (by omega), if_neg (by omega), if_neg (by omega), if_neg (by omega), if_neg (by omega), hM4, if_pos (by omega)]
  · refine fun b hb => ?_
    unfold cVs
    rw [if_neg (by decide), if_pos rfl, if_neg (by decide), if_pos rfl]
    simp only [pm_s]
    have g : ∀ i, M4.1 1 i = M.1 1 i := fun i => by rw [hM4, if_neg (by omega), if_neg (by omega), if_neg (by omega), if_neg (by omega)]
    match b, hb with
    | 0, _ => simp [g]
    | 1, _ => simp [g]
    | 2, _ => simp [g]
    | 3, _ => simp [g]
    | 4, _ => simp [g]
    | 5, _ => simp [g]
  · intro r b h1 h2 hb
    unfold cVs
    rw [if_neg (by omega), if_neg (by omega), if_pos h2, if_neg (by omega), if_neg (by omega), if_pos h2]
    simp only [pm_s]
    rw [if_neg (by omega), if_neg (by omega), if_neg (by omega), if_neg (by omega), if_neg (by omega), if_neg (by omega), hM4, if_neg (by omega), if_pos (by omega)]
    congr 1
    omega
  · intro r b h1 h2 hb
    unfold cVs
    rw [if_neg (by omega), if_neg (by omega), if_neg (by omega), if_pos h2, if_neg (by omega), if_neg (by omega), if_neg (by omega), if_pos h2]
    simp only [pm_s]
    rw [if_neg (by omega), if_neg (by omega), if_neg (by omega), if_neg (by omega), if_neg (by omega), if_neg (by omega), hM4, if_neg (by omega), if_neg (by omega), if_pos (by omega)]
    congr 1
    omega
  · intro r b h1 h2 hb
    unfold cVs
    rw [if_neg (by omega), if_neg (by omega), if_neg (by omega), if_neg (by omega), if_pos h2, if_neg (by omega), if_neg (by omega), if_neg (by omega), if_neg (by omega), if_pos h2]
    simp only [pm_s]
    rw [if_neg (by omega), if_neg (by omega), if_neg (by omega), if_neg (by omega), if_neg (by omega), if_neg (by omega), hM4, if_neg (by omega), if_neg (by omega), if_neg (by omega), if_pos (by omega)]
    congr 1
    omega
theorem px_take_33_1 (M : xm_M) : ∃ M', fX1_takeOver_33_1 M = some M' ∧ (∀ a b, (a < 33 ∨ 49 ≤ a ∨ (a = 33 ∧ b = 10)) → M'.1 a b = M.1 a b) ∧
    (∀ b, b < 9 → cVs 33 M' 0 b = cVs 1 M 0 b) ∧ (∀ b, b < 6 → cVs 33 M' 1 b = cVs 1 M 1 b) ∧ (∀ r b, 2 ≤ r → r < 7 → b < 8 → cVs 33 M' r b = cVs 1 M r b) ∧ (∀ r b, 7 ≤ r → r < 9 → b < 6 → cVs 33 M' r b = cVs 1 M r b) ∧ (∀ r b, 9 ≤ r → r < 13 → b < 120 → cVs 33 M' r b = cVs 1 M r b) := by
  obtain ⟨M1, a1, b1, _⟩ := px_copyN (k := 2) (j := 34) (n := 9) (by omega) M
  obtain ⟨M2, a2, b2, _⟩ := px_copyR (k := 3) (N := 5) (k0 := 4) (n := 8) (j := 35) (j0 := 36) (by omega) (by omega) (by omega) M1
  obtain ⟨M3, a3, b3, _⟩ := px_copyR (k := 9) (N := 2) (k0 := 10) (n := 6) (j := 41) (j0 := 42) (by omega) (by omega) (by omega) M2
  obtain ⟨M4, a4, b4, _⟩ := px_copyR (k := 12) (N := 4) (k0 := 13) (n := 120) (j := 44) (j0 := 45) (by omega) (by omega) (by omega) M3
  have hM4 : ∀ a b, M4.1 a b = if a = 34 ∧ b < 9 then M.1 2 b else if 36 ≤ a ∧ a < 41 ∧ b < 8 then M.1 (4 + (a - 36)) b else if 42 ≤ a ∧ a < 44 ∧ b < 6 then M.1 (10 + (a - 42)) b else if 45 ≤ a ∧ a < 49 ∧ b < 120 then M.1 (13 + (a - 45)) b else M.1 a b := by
    intro a b
    rw [b4]
    by_cases h4 : 45 ≤ a ∧ a < 45 + 4 ∧ b < 120
    · rw [if_pos h4, b3, if_neg (by omega), b2, if_neg (by omega), b1, if_neg (by omega), if_neg (by omega), if_neg (by omega), if_neg (by omega), if_pos (by omega)]
    rw [if_neg h4, b3]
    by_cases h3 : 42 ≤ a ∧ a < 42 + 2 ∧ b < 6
    · rw [if_pos h3, b2, if_neg (by omega), b1, if_neg (by omega), if_neg (by omega), if_neg (by omega), if_pos (by omega)]
    rw [if_neg h3, b2]
    by_cases h2 : 36 ≤ a ∧ a < 36 + 5 ∧ b < 8
    · rw [if_pos h2, b1, if_neg (by omega), if_neg (by omega), if_pos (by omega)]
    rw [if_neg h2, b1]
    by_cases h1 : a = 34 ∧ b < 9
    · rw [if_pos h1, if_pos h1]
    · rw [if_neg h1, if_neg h1, if_neg (by omega), if_neg (by omega), if_neg (by omega)]
  unfold fX1_takeOver_33_1
  rw [a1, pb_v, a2, pb_v, a3, pb_v, a4, pb_v]
  simp only [pb_lt, pm_s, Nat.reduceEqDiff, false_and, if_false]
  refine ⟨_, rfl, ?_, ?_, ?_, ?_, ?_, ?_⟩
  · intro a b h
    simp only [pm_s]
    rw [if_neg (by omega), if_neg (by omega), if_neg (by omega), if_neg (by omega), if_neg (by omega), if_neg (by omega), hM4, if_neg (by omega), if_neg (by omega), if_neg (by omega), if_neg (by omega)]
  · intro b hb
    unfold cVs
    rw [if_pos rfl, if_pos rfl]
    simp only [pm_s]
    rw [if_neg (by omega), if_neg (by omega), if_neg (by omega), if_neg (by omega), if_neg (by omega), if_neg (by omega), hM4, if_pos (by omega)]
  · refine fun b hb => ?_
    unfold cVs
    rw [if_neg (by decide), if_pos rfl, if_neg (by decide), if_pos rfl]
    simp only [pm_s]
    have g : ∀ i, M4.1 1 i = M.1 1 i := fun i => by rw [hM4, if_neg (by omega), if_neg (by omega), if_neg (by omega), if_neg (by omega)]
    match b, hb with
    | 0, _ => simp [g]
    | 1, _ => simp [g]
    | 2, _ => simp [g]
    | 3, _ => simp [g]
    | 4, _ => simp [g]
    | 5, _ => simp [g]
  · intro r b h1 h2 hb
    unfold cVs
    rw [if_neg (by omega), if_neg (by omega), if_pos h2, if_neg (by omega), if_neg (by omega), if_pos h2]
    simp only [pm_s]
    rw [if_neg (by omega), if_neg (by omega), if_neg (by omega), if_neg (by omega), if_neg (by omega), if_neg (by omega), hM4, if_neg (by omega), if_pos (by omega)]
    congr 1
    omega
  · intro r b h1 h2 hb
    unfold cVs
    rw [if_neg (by omega), if_neg (by omega), if_neg (by omega), if_pos h2, if_neg (by omega), if_neg (by omega), if_neg (by omega), if_pos h2]
    simp only [pm_s]
    rw [if_neg (by omega), if_neg (by omega), if_neg (by omega), if_neg (by omega), if_neg (by omega), if_neg (by omega), hM4, if_neg (by omega), if_neg (by omega), if_pos (by omega)]
    congr 1
    omega
  · intro r b h1 h2 hb
    unfold cVs
    rw [if_neg (by omega), if_neg (by omega), if_neg (by omega), if_neg (by omega), if_pos h2, if_neg (by omega), if_neg (by omega), if_neg (by omega), if_neg (by omega), if_pos h2]
    simp only [pm_s]
    rw [if_neg (by omega), if_neg (by omega), if_neg (by omega), if_neg (by omega), if_neg (by omega), if_neg (by omega), hM4, if_neg (by omega), if_neg (by omega), if_neg (by omega), if_pos (by omega)]
    congr 1
    omega
theorem px_take_1_17 (M : xm_M) : ∃ M', fX1_takeOver_1_17 M = some M' ∧ (∀ a b, (a < 1 ∨ 17 ≤ a ∨ (a = 1 ∧ b = 10)) → M'.1 a b = M.1 a b) ∧
    (∀ b, b < 9 → cVs 1 M' 0 b = cVs 17 M 0 b) ∧ (∀ b, b < 6 → cVs 1 M' 1 b = cVs 17 M 1 b) ∧ (∀ r b, 2 ≤ r → r < 7 → b < 8 → cVs 1 M' r b = cVs 17 M r b) ∧ (∀ r b, 7 ≤ r → r < 9 → b < 6 → cVs 1 M' r b = cVs 17 M r b) ∧ (∀ r b, 9 ≤ r → r < 13 → b < 120 → cVs 1 M' r b = cVs 17 M r b) := by
  obtain ⟨M1, a1, b1, _⟩ := px_copyN (k := 18) (j := 2) (n := 9) (by omega) M
  obtain ⟨M2, a2, b2, _⟩ := px_copyR (k := 19) (N := 5) (k0 := 20) (n := 8) (j := 3) (j0 := 4) (by omega) (by omega) (by omega) M1
  obtain ⟨M3, a3, b3, _⟩ := px_copyR (k := 25) (N := 2) (k0 := 26) (n := 6) (j := 9) (j0 := 10) (by omega) (by omega) (by omega) M2
  obtain ⟨M4, a4, b4, _⟩ := px_copyR (k := 28) (N := 4) (k0 := 29) (n := 120) (j := 12) (j0 := 13) (by omega) (by omega) (by omega) M3
  have hM4 : ∀ a b, M4.1 a b = if a = 2 ∧ b < 9 then M.1 18 b else if 4 ≤ a ∧ a < 9 ∧ b < 8 then M.1 (20 + (a - 4)) b else if 10 ≤ a ∧ a < 12 ∧ b < 6 then M.1 (26 + (a - 10)) b else if 13 ≤ a ∧ a < 17 ∧ b < 120 then M.1 (29 + (a - 13)) b else M.1 a b := by
    intro a b
    rw [b4]
    by_cases h4 : 13 ≤ a ∧ a < 13 + 4 ∧ b < 120
    · rw [if_pos h4, b3, if_neg (by omega), b2, if_neg (by omega), b1, if_neg (by omega), if_neg (by omega), if_neg (by omega), if_neg (by omega), if_pos (by omega)]
    rw [if_neg h4, b3]
    by_cases h3 : 10 ≤ a ∧ a < 10 + 2 ∧ b < 6
    · rw [if_pos h3, b2, if_neg (by omega), b1, if_neg (by omega), if_neg (by omega), if_neg (by omega), if_pos (by omega)]
    rw [if_neg h3, b2]
    by_cases h2 : 4 ≤ a ∧ a < 4 + 5 ∧ b < 8
    · rw [if_pos h2, b1, if_neg (by omega), if_neg (by omega), if_pos (by omega)]
    rw [if_neg h2, b1]
    by_cases h1 : a = 2 ∧ b < 9
    · rw [if_pos h1, if_pos h1]
    · rw [if_neg h1, if_neg h1, if_neg (by omega), if_neg (by omega), if_neg (by omega)]
  unfold fX1_takeOver_1_17
  rw [a1, pb_v, a2, pb_v, a3, pb_v, a4, pb_v]
  simp only [pb_lt, pm_s, Nat.reduceEqDiff, false_and, if_false]
  refine ⟨_, rfl, ?_, ?_, ?_, ?_, ?_, ?_⟩
  · intro a b h
    simp only [pm_s]
    rw [if_neg (by omega), if_neg (by omega), if_neg (by omega), if_neg (by omega), if_neg (by omega), if_neg (by omega), hM4, if_neg (by omega), if_neg (by omega), if_neg (by omega), if_neg (by omega)]
  · intro b hb
    unfold cVs
    rw [if_pos rfl, if_pos rfl]
    simp only [pm_s]
    rw [if_neg (by omega), if_neg (by omega), if_neg (by omega), if_neg (by omega), if_neg (by omega), if_neg (by omega), hM4, if_pos (by omega)]
  · refine fun b hb => ?_
    unfold cVs
    rw [if_neg (by decide), if_pos rfl, if_neg (by decide), if_pos rfl]
    simp only [pm_s]
    have g : ∀ i, M4.1 17 i = M.1 17 i := fun i => by rw [hM4, if_neg (by omega), if_neg (by omega), if_neg (by omega), if_neg (by omega)]
    match b, hb with
    | 0, _ => simp [g]
    | 1, _ => simp [g]
    | 2, _ => simp [g]
    | 3, _ => simp [g]
    | 4, _ => simp [g]
    | 5, _ => simp [g]
  · intro r b h1 h2 hb
    unfold cVs
    rw [if_neg (by omega), if_neg (by omega), if_pos h2, if_neg (by omega), if_neg (by omega), if_pos h2]
    simp only [pm_s]
    rw [if_neg (by omega), if_neg (by omega), if_neg (by omega), if_neg (by omega), if_neg (by omega), if_neg (by omega), hM4, if_neg (by omega), if_pos (by omega)]
    congr 1
    omega
  · intro r b h1 h2 hb
    unfold cVs
    rw [if_neg (by omega), if_neg (by omega), if_neg (by omega), if_pos h2, if_neg (by omega), if_neg (by omega), if_neg (by omega), if_pos h2]
    simp only [pm_s]
    rw [if_neg (by omega), if_neg (by omega), if_neg (by omega), if_neg (by omega), if_neg (by omega), if_neg (by omega), hM4, if_neg (by omega), if_neg (by omega), if_pos (by omega)]
    congr 1
    omega
  · intro r b h1 h2 hb
    unfold cVs
    rw [if_neg (by omega), if_neg (by omega), if_neg (by omega), if_neg (by omega), if_pos h2, if_neg (by omega), if_neg (by omega), if_neg (by omega), if_neg (by omega), if_pos h2]
    simp only [pm_s]
    rw [if_neg (by omega), if_neg (by omega), if_neg (by omega), if_neg (by omega), if_neg (by omega), if_neg (by omega), hM4, if_neg (by omega), if_neg (by omega), if_neg (by omega), if_pos (by omega)]
    congr 1
    omega
theorem px_take_1_33 (M : xm_M) : ∃ M', fX1_takeOver_1_33 M = some M' ∧ (∀ a b, (a < 1 ∨ 17 ≤ a ∨ (a = 1 ∧ b = 10)) → M'.1 a b = M.1 a b) ∧
    (∀ b, b < 9 → cVs 1 M' 0 b = cVs 33 M 0 b) ∧ (∀ b, b < 6 → cVs 1 M' 1 b = cVs 33 M 1 b) ∧ (∀ r b, 2 ≤ r → r < 7 → b < 8 → cVs 1 M' r b = cVs 33 M r b) ∧ (∀ r b, 7 ≤ r → r < 9 → b < 6 → cVs 1 M' r b = cVs 33 M r b) ∧ (∀ r b, 9 ≤ r → r < 13 → b < 120 → cVs 1 M' r b = cVs 33 M r b) := by
  obtain ⟨M1, a1, b1, _⟩ := px_copyN (k := 34) (j := 2) (n := 9) (by omega) M
  obtain ⟨M2, a2, b2, _⟩ := px_copyR (k := 35) (N := 5) (k0 := 36) (n := 8) (j := 3) (j0 := 4) (by omega) (by omega) (by omega) M1
  obtain ⟨M3, a3, b3, _⟩ := px_copyR (k := 41) (N := 2) (k0 := 42) (n := 6) (j := 9) (j0 := 10) (by omega) (by omega) (by omega) M2
  obtain ⟨M4, a4, b4, _⟩ := px_copyR (k := 44) (N := 4) (k0 := 45) (n := 120) (j := 12) (j0 := 13) (by omega) (by omega) (by omega) M3
  have hM4 : ∀ a b, M4.1 a b = if a = 2 ∧ b < 9 then M.1 34 b else if 4 ≤ a ∧ a < 9 ∧ b < 8 then M.1 (36 + (a - 4)) b else if 10 ≤ a ∧ a < 12 ∧ b < 6 then M.1 (42 + (a - 10)) b else if 13 ≤ a ∧ a < 17 ∧ b < 120 then M.1 (45 + (a - 13)) b else M.1 a b := by
    intro a b
    rw [b4]
    by_cases h4 : 13 ≤ a ∧ a < 13 + 4 ∧ b < 120
    · rw [if_pos h4, b3, if_neg (by omega), b2, if_neg (by omega), b1, if_neg (by omega), if_neg (by omega), if_neg (by omega), if_neg (by omega), if_pos (by omega)]
    rw [if_neg h4, b3]
    by_cases h3 : 10 ≤ a ∧ a < 10 + 2 ∧ b < 6
    · rw [if_pos h3, b2, if_neg (by omega), b1, if_neg (by omega), if_neg (by omega), if_neg (by omega), if_pos (by omega)]
    rw [if_neg h3, b2]
    by_cases h2 : 4 ≤ a ∧ a < 4 + 5 ∧ b < 8
    · rw [if_pos h2, b1, if_neg (by omega), if_neg (by omega), if_pos (by omega)]
    rw [if_neg h2, b1]
    by_cases h1 : a = 2 ∧ b < 9
    · rw [if_pos h1, if_pos h1]
    · rw [if_neg h1, if_neg h1, if_neg (by omega), if_neg (by omega), if_neg (by omega)]
  unfold fX1_takeOver_1_33
  rw [a1, pb_v, a2, pb_v, a3, pb_v, a4, pb_v]
  simp only [pb_lt, pm_s, Nat.reduceEqDiff, false_and, if_false]
  refine ⟨_, rfl, ?_, ?_, ?_, ?_, ?_, ?_⟩
  · intro a b h
    simp only [pm_s]
    rw [if_neg (by omega), if_neg (by omega), if_neg (by omega), if_neg (by omega), if_neg (by omega), if_neg (by omega), hM4, if_neg (by omega), if_neg (by omega), if_neg (by omega), if_neg (by omega)]
  · intro b hb
    unfold cVs
    rw [if_pos rfl, if_pos rfl]
    simp only [pm_s]
    rw [if_neg (by omega), if_neg (by omega), if_neg (by omega), if_neg (by omega), if_neg (by omega), if_neg (by omega), hM4, if_pos (by omega)]
  · refine fun b hb => ?_
    unfold cVs
    rw [if_neg (by decide), if_pos rfl, if_neg (by decide), if_pos rfl]
    simp only [pm_s]
    have g : ∀ i, M4.1 33 i = M.1 33 i := fun i => by rw [hM4, if_neg (by omega), if_neg (by omega), if_neg (by omega), if_neg (by omega)]
    match b, hb with
    | 0, _ => simp [g]
    | 1, _ => simp [g]
    | 2, _ => simp [g]
    | 3, _ => simp [g]
    | 4, _ => simp [g]
    | 5, _ => simp [g]
  · intro r b h1 h2 hb
    unfold cVs
    rw [if_neg (by omega), if_neg (by omega), if_pos h2, if_neg (by omega), if_neg (by omega), if_pos h2]
    simp only [pm_s]
    rw [if_neg (by omega), if_neg (by omega), if_neg (by omega), if_neg (by omega), if_neg (by omega), if_neg (by omega), hM4, if_neg (by omega), if_pos (by omega)]
    congr 1
    omega
  · intro r b h1 h2 hb
    unfold cVs
    rw [if_neg (by omega), if_neg (by omega), if_neg (by omega), if_pos h2, if_neg (by omega), if_neg (by omega), if_neg (by omega), if_pos h2]
    simp only [pm_s]
    rw [if_neg (by omega), if_neg (by omega), if_neg (by omega), if_neg (by omega), if_neg (by omega), if_neg (by omega), hM4, if_neg (by omega), if_neg (by omega), if_pos (by omega)]
    congr 1
    omega
  · intro r b h1 h2 hb
    unfold cVs
    rw [if_neg (by omega), if_neg (by omega), if_neg (by omega), if_neg (by omega), if_pos h2, if_neg (by omega), if_neg (by omega), if_neg (by omega), if_neg (by omega), if_pos h2]
    simp only [pm_s]
    rw [if_neg (by omega), if_neg (by omega), if_neg (by omega), if_neg (by omega), if_neg (by omega), if_neg (by omega), hM4, if_neg (by omega), if_neg (by omega), if_neg (by omega), if_pos (by omega)]
    congr 1
    omega
/-- state and array taken over within their bounds -/
theorem sS_congr {V V' : sV} {A A' : Nat → Int32} (h : sS V A) (h0 : ∀ b, b < 9 → V' 0 b = V 0 b) (h1 : ∀ b, b < 6 → V' 1 b = V 1 b) (h2 : ∀ r b, 2 ≤ r → r < 7 → b < 8 → V' r b = V r b) (h3 : ∀ r b, 7 ≤ r → r < 9 → b < 6 → V' r b = V r b) (h4 : ∀ r b, 9 ≤ r → r < 13 → b < 120 → V' r b = V r b) (hA : ∀ k, k < 547 → A' k = A k) : sS V' A' := by
  obtain ⟨hS, ⟨⟨p0, p1, p2, p3, p4, p5⟩, q2⟩, hC, hK, hL⟩ := (sS_iff _ _).mp h
  refine (sS_iff _ _).mpr ⟨?_, ⟨⟨?_, ?_, ?_, ?_, ?_, ?_⟩, ?_⟩, ?_, ?_, ?_⟩
  · intro j hj
    rw [h0 j hj, hA j (by omega)]
    exact hS j hj
  · rw [h1 0 (by omega)]; exact p0
  · rw [h1 1 (by omega)]; exact p1
  · rw [h1 2 (by omega)]; exact p2
  · rw [h1 3 (by omega)]; exact p3
  · rw [h1 4 (by omega)]; exact p4
  · rw [h1 5 (by omega)]; exact p5
  · intro j hj
    rw [h1 j hj, hA (9 + j) (by omega)]
    exact q2 j hj
  · rw [h1 0 (by omega)]
    intro c hc
    exact okC_keep (hC c hc) (fun r r1 r2 => h2 r c r1 r2 (by omega)) (fun i hi => hA _ (by omega))
  · rw [h1 1 (by omega)]
    intro c hc
    exact okK_keep (hK c hc) (fun r r1 r2 => h3 r c r1 r2 (by omega)) (fun i hi => hA _ (by omega))
  · rw [h1 1 (by omega), h1 2 (by omega)]
    intro c hc
    exact okL_keep (hL c hc) (Int.le_refl _) (fun r r1 r2 => h4 r c r1 r2 (by omega)) (fun i hi => hA _ (by omega))
theorem pi_547 {s k : Nat} : (547 : Int32) * nI s + nI k = nI (547 * s + k) := by
  rw [show (547 : Int32) = nI 547 from rfl, pi_mul, pi_add]
theorem pm_save {s : Nat} (hs : s < 2) (N0 : xm_M) : ∃ N', fX4_save_14_it xm_N (nI s) 0 N0 = some (N0.1 1 11, N') ∧ (∀ k j, N'.1 k j = if k = 3 ∧ j = s then 1 else if k = 2 ∧ 547 * s ≤ j ∧ j < 547 * s + 547 then N0.1 1 (j - 547 * s) else N0.1 k j) := by
  have loop : ∀ (q c : Nat) (N : xm_M), c ≤ 547 → 547 - c < q → (∀ k j, N.1 k j = if k = 2 ∧ 547 * s ≤ j ∧ j < 547 * s + c then N0.1 1 (j - 547 * s) else N0.1 k j) → ∃ N', fX4_save_14_it q (nI s) (nI c) N = some (N0.1 1 11, N') ∧ (∀ k j, N'.1 k j = if k = 3 ∧ j = s then 1 else if k = 2 ∧ 547 * s ≤ j ∧ j < 547 * s + 547 then N0.1 1 (j - 547 * s) else N0.1 k j) := by
    intro q
    induction q with
    | zero => intro c _ _ h; omega
    | succ q ih =>
      intro c N hc hq hN
      show ∃ N', fX4_save_14 (fX4_save_14_it q) (nI s) (nI c) N = some (N0.1 1 11, N') ∧ _
      unfold fX4_save_14
      have e1 : (547 : Int32) = nI 547 := rfl
      by_cases hlt : c < 547
      · rw [if_neg (by rw [e1, nI_leI (by omega) (by omega)]; omega), if_neg (px_kn hlt (by omega)), pi_547, if_neg (px_kn (n := 1094) (by omega) (by omega)), pb_lt, pb_lt, show nI c + Int32.ofInt 1 = nI (c + 1) from (nI_succ c).symm, nI_clamp (by omega), nI_clamp (by omega)]
        refine ih (c + 1) _ (by omega) (by omega) ?_
        intro k j
        rw [pm_s]
        by_cases h : k = 2 ∧ j = 547 * s + c
        · rw [if_pos h, if_pos (by omega), hN, if_neg (by omega)]
          congr 1
          omega
        · rw [if_neg h, hN]
          by_cases h2 : k = 2 ∧ 547 * s ≤ j ∧ j < 547 * s + c
          · rw [if_pos h2, if_pos (by omega)]
          · rw [if_neg h2, if_neg (by omega)]
      · rw [if_pos (by rw [e1, nI_leI (by omega) (by omega)]; omega), if_neg (px_kn hs (by omega)), pb_lt, nI_clamp (by omega)]
        have : c = 547 := by omega
        subst this
        have e11 : (xm_s N 3 s (vp_nar .boolean (1 : Int32))).1 1 11 = N0.1 1 11 := by
          rw [pm_s, if_neg (by omega), hN, if_neg (by omega)]
        rw [e11]
        refine ⟨_, rfl, ?_⟩
        intro k j
        rw [pm_s]
        by_cases h : k = 3 ∧ j = s
        · rw [if_pos h, if_pos h]
          decide
        · rw [if_neg h, if_neg h, hN]
  exact loop xm_N 0 N0 (by omega) (by show 547 - 0 < 4096; omega) (fun k j => by rw [if_neg (by omega)])
theorem pm_restore {s : Nat} (hs : s < 2) (N0 : xm_M) : ∃ N', fX4_restore_26_it xm_N (nI s) 0 N0 = some (N'.1 1 11, N') ∧ (∀ k j, N'.1 k j = if k = 1 ∧ j < 547 then N0.1 2 (547 * s + j) else N0.1 k j) := by
  have loop : ∀ (q c : Nat) (N : xm_M), c ≤ 547 → 547 - c < q → (∀ k j, N.1 k j = if k = 1 ∧ j < c then N0.1 2 (547 * s + j) else N0.1 k j) → ∃ N', fX4_restore_26_it q (nI s) (nI c) N = some (N'.1 1 11, N') ∧ (∀ k j, N'.1 k j = if k = 1 ∧ j < 547 then N0.1 2 (547 * s + j) else N0.1 k j) := by
    intro q
    induction q with
    | zero => intro c _ _ h; omega
    | succ q ih =>
      intro c N hc hq hN
      show ∃ N', fX4_restore_26 (fX4_restore_26_it q) (nI s) (nI c) N = some (N'.1 1 11, N') ∧ _
      unfold fX4_restore_26
      have e1 : (547 : Int32) = nI 547 := rfl
      by_cases hlt : c < 547
      · rw [if_neg (by rw [e1, nI_leI (by omega) (by omega)]; omega), pi_547, if_neg (px_kn (n := 1094) (by omega) (by omega)), if_neg (px_kn hlt (by omega)), pb_lt, pb_lt, show nI c + Int32.ofInt 1 = nI (c + 1) from (nI_succ c).symm, nI_clamp (by omega), nI_clamp (by omega)]
        refine ih (c + 1) _ (by omega) (by omega) ?_
        intro k j
        rw [pm_s]
        by_cases h : k = 1 ∧ j = c
        · rw [if_pos h, if_pos (by omega), hN, if_neg (by omega), h.2]
        · rw [if_neg h, hN]
          by_cases h2 : k = 1 ∧ j < c
          · rw [if_pos h2, if_pos (by omega)]
          · rw [if_neg h2, if_neg (by omega)]
      · rw [if_pos (by rw [e1, nI_leI (by omega) (by omega)]; omega)]
        have : c = 547 := by omega
        subst this
        exact ⟨N, rfl, hN⟩
  exact loop xm_N 0 N0 (by omega) (by show 547 - 0 < 4096; omega) (fun k j => by rw [if_neg (by omega)])
theorem xs_save (a : Int32) (M N : xm_M) (h : xR M N) : ∃ (r : Int32) (M1 N1 : xm_M), fX3_save a M = some (r, M1) ∧ fX4_save a N = some (r, N1) ∧ xR M1 N1 := by
  have e9 : N.1 1 11 = M.1 1 6 := h.1.2.2.1 2 (by omega)
  unfold fX3_save fX4_save fX3_slotOf
  rw [px_in, pm_in, pb_i, pb_i]
  by_cases h0 : 0 ≤ a ∧ a ≤ 1
  case neg =>
    simp only [if_neg h0, if_true]
    exact ⟨_, _, _, rfl, rfl, h⟩
  simp only [if_pos h0, show ¬ (1 : Int32) = 0 by decide, if_false, pb_lt]
  have h2a : 0 ≤ a.toInt := (pn_nn _).mp h0.1
  have h2b : a.toInt ≤ 1 := Int32.le_iff_toInt_le.mp h0.2
  obtain ⟨q, hq, rfl, _, _⟩ := pn_ofI (n := 1) h2a (by omega)
  obtain ⟨N', n1, n2⟩ := pm_save (s := q) (by omega) N
  rw [n1, e9]
  obtain ⟨x1, x2, x3, x4, x5, x6, x7⟩ := h
  match q, hq with
  | 0, _ =>
    obtain ⟨M', a1, a2, c0, c1, c2, c3, c4⟩ := px_take_17_1 M
    rw [if_pos (by decide), pb_r, if_pos rfl, a1, pb_v]
    have hr : (xm_s M' 17 10 1).1 1 6 = M.1 1 6 := by rw [pm_s, if_neg (by omega), a2 1 6 (by omega)]
    rw [hr]
    have hc : ∀ k j, (k < 17 ∨ 33 ≤ k) → (xm_s M' 17 10 1).1 k j = M.1 k j := fun k j z => by rw [pm_s, if_neg (by omega), a2 k j (by omega)]
    have hv : cVs 17 (xm_s M' 17 10 1) = cVs 17 M' := by
      funext r j
      unfold cVs
      repeat' split
      all_goals first | rfl | (rw [pm_s, if_neg (by omega)])
    refine ⟨_, _, _, rfl, rfl, ?_, Or.inr ⟨?_, ?_, ?_⟩, ?_, ?_, ?_, ?_, ?_⟩
    · rw [cVs_keep (s := 1) (fun k j k1 k2 => hc k j (by omega))]
      have : N'.1 1 = N.1 1 := by funext j; rw [n2, if_neg (by omega), if_neg (by omega)]
      rw [this]; exact x1
    · rw [pm_s, if_pos ⟨rfl, rfl⟩]
    · rw [n2, if_pos ⟨rfl, rfl⟩]
    · rw [hv]
      refine sS_congr x1 c0 c1 c2 c3 c4 ?_
      intro k hk
      show N'.1 2 k = _
      rw [n2, if_neg (by omega), if_pos (by omega)]
      rfl
    · rw [hc 33 10 (by omega), cVs_keep (s := 33) (fun k j k1 k2 => hc k j (by omega)), n2, if_neg (by omega), if_neg (by omega)]
      have : (fun k => N'.1 2 (547 + k)) = (fun k => N.1 2 (547 + k)) := by funext k; rw [n2, if_neg (by omega), if_neg (by omega)]
      rw [this]; exact x3
    · rw [hc 69 1 (by omega), n2, if_neg (by omega), if_neg (by omega)]; exact x4
    · rw [hc 69 1 (by omega)]; exact x5
    · rw [hc 69 1 (by omega)]; exact x6
    · intro j hj
      rw [hc 69 1 (by omega)] at hj
      rw [hc 70 j (by omega), n2, if_neg (by omega), if_neg (by omega)]
      exact x7 j hj
  | 1, _ =>
    obtain ⟨M', a1, a2, c0, c1, c2, c3, c4⟩ := px_take_33_1 M
    rw [if_neg (by decide), pb_r, if_neg (by decide), if_pos rfl, a1, pb_v]
    have hr : (xm_s M' 33 10 1).1 1 6 = M.1 1 6 := by rw [pm_s, if_neg (by omega), a2 1 6 (by omega)]
    rw [hr]
    have hc : ∀ k j, (k < 33 ∨ 49 ≤ k) → (xm_s M' 33 10 1).1 k j = M.1 k j := fun k j z => by rw [pm_s, if_neg (by omega), a2 k j (by omega)]
    have hv : cVs 33 (xm_s M' 33 10 1) = cVs 33 M' := by
      funext r j
      unfold cVs
      repeat' split
      all_goals first | rfl | (rw [pm_s, if_neg (by omega)])
    refine ⟨_, _, _, rfl, rfl, ?_, ?_, Or.inr ⟨?_, ?_, ?_⟩, ?_, ?_, ?_, ?_⟩
    · rw [cVs_keep (s := 1) (fun k j k1 k2 => hc k j (by omega))]
      have : N'.1 1 = N.1 1 := by funext j; rw [n2, if_neg (by omega), if_neg (by omega)]
      rw [this]; exact x1
    · rw [hc 17 10 (by omega), cVs_keep (s := 17) (fun k j k1 k2 => hc k j (by omega)), n2, if_neg (by omega), if_neg (by omega)]
      rcases x2 with y | y
      · exact Or.inl y
      · refine Or.inr ⟨y.1, y.2.1, ?_⟩
        refine sS_congr y.2.2 (fun _ _ => rfl) (fun _ _ => rfl) (fun _ _ _ _ _ => rfl) (fun _ _ _ _ _ => rfl) (fun _ _ _ _ _ => rfl) ?_
        intro k hk
        show N'.1 2 k = _
        rw [n2, if_neg (by omega), if_neg (by omega)]
    · rw [pm_s, if_pos ⟨rfl, rfl⟩]
    · rw [n2, if_pos ⟨rfl, rfl⟩]
    · rw [hv]
      refine sS_congr x1 c0 c1 c2 c3 c4 ?_
      intro k hk
      show N'.1 2 (547 + k) = _
      rw [n2, if_neg (by omega), if_pos (by omega)]
      congr 1
      omega
    · rw [hc 69 1 (by omega), n2, if_neg (by omega), if_neg (by omega)]; exact x4
    · rw [hc 69 1 (by omega)]; exact x5
    · rw [hc 69 1 (by omega)]; exact x6
    · intro j hj
      rw [hc 69 1 (by omega)] at hj
      rw [hc 70 j (by omega), n2, if_neg (by omega), if_neg (by omega)]
      exact x7 j hj
theorem xs_restore (a : Int32) (M N : xm_M) (h : xR M N) : ∃ (r : Int32) (M1 N1 : xm_M), fX3_restore a M = some (r, M1) ∧ fX4_restore a N = some (r, N1) ∧ xR M1 N1 := by
  unfold fX3_restore fX4_restore fX3_slotOf
  rw [px_in, pm_in, pb_i, pb_i]
  by_cases h0 : 0 ≤ a ∧ a ≤ 1
  case neg =>
    simp only [if_neg h0, if_true]
    exact ⟨_, _, _, rfl, rfl, h⟩
  simp only [if_pos h0, show ¬ (1 : Int32) = 0 by decide, if_false, pb_lt]
  have h2a : 0 ≤ a.toInt := (pn_nn _).mp h0.1
  have h2b : a.toInt ≤ 1 := Int32.le_iff_toInt_le.mp h0.2
  obtain ⟨q, hq, rfl, _, _⟩ := pn_ofI (n := 1) h2a (by omega)
  obtain ⟨N', n1, n2⟩ := pm_restore (s := q) (by omega) N
  rw [n1, if_neg (px_kn (n := 2) (show q < 2 by omega) (by omega)), nI_clamp (by omega)]
  obtain ⟨x1, x2, x3, x4, x5, x6, x7⟩ := h
  have hm : ∀ k j, ¬ k = 1 → N'.1 k j = N.1 k j := fun k j z => by rw [n2, if_neg (fun y => z y.1)]
  match q, hq, n2 with
  | 0, _, n2 =>
    obtain ⟨M', a1, a2, c0, c1, c2, c3, c4⟩ := px_take_1_17 M
    rw [if_pos (by decide), pb_r, if_pos rfl]
    rcases x2 with y | y
    · rw [if_pos y.1, if_pos y.2]
      exact ⟨_, _, _, rfl, rfl, x1, Or.inl y, x3, x4, x5, x6, x7⟩
    rw [if_neg (by rw [y.1]; decide), if_neg (by rw [y.2.1]; decide), a1, pb_v]
    have hs : sS (cVs 1 M') (N'.1 1) := by
      refine sS_congr y.2.2 c0 c1 c2 c3 c4 ?_
      intro k hk
      rw [n2, if_pos ⟨rfl, hk⟩]
      congr 1
      omega
    have e9 : N'.1 1 11 = M'.1 1 6 := hs.2.2.1 2 (by omega)
    rw [e9]
    exact ⟨_, _, _, rfl, rfl, xR_state ⟨x1, Or.inr y, x3, x4, x5, x6, x7⟩ (fun k j hk => a2 k j (by omega)) hm hs⟩
  | 1, _, n2 =>
    obtain ⟨M', a1, a2, c0, c1, c2, c3, c4⟩ := px_take_1_33 M
    rw [if_neg (by decide), pb_r, if_neg (by decide), if_pos rfl]
    rcases x3 with y | y
    · rw [if_pos y.1, if_pos y.2]
      exact ⟨_, _, _, rfl, rfl, x1, x2, Or.inl y, x4, x5, x6, x7⟩
    rw [if_neg (by rw [y.1]; decide), if_neg (by rw [y.2.1]; decide), a1, pb_v]
    have hs : sS (cVs 1 M') (N'.1 1) := by
      refine sS_congr y.2.2 c0 c1 c2 c3 c4 ?_
      intro k hk
      rw [n2, if_pos ⟨rfl, hk⟩]
    have e9 : N'.1 1 11 = M'.1 1 6 := hs.2.2.1 2 (by omega)
    rw [e9]
    exact ⟨_, _, _, rfl, rfl, xR_state ⟨x1, x2, Or.inr y, x4, x5, x6, x7⟩ (fun k j hk => a2 k j (by omega)) hm hs⟩
