/-! count: the model's sums over the entries -/
theorem pm_many {V : sV} {n : Nat} {M : xm_M} (k : Int32) (hn : n ≤ 120) (h11 : M.1 1 11 = nI n) (hK : ∀ j, j < n → M.1 5 j = sp_F V j 0) : fX4_manyOf k M = some (sp_nK V k n, M) := by
  have loop : ∀ (q e : Nat), e ≤ n → n - e < q → fX4_manyOf_4_it q k (sp_nK V k e) (nI e) M = some (sp_nK V k n, M) := by
    intro q
    induction q with
    | zero => intro e _ h; omega
    | succ q ih =>
      intro e he hq
      show fX4_manyOf_4 (fX4_manyOf_4_it q) k (sp_nK V k e) (nI e) M = _
      unfold fX4_manyOf_4 fX4_manyOf_31
      rw [h11]
      by_cases hlt : e < n
      · rw [if_neg (by rw [nI_leI (by omega) (by omega)]; omega), px_ifE (by omega), nI_clamp (by omega), hK e hlt]
        have hz := ih (e + 1) (by omega) (by omega)
        have hs : sp_nK V k (e + 1) = sp_nK V k e + (if sp_F V e 0 = k then 1 else 0) := rfl
        rw [hs] at hz
        by_cases h : sp_F V e 0 = k
        · rw [if_pos h, pb_lt, pb_lt, show nI e + Int32.ofInt 1 = nI (e + 1) from (nI_succ e).symm]
          rw [if_pos h] at hz
          exact hz
        · rw [if_neg h, pb_lt, pb_lt, show nI e + Int32.ofInt 1 = nI (e + 1) from (nI_succ e).symm]
          rw [if_neg h] at hz
          exact hz
      · rw [if_pos (by rw [nI_leI (by omega) (by omega)]; omega)]
        have : e = n := by omega
        subst this
        rfl
  unfold fX4_manyOf
  rw [pb_lt, pb_lt]
  exact loop xm_N 0 (Nat.zero_le _) (by show n - 0 < 4096; omega)
theorem pm_manyP {V : sV} {n : Nat} {M : xm_M} (hn : n ≤ 120) (h11 : M.1 1 11 = nI n) (hR : ∀ j, j < n → mR (sp_F V j) j M) : fX4_manyPulled M = some (sp_nP V n, M) := by
  have loop : ∀ (q e : Nat), e ≤ n → n - e < q → fX4_manyPulled_4_it q (sp_nP V e) (nI e) M = some (sp_nP V n, M) := by
    intro q
    induction q with
    | zero => intro e _ h; omega
    | succ q ih =>
      intro e he hq
      show fX4_manyPulled_4 (fX4_manyPulled_4_it q) (sp_nP V e) (nI e) M = _
      unfold fX4_manyPulled_4 fX4_manyPulled_30
      rw [h11]
      by_cases hlt : e < n
      · rw [if_neg (by rw [nI_leI (by omega) (by omega)]; omega), px_ifE (by omega), nI_clamp (by omega)]
        obtain ⟨_, _, _, r4, r5⟩ := hR e hlt
        have hz := ih (e + 1) (by omega) (by omega)
        have hs : sp_nP V (e + 1) = sp_nP V e + (if 0 ≤ sp_F V e 7 then 1 else 0) := rfl
        rw [hs] at hz
        by_cases h : 0 ≤ sp_F V e 7
        · rw [(r4 h).1, if_neg (Int32.not_lt.mpr h), pb_lt, pb_lt, show nI e + Int32.ofInt 1 = nI (e + 1) from (nI_succ e).symm]
          rw [if_pos h] at hz
          exact hz
        · rw [r5 h, if_pos (by decide), pb_lt, pb_lt, show nI e + Int32.ofInt 1 = nI (e + 1) from (nI_succ e).symm]
          rw [if_neg h] at hz
          exact hz
      · rw [if_pos (by rw [nI_leI (by omega) (by omega)]; omega)]
        have : e = n := by omega
        subst this
        rfl
  unfold fX4_manyPulled
  rw [pb_lt, pb_lt]
  exact loop xm_N 0 (Nat.zero_le _) (by show n - 0 < 4096; omega)
theorem pm_sum {V : sV} {n : Nat} {M : xm_M} (hn : n ≤ 120) (h11 : M.1 1 11 = nI n) (hR : ∀ j, j < n → mR (sp_F V j) j M) : fX4_sumOfErrors M = some (sp_E V n, M) := by
  have loop : ∀ (q e : Nat), e ≤ n → n - e < q → fX4_sumOfErrors_4_it q (sp_E V e) (nI e) M = some (sp_E V n, M) := by
    intro q
    induction q with
    | zero => intro e _ h; omega
    | succ q ih =>
      intro e he hq
      show fX4_sumOfErrors_4 (fX4_sumOfErrors_4_it q) (sp_E V e) (nI e) M = _
      unfold fX4_sumOfErrors_4 fX4_sumOfErrors_51
      rw [h11]
      by_cases hlt : e < n
      · rw [if_neg (by rw [nI_leI (by omega) (by omega)]; omega), px_ifE (by omega), nI_clamp (by omega), px_ifC (by omega)]
        obtain ⟨r1, r2, _, _, _⟩ := hR e hlt
        have hz := ih (e + 1) (by omega) (by omega)
        have hs : sp_E V (e + 1) = sp_E V e + (if sp_F V e 0 = 4 then (sp_ab32 (sp_F V e 9)).toInt64 + (sp_ab32 (sp_F V e 10)).toInt64 else 0) := rfl
        rw [hs] at hz
        rw [r1]
        by_cases h : sp_F V e 0 = 4
        · rw [if_pos h, pm_size, pb_i, px_ifC (by omega), pm_size, pb_i, (r2 h).1, (r2 h).2, pb_lt, pb_lt, show nI e + Int32.ofInt 1 = nI (e + 1) from (nI_succ e).symm]
          rw [if_pos h] at hz
          exact hz
        · rw [if_neg h, pb_lt, pb_lt, show nI e + Int32.ofInt 1 = nI (e + 1) from (nI_succ e).symm]
          rw [if_neg h] at hz
          exact hz
      · rw [if_pos (by rw [nI_leI (by omega) (by omega)]; omega)]
        have : e = n := by omega
        subst this
        rfl
  unfold fX4_sumOfErrors
  rw [pb_lt, pb_lt]
  exact loop xm_N 0 (Nat.zero_le _) (by show n - 0 < 4096; omega)
/-- what is told of a sum -/
def sp_told (x : Int64) : Int32 := if x ≤ 2000000000 then x.toInt32 else 2000000000
theorem pm_toldE {V : sV} {n : Nat} {M : xm_M} (hn : n ≤ 120) (h11 : M.1 1 11 = nI n) (hR : ∀ j, j < n → mR (sp_F V j) j M) : fX4_errorsTold M = some (sp_told (sp_E V n), M) := by
  unfold fX4_errorsTold sp_told
  rw [pm_sum hn h11 hR, pb_l]
  simp only [pl_le]
  by_cases h : sp_E V n ≤ 2000000000
  · rw [if_pos h, if_pos h, pm_sum hn h11 hR, pb_l]
  · rw [if_neg h, if_neg h]
theorem px_toldE (M : xm_M) : fX2_toldErrors M = some (sp_told (M.2 49 9), M) := by
  unfold fX2_toldErrors sp_told
  by_cases h : M.2 49 9 ≤ 2000000000
  · rw [if_neg (Int64.not_lt.mpr h), if_pos h]
  · rw [if_pos (Int64.not_le.mp h), if_neg h]
    rfl
theorem px_cnt0 {M M1 : xm_M} (f1 : fX2_follow 2 M = some M1) : fX3_count 0 M = some (M1.1 1 6, M1) := by
  unfold fX3_count fX3_count_172
  simp only [px_in, pb_i, f1, pb_v]
  rw [if_neg (by decide), if_pos (by decide), if_pos (by decide)]
theorem px_cnt1 {M M1 : xm_M} (f1 : fX2_follow 2 M = some M1) : fX3_count 1 M = some (M1.1 68 0, M1) := by
  unfold fX3_count fX3_count_172
  simp only [px_in, pb_i, f1, pb_v]
  rw [if_neg (by decide), if_pos (by decide), if_neg (by decide), if_pos (by decide), show (1 : Int32) - 1 = 0 from by decide, px_kI_0, pb_i]
theorem px_cnt2 {M M1 : xm_M} (f1 : fX2_follow 2 M = some M1) : fX3_count 2 M = some (M1.1 68 1, M1) := by
  unfold fX3_count fX3_count_172
  simp only [px_in, pb_i, f1, pb_v]
  rw [if_neg (by decide), if_pos (by decide), if_neg (by decide), if_neg (by decide), if_pos (by decide), show (2 : Int32) - 1 = 1 from by decide, px_kI_1, pb_i]
theorem px_cnt3 {M M1 : xm_M} (f1 : fX2_follow 2 M = some M1) : fX3_count 3 M = some (M1.1 68 2, M1) := by
  unfold fX3_count fX3_count_172
  simp only [px_in, pb_i, f1, pb_v]
  rw [if_neg (by decide), if_pos (by decide), if_neg (by decide), if_neg (by decide), if_neg (by decide), if_pos (by decide), show (3 : Int32) - 1 = 2 from by decide, px_kI_2, pb_i]
theorem px_cnt4 {M M1 : xm_M} (f1 : fX2_follow 2 M = some M1) : fX3_count 4 M = some (M1.1 68 3, M1) := by
  unfold fX3_count fX3_count_172
  simp only [px_in, pb_i, f1, pb_v]
  rw [if_neg (by decide), if_pos (by decide), if_neg (by decide), if_neg (by decide), if_neg (by decide), if_neg (by decide), if_pos (by decide), show (4 : Int32) - 1 = 3 from by decide, px_kI_3, pb_i]
theorem px_cnt5 {M M1 : xm_M} (f1 : fX2_follow 2 M = some M1) : fX3_count 5 M = some (M1.1 68 4, M1) := by
  unfold fX3_count fX3_count_172
  simp only [px_in, pb_i, f1, pb_v]
  rw [if_neg (by decide), if_pos (by decide), if_neg (by decide), if_neg (by decide), if_neg (by decide), if_neg (by decide), if_neg (by decide), if_pos (by decide), show (5 : Int32) - 1 = 4 from by decide, px_kI_4, pb_i]
theorem px_cnt6 {M M1 : xm_M} (f1 : fX2_follow 2 M = some M1) : fX3_count 6 M = some (M1.1 49 8, M1) := by
  unfold fX3_count fX3_count_172
  simp only [px_in, pb_i, f1, pb_v]
  rw [if_neg (by decide), if_pos (by decide), if_neg (by decide), if_neg (by decide), if_neg (by decide), if_neg (by decide), if_neg (by decide), if_neg (by decide), if_pos (by decide)]
theorem px_cnt7 {M M1 : xm_M} (f1 : fX2_follow 2 M = some M1) : fX3_count 7 M = some (sp_told (M1.2 49 9), M1) := by
  unfold fX3_count fX3_count_172
  simp only [px_in, pb_i, f1, pb_v]
  rw [if_neg (by decide), if_pos (by decide), if_neg (by decide), if_neg (by decide), if_neg (by decide), if_neg (by decide), if_neg (by decide), if_neg (by decide), if_neg (by decide), if_pos (by decide), px_toldE, pb_i]
theorem px_cnt8 {M M1 : xm_M} (f1 : fX2_follow 2 M = some M1) : fX3_count 8 M = some (M1.1 49 6, M1) := by
  unfold fX3_count fX3_count_172
  simp only [px_in, pb_i, f1, pb_v]
  rw [if_neg (by decide), if_pos (by decide), if_neg (by decide), if_neg (by decide), if_neg (by decide), if_neg (by decide), if_neg (by decide), if_neg (by decide), if_neg (by decide), if_neg (by decide), if_pos (by decide)]
theorem px_cnt9 {M M1 : xm_M} (f1 : fX2_follow 2 M = some M1) : fX3_count 9 M = some (M1.1 1 4, M1) := by
  unfold fX3_count fX3_count_172
  simp only [px_in, pb_i, f1, pb_v]
  rw [if_neg (by decide), if_pos (by decide), if_neg (by decide), if_neg (by decide), if_neg (by decide), if_neg (by decide), if_neg (by decide), if_neg (by decide), if_neg (by decide), if_neg (by decide), if_neg (by decide), if_pos (by decide)]
theorem px_cnt10 {M M1 : xm_M} (f1 : fX2_follow 2 M = some M1) : fX3_count 10 M = some (M1.1 1 5, M1) := by
  unfold fX3_count fX3_count_172
  simp only [px_in, pb_i, f1, pb_v]
  rw [if_neg (by decide), if_pos (by decide), if_neg (by decide), if_neg (by decide), if_neg (by decide), if_neg (by decide), if_neg (by decide), if_neg (by decide), if_neg (by decide), if_neg (by decide), if_neg (by decide), if_neg (by decide), if_pos (by decide)]
theorem px_cnt11 {M M1 : xm_M} (f1 : fX2_follow 2 M = some M1) : fX3_count 11 M = some (M1.1 69 1, M1) := by
  unfold fX3_count fX3_count_172
  simp only [px_in, pb_i, f1, pb_v]
  rw [if_neg (by decide), if_pos (by decide), if_neg (by decide), if_neg (by decide), if_neg (by decide), if_neg (by decide), if_neg (by decide), if_neg (by decide), if_neg (by decide), if_neg (by decide), if_neg (by decide), if_neg (by decide), if_neg (by decide), if_pos (by decide)]
theorem pm_cnt0 {V : sV} {n : Nat} {N N1 : xm_M} (hn : n ≤ 120) (h11 : N1.1 1 11 = nI n) (hR : ∀ j, j < n → mR (sp_F V j) j N1) (f1 : fX4_findAll N = some N1) : fX4_count 0 N = some (N1.1 1 11, N1) := by
  unfold fX4_count
  simp only [pm_in, pb_i, f1, pb_v]
  rw [if_pos (by decide), if_pos (by decide), if_pos (by decide)]
theorem pm_cnt1 {V : sV} {n : Nat} {N N1 : xm_M} (hn : n ≤ 120) (h11 : N1.1 1 11 = nI n) (hR : ∀ j, j < n → mR (sp_F V j) j N1) (f1 : fX4_findAll N = some N1) : fX4_count 1 N = some (sp_nK V 0 n, N1) := by
  unfold fX4_count
  simp only [pm_in, pb_i, f1, pb_v]
  rw [if_pos (by decide), if_neg (by decide), show (1 : Int32) - 1 = 0 from by decide, pm_many 0 hn h11 (fun j hj => (hR j hj).1), pb_i]
theorem pm_cnt2 {V : sV} {n : Nat} {N N1 : xm_M} (hn : n ≤ 120) (h11 : N1.1 1 11 = nI n) (hR : ∀ j, j < n → mR (sp_F V j) j N1) (f1 : fX4_findAll N = some N1) : fX4_count 2 N = some (sp_nK V 1 n, N1) := by
  unfold fX4_count
  simp only [pm_in, pb_i, f1, pb_v]
  rw [if_pos (by decide), if_neg (by decide), show (2 : Int32) - 1 = 1 from by decide, pm_many 1 hn h11 (fun j hj => (hR j hj).1), pb_i]
theorem pm_cnt3 {V : sV} {n : Nat} {N N1 : xm_M} (hn : n ≤ 120) (h11 : N1.1 1 11 = nI n) (hR : ∀ j, j < n → mR (sp_F V j) j N1) (f1 : fX4_findAll N = some N1) : fX4_count 3 N = some (sp_nK V 2 n, N1) := by
  unfold fX4_count
  simp only [pm_in, pb_i, f1, pb_v]
  rw [if_pos (by decide), if_neg (by decide), show (3 : Int32) - 1 = 2 from by decide, pm_many 2 hn h11 (fun j hj => (hR j hj).1), pb_i]
theorem pm_cnt4 {V : sV} {n : Nat} {N N1 : xm_M} (hn : n ≤ 120) (h11 : N1.1 1 11 = nI n) (hR : ∀ j, j < n → mR (sp_F V j) j N1) (f1 : fX4_findAll N = some N1) : fX4_count 4 N = some (sp_nK V 3 n, N1) := by
  unfold fX4_count
  simp only [pm_in, pb_i, f1, pb_v]
  rw [if_pos (by decide), if_neg (by decide), show (4 : Int32) - 1 = 3 from by decide, pm_many 3 hn h11 (fun j hj => (hR j hj).1), pb_i]
theorem pm_cnt5 {V : sV} {n : Nat} {N N1 : xm_M} (hn : n ≤ 120) (h11 : N1.1 1 11 = nI n) (hR : ∀ j, j < n → mR (sp_F V j) j N1) (f1 : fX4_findAll N = some N1) : fX4_count 5 N = some (sp_nK V 4 n, N1) := by
  unfold fX4_count
  simp only [pm_in, pb_i, f1, pb_v]
  rw [if_pos (by decide), if_neg (by decide), show (5 : Int32) - 1 = 4 from by decide, pm_many 4 hn h11 (fun j hj => (hR j hj).1), pb_i]
theorem pm_cnt6 {V : sV} {n : Nat} {N N1 : xm_M} (hn : n ≤ 120) (h11 : N1.1 1 11 = nI n) (hR : ∀ j, j < n → mR (sp_F V j) j N1) (f1 : fX4_findAll N = some N1) : fX4_count 6 N = some (sp_nP V n, N1) := by
  unfold fX4_count
  simp only [pm_in, pb_i, f1, pb_v]
  rw [if_pos (by decide), if_pos (by decide), if_neg (by decide), if_neg (by decide), if_neg (by decide), if_neg (by decide), if_neg (by decide), if_neg (by decide), if_pos (by decide), pm_manyP hn h11 hR, pb_i]
theorem pm_cnt7 {V : sV} {n : Nat} {N N1 : xm_M} (hn : n ≤ 120) (h11 : N1.1 1 11 = nI n) (hR : ∀ j, j < n → mR (sp_F V j) j N1) (f1 : fX4_findAll N = some N1) : fX4_count 7 N = some (sp_told (sp_E V n), N1) := by
  unfold fX4_count
  simp only [pm_in, pb_i, f1, pb_v]
  rw [if_pos (by decide), if_pos (by decide), if_neg (by decide), if_neg (by decide), if_neg (by decide), if_neg (by decide), if_neg (by decide), if_neg (by decide), if_neg (by decide), if_pos (by decide), pm_toldE hn h11 hR, pb_i]
theorem pm_cnt8 {V : sV} {n : Nat} {N N1 : xm_M} (hn : n ≤ 120) (h11 : N1.1 1 11 = nI n) (hR : ∀ j, j < n → mR (sp_F V j) j N1) (f1 : fX4_findAll N = some N1) : fX4_count 8 N = some (N1.1 0 21, N1) := by
  unfold fX4_count
  simp only [pm_in, pb_i, f1, pb_v]
  rw [if_pos (by decide), if_pos (by decide), if_neg (by decide), if_neg (by decide), if_neg (by decide), if_neg (by decide), if_neg (by decide), if_neg (by decide), if_neg (by decide), if_neg (by decide), if_pos (by decide)]
theorem pm_cnt9 {V : sV} {n : Nat} {N N1 : xm_M} (hn : n ≤ 120) (h11 : N1.1 1 11 = nI n) (hR : ∀ j, j < n → mR (sp_F V j) j N1) (f1 : fX4_findAll N = some N1) : fX4_count 9 N = some (N1.1 1 9, N1) := by
  unfold fX4_count
  simp only [pm_in, pb_i, f1, pb_v]
  rw [if_pos (by decide), if_pos (by decide), if_neg (by decide), if_neg (by decide), if_neg (by decide), if_neg (by decide), if_neg (by decide), if_neg (by decide), if_neg (by decide), if_neg (by decide), if_neg (by decide), if_pos (by decide)]
theorem pm_cnt10 {V : sV} {n : Nat} {N N1 : xm_M} (hn : n ≤ 120) (h11 : N1.1 1 11 = nI n) (hR : ∀ j, j < n → mR (sp_F V j) j N1) (f1 : fX4_findAll N = some N1) : fX4_count 10 N = some (N1.1 1 10, N1) := by
  unfold fX4_count
  simp only [pm_in, pb_i, f1, pb_v]
  rw [if_pos (by decide), if_pos (by decide), if_neg (by decide), if_neg (by decide), if_neg (by decide), if_neg (by decide), if_neg (by decide), if_neg (by decide), if_neg (by decide), if_neg (by decide), if_neg (by decide), if_neg (by decide), if_pos (by decide)]
theorem pm_cnt11 {V : sV} {n : Nat} {N N1 : xm_M} (hn : n ≤ 120) (h11 : N1.1 1 11 = nI n) (hR : ∀ j, j < n → mR (sp_F V j) j N1) (f1 : fX4_findAll N = some N1) : fX4_count 11 N = some (N1.1 0 4, N1) := by
  unfold fX4_count
  simp only [pm_in, pb_i, f1, pb_v]
  rw [if_pos (by decide), if_pos (by decide), if_neg (by decide), if_neg (by decide), if_neg (by decide), if_neg (by decide), if_neg (by decide), if_neg (by decide), if_neg (by decide), if_neg (by decide), if_neg (by decide), if_neg (by decide), if_neg (by decide), if_pos (by decide)]
theorem pi_sub12 (j : Nat) : nI (12 + j) - 12 = nI j := by
  rw [← pi_add, Int32.add_comm, show nI 12 = 12 from rfl, Int32.add_sub_cancel]
theorem xs_count (a : Int32) (M N : xm_M) (h : xR M N) : ∃ (r : Int32) (M1 N1 : xm_M), fX3_count a M = some (r, M1) ∧ fX4_count a N = some (r, N1) ∧ xR M1 N1 := by
  obtain ⟨n, M1, N1, hn, hn1, f1, f2, hW, hm, hc, hk⟩ := xs_way h
  have e4 : M.1 1 6 = nI n := hn1
  have e9 : N.1 1 11 = nI n := by rw [← hn1]; exact h.1.2.2.1 2 (by omega)
  have eN : N1.1 1 11 = nI n := by rw [hk 1 11 (by omega)]; exact e9
  have hR : ∀ j, j < n → mR (sp_F (cVs 1 M) j) j N1 := fun j hj => (hm.2.2 j hj).1
  have hx := xR_keep h hc hk
  obtain ⟨w1, w2, w3, w4, w5, w6, w7⟩ := hW
  by_cases h2 : 0 ≤ a ∧ a ≤ 20
  case neg =>
    have ne : ∀ j : Int32, (0 ≤ j ∧ j ≤ 20) → ¬ a = j := fun j hj z => h2 (z ▸ hj)
    have n1 : ¬ (12 ≤ a ∧ a ≤ 20) := fun z => h2 ⟨Int32.le_trans (by decide) z.1, z.2⟩
    have n2 : ¬ (1 ≤ a ∧ a ≤ 5) := fun z => h2 ⟨Int32.le_trans (by decide) z.1, Int32.le_trans z.2 (by decide)⟩
    unfold fX3_count fX4_count
    simp only [px_in, pm_in, pb_i, f2, pb_v, if_neg h2, if_neg n1, if_neg n2, if_true]
    rw [if_neg (ne 0 (by decide)), if_neg (ne 1 (by decide)), if_neg (ne 2 (by decide)), if_neg (ne 3 (by decide)), if_neg (ne 4 (by decide)), if_neg (ne 5 (by decide)), if_neg (ne 6 (by decide)), if_neg (ne 7 (by decide)), if_neg (ne 8 (by decide)), if_neg (ne 9 (by decide)), if_neg (ne 10 (by decide)), if_neg (ne 11 (by decide))]
    exact ⟨_, M, N1, rfl, rfl, xR_keep h (cK_refl M) hk⟩
  have h2a : 0 ≤ a.toInt := (pn_nn _).mp h2.1
  have h2b : a.toInt ≤ 20 := Int32.le_iff_toInt_le.mp h2.2
  obtain ⟨q, hq, rfl, _, _⟩ := pn_ofI (n := 20) h2a (by omega)
  by_cases hq2 : q < 12
  case neg =>
    obtain ⟨j, rfl⟩ : ∃ j, q = 12 + j := ⟨q - 12, by omega⟩
    have hj : j < 9 := by omega
    have c1 : ¬ nI (12 + j) < (12 : Int32) := by
      have e : (nI (12 + j) < (12 : Int32)) = (12 + j < 12) := px_lt_nI (n := 12) rfl (by omega) (by omega)
      rw [e]
      omega
    have c2 : (12 : Int32) ≤ nI (12 + j) := Int32.not_lt.mp c1
    unfold fX3_count fX4_count
    simp only [px_in, pm_in, pb_i, if_pos h2, if_neg c1, if_pos (show 12 ≤ nI (12 + j) ∧ nI (12 + j) ≤ 20 from ⟨c2, h2.2⟩), show ¬ (1 : Int32) = 0 by decide, if_false]
    rw [pi_sub12, px_item (px_kn hj (by omega)) (by omega), pm_set (by omega), pb_i, pb_i, nI_clamp (by omega)]
    have e : N.1 1 j = M.1 2 j := h.1.2.1 j hj
    rw [e]
    exact ⟨_, _, _, rfl, rfl, h⟩
  have s0 : N.1 1 9 = M.1 1 4 := h.1.2.2.1 0 (by omega)
  have s1 : N.1 1 10 = M.1 1 5 := h.1.2.2.1 1 (by omega)
  have s4 : M.1 69 1 = N.1 0 4 := h.2.2.2.1
  have k0 : M1.1 68 0 = sp_nK (cVs 1 M) 0 n := w7 0 (by omega)
  have k1 : M1.1 68 1 = sp_nK (cVs 1 M) 1 n := w7 1 (by omega)
  have k2 : M1.1 68 2 = sp_nK (cVs 1 M) 2 n := w7 2 (by omega)
  have k3 : M1.1 68 3 = sp_nK (cVs 1 M) 3 n := w7 3 (by omega)
  have k4 : M1.1 68 4 = sp_nK (cVs 1 M) 4 n := w7 4 (by omega)
  have k8 : M1.1 49 6 = N1.1 0 21 := by
    have a1 := congrArg (fun p : sP => p.2.2.2.1) w3
    have a2 := congrArg (fun p : sP => p.2.2.2.1) hm.2.1
    exact a1.trans a2.symm
  match q, hq2 with
  | 0, _ => exact ⟨_, M1, N1, px_cnt0 f1, (pm_cnt0 hn eN hR f2).trans (by rw [eN, hc 1 6 (by omega), e4]), hx⟩
  | 1, _ => exact ⟨_, M1, N1, px_cnt1 f1, (pm_cnt1 hn eN hR f2).trans (by rw [k0]), hx⟩
  | 2, _ => exact ⟨_, M1, N1, px_cnt2 f1, (pm_cnt2 hn eN hR f2).trans (by rw [k1]), hx⟩
  | 3, _ => exact ⟨_, M1, N1, px_cnt3 f1, (pm_cnt3 hn eN hR f2).trans (by rw [k2]), hx⟩
  | 4, _ => exact ⟨_, M1, N1, px_cnt4 f1, (pm_cnt4 hn eN hR f2).trans (by rw [k3]), hx⟩
  | 5, _ => exact ⟨_, M1, N1, px_cnt5 f1, (pm_cnt5 hn eN hR f2).trans (by rw [k4]), hx⟩
  | 6, _ => exact ⟨_, M1, N1, px_cnt6 f1, (pm_cnt6 hn eN hR f2).trans (by rw [w5]), hx⟩
  | 7, _ => exact ⟨_, M1, N1, px_cnt7 f1, (pm_cnt7 hn eN hR f2).trans (by rw [w6]), hx⟩
  | 8, _ => exact ⟨_, M1, N1, px_cnt8 f1, (pm_cnt8 hn eN hR f2).trans (by rw [k8]), hx⟩
  | 9, _ => exact ⟨_, M1, N1, px_cnt9 f1, (pm_cnt9 hn eN hR f2).trans (by rw [hc 1 4 (by omega), hk 1 9 (by omega), s0]), hx⟩
  | 10, _ => exact ⟨_, M1, N1, px_cnt10 f1, (pm_cnt10 hn eN hR f2).trans (by rw [hc 1 5 (by omega), hk 1 10 (by omega), s1]), hx⟩
  | 11, _ => exact ⟨_, M1, N1, px_cnt11 f1, (pm_cnt11 hn eN hR f2).trans (by rw [hc 69 1 (by omega), hk 0 4 (by omega), s4]), hx⟩
