/-! what if; nothing changes -/
theorem px_copy9 {k j : Nat} (M : xm_M) : ∃ M', fX3_copy k 9 j 9 M = some M' ∧ (∀ a b, M'.1 a b = if a = j ∧ b < 9 then M.1 k b else M.1 a b) ∧ M'.2 = M.2 := by
  unfold fX3_copy
  rw [if_neg (by decide), pb_lt]
  refine ⟨_, rfl, ?_, rfl⟩
  intro a b
  rw [pm_r]
  have e : (if (Int32.ofNat 9) < (Int32.ofNat 9) then (Int32.ofNat 9) else (Int32.ofNat 9)).toNatClampNeg = 9 := by decide
  have e0 : (0 : Int32).toNatClampNeg = 0 := by decide
  rw [e, e0]
  unfold va_cpy
  by_cases h : a = j
  · by_cases hb : b < 9
    · rw [if_pos h, if_pos (show 0 ≤ b ∧ b < 0 + 9 by omega), if_pos ⟨h, hb⟩, Nat.zero_add, Nat.sub_zero]
    · rw [if_pos h, if_neg (show ¬ (0 ≤ b ∧ b < 0 + 9) by omega), if_neg (fun z => hb z.2), h]
  · rw [if_neg h, if_neg (fun z => h z.1)]
/-- the view in which a setting is tried -/
def sp_try (V : sV) (j : Nat) (v : Int32) : sV := fun r i => if r = 0 then (if i = j then v else V 0 i) else V r i
theorem pz_547 {j : Nat} (hj : j < 9) : ¬ (nI j < 0 ∨ 547 ≤ j) := by
  have := px_kn (e := j) (n := 547) (by omega) (by omega)
  unfold px_k at this
  rw [nI_clamp (by omega)] at this
  exact this
theorem pz_add (j : Nat) : (0 : Int32) + nI j = nI j := by rw [show (0 : Int32) = nI 0 from rfl, pi_add, Nat.zero_add]
/-! sights there are -/
theorem px_has {n : Nat} {M : xm_M} (hn : n ≤ 120) (h6 : M.1 1 6 = nI n) : ∃ x : Int32, fX1_hasSights M = some (x, M) ∧ (x = 0 ↔ ∀ j, j < n → ¬ 0 ≤ M.1 13 j) := by
  have loop : ∀ (q e : Nat), e ≤ n → n - e < q → (∀ j, j < e → ¬ 0 ≤ M.1 13 j) → ∃ x : Int32, fX1_hasSights_2_it q (nI e) M = some (x, M) ∧ (x = 0 ↔ ∀ j, j < n → ¬ 0 ≤ M.1 13 j) := by
    intro q
    induction q with
    | zero => intro e _ h; omega
    | succ q ih =>
      intro e he hq hb
      show ∃ x : Int32, fX1_hasSights_2 (fX1_hasSights_2_it q) (nI e) M = some (x, M) ∧ _
      unfold fX1_hasSights_2
      rw [h6]
      by_cases hlt : e < n
      · rw [if_neg (by rw [nI_leI (by omega) (by omega)]; omega), px_isSight (by omega), pb_i]
        by_cases hs : 0 ≤ M.1 13 e
        · rw [if_pos hs, if_neg (by decide)]
          refine ⟨1, rfl, ⟨fun z => absurd z (by decide), fun z => absurd hs (z e hlt)⟩⟩
        · rw [if_neg hs, if_pos rfl, pb_lt, show nI e + Int32.ofInt 1 = nI (e + 1) from (nI_succ e).symm]
          refine ih (e + 1) (by omega) (by omega) ?_
          intro j hj
          by_cases z : j = e
          · rw [z]; exact hs
          · exact hb j (by omega)
      · rw [if_pos (by rw [nI_leI (by omega) (by omega)]; omega)]
        have : e = n := by omega
        subst this
        exact ⟨0, rfl, ⟨fun _ => hb, fun _ => rfl⟩⟩
  unfold fX1_hasSights
  rw [pb_lt]
  exact loop xm_N 0 (Nat.zero_le _) (by show n - 0 < 4096; omega) (fun j hj => by omega)
theorem sp_is4 {V : sV} (hok : sp_ok V) (e : Nat) : sp_F V e 0 = 4 ↔ 0 ≤ V 9 e := by
  rcases sp_forms hok e (sp_P V e) with ⟨y, a, b, z⟩ | ⟨y, _, _, z⟩ | ⟨y, k, w, t, d, hk, z⟩ | ⟨y, k, w, t, d, c, q, hk, _, z⟩
  · have : sp_F V e 0 = 4 := congrFun z 0
    exact ⟨fun _ => y, fun _ => this⟩
  · have : sp_F V e 0 = 0 := congrFun z 0
    rw [this]
    exact ⟨fun x => absurd x (by decide), fun x => absurd x y⟩
  · have : sp_F V e 0 = k := congrFun z 0
    rw [this]
    refine ⟨fun x => ?_, fun x => absurd x y⟩
    rcases hk with u | u | u <;> rw [u] at x <;> exact absurd x (by decide)
  · have : sp_F V e 0 = k := congrFun z 0
    rw [this]
    refine ⟨fun x => ?_, fun x => absurd x y⟩
    rcases hk with u | u | u <;> rw [u] at x <;> exact absurd x (by decide)
theorem sp_nK4 {V : sV} (hok : sp_ok V) : ∀ n : Nat, ∃ c, c ≤ n ∧ sp_nK V 4 n = nI c ∧ (c = 0 ↔ ∀ j, j < n → ¬ 0 ≤ V 9 j) := by
  intro n
  induction n with
  | zero => exact ⟨0, Nat.le_refl _, rfl, ⟨fun _ j hj => by omega, fun _ => rfl⟩⟩
  | succ n ih =>
    obtain ⟨c, h1, h2, h3⟩ := ih
    have hs : sp_nK V 4 (n + 1) = sp_nK V 4 n + (if sp_F V n 0 = 4 then 1 else 0) := rfl
    rw [hs, h2]
    by_cases h : 0 ≤ V 9 n
    · rw [if_pos ((sp_is4 hok n).mpr h)]
      refine ⟨c + 1, by omega, pi_succ c, ⟨fun z => by omega, fun z => absurd h (z n (by omega))⟩⟩
    · rw [if_neg (fun z => h ((sp_is4 hok n).mp z))]
      refine ⟨c, by omega, Int32.add_zero _, h3.trans ⟨fun z j hj => ?_, fun z j hj => z j (by omega)⟩⟩
      by_cases y : j = n
      · rw [y]; exact h
      · exact z j (by omega)
/-! the best trust -/
theorem pi_10 (t : Nat) : nI (10 * t) + Int32.ofInt 10 = nI (10 * (t + 1)) := by
  rw [show Int32.ofInt 10 = nI 10 from rfl, pi_add]
  congr 1
theorem pi_subN {a b : Nat} (h : b ≤ a) : nI a - nI b = nI (a - b) := by
  have e : nI a = nI (a - b) + nI b := by rw [pi_add]; congr 1; omega
  rw [e, Int32.add_sub_cancel]
