/-! THE LAW'S SMALL FUNCTIONS -/
def lw_up (a m : Int32) : Int32 := (a &&& (2147483647 : Int32)) - (a &&& (2147483647 : Int32)) / m * m
theorem lw_upM {a m : Int32} {M : xm_M} (hm : ¬ m = 0) : fL_up a m M = some (lw_up a m, M) := by
  unfold fL_up lw_up
  rw [if_neg hm]
theorem pn_and31 (a : Int32) : 0 ≤ (a &&& (2147483647 : Int32)).toInt := by
  have h : (a &&& (2147483647 : Int32)).toBitVec.msb = false := by
    rw [Int32.toBitVec_and, BitVec.msb_and]
    have : (2147483647 : Int32).toBitVec.msb = false := by decide
    rw [this, Bool.and_false]
  rw [BitVec.msb_eq_toInt] at h
  have h2 : ¬ (a &&& (2147483647 : Int32)).toBitVec.toInt < 0 := by simpa using h
  exact Int.not_lt.mp h2
theorem lw_up_in (a : Int32) {m : Int32} {k : Nat} (hk : m.toInt = (k : Int)) (h0 : 0 < k) (h1 : k < 100000000) : ∃ j : Nat, lw_up a m = nI j ∧ j < k ∧ (lw_up a m).toInt = (j : Int) := by
  have e : lw_up a m = (a &&& (2147483647 : Int32)) % m := pn_irem _ _
  have h2 := pn_and31 a
  have e2 : (lw_up a m).toInt = (a &&& (2147483647 : Int32)).toInt.tmod m.toInt := by rw [e, Int32.toInt_mod]
  have h3 := (pn_tmod (a &&& (2147483647 : Int32)).toInt m.toInt (by omega)).1 h2
  rw [← e2] at h3
  obtain ⟨j, j1, j2, j3, _⟩ := pn_ofI (x := lw_up a m) (n := k) h3.1 (by omega)
  exact ⟨j, j2, by omega, j3⟩
theorem lw_round (x : Int64) (M : xm_M) : fL_round x M = some (sp_head x, M) := by
  unfold fL_round sp_head
  refine congrArg (fun v : Int32 => some (v, M)) ?_
  have em : sp_mod x = x % 3600000 := pn_lrem x 3600000
  have e1 : x - x / 3600000 * 3600000 = sp_mod x := rfl
  rw [e1, pn_lrem]
  have hx : (sp_mod x).toInt = x.toInt.tmod 3600000 := by rw [em, Int64.toInt_mod]; rfl
  have hb := pn_tmod x.toInt 3600000 (by omega)
  have c : (3600000 : Int64).toInt = 3600000 := rfl
  have hs : (sp_mod x + 3600000).toInt = (sp_mod x).toInt + 3600000 := by
    rw [pn_add64 (by rw [c]; omega) (by rw [c]; omega), c]
  have z : (0 ≤ sp_mod x) = (0 ≤ (sp_mod x).toInt) := propext (by rw [Int64.le_iff_toInt_le]; exact Iff.rfl)
  simp only [z]
  have hm : ((sp_mod x + 3600000) % 3600000).toInt = ((sp_mod x).toInt + 3600000).tmod 3600000 := by rw [Int64.toInt_mod, hs, c]
  have hq : ∀ a : Int, 0 ≤ a → a.tmod 3600000 = a % 3600000 := fun a ha => Int.tmod_eq_emod_of_nonneg ha
  rw [hq _ (by omega)] at hm
  by_cases h : 0 ≤ (sp_mod x).toInt
  · rw [if_pos h]
    refine congrArg Int64.toInt32 ?_
    apply Int64.toInt_inj.mp
    rw [hm]
    omega
  · rw [if_neg h]
    refine congrArg Int64.toInt32 ?_
    apply Int64.toInt_inj.mp
    rw [hm, hs]
    omega
theorem lw_size (a : Int32) (M : xm_M) : fL_size a M = some (sp_ab32 a, M) := by
  unfold fL_size sp_ab32
  by_cases h : 0 ≤ a
  · rw [if_pos h, if_pos h]
  · rw [if_neg h, if_neg h, Int32.zero_sub]
theorem lw_cell (xs : Nat → Int32) {Ls k : Nat} (hL : Ls ≤ 260) (hk : k < 1000) (M : xm_M) : ∃ v, fL_cell xs Ls (nI k) M = some (v, M) := by
  unfold fL_cell
  have h0 : ¬ nI k < 0 := by
    rw [Int32.lt_iff_toInt_lt, nI_toInt (by omega)]
    show ¬ (_ < (0 : Int))
    omega
  by_cases h : nI k < Int32.ofNat Ls
  · rw [if_pos h, if_neg h0]; exact ⟨_, rfl⟩
  · rw [if_neg h]; exact ⟨_, rfl⟩
theorem lw_value {j : Nat} (hj : j < 9) (v : Int32) (M : xm_M) : ∃ u, fL_value (nI j) v M = some (u, M) ∧ sp_lo j ≤ u.toInt ∧ u.toInt ≤ sp_hi j := by
  have a1 : ∀ {x y : Int32} {n : Nat}, x.toInt = (n : Int) → 0 ≤ y.toInt → y.toInt < 1000000 → n < 1000 → (x + y).toInt = (n : Int) + y.toInt := fun h h1 h2 h3 => by rw [pn_add (by omega) (by omega), h]
  unfold fL_value fL_value_61
  match j, hj with
  | 0, _ =>
    obtain ⟨q, q1, q2, q3⟩ := lw_up_in v (m := 1901) (k := 1901) rfl (by omega) (by omega)
    rw [if_neg (show ¬ (2 : Int32) ≤ nI 0 by decide), lw_upM (by decide), pb_i]
    refine ⟨_, rfl, ?_⟩
    rw [a1 (x := 100) (n := 100) rfl (by omega) (by omega) (by omega)]
    show (100 : Int) ≤ _ ∧ _ ≤ (2000 : Int)
    omega
  | 1, _ =>
    obtain ⟨q, q1, q2, q3⟩ := lw_up_in v (m := 1901) (k := 1901) rfl (by omega) (by omega)
    rw [if_neg (show ¬ (2 : Int32) ≤ nI 1 by decide), lw_upM (by decide), pb_i]
    refine ⟨_, rfl, ?_⟩
    rw [a1 (x := 100) (n := 100) rfl (by omega) (by omega) (by omega)]
    show (100 : Int) ≤ _ ∧ _ ≤ (2000 : Int)
    omega
  | 2, _ =>
    obtain ⟨q, q1, q2, q3⟩ := lw_up_in v (m := 901) (k := 901) rfl (by omega) (by omega)
    rw [if_pos (show (2 : Int32) ≤ nI 2 by decide), if_pos (show nI 2 = 2 by decide), lw_upM (by decide), pb_i]
    refine ⟨_, rfl, ?_⟩
    rw [a1 (x := 100) (n := 100) rfl (by omega) (by omega) (by omega)]
    show (100 : Int) ≤ _ ∧ _ ≤ (1000 : Int)
    omega
  | 3, _ =>
    obtain ⟨q, q1, q2, q3⟩ := lw_up_in v (m := 200001) (k := 200001) rfl (by omega) (by omega)
    rw [if_pos (show (2 : Int32) ≤ nI 3 by decide), if_neg (show ¬ nI 3 = 2 by decide), if_pos (show nI 3 = 3 by decide), lw_upM (by decide), pb_i]
    refine ⟨_, rfl, ?_⟩
    rw [q3]
    show (0 : Int) ≤ _ ∧ _ ≤ (200000 : Int)
    omega
  | 4, _ =>
    obtain ⟨q, q1, q2, q3⟩ := lw_up_in v (m := 101) (k := 101) rfl (by omega) (by omega)
    rw [if_pos (show (2 : Int32) ≤ nI 4 by decide), if_neg (show ¬ nI 4 = 2 by decide), if_neg (show ¬ nI 4 = 3 by decide), if_pos (show nI 4 = 4 by decide), lw_upM (by decide), pb_i]
    refine ⟨_, rfl, ?_⟩
    rw [q3]
    show (0 : Int) ≤ _ ∧ _ ≤ (100 : Int)
    omega
  | 5, _ =>
    obtain ⟨q, q1, q2, q3⟩ := lw_up_in v (m := 64) (k := 64) rfl (by omega) (by omega)
    rw [if_pos (show (2 : Int32) ≤ nI 5 by decide), if_neg (show ¬ nI 5 = 2 by decide), if_neg (show ¬ nI 5 = 3 by decide), if_neg (show ¬ nI 5 = 4 by decide), if_neg (show ¬ nI 5 = 6 by decide), if_pos (show nI 5 = 5 by decide), lw_upM (by decide), pb_i]
    refine ⟨_, rfl, ?_⟩
    rw [a1 (x := 1) (n := 1) rfl (by omega) (by omega) (by omega)]
    show (1 : Int) ≤ _ ∧ _ ≤ (64 : Int)
    omega
  | 6, _ =>
    obtain ⟨q, q1, q2, q3⟩ := lw_up_in v (m := 101) (k := 101) rfl (by omega) (by omega)
    rw [if_pos (show (2 : Int32) ≤ nI 6 by decide), if_neg (show ¬ nI 6 = 2 by decide), if_neg (show ¬ nI 6 = 3 by decide), if_neg (show ¬ nI 6 = 4 by decide), if_pos (show nI 6 = 6 by decide), lw_upM (by decide), pb_i]
    refine ⟨_, rfl, ?_⟩
    rw [q3]
    show (0 : Int) ≤ _ ∧ _ ≤ (100 : Int)
    omega
  | 7, _ =>
    obtain ⟨q, q1, q2, q3⟩ := lw_up_in v (m := 2001) (k := 2001) rfl (by omega) (by omega)
    rw [if_pos (show (2 : Int32) ≤ nI 7 by decide), if_neg (show ¬ nI 7 = 2 by decide), if_neg (show ¬ nI 7 = 3 by decide), if_neg (show ¬ nI 7 = 4 by decide), if_neg (show ¬ nI 7 = 6 by decide), if_neg (show ¬ nI 7 = 5 by decide), if_pos (show nI 7 = 7 by decide), lw_upM (by decide), pb_i]
    refine ⟨_, rfl, ?_⟩
    rw [q3]
    show (0 : Int) ≤ _ ∧ _ ≤ (2000 : Int)
    omega
  | 8, _ =>
    obtain ⟨q, q1, q2, q3⟩ := lw_up_in v (m := 900001) (k := 900001) rfl (by omega) (by omega)
    rw [if_pos (show (2 : Int32) ≤ nI 8 by decide), if_neg (show ¬ nI 8 = 2 by decide), if_neg (show ¬ nI 8 = 3 by decide), if_neg (show ¬ nI 8 = 4 by decide), if_neg (show ¬ nI 8 = 6 by decide), if_neg (show ¬ nI 8 = 5 by decide), if_neg (show ¬ nI 8 = 7 by decide), lw_upM (by decide), pb_i]
    refine ⟨_, rfl, ?_⟩
    rw [q3]
    show (0 : Int) ≤ _ ∧ _ ≤ (900000 : Int)
    omega
/-- the law's state: n entries, three markers -/
def lwS (n : Nat) (M : xm_M) : Prop := cS (cVs 1 M) n ∧ n ≤ 26 ∧ cVs 1 M 1 1 = nI 3
