/-! BOTH MEMORIES: what holds between them -/
/-- the view of a class's state, its object at cell s -/
def cVs (s : Nat) (M : xm_M) : sV := fun r j => if r = 0 then M.1 (s + 1) j else if r = 1 then M.1 s (4 + j) else if r < 7 then M.1 (s + 1 + r) j else if r < 9 then M.1 (s + 2 + r) j else if r < 13 then M.1 (s + 3 + r) j else 0
theorem cVs_1 (M : xm_M) : cV 2 M = cVs 1 M := by
  funext r j
  unfold cV cVs
  repeat' split
  all_goals first | rfl | omega
def sS (V : sV) (A : Nat → Int32) : Prop := sp_ok V ∧ mA V A
def xR (M N : xm_M) : Prop :=
  sS (cVs 1 M) (N.1 1) ∧
  ((M.1 17 10 = 0 ∧ N.1 3 0 = 0) ∨ (M.1 17 10 = 1 ∧ N.1 3 0 = 1 ∧ sS (cVs 17 M) (fun k => N.1 2 k))) ∧
  ((M.1 33 10 = 0 ∧ N.1 3 1 = 0) ∨ (M.1 33 10 = 1 ∧ N.1 3 1 = 1 ∧ sS (cVs 33 M) (fun k => N.1 2 (547 + k)))) ∧
  (M.1 69 1 = N.1 0 4 ∧ 0 ≤ (M.1 69 1).toInt ∧ (M.1 69 1).toInt ≤ 100 ∧ ∀ j : Nat, (j : Int) < (M.1 69 1).toInt → M.1 70 j = N.1 4 j)
/-- what a call that asks leaves alone -/
def cK (M M' : xm_M) : Prop := ∀ k j, (k < 49 ∨ k = 69 ∧ j = 1 ∨ k = 70) → M'.1 k j = M.1 k j
def mK (N N' : xm_M) : Prop := ∀ k j, ((k = 0 ∧ j = 4) ∨ (1 ≤ k ∧ k ≤ 4)) → N'.1 k j = N.1 k j
theorem cVs_keep {s : Nat} {M M' : xm_M} (h : ∀ k j, s ≤ k → k < s + 16 → M'.1 k j = M.1 k j) : cVs s M' = cVs s M := by
  funext r j
  unfold cVs
  repeat' split
  all_goals first | rfl | exact h _ _ (by omega) (by omega)
theorem xR_keep {M N M' N' : xm_M} (h : xR M N) (hc : cK M M') (hm : mK N N') : xR M' N' := by
  obtain ⟨h1, h2, h3, h4, h5, h6, h7⟩ := h
  have n1 : N'.1 1 = N.1 1 := by funext j; exact hm 1 j (by omega)
  have n2 : N'.1 2 = N.1 2 := by funext j; exact hm 2 j (by omega)
  unfold xR
  rw [cVs_keep (s := 1) (fun k j _ _ => hc k j (by omega)), cVs_keep (s := 17) (fun k j _ _ => hc k j (by omega)), cVs_keep (s := 33) (fun k j _ _ => hc k j (by omega)), n1, n2, hc 17 10 (by omega), hc 33 10 (by omega), hm 3 0 (by omega), hm 3 1 (by omega), hc 69 1 (by omega), hm 0 4 (by omega)]
  refine ⟨h1, h2, h3, h4, h5, h6, ?_⟩
  intro j hj
  rw [hc 70 j (by omega), hm 4 j (by omega)]
  exact h7 j hj
theorem cK_refl (M : xm_M) : cK M M := fun _ _ _ => rfl
theorem mK_refl (N : xm_M) : mK N N := fun _ _ _ => rfl
theorem cK_trans {M M1 M2 : xm_M} (h1 : cK M M1) (h2 : cK M1 M2) : cK M M2 := fun k j h => (h2 k j h).trans (h1 k j h)
theorem mK_trans {M M1 M2 : xm_M} (h1 : mK M M1) (h2 : mK M1 M2) : mK M M2 := fun k j h => (h2 k j h).trans (h1 k j h)
/-! settings -/
def sp_lo (j : Nat) : Int := match j with | 0 => 100 | 1 => 100 | 2 => 100 | 5 => 1 | _ => 0
def sp_hi (j : Nat) : Int := match j with | 0 => 2000 | 1 => 2000 | 2 => 1000 | 3 => 200000 | 4 => 100 | 5 => 64 | 6 => 100 | 7 => 2000 | 8 => 900000 | _ => 0
theorem px_r9 {P : Nat → Prop} (h0 : P 0) (h1 : P 1) (h2 : P 2) (h3 : P 3) (h4 : P 4) (h5 : P 5) (h6 : P 6) (h7 : P 7) (h8 : P 8) : ∀ r, r < 9 → P r := by
  intro r hr
  match r, hr with
  | 0, _ => exact h0
  | 1, _ => exact h1
  | 2, _ => exact h2
  | 3, _ => exact h3
  | 4, _ => exact h4
  | 5, _ => exact h5
  | 6, _ => exact h6
  | 7, _ => exact h7
  | 8, _ => exact h8
/-- the ranges of counts, the start, map and log -/
def sp_okM (V : sV) : Prop :=
  (0 ≤ (V 1 0).toInt ∧ (V 1 0).toInt ≤ 8) ∧ (0 ≤ (V 1 1).toInt ∧ (V 1 1).toInt ≤ 6) ∧ (0 ≤ (V 1 2).toInt ∧ (V 1 2).toInt ≤ 120) ∧ (-100000 ≤ (V 1 3).toInt ∧ (V 1 3).toInt ≤ 100000) ∧ (-100000 ≤ (V 1 4).toInt ∧ (V 1 4).toInt ≤ 100000) ∧ (0 ≤ (V 1 5).toInt ∧ (V 1 5).toInt < 3600000) ∧
  (∀ c : Nat, (c : Int) < (V 1 0).toInt → (∀ r, 2 ≤ r → r < 6 → -100000 ≤ (V r c).toInt ∧ (V r c).toInt ≤ 100000) ∧ 0 ≤ (V 6 c).toInt ∧ (V 6 c).toInt < 18000) ∧
  (∀ j : Nat, (j : Int) < (V 1 1).toInt → ∀ r, 7 ≤ r → r < 9 → -100000 ≤ (V r j).toInt ∧ (V r j).toInt ≤ 100000) ∧
  (∀ e : Nat, (e : Int) < (V 1 2).toInt → (V 9 e = -6 ∧ (-300 ≤ (V 10 e).toInt ∧ (V 10 e).toInt ≤ 300) ∧ (-300 ≤ (V 11 e).toInt ∧ (V 11 e).toInt ≤ 300) ∧ -300000 ≤ (V 12 e).toInt ∧ (V 12 e).toInt ≤ 300000) ∨ (0 ≤ (V 9 e).toInt ∧ (V 9 e).toInt < (V 1 1).toInt))
theorem sp_ok_iff (V : sV) : sp_ok V ↔ (∀ j, j < 9 → sp_lo j ≤ (V 0 j).toInt ∧ (V 0 j).toInt ≤ sp_hi j) ∧ sp_okM V := by
  constructor
  · intro h
    obtain ⟨h0, h1, h2, h3, h4, h5, h6, h7, h8, h9⟩ := h
    exact ⟨px_r9 h0 h1 h2 h3 h4 h5 h6 h7 h8, h9⟩
  · intro h
    exact ⟨h.1 0 (by omega), h.1 1 (by omega), h.1 2 (by omega), h.1 3 (by omega), h.1 4 (by omega), h.1 5 (by omega), h.1 6 (by omega), h.1 7 (by omega), h.1 8 (by omega), h.2⟩
/-- a number is a setting's, and that is its index -/
def sp_tk (a v : Int32) : Int32 := if a = 0 ∨ a = 1 then (if 100 ≤ v ∧ v ≤ 2000 then 1 else 0) else if a = 2 then (if 100 ≤ v ∧ v ≤ 1000 then 1 else 0) else if a = 3 then (if 0 ≤ v ∧ v ≤ 200000 then 1 else 0) else if a = 4 ∨ a = 6 then (if 0 ≤ v ∧ v ≤ 100 then 1 else 0) else if a = 5 then (if 1 ≤ v ∧ v ≤ 64 then 1 else 0) else if a = 7 then (if 0 ≤ v ∧ v ≤ 2000 then 1 else 0) else if a = 8 then (if 0 ≤ v ∧ v ≤ 900000 then 1 else 0) else 0
theorem pm_bit {P : Prop} [Decidable P] {α : Type} (f : Int32 → α) (z : α) : (if (if P then (1 : Int32) else 0) = 0 ∨ (if P then (1 : Int32) else 0) = 1 then f (if P then 1 else 0) else z) = f (if P then 1 else 0) := by
  by_cases h : P
  · simp only [if_pos h]; rfl
  · simp only [if_neg h]; rfl
theorem pm_bit2 {P : Prop} [Decidable P] {α : Type} (f : Int32 → α) : (if (if P then (1 : Int32) else 0) = 0 then f 0 else f 1) = f (if P then 1 else 0) := by
  by_cases h : P
  · simp only [if_pos h]; rfl
  · simp only [if_neg h]; rfl
theorem pm_takes (a v : Int32) (M : xm_M) : fX4_takes a v M = some (sp_tk a v, M) := by
  unfold fX4_takes sp_tk fX4_takes_48 fX4_takes_76
  simp only [pm_in, pb_i, pm_bit (fun x => some (x, M)), pm_bit2 (fun x => some (x, M))]
  by_cases h0 : a = 0
  · simp only [h0, true_or, if_true]
  by_cases h1 : a = 1
  · subst h1; rfl
  by_cases h2 : a = 2
  · subst h2; rfl
  by_cases h3 : a = 3
  · subst h3; rfl
  by_cases h4 : a = 4
  · subst h4; rfl
  by_cases h5 : a = 5
  · subst h5; rfl
  by_cases h6 : a = 6
  · subst h6; rfl
  by_cases h7 : a = 7
  · subst h7; rfl
  by_cases h8 : a = 8
  · subst h8; rfl
  simp only [h0, h1, h2, h3, h4, h5, h6, h7, h8, or_self, if_false]
theorem px_isSet (a v : Int32) (M : xm_M) : fX3_isSetting a v M = some (sp_tk a v, M) := by
  unfold fX3_isSetting
  simp only [px_in, pb_i, pm_bit2 (fun x => some (x, M))]
  by_cases h : a < 0 ∨ 9 ≤ a.toNatClampNeg
  · have hk : sp_tk a v = 0 := by
      have hn : ∀ j : Nat, j < 9 → ¬ a = nI j := by
        intro j hj z
        rw [z] at h
        exact px_kn hj (by omega) h
      have n0 : ¬ a = 0 := hn 0 (by omega)
      have n1 : ¬ a = 1 := hn 1 (by omega)
      have n2 : ¬ a = 2 := hn 2 (by omega)
      have n3 : ¬ a = 3 := hn 3 (by omega)
      have n4 : ¬ a = 4 := hn 4 (by omega)
      have n5 : ¬ a = 5 := hn 5 (by omega)
      have n6 : ¬ a = 6 := hn 6 (by omega)
      have n7 : ¬ a = 7 := hn 7 (by omega)
      have n8 : ¬ a = 8 := hn 8 (by omega)
      unfold sp_tk
      simp only [n0, n1, n2, n3, n4, n5, n6, n7, n8, or_self, if_false]
    rw [hk]
    by_cases h1 : a < 0
    · rw [if_pos h1]
    · rw [if_neg h1]
      have h9 : 9 ≤ a := by
        rw [Int32.le_iff_toInt_le]
        have h2 : 9 ≤ a.toNatClampNeg := by
          rcases h with z | z
          · exact absurd z h1
          · exact z
        have h3 : a.toNatClampNeg = a.toInt.toNat := rfl
        show (9 : Int) ≤ a.toInt
        omega
      rw [if_pos h9]
  · obtain ⟨j, hj, rfl⟩ := vp_in_of (x := a) (n := 9) h (by omega)
    have h1 : ¬ nI j < 0 := fun z => h (Or.inl z)
    have h9 : ¬ (9 : Int32) ≤ nI j := by
      rw [show (9 : Int32) = nI 9 from rfl, nI_leI (by omega) (by omega)]
      omega
    rw [if_neg h1, if_neg h9, if_neg h9, if_neg h, if_neg h, nI_clamp (by omega)]
    revert j
    intro j hj
    match j, hj with
    | 0, _ => intro _ _ _; rfl
    | 1, _ => intro _ _ _; rfl
    | 2, _ => intro _ _ _; rfl
    | 3, _ => intro _ _ _; rfl
    | 4, _ => intro _ _ _; rfl
    | 5, _ => intro _ _ _; rfl
    | 6, _ => intro _ _ _; rfl
    | 7, _ => intro _ _ _; rfl
    | 8, _ => intro _ _ _; rfl
