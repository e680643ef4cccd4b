/-! PURE ROWS. What the printed functions answer: the leaves. -/
theorem pb_lt {α β : Type} (v : α) (f : α → β) : xm_lt v f = f v := Classical.byContradiction (fun h => h rfl)
theorem pb_i {ρ : Type} (x : Int32) (M : xm_M) (K : Int32 → xm_M → Option ρ) : xm_bi (some (x, M)) K = K x M := Classical.byContradiction (fun h => h rfl)
theorem pb_l {ρ : Type} (x : Int64) (M : xm_M) (K : Int64 → xm_M → Option ρ) : xm_bl (some (x, M)) K = K x M := Classical.byContradiction (fun h => h rfl)
theorem pb_v {ρ : Type} (M : xm_M) (K : xm_M → Option ρ) : xm_bv (some M) K = K M := Classical.byContradiction (fun h => h rfl)
theorem pb_r {ρ : Type} (x : Nat) (M : xm_M) (K : Nat → xm_M → Option ρ) : xm_br (some (x, M)) K = K x M := Classical.byContradiction (fun h => h rfl)
theorem pl_b (x y : Int64) : (lg_cmp x y = 0 ↔ x = y) ∧ (0 ≤ lg_cmp x y ↔ y ≤ x) ∧ (0 < lg_cmp x y ↔ y < x) ∧ (lg_cmp x y ≤ 0 ↔ x ≤ y) ∧ (lg_cmp x y < 0 ↔ x < y) := by
  unfold lg_cmp
  simp only [gt_iff_lt, Int64.lt_iff_toInt_lt, Int64.le_iff_toInt_le, ← Int64.toInt_inj]
  repeat' split
  all_goals (simp <;> omega)
theorem pl_eq (x y : Int64) : (lg_cmp x y = 0) = (x = y) := propext (pl_b x y).1
theorem pl_ge (x y : Int64) : (0 ≤ lg_cmp x y) = (y ≤ x) := propext (pl_b x y).2.1
theorem pl_gt (x y : Int64) : (0 < lg_cmp x y) = (y < x) := propext (pl_b x y).2.2.1
theorem pl_le (x y : Int64) : (lg_cmp x y ≤ 0) = (x ≤ y) := propext (pl_b x y).2.2.2.1
theorem pl_lt (x y : Int64) : (lg_cmp x y < 0) = (x < y) := propext (pl_b x y).2.2.2.2
/-! a memory read back -/
theorem pm_s (M : xm_M) (k j a b : Nat) (v : Int32) : (xm_s M k j v).1 a b = if a = k ∧ b = j then v else M.1 a b := Classical.byContradiction (fun h => h rfl)
theorem pm_s2 (M : xm_M) (k j : Nat) (v : Int32) : (xm_s M k j v).2 = M.2 := Classical.byContradiction (fun h => h rfl)
theorem pm_l (M : xm_M) (k j : Nat) (v : Int64) : (xm_sl M k j v).1 = M.1 := Classical.byContradiction (fun h => h rfl)
theorem pm_l2 (M : xm_M) (k j a b : Nat) (v : Int64) : (xm_sl M k j v).2 a b = if a = k ∧ b = j then v else M.2 a b := Classical.byContradiction (fun h => h rfl)
theorem pm_r (M : xm_M) (k a b : Nat) (f : Nat → Int32) : (xm_r M k f).1 a b = if a = k then f b else M.1 a b := by
  show (if a = k then f else M.1 a) b = _
  split <;> rfl
theorem pm_r2 (M : xm_M) (k : Nat) (f : Nat → Int32) : (xm_r M k f).2 = M.2 := Classical.byContradiction (fun h => h rfl)
/-- an index within: the form in which it stands in the functions -/
def px_k (i : Int32) (n : Nat) : Prop := ¬ (i < 0 ∨ n ≤ i.toNatClampNeg)
theorem px_kn {e n : Nat} (h : e < n) (hn : n < 2 ^ 31) : px_k (nI e) n := vp_in_nI h hn
theorem px_kl {i : Int32} {n : Nat} (h : ¬ (i < 0 ∨ n ≤ i.toNatClampNeg)) : px_k i n := h
theorem px_ge {i : Int32} {n : Nat} (h : px_k i n) (hn : n < 2 ^ 31) : ¬ Int32.ofNat n ≤ i := by
  obtain ⟨j, hj, rfl⟩ := vp_in_of (x := i) (n := n) h hn
  exact nI_ge hj hn
theorem px_in (a lo hi : Int32) (M : xm_M) : fX3_isWithin a lo hi M = some (if lo ≤ a ∧ a ≤ hi then 1 else 0, M) := by
  unfold fX3_isWithin
  by_cases h1 : a < lo
  · simp [h1, Int32.not_le.mpr h1]
  · by_cases h2 : hi < a
    · simp [h1, h2, Int32.not_le.mpr h2]
    · simp [h1, h2, Int32.not_lt.mp h1, Int32.not_lt.mp h2]
theorem px_item {k n : Nat} {i : Int32} {M : xm_M} (h : px_k i n) (hn : n < 2 ^ 31) : fX3_item k n i M = some (M.1 k i.toNatClampNeg, M) := by
  unfold fX3_item
  rw [if_neg (fun z => h (Or.inl z)), if_neg (px_ge h hn), if_neg h]
theorem px_keep {k n : Nat} {i v : Int32} {M : xm_M} (h : px_k i n) (hn : n < 2 ^ 31) : fX3_keep k n i v M = some (xm_s M k i.toNatClampNeg v) := by
  unfold fX3_keep
  rw [if_neg (fun z => h (Or.inl z)), if_neg (px_ge h hn), if_neg h]
  rfl
theorem px_item_ {k N k0 n : Nat} {r i : Int32} {M : xm_M} (hr : px_k r N) (hN : N < 2 ^ 31) (h : px_k i n) (hn : n < 2 ^ 31) : fX3_item_ k N k0 n r i M = some (M.1 (k0 + r.toNatClampNeg) i.toNatClampNeg, M) := by
  unfold fX3_item_
  rw [if_neg (fun z => hr (Or.inl z)), if_neg (px_ge hr hN), if_neg (fun z => h (Or.inl z)), if_neg hr, if_neg (px_ge h hn), if_neg hr, if_neg h]
theorem px_keep_ {k N k0 n : Nat} {r i v : Int32} {M : xm_M} (hr : px_k r N) (hN : N < 2 ^ 31) (h : px_k i n) (hn : n < 2 ^ 31) : fX3_keep_ k N k0 n r i v M = some (xm_s M (k0 + r.toNatClampNeg) i.toNatClampNeg v) := by
  unfold fX3_keep_
  rw [if_neg (fun z => hr (Or.inl z)), if_neg (px_ge hr hN), if_neg (fun z => h (Or.inl z)), if_neg hr, if_neg (px_ge h hn), if_neg hr, if_neg h]
  rfl
theorem px_ratio {x y : Int64} {M : xm_M} (h : ¬ y = 0) : fX3_ratio x y M = some (x / y, M) := by
  unfold fX3_ratio
  rw [if_neg (fun z => h ((pl_b _ _).1.mp z)), if_neg h]
theorem px_keepKind {e : Nat} {kd : Int32} {M : xm_M} (he : e < 120) (hk : px_k kd 5) : fX2_keepKind (nI e) kd M = some (xm_s (xm_s M 57 e kd) 68 kd.toNatClampNeg (M.1 68 kd.toNatClampNeg + 1)) := by
  unfold fX2_keepKind
  rw [px_keep_ (px_kl (by decide)) (by decide) (px_kn he (by decide)) (by decide), pb_v, px_item hk (by decide), pb_i, px_keep hk (by decide), pb_v, nI_clamp (by omega)]
  rfl
theorem px_keepPose {e : Nat} {M : xm_M} (he : e < 121) : fX2_keepPose (nI e) M = some (xm_s (xm_s (xm_s (xm_s (xm_s M 51 e (M.1 49 3)) 52 e (M.1 49 4)) 53 e (M.1 49 5)) 54 e (M.1 49 6)) 55 e (M.1 49 7)) := by
  unfold fX2_keepPose
  simp only [px_keep_ (px_kl (i := 0) (n := 5) (by decide)) (by decide) (px_kn he (by decide)) (by decide), px_keep_ (px_kl (i := 1) (n := 5) (by decide)) (by decide) (px_kn he (by decide)) (by decide), px_keep_ (px_kl (i := 2) (n := 5) (by decide)) (by decide) (px_kn he (by decide)) (by decide), px_keep_ (px_kl (i := 3) (n := 5) (by decide)) (by decide) (px_kn he (by decide)) (by decide), px_keep_ (px_kl (i := 4) (n := 5) (by decide)) (by decide) (px_kn he (by decide)) (by decide), pb_v, nI_clamp (show e < 2 ^ 31 by omega)]
  rfl
