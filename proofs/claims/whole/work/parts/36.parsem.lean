/-! TEXTS. The model. -/
def mT (T : Nat → Int32) (n : Nat) (N : xm_M) : Prop := N.1 0 4 = nI n ∧ ∀ j, j < n → N.1 4 j = T j
def mf (N N' : xm_M) : Prop := ∀ k j, ¬ (k = 0 ∧ (j = 23 ∨ j = 24)) → N'.1 k j = N.1 k j
theorem mf_refl (N : xm_M) : mf N N := fun _ _ _ => rfl
theorem mf_trans {N N1 N2 : xm_M} (h1 : mf N N1) (h2 : mf N1 N2) : mf N N2 := fun k j a => (h2 k j a).trans (h1 k j a)
theorem mf_s {N : xm_M} {j : Nat} {v : Int32} (hj : j = 23 ∨ j = 24) : mf N (xm_s N 0 j v) := fun k i a => by rw [pm_s, if_neg (by omega)]
theorem mf_T {T : Nat → Int32} {n : Nat} {N N' : xm_M} (h : mf N N') (hT : mT T n N) : mT T n N' := ⟨(h 0 4 (by omega)).trans hT.1, fun j hj => (h 4 j (by omega)).trans (hT.2 j hj)⟩
theorem mT_s18 {T : Nat → Int32} {n j : Nat} {v : Int32} {N : xm_M} (hT : mT T n N) : mT T n (xm_s N 18 j v) := ⟨by rw [pm_s, if_neg (by omega)]; exact hT.1, fun i hi => by rw [pm_s, if_neg (by omega)]; exact hT.2 i hi⟩
theorem pm_next {T : Nat → Int32} {n i : Nat} {N : xm_M} (hn : n ≤ 100) (hT : mT T n N) (hi : N.1 0 23 = nI i) (hin : i ≤ n) : fX4_next N = some (sp_ch T n i, N) := by
  unfold fX4_next sp_ch
  rw [hT.1, hi]
  by_cases h : i < n
  · rw [if_neg (by rw [nI_leI (by omega) (by omega)]; omega), if_neg (px_kn (n := 100) (by omega) (by omega)), nI_clamp (by omega), hT.2 i h, if_pos h]
  · rw [if_pos (by rw [nI_leI (by omega) (by omega)]; omega), if_neg h]
theorem pi_as (a b c : Int32) : a + b - c = a + (b - c) := by
  rw [Int32.sub_eq_add_neg, Int32.add_assoc, ← Int32.sub_eq_add_neg]
theorem pm_nl {T : Nat → Int32} {n : Nat} {most : Int32} (hn : n ≤ 100) : ∀ (f q : Nat) (v : Int32) (i : Nat) (N : xm_M), n - i ≤ f → f < q → mT T n N → N.1 0 23 = nI i → i ≤ n → fX4_takeNumber_72_it q most v N = some ((sp_nl T n most f v i).1, xm_s N 0 23 (nI (sp_nl T n most f v i).2)) := by
  intro f
  induction f with
  | zero =>
    intro q v i N hf hq hT hi hin
    obtain ⟨q, rfl⟩ : ∃ q', q = q' + 1 := ⟨q - 1, by omega⟩
    show fX4_takeNumber_72 (fX4_takeNumber_72_it q) most v N = _
    unfold fX4_takeNumber_72 fX4_takeNumber_132 sp_nl
    rw [pm_self hi]
    by_cases c1 : v ≤ 0
    · rw [if_pos c1]
    rw [if_neg c1, pm_next hn hT hi hin, pb_i, pm_in, pb_i]
    have : ¬ (48 ≤ sp_ch T n i ∧ sp_ch T n i ≤ 57) := fun z => by have := sp_ch48 z.1; omega
    rw [if_neg this, if_pos rfl]
  | succ f ih =>
    intro q v i N hf hq hT hi hin
    obtain ⟨q, rfl⟩ : ∃ q', q = q' + 1 := ⟨q - 1, by omega⟩
    show fX4_takeNumber_72 (fX4_takeNumber_72_it q) most v N = _
    unfold fX4_takeNumber_72 fX4_takeNumber_132 sp_nl
    by_cases c1 : v ≤ 0
    · rw [if_pos c1, if_neg (fun z => absurd z.1 (Int32.not_lt.mpr c1)), pm_self hi]
    rw [if_neg c1, pm_next hn hT hi hin, pb_i, pm_in, pb_i]
    by_cases c2 : 48 ≤ sp_ch T n i ∧ sp_ch T n i ≤ 57
    case neg => rw [if_neg c2, if_pos rfl, if_neg (fun z => c2 ⟨z.2.1, z.2.2.1⟩), pm_self hi]
    rw [if_pos c2, if_neg (by decide), pm_next hn hT hi hin, pb_i, pi_as]
    have hlt := sp_ch48 c2.1
    by_cases c3 : most < 10 * v + (sp_ch T n i - 48)
    · rw [if_pos c3, if_neg (fun z => absurd z.2.2.2 (Int32.not_le.mpr c3)), pm_self hi]
    rw [if_neg c3, pm_next hn hT hi hin, pb_i, pb_lt, pb_lt, pi_as, if_pos ⟨Int32.not_le.mp c1, c2.1, c2.2, Int32.not_lt.mp c3⟩, hi, pi_succ]
    rw [ih q _ (i + 1) _ (by omega) (by omega) (mf_T (mf_s (Or.inl rfl)) hT) (by rw [pm_s, if_pos ⟨rfl, rfl⟩]) (by omega), pm_ss]
def mMost (most : Int32) : Prop := most = 5 ∨ most = 300 ∨ most = 300000
theorem pm_top {most c : Int32} (hm : mMost most) : (48 ≤ c ∧ c ≤ (if 9 ≤ most then 57 else 48 + most)) = (48 ≤ c ∧ c ≤ 57 ∧ c - 48 ≤ most) := by
  have e : ∀ (_ : 48 ≤ c.toInt) (_ : c.toInt ≤ 57), (c - 48).toInt = c.toInt - 48 := fun h1 h2 => pn_sub (y := 48) (by rw [show (48 : Int32).toInt = 48 from rfl]; omega) (by rw [show (48 : Int32).toInt = 48 from rfl]; omega)
  have big : ∀ z : Int32, 9 ≤ z.toInt → (48 ≤ c ∧ c ≤ 57) = (48 ≤ c ∧ c ≤ 57 ∧ c - 48 ≤ z) := by
    intro z hz
    refine propext ⟨fun h => ⟨h.1, h.2, ?_⟩, fun h => ⟨h.1, h.2.1⟩⟩
    have h1 : 48 ≤ c.toInt := Int32.le_iff_toInt_le.mp h.1
    have h2 : c.toInt ≤ 57 := Int32.le_iff_toInt_le.mp h.2
    rw [Int32.le_iff_toInt_le, e h1 h2]
    omega
  rcases hm with h | h | h
  · subst h
    rw [show (if (9 : Int32) ≤ 5 then (57 : Int32) else 48 + 5) = 53 from by decide]
    refine propext ⟨fun h => ?_, fun h => ?_⟩
    · have h1 : 48 ≤ c.toInt := Int32.le_iff_toInt_le.mp h.1
      have h2 : c.toInt ≤ 53 := Int32.le_iff_toInt_le.mp h.2
      refine ⟨h.1, Int32.le_iff_toInt_le.mpr (show c.toInt ≤ 57 by omega), Int32.le_iff_toInt_le.mpr ?_⟩
      rw [e h1 (by omega)]
      show c.toInt - 48 ≤ 5
      omega
    · have h1 : 48 ≤ c.toInt := Int32.le_iff_toInt_le.mp h.1
      have h2 : c.toInt ≤ 57 := Int32.le_iff_toInt_le.mp h.2.1
      have h3 := Int32.le_iff_toInt_le.mp h.2.2
      rw [e h1 h2] at h3
      have h4 : c.toInt - 48 ≤ 5 := h3
      exact ⟨h.1, Int32.le_iff_toInt_le.mpr (show c.toInt ≤ 53 by omega)⟩
  · subst h
    rw [if_pos (by decide)]
    exact big 300 (by decide)
  · subst h
    rw [if_pos (by decide)]
    exact big 300000 (by decide)
theorem pm_num15 {most : Int32} {N : xm_M} : fX4_takeNumber most N = fX4_takeNumber_15 most (if 9 ≤ most then 57 else 48 + most) N := by
  unfold fX4_takeNumber
  by_cases h : (9 : Int32) ≤ most
  · rw [if_pos h, if_pos h]
  · rw [if_neg h, if_neg h]
theorem pm_numW {most : Int32} {N : xm_M} (h24 : N.1 0 24 = 1) : ∃ x, fX4_takeNumber most N = some (x, N) := by
  rw [pm_num15]
  unfold fX4_takeNumber_15 fX4_takeNumber_37 fX4_takeNumber_42
  rw [h24, if_neg (by decide), if_pos (by decide), pb_lt, pm_self h24, h24, if_neg (by decide)]
  exact ⟨_, rfl⟩
theorem pm_num {T : Nat → Int32} {n i : Nat} {most : Int32} {N : xm_M} (hm : mMost most) (hn : n ≤ 100) (hT : mT T n N) (hi : N.1 0 23 = nI i) (hin : i ≤ n) (h24 : N.1 0 24 = 0) :
    ∃ x N', fX4_takeNumber most N = some (x, N') ∧ mf N N' ∧ ((∃ p, sp_num T n most i = (some x, p) ∧ p ≤ n ∧ N'.1 0 23 = nI p ∧ N'.1 0 24 = 0) ∨ (sp_num T n most i = (none, i) ∧ N'.1 0 23 = nI i ∧ N'.1 0 24 = 1)) := by
  rw [pm_num15]
  unfold fX4_takeNumber_15 fX4_takeNumber_37 fX4_takeNumber_42
  rw [h24, if_pos rfl, pm_next hn hT hi hin, pb_i, pm_in, pb_i]
  simp only [pm_top hm]
  by_cases c : 48 ≤ sp_ch T n i ∧ sp_ch T n i ≤ 57 ∧ sp_ch T n i - 48 ≤ most
  · have hlt := sp_ch48 c.1
    rw [if_pos c, if_neg (by decide), if_pos (by decide), pb_lt, pm_self h24, h24, if_pos rfl, pm_next hn hT hi hin, pb_i, pb_lt, pb_lt, hi, pi_succ]
    rw [pm_nl hn 128 xm_N _ (i + 1) _ (by omega) (by show 128 < 4096; omega) (mf_T (mf_s (Or.inl rfl)) hT) (by rw [pm_s, if_pos ⟨rfl, rfl⟩]) (by omega), pm_ss]
    refine ⟨_, _, rfl, mf_s (Or.inl rfl), Or.inl ⟨(sp_nl T n most 128 (sp_ch T n i - 48) (i + 1)).2, ?_, ?_, ?_, ?_⟩⟩
    · unfold sp_num
      rw [if_pos c]
    · exact (sp_nl_in (T := T) (most := most) 128 (sp_ch T n i - 48) (i + 1) (by omega : i + 1 ≤ n)).2
    · rw [pm_s, if_pos ⟨rfl, rfl⟩]
    · rw [pm_s, if_neg (by omega)]; exact h24
  · rw [if_neg c, if_pos rfl, if_pos (by decide), pb_lt, if_neg (by rw [pm_s, if_pos ⟨rfl, rfl⟩]; decide)]
    refine ⟨_, _, rfl, mf_s (Or.inr rfl), Or.inr ⟨?_, ?_, ?_⟩⟩
    · unfold sp_num
      rw [if_neg c]
    · rw [pm_s, if_neg (by omega)]; exact hi
    · rw [pm_s, if_pos ⟨rfl, rfl⟩]
theorem pm_intW {most : Int32} {N : xm_M} (h24 : N.1 0 24 = 1) : ∃ x, fX4_takeInteger most N = some (x, N) := by
  unfold fX4_takeInteger fX4_takeInteger_20 fX4_takeInteger_21 fX4_takeInteger_36
  rw [h24, if_neg (by decide), if_pos rfl, Int32.add_zero, pb_lt, pm_self rfl]
  obtain ⟨x, e⟩ := pm_numW (most := most) h24
  rw [e, pb_i, if_pos rfl]
  exact ⟨_, rfl⟩
theorem pm_int {T : Nat → Int32} {n i : Nat} {most : Int32} {N : xm_M} (hm : mMost most) (hn : n ≤ 100) (hT : mT T n N) (hi : N.1 0 23 = nI i) (hin : i ≤ n) (h24 : N.1 0 24 = 0) :
    ∃ x N', fX4_takeInteger most N = some (x, N') ∧ mf N N' ∧ ((∃ p, sp_int T n most i = (some x, p) ∧ p ≤ n ∧ N'.1 0 23 = nI p ∧ N'.1 0 24 = 0) ∨ (∃ p, sp_int T n most i = (none, p) ∧ N'.1 0 23 = nI p ∧ N'.1 0 24 = 1)) := by
  unfold fX4_takeInteger fX4_takeInteger_20 fX4_takeInteger_21 fX4_takeInteger_36 sp_int
  rw [h24, if_pos rfl, pm_next hn hT hi hin, pb_i]
  by_cases c : sp_ch T n i = 45
  · have hlt := sp_chn (T := T) (n := n) (i := i) (by rw [c]; decide)
    rw [if_pos c, if_pos c, if_neg (by decide), hi, pi_succ, pb_lt]
    obtain ⟨x, N', e1, e2, e3⟩ := pm_num (N := xm_s N 0 23 (nI (i + 1))) (i := i + 1) hm hn (mf_T (mf_s (Or.inl rfl)) hT) (by rw [pm_s, if_pos ⟨rfl, rfl⟩]) (by omega) (by rw [pm_s, if_neg (by omega)]; exact h24)
    rw [e1, pb_i, if_neg (by decide)]
    refine ⟨_, _, rfl, mf_trans (mf_s (Or.inl rfl)) e2, ?_⟩
    rcases e3 with ⟨p, d1, d2, d3, d4⟩ | ⟨d1, d2, d3⟩
    · rw [d1]
      exact Or.inl ⟨p, rfl, d2, d3, d4⟩
    · rw [d1]
      exact Or.inr ⟨i + 1, rfl, d2, d3⟩
  · rw [if_neg c, if_neg c, if_pos rfl, Int32.add_zero, pb_lt, pm_self rfl]
    obtain ⟨x, N', e1, e2, e3⟩ := pm_num (N := N) (i := i) hm hn hT hi hin h24
    rw [e1, pb_i, if_pos rfl]
    refine ⟨_, _, rfl, e2, ?_⟩
    rcases e3 with ⟨p, d1, d2, d3, d4⟩ | ⟨d1, d2, d3⟩
    · rw [d1]
      exact Or.inl ⟨p, rfl, d2, d3, d4⟩
    · rw [d1]
      exact Or.inr ⟨i, rfl, d2, d3⟩
/-- so far read, at a place, with what is still to be read; or wrong already -/
def mD (n : Nat) (N : xm_M) (X : sE) (K : Nat → sE) : Prop := (∃ i, i ≤ n ∧ N.1 0 24 = 0 ∧ N.1 0 23 = nI i ∧ X = K i) ∨ (∃ p, N.1 0 24 = 1 ∧ N.1 0 23 = nI p ∧ X = (none, p))
theorem mD_s {n r : Nat} {v : Int32} {N : xm_M} {X : sE} {K : Nat → sE} (h : mD n N X K) : mD n (xm_s N 18 r v) X K := by
  have e : ∀ j, (xm_s N 18 r v).1 0 j = N.1 0 j := fun j => by rw [pm_s, if_neg (by omega)]
  unfold mD
  rw [e, e]
  exact h
theorem mD_int {T : Nat → Int32} {n : Nat} {most : Int32} {N : xm_M} {X : sE} {K : Int32 → Nat → sE} (hm : mMost most) (hn : n ≤ 100) (hT : mT T n N) (h : mD n N X (fun i => sp_bnd (sp_int T n most i) K)) :
    ∃ x N', fX4_takeInteger most N = some (x, N') ∧ mf N N' ∧ mD n N' X (K x) := by
  rcases h with ⟨i, h1, h2, h3, h4⟩ | ⟨p, h1, h2, h3⟩
  · obtain ⟨x, N', e1, e2, e3⟩ := pm_int hm hn hT h3 h1 h2
    refine ⟨x, N', e1, e2, ?_⟩
    rcases e3 with ⟨p, d1, d2, d3, d4⟩ | ⟨p, d1, d2, d3⟩
    · refine Or.inl ⟨p, d2, d4, d3, ?_⟩
      rw [h4]
      show sp_bnd (sp_int T n most i) K = _
      rw [d1]
      rfl
    · refine Or.inr ⟨p, d3, d2, ?_⟩
      rw [h4]
      show sp_bnd (sp_int T n most i) K = _
      rw [d1]
      rfl
  · obtain ⟨x, e⟩ := pm_intW (most := most) h1
    exact ⟨x, N, e, mf_refl N, Or.inr ⟨p, h1, h2, h3⟩⟩
theorem mD_need {T : Nat → Int32} {n : Nat} {N : xm_M} {X : sE} {K : Nat → sE} (hn : n ≤ 100) (hT : mT T n N) (h : mD n N X (fun i => if sp_ch T n i = 44 then K (i + 1) else (none, i))) :
    ∃ N', fX4_need 44 N = some N' ∧ mf N N' ∧ mD n N' X K := by
  unfold fX4_need fX4_need_16 fX4_need_21 fX4_need_41
  rcases h with ⟨i, h1, h2, h3, h4⟩ | ⟨p, h1, h2, h3⟩
  · rw [h2, if_pos rfl, pm_next hn hT h3 h1, pb_i]
    have h4' : X = if sp_ch T n i = 44 then K (i + 1) else (none, i) := h4
    by_cases c : sp_ch T n i = 44
    · have hlt := sp_chn (T := T) (n := n) (i := i) (by rw [c]; decide)
      rw [if_pos c, if_pos (by decide), pb_lt, pm_self h2, h2, if_pos rfl, pb_lt, h3, pi_succ]
      rw [if_pos c] at h4'
      refine ⟨_, rfl, mf_s (Or.inl rfl), Or.inl ⟨i + 1, by omega, ?_, ?_, h4'⟩⟩
      · rw [pm_s, if_neg (by omega)]; exact h2
      · rw [pm_s, if_pos ⟨rfl, rfl⟩]
    · rw [if_neg c, if_pos (by decide), pb_lt, if_neg (by rw [pm_s, if_pos ⟨rfl, rfl⟩]; decide), Int32.add_zero, pb_lt, pm_self rfl]
      rw [if_neg c] at h4'
      refine ⟨_, rfl, mf_s (Or.inr rfl), Or.inr ⟨i, ?_, ?_, h4'⟩⟩
      · rw [pm_s, if_pos ⟨rfl, rfl⟩]
      · rw [pm_s, if_neg (by omega)]; exact h3
  · rw [h1, if_neg (by decide), if_pos (by decide), pb_lt, pm_self h1, h1, if_neg (by decide), Int32.add_zero, pb_lt, pm_self rfl]
    exact ⟨N, rfl, mf_refl N, Or.inr ⟨p, h1, h2, h3⟩⟩
def sp_k3 (T : Nat → Int32) (n : Nat) (a b : Int32) (q : Nat) : sE := sp_bnd (sp_int T n 300000 q) (fun t p => (some (0, a, b, t), p))
def sp_k2 (T : Nat → Int32) (n : Nat) (a : Int32) (q : Nat) : sE := sp_bnd (sp_int T n 300 q) (fun b p => if sp_ch T n p = 44 then sp_k3 T n a b (p + 1) else (none, p))
def sp_k1 (T : Nat → Int32) (n q : Nat) : sE := sp_bnd (sp_int T n 300 q) (fun a p => if sp_ch T n p = 44 then sp_k2 T n a (p + 1) else (none, p))
def mRow (A : Nat → Int32) (k : Nat) (s a b t : Int32) : Prop := A (4 * k) = s ∧ A (4 * k + 1) = a ∧ (s = 1 ∨ (s = 0 ∧ A (4 * k + 2) = b ∧ A (4 * k + 3) = t))
theorem mf_25 {N N' : xm_M} (h : mf N N') : N'.1 18 = N.1 18 := funext fun j => h 18 j (by omega)
theorem pm_ent {T : Nat → Int32} {n i k : Nat} {N : xm_M} (hn : n ≤ 100) (hT : mT T n N) (hi : N.1 0 23 = nI i) (hin : i ≤ n) (h24 : N.1 0 24 = 0) (h26 : N.1 0 26 = nI k) (hk : k ≤ 60) :
    ∃ N', fX4_takeEntry N = some N' ∧ N'.1 0 26 = nI (k + 1) ∧ (∀ c j, ¬ c = 0 → ¬ (c = 18 ∧ 4 * k ≤ j) → N'.1 c j = N.1 c j) ∧ N'.1 0 4 = N.1 0 4 ∧
      ((∃ s a b t p, sp_ent T n i = (some (s, a, b, t), p) ∧ p ≤ n ∧ N'.1 0 23 = nI p ∧ N'.1 0 24 = 0 ∧ mRow (N'.1 18) k s a b t) ∨ (∃ p, sp_ent T n i = (none, p) ∧ N'.1 0 23 = nI p ∧ N'.1 0 24 = 1)) := by
  unfold fX4_takeEntry fX4_takeEntry_26 fX4_takeEntry_119
  rw [h26, show (4 : Int32) * nI k = nI (4 * k) from by rw [show (4 : Int32) = nI 4 from rfl, pi_mul], pb_lt, pm_next hn hT hi hin, pb_i]
  have x0 : ∀ {α : Type} (x y : α), (if nI (4 * k) < 0 ∨ 250 ≤ (nI (4 * k)).toNatClampNeg then x else y) = y := fun x y => if_neg (px_kn (n := 250) (by omega) (by omega))
  have x1 : ∀ {α : Type} (x y : α), (if nI (4 * k) + 1 < 0 ∨ 250 ≤ (nI (4 * k) + 1).toNatClampNeg then x else y) = y := fun x y => if_neg (by rw [pi_succ]; exact px_kn (n := 250) (by omega) (by omega))
  have x2 : ∀ {α : Type} (x y : α), (if nI (4 * k) + 2 < 0 ∨ 250 ≤ (nI (4 * k) + 2).toNatClampNeg then x else y) = y := fun x y => if_neg (by rw [show (2 : Int32) = nI 2 from rfl, pi_add]; exact px_kn (n := 250) (by omega) (by omega))
  have x3 : ∀ {α : Type} (x y : α), (if nI (4 * k) + 3 < 0 ∨ 250 ≤ (nI (4 * k) + 3).toNatClampNeg then x else y) = y := fun x y => if_neg (by rw [show (3 : Int32) = nI 3 from rfl, pi_add]; exact px_kn (n := 250) (by omega) (by omega))
  have c0 : (nI (4 * k)).toNatClampNeg = 4 * k := nI_clamp (by omega)
  have c1 : (nI (4 * k) + 1).toNatClampNeg = 4 * k + 1 := by rw [pi_succ]; exact nI_clamp (by omega)
  have c2 : (nI (4 * k) + 2).toNatClampNeg = 4 * k + 2 := by rw [show (2 : Int32) = nI 2 from rfl, pi_add]; exact nI_clamp (by omega)
  have c3 : (nI (4 * k) + 3).toNatClampNeg = 4 * k + 3 := by rw [show (3 : Int32) = nI 3 from rfl, pi_add]; exact nI_clamp (by omega)
  simp only [x0, x1, x2, x3, pb_lt]
  simp only [c0, c1, c2, c3]
  by_cases c : sp_ch T n i = 109
  · have hlt := sp_chn (T := T) (n := n) (i := i) (by rw [c]; decide)
    rw [if_pos c, if_pos (by rw [pm_s, if_pos ⟨rfl, rfl⟩]), show (xm_s N 18 (4 * k) 1).1 0 23 = nI i from by rw [pm_s, if_neg (by omega)]; exact hi, pi_succ]
    obtain ⟨x, N', e1, e2, e3⟩ := pm_num (N := xm_s (xm_s N 18 (4 * k) 1) 0 23 (nI (i + 1))) (i := i + 1) (most := 5) (Or.inl rfl) hn (mf_T (mf_s (Or.inl rfl)) (mT_s18 hT)) (by rw [pm_s, if_pos ⟨rfl, rfl⟩]) (by omega) (by rw [pm_s, if_neg (by omega), pm_s, if_neg (by omega)]; exact h24)
    have e4 := mf_trans (mf_s (N := xm_s N 18 (4 * k) 1) (v := nI (i + 1)) (Or.inl rfl)) e2
    rw [e1, pb_i, show (xm_s N' 18 (4 * k + 1) x).1 0 26 = nI k from by rw [pm_s, if_neg (by omega), e4 0 26 (by omega), pm_s, if_neg (by omega)]; exact h26, pi_succ]
    refine ⟨_, rfl, ?_, ?_, ?_, ?_⟩
    · rw [pm_s, if_pos ⟨rfl, rfl⟩]
    · intro a j ha hj
      rw [pm_s, if_neg (by omega), pm_s, if_neg (by omega), e4 a j (by omega), pm_s, if_neg (by omega)]
    · rw [pm_s, if_neg (by omega), pm_s, if_neg (by omega), e4 0 4 (by omega), pm_s, if_neg (by omega)]
    · have a23 : (xm_s (xm_s N' 18 (4 * k + 1) x) 0 26 (nI (k + 1))).1 0 23 = N'.1 0 23 := by rw [pm_s, if_neg (by omega), pm_s, if_neg (by omega)]
      have a24 : (xm_s (xm_s N' 18 (4 * k + 1) x) 0 26 (nI (k + 1))).1 0 24 = N'.1 0 24 := by rw [pm_s, if_neg (by omega), pm_s, if_neg (by omega)]
      rw [a23, a24]
      unfold sp_ent
      rw [if_pos c]
      rcases e3 with ⟨p, d1, d2, d3, d4⟩ | ⟨d1, d2, d3⟩
      · rw [d1]
        refine Or.inl ⟨1, x, 0, 0, p, rfl, d2, d3, d4, ?_, ?_, Or.inl rfl⟩
        · rw [pm_s, if_neg (by omega), pm_s, if_neg (by omega), e4 18 _ (by omega), pm_s, if_pos ⟨rfl, rfl⟩]
        · rw [pm_s, if_neg (by omega), pm_s, if_pos ⟨rfl, rfl⟩]
      · rw [d1]
        exact Or.inr ⟨i + 1, rfl, d2, d3⟩
  · rw [if_neg c, if_neg (by rw [pm_s, if_pos ⟨rfl, rfl⟩]; decide)]
    have hX : sp_ent T n i = sp_k1 T n i := if_neg c
    rw [hX]
    have T4 : mT T n (xm_s N 18 (4 * k) 0) := mT_s18 hT
    have h0 : (xm_s N 18 (4 * k) 0).1 18 (4 * k) = 0 := by rw [pm_s, if_pos ⟨rfl, rfl⟩]
    have hD : mD n (xm_s N 18 (4 * k) 0) (sp_k1 T n i) (sp_k1 T n) := mD_s (Or.inl ⟨i, hin, h24, hi, rfl⟩)
    have hF : ∀ a j, ¬ (a = 0 ∧ (j = 23 ∨ j = 24)) → ¬ (a = 18 ∧ 4 * k ≤ j) → (xm_s N 18 (4 * k) 0).1 a j = N.1 a j := fun a j h1 h2 => by rw [pm_s, if_neg (by omega)]
    generalize xm_s N 18 (4 * k) 0 = N4 at T4 h0 hD hF ⊢
    obtain ⟨a, N5, e1, e2, e3⟩ := mD_int (most := 300) (K := fun a p => if sp_ch T n p = 44 then sp_k2 T n a (p + 1) else (none, p)) (Or.inr (Or.inl rfl)) hn T4 hD
    rw [e1, pb_i]
    have T7 : mT T n (xm_s N5 18 (4 * k + 1) a) := mT_s18 (mf_T e2 T4)
    have h70 : (xm_s N5 18 (4 * k + 1) a).1 18 (4 * k) = 0 := by rw [pm_s, if_neg (by omega), e2 18 _ (by omega)]; exact h0
    have h71 : (xm_s N5 18 (4 * k + 1) a).1 18 (4 * k + 1) = a := by rw [pm_s, if_pos ⟨rfl, rfl⟩]
    have hD7 : mD n (xm_s N5 18 (4 * k + 1) a) (sp_k1 T n i) (fun p => if sp_ch T n p = 44 then sp_k2 T n a (p + 1) else (none, p)) := mD_s e3
    have hF7 : ∀ b j, ¬ (b = 0 ∧ (j = 23 ∨ j = 24)) → ¬ (b = 18 ∧ 4 * k ≤ j) → (xm_s N5 18 (4 * k + 1) a).1 b j = N.1 b j := fun b j h1 h2 => by rw [pm_s, if_neg (by omega), e2 b j h1]; exact hF b j h1 h2
    generalize xm_s N5 18 (4 * k + 1) a = N7 at T7 h70 h71 hD7 hF7 ⊢
    obtain ⟨N8, f1, f2, f3⟩ := mD_need (K := sp_k2 T n a) hn T7 hD7
    rw [f1, pb_v]
    have T8 := mf_T f2 T7
    obtain ⟨b, N9, g1, g2, g3⟩ := mD_int (most := 300) (K := fun b p => if sp_ch T n p = 44 then sp_k3 T n a b (p + 1) else (none, p)) (Or.inr (Or.inl rfl)) hn T8 f3
    rw [g1, pb_i]
    have TB : mT T n (xm_s N9 18 (4 * k + 2) b) := mT_s18 (mf_T g2 T8)
    have hB0 : (xm_s N9 18 (4 * k + 2) b).1 18 (4 * k) = 0 := by rw [pm_s, if_neg (by omega), g2 18 _ (by omega), f2 18 _ (by omega)]; exact h70
    have hB1 : (xm_s N9 18 (4 * k + 2) b).1 18 (4 * k + 1) = a := by rw [pm_s, if_neg (by omega), g2 18 _ (by omega), f2 18 _ (by omega)]; exact h71
    have hB2 : (xm_s N9 18 (4 * k + 2) b).1 18 (4 * k + 2) = b := by rw [pm_s, if_pos ⟨rfl, rfl⟩]
    have hDB : mD n (xm_s N9 18 (4 * k + 2) b) (sp_k1 T n i) (fun p => if sp_ch T n p = 44 then sp_k3 T n a b (p + 1) else (none, p)) := mD_s g3
    have hFB : ∀ c j, ¬ (c = 0 ∧ (j = 23 ∨ j = 24)) → ¬ (c = 18 ∧ 4 * k ≤ j) → (xm_s N9 18 (4 * k + 2) b).1 c j = N.1 c j := fun c j h1 h2 => by rw [pm_s, if_neg (by omega), g2 c j h1, f2 c j h1]; exact hF7 c j h1 h2
    generalize xm_s N9 18 (4 * k + 2) b = NB at TB hB0 hB1 hB2 hDB hFB ⊢
    obtain ⟨NC, u1, u2, u3⟩ := mD_need (K := sp_k3 T n a b) hn TB hDB
    rw [u1, pb_v]
    obtain ⟨t, ND, w1, w2, w3⟩ := mD_int (most := 300000) (K := fun t p => (some (0, a, b, t), p)) (Or.inr (Or.inr rfl)) hn (mf_T u2 TB) u3
    rw [w1, pb_i]
    have u4 := mf_trans u2 w2
    rw [show (xm_s ND 18 (4 * k + 3) t).1 0 26 = nI k from by rw [pm_s, if_neg (by omega), u4 0 26 (by omega), hFB 0 26 (by omega) (by omega)]; exact h26, pi_succ]
    refine ⟨_, rfl, ?_, ?_, ?_, ?_⟩
    · rw [pm_s, if_pos ⟨rfl, rfl⟩]
    · intro c j hc hj
      rw [pm_s, if_neg (by omega), pm_s, if_neg (by omega), u4 c j (by omega)]
      exact hFB c j (by omega) hj
    · rw [pm_s, if_neg (by omega), pm_s, if_neg (by omega), u4 0 4 (by omega)]
      exact hFB 0 4 (by omega) (by omega)
    · have a23 : (xm_s (xm_s ND 18 (4 * k + 3) t) 0 26 (nI (k + 1))).1 0 23 = ND.1 0 23 := by rw [pm_s, if_neg (by omega), pm_s, if_neg (by omega)]
      have a24 : (xm_s (xm_s ND 18 (4 * k + 3) t) 0 26 (nI (k + 1))).1 0 24 = ND.1 0 24 := by rw [pm_s, if_neg (by omega), pm_s, if_neg (by omega)]
      rw [a23, a24]
      rcases w3 with ⟨p, d1, d2, d3, d4⟩ | ⟨p, d1, d2, d3⟩
      · refine Or.inl ⟨0, a, b, t, p, d4, d1, d3, d2, ?_, ?_, Or.inr ⟨rfl, ?_, ?_⟩⟩
        · rw [pm_s, if_neg (by omega), pm_s, if_neg (by omega), u4 18 _ (by omega)]; exact hB0
        · rw [pm_s, if_neg (by omega), pm_s, if_neg (by omega), u4 18 _ (by omega)]; exact hB1
        · rw [pm_s, if_neg (by omega), pm_s, if_neg (by omega), u4 18 _ (by omega)]; exact hB2
        · rw [pm_s, if_neg (by omega), pm_s, if_pos ⟨rfl, rfl⟩]
      · exact Or.inr ⟨p, d3, d2, d1⟩
