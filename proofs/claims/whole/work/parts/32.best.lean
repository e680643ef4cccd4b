/-! what if; nothing changes -/
theorem px_copy9 {k j : Nat} (M : xm_M) : ∃ M', fX3_copy k 9 j 9 M = some M' ∧ (∀ a b, M'.1 a b = if a = j ∧ b < 9 then M.1 k b else M.1 a b) ∧ M'.2 = M.2 := by
  unfold fX3_copy
  rw [if_neg (by decide), pb_lt]
  refine ⟨_, rfl, ?_, rfl⟩
  intro a b
  rw [pm_r]
  have e : (if (Int32.ofNat 9) < (Int32.ofNat 9) then (Int32.ofNat 9) else (Int32.ofNat 9)).toNatClampNeg = 9 := by decide
  have e0 : (0 : Int32).toNatClampNeg = 0 := by decide
  rw [e, e0]
  unfold va_cpy
  by_cases h : a = j
  · by_cases hb : b < 9
    · rw [if_pos h, if_pos (show 0 ≤ b ∧ b < 0 + 9 by omega), if_pos ⟨h, hb⟩, Nat.zero_add, Nat.sub_zero]
    · rw [if_pos h, if_neg (show ¬ (0 ≤ b ∧ b < 0 + 9) by omega), if_neg (fun z => hb z.2), h]
  · rw [if_neg h, if_neg (fun z => h z.1)]
/-- the view in which a setting is tried -/
def sp_try (V : sV) (j : Nat) (v : Int32) : sV := fun r i => if r = 0 then (if i = j then v else V 0 i) else V r i
theorem xs_trying {M N : xm_M} (h : xR M N) {j : Nat} {v : Int32} (hj : j < 9) (h1 : sp_lo j ≤ v.toInt) (h2 : v.toInt ≤ sp_hi j) :
    ∃ (V : sV) (n : Nat) (M2 M3 N4 : xm_M), sp_ok V ∧ n ≤ 120 ∧ fX3_errorsWith (nI j) v M = some (M3.2 49 9, M3) ∧ cW V M2 M3 n ∧ cK M M3 ∧ fX4_findAll (xm_s N 1 j v) = some N4 ∧ mW V (xm_s N 1 j v) N4 n ∧ N.1 1 11 = nI n := by
  have p2 := h.1.1.2.2.2.2.2.2.2.2.2.2.2.1
  obtain ⟨n, hn, hn1, _, _⟩ := pn_ofI (n := 120) p2.1 p2.2
  have e9 : N.1 1 11 = nI n := by rw [← hn1]; exact h.1.2.2.1 2 (by omega)
  obtain ⟨M1, c1, c2, c3⟩ := px_copy9 (k := 2) (j := 72) M
  have q1 : ∀ a b, ¬ a = 72 → (xm_s M1 72 j v).1 a b = M.1 a b := fun a b z => by rw [pm_s, if_neg (fun y => z y.1), c2, if_neg (fun y => z y.1)]
  have q2 : ∀ b, b < 9 → (xm_s M1 72 j v).1 72 b = if b = j then v else M.1 2 b := fun b hb => by
    rw [pm_s]
    by_cases z : b = j
    · rw [if_pos ⟨rfl, z⟩, if_pos z]
    · rw [if_neg (fun y => z y.2), if_neg z, c2, if_pos ⟨rfl, hb⟩]
  have vr : ∀ r, 1 ≤ r → cV 72 (xm_s M1 72 j v) r = cVs 1 M r := by
    intro r hr
    funext i
    unfold cV cVs
    have r0 : ¬ r = 0 := by omega
    rw [if_neg r0, if_neg r0]
    repeat' split
    all_goals first | rfl | omega | (rw [q1 _ _ (by omega)]) | (rw [q1 _ _ (by omega)]; congr 1; omega)
  have v0 : ∀ i, i < 9 → cV 72 (xm_s M1 72 j v) 0 i = if i = j then v else cVs 1 M 0 i := by
    intro i hi
    exact q2 i hi
  have hA : ∀ k, (xm_s N 1 j v).1 1 k = if k = j then v else N.1 1 k := by
    intro k
    rw [pm_s]
    by_cases z : k = j
    · rw [if_pos ⟨rfl, z⟩, if_pos z]
    · rw [if_neg (fun y => z y.2), if_neg z]
  have hs := sS_set (V' := cV 72 (xm_s M1 72 j v)) (A' := (xm_s N 1 j v).1 1) h.1 hj h1 h2 v0 vr hA
  have hn2 : cV 72 (xm_s M1 72 j v) 1 2 = nI n := by rw [vr 1 (by omega)]; exact hn1
  obtain ⟨M3, a1, a2⟩ := px_follow (ps := 72) (M := xm_s M1 72 j v) (by omega) rfl hs.1 hn2 hn
  obtain ⟨N4, b1, b2⟩ := pm_all hs.1 hs.2 hn2 hn
  refine ⟨_, n, _, M3, N4, hs.1, hn, ?_, a2, ?_, b1, b2, e9⟩
  · unfold fX3_errorsWith
    rw [c1, pb_v, px_keep (px_kn hj (by omega)) (by omega), pb_v, nI_clamp (by omega), a1, pb_v]
  · intro k i hk
    rw [a2.1 k i (by omega)]
    exact q1 k i (by omega)
theorem pz_547 {j : Nat} (hj : j < 9) : ¬ (nI j < 0 ∨ 547 ≤ j) := by
  have := px_kn (e := j) (n := 547) (by omega) (by omega)
  unfold px_k at this
  rw [nI_clamp (by omega)] at this
  exact this
theorem pz_add (j : Nat) : (0 : Int32) + nI j = nI j := by rw [show (0 : Int32) = nI 0 from rfl, pi_add, Nat.zero_add]
/-- the setting put back -/
theorem xs_back {V : sV} {n j : Nat} {v : Int32} {N N4 : xm_M} (hj : j < 9) (h11 : N.1 1 11 = nI n) (hW : mW V (xm_s N 1 j v) N4 n) :
    mK N (xm_s N4 1 j (N.1 1 j)) ∧ (xm_s N4 1 j (N.1 1 j)).1 1 11 = nI n ∧ (∀ e, e < n → mR (sp_F V e) e (xm_s N4 1 j (N.1 1 j))) ∧ (∀ i, (xm_s N4 1 j (N.1 1 j)).1 0 i = N4.1 0 i) := by
  obtain ⟨w1, w2, w3⟩ := hW
  refine ⟨?_, ?_, ?_, ?_⟩
  · intro k i hk
    rw [pm_s]
    by_cases z : k = 1 ∧ i = j
    · rw [if_pos z, z.1, z.2]
    · rw [if_neg z, w1 k i hk, pm_s, if_neg z]
  · rw [pm_s, if_neg (by omega), w1 1 11 (by omega), pm_s, if_neg (by omega)]
    exact h11
  · intro e he
    refine mR_keep (fun k k1 k2 => ?_) (w3 e he).1
    rw [pm_s, if_neg (by omega)]
  · intro i
    rw [pm_s, if_neg (by omega)]
theorem xs_errW {M N : xm_M} (h : xR M N) {j : Nat} {v : Int32} (hj : j < 9) (h1 : sp_lo j ≤ v.toInt) (h2 : v.toInt ≤ sp_hi j) :
    ∃ (x : Int64) (M3 N5 : xm_M), fX3_errorsWith (nI j) v M = some (x, M3) ∧ fX4_errorsWith (nI j) v N = some (x, N5) ∧ xR M3 N5 := by
  obtain ⟨V, n, M2, M3, N4, ho, hn, a1, a2, a3, b1, b2, b3⟩ := xs_trying h hj h1 h2
  obtain ⟨k1, k2, k3, k4⟩ := xs_back hj b3 b2
  refine ⟨_, M3, _, a1, ?_, xR_keep h a3 k1⟩
  unfold fX4_errorsWith
  rw [pm_set (by omega), pb_i, pz_add, if_neg (px_kn (show j < 547 by omega) (by omega)), pb_lt, nI_clamp (by omega), b1, pb_v, if_neg (pz_547 hj), pb_lt, pm_sum hn k2 k3, pb_l, a2.2.2.2.2.2.1]
theorem xs_ifSet (a v w : Int32) (M N : xm_M) (h : xR M N) : ∃ (r : Int32) (M1 N1 : xm_M), fX3_ifSet a v w M = some (r, M1) ∧ fX4_ifSet a v w N = some (r, N1) ∧ xR M1 N1 := by
  unfold fX3_ifSet fX4_ifSet
  rw [px_isSet, pm_takes, pb_i, pb_i]
  by_cases hk : sp_tk a v = 0
  · rw [if_pos hk, if_pos hk]
    exact ⟨_, _, _, rfl, rfl, h⟩
  obtain ⟨j, hj, rfl, h1, h2⟩ := sp_tk_of hk
  rw [if_neg hk, if_neg hk, px_in, pm_in, pb_i, pb_i]
  by_cases h3 : 0 ≤ w ∧ w ≤ 4
  case neg =>
    simp only [if_neg h3, if_true]
    exact ⟨_, _, _, rfl, rfl, h⟩
  simp only [if_pos h3, show ¬ (1 : Int32) = 0 by decide, if_false]
  obtain ⟨V, n, M2, M3, N4, ho, hn, a1, a2, a3, b1, b2, b3⟩ := xs_trying h hj h1 h2
  obtain ⟨k1, k2, k3, k4⟩ := xs_back hj b3 b2
  have hx := xR_keep h a3 k1
  rw [a1, pb_l, pm_set (by omega), pb_i, pz_add, if_neg (px_kn (show j < 547 by omega) (by omega)), pb_lt, nI_clamp (by omega), b1, pb_v, if_neg (pz_547 hj), pb_lt]
  obtain ⟨w1, w2, w3, w4, w5, w6, w7⟩ := a2
  have q2 : M3.1 68 2 = sp_nK V 2 n := w7 2 (by omega)
  have q3 : M3.1 68 3 = sp_nK V 3 n := w7 3 (by omega)
  generalize xm_s N4 1 j (N.1 1 j) = N5 at k1 k2 k3 k4 hx ⊢
  have hp := w3.trans b2.2.1.symm
  have p0 : M3.1 49 3 = N5.1 0 18 := by rw [k4]; exact congrArg (fun p : sP => p.1) hp
  have p1 : M3.1 49 4 = N5.1 0 19 := by rw [k4]; exact congrArg (fun p : sP => p.2.1) hp
  have p2 : M3.1 49 5 = N5.1 0 20 := by rw [k4]; exact congrArg (fun p : sP => p.2.2.1) hp
  by_cases z0 : w = 0
  · rw [if_pos z0, if_pos z0, p0]
    exact ⟨_, _, _, rfl, rfl, hx⟩
  by_cases z1 : w = 1
  · rw [if_neg z0, if_neg z0, if_pos z1, if_pos z1, p1]
    exact ⟨_, _, _, rfl, rfl, hx⟩
  by_cases z2 : w = 2
  · rw [if_neg z0, if_neg z0, if_neg z1, if_neg z1, if_pos z2, if_pos z2, p2]
    exact ⟨_, _, _, rfl, rfl, hx⟩
  by_cases z3 : w = 3
  · rw [if_neg z0, if_neg z0, if_neg z1, if_neg z1, if_neg z2, if_neg z2, if_pos z3, if_pos z3, px_kI_2, pb_i, px_kI_3, pb_i, pm_many 2 hn k2 (fun e he => (k3 e he).1), pb_i, pm_many 3 hn k2 (fun e he => (k3 e he).1), pb_i, q2, q3]
    exact ⟨_, _, _, rfl, rfl, hx⟩
  · rw [if_neg z0, if_neg z0, if_neg z1, if_neg z1, if_neg z2, if_neg z2, if_neg z3, if_neg z3, px_toldE, pb_i, pm_toldE hn k2 k3, pb_i, w6]
    exact ⟨_, _, _, rfl, rfl, hx⟩
/-! sights there are -/
theorem px_has {n : Nat} {M : xm_M} (hn : n ≤ 120) (h6 : M.1 1 6 = nI n) : ∃ x : Int32, fX1_hasSights M = some (x, M) ∧ (x = 0 ↔ ∀ j, j < n → ¬ 0 ≤ M.1 13 j) := by
  have loop : ∀ (q e : Nat), e ≤ n → n - e < q → (∀ j, j < e → ¬ 0 ≤ M.1 13 j) → ∃ x : Int32, fX1_hasSights_2_it q (nI e) M = some (x, M) ∧ (x = 0 ↔ ∀ j, j < n → ¬ 0 ≤ M.1 13 j) := by
    intro q
    induction q with
    | zero => intro e _ h; omega
    | succ q ih =>
      intro e he hq hb
      show ∃ x : Int32, fX1_hasSights_2 (fX1_hasSights_2_it q) (nI e) M = some (x, M) ∧ _
      unfold fX1_hasSights_2
      rw [h6]
      by_cases hlt : e < n
      · rw [if_neg (by rw [nI_leI (by omega) (by omega)]; omega), px_isSight (by omega), pb_i]
        by_cases hs : 0 ≤ M.1 13 e
        · rw [if_pos hs, if_neg (by decide)]
          refine ⟨1, rfl, ⟨fun z => absurd z (by decide), fun z => absurd hs (z e hlt)⟩⟩
        · rw [if_neg hs, if_pos rfl, pb_lt, show nI e + Int32.ofInt 1 = nI (e + 1) from (nI_succ e).symm]
          refine ih (e + 1) (by omega) (by omega) ?_
          intro j hj
          by_cases z : j = e
          · rw [z]; exact hs
          · exact hb j (by omega)
      · rw [if_pos (by rw [nI_leI (by omega) (by omega)]; omega)]
        have : e = n := by omega
        subst this
        exact ⟨0, rfl, ⟨fun _ => hb, fun _ => rfl⟩⟩
  unfold fX1_hasSights
  rw [pb_lt]
  exact loop xm_N 0 (Nat.zero_le _) (by show n - 0 < 4096; omega) (fun j hj => by omega)
theorem sp_is4 {V : sV} (hok : sp_ok V) (e : Nat) : sp_F V e 0 = 4 ↔ 0 ≤ V 9 e := by
  rcases sp_forms hok e (sp_P V e) with ⟨y, a, b, z⟩ | ⟨y, _, _, z⟩ | ⟨y, k, w, t, d, hk, z⟩ | ⟨y, k, w, t, d, c, q, hk, _, z⟩
  · have : sp_F V e 0 = 4 := congrFun z 0
    exact ⟨fun _ => y, fun _ => this⟩
  · have : sp_F V e 0 = 0 := congrFun z 0
    rw [this]
    exact ⟨fun x => absurd x (by decide), fun x => absurd x y⟩
  · have : sp_F V e 0 = k := congrFun z 0
    rw [this]
    refine ⟨fun x => ?_, fun x => absurd x y⟩
    rcases hk with u | u | u <;> rw [u] at x <;> exact absurd x (by decide)
  · have : sp_F V e 0 = k := congrFun z 0
    rw [this]
    refine ⟨fun x => ?_, fun x => absurd x y⟩
    rcases hk with u | u | u <;> rw [u] at x <;> exact absurd x (by decide)
theorem sp_nK4 {V : sV} (hok : sp_ok V) : ∀ n : Nat, ∃ c, c ≤ n ∧ sp_nK V 4 n = nI c ∧ (c = 0 ↔ ∀ j, j < n → ¬ 0 ≤ V 9 j) := by
  intro n
  induction n with
  | zero => exact ⟨0, Nat.le_refl _, rfl, ⟨fun _ j hj => by omega, fun _ => rfl⟩⟩
  | succ n ih =>
    obtain ⟨c, h1, h2, h3⟩ := ih
    have hs : sp_nK V 4 (n + 1) = sp_nK V 4 n + (if sp_F V n 0 = 4 then 1 else 0) := rfl
    rw [hs, h2]
    by_cases h : 0 ≤ V 9 n
    · rw [if_pos ((sp_is4 hok n).mpr h)]
      refine ⟨c + 1, by omega, pi_succ c, ⟨fun z => by omega, fun z => absurd h (z n (by omega))⟩⟩
    · rw [if_neg (fun z => h ((sp_is4 hok n).mp z))]
      refine ⟨c, by omega, Int32.add_zero _, h3.trans ⟨fun z j hj => ?_, fun z j hj => z j (by omega)⟩⟩
      by_cases y : j = n
      · rw [y]; exact h
      · exact z j (by omega)
theorem xs_sights {M N : xm_M} (h : xR M N) : ∃ (x y : Int32) (N1 : xm_M), fX1_hasSights M = some (x, M) ∧ fX4_sights N = some (y, N1) ∧ (x = 0 ↔ y = 0) ∧ xR M N1 := by
  obtain ⟨n, M1, N1, hn, hn1, f1, f2, hW, hm, hc, hk⟩ := xs_way h
  have e4 : M.1 1 6 = nI n := hn1
  have e9 : N.1 1 11 = nI n := by rw [← hn1]; exact h.1.2.2.1 2 (by omega)
  have eN : N1.1 1 11 = nI n := by rw [hk 1 11 (by omega)]; exact e9
  obtain ⟨x, x1, x2⟩ := px_has hn e4
  obtain ⟨c, c1, c2, c3⟩ := sp_nK4 h.1.1 n
  refine ⟨x, nI c, N1, x1, ?_, ?_, xR_keep h (cK_refl M) hk⟩
  · unfold fX4_sights
    rw [f2, pb_v, pm_many 4 hn eN (fun e he => (hm.2.2 e he).1.1), pb_i, c2]
  · rw [x2]
    have e : (nI c = 0) = (c = 0) := px_eq_nI (n := 0) rfl (by omega) (by omega)
    rw [e, c3]
    exact Iff.rfl
/-! the best trust -/
theorem pi_10 (t : Nat) : nI (10 * t) + Int32.ofInt 10 = nI (10 * (t + 1)) := by
  rw [show Int32.ofInt 10 = nI 10 from rfl, pi_add]
  congr 1
theorem xs_trustL : ∀ (q t : Nat) (best : Int32) (least : Int64) (M N : xm_M), xR M N → t ≤ 11 → 11 - t < q → ∃ (r : Int32) (M1 N1 : xm_M), fX3_bestTrust_26_it q best least (nI (10 * t)) M = some (r, M1) ∧ fX4_bestTrust_23_it q best least (nI (10 * t)) N = some (r, N1) ∧ xR M1 N1 := by
  intro q
  induction q with
  | zero => intro t _ _ _ _ _ _ h; omega
  | succ q ih =>
    intro t best least M N h ht hq
    show ∃ (r : Int32) (M1 N1 : xm_M), fX3_bestTrust_26 (fX3_bestTrust_26_it q) best least (nI (10 * t)) M = some (r, M1) ∧ fX4_bestTrust_23 (fX4_bestTrust_23_it q) best least (nI (10 * t)) N = some (r, N1) ∧ xR M1 N1
    unfold fX3_bestTrust_26 fX4_bestTrust_23 fX3_bestTrust_55 fX4_bestTrust_52 fX4_bestTrust_66
    have e : ((100 : Int32) < nI (10 * t)) = (100 < 10 * t) := px_lt_nI (x := 100) (c := 100) rfl (by omega) (by omega)
    simp only [e, pi_10, pb_lt]
    by_cases hlt : 100 < 10 * t
    · rw [if_pos hlt, if_pos hlt]
      exact ⟨_, _, _, rfl, rfl, h⟩
    · have hv : (nI (10 * t)).toInt = ((10 * t : Nat) : Int) := nI_toInt (by omega)
      obtain ⟨x, M3, N5, a1, a2, a3⟩ := xs_errW h (j := 4) (v := nI (10 * t)) (by omega) (by rw [hv]; show (0 : Int) ≤ _; omega) (by rw [hv]; show _ ≤ (100 : Int); omega)
      rw [px_n4] at a1 a2
      rw [if_neg hlt, if_neg hlt, a1, pb_l, a2, pb_l]
      by_cases hx : 0 ≤ lg_cmp x least
      · simp only [if_pos hx]
        exact ih (t + 1) best least M3 N5 a3 (by omega) (by omega)
      · simp only [if_neg hx]
        exact ih (t + 1) (nI (10 * t)) x M3 N5 a3 (by omega) (by omega)
theorem xs_bestTrust (M N : xm_M) (h : xR M N) : ∃ (r : Int32) (M1 N1 : xm_M), fX3_bestTrust M = some (r, M1) ∧ fX4_bestTrust N = some (r, N1) ∧ xR M1 N1 := by
  obtain ⟨x, y, N1, s1, s2, s3, s4⟩ := xs_sights h
  unfold fX3_bestTrust fX4_bestTrust
  rw [s1, s2, pb_i, pb_i]
  by_cases z : x = 0
  · rw [if_pos z, if_pos (s3.mp z)]
    exact ⟨_, _, _, rfl, rfl, s4⟩
  · rw [if_neg z, if_neg (fun u => z (s3.mpr u)), pb_lt, pb_lt]
    obtain ⟨e, M3, N5, a1, a2, a3⟩ := xs_errW s4 (j := 4) (v := 0) (by omega) (by decide) (by decide)
    rw [px_n4] at a1 a2
    rw [a1, a2, pb_l, pb_l, pb_lt, pb_lt]
    exact xs_trustL xm_N 1 0 e M3 N5 a3 (by omega) (by show 11 - 1 < 4096; omega)
/-! the best base -/
theorem xs_try {M N : xm_M} (h : xR M N) (k37 : Int32 → Int32 → Int64 → Int32 → xm_M → Option (Int32 × xm_M)) (k50 : Int32 → Int32 → Int64 → Int32 → Int32 → xm_M → Option (Int32 × xm_M)) (k28 : Int32 → Int32 → Int64 → Int32 → xm_M → Option (Int32 × xm_M)) (k38 : Int32 → Int32 → Int64 → Int32 → Int32 → xm_M → Option (Int32 × xm_M)) (b1 best : Int32) (least : Int64) (b5 v b6 : Int32) :
    ∃ (best1 : Int32) (least1 : Int64) (M1 N1 : xm_M), xR M1 N1 ∧ (∀ c : Prop, ∀ d : Decidable c, ¬ c → (@ite _ c d (xm_lt (b5 + Int32.ofInt 1) (fun x9 => k37 b1 best least x9 M)) (xm_bi (fX3_isSetting (2 : Int32) v M) (fun x11 M10 => if x11 = 0 then fX3_bestBase_90 k37 k50 b1 best least b5 v M10 else xm_bl (fX3_errorsWith (2 : Int32) v M10) (fun x14 M13 => if 0 ≤ (lg_cmp x14 least) then fX3_bestBase_90 k37 k50 b1 best least b5 v M13 else fX3_bestBase_90 k37 k50 b1 v x14 b5 v M13)))) = k50 b1 best1 least1 b5 (v + 2 * b5) M1) ∧
      fX4_bestBase_60 k28 k38 b1 best least b5 b6 v N = k38 b1 best1 least1 b5 (b6 + Int32.ofInt 1) N1 := by
  unfold fX3_bestBase_90 fX4_bestBase_60 fX4_bestBase_82 fX4_bestBase_97 fX4_bestBase_111
  simp only [pb_lt]
  rw [px_isSet, pm_takes, pb_i, pb_i]
  by_cases hk : sp_tk 2 v = 0
  · have hr : 0 ≤ lg_cmp least least := (pl_b least least).2.1.mpr (Int64.le_refl _)
    refine ⟨best, least, M, N, h, ?_, ?_⟩
    · intro c d hc
      rw [if_neg hc, if_pos hk]
    · rw [if_pos hk, if_pos hr, if_pos hr]
  · obtain ⟨j, hj, e, h1, h2⟩ := sp_tk_of hk
    obtain ⟨x, M3, N5, a1, a2, a3⟩ := xs_errW h hj h1 h2
    rw [← e] at a1 a2
    by_cases hx : 0 ≤ lg_cmp x least
    · refine ⟨best, least, M3, N5, a3, ?_, ?_⟩
      · intro c d hc
        rw [if_neg hc, if_neg hk, a1, pb_l, if_pos hx]
      · rw [if_neg hk, a2, pb_l, if_pos hx, if_pos hx]
    · refine ⟨v, x, M3, N5, a3, ?_, ?_⟩
      · intro c d hc
        rw [if_neg hc, if_neg hk, a1, pb_l, if_neg hx]
      · rw [if_neg hk, a2, pb_l, if_neg hx, if_neg hx]
theorem pi_subN {a b : Nat} (h : b ≤ a) : nI a - nI b = nI (a - b) := by
  have e : nI a = nI (a - b) + nI b := by rw [pi_add]; congr 1; omega
  rw [e, Int32.add_sub_cancel]
theorem xs_baseL {B : Nat} (hB : 100 ≤ B) (hB2 : B ≤ 1000) : ∀ (q o : Nat) (best : Int32) (least : Int64) (M N : xm_M), xR M N → 1 ≤ o → o ≤ 21 → 21 - o < q → ∃ (r : Int32) (M1 N1 : xm_M), fX3_bestBase_37_it q (nI B) best least (nI o) M = some (r, M1) ∧ fX4_bestBase_28_it q (nI B) best least (nI o) N = some (r, N1) ∧ xR M1 N1 := by
  intro q
  induction q with
  | zero => intro o _ _ _ _ _ _ _ h; omega
  | succ q ih =>
    intro o best least M N h ho1 ho2 hq
    show ∃ (r : Int32) (M1 N1 : xm_M), fX3_bestBase_37 (fX3_bestBase_37_it q) (nI B) best least (nI o) M = some (r, M1) ∧ fX4_bestBase_28 (fX4_bestBase_28_it q) (nI B) best least (nI o) N = some (r, N1) ∧ xR M1 N1
    unfold fX3_bestBase_37 fX4_bestBase_28
    have e : ((20 : Int32) < nI o) = (20 < o) := px_lt_nI (x := 20) (c := 20) rfl (by omega) (by omega)
    simp only [e, pb_lt]
    by_cases hlt : 20 < o
    · rw [if_pos hlt, if_pos hlt]
      exact ⟨_, _, _, rfl, rfl, h⟩
    rw [if_neg hlt, if_neg hlt]
    generalize hK : fX3_bestBase_37_it q = K37 at ih ⊢
    generalize hK' : fX4_bestBase_28_it q = K28 at ih ⊢
    obtain ⟨p, hp⟩ : ∃ p, xm_N = p + 3 := ⟨4093, rfl⟩
    rw [hp]
    show ∃ (r : Int32) (M1 N1 : xm_M), fX3_bestBase_50 K37 (fX3_bestBase_50_it K37 (p + 2)) (nI B) best least (nI o) (nI B - nI o) M = some (r, M1) ∧ fX4_bestBase_38 K28 (fX4_bestBase_38_it K28 (p + 2)) (nI B) best least (nI o) 0 N = some (r, N1) ∧ xR M1 N1
    have s1 : nI B - nI o = nI (B - o) := pi_subN (by omega)
    have s2 : nI B + nI o = nI (B + o) := pi_add B o
    have s3 : nI (B - o) + 2 * nI o = nI (B + o) := by
      rw [show (2 : Int32) = nI 2 from rfl, pi_mul, pi_add]; congr 1; omega
    have s4 : nI (B + o) + 2 * nI o = nI (B + o + 2 * o) := by
      rw [show (2 : Int32) = nI 2 from rfl, pi_mul, pi_add]
    have c1 : ¬ nI B + nI o < nI (B - o) := by rw [s2, px_lt_nI rfl (by omega) (by omega)]; omega
    have c2 : ¬ nI B + nI o < nI (B + o) := by rw [s2, px_lt_nI rfl (by omega) (by omega)]; omega
    have c3 : nI B + nI o < nI (B + o + 2 * o) := by rw [s2, px_lt_nI rfl (by omega) (by omega)]; omega
    obtain ⟨b1, l1, M1, N1, x1, u1, v1⟩ := xs_try h K37 (fX3_bestBase_50_it K37 (p + 2)) K28 (fX4_bestBase_38_it K28 (p + 2)) (nI B) best least (nI o) (nI (B - o)) 0
    obtain ⟨b2, l2, M2, N2, x2, u2, v2⟩ := xs_try x1 K37 (fX3_bestBase_50_it K37 (p + 1)) K28 (fX4_bestBase_38_it K28 (p + 1)) (nI B) b1 l1 (nI o) (nI (B + o)) 1
    have C : fX3_bestBase_50 K37 (fX3_bestBase_50_it K37 (p + 2)) (nI B) best least (nI o) (nI B - nI o) M = K37 (nI B) b2 l2 (nI (o + 1)) M2 := by
      rw [s1]
      unfold fX3_bestBase_50
      rw [u1 _ _ c1, s3]
      show fX3_bestBase_50 K37 (fX3_bestBase_50_it K37 (p + 1)) (nI B) b1 l1 (nI o) (nI (B + o)) M1 = _
      unfold fX3_bestBase_50
      rw [u2 _ _ c2, s4]
      show fX3_bestBase_50 K37 (fX3_bestBase_50_it K37 p) (nI B) b2 l2 (nI o) (nI (B + o + 2 * o)) M2 = _
      unfold fX3_bestBase_50
      rw [if_pos c3, pb_lt, show nI o + Int32.ofInt 1 = nI (o + 1) from (nI_succ o).symm]
    have D : fX4_bestBase_38 K28 (fX4_bestBase_38_it K28 (p + 2)) (nI B) best least (nI o) 0 N = K28 (nI B) b2 l2 (nI (o + 1)) N2 := by
      unfold fX4_bestBase_38
      rw [if_neg (by decide), if_pos rfl, s1, v1, show (0 : Int32) + Int32.ofInt 1 = 1 from by decide]
      show fX4_bestBase_38 K28 (fX4_bestBase_38_it K28 (p + 1)) (nI B) b1 l1 (nI o) 1 N1 = _
      unfold fX4_bestBase_38
      rw [if_neg (by decide), if_neg (by decide), s2, v2, show (1 : Int32) + Int32.ofInt 1 = 2 from by decide]
      show fX4_bestBase_38 K28 (fX4_bestBase_38_it K28 p) (nI B) b2 l2 (nI o) 2 N2 = _
      unfold fX4_bestBase_38
      rw [if_pos (by decide), pb_lt, show nI o + Int32.ofInt 1 = nI (o + 1) from (nI_succ o).symm]
    rw [C, D]
    exact ih (o + 1) b2 l2 M2 N2 x2 (by omega) (by omega) (by omega)
theorem xs_bestBase (M N : xm_M) (h : xR M N) : ∃ (r : Int32) (M1 N1 : xm_M), fX3_bestBase M = some (r, M1) ∧ fX4_bestBase N = some (r, N1) ∧ xR M1 N1 := by
  obtain ⟨x, y, N1, s1, s2, s3, s4⟩ := xs_sights h
  unfold fX3_bestBase fX4_bestBase
  rw [s1, s2, pb_i, pb_i]
  by_cases z : x = 0
  · rw [if_pos z, if_pos (s3.mp z)]
    exact ⟨_, _, _, rfl, rfl, s4⟩
  · have hb := s4.1.1.2.2.1
    have e2 : N1.1 1 2 = M.1 2 2 := s4.1.2.1 2 (by omega)
    have hb' : 100 ≤ (M.1 2 2).toInt ∧ (M.1 2 2).toInt ≤ 1000 := hb
    rw [if_neg z, if_neg (fun u => z (s3.mpr u)), px_sI_2, pb_i, pm_set2, pb_i, e2]
    obtain ⟨B, hB, hB1, hB2, _⟩ := pn_ofI (n := 1000) (by omega : 0 ≤ (M.1 2 2).toInt) (by omega)
    obtain ⟨e, M3, N5, a1, a2, a3⟩ := xs_errW s4 (j := 2) (v := M.1 2 2) (by omega) hb'.1 hb'.2
    rw [px_n2] at a1 a2
    rw [a1, a2, pb_l, pb_l, pb_lt, pb_lt, hB1]
    exact xs_baseL (by omega) (by omega) xm_N 1 (nI B) e M3 N5 a3 (by omega) (by omega) (by show 21 - 1 < 4096; omega)
