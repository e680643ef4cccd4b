/-! THE CLASS ALONE: saved and restored; texts -/
def vE (V V' : sV) : Prop := vP 120 V V' ∧ V' 1 2 = V 1 2
theorem vE_refl (V : sV) : vE V V := ⟨vP_refl _ _, rfl⟩
theorem vE_symm {V V' : sV} (h : vE V V') : vE V' V := ⟨vP_symm h.1, h.2.symm⟩
theorem vE_trans {V V' V2 : sV} (h : vE V V') (g : vE V' V2) : vE V V2 := ⟨vP_trans h.1 g.1, g.2.trans h.2⟩
theorem sp_ok_vE {V V' : sV} (h : sp_ok V) (hv : vE V V') : sp_ok V' := by
  obtain ⟨⟨h0, h1, h2, h3, h4⟩, h5⟩ := hv
  obtain ⟨p0, p1, p2, p3, p4, p5, p6, p7, p8⟩ := sp_okM_of h
  have e0 := h1 0 (by omega) (by omega)
  have e1 := h1 1 (by omega) (by omega)
  refine sp_ok_of h h0 ?_ ?_ ?_ ?_ ?_ ?_ ?_ ?_ ?_
  · rw [e0]; exact p0
  · rw [e1]; exact p1
  · rw [h5]; exact p2
  · rw [h1 3 (by omega) (by omega)]; exact p3
  · rw [h1 4 (by omega) (by omega)]; exact p4
  · rw [h1 5 (by omega) (by omega)]; exact p5
  · rw [e0]; exact fun i hi => Or.inl ⟨hi, fun r _ _ => h2 r i (by omega) (by omega) (by omega)⟩
  · rw [e1]; exact fun i hi => Or.inl ⟨hi, fun r _ _ => h3 r i (by omega) (by omega) (by omega)⟩
  · rw [e1, h5]; exact fun i hi => Or.inl ⟨hi, Int.le_refl _, fun r _ _ => h4 r i (by omega) (by omega) (by omega)⟩
theorem cS_vE {V V' : sV} {n : Nat} (h : cS V n) (hv : vE V V') : cS V' n := ⟨sp_ok_vE h.1 hv, hv.2.trans h.2.1, h.2.2⟩
theorem vE_of {V V' : sV} (h0 : ∀ b, b < 9 → V' 0 b = V 0 b) (h1 : ∀ b, b < 6 → V' 1 b = V 1 b) (h2 : ∀ r b, 2 ≤ r → r < 7 → b < 8 → V' r b = V r b) (h3 : ∀ r b, 7 ≤ r → r < 9 → b < 6 → V' r b = V r b) (h4 : ∀ r b, 9 ≤ r → r < 13 → b < 120 → V' r b = V r b) : vE V V' := ⟨⟨h0, fun b hb _ => h1 b hb, h2, h3, h4⟩, h1 2 (by omega)⟩
theorem cVs_keep2 {s : Nat} {M : xm_M} {k j : Nat} {v : Int32} (h : k < s ∨ s + 16 ≤ k ∨ (k = s ∧ (j < 4 ∨ 10 ≤ j))) : ∀ r b, (r = 1 → b < 6) → cVs s (xm_s M k j v) r b = cVs s M r b := by
  intro r b hb
  unfold cVs
  repeat' split
  all_goals first | rfl | (rw [pm_s, if_neg (by omega)])
theorem cm_save0 (M : xm_M) : ∃ M1, fX3_save 0 M = some (cVs 1 M 1 2, M1) ∧ (∀ a b, (a < 17 ∨ 33 ≤ a) → M1.1 a b = M.1 a b) ∧ vE (cVs 1 M) (cVs 17 M1) ∧ M1.1 17 10 = 1 := by
  obtain ⟨M', t1, t2, t3, t4, t5, t6, t7⟩ := px_take_17_1 M
  have k := cVs_keep2 (s := 17) (M := M') (k := 17) (j := 10) (v := 1) (by omega)
  refine ⟨xm_s M' 17 10 1, ?_, ?_, ?_, ?_⟩
  · unfold fX3_save fX3_slotOf
    rw [px_inT (a := 0) (lo := 0) (hi := 1) (by decide), pb_i, if_neg (by decide), if_pos rfl, pb_r, if_pos rfl, t1, pb_v, pb_lt, pm_s, if_neg (by omega), t2 1 6 (by omega)]
    rfl
  · intro a b h
    rw [pm_s, if_neg (by omega)]
    exact t2 a b (by omega)
  · exact vE_of (fun b hb => (k 0 b (by omega)).trans (t3 b hb)) (fun b hb => (k 1 b (by omega)).trans (t4 b hb)) (fun r b h1 h2 h3 => (k r b (by omega)).trans (t5 r b h1 h2 h3)) (fun r b h1 h2 h3 => (k r b (by omega)).trans (t6 r b h1 h2 h3)) (fun r b h1 h2 h3 => (k r b (by omega)).trans (t7 r b h1 h2 h3))
  · rw [pm_s, if_pos ⟨rfl, rfl⟩]
theorem cm_save1 (M : xm_M) : ∃ M1, fX3_save 1 M = some (cVs 1 M 1 2, M1) ∧ (∀ a b, (a < 33 ∨ 49 ≤ a) → M1.1 a b = M.1 a b) ∧ vE (cVs 1 M) (cVs 33 M1) ∧ M1.1 33 10 = 1 := by
  obtain ⟨M', t1, t2, t3, t4, t5, t6, t7⟩ := px_take_33_1 M
  have k := cVs_keep2 (s := 33) (M := M') (k := 33) (j := 10) (v := 1) (by omega)
  refine ⟨xm_s M' 33 10 1, ?_, ?_, ?_, ?_⟩
  · unfold fX3_save fX3_slotOf
    rw [px_inT (a := 1) (lo := 0) (hi := 1) (by decide), pb_i, if_neg (by decide), if_neg (show ¬ (1 : Int32) = 0 by decide), pb_r, if_neg (by decide), if_pos rfl, t1, pb_v, pb_lt, pm_s, if_neg (by omega), t2 1 6 (by omega)]
    rfl
  · intro a b h
    rw [pm_s, if_neg (by omega)]
    exact t2 a b (by omega)
  · exact vE_of (fun b hb => (k 0 b (by omega)).trans (t3 b hb)) (fun b hb => (k 1 b (by omega)).trans (t4 b hb)) (fun r b h1 h2 h3 => (k r b (by omega)).trans (t5 r b h1 h2 h3)) (fun r b h1 h2 h3 => (k r b (by omega)).trans (t6 r b h1 h2 h3)) (fun r b h1 h2 h3 => (k r b (by omega)).trans (t7 r b h1 h2 h3))
  · rw [pm_s, if_pos ⟨rfl, rfl⟩]
theorem cm_saveF {a : Int32} {M : xm_M} (h : ¬ (0 ≤ a.toInt ∧ a.toInt ≤ 1)) : fX3_save a M = some (-2, M) := by
  unfold fX3_save
  rw [px_inF (a := a) (lo := 0) (hi := 1) (by rw [px_z0, pn_i1]; exact h), pb_i, if_pos rfl]
theorem cm_restF {a : Int32} {M : xm_M} (h : ¬ (0 ≤ a.toInt ∧ a.toInt ≤ 1)) : fX3_restore a M = some (-2, M) := by
  unfold fX3_restore
  rw [px_inF (a := a) (lo := 0) (hi := 1) (by rw [px_z0, pn_i1]; exact h), pb_i, if_pos rfl]
theorem cm_rest0 {M : xm_M} (h : M.1 17 10 = 1) : ∃ M1, fX3_restore 0 M = some (cVs 17 M 1 2, M1) ∧ cO M M1 ∧ vE (cVs 17 M) (cVs 1 M1) := by
  obtain ⟨M', t1, t2, t3, t4, t5, t6, t7⟩ := px_take_1_17 M
  refine ⟨M', ?_, fun k j hk => t2 k j (by omega), vE_of t3 t4 t5 t6 t7⟩
  unfold fX3_restore fX3_slotOf
  rw [px_inT (a := 0) (lo := 0) (hi := 1) (by decide), pb_i, if_neg (by decide), if_pos rfl, pb_r, if_pos rfl, h, if_neg (by decide), t1, pb_v, ← t4 2 (by omega)]
  rfl
theorem cm_rest1 {M : xm_M} (h : M.1 33 10 = 1) : ∃ M1, fX3_restore 1 M = some (cVs 33 M 1 2, M1) ∧ cO M M1 ∧ vE (cVs 33 M) (cVs 1 M1) := by
  obtain ⟨M', t1, t2, t3, t4, t5, t6, t7⟩ := px_take_1_33 M
  refine ⟨M', ?_, fun k j hk => t2 k j (by omega), vE_of t3 t4 t5 t6 t7⟩
  unfold fX3_restore fX3_slotOf
  rw [px_inT (a := 1) (lo := 0) (hi := 1) (by decide), pb_i, if_neg (by decide), if_neg (show ¬ (1 : Int32) = 0 by decide), pb_r, if_neg (by decide), if_pos rfl, h, if_neg (by decide), t1, pb_v, ← t4 2 (by omega)]
  rfl
theorem cm_wipe (M : xm_M) : fX3_wipe M = some (M.1 69 1, xm_s M 69 1 0) := by
  unfold fX3_wipe
  rw [pb_lt, pb_lt]
/-! the signs of a word -/
def sgF : Nat → Nat → Int64 → Int32
  | 0, _, _ => 0
  | q + 1, k, z => if 8 ≤ k then nI k else if z = 0 then nI k else if 33 ≤ (z &&& 255).toInt32 ∧ (z &&& 255).toInt32 ≤ 126 then sgF q (k + 1) (z.toUInt64 >>> (8 : UInt64)).toInt64 else 0
theorem px_signs (M : xm_M) : ∀ (q p k : Nat) (z : Int64), k ≤ 8 → 8 - k < q → 8 - k < p → fX0_signsIn_4_it q (nI k) z M = some (sgF p k z, M) := by
  intro q
  induction q with
  | zero => intro p k _ _ h; omega
  | succ q ih =>
    intro p k z hk hq hp
    obtain ⟨p, rfl⟩ : ∃ p', p = p' + 1 := ⟨p - 1, by omega⟩
    show fX0_signsIn_4 (fX0_signsIn_4_it q) (nI k) z M = _
    unfold fX0_signsIn_4 fX0_signsIn_45 sgF
    have e8 : ((8 : Int32) ≤ nI k) = (8 ≤ k) := propext (nI_leI (a := 8) (by omega) (by omega))
    simp only [e8, pl_eq, pb_lt]
    by_cases h8 : 8 ≤ k
    · rw [if_pos h8, if_pos h8]
    rw [if_neg h8, if_neg h8]
    by_cases hz0 : z = 0
    · rw [if_pos hz0, if_pos hz0]
    rw [if_neg hz0, if_neg hz0, px_in, pb_i]
    by_cases hin : 33 ≤ (z &&& 255).toInt32 ∧ (z &&& 255).toInt32 ≤ 126
    · rw [if_pos hin, if_neg (by decide), if_pos hin, show nI k + Int32.ofInt 1 = nI (k + 1) from (nI_succ k).symm]
      exact ih p (k + 1) _ (by omega) (by omega) (by omega)
    · rw [if_neg hin, if_pos rfl, if_neg hin]
/-- a byte of a word, from its end -/
def sgB (b : Int64) (d : Nat) : Int32 := ((b >>> ((nI (8 * d)).toInt64 &&& 63)) &&& (255 : Int64)).toInt32
theorem px_appL {b1 : Int64} {m L : Nat} (hm : m ≤ 8) (hL : L + m ≤ 100) {M0 : xm_M} (h69 : M0.1 69 1 = nI L) : ∀ (q i : Nat) (M : xm_M), i ≤ m → m - i < q → (∀ k j, ¬ (k = 70 ∧ L ≤ j) → M.1 k j = M0.1 k j) → (∀ j, j < i → M.1 70 (L + j) = sgB b1 (m - 1 - j)) → ∃ M', fX0_append_3_it q b1 (nI m) (nI i) M = some M' ∧ (∀ k j, ¬ (k = 70 ∧ L ≤ j) → ¬ (k = 69 ∧ j = 1) → M'.1 k j = M0.1 k j) ∧ M'.1 69 1 = nI (L + m) ∧ ∀ j, j < m → M'.1 70 (L + j) = sgB b1 (m - 1 - j) := by
  intro q
  induction q with
  | zero => intro i _ _ h; omega
  | succ q ih =>
    intro i M hi hq hM hp
    show ∃ M', fX0_append_3 (fX0_append_3_it q) b1 (nI m) (nI i) M = some M' ∧ _
    unfold fX0_append_3
    have e1 : M.1 69 1 = nI L := (hM 69 1 (by omega)).trans h69
    rw [e1]
    by_cases hlt : i < m
    · rw [if_neg (by rw [nI_leI (by omega) (by omega)]; omega), pi_add, px_keep (px_kn (n := 100) (by omega) (by omega)) (by omega), pb_v, pb_lt, show nI i + Int32.ofInt 1 = nI (i + 1) from (nI_succ i).symm, nI_clamp (by omega)]
      have ed : (8 : Int32) * ((nI m - 1) - nI i) = nI (8 * (m - 1 - i)) := by
        rw [show (1 : Int32) = nI 1 from rfl, pi_subN (by omega), pi_subN (by omega), show (8 : Int32) = nI 8 from rfl, pi_mul]
      rw [ed, pb_shr b1 (m - 1 - i) (by omega)]
      refine ih (i + 1) _ (by omega) (by omega) ?_ ?_
      · intro k j hk
        rw [pm_s, if_neg (fun z => hk ⟨z.1, by omega⟩)]
        exact hM k j hk
      · intro j hj
        rw [pm_s]
        by_cases z : j = i
        · rw [if_pos ⟨rfl, by omega⟩, z]; rfl
        · rw [if_neg (fun y => z (by omega))]
          exact hp j (by omega)
    · have him : i = m := by omega
      subst him
      rw [if_pos (by rw [nI_leI (by omega) (by omega)]; omega), pi_add, pb_lt]
      refine ⟨_, rfl, ?_, ?_, ?_⟩
      · intro k j hk hj
        rw [pm_s, if_neg hj]
        exact hM k j hk
      · rw [pm_s, if_pos ⟨rfl, rfl⟩]
      · intro j hj
        rw [pm_s, if_neg (by omega)]
        exact hp j hj
theorem cm_put {b : Int64} {m L : Nat} {M : xm_M} (h69 : M.1 69 1 = nI L) (hm0 : 0 < m) (hm : m ≤ 8) (hL : L + m ≤ 100) (hs : sgF 9 0 b = nI m) : ∃ M1, fX3_put b M = some (nI (L + m), M1) ∧ (∀ k j, ¬ (k = 70 ∧ L ≤ j) → ¬ (k = 69 ∧ j = 1) → M1.1 k j = M.1 k j) ∧ M1.1 69 1 = nI (L + m) ∧ ∀ j, j < m → M1.1 70 (L + j) = sgB b (m - 1 - j) := by
  obtain ⟨M', a1, a2, a3, a4⟩ := px_appL (b1 := b) hm hL h69 xm_N 0 M (Nat.zero_le _) (by show m - 0 < 4096; omega) (fun _ _ _ => rfl) (fun j hj => by omega)
  refine ⟨M', ?_, a2, a3, a4⟩
  have e0 : (nI m = 0) = (m = 0) := px_eq_nI (n := 0) rfl (by omega) (by omega)
  have e100 : (nI (L + m) ≤ (100 : Int32)) = (L + m ≤ 100) := propext (nI_leI (b := 100) (by omega) (by omega))
  unfold fX3_put fX0_signsIn fX0_append
  rw [pb_lt, show (0 : Int32) = nI 0 from rfl, px_signs M xm_N 9 0 b (by omega) (by show 8 - 0 < 4096; omega) (by omega), hs, pb_i, show nI 0 = (0 : Int32) from rfl, if_neg (by rw [e0]; omega), h69, pi_add, if_pos (by rw [e100]; exact hL), pb_lt, show (0 : Int32) = nI 0 from rfl, a1, pb_v, a3]
/-! reading -/
/-- where there is a text of n signs -/
theorem ct_none {T : Nat → Int32} {n i p : Nat} {M : xm_M} (hn : n ≤ 100) (hT : cT T n M) (hi : M.1 69 2 = nI i) (hin : i ≤ n) (he : sp_ent T n i = (none, p)) : ∃ M', fX0_readEntry M = some (0, M') ∧ cF M M' ∧ M'.1 69 2 = nI p := by
  rcases px_ent (M := M) hn hT hi hin with ⟨s, a, b, t, p', M1, c1, _⟩ | ⟨p', M1, c1, c2, c3, c4, c5, c6⟩
  · rw [he] at c1; exact absurd (congrArg Prod.fst c1) (fun z => by cases z)
  · rw [he] at c1
    obtain rfl : p = p' := congrArg Prod.snd c1
    exact ⟨M1, c4, c5, c6⟩
theorem ct_some {T : Nat → Int32} {n i p : Nat} {s a b t : Int32} {M : xm_M} (hn : n ≤ 100) (hT : cT T n M) (hi : M.1 69 2 = nI i) (hin : i ≤ n) (he : sp_ent T n i = (some (s, a, b, t), p)) : ∃ M', fX0_readEntry M = some (1, M') ∧ cF M M' ∧ p ≤ n ∧ M'.1 69 2 = nI p ∧ M'.1 69 3 = s ∧ M'.1 71 0 = a ∧ (s = 1 ∨ (s = 0 ∧ M'.1 71 1 = b ∧ M'.1 71 2 = t)) := by
  rcases px_ent (M := M) hn hT hi hin with ⟨s', a', b', t', p', M1, c1, c2, c3, c4, c5, c6, c7, c8, c9⟩ | ⟨p', M1, c1, _⟩
  · rw [he] at c1
    obtain ⟨rfl, rfl, rfl, rfl⟩ : s = s' ∧ a = a' ∧ b = b' ∧ t = t' := by
      have := congrArg Prod.fst c1
      simp only [Option.some.injEq, Prod.mk.injEq] at this
      exact this
    obtain rfl : p = p' := congrArg Prod.snd c1
    exact ⟨M1, c4, c5, c3, c6, c7, c8, c9⟩
  · rw [he] at c1; exact absurd (congrArg Prod.fst c1) (fun z => by cases z)
/-- a text whose first entry is broken at p -/
theorem cm_fault1 {T : Nat → Int32} {n p : Nat} {M : xm_M} (hn : n ≤ 100) (hT : cT T n M) (he : sp_ent T n 0 = (none, p)) : ∃ M', fX0_findFault M = some (nI p, M') ∧ cF M M' := by
  obtain ⟨M', a1, a2, a3⟩ := ct_none (M := xm_s M 69 2 0) hn (cT_s hT (by omega)) (by rw [pm_s, if_pos ⟨rfl, rfl⟩]; rfl) (Nat.zero_le _) he
  unfold fX0_findFault
  rw [pb_lt, pb_lt]
  show ∃ M', fX0_findFault_7 (fX0_findFault_7_it 4095) 0 (xm_s M 69 2 0) = some (nI p, M') ∧ cF M M'
  unfold fX0_findFault_7
  rw [if_neg (by decide), a1, pb_i, if_pos rfl, a3]
  exact ⟨M', rfl, cF_trans (cF_s (Or.inl rfl)) a2⟩
theorem cm_load1 {T : Nat → Int32} {n p : Nat} {M : xm_M} (hn : n ≤ 100) (hT : cT T n M) (he : sp_ent T n 0 = (none, p)) (hp : p ≤ 100) : ∃ M', fX3_load M = some (-3, M') ∧ cF M M' := by
  obtain ⟨M', a1, a2⟩ := cm_fault1 hn hT he
  unfold fX3_load
  rw [a1, pb_i, if_neg (px_not6 hp)]
  exact ⟨M', rfl, a2⟩
/-- a text of two entries -/
theorem cm_fault2 {T : Nat → Int32} {n p : Nat} {M : xm_M} {s a b t s2 a2 b2 t2 : Int32} (hn : n ≤ 100) (hT : cT T n M) (he : sp_ent T n 0 = (some (s, a, b, t), p)) (hp : p < n) (h59 : sp_ch T n p = 59) (he2 : sp_ent T n (p + 1) = (some (s2, a2, b2, t2), n)) : ∃ M', fX0_findFault M = some (-6, M') ∧ cF M M' := by
  obtain ⟨M1, a1, c1, q1, i1, _⟩ := ct_some (M := xm_s M 69 2 0) hn (cT_s hT (by omega)) (by rw [pm_s, if_pos ⟨rfl, rfl⟩]; rfl) (Nat.zero_le _) he
  have hT1 := cF_T c1 (cT_s (k := 69) (j := 2) (v := 0) hT (by omega))
  obtain ⟨M2, a2', c2, q2, i2, _⟩ := ct_some (M := xm_s M1 69 2 (nI (p + 1))) hn (cT_s hT1 (by omega)) (by rw [pm_s, if_pos ⟨rfl, rfl⟩]) (by omega) he2
  have hT2 := cF_T c2 (cT_s (k := 69) (j := 2) (v := nI (p + 1)) hT1 (by omega))
  unfold fX0_findFault
  rw [pb_lt, pb_lt]
  show ∃ M', fX0_findFault_7 (fX0_findFault_7_it 4095) 0 (xm_s M 69 2 0) = some (-6, M') ∧ cF M M'
  unfold fX0_findFault_7
  rw [if_neg (by decide), a1, pb_i, if_neg (by decide), i1, hT1.1, if_pos (by rw [px_lt_nI rfl (by omega) (by omega)]; exact hp), px_takes hn hT1 i1 (by omega) (by decide), if_pos h59, pb_i, if_neg (by decide), pb_lt]
  show ∃ M', fX0_findFault_7 (fX0_findFault_7_it 4094) (0 + Int32.ofInt 1) (xm_s M1 69 2 (nI (p + 1))) = some (-6, M') ∧ cF M M'
  unfold fX0_findFault_7
  rw [if_neg (by decide), a2', pb_i, if_neg (by decide), i2, hT2.1, if_neg (by rw [px_lt_nI rfl (by omega) (by omega)]; omega)]
  exact ⟨M2, rfl, cF_trans (cF_s (Or.inl rfl)) (cF_trans c1 (cF_trans (cF_s (Or.inl rfl)) c2))⟩
