/-! THE CLASS ALONE: a text of a step and a sight is loaded -/
theorem cm_addSightF {a : Int32} {M : xm_M} (ho : sp_ok (cVs 1 M)) (h : ¬ (0 ≤ a.toInt ∧ a.toInt < (cVs 1 M 1 1).toInt)) : fX1_addSight a M = some (-1, M) := by
  obtain ⟨p0, p1, p2, p3, p4, p5, p6, p7, p8⟩ := sp_okM_of ho
  obtain ⟨m, hm6, hm, hm2, _⟩ := pn_ofI (n := 6) p1.1 p1.2
  have e5 : M.1 1 5 = nI m := hm
  rw [hm2] at h
  unfold fX1_addSight
  rw [e5, px_inF (a := a) (lo := 0) (hi := nI m - 1) (by rw [px_z0, pn_pred (by omega)]; omega), pb_i, if_pos rfl]
theorem cF_view {M M' : xm_M} (h : cF M M') : cVs 1 M' = cVs 1 M := cVs_keep (fun k j _ _ => h k j (by omega) (by omega))
/-- slots, and what lies beyond all, stand -/
def cN (M M' : xm_M) : Prop := ∀ k j, ((17 ≤ k ∧ k < 49) ∨ k = 73) → M'.1 k j = M.1 k j
theorem cN_F {M M' : xm_M} (h : cF M M') : cN M M' := fun k j _ => h k j (by omega) (by omega)
theorem cN_O {M M' : xm_M} (h : cO M M') : cN M M' := fun k j _ => h k j (by omega)
theorem cN_J {M M' : xm_M} (h : cJ M M') : cN M M' := fun k j _ => h k j (by omega)
theorem cN_refl (M : xm_M) : cN M M := fun _ _ _ => rfl
theorem cN_trans {M M1 M2 : xm_M} (h1 : cN M M1) (h2 : cN M1 M2) : cN M M2 := fun k j h => (h2 k j h).trans (h1 k j h)
theorem cN_s69 {M : xm_M} {j : Nat} {v : Int32} : cN M (xm_s M 69 j v) := fun k i h => by rw [pm_s, if_neg (by omega)]
theorem cVs_s69 {M : xm_M} {j : Nat} {v : Int32} : cVs 1 (xm_s M 69 j v) = cVs 1 M := cVs_keep (fun k i _ _ => by rw [pm_s, if_neg (by omega)])
set_option maxHeartbeats 1000000 in
theorem cm_load2 {T : Nat → Int32} {n p N m : Nat} {M : xm_M} {a b t : Int32} (hn : n ≤ 100) (hT : cT T n M) (he : sp_ent T n 0 = (some (0, a, b, t), p)) (hp : p + 1 < n) (h59 : sp_ch T n p = 59) (he2 : sp_ent T n (p + 1) = (some (1, nI m, 0, 0), n)) (hm : m < 1000)
    (ho : sp_ok (cVs 1 M)) (hN : cVs 1 M 1 2 = nI N) (hN2 : N < 118) (h1 : -300 ≤ a.toInt ∧ a.toInt ≤ 300) (h2 : -300 ≤ b.toInt ∧ b.toInt ≤ 300) (h3 : -300000 ≤ t.toInt ∧ t.toInt ≤ 300000) :
    ∃ (V1 : sV) (M' : xm_M), fX3_load M = some (if (m : Int) < (cVs 1 M 1 1).toInt then 2 else 1, M') ∧ vMore N (-6) a b t (cVs 1 M) V1 ∧ sp_ok (cVs 1 M') ∧ (if (m : Int) < (cVs 1 M 1 1).toInt then vMore (N + 1) (nI m) (V1 10 (N + 1)) (V1 11 (N + 1)) (V1 12 (N + 1)) V1 (cVs 1 M') else cVs 1 M' = V1) ∧ cN M M' ∧ M'.1 69 1 = 0 := by
  obtain ⟨M1, f1, f2⟩ := cm_fault2 hn hT he (by omega) h59 he2
  have hT4 : cT T n (xm_s M1 69 2 0) := cT_s (cF_T f2 hT) (by omega)
  have hF4 : cF M (xm_s M1 69 2 0) := cF_trans f2 (cF_s (Or.inl rfl))
  obtain ⟨M5, a1, c5, q5, i5, s5, x5, y5⟩ := ct_some (M := xm_s M1 69 2 0) hn hT4 (by rw [pm_s, if_pos ⟨rfl, rfl⟩]; rfl) (Nat.zero_le _) he
  have y5 : M5.1 71 1 = b ∧ M5.1 71 2 = t := by
    rcases y5 with z | ⟨_, z⟩
    · exact absurd z (by decide)
    · exact z
  have hT5 := cF_T c5 hT4
  have hF6 : cF M (xm_s M5 69 2 (nI (p + 1))) := cF_trans hF4 (cF_trans c5 (cF_s (Or.inl rfl)))
  have hT6 : cT T n (xm_s M5 69 2 (nI (p + 1))) := cT_s hT5 (by omega)
  have v6 := cF_view hF6
  obtain ⟨M7, b1, b2, b3, b4⟩ := cm_addStep (M := xm_s M5 69 2 (nI (p + 1))) (n := N) (by rw [v6]; exact ho) (by rw [v6]; exact hN) (by omega) h1 h2 h3
  rw [v6] at b3
  have hT7 : cT T n M7 := ⟨(b4 69 1 (by omega)).trans hT6.1, fun j hj => (b4 70 j (by omega)).trans (hT6.2 j hj)⟩
  have i7 : M7.1 69 2 = nI (p + 1) := (b4 69 2 (by omega)).trans (by rw [pm_s, if_pos ⟨rfl, rfl⟩])
  obtain ⟨M8, a8, c8, q8, i8, s8, x8, _⟩ := ct_some (M := M7) hn hT7 i7 (by omega) he2
  have hT8 := cF_T c8 hT7
  have v8 := cF_view c8
  have hm1 : (cVs 1 M7 1 1).toInt = (cVs 1 M 1 1).toInt := by rw [b3.2.2.2.2.2 1 1 (by omega) (by omega)]
  have hcN : cN M M8 := cN_trans (cN_F hF6) (cN_trans (cN_O b4) (cN_F c8))
  have hz : sp_ch T n n = 0 := if_neg (by omega)
  have tk8 : fX0_takes 59 M8 = some (0, M8) := by
    rw [px_takes hn hT8 i8 (Nat.le_refl _) (by decide), hz, if_neg (by decide)]
  have tk5 : fX0_takes 59 M5 = some (1, xm_s M5 69 2 (nI (p + 1))) := by
    rw [px_takes hn hT5 i5 (by omega) (by decide), if_pos h59]
  have r6 : ∀ w, w < 3 → fX3_item 71 3 (nI w) (xm_s M5 69 2 (nI (p + 1))) = some (M5.1 71 w, xm_s M5 69 2 (nI (p + 1))) := fun w hw => by
    rw [px_item (px_kn hw (by omega)) (by omega), nI_clamp (by omega), pm_s, if_neg (by omega)]
  have ad6 : fX3_addRead (xm_s M5 69 2 (nI (p + 1))) = some (nI (N + 1), M7) := by
    unfold fX3_addRead
    have e0 := r6 0 (by omega)
    have e1 := r6 1 (by omega)
    have e2 := r6 2 (by omega)
    rw [px_n0, x5] at e0
    rw [px_n1, y5.1] at e1
    rw [px_n2, y5.2] at e2
    have s6 : (xm_s M5 69 2 (nI (p + 1))).1 69 3 = 0 := by rw [pm_s, if_neg (by omega)]; exact s5
    rw [e0, pb_i, s6, if_pos rfl, e1, pb_i, e2, pb_i, b1, pb_i]
  have r8 : fX3_item 71 3 0 M8 = some (nI m, M8) := by
    rw [px_item (px_kl (by decide)) (by decide), show (0 : Int32).toNatClampNeg = 0 from by decide, x8]
  have ec : ∀ k, k < 50 → ¬ (100 : Int32) ≤ nI k := fun k hk => by
    rw [show (100 : Int32) = nI 100 from rfl, nI_leI (by omega) (by omega)]
    omega
  have nn : ∀ k, k < 1000 → (0 : Int32) ≤ nI k := fun k hk => by
    rw [show (0 : Int32) = nI 0 from rfl, nI_leI (by omega) (by omega)]
    omega
  have start : fX3_load M = fX3_load_27 (fX3_load_27_it 4095) (nI 0) (nI 0) (xm_s M1 69 2 0) := by
    unfold fX3_load
    rw [f1, pb_i, if_pos rfl, pb_lt, pb_lt, pb_lt]
    rfl
  have two : fX3_load M = fX3_load_27 (fX3_load_27_it 4094) (nI 1) (nI 1) M7 := by
    rw [start]
    unfold fX3_load_27
    rw [if_neg (ec 0 (by omega)), hT4.1, if_neg (by rw [pm_s, if_pos ⟨rfl, rfl⟩, show (0 : Int32) = nI 0 from rfl, nI_leI (by omega) (by omega)]; omega), a1, pb_i, if_neg (by decide), tk5, pb_i, ad6, pb_i, if_pos (nn _ (by omega)), pb_lt, pb_lt, show nI 0 + Int32.ofInt 1 = nI 1 from (nI_succ 0).symm]
    rfl
  by_cases hmk : (m : Int) < (cVs 1 M 1 1).toInt
  · obtain ⟨M9, g1, g2, g3, g4⟩ := cm_addSight (M := M8) (n := N + 1) (k := m) (by rw [v8]; exact b2) (by rw [v8]; exact b3.1) (by omega) (by rw [v8, hm1]; exact hmk)
    rw [v8] at g3
    have ad8 : fX3_addRead M8 = some (nI (N + 1 + 1), M9) := by
      unfold fX3_addRead
      rw [r8, pb_i, s8, if_neg (by decide), g1, pb_i]
    have hT9 : M9.1 69 1 = nI n := (g4 69 1 (by omega)).trans hT8.1
    have i9 : M9.1 69 2 = nI n := (g4 69 2 (by omega)).trans i8
    refine ⟨cVs 1 M7, xm_s M9 69 1 0, ?_, b3, ?_, ?_, ?_, by rw [pm_s, if_pos ⟨rfl, rfl⟩]⟩
    · rw [two, if_pos hmk]
      unfold fX3_load_27
      rw [if_neg (ec 1 (by omega)), hT7.1, i7, if_neg (by rw [nI_leI (by omega) (by omega)]; omega), a8, pb_i, if_neg (by decide), tk8, pb_i, ad8, pb_i, if_pos (nn _ (by omega)), pb_lt, pb_lt, show nI 1 + Int32.ofInt 1 = nI 2 from (nI_succ 1).symm]
      show fX3_load_27 (fX3_load_27_it 4093) (nI 2) (nI 2) M9 = _
      unfold fX3_load_27 fX3_load_89
      rw [if_neg (ec 2 (by omega)), hT9, i9, if_pos (by rw [nI_leI (by omega) (by omega)]; omega), pb_lt]
      rfl
    · rw [cVs_s69]; exact g2
    · rw [if_pos hmk, cVs_s69]
      exact g3
    · exact cN_trans hcN (cN_trans (cN_O g4) cN_s69)
  · have ad8 : fX3_addRead M8 = some (-1, M8) := by
      unfold fX3_addRead
      rw [r8, pb_i, s8, if_neg (by decide), cm_addSightF (by rw [v8]; exact b2) (by rw [v8, hm1, nI_toInt (by omega)]; omega), pb_i]
    refine ⟨cVs 1 M7, xm_s M8 69 1 0, ?_, b3, ?_, ?_, ?_, by rw [pm_s, if_pos ⟨rfl, rfl⟩]⟩
    · rw [two, if_neg hmk]
      unfold fX3_load_27 fX3_load_89
      rw [if_neg (ec 1 (by omega)), hT7.1, i7, if_neg (by rw [nI_leI (by omega) (by omega)]; omega), a8, pb_i, if_neg (by decide), tk8, pb_i, ad8, pb_i, if_neg (by decide), pb_lt]
      rfl
    · rw [cVs_s69, v8]; exact b2
    · rw [if_neg hmk, cVs_s69, v8]
    · exact cN_trans hcN cN_s69
/-! the two words, the text that they make -/
def tk1 (l r : Nat) : Int64 := ((((((12666373951979520 : Int64) ||| ((((48 : Int32) + nI l).toInt64) <<< ((40 : Int32).toInt64 &&& 63))) ||| (188978561024 : Int64)) ||| (822083584 : Int64)) ||| ((((48 : Int32) + nI r).toInt64) <<< ((16 : Int32).toInt64 &&& 63))) ||| (11264 : Int64)) ||| (45 : Int64)
def tk2 (t m : Nat) : Int64 := ((((244813135872 : Int64) ||| ((((48 : Int32) + nI t).toInt64) <<< ((24 : Int32).toInt64 &&& 63))) ||| (3866624 : Int64)) ||| (27904 : Int64)) ||| (((48 : Int32) + nI m).toInt64)
theorem tk1_s : ∀ l, l < 10 → ∀ r, r < 10 → sgF 9 0 (tk1 l r) = nI 7 ∧ sgB (tk1 l r) 6 = 45 ∧ sgB (tk1 l r) 5 = nI (48 + l) ∧ sgB (tk1 l r) 4 = 44 ∧ sgB (tk1 l r) 3 = 49 ∧ sgB (tk1 l r) 2 = nI (48 + r) ∧ sgB (tk1 l r) 1 = 44 ∧ sgB (tk1 l r) 0 = 45 := by decide +kernel
theorem tk2_s : ∀ t, t < 10 → ∀ m, m < 6 → sgF 9 0 (tk2 t m) = nI 5 ∧ sgB (tk2 t m) 4 = 57 ∧ sgB (tk2 t m) 3 = nI (48 + t) ∧ sgB (tk2 t m) 2 = 59 ∧ sgB (tk2 t m) 1 = 109 ∧ sgB (tk2 t m) 0 = nI (48 + m) := by decide +kernel
/-- the text -/
def tkT (l r t m : Nat) (j : Nat) : Int32 := match j with | 0 => 45 | 1 => nI (48 + l) | 2 => 44 | 3 => 49 | 4 => nI (48 + r) | 5 => 44 | 6 => 45 | 7 => 57 | 8 => nI (48 + t) | 9 => 59 | 10 => 109 | _ => nI (48 + m)
theorem tk_d {d : Nat} (hd : d < 10) : ((48 : Int32) ≤ nI (48 + d) ∧ nI (48 + d) ≤ 57) ∧ nI (48 + d) - 48 = nI d := by
  refine ⟨⟨?_, ?_⟩, ?_⟩
  · rw [show (48 : Int32) = nI 48 from rfl, nI_leI (by omega) (by omega)]; omega
  · rw [show (57 : Int32) = nI 57 from rfl, nI_leI (by omega) (by omega)]; omega
  · rw [← pi_add, Int32.add_comm, show nI 48 = 48 from rfl, Int32.add_sub_cancel]
theorem sp_nl_s (T : Nat → Int32) (n : Nat) (most : Int32) (f : Nat) (v : Int32) (i : Nat) : sp_nl T n most (f + 1) v i = if 0 < v ∧ 48 ≤ sp_ch T n i ∧ sp_ch T n i ≤ 57 ∧ 10 * v + (sp_ch T n i - 48) ≤ most then sp_nl T n most f (10 * v + (sp_ch T n i - 48)) (i + 1) else (v, i) := rfl
theorem tk_n1 {T : Nat → Int32} {n i d : Nat} {most : Int32} (hd : d < 10) (h1 : sp_ch T n i = nI (48 + d)) (h2 : ¬ (48 ≤ sp_ch T n (i + 1) ∧ sp_ch T n (i + 1) ≤ 57)) (hm : nI d ≤ most) : sp_num T n most i = (some (nI d), i + 1) := by
  obtain ⟨a, b⟩ := tk_d hd
  unfold sp_num
  rw [h1, b, if_pos ⟨a.1, a.2, hm⟩, sp_nl_s T n most 127, if_neg (fun z => h2 ⟨z.2.1, z.2.2.1⟩)]
theorem tk_n2 {T : Nat → Int32} {n i c d : Nat} {most : Int32} (hc0 : 0 < c) (hc : c < 10) (hd : d < 10) (h0 : sp_ch T n i = nI (48 + c)) (h1 : sp_ch T n (i + 1) = nI (48 + d)) (h2 : ¬ (48 ≤ sp_ch T n (i + 2) ∧ sp_ch T n (i + 2) ≤ 57)) (hm0 : nI c ≤ most) (hm : nI (10 * c + d) ≤ most) : sp_num T n most i = (some (nI (10 * c + d)), i + 2) := by
  obtain ⟨a, b⟩ := tk_d hd
  obtain ⟨a0, b0⟩ := tk_d hc
  have e : (10 : Int32) * nI c + nI d = nI (10 * c + d) := by rw [show (10 : Int32) = nI 10 from rfl, pi_mul, pi_add]
  have g : (0 : Int32) < nI c := by rw [Int32.lt_iff_toInt_lt, nI_toInt (by omega)]; show (0 : Int) < _; omega
  unfold sp_num
  rw [h0, b0, if_pos ⟨a0.1, a0.2, hm0⟩, sp_nl_s T n most 127, h1, b, e, if_pos ⟨g, a.1, a.2, hm⟩, sp_nl_s T n most 126, if_neg (fun z => h2 ⟨z.2.1, z.2.2.1⟩)]
theorem tk_le {a b : Nat} {c : Int32} (hc : c = nI b) (h : a ≤ b) (hb : b < 1000000) : nI a ≤ c := by rw [hc, nI_leI (by omega) (by omega)]; exact h
theorem sp_bnd_s {v : Int32} {p : Nat} {k : Int32 → Nat → sE} : sp_bnd (some v, p) k = k v p := rfl
theorem sp_bnd_n {p : Nat} {k : Int32 → Nat → sE} : sp_bnd (none, p) k = (none, p) := rfl
theorem tkc {l r t m n i : Nat} (h : i < n) : sp_ch (tkT l r t m) n i = tkT l r t m i := if_pos h
theorem tkd44 : ¬ ((48 : Int32) ≤ 44 ∧ (44 : Int32) ≤ 57) := by decide
theorem tkd59 : ¬ ((48 : Int32) ≤ 59 ∧ (59 : Int32) ≤ 57) := by decide
theorem tkd0 : ¬ ((48 : Int32) ≤ 0 ∧ (0 : Int32) ≤ 57) := by decide
theorem tk_T0 (l r t m : Nat) : tkT l r t m 0 = 45 := rfl
theorem tk_T1 (l r t m : Nat) : tkT l r t m 1 = nI (48 + l) := rfl
theorem tk_T2 (l r t m : Nat) : tkT l r t m 2 = 44 := rfl
theorem tk_T3 (l r t m : Nat) : tkT l r t m 3 = nI (48 + 1) := rfl
theorem tk_T4 (l r t m : Nat) : tkT l r t m 4 = nI (48 + r) := rfl
theorem tk_T5 (l r t m : Nat) : tkT l r t m 5 = 44 := rfl
theorem tk_T6 (l r t m : Nat) : tkT l r t m 6 = 45 := rfl
theorem tk_T7 (l r t m : Nat) : tkT l r t m 7 = nI (48 + 9) := rfl
theorem tk_T8 (l r t m : Nat) : tkT l r t m 8 = nI (48 + t) := rfl
theorem tk_T9 (l r t m : Nat) : tkT l r t m 9 = 59 := rfl
theorem tk_T10 (l r t m : Nat) : tkT l r t m 10 = 109 := rfl
theorem tk_T11 (l r t m : Nat) : tkT l r t m 11 = nI (48 + m) := rfl
theorem tk_i300 : (300 : Int32) = nI 300 := rfl
theorem tk_i3e5 : (300000 : Int32) = nI 300000 := rfl
theorem tk_i5 : (5 : Int32) = nI 5 := rfl
section TK
variable {l r t m n : Nat}
theorem tk_a1 (hl : l < 10) (hn : 6 < n) : sp_num (tkT l r t m) n 300 1 = (some (nI l), 2) := tk_n1 (i := 1) hl ((tkc (by omega)).trans (tk_T1 l r t m)) (by rw [tkc (show 1 + 1 < n by omega), tk_T2]; exact tkd44) (tk_le (b := 300) tk_i300 (by omega) (by omega))
theorem tk_a3 (hr : r < 10) (hn : 6 < n) : sp_num (tkT l r t m) n 300 3 = (some (nI (10 + r)), 5) := by
  have h := tk_n2 (T := tkT l r t m) (n := n) (most := 300) (c := 1) (d := r) (i := 3) (by omega) (by omega) hr ((tkc (by omega)).trans (tk_T3 l r t m)) ((tkc (by omega)).trans (tk_T4 l r t m)) (by rw [tkc (show 3 + 2 < n by omega), tk_T5]; exact tkd44) (tk_le (b := 300) tk_i300 (by omega) (by omega)) (tk_le (b := 300) tk_i300 (by omega) (by omega))
  rw [show 10 * 1 + r = 10 + r by omega] at h
  exact h
theorem tk_a7 (ht : t < 10) (hn : 9 < n) : sp_num (tkT l r t m) n 300000 7 = (some (nI (90 + t)), 9) := by
  have h := tk_n2 (T := tkT l r t m) (n := n) (most := 300000) (c := 9) (d := t) (i := 7) (by omega) (by omega) ht ((tkc (by omega)).trans (tk_T7 l r t m)) ((tkc (by omega)).trans (tk_T8 l r t m)) (by rw [tkc (show 7 + 2 < n by omega), tk_T9]; exact tkd59) (tk_le (b := 300000) tk_i3e5 (by omega) (by omega)) (tk_le (b := 300000) tk_i3e5 (by omega) (by omega))
  rw [show 10 * 9 + t = 90 + t by omega] at h
  exact h
theorem tk_z7 : sp_num (tkT l r t m) 7 300000 7 = (none, 7) := by
  have e : sp_ch (tkT l r t m) 7 7 = 0 := if_neg (by omega)
  unfold sp_num
  rw [e, if_neg (show ¬ ((48 : Int32) ≤ 0 ∧ (0 : Int32) ≤ 57 ∧ (0 : Int32) - 48 ≤ 300000) by decide)]
theorem sp_int_n {T : Nat → Int32} {n i p : Nat} {most v : Int32} (h : sp_ch T n i = 45) (e : sp_num T n most (i + 1) = (some v, p)) : sp_int T n most i = (some (-v), p) := by
  unfold sp_int
  rw [if_pos h, e]
  rfl
theorem sp_int_0 {T : Nat → Int32} {n i p : Nat} {most : Int32} (h : sp_ch T n i = 45) (e : sp_num T n most (i + 1) = (none, p)) : sp_int T n most i = (none, p) := by
  unfold sp_int
  rw [if_pos h, e]
  rfl
theorem sp_int_p {T : Nat → Int32} {n i p : Nat} {most v : Int32} (h : ¬ sp_ch T n i = 45) (e : sp_num T n most i = (some v, p)) : sp_int T n most i = (some v, p) := by
  unfold sp_int
  rw [if_neg h, e]
/-- a step's text, piece by piece -/
theorem sp_ent_s {T : Nat → Int32} {n i p q : Nat} {a b : Int32} (h0 : ¬ sp_ch T n i = 109) (h1 : sp_int T n 300 i = (some a, p)) (h2 : sp_ch T n p = 44) (h3 : sp_int T n 300 (p + 1) = (some b, q)) (h4 : sp_ch T n q = 44) : sp_ent T n i = sp_bnd (sp_int T n 300000 (q + 1)) (fun t p => (some (0, a, b, t), p)) := by
  unfold sp_ent
  rw [if_neg h0, h1]
  show (if sp_ch T n p = 44 then sp_bnd (sp_int T n 300 (p + 1)) (fun b p => if sp_ch T n p = 44 then sp_bnd (sp_int T n 300000 (p + 1)) (fun t p => (some (0, a, b, t), p)) else (none, p)) else (none, p)) = _
  rw [if_pos h2, h3]
  show (if sp_ch T n q = 44 then sp_bnd (sp_int T n 300000 (q + 1)) (fun t p => (some (0, a, b, t), p)) else (none, q)) = _
  rw [if_pos h4]
theorem tk_1 (hl : l < 10) (hr : r < 10) : sp_ent (tkT l r t m) 7 0 = (none, 7) := by
  rw [sp_ent_s (a := -nI l) (b := nI (10 + r)) (p := 2) (q := 5) (by rw [tkc (by omega), tk_T0]; decide) (sp_int_n (by rw [tkc (by omega), tk_T0]) (tk_a1 hl (by omega))) (by rw [tkc (by omega), tk_T2]) (sp_int_p (by rw [tkc (by omega), tk_T3]; decide) (tk_a3 hr (by omega))) (by rw [tkc (by omega), tk_T5]), sp_int_0 (p := 7) (by rw [tkc (by omega), tk_T6]) tk_z7]
  rfl
theorem tk_2 (hl : l < 10) (hr : r < 10) (ht : t < 10) : sp_ent (tkT l r t m) 12 0 = (some (0, -nI l, nI (10 + r), -nI (90 + t)), 9) := by
  rw [sp_ent_s (a := -nI l) (b := nI (10 + r)) (p := 2) (q := 5) (by rw [tkc (by omega), tk_T0]; decide) (sp_int_n (by rw [tkc (by omega), tk_T0]) (tk_a1 hl (by omega))) (by rw [tkc (by omega), tk_T2]) (sp_int_p (by rw [tkc (by omega), tk_T3]; decide) (tk_a3 hr (by omega))) (by rw [tkc (by omega), tk_T5]), sp_int_n (v := nI (90 + t)) (p := 9) (by rw [tkc (by omega), tk_T6]) (tk_a7 ht (by omega))]
  rfl
theorem tk_3 (hm : m < 6) : sp_ent (tkT l r t m) 12 10 = (some (1, nI m, 0, 0), 12) := by
  have e12 : sp_ch (tkT l r t m) 12 (11 + 1) = 0 := if_neg (by omega)
  have n1 : sp_num (tkT l r t m) 12 5 11 = (some (nI m), 11 + 1) := tk_n1 (by omega) ((tkc (by omega)).trans (tk_T11 l r t m)) (by rw [e12]; exact tkd0) (tk_le (b := 5) tk_i5 (by omega) (by omega))
  unfold sp_ent
  rw [if_pos (by rw [tkc (by omega), tk_T10]), n1]
  rfl
end TK
