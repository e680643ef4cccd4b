/-! THE LAW: settings tried, and set -/
theorem lw_tried10 {V : sV} {n : Nat} (a1 : Int32) (hS : cS V n) : ∀ (q j : Nat) (M : xm_M), j ≤ 9 → 9 - j < q → cVs 1 M = V → qA (fun M' => cVs 1 M' = V) (fL_tried_10_it q a1 (nI n - 1) (nI j) M) 1 := by
  have hn := hS.2.2
  intro q
  induction q with
  | zero => intro j _ _ h; omega
  | succ q ih =>
    intro j M hj hq hv
    show qA _ (fL_tried_10 (fL_tried_10_it q) a1 (nI n - 1) (nI j) M) 1
    have hS0 : cS (cVs 1 M) n := by rw [hv]; exact hS
    unfold fL_tried_10
    have e9 : ((9 : Int32) ≤ nI j) = (9 ≤ j) := propext (nI_leI (a := 9) (by omega) (by omega))
    simp only [e9]
    by_cases h9 : 9 ≤ j
    · rw [if_pos h9]; exact qr hv
    · rw [if_neg h9]
      have hj9 : j < 9 := by omega
      obtain ⟨u, hu, u1, u2⟩ := lw_value hj9 (a1 >>> (nI j &&& 31)) M
      refine qp hu ?_
      refine qb (ca_ifSet (w := 0) hS0 (cJ_refl M) hj9 u1 u2 (by omega)) (fun M1 hJ => ?_)
      refine qb (ca_ifSet (w := 1) hS0 hJ hj9 u1 u2 (by omega)) (fun M1 hJ => ?_)
      refine qb (ca_ifSet (w := 2) hS0 hJ hj9 u1 u2 (by omega)) (fun M1 hJ => ?_)
      refine qb (ca_ifSet (w := 3) hS0 hJ hj9 u1 u2 (by omega)) (fun M1 hJ => ?_)
      refine qb (ca_ifSet (w := 4) hS0 hJ hj9 u1 u2 (by omega)) (fun M1 hJ => ?_)
      have hv1 : cVs 1 M1 = V := (cJ_view hJ).trans hv
      refine qm (cm_setOk (M := M1) hj9 u1 u2) (fun M2 hM2 => ?_)
      obtain ⟨v2, _⟩ := hM2
      rw [hv1] at v2 ⊢
      rw [hv]
      have hok2 : sp_ok (cVs 1 M2) := by rw [v2]; exact sp_ok_try hS.1 u1 u2
      have hS2 : cS (cVs 1 M2) n := ⟨hok2, by rw [v2, sp_try_r (by omega)]; exact hS.2.1, hn⟩
      rw [← v2]
      refine qb (ca_pose (c := n) (w := 0) hS2 (cJ_refl M2) (Nat.le_refl _) (by omega)) (fun M3 hJ => ?_)
      refine qt rfl ?_
      refine qb (ca_pose (c := n) (w := 1) hS2 hJ (Nat.le_refl _) (by omega)) (fun M3 hJ => ?_)
      refine qt rfl ?_
      refine qb (ca_pose (c := n) (w := 2) hS2 hJ (Nat.le_refl _) (by omega)) (fun M3 hJ => ?_)
      refine qt rfl ?_
      refine qb (ca_c3 hS2 hJ) (fun M3 hJ => ?_)
      refine qb (ca_c4 hS2 hJ) (fun M3 hJ => ?_)
      refine qt rfl ?_
      refine qb (ca_count7 hS2 hJ) (fun M3 hJ => ?_)
      refine qt rfl ?_
      unfold fL_tried_149
      refine qf (by decide) ?_
      have r9 := ((sp_ok_iff V).mp hS.1).1 j hj9
      have hv3 : cVs 1 M3 = sp_try V j u := (cJ_view hJ).trans v2
      have hset := cm_setOk (M := M3) (j := j) (v := V 0 j) hj9 r9.1 r9.2
      rw [hv3, sp_try_back, sp_try_0, if_pos rfl] at hset
      refine qm hset (fun M4 hM4 => ?_)
      obtain ⟨v4, _⟩ := hM4
      refine qt rfl ?_
      rw [show (12 : Int32) + nI j = nI (12 + j) from by rw [show (12 : Int32) = nI 12 from rfl, pi_add]]
      refine qb (qe (ca_countV (j := j) (cJ_refl M4) hj9) (by rw [v4])) (fun M5 hJ => ?_)
      refine qt rfl (ql ?_)
      rw [show nI j + Int32.ofInt 1 = nI (j + 1) from (nI_succ j).symm]
      exact ih (j + 1) M5 (by omega) (by omega) ((cJ_view hJ).trans v4)
theorem lw_tried {n : Nat} {M0 : xm_M} (a1 : Int32) (h : lwS n M0) : qA (lwS n) (fL_tried a1 M0) 1 := by
  refine qw (I := fun M' => cVs 1 M' = cVs 1 M0) ?_ (fun M hM => by unfold lwS; rw [hM]; exact h)
  unfold fL_tried
  refine qb (ca_count0 h.1 (cJ_refl M0)) (fun M hJ => ?_)
  exact ql (ql (lw_tried10 a1 h.1 xm_N 0 M (by omega) (by show 9 - 0 < 4096; omega) (cJ_view hJ)))
/-! the errors' range -/
theorem pn_absle {d c : Int32} (hd : -1200000 ≤ d.toInt ∧ d.toInt ≤ 1200000) (hc : c.toInt.natAbs ≤ 1000000) : ((d.toInt64 * c.toInt64 / 1000000).toInt32).toInt.natAbs ≤ 1200000 := by
  rw [(pn_mil hd hc).2]
  have e4 : d.toInt.natAbs * c.toInt.natAbs ≤ 1200000 * 1000000 := Nat.mul_le_mul (by omega) hc
  exact Nat.div_le_of_le_mul (by rw [Nat.mul_comm 1000000]; exact e4)
theorem pn_1000 {m : Int32} (h1 : -100000 ≤ m.toInt) (h2 : m.toInt ≤ 100000) : -100000000 ≤ (1000 * m).toInt ∧ (1000 * m).toInt ≤ 100000000 := by
  have c : (1000 : Int32).toInt = 1000 := rfl
  rw [pn_mul (by rw [c]; omega) (by rw [c]; omega), c]
  omega
theorem pn_grow {x d : Int32} {e : Nat} (h1 : -100000000 - 1200000 * (e : Int) ≤ x.toInt) (h2 : x.toInt ≤ 100000000 + 1200000 * (e : Int)) (he : e < 120) (hd : d.toInt.natAbs ≤ 1200000) : -100000000 - 1200000 * ((e + 1 : Nat) : Int) ≤ (x + d).toInt ∧ (x + d).toInt ≤ 100000000 + 1200000 * ((e + 1 : Nat) : Int) := by
  rw [pn_add (by omega) (by omega)]
  omega
theorem sp_sc_le (a : Int32) (h : 0 ≤ a.toInt ∧ a.toInt < 36000) : (sp_cos a).toInt.natAbs ≤ 1000000 ∧ (sp_sin a).toInt.natAbs ≤ 1000000 := by
  obtain ⟨k, hk, hk1, hk2, _⟩ := pn_ofI (n := 35999) h.1 (lw_359 h.2)
  have kk : k < 36000 := Nat.lt_succ_of_le hk
  rw [sp_cos_nat hk2 kk, sp_sin_nat hk2 kk]
  exact ⟨sg_leA (Nat.mod_lt _ (by decide)), sg_leA kk⟩
theorem sp_marks {V : sV} {n e : Nat} (hS : cS V n) (he : e < n) (h : 0 ≤ V 9 e) : (-100000000 ≤ (sp_mx V e).toInt ∧ (sp_mx V e).toInt ≤ 100000000) ∧ -100000000 ≤ (sp_my V e).toInt ∧ (sp_my V e).toInt ≤ 100000000 := by
  obtain ⟨ho, hn, hn2⟩ := hS
  have hN : (V 1 2).toInt = (n : Int) := by rw [hn, nI_toInt (by omega)]
  have rl := ho.2.2.2.2.2.2.2.2.2.2.2.2.2.2.2.2.2 e (by omega)
  have rm := ho.2.2.2.2.2.2.2.2.2.2.2.2.2.2.2.2.1
  have h9 : (V 9 e).toNatClampNeg = (V 9 e).toInt.toNat := rfl
  have hs := (pn_nn _).mp h
  rcases rl with z | z
  · rw [z.1] at hs; exact absurd hs (by decide)
  · have a7 := rm (V 9 e).toNatClampNeg (by omega) 7 (by omega) (by omega)
    have a8 := rm (V 9 e).toNatClampNeg (by omega) 8 (by omega) (by omega)
    exact ⟨pn_1000 a7.1 a7.2, pn_1000 a8.1 a8.2⟩
theorem sp_P_xy {V : sV} {n : Nat} (hS : cS V n) : ∀ e, e ≤ n → (-100000000 - 1200000 * (e : Int) ≤ (sp_P V e).1.toInt ∧ (sp_P V e).1.toInt ≤ 100000000 + 1200000 * (e : Int)) ∧ -100000000 - 1200000 * (e : Int) ≤ (sp_P V e).2.1.toInt ∧ (sp_P V e).2.1.toInt ≤ 100000000 + 1200000 * (e : Int) := by
  have hn := hS.2.2
  intro e
  induction e with
  | zero =>
    intro _
    have a3 := hS.1.2.2.2.2.2.2.2.2.2.2.2.2.1
    have a4 := hS.1.2.2.2.2.2.2.2.2.2.2.2.2.2.1
    have b3 := pn_1000 a3.1 a3.2
    have b4 := pn_1000 a4.1 a4.2
    show (_ ≤ (1000 * V 1 3).toInt ∧ (1000 * V 1 3).toInt ≤ _) ∧ _ ≤ (1000 * V 1 4).toInt ∧ (1000 * V 1 4).toInt ≤ _
    omega
  | succ e ih =>
    intro he
    obtain ⟨⟨i1, i2⟩, i3, i4⟩ := ih (by omega)
    by_cases hs : 0 ≤ V 9 e
    · have hm := sp_marks hS (show e < n by omega) hs
      rw [(sp_sight hs).1]
      show (_ ≤ (sp_mx V e).toInt ∧ (sp_mx V e).toInt ≤ _) ∧ _ ≤ (sp_my V e).toInt ∧ (sp_my V e).toInt ≤ _
      omega
    · by_cases h0 : V 10 e = 0 ∧ V 11 e = 0
      · rw [(sp_stand hs h0).1]
        show (_ ≤ (sp_P V e).1.toInt ∧ (sp_P V e).1.toInt ≤ _) ∧ _ ≤ (sp_P V e).2.1.toInt ∧ (sp_P V e).2.1.toInt ≤ _
        omega
      · obtain ⟨_, ⟨x1, x2, _, _⟩, _⟩ := sp_go hs h0
        obtain ⟨⟨r10, r11, r12⟩, rb⟩ := sp_ranges hS (show e < n by omega) hs
        obtain ⟨q0, q1, q2, q3, q4, _⟩ := id hS.1
        have eA : (sp_A V e).toInt = (V 0 0).toInt * (V 10 e).toInt ∧ -(2000 * 300) ≤ (V 0 0).toInt * (V 10 e).toInt ∧ (V 0 0).toInt * (V 10 e).toInt ≤ 2000 * 300 := pn_m64 (a := 2000) (b := 300) (by omega) (by omega) (by omega) (by omega) (by omega)
        have eB : (sp_B V e).toInt = (V 0 1).toInt * (V 11 e).toInt ∧ -(2000 * 300) ≤ (V 0 1).toInt * (V 11 e).toInt ∧ (V 0 1).toInt * (V 11 e).toInt ≤ 2000 * 300 := pn_m64 (a := 2000) (b := 300) (by omega) (by omega) (by omega) (by omega) (by omega)
        have hD : -1200000 ≤ (sp_Dd V e (sp_P V e).2.2.2.2).toInt ∧ (sp_Dd V e (sp_P V e).2.2.2.2).toInt ≤ 1200000 := (sp_d64 (sl := V 0 3) (ba := V 0 2) (a := sp_A V e) (b := sp_B V e) (w := sp_stepW V e) (v := sp_v (sp_P V e).2.2.2.2 (V 12 e)) q2 (by omega) (by omega) (sp_v_in rb r12)).2
        rw [x1, x2]
        unfold sp_X sp_Y sp_dx sp_dy
        have ha := sp_ang_in (sp_P V e).2.2.1 (sp_T V e (sp_P V e).2.2.2.2)
        generalize sp_ang (sp_P V e).2.2.1 (sp_T V e (sp_P V e).2.2.2.2) = ang at ha
        generalize sp_Dd V e (sp_P V e).2.2.2.2 = D at hD
        obtain ⟨c1, c2⟩ := sp_sc_le ang ha
        have d1 := pn_absle hD c1
        have d2 := pn_absle hD c2
        clear eA eB
        exact ⟨pn_grow i1 i2 (by omega) d1, pn_grow i3 i4 (by omega) d2⟩
theorem pn_err {x m : Int32} {e : Nat} (h1 : -100000000 - 1200000 * (e : Int) ≤ x.toInt) (h2 : x.toInt ≤ 100000000 + 1200000 * (e : Int)) (he : e ≤ 120) (hm : -100000000 ≤ m.toInt) (hm2 : m.toInt ≤ 100000000) : 0 ≤ (sp_ab32 (x - m)).toInt ∧ (sp_ab32 (x - m)).toInt ≤ 400000000 := by
  have e1 : (x - m).toInt = x.toInt - m.toInt := pn_sub (by omega) (by omega)
  rw [sp_ab32_int (by rw [e1]; omega), e1]
  omega
theorem sp_E_in {V : sV} {n : Nat} (hS : cS V n) : ∀ e, e ≤ n → 0 ≤ (sp_E V e).toInt ∧ (sp_E V e).toInt ≤ 800000000 * (e : Int) := by
  have hn := hS.2.2
  intro e
  induction e with
  | zero => intro _; exact ⟨Int.le_refl _, Int.le_refl _⟩
  | succ e ih =>
    intro he
    have hi := ih (by omega)
    show 0 ≤ (sp_E V e + (if sp_F V e 0 = 4 then (sp_ab32 (sp_F V e 9)).toInt64 + (sp_ab32 (sp_F V e 10)).toInt64 else 0)).toInt ∧ (sp_E V e + (if sp_F V e 0 = 4 then (sp_ab32 (sp_F V e 9)).toInt64 + (sp_ab32 (sp_F V e 10)).toInt64 else 0)).toInt ≤ _
    by_cases h4 : sp_F V e 0 = 4
    · have hs := (sp_is4 hS.1 e).mp h4
      rw [if_pos h4]
      obtain ⟨⟨i1, i2⟩, i3, i4⟩ := sp_P_xy hS e (by omega)
      obtain ⟨⟨m1, m2⟩, m3, m4⟩ := sp_marks hS (show e < n by omega) hs
      have f9 : sp_F V e 9 = (sp_P V e).1 - sp_mx V e := by rw [(sp_sight hs).2]; rfl
      have f10 : sp_F V e 10 = (sp_P V e).2.1 - sp_my V e := by rw [(sp_sight hs).2]; rfl
      rw [f9, f10]
      have a1 := pn_err i1 i2 (by omega) m1 m2
      have a2 := pn_err i3 i4 (by omega) m3 m4
      generalize sp_ab32 ((sp_P V e).1 - sp_mx V e) = A at a1
      generalize sp_ab32 ((sp_P V e).2.1 - sp_my V e) = B at a2
      generalize sp_E V e = X at hi
      clear i1 i2 i3 i4 m1 m2 m3 m4 f9 f10
      have s1 : (A.toInt64 + B.toInt64).toInt = A.toInt + B.toInt := by rw [pn_add64 (by rw [pn_i64, pn_i64]; omega) (by rw [pn_i64, pn_i64]; omega), pn_i64, pn_i64]
      rw [pn_add64 (by rw [s1]; omega) (by rw [s1]; omega), s1]
      omega
    · rw [if_neg h4, Int64.add_zero]
      omega
theorem sp_told_int {x : Int64} (h : 0 ≤ x.toInt) : (sp_told x).toInt = if x.toInt ≤ 2000000000 then x.toInt else 2000000000 := by
  unfold sp_told
  have z : (x ≤ 2000000000) = (x.toInt ≤ 2000000000) := propext (by rw [Int64.le_iff_toInt_le]; exact Iff.rfl)
  simp only [z]
  by_cases y : x.toInt ≤ 2000000000
  · rw [if_pos y, if_pos y, pn_l2i (by omega) (by omega)]
  · rw [if_neg y, if_neg y]; rfl
/-- what is told keeps the order; where less is told than the most, it's the same -/
theorem sp_told_le {x y : Int64} (hx : 0 ≤ x.toInt) (hy : 0 ≤ y.toInt) (h : x ≤ y) : ¬ sp_told y < sp_told x ∧ (sp_told y = sp_told x → ¬ (2000000000 : Int32) ≤ sp_told x → y = x) := by
  have h2 := Int64.le_iff_toInt_le.mp h
  have tx := sp_told_int hx
  have ty := sp_told_int hy
  have c : (2000000000 : Int32).toInt = 2000000000 := rfl
  constructor
  · rw [Int32.lt_iff_toInt_lt, tx, ty]
    split <;> split <;> omega
  · intro e z
    rw [Int32.le_iff_toInt_le, c, tx] at z
    have e2 := congrArg Int32.toInt e
    rw [tx, ty] at e2
    apply Int64.toInt_inj.mp
    split at z <;> split at e2 <;> omega
