/-! THE LAW: goes, walked -/
theorem sp_P_h {V : sV} (ho : sp_ok V) : ∀ e, 0 ≤ (sp_P V e).2.2.1.toInt ∧ (sp_P V e).2.2.1.toInt < 3600000 := by
  intro e
  induction e with
  | zero => exact ho.2.2.2.2.2.2.2.2.2.2.2.2.2.2.1
  | succ e ih =>
    by_cases hs : 0 ≤ V 9 e
    · rw [(sp_sight hs).1]; exact ih
    · by_cases h0 : V 10 e = 0 ∧ V 11 e = 0
      · rw [(sp_stand hs h0).1]; exact ih
      · obtain ⟨_, _, gc⟩ := sp_go hs h0
        rcases gc with ⟨_, _, g⟩ | ⟨c, _, _, _, _, g⟩
        · rw [g]; exact sp_head_in _
        · rw [g]; exact sp_head_in _
/-- a product, a millionth of it -/
theorem pn_mil {d c : Int32} (hd : -1200000 ≤ d.toInt ∧ d.toInt ≤ 1200000) (hc : c.toInt.natAbs ≤ 1000000) : ((d.toInt64 * c.toInt64 / 1000000).toInt32).toInt64 = d.toInt64 * c.toInt64 / 1000000 ∧ ((d.toInt64 * c.toInt64 / 1000000).toInt32).toInt.natAbs = d.toInt.natAbs * c.toInt.natAbs / 1000000 := by
  have m := pn_mulb (x := d.toInt) (y := c.toInt) (a := 1200000) (b := 1000000) hd.1 hd.2 (by omega) (by omega)
  have e1 : (d.toInt64 * c.toInt64).toInt = d.toInt * c.toInt := by rw [pn_mul64 (by rw [pn_i64, pn_i64]; omega) (by rw [pn_i64, pn_i64]; omega), pn_i64, pn_i64]
  have e2 : (d.toInt64 * c.toInt64 / 1000000).toInt = (d.toInt * c.toInt).tdiv 1000000 := by
    rw [pn_div64 (y := 1000000) (by decide), e1]
    rfl
  have e3 : ((d.toInt * c.toInt).tdiv 1000000).natAbs = d.toInt.natAbs * c.toInt.natAbs / 1000000 := by
    rw [Int.natAbs_tdiv, Int.natAbs_mul]
    rfl
  have e4 : d.toInt.natAbs * c.toInt.natAbs ≤ 1200000 * 1000000 := Nat.mul_le_mul (by omega) hc
  have e5 : d.toInt.natAbs * c.toInt.natAbs / 1000000 ≤ 1200000 := Nat.div_le_of_le_mul (by rw [Nat.mul_comm 1000000]; exact e4)
  rw [← e3] at e5
  refine ⟨pn_64 (by rw [e2]; omega) (by rw [e2]; omega), ?_⟩
  rw [pn_l2i (by rw [e2]; omega) (by rw [e2]; omega), e2, e3]
theorem sg_leA {k : Nat} (hk : k < 36000) : sgA k ≤ 1000000 := by
  unfold sgA
  split
  · exact sg_le (by omega)
  · exact sg_le (by omega)
theorem pn_sq (x : Int32) : (x.toInt64 * x.toInt64).toInt = ((x.toInt.natAbs * x.toInt.natAbs : Nat) : Int) := by
  have h1 := Int32.le_toInt x
  have h2 := Int32.toInt_lt x
  have m := pn_mulb (x := x.toInt) (y := x.toInt) (a := 2147483648) (b := 2147483648) (by omega) (by omega) (by omega) (by omega)
  rw [pn_mul64 (by rw [pn_i64]; omega) (by rw [pn_i64]; omega), pn_i64, ← Int.natAbs_mul_self]
/-- the last check, in whole numbers -/
theorem lw_far {dx dy d : Int32} {p q a : Nat} (hp : dx.toInt.natAbs = p) (hq : dy.toInt.natAbs = q) (hd : d.toInt.natAbs = a) (ha : a ≤ 1200000) (h : p * p + q * q ≤ a * a + a * a / 100) : ¬ 0 < lg_cmp (dx.toInt64 * dx.toInt64 + dy.toInt64 * dy.toInt64) (((d.toInt64 * d.toInt64 + d.toInt64 * d.toInt64 / 100) + 4 * (sp_ab32 d).toInt64) + 4) := by
  have e1 := pn_sq dx
  have e2 := pn_sq dy
  have e3 := pn_sq d
  rw [hp] at e1
  rw [hq] at e2
  rw [hd] at e3
  have hs : (sp_ab32 d).toInt = (a : Int) := by rw [sp_ab32_int (by omega), hd]
  have ha2 : a * a ≤ 1200000 * 1200000 := Nat.mul_le_mul ha ha
  have e4 : (d.toInt64 * d.toInt64 / 100).toInt = ((a * a / 100 : Nat) : Int) := by
    rw [pn_div64 (y := 100) (by decide), e3, show (100 : Int64).toInt = 100 from rfl, Int.tdiv_eq_ediv_of_nonneg (Int.natCast_nonneg _), Int.natCast_ediv]
    rfl
  have c4 : (4 : Int64).toInt = 4 := rfl
  have hq2 : a * a / 100 ≤ a * a := Nat.div_le_self _ _
  generalize dx.toInt64 * dx.toInt64 = X at e1
  generalize dy.toInt64 * dy.toInt64 = Y at e2
  generalize d.toInt64 * d.toInt64 / 100 = Z at e4
  generalize d.toInt64 * d.toInt64 = D at e3
  generalize a * a / 100 = R at e4 h hq2
  generalize a * a = A at e3 h ha2 hq2
  generalize p * p = P at e1 h
  generalize q * q = Q at e2 h
  have f1 : (X + Y).toInt = (P : Int) + Q := by rw [pn_add64 (by rw [e1, e2]; omega) (by rw [e1, e2]; omega), e1, e2]
  have f2 : (D + Z).toInt = (A : Int) + R := by rw [pn_add64 (by rw [e3, e4]; omega) (by rw [e3, e4]; omega), e3, e4]
  have f3 : (4 * (sp_ab32 d).toInt64).toInt = 4 * (a : Int) := by rw [pn_mul64 (by rw [c4, pn_i64, hs]; omega) (by rw [c4, pn_i64, hs]; omega), c4, pn_i64, hs]
  have f4 : (D + Z + 4 * (sp_ab32 d).toInt64).toInt = (A : Int) + R + 4 * a := by rw [pn_add64 (by rw [f2, f3]; omega) (by rw [f2, f3]; omega), f2, f3]
  have f5 : (D + Z + 4 * (sp_ab32 d).toInt64 + 4).toInt = (A : Int) + R + 4 * a + 4 := by rw [pn_add64 (by rw [f4, c4]; omega) (by rw [f4, c4]; omega), f4, c4]
  intro z
  have z2 := (pl_b _ _).2.2.1.mp z
  rw [Int64.lt_iff_toInt_lt, f1, f5] at z2
  omega
theorem lw_359 {x : Int} (h : x < 36000) : x ≤ ((35999 : Nat) : Int) := by omega
theorem lw_120 {x : Int} (h : -1200000 ≤ x ∧ x ≤ 1200000) : x.natAbs ≤ 1200000 := by omega
theorem lw_goes {M0 M : xm_M} {n e : Nat} (hS : cS (cVs 1 M0) n) (hJ : cJ M0 M) (he : e < n) (hs : ¬ 0 ≤ cVs 1 M0 9 e) (h0 : ¬ (cVs 1 M0 10 e = 0 ∧ cVs 1 M0 11 e = 0)) : qA (cJ M0) (fL_goes (nI e) (sp_P (cVs 1 M0) e).2.2.1 (sp_ax (sp_P (cVs 1 M0) (e + 1)) 0 - sp_ax (sp_P (cVs 1 M0) e) 0) (sp_ax (sp_P (cVs 1 M0) (e + 1)) 1 - sp_ax (sp_P (cVs 1 M0) e) 1) (sp_ax (sp_P (cVs 1 M0) (e + 1)) 3 - sp_ax (sp_P (cVs 1 M0) e) 3) M) 1 := by
  obtain ⟨⟨g0, g1, g2, g3, g4, g5, g6⟩, ⟨x1, x2, x3, x4⟩, _⟩ := sp_go hs h0
  obtain ⟨⟨r10, r11, r12⟩, rb⟩ := sp_ranges hS he hs
  obtain ⟨q0, q1, q2, q3, q4, _⟩ := id hS.1
  have hv := sp_v_in rb r12
  have eA : (sp_A (cVs 1 M0) e).toInt = (cVs 1 M0 0 0).toInt * (cVs 1 M0 10 e).toInt ∧ -(2000 * 300) ≤ (cVs 1 M0 0 0).toInt * (cVs 1 M0 10 e).toInt ∧ (cVs 1 M0 0 0).toInt * (cVs 1 M0 10 e).toInt ≤ 2000 * 300 := pn_m64 (a := 2000) (b := 300) (by omega) (by omega) (by omega) (by omega) (by omega)
  have eB : (sp_B (cVs 1 M0) e).toInt = (cVs 1 M0 0 1).toInt * (cVs 1 M0 11 e).toInt ∧ -(2000 * 300) ≤ (cVs 1 M0 0 1).toInt * (cVs 1 M0 11 e).toInt ∧ (cVs 1 M0 0 1).toInt * (cVs 1 M0 11 e).toInt ≤ 2000 * 300 := pn_m64 (a := 2000) (b := 300) (by omega) (by omega) (by omega) (by omega) (by omega)
  have hD : -1200000 ≤ (sp_Dd (cVs 1 M0) e (sp_P (cVs 1 M0) e).2.2.2.2).toInt ∧ (sp_Dd (cVs 1 M0) e (sp_P (cVs 1 M0) e).2.2.2.2).toInt ≤ 1200000 := (sp_d64 (sl := cVs 1 M0 0 3) (ba := cVs 1 M0 0 2) (a := sp_A (cVs 1 M0) e) (b := sp_B (cVs 1 M0) e) (w := sp_stepW (cVs 1 M0) e) (v := sp_v (sp_P (cVs 1 M0) e).2.2.2.2 (cVs 1 M0 12 e)) q2 (by omega) (by omega) hv).2
  have hh := sp_P_h hS.1 e
  have ecancel : ∀ x y : Int32, x + y - x = y := fun x y => by rw [Int32.add_comm, Int32.add_sub_cancel]
  have ex : sp_ax (sp_P (cVs 1 M0) (e + 1)) 0 - sp_ax (sp_P (cVs 1 M0) e) 0 = sp_dx (sp_Dd (cVs 1 M0) e (sp_P (cVs 1 M0) e).2.2.2.2) (sp_ang (sp_P (cVs 1 M0) e).2.2.1 (sp_T (cVs 1 M0) e (sp_P (cVs 1 M0) e).2.2.2.2)) := by
    show (sp_P (cVs 1 M0) (e + 1)).1 - (sp_P (cVs 1 M0) e).1 = _
    rw [x1]
    unfold sp_X
    exact ecancel _ _
  have ey : sp_ax (sp_P (cVs 1 M0) (e + 1)) 1 - sp_ax (sp_P (cVs 1 M0) e) 1 = sp_dy (sp_Dd (cVs 1 M0) e (sp_P (cVs 1 M0) e).2.2.2.2) (sp_ang (sp_P (cVs 1 M0) e).2.2.1 (sp_T (cVs 1 M0) e (sp_P (cVs 1 M0) e).2.2.2.2)) := by
    show (sp_P (cVs 1 M0) (e + 1)).2.1 - (sp_P (cVs 1 M0) e).2.1 = _
    rw [x2]
    unfold sp_Y
    exact ecancel _ _
  have el : sp_ax (sp_P (cVs 1 M0) (e + 1)) 3 - sp_ax (sp_P (cVs 1 M0) e) 3 = sp_ab32 (sp_Dd (cVs 1 M0) e (sp_P (cVs 1 M0) e).2.2.2.2) := by
    show (sp_P (cVs 1 M0) (e + 1)).2.2.2.1 - (sp_P (cVs 1 M0) e).2.2.2.1 = _
    rw [x3]
    unfold sp_L
    exact ecancel _ _
  rw [ex, ey, el]
  clear ex ey el x1 x2 x3 x4 eA eB hv rb
  generalize sp_Dd (cVs 1 M0) e (sp_P (cVs 1 M0) e).2.2.2.2 = D at g6 hD ⊢
  generalize sp_T (cVs 1 M0) e (sp_P (cVs 1 M0) e).2.2.2.2 = T at g5 ⊢
  generalize (sp_P (cVs 1 M0) e).2.2.1 = h at hh ⊢
  have hT2 : (h + T / 2).toInt64 = h.toInt64 + (T / 2).toInt64 := by
    apply Int64.toInt_inj.mp
    have t1 := Int32.le_toInt T
    have t2 := Int32.toInt_lt T
    have e2 : (T / 2).toInt = T.toInt.tdiv 2 := pn_div (y := 2) (by decide)
    have b2 := pn_tdivb (x := T.toInt) (y := 2) (m := 2147483648) (k := 2) (by omega) (by omega) (by omega) (by omega)
    have b3 : 2147483648 / 2 = 1073741824 := by decide
    rw [b3] at b2
    rw [pn_i64, pn_add (by omega) (by omega), pn_add64 (by rw [pn_i64, pn_i64]; omega) (by rw [pn_i64, pn_i64]; omega), pn_i64, pn_i64]
  have hang : sp_head (h + T / 2).toInt64 / 100 = sp_ang h T := by unfold sp_ang; rw [hT2]
  have ha := sp_ang_in h T
  generalize sp_ang h T = ang at hang ha ⊢
  obtain ⟨k, hk, hk1, hk2, _⟩ := pn_ofI (n := 35999) ha.1 (lw_359 ha.2)
  have kk : k < 36000 := Nat.lt_succ_of_le hk
  have hc := sp_cos_nat hk2 kk
  have hsn := sp_sin_nat hk2 kk
  have pc := sg_leA (k := (k + 9000) % 36000) (Nat.mod_lt _ (by decide))
  have ps := sg_leA kk
  have hpair := sg_pair kk
  clear hT2
  unfold fL_goes
  refine qb (qe (ca_about (w := 6) hS hJ he (by omega)) g6) (fun M hJ => ?_)
  refine qb (qe (ca_about (w := 5) hS hJ he (by omega)) g5) (fun M hJ => ?_)
  refine qp (lw_round _ _) ?_
  refine ql2 hang ?_
  refine qb (ca_wave1 hJ ha.1 ha.2) (fun M hJ => ?_)
  refine ql2 rfl ?_
  refine qb (ca_wave0 hJ ha.1 ha.2) (fun M hJ => ?_)
  refine ql2 rfl (ql2 rfl (ql2 rfl ?_))
  unfold sp_dx sp_dy
  generalize sp_cos ang = C at hc ⊢
  generalize sp_sin ang = S at hsn ⊢
  obtain ⟨m1, m2⟩ := pn_mil (d := D) (c := C) hD (by rw [hc]; exact pc)
  obtain ⟨m3, m4⟩ := pn_mil (d := D) (c := S) hD (by rw [hsn]; exact ps)
  rw [hc] at m2
  rw [hsn] at m4
  have far := lw_far (d := D) m2 m4 rfl (lw_120 hD) (sg_sq (a := D.toInt.natAbs) (C := sgA ((k + 9000) % 36000)) (S := sgA k) (by rw [Nat.add_comm]; exact hpair) (Nat.div_mul_le_self _ _) (Nat.div_mul_le_self _ _))
  generalize (D.toInt64 * C.toInt64 / 1000000).toInt32 = dx at m1 far ⊢
  generalize (D.toInt64 * S.toInt64 / 1000000).toInt32 = dy at m3 far ⊢
  refine qt ((pl_b _ _).1.mpr m1) ?_
  refine qt ((pl_b _ _).1.mpr m3) ?_
  refine qp (lw_size _ _) ?_
  refine qt rfl ?_
  refine qp (lw_size _ _) ?_
  exact qf far (qr hJ)
