/-! THE LAW: the turn, the slip, the distance of a step, and the pull -/
theorem sp_go0 {q : sP × (Nat → Int32)} {x y h l b k v10 v11 v12 w t d c u : Int32} (hq : q = ((x, y, h, l, b), sp_row k v10 v11 v12 w t d c u sp_NG sp_NG)) : (q.2 0 = k ∧ q.2 1 = v10 ∧ q.2 2 = v11 ∧ q.2 3 = v12 ∧ q.2 4 = w ∧ q.2 5 = t ∧ q.2 6 = d) ∧ (q.1.1 = x ∧ q.1.2.1 = y ∧ q.1.2.2.2.1 = l ∧ q.1.2.2.2.2 = b) ∧ (q.2 7 = c ∧ q.2 8 = u ∧ q.1.2.2.1 = h) := by
  subst hq
  exact ⟨⟨rfl, rfl, rfl, rfl, rfl, rfl, rfl⟩, ⟨rfl, rfl, rfl, rfl⟩, rfl, rfl, rfl⟩
/-- a step's facts, and what stands behind it -/
theorem sp_go {V : sV} {e : Nat} (h : ¬ 0 ≤ V 9 e) (h0 : ¬ (V 10 e = 0 ∧ V 11 e = 0)) :
    (sp_F V e 0 = sp_K V e (sp_P V e).2.2.2.2 ∧ sp_F V e 1 = V 10 e ∧ sp_F V e 2 = V 11 e ∧ sp_F V e 3 = V 12 e ∧ sp_F V e 4 = (sp_stepW V e).toInt32 ∧ sp_F V e 5 = sp_T V e (sp_P V e).2.2.2.2 ∧ sp_F V e 6 = sp_Dd V e (sp_P V e).2.2.2.2) ∧
    ((sp_P V (e + 1)).1 = sp_X V e (sp_P V e) ∧ (sp_P V (e + 1)).2.1 = sp_Y V e (sp_P V e) ∧ (sp_P V (e + 1)).2.2.2.1 = sp_L V e (sp_P V e) ∧ (sp_P V (e + 1)).2.2.2.2 = (sp_P V e).2.2.2.2) ∧
    ((sp_F V e 7 = sp_NG ∧ sp_F V e 8 = sp_NG ∧ (sp_P V (e + 1)).2.2.1 = sp_H V e (sp_P V e)) ∨
     ∃ c, c < (V 1 0).toNatClampNeg ∧ sp_ab32 (sp_off (sp_H V e (sp_P V e)) (V 6 c)) ≤ V 0 8 ∧ sp_F V e 7 = nI c ∧ sp_F V e 8 = sp_pl V (sp_H V e (sp_P V e)) c ∧ (sp_P V (e + 1)).2.2.1 = sp_head ((sp_H V e (sp_P V e)).toInt64 - (sp_pl V (sp_H V e (sp_P V e)) c).toInt64)) := by
  rw [px_P2]
  unfold sp_F
  generalize sp_P V e = p
  cases hw : sp_who V (sp_X V e p) (sp_Y V e p) (sp_H V e p) with
  | none =>
    have es : sp_step V e p = ((sp_X V e p, sp_Y V e p, sp_H V e p, sp_L V e p, p.2.2.2.2), sp_row (sp_K V e p.2.2.2.2) (V 10 e) (V 11 e) (V 12 e) (sp_stepW V e).toInt32 (sp_T V e p.2.2.2.2) (sp_Dd V e p.2.2.2.2) sp_NG sp_NG sp_NG sp_NG) := by
      unfold sp_step
      rw [if_neg h, if_neg h0, hw]
    obtain ⟨a1, a2, a3⟩ := sp_go0 es
    exact ⟨a1, a2, Or.inl a3⟩
  | some c =>
    have es : sp_step V e p = ((sp_X V e p, sp_Y V e p, sp_head ((sp_H V e p).toInt64 - (sp_pl V (sp_H V e p) c).toInt64), sp_L V e p, p.2.2.2.2), sp_row (sp_K V e p.2.2.2.2) (V 10 e) (V 11 e) (V 12 e) (sp_stepW V e).toInt32 (sp_T V e p.2.2.2.2) (sp_Dd V e p.2.2.2.2) (nI c) (sp_pl V (sp_H V e p) c) sp_NG sp_NG) := by
      unfold sp_step
      rw [if_neg h, if_neg h0, hw]
    obtain ⟨_, c2, c3⟩ := sp_fst_in _ _ _ hw
    obtain ⟨a1, a2, a3⟩ := sp_go0 es
    exact ⟨a1, a2, Or.inr ⟨c, by rw [Nat.zero_add] at c2; exact c2, c3.2, a3⟩⟩
/-- the numbers' ranges at a step -/
theorem sp_ranges {V : sV} {n e : Nat} (hS : cS V n) (he : e < n) (h : ¬ 0 ≤ V 9 e) : ((-300 ≤ (V 10 e).toInt ∧ (V 10 e).toInt ≤ 300) ∧ (-300 ≤ (V 11 e).toInt ∧ (V 11 e).toInt ≤ 300) ∧ -300000 ≤ (V 12 e).toInt ∧ (V 12 e).toInt ≤ 300000) ∧ (-4800000 ≤ (sp_P V e).2.2.2.2.toInt ∧ (sp_P V e).2.2.2.2.toInt ≤ 4800000) := by
  obtain ⟨ho, hn, hn2⟩ := hS
  have hN : (V 1 2).toInt = (n : Int) := by rw [hn, nI_toInt (by omega)]
  have hb := (sp_P_in ho e (by omega)).1
  have rl := ho.2.2.2.2.2.2.2.2.2.2.2.2.2.2.2.2.2 e (by omega)
  rcases rl with z | z
  · exact ⟨z.2, hb⟩
  · exact absurd ((pn_nn _).mpr z.1) h
theorem sp_slip {sl : Int32} {w v : Int64} (hs : 0 ≤ sl.toInt ∧ sl.toInt ≤ 200000) (hw : -100000000 ≤ w.toInt ∧ w.toInt ≤ 100000000) (hv : -600000 ≤ v.toInt ∧ v.toInt ≤ 600000) : sl.toInt64 < sp_ab (w - v) ↔ (sl.toInt64 < w - v ∨ sl.toInt64 < v - w) := by
  obtain ⟨_, e2⟩ := sp_ab_eq hw.1 hw.2 (by omega) (by omega : v.toInt ≤ 100000000)
  have e1 : (w - v).toInt = w.toInt - v.toInt := pn_sub64 (by omega) (by omega)
  have e3 : (v - w).toInt = v.toInt - w.toInt := pn_sub64 (by omega) (by omega)
  rw [Int64.lt_iff_toInt_lt, Int64.lt_iff_toInt_lt, Int64.lt_iff_toInt_lt, pn_i64, e2, e1, e3]
  omega
/-- between both -/
theorem sp_between {tr : Int32} {w v : Int64} (ht : 0 ≤ tr.toInt ∧ tr.toInt ≤ 100) (hw : -100000000 ≤ w.toInt ∧ w.toInt ≤ 100000000) (hv : -600000 ≤ v.toInt ∧ v.toInt ≤ 600000) : ((tr.toInt64 * w + (100 - tr).toInt64 * v) / 100 ≤ w ∨ (tr.toInt64 * w + (100 - tr).toInt64 * v) / 100 ≤ v) ∧ (w ≤ (tr.toInt64 * w + (100 - tr).toInt64 * v) / 100 ∨ v ≤ (tr.toInt64 * w + (100 - tr).toInt64 * v) / 100) := by
  have c100 : (100 : Int32).toInt = 100 := rfl
  have d100 : (100 : Int64).toInt = 100 := rfl
  have et : (100 - tr).toInt = 100 - tr.toInt := by rw [pn_sub (by rw [c100]; omega) (by rw [c100]; omega), c100]
  have m1 := pn_mulb (x := tr.toInt) (y := w.toInt) (a := 100) (b := 100000000) (by omega) (by omega) hw.1 hw.2
  have m2 := pn_mulb (x := 100 - tr.toInt) (y := v.toInt) (a := 100) (b := 600000) (by omega) (by omega) hv.1 hv.2
  have e1 : (tr.toInt64 * w).toInt = tr.toInt * w.toInt := by rw [pn_mul64 (by rw [pn_i64]; omega) (by rw [pn_i64]; omega), pn_i64]
  have e2 : ((100 - tr).toInt64 * v).toInt = (100 - tr.toInt) * v.toInt := by rw [pn_mul64 (by rw [pn_i64, et]; omega) (by rw [pn_i64, et]; omega), pn_i64, et]
  have e3 : ((tr.toInt64 * w + (100 - tr).toInt64 * v) / 100).toInt = (tr.toInt * w.toInt + (100 - tr.toInt) * v.toInt).tdiv 100 := by
    rw [pn_div64 (y := 100) (by decide), pn_add64 (by rw [e1, e2]; omega) (by rw [e1, e2]; omega), e1, e2]
    rfl
  rw [Int64.le_iff_toInt_le, Int64.le_iff_toInt_le, Int64.le_iff_toInt_le, Int64.le_iff_toInt_le, e3]
  generalize tr.toInt = a at ht
  generalize w.toInt = x at hw
  generalize v.toInt = y at hv
  have up : a * x + (100 - a) * y ≤ 100 * max x y := by
    have p1 : a * x ≤ a * max x y := Int.mul_le_mul_of_nonneg_left (Int.le_max_left x y) ht.1
    have p2 : (100 - a) * y ≤ (100 - a) * max x y := Int.mul_le_mul_of_nonneg_left (Int.le_max_right x y) (by omega)
    have p3 : a * max x y + (100 - a) * max x y = 100 * max x y := by rw [← Int.add_mul]; congr 1; omega
    omega
  have dn : 100 * min x y ≤ a * x + (100 - a) * y := by
    have p1 : a * min x y ≤ a * x := Int.mul_le_mul_of_nonneg_left (Int.min_le_left x y) ht.1
    have p2 : (100 - a) * min x y ≤ (100 - a) * y := Int.mul_le_mul_of_nonneg_left (Int.min_le_right x y) (by omega)
    have p3 : a * min x y + (100 - a) * min x y = 100 * min x y := by rw [← Int.add_mul]; congr 1; omega
    omega
  generalize a * x + (100 - a) * y = S at up dn
  have hq : S.tdiv 100 = if 0 ≤ S then S / 100 else -((-S) / 100) := by
    by_cases z : 0 ≤ S
    · rw [if_pos z, Int.tdiv_eq_ediv_of_nonneg z]
    · rw [if_neg z]
      have : S = -(-S) := by omega
      rw [this, Int.neg_tdiv, Int.tdiv_eq_ediv_of_nonneg (by omega)]
      omega
  rw [hq]
  split <;> omega
theorem sp_dist1 (a s : Int64) : (2 * a + s) / 2 = (a + (a + s)) / 2 := by
  congr 1
  rw [← Int64.add_assoc]
  congr 1
  rw [show (2 : Int64) = 1 + 1 from by decide, Int64.add_mul, Int64.one_mul]
theorem sp_dist2 (b s : Int64) : (2 * b - s) / 2 = ((b - s) + b) / 2 := by
  congr 1
  rw [show (2 : Int64) = 1 + 1 from by decide, Int64.add_mul, Int64.one_mul, Int64.sub_eq_add_neg, Int64.sub_eq_add_neg, Int64.add_assoc, Int64.add_assoc, Int64.add_comm b (-s)]
theorem pn_pull {o p w : Int} (h1 : (o.natAbs : Int) ≤ w) (hp : 0 ≤ p) (hp2 : p ≤ 100) : (((o * p).tdiv 100).natAbs : Int) ≤ w := by
  have e1 : ((o * p).tdiv 100).natAbs = (o * p).natAbs / 100 := Int.natAbs_tdiv _ _
  have e2 : (o * p).natAbs = o.natAbs * p.natAbs := Int.natAbs_mul _ _
  have e3 : o.natAbs * p.natAbs ≤ o.natAbs * 100 := Nat.mul_le_mul (Nat.le_refl _) (by omega)
  have e4 : (o * p).natAbs / 100 ≤ o.natAbs := by
    rw [e2]
    exact Nat.div_le_of_le_mul (by rw [Nat.mul_comm 100]; exact e3)
  rw [e1]
  omega
theorem sp_ab32_int {x : Int32} (hx : -2147483647 ≤ x.toInt) : (sp_ab32 x).toInt = (x.toInt.natAbs : Int) := by
  unfold sp_ab32
  have zz : (0 ≤ x) = (0 ≤ x.toInt) := propext (pn_nn x)
  simp only [zz]
  by_cases z : 0 ≤ x.toInt
  · rw [if_pos z]; omega
  · rw [if_neg z, Int32.zero_sub, pn_neg hx]; omega
theorem sp_pull_int {o p w : Int32} (h1 : -900000 ≤ o.toInt) (h2 : o.toInt < 900000) (hp : 0 ≤ p.toInt) (hp2 : p.toInt ≤ 100) (ha : sp_ab32 o ≤ w) : (sp_ab32 (o * p / 100)).toInt ≤ w.toInt := by
  have ha2 := Int32.le_iff_toInt_le.mp ha
  rw [sp_ab32_int (by omega)] at ha2
  have m1 := pn_mulb (x := o.toInt) (y := p.toInt) (a := 900000) (b := 100) (by omega) (by omega) (by omega) (by omega)
  have em : (o * p).toInt = o.toInt * p.toInt := pn_mul (by omega) (by omega)
  have ep : (o * p / 100).toInt = (o.toInt * p.toInt).tdiv 100 := by
    rw [pn_div (y := 100) (by decide), em]
    rfl
  have hb := pn_pull ha2 hp hp2
  have hc := pn_tdiv (o.toInt * p.toInt) 100 (by omega)
  rw [sp_ab32_int (by rw [ep]; omega), ep]
  exact hb
theorem sp_pull_in {V : sV} {h : Int32} {c : Nat} (ho : sp_ok V) (h0 : 0 ≤ h.toInt) (h1 : h.toInt < 3600000) (hc : c < (V 1 0).toNatClampNeg) (ha : sp_ab32 (sp_off h (V 6 c)) ≤ V 0 8) : (sp_ab32 (sp_pl V h c)).toInt ≤ (V 0 8).toInt := by
  have h9 : (V 1 0).toNatClampNeg = (V 1 0).toInt.toNat := rfl
  have p0 := ho.2.2.2.2.2.2.2.2.2.1
  have p6 := ho.2.2.2.2.2.2.1
  have d := (ho.2.2.2.2.2.2.2.2.2.2.2.2.2.2.2.1 c (by omega)).2
  obtain ⟨_, o2⟩ := sp_off_int h0 h1 d.1 d.2
  have ob : -900000 ≤ (sp_off h (V 6 c)).toInt ∧ (sp_off h (V 6 c)).toInt < 900000 := by rw [o2]; omega
  unfold sp_pl
  exact sp_pull_int ob.1 ob.2 p6.1 p6.2 ha
