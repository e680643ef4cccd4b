/-! the numbers of a step within their ranges -/
theorem pn_mulb {x y a b : Int} (h1 : -a ≤ x) (h2 : x ≤ a) (h3 : -b ≤ y) (h4 : y ≤ b) : -(a * b) ≤ x * y ∧ x * y ≤ a * b := by
  have e1 : (x * y).natAbs = x.natAbs * y.natAbs := Int.natAbs_mul x y
  have e2 : (a * b).natAbs = a.natAbs * b.natAbs := Int.natAbs_mul a b
  have h5 : x.natAbs * y.natAbs ≤ a.natAbs * b.natAbs := Nat.mul_le_mul (by omega) (by omega)
  have h6 : 0 ≤ a * b := Int.mul_nonneg (by omega) (by omega)
  omega
theorem pn_tdivb {x y : Int} {m k : Nat} (h1 : -(m : Int) ≤ x) (h2 : x ≤ m) (h3 : 0 < k) (h4 : (k : Int) ≤ y) : -((m / k : Nat) : Int) ≤ x.tdiv y ∧ x.tdiv y ≤ ((m / k : Nat) : Int) := by
  have e1 : (x.tdiv y).natAbs = x.natAbs / y.natAbs := Int.natAbs_tdiv x y
  have h5 : x.natAbs / y.natAbs ≤ m / k := Nat.div_le_div (by omega) (by omega) (by omega)
  omega
theorem pn_64 {x : Int64} (h1 : -2147483648 ≤ x.toInt) (h2 : x.toInt ≤ 2147483647) : x.toInt32.toInt64 = x := by
  apply Int64.toInt_inj.mp
  rw [pn_i64, pn_l2i h1 h2]
theorem pn_half (x : Int32) : (x / 2).toInt64 = x.toInt64 / 2 := by
  apply Int64.toInt_inj.mp
  rw [pn_i64, pn_div (y := 2) (by decide), pn_div64 (y := 2) (by decide), pn_i64]
  rfl
theorem sp_ab_eq {w v : Int64} (hw1 : -100000000 ≤ w.toInt) (hw2 : w.toInt ≤ 100000000) (hv1 : -100000000 ≤ v.toInt) (hv2 : v.toInt ≤ 100000000) : (if w ≤ v then v - w else w - v) = sp_ab (w - v) ∧ (sp_ab (w - v)).toInt = ((w.toInt - v.toInt).natAbs : Int) := by
  have e1 : (w - v).toInt = w.toInt - v.toInt := pn_sub64 (by omega) (by omega)
  have e2 : (v - w).toInt = v.toInt - w.toInt := pn_sub64 (by omega) (by omega)
  have q1 : (w ≤ v) = (w.toInt ≤ v.toInt) := propext Int64.le_iff_toInt_le
  have q2 : (0 < w - v) = (0 < w.toInt - v.toInt) := propext (by rw [Int64.lt_iff_toInt_lt, e1]; rfl)
  have e3 : (-(w - v)).toInt = v.toInt - w.toInt := by rw [pn_neg64 (by omega), e1]; omega
  unfold sp_ab
  simp only [q1, q2]
  refine ⟨?_, ?_⟩
  · apply Int64.toInt_inj.mp
    split <;> split <;> omega
  · split <;> omega
theorem pn_m64 {x y : Int32} {a b : Int} (h1 : -a ≤ x.toInt) (h2 : x.toInt ≤ a) (h3 : -b ≤ y.toInt) (h4 : y.toInt ≤ b) (h5 : a * b ≤ 9000000000000000000) : (x.toInt64 * y.toInt64).toInt = x.toInt * y.toInt ∧ -(a * b) ≤ x.toInt * y.toInt ∧ x.toInt * y.toInt ≤ a * b := by
  have h := pn_mulb h1 h2 h3 h4
  refine ⟨?_, h⟩
  rw [pn_mul64 (by rw [pn_i64, pn_i64]; omega) (by rw [pn_i64, pn_i64]; omega), pn_i64, pn_i64]
theorem sp_w_in {le ri ba l r : Int32} (h1 : 100 ≤ le.toInt ∧ le.toInt ≤ 2000) (h2 : 100 ≤ ri.toInt ∧ ri.toInt ≤ 2000) (h3 : 100 ≤ ba.toInt ∧ ba.toInt ≤ 1000) (h4 : -300 ≤ l.toInt ∧ l.toInt ≤ 300) (h5 : -300 ≤ r.toInt ∧ r.toInt ≤ 300) : -100000000 ≤ (sp_w le ri ba l r).toInt ∧ (sp_w le ri ba l r).toInt ≤ 100000000 := by
  unfold sp_w
  have hA := pn_m64 (x := le) (y := l) (a := 2000) (b := 300) (by omega) (by omega) (by omega) (by omega) (by omega)
  have hB := pn_m64 (x := ri) (y := r) (a := 2000) (b := 300) (by omega) (by omega) (by omega) (by omega) (by omega)
  obtain ⟨a1, a2, a3⟩ := hA
  obtain ⟨b1, b2, b3⟩ := hB
  generalize le.toInt64 * l.toInt64 = A at a1 ⊢
  generalize ri.toInt64 * r.toInt64 = B at b1 ⊢
  generalize le.toInt * l.toInt = a at a1 a2 a3
  generalize ri.toInt * r.toInt = b at b1 b2 b3
  have q : (572958 : Int64).toInt = 572958 := rfl
  have e1 : (B - A).toInt = b - a := by rw [pn_sub64 (by omega) (by omega)]; omega
  have e2 : ((B - A) * 572958).toInt = (b - a) * 572958 := by rw [pn_mul64 (by rw [q]; omega) (by rw [q]; omega), e1, q]
  have e3 := (sp_baseOk h3.1 h3.2).1
  rw [pn_div64 (by omega), e2, e3]
  have h := pn_tdivb (x := (b - a) * 572958) (y := 1000 * ba.toInt) (m := 700000000000) (k := 100000) (by omega) (by omega) (by omega) (by omega)
  have h9 : 700000000000 / 100000 = 7000000 := by decide
  rw [h9] at h
  omega
theorem sp_v_in {bias t : Int32} (h1 : -4800000 ≤ bias.toInt ∧ bias.toInt ≤ 4800000) (h2 : -300000 ≤ t.toInt ∧ t.toInt ≤ 300000) : -600000 ≤ (sp_v bias t).toInt ∧ (sp_v bias t).toInt ≤ 600000 := by
  unfold sp_v
  have e1 : (bias / 16).toInt = bias.toInt.tdiv 16 := pn_div (y := 16) (by decide)
  have h := pn_tdivb (x := bias.toInt) (y := 16) (m := 4800000) (k := 16) (by omega) (by omega) (by omega) (by omega)
  have h9 : 4800000 / 16 = 300000 := by decide
  rw [h9] at h
  rw [pn_i64, pn_sub (by omega) (by omega)]
  omega
theorem sp_s_in {ba : Int32} {v : Int64} (h3 : 100 ≤ ba.toInt ∧ ba.toInt ≤ 1000) (hv : -600000 ≤ v.toInt ∧ v.toInt ≤ 600000) : -1100000 ≤ (sp_s ba v).toInt ∧ (sp_s ba v).toInt ≤ 1100000 := by
  unfold sp_s
  have e3 := (sp_baseOk h3.1 h3.2).1
  have h := pn_mulb (x := v.toInt) (y := 1000 * ba.toInt) (a := 600000) (b := 1000000) (by omega) (by omega) (by omega) (by omega)
  have e4 : (v * (1000 * ba.toInt64)).toInt = v.toInt * (1000 * ba.toInt) := by rw [pn_mul64 (by rw [e3]; omega) (by rw [e3]; omega), e3]
  rw [pn_div64 (y := 572958) (by decide), e4]
  have h2 := pn_tdivb (x := v.toInt * (1000 * ba.toInt)) (y := 572958) (m := 600000000000) (k := 572958) (by omega) (by omega) (by omega) (by omega)
  have h9 : 600000000000 / 572958 = 1047197 := by decide
  rw [h9] at h2
  exact ⟨by have := h2.1; show -1100000 ≤ (v.toInt * (1000 * ba.toInt)).tdiv 572958; omega, by have := h2.2; show (v.toInt * (1000 * ba.toInt)).tdiv 572958 ≤ 1100000; omega⟩
/-- the turn as a long -/
theorem sp_turn64 {sl tr : Int32} {w v : Int64} (hs : 0 ≤ sl.toInt ∧ sl.toInt ≤ 200000) (ht : 0 ≤ tr.toInt ∧ tr.toInt ≤ 100) (hw : -100000000 ≤ w.toInt ∧ w.toInt ≤ 100000000) (hv : -600000 ≤ v.toInt ∧ v.toInt ≤ 600000) : (sp_turn sl tr w v).toInt64 = if sl.toInt64 < sp_ab (w - v) then v else (tr.toInt64 * w + (100 - tr).toInt64 * v) / 100 := by
  unfold sp_turn
  obtain ⟨_, e2⟩ := sp_ab_eq hw.1 hw.2 (by omega) (by omega : v.toInt ≤ 100000000)
  have q1 : (sl.toInt64 < sp_ab (w - v)) = (sl.toInt < ((w.toInt - v.toInt).natAbs : Int)) := propext (by rw [Int64.lt_iff_toInt_lt, pn_i64, e2])
  simp only [q1]
  by_cases h : sl.toInt < ((w.toInt - v.toInt).natAbs : Int)
  · rw [if_pos h, if_pos h]
    exact pn_64 (by omega) (by omega)
  · rw [if_neg h, if_neg h]
    have e3 : (100 - tr).toInt = 100 - tr.toInt := pn_sub (x := 100) (by rw [show (100 : Int32).toInt = 100 from rfl]; omega) (by rw [show (100 : Int32).toInt = 100 from rfl]; omega)
    have m1 := pn_mulb (x := tr.toInt) (y := w.toInt) (a := 100) (b := 800000) (by omega) (by omega) (by omega) (by omega)
    have m2 := pn_mulb (x := 100 - tr.toInt) (y := v.toInt) (a := 100) (b := 600000) (by omega) (by omega) (by omega) (by omega)
    have e4 : (tr.toInt64 * w).toInt = tr.toInt * w.toInt := by rw [pn_mul64 (by rw [pn_i64]; omega) (by rw [pn_i64]; omega), pn_i64]
    have e5 : ((100 - tr).toInt64 * v).toInt = (100 - tr.toInt) * v.toInt := by rw [pn_mul64 (by rw [pn_i64, e3]; omega) (by rw [pn_i64, e3]; omega), pn_i64, e3]
    have e6 : (tr.toInt64 * w + (100 - tr).toInt64 * v).toInt = tr.toInt * w.toInt + (100 - tr.toInt) * v.toInt := by rw [pn_add64 (by rw [e4, e5]; omega) (by rw [e4, e5]; omega), e4, e5]
    have h2 := pn_tdivb (x := tr.toInt * w.toInt + (100 - tr.toInt) * v.toInt) (y := 100) (m := 140000000) (k := 100) (by omega) (by omega) (by omega) (by omega)
    have h9 : 140000000 / 100 = 1400000 := by decide
    rw [h9] at h2
    have e7 : ((tr.toInt64 * w + (100 - tr).toInt64 * v) / 100).toInt = (tr.toInt * w.toInt + (100 - tr.toInt) * v.toInt).tdiv 100 := by
      rw [pn_div64 (y := 100) (by decide), e6]; rfl
    exact pn_64 (by rw [e7]; omega) (by rw [e7]; omega)
theorem pn_half64 {x : Int64} (h1 : -10000000 ≤ x.toInt) (h2 : x.toInt ≤ 10000000) : -10000000 ≤ (x / 2).toInt ∧ (x / 2).toInt ≤ 10000000 := by
  rw [pn_div64 (y := 2) (by decide)]
  have h := pn_tdiv x.toInt 2 (by omega)
  show -10000000 ≤ x.toInt.tdiv 2 ∧ x.toInt.tdiv 2 ≤ 10000000
  omega
theorem pn_half64b {x : Int64} (h1 : -2400000 ≤ x.toInt) (h2 : x.toInt ≤ 2400000) : -1200000 ≤ (x / 2).toInt ∧ (x / 2).toInt ≤ 1200000 := by
  rw [pn_div64 (y := 2) (by decide)]
  have h := pn_tdivb (x := x.toInt) (y := 2) (m := 2400000) (k := 2) (by omega) (by omega) (by omega) (by omega)
  have h9 : 2400000 / 2 = 1200000 := by decide
  rw [h9] at h
  exact h
/-- the distance as a long -/
theorem sp_d64 {sl ba : Int32} {a b w v : Int64} (h3 : 100 ≤ ba.toInt ∧ ba.toInt ≤ 1000) (ha : -600000 ≤ a.toInt ∧ a.toInt ≤ 600000) (hb : -600000 ≤ b.toInt ∧ b.toInt ≤ 600000) (hv : -600000 ≤ v.toInt ∧ v.toInt ≤ 600000) :
    (sp_d sl ba a b w v).toInt64 = (if sl.toInt64 < sp_ab (w - v) then (if w ≤ v then ((b - sp_s ba v) + b) / 2 else (a + (a + sp_s ba v)) / 2) else (a + b) / 2) ∧ -1200000 ≤ (sp_d sl ba a b w v).toInt ∧ (sp_d sl ba a b w v).toInt ≤ 1200000 := by
  have hs := sp_s_in h3 hv
  unfold sp_d
  generalize sp_s ba v = s at hs ⊢
  have k : ∀ z : Int64, -2400000 ≤ z.toInt → z.toInt ≤ 2400000 → (z / 2).toInt32.toInt64 = z / 2 ∧ -1200000 ≤ (z / 2).toInt32.toInt ∧ (z / 2).toInt32.toInt ≤ 1200000 := by
    intro z z1 z2
    have h := pn_half64b z1 z2
    have e := pn_64 (x := z / 2) (by omega) (by omega)
    refine ⟨e, ?_⟩
    rw [pn_l2i (by omega) (by omega)]
    exact h
  have e1 : (b - s).toInt = b.toInt - s.toInt := pn_sub64 (by omega) (by omega)
  have e2 : ((b - s) + b).toInt = b.toInt - s.toInt + b.toInt := by rw [pn_add64 (by omega) (by omega), e1]
  have e3 : (a + s).toInt = a.toInt + s.toInt := pn_add64 (by omega) (by omega)
  have e4 : (a + (a + s)).toInt = a.toInt + (a.toInt + s.toInt) := by rw [pn_add64 (by omega) (by omega), e3]
  have e5 : (a + b).toInt = a.toInt + b.toInt := pn_add64 (by omega) (by omega)
  by_cases h1 : sl.toInt64 < sp_ab (w - v)
  · simp only [if_pos h1]
    by_cases h2 : w ≤ v
    · simp only [if_pos h2]
      exact k _ (by omega) (by omega)
    · simp only [if_neg h2]
      exact k _ (by omega) (by omega)
  · simp only [if_neg h1]
    exact k _ (by omega) (by omega)
theorem sp_bias_in {V : sV} {e : Nat} {bias : Int32} (hB : 1 ≤ (V 0 5).toInt ∧ (V 0 5).toInt ≤ 64) (ht : -300000 ≤ (V 12 e).toInt ∧ (V 12 e).toInt ≤ 300000) (hb : -4800000 ≤ bias.toInt ∧ bias.toInt ≤ 4800000) :
    sp_bias V e bias = bias + (16 * V 12 e - bias) / V 0 5 ∧ -4800000 ≤ (sp_bias V e bias).toInt ∧ (sp_bias V e bias).toInt ≤ 4800000 := by
  have q : (16 : Int32).toInt = 16 := rfl
  have e1 : (16 * V 12 e).toInt = 16 * (V 12 e).toInt := by rw [pn_mul (x := 16) (by rw [q]; omega) (by rw [q]; omega), q]
  have e2 : (16 * V 12 e - bias).toInt = 16 * (V 12 e).toInt - bias.toInt := by rw [pn_sub (by omega) (by omega), e1]
  have e3 : ((16 * V 12 e - bias) / V 0 5).toInt = (16 * (V 12 e).toInt - bias.toInt).tdiv (V 0 5).toInt := by rw [pn_div (by omega), e2]
  have h := pn_tdiv (16 * (V 12 e).toInt - bias.toInt) (V 0 5).toInt (by omega)
  have e4 : ((16 * V 12 e - bias).toInt64 / (V 0 5).toInt64).toInt32 = (16 * V 12 e - bias) / V 0 5 := by
    apply Int32.toInt_inj.mp
    have e5 : ((16 * V 12 e - bias).toInt64 / (V 0 5).toInt64).toInt = (16 * (V 12 e).toInt - bias.toInt).tdiv (V 0 5).toInt := by
      rw [pn_div64 (by rw [pn_i64]; omega), pn_i64, pn_i64, e2]
    rw [pn_l2i (by rw [e5]; omega) (by rw [e5]; omega), e5, e3]
  unfold sp_bias
  rw [e4]
  refine ⟨rfl, ?_⟩
  rw [pn_add (by omega) (by omega)]
  omega
