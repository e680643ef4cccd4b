/-! THE MODEL: its leaves -/
theorem pi_add (a b : Nat) : nI a + nI b = nI (a + b) := (Int32.ofNat_add a b).symm
theorem pi_mul (a b : Nat) : nI a * nI b = nI (a * b) := (Int32.ofNat_mul a b).symm
theorem px_ifE {α : Type} {e : Nat} (he : e < 120) (a b : α) : (if nI e < 0 ∨ 120 ≤ (nI e).toNatClampNeg then a else b) = b := if_neg (px_kn (n := 120) he (by omega))
theorem px_ifC {α : Type} {e : Nat} (he : e < 120) (a b : α) : (if nI e < 0 ∨ 120 ≤ e then a else b) = b := if_neg (fun h => by
  have h1 := px_kn (n := 120) he (by omega)
  rw [px_k, nI_clamp (by omega)] at h1
  exact h1 h)
theorem pm_row {M : xm_M} {k j a : Nat} {v : Int32} (h : ¬ a = k) : (xm_s M k j v).1 a = M.1 a := by
  funext b
  rw [pm_s, if_neg (fun z => h z.1)]
/-- the model behind the corridors' pull -/
def pm_pulled (V : sV) (e : Nat) (h : Int32) (M : xm_M) : Option Nat → xm_M
  | none => M
  | some c => xm_s (xm_s (xm_s M 14 e (nI c)) 15 e (sp_pl V h c)) 0 20 (sp_head (h.toInt64 - (sp_pl V h c).toInt64))
/-! the numbers of a step within their ranges -/
theorem pn_mulb {x y a b : Int} (h1 : -a ≤ x) (h2 : x ≤ a) (h3 : -b ≤ y) (h4 : y ≤ b) : -(a * b) ≤ x * y ∧ x * y ≤ a * b := by
  have e1 : (x * y).natAbs = x.natAbs * y.natAbs := Int.natAbs_mul x y
  have e2 : (a * b).natAbs = a.natAbs * b.natAbs := Int.natAbs_mul a b
  have h5 : x.natAbs * y.natAbs ≤ a.natAbs * b.natAbs := Nat.mul_le_mul (by omega) (by omega)
  have h6 : 0 ≤ a * b := Int.mul_nonneg (by omega) (by omega)
  omega
theorem pn_tdivb {x y : Int} {m k : Nat} (h1 : -(m : Int) ≤ x) (h2 : x ≤ m) (h3 : 0 < k) (h4 : (k : Int) ≤ y) : -((m / k : Nat) : Int) ≤ x.tdiv y ∧ x.tdiv y ≤ ((m / k : Nat) : Int) := by
  have e1 : (x.tdiv y).natAbs = x.natAbs / y.natAbs := Int.natAbs_tdiv x y
  have h5 : x.natAbs / y.natAbs ≤ m / k := Nat.div_le_div (by omega) (by omega) (by omega)
  omega
theorem pn_64 {x : Int64} (h1 : -2147483648 ≤ x.toInt) (h2 : x.toInt ≤ 2147483647) : x.toInt32.toInt64 = x := by
  apply Int64.toInt_inj.mp
  rw [pn_i64, pn_l2i h1 h2]
theorem pn_half (x : Int32) : (x / 2).toInt64 = x.toInt64 / 2 := by
  apply Int64.toInt_inj.mp
  rw [pn_i64, pn_div (y := 2) (by decide), pn_div64 (y := 2) (by decide), pn_i64]
  rfl
theorem sp_ab_eq {w v : Int64} (hw1 : -100000000 ≤ w.toInt) (hw2 : w.toInt ≤ 100000000) (hv1 : -100000000 ≤ v.toInt) (hv2 : v.toInt ≤ 100000000) : (if w ≤ v then v - w else w - v) = sp_ab (w - v) ∧ (sp_ab (w - v)).toInt = ((w.toInt - v.toInt).natAbs : Int) := by
  have e1 : (w - v).toInt = w.toInt - v.toInt := pn_sub64 (by omega) (by omega)
  have e2 : (v - w).toInt = v.toInt - w.toInt := pn_sub64 (by omega) (by omega)
  have q1 : (w ≤ v) = (w.toInt ≤ v.toInt) := propext Int64.le_iff_toInt_le
  have q2 : (0 < w - v) = (0 < w.toInt - v.toInt) := propext (by rw [Int64.lt_iff_toInt_lt, e1]; rfl)
  have e3 : (-(w - v)).toInt = v.toInt - w.toInt := by rw [pn_neg64 (by omega), e1]; omega
  unfold sp_ab
  simp only [q1, q2]
  refine ⟨?_, ?_⟩
  · apply Int64.toInt_inj.mp
    split <;> split <;> omega
  · split <;> omega
theorem pn_m64 {x y : Int32} {a b : Int} (h1 : -a ≤ x.toInt) (h2 : x.toInt ≤ a) (h3 : -b ≤ y.toInt) (h4 : y.toInt ≤ b) (h5 : a * b ≤ 9000000000000000000) : (x.toInt64 * y.toInt64).toInt = x.toInt * y.toInt ∧ -(a * b) ≤ x.toInt * y.toInt ∧ x.toInt * y.toInt ≤ a * b := by
  have h := pn_mulb h1 h2 h3 h4
  refine ⟨?_, h⟩
  rw [pn_mul64 (by rw [pn_i64, pn_i64]; omega) (by rw [pn_i64, pn_i64]; omega), pn_i64, pn_i64]
theorem sp_w_in {le ri ba l r : Int32} (h1 : 100 ≤ le.toInt ∧ le.toInt ≤ 2000) (h2 : 100 ≤ ri.toInt ∧ ri.toInt ≤ 2000) (h3 : 100 ≤ ba.toInt ∧ ba.toInt ≤ 1000) (h4 : -300 ≤ l.toInt ∧ l.toInt ≤ 300) (h5 : -300 ≤ r.toInt ∧ r.toInt ≤ 300) : -100000000 ≤ (sp_w le ri ba l r).toInt ∧ (sp_w le ri ba l r).toInt ≤ 100000000 := by
  unfold sp_w
  have hA := pn_m64 (x := le) (y := l) (a := 2000) (b := 300) (by omega) (by omega) (by omega) (by omega) (by omega)
  have hB := pn_m64 (x := ri) (y := r) (a := 2000) (b := 300) (by omega) (by omega) (by omega) (by omega) (by omega)
  obtain ⟨a1, a2, a3⟩ := hA
  obtain ⟨b1, b2, b3⟩ := hB
  generalize le.toInt64 * l.toInt64 = A at a1 ⊢
  generalize ri.toInt64 * r.toInt64 = B at b1 ⊢
  generalize le.toInt * l.toInt = a at a1 a2 a3
  generalize ri.toInt * r.toInt = b at b1 b2 b3
  have q : (572958 : Int64).toInt = 572958 := rfl
  have e1 : (B - A).toInt = b - a := by rw [pn_sub64 (by omega) (by omega)]; omega
  have e2 : ((B - A) * 572958).toInt = (b - a) * 572958 := by rw [pn_mul64 (by rw [q]; omega) (by rw [q]; omega), e1, q]
  have e3 := (sp_baseOk h3.1 h3.2).1
  rw [pn_div64 (by omega), e2, e3]
  have h := pn_tdivb (x := (b - a) * 572958) (y := 1000 * ba.toInt) (m := 700000000000) (k := 100000) (by omega) (by omega) (by omega) (by omega)
  have h9 : 700000000000 / 100000 = 7000000 := by decide
  rw [h9] at h
  omega
theorem sp_v_in {bias t : Int32} (h1 : -4800000 ≤ bias.toInt ∧ bias.toInt ≤ 4800000) (h2 : -300000 ≤ t.toInt ∧ t.toInt ≤ 300000) : -600000 ≤ (sp_v bias t).toInt ∧ (sp_v bias t).toInt ≤ 600000 := by
  unfold sp_v
  have e1 : (bias / 16).toInt = bias.toInt.tdiv 16 := pn_div (y := 16) (by decide)
  have h := pn_tdivb (x := bias.toInt) (y := 16) (m := 4800000) (k := 16) (by omega) (by omega) (by omega) (by omega)
  have h9 : 4800000 / 16 = 300000 := by decide
  rw [h9] at h
  rw [pn_i64, pn_sub (by omega) (by omega)]
  omega
theorem sp_s_in {ba : Int32} {v : Int64} (h3 : 100 ≤ ba.toInt ∧ ba.toInt ≤ 1000) (hv : -600000 ≤ v.toInt ∧ v.toInt ≤ 600000) : -1100000 ≤ (sp_s ba v).toInt ∧ (sp_s ba v).toInt ≤ 1100000 := by
  unfold sp_s
  have e3 := (sp_baseOk h3.1 h3.2).1
  have h := pn_mulb (x := v.toInt) (y := 1000 * ba.toInt) (a := 600000) (b := 1000000) (by omega) (by omega) (by omega) (by omega)
  have e4 : (v * (1000 * ba.toInt64)).toInt = v.toInt * (1000 * ba.toInt) := by rw [pn_mul64 (by rw [e3]; omega) (by rw [e3]; omega), e3]
  rw [pn_div64 (y := 572958) (by decide), e4]
  have h2 := pn_tdivb (x := v.toInt * (1000 * ba.toInt)) (y := 572958) (m := 600000000000) (k := 572958) (by omega) (by omega) (by omega) (by omega)
  have h9 : 600000000000 / 572958 = 1047197 := by decide
  rw [h9] at h2
  exact ⟨by have := h2.1; show -1100000 ≤ (v.toInt * (1000 * ba.toInt)).tdiv 572958; omega, by have := h2.2; show (v.toInt * (1000 * ba.toInt)).tdiv 572958 ≤ 1100000; omega⟩
/-- the turn as a long -/
theorem sp_turn64 {sl tr : Int32} {w v : Int64} (hs : 0 ≤ sl.toInt ∧ sl.toInt ≤ 200000) (ht : 0 ≤ tr.toInt ∧ tr.toInt ≤ 100) (hw : -100000000 ≤ w.toInt ∧ w.toInt ≤ 100000000) (hv : -600000 ≤ v.toInt ∧ v.toInt ≤ 600000) : (sp_turn sl tr w v).toInt64 = if sl.toInt64 < sp_ab (w - v) then v else (tr.toInt64 * w + (100 - tr).toInt64 * v) / 100 := by
  unfold sp_turn
  obtain ⟨_, e2⟩ := sp_ab_eq hw.1 hw.2 (by omega) (by omega : v.toInt ≤ 100000000)
  have q1 : (sl.toInt64 < sp_ab (w - v)) = (sl.toInt < ((w.toInt - v.toInt).natAbs : Int)) := propext (by rw [Int64.lt_iff_toInt_lt, pn_i64, e2])
  simp only [q1]
  by_cases h : sl.toInt < ((w.toInt - v.toInt).natAbs : Int)
  · rw [if_pos h, if_pos h]
    exact pn_64 (by omega) (by omega)
  · rw [if_neg h, if_neg h]
    have e3 : (100 - tr).toInt = 100 - tr.toInt := pn_sub (x := 100) (by rw [show (100 : Int32).toInt = 100 from rfl]; omega) (by rw [show (100 : Int32).toInt = 100 from rfl]; omega)
    have m1 := pn_mulb (x := tr.toInt) (y := w.toInt) (a := 100) (b := 800000) (by omega) (by omega) (by omega) (by omega)
    have m2 := pn_mulb (x := 100 - tr.toInt) (y := v.toInt) (a := 100) (b := 600000) (by omega) (by omega) (by omega) (by omega)
    have e4 : (tr.toInt64 * w).toInt = tr.toInt * w.toInt := by rw [pn_mul64 (by rw [pn_i64]; omega) (by rw [pn_i64]; omega), pn_i64]
    have e5 : ((100 - tr).toInt64 * v).toInt = (100 - tr.toInt) * v.toInt := by rw [pn_mul64 (by rw [pn_i64, e3]; omega) (by rw [pn_i64, e3]; omega), pn_i64, e3]
    have e6 : (tr.toInt64 * w + (100 - tr).toInt64 * v).toInt = tr.toInt * w.toInt + (100 - tr.toInt) * v.toInt := by rw [pn_add64 (by rw [e4, e5]; omega) (by rw [e4, e5]; omega), e4, e5]
    have h2 := pn_tdivb (x := tr.toInt * w.toInt + (100 - tr.toInt) * v.toInt) (y := 100) (m := 140000000) (k := 100) (by omega) (by omega) (by omega) (by omega)
    have h9 : 140000000 / 100 = 1400000 := by decide
    rw [h9] at h2
    have e7 : ((tr.toInt64 * w + (100 - tr).toInt64 * v) / 100).toInt = (tr.toInt * w.toInt + (100 - tr.toInt) * v.toInt).tdiv 100 := by
      rw [pn_div64 (y := 100) (by decide), e6]; rfl
    exact pn_64 (by rw [e7]; omega) (by rw [e7]; omega)
theorem pn_half64 {x : Int64} (h1 : -10000000 ≤ x.toInt) (h2 : x.toInt ≤ 10000000) : -10000000 ≤ (x / 2).toInt ∧ (x / 2).toInt ≤ 10000000 := by
  rw [pn_div64 (y := 2) (by decide)]
  have h := pn_tdiv x.toInt 2 (by omega)
  show -10000000 ≤ x.toInt.tdiv 2 ∧ x.toInt.tdiv 2 ≤ 10000000
  omega
theorem pn_half64b {x : Int64} (h1 : -2400000 ≤ x.toInt) (h2 : x.toInt ≤ 2400000) : -1200000 ≤ (x / 2).toInt ∧ (x / 2).toInt ≤ 1200000 := by
  rw [pn_div64 (y := 2) (by decide)]
  have h := pn_tdivb (x := x.toInt) (y := 2) (m := 2400000) (k := 2) (by omega) (by omega) (by omega) (by omega)
  have h9 : 2400000 / 2 = 1200000 := by decide
  rw [h9] at h
  exact h
/-- the distance as a long -/
theorem sp_d64 {sl ba : Int32} {a b w v : Int64} (h3 : 100 ≤ ba.toInt ∧ ba.toInt ≤ 1000) (ha : -600000 ≤ a.toInt ∧ a.toInt ≤ 600000) (hb : -600000 ≤ b.toInt ∧ b.toInt ≤ 600000) (hv : -600000 ≤ v.toInt ∧ v.toInt ≤ 600000) :
    (sp_d sl ba a b w v).toInt64 = (if sl.toInt64 < sp_ab (w - v) then (if w ≤ v then ((b - sp_s ba v) + b) / 2 else (a + (a + sp_s ba v)) / 2) else (a + b) / 2) ∧ -1200000 ≤ (sp_d sl ba a b w v).toInt ∧ (sp_d sl ba a b w v).toInt ≤ 1200000 := by
  have hs := sp_s_in h3 hv
  unfold sp_d
  generalize sp_s ba v = s at hs ⊢
  have k : ∀ z : Int64, -2400000 ≤ z.toInt → z.toInt ≤ 2400000 → (z / 2).toInt32.toInt64 = z / 2 ∧ -1200000 ≤ (z / 2).toInt32.toInt ∧ (z / 2).toInt32.toInt ≤ 1200000 := by
    intro z z1 z2
    have h := pn_half64b z1 z2
    have e := pn_64 (x := z / 2) (by omega) (by omega)
    refine ⟨e, ?_⟩
    rw [pn_l2i (by omega) (by omega)]
    exact h
  have e1 : (b - s).toInt = b.toInt - s.toInt := pn_sub64 (by omega) (by omega)
  have e2 : ((b - s) + b).toInt = b.toInt - s.toInt + b.toInt := by rw [pn_add64 (by omega) (by omega), e1]
  have e3 : (a + s).toInt = a.toInt + s.toInt := pn_add64 (by omega) (by omega)
  have e4 : (a + (a + s)).toInt = a.toInt + (a.toInt + s.toInt) := by rw [pn_add64 (by omega) (by omega), e3]
  have e5 : (a + b).toInt = a.toInt + b.toInt := pn_add64 (by omega) (by omega)
  by_cases h1 : sl.toInt64 < sp_ab (w - v)
  · simp only [if_pos h1]
    by_cases h2 : w ≤ v
    · simp only [if_pos h2]
      exact k _ (by omega) (by omega)
    · simp only [if_neg h2]
      exact k _ (by omega) (by omega)
  · simp only [if_neg h1]
    exact k _ (by omega) (by omega)
theorem sp_bias_in {V : sV} {e : Nat} {bias : Int32} (hB : 1 ≤ (V 0 5).toInt ∧ (V 0 5).toInt ≤ 64) (ht : -300000 ≤ (V 12 e).toInt ∧ (V 12 e).toInt ≤ 300000) (hb : -4800000 ≤ bias.toInt ∧ bias.toInt ≤ 4800000) :
    sp_bias V e bias = bias + (16 * V 12 e - bias) / V 0 5 ∧ -4800000 ≤ (sp_bias V e bias).toInt ∧ (sp_bias V e bias).toInt ≤ 4800000 := by
  have q : (16 : Int32).toInt = 16 := rfl
  have e1 : (16 * V 12 e).toInt = 16 * (V 12 e).toInt := by rw [pn_mul (x := 16) (by rw [q]; omega) (by rw [q]; omega), q]
  have e2 : (16 * V 12 e - bias).toInt = 16 * (V 12 e).toInt - bias.toInt := by rw [pn_sub (by omega) (by omega), e1]
  have e3 : ((16 * V 12 e - bias) / V 0 5).toInt = (16 * (V 12 e).toInt - bias.toInt).tdiv (V 0 5).toInt := by rw [pn_div (by omega), e2]
  have h := pn_tdiv (16 * (V 12 e).toInt - bias.toInt) (V 0 5).toInt (by omega)
  have e4 : ((16 * V 12 e - bias).toInt64 / (V 0 5).toInt64).toInt32 = (16 * V 12 e - bias) / V 0 5 := by
    apply Int32.toInt_inj.mp
    have e5 : ((16 * V 12 e - bias).toInt64 / (V 0 5).toInt64).toInt = (16 * (V 12 e).toInt - bias.toInt).tdiv (V 0 5).toInt := by
      rw [pn_div64 (by rw [pn_i64]; omega), pn_i64, pn_i64, e2]
    rw [pn_l2i (by rw [e5]; omega) (by rw [e5]; omega), e5, e3]
  unfold sp_bias
  rw [e4]
  refine ⟨rfl, ?_⟩
  rw [pn_add (by omega) (by omega)]
  omega
def mG (V : sV) (e : Nat) (p : sP) (M M' : xm_M) : Prop :=
  (∀ k j, ((k = 0 ∧ j = 4) ∨ (1 ≤ k ∧ k ≤ 4) ∨ (6 ≤ k ∧ k ≤ 10) ∨ k = 14 ∨ k = 15) → M'.1 k j = M.1 k j) ∧
  (∀ k j, 5 ≤ k → k ≤ 17 → ¬ j = e → M'.1 k j = M.1 k j) ∧
  (M'.1 0 18 = sp_X V e p ∧ M'.1 0 19 = sp_Y V e p ∧ M'.1 0 20 = sp_H V e p ∧ M'.1 0 21 = sp_L V e p ∧ M'.1 0 22 = p.2.2.2.2) ∧
  M'.1 5 e = sp_K V e p.2.2.2.2 ∧ M'.1 11 e = (sp_stepW V e).toInt32 ∧ M'.1 12 e = sp_T V e p.2.2.2.2 ∧ M'.1 13 e = sp_Dd V e p.2.2.2.2
theorem mG_of {V : sV} {e : Nat} {x y h l b K T d w : Int32} {M M1 : xm_M} (h1 : ∀ k j, ¬ (k = 5 ∧ j = e) → M1.1 k j = M.1 k j) (h2 : M1.1 5 e = K) (ex : M.1 0 18 = x) (ey : M.1 0 19 = y) (eh : M.1 0 20 = h) (el : M.1 0 21 = l) (eb : M.1 0 22 = b) (hK : sp_K V e b = K) (hT : sp_T V e b = T) (hd : sp_Dd V e b = d) (hw : (sp_stepW V e).toInt32 = w) :
    mG V e (x, y, h, l, b) M (xm_s (xm_s (xm_s (xm_s (xm_s (xm_s (xm_s M1 0 18 (M1.1 0 18 + sp_dx d (sp_ang (M1.1 0 20) T))) 0 19 (M1.1 0 19 + sp_dy d (sp_ang (M1.1 0 20) T))) 0 20 (sp_head ((M1.1 0 20).toInt64 + T.toInt64))) 0 21 (M1.1 0 21 + sp_ab32 d)) 11 e w) 12 e T) 13 e d) := by
  rw [h1 0 18 (by omega), h1 0 19 (by omega), h1 0 20 (by omega), h1 0 21 (by omega), ex, ey, eh, el]
  subst hK hT hd hw
  refine ⟨?_, ?_, ⟨?_, ?_, ?_, ?_, ?_⟩, ?_, ?_, ?_, ?_⟩
  · intro k j hk
    simp only [pm_s]
    simp only [show ¬ k = 11 by omega, show ¬ k = 12 by omega, show ¬ k = 13 by omega, false_and, if_false]
    rw [if_neg (by omega), if_neg (by omega), if_neg (by omega), if_neg (by omega), h1 k j (by omega)]
  · intro k j hk1 hk2 hj
    simp only [pm_s]
    simp only [show ¬ k = 0 by omega, hj, and_false, false_and, if_false]
    exact h1 k j (by omega)
  · simp [pm_s]; rfl
  · simp [pm_s]; rfl
  · simp [pm_s]; rfl
  · simp [pm_s]; rfl
  · simp [pm_s]
    rw [h1 0 22 (by omega), eb]
  · simp [pm_s]
    exact h2
  · simp [pm_s]
  · simp [pm_s]
  · simp [pm_s]
theorem pn_nn (x : Int32) : 0 ≤ x ↔ 0 ≤ x.toInt := Int32.le_iff_toInt_le
/-- ranges of the place that the way has come to -/
theorem sp_P_in {V : sV} (hok : sp_ok V) : ∀ n : Nat, (n : Int) ≤ (V 1 2).toInt → (-4800000 ≤ (sp_P V n).2.2.2.2.toInt ∧ (sp_P V n).2.2.2.2.toInt ≤ 4800000) ∧ 0 ≤ (sp_P V n).2.2.2.1.toInt ∧ (sp_P V n).2.2.2.1.toInt ≤ 1200000 * n := by
  obtain ⟨r0, r1, r2, r3, r4, r5, r6, r7, r8, _, _, rn, _, _, _, _, _, rlog⟩ := hok
  intro n
  induction n with
  | zero => intro _; exact (by decide : (-4800000 ≤ (0 : Int32).toInt ∧ (0 : Int32).toInt ≤ 4800000) ∧ 0 ≤ (0 : Int32).toInt ∧ (0 : Int32).toInt ≤ 1200000 * ((0 : Nat) : Int))
  | succ n ih =>
    intro hn
    obtain ⟨hb, hl⟩ := ih (by omega)
    rw [px_P2]
    generalize sp_P V n = p at hb hl ⊢
    by_cases hs : 0 ≤ V 9 n
    · have e : (sp_step V n p).1 = (sp_mx V n, sp_my V n, p.2.2.1, p.2.2.2.1, p.2.2.2.2) := by unfold sp_step; rw [if_pos hs]
      rw [e]
      exact ⟨hb, hl.1, by show p.2.2.2.1.toInt ≤ _; omega⟩
    · have hl2 : (-300 ≤ (V 10 n).toInt ∧ (V 10 n).toInt ≤ 300) ∧ (-300 ≤ (V 11 n).toInt ∧ (V 11 n).toInt ≤ 300) ∧ -300000 ≤ (V 12 n).toInt ∧ (V 12 n).toInt ≤ 300000 := by
        rcases rlog n (by omega) with z | z
        · exact z.2
        · exact absurd ((pn_nn _).mpr z.1) hs
      by_cases h0 : V 10 n = 0 ∧ V 11 n = 0
      · have e : (sp_step V n p).1 = (p.1, p.2.1, p.2.2.1, p.2.2.2.1, sp_bias V n p.2.2.2.2) := by unfold sp_step; rw [if_neg hs, if_pos h0]
        rw [e]
        exact ⟨(sp_bias_in r5 hl2.2.2 hb).2, hl.1, by show p.2.2.2.1.toInt ≤ _; omega⟩
      · have e : (sp_step V n p).1.2.2.2 = (sp_L V n p, p.2.2.2.2) := by
          unfold sp_step
          rw [if_neg hs, if_neg h0]
          split <;> rfl
        have eA : (sp_A V n).toInt = (V 0 0).toInt * (V 10 n).toInt ∧ -(2000 * 300) ≤ (V 0 0).toInt * (V 10 n).toInt ∧ (V 0 0).toInt * (V 10 n).toInt ≤ 2000 * 300 := pn_m64 (a := 2000) (b := 300) (by omega) (by omega) (by omega) (by omega) (by omega)
        have eB : (sp_B V n).toInt = (V 0 1).toInt * (V 11 n).toInt ∧ -(2000 * 300) ≤ (V 0 1).toInt * (V 11 n).toInt ∧ (V 0 1).toInt * (V 11 n).toInt ≤ 2000 * 300 := pn_m64 (a := 2000) (b := 300) (by omega) (by omega) (by omega) (by omega) (by omega)
        have hd := (sp_d64 (sl := V 0 3) (ba := V 0 2) (a := sp_A V n) (b := sp_B V n) (w := sp_stepW V n) (v := sp_v p.2.2.2.2 (V 12 n)) r2 (by omega) (by omega) (sp_v_in hb hl2.2.2)).2
        rw [e]
        refine ⟨hb, ?_⟩
        show 0 ≤ (sp_L V n p).toInt ∧ (sp_L V n p).toInt ≤ _
        unfold sp_L
        have hd2 : -1200000 ≤ (sp_Dd V n p.2.2.2.2).toInt ∧ (sp_Dd V n p.2.2.2.2).toInt ≤ 1200000 := hd
        generalize sp_Dd V n p.2.2.2.2 = d at hd2
        have h3 : 0 ≤ (sp_ab32 d).toInt ∧ (sp_ab32 d).toInt ≤ 1200000 := by
          unfold sp_ab32
          by_cases z : 0 ≤ d
          · rw [if_pos z]
            exact ⟨(pn_nn d).mp z, hd2.2⟩
          · rw [if_neg z, pn_sub (by rw [show (0 : Int32).toInt = 0 from rfl]; omega) (by rw [show (0 : Int32).toInt = 0 from rfl]; omega), show (0 : Int32).toInt = 0 from rfl]
            have : ¬ 0 ≤ d.toInt := fun y => z ((pn_nn d).mpr y)
            omega
        rw [pn_add (by omega) (by omega)]
        omega
/-! BOTH MEMORIES: what holds between them -/
/-- the view of a class's state, its object at cell s -/
def cVs (s : Nat) (M : xm_M) : sV := fun r j => if r = 0 then M.1 (s + 1) j else if r = 1 then M.1 s (4 + j) else if r < 7 then M.1 (s + 1 + r) j else if r < 9 then M.1 (s + 2 + r) j else if r < 13 then M.1 (s + 3 + r) j else 0
theorem cVs_1 (M : xm_M) : cV 2 M = cVs 1 M := by
  funext r j
  unfold cV cVs
  repeat' split
  all_goals first | rfl | omega
/-- what a call that asks leaves alone -/
def cK (M M' : xm_M) : Prop := ∀ k j, (k < 49 ∨ k = 69 ∧ j = 1 ∨ k = 70) → M'.1 k j = M.1 k j
theorem cVs_keep {s : Nat} {M M' : xm_M} (h : ∀ k j, s ≤ k → k < s + 16 → M'.1 k j = M.1 k j) : cVs s M' = cVs s M := by
  funext r j
  unfold cVs
  repeat' split
  all_goals first | rfl | exact h _ _ (by omega) (by omega)
theorem cK_refl (M : xm_M) : cK M M := fun _ _ _ => rfl
theorem cK_trans {M M1 M2 : xm_M} (h1 : cK M M1) (h2 : cK M1 M2) : cK M M2 := fun k j h => (h2 k j h).trans (h1 k j h)
/-! settings -/
def sp_lo (j : Nat) : Int := match j with | 0 => 100 | 1 => 100 | 2 => 100 | 5 => 1 | _ => 0
def sp_hi (j : Nat) : Int := match j with | 0 => 2000 | 1 => 2000 | 2 => 1000 | 3 => 200000 | 4 => 100 | 5 => 64 | 6 => 100 | 7 => 2000 | 8 => 900000 | _ => 0
theorem px_r9 {P : Nat → Prop} (h0 : P 0) (h1 : P 1) (h2 : P 2) (h3 : P 3) (h4 : P 4) (h5 : P 5) (h6 : P 6) (h7 : P 7) (h8 : P 8) : ∀ r, r < 9 → P r := by
  intro r hr
  match r, hr with
  | 0, _ => exact h0
  | 1, _ => exact h1
  | 2, _ => exact h2
  | 3, _ => exact h3
  | 4, _ => exact h4
  | 5, _ => exact h5
  | 6, _ => exact h6
  | 7, _ => exact h7
  | 8, _ => exact h8
/-- the ranges of counts, the start, map and log -/
def sp_okM (V : sV) : Prop :=
  (0 ≤ (V 1 0).toInt ∧ (V 1 0).toInt ≤ 8) ∧ (0 ≤ (V 1 1).toInt ∧ (V 1 1).toInt ≤ 6) ∧ (0 ≤ (V 1 2).toInt ∧ (V 1 2).toInt ≤ 120) ∧ (-100000 ≤ (V 1 3).toInt ∧ (V 1 3).toInt ≤ 100000) ∧ (-100000 ≤ (V 1 4).toInt ∧ (V 1 4).toInt ≤ 100000) ∧ (0 ≤ (V 1 5).toInt ∧ (V 1 5).toInt < 3600000) ∧
  (∀ c : Nat, (c : Int) < (V 1 0).toInt → (∀ r, 2 ≤ r → r < 6 → -100000 ≤ (V r c).toInt ∧ (V r c).toInt ≤ 100000) ∧ 0 ≤ (V 6 c).toInt ∧ (V 6 c).toInt < 18000) ∧
  (∀ j : Nat, (j : Int) < (V 1 1).toInt → ∀ r, 7 ≤ r → r < 9 → -100000 ≤ (V r j).toInt ∧ (V r j).toInt ≤ 100000) ∧
  (∀ e : Nat, (e : Int) < (V 1 2).toInt → (V 9 e = -6 ∧ (-300 ≤ (V 10 e).toInt ∧ (V 10 e).toInt ≤ 300) ∧ (-300 ≤ (V 11 e).toInt ∧ (V 11 e).toInt ≤ 300) ∧ -300000 ≤ (V 12 e).toInt ∧ (V 12 e).toInt ≤ 300000) ∨ (0 ≤ (V 9 e).toInt ∧ (V 9 e).toInt < (V 1 1).toInt))
theorem sp_ok_iff (V : sV) : sp_ok V ↔ (∀ j, j < 9 → sp_lo j ≤ (V 0 j).toInt ∧ (V 0 j).toInt ≤ sp_hi j) ∧ sp_okM V := by
  constructor
  · intro h
    obtain ⟨h0, h1, h2, h3, h4, h5, h6, h7, h8, h9⟩ := h
    exact ⟨px_r9 h0 h1 h2 h3 h4 h5 h6 h7 h8, h9⟩
  · intro h
    exact ⟨h.1 0 (by omega), h.1 1 (by omega), h.1 2 (by omega), h.1 3 (by omega), h.1 4 (by omega), h.1 5 (by omega), h.1 6 (by omega), h.1 7 (by omega), h.1 8 (by omega), h.2⟩
/-- a number is a setting's, and that is its index -/
def sp_tk (a v : Int32) : Int32 := if a = 0 ∨ a = 1 then (if 100 ≤ v ∧ v ≤ 2000 then 1 else 0) else if a = 2 then (if 100 ≤ v ∧ v ≤ 1000 then 1 else 0) else if a = 3 then (if 0 ≤ v ∧ v ≤ 200000 then 1 else 0) else if a = 4 ∨ a = 6 then (if 0 ≤ v ∧ v ≤ 100 then 1 else 0) else if a = 5 then (if 1 ≤ v ∧ v ≤ 64 then 1 else 0) else if a = 7 then (if 0 ≤ v ∧ v ≤ 2000 then 1 else 0) else if a = 8 then (if 0 ≤ v ∧ v ≤ 900000 then 1 else 0) else 0
theorem pm_bit {P : Prop} [Decidable P] {α : Type} (f : Int32 → α) (z : α) : (if (if P then (1 : Int32) else 0) = 0 ∨ (if P then (1 : Int32) else 0) = 1 then f (if P then 1 else 0) else z) = f (if P then 1 else 0) := by
  by_cases h : P
  · simp only [if_pos h]; rfl
  · simp only [if_neg h]; rfl
theorem pm_bit2 {P : Prop} [Decidable P] {α : Type} (f : Int32 → α) : (if (if P then (1 : Int32) else 0) = 0 then f 0 else f 1) = f (if P then 1 else 0) := by
  by_cases h : P
  · simp only [if_pos h]; rfl
  · simp only [if_neg h]; rfl
theorem px_isSet (a v : Int32) (M : xm_M) : fX3_isSetting a v M = some (sp_tk a v, M) := by
  unfold fX3_isSetting
  simp only [px_in, pb_i, pm_bit2 (fun x => some (x, M))]
  by_cases h : a < 0 ∨ 9 ≤ a.toNatClampNeg
  · have hk : sp_tk a v = 0 := by
      have hn : ∀ j : Nat, j < 9 → ¬ a = nI j := by
        intro j hj z
        rw [z] at h
        exact px_kn hj (by omega) h
      have n0 : ¬ a = 0 := hn 0 (by omega)
      have n1 : ¬ a = 1 := hn 1 (by omega)
      have n2 : ¬ a = 2 := hn 2 (by omega)
      have n3 : ¬ a = 3 := hn 3 (by omega)
      have n4 : ¬ a = 4 := hn 4 (by omega)
      have n5 : ¬ a = 5 := hn 5 (by omega)
      have n6 : ¬ a = 6 := hn 6 (by omega)
      have n7 : ¬ a = 7 := hn 7 (by omega)
      have n8 : ¬ a = 8 := hn 8 (by omega)
      unfold sp_tk
      simp only [n0, n1, n2, n3, n4, n5, n6, n7, n8, or_self, if_false]
    rw [hk]
    by_cases h1 : a < 0
    · rw [if_pos h1]
    · rw [if_neg h1]
      have h9 : 9 ≤ a := by
        rw [Int32.le_iff_toInt_le]
        have h2 : 9 ≤ a.toNatClampNeg := by
          rcases h with z | z
          · exact absurd z h1
          · exact z
        have h3 : a.toNatClampNeg = a.toInt.toNat := rfl
        show (9 : Int) ≤ a.toInt
        omega
      rw [if_pos h9]
  · obtain ⟨j, hj, rfl⟩ := vp_in_of (x := a) (n := 9) h (by omega)
    have h1 : ¬ nI j < 0 := fun z => h (Or.inl z)
    have h9 : ¬ (9 : Int32) ≤ nI j := by
      rw [show (9 : Int32) = nI 9 from rfl, nI_leI (by omega) (by omega)]
      omega
    rw [if_neg h1, if_neg h9, if_neg h9, if_neg h, if_neg h, nI_clamp (by omega)]
    revert j
    intro j hj
    match j, hj with
    | 0, _ => intro _ _ _; rfl
    | 1, _ => intro _ _ _; rfl
    | 2, _ => intro _ _ _; rfl
    | 3, _ => intro _ _ _; rfl
    | 4, _ => intro _ _ _; rfl
    | 5, _ => intro _ _ _; rfl
    | 6, _ => intro _ _ _; rfl
    | 7, _ => intro _ _ _; rfl
    | 8, _ => intro _ _ _; rfl
/-! THE CALLS that change the state -/
theorem px_leI {a : Int32} {x : Int} {b : Int32} (hb : b.toInt = x) : (b ≤ a) = (x ≤ a.toInt) := by
  rw [← hb]; exact propext Int32.le_iff_toInt_le
theorem px_leJ {a : Int32} {x : Int} {b : Int32} (hb : b.toInt = x) : (a ≤ b) = (a.toInt ≤ x) := by
  rw [← hb]; exact propext Int32.le_iff_toInt_le
theorem sp_tk_of {a v : Int32} (h : ¬ sp_tk a v = 0) : ∃ j : Nat, j < 9 ∧ a = nI j ∧ sp_lo j ≤ v.toInt ∧ v.toInt ≤ sp_hi j := by
  have k : ∀ lo hi : Int32, ¬ (if lo ≤ v ∧ v ≤ hi then (1 : Int32) else 0) = 0 → lo.toInt ≤ v.toInt ∧ v.toInt ≤ hi.toInt := by
    intro lo hi z
    by_cases y : lo ≤ v ∧ v ≤ hi
    · exact ⟨Int32.le_iff_toInt_le.mp y.1, Int32.le_iff_toInt_le.mp y.2⟩
    · rw [if_neg y] at z; exact absurd rfl z
  unfold sp_tk at h
  by_cases h0 : a = 0
  · subst h0; exact ⟨0, by omega, rfl, k 100 2000 h⟩
  by_cases h1 : a = 1
  · subst h1; exact ⟨1, by omega, rfl, k 100 2000 h⟩
  by_cases h2 : a = 2
  · subst h2; exact ⟨2, by omega, rfl, k 100 1000 h⟩
  by_cases h3 : a = 3
  · subst h3; exact ⟨3, by omega, rfl, k 0 200000 h⟩
  by_cases h4 : a = 4
  · subst h4; exact ⟨4, by omega, rfl, k 0 100 h⟩
  by_cases h5 : a = 5
  · subst h5; exact ⟨5, by omega, rfl, k 1 64 h⟩
  by_cases h6 : a = 6
  · subst h6; exact ⟨6, by omega, rfl, k 0 100 h⟩
  by_cases h7 : a = 7
  · subst h7; exact ⟨7, by omega, rfl, k 0 2000 h⟩
  by_cases h8 : a = 8
  · subst h8; exact ⟨8, by omega, rfl, k 0 900000 h⟩
  simp only [h0, h1, h2, h3, h4, h5, h6, h7, h8, or_self, if_false] at h
  exact absurd trivial h
/-- a store into the state's cells, as the view has it -/
theorem cVs_st {k j : Nat} {v : Int32} {M : xm_M} {r i : Nat} : cVs 1 (xm_s M k j v) r i = if (r = 0 ∧ k = 2 ∧ i = j) ∨ (r = 1 ∧ k = 1 ∧ 4 + i = j) ∨ (2 ≤ r ∧ r < 7 ∧ k = 2 + r ∧ i = j) ∨ (7 ≤ r ∧ r < 9 ∧ k = 3 + r ∧ i = j) ∨ (9 ≤ r ∧ r < 13 ∧ k = 4 + r ∧ i = j) then v else cVs 1 M r i := by
  unfold cVs
  by_cases h0 : r = 0
  · rw [if_pos h0, if_pos h0, pm_s]
    by_cases h : 1 + 1 = k ∧ i = j
    · rw [if_pos h, if_pos (by omega)]
    · rw [if_neg h, if_neg (by omega)]
  · by_cases h1 : r = 1
    · rw [if_neg h0, if_pos h1, if_neg h0, if_pos h1, pm_s]
      by_cases h : 1 = k ∧ 4 + i = j
      · rw [if_pos h, if_pos (by omega)]
      · rw [if_neg h, if_neg (by omega)]
    · rw [if_neg h0, if_neg h1, if_neg h0, if_neg h1]
      by_cases h2 : r < 7
      · rw [if_pos h2, if_pos h2, pm_s]
        by_cases h : 1 + 1 + r = k ∧ i = j
        · rw [if_pos h, if_pos (by omega)]
        · rw [if_neg h, if_neg (by omega)]
      · rw [if_neg h2, if_neg h2]
        by_cases h3 : r < 9
        · rw [if_pos h3, if_pos h3, pm_s]
          by_cases h : 1 + 2 + r = k ∧ i = j
          · rw [if_pos h, if_pos (by omega)]
          · rw [if_neg h, if_neg (by omega)]
        · rw [if_neg h3, if_neg h3]
          by_cases h4 : r < 13
          · rw [if_pos h4, if_pos h4, pm_s]
            by_cases h : 1 + 3 + r = k ∧ i = j
            · rw [if_pos h, if_pos (by omega)]
            · rw [if_neg h, if_neg (by omega)]
          · rw [if_neg h4, if_neg h4, if_neg (by omega)]
theorem pi_pred (c : Nat) : nI (c + 1) - 1 = nI c := by
  rw [show (1 : Int32) = nI 1 from rfl, ← pi_add]
  exact Int32.add_sub_cancel _ _
theorem pi_succ (c : Nat) : nI c + 1 = nI (c + 1) := by
  rw [show (1 : Int32) = nI 1 from rfl, pi_add]
theorem px_min (a b : Int32) : (if b < a then b else a) = (if b ≤ a then b else a) := by
  by_cases h : b < a
  · rw [if_pos h, if_pos (by rw [Int32.lt_iff_toInt_lt] at h; rw [Int32.le_iff_toInt_le]; omega)]
  · rw [if_neg h]
    by_cases h2 : b ≤ a
    · rw [if_pos h2]
      rw [Int32.lt_iff_toInt_lt] at h; rw [Int32.le_iff_toInt_le] at h2
      exact Int32.toInt_inj.mp (by omega)
    · rw [if_neg h2]
theorem px_max (a b : Int32) : (if a < b then b else a) = (if b ≤ a then a else b) := by
  by_cases h : a < b
  · rw [if_pos h, if_neg (Int32.not_le.mpr h)]
  · rw [if_neg h, if_pos (Int32.not_lt.mp h)]
theorem px_lt_nI {x : Int32} {c n : Nat} (hx : x = nI c) (hc : c < 2 ^ 31) (hn : n < 2 ^ 31) : (x < nI n) = (c < n) := by
  rw [hx]
  exact propext (by rw [Int32.lt_iff_toInt_lt, nI_toInt hc, nI_toInt hn]; omega)
theorem px_eq_nI {x : Int32} {c n : Nat} (hx : x = nI c) (hc : c < 2 ^ 31) (hn : n < 2 ^ 31) : (x = nI n) = (c = n) := by
  rw [hx]
  refine propext ⟨fun h => ?_, fun h => by rw [h]⟩
  have h2 := congrArg Int32.toInt h
  rw [nI_toInt hc, nI_toInt hn] at h2
  omega
/-- the four forms of an entry's facts -/
def sp_form (V : sV) (e : Nat) (F : Nat → Int32) : Prop :=
  (0 ≤ V 9 e ∧ ∃ x y, F = sp_row 4 (V 9 e) sp_NG sp_NG sp_NG sp_NG sp_NG sp_NG sp_NG x y) ∨
  (¬ 0 ≤ V 9 e ∧ V 10 e = 0 ∧ V 11 e = 0 ∧ F = sp_row 0 0 0 (V 12 e) sp_NG sp_NG sp_NG sp_NG sp_NG sp_NG sp_NG) ∨
  (¬ 0 ≤ V 9 e ∧ ∃ k w t d, (k = 1 ∨ k = 2 ∨ k = 3) ∧ F = sp_row k (V 10 e) (V 11 e) (V 12 e) w t d sp_NG sp_NG sp_NG sp_NG) ∨
  (¬ 0 ≤ V 9 e ∧ ∃ k w t d c q, (k = 1 ∨ k = 2 ∨ k = 3) ∧ (0 : Int32) ≤ c ∧ F = sp_row k (V 10 e) (V 11 e) (V 12 e) w t d c q sp_NG sp_NG)
theorem sp_forms {V : sV} (hok : sp_ok V) (e : Nat) (p : sP) : sp_form V e (sp_step V e p).2 := by
  by_cases hs : 0 ≤ V 9 e
  · refine Or.inl ⟨hs, p.1 - sp_mx V e, p.2.1 - sp_my V e, ?_⟩
    unfold sp_step
    rw [if_pos hs]
  · refine Or.inr ?_
    by_cases h0 : V 10 e = 0 ∧ V 11 e = 0
    · refine Or.inl ⟨hs, h0.1, h0.2, ?_⟩
      unfold sp_step
      rw [if_neg hs, if_pos h0]
    · refine Or.inr ?_
      cases hw : sp_who V (sp_X V e p) (sp_Y V e p) (sp_H V e p) with
      | none =>
        refine Or.inl ⟨hs, sp_K V e p.2.2.2.2, (sp_stepW V e).toInt32, sp_T V e p.2.2.2.2, sp_Dd V e p.2.2.2.2, sp_kind_in _ _ _, ?_⟩
        unfold sp_step
        rw [if_neg hs, if_neg h0, hw]
      | some c =>
        refine Or.inr ⟨hs, sp_K V e p.2.2.2.2, (sp_stepW V e).toInt32, sp_T V e p.2.2.2.2, sp_Dd V e p.2.2.2.2, nI c, sp_pl V (sp_H V e p) c, sp_kind_in _ _ _, ?_, by unfold sp_step; rw [if_neg hs, if_neg h0, hw]⟩
        have h8 := hok.2.2.2.2.2.2.2.2.2.1
        have hc : c < 8 := by
          have := (sp_fst_in _ _ _ hw).2.1
          have h9 : (V 1 0).toNatClampNeg = (V 1 0).toInt.toNat := rfl
          omega
        exact (pn_nn _).mpr (by rw [nI_toInt (by omega)]; omega)
theorem px_n5 : nI 5 = 5 := rfl
theorem px_n6 : nI 6 = 6 := rfl
theorem px_n7 : nI 7 = 7 := rfl
theorem px_n8 : nI 8 = 8 := rfl
theorem px_n9 : nI 9 = 9 := rfl
theorem px_n10 : nI 10 = 10 := rfl
theorem px_facts {w e : Nat} {M : xm_M} (hw : w < 11) (he : e < 120) : fX3_item_ 56 11 57 120 (nI w) (nI e) M = some (M.1 (57 + w) e, M) := by
  rw [px_item_ (px_kn hw (by omega)) (by omega) (px_kn he (by omega)) (by omega), nI_clamp (by omega), nI_clamp (by omega)]
/-- an entry's number within, on both sides -/
theorem px_wn {a : Int32} {n : Nat} (hn : n < 1000) (lo : Int32) : (lo ≤ a ∧ a ≤ nI n - 1) ↔ (lo.toInt ≤ a.toInt ∧ a.toInt < n) := by
  have e : (nI n - 1).toInt = (n : Int) - 1 := by
    have e1 : (1 : Int32).toInt = 1 := rfl
    rw [pn_sub (by rw [nI_toInt (by omega), e1]; omega) (by rw [nI_toInt (by omega), e1]; omega), nI_toInt (by omega), e1]
  rw [Int32.le_iff_toInt_le, Int32.le_iff_toInt_le, e]
  omega
theorem px_ltn {a : Int32} {n : Nat} (hn : n < 1000) : (a < nI n) = (a.toInt < n) := propext (by rw [Int32.lt_iff_toInt_lt, nI_toInt (by omega)])
theorem px_lt0 (a : Int32) : (a < 0) = ¬ 0 ≤ a.toInt := by
  rw [← pn_nn a]
  exact propext ⟨fun z => Int32.not_le.mpr z, fun z => Int32.not_le.mp z⟩
theorem px_to (lo hi : Int32) (a : Int32) : (lo ≤ a ∧ a ≤ hi) ↔ (lo.toInt ≤ a.toInt ∧ a.toInt ≤ hi.toInt) := by
  rw [Int32.le_iff_toInt_le, Int32.le_iff_toInt_le]
theorem px_z0 : (0 : Int32).toInt = 0 := rfl
