/-! THE LAW: a step goes by its distance along the middle heading -/
def sgH (x : Nat) : Nat := 4000000 * (x * (18000 - x)) / (405000000 - x * (18000 - x))
def sgK (n : Nat) : Bool := Nat.rec true (fun t ih => (Nat.ble (sgH t * sgH t + sgH (t + 9000) * sgH (t + 9000)) 1010000000000) && ih) n
theorem sgK_all : sgK 9001 = true := by decide +kernel
theorem sgK_s (n : Nat) : sgK (n + 1) = ((Nat.ble (sgH n * sgH n + sgH (n + 9000) * sgH (n + 9000)) 1010000000000) && sgK n) := rfl
theorem sgK_at : ∀ n t, sgK n = true → t < n → sgH t * sgH t + sgH (t + 9000) * sgH (t + 9000) ≤ 1010000000000 := by
  intro n
  induction n with
  | zero => intro t _ h; omega
  | succ n ih =>
    intro t h ht
    rw [sgK_s, Bool.and_eq_true] at h
    by_cases e : t = n
    · rw [e]; exact Nat.le_of_ble_eq_true h.1
    · exact ih t h.2 (by omega)
theorem sg_two {t : Nat} (h : t ≤ 9000) : sgH t * sgH t + sgH (t + 9000) * sgH (t + 9000) ≤ 1010000000000 := sgK_at 9001 t sgK_all (by omega)
theorem sg_b {k : Nat} (hk : k ≤ 18000) : k * (18000 - k) ≤ 81000000 := by
  have h1 : ((k * (18000 - k) : Nat) : Int) = (k : Int) * (18000 - k) := by rw [Int.natCast_mul, Int.natCast_sub hk]; rfl
  have h2 : (k : Int) * (18000 - k) = 18000 * k - k * k := by rw [Int.mul_sub, Int.mul_comm]
  have h3 : ((k : Int) - 9000) * (k - 9000) = k * k - 9000 * k - 9000 * k + 81000000 := by
    rw [Int.sub_mul, Int.mul_sub, Int.mul_sub]
    omega
  have h4 : 0 ≤ ((k : Int) - 9000) * (k - 9000) := by
    rw [← Int.natAbs_mul_self]
    exact Int.natCast_nonneg _
  omega
theorem sg_le {k : Nat} (hk : k ≤ 18000) : sgH k ≤ 1000000 := by
  have hb := sg_b hk
  unfold sgH
  generalize k * (18000 - k) = b at hb
  exact Nat.div_le_of_le_mul (by omega)
theorem sg_q {y : Int64} {b c q : Nat} (e3 : y.toInt = (b : Int)) (hc : c + b = 405000000) (hb : b ≤ 81000000) (hq : 4000000 * b / c = q) (hq1 : q ≤ 1000000) : (4000000 * y / (405000000 - y)).toInt32.toInt = (q : Int) := by
  have c4 : (4000000 : Int64).toInt = 4000000 := rfl
  have c5 : (405000000 : Int64).toInt = 405000000 := rfl
  have e4 : (4000000 * y).toInt = ((4000000 * b : Nat) : Int) := by rw [pn_mul64 (by rw [c4, e3]; omega) (by rw [c4, e3]; omega), c4, e3, Int.natCast_mul]; rfl
  have e5 : (405000000 - y).toInt = (c : Int) := by rw [pn_sub64 (by rw [c5, e3]; omega) (by rw [c5, e3]; omega), c5, e3]; omega
  have hc0 : 0 < (c : Int) := by omega
  have e6 : (4000000 * y / (405000000 - y)).toInt = (q : Int) := by
    rw [pn_div64 (by rw [e5]; exact hc0), e4, e5, Int.tdiv_eq_ediv_of_nonneg (Int.natCast_nonneg _), ← Int.natCast_ediv, hq]
  rw [pn_l2i (by rw [e6]; omega) (by rw [e6]; omega), e6]
theorem sp_half_nat {x : Int32} {k : Nat} (hx : x.toInt = (k : Int)) (hk : k ≤ 18000) : (sp_half x).toInt = (sgH k : Int) := by
  obtain ⟨e1, _⟩ := sp_half_ok (x := x) (by omega) (by omega)
  have hb := sg_b hk
  have hc := sg_le hk
  have e2 : (18000 - x.toInt64).toInt = 18000 - (k : Int) := by
    rw [pn_sub64 (x := 18000) (by rw [pn_i64, show (18000 : Int64).toInt = 18000 from rfl]; omega) (by rw [pn_i64, show (18000 : Int64).toInt = 18000 from rfl]; omega), pn_i64, hx]; rfl
  have hm : (k : Int) * (18000 - k) = ((k * (18000 - k) : Nat) : Int) := by rw [Int.natCast_mul, Int.natCast_sub hk]; rfl
  have e3 : (x.toInt64 * (18000 - x.toInt64)).toInt = ((k * (18000 - k) : Nat) : Int) := by
    have hb2 : ((k * (18000 - k) : Nat) : Int) ≤ 81000000 := Int.ofNat_le.mpr hb
    have hb3 : 0 ≤ ((k * (18000 - k) : Nat) : Int) := Int.natCast_nonneg _
    rw [pn_mul64 (by rw [pn_i64, hx, e2, hm]; omega) (by rw [pn_i64, hx, e2, hm]; omega), pn_i64, hx, e2, hm]
  have hcc : 405000000 - k * (18000 - k) + k * (18000 - k) = 405000000 := Nat.sub_add_cancel (Nat.le_trans hb (by decide))
  unfold sp_half
  rw [e1]
  exact sg_q e3 hcc hb rfl hc
/-- the size of a sine -/
def sgA (a : Nat) : Nat := if 18000 < a then sgH (a - 18000) else sgH a
theorem sp_sin_nat {a : Int32} {k : Nat} (ha : a.toInt = (k : Int)) (hk : k < 36000) : (sp_sin a).toInt.natAbs = sgA k := by
  have c : (18000 : Int32).toInt = 18000 := rfl
  unfold sp_sin sgA
  have z : (18000 < a) = (18000 < k) := propext (by rw [Int32.lt_iff_toInt_lt, c, ha]; omega)
  simp only [z]
  by_cases h : 18000 < k
  · rw [if_pos h, if_pos h]
    have e : (a - 18000).toInt = ((k - 18000 : Nat) : Int) := by rw [pn_sub (by rw [c]; omega) (by rw [c]; omega), c, ha]; omega
    have e2 := sp_half_nat e (by omega)
    have e3 := sg_le (k := k - 18000) (by omega)
    rw [pn_neg (by omega), e2]
    omega
  · rw [if_neg h, if_neg h, sp_half_nat ha (by omega)]
    omega
theorem sp_cos_nat {a : Int32} {k : Nat} (ha : a.toInt = (k : Int)) (hk : k < 36000) : (sp_cos a).toInt.natAbs = sgA ((k + 9000) % 36000) := by
  have e : (sp_mod36 (a + 9000)).toInt = (((k + 9000) % 36000 : Nat) : Int) := by
    unfold sp_mod36
    rw [pn_irem, Int32.toInt_mod, pn_add (y := 9000) (by rw [show (9000 : Int32).toInt = 9000 from rfl]; omega) (by rw [show (9000 : Int32).toInt = 9000 from rfl]; omega), show (9000 : Int32).toInt = 9000 from rfl, show (36000 : Int32).toInt = 36000 from rfl, ha, Int.tmod_eq_emod_of_nonneg (by omega)]
    omega
  exact sp_sin_nat e (Nat.mod_lt _ (by omega))
theorem sg_pair {k : Nat} (hk : k < 36000) : sgA k * sgA k + sgA ((k + 9000) % 36000) * sgA ((k + 9000) % 36000) ≤ 1010000000000 := by
  have h18 : sgH 18000 = sgH 0 := by decide
  unfold sgA
  by_cases h1 : k < 9000
  · rw [Nat.mod_eq_of_lt (by omega), if_neg (by omega), if_neg (by omega)]
    exact sg_two (by omega)
  · by_cases h2 : k ≤ 18000
    · obtain ⟨t, rfl⟩ : ∃ t, k = t + 9000 := ⟨k - 9000, by omega⟩
      have h := sg_two (t := t) (by omega)
      rw [Nat.mod_eq_of_lt (by omega), if_neg (by omega)]
      by_cases h3 : 18000 < t + 9000 + 9000
      · rw [if_pos h3, show t + 9000 + 9000 - 18000 = t by omega]
        omega
      · rw [if_neg h3, show t + 9000 + 9000 = 18000 by omega, h18]
        have : t = 0 := by omega
        subst this
        omega
    · by_cases h3 : k < 27000
      · obtain ⟨t, rfl⟩ : ∃ t, k = t + 18000 := ⟨k - 18000, by omega⟩
        have h := sg_two (t := t) (by omega)
        rw [Nat.mod_eq_of_lt (by omega), if_pos (by omega), if_pos (by omega), show t + 18000 - 18000 = t by omega, show t + 18000 + 9000 - 18000 = t + 9000 by omega]
        exact h
      · obtain ⟨t, rfl⟩ : ∃ t, k = t + 27000 := ⟨k - 27000, by omega⟩
        have h := sg_two (t := t) (by omega)
        rw [show (t + 27000 + 9000) % 36000 = t by omega, if_pos (by omega), if_neg (by omega), show t + 27000 - 18000 = t + 9000 by omega]
        omega
/-- the squares of what it goes -/
theorem sg_sq {a C S p q : Nat} (h : C * C + S * S ≤ 1010000000000) (hp : p * 1000000 ≤ a * C) (hq : q * 1000000 ≤ a * S) : p * p + q * q ≤ a * a + a * a / 100 := by
  have p2 : (p * 1000000) * (p * 1000000) ≤ (a * C) * (a * C) := Nat.mul_le_mul hp hp
  have q2 : (q * 1000000) * (q * 1000000) ≤ (a * S) * (a * S) := Nat.mul_le_mul hq hq
  have e1 : (p * 1000000) * (p * 1000000) = p * p * 1000000000000 := by rw [Nat.mul_mul_mul_comm]
  have e2 : (q * 1000000) * (q * 1000000) = q * q * 1000000000000 := by rw [Nat.mul_mul_mul_comm]
  have e3 : (a * C) * (a * C) = a * a * (C * C) := Nat.mul_mul_mul_comm _ _ _ _
  have e4 : (a * S) * (a * S) = a * a * (S * S) := Nat.mul_mul_mul_comm _ _ _ _
  have e5 : a * a * (C * C) + a * a * (S * S) ≤ a * a * 1010000000000 := by rw [← Nat.mul_add]; exact Nat.mul_le_mul (Nat.le_refl _) h
  rw [e1, e3] at p2
  rw [e2, e4] at q2
  generalize a * a = A at *
  generalize p * p = P at *
  generalize q * q = Q at *
  omega
