/-! numbers -/
theorem pn_lrem (x y : Int64) : x - (x / y) * y = x % y := by
  apply Int64.toInt_inj.mp
  have h1 := Int64.le_toInt (x % y)
  have h2 := Int64.toInt_lt (x % y)
  rw [Int64.toInt_sub, Int64.toInt_mul, Int64.toInt_div, Int.bmod_mul_bmod, Int.sub_bmod_bmod, Int.mul_comm (x.toInt.tdiv y.toInt), ← Int.tmod_def, ← Int64.toInt_mod]
  exact Int.bmod_eq_of_le_mul_two (by omega) (by omega)
theorem pn_irem (x y : Int32) : x - (x / y) * y = x % y := irem_eq_mod x y
theorem pn_xor64 (x y : Int64) (hy : 0 ≤ y) : 0 ≤ x ^^^ y ↔ 0 ≤ x := by
  have e : ∀ z : Int64, 0 ≤ z ↔ z.toBitVec.msb = false := fun z => by
    rw [Int64.le_iff_toInt_le, BitVec.msb_eq_toInt]
    show (0 : Int) ≤ z.toInt ↔ _
    simp
  rw [e, e]
  have h := (e y).mp hy
  rw [Int64.toBitVec_xor, BitVec.msb_xor, h]
  simp
theorem pn_xor32 (x y : Int32) (hy : 0 ≤ y) : 0 ≤ x ^^^ y ↔ 0 ≤ x := by
  have e : ∀ z : Int32, 0 ≤ z ↔ z.toBitVec.msb = false := fun z => by
    rw [Int32.le_iff_toInt_le, BitVec.msb_eq_toInt]
    show (0 : Int) ≤ z.toInt ↔ _
    simp
  rw [e, e]
  have h := (e y).mp hy
  rw [Int32.toBitVec_xor, BitVec.msb_xor, h]
  simp
theorem pn_tmod (a m : Int) (hm : 0 < m) : (0 ≤ a → 0 ≤ a.tmod m ∧ a.tmod m < m) ∧ (a < 0 → a.tmod m ≤ 0 ∧ -m < a.tmod m) := by
  have h := tmod_bounds (a := a) hm
  refine ⟨fun h0 => ⟨Int.tmod_nonneg m h0, h.2⟩, fun h0 => ⟨?_, h.1⟩⟩
  have h1 := Int.tmod_nonneg m (show 0 ≤ -a by omega)
  rw [Int.neg_tmod] at h1
  omega
theorem pn_tdiv (a b : Int) (hb : 0 < b) : (0 ≤ a → 0 ≤ a.tdiv b ∧ a.tdiv b ≤ a) ∧ (a ≤ 0 → a ≤ a.tdiv b ∧ a.tdiv b ≤ 0) := by
  have h3 : (a.tdiv b).natAbs ≤ a.natAbs := Int.natAbs_tdiv_le_natAbs _ _
  refine ⟨fun h => ?_, fun h => ?_⟩
  · have := Int.tdiv_nonneg (a := a) (b := b) h (by omega)
    omega
  · have h4 := Int.tdiv_nonneg (a := -a) (b := b) (by omega) (by omega)
    rw [Int.neg_tdiv] at h4
    omega
theorem pn_i64 (x : Int32) : x.toInt64.toInt = x.toInt := Int32.toInt_toInt64 x
theorem pn_add64 {x y : Int64} (h1 : -9000000000000000000 ≤ x.toInt + y.toInt) (h2 : x.toInt + y.toInt ≤ 9000000000000000000) : (x + y).toInt = x.toInt + y.toInt := by
  rw [Int64.toInt_add]; exact Int.bmod_eq_of_le_mul_two (by omega) (by omega)
theorem pn_sub64 {x y : Int64} (h1 : -9000000000000000000 ≤ x.toInt - y.toInt) (h2 : x.toInt - y.toInt ≤ 9000000000000000000) : (x - y).toInt = x.toInt - y.toInt := by
  rw [Int64.toInt_sub]; exact Int.bmod_eq_of_le_mul_two (by omega) (by omega)
theorem pn_mul64 {x y : Int64} (h1 : -9000000000000000000 ≤ x.toInt * y.toInt) (h2 : x.toInt * y.toInt ≤ 9000000000000000000) : (x * y).toInt = x.toInt * y.toInt := by
  rw [Int64.toInt_mul]; exact Int.bmod_eq_of_le_mul_two (by omega) (by omega)
theorem pn_neg64 {x : Int64} (h1 : -9000000000000000000 ≤ x.toInt) : (-x).toInt = -x.toInt := by
  rw [Int64.toInt_neg]; have := Int64.toInt_lt x; exact Int.bmod_eq_of_le_mul_two (by omega) (by omega)
theorem pn_add {x y : Int32} (h1 : -2147483648 ≤ x.toInt + y.toInt) (h2 : x.toInt + y.toInt ≤ 2147483647) : (x + y).toInt = x.toInt + y.toInt := by
  rw [Int32.toInt_add]; exact Int.bmod_eq_of_le_mul_two (by omega) (by omega)
theorem pn_sub {x y : Int32} (h1 : -2147483648 ≤ x.toInt - y.toInt) (h2 : x.toInt - y.toInt ≤ 2147483647) : (x - y).toInt = x.toInt - y.toInt := by
  rw [Int32.toInt_sub]; exact Int.bmod_eq_of_le_mul_two (by omega) (by omega)
theorem pn_mul {x y : Int32} (h1 : -2147483648 ≤ x.toInt * y.toInt) (h2 : x.toInt * y.toInt ≤ 2147483647) : (x * y).toInt = x.toInt * y.toInt := by
  rw [Int32.toInt_mul]; exact Int.bmod_eq_of_le_mul_two (by omega) (by omega)
theorem pn_neg {x : Int32} (h1 : -2147483647 ≤ x.toInt) : (-x).toInt = -x.toInt := by
  rw [Int32.toInt_neg]; have := Int32.toInt_lt x; exact Int.bmod_eq_of_le_mul_two (by omega) (by omega)
theorem pn_l2i {x : Int64} (h1 : -2147483648 ≤ x.toInt) (h2 : x.toInt ≤ 2147483647) : x.toInt32.toInt = x.toInt := by
  rw [Int64.toInt_toInt32]; exact Int.bmod_eq_of_le_mul_two (by omega) (by omega)
theorem pn_div64 {x y : Int64} (hy : 0 < y.toInt) : (x / y).toInt = x.toInt.tdiv y.toInt := by
  rw [Int64.toInt_div]
  have h1 := Int64.le_toInt x
  have h2 := Int64.toInt_lt x
  have h3 : (x.toInt.tdiv y.toInt).natAbs ≤ x.toInt.natAbs := Int.natAbs_tdiv_le_natAbs _ _
  have h4 := pn_tdiv x.toInt y.toInt hy
  exact Int.bmod_eq_of_le_mul_two (by omega) (by omega)
theorem pn_div {x y : Int32} (hy : 0 < y.toInt) : (x / y).toInt = x.toInt.tdiv y.toInt := by
  rw [Int32.toInt_div]
  have h1 := Int32.le_toInt x
  have h2 := Int32.toInt_lt x
  have h3 : (x.toInt.tdiv y.toInt).natAbs ≤ x.toInt.natAbs := Int.natAbs_tdiv_le_natAbs _ _
  have h4 := pn_tdiv x.toInt y.toInt hy
  exact Int.bmod_eq_of_le_mul_two (by omega) (by omega)
