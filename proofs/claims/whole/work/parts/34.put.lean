/-! put -/
theorem xR_pad {M N M' N' : xm_M} (h : xR M N) (hc : ∀ k j, k < 49 → M'.1 k j = M.1 k j) (hm : ∀ k j, 1 ≤ k → k ≤ 3 → N'.1 k j = N.1 k j) (hp : M'.1 69 1 = N'.1 0 4 ∧ 0 ≤ (M'.1 69 1).toInt ∧ (M'.1 69 1).toInt ≤ 100 ∧ ∀ j : Nat, (j : Int) < (M'.1 69 1).toInt → M'.1 70 j = N'.1 4 j) : xR M' N' := by
  obtain ⟨h1, h2, h3, _⟩ := h
  have n1 : N'.1 1 = N.1 1 := by funext j; exact hm 1 j (by omega) (by omega)
  have n2 : N'.1 2 = N.1 2 := by funext j; exact hm 2 j (by omega) (by omega)
  unfold xR
  rw [cVs_keep (s := 1) (fun k j _ _ => hc k j (by omega)), cVs_keep (s := 17) (fun k j _ _ => hc k j (by omega)), cVs_keep (s := 33) (fun k j _ _ => hc k j (by omega)), n1, n2, hc 17 10 (by omega), hc 33 10 (by omega), hm 3 0 (by omega) (by omega), hm 3 1 (by omega) (by omega)]
  exact ⟨h1, h2, h3, hp⟩
theorem pb_byte (x : BitVec 64) (s : Nat) (hs : s + 8 ≤ 64) : (x >>> s) &&& 255#64 = x.sshiftRight s &&& 255#64 := by
  apply BitVec.eq_of_getLsbD_eq
  intro i hi
  rw [BitVec.getLsbD_and, BitVec.getLsbD_and, BitVec.getLsbD_ushiftRight, BitVec.getLsbD_sshiftRight]
  by_cases h : i < 8
  · rw [if_pos (show s + i < 64 by omega), decide_eq_false (show ¬ 64 ≤ i by omega)]
    rfl
  · have e : (255#64).getLsbD i = false := by
      rw [BitVec.getLsbD_ofNat, Nat.testBit_lt_two_pow (Nat.lt_of_lt_of_le (show 255 < 2 ^ 8 by decide) (Nat.pow_le_pow_right (by decide) (by omega)))]
      exact Bool.and_false _
    rw [e, Bool.and_false, Bool.and_false]
theorem pb_b0 (x : Int64) : ((x.toUInt64 >>> (0 : UInt64)).toInt64 &&& (255 : Int64)) = ((x >>> (0 : Int64)) &&& (255 : Int64)) := Int64.toBitVec_inj.mp (pb_byte x.toBitVec 0 (by decide))
theorem pb_b1 (x : Int64) : ((x.toUInt64 >>> (8 : UInt64)).toInt64 &&& (255 : Int64)) = ((x >>> (8 : Int64)) &&& (255 : Int64)) := Int64.toBitVec_inj.mp (pb_byte x.toBitVec 8 (by decide))
theorem pb_b2 (x : Int64) : ((x.toUInt64 >>> (16 : UInt64)).toInt64 &&& (255 : Int64)) = ((x >>> (16 : Int64)) &&& (255 : Int64)) := Int64.toBitVec_inj.mp (pb_byte x.toBitVec 16 (by decide))
theorem pb_b3 (x : Int64) : ((x.toUInt64 >>> (24 : UInt64)).toInt64 &&& (255 : Int64)) = ((x >>> (24 : Int64)) &&& (255 : Int64)) := Int64.toBitVec_inj.mp (pb_byte x.toBitVec 24 (by decide))
theorem pb_b4 (x : Int64) : ((x.toUInt64 >>> (32 : UInt64)).toInt64 &&& (255 : Int64)) = ((x >>> (32 : Int64)) &&& (255 : Int64)) := Int64.toBitVec_inj.mp (pb_byte x.toBitVec 32 (by decide))
theorem pb_b5 (x : Int64) : ((x.toUInt64 >>> (40 : UInt64)).toInt64 &&& (255 : Int64)) = ((x >>> (40 : Int64)) &&& (255 : Int64)) := Int64.toBitVec_inj.mp (pb_byte x.toBitVec 40 (by decide))
theorem pb_b6 (x : Int64) : ((x.toUInt64 >>> (48 : UInt64)).toInt64 &&& (255 : Int64)) = ((x >>> (48 : Int64)) &&& (255 : Int64)) := Int64.toBitVec_inj.mp (pb_byte x.toBitVec 48 (by decide))
theorem pb_b7 (x : Int64) : ((x.toUInt64 >>> (56 : UInt64)).toInt64 &&& (255 : Int64)) = ((x >>> (56 : Int64)) &&& (255 : Int64)) := Int64.toBitVec_inj.mp (pb_byte x.toBitVec 56 (by decide))
theorem pb_shr (x : Int64) (d : Nat) (hd : d < 8) : ((x.toUInt64 >>> ((nI (8 * d)).toInt64.toUInt64 &&& Int64.toUInt64 63)).toInt64 &&& (255 : Int64)) = ((x >>> ((nI (8 * d)).toInt64 &&& 63)) &&& (255 : Int64)) := by
  match d, hd with
  | 0, _ => rw [show (nI (8 * 0)).toInt64.toUInt64 &&& Int64.toUInt64 63 = (0 : UInt64) from by decide, show (nI (8 * 0)).toInt64 &&& 63 = (0 : Int64) from by decide]; exact pb_b0 x
  | 1, _ => rw [show (nI (8 * 1)).toInt64.toUInt64 &&& Int64.toUInt64 63 = (8 : UInt64) from by decide, show (nI (8 * 1)).toInt64 &&& 63 = (8 : Int64) from by decide]; exact pb_b1 x
  | 2, _ => rw [show (nI (8 * 2)).toInt64.toUInt64 &&& Int64.toUInt64 63 = (16 : UInt64) from by decide, show (nI (8 * 2)).toInt64 &&& 63 = (16 : Int64) from by decide]; exact pb_b2 x
  | 3, _ => rw [show (nI (8 * 3)).toInt64.toUInt64 &&& Int64.toUInt64 63 = (24 : UInt64) from by decide, show (nI (8 * 3)).toInt64 &&& 63 = (24 : Int64) from by decide]; exact pb_b3 x
  | 4, _ => rw [show (nI (8 * 4)).toInt64.toUInt64 &&& Int64.toUInt64 63 = (32 : UInt64) from by decide, show (nI (8 * 4)).toInt64 &&& 63 = (32 : Int64) from by decide]; exact pb_b4 x
  | 5, _ => rw [show (nI (8 * 5)).toInt64.toUInt64 &&& Int64.toUInt64 63 = (40 : UInt64) from by decide, show (nI (8 * 5)).toInt64 &&& 63 = (40 : Int64) from by decide]; exact pb_b5 x
  | 6, _ => rw [show (nI (8 * 6)).toInt64.toUInt64 &&& Int64.toUInt64 63 = (48 : UInt64) from by decide, show (nI (8 * 6)).toInt64 &&& 63 = (48 : Int64) from by decide]; exact pb_b6 x
  | 7, _ => rw [show (nI (8 * 7)).toInt64.toUInt64 &&& Int64.toUInt64 63 = (56 : UInt64) from by decide, show (nI (8 * 7)).toInt64 &&& 63 = (56 : Int64) from by decide]; exact pb_b7 x
theorem pz_64 {z : Int64} (h : z.toUInt64.toNat < 1) : z = 0 := by
  have e : z.toUInt64 = 0 := UInt64.toNat_inj.mp (by show z.toUInt64.toNat = 0; omega)
  have e2 : z = z.toUInt64.toInt64 := rfl
  rw [e2, e]
  rfl
theorem xs_signs (b1 : Int64) (M N : xm_M) : ∀ (q k : Nat) (z : Int64), k ≤ 8 → 8 - k < q → z.toUInt64.toNat < 2 ^ (64 - 8 * k) → (∃ m, m ≤ 8 ∧ fX0_signsIn_4_it q (nI k) z M = some (nI m, M) ∧ fX4_put_5_it q b1 (nI k) z N = fX4_put_55 b1 (nI m) 0 N) ∨ (fX0_signsIn_4_it q (nI k) z M = some (0, M) ∧ fX4_put_5_it q b1 (nI k) z N = some (-2, N)) := by
  intro q
  induction q with
  | zero => intro k _ _ h; omega
  | succ q ih =>
    intro k z hk hq hz
    show (∃ m, m ≤ 8 ∧ fX0_signsIn_4 (fX0_signsIn_4_it q) (nI k) z M = some (nI m, M) ∧ fX4_put_5 (fX4_put_5_it q) b1 (nI k) z N = fX4_put_55 b1 (nI m) 0 N) ∨ (fX0_signsIn_4 (fX0_signsIn_4_it q) (nI k) z M = some (0, M) ∧ fX4_put_5 (fX4_put_5_it q) b1 (nI k) z N = some (-2, N))
    unfold fX0_signsIn_4 fX4_put_5 fX0_signsIn_45
    have e8 : ((8 : Int32) ≤ nI k) = (8 ≤ k) := propext (nI_leI (a := 8) (by omega) (by omega))
    simp only [e8, pl_eq, pb_lt]
    by_cases h8 : 8 ≤ k
    · have hk8 : k = 8 := by omega
      subst hk8
      have hz0 : z = 0 := pz_64 hz
      rw [if_pos h8, if_pos h8, hz0]
      exact Or.inl ⟨8, by omega, rfl, rfl⟩
    rw [if_neg h8, if_neg h8]
    by_cases hz0 : z = 0
    · subst hz0
      rw [if_pos rfl, if_pos (by decide)]
      exact Or.inl ⟨k, hk, rfl, rfl⟩
    rw [if_neg hz0, px_in, pm_in, pb_i, pb_i]
    by_cases hin : 33 ≤ (z &&& 255).toInt32 ∧ (z &&& 255).toInt32 ≤ 126
    · have hb : ¬ z &&& 255 = 0 := fun y => by
        rw [y] at hin
        exact absurd hin.1 (by decide)
      rw [if_neg hb, if_pos hin, if_neg (by decide), if_neg (by decide), show nI k + Int32.ofInt 1 = nI (k + 1) from (nI_succ k).symm]
      refine ih (k + 1) _ (by omega) (by omega) ?_
      show (z.toUInt64 >>> ((8 : Int32).toInt64.toUInt64 &&& Int64.toUInt64 63)).toNat < _
      rw [show (8 : Int32).toInt64.toUInt64 &&& Int64.toUInt64 63 = (8 : UInt64) from by decide, UInt64.toNat_shiftRight, show (8 : UInt64).toNat % 64 = 8 from by decide, Nat.shiftRight_eq_div_pow]
      have e2 : 2 ^ (64 - 8 * k) = 2 ^ (64 - 8 * (k + 1)) * 2 ^ 8 := by
        rw [← Nat.pow_add]
        congr 1
        omega
      rw [e2] at hz
      exact Nat.div_lt_of_lt_mul (by rw [Nat.mul_comm]; exact hz)
    · refine Or.inr ⟨?_, ?_⟩
      · rw [if_neg hin, if_pos rfl]
      · rw [if_neg hin, if_pos rfl]
        by_cases hb : z &&& 255 = 0
        · rw [if_pos hb]
          unfold fX4_put_55
          simp only [pl_eq]
          by_cases hk0 : nI k = 0
          · rw [if_pos hk0]
          · rw [if_neg hk0, if_neg hz0]
        · rw [if_neg hb]
theorem xs_appL {b1 : Int64} {m L : Nat} (hm : m ≤ 8) (hL : L + m ≤ 100) {M0 N0 : xm_M} (h69 : M0.1 69 1 = nI L) (h04 : N0.1 0 4 = nI L) : ∀ (q i : Nat) (M N : xm_M), i ≤ m → m - i < q → (∀ k j, ¬ k = 70 → M.1 k j = M0.1 k j) → (∀ k j, ¬ k = 4 → N.1 k j = N0.1 k j) → (∀ j, j < L + i → M.1 70 j = N.1 4 j) → ∃ M' N', fX0_append_3_it q b1 (nI m) (nI i) M = some M' ∧ fX4_put_86_it q b1 (nI m) (nI i) N = some (nI (L + m), N') ∧ (∀ k j, ¬ k = 70 → ¬ (k = 69 ∧ j = 1) → M'.1 k j = M0.1 k j) ∧ M'.1 69 1 = nI (L + m) ∧ (∀ k j, ¬ k = 4 → ¬ (k = 0 ∧ j = 4) → N'.1 k j = N0.1 k j) ∧ N'.1 0 4 = nI (L + m) ∧ ∀ j, j < L + m → M'.1 70 j = N'.1 4 j := by
  intro q
  induction q with
  | zero => intro i _ _ _ h; omega
  | succ q ih =>
    intro i M N hi hq hM hN hp
    show ∃ M' N', fX0_append_3 (fX0_append_3_it q) b1 (nI m) (nI i) M = some M' ∧ fX4_put_86 (fX4_put_86_it q) b1 (nI m) (nI i) N = some (nI (L + m), N') ∧ _
    unfold fX0_append_3 fX4_put_86
    have e1 : M.1 69 1 = nI L := (hM 69 1 (by omega)).trans h69
    have e2 : N.1 0 4 = nI L := (hN 0 4 (by omega)).trans h04
    rw [e1, e2]
    by_cases hlt : i < m
    · rw [if_neg (by rw [nI_leI (by omega) (by omega)]; omega), if_neg (by rw [nI_leI (by omega) (by omega)]; omega), pi_add, if_neg (px_kn (n := 100) (by omega) (by omega)), px_keep (px_kn (n := 100) (by omega) (by omega)) (by omega), pb_v, pb_lt, pb_lt, pb_lt, show nI i + Int32.ofInt 1 = nI (i + 1) from (nI_succ i).symm, nI_clamp (by omega)]
      have ed : (8 : Int32) * ((nI m - 1) - nI i) = nI (8 * (m - 1 - i)) := by
        rw [show (1 : Int32) = nI 1 from rfl, pi_subN (by omega), pi_subN (by omega), show (8 : Int32) = nI 8 from rfl, pi_mul]
      rw [ed, pb_shr b1 (m - 1 - i) (by omega)]
      refine ih (i + 1) _ _ (by omega) (by omega) ?_ ?_ ?_
      · intro k j hk
        rw [pm_s, if_neg (fun z => hk z.1)]
        exact hM k j hk
      · intro k j hk
        rw [pm_s, if_neg (fun z => hk z.1)]
        exact hN k j hk
      · intro j hj
        rw [pm_s, pm_s]
        by_cases z : j = L + i
        · rw [if_pos ⟨rfl, z⟩, if_pos ⟨rfl, z⟩]
        · rw [if_neg (fun y => z y.2), if_neg (fun y => z y.2)]
          exact hp j (by omega)
    · have him : i = m := by omega
      subst him
      rw [if_pos (by rw [nI_leI (by omega) (by omega)]; omega), if_pos (by rw [nI_leI (by omega) (by omega)]; omega), pi_add, pb_lt, pb_lt, show (xm_s N 0 4 (nI (L + i))).1 0 4 = nI (L + i) from by rw [pm_s, if_pos ⟨rfl, rfl⟩]]
      refine ⟨_, _, rfl, rfl, ?_, ?_, ?_, ?_, ?_⟩
      · intro k j hk hj
        rw [pm_s, if_neg hj]
        exact hM k j hk
      · rw [pm_s, if_pos ⟨rfl, rfl⟩]
      · intro k j hk hj
        rw [pm_s, if_neg hj]
        exact hN k j hk
      · rw [pm_s, if_pos ⟨rfl, rfl⟩]
      · intro j hj
        rw [pm_s, if_neg (by omega), pm_s, if_neg (by omega)]
        exact hp j hj
theorem xs_put (a : Int64) (M N : xm_M) (h : xR M N) : ∃ (r : Int32) (M1 N1 : xm_M), fX3_put a M = some (r, M1) ∧ fX4_put a N = some (r, N1) ∧ xR M1 N1 := by
  obtain ⟨L, hL, hL1, hL2, _⟩ := pn_ofI (n := 100) h.2.2.2.2.1 h.2.2.2.2.2.1
  have e4 : N.1 0 4 = nI L := by rw [← h.2.2.2.1]; exact hL1
  unfold fX3_put fX4_put fX0_signsIn
  rw [pb_lt, pb_lt]
  rcases xs_signs a M N xm_N 0 a (by omega) (by show 8 - 0 < 4096; omega) (by show a.toUInt64.toNat < 2 ^ 64; exact a.toUInt64.toNat_lt) with ⟨m, hm, s1, s2⟩ | ⟨s1, s2⟩
  · rw [show (0 : Int32) = nI 0 from rfl, s1, s2, pb_i]
    unfold fX4_put_55
    simp only [pl_eq]
    have e0 : (nI m = 0) = (m = 0) := px_eq_nI (n := 0) rfl (by omega) (by omega)
    rw [show nI 0 = (0 : Int32) from rfl]
    simp only [e0, hL1, e4, if_true]
    by_cases hm0 : m = 0
    · rw [if_pos hm0, if_pos hm0]
      exact ⟨_, _, _, rfl, rfl, h⟩
    rw [if_neg hm0, if_neg hm0, pi_add]
    have e100 : (nI (L + m) ≤ (100 : Int32)) = (L + m ≤ 100) := propext (nI_leI (b := 100) (by omega) (by omega))
    simp only [e100]
    by_cases hlt : L + m ≤ 100
    · rw [if_pos hlt, if_pos hlt]
      unfold fX0_append
      rw [pb_lt, pb_lt, show (0 : Int32) = nI 0 from rfl]
      obtain ⟨M', N', a1, a2, a3, a4, a5, a6, a7⟩ := xs_appL (b1 := a) hm hlt hL1 e4 xm_N 0 M N (Nat.zero_le _) (by show m - 0 < 4096; omega) (fun _ _ _ => rfl) (fun _ _ _ => rfl) (fun j hj => h.2.2.2.2.2.2 j (by rw [hL2]; omega))
      rw [a1, a2, pb_v, a4]
      refine ⟨_, _, _, rfl, rfl, xR_pad h (fun k j hk => a3 k j (by omega) (by omega)) (fun k j k1 k2 => a5 k j (by omega) (by omega)) ⟨by rw [a4, a6], ?_, ?_, ?_⟩⟩
      · rw [a4, nI_toInt (by omega)]; omega
      · rw [a4, nI_toInt (by omega)]; omega
      · intro j hj
        rw [a4, nI_toInt (by omega)] at hj
        exact a7 j (by omega)
    · rw [if_neg hlt, if_neg hlt]
      exact ⟨_, _, _, rfl, rfl, h⟩
  · rw [show (0 : Int32) = nI 0 from rfl, s1, s2, pb_i, if_pos (show (0 : Int32) = nI 0 from rfl)]
    exact ⟨_, _, _, rfl, rfl, h⟩
