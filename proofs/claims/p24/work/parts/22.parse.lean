theorem pb_byte (x : BitVec 64) (s : Nat) (hs : s + 8 ≤ 64) : (x >>> s) &&& 255#64 = x.sshiftRight s &&& 255#64 := by
  apply BitVec.eq_of_getLsbD_eq
  intro i hi
  rw [BitVec.getLsbD_and, BitVec.getLsbD_and, BitVec.getLsbD_ushiftRight, BitVec.getLsbD_sshiftRight]
  by_cases h : i < 8
  · rw [if_pos (show s + i < 64 by omega), decide_eq_false (show ¬ 64 ≤ i by omega)]
    rfl
  · have e : (255#64).getLsbD i = false := by
      rw [BitVec.getLsbD_ofNat, Nat.testBit_lt_two_pow (Nat.lt_of_lt_of_le (show 255 < 2 ^ 8 by decide) (Nat.pow_le_pow_right (by decide) (by omega)))]
      exact Bool.and_false _
    rw [e, Bool.and_false, Bool.and_false]
theorem pb_b0 (x : Int64) : ((x.toUInt64 >>> (0 : UInt64)).toInt64 &&& (255 : Int64)) = ((x >>> (0 : Int64)) &&& (255 : Int64)) := Int64.toBitVec_inj.mp (pb_byte x.toBitVec 0 (by decide))
theorem pb_b1 (x : Int64) : ((x.toUInt64 >>> (8 : UInt64)).toInt64 &&& (255 : Int64)) = ((x >>> (8 : Int64)) &&& (255 : Int64)) := Int64.toBitVec_inj.mp (pb_byte x.toBitVec 8 (by decide))
theorem pb_b2 (x : Int64) : ((x.toUInt64 >>> (16 : UInt64)).toInt64 &&& (255 : Int64)) = ((x >>> (16 : Int64)) &&& (255 : Int64)) := Int64.toBitVec_inj.mp (pb_byte x.toBitVec 16 (by decide))
theorem pb_b3 (x : Int64) : ((x.toUInt64 >>> (24 : UInt64)).toInt64 &&& (255 : Int64)) = ((x >>> (24 : Int64)) &&& (255 : Int64)) := Int64.toBitVec_inj.mp (pb_byte x.toBitVec 24 (by decide))
theorem pb_b4 (x : Int64) : ((x.toUInt64 >>> (32 : UInt64)).toInt64 &&& (255 : Int64)) = ((x >>> (32 : Int64)) &&& (255 : Int64)) := Int64.toBitVec_inj.mp (pb_byte x.toBitVec 32 (by decide))
theorem pb_b5 (x : Int64) : ((x.toUInt64 >>> (40 : UInt64)).toInt64 &&& (255 : Int64)) = ((x >>> (40 : Int64)) &&& (255 : Int64)) := Int64.toBitVec_inj.mp (pb_byte x.toBitVec 40 (by decide))
theorem pb_b6 (x : Int64) : ((x.toUInt64 >>> (48 : UInt64)).toInt64 &&& (255 : Int64)) = ((x >>> (48 : Int64)) &&& (255 : Int64)) := Int64.toBitVec_inj.mp (pb_byte x.toBitVec 48 (by decide))
theorem pb_b7 (x : Int64) : ((x.toUInt64 >>> (56 : UInt64)).toInt64 &&& (255 : Int64)) = ((x >>> (56 : Int64)) &&& (255 : Int64)) := Int64.toBitVec_inj.mp (pb_byte x.toBitVec 56 (by decide))
theorem pb_shr (x : Int64) (d : Nat) (hd : d < 8) : ((x.toUInt64 >>> ((nI (8 * d)).toInt64.toUInt64 &&& Int64.toUInt64 63)).toInt64 &&& (255 : Int64)) = ((x >>> ((nI (8 * d)).toInt64 &&& 63)) &&& (255 : Int64)) := by
  match d, hd with
  | 0, _ => rw [show (nI (8 * 0)).toInt64.toUInt64 &&& Int64.toUInt64 63 = (0 : UInt64) from by decide, show (nI (8 * 0)).toInt64 &&& 63 = (0 : Int64) from by decide]; exact pb_b0 x
  | 1, _ => rw [show (nI (8 * 1)).toInt64.toUInt64 &&& Int64.toUInt64 63 = (8 : UInt64) from by decide, show (nI (8 * 1)).toInt64 &&& 63 = (8 : Int64) from by decide]; exact pb_b1 x
  | 2, _ => rw [show (nI (8 * 2)).toInt64.toUInt64 &&& Int64.toUInt64 63 = (16 : UInt64) from by decide, show (nI (8 * 2)).toInt64 &&& 63 = (16 : Int64) from by decide]; exact pb_b2 x
  | 3, _ => rw [show (nI (8 * 3)).toInt64.toUInt64 &&& Int64.toUInt64 63 = (24 : UInt64) from by decide, show (nI (8 * 3)).toInt64 &&& 63 = (24 : Int64) from by decide]; exact pb_b3 x
  | 4, _ => rw [show (nI (8 * 4)).toInt64.toUInt64 &&& Int64.toUInt64 63 = (32 : UInt64) from by decide, show (nI (8 * 4)).toInt64 &&& 63 = (32 : Int64) from by decide]; exact pb_b4 x
  | 5, _ => rw [show (nI (8 * 5)).toInt64.toUInt64 &&& Int64.toUInt64 63 = (40 : UInt64) from by decide, show (nI (8 * 5)).toInt64 &&& 63 = (40 : Int64) from by decide]; exact pb_b5 x
  | 6, _ => rw [show (nI (8 * 6)).toInt64.toUInt64 &&& Int64.toUInt64 63 = (48 : UInt64) from by decide, show (nI (8 * 6)).toInt64 &&& 63 = (48 : Int64) from by decide]; exact pb_b6 x
  | 7, _ => rw [show (nI (8 * 7)).toInt64.toUInt64 &&& Int64.toUInt64 63 = (56 : UInt64) from by decide, show (nI (8 * 7)).toInt64 &&& 63 = (56 : Int64) from by decide]; exact pb_b7 x
theorem pz_64 {z : Int64} (h : z.toUInt64.toNat < 1) : z = 0 := by
  have e : z.toUInt64 = 0 := UInt64.toNat_inj.mp (by show z.toUInt64.toNat = 0; omega)
  have e2 : z = z.toUInt64.toInt64 := rfl
  rw [e2, e]
  rfl
/-! TEXTS. The pad's text T of n signs, as the document reads it; the class. -/
def sp_ch (T : Nat → Int32) (n i : Nat) : Int32 := if i < n then T i else 0
def sp_nl (T : Nat → Int32) (n : Nat) (most : Int32) : Nat → Int32 → Nat → Int32 × Nat
  | 0, v, i => (v, i)
  | f + 1, v, i => if 0 < v ∧ 48 ≤ sp_ch T n i ∧ sp_ch T n i ≤ 57 ∧ 10 * v + (sp_ch T n i - 48) ≤ most then sp_nl T n most f (10 * v + (sp_ch T n i - 48)) (i + 1) else (v, i)
def sp_num (T : Nat → Int32) (n : Nat) (most : Int32) (i : Nat) : Option Int32 × Nat :=
  if 48 ≤ sp_ch T n i ∧ sp_ch T n i ≤ 57 ∧ sp_ch T n i - 48 ≤ most then (some (sp_nl T n most 128 (sp_ch T n i - 48) (i + 1)).1, (sp_nl T n most 128 (sp_ch T n i - 48) (i + 1)).2) else (none, i)
def sp_int (T : Nat → Int32) (n : Nat) (most : Int32) (i : Nat) : Option Int32 × Nat :=
  if sp_ch T n i = 45 then ((sp_num T n most (i + 1)).1.map (fun v => -v), (sp_num T n most (i + 1)).2) else sp_num T n most i
abbrev sE : Type := Option (Int32 × Int32 × Int32 × Int32) × Nat
def sp_bnd (r : Option Int32 × Nat) (k : Int32 → Nat → sE) : sE := match r.1 with
  | none => (none, r.2)
  | some v => k v r.2
def sp_ent (T : Nat → Int32) (n i : Nat) : sE :=
  if sp_ch T n i = 109 then sp_bnd (sp_num T n 5 (i + 1)) (fun a p => (some (1, a, 0, 0), p))
  else sp_bnd (sp_int T n 300 i) (fun a p => if sp_ch T n p = 44 then sp_bnd (sp_int T n 300 (p + 1)) (fun b p => if sp_ch T n p = 44 then sp_bnd (sp_int T n 300000 (p + 1)) (fun t p => (some (0, a, b, t), p)) else (none, p)) else (none, p))
theorem sp_chn {T : Nat → Int32} {n i : Nat} (h : ¬ sp_ch T n i = 0) : i < n := by
  by_cases z : i < n
  · exact z
  · exact absurd (if_neg z) h
theorem sp_ch48 {T : Nat → Int32} {n i : Nat} (h : 48 ≤ sp_ch T n i) : i < n := sp_chn (fun z => by rw [z] at h; exact absurd h (by decide))
theorem sp_nl_in {T : Nat → Int32} {n : Nat} {most : Int32} : ∀ (f : Nat) (v : Int32) (i : Nat), i ≤ n → i ≤ (sp_nl T n most f v i).2 ∧ (sp_nl T n most f v i).2 ≤ n := by
  intro f
  induction f with
  | zero => intro v i h; exact ⟨Nat.le_refl _, h⟩
  | succ f ih =>
    intro v i h
    unfold sp_nl
    by_cases c : 0 < v ∧ 48 ≤ sp_ch T n i ∧ sp_ch T n i ≤ 57 ∧ 10 * v + (sp_ch T n i - 48) ≤ most
    · rw [if_pos c]
      have hi := sp_ch48 c.2.1
      have := ih (10 * v + (sp_ch T n i - 48)) (i + 1) (by omega)
      exact ⟨by omega, this.2⟩
    · rw [if_neg c]
      exact ⟨Nat.le_refl _, h⟩
def cT (T : Nat → Int32) (n : Nat) (M : xm_M) : Prop := M.1 69 1 = nI n ∧ ∀ j, j < n → M.1 70 j = T j
theorem pm_ss {M : xm_M} {k j : Nat} {v w : Int32} : xm_s (xm_s M k j v) k j w = xm_s M k j w := by
  unfold xm_s
  congr 1
  funext a b
  dsimp only
  by_cases h : a = k ∧ b = j
  · rw [if_pos h, if_pos h]
  · rw [if_neg h, if_neg h, if_neg h]
theorem pm_self {M : xm_M} {k j : Nat} {v : Int32} (h : M.1 k j = v) : xm_s M k j v = M := by
  unfold xm_s
  obtain ⟨M1, M2⟩ := M
  congr 1
  funext a b
  dsimp only at h ⊢
  by_cases z : a = k ∧ b = j
  · rw [if_pos z, z.1, z.2, h]
  · rw [if_neg z]
theorem cT_s {T : Nat → Int32} {n k j : Nat} {v : Int32} {M : xm_M} (h : cT T n M) (hk : (k = 69 ∧ ¬ j = 1) ∨ (¬ k = 69 ∧ ¬ k = 70)) : cT T n (xm_s M k j v) := by
  refine ⟨?_, ?_⟩
  · rw [pm_s, if_neg (by omega)]; exact h.1
  · intro i hi
    rw [pm_s, if_neg (by omega)]; exact h.2 i hi
theorem px_takes {T : Nat → Int32} {n i : Nat} {M : xm_M} {c : Int32} (hn : n ≤ 100) (hT : cT T n M) (hi : M.1 69 2 = nI i) (hin : i ≤ n) (hc : ¬ c = 0) : fX0_takes c M = if sp_ch T n i = c then some (1, xm_s M 69 2 (nI (i + 1))) else some (0, M) := by
  unfold fX0_takes sp_ch
  rw [hT.1, hi]
  by_cases h : i < n
  · rw [if_neg (by rw [nI_leI (by omega) (by omega)]; omega), px_item (px_kn (n := 100) (by omega) (by omega)) (by omega), pb_i, nI_clamp (by omega), hT.2 i h, if_pos h, hi, pi_succ, pb_lt]
  · rw [if_pos (by rw [nI_leI (by omega) (by omega)]; omega), if_neg h, if_neg (fun z => hc z.symm)]
def sp_dg (c : Int32) : Int32 := if 48 ≤ c ∧ c ≤ 57 then c - 48 else -1
theorem sp_dg_neg (c : Int32) : (sp_dg c < 0) = ¬ (48 ≤ c ∧ c ≤ 57) := by
  unfold sp_dg
  by_cases h : 48 ≤ c ∧ c ≤ 57
  · rw [if_pos h]
    have h1 : 48 ≤ c.toInt := Int32.le_iff_toInt_le.mp h.1
    have h2 : c.toInt ≤ 57 := Int32.le_iff_toInt_le.mp h.2
    have e : (c - 48).toInt = c.toInt - 48 := pn_sub (y := 48) (by rw [show (48 : Int32).toInt = 48 from rfl]; omega) (by rw [show (48 : Int32).toInt = 48 from rfl]; omega)
    refine propext ⟨fun z => ?_, fun z => absurd h z⟩
    have := Int32.lt_iff_toInt_lt.mp z
    rw [e, px_z0] at this
    omega
  · rw [if_neg h]
    exact propext ⟨fun _ => h, fun _ => by decide⟩
theorem px_digit {T : Nat → Int32} {n i : Nat} {M : xm_M} (hn : n ≤ 100) (hT : cT T n M) (hi : M.1 69 2 = nI i) (hin : i ≤ n) : fX0_digit M = some (sp_dg (sp_ch T n i), M) := by
  unfold fX0_digit fX0_digit_26 sp_ch sp_dg
  rw [hT.1, hi]
  by_cases h : i < n
  · rw [if_neg (by rw [nI_leI (by omega) (by omega)]; omega), px_item (px_kn (n := 100) (by omega) (by omega)) (by omega), pb_i, nI_clamp (by omega), hT.2 i h, px_in, pb_i, if_pos h]
    by_cases h2 : 48 ≤ T i ∧ T i ≤ 57
    · rw [if_pos h2, if_neg (by decide), if_pos h2]
    · rw [if_neg h2, if_pos rfl, if_neg h2]
  · rw [if_pos (by rw [nI_leI (by omega) (by omega)]; omega), if_neg h, px_in, pb_i, if_pos (by decide), if_neg (by decide)]
theorem px_nl {T : Nat → Int32} {n : Nat} {b1 most : Int32} (hn : n ≤ 100) : ∀ (f q : Nat) (v : Int32) (i : Nat) (M : xm_M), n - i ≤ f → f < q → cT T n M → M.1 69 2 = nI i → i ≤ n → fX0_readNumber_26_it q b1 most v M = fX0_readNumber_84 b1 (sp_nl T n most f v i).1 (xm_s M 69 2 (nI (sp_nl T n most f v i).2)) := by
  intro f
  induction f with
  | zero =>
    intro q v i M hf hq hT hi hin
    obtain ⟨q, rfl⟩ : ∃ q', q = q' + 1 := ⟨q - 1, by omega⟩
    show fX0_readNumber_26 (fX0_readNumber_26_it q) b1 most v M = _
    unfold fX0_readNumber_26 sp_nl
    rw [hT.1, hi, if_pos (by rw [nI_leI (by omega) (by omega)]; omega), pm_self hi]
  | succ f ih =>
    intro q v i M hf hq hT hi hin
    obtain ⟨q, rfl⟩ : ∃ q', q = q' + 1 := ⟨q - 1, by omega⟩
    show fX0_readNumber_26 (fX0_readNumber_26_it q) b1 most v M = _
    unfold fX0_readNumber_26 sp_nl
    rw [hT.1, hi]
    by_cases c0 : n ≤ i
    · rw [if_pos (by rw [nI_leI (by omega) (by omega)]; exact c0), if_neg (fun z => by have := sp_ch48 z.2.1; omega), pm_self hi]
    rw [if_neg (by rw [nI_leI (by omega) (by omega)]; exact c0)]
    by_cases c1 : v ≤ 0
    · rw [if_pos c1, if_neg (fun z => absurd z.1 (Int32.not_lt.mpr c1)), pm_self hi]
    rw [if_neg c1, px_digit hn hT hi hin, pb_i]
    by_cases c2 : 48 ≤ sp_ch T n i ∧ sp_ch T n i ≤ 57
    case neg => rw [if_pos (by rw [sp_dg_neg]; exact c2), if_neg (fun z => c2 ⟨z.2.1, z.2.2.1⟩), pm_self hi]
    have ed : sp_dg (sp_ch T n i) = sp_ch T n i - 48 := if_pos c2
    rw [if_neg (by rw [sp_dg_neg]; exact fun z => z c2), px_digit hn hT hi hin, pb_i, ed]
    by_cases c3 : most < 10 * v + (sp_ch T n i - 48)
    · rw [if_pos c3, if_neg (fun z => absurd z.2.2.2 (Int32.not_le.mpr c3)), pm_self hi]
    rw [if_neg c3, px_digit hn hT hi hin, pb_i, ed, pb_lt, pb_lt, if_pos ⟨Int32.not_le.mp c1, c2.1, c2.2, Int32.not_lt.mp c3⟩, hi, pi_succ]
    rw [ih q _ (i + 1) _ (by omega) (by omega) (cT_s hT (by omega)) (by rw [pm_s, if_pos ⟨rfl, rfl⟩]) (by omega), pm_ss]
theorem px_num {T : Nat → Int32} {n i w : Nat} {M : xm_M} {most : Int32} (hn : n ≤ 100) (hT : cT T n M) (hi : M.1 69 2 = nI i) (hin : i ≤ n) (hw : w < 3) :
    (∃ v p, sp_num T n most i = (some v, p) ∧ i < p ∧ p ≤ n ∧ fX0_readNumber (nI w) most M = some (1, xm_s (xm_s M 69 2 (nI p)) 71 w v)) ∨ (sp_num T n most i = (none, i) ∧ fX0_readNumber (nI w) most M = some (0, M)) := by
  unfold fX0_readNumber
  rw [px_digit hn hT hi hin, pb_i]
  by_cases c : 48 ≤ sp_ch T n i ∧ sp_ch T n i ≤ 57
  case neg =>
    refine Or.inr ⟨?_, ?_⟩
    · unfold sp_num
      rw [if_neg (fun z => c ⟨z.1, z.2.1⟩)]
    · rw [if_pos (by rw [sp_dg_neg]; exact c)]
  have ed : sp_dg (sp_ch T n i) = sp_ch T n i - 48 := if_pos c
  rw [if_neg (by rw [sp_dg_neg]; exact fun z => z c), ed]
  by_cases c2 : sp_ch T n i - 48 ≤ most
  case neg =>
    refine Or.inr ⟨?_, ?_⟩
    · unfold sp_num
      rw [if_neg (fun z => c2 z.2.2)]
    · rw [if_neg c2]
  have hlt := sp_ch48 c.1
  refine Or.inl ⟨(sp_nl T n most 128 (sp_ch T n i - 48) (i + 1)).1, (sp_nl T n most 128 (sp_ch T n i - 48) (i + 1)).2, ?_, ?_, ?_, ?_⟩
  · unfold sp_num
    rw [if_pos ⟨c.1, c.2, c2⟩]
  · have := (sp_nl_in (T := T) (most := most) 128 (sp_ch T n i - 48) (i + 1) (by omega : i + 1 ≤ n)).1
    omega
  · exact (sp_nl_in (T := T) (most := most) 128 (sp_ch T n i - 48) (i + 1) (by omega : i + 1 ≤ n)).2
  · rw [if_pos c2, pb_lt, hi, pi_succ, px_nl hn 128 xm_N _ (i + 1) _ (by omega) (by show 128 < 4096; omega) (cT_s hT (by omega)) (by rw [pm_s, if_pos ⟨rfl, rfl⟩]) (by omega), pm_ss]
    unfold fX0_readNumber_84
    rw [px_keep (px_kn hw (by omega)) (by omega), pb_v, nI_clamp (by omega)]
/-- what reading a number leaves alone -/
def cq (M M' : xm_M) (p : Nat) : Prop := M'.1 69 2 = nI p ∧ ∀ k j, ¬ (k = 69 ∧ j = 2) → ¬ k = 71 → M'.1 k j = M.1 k j
theorem px_int {T : Nat → Int32} {n i w : Nat} {M : xm_M} {most : Int32} (hn : n ≤ 100) (hT : cT T n M) (hi : M.1 69 2 = nI i) (hin : i ≤ n) (hw : w < 3) :
    (∃ v p M', sp_int T n most i = (some v, p) ∧ i < p ∧ p ≤ n ∧ fX0_readInteger (nI w) most M = some (1, M') ∧ cq M M' p ∧ ∀ j, M'.1 71 j = if j = w then v else M.1 71 j) ∨
    (∃ p M', sp_int T n most i = (none, p) ∧ i ≤ p ∧ p ≤ n ∧ fX0_readInteger (nI w) most M = some (0, M') ∧ cq M M' p) := by
  unfold fX0_readInteger sp_int
  rw [px_takes hn hT hi hin (by decide)]
  by_cases c : sp_ch T n i = 45
  · have hlt := sp_chn (T := T) (n := n) (i := i) (by rw [c]; decide)
    rw [if_pos c, if_pos c, pb_i]
    rcases px_num (M := xm_s M 69 2 (nI (i + 1))) (i := i + 1) (w := w) (most := most) hn (cT_s hT (by omega)) (by rw [pm_s, if_pos ⟨rfl, rfl⟩]) (by omega) hw with ⟨v, p, e1, e2, e3, e4⟩ | ⟨e1, e2⟩
    · rw [e1, e4, pb_i, pm_ss, if_neg (by decide), if_neg (by decide), px_item (px_kn hw (by omega)) (by omega), pb_i, px_keep (px_kn hw (by omega)) (by omega), pb_v, nI_clamp (by omega), pm_ss]
      have ev : (xm_s (xm_s M 69 2 (nI p)) 71 w v).1 71 w = v := by rw [pm_s, if_pos ⟨rfl, rfl⟩]
      rw [ev]
      refine Or.inl ⟨-v, p, _, rfl, by omega, e3, rfl, ⟨?_, ?_⟩, ?_⟩
      · rw [pm_s, if_neg (by omega), pm_s, if_pos ⟨rfl, rfl⟩]
      · intro k j h1 h2
        rw [pm_s, if_neg (fun z => h2 z.1), pm_s, if_neg h1]
      · intro j
        rw [pm_s]
        by_cases z : j = w
        · rw [if_pos ⟨rfl, z⟩, if_pos z]
        · rw [if_neg (fun y => z y.2), if_neg z, pm_s, if_neg (by omega)]
    · rw [e1, e2, pb_i, if_pos rfl]
      refine Or.inr ⟨i + 1, _, rfl, by omega, by omega, rfl, ?_, ?_⟩
      · rw [pm_s, if_pos ⟨rfl, rfl⟩]
      · intro k j h1 h2
        rw [pm_s, if_neg h1]
  · rw [if_neg c, if_neg c, pb_i]
    rcases px_num (M := M) (i := i) (w := w) (most := most) hn hT hi hin hw with ⟨v, p, e1, e2, e3, e4⟩ | ⟨e1, e2⟩
    · rw [e1, e4, pb_i, if_neg (by decide), if_pos rfl]
      refine Or.inl ⟨v, p, _, rfl, e2, e3, rfl, ⟨?_, ?_⟩, ?_⟩
      · rw [pm_s, if_neg (by omega), pm_s, if_pos ⟨rfl, rfl⟩]
      · intro k j h1 h2
        rw [pm_s, if_neg (fun z => h2 z.1), pm_s, if_neg h1]
      · intro j
        rw [pm_s]
        by_cases z : j = w
        · rw [if_pos ⟨rfl, z⟩, if_pos z]
        · rw [if_neg (fun y => z y.2), if_neg z, pm_s, if_neg (by omega)]
    · rw [e1, e2, pb_i, if_pos rfl]
      exact Or.inr ⟨i, M, rfl, Nat.le_refl _, hin, rfl, hi, fun _ _ _ _ => rfl⟩
def cF (M M' : xm_M) : Prop := ∀ k j, ¬ k = 71 → ¬ (k = 69 ∧ (j = 2 ∨ j = 3)) → M'.1 k j = M.1 k j
theorem cF_refl (M : xm_M) : cF M M := fun _ _ _ _ => rfl
theorem cF_trans {M M1 M2 : xm_M} (h1 : cF M M1) (h2 : cF M1 M2) : cF M M2 := fun k j a b => (h2 k j a b).trans (h1 k j a b)
theorem cF_q {M M' : xm_M} {p : Nat} (h : cq M M' p) : cF M M' := fun k j a b => h.2 k j (by omega) a
theorem cF_T {T : Nat → Int32} {n : Nat} {M M' : xm_M} (h : cF M M') (hT : cT T n M) : cT T n M' := ⟨(h 69 1 (by omega) (by omega)).trans hT.1, fun j hj => (h 70 j (by omega) (by omega)).trans (hT.2 j hj)⟩
theorem cF_s {M : xm_M} {j : Nat} {v : Int32} (hj : j = 2 ∨ j = 3) : cF M (xm_s M 69 j v) := fun k i a b => by rw [pm_s, if_neg (by omega)]
theorem cF_s71 {M : xm_M} {j : Nat} {v : Int32} : cF M (xm_s M 71 j v) := fun k i a b => by rw [pm_s, if_neg (by omega)]
/-- a sign that has to be there -/
theorem px_sep {T : Nat → Int32} {n i : Nat} {M : xm_M} (hn : n ≤ 100) (hT : cT T n M) (hi : M.1 69 2 = nI i) (hin : i ≤ n) :
    (sp_ch T n i = 44 ∧ i + 1 ≤ n ∧ fX0_takes 44 M = some (1, xm_s M 69 2 (nI (i + 1)))) ∨ (¬ sp_ch T n i = 44 ∧ fX0_takes 44 M = some (0, M)) := by
  rw [px_takes hn hT hi hin (by decide)]
  by_cases c : sp_ch T n i = 44
  · have := sp_chn (T := T) (n := n) (i := i) (by rw [c]; decide)
    rw [if_pos c]
    exact Or.inl ⟨c, this, rfl⟩
  · rw [if_neg c]
    exact Or.inr ⟨c, rfl⟩
theorem px_ent {T : Nat → Int32} {n i : Nat} {M : xm_M} (hn : n ≤ 100) (hT : cT T n M) (hi : M.1 69 2 = nI i) (hin : i ≤ n) :
    (∃ s a b t p M', sp_ent T n i = (some (s, a, b, t), p) ∧ i < p ∧ p ≤ n ∧ fX0_readEntry M = some (1, M') ∧ cF M M' ∧ M'.1 69 2 = nI p ∧ M'.1 69 3 = s ∧ M'.1 71 0 = a ∧ (s = 1 ∨ (s = 0 ∧ M'.1 71 1 = b ∧ M'.1 71 2 = t))) ∨
    (∃ p M', sp_ent T n i = (none, p) ∧ i ≤ p ∧ p ≤ n ∧ fX0_readEntry M = some (0, M') ∧ cF M M' ∧ M'.1 69 2 = nI p) := by
  unfold fX0_readEntry sp_ent
  rw [px_takes hn hT hi hin (by decide)]
  by_cases c : sp_ch T n i = 109
  · have hlt := sp_chn (T := T) (n := n) (i := i) (by rw [c]; decide)
    rw [if_pos c, if_pos c, pb_i, if_pos (by decide), pb_lt, if_neg (by rw [pm_s, if_pos ⟨rfl, rfl⟩]; decide)]
    have hF : cF M (xm_s (xm_s M 69 2 (nI (i + 1))) 69 3 1) := cF_trans (cF_s (Or.inl rfl)) (cF_s (Or.inr rfl))
    have h69 : (xm_s (xm_s M 69 2 (nI (i + 1))) 69 3 1).1 69 2 = nI (i + 1) := by rw [pm_s, if_neg (by omega), pm_s, if_pos ⟨rfl, rfl⟩]
    have h693 : (xm_s (xm_s M 69 2 (nI (i + 1))) 69 3 1).1 69 3 = 1 := by rw [pm_s, if_pos ⟨rfl, rfl⟩]
    generalize xm_s (xm_s M 69 2 (nI (i + 1))) 69 3 1 = M3 at hF h69 h693 ⊢
    rcases px_num (M := M3) (i := i + 1) (w := 0) (most := 5) hn (cF_T hF hT) h69 (by omega) (by omega) with ⟨v, p, e1, e2, e3, e4⟩ | ⟨e1, e2⟩
    · rw [px_n0] at e4
      rw [e1, e4, pb_i, if_pos (by decide)]
      refine Or.inl ⟨1, v, 0, 0, p, _, rfl, by omega, e3, rfl, cF_trans hF (cF_trans (cF_s (Or.inl rfl)) cF_s71), ?_, ?_, ?_, Or.inl rfl⟩
      · rw [pm_s, if_neg (by omega), pm_s, if_pos ⟨rfl, rfl⟩]
      · rw [pm_s, if_neg (by omega), pm_s, if_neg (by omega)]; exact h693
      · rw [pm_s, if_pos ⟨rfl, rfl⟩]
    · rw [px_n0] at e2
      rw [e1, e2, pb_i, if_pos (by decide)]
      exact Or.inr ⟨i + 1, M3, rfl, by omega, by omega, rfl, hF, h69⟩
  · rw [if_neg c, if_neg c, pb_i, if_pos (by decide), pb_lt, if_pos (by rw [pm_s, if_pos ⟨rfl, rfl⟩])]
    have hF : cF M (xm_s M 69 3 0) := cF_s (Or.inr rfl)
    have h69 : (xm_s M 69 3 0).1 69 2 = nI i := by rw [pm_s, if_neg (by omega)]; exact hi
    have h693 : (xm_s M 69 3 0).1 69 3 = 0 := by rw [pm_s, if_pos ⟨rfl, rfl⟩]
    generalize xm_s M 69 3 0 = M3 at hF h69 h693 ⊢
    rcases px_int (M := M3) (i := i) (w := 0) (most := 300) hn (cF_T hF hT) h69 hin (by omega) with ⟨a, p, M4, e1, e2, e3, e4, e5, e6⟩ | ⟨p, M4, e1, e2, e3, e4, e5⟩
    case inr =>
      rw [px_n0] at e4
      rw [e1, e4, pb_i, if_pos rfl]
      exact Or.inr ⟨p, M4, rfl, e2, e3, rfl, cF_trans hF (cF_q e5), e5.1⟩
    rw [px_n0] at e4
    rw [e1, e4, pb_i, if_neg (by decide)]
    have hF4 := cF_trans hF (cF_q e5)
    show (∃ s a' b t p' M', (if sp_ch T n p = 44 then _ else _) = _ ∧ _) ∨ (∃ p' M', (if sp_ch T n p = 44 then _ else _) = _ ∧ _)
    rcases px_sep (M := M4) (i := p) hn (cF_T hF4 hT) e5.1 e3 with ⟨d1, d2, d3⟩ | ⟨d1, d2⟩
    case inr =>
      rw [if_neg d1, d2, pb_i, if_pos (show (0 : Int32) = 0 from rfl)]
      exact Or.inr ⟨p, M4, rfl, by omega, e3, rfl, hF4, e5.1⟩
    rw [if_pos d1, d3, pb_i, if_neg (show ¬ (1 : Int32) = 0 by decide)]
    have hF6 := cF_trans hF4 (cF_s (M := M4) (v := nI (p + 1)) (Or.inl rfl))
    have h696 : (xm_s M4 69 2 (nI (p + 1))).1 69 2 = nI (p + 1) := by rw [pm_s, if_pos ⟨rfl, rfl⟩]
    have k6 : ∀ j, (xm_s M4 69 2 (nI (p + 1))).1 71 j = M4.1 71 j := fun j => by rw [pm_s, if_neg (by omega)]
    have k63 : (xm_s M4 69 2 (nI (p + 1))).1 69 3 = 0 := by rw [pm_s, if_neg (by omega), e5.2 69 3 (by omega) (by omega)]; exact h693
    generalize xm_s M4 69 2 (nI (p + 1)) = M6 at hF6 h696 k6 k63 ⊢
    rcases px_int (M := M6) (i := p + 1) (w := 1) (most := 300) hn (cF_T hF6 hT) h696 d2 (by omega) with ⟨b, p2, M8, f1, f2, f3, f4, f5, f6⟩ | ⟨p2, M8, f1, f2, f3, f4, f5⟩
    case inr =>
      rw [px_n1] at f4
      rw [f1, f4, pb_i, if_pos rfl]
      exact Or.inr ⟨p2, M8, rfl, by omega, f3, rfl, cF_trans hF6 (cF_q f5), f5.1⟩
    rw [px_n1] at f4
    rw [f1, f4, pb_i, if_neg (by decide)]
    have hF8 := cF_trans hF6 (cF_q f5)
    show (∃ s a' b' t p' M', (if sp_ch T n p2 = 44 then _ else _) = _ ∧ _) ∨ (∃ p' M', (if sp_ch T n p2 = 44 then _ else _) = _ ∧ _)
    rcases px_sep (M := M8) (i := p2) hn (cF_T hF8 hT) f5.1 f3 with ⟨g1, g2, g3⟩ | ⟨g1, g2⟩
    case inr =>
      rw [if_neg g1, g2, pb_i, if_pos (show (0 : Int32) = 0 from rfl)]
      exact Or.inr ⟨p2, M8, rfl, by omega, f3, rfl, hF8, f5.1⟩
    rw [if_pos g1, g3, pb_i, if_neg (show ¬ (1 : Int32) = 0 by decide)]
    have hFA := cF_trans hF8 (cF_s (M := M8) (v := nI (p2 + 1)) (Or.inl rfl))
    have h69A : (xm_s M8 69 2 (nI (p2 + 1))).1 69 2 = nI (p2 + 1) := by rw [pm_s, if_pos ⟨rfl, rfl⟩]
    have kA : ∀ j, (xm_s M8 69 2 (nI (p2 + 1))).1 71 j = M8.1 71 j := fun j => by rw [pm_s, if_neg (by omega)]
    have kA3 : (xm_s M8 69 2 (nI (p2 + 1))).1 69 3 = 0 := by rw [pm_s, if_neg (by omega), f5.2 69 3 (by omega) (by omega)]; exact k63
    generalize xm_s M8 69 2 (nI (p2 + 1)) = MA at hFA h69A kA kA3 ⊢
    rcases px_int (M := MA) (i := p2 + 1) (w := 2) (most := 300000) hn (cF_T hFA hT) h69A g2 (by omega) with ⟨t, p3, MC, u1, u2, u3, u4, u5, u6⟩ | ⟨p3, MC, u1, u2, u3, u4, u5⟩
    case inr =>
      rw [px_n2] at u4
      rw [u1, u4, pb_i, if_pos rfl]
      exact Or.inr ⟨p3, MC, rfl, by omega, u3, rfl, cF_trans hFA (cF_q u5), u5.1⟩
    rw [px_n2] at u4
    rw [u1, u4, pb_i, if_neg (by decide)]
    refine Or.inl ⟨0, a, b, t, p3, MC, rfl, by omega, u3, rfl, cF_trans hFA (cF_q u5), u5.1, ?_, ?_, Or.inr ⟨rfl, ?_, ?_⟩⟩
    · rw [u5.2 69 3 (by omega) (by omega)]; exact kA3
    · rw [u6, if_neg (by omega), kA, f6, if_neg (by omega), k6, e6, if_pos rfl]
    · rw [u6, if_neg (by omega), kA, f6, if_pos rfl]
    · rw [u6, if_pos rfl]
def mf (N N' : xm_M) : Prop := ∀ k j, ¬ (k = 0 ∧ (j = 23 ∨ j = 24)) → N'.1 k j = N.1 k j
theorem mf_refl (N : xm_M) : mf N N := fun _ _ _ => rfl
theorem mf_trans {N N1 N2 : xm_M} (h1 : mf N N1) (h2 : mf N1 N2) : mf N N2 := fun k j a => (h2 k j a).trans (h1 k j a)
theorem mf_s {N : xm_M} {j : Nat} {v : Int32} (hj : j = 23 ∨ j = 24) : mf N (xm_s N 0 j v) := fun k i a => by rw [pm_s, if_neg (by omega)]
theorem pi_as (a b c : Int32) : a + b - c = a + (b - c) := by
  rw [Int32.sub_eq_add_neg, Int32.add_assoc, ← Int32.sub_eq_add_neg]
def mMost (most : Int32) : Prop := most = 5 ∨ most = 300 ∨ most = 300000
theorem pm_top {most c : Int32} (hm : mMost most) : (48 ≤ c ∧ c ≤ (if 9 ≤ most then 57 else 48 + most)) = (48 ≤ c ∧ c ≤ 57 ∧ c - 48 ≤ most) := by
  have e : ∀ (_ : 48 ≤ c.toInt) (_ : c.toInt ≤ 57), (c - 48).toInt = c.toInt - 48 := fun h1 h2 => pn_sub (y := 48) (by rw [show (48 : Int32).toInt = 48 from rfl]; omega) (by rw [show (48 : Int32).toInt = 48 from rfl]; omega)
  have big : ∀ z : Int32, 9 ≤ z.toInt → (48 ≤ c ∧ c ≤ 57) = (48 ≤ c ∧ c ≤ 57 ∧ c - 48 ≤ z) := by
    intro z hz
    refine propext ⟨fun h => ⟨h.1, h.2, ?_⟩, fun h => ⟨h.1, h.2.1⟩⟩
    have h1 : 48 ≤ c.toInt := Int32.le_iff_toInt_le.mp h.1
    have h2 : c.toInt ≤ 57 := Int32.le_iff_toInt_le.mp h.2
    rw [Int32.le_iff_toInt_le, e h1 h2]
    omega
  rcases hm with h | h | h
  · subst h
    rw [show (if (9 : Int32) ≤ 5 then (57 : Int32) else 48 + 5) = 53 from by decide]
    refine propext ⟨fun h => ?_, fun h => ?_⟩
    · have h1 : 48 ≤ c.toInt := Int32.le_iff_toInt_le.mp h.1
      have h2 : c.toInt ≤ 53 := Int32.le_iff_toInt_le.mp h.2
      refine ⟨h.1, Int32.le_iff_toInt_le.mpr (show c.toInt ≤ 57 by omega), Int32.le_iff_toInt_le.mpr ?_⟩
      rw [e h1 (by omega)]
      show c.toInt - 48 ≤ 5
      omega
    · have h1 : 48 ≤ c.toInt := Int32.le_iff_toInt_le.mp h.1
      have h2 : c.toInt ≤ 57 := Int32.le_iff_toInt_le.mp h.2.1
      have h3 := Int32.le_iff_toInt_le.mp h.2.2
      rw [e h1 h2] at h3
      have h4 : c.toInt - 48 ≤ 5 := h3
      exact ⟨h.1, Int32.le_iff_toInt_le.mpr (show c.toInt ≤ 53 by omega)⟩
  · subst h
    rw [if_pos (by decide)]
    exact big 300 (by decide)
  · subst h
    rw [if_pos (by decide)]
    exact big 300000 (by decide)
/-- so far read, at a place, with what is still to be read; or wrong already -/
def mD (n : Nat) (N : xm_M) (X : sE) (K : Nat → sE) : Prop := (∃ i, i ≤ n ∧ N.1 0 24 = 0 ∧ N.1 0 23 = nI i ∧ X = K i) ∨ (∃ p, N.1 0 24 = 1 ∧ N.1 0 23 = nI p ∧ X = (none, p))
theorem mD_s {n r : Nat} {v : Int32} {N : xm_M} {X : sE} {K : Nat → sE} (h : mD n N X K) : mD n (xm_s N 18 r v) X K := by
  have e : ∀ j, (xm_s N 18 r v).1 0 j = N.1 0 j := fun j => by rw [pm_s, if_neg (by omega)]
  unfold mD
  rw [e, e]
  exact h
def sp_k3 (T : Nat → Int32) (n : Nat) (a b : Int32) (q : Nat) : sE := sp_bnd (sp_int T n 300000 q) (fun t p => (some (0, a, b, t), p))
def sp_k2 (T : Nat → Int32) (n : Nat) (a : Int32) (q : Nat) : sE := sp_bnd (sp_int T n 300 q) (fun b p => if sp_ch T n p = 44 then sp_k3 T n a b (p + 1) else (none, p))
def sp_k1 (T : Nat → Int32) (n q : Nat) : sE := sp_bnd (sp_int T n 300 q) (fun a p => if sp_ch T n p = 44 then sp_k2 T n a (p + 1) else (none, p))
theorem mf_25 {N N' : xm_M} (h : mf N N') : N'.1 18 = N.1 18 := funext fun j => h 18 j (by omega)
theorem px_not6 {p : Nat} (hp : p ≤ 100) : ¬ nI p = -6 := fun z => by
  have := congrArg Int32.toInt z
  rw [nI_toInt (by omega)] at this
  have e : (-6 : Int32).toInt = -6 := rfl
  rw [e] at this
  omega
theorem cF_K {M M' : xm_M} (h : cF M M') : cK M M' := fun k j hk => h k j (by omega) (by omega)
