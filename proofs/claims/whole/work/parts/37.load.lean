/-! TEXTS. The fault, and what is loaded. -/
def sp_chain (T : Nat → Int32) (n : Nat) (A : Nat → Int32) : Nat → Nat → Nat → Prop
  | _, 0, i => i = n
  | k, m + 1, i => ∃ s a b t p, sp_ent T n i = (some (s, a, b, t), p) ∧ mRow A k s a b t ∧ sp_chain T n A (k + 1) m (if sp_ch T n p = 59 then p + 1 else p)
theorem mRow_keep {A A' : Nat → Int32} {k : Nat} {s a b t : Int32} (h : mRow A k s a b t) (hA : ∀ j, j < 4 → A' (4 * k + j) = A (4 * k + j)) : mRow A' k s a b t := by
  obtain ⟨h0, h1, h2⟩ := h
  have e0 := hA 0 (by omega)
  have e1 := hA 1 (by omega)
  have e2 := hA 2 (by omega)
  have e3 := hA 3 (by omega)
  refine ⟨e0.trans h0, e1.trans h1, ?_⟩
  rcases h2 with z | ⟨z1, z2, z3⟩
  · exact Or.inl z
  · exact Or.inr ⟨z1, e2.trans z2, e3.trans z3⟩
/-- what the model's reading leaves alone -/
def mF (k0 : Nat) (N N' : xm_M) : Prop := N'.1 0 4 = N.1 0 4 ∧ ∀ c j, ¬ c = 0 → ¬ (c = 18 ∧ 4 * k0 ≤ j) → N'.1 c j = N.1 c j
theorem px_not6 {p : Nat} (hp : p ≤ 100) : ¬ nI p = -6 := fun z => by
  have := congrArg Int32.toInt z
  rw [nI_toInt (by omega)] at this
  have e : (-6 : Int32).toInt = -6 := rfl
  rw [e] at this
  omega
theorem xs_flt {T : Nat → Int32} {n : Nat} (hn : n ≤ 100) : ∀ (q i k : Nat) (M N : xm_M), 2 * k ≤ i → i ≤ n → n - i < q → cT T n M → M.1 69 2 = nI i → mT T n N → N.1 0 23 = nI i → N.1 0 24 = 0 → N.1 0 26 = nI k →
    ∃ x M' N', fX0_findFault_7_it q (nI k) M = some (x, M') ∧ xm_bv (fX4_takeEntry N) (fun M4 => fX4_fault_19_it q M4) = some (x, N') ∧ cF M M' ∧ mF k N N' ∧ (x = -6 → ∃ m, N'.1 0 26 = nI (k + m) ∧ k + m ≤ 51 ∧ sp_chain T n (N'.1 18) k m i) := by
  intro q
  induction q with
  | zero => intro i k M N _ _ h; omega
  | succ q ih =>
    intro i k M N hk hin hq hT hi hTm hi2 h24 h26
    show ∃ x M' N', fX0_findFault_7 (fX0_findFault_7_it q) (nI k) M = some (x, M') ∧ xm_bv (fX4_takeEntry N) (fun M4 => fX4_fault_19 (fX4_fault_19_it q) M4) = some (x, N') ∧ _
    unfold fX0_findFault_7
    have e100 : ((100 : Int32) < nI k) = (100 < k) := px_lt_nI (x := 100) (c := 100) rfl (by omega) (by omega)
    simp only [e100]
    rw [if_neg (show ¬ 100 < k by omega)]
    obtain ⟨N1, n1, n2, n3, n4, n5⟩ := pm_ent hn hTm hi2 hin h24 h26 (by omega)
    rw [n1, pb_v]
    have hF1 : mF k N N1 := ⟨n4, n3⟩
    have hT1 : mT T n N1 := ⟨n4.trans hTm.1, fun j hj => (n3 4 j (by omega) (by omega)).trans (hTm.2 j hj)⟩
    rcases px_ent (M := M) hn hT hi hin with ⟨s, a, b, t, p, M1, c1, c2, c3, c4, c5, c6, _, _, _⟩ | ⟨p, M1, c1, c2, c3, c4, c5, c6⟩
    · rw [c4, pb_i, if_neg (by decide)]
      rcases n5 with ⟨s', a', b', t', p', d1, d2, d3, d4, d5⟩ | ⟨p', d1, d2, d3⟩
      case inr => rw [c1] at d1; exact absurd (congrArg Prod.fst d1) (fun z => by cases z)
      rw [c1] at d1
      obtain ⟨rfl, rfl, rfl, rfl⟩ : s = s' ∧ a = a' ∧ b = b' ∧ t = t' := by
        have := congrArg Prod.fst d1
        simp only [Option.some.injEq, Prod.mk.injEq] at this
        exact this
      obtain rfl : p = p' := congrArg Prod.snd d1
      have hT2 := cF_T c5 hT
      unfold fX4_fault_19 fX4_fault_52 fX4_fault_70
      rw [d4, if_pos rfl, pm_next hn hT1 d3 d2, pb_i, c6, hT2.1]
      have elt : (nI p < nI n) = (p < n) := px_lt_nI rfl (by omega) (by omega)
      have ele : (nI n ≤ nI p) = (n ≤ p) := propext (nI_leI (by omega) (by omega))
      simp only [elt]
      by_cases hp : p < n
      case neg =>
        have hpn : p = n := by omega
        subst hpn
        have ch0 : sp_ch T p p = 0 := if_neg (by omega)
        rw [if_neg hp, ch0, if_neg (by decide), if_pos d4, hT1.1, d3, if_pos (by rw [ele]; omega)]
        refine ⟨_, _, _, rfl, rfl, c5, hF1, fun _ => ⟨1, n2, by omega, s, a, b, t, p, c1, d5, ?_⟩⟩
        rw [ch0, if_neg (by decide)]
        rfl
      rw [if_pos hp, px_takes hn hT2 c6 c3 (by decide)]
      by_cases h59 : sp_ch T n p = 59
      · rw [if_pos h59, if_pos h59, pb_i, if_neg (by decide), pb_lt, pb_lt, show nI k + Int32.ofInt 1 = nI (k + 1) from (nI_succ k).symm, d3, pi_succ]
        obtain ⟨x, M', N', u1, u2, u3, u4, u5⟩ := ih (p + 1) (k + 1) (xm_s M1 69 2 (nI (p + 1))) (xm_s N1 0 23 (nI (p + 1))) (by omega) (by omega) (by omega) (cT_s hT2 (by omega)) (by rw [pm_s, if_pos ⟨rfl, rfl⟩]) (mf_T (mf_s (Or.inl rfl)) hT1) (by rw [pm_s, if_pos ⟨rfl, rfl⟩]) (by rw [pm_s, if_neg (by omega)]; exact d4) (by rw [pm_s, if_neg (by omega)]; exact n2)
        refine ⟨x, M', N', u1, u2, cF_trans c5 (cF_trans (cF_s (Or.inl rfl)) u3), ⟨?_, ?_⟩, ?_⟩
        · rw [u4.1, pm_s, if_neg (by omega)]; exact n4
        · intro c j h1 h2
          rw [u4.2 c j h1 (by omega), pm_s, if_neg (by omega)]
          exact n3 c j h1 h2
        · intro hx
          obtain ⟨m, v1, v2, v3⟩ := u5 hx
          refine ⟨m + 1, ?_, by omega, s, a, b, t, p, c1, ?_, ?_⟩
          · rw [v1]; congr 1; omega
          · refine mRow_keep d5 (fun j hj => ?_)
            rw [u4.2 18 _ (by omega) (by omega), pm_s, if_neg (by omega)]
          · rw [if_pos h59]
            exact v3
      · rw [if_neg h59, if_neg h59, pb_i, if_pos rfl, c6, if_pos d4, hT1.1, d3, if_neg (by rw [ele]; omega)]
        exact ⟨_, _, _, rfl, rfl, c5, hF1, fun z => absurd z (px_not6 (by omega))⟩
    · rw [c4, pb_i, if_pos rfl, c6]
      rcases n5 with ⟨s', a', b', t', p', d1, d2, d3, d4, d5⟩ | ⟨p', d1, d2, d3⟩
      · rw [c1] at d1; exact absurd (congrArg Prod.fst d1) (fun z => by cases z)
      rw [c1] at d1
      obtain rfl : p = p' := congrArg Prod.snd d1
      unfold fX4_fault_19 fX4_fault_52 fX4_fault_70
      rw [d3, if_neg (by decide), if_neg (by decide), d2]
      exact ⟨_, _, _, rfl, rfl, c5, hF1, fun z => absurd z (px_not6 (by omega))⟩
theorem cF_K {M M' : xm_M} (h : cF M M') : cK M M' := fun k j hk => h k j (by omega) (by omega)
theorem mF_K {N N' : xm_M} {k : Nat} (h : mF k N N') : mK N N' := fun c j hc => by
  rcases hc with ⟨rfl, rfl⟩ | hc
  · exact h.1
  · exact h.2 c j (by omega) (by omega)
theorem xs_fault0 {M N : xm_M} (h : xR M N) : ∃ (n : Nat) (x : Int32) (M1 N1 : xm_M), n ≤ 100 ∧ fX0_findFault M = some (x, M1) ∧ fX4_fault N = some (x, N1) ∧ xR M1 N1 ∧ cT (M.1 70) n M1 ∧ (x = -6 → ∃ m, N1.1 0 26 = nI m ∧ m ≤ 51 ∧ sp_chain (M.1 70) n (N1.1 18) 0 m 0) := by
  obtain ⟨n, hn, hn1, hn2, _⟩ := pn_ofI (n := 100) h.2.2.2.2.1 h.2.2.2.2.2.1
  have e4 : N.1 0 4 = nI n := by rw [← h.2.2.2.1]; exact hn1
  have hT : cT (M.1 70) n M := ⟨hn1, fun j hj => rfl⟩
  have hTm : mT (M.1 70) n N := ⟨e4, fun j hj => (h.2.2.2.2.2.2 j (by rw [hn2]; omega)).symm⟩
  have hTm3 : mT (M.1 70) n (xm_s (xm_s (xm_s N 0 23 0) 0 24 0) 0 26 0) := ⟨by rw [pm_s, if_neg (by omega), pm_s, if_neg (by omega), pm_s, if_neg (by omega)]; exact e4, fun j hj => by rw [pm_s, if_neg (by omega), pm_s, if_neg (by omega), pm_s, if_neg (by omega)]; exact hTm.2 j hj⟩
  unfold fX0_findFault fX4_fault
  rw [pb_lt, pb_lt, pb_lt, pb_lt, pb_lt]
  obtain ⟨x, M', N', u1, u2, u3, u4, u5⟩ := xs_flt hn xm_N 0 0 (xm_s M 69 2 0) (xm_s (xm_s (xm_s N 0 23 0) 0 24 0) 0 26 0) (Nat.le_refl _) (Nat.zero_le _) (by show n - 0 < 4096; omega) (cT_s hT (by omega)) (by rw [pm_s, if_pos ⟨rfl, rfl⟩]; rfl) hTm3 (by rw [pm_s, if_neg (by omega), pm_s, if_neg (by omega), pm_s, if_pos ⟨rfl, rfl⟩]; rfl) (by rw [pm_s, if_neg (by omega), pm_s, if_pos ⟨rfl, rfl⟩]) (by rw [pm_s, if_pos ⟨rfl, rfl⟩]; rfl)
  refine ⟨n, x, M', N', hn, u1, u2, ?_, ?_, ?_⟩
  · refine xR_keep h (cF_K (cF_trans (cF_s (Or.inl rfl)) u3)) (mK_trans (fun c j hc => ?_) (mF_K u4))
    rw [pm_s, if_neg (by omega), pm_s, if_neg (by omega), pm_s, if_neg (by omega)]
  · exact cF_T (cF_trans (cF_s (Or.inl rfl)) u3) hT
  · intro hx
    obtain ⟨m, v1, v2, v3⟩ := u5 hx
    rw [Nat.zero_add] at v1 v2
    exact ⟨m, v1, v2, v3⟩
theorem xs_fault (M N : xm_M) (h : xR M N) : ∃ (r : Int32) (M1 N1 : xm_M), fX3_fault M = some (r, M1) ∧ fX4_fault N = some (r, N1) ∧ xR M1 N1 := by
  obtain ⟨n, x, M1, N1, _, u1, u2, u3, _, _⟩ := xs_fault0 h
  unfold fX3_fault
  rw [u1, pb_i]
  exact ⟨x, M1, N1, rfl, u2, u3⟩
/-- the pad emptied, at the end of a load -/
theorem xs_loadE {k : Nat} {M N : xm_M} (h : xR M N) : ∃ (r : Int32) (M1 N1 : xm_M), fX3_load_89 (nI k) M = some (r, M1) ∧ fX4_load_113 (nI k) N = some (r, N1) ∧ xR M1 N1 := by
  unfold fX3_load_89 fX4_load_113
  rw [pb_lt, pb_lt]
  refine ⟨_, _, _, rfl, rfl, xR_pad h (fun k j hk => by rw [pm_s, if_neg (by omega)]) (fun k j k1 k2 => by rw [pm_s, if_neg (by omega)]) ?_⟩
  rw [pm_s, if_pos ⟨rfl, rfl⟩, pm_s, if_pos ⟨rfl, rfl⟩]
  refine ⟨rfl, by decide, by decide, ?_⟩
  intro j hj
  have : (0 : Int32).toInt = 0 := rfl
  omega
theorem xs_loadL {T : Nat → Int32} {n : Nat} (hn : n ≤ 100) : ∀ (m k i q : Nat) (M N : xm_M), xR M N → cT T n M → M.1 69 2 = nI i → i ≤ n → sp_chain T n (N.1 18) k m i → N.1 0 26 = nI (k + m) → k + m ≤ 51 → m + 1 < q →
    ∃ (r : Int32) (M1 N1 : xm_M), fX3_load_27_it q (nI k) (nI k) M = some (r, M1) ∧ fX4_load_16_it q (nI k) 1 N = some (r, N1) ∧ xR M1 N1 := by
  intro m
  induction m with
  | zero =>
    intro k i q M N h hT hi hin hc h26 hk hq
    obtain ⟨q, rfl⟩ : ∃ q', q = q' + 1 := ⟨q - 1, by omega⟩
    show ∃ (r : Int32) (M1 N1 : xm_M), fX3_load_27 (fX3_load_27_it q) (nI k) (nI k) M = some (r, M1) ∧ fX4_load_16 (fX4_load_16_it q) (nI k) 1 N = some (r, N1) ∧ xR M1 N1
    unfold fX3_load_27 fX4_load_16
    have hin2 : i = n := hc
    have e100 : ¬ (100 : Int32) ≤ nI k := by
      rw [show (100 : Int32) = nI 100 from rfl, nI_leI (by omega) (by omega)]
      omega
    rw [if_neg e100, hT.1, hi, if_pos (by rw [nI_leI (by omega) (by omega)]; omega), if_neg (by decide), h26, if_pos (by rw [nI_leI (by omega) (by omega)]; omega)]
    exact xs_loadE h
  | succ m ih =>
    intro k i q M N h hT hi hin hc h26 hk hq
    obtain ⟨q, rfl⟩ : ∃ q', q = q' + 1 + 1 := ⟨q - 2, by omega⟩
    show ∃ (r : Int32) (M1 N1 : xm_M), fX3_load_27 (fX3_load_27_it (q + 1)) (nI k) (nI k) M = some (r, M1) ∧ fX4_load_16 (fX4_load_16_it (q + 1)) (nI k) 1 N = some (r, N1) ∧ xR M1 N1
    obtain ⟨s, a, b, t, p, c1, c2, c3⟩ := hc
    rcases px_ent (M := M) hn hT hi hin with ⟨s', a', b', t', p', M1, d1, d2, d3, d4, d5, d6, d7, d8, d9⟩ | ⟨p', M1, d1, _⟩
    case inr => rw [c1] at d1; exact absurd (congrArg Prod.fst d1) (fun z => by cases z)
    rw [c1] at d1
    obtain ⟨rfl, rfl, rfl, rfl⟩ : s = s' ∧ a = a' ∧ b = b' ∧ t = t' := by
      have := congrArg Prod.fst d1
      simp only [Option.some.injEq, Prod.mk.injEq] at this
      exact this
    obtain rfl : p = p' := congrArg Prod.snd d1
    unfold fX3_load_27 fX4_load_16
    have e100 : ¬ (100 : Int32) ≤ nI k := by
      rw [show (100 : Int32) = nI 100 from rfl, nI_leI (by omega) (by omega)]
      omega
    rw [if_neg e100, hT.1, hi, if_neg (by rw [nI_leI (by omega) (by omega)]; omega), d4, pb_i, if_neg (by decide)]
    have hT1 := cF_T d5 hT
    -- behind the entry: a sign that parts, or the end
    have htk : ∃ y M2, fX0_takes 59 M1 = some (y, M2) ∧ cF M1 M2 ∧ M2.1 69 2 = nI (if sp_ch T n p = 59 then p + 1 else p) ∧ (if sp_ch T n p = 59 then p + 1 else p) ≤ n ∧ M2.1 69 3 = s ∧ M2.1 71 = M1.1 71 := by
      rw [px_takes hn hT1 d6 d3 (by decide)]
      by_cases h59 : sp_ch T n p = 59
      · have := sp_chn (T := T) (n := n) (i := p) (by rw [h59]; decide)
        rw [if_pos h59, if_pos h59]
        exact ⟨_, _, rfl, cF_s (Or.inl rfl), by rw [pm_s, if_pos ⟨rfl, rfl⟩], by omega, by rw [pm_s, if_neg (by omega)]; exact d7, pm_row (by omega)⟩
      · rw [if_neg h59, if_neg h59]
        exact ⟨_, _, rfl, cF_refl _, d6, d3, d7, rfl⟩
    obtain ⟨y, M2, t1, t2, t3, t4, t5, t6⟩ := htk
    rw [t1, pb_i]
    generalize (if sp_ch T n p = 59 then p + 1 else p) = i' at c3 t3 t4
    have hF2 := cF_trans d5 t2
    have hT2 := cF_T t2 hT1
    have x2 : xR M2 N := xR_keep h (cF_K hF2) (mK_refl N)
    have g0 : (nI (4 * k)).toNatClampNeg = 4 * k := nI_clamp (by omega)
    have g1 : (nI (4 * k) + 1).toNatClampNeg = 4 * k + 1 := by rw [pi_succ]; exact nI_clamp (by omega)
    have g2 : (nI (4 * k) + 2).toNatClampNeg = 4 * k + 2 := by rw [show (2 : Int32) = nI 2 from rfl, pi_add]; exact nI_clamp (by omega)
    have g3 : (nI (4 * k) + 3).toNatClampNeg = 4 * k + 3 := by rw [show (3 : Int32) = nI 3 from rfl, pi_add]; exact nI_clamp (by omega)
    have w0 : ∀ {α : Type} (x y : α), (if nI (4 * k) < 0 ∨ 250 ≤ (nI (4 * k)).toNatClampNeg then x else y) = y := fun x y => if_neg (px_kn (n := 250) (by omega) (by omega))
    have w1 : ∀ {α : Type} (x y : α), (if nI (4 * k) + 1 < 0 ∨ 250 ≤ (nI (4 * k) + 1).toNatClampNeg then x else y) = y := fun x y => if_neg (by rw [pi_succ]; exact px_kn (n := 250) (by omega) (by omega))
    have w2 : ∀ {α : Type} (x y : α), (if nI (4 * k) + 2 < 0 ∨ 250 ≤ (nI (4 * k) + 2).toNatClampNeg then x else y) = y := fun x y => if_neg (by rw [show (2 : Int32) = nI 2 from rfl, pi_add]; exact px_kn (n := 250) (by omega) (by omega))
    have w3 : ∀ {α : Type} (x y : α), (if nI (4 * k) + 3 < 0 ∨ 250 ≤ (nI (4 * k) + 3).toNatClampNeg then x else y) = y := fun x y => if_neg (by rw [show (3 : Int32) = nI 3 from rfl, pi_add]; exact px_kn (n := 250) (by omega) (by omega))
    rw [if_neg (by decide), h26, if_neg (by rw [nI_leI (by omega) (by omega)]; omega), show (4 : Int32) * nI k = nI (4 * k) from by rw [show (4 : Int32) = nI 4 from rfl, pi_mul], pb_lt]
    simp only [w0, w1, w2, w3]
    rw [g0, g1, g2, g3]
    obtain ⟨m0, m1, m2⟩ := c2
    -- what is added, on both sides
    have hadd : ∃ f g, xAdd M2 N f g ∧ fX3_addRead M2 = f ∧ (∀ (F : Int32 → xm_M → Option (Int32 × xm_M)), (if N.1 18 (4 * k) = 1 then xm_bi (fX4_see (N.1 18 (4 * k + 1)) N) F else xm_bi (fX4_step (N.1 18 (4 * k + 1)) (N.1 18 (4 * k + 2)) (N.1 18 (4 * k + 3)) N) F) = xm_bi g F) := by
      have r0 : fX3_item 71 3 0 M2 = some (a, M2) := by
        rw [px_item (px_kl (by decide)) (by decide), show (0 : Int32).toNatClampNeg = 0 from by decide, t6, d8]
      unfold fX3_addRead
      rw [r0, pb_i, t5, m0, m1]
      rcases d9 with z | ⟨z1, z2, z3⟩
      · subst z
        refine ⟨_, _, xs_addSight a M2 N x2, ?_, fun F => if_pos rfl⟩
        rw [if_neg (by decide)]
        obtain ⟨r, Ma, Na, e1, _⟩ := xs_addSight a M2 N x2
        rw [e1, pb_i]
      · subst z1
        have r1 : fX3_item 71 3 1 M2 = some (b, M2) := by
          rw [px_item (px_kl (by decide)) (by decide), show (1 : Int32).toNatClampNeg = 1 from by decide, t6, z2]
        have r2 : fX3_item 71 3 2 M2 = some (t, M2) := by
          rw [px_item (px_kl (by decide)) (by decide), show (2 : Int32).toNatClampNeg = 2 from by decide, t6, z3]
        rcases m2 with y | ⟨_, y2, y3⟩
        · exact absurd y (by decide)
        rw [r1, y2, y3]
        refine ⟨_, _, xs_addStep a b t M2 N x2, ?_, fun F => if_neg (by decide)⟩
        rw [if_pos rfl, pb_i, r2, pb_i]
        obtain ⟨r, Ma, Na, e1, _⟩ := xs_addStep a b t M2 N x2
        rw [e1, pb_i]
    obtain ⟨f, g, ⟨r, Ma, Na, v1, v2, v3, v4, v5⟩, hf, hg⟩ := hadd
    rw [hf, hg, v1, v2, pb_i, pb_i]
    unfold fX4_load_85 fX4_load_97 fX4_load_108
    simp only [pb_lt]
    have hTa : cT T n Ma := ⟨(v4 69 1 (by omega)).trans hT2.1, fun j hj => (v4 70 j (by omega)).trans (hT2.2 j hj)⟩
    have ha2 : Ma.1 69 2 = nI i' := (v4 69 2 (by omega)).trans t3
    have hb26 : Na.1 0 26 = nI (k + 1 + m) := by rw [v5 0 26 (by omega), h26]; congr 1; omega
    have hb18 : Na.1 18 = N.1 18 := funext fun j => v5 18 j (by omega)
    by_cases hr : 0 ≤ r
    · rw [if_pos hr, if_neg (Int32.not_lt.mpr hr), if_neg (by decide), show nI k + Int32.ofInt 1 = nI (k + 1) from (nI_succ k).symm, pi_succ]
      exact ih (k + 1) i' (q + 1) Ma Na v3 hTa ha2 t4 (by rw [hb18]; exact c3) hb26 (by omega) (by omega)
    · rw [if_neg hr, if_pos (Int32.not_le.mp hr), if_pos trivial, Int32.add_zero]
      show ∃ (r : Int32) (M1 N1 : xm_M), fX3_load_89 (nI k) Ma = some (r, M1) ∧ fX4_load_16 (fX4_load_16_it q) (nI k) 0 Na = some (r, N1) ∧ xR M1 N1
      unfold fX4_load_16
      rw [if_pos rfl]
      exact xs_loadE v3
theorem xs_load (M N : xm_M) (h : xR M N) : ∃ (r : Int32) (M1 N1 : xm_M), fX3_load M = some (r, M1) ∧ fX4_load N = some (r, N1) ∧ xR M1 N1 := by
  obtain ⟨n, x, M1, N1, hn, u1, u2, u3, u4, u5⟩ := xs_fault0 h
  unfold fX3_load fX4_load
  rw [u1, u2, pb_i, pb_i]
  by_cases hx : x = -6
  · obtain ⟨m, v1, v2, v3⟩ := u5 hx
    rw [if_pos hx, if_pos hx]
    simp only [pb_lt]
    rw [show (0 : Int32) = nI 0 from rfl]
    have x2 : xR (xm_s M1 69 2 (nI 0)) N1 := xR_keep u3 (cF_K (cF_s (Or.inl rfl))) (mK_refl N1)
    exact xs_loadL hn m 0 0 xm_N _ N1 x2 (cT_s u4 (by omega)) (by rw [pm_s, if_pos ⟨rfl, rfl⟩]) (Nat.zero_le _) v3 (by rw [Nat.zero_add]; exact v1) (by omega) (by show m + 1 < 4096; omega)
  · rw [if_neg hx, if_neg hx]
    exact ⟨_, _, _, rfl, rfl, u3⟩
