/-! THE LAW: turns, walked -/
section CC
variable {M0 M : xm_M} {n : Nat}
theorem ca_c1 (hS : cS (cVs 1 M0) n) (h : cJ M0 M) : qA (cJ M0) (fX3_count 1 M) (sp_nK (cVs 1 M0) 0 n) := ca_countK (k := 0) hS h (by omega)
theorem ca_c2 (hS : cS (cVs 1 M0) n) (h : cJ M0 M) : qA (cJ M0) (fX3_count 2 M) (sp_nK (cVs 1 M0) 1 n) := ca_countK (k := 1) hS h (by omega)
theorem ca_c3 (hS : cS (cVs 1 M0) n) (h : cJ M0 M) : qA (cJ M0) (fX3_count 3 M) (sp_nK (cVs 1 M0) 2 n) := ca_countK (k := 2) hS h (by omega)
theorem ca_c4 (hS : cS (cVs 1 M0) n) (h : cJ M0 M) : qA (cJ M0) (fX3_count 4 M) (sp_nK (cVs 1 M0) 3 n) := ca_countK (k := 3) hS h (by omega)
theorem ca_c5 (hS : cS (cVs 1 M0) n) (h : cJ M0 M) : qA (cJ M0) (fX3_count 5 M) (sp_nK (cVs 1 M0) 4 n) := ca_countK (k := 4) hS h (by omega)
theorem ca_c12 (h : cJ M0 M) : qA (cJ M0) (fX3_count 12 M) (cVs 1 M0 0 0) := ca_countV (j := 0) h (by omega)
theorem ca_c13 (h : cJ M0 M) : qA (cJ M0) (fX3_count 13 M) (cVs 1 M0 0 1) := ca_countV (j := 1) h (by omega)
theorem ca_c14 (h : cJ M0 M) : qA (cJ M0) (fX3_count 14 M) (cVs 1 M0 0 2) := ca_countV (j := 2) h (by omega)
theorem ca_c15 (h : cJ M0 M) : qA (cJ M0) (fX3_count 15 M) (cVs 1 M0 0 3) := ca_countV (j := 3) h (by omega)
theorem ca_c16 (h : cJ M0 M) : qA (cJ M0) (fX3_count 16 M) (cVs 1 M0 0 4) := ca_countV (j := 4) h (by omega)
theorem ca_c17 (h : cJ M0 M) : qA (cJ M0) (fX3_count 17 M) (cVs 1 M0 0 5) := ca_countV (j := 5) h (by omega)
theorem ca_c20 (h : cJ M0 M) : qA (cJ M0) (fX3_count 20 M) (cVs 1 M0 0 8) := ca_countV (j := 8) h (by omega)
end CC
section QL
variable {α β : Type} {J : xm_M → Prop} {r : α}
theorem ql2 {v v' : β} {K : β → Option (α × xm_M)} (e : v = v') (k : qA J (K v') r) : qA J (xm_lt v K) r := by rw [e]; exact k
theorem qe {I : xm_M → Prop} {X : Option (Int32 × xm_M)} {x y : Int32} (h : qA I X x) (e : x = y) : qA I X y := e ▸ h
end QL
section LT
variable {M0 : xm_M} {n e : Nat}
theorem lw_t329 (hS : cS (cVs 1 M0) n) (he : e < n) (hs : ¬ 0 ≤ cVs 1 M0 9 e) (h0 : ¬ (cVs 1 M0 10 e = 0 ∧ cVs 1 M0 11 e = 0)) {M : xm_M} (hJ : cJ M0 M) {turn d : Int64} (hd : (sp_F (cVs 1 M0) e 6).toInt64 = d) (ht : (sp_T (cVs 1 M0) e (sp_P (cVs 1 M0) e).2.2.2.2).toInt64 = turn) : qA (cJ M0) (fL_turns_329 (nI e) (sp_P (cVs 1 M0) e).2.2.1 turn d M) 1 := by
  obtain ⟨_, _, gc⟩ := sp_go hs h0
  have hH : sp_head ((sp_P (cVs 1 M0) e).2.2.1.toInt64 + turn) = sp_H (cVs 1 M0) e (sp_P (cVs 1 M0) e) := by rw [← ht]; rfl
  have hHin : 0 ≤ (sp_H (cVs 1 M0) e (sp_P (cVs 1 M0) e)).toInt ∧ (sp_H (cVs 1 M0) e (sp_P (cVs 1 M0) e)).toInt < 3600000 := by rw [← hH]; exact sp_head_in _
  have hb : sp_ax (sp_P (cVs 1 M0) (e + 1)) 2 = (sp_P (cVs 1 M0) (e + 1)).2.2.1 := rfl
  unfold fL_turns_329
  refine qb (ca_about (w := 6) hS hJ he (by omega)) (fun M hJ => ?_)
  refine qt ((pl_b _ _).1.mpr hd) ?_
  refine qb (ca_about (w := 7) hS hJ he (by omega)) (fun M hJ => ?_)
  refine qp (lw_round _ _) ?_
  rw [hH]
  generalize sp_H (cVs 1 M0) e (sp_P (cVs 1 M0) e) = H at gc hHin ⊢
  rcases gc with ⟨g7, g8, gh⟩ | ⟨c, c1, c2, g7, g8, gh⟩
  · rw [g7]
    refine qf (by decide) (qt rfl ?_)
    refine qb (ca_about (w := 8) hS hJ he (by omega)) (fun M hJ => ?_)
    refine qt g8 ?_
    refine qb (ca_poseE (w := 2) hS hJ he (by omega)) (fun M hJ => ?_)
    exact qt (by rw [hb, gh]) (qr hJ)
  · have hp := sp_pull_in hS.1 hHin.1 hHin.2 c1 c2
    have h9 : (cVs 1 M0 1 0).toNatClampNeg = (cVs 1 M0 1 0).toInt.toNat := rfl
    have p0 := hS.1.2.2.2.2.2.2.2.2.2.1
    have p8 := hS.1.2.2.2.2.2.2.2.2.1
    have ec : (nI c).toInt = (c : Int) := nI_toInt (by omega)
    rw [g7]
    refine qt (by rw [pn_nn, ec]; omega) ?_
    refine qb (qe (ca_about (w := 8) hS hJ he (by omega)) g8) (fun M hJ => ?_)
    refine qb (ca_count9 hS hJ) (fun M hJ => ?_)
    refine qf (by rw [Int32.le_iff_toInt_le, ec]; omega) ?_
    refine qp (lw_size _ _) ?_
    refine qb (ca_c20 hJ) (fun M hJ => ?_)
    refine qf (by rw [Int32.lt_iff_toInt_lt]; omega) ?_
    refine qb (ca_poseE (w := 2) hS hJ he (by omega)) (fun M hJ => ?_)
    refine qp (lw_round _ _) ?_
    refine qt (by rw [hb, gh]) ?_
    refine qp (lw_size _ _) ?_
    have c9 : (900000 : Int32).toInt = 900000 := rfl
    exact qf (by rw [Int32.lt_iff_toInt_lt, c9]; omega) (qr hJ)
theorem lw_t267 (hS : cS (cVs 1 M0) n) (he : e < n) (hs : ¬ 0 ≤ cVs 1 M0 9 e) (h0 : ¬ (cVs 1 M0 10 e = 0 ∧ cVs 1 M0 11 e = 0)) {M : xm_M} (hJ : cJ M0 M) {k : Int32} {a b v turn : Int64} (h3 : k = 3 → (sp_F (cVs 1 M0) e 6).toInt64 = (2 * a + sp_s (cVs 1 M0 0 2) v) / 2) (h2 : ¬ k = 3 → k = 2 → (sp_F (cVs 1 M0) e 6).toInt64 = (2 * b - sp_s (cVs 1 M0 0 2) v) / 2) (h1 : ¬ k = 3 → ¬ k = 2 → (sp_F (cVs 1 M0) e 6).toInt64 = (a + b) / 2) (ht : (sp_T (cVs 1 M0) e (sp_P (cVs 1 M0) e).2.2.2.2).toInt64 = turn) : qA (cJ M0) (fL_turns_267 (nI e) k (sp_P (cVs 1 M0) e).2.2.1 a b (1000 * (cVs 1 M0 0 2).toInt64) v turn M) 1 := by
  unfold fL_turns_267
  refine ql2 (v' := sp_s (cVs 1 M0 0 2) v) rfl ?_
  refine qc (fun z => lw_t329 hS he hs h0 hJ (h3 z) ht) (fun z => qc (fun y => lw_t329 hS he hs h0 hJ (h2 z y) ht) (fun y => lw_t329 hS he hs h0 hJ (h1 z y) ht))
theorem lw_t213 (hS : cS (cVs 1 M0) n) (he : e < n) (hs : ¬ 0 ≤ cVs 1 M0 9 e) (h0 : ¬ (cVs 1 M0 10 e = 0 ∧ cVs 1 M0 11 e = 0)) {M : xm_M} (hJ : cJ M0 M) {k s : Int32} {a b w v turn : Int64} (h3 : k = 3 → (sp_F (cVs 1 M0) e 6).toInt64 = (2 * a + sp_s (cVs 1 M0 0 2) v) / 2) (h2 : ¬ k = 3 → k = 2 → (sp_F (cVs 1 M0) e 6).toInt64 = (2 * b - sp_s (cVs 1 M0 0 2) v) / 2) (h1 : ¬ k = 3 → ¬ k = 2 → (sp_F (cVs 1 M0) e 6).toInt64 = (a + b) / 2) (ht : (sp_T (cVs 1 M0) e (sp_P (cVs 1 M0) e).2.2.2.2).toInt64 = turn) (hb : s = 0 → (turn ≤ w ∨ turn ≤ v) ∧ (w ≤ turn ∨ v ≤ turn)) : qA (cJ M0) (fL_turns_213 (nI e) k (sp_P (cVs 1 M0) e).2.2.1 a b (1000 * (cVs 1 M0 0 2).toInt64) w v s turn M) 1 := by
  obtain ⟨⟨_, _, _, _, _, g5, _⟩, _⟩ := sp_go hs h0
  have tail : ∀ M, cJ M0 M → qA (cJ M0) (fL_turns_267 (nI e) k (sp_P (cVs 1 M0) e).2.2.1 a b (1000 * (cVs 1 M0 0 2).toInt64) v turn M) 1 := fun M hJ => lw_t267 hS he hs h0 hJ h3 h2 h1 ht
  have t249 : ∀ M, cJ M0 M → s = 0 → qA (cJ M0) (fL_turns_249 (nI e) k (sp_P (cVs 1 M0) e).2.2.1 a b (1000 * (cVs 1 M0 0 2).toInt64) w v turn M) 1 := fun M hJ z => by
    unfold fL_turns_249
    refine qc (fun _ => tail M hJ) (fun y => qt ?_ (tail M hJ))
    rcases (hb z).2 with x | x
    · exact absurd ((pl_b _ _).2.1.mpr x) y
    · exact (pl_b _ _).2.1.mpr x
  unfold fL_turns_213
  refine qb (qe (ca_about (w := 5) hS hJ he (by omega)) g5) (fun M hJ => ?_)
  refine qt ((pl_b _ _).1.mpr ht) ?_
  refine qc (fun z => ?_) (fun _ => tail M hJ)
  refine qc (fun _ => t249 M hJ z) (fun y => qf ?_ (t249 M hJ z))
  rcases (hb z).1 with x | x
  · exact absurd ((pl_b _ _).2.2.2.1.mpr x) y
  · exact fun q => Int64.not_le.mpr ((pl_b _ _).2.2.1.mp q) x
end LT
theorem lw_turns {M0 M : xm_M} {n e : Nat} (hS : cS (cVs 1 M0) n) (hJ : cJ M0 M) (he : e < n) (hs : ¬ 0 ≤ cVs 1 M0 9 e) (h0 : ¬ (cVs 1 M0 10 e = 0 ∧ cVs 1 M0 11 e = 0)) : qA (cJ M0) (fL_turns (nI e) (sp_F (cVs 1 M0) e 0) (sp_P (cVs 1 M0) e).2.2.2.2 (sp_P (cVs 1 M0) e).2.2.1 M) 1 := by
  obtain ⟨⟨g0, g1, g2, g3, g4, g5, g6⟩, _, _⟩ := sp_go hs h0
  obtain ⟨⟨r10, r11, r12⟩, rb⟩ := sp_ranges hS he hs
  obtain ⟨q0, q1, q2, q3, q4, _⟩ := id hS.1
  have hw : -100000000 ≤ (sp_stepW (cVs 1 M0) e).toInt ∧ (sp_stepW (cVs 1 M0) e).toInt ≤ 100000000 := sp_w_in q0 q1 q2 r10 r11
  have hv := sp_v_in rb r12
  have hT : (sp_T (cVs 1 M0) e (sp_P (cVs 1 M0) e).2.2.2.2).toInt64 = _ := sp_turn64 q3 q4 hw hv
  have eA : (sp_A (cVs 1 M0) e).toInt = (cVs 1 M0 0 0).toInt * (cVs 1 M0 10 e).toInt ∧ -(2000 * 300) ≤ (cVs 1 M0 0 0).toInt * (cVs 1 M0 10 e).toInt ∧ (cVs 1 M0 0 0).toInt * (cVs 1 M0 10 e).toInt ≤ 2000 * 300 := pn_m64 (a := 2000) (b := 300) (by omega) (by omega) (by omega) (by omega) (by omega)
  have eB : (sp_B (cVs 1 M0) e).toInt = (cVs 1 M0 0 1).toInt * (cVs 1 M0 11 e).toInt ∧ -(2000 * 300) ≤ (cVs 1 M0 0 1).toInt * (cVs 1 M0 11 e).toInt ∧ (cVs 1 M0 0 1).toInt * (cVs 1 M0 11 e).toInt ≤ 2000 * 300 := pn_m64 (a := 2000) (b := 300) (by omega) (by omega) (by omega) (by omega) (by omega)
  have hD : (sp_Dd (cVs 1 M0) e (sp_P (cVs 1 M0) e).2.2.2.2).toInt64 = _ := (sp_d64 (sl := cVs 1 M0 0 3) (ba := cVs 1 M0 0 2) (a := sp_A (cVs 1 M0) e) (b := sp_B (cVs 1 M0) e) (w := sp_stepW (cVs 1 M0) e) (v := sp_v (sp_P (cVs 1 M0) e).2.2.2.2 (cVs 1 M0 12 e)) q2 (by omega) (by omega) hv).1
  have hK : sp_K (cVs 1 M0) e (sp_P (cVs 1 M0) e).2.2.2.2 = if (cVs 1 M0 0 3).toInt64 < sp_ab (sp_stepW (cVs 1 M0) e - sp_v (sp_P (cVs 1 M0) e).2.2.2.2 (cVs 1 M0 12 e)) then (if sp_stepW (cVs 1 M0) e ≤ sp_v (sp_P (cVs 1 M0) e).2.2.2.2 (cVs 1 M0 12 e) then 2 else 3) else 1 := rfl
  have hsl := sp_slip q3 hw hv
  have hbt := sp_between q4 hw hv
  have hw4 : (sp_F (cVs 1 M0) e 4).toInt64 = sp_stepW (cVs 1 M0) e := by rw [g4, pn_64 (by omega) (by omega)]
  rw [← g6] at hD
  rw [← g0] at hK
  have hb0 := (sp_baseOk q2.1 q2.2).2
  have ew : ((cVs 1 M0 0 1).toInt64 * (cVs 1 M0 11 e).toInt64 - (cVs 1 M0 0 0).toInt64 * (cVs 1 M0 10 e).toInt64) * 572958 / (1000 * (cVs 1 M0 0 2).toInt64) = sp_stepW (cVs 1 M0) e := rfl
  have ev : (cVs 1 M0 12 e - (sp_P (cVs 1 M0) e).2.2.2.2 / 16).toInt64 = sp_v (sp_P (cVs 1 M0) e).2.2.2.2 (cVs 1 M0 12 e) := rfl
  have ea : (cVs 1 M0 0 0).toInt64 * (cVs 1 M0 10 e).toInt64 = sp_A (cVs 1 M0) e := rfl
  have eb : (cVs 1 M0 0 1).toInt64 * (cVs 1 M0 11 e).toInt64 = sp_B (cVs 1 M0) e := rfl
  rw [ea, eb] at ew
  generalize sp_v (sp_P (cVs 1 M0) e).2.2.2.2 (cVs 1 M0 12 e) = v at hv hT hD hK hsl hbt ev
  generalize sp_stepW (cVs 1 M0) e = w at hw hT hD hK hsl hbt hw4 ew
  generalize sp_A (cVs 1 M0) e = a at hD ea ew
  generalize sp_B (cVs 1 M0) e = b at hD eb ew
  -- the kind, the distance
  have h3 : sp_F (cVs 1 M0) e 0 = 3 → (sp_F (cVs 1 M0) e 6).toInt64 = (2 * a + sp_s (cVs 1 M0 0 2) v) / 2 := fun z => by
    rw [z] at hK
    rw [hD, sp_dist1]
    by_cases c1 : (cVs 1 M0 0 3).toInt64 < sp_ab (w - v)
    · rw [if_pos c1] at hK ⊢
      by_cases c2 : w ≤ v
      · rw [if_pos c2] at hK; exact absurd hK (by decide)
      · rw [if_neg c2]
    · rw [if_neg c1] at hK; exact absurd hK (by decide)
  have h2 : ¬ sp_F (cVs 1 M0) e 0 = 3 → sp_F (cVs 1 M0) e 0 = 2 → (sp_F (cVs 1 M0) e 6).toInt64 = (2 * b - sp_s (cVs 1 M0 0 2) v) / 2 := fun _ z => by
    rw [z] at hK
    rw [hD, sp_dist2]
    by_cases c1 : (cVs 1 M0 0 3).toInt64 < sp_ab (w - v)
    · rw [if_pos c1] at hK ⊢
      by_cases c2 : w ≤ v
      · rw [if_pos c2]
      · rw [if_neg c2] at hK; exact absurd hK (by decide)
    · rw [if_neg c1] at hK; exact absurd hK (by decide)
  have h1 : ¬ sp_F (cVs 1 M0) e 0 = 3 → ¬ sp_F (cVs 1 M0) e 0 = 2 → (sp_F (cVs 1 M0) e 6).toInt64 = (a + b) / 2 := fun z y => by
    rw [hD]
    by_cases c1 : (cVs 1 M0 0 3).toInt64 < sp_ab (w - v)
    · rw [if_pos c1] at hK
      by_cases c2 : w ≤ v
      · rw [if_pos c2] at hK; exact absurd hK y
      · rw [if_neg c2] at hK; exact absurd hK z
    · rw [if_neg c1]
  -- behind the slip
  have t175 : ∀ (M : xm_M) (s : Int32), cJ M0 M → (s = 0 ↔ ¬ (cVs 1 M0 0 3).toInt64 < sp_ab (w - v)) → qA (cJ M0) (fL_turns_175 (nI e) (sp_F (cVs 1 M0) e 0) (sp_P (cVs 1 M0) e).2.2.1 a b (1000 * (cVs 1 M0 0 2).toInt64) w v s M) 1 := by
    intro M s hJ hs2
    unfold fL_turns_175
    refine qc (fun z => ?_) (fun z => ?_)
    · refine qb (ca_c16 hJ) (fun M hJ => ?_)
      refine qb (ca_c16 hJ) (fun M hJ => ?_)
      rw [if_neg (hs2.mp z)] at hT
      exact lw_t213 hS he hs h0 hJ h3 h2 h1 hT (fun _ => hbt)
    · have c1 : (cVs 1 M0 0 3).toInt64 < sp_ab (w - v) := Classical.byContradiction (fun y => z (hs2.mpr y))
      rw [if_pos c1] at hT
      exact lw_t213 hS he hs h0 hJ h3 h2 h1 hT (fun y => absurd y z)
  have t112 : ∀ (M : xm_M) (s : Int32), cJ M0 M → (s = 0 ∨ s = 1) → (s = 0 ↔ ¬ (cVs 1 M0 0 3).toInt64 < sp_ab (w - v)) → qA (cJ M0) (fL_turns_112 (nI e) (sp_F (cVs 1 M0) e 0) (sp_P (cVs 1 M0) e).2.2.1 a b (1000 * (cVs 1 M0 0 2).toInt64) w v s M) 1 := by
    intro M s hJ h01 hs2
    unfold fL_turns_112
    refine qb (ca_about (w := 4) hS hJ he (by omega)) (fun M hJ => ?_)
    refine qt ((pl_b _ _).1.mpr hw4) ?_
    by_cases c1 : (cVs 1 M0 0 3).toInt64 < sp_ab (w - v)
    · have hs1 : s = 1 := by
        rcases h01 with z | z
        · exact absurd c1 (hs2.mp z)
        · exact z
      subst hs1
      rw [if_pos c1] at hK
      unfold fL_turns_139 fL_turns_157 fL_turns_170
      by_cases c2 : w ≤ v
      · rw [if_pos c2] at hK
        refine qf (by rw [hK]; decide) (qt rfl (qf (by decide) (qf (by rw [hK]; decide) (qt ((pl_b _ _).2.2.2.1.mpr c2) (qt rfl (t175 M 1 hJ hs2))))))
      · rw [if_neg c2] at hK
        refine qf (by rw [hK]; decide) (qt rfl (qf (by decide) (qt hK (qf (fun z => c2 ((pl_b _ _).2.2.2.1.mp z)) (qt rfl (t175 M 1 hJ hs2))))))
    · have hs1 : s = 0 := hs2.mpr c1
      subst hs1
      rw [if_neg c1] at hK
      unfold fL_turns_139
      exact qt (by rw [hK]; decide) (qt rfl (qt rfl (t175 M 0 hJ hs2)))
  unfold fL_turns
  refine qb (ca_c12 hJ) (fun M hJ => ?_)
  refine qb (qe (ca_about (w := 1) hS hJ he (by omega)) g1) (fun M hJ => ?_)
  refine ql2 ea ?_
  refine qb (ca_c13 hJ) (fun M hJ => ?_)
  refine qb (qe (ca_about (w := 2) hS hJ he (by omega)) g2) (fun M hJ => ?_)
  refine ql2 eb ?_
  refine qb (ca_c14 hJ) (fun M hJ => ?_)
  refine ql2 (v' := 1000 * (cVs 1 M0 0 2).toInt64) rfl ?_
  refine qf hb0 ?_
  refine ql2 ew ?_
  refine qb (qe (ca_about (w := 3) hS hJ he (by omega)) g3) (fun M hJ => ?_)
  refine ql2 ev ?_
  refine qb (ca_c15 hJ) (fun M hJ => ?_)
  refine qc (fun z => ?_) (fun z => ?_)
  · unfold fL_turns_107
    have c1 : (cVs 1 M0 0 3).toInt64 < sp_ab (w - v) := hsl.mpr (Or.inl ((pl_b _ _).2.2.1.mp z))
    exact t112 M 1 hJ (Or.inr rfl) ⟨fun y => absurd y (by decide), fun y => absurd c1 y⟩
  · refine qb (ca_c15 hJ) (fun M hJ => ?_)
    refine qc (fun y => ?_) (fun y => ?_)
    · have c1 : ¬ (cVs 1 M0 0 3).toInt64 < sp_ab (w - v) := fun x => by
        rcases hsl.mp x with u | u
        · exact z ((pl_b _ _).2.2.1.mpr u)
        · exact Int64.not_le.mpr u ((pl_b _ _).2.2.2.1.mp y)
      exact t112 M 0 hJ (Or.inl rfl) ⟨fun _ => c1, fun _ => rfl⟩
    · unfold fL_turns_107
      have c1 : (cVs 1 M0 0 3).toInt64 < sp_ab (w - v) := hsl.mpr (Or.inr (Int64.not_le.mp (fun u => y ((pl_b _ _).2.2.2.1.mpr u))))
      exact t112 M 1 hJ (Or.inr rfl) ⟨fun y => absurd y (by decide), fun y => absurd c1 y⟩
