/-! THE LAW: a step and a sight, by a text and by calls -/
theorem vMore_vP {n : Nat} {s a b t : Int32} {V V1 W W1 : sV} (h1 : vMore n s a b t V V1) (hv : vE V W) (h2 : vMore n s a b t W W1) (hn : n < 120) : vP (n + 1) V1 W1 := by
  obtain ⟨_, a9, a10, a11, a12, aV⟩ := h1
  obtain ⟨_, b9, b10, b11, b12, bV⟩ := h2
  obtain ⟨⟨e0, e1, e2, e3, e4⟩, _⟩ := hv
  refine ⟨fun b hb => ?_, fun b hb hb2 => ?_, fun r b h1 h2 h3 => ?_, fun r b h1 h2 h3 => ?_, fun r b h1 h2 h3 => ?_⟩
  · rw [bV 0 b (by omega) (by omega), aV 0 b (by omega) (by omega)]; exact e0 b hb
  · rw [bV 1 b (by omega) (by omega), aV 1 b (by omega) (by omega)]; exact e1 b hb hb2
  · rw [bV r b (by omega) (by omega), aV r b (by omega) (by omega)]; exact e2 r b h1 h2 h3
  · rw [bV r b (by omega) (by omega), aV r b (by omega) (by omega)]; exact e3 r b h1 h2 h3
  · by_cases z : b = n
    · subst z
      have : r = 9 ∨ r = 10 ∨ r = 11 ∨ r = 12 := by omega
      rcases this with y | y | y | y
      · subst y; rw [a9, b9]
      · subst y; rw [a10, b10]
      · subst y; rw [a11, b11]
      · subst y; rw [a12, b12]
    · rw [bV r b (by omega) (by omega), aV r b (by omega) (by omega)]; exact e4 r b h1 h2 (by omega)
theorem lw_told_end {n : Nat} {M8 M : xm_M} {V V1 : sV} {l r t : Nat} (hl : l < 10) (hr : r < 10) (ht : t < 10) (hS : cS V n) (hn : n ≤ 26) (hm : V 1 1 = nI 3) (h1 : vMore n (-6) (-nI l) (nI (10 + r)) (-nI (90 + t)) V V1) (ho1 : sp_ok V1) {n8 : Nat} (hS8 : cS (cVs 1 M8) n8) (hn8 : n + 1 ≤ n8) (hp8 : vP (n + 1) V1 (cVs 1 M8)) (hs : M8.1 17 10 = 1) (hv : vE V (cVs 17 M8)) (hJ : cJ M8 M) :
    qA (lwS n) (fL_told_291 (nI l) (nI r) (nI t) (nI n) (sp_ax (sp_P (cVs 1 M8) (n + 1)) 0) (sp_ax (sp_P (cVs 1 M8) (n + 1)) 2) 1 M) 1 := by
  have hv9 : cVs 17 M = cVs 17 M8 := cVs_keep (fun k j _ _ => hJ k j (by omega))
  have hs9 : M.1 17 10 = 1 := (hJ 17 10 (by omega)).trans hs
  have e10 : (10 : Int32) + nI r = nI (10 + r) := by rw [show (10 : Int32) = nI 10 from rfl, pi_add]
  have c90 : (-90 : Int32).toInt = -90 := rfl
  have i90 : (nI (90 + t)).toInt = ((90 + t : Nat) : Int) := nI_toInt (by omega)
  have it : (nI t).toInt = (t : Int) := nI_toInt (by omega)
  have il : (nI l).toInt = (l : Int) := nI_toInt (by omega)
  have ir : (nI (10 + r)).toInt = ((10 + r : Nat) : Int) := nI_toInt (by omega)
  have n90 : (-nI (90 + t)).toInt = -((90 + t : Nat) : Int) := by rw [pn_neg (by omega), i90]
  have e90 : (-90 : Int32) - nI t = -nI (90 + t) := by
    apply Int32.toInt_inj.mp
    rw [pn_sub (by omega) (by omega), n90, c90, it]
    omega
  have nl : (-nI l).toInt = -(l : Int) := by rw [pn_neg (by omega), il]
  unfold fL_told_291
  refine qf (by decide) ?_
  have hr0 := cm_rest0 hs9
  have en : cVs 17 M 1 2 = nI n := by rw [hv9, hv.2]; exact hS.2.1
  rw [en, hv9] at hr0
  refine qm hr0 (fun M10 h10 => ?_)
  obtain ⟨_, v10⟩ := h10
  have w10 := vE_trans hv v10
  have hS10 := cS_vE hS w10
  refine qt rfl ?_
  rw [e10, e90]
  refine qm (cm_step (M := M10) (n := n) (a := -nI l) (b := nI (10 + r)) (t := -nI (90 + t)) hS10.1 hS10.2.1 (by omega) (by omega) (by omega) (by omega)) (fun M11 h11 => ?_)
  obtain ⟨ho11, v11, _⟩ := h11
  have hp := vP_trans (vP_symm hp8) (vMore_vP h1 w10 v11 (by omega))
  have hS11 : cS (cVs 1 M11) (n + 1) := ⟨ho11, v11.1, by omega⟩
  have eP : sp_P (cVs 1 M11) (n + 1) = sp_P (cVs 1 M8) (n + 1) := sp_P_congr hp hS8.1 (n + 1) (Nat.le_refl _) (by rw [hS8.2.1, nI_toInt (by have := hS8.2.2; omega)]; omega)
  refine qt (pi_succ n).symm ?_
  refine qb (ca_poseE (e := n) (w := 0) hS11 (cJ_refl M11) (by omega) (by omega)) (fun M12 hJ => ?_)
  refine qt (by rw [eP]) ?_
  refine qb (ca_poseE (e := n) (w := 2) hS11 hJ (by omega) (by omega)) (fun M12 hJ => ?_)
  refine qt (by rw [eP]) ?_
  have hv12 := cJ_view hJ
  have hc := cm_cut (M := M12) (n := n + 1) (d := 1) (by rw [hv12]; exact ho11) (by rw [hv12]; exact v11.1) (by omega) (by omega) (by omega)
  rw [show n + 1 - 1 = n by omega, px_n1] at hc
  refine qm hc (fun M13 h13 => ?_)
  obtain ⟨ho13, c13, v13, _⟩ := h13
  refine qt rfl (qr ⟨⟨ho13, c13, by omega⟩, hn, ?_⟩)
  rw [v13 1 1 (by omega), hv12, v11.2.2.2.2.2 1 1 (by omega) (by omega), w10.1.2.1 1 (by omega) (by omega)]
  exact hm
theorem lw_told {n : Nat} {M0 : xm_M} (a1 : Int32) (h : lwS n M0) : qA (lwS n) (fL_told a1 M0) 1 := by
  obtain ⟨hS, hn, hm⟩ := h
  obtain ⟨l, l1, l2, _⟩ := lw_up_in a1 (m := 10) (k := 10) rfl (by omega) (by omega)
  obtain ⟨r, r1, r2, _⟩ := lw_up_in (a1 >>> ((4 : Int32) &&& 31)) (m := 10) (k := 10) rfl (by omega) (by omega)
  obtain ⟨t, t1, t2, _⟩ := lw_up_in (a1 >>> ((8 : Int32) &&& 31)) (m := 10) (k := 10) rfl (by omega) (by omega)
  obtain ⟨m, m1, m2, _⟩ := lw_up_in (a1 >>> ((12 : Int32) &&& 31)) (m := 6) (k := 6) rfl (by omega) (by omega)
  unfold fL_told
  refine qp (lw_upM (by decide)) ?_
  refine qp (lw_upM (by decide)) ?_
  refine qp (lw_upM (by decide)) ?_
  refine qp (lw_upM (by decide)) ?_
  rw [l1, r1, t1, m1]
  have hs0 := cm_save0 M0
  rw [hS.2.1] at hs0
  refine qm hs0 (fun M1 h1 => ?_)
  obtain ⟨k1, v1, s1⟩ := h1
  refine qp (cm_wipe M1) ?_
  obtain ⟨g1, g2, g3, g4, g5, g6, g7, g8⟩ := tk1_s l l2 r r2
  have hput := cm_put (b := tk1 l r) (m := 7) (L := 0) (M := xm_s M1 69 1 0) (by rw [pm_s, if_pos ⟨rfl, rfl⟩]; rfl) (by omega) (by omega) (by omega) g1
  refine qm hput (fun M3 h3 => ?_)
  obtain ⟨k3, p3, t3⟩ := h3
  have hT3 : cT (tkT l r t m) 7 M3 := by
    refine ⟨p3, fun j hj => ?_⟩
    have := t3 j hj
    rw [Nat.zero_add] at this
    rw [this]
    match j, hj with
    | 0, _ => exact g2
    | 1, _ => exact g3
    | 2, _ => exact g4
    | 3, _ => exact g5
    | 4, _ => exact g6
    | 5, _ => exact g7
    | 6, _ => exact g8
  obtain ⟨M4, f4, c4⟩ := cm_fault1 (T := tkT l r t m) (n := 7) (p := 7) (by omega) hT3 (tk_1 l2 r2)
  have hf4 : fX3_fault M3 = some (nI 7, M4) := by unfold fX3_fault; rw [f4, pb_i]
  refine qp hf4 (qt rfl ?_)
  have hT4 := cF_T c4 hT3
  obtain ⟨M5, f5, c5⟩ := cm_load1 (T := tkT l r t m) (n := 7) (p := 7) (M := M4) (by omega) hT4 (tk_1 l2 r2) (by omega)
  refine qp f5 (qt rfl ?_)
  have hT5 := cF_T c5 hT4
  obtain ⟨u1, u2, u3, u4, u5, u6⟩ := tk2_s t t2 m m2
  have hput2 := cm_put (b := tk2 t m) (m := 5) (L := 7) (M := M5) hT5.1 (by omega) (by omega) (by omega) u1
  refine qm hput2 (fun M6 h6 => ?_)
  obtain ⟨k6, p6, t6⟩ := h6
  have hT6 : cT (tkT l r t m) 12 M6 := by
    refine ⟨p6, fun j hj => ?_⟩
    by_cases h7 : j < 7
    · rw [k6 70 j (by omega) (by omega)]
      exact hT5.2 j h7
    · obtain ⟨i, rfl⟩ : ∃ i, j = 7 + i := ⟨j - 7, by omega⟩
      rw [t6 i (by omega)]
      match i, hj with
      | 0, _ => exact u2
      | 1, _ => exact u3
      | 2, _ => exact u4
      | 3, _ => exact u5
      | 4, _ => exact u6
      | i + 5, hj => exact absurd hj (by omega)
  have e59 : sp_ch (tkT l r t m) 12 9 = 59 := by rw [tkc (by omega), tk_T9]
  obtain ⟨M7, f7, c7⟩ := cm_fault2 (T := tkT l r t m) (n := 12) (p := 9) (M := M6) (by omega) hT6 (tk_2 l2 r2 t2) (by omega) e59 (tk_3 m2)
  have hf7 : fX3_fault M6 = some (-6, M7) := by unfold fX3_fault; rw [f7, pb_i]
  refine qp hf7 (qt rfl ?_)
  have hT7 := cF_T c7 hT6
  -- the view, the slot ahead of the load
  have w1 : cVs 1 M1 = cVs 1 M0 := cVs_keep (fun k j _ _ => k1 k j (by omega))
  have w3 : cVs 1 M3 = cVs 1 M1 := (cVs_keep (fun k j _ _ => k3 k j (by omega) (by omega))).trans cVs_s69
  have w5 : cVs 1 M5 = cVs 1 M3 := (cF_view c5).trans (cF_view c4)
  have w6 : cVs 1 M6 = cVs 1 M5 := cVs_keep (fun k j _ _ => k6 k j (by omega) (by omega))
  have w7 : cVs 1 M7 = cVs 1 M0 := (cF_view c7).trans (w6.trans (w5.trans (w3.trans w1)))
  have n13 : cN M1 M3 := fun k j hk => (k3 k j (by omega) (by omega)).trans (by rw [pm_s, if_neg (by omega)])
  have n56 : cN M5 M6 := fun k j hk => k6 k j (by omega) (by omega)
  have n17 : cN M1 M7 := cN_trans n13 (cN_trans (cN_F c4) (cN_trans (cN_F c5) (cN_trans n56 (cN_F c7))))
  have il : (nI l).toInt = (l : Int) := nI_toInt (by omega)
  have ir : (nI (10 + r)).toInt = ((10 + r : Nat) : Int) := nI_toInt (by omega)
  have i90 : (nI (90 + t)).toInt = ((90 + t : Nat) : Int) := nI_toInt (by omega)
  have n90 : (-nI (90 + t)).toInt = -((90 + t : Nat) : Int) := by rw [pn_neg (by omega), i90]
  have nl : (-nI l).toInt = -(l : Int) := by rw [pn_neg (by omega), il]
  obtain ⟨V1, M8, f8, vm1, ho8, v8, c8, p8⟩ := cm_load2 (T := tkT l r t m) (n := 12) (p := 9) (N := n) (m := m) (M := M7) (a := -nI l) (b := nI (10 + r)) (t := -nI (90 + t)) (by omega) hT7 (tk_2 l2 r2 t2) (by omega) e59 (tk_3 m2) (by omega) (by rw [w7]; exact hS.1) (by rw [w7]; exact hS.2.1) (by omega) (by omega) (by omega) (by omega)
  have mk : (cVs 1 M7 1 1).toInt = 3 := by rw [w7, hm]; rfl
  rw [w7] at vm1
  rw [mk] at f8 v8
  have hslot : M8.1 17 10 = 1 := ((c8 17 10 (by omega)).trans (n17 17 10 (by omega))).trans s1
  have hv17 : vE (cVs 1 M0) (cVs 17 M8) := by
    have : cVs 17 M8 = cVs 17 M1 := cVs_keep (fun k j _ _ => (c8 k j (by omega)).trans (n17 k j (by omega)))
    rw [this]; exact v1
  -- behind the load: by whether there is such a marker
  have main : ∀ (is n8 : Nat), cS (cVs 1 M8) n8 → n8 = n + is → (is = 1 ∨ is = 2) → sp_ok V1 → vP (n + 1) V1 (cVs 1 M8) → cVs 1 M8 1 1 = nI 3 → ¬ 0 ≤ cVs 1 M8 9 n → (is = 2 → sp_F (cVs 1 M8) (n + 1) 1 = nI m) → ∀ M, cJ M8 M → qA (lwS n) (fL_told_180 (nI l) (nI r) (nI t) (nI m) (nI n) (nI is) (nI is) (nI is) M) 1 := by
    intro is n8 hS8 hn8 his ho1 hp8 hmk hns hsg M hJ
    obtain ⟨q1, q2, q3⟩ := sp_F_told hS8.1 hns
    have r10 : cVs 1 M8 10 n = -nI l := by rw [hp8.2.2.2.2 10 n (by omega) (by omega) (by omega)]; exact vm1.2.2.1
    have r11 : cVs 1 M8 11 n = nI (10 + r) := by rw [hp8.2.2.2.2 11 n (by omega) (by omega) (by omega)]; exact vm1.2.2.2.1
    have r12 : cVs 1 M8 12 n = -nI (90 + t) := by rw [hp8.2.2.2.2 12 n (by omega) (by omega) (by omega)]; exact vm1.2.2.2.2.1
    have e10 : (10 : Int32) + nI r = nI (10 + r) := by rw [show (10 : Int32) = nI 10 from rfl, pi_add]
    have c90 : (-90 : Int32).toInt = -90 := rfl
    have it : (nI t).toInt = (t : Int) := nI_toInt (by omega)
    have e90 : (-90 : Int32) - nI t = -nI (90 + t) := by
      apply Int32.toInt_inj.mp
      rw [pn_sub (by omega) (by omega), n90, c90, it]
      omega
    have hend := fun (M : xm_M) (hJ : cJ M8 M) => lw_told_end (M := M) l2 r2 t2 hS hn hm vm1 ho1 hS8 (by omega) hp8 hslot hv17 hJ
    unfold fL_told_180
    refine qt rfl ?_
    refine qb (ca_count0 hS8 hJ) (fun M hJ => ?_)
    refine qt (by rw [pi_add, hn8]) ?_
    refine qb (ca_count11 hS8 hJ) (fun M hJ => ?_)
    refine qt p8 ?_
    refine qb (ca_poseE (e := n) (w := 0) hS8 hJ (by omega) (by omega)) (fun M hJ => ?_)
    refine qb (ca_poseE (e := n) (w := 2) hS8 hJ (by omega) (by omega)) (fun M hJ => ?_)
    refine qb (ca_about (e := n) (w := 1) hS8 hJ (by omega) (by omega)) (fun M hJ => ?_)
    refine qt (by rw [q1, r10]) ?_
    refine qb (ca_about (e := n) (w := 2) hS8 hJ (by omega) (by omega)) (fun M hJ => ?_)
    refine qt (by rw [q2, r11, e10]) ?_
    refine qb (ca_about (e := n) (w := 3) hS8 hJ (by omega) (by omega)) (fun M hJ => ?_)
    refine qt (by rw [q3, r12, e90]) ?_
    rcases his with z | z
    · subst z
      unfold fL_told_286
      exact qt rfl (hend M hJ)
    · subst z
      unfold fL_told_286
      refine qf (by decide) ?_
      rw [pi_succ]
      refine qb (ca_about (e := n + 1) (w := 1) hS8 hJ (by omega) (by omega)) (fun M hJ => ?_)
      exact qt (hsg rfl) (hend M hJ)
  refine qm ⟨M8, f8, (rfl : M8 = M8)⟩ (fun M9 e9 => ?_)
  subst e9
  have six : ¬ (0 : Int32) ≤ -6 := by decide
  by_cases hmm : (m : Int) < 3
  · rw [if_pos hmm] at v8
    rw [if_pos hmm]
    have hp1 := vMore_P v8
    have ho1 : sp_ok V1 := by
      refine sp_ok_of ho8 (fun i hi => (hp1.1 i hi).symm) ?_ ?_ ?_ ?_ ?_ ?_ ?_ ?_ ?_
      · rw [← hp1.2.1 0 (by omega) (by omega)]; exact (sp_okM_of ho8).1
      · rw [← hp1.2.1 1 (by omega) (by omega)]; exact (sp_okM_of ho8).2.1
      · rw [vm1.1, nI_toInt (by omega)]; omega
      · rw [← hp1.2.1 3 (by omega) (by omega)]; exact (sp_okM_of ho8).2.2.2.1
      · rw [← hp1.2.1 4 (by omega) (by omega)]; exact (sp_okM_of ho8).2.2.2.2.1
      · rw [← hp1.2.1 5 (by omega) (by omega)]; exact (sp_okM_of ho8).2.2.2.2.2.1
      · rw [← hp1.2.1 0 (by omega) (by omega)]
        intro c hc
        have := (sp_okM_of ho8).1
        exact Or.inl ⟨hc, fun r h1 h2 => (hp1.2.2.1 r c h1 h2 (by omega)).symm⟩
      · rw [← hp1.2.1 1 (by omega) (by omega)]
        intro c hc
        have := (sp_okM_of ho8).2.1
        exact Or.inl ⟨hc, fun r h1 h2 => (hp1.2.2.2.1 r c h1 h2 (by omega)).symm⟩
      · rw [← hp1.2.1 1 (by omega) (by omega), vm1.1, v8.1, nI_toInt (by omega), nI_toInt (by omega)]
        intro c hc
        exact Or.inl ⟨by omega, Int.le_refl _, fun r h1 h2 => (hp1.2.2.2.2 r c h1 h2 (by omega)).symm⟩
    have hS8 : cS (cVs 1 M8) (n + 2) := ⟨ho8, v8.1, by omega⟩
    have m8 : cVs 1 M8 1 1 = nI 3 := by rw [hp1.2.1 1 (by omega) (by omega), vm1.2.2.2.2.2 1 1 (by omega) (by omega)]; exact hm
    have s8 : ¬ 0 ≤ cVs 1 M8 9 n := by rw [hp1.2.2.2.2 9 n (by omega) (by omega) (by omega), vm1.2.1]; exact six
    have g9 : 0 ≤ cVs 1 M8 9 (n + 1) := by rw [v8.2.1, pn_nn, nI_toInt (by omega)]; omega
    have gF : sp_F (cVs 1 M8) (n + 1) 1 = nI m := by rw [(sp_sight g9).2]; exact v8.2.1
    refine qb (ca_count10 hS8 (cJ_refl M8)) (fun M hJ => ?_)
    rw [m8]
    refine qf (by rw [nI_leI (by omega) (by omega)]; omega) ?_
    exact main 2 (n + 2) hS8 rfl (Or.inr rfl) ho1 hp1 m8 s8 (fun _ => gF) M hJ
  · rw [if_neg hmm] at v8
    rw [if_neg hmm]
    subst v8
    have hS8 : cS (cVs 1 M8) (n + 1) := ⟨ho8, vm1.1, by omega⟩
    have m8 : cVs 1 M8 1 1 = nI 3 := by rw [vm1.2.2.2.2.2 1 1 (by omega) (by omega)]; exact hm
    have s8 : ¬ 0 ≤ cVs 1 M8 9 n := by rw [vm1.2.1]; exact six
    refine qb (ca_count10 hS8 (cJ_refl M8)) (fun M hJ => ?_)
    rw [m8]
    refine qt (by rw [nI_leI (by omega) (by omega)]; omega) ?_
    exact main 1 (n + 1) hS8 rfl (Or.inl rfl) ho8 (vP_refl _ _) m8 s8 (fun z => absurd z (by omega)) M hJ
