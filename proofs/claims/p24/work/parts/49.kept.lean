/-! THE LAW: behind changes of all kinds all is as it was saved -/
theorem lw_kept147 {n : Nat} {M0 M1 M : xm_M} (a1 : Int32) (h : lwS n M0) (hn0 : 0 < n) (hv : vE (cVs 1 M0) (cVs 33 M1)) (hs : M1.1 33 10 = 1) (hN : ∀ k j, 33 ≤ k → k < 49 → M.1 k j = M1.1 k j) (ho : sp_ok (cVs 1 M)) (hc : cVs 1 M 1 2 = nI (n + 1)) : qA (lwS n) (fL_kept_147 a1 (nI n) (sp_ax (sp_P (cVs 1 M0) n) 0) (sp_spr (cVs 1 M0) n (n - 1) 1) (sp_ax (sp_P (cVs 1 M0) n) 3) (cVs 1 M0 0 2) (cVs 1 M0 1 0) (sp_told (sp_E (cVs 1 M0) n)) M) 1 := by
  obtain ⟨hS, hn, hm⟩ := h
  have hNn : (cVs 1 M0 1 2).toInt = (n : Int) := by rw [hS.2.1, nI_toInt (by omega)]
  unfold fL_kept_147
  refine qp (lw_upM (by decide)) ?_
  refine qp (lw_upM (by decide)) ?_
  obtain ⟨z, M2, e2, o2, v2, f2⟩ := cm_begin (lw_up a1 1000) 5 (lw_up a1 3600000) ho
  refine qp e2 ?_
  have i1 : ¬ nI n = 0 := fun z => by
    have e : (nI n = 0) = (n = 0) := px_eq_nI (n := 0) rfl (by omega) (by omega)
    rw [e] at z
    omega
  obtain ⟨d, d1, d2, d3⟩ := lw_up_in a1 (m := nI n) (k := n) (nI_toInt (by omega)) hn0 (by omega)
  refine qp (lw_upM i1) ?_
  rw [d1, show (1 : Int32) + nI d = nI (d + 1) from by rw [Int32.add_comm]; exact pi_succ d]
  obtain ⟨M3, e3, o3, c3, v3, f3⟩ := cm_cut (M := M2) (n := n + 1) (d := d + 1) o2 (by rw [v2 1 2 (by omega)]; exact hc) (by omega) (by omega) (by omega)
  refine qp e3 ?_
  have k33 : ∀ k j, 33 ≤ k → k < 49 → M3.1 k j = M1.1 k j := fun k j h1 h2 => (f3 k j (by omega)).trans ((f2 k j (by omega)).trans (hN k j h1 h2))
  have hv3 : cVs 33 M3 = cVs 33 M1 := cVs_keep (fun k j h1 h2 => k33 k j h1 (by omega))
  have hr := cm_rest1 (M := M3) ((k33 33 10 (by omega) (by omega)).trans hs)
  rw [hv3, hv.2, hS.2.1] at hr
  refine qm hr (fun M4 h4 => ?_)
  obtain ⟨_, v4⟩ := h4
  have w4 := vE_trans hv v4
  have hS4 := cS_vE hS w4
  have p4 := vP_less w4.1 (show n ≤ 120 by omega)
  have eP : sp_P (cVs 1 M4) n = sp_P (cVs 1 M0) n := sp_P_congr p4 hS.1 n (Nat.le_refl _) (by omega)
  refine qt rfl ?_
  refine qb (ca_count0 hS4 (cJ_refl M4)) (fun M hJ => ?_)
  refine qt rfl ?_
  refine qb (ca_pose (c := n) (w := 0) hS4 hJ (Nat.le_refl _) (by omega)) (fun M hJ => ?_)
  refine qt (by rw [eP]) ?_
  obtain ⟨q, rfl⟩ : ∃ q, n = q + 1 := ⟨n - 1, by omega⟩
  rw [pi_pred, show q + 1 - 1 = q by omega]
  refine qb (ca_poseS (ax := 1) hS4 hJ (show q < q + 1 by omega) (by omega)) (fun M hJ => ?_)
  refine qt (sp_spr_congr p4 hS.1 (by omega) (by omega)) ?_
  refine qb (ca_count8 hS4 hJ) (fun M hJ => ?_)
  refine qt (by rw [eP]) ?_
  refine qb (ca_c14 hJ) (fun M hJ => ?_)
  refine qt (w4.1.1 2 (by omega)) ?_
  refine qb (ca_count9 hS4 hJ) (fun M hJ => ?_)
  refine qt (w4.1.2.1 0 (by omega) (by omega)) ?_
  refine qb (ca_count10 hS4 hJ) (fun M hJ => ?_)
  have m4 : cVs 1 M4 1 1 = nI 3 := (w4.1.2.1 1 (by omega) (by omega)).trans hm
  refine qt m4 ?_
  refine qb (ca_count7 hS4 hJ) (fun M hJ => ?_)
  refine qt (by rw [sp_E_congr p4 hS.1 (q + 1) (Nat.le_refl _) (by omega)]) (qr ?_)
  unfold lwS
  rw [cJ_view hJ]
  exact ⟨hS4, hn, m4⟩
theorem lw_kept {n : Nat} {M0 : xm_M} (a1 : Int32) (h : lwS n M0) : qA (lwS n) (fL_kept a1 M0) 1 := by
  obtain ⟨hS, hn, hm⟩ := id h
  unfold fL_kept
  have hs0 := cm_save1 M0
  rw [hS.2.1] at hs0
  refine qm hs0 (fun M1 h1 => ?_)
  obtain ⟨k1, v1, s1⟩ := h1
  have w1 : cVs 1 M1 = cVs 1 M0 := cVs_keep (fun k j _ _ => k1 k j (by omega))
  have e0 : (nI n = 0) = (n = 0) := px_eq_nI (n := 0) rfl (by omega) (by omega)
  by_cases hn0 : n = 0
  · refine qt (by rw [e0]; exact hn0) ?_
    have hr := cm_rest1 (M := M1) s1
    rw [v1.2, hS.2.1] at hr
    refine qm hr (fun M2 h2 => ?_)
    obtain ⟨_, v2⟩ := h2
    have w2 := vE_trans v1 v2
    refine qt (by rw [e0]; exact hn0) (qr ⟨cS_vE hS w2, hn, ?_⟩)
    exact (w2.1.2.1 1 (by omega) (by omega)).trans hm
  · refine qf (by rw [e0]; exact hn0) ?_
    have hS1 : cS (cVs 1 M1) n := by rw [w1]; exact hS
    obtain ⟨q, rfl⟩ : ∃ q, n = q + 1 := ⟨n - 1, by omega⟩
    refine qb (qe (ca_pose (c := q + 1) (w := 0) hS1 (cJ_refl M1) (Nat.le_refl _) (by omega)) (by rw [w1])) (fun M hJ => ?_)
    have e6 : nI (q + 1) - 1 = nI q := pi_pred q
    have p6 : qA (cJ M1) (fX3_pose (nI (q + 1) - 1) 6 M) (sp_spr (cVs 1 M0) (q + 1) q 1) := by
      rw [e6, ← w1]
      exact ca_poseS (ax := 1) hS1 hJ (show q < q + 1 by omega) (by omega)
    refine qb p6 (fun M hJ => ?_)
    refine qb (qe (ca_count8 hS1 hJ) (by rw [w1])) (fun M hJ => ?_)
    refine qb (qe (ca_c14 hJ) (by rw [w1])) (fun M hJ => ?_)
    refine qb (qe (ca_count9 hS1 hJ) (by rw [w1])) (fun M hJ => ?_)
    refine qb (qe (ca_count7 hS1 hJ) (by rw [w1])) (fun M hJ => ?_)
    refine qp (lw_upM (by decide)) ?_
    refine qp (lw_upM (by decide)) ?_
    refine qp (lw_upM (by decide)) ?_
    obtain ⟨x, x1, x2, x3⟩ := lw_up_in a1 (m := 300) (k := 300) rfl (by omega) (by omega)
    obtain ⟨y, y1, y2, y3⟩ := lw_up_in (a1 >>> ((4 : Int32) &&& 31)) (m := 300) (k := 300) rfl (by omega) (by omega)
    obtain ⟨u, u1, u2, u3⟩ := lw_up_in (a1 >>> ((9 : Int32) &&& 31)) (m := 300000) (k := 300000) rfl (by omega) (by omega)
    have hv := (cJ_view hJ).trans w1
    obtain ⟨M2, e2, o2, v2, f2⟩ := cm_step (M := M) (n := q + 1) (a := lw_up a1 300) (b := lw_up (a1 >>> ((4 : Int32) &&& 31)) 300) (t := lw_up (a1 >>> ((9 : Int32) &&& 31)) 300000) (by rw [hv]; exact hS.1) (by rw [hv]; exact hS.2.1) (by omega) (by omega) (by omega) (by omega)
    refine qp e2 ?_
    rw [hv] at v2
    refine qp (lw_upM (by decide)) ?_
    obtain ⟨z3, M3, e3, o3, v3, f3⟩ := cm_set 2 ((100 : Int32) + lw_up (a1 >>> ((3 : Int32) &&& 31)) 901) o2
    refine qp e3 ?_
    refine qp (lw_upM (by decide)) ?_
    obtain ⟨w, w1', w2', w3'⟩ := lw_up_in a1 (m := 100) (k := 100) rfl (by omega) (by omega)
    have m3 : cVs 1 M3 1 1 = nI 3 := by rw [v3 1 (by omega), v2.2.2.2.2.2 1 1 (by omega) (by omega)]; exact hm
    obtain ⟨M4, e4, o4, _, v4, f4⟩ := cm_mark (M := M3) (x := lw_up a1 100) (y := 7) (c := 3) o3 (by omega) (by decide) m3 (by omega)
    refine qp e4 ?_
    have n4 : cVs 1 M4 1 2 = nI (q + 1 + 1) := by rw [v4 1 2 (by omega) (by omega), v3 1 (by omega)]; exact v2.1
    have hN : ∀ k j, 33 ≤ k → k < 49 → M4.1 k j = M1.1 k j := fun k j h1 h2 => (f4 k j (by omega)).trans ((f3 k j (by omega)).trans ((f2 k j (by omega)).trans (hJ k j (by omega))))
    have fin := fun (M5 : xm_M) (ho : sp_ok (cVs 1 M5)) (hc : cVs 1 M5 1 2 = nI (q + 1 + 1)) (hN : ∀ k j, 33 ≤ k → k < 49 → M5.1 k j = M1.1 k j) => lw_kept147 a1 h (show 0 < q + 1 by omega) v1 s1 hN ho hc
    rw [show q + 1 - 1 = q by omega] at fin
    refine qc (fun _ => fin M4 o4 n4 hN) (fun _ => ?_)
    obtain ⟨z5, M5, e5, o5, v5, f5⟩ := cm_close o4
    refine qp e5 ?_
    exact fin M5 o5 (by rw [v5 1 2 (by omega)]; exact n4) (fun k j h1 h2 => (f5 k j (by omega)).trans (hN k j h1 h2))
