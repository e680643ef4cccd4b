/-! THE LAW: something comes to the log -/
section QP
variable {α : Type} {J : xm_M → Prop} {f : Option (Int32 × xm_M)} {x : Int32} {r : α} {M : xm_M}
theorem qp {K : Int32 → xm_M → Option (α × xm_M)} (h : f = some (x, M)) (k : qA J (K x M) r) : qA J (xm_bi f K) r := by rw [h, pb_i]; exact k
theorem qm {P : xm_M → Prop} {K : Int32 → xm_M → Option (α × xm_M)} (h : ∃ M1, f = some (x, M1) ∧ P M1) (k : ∀ M1, P M1 → qA J (K x M1) r) : qA J (xm_bi f K) r := qb (I := P) h k
end QP
theorem sp_F_told {V : sV} (hok : sp_ok V) {e : Nat} (h : ¬ 0 ≤ V 9 e) : sp_F V e 1 = V 10 e ∧ sp_F V e 2 = V 11 e ∧ sp_F V e 3 = V 12 e := by
  rcases sp_forms hok e (sp_P V e) with ⟨a, _⟩ | ⟨_, h10, h11, q⟩ | ⟨_, k, w, t, d, _, q⟩ | ⟨_, k, w, t, d, c, u, _, _, q⟩
  · exact absurd a h
  · have q : sp_F V e = _ := q
    rw [q, h10, h11]
    exact ⟨rfl, rfl, rfl⟩
  · have q : sp_F V e = _ := q
    rw [q]
    exact ⟨rfl, rfl, rfl⟩
  · have q : sp_F V e = _ := q
    rw [q]
    exact ⟨rfl, rfl, rfl⟩
/-- a sight: its facts, what stands behind it -/
theorem sp_sight {V : sV} {e : Nat} (h : 0 ≤ V 9 e) : sp_P V (e + 1) = (sp_mx V e, sp_my V e, (sp_P V e).2.2.1, (sp_P V e).2.2.2.1, (sp_P V e).2.2.2.2) ∧ sp_F V e = sp_row 4 (V 9 e) sp_NG sp_NG sp_NG sp_NG sp_NG sp_NG sp_NG ((sp_P V e).1 - sp_mx V e) ((sp_P V e).2.1 - sp_my V e) := by
  constructor
  · rw [px_P2]; unfold sp_step; rw [if_pos h]
  · unfold sp_F sp_step; rw [if_pos h]
theorem sp_stand {V : sV} {e : Nat} (h : ¬ 0 ≤ V 9 e) (h0 : V 10 e = 0 ∧ V 11 e = 0) : sp_P V (e + 1) = ((sp_P V e).1, (sp_P V e).2.1, (sp_P V e).2.2.1, (sp_P V e).2.2.2.1, sp_bias V e (sp_P V e).2.2.2.2) ∧ sp_F V e = sp_row 0 0 0 (V 12 e) sp_NG sp_NG sp_NG sp_NG sp_NG sp_NG sp_NG := by
  constructor
  · rw [px_P2]; unfold sp_step; rw [if_neg h, if_pos h0]
  · unfold sp_F sp_step; rw [if_neg h, if_pos h0]
/-- behind an entry that was added -/
theorem lw_more {n : Nat} {s a b t : Int32} {M0 M1 : xm_M} (h : lwS n M0) (ho : sp_ok (cVs 1 M1)) (hv : vMore n s a b t (cVs 1 M0) (cVs 1 M1)) : cS (cVs 1 M1) (n + 1) ∧ cVs 1 M1 1 1 = nI 3 ∧ (∀ e, e ≤ n → sp_P (cVs 1 M1) e = sp_P (cVs 1 M0) e) := by
  obtain ⟨⟨h1, h2, h3⟩, h4, h5⟩ := h
  refine ⟨⟨ho, hv.1, by omega⟩, ?_, fun e he => sp_P_congr (vMore_P hv) h1 e he (by rw [h2, nI_toInt (by omega)]; omega)⟩
  rw [hv.2.2.2.2.2 1 1 (by omega) (by omega)]
  exact h5
theorem pn_6neg : ¬ (0 : Int32) ≤ -6 := by decide
theorem lw_adds {n : Nat} {M0 : xm_M} (a1 a2 : Int32) (h : lwS n M0) (hn : n < 26) : qA (fun M' => ∃ n', n' ≤ n + 1 ∧ lwS n' M') (fL_adds a1 a2 M0) 1 := by
  have hS := h.1
  have main : ∀ M, cJ M0 M → qA (fun M' => ∃ n', n' ≤ n + 1 ∧ lwS n' M') (fL_adds_27 a1 a2 (nI n) (sp_ax (sp_P (cVs 1 M0) n) 0) M) 1 := by
    intro M hJ
    unfold fL_adds_27
    refine qb (ca_pose (c := n) (w := 2) hS hJ (Nat.le_refl n) (by omega)) (fun M hJ => ?_)
    refine qp (lw_upM (by decide)) ?_
    have hv := cJ_view hJ
    have hn1 : cVs 1 M 1 2 = nI n := by rw [hv]; exact hS.2.1
    have ho : sp_ok (cVs 1 M) := by rw [hv]; exact hS.1
    refine qc (fun _ => ?_) (fun _ => qc (fun _ => ?_) (fun _ => qc (fun _ => ?_) (fun _ => ?_)))
    · -- a sight
      obtain ⟨k, k1, k2, _⟩ := lw_up_in a2 (m := 3) (k := 3) rfl (by omega) (by omega)
      refine qp (lw_upM (by decide)) ?_
      rw [k1]
      refine qm (cm_see (k := k) ho hn1 (by omega) (by rw [hv, h.2.2, nI_toInt (by omega)]; omega)) (fun M1 hM1 => ?_)
      obtain ⟨ho1, hv1, _⟩ := hM1
      rw [hv] at hv1
      obtain ⟨hS1, hm1, hP1⟩ := lw_more h ho1 hv1
      have h9 : cVs 1 M1 9 n = nI k := hv1.2.1
      have hs : 0 ≤ cVs 1 M1 9 n := by rw [h9, pn_nn, nI_toInt (by omega)]; omega
      obtain ⟨s1, s2⟩ := sp_sight hs
      have hend : ∀ M, cJ M1 M → ∃ n', n' ≤ n + 1 ∧ lwS n' M := fun M hJ => ⟨n + 1, Nat.le_refl _, by unfold lwS; rw [cJ_view hJ]; exact ⟨hS1, by omega, hm1⟩⟩
      refine qt (pi_succ n).symm ?_
      refine qb (ca_about (e := n) (w := 0) hS1 (cJ_refl M1) (by omega) (by omega)) (fun M hJ => ?_)
      refine qt (by rw [s2]; rfl) ?_
      refine qb (ca_about (e := n) (w := 1) hS1 hJ (by omega) (by omega)) (fun M hJ => ?_)
      refine qp (lw_upM (by decide)) ?_
      refine qt (by rw [s2, k1]; exact h9) ?_
      refine qb (ca_poseE (e := n) (w := 2) hS1 hJ (by omega) (by omega)) (fun M hJ => ?_)
      refine qt (by rw [s1, hP1 n (Nat.le_refl _)]; rfl) ?_
      refine qc (fun _ => qr (hend M hJ)) (fun _ => ?_)
      refine qb (ca_pose (c := n) (w := 0) hS1 hJ (by omega) (by omega)) (fun M hJ => ?_)
      exact qt (by rw [hP1 n (Nat.le_refl _)]) (qr (hend M hJ))
    · -- a stand
      obtain ⟨k, k1, k2, k3⟩ := lw_up_in a2 (m := 6001) (k := 6001) rfl (by omega) (by omega)
      refine qp (lw_upM (by decide)) ?_
      have c3 : (3000 : Int32).toInt = 3000 := rfl
      have et : (lw_up a2 6001 - 3000).toInt = (k : Int) - 3000 := by rw [pn_sub (by omega) (by omega), k3, c3]
      refine qm (cm_step (a := 0) (b := 0) (t := lw_up a2 6001 - 3000) ho hn1 (by omega) (by decide) (by decide) (by omega)) (fun M1 hM1 => ?_)
      obtain ⟨ho1, hv1, _⟩ := hM1
      rw [hv] at hv1
      obtain ⟨hS1, hm1, hP1⟩ := lw_more h ho1 hv1
      have hs : ¬ 0 ≤ cVs 1 M1 9 n := by rw [hv1.2.1]; exact pn_6neg
      obtain ⟨s1, s2⟩ := sp_stand hs ⟨hv1.2.2.1, hv1.2.2.2.1⟩
      have hend : ∀ M, cJ M1 M → ∃ n', n' ≤ n + 1 ∧ lwS n' M := fun M hJ => ⟨n + 1, Nat.le_refl _, by unfold lwS; rw [cJ_view hJ]; exact ⟨hS1, by omega, hm1⟩⟩
      refine qt (pi_succ n).symm ?_
      refine qb (ca_about (e := n) (w := 0) hS1 (cJ_refl M1) (by omega) (by omega)) (fun M hJ => ?_)
      refine qt (by rw [s2]; rfl) ?_
      refine qb (ca_poseE (e := n) (w := 0) hS1 hJ (by omega) (by omega)) (fun M hJ => ?_)
      refine qt (by rw [s1, hP1 n (Nat.le_refl _)]; rfl) ?_
      refine qb (ca_poseE (e := n) (w := 2) hS1 hJ (by omega) (by omega)) (fun M hJ => ?_)
      refine qt (by rw [s1, hP1 n (Nat.le_refl _)]; rfl) ?_
      refine qb (ca_about (e := n) (w := 3) hS1 hJ (by omega) (by omega)) (fun M hJ => ?_)
      refine qp (lw_upM (by decide)) ?_
      exact qt (by rw [s2]; exact hv1.2.2.2.2.1) (qr (hend M hJ))
    · -- the last entry is cut
      have hend0 : ∀ M, cJ M0 M → ∃ n', n' ≤ n + 1 ∧ lwS n' M := fun M hJ => ⟨n, by omega, by unfold lwS; rw [cJ_view hJ]; exact h⟩
      refine qc (fun h3 => ?_) (fun _ => qr (hend0 M hJ))
      have hn3 : 3 ≤ n := by
        rw [show (3 : Int32) = nI 3 from rfl, nI_leI (by omega) (by omega)] at h3
        exact h3
      obtain ⟨q, rfl⟩ : ∃ q, n = q + 1 := ⟨n - 1, by omega⟩
      have e2 : nI (q + 1) - 2 = nI q - 1 := by
        rw [← pi_succ, show (2 : Int32) = 1 + 1 from by decide]
        rw [← Int32.sub_sub, Int32.add_sub_cancel]
      rw [e2, pi_pred]
      have c5 : ∀ {n : Nat} {M0 M : xm_M}, cS (cVs 1 M0) n → cJ M0 M → qA (cJ M0) (fX3_count 5 M) (sp_nK (cVs 1 M0) 4 n) := fun hS hJ => ca_countK (k := 4) hS hJ (by omega)
      have hcut : ∀ (M : xm_M), cJ M0 M → ∀ s0 : Int32, s0 = (if sp_F (cVs 1 M0) q 0 = 4 then 1 else 0) → qA (fun M' => ∃ n', n' ≤ q + 1 + 1 ∧ lwS n' M') (fL_adds_266 (nI (q + 1)) (sp_nK (cVs 1 M0) 4 (q + 1)) (sp_ax (sp_P (cVs 1 M0) q) 0) s0 M) 1 := by
        intro M hJ s0 hs0
        have hv := cJ_view hJ
        have hok := hS.1
        have hN : (cVs 1 M0 1 2).toInt = ((q + 1 : Nat) : Int) := by rw [hS.2.1, nI_toInt (by omega)]
        unfold fL_adds_266
        have hcm := cm_cut (M := M) (n := q + 1) (d := 1) (by rw [hv]; exact hok) (by rw [hv]; exact hS.2.1) (by omega) (by omega) (by omega)
        rw [show q + 1 - 1 = q by omega, px_n1] at hcm
        refine qm hcm (fun M1 hM1 => ?_)
        obtain ⟨ho1, hc1, hV1, _⟩ := hM1
        rw [hv] at hV1
        have hp : vP q (cVs 1 M0) (cVs 1 M1) := ⟨fun b _ => hV1 0 b (by omega), fun b _ _ => hV1 1 b (by omega), fun r b _ _ _ => hV1 r b (by omega), fun r b _ _ _ => hV1 r b (by omega), fun r b _ _ _ => hV1 r b (by omega)⟩
        have hS1 : cS (cVs 1 M1) q := ⟨ho1, hc1, by omega⟩
        have hend : ∀ M, cJ M1 M → ∃ n', n' ≤ q + 1 + 1 ∧ lwS n' M := fun M hJ => ⟨q, by omega, by unfold lwS; rw [cJ_view hJ]; exact ⟨hS1, by omega, by rw [hV1 1 1 (by omega)]; exact h.2.2⟩⟩
        refine qt (pi_pred q).symm ?_
        refine qb (c5 hS1 (cJ_refl M1)) (fun M hJ => ?_)
        have ek : sp_nK (cVs 1 M1) 4 q = sp_nK (cVs 1 M0) 4 (q + 1) - s0 := by
          rw [sp_nK_congr 4 hp hok q (Nat.le_refl _) (by omega), hs0]
          show _ = (sp_nK (cVs 1 M0) 4 q + (if sp_F (cVs 1 M0) q 0 = 4 then 1 else 0)) - _
          rw [Int32.add_sub_cancel]
        have tail : qA (fun M' => ∃ n', n' ≤ q + 1 + 1 ∧ lwS n' M') (fL_adds_296 (nI (q + 1)) (sp_ax (sp_P (cVs 1 M0) q) 0) s0 (sp_nK (cVs 1 M0) 4 (q + 1)) (sp_nK (cVs 1 M1) 4 q) M) 1 := by
          unfold fL_adds_296
          rw [e2]
          refine qt ek ?_
          refine qb (ca_pose (c := q) (w := 0) hS1 hJ (Nat.le_refl _) (by omega)) (fun M hJ => ?_)
          exact qt (by rw [sp_P_congr hp hok q (Nat.le_refl _) (by omega)]) (qr (hend M hJ))
        refine qc (fun z => ?_) (fun z => ?_)
        · rw [z] at tail; exact tail
        · have : s0 = 1 := by
            rw [hs0] at z ⊢
            by_cases y : sp_F (cVs 1 M0) q 0 = 4
            · rw [if_pos y]
            · rw [if_neg y] at z; exact absurd rfl z
          rw [this] at tail; exact tail
      refine qb (c5 hS hJ) (fun M hJ => ?_)
      refine qb (ca_pose (c := q) (w := 0) hS hJ (by omega) (by omega)) (fun M hJ => ?_)
      refine qb (ca_about (e := q) (w := 0) hS hJ (by omega) (by omega)) (fun M hJ => ?_)
      refine qc (fun z => hcut M hJ 1 (by rw [if_pos z])) (fun z => hcut M hJ 0 (by rw [if_neg z]))
    · -- a step
      obtain ⟨k, k1, k2, k3⟩ := lw_up_in a2 (m := 401) (k := 401) rfl (by omega) (by omega)
      obtain ⟨g, g1, g2, g3⟩ := lw_up_in (a2 >>> ((9 : Int32) &&& 31)) (m := 81) (k := 81) rfl (by omega) (by omega)
      have c200 : (200 : Int32).toInt = 200 := rfl
      have c40 : (40 : Int32).toInt = 40 := rfl
      have el : (lw_up a2 401 - 200).toInt = (k : Int) - 200 := by rw [pn_sub (by omega) (by omega), k3, c200]
      have er0 : (lw_up a2 401 - 200 + lw_up (a2 >>> ((9 : Int32) &&& 31)) 81).toInt = (k : Int) - 200 + g := by rw [pn_add (by omega) (by omega), el, g3]
      have er : (lw_up a2 401 - 200 + lw_up (a2 >>> ((9 : Int32) &&& 31)) 81 - 40).toInt = (k : Int) - 200 + g - 40 := by rw [pn_sub (by omega) (by omega), er0, c40]
      refine qp (lw_upM (by decide)) ?_
      refine ql ?_
      refine qp (lw_upM (by decide)) ?_
      refine ql ?_
      refine qp (lw_upM (by decide)) ?_
      generalize lw_up a2 401 - 200 = l at el er ⊢
      generalize l + lw_up (a2 >>> ((9 : Int32) &&& 31)) 81 - 40 = r at er ⊢
      have hstep : ∀ (M : xm_M) (t : Int32), cJ M0 M → -300000 ≤ t.toInt ∧ t.toInt ≤ 300000 → qA (fun M' => ∃ n', n' ≤ n + 1 ∧ lwS n' M') (fL_adds_383 (nI n) (sp_ax (sp_P (cVs 1 M0) n) 0) l r t M) 1 := by
        intro M t hJ ht
        have hv := cJ_view hJ
        unfold fL_adds_383
        refine qm (cm_step (a := l) (b := r) (t := t) (by rw [hv]; exact hS.1) (by rw [hv]; exact hS.2.1) (by omega) (by omega) (by omega) ht) (fun M1 hM1 => ?_)
        obtain ⟨ho1, hv1, _⟩ := hM1
        rw [hv] at hv1
        obtain ⟨hS1, hm1, hP1⟩ := lw_more h ho1 hv1
        have hs : ¬ 0 ≤ cVs 1 M1 9 n := by rw [hv1.2.1]; exact pn_6neg
        obtain ⟨f1, f2, f3⟩ := sp_F_told ho1 hs
        have hend : ∀ M, cJ M1 M → ∃ n', n' ≤ n + 1 ∧ lwS n' M := fun M hJ => ⟨n + 1, Nat.le_refl _, by unfold lwS; rw [cJ_view hJ]; exact ⟨hS1, by omega, hm1⟩⟩
        refine qt (pi_succ n).symm ?_
        refine qb (ca_about (e := n) (w := 1) hS1 (cJ_refl M1) (by omega) (by omega)) (fun M hJ => ?_)
        refine qt (by rw [f1]; exact hv1.2.2.1) ?_
        refine qb (ca_about (e := n) (w := 2) hS1 hJ (by omega) (by omega)) (fun M hJ => ?_)
        refine qt (by rw [f2]; exact hv1.2.2.2.1) ?_
        refine qb (ca_about (e := n) (w := 3) hS1 hJ (by omega) (by omega)) (fun M hJ => ?_)
        refine qt (by rw [f3]; exact hv1.2.2.2.2.1) ?_
        refine qc (fun _ => qr (hend M hJ)) (fun _ => ?_)
        refine qb (ca_pose (c := n) (w := 0) hS1 hJ (by omega) (by omega)) (fun M hJ => ?_)
        exact qt (by rw [hP1 n (Nat.le_refl _)]) (qr (hend M hJ))
      refine qc (fun _ => ?_) (fun _ => ?_)
      · obtain ⟨u, u1, u2, u3⟩ := lw_up_in (a1 >>> ((6 : Int32) &&& 31)) (m := 200001) (k := 200001) rfl (by omega) (by omega)
        have c5 : (100000 : Int32).toInt = 100000 := rfl
        refine qp (lw_upM (by decide)) ?_
        exact hstep M _ hJ (by rw [pn_sub (by omega) (by omega), u3, c5]; omega)
      · have c9 : (900 : Int32).toInt = 900 := rfl
        have e1 : (r - l).toInt = (g : Int) - 40 := by rw [pn_sub (by omega) (by omega)]; omega
        exact hstep M _ hJ (by rw [pn_mul (by rw [e1, c9]; omega) (by rw [e1, c9]; omega), e1, c9]; omega)
  unfold fL_adds
  refine qb (ca_count0 hS (cJ_refl M0)) (fun M hJ => ?_)
  refine qc (fun z => ?_) (fun _ => ?_)
  · have hn0 : n = 0 := by
      have e : (nI n = 0) = (n = 0) := px_eq_nI (n := 0) rfl (by omega) (by omega)
      rw [e] at z
      exact z
    subst hn0
    refine qb (ca_poseN (w := 0) hS hJ (by omega)) (fun M hJ => ?_)
    exact main M hJ
  · refine qb (ca_pose (c := n) (w := 0) hS hJ (Nat.le_refl n) (by omega)) (fun M hJ => ?_)
    exact main M hJ
