/-! THE LAW: a new desk, calls that are refused; settings, start and map -/
theorem xb_z : ∀ r j, 1 ≤ r → cVs 1 xk_Mc r j = 0 := by
  intro r j hr
  have e : ∀ k i, ¬ k = 2 → ¬ k = 18 → ¬ k = 34 → ¬ k = 72 → xk_Mc.1 k i = 0 := by
    intro k i h1 h2 h3 h4
    unfold xk_Mc
    show (if k = 2 then xk_fv else if k = 18 then xk_fv else if k = 34 then xk_fv else if k = 72 then xk_fv else fun _ => 0) i = 0
    rw [if_neg h1, if_neg h2, if_neg h3, if_neg h4]
  unfold cVs
  repeat' split
  all_goals first | rfl | omega | exact e _ _ (by omega) (by omega) (by omega) (by omega)
theorem xb_S : cS (cVs 1 xk_Mc) 0 := by
  have h0 : ∀ j, cVs 1 xk_Mc 0 j = xk_fv j := fun j => rfl
  have z0 : (0 : Int32).toInt = 0 := rfl
  have hz := xb_z
  refine ⟨(sp_ok_iff _).mpr ⟨?_, ?_, ?_, ?_, ?_, ?_, ?_, ?_, ?_, ?_⟩, ?_, by omega⟩
  · intro j hj
    rw [h0]
    revert j
    refine px_r9 ?_ ?_ ?_ ?_ ?_ ?_ ?_ ?_ ?_
    all_goals decide
  · rw [hz 1 0 (by omega), z0]; omega
  · rw [hz 1 1 (by omega), z0]; omega
  · rw [hz 1 2 (by omega), z0]; omega
  · rw [hz 1 3 (by omega), z0]; omega
  · rw [hz 1 4 (by omega), z0]; omega
  · rw [hz 1 5 (by omega), z0]; omega
  · intro c hc
    rw [hz 1 0 (by omega), z0] at hc
    omega
  · intro c hc
    rw [hz 1 1 (by omega), z0] at hc
    omega
  · intro c hc
    rw [hz 1 2 (by omega), z0] at hc
    omega
  · rw [hz 1 2 (by omega)]; rfl
theorem sp_tk_far {a v : Int32} (h : ¬ (0 ≤ a.toInt ∧ a.toInt ≤ 8)) : sp_tk a v = 0 := by
  have ne : ∀ j : Nat, j ≤ 8 → ¬ a = nI j := fun j hj z => h (by rw [z, nI_toInt (by omega)]; omega)
  have n0 : ¬ a = 0 := ne 0 (by omega)
  have n1 : ¬ a = 1 := ne 1 (by omega)
  have n2 : ¬ a = 2 := ne 2 (by omega)
  have n3 : ¬ a = 3 := ne 3 (by omega)
  have n4 : ¬ a = 4 := ne 4 (by omega)
  have n5 : ¬ a = 5 := ne 5 (by omega)
  have n6 : ¬ a = 6 := ne 6 (by omega)
  have n7 : ¬ a = 7 := ne 7 (by omega)
  have n8 : ¬ a = 8 := ne 8 (by omega)
  unfold sp_tk
  simp only [n0, n1, n2, n3, n4, n5, n6, n7, n8, or_self, if_false]
theorem sp_tk_0 {v : Int32} (h : ¬ (100 ≤ v.toInt ∧ v.toInt ≤ 2000)) : sp_tk 0 v = 0 := by
  have c0 : ((100 : Int32).toInt = 100) := rfl
  have c1 : ((2000 : Int32).toInt = 2000) := rfl
  unfold sp_tk
  rw [if_pos (Or.inl rfl), if_neg (show ¬ ((100 : Int32) ≤ v ∧ v ≤ 2000) by rw [Int32.le_iff_toInt_le, Int32.le_iff_toInt_le, c0, c1]; exact h)]
theorem sp_tk_8 {v : Int32} (h : ¬ (0 ≤ v.toInt ∧ v.toInt ≤ 900000)) : sp_tk 8 v = 0 := by
  have c0 : ((0 : Int32).toInt = 0) := rfl
  have c1 : ((900000 : Int32).toInt = 900000) := rfl
  unfold sp_tk
  rw [if_neg (by decide), if_neg (by decide), if_neg (by decide), if_neg (by decide), if_neg (by decide), if_neg (by decide), if_pos rfl, if_neg (show ¬ ((0 : Int32) ≤ v ∧ v ≤ 900000) by rw [Int32.le_iff_toInt_le, Int32.le_iff_toInt_le, c0, c1]; exact h)]
theorem sp_ent_e (T : Nat → Int32) : sp_ent T 0 0 = (none, 0) := by
  have e : ∀ i, sp_ch T 0 i = 0 := fun i => if_neg (by omega)
  unfold sp_ent sp_int sp_num
  rw [e, if_neg (by decide), if_neg (by decide), if_neg (by decide)]
  rfl
theorem lw_refused23 {s0 : Int32} (hf : s0.toInt ≤ -300001 ∨ 3600000 ≤ s0.toInt) : qA (cJ xk_Mc) (fL_refused_23 s0 xk_Mc) 1 := by
  have hS := xb_S
  have z0 : (0 : Int32).toInt = 0 := rfl
  have k0 : sp_nK (cVs 1 xk_Mc) 4 0 = 0 := rfl
  have hz := xb_z
  unfold fL_refused_23
  refine qp (cm_setF (sp_tk_far (by omega))) (qt rfl ?_)
  refine qp (cm_setF (sp_tk_0 (by omega))) (qt rfl ?_)
  refine qp (cm_setF (sp_tk_8 (by omega))) (qt rfl ?_)
  refine qp (cm_corrF (by omega)) (qt rfl ?_)
  refine qp (cm_corrF (by omega)) (qt rfl ?_)
  refine qp (cm_corrF (by omega)) (qt rfl ?_)
  refine qp (cm_corrF (by omega)) (qt rfl ?_)
  refine qp (cm_corrF (by omega)) (qt rfl ?_)
  refine qp (cm_markF (by omega)) (qt rfl ?_)
  refine qp (cm_markF (by omega)) (qt rfl ?_)
  refine qp (cm_closeF (hz 1 0 (by omega))) (qt rfl ?_)
  refine qp (cm_beginF (by omega)) (qt rfl ?_)
  refine qp (cm_beginF (by omega)) (qt rfl ?_)
  refine qp (cm_beginF (by omega)) (qt rfl ?_)
  refine qp (cm_stepF (by omega)) (qt rfl ?_)
  refine qp (cm_stepF (by omega)) (qt rfl ?_)
  refine qp (cm_stepF (by omega)) (qt rfl ?_)
  refine qp (cm_seeF hS.1 (by rw [hz 1 1 (by omega), z0]; omega)) (qt rfl ?_)
  refine qp (cm_cutF (n := 0) hS.2.1 (by omega) (by omega)) (qt rfl ?_)
  refine qb (ca_poseF hS (cJ_refl xk_Mc) (by omega)) (fun M hJ => qt rfl ?_)
  refine qb (ca_poseG hS hJ (by omega)) (fun M hJ => qt rfl ?_)
  refine qb (ca_aboutF hS hJ (by omega)) (fun M hJ => qt rfl ?_)
  refine qb (ca_countF hJ (by omega)) (fun M hJ => qt rfl ?_)
  refine qb (ca_waveF hJ (by omega)) (fun M hJ => qt rfl ?_)
  refine qb (ca_ifSetF hJ (sp_tk_far (by omega))) (fun M hJ => qt rfl ?_)
  refine qb (ca_ifSetF hJ (sp_tk_0 (by omega))) (fun M hJ => qt rfl ?_)
  have hb := ca_bestBase hS hJ (B := 300) rfl (by omega) (by omega)
  rw [if_pos k0] at hb
  refine qb hb (fun M hJ => qt rfl ?_)
  have ht := ca_bestTrust hS hJ
  rw [if_pos k0] at ht
  refine qb ht (fun M hJ => qt rfl ?_)
  have hl : qA (cJ xk_Mc) (fX3_load M) (-3) := by
    obtain ⟨M', e1, e2⟩ := cm_load1 (T := fun _ => 0) (n := 0) (p := 0) (M := M) (by omega) ⟨by rw [hJ 69 1 (by omega)]; rfl, fun j hj => absurd hj (by omega)⟩ (sp_ent_e _) (by omega)
    exact ⟨M', e1, fun k j hk => (e2 k j (by omega) (by omega)).trans (hJ k j hk)⟩
  refine qb hl (fun M hJ => qt rfl ?_)
  refine qp (cm_saveF (by omega)) (qt rfl ?_)
  refine qp (cm_restF (by omega)) (qt rfl ?_)
  refine qb (ca_count0 hS hJ) (fun M hJ => qt rfl ?_)
  exact qr hJ
theorem lw_refused (a : Int32) : qA (cJ xk_Mc) (fL_refused a xk_Mc) 1 := by
  unfold fL_refused
  refine qc (fun h => lw_refused23 (Or.inr ?_)) (fun h => ?_)
  · have h0 := (pn_nn a).mp h
    have e : a - a / 1000000 * 1000000 = a % 1000000 := pn_irem _ _
    have c : (1000000 : Int32).toInt = 1000000 := rfl
    have c3 : (3600000 : Int32).toInt = 3600000 := rfl
    have e2 : (a % 1000000).toInt = a.toInt.tmod 1000000 := by rw [Int32.toInt_mod, c]
    have h3 := (pn_tmod a.toInt 1000000 (by omega)).1 h0
    rw [e, pn_add (by omega) (by omega), e2, c3]
    omega
  · obtain ⟨q, q1, q2, q3⟩ := lw_up_in a (m := 1000000) (k := 1000000) rfl (by omega) (by omega)
    have c : (-300001 : Int32).toInt = -300001 := rfl
    refine qp (lw_upM (by decide)) (lw_refused23 (Or.inl ?_))
    rw [pn_sub (by omega) (by omega), c, q3]
    omega
/-- settings, the start and the map are laid -/
def lwB (c : Nat) (M : xm_M) : Prop := sp_ok (cVs 1 M) ∧ cVs 1 M 1 2 = nI 0 ∧ cVs 1 M 1 1 = nI c
section QX
variable {α : Type} {J : xm_M → Prop} {f : Option (Int32 × xm_M)} {r : α}
theorem qx {P : xm_M → Prop} {K : Int32 → xm_M → Option (α × xm_M)} (h : ∃ x M1, f = some (x, M1) ∧ P M1) (k : ∀ x M1, P M1 → qA J (K x M1) r) : qA J (xm_bi f K) r := by
  obtain ⟨x, M1, rfl, hP⟩ := h
  exact k x M1 hP
end QX
theorem lwB_set {c : Nat} {M : xm_M} (a v : Int32) (h : lwB c M) : ∃ x M1, fX3_set a v M = some (x, M1) ∧ lwB c M1 := by
  obtain ⟨r, M1, e1, e2, e3, _⟩ := cm_set a v h.1
  exact ⟨r, M1, e1, e2, by rw [e3 1 (by omega)]; exact h.2.1, by rw [e3 1 (by omega)]; exact h.2.2⟩
theorem lwB_begin {c : Nat} {M : xm_M} (x y t : Int32) (h : lwB c M) : ∃ z M1, fX3_begin x y t M = some (z, M1) ∧ lwB c M1 := by
  obtain ⟨r, M1, e1, e2, e3, _⟩ := cm_begin x y t h.1
  exact ⟨r, M1, e1, e2, by rw [e3 1 2 (by omega)]; exact h.2.1, by rw [e3 1 1 (by omega)]; exact h.2.2⟩
theorem lwB_corr {c : Nat} {M : xm_M} (a1 a2 a3 a4 a5 : Int32) (h : lwB c M) : ∃ z M1, fX3_corridor a1 a2 a3 a4 a5 M = some (z, M1) ∧ lwB c M1 := by
  obtain ⟨r, M1, e1, e2, e3, _⟩ := cm_corr a1 a2 a3 a4 a5 h.1
  exact ⟨r, M1, e1, e2, by rw [e3 1 2 (by omega) (by omega)]; exact h.2.1, by rw [e3 1 1 (by omega) (by omega)]; exact h.2.2⟩
theorem lwB_mark {c : Nat} {M : xm_M} {x y : Int32} (h : lwB c M) (hc : c < 3) (hx : -100000 ≤ x.toInt ∧ x.toInt ≤ 100000) (hy : -100000 ≤ y.toInt ∧ y.toInt ≤ 100000) : ∃ z M1, fX3_marker x y M = some (z, M1) ∧ lwB (c + 1) M1 := by
  obtain ⟨M1, e1, e2, e3, e4, _⟩ := cm_mark h.1 hx hy h.2.2 (by omega)
  exact ⟨_, M1, e1, e2, by rw [e4 1 2 (by omega) (by omega)]; exact h.2.1, e3⟩
theorem lwB_J {M : xm_M} (h : cJ xk_Mc M) : lwB 0 M := by
  unfold lwB
  rw [cJ_view h]
  exact ⟨xb_S.1, xb_S.2.1, xb_z 1 1 (by omega)⟩
theorem lwB_S {M : xm_M} (h : lwB 3 M) : lwS 0 M := ⟨⟨h.1, h.2.1, by omega⟩, by omega, h.2.2⟩
