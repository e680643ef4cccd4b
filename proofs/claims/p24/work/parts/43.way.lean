/-! THE LAW: way, each entry from the one ahead of it -/
theorem sp_kd {V : sV} (hok : sp_ok V) (e : Nat) : ∃ kd : Nat, kd < 5 ∧ sp_F V e 0 = nI kd := by
  rcases sp_forms hok e (sp_P V e) with ⟨_, x, y, q⟩ | ⟨_, _, _, q⟩ | ⟨_, k, w, t, d, hk, q⟩ | ⟨_, k, w, t, d, c, u, hk, _, q⟩
  · have q : sp_F V e = _ := q
    rw [q]; exact ⟨4, by omega, rfl⟩
  · have q : sp_F V e = _ := q
    rw [q]; exact ⟨0, by omega, rfl⟩
  · have q : sp_F V e = _ := q
    rw [q]
    rcases hk with z | z | z
    · exact ⟨1, by omega, z⟩
    · exact ⟨2, by omega, z⟩
    · exact ⟨3, by omega, z⟩
  · have q : sp_F V e = _ := q
    rw [q]
    rcases hk with z | z | z
    · exact ⟨1, by omega, z⟩
    · exact ⟨2, by omega, z⟩
    · exact ⟨3, by omega, z⟩
theorem pn_m1000 {m : Int32} (h1 : -100000 ≤ m.toInt) (h2 : m.toInt ≤ 100000) : 1000 * m - 1000 * m / 1000 * 1000 = 0 := by
  have c : (1000 : Int32).toInt = 1000 := rfl
  have e : (1000 * m).toInt = 1000 * m.toInt := by rw [pn_mul (by rw [c]; omega) (by rw [c]; omega), c]
  rw [pn_irem]
  apply Int32.toInt_inj.mp
  rw [Int32.toInt_mod, e, c, Int.mul_comm]
  exact Int.mul_tmod_left _ _
theorem sp_mark {V : sV} {n e : Nat} (hS : cS V n) (he : e < n) (h : 0 ≤ V 9 e) : (sp_mx V e - sp_mx V e / 1000 * 1000 = 0) ∧ (sp_my V e - sp_my V e / 1000 * 1000 = 0) := by
  obtain ⟨ho, hn, hn2⟩ := hS
  have hN : (V 1 2).toInt = (n : Int) := by rw [hn, nI_toInt (by omega)]
  have rl := ho.2.2.2.2.2.2.2.2.2.2.2.2.2.2.2.2.2 e (by omega)
  have rm := ho.2.2.2.2.2.2.2.2.2.2.2.2.2.2.2.2.1
  have h9 : (V 9 e).toNatClampNeg = (V 9 e).toInt.toNat := rfl
  have hs := (pn_nn _).mp h
  rcases rl with z | z
  · rw [z.1] at hs; exact absurd hs (by decide)
  · have a7 := rm (V 9 e).toNatClampNeg (by omega) 7 (by omega) (by omega)
    have a8 := rm (V 9 e).toNatClampNeg (by omega) 8 (by omega) (by omega)
    exact ⟨pn_m1000 a7.1 a7.2, pn_m1000 a8.1 a8.2⟩
/-- with a row of counts -/
def lwK (V : sV) (k : Nat) (M : xm_M) : Prop := cVs 1 M = V ∧ ∀ j, j < 5 → M.1 73 j = sp_nK V (nI j) k
theorem lwK_J {V : sV} {k : Nat} {M M' : xm_M} (h : lwK V k M) (hJ : cJ M M') : lwK V k M' := ⟨(cJ_view hJ).trans h.1, fun j hj => (hJ 73 j (by omega)).trans (h.2 j hj)⟩
theorem pn_eqN {a b : Nat} (ha : a < 1000) (hb : b < 1000) : (nI a = nI b) = (a = b) := px_eq_nI rfl (by omega) (by omega)
/-- the row with one more -/
theorem lwK_s {V : sV} {k kd : Nat} {M : xm_M} (h : lwK V k M) (hkd : kd < 5) (hF : sp_F V k 0 = nI kd) : lwK V (k + 1) (xm_s M 73 kd (M.1 73 kd + 1)) := by
  refine ⟨(cVs_keep (fun a j _ _ => by rw [pm_s, if_neg (by omega)])).trans h.1, fun j hj => ?_⟩
  show _ = sp_nK V (nI j) k + (if sp_F V k 0 = nI j then 1 else 0)
  rw [pm_s, hF]
  have e : (nI kd = nI j) = (kd = j) := pn_eqN (by omega) (by omega)
  by_cases z : j = kd
  · rw [if_pos ⟨rfl, z⟩, if_pos (show nI kd = nI j by rw [z]), ← z, h.2 j hj]
  · rw [if_neg (fun y => z y.2), if_neg (show ¬ nI kd = nI j by rw [e]; exact fun y => z y.symm), Int32.add_zero, h.2 j hj]
section LW
variable {V : sV} {n : Nat}
/-- the counts told, at the end -/
theorem lw_way399 (hS : cS V n) : ∀ (q j : Nat) (M : xm_M), j ≤ 5 → 5 - j < q → lwK V n M → qA (fun M' => cVs 1 M' = V) (fL_way_399_it q (sp_nP V n) (sp_E V n) (nI j) M) 1 := by
  intro q
  induction q with
  | zero => intro j _ _ h; omega
  | succ q ih =>
    intro j M hj hq hK
    have hS0 : cS (cVs 1 M) n := by rw [hK.1]; exact hS
    show qA _ (fL_way_399 (fL_way_399_it q) (sp_nP V n) (sp_E V n) (nI j) M) 1
    unfold fL_way_399
    have e5 : ((5 : Int32) ≤ nI j) = (5 ≤ j) := propext (nI_leI (a := 5) (by omega) (by omega))
    simp only [e5]
    by_cases h5 : 5 ≤ j
    · rw [if_pos h5]
      refine qb (qe (ca_count6 hS0 (cJ_refl M)) (by rw [hK.1])) (fun M1 hJ => ?_)
      refine qt rfl ?_
      refine qb (qe (ca_count7 hS0 hJ) (by rw [hK.1])) (fun M1 hJ => ?_)
      have tail : ∀ s0 : Int64, s0.toInt32 = sp_told (sp_E V n) → qA (fun M' => cVs 1 M' = V) (fL_way_459 s0 (sp_told (sp_E V n)) M1) 1 := by
        intro s0 hs0
        unfold fL_way_459
        refine qt hs0.symm ?_
        refine qb (ca_count8 hS0 hJ) (fun M1 hJ => ?_)
        refine qb (ca_count0 hS0 hJ) (fun M1 hJ => ?_)
        refine qb (ca_pose (c := n) (w := 3) hS0 hJ (Nat.le_refl _) (by omega)) (fun M1 hJ => ?_)
        exact qt rfl (qr ((cJ_view hJ).trans hK.1))
      refine qc (fun z => tail _ ?_) (fun z => tail _ ?_)
      · unfold sp_told
        rw [if_pos ((pl_b _ _).2.2.2.1.mp z)]
      · unfold sp_told
        rw [if_neg (fun y => z ((pl_b _ _).2.2.2.1.mpr y))]
        rfl
    · rw [if_neg h5]
      refine qb (qe (ca_countK (k := j) hS0 (cJ_refl M) (by omega)) (by rw [hK.1])) (fun M1 hJ => ?_)
      have hK1 := lwK_J hK hJ
      refine qf (px_kn (n := 5) (by omega) (by omega)) ?_
      rw [nI_clamp (by omega)]
      refine qt (hK1.2 j (by omega)).symm ?_
      refine ql ?_
      rw [show nI j + Int32.ofInt 1 = nI (j + 1) from (nI_succ j).symm]
      exact ih (j + 1) M1 (by omega) (by omega) hK1
theorem lw_way11 (hS : cS V n) : ∀ (q k : Nat) (M : xm_M), k ≤ n → n - k < q → lwK V k M → qA (fun M' => cVs 1 M' = V) (fL_way_11_it q (sp_nP V k) (sp_E V k) (nI k) M) 1 := by
  intro q
  induction q with
  | zero => intro k _ _ h; omega
  | succ q ih =>
    intro k M hk hq hK
    have hn := hS.2.2
    have hS0 : cS (cVs 1 M) n := by rw [hK.1]; exact hS
    rw [fL_way_11_its]
    unfold fL_way_11
    refine qb (ca_count0 hS0 (cJ_refl M)) (fun M1 hJ => ?_)
    have hK1 := lwK_J hK hJ
    have en : (nI n ≤ nI k) = (n ≤ k) := propext (nI_leI (by omega) (by omega))
    simp only [en]
    by_cases hnk : n ≤ k
    · rw [if_pos hnk]
      have e : k = n := by omega
      subst e
      exact ql (lw_way399 hS xm_N 0 M1 (by omega) (by show 5 - 0 < 4096; omega) hK1)
    · rw [if_neg hnk]
      have hkn : k < n := by omega
      obtain ⟨kd, hkd, hF⟩ := sp_kd hS.1 k
      have hF0 : sp_F (cVs 1 M) k 0 = nI kd := by rw [hK.1]; exact hF
      refine qb (qe (ca_about (w := 0) hS0 hJ hkn (by omega)) hF0) (fun M2 hJ2 => ?_)
      have hK2 := lwK_J hK hJ2
      refine qf (px_kn (n := 5) hkd (by omega)) (qf (px_kn (n := 5) hkd (by omega)) ?_)
      rw [nI_clamp (by omega)]
      have hB := lwK_s hK2 hkd hF
      refine ql ?_
      generalize xm_s M2 73 kd (M2.1 73 kd + 1) = B at hB
      have hSB : cS (cVs 1 B) n := by rw [hB.1]; exact hS
      have next : ∀ (M' : xm_M) (b2 : Int32) (b3 : Int64), cJ B M' → b2 = sp_nP V (k + 1) → b3 = sp_E V (k + 1) → qA (fun M' => cVs 1 M' = V) (fL_way_390 (fL_way_11_it q) b2 b3 (nI k) M') 1 := by
        intro M' b2 b3 hJB h2 h3
        unfold fL_way_390
        refine ql ?_
        rw [show nI k + Int32.ofInt 1 = nI (k + 1) from (nI_succ k).symm, h2, h3]
        exact ih (k + 1) M' (by omega) (by omega) (lwK_J hB hJB)
      have nP : sp_nP V (k + 1) = sp_nP V k + (if 0 ≤ sp_F V k 7 then 1 else 0) := rfl
      have nE : sp_E V (k + 1) = sp_E V k + (if sp_F V k 0 = 4 then (sp_ab32 (sp_F V k 9)).toInt64 + (sp_ab32 (sp_F V k 10)).toInt64 else 0) := rfl
      clear hK hK1 hK2 hJ hJ2 hF0 hS0 ih
      obtain ⟨hBv, _⟩ := hB
      subst hBv
      refine qb (ca_poseE (w := 0) hSB (cJ_refl B) hkn (by omega)) (fun M3 hJ => ?_)
      refine qb (ca_pose (w := 0) hSB hJ (Nat.le_of_lt hkn) (by omega)) (fun M3 hJ => ?_)
      refine ql ?_
      refine qb (ca_poseE (w := 1) hSB hJ hkn (by omega)) (fun M3 hJ => ?_)
      refine qb (ca_pose (w := 1) hSB hJ (Nat.le_of_lt hkn) (by omega)) (fun M3 hJ => ?_)
      refine ql ?_
      refine qb (ca_poseE (w := 3) hSB hJ hkn (by omega)) (fun M3 hJ => ?_)
      refine qb (ca_pose (w := 3) hSB hJ (Nat.le_of_lt hkn) (by omega)) (fun M3 hJ => ?_)
      refine ql ?_
      refine qb (ca_pose (w := 4) hSB hJ (Nat.le_of_lt hkn) (by omega)) (fun M3 hJ => ?_)
      refine qb (ca_pose (w := 2) hSB hJ (Nat.le_of_lt hkn) (by omega)) (fun M3 hJ => ?_)
      by_cases hs : 0 ≤ cVs 1 B 9 k
      · obtain ⟨s1, s2⟩ := sp_sight hs
        have f0 : sp_F (cVs 1 B) k 0 = 4 := by rw [s2]; rfl
        have f9 : sp_F (cVs 1 B) k 9 = (sp_P (cVs 1 B) k).1 - sp_mx (cVs 1 B) k := by rw [s2]; rfl
        have f10 : sp_F (cVs 1 B) k 10 = (sp_P (cVs 1 B) k).2.1 - sp_my (cVs 1 B) k := by rw [s2]; rfl
        have f7 : sp_F (cVs 1 B) k 7 = sp_NG := by rw [s2]; rfl
        have p0 : sp_ax (sp_P (cVs 1 B) (k + 1)) 0 = sp_mx (cVs 1 B) k := by rw [s1]; rfl
        have p1 : sp_ax (sp_P (cVs 1 B) (k + 1)) 1 = sp_my (cVs 1 B) k := by rw [s1]; rfl
        have p2 : sp_ax (sp_P (cVs 1 B) (k + 1)) 2 = sp_ax (sp_P (cVs 1 B) k) 2 := by rw [s1]; rfl
        have p3 : sp_ax (sp_P (cVs 1 B) (k + 1)) 3 = sp_ax (sp_P (cVs 1 B) k) 3 := by rw [s1]; rfl
        have p4 : sp_ax (sp_P (cVs 1 B) (k + 1)) 4 = sp_ax (sp_P (cVs 1 B) k) 4 := by rw [s1]; rfl
        obtain ⟨m1, m2⟩ := sp_mark hSB hkn hs
        refine qt (by rw [← hF, f0]) ?_
        refine qb (ca_about (w := 9) hSB hJ hkn (by omega)) (fun M3 hJ => ?_)
        refine qp (lw_size _ _) ?_
        refine qb (ca_about (w := 10) hSB hJ hkn (by omega)) (fun M3 hJ => ?_)
        refine qp (lw_size _ _) ?_
        refine ql ?_
        refine qt (by rw [p3, Int32.sub_self]) ?_
        refine qb (qe (ca_poseE (w := 4) hSB hJ hkn (by omega)) p4) (fun M3 hJ => ?_)
        refine qt rfl ?_
        refine qb (qe (ca_poseE (w := 2) hSB hJ hkn (by omega)) p2) (fun M3 hJ => ?_)
        refine qt rfl ?_
        refine qb (ca_about (w := 9) hSB hJ hkn (by omega)) (fun M3 hJ => ?_)
        refine qt (by rw [p0, f9, Int32.neg_sub]; rfl) ?_
        refine qb (ca_about (w := 10) hSB hJ hkn (by omega)) (fun M3 hJ => ?_)
        refine qt (by rw [p1, f10, Int32.neg_sub]; rfl) ?_
        refine qb (qe (ca_poseE (w := 0) hSB hJ hkn (by omega)) p0) (fun M3 hJ => ?_)
        refine qt m1 ?_
        refine qb (qe (ca_poseE (w := 1) hSB hJ hkn (by omega)) p1) (fun M3 hJ => ?_)
        refine qt m2 ?_
        refine next M3 _ _ hJ ?_ ?_
        · rw [nP, f7, if_neg (by decide), Int32.add_zero]
        · rw [nE, if_pos f0]
      · by_cases h0 : cVs 1 B 10 k = 0 ∧ cVs 1 B 11 k = 0
        · obtain ⟨s1, s2⟩ := sp_stand hs h0
          have f0 : sp_F (cVs 1 B) k 0 = 0 := by rw [s2]; rfl
          have f1 : sp_F (cVs 1 B) k 1 = 0 := by rw [s2]; rfl
          have f2 : sp_F (cVs 1 B) k 2 = 0 := by rw [s2]; rfl
          have f3 : sp_F (cVs 1 B) k 3 = cVs 1 B 12 k := by rw [s2]; rfl
          have f7 : sp_F (cVs 1 B) k 7 = sp_NG := by rw [s2]; rfl
          have p0 : sp_ax (sp_P (cVs 1 B) (k + 1)) 0 = sp_ax (sp_P (cVs 1 B) k) 0 := by rw [s1]; rfl
          have p1 : sp_ax (sp_P (cVs 1 B) (k + 1)) 1 = sp_ax (sp_P (cVs 1 B) k) 1 := by rw [s1]; rfl
          have p2 : sp_ax (sp_P (cVs 1 B) (k + 1)) 2 = sp_ax (sp_P (cVs 1 B) k) 2 := by rw [s1]; rfl
          have p3 : sp_ax (sp_P (cVs 1 B) (k + 1)) 3 = sp_ax (sp_P (cVs 1 B) k) 3 := by rw [s1]; rfl
          have p4 : sp_ax (sp_P (cVs 1 B) (k + 1)) 4 = sp_bias (cVs 1 B) k (sp_P (cVs 1 B) k).2.2.2.2 := by rw [s1]; rfl
          obtain ⟨⟨_, _, r12⟩, rb⟩ := sp_ranges hSB hkn hs
          have q5 := hSB.1.2.2.2.2.2.1
          have hb := (sp_bias_in (e := k) q5 r12 rb).1
          have z5 : ¬ cVs 1 B 0 5 = 0 := fun z => by
            rw [z] at q5
            exact absurd q5.1 (by decide)
          refine qf (by rw [← hF, f0]; decide) (qt (by rw [← hF, f0]) ?_)
          refine qt (by rw [p0, Int32.sub_self]) (qt (by rw [p1, Int32.sub_self]) (qt (by rw [p3, Int32.sub_self]) ?_))
          refine qb (qe (ca_poseE (w := 2) hSB hJ hkn (by omega)) p2) (fun M3 hJ => ?_)
          refine qt rfl ?_
          refine qb (qe (ca_poseE (w := 4) hSB hJ hkn (by omega)) p4) (fun M3 hJ => ?_)
          refine qb (qe (ca_about (w := 3) hSB hJ hkn (by omega)) f3) (fun M3 hJ => ?_)
          refine qb (ca_c17 hJ) (fun M3 hJ => ?_)
          refine qf z5 (qt hb ?_)
          refine qb (qe (ca_about (w := 1) hSB hJ hkn (by omega)) f1) (fun M3 hJ => ?_)
          refine qt rfl ?_
          refine qb (qe (ca_about (w := 2) hSB hJ hkn (by omega)) f2) (fun M3 hJ => ?_)
          refine qt rfl ?_
          refine next M3 _ _ hJ ?_ ?_
          · rw [nP, f7, if_neg (by decide), Int32.add_zero]
          · rw [nE, f0, if_neg (by decide), Int64.add_zero]
        · obtain ⟨⟨g0, _, _, _, _, _, _⟩, ⟨_, _, _, x4⟩, gc⟩ := sp_go hs h0
          have hk123 : sp_F (cVs 1 B) k 0 = 1 ∨ sp_F (cVs 1 B) k 0 = 2 ∨ sp_F (cVs 1 B) k 0 = 3 := by rw [g0]; exact sp_kind_in _ _ _
          have n4 : ¬ sp_F (cVs 1 B) k 0 = 4 := fun z => by rcases hk123 with u | u | u <;> rw [u] at z <;> exact absurd z (by decide)
          have n0 : ¬ sp_F (cVs 1 B) k 0 = 0 := fun z => by rcases hk123 with u | u | u <;> rw [u] at z <;> exact absurd z (by decide)
          have p4 : sp_ax (sp_P (cVs 1 B) (k + 1)) 4 = sp_ax (sp_P (cVs 1 B) k) 4 := x4
          rw [← hF]
          refine qf n4 (qf n0 ?_)
          have tail : ∀ (M3 : xm_M) (s0 : Int32), cJ B M3 → s0 = (if 0 ≤ sp_F (cVs 1 B) k 7 then 1 else 0) → qA (fun M' => cVs 1 M' = cVs 1 B) (fL_way_342 (fL_way_11_it q) (sp_E (cVs 1 B) k) (nI k) (sp_F (cVs 1 B) k 0) (sp_ax (sp_P (cVs 1 B) (k + 1)) 0 - sp_ax (sp_P (cVs 1 B) k) 0) (sp_ax (sp_P (cVs 1 B) (k + 1)) 1 - sp_ax (sp_P (cVs 1 B) k) 1) (sp_ax (sp_P (cVs 1 B) (k + 1)) 3 - sp_ax (sp_P (cVs 1 B) k) 3) (sp_ax (sp_P (cVs 1 B) k) 4) (sp_ax (sp_P (cVs 1 B) k) 2) s0 (sp_nP (cVs 1 B) k) M3) 1 := by
            intro M3 s0 hJ hs0
            unfold fL_way_342
            refine ql ?_
            refine qb (qe (ca_poseE (w := 4) hSB hJ hkn (by omega)) p4) (fun M3 hJ => ?_)
            refine qt rfl ?_
            refine qb (lw_turns hSB hJ hkn hs h0) (fun M3 hJ => ?_)
            refine qf (by decide) ?_
            refine qb (lw_goes hSB hJ hkn hs h0) (fun M3 hJ => ?_)
            refine qf (by decide) ?_
            refine next M3 _ _ hJ ?_ ?_
            · rw [nP, hs0]
            · rw [nE, if_neg n4, Int64.add_zero]
          refine qb (ca_about (w := 7) hSB hJ hkn (by omega)) (fun M3 hJ => ?_)
          refine qc (fun z => tail M3 0 hJ (by rw [if_neg (Int32.not_le.mpr z)])) (fun z => tail M3 1 hJ (by rw [if_pos (Int32.not_lt.mp z)]))
end LW
theorem lw_way {n : Nat} {M0 : xm_M} (h : lwS n M0) : qA (lwS n) (fL_wayN M0) 1 := by
  have hv : cVs 1 (xm_r M0 73 (fun _ => 0)) = cVs 1 M0 := cVs_keep (fun k j _ _ => by rw [pm_r, if_neg (by omega)])
  have hK : lwK (cVs 1 M0) 0 (xm_r M0 73 (fun _ => 0)) := ⟨hv, fun j _ => by rw [pm_r, if_pos rfl]; rfl⟩
  have hm := lw_way11 h.1 xm_N 0 (xm_r M0 73 (fun _ => 0)) (Nat.zero_le _) (by have := h.2.1; show n - 0 < 4096; omega) hK
  refine qw (I := fun M' => cVs 1 M' = cVs 1 M0) ?_ (fun M hM => by unfold lwS; rw [hM]; exact h)
  unfold fL_wayN fL_way
  exact ql (ql (ql hm))
