/-! THE LAW: fits -/
theorem sp_try_S {V : sV} {n j : Nat} {v : Int32} (hS : cS V n) (h1 : sp_lo j ≤ v.toInt) (h2 : v.toInt ≤ sp_hi j) : cS (sp_try V j v) n := ⟨sp_ok_try hS.1 h1 h2, by rw [sp_try_r (by omega)]; exact hS.2.1, hS.2.2⟩
theorem sp_Eb_in {V : sV} {n b : Nat} (hS : cS V n) (h : 100 ≤ b ∧ b ≤ 1000) : 0 ≤ (sp_Eb V n b).toInt := by
  have h12 := (sp_tk2 (c := b) (by omega)).2 h
  exact (sp_E_in (sp_try_S hS h12.1 h12.2) n (Nat.le_refl _)).1
theorem sp_t10 {t : Nat} (ht : t < 11) : sp_lo 4 ≤ (nI (10 * t)).toInt ∧ (nI (10 * t)).toInt ≤ sp_hi 4 := by
  rw [nI_toInt (by omega)]
  show (0 : Int) ≤ _ ∧ _ ≤ (100 : Int)
  omega
theorem sp_Et_in {V : sV} {n t : Nat} (hS : cS V n) (h : t < 11) : 0 ≤ (sp_Et V n t).toInt := by
  have h12 := sp_t10 h
  exact (sp_E_in (sp_try_S hS h12.1 h12.2) n (Nat.le_refl _)).1
section FW
variable {M0 : xm_M} {n : Nat}
theorem lw_f200 (hS : cS (cVs 1 M0) n) {t : Nat} {l : Int64} (hJt : bJ (cVs 1 M0) n 11 t l) : ∀ (q c : Nat) (M : xm_M), c ≤ 11 → 11 - c < q → cJ M0 M → qA (cJ M0) (fL_fits_200_it q (nI (10 * t)) (sp_told (sp_Et (cVs 1 M0) n t)) (nI (10 * c)) M) 1 := by
  obtain ⟨j1, j2, j3⟩ := hJt
  intro q
  induction q with
  | zero => intro c _ _ h; omega
  | succ q ih =>
    intro c M hc hq hJ
    show qA _ (fL_fits_200 (fL_fits_200_it q) (nI (10 * t)) (sp_told (sp_Et (cVs 1 M0) n t)) (nI (10 * c)) M) 1
    unfold fL_fits_200
    have e100 : ((100 : Int32) < nI (10 * c)) = (100 < 10 * c) := px_lt_nI (x := 100) (c := 100) rfl (by omega) (by omega)
    simp only [e100]
    by_cases h : 100 < 10 * c
    · rw [if_pos h]; exact qr hJ
    · rw [if_neg h]
      have hc11 : c < 11 := by omega
      have h12 := sp_t10 hc11
      have nx : ∀ M, cJ M0 M → qA (cJ M0) (fL_fits_248 (fL_fits_200_it q) (nI (10 * t)) (sp_told (sp_Et (cVs 1 M0) n t)) (nI (10 * c)) M) 1 := fun M hJ => by
        unfold fL_fits_248
        refine ql ?_
        rw [pi_10]
        exact ih (c + 1) M (by omega) (by omega) hJ
      obtain ⟨g1, g2⟩ := j3 c hc11
      rw [j2] at g1 g2
      obtain ⟨o1, o2⟩ := sp_told_le (sp_Et_in hS j1) (sp_Et_in hS hc11) g1
      refine qb (ca_ifSet (j := 4) (w := 4) hS hJ (by omega) h12.1 h12.2 (by omega)) (fun M hJ => ?_)
      refine qf o1 ?_
      refine qc (fun _ => nx M hJ) (fun z => ?_)
      refine qb (ca_ifSet (j := 4) (w := 4) hS hJ (by omega) h12.1 h12.2 (by omega)) (fun M hJ => ?_)
      refine qc (fun y => ?_) (fun _ => nx M hJ)
      refine qc (fun _ => nx M hJ) (fun x => ?_)
      have := g2 (o2 y x)
      exact absurd ((nI_leI (by omega) (by omega)).mpr (by omega)) z
theorem lw_f106 (hS : cS (cVs 1 M0) n) {B r t : Nat} {l l2 : Int64} (hB1 : 100 ≤ B) (hB2 : B ≤ 1000) (hI : bI (cVs 1 M0) n B (fun b => bDs B b < 21) r l) (hJt : bJ (cVs 1 M0) n 11 t l2) : ∀ (q b : Nat) (M : xm_M), B ≤ b + 20 → b ≤ B + 21 → B + 21 - b < q → cJ M0 M → qA (cJ M0) (fL_fits_106_it q (nI r) (nI (10 * t)) (nI B) (sp_told (sp_Eb (cVs 1 M0) n r)) (nI b) M) 1 := by
  obtain ⟨⟨i1, i2, i3⟩, i4, i5⟩ := id hI
  intro q
  induction q with
  | zero => intro b _ _ _ h; omega
  | succ q ih =>
    intro b M hb1 hb2 hq hJ
    show qA _ (fL_fits_106 (fL_fits_106_it q) (nI r) (nI (10 * t)) (nI B) (sp_told (sp_Eb (cVs 1 M0) n r)) (nI b) M) 1
    unfold fL_fits_106
    have c20 : nI B + (20 : Int32) = nI (B + 20) := by rw [show (20 : Int32) = nI 20 from rfl, pi_add]
    have e1 : (nI B + (20 : Int32) < nI b) = (B + 20 < b) := by rw [c20]; exact px_lt_nI rfl (by omega) (by omega)
    have e2 : (nI b < (100 : Int32)) = (b < 100) := px_lt_nI (n := 100) rfl (by omega) (by omega)
    have e3 : (nI b ≤ (1000 : Int32)) = (b ≤ 1000) := propext (nI_leI (b := 1000) (by omega) (by omega))
    have nx : ∀ M, cJ M0 M → b ≤ B + 20 → qA (cJ M0) (fL_fits_182 (fL_fits_106_it q) (nI r) (nI (10 * t)) (nI B) (sp_told (sp_Eb (cVs 1 M0) n r)) (nI b) M) 1 := fun M hJ hle => by
      unfold fL_fits_182
      refine ql ?_
      rw [show nI b + Int32.ofInt 1 = nI (b + 1) from (nI_succ b).symm]
      exact ih (b + 1) M (by omega) (by omega) (by omega) hJ
    simp only [e1, e2, e3]
    by_cases h1 : B + 20 < b
    · rw [if_pos h1]
      have h12 := sp_t10 (t := t) hJt.1
      refine qb (ca_ifSet (j := 4) (w := 4) hS hJ (by omega) h12.1 h12.2 (by omega)) (fun M hJ => ?_)
      exact ql (lw_f200 hS hJt xm_N 0 M (by omega) (by show 11 - 0 < 4096; omega) hJ)
    · rw [if_neg h1]
      by_cases h2 : b < 100
      · rw [if_pos h2]; exact nx M hJ (by omega)
      · rw [if_neg h2]
        by_cases h3 : b ≤ 1000
        · rw [if_pos h3]
          have h12 := (sp_tk2 (c := b) (by omega)).2 ⟨by omega, h3⟩
          have hd : bDs B b < 21 := by unfold bDs; omega
          obtain ⟨g1, g2⟩ := i5 b (by omega) h3 hd
          rw [i4] at g1 g2
          obtain ⟨o1, o2⟩ := sp_told_le (sp_Eb_in hS ⟨i1, i2⟩) (sp_Eb_in hS ⟨by omega, h3⟩) g1
          refine qb (ca_ifSet (j := 2) (w := 4) hS hJ (by omega) h12.1 h12.2 (by omega)) (fun M hJ => ?_)
          refine qf o1 ?_
          refine qc (fun y => ?_) (fun _ => nx M hJ (by omega))
          refine qc (fun _ => nx M hJ (by omega)) (fun x => ?_)
          have hds := g2 (o2 y x)
          have ds : ∀ c, c < 2000 → (sp_ab32 (nI c - nI B)).toInt = (bDs B c : Int) := fun c hc => by
            have ec : (nI c - nI B).toInt = (c : Int) - B := by rw [pn_sub (by rw [nI_toInt (by omega), nI_toInt (by omega)]; omega) (by rw [nI_toInt (by omega), nI_toInt (by omega)]; omega), nI_toInt (by omega), nI_toInt (by omega)]
            rw [sp_ab32_int (by rw [ec]; omega), ec]
            rfl
          refine qp (lw_size _ _) ?_
          refine qp (lw_size _ _) ?_
          refine qt ?_ (nx M hJ (by omega))
          rw [Int32.le_iff_toInt_le, ds b (by omega), ds r (by omega)]
          omega
        · rw [if_neg h3]; exact nx M hJ (by omega)
end FW
theorem lw_fits {n : Nat} {M0 : xm_M} (h : lwS n M0) : qA (lwS n) (fL_fits M0) 1 := by
  refine qw (I := cJ M0) ?_ (fun M hM => by unfold lwS; rw [cJ_view hM]; exact h)
  have hS := h.1
  have q2 := hS.1.2.2.1
  obtain ⟨B, hB, hB0, hB1, _⟩ := pn_ofI (x := cVs 1 M0 0 2) (n := 1000) (by omega) (by omega)
  have hb := fun (M : xm_M) (hJ : cJ M0 M) => ca_bestBase hS hJ hB0 (by omega) hB
  have ht := fun (M : xm_M) (hJ : cJ M0 M) => ca_bestTrust hS hJ
  unfold fL_fits
  by_cases hk : sp_nK (cVs 1 M0) 4 n = 0
  · simp only [if_pos hk] at hb ht
    refine qb (hb M0 (cJ_refl M0)) (fun M hJ => ?_)
    refine qb (ht M hJ) (fun M hJ => ?_)
    refine qb (ca_c14 hJ) (fun M hJ => ?_)
    refine qb (ca_c5 hS hJ) (fun M hJ => ?_)
    exact qt hk (qt rfl (qt rfl (qr hJ)))
  · simp only [if_neg hk] at hb ht
    obtain ⟨r, l, b1, hI⟩ := hb M0 (cJ_refl M0)
    refine qb b1 (fun M hJ => ?_)
    obtain ⟨t, l2, t1, hJt⟩ := ht M hJ
    refine qb t1 (fun M hJ => ?_)
    refine qb (ca_c14 hJ) (fun M hJ => ?_)
    refine qb (ca_c5 hS hJ) (fun M hJ => ?_)
    rw [hB0]
    obtain ⟨⟨i1, i2, i3⟩, _, _⟩ := id hI
    have i3 : bDs B r < 21 := i3
    unfold bDs at i3
    have j1 := hJt.1
    have c20 : nI B + (20 : Int32) = nI (B + 20) := by rw [show (20 : Int32) = nI 20 from rfl, pi_add]
    have m20 : nI B - (20 : Int32) = nI (B - 20) := by rw [show (20 : Int32) = nI 20 from rfl]; exact pi_subN (by omega)
    have h10 : nI (10 * t) - nI (10 * t) / 10 * 10 = 0 := by
      rw [pn_irem]
      apply Int32.toInt_inj.mp
      rw [Int32.toInt_mod, nI_toInt (by omega), show (10 : Int32).toInt = 10 from rfl, show (0 : Int32).toInt = 0 from rfl, Int.tmod_eq_emod_of_nonneg (by omega)]
      omega
    rw [c20, m20]
    refine qf hk ?_
    refine qf (by rw [px_lt_nI rfl (by omega) (by omega)]; omega) ?_
    refine qf (by rw [px_lt_nI rfl (by omega) (by omega)]; omega) ?_
    refine qf (by rw [show (100 : Int32) = nI 100 from rfl, px_lt_nI rfl (by omega) (by omega)]; omega) ?_
    refine qf (by rw [show (1000 : Int32) = nI 1000 from rfl, px_lt_nI rfl (by omega) (by omega)]; omega) ?_
    refine qf (by rw [show (0 : Int32) = nI 0 from rfl, px_lt_nI rfl (by omega) (by omega)]; omega) ?_
    refine qf (by rw [show (100 : Int32) = nI 100 from rfl, px_lt_nI rfl (by omega) (by omega)]; omega) ?_
    refine qt h10 ?_
    have h12 := (sp_tk2 (c := r) (by omega)).2 ⟨i1, i2⟩
    refine qb (ca_ifSet (j := 2) (w := 4) hS hJ (by omega) h12.1 h12.2 (by omega)) (fun M hJ => ?_)
    exact ql (lw_f106 hS (by omega) hB hI hJt xm_N (B - 20) M (by omega) (by omega) (by show B + 21 - (B - 20) < 4096; omega) hJ)
