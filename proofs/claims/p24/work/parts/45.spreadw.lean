/-! THE LAW: spread, walked -/
/-- the ways at the last sight ahead, at the entry, at the next sight -/
theorem sp_ways {V : sV} {n k f l : Nat} (hS : cS V n) (hlk : l ≤ k) (hkf : k ≤ f) (hf : f < n) : 0 ≤ (sp_ax (sp_P V l) 3).toInt ∧ (sp_ax (sp_P V l) 3).toInt ≤ (sp_ax (sp_P V (k + 1)) 3).toInt ∧ (sp_ax (sp_P V (k + 1)) 3).toInt ≤ (sp_ax (sp_P V (f + 1)) 3).toInt ∧ (sp_ax (sp_P V (f + 1)) 3).toInt ≤ 150000000 := by
  have hn := hS.2.2
  have hN : (V 1 2).toInt = (n : Int) := by rw [hS.2.1, nI_toInt (by omega)]
  have w1 : 0 ≤ (sp_ax (sp_P V l) 3).toInt := (sp_P_in hS.1 l (by omega)).2.1
  have w2 : (sp_ax (sp_P V (f + 1)) 3).toInt ≤ 1200000 * ((f + 1 : Nat) : Int) := (sp_P_in hS.1 (f + 1) (by omega)).2.2
  exact ⟨w1, sp_way_mono hS (by omega) (by omega), sp_way_mono hS (by omega) (by omega), by omega⟩
theorem pi_lt0 (l : Nat) (hl : l < 1000) : (nI l - 1 < 0) = (l = 0) := propext (by
  rw [Int32.lt_iff_toInt_lt, pn_pred hl, show (0 : Int32).toInt = 0 from rfl]
  omega)
theorem sp_spr_def (V : sV) (n e ax f l : Nat) (hf : sp_fs (fun j => sp_F V j 0) (n - e) e = f) (hl : sp_ls (fun j => sp_F V j 0) e = l) : sp_spr V n e ax = if f = n then sp_ax (sp_P V (e + 1)) ax else if sp_ax (sp_P V (f + 1)) 3 = sp_ax (sp_P V l) 3 then (if f = e then sp_ax (sp_P V e) ax else sp_ax (sp_P V (e + 1)) ax) else ((if f = e then sp_ax (sp_P V e) ax else sp_ax (sp_P V (e + 1)) ax).toInt64 - (sp_F V f (9 + ax)).toInt64 * ((sp_ax (sp_P V (e + 1)) 3).toInt64 - (sp_ax (sp_P V l) 3).toInt64) / ((sp_ax (sp_P V (f + 1)) 3).toInt64 - (sp_ax (sp_P V l) 3).toInt64)).toInt32 := by
  subst hf
  subst hl
  rfl
section SW
variable {M0 : xm_M} {n : Nat}
theorem lw_s306 (hS : cS (cVs 1 M0) n) {K12 : Int32 → Int32 → Int32 → xm_M → Option (Int32 × xm_M)} {k : Nat} {b2 : Int32} (hk : k < n) (hnext : ∀ M, cJ M0 M → qA (cJ M0) (K12 (nI n) b2 (nI k - 1) M) 1) {M : xm_M} (hJ : cJ M0 M) {X Y w : Int32} (hx : sp_ax (sp_P (cVs 1 M0) (k + 1)) 3 = w → X = sp_ax (sp_P (cVs 1 M0) (k + 1)) 0) (hy : sp_ax (sp_P (cVs 1 M0) (k + 1)) 3 = w → Y = sp_ax (sp_P (cVs 1 M0) (k + 1)) 1) : qA (cJ M0) (fL_spread_306 K12 (nI n) b2 (nI k) X Y w M) 1 := by
  have hn := hS.2.2
  have nx : ∀ M, cJ M0 M → qA (cJ M0) (fL_spread_341 K12 (nI n) b2 (nI k) M) 1 := fun M hJ => by
    unfold fL_spread_341
    rw [pi_m1b]
    exact ql (hnext M hJ)
  unfold fL_spread_306
  refine qb (ca_poseE (w := 3) hS hJ hk (by omega)) (fun M hJ => ?_)
  refine qc (fun z => ?_) (fun _ => nx M hJ)
  refine qb (ca_poseE (w := 0) hS hJ hk (by omega)) (fun M hJ => ?_)
  refine qt (hx z) ?_
  refine qb (ca_poseE (w := 1) hS hJ hk (by omega)) (fun M hJ => ?_)
  exact qt (hy z) (nx M hJ)
theorem lw_s226 (hS : cS (cVs 1 M0) n) {K12 : Int32 → Int32 → Int32 → xm_M → Option (Int32 × xm_M)} {k f l : Nat} (hlk : l ≤ k) (hkf : k ≤ f) (hf : f < n) (hnext : ∀ M, cJ M0 M → qA (cJ M0) (K12 (nI n) (nI f) (nI k - 1) M) 1) {M : xm_M} (hJ : cJ M0 M) {X Y : Int32}
    (hx : ¬ f = k → ¬ sp_ax (sp_P (cVs 1 M0) (f + 1)) 3 = sp_ax (sp_P (cVs 1 M0) l) 3 → X = ((sp_ax (sp_P (cVs 1 M0) (k + 1)) 0).toInt64 - (sp_F (cVs 1 M0) f 9).toInt64 * ((sp_ax (sp_P (cVs 1 M0) (k + 1)) 3).toInt64 - (sp_ax (sp_P (cVs 1 M0) l) 3).toInt64) / ((sp_ax (sp_P (cVs 1 M0) (f + 1)) 3).toInt64 - (sp_ax (sp_P (cVs 1 M0) l) 3).toInt64)).toInt32)
    (hy : ¬ f = k → ¬ sp_ax (sp_P (cVs 1 M0) (f + 1)) 3 = sp_ax (sp_P (cVs 1 M0) l) 3 → Y = ((sp_ax (sp_P (cVs 1 M0) (k + 1)) 1).toInt64 - (sp_F (cVs 1 M0) f 10).toInt64 * ((sp_ax (sp_P (cVs 1 M0) (k + 1)) 3).toInt64 - (sp_ax (sp_P (cVs 1 M0) l) 3).toInt64) / ((sp_ax (sp_P (cVs 1 M0) (f + 1)) 3).toInt64 - (sp_ax (sp_P (cVs 1 M0) l) 3).toInt64)).toInt32) :
    qA (cJ M0) (fL_spread_226 K12 (nI n) (nI f) (nI k) X Y (sp_ax (sp_P (cVs 1 M0) l) 3) (sp_ax (sp_P (cVs 1 M0) (f + 1)) 3 - sp_ax (sp_P (cVs 1 M0) l) 3) M) 1 := by
  have hn := hS.2.2
  have hk : k < n := by omega
  have nx : ∀ M, cJ M0 M → qA (cJ M0) (fL_spread_341 K12 (nI n) (nI f) (nI k) M) 1 := fun M hJ => by
    unfold fL_spread_341
    rw [pi_m1b]
    exact ql (hnext M hJ)
  obtain ⟨r1, r2, r3, r4⟩ := sp_ways hS hlk hkf hf
  have e306 := fun (M : xm_M) (hJ : cJ M0 M) (hx2 : _) (hy2 : _) => lw_s306 (X := X) (Y := Y) (w := sp_ax (sp_P (cVs 1 M0) l) 3) hS hk hnext hJ hx2 hy2
  have efk : (nI f = nI k) = (f = k) := px_eq_nI rfl (by omega) (by omega)
  unfold fL_spread_226
  refine qc (fun _ => nx M hJ) (fun z => ?_)
  refine qc (fun _ => nx M hJ) (fun y => ?_)
  rw [efk] at y
  have hne : ¬ sp_ax (sp_P (cVs 1 M0) (f + 1)) 3 = sp_ax (sp_P (cVs 1 M0) l) 3 := fun x => z (by rw [x, Int32.sub_self])
  have hlt : (sp_ax (sp_P (cVs 1 M0) l) 3).toInt < (sp_ax (sp_P (cVs 1 M0) (f + 1)) 3).toInt := by
    have : ¬ (sp_ax (sp_P (cVs 1 M0) (f + 1)) 3).toInt = (sp_ax (sp_P (cVs 1 M0) l) 3).toInt := fun x => hne (Int32.toInt_inj.mp x)
    omega
  have ox := sp_off_ok r1 r2 r3 r4 hlt (hx y hne)
  have oy := sp_off_ok r1 r2 r3 r4 hlt (hy y hne)
  have eall : (sp_ax (sp_P (cVs 1 M0) (f + 1)) 3 - sp_ax (sp_P (cVs 1 M0) l) 3).toInt64.toInt = (sp_ax (sp_P (cVs 1 M0) (f + 1)) 3).toInt - (sp_ax (sp_P (cVs 1 M0) l) 3).toInt := by rw [pn_i64, pn_sub (by omega) (by omega)]
  refine qb (ca_poseE (w := 0) hS hJ hk (by omega)) (fun M hJ => ?_)
  refine qb (ca_about (w := 9) hS hJ hf (by omega)) (fun M hJ => ?_)
  refine qb (ca_poseE (w := 3) hS hJ hk (by omega)) (fun M hJ => ?_)
  refine ql ?_
  obtain ⟨⟨o1, o2⟩, o3⟩ := ox
  have go := e306 M hJ o3 oy.2
  generalize (sp_ax (sp_P (cVs 1 M0) (k + 1)) 0 - X).toInt64 * (sp_ax (sp_P (cVs 1 M0) (f + 1)) 3 - sp_ax (sp_P (cVs 1 M0) l) 3).toInt64 - (sp_F (cVs 1 M0) f 9).toInt64 * (sp_ax (sp_P (cVs 1 M0) (k + 1)) 3 - sp_ax (sp_P (cVs 1 M0) l) 3).toInt64 = off at o1 o2 ⊢
  refine qc (fun x => qt ?_ go) (fun x => qt ?_ go)
  · have h0 := (pl_b _ _).2.2.2.1.mp x
    rw [Int64.le_iff_toInt_le, show (0 : Int64).toInt = 0 from rfl] at h0
    refine (pl_b _ _).2.2.2.2.mpr ?_
    rw [Int64.lt_iff_toInt_lt, eall, pn_neg64 (by omega)]
    omega
  · refine (pl_b _ _).2.2.2.2.mpr ?_
    rw [Int64.lt_iff_toInt_lt, eall]
    exact o2
theorem lw_s101 (hS : cS (cVs 1 M0) n) {K12 : Int32 → Int32 → Int32 → xm_M → Option (Int32 × xm_M)} {k f l : Nat} (hlk : l ≤ k) (hkf : k ≤ f) (hf : f < n) (hf4 : sp_F (cVs 1 M0) f 0 = 4) (hnext : ∀ M, cJ M0 M → qA (cJ M0) (K12 (nI n) (nI f) (nI k - 1) M) 1) {M : xm_M} (hJ : cJ M0 M) {X Y : Int32}
    (hx : X = if sp_ax (sp_P (cVs 1 M0) (f + 1)) 3 = sp_ax (sp_P (cVs 1 M0) l) 3 then (if f = k then sp_ax (sp_P (cVs 1 M0) k) 0 else sp_ax (sp_P (cVs 1 M0) (k + 1)) 0) else ((if f = k then sp_ax (sp_P (cVs 1 M0) k) 0 else sp_ax (sp_P (cVs 1 M0) (k + 1)) 0).toInt64 - (sp_F (cVs 1 M0) f 9).toInt64 * ((sp_ax (sp_P (cVs 1 M0) (k + 1)) 3).toInt64 - (sp_ax (sp_P (cVs 1 M0) l) 3).toInt64) / ((sp_ax (sp_P (cVs 1 M0) (f + 1)) 3).toInt64 - (sp_ax (sp_P (cVs 1 M0) l) 3).toInt64)).toInt32)
    (hy : Y = if sp_ax (sp_P (cVs 1 M0) (f + 1)) 3 = sp_ax (sp_P (cVs 1 M0) l) 3 then (if f = k then sp_ax (sp_P (cVs 1 M0) k) 1 else sp_ax (sp_P (cVs 1 M0) (k + 1)) 1) else ((if f = k then sp_ax (sp_P (cVs 1 M0) k) 1 else sp_ax (sp_P (cVs 1 M0) (k + 1)) 1).toInt64 - (sp_F (cVs 1 M0) f 10).toInt64 * ((sp_ax (sp_P (cVs 1 M0) (k + 1)) 3).toInt64 - (sp_ax (sp_P (cVs 1 M0) l) 3).toInt64) / ((sp_ax (sp_P (cVs 1 M0) (f + 1)) 3).toInt64 - (sp_ax (sp_P (cVs 1 M0) l) 3).toInt64)).toInt32) :
    qA (cJ M0) (fL_spread_101 K12 (nI n) (nI f) (nI k) X Y (nI l - 1) M) 1 := by
  have hn := hS.2.2
  have hk : k < n := by omega
  obtain ⟨r1, r2, r3, r4⟩ := sp_ways hS hlk hkf hf
  have efk : (nI f = nI k) = (f = k) := px_eq_nI rfl (by omega) (by omega)
  have all0 : (sp_ax (sp_P (cVs 1 M0) (f + 1)) 3 - sp_ax (sp_P (cVs 1 M0) l) 3 = 0) = (sp_ax (sp_P (cVs 1 M0) (f + 1)) 3 = sp_ax (sp_P (cVs 1 M0) l) 3) := propext ⟨fun z => by
    apply Int32.toInt_inj.mp
    have := congrArg Int32.toInt z
    rw [pn_sub (by omega) (by omega), show (0 : Int32).toInt = 0 from rfl] at this
    omega, fun z => by rw [z, Int32.sub_self]⟩
  -- behind the checks of what lies ahead
  have t226 : ∀ M, cJ M0 M → qA (cJ M0) (fL_spread_226 K12 (nI n) (nI f) (nI k) X Y (sp_ax (sp_P (cVs 1 M0) l) 3) (sp_ax (sp_P (cVs 1 M0) (f + 1)) 3 - sp_ax (sp_P (cVs 1 M0) l) 3) M) 1 := fun M hJ =>
    lw_s226 hS hlk hkf hf hnext hJ (fun z y => by rw [hx, if_neg y, if_neg z]) (fun z y => by rw [hy, if_neg y, if_neg z])
  have t191 : ∀ (M : xm_M) (a b : Int32), cJ M0 M → (sp_ax (sp_P (cVs 1 M0) (f + 1)) 3 = sp_ax (sp_P (cVs 1 M0) l) 3 → X = sp_ax (sp_P (cVs 1 M0) (k + 1)) 0 + a ∧ Y = sp_ax (sp_P (cVs 1 M0) (k + 1)) 1 + b) → qA (cJ M0) (fL_spread_191 K12 (nI n) (nI f) (nI k) X Y (sp_ax (sp_P (cVs 1 M0) l) 3) (sp_ax (sp_P (cVs 1 M0) (f + 1)) 3 - sp_ax (sp_P (cVs 1 M0) l) 3) a b M) 1 := by
    intro M a b hJ hab
    unfold fL_spread_191
    refine qc (fun z => ?_) (fun _ => t226 M hJ)
    rw [all0] at z
    refine qb (ca_poseE (w := 0) hS hJ hk (by omega)) (fun M hJ => ?_)
    refine qt (hab z).1 ?_
    refine qb (ca_poseE (w := 1) hS hJ hk (by omega)) (fun M hJ => ?_)
    exact qt (hab z).2 (t226 M hJ)
  unfold fL_spread_101
  refine qb (ca_pose (w := 3) hS hJ (by omega) (by omega)) (fun M hJ => ?_)
  refine qb (ca_poseE (w := 3) hS hJ hf (by omega)) (fun M hJ => ?_)
  refine ql ?_
  refine qc (fun z => ?_) (fun z => ?_)
  · rw [efk] at z
    subst z
    obtain ⟨k0, k1⟩ := sp_back hS.1 hf4
    refine qb (ca_about (w := 9) hS hJ hf (by omega)) (fun M hJ => ?_)
    unfold fL_spread_137
    refine qt rfl ?_
    refine qb (ca_about (w := 10) hS hJ hf (by omega)) (fun M hJ => ?_)
    unfold fL_spread_155
    have e191 := fun (M : xm_M) (hJ : cJ M0 M) => t191 M (sp_F (cVs 1 M0) f 9) (sp_F (cVs 1 M0) f 10) hJ (fun y => ⟨by rw [hx, if_pos y, if_pos rfl, k0], by rw [hy, if_pos y, if_pos rfl, k1]⟩)
    refine qt rfl ?_
    refine qc (fun _ => e191 M hJ) (fun y => ?_)
    have hlt : (sp_ax (sp_P (cVs 1 M0) l) 3).toInt < (sp_ax (sp_P (cVs 1 M0) (f + 1)) 3).toInt := by
      rw [Int32.le_iff_toInt_le, pn_sub (by omega) (by omega), show (0 : Int32).toInt = 0 from rfl] at y
      omega
    have hne : ¬ sp_ax (sp_P (cVs 1 M0) (f + 1)) 3 = sp_ax (sp_P (cVs 1 M0) l) 3 := fun x => by rw [x] at hlt; exact absurd hlt (Int.lt_irrefl _)
    rw [if_neg hne, if_pos rfl] at hx hy
    have ax := sp_off_at r1 r4 hlt hx
    have ay := sp_off_at r1 r4 hlt hy
    refine qb (ca_poseE (w := 0) hS hJ hf (by omega)) (fun M hJ => ?_)
    refine qt (by rw [ax, ← k0, Int32.add_sub_cancel]) ?_
    refine qb (ca_poseE (w := 1) hS hJ hf (by omega)) (fun M hJ => ?_)
    exact qt (by rw [ay, ← k1, Int32.add_sub_cancel]) (e191 M hJ)
  · have z' := z
    rw [efk] at z'
    unfold fL_spread_137
    refine qf z ?_
    unfold fL_spread_155
    refine qf z ?_
    exact t191 M 0 0 hJ (fun y => ⟨by rw [hx, if_pos y, if_neg z', Int32.add_zero], by rw [hy, if_pos y, if_neg z', Int32.add_zero]⟩)
/-- the last sight ahead is looked for -/
theorem lw_s79 (hS : cS (cVs 1 M0) n) {K12 : Int32 → Int32 → Int32 → xm_M → Option (Int32 × xm_M)} {X Y b2 b3 : Int32} {lk : Nat} (hlk : lk ≤ n) (hend : ∀ M, cJ M0 M → qA (cJ M0) (fL_spread_101 K12 (nI n) b2 b3 X Y (nI (sp_ls (fun j => sp_F (cVs 1 M0) j 0) lk) - 1) M) 1) : ∀ (q m : Nat) (M : xm_M), m ≤ lk → m < q → cJ M0 M → sp_ls (fun j => sp_F (cVs 1 M0) j 0) m = sp_ls (fun j => sp_F (cVs 1 M0) j 0) lk → qA (cJ M0) (fL_spread_79_it K12 q (nI n) b2 b3 X Y (nI m - 1) M) 1 := by
  have hn := hS.2.2
  intro q
  induction q with
  | zero => intro m _ _ h; omega
  | succ q ih =>
    intro m M hm hq hJ he
    show qA _ (fL_spread_79 K12 (fL_spread_79_it K12 q) (nI n) b2 b3 X Y (nI m - 1) M) 1
    unfold fL_spread_79
    have e0 := pi_lt0 m (by omega)
    simp only [e0]
    cases m with
    | zero =>
      rw [if_pos rfl]
      rw [← he] at hend
      exact hend M hJ
    | succ m =>
      rw [if_neg (by omega), pi_pred]
      refine qb (ca_about (w := 0) hS hJ (show m < n by omega) (by omega)) (fun M hJ => ?_)
      have es : sp_ls (fun j => sp_F (cVs 1 M0) j 0) (m + 1) = if sp_F (cVs 1 M0) m 0 = 4 then m + 1 else sp_ls (fun j => sp_F (cVs 1 M0) j 0) m := rfl
      refine qc (fun z => ?_) (fun z => ?_)
      · rw [es, if_pos z] at he
        rw [← he, pi_pred] at hend
        exact hend M hJ
      · rw [es, if_neg z] at he
        refine ql ?_
        rw [pi_m1b]
        exact ih m M (by omega) (by omega) hJ he
theorem lw_s12 (hS : cS (cVs 1 M0) n) : ∀ (q c : Nat) (M : xm_M), c ≤ n → c < q → cJ M0 M → qA (cJ M0) (fL_spread_12_it q (nI n) (nI (sp_fs (fun j => sp_F (cVs 1 M0) j 0) (n - c) c)) (nI c - 1) M) 1 := by
  have hn := hS.2.2
  intro q
  induction q with
  | zero => intro c _ _ h; omega
  | succ q ih =>
    intro c M hc hq hJ
    show qA _ (fL_spread_12 (fL_spread_12_it q) (nI n) (nI (sp_fs (fun j => sp_F (cVs 1 M0) j 0) (n - c) c)) (nI c - 1) M) 1
    unfold fL_spread_12
    have e0 := pi_lt0 c (by omega)
    simp only [e0]
    cases c with
    | zero =>
      rw [if_pos rfl]
      refine qb (ca_poseB (ax := 0) hS hJ (by omega)) (fun M hJ => ?_)
      refine qb (ca_poseN (w := 0) hS hJ (by omega)) (fun M hJ => ?_)
      refine qt rfl ?_
      refine qb (ca_poseB (ax := 1) hS hJ (by omega)) (fun M hJ => ?_)
      refine qb (ca_poseN (w := 1) hS hJ (by omega)) (fun M hJ => ?_)
      exact qt rfl (qr hJ)
    | succ k =>
      have hk : k < n := by omega
      have ih2 := fun (M : xm_M) (hJ : cJ M0 M) => ih k M (by omega) (by omega) hJ
      have es : sp_fs (fun j => sp_F (cVs 1 M0) j 0) (n - k) k = if sp_F (cVs 1 M0) k 0 = 4 then k else sp_fs (fun j => sp_F (cVs 1 M0) j 0) (n - (k + 1)) (k + 1) := by
        rw [show n - k = (n - (k + 1)) + 1 by omega]
        rfl
      have main : ∀ M, cJ M0 M → qA (cJ M0) (fL_spread_28 (fL_spread_12_it q) (nI n) (nI (sp_fs (fun j => sp_F (cVs 1 M0) j 0) (n - k) k)) (nI k) M) 1 := by
        intro M hJ
        obtain ⟨f1, f2, f3⟩ := sp_fs_in (fun j => sp_F (cVs 1 M0) j 0) (n - k) k
        have hl := sp_ls_in (fun j => sp_F (cVs 1 M0) j 0) k
        have hX := fun ax => sp_spr_def (cVs 1 M0) n k ax _ _ rfl rfl
        generalize sp_fs (fun j => sp_F (cVs 1 M0) j 0) (n - k) k = f at f1 f2 f3 hX ih2 ⊢
        have efn : (nI f = nI n) = (f = n) := px_eq_nI rfl (by omega) (by omega)
        unfold fL_spread_28
        refine qb (ca_poseS (ax := 0) hS hJ hk (by omega)) (fun M hJ => ?_)
        refine qb (ca_poseS (ax := 1) hS hJ hk (by omega)) (fun M hJ => ?_)
        refine qc (fun z => ?_) (fun z => ?_)
        · rw [efn] at z
          have x0 := hX 0
          have x1 := hX 1
          rw [if_pos z] at x0 x1
          refine qb (ca_poseE (w := 0) hS hJ hk (by omega)) (fun M hJ => ?_)
          refine qt x0 ?_
          refine qb (ca_poseE (w := 1) hS hJ hk (by omega)) (fun M hJ => ?_)
          refine qt x1 ?_
          unfold fL_spread_341
          rw [pi_m1b]
          exact ql (ih2 M hJ)
        · rw [efn] at z
          have hf : f < n := by omega
          have x0 := hX 0
          have x1 := hX 1
          rw [if_neg z] at x0 x1
          refine ql ?_
          refine lw_s79 hS (lk := k) (by omega) (fun M hJ => ?_) xm_N k M (Nat.le_refl _) (by show k < 4096; omega) hJ rfl
          exact lw_s101 hS hl f1 hf (f3 (by omega)) ih2 hJ x0 x1
      rw [if_neg (by omega), pi_pred]
      refine qb (ca_about (w := 0) hS hJ hk (by omega)) (fun M hJ => ?_)
      rw [es] at main
      refine qc (fun z => ?_) (fun z => ?_)
      · rw [if_pos z] at main
        exact main M hJ
      · rw [if_neg z] at main
        exact main M hJ
end SW
theorem lw_spread {n : Nat} {M0 : xm_M} (h : lwS n M0) : qA (lwS n) (fL_spread M0) 1 := by
  refine qw (I := cJ M0) ?_ (fun M hM => by unfold lwS; rw [cJ_view hM]; exact h)
  unfold fL_spread
  refine qb (ca_count0 h.1 (cJ_refl M0)) (fun M hJ => ?_)
  refine ql ?_
  have hm := lw_s12 h.1 xm_N n M (Nat.le_refl _) (by have := h.2.1; show n < 4096; omega) hJ
  rw [Nat.sub_self] at hm
  exact hm
