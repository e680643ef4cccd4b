/-! pose: the model -/
theorem px_ltg (a b : Int32) : (a < b) = ¬ b.toInt ≤ a.toInt := propext (by rw [Int32.lt_iff_toInt_lt]; omega)
theorem pi_m1b (m : Nat) : nI m + Int32.ofInt (-1) = nI m - 1 := by
  rw [Int32.sub_eq_add_neg]; rfl
theorem pm_fsf {n : Nat} {K : Nat → Int32} {M : xm_M} {b1 b2 : Int32} (hn : n ≤ 120) (h11 : M.1 1 11 = nI n) (hK : ∀ j, j < n → M.1 5 j = K j) : ∀ (q m e : Nat), e + m = n → m < q → fX4_spread_2_it q b1 b2 (nI e) M = fX4_spread_29 b1 b2 (nI (sp_fs K m e)) M := by
  intro q
  induction q with
  | zero => intro m e _ h; omega
  | succ q ih =>
    intro m e he hq
    show fX4_spread_2 (fX4_spread_2_it q) b1 b2 (nI e) M = _
    unfold fX4_spread_2
    rw [h11]
    cases m with
    | zero => rw [if_pos (by rw [nI_leI (by omega) (by omega)]; omega)]; rfl
    | succ m =>
      rw [if_neg (by rw [nI_leI (by omega) (by omega)]; omega), px_ifE (by omega), nI_clamp (by omega), hK e (by omega)]
      unfold sp_fs
      by_cases h : K e = 4
      · rw [if_pos h, if_pos h]
      · rw [if_neg h, if_neg h, pb_lt, show nI e + Int32.ofInt 1 = nI (e + 1) from (nI_succ e).symm]
        exact ih m (e + 1) (by omega) (by omega)
theorem pm_lsa {n : Nat} {K : Nat → Int32} {M : xm_M} {b1 b2 b3 : Int32} (hn : n ≤ 120) (hK : ∀ j, j < n → M.1 5 j = K j) : ∀ (q m : Nat), m ≤ n → m < q → fX4_spread_34_it q b1 b2 b3 (nI m - 1) M = fX4_spread_56 b1 b2 b3 (nI (sp_ls K m) - 1) M := by
  intro q
  induction q with
  | zero => intro m _ h; omega
  | succ q ih =>
    intro m hm hq
    show fX4_spread_34 (fX4_spread_34_it q) b1 b2 b3 (nI m - 1) M = _
    unfold fX4_spread_34
    cases m with
    | zero => rw [if_pos (by decide)]; rfl
    | succ m =>
      rw [pi_pred, if_neg (fun z => px_kn (n := 120) (show m < 120 by omega) (by omega) (Or.inl z)), px_ifE (by omega), nI_clamp (by omega), hK m (by omega)]
      unfold sp_ls
      by_cases h : K m = 4
      · rw [if_pos h, if_pos h, pi_pred]
      · rw [if_neg h, if_neg h, pb_lt, pi_m1b]
        exact ih m (by omega) (by omega)
theorem pn_64inj {x y : Int32} (h : x.toInt64 = y.toInt64) : x = y := by
  apply Int32.toInt_inj.mp
  have := congrArg Int64.toInt h
  rw [pn_i64, pn_i64] at this
  exact this
theorem pn_64z {x y : Int64} (h : x - y = 0) : x = y := by
  have := Int64.sub_eq_iff_eq_add.mp h
  rw [this, Int64.zero_add]
theorem pm_112 {V : sV} {n e f l : Nat} {er b5 : Int32} {M : xm_M} (hn : n ≤ 120) (he : e < n) (hf : f < n) (hl : l ≤ n) (h9 : ∀ j, j < n → M.1 9 j = sp_ax (sp_P V (j + 1)) 3) :
    fX4_spread_112 (nI e) (nI f) (nI l - 1) b5 er.toInt64 M = some (if sp_ax (sp_P V (f + 1)) 3 = sp_ax (sp_P V l) 3 then (if f = e then b5 + er else b5) else ((if f = e then b5 + er else b5).toInt64 - er.toInt64 * ((sp_ax (sp_P V (e + 1)) 3).toInt64 - (sp_ax (sp_P V l) 3).toInt64) / ((sp_ax (sp_P V (f + 1)) 3).toInt64 - (sp_ax (sp_P V l) 3).toInt64)).toInt32, M) := by
  have key : ∀ w : Int32, fX4_spread_131 (nI e) (nI f) b5 er.toInt64 w.toInt64 M = some (if sp_ax (sp_P V (f + 1)) 3 = w then (if f = e then b5 + er else b5) else ((if f = e then b5 + er else b5).toInt64 - er.toInt64 * ((sp_ax (sp_P V (e + 1)) 3).toInt64 - w.toInt64) / ((sp_ax (sp_P V (f + 1)) 3).toInt64 - w.toInt64)).toInt32, M) := by
    intro w
    have k147 : ∀ s0 : Int32, fX4_spread_147 (nI e) (nI f) er.toInt64 w.toInt64 s0 b5 M = some (if sp_ax (sp_P V (f + 1)) 3 = w then b5 + s0 else ((b5 + s0).toInt64 - er.toInt64 * ((sp_ax (sp_P V (e + 1)) 3).toInt64 - w.toInt64) / ((sp_ax (sp_P V (f + 1)) 3).toInt64 - w.toInt64)).toInt32, M) := by
      intro s0
      unfold fX4_spread_147
      rw [pb_lt, px_ifE (by omega), nI_clamp (by omega), nI_clamp (by omega), h9 f hf, h9 e he]
      simp only [pl_eq]
      generalize sp_ax (sp_P V (f + 1)) 3 = wF
      by_cases z : wF = w
      · rw [if_pos (congrArg Int32.toInt64 z), if_pos z]
      · rw [if_neg (fun y => z (pn_64inj y)), if_neg z, px_ifC (by omega), px_ifC (by omega), if_neg (fun y => z (pn_64inj (pn_64z y)))]
    unfold fX4_spread_131
    have eq : (nI f = nI e) = (f = e) := px_eq_nI rfl (by omega) (by omega)
    by_cases hfe : f = e
    · rw [if_pos (by rw [eq]; exact hfe), k147, Int32.toInt32_toInt64]
      simp only [if_pos hfe]
    · rw [if_neg (by rw [eq]; exact hfe), k147, Int32.add_zero]
      simp only [if_neg hfe]
  unfold fX4_spread_112
  cases l with
  | zero =>
    rw [if_neg (by decide)]
    exact key 0
  | succ l =>
    rw [pi_pred, if_pos ((pn_nn _).mpr (by rw [nI_toInt (by omega)]; omega)), px_ifE (by omega), nI_clamp (by omega), h9 l (by omega)]
    exact key _
/-- a sight's place ahead of it -/
theorem sp_back {V : sV} {e : Nat} (hok : sp_ok V) (h : sp_F V e 0 = 4) : sp_ax (sp_P V (e + 1)) 0 + sp_F V e 9 = sp_ax (sp_P V e) 0 ∧ sp_ax (sp_P V (e + 1)) 1 + sp_F V e 10 = sp_ax (sp_P V e) 1 := by
  have hs : 0 ≤ V 9 e := by
    rcases sp_forms hok e (sp_P V e) with ⟨z, _⟩ | ⟨_, _, _, z⟩ | ⟨_, k, w, t, d, hk, z⟩ | ⟨_, k, w, t, d, c, q, hk, _, z⟩
    · exact z
    · have : sp_F V e 0 = 0 := congrFun z 0
      rw [this] at h
      exact absurd h (by decide)
    · have : sp_F V e 0 = k := congrFun z 0
      rw [this] at h
      rcases hk with y | y | y <;> rw [y] at h <;> exact absurd h (by decide)
    · have : sp_F V e 0 = k := congrFun z 0
      rw [this] at h
      rcases hk with y | y | y <;> rw [y] at h <;> exact absurd h (by decide)
  have e1 : sp_step V e (sp_P V e) = ((sp_mx V e, sp_my V e, (sp_P V e).2.2.1, (sp_P V e).2.2.2.1, (sp_P V e).2.2.2.2), sp_row 4 (V 9 e) sp_NG sp_NG sp_NG sp_NG sp_NG sp_NG sp_NG ((sp_P V e).1 - sp_mx V e) ((sp_P V e).2.1 - sp_my V e)) := by
    unfold sp_step
    rw [if_pos hs]
  have e2 : sp_P V (e + 1) = (sp_mx V e, sp_my V e, (sp_P V e).2.2.1, (sp_P V e).2.2.2.1, (sp_P V e).2.2.2.2) := by
    rw [px_P2, e1]
  have e3 : sp_F V e = sp_row 4 (V 9 e) sp_NG sp_NG sp_NG sp_NG sp_NG sp_NG sp_NG ((sp_P V e).1 - sp_mx V e) ((sp_P V e).2.1 - sp_my V e) := by
    unfold sp_F
    rw [e1]
  rw [e2, e3]
  refine ⟨?_, ?_⟩
  · show sp_mx V e + ((sp_P V e).1 - sp_mx V e) = (sp_P V e).1
    rw [Int32.add_comm, Int32.sub_add_cancel]
  · show sp_my V e + ((sp_P V e).2.1 - sp_my V e) = (sp_P V e).2.1
    rw [Int32.add_comm, Int32.sub_add_cancel]
theorem mW_pose {V : sV} {M0 M : xm_M} {n j w : Nat} (h : mW V M0 M n) (hj : j < n) (hw : w < 5) : M.1 (6 + w) j = sp_ax (sp_P V (j + 1)) w := by
  have h4 := (h.2.2 j hj).2
  rw [← h4]
  exact px_r5 (P := fun w => M.1 (6 + w) j = sp_ax (M.1 6 j, M.1 7 j, M.1 8 j, M.1 9 j, M.1 10 j) w) rfl rfl rfl rfl rfl w hw
theorem pm_spread {V : sV} {M0 M : xm_M} {n e : Nat} (hok : sp_ok V) (h : mW V M0 M n) (hn : n ≤ 120) (h11 : M.1 1 11 = nI n) (he : e < n) : fX4_spread (nI e) 1 M = some (sp_spr V n e 0, M) ∧ fX4_spread (nI e) 0 M = some (sp_spr V n e 1, M) := by
  have hK : ∀ j, j < n → M.1 5 j = sp_F V j 0 := fun j hj => (h.2.2 j hj).1.1
  have h9 : ∀ j, j < n → M.1 9 j = sp_ax (sp_P V (j + 1)) 3 := fun j hj => mW_pose (w := 3) h hj (by omega)
  have h6 : M.1 6 e = sp_ax (sp_P V (e + 1)) 0 := mW_pose (w := 0) h he (by omega)
  have h7 : M.1 7 e = sp_ax (sp_P V (e + 1)) 1 := mW_pose (w := 1) h he (by omega)
  have run : ∀ b2, fX4_spread (nI e) b2 M = fX4_spread_56 (nI e) b2 (nI (sp_fs (fun j => sp_F V j 0) (n - e) e)) (nI (sp_ls (fun j => sp_F V j 0) e) - 1) M := by
    intro b2
    unfold fX4_spread
    rw [pm_fsf hn h11 hK xm_N (n - e) e (by omega) (by show n - e < 4096; omega)]
    unfold fX4_spread_29
    rw [pb_lt, pm_lsa hn hK xm_N e (by omega) (by show e < 4096; omega)]
  rw [run, run]
  obtain ⟨f1, f2, f3⟩ := sp_fs_in (fun j => sp_F V j 0) (n - e) e
  have hl := sp_ls_in (fun j => sp_F V j 0) e
  unfold sp_spr fX4_spread_56 fX4_spread_75
  generalize sp_fs (fun j => sp_F V j 0) (n - e) e = f at f1 f2 f3 ⊢
  generalize sp_ls (fun j => sp_F V j 0) e = l at hl ⊢
  have eq : (nI f = nI n) = (f = n) := px_eq_nI rfl (by omega) (by omega)
  refine ⟨?_, ?_⟩
  · rw [if_neg (show ¬ (1 : Int32) = 0 by decide), px_ifE (show e < 120 by omega), nI_clamp (show e < 2 ^ 31 by omega), h6, h11]
    by_cases hfn : f = n
    · rw [if_pos (by rw [eq]; exact hfn), if_pos hfn]
    · have hf : f < n := by omega
      have hk4 : sp_F V f 0 = 4 := f3 (by omega)
      have her := (h.2.2 f hf).1.2.1 hk4
      rw [if_neg (by rw [eq]; exact hfn), if_neg hfn, if_neg (show ¬ (1 : Int32) = 0 by decide), px_ifE (show f < 120 by omega), nI_clamp (show f < 2 ^ 31 by omega), her.1, pm_112 hn he hf (by omega) h9]
      by_cases hfe : f = e
      · subst hfe
        have hb := (sp_back hok hk4).1
        rw [if_pos rfl, if_pos rfl, hb]
        try rfl
      · rw [if_neg hfe, if_neg hfe]
        try rfl
  · rw [if_pos (show (0 : Int32) = 0 from rfl), px_ifE (show e < 120 by omega), nI_clamp (show e < 2 ^ 31 by omega), h7, h11]
    by_cases hfn : f = n
    · rw [if_pos (by rw [eq]; exact hfn), if_pos hfn]
    · have hf : f < n := by omega
      have hk4 : sp_F V f 0 = 4 := f3 (by omega)
      have her := (h.2.2 f hf).1.2.1 hk4
      rw [if_neg (by rw [eq]; exact hfn), if_neg hfn, if_pos (show (0 : Int32) = 0 from rfl), px_ifE (show f < 120 by omega), nI_clamp (show f < 2 ^ 31 by omega), her.2, pm_112 hn he hf (by omega) h9]
      by_cases hfe : f = e
      · subst hfe
        have hb := (sp_back hok hk4).2
        rw [if_pos rfl, if_pos rfl, hb]
        try rfl
      · rw [if_neg hfe, if_neg hfe]
        try rfl
theorem px_first {n : Nat} {K : Nat → Int32} {M : xm_M} (hn : n ≤ 120) (hK : ∀ j, j < n → M.1 57 j = K j) : ∃ f, fX2_firstSightFrom (-1) (nI n) M = some (f, M) := by
  unfold fX2_firstSightFrom
  have h := px_fsf hn hK 4095 n 0 (by omega) (by omega)
  refine ⟨nI (sp_fs K n 0), ?_⟩
  show fX2_firstSightFrom_2 (fX2_firstSightFrom_2_it 4095) (nI n) (-1) M = _
  unfold fX2_firstSightFrom_2
  have hi : fX3_item_ 56 11 57 120 0 (-1) M = some (0, M) := by
    unfold fX3_item_
    rw [if_neg (by decide), if_neg (by decide), if_pos (by decide)]
  have hneg : ¬ nI n ≤ -1 := by
    rw [Int32.le_iff_toInt_le, nI_toInt (by omega)]
    show ¬ (n : Int) ≤ -1
    omega
  rw [if_neg hneg, hi, pb_i, if_neg (by decide), pb_lt, show (-1 : Int32) + Int32.ofInt 1 = nI 0 from by decide]
  exact h
theorem xs_pose (a w : Int32) (M N : xm_M) (h : xR M N) : ∃ (r : Int32) (M1 N1 : xm_M), fX3_pose a w M = some (r, M1) ∧ fX4_pose a w N = some (r, N1) ∧ xR M1 N1 := by
  obtain ⟨n, M1, N1, hn, hn1, f1, f2, hW, hm, hc, hk⟩ := xs_way h
  have e4 : M.1 1 6 = nI n := hn1
  have e9 : N.1 1 11 = nI n := by rw [← hn1]; exact h.1.2.2.1 2 (by omega)
  have m1 : (-1 : Int32).toInt = -1 := rfl
  have m6 : (6 : Int32).toInt = 6 := rfl
  unfold fX3_pose fX4_pose
  simp only [px_in, pm_in, pb_i, e4, e9, f1, f2, pb_v, px_wn (show n < 1000 by omega) (-1), px_ltn (show n < 1000 by omega), px_ltg a (-1), px_to 0 6, px_z0, m1, m6]
  by_cases h0 : -1 ≤ a.toInt
  case neg =>
    simp only [h0, false_and, if_false, not_false_eq_true, if_true]
    exact ⟨_, _, _, rfl, rfl, h⟩
  by_cases h1 : a.toInt < n
  case neg =>
    simp only [h0, h1, and_false, if_false, not_true_eq_false, if_true]
    exact ⟨_, _, _, rfl, rfl, h⟩
  simp only [h0, h1, not_true_eq_false, if_false, if_true, show ¬ (1 : Int32) = 0 by decide, and_self]
  by_cases h2 : 0 ≤ w.toInt ∧ w.toInt ≤ 6
  case neg =>
    simp only [if_neg h2, if_true]
    exact ⟨_, _, _, rfl, rfl, h⟩
  simp only [if_pos h2, show ¬ (1 : Int32) = 0 by decide, if_false]
  obtain ⟨q, hq, rfl, _, _⟩ := pn_ofI (n := 6) h2.1 (by omega)
  have eM : M1.1 1 6 = nI n := by rw [hc 1 6 (by omega)]; exact e4
  have eN : N1.1 1 11 = nI n := by rw [hk 1 11 (by omega)]; exact e9
  have hK : ∀ j, j < n → M1.1 57 j = sp_F (cVs 1 M) j 0 := fun j hj => by
    have := hW.2.1 0 j (by omega) (by omega)
    rw [if_pos hj] at this
    exact this
  have a3 : N.1 1 12 = cVs 1 M 1 3 := h.1.2.2.1 3 (by omega)
  have a4 : N.1 1 13 = cVs 1 M 1 4 := h.1.2.2.1 4 (by omega)
  have a5 : N.1 1 14 = cVs 1 M 1 5 := h.1.2.2.1 5 (by omega)
  rw [eM]
  by_cases ha : a = -1
  · subst ha
    obtain ⟨f, hf⟩ := px_first hn hK
    have hb : ∀ w, w < 5 → fX2_behind (-1) (nI w) M1 = some (sp_ax (sp_P (cVs 1 M) 0) w, M1) := fun w hw => px_behind (c := 0) hW (Nat.zero_le _) hn hw
    simp only [if_true]
    unfold fX2_spreadPlace fX2_spreadPlace_18 fX4_startOf fX4_startOf_44 fX4_startOf_56
    rw [hf, pb_i, if_pos (show (-1 : Int32) < 0 by decide)]
    match q, hq with
    | 0, _ => rw [if_neg (by decide), hb 0 (by omega), pb_i, if_pos (by decide), pb_i, a3]; exact ⟨_, _, _, rfl, rfl, xR_keep h hc (mK_refl N)⟩
    | 1, _ => rw [if_neg (by decide), hb 1 (by omega), pb_i, if_neg (by decide), if_pos (by decide), pb_i, a4]; exact ⟨_, _, _, rfl, rfl, xR_keep h hc (mK_refl N)⟩
    | 2, _ => rw [if_neg (by decide), hb 2 (by omega), pb_i, if_neg (by decide), if_neg (by decide), if_pos (by decide), pb_i, a5]; exact ⟨_, _, _, rfl, rfl, xR_keep h hc (mK_refl N)⟩
    | 3, _ => rw [if_neg (by decide), hb 3 (by omega), pb_i, if_neg (by decide), if_neg (by decide), if_neg (by decide), if_pos (by decide), pb_i]; exact ⟨_, _, _, rfl, rfl, xR_keep h hc (mK_refl N)⟩
    | 4, _ => rw [if_neg (by decide), hb 4 (by omega), pb_i, if_neg (by decide), if_neg (by decide), if_neg (by decide), if_neg (by decide), if_pos (by decide), pb_i]; exact ⟨_, _, _, rfl, rfl, xR_keep h hc (mK_refl N)⟩
    | 5, _ => rw [if_pos (by decide), show nI 5 - (5 : Int32) = nI 0 from by decide, hb 0 (by omega), pb_i, pb_i, if_neg (by decide), if_neg (by decide), if_neg (by decide), if_neg (by decide), if_neg (by decide), if_pos (by decide), pb_i, a3]; exact ⟨_, _, _, rfl, rfl, xR_keep h hc (mK_refl N)⟩
    | 6, _ => rw [if_pos (by decide), show nI 6 - (5 : Int32) = nI 1 from by decide, hb 1 (by omega), pb_i, pb_i, if_neg (by decide), if_neg (by decide), if_neg (by decide), if_neg (by decide), if_neg (by decide), if_neg (by decide), if_pos (by decide), pb_i, a4]; exact ⟨_, _, _, rfl, rfl, xR_keep h hc (mK_refl N)⟩
  · have ha0 : 0 ≤ a.toInt := by
      have : ¬ a.toInt = -1 := fun z => ha (Int32.toInt_inj.mp z)
      omega
    obtain ⟨e, he, rfl, he2, _⟩ := pn_ofI (n := 119) ha0 (by omega)
    have hen : e < n := by omega
    have hs := pm_spread h.1.1 hm hn eN hen
    have hb : ∀ w, w < 5 → fX2_behind (nI e) (nI w) M1 = some (sp_ax (sp_P (cVs 1 M) (e + 1)) w, M1) := fun w hw => by
      rw [← pi_pred e]; exact px_behind hW (by omega) hn hw
    have hp : ∀ w, w < 5 → N1.1 (6 + w) e = sp_ax (sp_P (cVs 1 M) (e + 1)) w := fun w hw => mW_pose hm hen hw
    simp only [if_neg ha, px_ifE (show e < 120 by omega), px_ifC (show e < 120 by omega), nI_clamp (show e < 2 ^ 31 by omega)]
    unfold fX4_pose_131
    rw [hs.1, hs.2, pb_i, pb_i]
    match q, hq with
    | 0, _ => rw [if_neg (by decide), hb 0 (by omega), if_pos (by decide), pb_i, show N1.1 6 e = _ from hp 0 (by omega)]; exact ⟨_, _, _, rfl, rfl, xR_keep h hc hk⟩
    | 1, _ => rw [if_neg (by decide), hb 1 (by omega), if_neg (by decide), if_pos (by decide), pb_i, show N1.1 7 e = _ from hp 1 (by omega)]; exact ⟨_, _, _, rfl, rfl, xR_keep h hc hk⟩
    | 2, _ => rw [if_neg (by decide), hb 2 (by omega), if_neg (by decide), if_neg (by decide), if_pos (by decide), pb_i, show N1.1 8 e = _ from hp 2 (by omega)]; exact ⟨_, _, _, rfl, rfl, xR_keep h hc hk⟩
    | 3, _ => rw [if_neg (by decide), hb 3 (by omega), if_neg (by decide), if_neg (by decide), if_neg (by decide), if_pos (by decide), pb_i, show N1.1 9 e = _ from hp 3 (by omega)]; exact ⟨_, _, _, rfl, rfl, xR_keep h hc hk⟩
    | 4, _ => rw [if_neg (by decide), hb 4 (by omega), if_neg (by decide), if_neg (by decide), if_neg (by decide), if_neg (by decide), if_pos (by decide), pb_i, show N1.1 10 e = _ from hp 4 (by omega)]; exact ⟨_, _, _, rfl, rfl, xR_keep h hc hk⟩
    | 5, _ =>
      rw [if_pos (by decide), show nI 5 - (5 : Int32) = nI 0 from by decide, px_spread h.1.1 hW hn hn1 hen (by omega), if_neg (by decide), if_neg (by decide), if_neg (by decide), if_neg (by decide), if_neg (by decide), if_pos (by decide), pb_i]
      exact ⟨_, _, _, rfl, rfl, xR_keep h hc hk⟩
    | 6, _ =>
      rw [if_pos (by decide), show nI 6 - (5 : Int32) = nI 1 from by decide, px_spread h.1.1 hW hn hn1 hen (by omega), if_neg (by decide), if_neg (by decide), if_neg (by decide), if_neg (by decide), if_neg (by decide), if_neg (by decide), pb_i]
      exact ⟨_, _, _, rfl, rfl, xR_keep h hc hk⟩
