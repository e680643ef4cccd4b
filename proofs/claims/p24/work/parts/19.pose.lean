/-! pose -/
def sp_fs (K : Nat → Int32) : Nat → Nat → Nat
  | 0, e => e
  | m + 1, e => if K e = 4 then e else sp_fs K m (e + 1)
def sp_ls (K : Nat → Int32) : Nat → Nat
  | 0 => 0
  | m + 1 => if K m = 4 then m + 1 else sp_ls K m
theorem sp_fs_in (K : Nat → Int32) : ∀ m e, e ≤ sp_fs K m e ∧ sp_fs K m e ≤ e + m ∧ (sp_fs K m e < e + m → K (sp_fs K m e) = 4) := by
  intro m
  induction m with
  | zero => intro e; exact ⟨Nat.le_refl _, Nat.le_refl _, fun h => by unfold sp_fs at h; omega⟩
  | succ m ih =>
    intro e
    unfold sp_fs
    by_cases h : K e = 4
    · rw [if_pos h]
      exact ⟨Nat.le_refl _, by omega, fun _ => h⟩
    · rw [if_neg h]
      obtain ⟨a, b, c⟩ := ih (e + 1)
      exact ⟨by omega, by omega, fun z => c (by omega)⟩
theorem sp_ls_in (K : Nat → Int32) : ∀ m, sp_ls K m ≤ m := by
  intro m
  induction m with
  | zero => exact Nat.le_refl _
  | succ m ih =>
    unfold sp_ls
    by_cases h : K m = 4
    · rw [if_pos h]; exact Nat.le_refl _
    · rw [if_neg h]; omega
def sp_ax (p : sP) (ax : Nat) : Int32 := match ax with | 0 => p.1 | 1 => p.2.1 | 2 => p.2.2.1 | 3 => p.2.2.2.1 | _ => p.2.2.2.2
noncomputable def sp_spr (V : sV) (n e ax : Nat) : Int32 :=
  if sp_fs (fun j => sp_F V j 0) (n - e) e = n then sp_ax (sp_P V (e + 1)) ax
  else if sp_ax (sp_P V (sp_fs (fun j => sp_F V j 0) (n - e) e + 1)) 3 = sp_ax (sp_P V (sp_ls (fun j => sp_F V j 0) e)) 3 then (if sp_fs (fun j => sp_F V j 0) (n - e) e = e then sp_ax (sp_P V e) ax else sp_ax (sp_P V (e + 1)) ax)
  else ((if sp_fs (fun j => sp_F V j 0) (n - e) e = e then sp_ax (sp_P V e) ax else sp_ax (sp_P V (e + 1)) ax).toInt64 - (sp_F V (sp_fs (fun j => sp_F V j 0) (n - e) e) (9 + ax)).toInt64 * ((sp_ax (sp_P V (e + 1)) 3).toInt64 - (sp_ax (sp_P V (sp_ls (fun j => sp_F V j 0) e)) 3).toInt64) / ((sp_ax (sp_P V (sp_fs (fun j => sp_F V j 0) (n - e) e + 1)) 3).toInt64 - (sp_ax (sp_P V (sp_ls (fun j => sp_F V j 0) e)) 3).toInt64)).toInt32
theorem px_fsf {n : Nat} {K : Nat → Int32} {M : xm_M} (hn : n ≤ 120) (hK : ∀ j, j < n → M.1 57 j = K j) : ∀ (q m e : Nat), e + m = n → m < q → fX2_firstSightFrom_2_it q (nI n) (nI e) M = some (nI (sp_fs K m e), M) := by
  intro q
  induction q with
  | zero => intro m e _ h; omega
  | succ q ih =>
    intro m e he hq
    show fX2_firstSightFrom_2 (fX2_firstSightFrom_2_it q) (nI n) (nI e) M = _
    unfold fX2_firstSightFrom_2 fX2_firstSightFrom_26
    cases m with
    | zero => rw [if_pos (by rw [nI_leI (by omega) (by omega)]; omega)]; rfl
    | succ m =>
      rw [if_neg (by rw [nI_leI (by omega) (by omega)]; omega), px_fI_0 (by omega), pb_i, hK e (by omega)]
      unfold sp_fs
      by_cases h : K e = 4
      · rw [if_pos h, if_pos h]
      · rw [if_neg h, if_neg h, pb_lt, show nI e + Int32.ofInt 1 = nI (e + 1) from (nI_succ e).symm]
        exact ih m (e + 1) (by omega) (by omega)
theorem pi_m1 (m : Nat) : nI (m + 1) + Int32.ofInt (-1) = nI m := by
  rw [← pi_succ, Int32.add_assoc, show (1 : Int32) + Int32.ofInt (-1) = 0 from by decide, Int32.add_zero]
theorem px_lsa {n : Nat} {K : Nat → Int32} {M : xm_M} (hn : n ≤ 120) (hK : ∀ j, j < n → M.1 57 j = K j) : ∀ (q m : Nat), m ≤ n → m < q → fX2_lastSightAhead_4_it q (nI m - 1) M = some (nI (sp_ls K m) - 1, M) := by
  intro q
  induction q with
  | zero => intro m _ h; omega
  | succ q ih =>
    intro m hm hq
    show fX2_lastSightAhead_4 (fX2_lastSightAhead_4_it q) (nI m - 1) M = _
    unfold fX2_lastSightAhead_4 fX2_lastSightAhead_27
    cases m with
    | zero => rw [if_pos (by decide)]; rfl
    | succ m =>
      rw [pi_pred, if_neg (fun z => px_kn (n := 120) (show m < 120 by omega) (by omega) (Or.inl z)), px_fI_0 (by omega), pb_i, hK m (by omega)]
      unfold sp_ls
      by_cases h : K m = 4
      · rw [if_pos h, if_pos h, pi_pred]
      · rw [if_neg h, if_neg h, pb_lt]
        have : nI m + Int32.ofInt (-1) = nI m - 1 := by
          rw [Int32.sub_eq_add_neg]; rfl
        rw [this]
        exact ih m (by omega) (by omega)
theorem px_pos {w c : Nat} {M : xm_M} (hw : w < 5) (hc : c < 121) : fX3_item_ 50 5 51 121 (nI w) (nI c) M = some (M.1 (51 + w) c, M) := by
  rw [px_item_ (px_kn hw (by omega)) (by omega) (px_kn hc (by omega)) (by omega), nI_clamp (by omega), nI_clamp (by omega)]
/-- a place of the way, as a row of poses has it -/
theorem cW_pose {V : sV} {M0 M : xm_M} {n c w : Nat} (h : cW V M0 M n) (hc : c ≤ n) (hw : w < 5) : M.1 (51 + w) c = sp_ax (sp_P V c) w := by
  have h4 := h.2.2.2.1 c hc
  rw [← h4]
  exact px_r5 (P := fun w => M.1 (51 + w) c = sp_ax (M.1 51 c, M.1 52 c, M.1 53 c, M.1 54 c, M.1 55 c) w) rfl rfl rfl rfl rfl w hw
theorem px_behind {V : sV} {M0 M : xm_M} {n c w : Nat} (h : cW V M0 M n) (hc : c ≤ n) (hn : n ≤ 120) (hw : w < 5) : fX2_behind (nI c - 1) (nI w) M = some (sp_ax (sp_P V c) w, M) := by
  unfold fX2_behind
  have e : nI c - 1 + 1 = nI c := Int32.sub_add_cancel _ _
  rw [e, px_pos hw (by omega), pb_i, cW_pose h hc hw]
theorem px_spread {V : sV} {M0 M : xm_M} {n e ax : Nat} (hok : sp_ok V) (h : cW V M0 M n) (hn : n ≤ 120) (hn2 : V 1 2 = nI n) (he : e < n) (hax : ax < 2) : fX2_spreadPlace (nI e) (nI ax) (nI n) M = some (sp_spr V n e ax, M) := by
  unfold fX2_spreadPlace fX2_firstSightFrom fX2_spreadPlace_18 fX2_spreadPlace_48 fX2_lastSightAhead
  have hK : ∀ j, j < n → M.1 57 j = sp_F V j 0 := fun j hj => by
    have := h.2.1 0 j (by omega) (by omega)
    rw [if_pos hj] at this
    exact this
  obtain ⟨f1, f2, f3⟩ := sp_fs_in (fun j => sp_F V j 0) (n - e) e
  have hl := sp_ls_in (fun j => sp_F V j 0) e
  rw [px_fsf hn hK xm_N (n - e) e (by omega) (by show n - e < 4096; omega), pb_i]
  unfold sp_spr
  generalize sp_fs (fun j => sp_F V j 0) (n - e) e = f at f1 f2 f3 ⊢
  have eb : ∀ w, w < 5 → fX2_behind (nI e) (nI w) M = some (sp_ax (sp_P V (e + 1)) w, M) := fun w hw => by
    rw [← pi_pred e]; exact px_behind h (by omega) hn hw
  rw [if_neg (fun z => px_kn (n := 120) (show e < 120 by omega) (by omega) (Or.inl z))]
  have lt : (nI f < nI n) = (f < n) := px_lt_nI rfl (by omega) (by omega)
  have eq : (nI f = nI e) = (f = e) := px_eq_nI rfl (by omega) (by omega)
  by_cases hfn : f = n
  · rw [if_neg (by rw [lt]; omega), if_pos hfn, eb ax (by omega), pb_i]
  · rw [if_pos (by rw [lt]; omega), if_neg hfn]
    have hf : f < n := by omega
    have elsa := px_lsa hn hK xm_N e (by omega) (by show e < 4096; omega)
    generalize sp_ls (fun j => sp_F V j 0) e = l at hl elsa ⊢
    have tail : ∀ s0 : Int32, (xm_bi (xm_lt (nI e - 1) (fun x1 => fX2_lastSightAhead_4_it xm_N x1 M)) (fun x8 M7 => xm_bi (fX2_behind x8 (3 : Int32) M7) (fun x10 M9 => xm_bi (fX2_behind (nI f) (3 : Int32) M9) (fun x12 M11 => xm_lt (x12 - x10) (fun x13 => if x13 = 0 then some (s0, M11) else xm_bi (fX3_item_ 56 11 57 120 ((9 : Int32) + nI ax) (nI f) M11) (fun x15 M14 => xm_lt (x15.toInt64) (fun x16 => xm_bi (fX2_behind (nI e) (3 : Int32) M14) (fun x18 M17 => xm_bl (fX3_ratio (x16 * ((x18 - x10).toInt64)) x13.toInt64 M17) (fun x20 M19 => some ((s0.toInt64 - x20).toInt32, M19)))))))))) = some (if sp_ax (sp_P V (f + 1)) 3 = sp_ax (sp_P V l) 3 then s0 else (s0.toInt64 - (sp_F V f (9 + ax)).toInt64 * ((sp_ax (sp_P V (e + 1)) 3).toInt64 - (sp_ax (sp_P V l) 3).toInt64) / ((sp_ax (sp_P V (f + 1)) 3).toInt64 - (sp_ax (sp_P V l) 3).toInt64)).toInt32, M) := by
      intro s0
      have hfb : fX2_behind (nI f) 3 M = some (sp_ax (sp_P V (f + 1)) 3, M) := by
        rw [← pi_pred f]; exact px_behind (w := 3) h (by omega) hn (by omega)
      have hlb : fX2_behind (nI l - 1) 3 M = some (sp_ax (sp_P V l) 3, M) := px_behind (w := 3) h (by omega) hn (by omega)
      rw [pb_lt, elsa, pb_i, hlb, pb_i, hfb, pb_i, pb_lt]
      have wf := (sp_P_in hok (f + 1) (by rw [hn2, nI_toInt (by omega)]; omega)).2
      have wl := (sp_P_in hok l (by rw [hn2, nI_toInt (by omega)]; omega)).2
      have we := (sp_P_in hok (e + 1) (by rw [hn2, nI_toInt (by omega)]; omega)).2
      have wf1 : 0 ≤ (sp_ax (sp_P V (f + 1)) 3).toInt ∧ (sp_ax (sp_P V (f + 1)) 3).toInt ≤ 1200000 * (f + 1 : Nat) := wf
      have wl1 : 0 ≤ (sp_ax (sp_P V l) 3).toInt ∧ (sp_ax (sp_P V l) 3).toInt ≤ 1200000 * l := wl
      have we1 : 0 ≤ (sp_ax (sp_P V (e + 1)) 3).toInt ∧ (sp_ax (sp_P V (e + 1)) 3).toInt ≤ 1200000 * (e + 1 : Nat) := we
      have heb := eb 3 (by omega)
      rw [px_n3] at heb
      generalize sp_ax (sp_P V (f + 1)) 3 = wF at wf1 ⊢
      generalize sp_ax (sp_P V l) 3 = wL at wl1 ⊢
      generalize sp_ax (sp_P V (e + 1)) 3 = wE at we1 heb ⊢
      have d1 : (wF - wL).toInt = wF.toInt - wL.toInt := pn_sub (by omega) (by omega)
      have d2 : (wE - wL).toInt = wE.toInt - wL.toInt := pn_sub (by omega) (by omega)
      have d3 : (wF - wL).toInt64 = wF.toInt64 - wL.toInt64 := Int64.toInt_inj.mp (by
        rw [pn_sub64 (by rw [pn_i64, pn_i64]; omega) (by rw [pn_i64, pn_i64]; omega), pn_i64, pn_i64, pn_i64, d1])
      have d4 : (wE - wL).toInt64 = wE.toInt64 - wL.toInt64 := Int64.toInt_inj.mp (by
        rw [pn_sub64 (by rw [pn_i64, pn_i64]; omega) (by rw [pn_i64, pn_i64]; omega), pn_i64, pn_i64, pn_i64, d2])
      by_cases hz : wF = wL
      · rw [if_pos hz, hz, if_pos (Int32.sub_self wL)]
      · rw [if_neg hz, if_neg (fun z => hz (by
          apply Int32.toInt_inj.mp
          have := congrArg Int32.toInt z
          rw [d1, px_z0] at this
          omega))]
        have hfa : fX3_item_ 56 11 57 120 (9 + nI ax) (nI f) M = some (sp_F V f (9 + ax), M) := by
          rw [show (9 : Int32) = nI 9 from rfl, pi_add, px_facts (by omega) (by omega), h.2.1 (9 + ax) f (by omega) (by omega), if_pos hf]
        rw [hfa, pb_i, pb_lt, heb, pb_i, px_ratio (fun z => hz (by
          apply Int32.toInt_inj.mp
          have := congrArg Int64.toInt z
          rw [pn_i64, d1, show (0 : Int64).toInt = 0 from rfl] at this
          omega)), pb_l, d3, d4]
    by_cases hfe : f = e
    · have hbb : fX2_behind (nI e - 1) (nI ax) M = some (sp_ax (sp_P V e) ax, M) := px_behind h (by omega) hn (by omega)
      rw [if_pos (by rw [eq]; exact hfe), hbb, pb_i, if_pos hfe]
      exact tail _
    · rw [if_neg (by rw [eq]; exact hfe), eb ax (by omega), pb_i, if_neg hfe]
      exact tail _
/-! pose: the model -/
theorem px_ltg (a b : Int32) : (a < b) = ¬ b.toInt ≤ a.toInt := propext (by rw [Int32.lt_iff_toInt_lt]; omega)
theorem pi_m1b (m : Nat) : nI m + Int32.ofInt (-1) = nI m - 1 := by
  rw [Int32.sub_eq_add_neg]; rfl
theorem pn_64inj {x y : Int32} (h : x.toInt64 = y.toInt64) : x = y := by
  apply Int32.toInt_inj.mp
  have := congrArg Int64.toInt h
  rw [pn_i64, pn_i64] at this
  exact this
theorem pn_64z {x y : Int64} (h : x - y = 0) : x = y := by
  have := Int64.sub_eq_iff_eq_add.mp h
  rw [this, Int64.zero_add]
/-- a sight's place ahead of it -/
theorem sp_back {V : sV} {e : Nat} (hok : sp_ok V) (h : sp_F V e 0 = 4) : sp_ax (sp_P V (e + 1)) 0 + sp_F V e 9 = sp_ax (sp_P V e) 0 ∧ sp_ax (sp_P V (e + 1)) 1 + sp_F V e 10 = sp_ax (sp_P V e) 1 := by
  have hs : 0 ≤ V 9 e := by
    rcases sp_forms hok e (sp_P V e) with ⟨z, _⟩ | ⟨_, _, _, z⟩ | ⟨_, k, w, t, d, hk, z⟩ | ⟨_, k, w, t, d, c, q, hk, _, z⟩
    · exact z
    · have : sp_F V e 0 = 0 := congrFun z 0
      rw [this] at h
      exact absurd h (by decide)
    · have : sp_F V e 0 = k := congrFun z 0
      rw [this] at h
      rcases hk with y | y | y <;> rw [y] at h <;> exact absurd h (by decide)
    · have : sp_F V e 0 = k := congrFun z 0
      rw [this] at h
      rcases hk with y | y | y <;> rw [y] at h <;> exact absurd h (by decide)
  have e1 : sp_step V e (sp_P V e) = ((sp_mx V e, sp_my V e, (sp_P V e).2.2.1, (sp_P V e).2.2.2.1, (sp_P V e).2.2.2.2), sp_row 4 (V 9 e) sp_NG sp_NG sp_NG sp_NG sp_NG sp_NG sp_NG ((sp_P V e).1 - sp_mx V e) ((sp_P V e).2.1 - sp_my V e)) := by
    unfold sp_step
    rw [if_pos hs]
  have e2 : sp_P V (e + 1) = (sp_mx V e, sp_my V e, (sp_P V e).2.2.1, (sp_P V e).2.2.2.1, (sp_P V e).2.2.2.2) := by
    rw [px_P2, e1]
  have e3 : sp_F V e = sp_row 4 (V 9 e) sp_NG sp_NG sp_NG sp_NG sp_NG sp_NG sp_NG ((sp_P V e).1 - sp_mx V e) ((sp_P V e).2.1 - sp_my V e) := by
    unfold sp_F
    rw [e1]
  rw [e2, e3]
  refine ⟨?_, ?_⟩
  · show sp_mx V e + ((sp_P V e).1 - sp_mx V e) = (sp_P V e).1
    rw [Int32.add_comm, Int32.sub_add_cancel]
  · show sp_my V e + ((sp_P V e).2.1 - sp_my V e) = (sp_P V e).2.1
    rw [Int32.add_comm, Int32.sub_add_cancel]
theorem px_first {n : Nat} {K : Nat → Int32} {M : xm_M} (hn : n ≤ 120) (hK : ∀ j, j < n → M.1 57 j = K j) : ∃ f, fX2_firstSightFrom (-1) (nI n) M = some (f, M) := by
  unfold fX2_firstSightFrom
  have h := px_fsf hn hK 4095 n 0 (by omega) (by omega)
  refine ⟨nI (sp_fs K n 0), ?_⟩
  show fX2_firstSightFrom_2 (fX2_firstSightFrom_2_it 4095) (nI n) (-1) M = _
  unfold fX2_firstSightFrom_2
  have hi : fX3_item_ 56 11 57 120 0 (-1) M = some (0, M) := by
    unfold fX3_item_
    rw [if_neg (by decide), if_neg (by decide), if_pos (by decide)]
  have hneg : ¬ nI n ≤ -1 := by
    rw [Int32.le_iff_toInt_le, nI_toInt (by omega)]
    show ¬ (n : Int) ≤ -1
    omega
  rw [if_neg hneg, hi, pb_i, if_neg (by decide), pb_lt, show (-1 : Int32) + Int32.ofInt 1 = nI 0 from by decide]
  exact h
/-- what is told of a sum -/
def sp_told (x : Int64) : Int32 := if x ≤ 2000000000 then x.toInt32 else 2000000000
theorem px_toldE (M : xm_M) : fX2_toldErrors M = some (sp_told (M.2 49 9), M) := by
  unfold fX2_toldErrors sp_told
  by_cases h : M.2 49 9 ≤ 2000000000
  · rw [if_neg (Int64.not_lt.mpr h), if_pos h]
  · rw [if_pos (Int64.not_le.mp h), if_neg h]
    rfl
theorem px_cnt0 {M M1 : xm_M} (f1 : fX2_follow 2 M = some M1) : fX3_count 0 M = some (M1.1 1 6, M1) := by
  unfold fX3_count fX3_count_172
  simp only [px_in, pb_i, f1, pb_v]
  rw [if_neg (by decide), if_pos (by decide), if_pos (by decide)]
theorem px_cnt1 {M M1 : xm_M} (f1 : fX2_follow 2 M = some M1) : fX3_count 1 M = some (M1.1 68 0, M1) := by
  unfold fX3_count fX3_count_172
  simp only [px_in, pb_i, f1, pb_v]
  rw [if_neg (by decide), if_pos (by decide), if_neg (by decide), if_pos (by decide), show (1 : Int32) - 1 = 0 from by decide, px_kI_0, pb_i]
theorem px_cnt2 {M M1 : xm_M} (f1 : fX2_follow 2 M = some M1) : fX3_count 2 M = some (M1.1 68 1, M1) := by
  unfold fX3_count fX3_count_172
  simp only [px_in, pb_i, f1, pb_v]
  rw [if_neg (by decide), if_pos (by decide), if_neg (by decide), if_neg (by decide), if_pos (by decide), show (2 : Int32) - 1 = 1 from by decide, px_kI_1, pb_i]
theorem px_cnt3 {M M1 : xm_M} (f1 : fX2_follow 2 M = some M1) : fX3_count 3 M = some (M1.1 68 2, M1) := by
  unfold fX3_count fX3_count_172
  simp only [px_in, pb_i, f1, pb_v]
  rw [if_neg (by decide), if_pos (by decide), if_neg (by decide), if_neg (by decide), if_neg (by decide), if_pos (by decide), show (3 : Int32) - 1 = 2 from by decide, px_kI_2, pb_i]
theorem px_cnt4 {M M1 : xm_M} (f1 : fX2_follow 2 M = some M1) : fX3_count 4 M = some (M1.1 68 3, M1) := by
  unfold fX3_count fX3_count_172
  simp only [px_in, pb_i, f1, pb_v]
  rw [if_neg (by decide), if_pos (by decide), if_neg (by decide), if_neg (by decide), if_neg (by decide), if_neg (by decide), if_pos (by decide), show (4 : Int32) - 1 = 3 from by decide, px_kI_3, pb_i]
theorem px_cnt5 {M M1 : xm_M} (f1 : fX2_follow 2 M = some M1) : fX3_count 5 M = some (M1.1 68 4, M1) := by
  unfold fX3_count fX3_count_172
  simp only [px_in, pb_i, f1, pb_v]
  rw [if_neg (by decide), if_pos (by decide), if_neg (by decide), if_neg (by decide), if_neg (by decide), if_neg (by decide), if_neg (by decide), if_pos (by decide), show (5 : Int32) - 1 = 4 from by decide, px_kI_4, pb_i]
theorem px_cnt6 {M M1 : xm_M} (f1 : fX2_follow 2 M = some M1) : fX3_count 6 M = some (M1.1 49 8, M1) := by
  unfold fX3_count fX3_count_172
  simp only [px_in, pb_i, f1, pb_v]
  rw [if_neg (by decide), if_pos (by decide), if_neg (by decide), if_neg (by decide), if_neg (by decide), if_neg (by decide), if_neg (by decide), if_neg (by decide), if_pos (by decide)]
theorem px_cnt7 {M M1 : xm_M} (f1 : fX2_follow 2 M = some M1) : fX3_count 7 M = some (sp_told (M1.2 49 9), M1) := by
  unfold fX3_count fX3_count_172
  simp only [px_in, pb_i, f1, pb_v]
  rw [if_neg (by decide), if_pos (by decide), if_neg (by decide), if_neg (by decide), if_neg (by decide), if_neg (by decide), if_neg (by decide), if_neg (by decide), if_neg (by decide), if_pos (by decide), px_toldE, pb_i]
theorem px_cnt8 {M M1 : xm_M} (f1 : fX2_follow 2 M = some M1) : fX3_count 8 M = some (M1.1 49 6, M1) := by
  unfold fX3_count fX3_count_172
  simp only [px_in, pb_i, f1, pb_v]
  rw [if_neg (by decide), if_pos (by decide), if_neg (by decide), if_neg (by decide), if_neg (by decide), if_neg (by decide), if_neg (by decide), if_neg (by decide), if_neg (by decide), if_neg (by decide), if_pos (by decide)]
theorem px_cnt9 {M M1 : xm_M} (f1 : fX2_follow 2 M = some M1) : fX3_count 9 M = some (M1.1 1 4, M1) := by
  unfold fX3_count fX3_count_172
  simp only [px_in, pb_i, f1, pb_v]
  rw [if_neg (by decide), if_pos (by decide), if_neg (by decide), if_neg (by decide), if_neg (by decide), if_neg (by decide), if_neg (by decide), if_neg (by decide), if_neg (by decide), if_neg (by decide), if_neg (by decide), if_pos (by decide)]
theorem px_cnt10 {M M1 : xm_M} (f1 : fX2_follow 2 M = some M1) : fX3_count 10 M = some (M1.1 1 5, M1) := by
  unfold fX3_count fX3_count_172
  simp only [px_in, pb_i, f1, pb_v]
  rw [if_neg (by decide), if_pos (by decide), if_neg (by decide), if_neg (by decide), if_neg (by decide), if_neg (by decide), if_neg (by decide), if_neg (by decide), if_neg (by decide), if_neg (by decide), if_neg (by decide), if_neg (by decide), if_pos (by decide)]
theorem px_cnt11 {M M1 : xm_M} (f1 : fX2_follow 2 M = some M1) : fX3_count 11 M = some (M1.1 69 1, M1) := by
  unfold fX3_count fX3_count_172
  simp only [px_in, pb_i, f1, pb_v]
  rw [if_neg (by decide), if_pos (by decide), if_neg (by decide), if_neg (by decide), if_neg (by decide), if_neg (by decide), if_neg (by decide), if_neg (by decide), if_neg (by decide), if_neg (by decide), if_neg (by decide), if_neg (by decide), if_neg (by decide), if_pos (by decide)]
theorem pi_sub12 (j : Nat) : nI (12 + j) - 12 = nI j := by
  rw [← pi_add, Int32.add_comm, show nI 12 = 12 from rfl, Int32.add_sub_cancel]
