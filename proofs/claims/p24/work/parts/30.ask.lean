/-! THE CLASS ALONE: what its calls answer that change nothing -/
/-- what a call that asks leaves alone -/
def cJ (M M' : xm_M) : Prop := ∀ k j, (k < 49 ∨ (k = 69 ∧ j = 1) ∨ k = 70 ∨ k = 73) → M'.1 k j = M.1 k j
theorem cJ_refl (M : xm_M) : cJ M M := fun _ _ _ => rfl
theorem cJ_trans {M M1 M2 : xm_M} (h1 : cJ M M1) (h2 : cJ M1 M2) : cJ M M2 := fun k j h => (h2 k j h).trans (h1 k j h)
theorem cJ_view {M0 M : xm_M} (h : cJ M0 M) : cVs 1 M = cVs 1 M0 := cVs_keep (fun k j _ _ => h k j (Or.inl (by omega)))
theorem cJ_W {V : sV} {M M1 : xm_M} {n : Nat} (h : cW V M M1 n) : cJ M M1 := fun k j hk => h.1 k j (by omega)
/-- a state with n entries, all in their ranges -/
def cS (V : sV) (n : Nat) : Prop := sp_ok V ∧ V 1 2 = nI n ∧ n ≤ 120
/-- an answer, and what holds behind it -/
def qA {α : Type} (I : xm_M → Prop) (X : Option (α × xm_M)) (r : α) : Prop := ∃ M', X = some (r, M') ∧ I M'
section QA
variable {α : Type} {I J : xm_M → Prop} {f : Option (Int32 × xm_M)} {fl : Option (Int64 × xm_M)} {x : Int32} {xl : Int64} {r : α}
theorem qb {K : Int32 → xm_M → Option (α × xm_M)} (h : qA I f x) (k : ∀ M, I M → qA J (K x M) r) : qA J (xm_bi f K) r := by
  obtain ⟨M', rfl, hI⟩ := h
  exact k M' hI
theorem qbl {K : Int64 → xm_M → Option (α × xm_M)} (h : qA I fl xl) (k : ∀ M, I M → qA J (K xl M) r) : qA J (xm_bl fl K) r := by
  obtain ⟨M', rfl, hI⟩ := h
  exact k M' hI
theorem qt {P : Prop} [Decidable P] {X Y : Option (α × xm_M)} (h : P) (k : qA J X r) : qA J (if P then X else Y) r := by rw [if_pos h]; exact k
theorem qf {P : Prop} [Decidable P] {X Y : Option (α × xm_M)} (h : ¬ P) (k : qA J Y r) : qA J (if P then X else Y) r := by rw [if_neg h]; exact k
theorem qc {P : Prop} [Decidable P] {X Y : Option (α × xm_M)} (h1 : P → qA J X r) (h2 : ¬ P → qA J Y r) : qA J (if P then X else Y) r := by
  by_cases h : P
  · rw [if_pos h]; exact h1 h
  · rw [if_neg h]; exact h2 h
theorem qr {M : xm_M} (h : J M) : qA J (some (r, M)) r := ⟨M, rfl, h⟩
theorem ql {β : Type} {v : β} {K : β → Option (α × xm_M)} (k : qA J (K v) r) : qA J (xm_lt v K) r := k
theorem qw {X : Option (α × xm_M)} (h : qA I X r) (k : ∀ M, I M → J M) : qA J X r := by
  obtain ⟨M', h1, h2⟩ := h
  exact ⟨M', h1, k M' h2⟩
end QA
theorem px_inT {a lo hi : Int32} {M : xm_M} (h : lo.toInt ≤ a.toInt ∧ a.toInt ≤ hi.toInt) : fX3_isWithin a lo hi M = some (1, M) := by
  rw [px_in, if_pos (show lo ≤ a ∧ a ≤ hi from (px_to lo hi a).mpr h)]
theorem px_inF {a lo hi : Int32} {M : xm_M} (h : ¬ (lo.toInt ≤ a.toInt ∧ a.toInt ≤ hi.toInt)) : fX3_isWithin a lo hi M = some (0, M) := by
  rw [px_in, if_neg (show ¬ (lo ≤ a ∧ a ≤ hi) from fun z => h ((px_to lo hi a).mp z))]
theorem pn_pred {c : Nat} (hc : c < 1000) : (nI c - 1).toInt = (c : Int) - 1 := by
  have e1 : (1 : Int32).toInt = 1 := rfl
  rw [pn_sub (by rw [nI_toInt (by omega), e1]; omega) (by rw [nI_toInt (by omega), e1]; omega), nI_toInt (by omega), e1]
theorem pn_m1 : (-1 : Int32).toInt = -1 := rfl
theorem pn_i6 : (6 : Int32).toInt = 6 := rfl
theorem pn_i10 : (10 : Int32).toInt = 10 := rfl
theorem pn_i20 : (20 : Int32).toInt = 20 := rfl
theorem pn_i1 : (1 : Int32).toInt = 1 := rfl
theorem pn_i359 : (35999 : Int32).toInt = 35999 := rfl
section CA
variable {M0 M : xm_M} {n : Nat}
theorem ca_way (hS : cS (cVs 1 M0) n) (h : cJ M0 M) : ∃ M1, fX2_follow 2 M = some M1 ∧ cW (cVs 1 M0) M M1 n ∧ cJ M0 M1 := by
  obtain ⟨ho, hn1, hn⟩ := hS
  have hv := cJ_view h
  obtain ⟨M1, a1, a2⟩ := px_follow (ps := 2) (M := M) (by omega) (cVs_1 M) (by rw [hv]; exact ho) (by rw [hv]; exact hn1) hn
  rw [hv] at a2
  exact ⟨M1, a1, a2, cJ_trans h (cJ_W a2)⟩
theorem ca_n (hS : cS (cVs 1 M0) n) (h : cJ M0 M) : M.1 1 6 = nI n := (h 1 6 (by omega)).trans hS.2.1
theorem ca_about (hS : cS (cVs 1 M0) n) (h : cJ M0 M) {e w : Nat} (he : e < n) (hw : w < 11) : qA (cJ M0) (fX3_about (nI e) (nI w) M) (sp_F (cVs 1 M0) e w) := by
  obtain ⟨M1, f1, hW, hc⟩ := ca_way hS h
  have hn := hS.2.2
  have e0 := pn_pred (c := n) (by omega)
  have e1 : (nI e).toInt = (e : Int) := nI_toInt (by omega)
  have e2 : (nI w).toInt = (w : Int) := nI_toInt (by omega)
  unfold fX3_about
  rw [ca_n hS h, px_inT (a := nI e) (lo := 0) (hi := nI n - 1) (by rw [px_z0, e0, e1]; omega), pb_i, if_neg (by decide), px_inT (a := nI w) (lo := 0) (hi := 10) (by rw [px_z0, e2, pn_i10]; omega), pb_i, if_neg (by decide), f1, pb_v, px_facts (by omega) (by omega), pb_i, hW.2.1 w e (by omega) (by omega), if_pos he]
  exact qr hc
theorem ca_aboutF (hS : cS (cVs 1 M0) n) (h : cJ M0 M) {a w : Int32} (ha : ¬ (0 ≤ a.toInt ∧ a.toInt < n)) : qA (cJ M0) (fX3_about a w M) (-1000000001) := by
  have hn := hS.2.2
  have e0 := pn_pred (c := n) (by omega)
  unfold fX3_about
  rw [ca_n hS h, px_inF (a := a) (lo := 0) (hi := nI n - 1) (by rw [px_z0, e0]; omega), pb_i, if_pos rfl]
  exact qr h
theorem ca_pose (hS : cS (cVs 1 M0) n) (h : cJ M0 M) {c w : Nat} (hc : c ≤ n) (hw : w < 5) : qA (cJ M0) (fX3_pose (nI c - 1) (nI w) M) (sp_ax (sp_P (cVs 1 M0) c) w) := by
  obtain ⟨M1, f1, hW, hJ⟩ := ca_way hS h
  have hn := hS.2.2
  have e0 := pn_pred (c := n) (by omega)
  have e1 := pn_pred (c := c) (by omega)
  have e2 : (nI w).toInt = (w : Int) := nI_toInt (by omega)
  unfold fX3_pose
  rw [ca_n hS h, px_inT (a := nI c - 1) (lo := -1) (hi := nI n - 1) (by rw [pn_m1, e0, e1]; omega), pb_i, if_neg (by decide), px_inT (a := nI w) (lo := 0) (hi := 6) (by rw [px_z0, e2, pn_i6]; omega), pb_i, if_neg (by decide), f1, pb_v, if_neg (show ¬ (5 : Int32) ≤ nI w by rw [Int32.le_iff_toInt_le, e2]; show ¬ (5 : Int) ≤ _; omega), px_behind hW hc hn hw, pb_i]
  exact qr hJ
theorem ca_poseE (hS : cS (cVs 1 M0) n) (h : cJ M0 M) {e w : Nat} (he : e < n) (hw : w < 5) : qA (cJ M0) (fX3_pose (nI e) (nI w) M) (sp_ax (sp_P (cVs 1 M0) (e + 1)) w) := by
  have := ca_pose hS h (c := e + 1) (w := w) (by omega) hw
  rw [pi_pred] at this
  exact this
theorem ca_poseN (hS : cS (cVs 1 M0) n) (h : cJ M0 M) {w : Nat} (hw : w < 5) : qA (cJ M0) (fX3_pose (-1) (nI w) M) (sp_ax (sp_P (cVs 1 M0) 0) w) := ca_pose hS h (c := 0) (w := w) (by omega) hw
theorem pi_5 (ax : Nat) : nI (5 + ax) - 5 = nI ax := by rw [← pi_add, Int32.add_comm, show nI 5 = 5 from rfl, Int32.add_sub_cancel]
theorem ca_poseS (hS : cS (cVs 1 M0) n) (h : cJ M0 M) {e ax : Nat} (he : e < n) (hx : ax < 2) : qA (cJ M0) (fX3_pose (nI e) (nI (5 + ax)) M) (sp_spr (cVs 1 M0) n e ax) := by
  obtain ⟨M1, f1, hW, hJ⟩ := ca_way hS h
  have hn := hS.2.2
  have e0 := pn_pred (c := n) (by omega)
  have e1 : (nI e).toInt = (e : Int) := nI_toInt (by omega)
  have e2 : (nI (5 + ax)).toInt = ((5 + ax : Nat) : Int) := nI_toInt (by omega)
  unfold fX3_pose
  rw [ca_n hS h, px_inT (a := nI e) (lo := -1) (hi := nI n - 1) (by rw [pn_m1, e0, e1]; omega), pb_i, if_neg (by decide), px_inT (a := nI (5 + ax)) (lo := 0) (hi := 6) (by rw [px_z0, e2, pn_i6]; omega), pb_i, if_neg (by decide), f1, pb_v, if_pos (show (5 : Int32) ≤ nI (5 + ax) by rw [Int32.le_iff_toInt_le, e2]; show (5 : Int) ≤ _; omega), pi_5, ca_n hS hJ, px_spread hS.1 hW hn hS.2.1 he hx, pb_i]
  exact qr hJ
theorem ca_poseB (hS : cS (cVs 1 M0) n) (h : cJ M0 M) {ax : Nat} (hx : ax < 2) : qA (cJ M0) (fX3_pose (-1) (nI (5 + ax)) M) (sp_ax (sp_P (cVs 1 M0) 0) ax) := by
  obtain ⟨M1, f1, hW, hJ⟩ := ca_way hS h
  have hn := hS.2.2
  have e0 := pn_pred (c := n) (by omega)
  have e2 : (nI (5 + ax)).toInt = ((5 + ax : Nat) : Int) := nI_toInt (by omega)
  have hK : ∀ j, j < n → M1.1 57 j = sp_F (cVs 1 M0) j 0 := fun j hj => by
    have := hW.2.1 0 j (by omega) (by omega)
    rw [if_pos hj] at this
    exact this
  obtain ⟨f, hf⟩ := px_first hn hK
  have hb : fX2_behind (-1) (nI ax) M1 = some (sp_ax (sp_P (cVs 1 M0) 0) ax, M1) := px_behind (c := 0) hW (Nat.zero_le _) hn (by omega)
  unfold fX3_pose
  rw [ca_n hS h, px_inT (a := -1) (lo := -1) (hi := nI n - 1) (by rw [pn_m1, e0]; omega), pb_i, if_neg (by decide), px_inT (a := nI (5 + ax)) (lo := 0) (hi := 6) (by rw [px_z0, e2, pn_i6]; omega), pb_i, if_neg (by decide), f1, pb_v, if_pos (show (5 : Int32) ≤ nI (5 + ax) by rw [Int32.le_iff_toInt_le, e2]; show (5 : Int) ≤ _; omega), pi_5, ca_n hS hJ]
  unfold fX2_spreadPlace fX2_spreadPlace_18
  rw [hf, pb_i, if_pos (show (-1 : Int32) < 0 by decide), hb, pb_i, pb_i]
  exact qr hJ
theorem ca_poseF (hS : cS (cVs 1 M0) n) (h : cJ M0 M) {a w : Int32} (ha : ¬ (-1 ≤ a.toInt ∧ a.toInt < n)) : qA (cJ M0) (fX3_pose a w M) (-1000000001) := by
  have hn := hS.2.2
  have e0 := pn_pred (c := n) (by omega)
  unfold fX3_pose
  rw [ca_n hS h, px_inF (a := a) (lo := -1) (hi := nI n - 1) (by rw [pn_m1, e0]; omega), pb_i, if_pos rfl]
  exact qr h
theorem ca_poseG (hS : cS (cVs 1 M0) n) (h : cJ M0 M) {w : Int32} (hw : ¬ (0 ≤ w.toInt ∧ w.toInt ≤ 6)) : qA (cJ M0) (fX3_pose (-1) w M) (-1000000002) := by
  have hn := hS.2.2
  have e0 := pn_pred (c := n) (by omega)
  unfold fX3_pose
  rw [ca_n hS h, px_inT (a := -1) (lo := -1) (hi := nI n - 1) (by rw [pn_m1, e0]; omega), pb_i, if_neg (by decide), px_inF (a := w) (lo := 0) (hi := 6) (by rw [px_z0, pn_i6]; exact hw), pb_i, if_pos rfl]
  exact qr h
theorem ca_count0 (hS : cS (cVs 1 M0) n) (h : cJ M0 M) : qA (cJ M0) (fX3_count 0 M) (nI n) := by
  obtain ⟨M1, f1, hW, hJ⟩ := ca_way hS h
  exact ⟨M1, (px_cnt0 f1).trans (by rw [ca_n hS hJ]), hJ⟩
theorem ca_countK (hS : cS (cVs 1 M0) n) (h : cJ M0 M) {k : Nat} (hk : k < 5) : qA (cJ M0) (fX3_count (1 + nI k) M) (sp_nK (cVs 1 M0) (nI k) n) := by
  obtain ⟨M1, f1, hW, hJ⟩ := ca_way hS h
  have h7 := hW.2.2.2.2.2.2 k hk
  rw [← h7]
  match k, hk with
  | 0, _ => exact ⟨M1, px_cnt1 f1, hJ⟩
  | 1, _ => exact ⟨M1, px_cnt2 f1, hJ⟩
  | 2, _ => exact ⟨M1, px_cnt3 f1, hJ⟩
  | 3, _ => exact ⟨M1, px_cnt4 f1, hJ⟩
  | 4, _ => exact ⟨M1, px_cnt5 f1, hJ⟩
theorem ca_count6 (hS : cS (cVs 1 M0) n) (h : cJ M0 M) : qA (cJ M0) (fX3_count 6 M) (sp_nP (cVs 1 M0) n) := by
  obtain ⟨M1, f1, hW, hJ⟩ := ca_way hS h
  exact ⟨M1, (px_cnt6 f1).trans (by rw [hW.2.2.2.2.1]), hJ⟩
theorem ca_count7 (hS : cS (cVs 1 M0) n) (h : cJ M0 M) : qA (cJ M0) (fX3_count 7 M) (sp_told (sp_E (cVs 1 M0) n)) := by
  obtain ⟨M1, f1, hW, hJ⟩ := ca_way hS h
  exact ⟨M1, (px_cnt7 f1).trans (by rw [hW.2.2.2.2.2.1]), hJ⟩
theorem ca_count8 (hS : cS (cVs 1 M0) n) (h : cJ M0 M) : qA (cJ M0) (fX3_count 8 M) (sp_ax (sp_P (cVs 1 M0) n) 3) := by
  obtain ⟨M1, f1, hW, hJ⟩ := ca_way hS h
  have e : M1.1 49 6 = sp_ax (sp_P (cVs 1 M0) n) 3 := by rw [← hW.2.2.1]; rfl
  exact ⟨M1, (px_cnt8 f1).trans (by rw [e]), hJ⟩
theorem ca_count9 (hS : cS (cVs 1 M0) n) (h : cJ M0 M) : qA (cJ M0) (fX3_count 9 M) (cVs 1 M0 1 0) := by
  obtain ⟨M1, f1, hW, hJ⟩ := ca_way hS h
  exact ⟨M1, (px_cnt9 f1).trans (by rw [hJ 1 4 (by omega)]; rfl), hJ⟩
theorem ca_count10 (hS : cS (cVs 1 M0) n) (h : cJ M0 M) : qA (cJ M0) (fX3_count 10 M) (cVs 1 M0 1 1) := by
  obtain ⟨M1, f1, hW, hJ⟩ := ca_way hS h
  exact ⟨M1, (px_cnt10 f1).trans (by rw [hJ 1 5 (by omega)]; rfl), hJ⟩
theorem ca_count11 (hS : cS (cVs 1 M0) n) (h : cJ M0 M) : qA (cJ M0) (fX3_count 11 M) (M0.1 69 1) := by
  obtain ⟨M1, f1, hW, hJ⟩ := ca_way hS h
  exact ⟨M1, (px_cnt11 f1).trans (by rw [hJ 69 1 (by omega)]), hJ⟩
theorem ca_countV (h : cJ M0 M) {j : Nat} (hj : j < 9) : qA (cJ M0) (fX3_count (nI (12 + j)) M) (cVs 1 M0 0 j) := by
  have e1 : (nI (12 + j)).toInt = ((12 + j : Nat) : Int) := nI_toInt (by omega)
  have c1 : ¬ nI (12 + j) < (12 : Int32) := by
    have e : (nI (12 + j) < (12 : Int32)) = (12 + j < 12) := px_lt_nI (n := 12) rfl (by omega) (by omega)
    rw [e]
    omega
  unfold fX3_count
  rw [px_inT (a := nI (12 + j)) (lo := 0) (hi := 20) (by rw [px_z0, e1, pn_i20]; omega), pb_i, if_neg (by decide), if_neg c1, pi_sub12, px_item (px_kn hj (by omega)) (by omega), pb_i, nI_clamp (by omega), h 2 j (by omega)]
  exact qr h
theorem ca_countF (h : cJ M0 M) {a : Int32} (ha : ¬ (0 ≤ a.toInt ∧ a.toInt ≤ 20)) : qA (cJ M0) (fX3_count a M) (-2) := by
  unfold fX3_count
  rw [px_inF (a := a) (lo := 0) (hi := 20) (by rw [px_z0, pn_i20]; exact ha), pb_i, if_pos rfl]
  exact qr h
theorem ca_wave0 (h : cJ M0 M) {a : Int32} (h0 : 0 ≤ a.toInt) (h1 : a.toInt < 36000) : qA (cJ M0) (fX3_wave a 0 M) (sp_sin a) := by
  unfold fX3_wave fX3_wave_34
  rw [px_inT (a := a) (lo := 0) (hi := 35999) (by rw [px_z0, pn_i359]; omega), pb_i, if_neg (by decide), px_inT (a := 0) (lo := 0) (hi := 1) (by decide), pb_i, if_neg (by decide), if_pos rfl, px_sine h0 h1, pb_i]
  exact qr h
theorem ca_wave1 (h : cJ M0 M) {a : Int32} (h0 : 0 ≤ a.toInt) (h1 : a.toInt < 36000) : qA (cJ M0) (fX3_wave a 1 M) (sp_cos a) := by
  have hm := sp_mod36_in h0 h1
  unfold fX3_wave fX3_wave_34
  rw [px_inT (a := a) (lo := 0) (hi := 35999) (by rw [px_z0, pn_i359]; omega), pb_i, if_neg (by decide), px_inT (a := 1) (lo := 0) (hi := 1) (by decide), pb_i, if_neg (by decide), if_neg (by decide), px_cosA, pb_i, px_sine hm.1 hm.2, pb_i]
  exact qr h
theorem ca_waveF (h : cJ M0 M) {a w : Int32} (ha : ¬ (0 ≤ a.toInt ∧ a.toInt < 36000)) : qA (cJ M0) (fX3_wave a w M) (-1000000002) := by
  unfold fX3_wave
  rw [px_inF (a := a) (lo := 0) (hi := 35999) (by rw [px_z0, pn_i359]; omega), pb_i, if_pos rfl]
  exact qr h
end CA
