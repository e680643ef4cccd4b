/-! THE CLASS ALONE: what if; the best base, the best trust -/
theorem sp_ok_c0 {V V' : sV} (h : sp_ok V) (h0 : ∀ i, i < 9 → V' 0 i = V 0 i) (hr : ∀ r, 1 ≤ r → V' r = V r) : sp_ok V' := by
  obtain ⟨p0, p1, p2, p3, p4, p5, p6, p7, p8⟩ := sp_okM_of h
  refine sp_ok_of h h0 ?_ ?_ ?_ ?_ ?_ ?_ ?_ ?_ ?_
  · rw [hr 1 (by omega)]; exact p0
  · rw [hr 1 (by omega)]; exact p1
  · rw [hr 1 (by omega)]; exact p2
  · rw [hr 1 (by omega)]; exact p3
  · rw [hr 1 (by omega)]; exact p4
  · rw [hr 1 (by omega)]; exact p5
  · rw [hr 1 (by omega)]; exact fun i hi => Or.inl ⟨hi, fun r h1 _ => by rw [hr r (by omega)]⟩
  · rw [hr 1 (by omega)]; exact fun i hi => Or.inl ⟨hi, fun r h1 _ => by rw [hr r (by omega)]⟩
  · rw [hr 1 (by omega)]; exact fun i hi => Or.inl ⟨hi, Int.le_refl _, fun r h1 _ => by rw [hr r (by omega)]⟩
/-- the way with a setting tried, read off -/
def cT9 (T : sV) (n : Nat) (M : xm_M) : Prop := (M.1 49 3, M.1 49 4, M.1 49 5, M.1 49 6, M.1 49 7) = sp_P T n ∧ (∀ k, k < 5 → M.1 68 k = sp_nK T (nI k) n) ∧ M.2 49 9 = sp_E T n
section CB
variable {M0 M : xm_M} {n : Nat}
theorem ca_err (hS : cS (cVs 1 M0) n) (h : cJ M0 M) {j : Nat} {v : Int32} (hj : j < 9) (h1 : sp_lo j ≤ v.toInt) (h2 : v.toInt ≤ sp_hi j) :
    ∃ M3, fX3_errorsWith (nI j) v M = some (sp_E (sp_try (cVs 1 M0) j v) n, M3) ∧ cJ M0 M3 ∧ cT9 (sp_try (cVs 1 M0) j v) n M3 := by
  obtain ⟨ho, hn1, hn⟩ := hS
  have hv := cJ_view h
  obtain ⟨M1, c1, c2, c3⟩ := px_copy9 (k := 2) (j := 72) M
  have q1 : ∀ a b, ¬ a = 72 → (xm_s M1 72 j v).1 a b = M.1 a b := fun a b z => by rw [pm_s, if_neg (fun y => z y.1), c2, if_neg (fun y => z y.1)]
  have q2 : ∀ b, b < 9 → (xm_s M1 72 j v).1 72 b = if b = j then v else M.1 2 b := fun b hb => by
    rw [pm_s]
    by_cases z : b = j
    · rw [if_pos ⟨rfl, z⟩, if_pos z]
    · rw [if_neg (fun y => z y.2), if_neg z, c2, if_pos ⟨rfl, hb⟩]
  have vr : ∀ r, 1 ≤ r → cV 72 (xm_s M1 72 j v) r = sp_try (cVs 1 M0) j v r := by
    intro r hr
    rw [sp_try_r hr, ← hv]
    funext i
    unfold cV cVs
    have r0 : ¬ r = 0 := by omega
    rw [if_neg r0, if_neg r0]
    repeat' split
    all_goals first | rfl | omega | (rw [q1 _ _ (by omega)]) | (rw [q1 _ _ (by omega)]; congr 1; omega)
  have v0 : ∀ i, i < 9 → cV 72 (xm_s M1 72 j v) 0 i = sp_try (cVs 1 M0) j v 0 i := by
    intro i hi
    rw [sp_try_0, ← hv]
    exact q2 i hi
  have hT := sp_ok_try (j := j) (v := v) ho h1 h2
  have hW := sp_ok_c0 hT v0 vr
  have hn2 : cV 72 (xm_s M1 72 j v) 1 2 = nI n := by rw [vr 1 (by omega), sp_try_r (by omega)]; exact hn1
  obtain ⟨M3, a1, a2⟩ := px_follow (ps := 72) (M := xm_s M1 72 j v) (by omega) rfl hW hn2 hn
  have hp : vP n (sp_try (cVs 1 M0) j v) (cV 72 (xm_s M1 72 j v)) := ⟨v0, fun b _ _ => by rw [vr 1 (by omega)], fun r b _ _ _ => by rw [vr r (by omega)], fun r b _ _ _ => by rw [vr r (by omega)], fun r b _ _ _ => by rw [vr r (by omega)]⟩
  have hTn : (n : Int) ≤ (sp_try (cVs 1 M0) j v 1 2).toInt := by rw [sp_try_r (by omega), hn1, nI_toInt (by omega)]; omega
  have hE : M3.2 49 9 = sp_E (sp_try (cVs 1 M0) j v) n := by rw [a2.2.2.2.2.2.1]; exact sp_E_congr hp hT n (Nat.le_refl _) hTn
  refine ⟨M3, ?_, ?_, ?_, ?_, hE⟩
  · unfold fX3_errorsWith
    rw [c1, pb_v, px_keep (px_kn hj (by omega)) (by omega), pb_v, nI_clamp (by omega), a1, pb_v, hE]
  · intro k i hk
    rw [a2.1 k i (by omega), q1 k i (by omega)]
    exact h k i hk
  · rw [a2.2.2.1]; exact sp_P_congr hp hT n (Nat.le_refl _) hTn
  · intro k hk
    rw [a2.2.2.2.2.2.2 k hk]
    exact sp_nK_congr _ hp hT n (Nat.le_refl _) hTn
/-- what ifSet answers -/
noncomputable def sp_if (T : sV) (n w : Nat) : Int32 := match w with | 0 => (sp_P T n).1 | 1 => (sp_P T n).2.1 | 2 => (sp_P T n).2.2.1 | 3 => sp_nK T 2 n + sp_nK T 3 n | _ => sp_told (sp_E T n)
theorem ca_ifSet (hS : cS (cVs 1 M0) n) (h : cJ M0 M) {j w : Nat} {v : Int32} (hj : j < 9) (h1 : sp_lo j ≤ v.toInt) (h2 : v.toInt ≤ sp_hi j) (hw : w < 5) : qA (cJ M0) (fX3_ifSet (nI j) v (nI w) M) (sp_if (sp_try (cVs 1 M0) j v) n w) := by
  obtain ⟨M3, a1, hJ, hP, hK, hE⟩ := ca_err hS h hj h1 h2
  have ew : (nI w).toInt = (w : Int) := nI_toInt (by omega)
  have e4 : (4 : Int32).toInt = 4 := rfl
  have k2 : M3.1 68 2 = sp_nK (sp_try (cVs 1 M0) j v) 2 n := hK 2 (by omega)
  have k3 : M3.1 68 3 = sp_nK (sp_try (cVs 1 M0) j v) 3 n := hK 3 (by omega)
  unfold fX3_ifSet
  rw [px_isSet, sp_tk_ok hj h1 h2, pb_i, if_neg (by decide), px_inT (a := nI w) (lo := 0) (hi := 4) (by rw [px_z0, ew, e4]; omega), pb_i, if_neg (by decide), a1, pb_l]
  have p0 : M3.1 49 3 = (sp_P (sp_try (cVs 1 M0) j v) n).1 := by rw [← hP]
  have p1 : M3.1 49 4 = (sp_P (sp_try (cVs 1 M0) j v) n).2.1 := by rw [← hP]
  have p2 : M3.1 49 5 = (sp_P (sp_try (cVs 1 M0) j v) n).2.2.1 := by rw [← hP]
  match w, hw with
  | 0, _ => rw [if_pos (show nI 0 = 0 by decide), p0]; exact qr hJ
  | 1, _ => rw [if_neg (show ¬ nI 1 = 0 by decide), if_pos (show nI 1 = 1 by decide), p1]; exact qr hJ
  | 2, _ => rw [if_neg (show ¬ nI 2 = 0 by decide), if_neg (show ¬ nI 2 = 1 by decide), if_pos (show nI 2 = 2 by decide), p2]; exact qr hJ
  | 3, _ => rw [if_neg (show ¬ nI 3 = 0 by decide), if_neg (show ¬ nI 3 = 1 by decide), if_neg (show ¬ nI 3 = 2 by decide), if_pos (show nI 3 = 3 by decide), px_kI_2, pb_i, px_kI_3, pb_i, k2, k3]; exact qr hJ
  | 4, _ => rw [if_neg (show ¬ nI 4 = 0 by decide), if_neg (show ¬ nI 4 = 1 by decide), if_neg (show ¬ nI 4 = 2 by decide), if_neg (show ¬ nI 4 = 3 by decide), px_toldE, pb_i, hE]; exact qr hJ
theorem ca_ifSetF (h : cJ M0 M) {a v w : Int32} (hk : sp_tk a v = 0) : qA (cJ M0) (fX3_ifSet a v w M) (-1000000002) := by
  unfold fX3_ifSet
  rw [px_isSet, hk, pb_i, if_pos rfl]
  exact qr h
/-- whether there are sights -/
theorem ca_has (hS : cS (cVs 1 M0) n) (h : cJ M0 M) : ∃ x : Int32, fX1_hasSights M = some (x, M) ∧ (x = 0 ↔ sp_nK (cVs 1 M0) 4 n = 0) := by
  obtain ⟨x, x1, x2⟩ := px_has hS.2.2 (ca_n hS h)
  obtain ⟨c, c1, c2, c3⟩ := sp_nK4 hS.1 n
  refine ⟨x, x1, ?_⟩
  rw [x2, c2]
  have hn := hS.2.2
  have e : (nI c = 0) = (c = 0) := px_eq_nI (n := 0) rfl (by omega) (by omega)
  rw [e, c3]
  have em : ∀ j, M.1 13 j = cVs 1 M0 9 j := fun j => by rw [h 13 j (by omega)]; rfl
  constructor
  · intro z j hj; rw [← em]; exact z j hj
  · intro z j hj; rw [em]; exact z j hj
/-- the errors with another base -/
noncomputable def sp_Eb (V : sV) (n b : Nat) : Int64 := sp_E (sp_try V 2 (nI b)) n
def bDs (B b : Nat) : Nat := ((b : Int) - B).natAbs
/-- of those tried, the best -/
def bI (V : sV) (n B : Nat) (S : Nat → Prop) (best : Nat) (least : Int64) : Prop := (100 ≤ best ∧ best ≤ 1000 ∧ S best) ∧ least = sp_Eb V n best ∧ ∀ b, 100 ≤ b → b ≤ 1000 → S b → least ≤ sp_Eb V n b ∧ (sp_Eb V n b = least → bDs B best ≤ bDs B b)
theorem sp_tk2 {c : Nat} (hc : c < 100000) : (sp_tk 2 (nI c) = 0 ↔ ¬ (100 ≤ c ∧ c ≤ 1000)) ∧ (100 ≤ c ∧ c ≤ 1000 → sp_lo 2 ≤ (nI c).toInt ∧ (nI c).toInt ≤ sp_hi 2) := by
  have e : (nI c).toInt = (c : Int) := nI_toInt (by omega)
  have h2 : 100 ≤ c ∧ c ≤ 1000 → sp_lo 2 ≤ (nI c).toInt ∧ (nI c).toInt ≤ sp_hi 2 := fun z => by
    rw [e]
    show (100 : Int) ≤ _ ∧ _ ≤ (1000 : Int)
    omega
  refine ⟨⟨fun z y => ?_, fun z => ?_⟩, h2⟩
  · have := sp_tk_ok (j := 2) (by omega) (h2 y).1 (h2 y).2
    rw [px_n2, z] at this
    exact absurd this (by decide)
  · have c0 : ((100 : Int32).toInt = 100) := rfl
    have c2 : ((1000 : Int32).toInt = 1000) := rfl
    unfold sp_tk
    rw [if_neg (by decide), if_pos rfl, if_neg (show ¬ ((100 : Int32) ≤ nI c ∧ nI c ≤ 1000) by rw [Int32.le_iff_toInt_le, Int32.le_iff_toInt_le, e, c0, c2]; omega)]
theorem ca_try (hS : cS (cVs 1 M0) n) (h : cJ M0 M) (k37 : Int32 → Int32 → Int64 → Int32 → xm_M → Option (Int32 × xm_M)) (k50 : Int32 → Int32 → Int64 → Int32 → Int32 → xm_M → Option (Int32 × xm_M)) {B best c : Nat} {S : Nat → Prop} {least : Int64} (b1 b5 : Int32) (hc : c < 100000) (hI : bI (cVs 1 M0) n B S best least) (hd : ∀ b, S b → bDs B b ≤ bDs B c) :
    ∃ (best1 : Nat) (least1 : Int64) (M1 : xm_M), cJ M0 M1 ∧ bI (cVs 1 M0) n B (fun b => S b ∨ b = c) best1 least1 ∧ (∀ cc : Prop, ∀ d : Decidable cc, ¬ cc → (@ite _ cc d (xm_lt (b5 + Int32.ofInt 1) (fun x9 => k37 b1 (nI best) least x9 M)) (xm_bi (fX3_isSetting (2 : Int32) (nI c) M) (fun x11 M10 => if x11 = 0 then fX3_bestBase_90 k37 k50 b1 (nI best) least b5 (nI c) M10 else xm_bl (fX3_errorsWith (2 : Int32) (nI c) M10) (fun x14 M13 => if 0 ≤ (lg_cmp x14 least) then fX3_bestBase_90 k37 k50 b1 (nI best) least b5 (nI c) M13 else fX3_bestBase_90 k37 k50 b1 (nI c) x14 b5 (nI c) M13)))) = k50 b1 (nI best1) least1 b5 (nI c + 2 * b5) M1) := by
  obtain ⟨⟨i1, i2, i3⟩, i4, i5⟩ := hI
  unfold fX3_bestBase_90
  simp only [pb_lt]
  rw [px_isSet, pb_i]
  by_cases hk : sp_tk 2 (nI c) = 0
  · refine ⟨best, least, M, h, ⟨⟨i1, i2, Or.inl i3⟩, i4, ?_⟩, ?_⟩
    · intro b z1 z2 z3
      rcases z3 with z3 | z3
      · exact i5 b z1 z2 z3
      · exact absurd ⟨z3 ▸ z1, z3 ▸ z2⟩ ((sp_tk2 hc).1.mp hk)
    · intro cc d hcc
      rw [if_neg hcc, if_pos hk]
  · have hr : 100 ≤ c ∧ c ≤ 1000 := by
      have := (sp_tk2 hc).1
      exact Classical.byContradiction (fun z => hk (this.mpr z))
    have h12 := (sp_tk2 hc).2 hr
    obtain ⟨M3, a1, hJ, _⟩ := ca_err hS h (j := 2) (by omega) h12.1 h12.2
    rw [px_n2] at a1
    have a1 : fX3_errorsWith 2 (nI c) M = some (sp_Eb (cVs 1 M0) n c, M3) := a1
    by_cases hx : least ≤ sp_Eb (cVs 1 M0) n c
    · refine ⟨best, least, M3, hJ, ⟨⟨i1, i2, Or.inl i3⟩, i4, ?_⟩, ?_⟩
      · intro b z1 z2 z3
        rcases z3 with z3 | z3
        · exact i5 b z1 z2 z3
        · rw [z3]; exact ⟨hx, fun _ => hd best i3⟩
      · intro cc d hcc
        rw [if_neg hcc, if_neg hk, a1, pb_l, if_pos ((pl_b _ _).2.1.mpr hx)]
    · have hlt : sp_Eb (cVs 1 M0) n c < least := Int64.not_le.mp hx
      refine ⟨c, sp_Eb (cVs 1 M0) n c, M3, hJ, ⟨⟨hr.1, hr.2, Or.inr rfl⟩, rfl, ?_⟩, ?_⟩
      · intro b z1 z2 z3
        rcases z3 with z3 | z3
        · have y := (i5 b z1 z2 z3).1
          refine ⟨Int64.le_of_lt (Int64.lt_of_lt_of_le hlt y), fun e => ?_⟩
          rw [e] at y
          exact absurd y hx
        · rw [z3]; exact ⟨Int64.le_refl _, fun _ => Nat.le_refl _⟩
      · intro cc d hcc
        rw [if_neg hcc, if_neg hk, a1, pb_l, if_neg (fun z => hx ((pl_b _ _).2.1.mp z))]
theorem bI_S {V : sV} {B best : Nat} {S S' : Nat → Prop} {least : Int64} (h : bI V n B S best least) (h1 : ∀ b, S b → S' b) (h2 : ∀ b, S' b → S b) : bI V n B S' best least := ⟨⟨h.1.1, h.1.2.1, h1 _ h.1.2.2⟩, h.2.1, fun b z1 z2 z3 => h.2.2 b z1 z2 (h2 b z3)⟩
theorem ca_baseL (hS : cS (cVs 1 M0) n) {B : Nat} (hB : 100 ≤ B) (hB2 : B ≤ 1000) : ∀ (q o best : Nat) (least : Int64) (M : xm_M), cJ M0 M → 1 ≤ o → o ≤ 21 → 21 - o < q → bI (cVs 1 M0) n B (fun b => bDs B b < o) best least → ∃ (r : Nat) (l : Int64) (M1 : xm_M), fX3_bestBase_37_it q (nI B) (nI best) least (nI o) M = some (nI r, M1) ∧ cJ M0 M1 ∧ bI (cVs 1 M0) n B (fun b => bDs B b < 21) r l := by
  intro q
  induction q with
  | zero => intro o _ _ _ _ _ _ h; omega
  | succ q ih =>
    intro o best least M h ho1 ho2 hq hI
    show ∃ (r : Nat) (l : Int64) (M1 : xm_M), fX3_bestBase_37 (fX3_bestBase_37_it q) (nI B) (nI best) least (nI o) M = some (nI r, M1) ∧ _
    unfold fX3_bestBase_37
    have e : ((20 : Int32) < nI o) = (20 < o) := px_lt_nI (x := 20) (c := 20) rfl (by omega) (by omega)
    simp only [e, pb_lt]
    by_cases hlt : 20 < o
    · rw [if_pos hlt]
      have : o = 21 := by omega
      subst this
      exact ⟨best, least, M, rfl, h, hI⟩
    rw [if_neg hlt]
    generalize hK : fX3_bestBase_37_it q = K37 at ih ⊢
    obtain ⟨p, hp⟩ : ∃ p, xm_N = p + 3 := ⟨4093, rfl⟩
    rw [hp]
    show ∃ (r : Nat) (l : Int64) (M1 : xm_M), fX3_bestBase_50 K37 (fX3_bestBase_50_it K37 (p + 2)) (nI B) (nI best) least (nI o) (nI B - nI o) M = some (nI r, M1) ∧ _
    have s1 : nI B - nI o = nI (B - o) := pi_subN (by omega)
    have s2 : nI B + nI o = nI (B + o) := pi_add B o
    have s3 : nI (B - o) + 2 * nI o = nI (B + o) := by
      rw [show (2 : Int32) = nI 2 from rfl, pi_mul, pi_add]; congr 1; omega
    have s4 : nI (B + o) + 2 * nI o = nI (B + o + 2 * o) := by
      rw [show (2 : Int32) = nI 2 from rfl, pi_mul, pi_add]
    have c1 : ¬ nI B + nI o < nI (B - o) := by rw [s2, px_lt_nI rfl (by omega) (by omega)]; omega
    have c2 : ¬ nI B + nI o < nI (B + o) := by rw [s2, px_lt_nI rfl (by omega) (by omega)]; omega
    have c3 : nI B + nI o < nI (B + o + 2 * o) := by rw [s2, px_lt_nI rfl (by omega) (by omega)]; omega
    have d1 : bDs B (B - o) = o := by unfold bDs; omega
    have d2 : bDs B (B + o) = o := by unfold bDs; omega
    obtain ⟨b1, l1, M1, x1, j1, u1⟩ := ca_try hS h K37 (fX3_bestBase_50_it K37 (p + 2)) (nI B) (nI o) (c := B - o) (by omega) hI (fun b hb => by rw [d1]; omega)
    obtain ⟨b2, l2, M2, x2, j2, u2⟩ := ca_try hS x1 K37 (fX3_bestBase_50_it K37 (p + 1)) (nI B) (nI o) (c := B + o) (by omega) j1 (fun b hb => by
      rw [d2]
      rcases hb with z | z
      · omega
      · rw [z, d1]; omega)
    have C : fX3_bestBase_50 K37 (fX3_bestBase_50_it K37 (p + 2)) (nI B) (nI best) least (nI o) (nI B - nI o) M = K37 (nI B) (nI b2) l2 (nI (o + 1)) M2 := by
      rw [s1]
      unfold fX3_bestBase_50
      rw [u1 _ _ c1, s3]
      show fX3_bestBase_50 K37 (fX3_bestBase_50_it K37 (p + 1)) (nI B) (nI b1) l1 (nI o) (nI (B + o)) M1 = _
      unfold fX3_bestBase_50
      rw [u2 _ _ c2, s4]
      show fX3_bestBase_50 K37 (fX3_bestBase_50_it K37 p) (nI B) (nI b2) l2 (nI o) (nI (B + o + 2 * o)) M2 = _
      unfold fX3_bestBase_50
      rw [if_pos c3, pb_lt, show nI o + Int32.ofInt 1 = nI (o + 1) from (nI_succ o).symm]
    rw [C]
    refine ih (o + 1) b2 l2 M2 x2 (by omega) (by omega) (by omega) (bI_S j2 ?_ ?_)
    · intro b hb
      rcases hb with (z | z) | z
      · omega
      · rw [z, d1]; omega
      · rw [z, d2]; omega
    · intro b hb
      by_cases z : bDs B b < o
      · exact Or.inl (Or.inl z)
      · have : bDs B b = o := by omega
        unfold bDs at this
        by_cases y : b = B + o
        · exact Or.inr y
        · exact Or.inl (Or.inr (by omega))
theorem ca_bestBase (hS : cS (cVs 1 M0) n) (h : cJ M0 M) {B : Nat} (hB : cVs 1 M0 0 2 = nI B) (hB1 : 100 ≤ B) (hB2 : B ≤ 1000) : if sp_nK (cVs 1 M0) 4 n = 0 then qA (cJ M0) (fX3_bestBase M) (-6) else ∃ (r : Nat) (l : Int64), qA (cJ M0) (fX3_bestBase M) (nI r) ∧ bI (cVs 1 M0) n B (fun b => bDs B b < 21) r l := by
  obtain ⟨x, s1, s3⟩ := ca_has hS h
  unfold fX3_bestBase
  rw [s1, pb_i]
  by_cases z : x = 0
  · rw [if_pos z, if_pos (s3.mp z)]
    exact qr h
  · rw [if_neg z, if_neg (fun u => z (s3.mpr u)), px_sI_2, pb_i]
    have em : M.1 2 2 = nI B := (h 2 2 (by omega)).trans hB
    have h12 := (sp_tk2 (c := B) (by omega)).2 ⟨hB1, hB2⟩
    obtain ⟨M3, a1, hJ, _⟩ := ca_err hS h (j := 2) (v := nI B) (by omega) h12.1 h12.2
    rw [px_n2] at a1
    have a1 : fX3_errorsWith 2 (nI B) M = some (sp_Eb (cVs 1 M0) n B, M3) := a1
    rw [em, a1, pb_l, pb_lt]
    have hd : bDs B B = 0 := by unfold bDs; omega
    obtain ⟨r, l, M1, e1, e2, e3⟩ := ca_baseL hS hB1 hB2 xm_N 1 B (sp_Eb (cVs 1 M0) n B) M3 hJ (by omega) (by omega) (by show 21 - 1 < 4096; omega) ⟨⟨hB1, hB2, show bDs B B < 1 by rw [hd]; omega⟩, rfl, fun b _ _ hb => by
      have hb : bDs B b < 1 := hb
      have : b = B := by unfold bDs at hb; omega
      rw [this]
      exact ⟨Int64.le_refl _, fun _ => Nat.le_refl _⟩⟩
    exact ⟨r, l, ⟨M1, e1, e2⟩, e3⟩
/-- the errors with another trust, of ten to ten -/
noncomputable def sp_Et (V : sV) (n t : Nat) : Int64 := sp_E (sp_try V 4 (nI (10 * t))) n
def bJ (V : sV) (n t best : Nat) (least : Int64) : Prop := best < t ∧ least = sp_Et V n best ∧ ∀ b, b < t → least ≤ sp_Et V n b ∧ (sp_Et V n b = least → best ≤ b)
theorem ca_trustL (hS : cS (cVs 1 M0) n) : ∀ (q t best : Nat) (least : Int64) (M : xm_M), cJ M0 M → t ≤ 11 → 11 - t < q → bJ (cVs 1 M0) n t best least → ∃ (r : Nat) (l : Int64) (M1 : xm_M), fX3_bestTrust_26_it q (nI (10 * best)) least (nI (10 * t)) M = some (nI (10 * r), M1) ∧ cJ M0 M1 ∧ bJ (cVs 1 M0) n 11 r l := by
  intro q
  induction q with
  | zero => intro t _ _ _ _ _ h; omega
  | succ q ih =>
    intro t best least M h ht hq hI
    show ∃ (r : Nat) (l : Int64) (M1 : xm_M), fX3_bestTrust_26 (fX3_bestTrust_26_it q) (nI (10 * best)) least (nI (10 * t)) M = some (nI (10 * r), M1) ∧ _
    unfold fX3_bestTrust_26 fX3_bestTrust_55
    have e : ((100 : Int32) < nI (10 * t)) = (100 < 10 * t) := px_lt_nI (x := 100) (c := 100) rfl (by omega) (by omega)
    simp only [e, pi_10, pb_lt]
    by_cases hlt : 100 < 10 * t
    · rw [if_pos hlt]
      have : t = 11 := by omega
      subst this
      exact ⟨best, least, M, rfl, h, hI⟩
    · have hv : (nI (10 * t)).toInt = ((10 * t : Nat) : Int) := nI_toInt (by omega)
      obtain ⟨M3, a1, hJ, _⟩ := ca_err hS h (j := 4) (v := nI (10 * t)) (by omega) (by rw [hv]; show (0 : Int) ≤ _; omega) (by rw [hv]; show _ ≤ (100 : Int); omega)
      rw [px_n4] at a1
      have a1 : fX3_errorsWith 4 (nI (10 * t)) M = some (sp_Et (cVs 1 M0) n t, M3) := a1
      obtain ⟨i1, i2, i3⟩ := hI
      rw [if_neg hlt, a1, pb_l]
      by_cases hx : least ≤ sp_Et (cVs 1 M0) n t
      · rw [if_pos ((pl_b _ _).2.1.mpr hx)]
        refine ih (t + 1) best least M3 hJ (by omega) (by omega) ⟨by omega, i2, fun b hb => ?_⟩
        by_cases y : b = t
        · rw [y]; exact ⟨hx, fun _ => by omega⟩
        · exact i3 b (by omega)
      · have hlt2 : sp_Et (cVs 1 M0) n t < least := Int64.not_le.mp hx
        rw [if_neg (fun z => hx ((pl_b _ _).2.1.mp z))]
        refine ih (t + 1) t (sp_Et (cVs 1 M0) n t) M3 hJ (by omega) (by omega) ⟨by omega, rfl, fun b hb => ?_⟩
        by_cases y : b = t
        · rw [y]; exact ⟨Int64.le_refl _, fun _ => Nat.le_refl _⟩
        · have y := (i3 b (by omega)).1
          refine ⟨Int64.le_of_lt (Int64.lt_of_lt_of_le hlt2 y), fun e => ?_⟩
          rw [e] at y
          exact absurd y hx
theorem ca_bestTrust (hS : cS (cVs 1 M0) n) (h : cJ M0 M) : if sp_nK (cVs 1 M0) 4 n = 0 then qA (cJ M0) (fX3_bestTrust M) (-6) else ∃ (r : Nat) (l : Int64), qA (cJ M0) (fX3_bestTrust M) (nI (10 * r)) ∧ bJ (cVs 1 M0) n 11 r l := by
  obtain ⟨x, s1, s3⟩ := ca_has hS h
  unfold fX3_bestTrust
  rw [s1, pb_i]
  by_cases z : x = 0
  · rw [if_pos z, if_pos (s3.mp z)]
    exact qr h
  · rw [if_neg z, if_neg (fun u => z (s3.mpr u)), pb_lt]
    obtain ⟨M3, a1, hJ, _⟩ := ca_err hS h (j := 4) (v := 0) (by omega) (by decide) (by decide)
    rw [px_n4] at a1
    have a1 : fX3_errorsWith 4 0 M = some (sp_Et (cVs 1 M0) n 0, M3) := a1
    rw [a1, pb_l, pb_lt]
    obtain ⟨r, l, M1, e1, e2, e3⟩ := ca_trustL hS xm_N 1 0 (sp_Et (cVs 1 M0) n 0) M3 hJ (by omega) (by show 11 - 1 < 4096; omega) ⟨by omega, rfl, fun b hb => by
      have : b = 0 := by omega
      rw [this]
      exact ⟨Int64.le_refl _, fun _ => Nat.le_refl _⟩⟩
    exact ⟨r, l, ⟨M1, e1, e2⟩, e3⟩
end CB
