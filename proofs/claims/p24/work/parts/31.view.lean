/-! VIEWS THAT AGREE as far as an answer looks -/
/-- settings, counts but that of the entries, the start, map and the first n entries are alike -/
def vP (n : Nat) (V V' : sV) : Prop := (∀ b, b < 9 → V' 0 b = V 0 b) ∧ (∀ b, b < 6 → ¬ b = 2 → V' 1 b = V 1 b) ∧ (∀ r b, 2 ≤ r → r < 7 → b < 8 → V' r b = V r b) ∧ (∀ r b, 7 ≤ r → r < 9 → b < 6 → V' r b = V r b) ∧ (∀ r b, 9 ≤ r → r < 13 → b < n → V' r b = V r b)
theorem vP_refl (n : Nat) (V : sV) : vP n V V := ⟨fun _ _ => rfl, fun _ _ _ => rfl, fun _ _ _ _ _ => rfl, fun _ _ _ _ _ => rfl, fun _ _ _ _ _ => rfl⟩
theorem vP_symm {n : Nat} {V V' : sV} (h : vP n V V') : vP n V' V := ⟨fun b h1 => (h.1 b h1).symm, fun b h1 h2 => (h.2.1 b h1 h2).symm, fun r b h1 h2 h3 => (h.2.2.1 r b h1 h2 h3).symm, fun r b h1 h2 h3 => (h.2.2.2.1 r b h1 h2 h3).symm, fun r b h1 h2 h3 => (h.2.2.2.2 r b h1 h2 h3).symm⟩
theorem vP_trans {n : Nat} {V V' V2 : sV} (h : vP n V V') (g : vP n V' V2) : vP n V V2 := ⟨fun b h1 => (g.1 b h1).trans (h.1 b h1), fun b h1 h2 => (g.2.1 b h1 h2).trans (h.2.1 b h1 h2), fun r b h1 h2 h3 => (g.2.2.1 r b h1 h2 h3).trans (h.2.2.1 r b h1 h2 h3), fun r b h1 h2 h3 => (g.2.2.2.1 r b h1 h2 h3).trans (h.2.2.2.1 r b h1 h2 h3), fun r b h1 h2 h3 => (g.2.2.2.2 r b h1 h2 h3).trans (h.2.2.2.2 r b h1 h2 h3)⟩
theorem vP_less {n m : Nat} {V V' : sV} (h : vP n V V') (hm : m ≤ n) : vP m V V' := ⟨h.1, h.2.1, h.2.2.1, h.2.2.2.1, fun r b h1 h2 h3 => h.2.2.2.2 r b h1 h2 (by omega)⟩
theorem sp_fst_congr {P Q : Nat → Prop} : ∀ (n c : Nat), (∀ k, c ≤ k → k < c + n → (P k ↔ Q k)) → sp_fst P n c = sp_fst Q n c := by
  intro n
  induction n with
  | zero => intro c _; rfl
  | succ n ih =>
    intro c h
    unfold sp_fst
    have e := ih (c + 1) (fun k h1 h2 => h k (by omega) (by omega))
    have hc := h c (Nat.le_refl _) (by omega)
    by_cases hp : P c
    · rw [if_pos hp, if_pos (hc.mp hp)]
    · rw [if_neg hp, if_neg (fun z => hp (hc.mpr z)), e]
theorem sp_step_congr {V V' : sV} {n e : Nat} (h : vP n V V') (hok : sp_ok V) (he : e < n) (hn : (e : Int) < (V 1 2).toInt) (p : sP) : sp_step V' e p = sp_step V e p := by
  obtain ⟨h0, h1, h2, h3, h4⟩ := h
  obtain ⟨o1, o2⟩ := (sp_ok_iff V).mp hok
  obtain ⟨p0, p1, p2, p3, p4, p5, p6, p7, p8⟩ := o2
  have e9 : V' 9 e = V 9 e := h4 9 e (by omega) (by omega) he
  have e10 : V' 10 e = V 10 e := h4 10 e (by omega) (by omega) he
  have e11 : V' 11 e = V 11 e := h4 11 e (by omega) (by omega) he
  have e12 : V' 12 e = V 12 e := h4 12 e (by omega) (by omega) he
  have s0 := h0 0 (by omega)
  have s1 := h0 1 (by omega)
  have s2 := h0 2 (by omega)
  have s3 := h0 3 (by omega)
  have s4 := h0 4 (by omega)
  have s5 := h0 5 (by omega)
  have s6 := h0 6 (by omega)
  have s7 := h0 7 (by omega)
  have s8 := h0 8 (by omega)
  have c0 := h1 0 (by omega) (by omega)
  unfold sp_step
  rw [e9]
  by_cases hs : 0 ≤ V 9 e
  · rw [if_pos hs, if_pos hs]
    have hm : (V 9 e).toNatClampNeg < 6 := by
      have h9 : (V 9 e).toNatClampNeg = (V 9 e).toInt.toNat := rfl
      have hs2 := (pn_nn _).mp hs
      rcases p8 e hn with z | z
      · rw [z.1] at hs2
        exact absurd hs2 (by decide)
      · omega
    have mx : sp_mx V' e = sp_mx V e := by
      unfold sp_mx
      rw [e9, h3 7 _ (by omega) (by omega) hm]
    have my : sp_my V' e = sp_my V e := by
      unfold sp_my
      rw [e9, h3 8 _ (by omega) (by omega) hm]
    rw [mx, my]
  · rw [if_neg hs, if_neg hs, e10, e11, e12]
    by_cases hz : V 10 e = 0 ∧ V 11 e = 0
    · rw [if_pos hz, if_pos hz]
      have eb : sp_bias V' e p.2.2.2.2 = sp_bias V e p.2.2.2.2 := by
        unfold sp_bias
        rw [e12, s5]
      rw [eb]
    · rw [if_neg hz, if_neg hz]
      have eW : sp_stepW V' e = sp_stepW V e := by
        unfold sp_stepW
        rw [s0, s1, s2, e10, e11]
      have eA : sp_A V' e = sp_A V e := by unfold sp_A; rw [s0, e10]
      have eB : sp_B V' e = sp_B V e := by unfold sp_B; rw [s1, e11]
      have eT : ∀ b, sp_T V' e b = sp_T V e b := fun b => by unfold sp_T; rw [eW, s3, s4, e12]
      have eD : ∀ b, sp_Dd V' e b = sp_Dd V e b := fun b => by unfold sp_Dd; rw [eW, eA, eB, s3, s2, e12]
      have eK : ∀ b, sp_K V' e b = sp_K V e b := fun b => by unfold sp_K; rw [eW, s3, e12]
      have eX : sp_X V' e p = sp_X V e p := by unfold sp_X; rw [eT, eD]
      have eY : sp_Y V' e p = sp_Y V e p := by unfold sp_Y; rw [eT, eD]
      have eH : sp_H V' e p = sp_H V e p := by unfold sp_H; rw [eT]
      have eL : sp_L V' e p = sp_L V e p := by unfold sp_L; rw [eD]
      have eh : sp_who V' (sp_X V e p) (sp_Y V e p) (sp_H V e p) = sp_who V (sp_X V e p) (sp_Y V e p) (sp_H V e p) := by
        unfold sp_who
        rw [c0]
        refine sp_fst_congr _ _ (fun k _ hk => ?_)
        have h9 : (V 1 0).toNatClampNeg = (V 1 0).toInt.toNat := rfl
        have hk8 : k < 8 := by omega
        unfold sp_pulls sp_near
        rw [s7, s8, h2 2 k (by omega) (by omega) hk8, h2 3 k (by omega) (by omega) hk8, h2 4 k (by omega) (by omega) hk8, h2 5 k (by omega) (by omega) hk8, h2 6 k (by omega) (by omega) hk8]
      rw [eX, eY, eH, eL, eW, eT, eD, eK, eh]
      cases hw : sp_who V (sp_X V e p) (sp_Y V e p) (sp_H V e p) with
      | none => rfl
      | some c =>
        have hc := (sp_fst_in _ _ _ hw).2.1
        have h9 : (V 1 0).toNatClampNeg = (V 1 0).toInt.toNat := rfl
        have hc8 : c < 8 := by omega
        have ep : ∀ h, sp_pl V' h c = sp_pl V h c := fun h => by unfold sp_pl; rw [s6, h2 6 c (by omega) (by omega) hc8]
        show (_, _) = (_, _)
        rw [ep]
theorem sp_P_congr {V V' : sV} {n : Nat} (h : vP n V V') (hok : sp_ok V) : ∀ e, e ≤ n → (e : Int) ≤ (V 1 2).toInt → sp_P V' e = sp_P V e := by
  intro e
  induction e with
  | zero =>
    intro _ _
    show sp_start V' = sp_start V
    unfold sp_start
    rw [h.2.1 3 (by omega) (by omega), h.2.1 4 (by omega) (by omega), h.2.1 5 (by omega) (by omega)]
  | succ e ih =>
    intro he hn
    rw [px_P2, px_P2, ih (by omega) (by omega), sp_step_congr h hok (by omega) (by omega)]
theorem sp_F_congr {V V' : sV} {n e : Nat} (h : vP n V V') (hok : sp_ok V) (he : e < n) (hn : (e : Int) < (V 1 2).toInt) : sp_F V' e = sp_F V e := by
  unfold sp_F
  rw [sp_P_congr h hok e (by omega) (by omega), sp_step_congr h hok he hn]
theorem sp_nK_congr {V V' : sV} {n : Nat} (k : Int32) (h : vP n V V') (hok : sp_ok V) : ∀ e, e ≤ n → (e : Int) ≤ (V 1 2).toInt → sp_nK V' k e = sp_nK V k e := by
  intro e
  induction e with
  | zero => intro _ _; rfl
  | succ e ih =>
    intro he hn
    unfold sp_nK
    rw [ih (by omega) (by omega), sp_F_congr h hok (by omega) (by omega)]
theorem sp_nP_congr {V V' : sV} {n : Nat} (h : vP n V V') (hok : sp_ok V) : ∀ e, e ≤ n → (e : Int) ≤ (V 1 2).toInt → sp_nP V' e = sp_nP V e := by
  intro e
  induction e with
  | zero => intro _ _; rfl
  | succ e ih =>
    intro he hn
    unfold sp_nP
    rw [ih (by omega) (by omega), sp_F_congr h hok (by omega) (by omega)]
theorem sp_E_congr {V V' : sV} {n : Nat} (h : vP n V V') (hok : sp_ok V) : ∀ e, e ≤ n → (e : Int) ≤ (V 1 2).toInt → sp_E V' e = sp_E V e := by
  intro e
  induction e with
  | zero => intro _ _; rfl
  | succ e ih =>
    intro he hn
    unfold sp_E
    rw [ih (by omega) (by omega), sp_F_congr h hok (by omega) (by omega)]
theorem sp_fs_congr {K K' : Nat → Int32} : ∀ (m e : Nat), (∀ j, e ≤ j → j < e + m → K' j = K j) → sp_fs K' m e = sp_fs K m e := by
  intro m
  induction m with
  | zero => intro e _; rfl
  | succ m ih =>
    intro e h
    unfold sp_fs
    rw [h e (Nat.le_refl _) (by omega), ih (e + 1) (fun j h1 h2 => h j (by omega) (by omega))]
theorem sp_ls_congr {K K' : Nat → Int32} : ∀ (m : Nat), (∀ j, j < m → K' j = K j) → sp_ls K' m = sp_ls K m := by
  intro m
  induction m with
  | zero => intro _; rfl
  | succ m ih =>
    intro h
    unfold sp_ls
    rw [h m (by omega), ih (fun j h1 => h j (by omega))]
theorem sp_spr_congr {V V' : sV} {n e ax : Nat} (h : vP n V V') (hok : sp_ok V) (he : e < n) (hn : (n : Int) ≤ (V 1 2).toInt) : sp_spr V' n e ax = sp_spr V n e ax := by
  have hF : ∀ j, j < n → sp_F V' j = sp_F V j := fun j hj => sp_F_congr h hok hj (by omega)
  have hP : ∀ j, j ≤ n → sp_P V' j = sp_P V j := fun j hj => sp_P_congr h hok j hj (by omega)
  obtain ⟨f1, f2, _⟩ := sp_fs_in (fun j => sp_F V j 0) (n - e) e
  have hl := sp_ls_in (fun j => sp_F V j 0) e
  unfold sp_spr
  rw [sp_fs_congr (K := fun j => sp_F V j 0) (K' := fun j => sp_F V' j 0) (n - e) e (fun j _ h2 => congrFun (hF j (by omega)) 0), sp_ls_congr (K := fun j => sp_F V j 0) (K' := fun j => sp_F V' j 0) e (fun j h2 => congrFun (hF j (by omega)) 0)]
  generalize sp_fs (fun j => sp_F V j 0) (n - e) e = f at f1 f2 ⊢
  generalize sp_ls (fun j => sp_F V j 0) e = l at hl ⊢
  rw [hP (e + 1) (by omega), hP l (by omega), hP e (by omega)]
  by_cases hf : f = n
  · rw [if_pos hf, if_pos hf]
  · rw [if_neg hf, if_neg hf, hP (f + 1) (by omega), hF f (by omega)]
