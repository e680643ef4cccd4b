theorem px_ifE {α : Type} {e : Nat} (he : e < 120) (a b : α) : (if nI e < 0 ∨ 120 ≤ (nI e).toNatClampNeg then a else b) = b := if_neg (px_kn (n := 120) he (by omega))
theorem px_ifC {α : Type} {e : Nat} (he : e < 120) (a b : α) : (if nI e < 0 ∨ 120 ≤ e then a else b) = b := if_neg (fun h => by
  have h1 := px_kn (n := 120) he (by omega)
  rw [px_k, nI_clamp (by omega)] at h1
  exact h1 h)
theorem pm_row {M : xm_M} {k j a : Nat} {v : Int32} (h : ¬ a = k) : (xm_s M k j v).1 a = M.1 a := by
  funext b
  rw [pm_s, if_neg (fun z => h z.1)]
/-- the model behind the corridors' pull -/
def pm_pulled (V : sV) (e : Nat) (h : Int32) (M : xm_M) : Option Nat → xm_M
  | none => M
  | some c => xm_s (xm_s (xm_s M 14 e (nI c)) 15 e (sp_pl V h c)) 0 20 (sp_head (h.toInt64 - (sp_pl V h c).toInt64))
theorem pm_corr {V : sV} {e nc : Nat} {h x y : Int32} {M : xm_M} (hA : mA V (M.1 1)) (he : e < 120) (hnc : V 1 0 = nI nc) (hn8 : nc ≤ 8) (eh : M.1 0 20 = h) (ex : M.1 0 18 = x) (ey : M.1 0 19 = y) :
    ∀ (n c : Nat), c ≤ nc → nc - c < n → fX4_findPull_2_it n (nI e) (nI c) M = some (pm_pulled V e h M (sp_fst (sp_pulls V x y h) (nc - c) c)) := by
  intro n
  induction n with
  | zero => intro c _ h9; omega
  | succ n ih =>
    intro c hc hn
    show fX4_findPull_2 (fX4_findPull_2_it n) (nI e) (nI c) M = _
    unfold fX4_findPull_2
    have h9 : M.1 1 9 = nI nc := by rw [← hnc]; exact hA.2.1 0 (by omega)
    by_cases hlt : c < nc
    · rw [if_neg (by rw [h9, nI_leI (by omega) (by omega)]; omega)]
      have hci : (c : Int) < (V 1 0).toInt := by rw [hnc, nI_toInt (by omega)]; omega
      obtain ⟨b, hb1, hb2⟩ := pm_near hA hci (by omega)
      rw [hb1, pb_i]
      rw [show nc - c = (nc - (c + 1)) + 1 by omega]
      unfold sp_fst
      have hnext : fX4_findPull_87 (fX4_findPull_2_it n) (nI e) (nI c) M = some (pm_pulled V e h M (sp_fst (sp_pulls V x y h) (nc - (c + 1)) (c + 1))) := by
        unfold fX4_findPull_87
        rw [pb_lt, show nI c + Int32.ofInt 1 = nI (c + 1) from (nI_succ c).symm]
        exact ih (c + 1) (by omega) (by omega)
      have hoff := pm_off hA hci (by omega)
      rw [eh] at hoff
      rw [ex, ey] at hb2
      by_cases hP : sp_pulls V x y h c
      · rw [if_pos hP, if_neg (hb2.mpr hP.1), hoff, pb_i, pm_size, pb_i, pm_set8, pb_i]
        have h8 : M.1 1 8 = V 0 8 := hA.1 8 (by omega)
        have h3 : ¬ M.1 1 8 < sp_ab32 (sp_off h (V 6 c)) := by rw [h8]; exact Int32.not_lt.mpr hP.2
        rw [if_neg h3, if_neg (px_kn he (by omega)), pb_lt, nI_clamp (by omega)]
        have hA2 : mA V ((xm_s M 14 e (nI c)).1 1) := by rw [pm_row (by omega)]; exact hA
        have hoff2 := pm_off hA2 hci (by omega)
        rw [hoff2, pb_i, pm_set6, pb_i, px_ifC he, pb_lt, px_ifC he]
        simp only [pm_s, Nat.reduceEqDiff, false_and, if_false, and_self, if_true]
        rw [show M.1 1 6 = V 0 6 from hA.1 6 (by omega), eh, pm_head, pb_i, pb_lt]
        rfl
      · rw [if_neg hP]
        by_cases hN : b = 0
        · rw [if_pos hN]
          exact hnext
        · rw [if_neg hN, hoff, pb_i, pm_size, pb_i, pm_set8, pb_i]
          have h8 : M.1 1 8 = V 0 8 := hA.1 8 (by omega)
          have h3 : M.1 1 8 < sp_ab32 (sp_off h (V 6 c)) := by
            rw [h8]
            exact Int32.not_le.mp (fun z => hP ⟨hb2.mp hN, z⟩)
          rw [if_pos h3]
          exact hnext
    · rw [if_pos (by rw [h9, nI_leI (by omega) (by omega)]; omega), show nc - c = 0 by omega]
      rfl
