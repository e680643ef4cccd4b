/-! THE LAW, from its entry to its end -/
section LL
variable {xs : Nat → Int32} {Ls : Nat}
theorem lw_law312 (hL : Ls ≤ 260) : ∀ (q k n : Nat) (M : xm_M), k ≤ 26 → 26 - k < q → n ≤ k → lwS n M → qA (fun _ => True) (fL_law_312_it xs Ls q (nI (8 + 2 * k)) (nI k) M) 1 := by
  intro q
  induction q with
  | zero => intro k _ _ _ h; omega
  | succ q ih =>
    intro k n M hk hq hnk hM
    show qA _ (fL_law_312 xs Ls (fL_law_312_it xs Ls q) (nI (8 + 2 * k)) (nI k) M) 1
    unfold fL_law_312
    have e26 : ((26 : Int32) ≤ nI k) = (26 ≤ k) := propext (nI_leI (a := 26) (by omega) (by omega))
    simp only [e26]
    have s1 : ∀ i, nI i + Int32.ofInt 1 = nI (i + 1) := fun i => (nI_succ i).symm
    by_cases h : 26 ≤ k
    · rw [if_pos h]
      refine qb (lw_way hM) (fun M hM => ?_)
      refine qf (by decide) ?_
      refine qb (lw_spread hM) (fun M hM => ?_)
      refine qf (by decide) ?_
      refine ql2 (s1 _) ?_
      obtain ⟨v1, hv1⟩ := lw_cell xs hL (show 8 + 2 * k < 1000 by omega) M
      refine qp hv1 ?_
      refine qb (lw_tried v1 hM) (fun M hM => ?_)
      refine qf (by decide) ?_
      refine qb (lw_fits hM) (fun M hM => ?_)
      refine qf (by decide) ?_
      refine ql2 (s1 _) ?_
      obtain ⟨v2, hv2⟩ := lw_cell xs hL (show 8 + 2 * k + 1 < 1000 by omega) M
      refine qp hv2 ?_
      refine qb (lw_told v2 hM) (fun M hM => ?_)
      refine qf (by decide) ?_
      refine ql2 (s1 _) ?_
      obtain ⟨v3, hv3⟩ := lw_cell xs hL (show 8 + 2 * k + 1 + 1 < 1000 by omega) M
      refine qp hv3 ?_
      refine qb (lw_kept v3 hM) (fun M hM => ?_)
      refine qf (by decide) ?_
      refine qb (lw_way hM) (fun M hM => ?_)
      refine qf (by decide) ?_
      exact qr trivial
    · rw [if_neg h]
      refine ql2 (s1 _) ?_
      obtain ⟨v1, hv1⟩ := lw_cell xs hL (show 8 + 2 * k < 1000 by omega) M
      refine qp hv1 ?_
      refine ql2 (s1 _) ?_
      obtain ⟨v2, hv2⟩ := lw_cell xs hL (show 8 + 2 * k + 1 < 1000 by omega) M
      refine qp hv2 ?_
      refine qb (lw_adds v1 v2 hM (by omega)) (fun M hM => ?_)
      refine qf (by decide) ?_
      refine ql2 (s1 _) ?_
      obtain ⟨n', hn', hM'⟩ := hM
      rw [show 8 + 2 * k + 1 + 1 = 8 + 2 * (k + 1) by omega]
      exact ih (k + 1) n' M (by omega) (by omega) (by omega) hM'
theorem lw_law174 (hL : Ls ≤ 260) : ∀ (q c : Nat) (M : xm_M), c ≤ 3 → 3 - c < q → lwB c M → qA (fun _ => True) (fL_law_174_it xs Ls q (nI (2 + 2 * c)) (nI c) M) 1 := by
  intro q
  induction q with
  | zero => intro c _ _ h; omega
  | succ q ih =>
    intro c M hc hq hM
    show qA _ (fL_law_174 xs Ls (fL_law_174_it xs Ls q) (nI (2 + 2 * c)) (nI c) M) 1
    unfold fL_law_174
    have e3 : ((3 : Int32) ≤ nI c) = (3 ≤ c) := propext (nI_leI (a := 3) (by omega) (by omega))
    simp only [e3]
    have s1 : ∀ i, nI i + Int32.ofInt 1 = nI (i + 1) := fun i => (nI_succ i).symm
    by_cases h : 3 ≤ c
    · rw [if_pos h]
      have hc3 : c = 3 := by omega
      subst hc3
      exact ql (lw_law312 hL xm_N 0 0 M (by omega) (by show 26 - 0 < 4096; omega) (Nat.le_refl _) (lwB_S hM))
    · rw [if_neg h]
      refine ql2 (s1 _) ?_
      obtain ⟨x, hx⟩ := lw_cell xs hL (show 2 + 2 * c < 1000 by omega) M
      refine qp hx ?_
      refine qp (lw_upM (by decide)) ?_
      refine qp (lw_upM (by decide)) ?_
      obtain ⟨a, a1, a2, a3⟩ := lw_up_in x (m := 4001) (k := 4001) rfl (by omega) (by omega)
      obtain ⟨b, b1, b2, b3⟩ := lw_up_in (x >>> ((12 : Int32) &&& 31)) (m := 4001) (k := 4001) rfl (by omega) (by omega)
      have c2 : (2000 : Int32).toInt = 2000 := rfl
      have ea : (lw_up x 4001 - 2000).toInt = (a : Int) - 2000 := by rw [pn_sub (by omega) (by omega), a3, c2]
      have eb : (lw_up (x >>> ((12 : Int32) &&& 31)) 4001 - 2000).toInt = (b : Int) - 2000 := by rw [pn_sub (by omega) (by omega), b3, c2]
      refine qx (lwB_mark (x := lw_up x 4001 - 2000) (y := lw_up (x >>> ((12 : Int32) &&& 31)) 4001 - 2000) hM (by omega) (by omega) (by omega)) (fun z M hM => ?_)
      refine ql2 (s1 _) ?_
      obtain ⟨y, hy⟩ := lw_cell xs hL (show 2 + 2 * c + 1 < 1000 by omega) M
      refine qp hy ?_
      refine qp (lw_upM (by decide)) ?_
      refine qp (lw_upM (by decide)) ?_
      refine qp (lw_upM (by decide)) ?_
      refine qp (lw_upM (by decide)) ?_
      refine qp (lw_upM (by decide)) ?_
      refine qx (lwB_corr _ _ _ _ _ hM) (fun z M hM => ?_)
      refine ql2 (s1 _) ?_
      rw [show 2 + 2 * c + 1 + 1 = 2 + 2 * (c + 1) by omega]
      exact ih (c + 1) M (by omega) (by omega) hM
theorem lw_law (hL : Ls ≤ 260) : qA (fun _ => True) (fL_law xs Ls xk_Mc) 1 := by
  have s1 : ∀ i, nI i + Int32.ofInt 1 = nI (i + 1) := fun i => (nI_succ i).symm
  unfold fL_law
  refine ql2 (v' := nI 0) rfl ?_
  refine ql2 (s1 _) ?_
  obtain ⟨x, hx⟩ := lw_cell xs hL (show 0 < 1000 by omega) xk_Mc
  refine qp hx ?_
  refine qb (lw_refused x) (fun M hM => ?_)
  refine qf (by decide) ?_
  refine ql2 (s1 _) ?_
  obtain ⟨y, hy⟩ := lw_cell xs hL (show 0 + 1 < 1000 by omega) M
  refine qp hy ?_
  have hB := lwB_J hM
  refine qp (lw_upM (by decide)) ?_
  refine qx (lwB_set _ _ hB) (fun z M hB => ?_)
  refine qp (lw_upM (by decide)) ?_
  refine qx (lwB_set _ _ hB) (fun z M hB => ?_)
  refine qp (lw_upM (by decide)) ?_
  refine qx (lwB_set _ _ hB) (fun z M hB => ?_)
  refine qp (lw_upM (by decide)) ?_
  refine qx (lwB_set _ _ hB) (fun z M hB => ?_)
  refine qp (lw_upM (by decide)) ?_
  refine qx (lwB_set _ _ hB) (fun z M hB => ?_)
  refine qp (lw_upM (by decide)) ?_
  refine qx (lwB_set _ _ hB) (fun z M hB => ?_)
  refine qp (lw_upM (by decide)) ?_
  refine qp (lw_upM (by decide)) ?_
  refine qp (lw_upM (by decide)) ?_
  refine qx (lwB_begin _ _ _ hB) (fun z M hB => ?_)
  exact ql (lw_law174 hL xm_N 0 M (by omega) (by show 3 - 0 < 4096; omega) hB)
end LL
theorem lw_pure : xl_Pure := fun xs Ls hL => by
  obtain ⟨M1, h, _⟩ := lw_law (xs := xs) hL
  exact ⟨M1, h⟩
