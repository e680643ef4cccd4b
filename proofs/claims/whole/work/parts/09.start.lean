theorem xs_r {D : va_G} {wr wc : va_W} {H : Heap} (hP : va_P D vwCl (wr ++ wc) H) : va_P D vwCl wc H := fun k q h => hP (wr.length + k) q (by rw [List.getElem?_append_right (by omega), show wr.length + k - wr.length = k by omega]; exact h)
theorem xs_l {D : va_G} {wr wc : va_W} {H : Heap} (hP : va_P D vwCl (wr ++ wc) H) : va_P D vwCl wr H := fun k q h => hP k q (by rw [List.getElem?_append_left (List.getElem?_eq_some_iff.mp h).1]; exact h)
theorem xs_rD {A : Nat → Prop} {wr wc : va_W} (hD : va_D A (wr ++ wc)) : va_D A wc := by
  have key : ∀ (k : Nat) (q : Nat × va_E), wc[k]? = some q → (wr ++ wc)[wr.length + k]? = some q := fun k q h => by rw [List.getElem?_append_right (by omega), show wr.length + k - wr.length = k by omega]; exact h
  exact ⟨fun i j x y hi hj hxy => by have := hD.1 _ _ x y (key i x hi) (key j y hj) hxy; omega, fun k q h => hD.2 _ q (key k q h)⟩
theorem xs_lD {A : Nat → Prop} {wr wc : va_W} (hD : va_D A (wr ++ wc)) : va_D A wr := by
  have key : ∀ (k : Nat) (q : Nat × va_E), wr[k]? = some q → (wr ++ wc)[k]? = some q := fun k q h => by rw [List.getElem?_append_left (List.getElem?_eq_some_iff.mp h).1]; exact h
  exact ⟨fun i j x y hi hj hxy => hD.1 _ _ x y (key i x hi) (key j y hj) hxy, fun k q h => hD.2 _ q (key k q h)⟩
theorem xs_F {s : State} {wc : va_W} {H : Heap} {locs : List Loc} (hD : va_D (fun q : Nat => s.heap.size ≤ q) wc) (hS : va_S (fun q : Nat => s.heap.size ≤ q) s.heap H locs) : ∀ q, va_A wc H.size q → s.heap.size ≤ q := fun q h => by
  rcases h with ⟨k, e, h⟩ | h
  · exact hD.2 k (q, e) h
  · exact Nat.le_trans hS.1 h
theorem xs_inj {A : Nat → Prop} {L : List xm_Sh} {g : xm_G} {M : xm_M} (hD : va_D A (xm_w L g M)) : xm_inj L g ∧ ∀ k, k < L.length → A (g.1 k) := by
  refine ⟨fun i j hi hj h => hD.1 i j _ _ (xm_w_at (List.getElem?_eq_getElem hi)) (xm_w_at (List.getElem?_eq_getElem hj)) h, fun k hk => hD.2 k _ (xm_w_at (List.getElem?_eq_getElem hk))⟩
theorem xs_dis {A : Nat → Prop} {L1 L2 : List xm_Sh} {g1 g2 : xm_G} {M N : xm_M} (hD : va_D A (xm_w L1 g1 M ++ xm_w L2 g2 N)) : ∀ k j, k < L1.length → j < L2.length → g1.1 k ≠ g2.1 j := fun k j hk hj h => by
  have h1 : (xm_w L1 g1 M ++ xm_w L2 g2 N)[k]? = some (g1.1 k, xm_cell g1 L1[k] (M.1 k) (M.2 k)) := by
    rw [List.getElem?_append_left (by rw [xm_w_len]; exact hk)]; exact xm_w_at (List.getElem?_eq_getElem hk)
  have h2 : (xm_w L1 g1 M ++ xm_w L2 g2 N)[L1.length + j]? = some (g2.1 j, xm_cell g2 L2[j] (N.1 j) (N.2 j)) := by
    rw [List.getElem?_append_right (by rw [xm_w_len]; omega), xm_w_len, show L1.length + j - L1.length = j by omega]; exact xm_w_at (List.getElem?_eq_getElem hj)
  have := hD.1 _ _ _ _ h1 h2 h
  omega
theorem xs_arr {s : State} {args : Array Value} {ty : FieldType} (h : (Cond.arrayClass ty).before args s = true) : ∃ c : ClassId, ArrOfT s c ty ∧ s.vm.findClass ("[" ++ ty.toString) = some c := by
  obtain ⟨c, k, comp, h1, h2, h3⟩ := Cond.arrayClass_spec h
  exact ⟨c, fun n z => ⟨fun j hj => (by cases hj), k, h2, comp, h3⟩, h1⟩
theorem xs_over {s : State} {args : Array Value} (h : (Cond.arrayOver (.array .int)).before args s = true) : ∃ c : ClassId, ArrOfT s c (.array .int) ∧ s.vm.findClass "[[I" = some c := by
  obtain ⟨comp, c, k, h1, h2, h3, h4, h5⟩ := xk_over h
  exact ⟨c, fun n z => ⟨fun j hj => (by cases hj), k, h3, comp, h4⟩, h5⟩
/-- the table of the first values, out of the premises -/
theorem xs_FV {s : State} {args : Array Value} {A : Nat → Prop} (hA : ∀ a : Nat, a < s.heap.size → ¬ A a) (hl : (Cond.laysStatic "OdometryDesk" "FIRST_VALUES" "[I").before args s = true) (hi : (Cond.initialized "OdometryDesk").before args s = true)
    (hlen : (Term.length (Term.static "OdometryDesk" "FIRST_VALUES" "[I")).eval args s none [] s = some (.int 9)) (hel : ∀ j : Nat, j < 9 → (Term.elem (Term.static "OdometryDesk" "FIRST_VALUES" "[I") (.int (Int32.ofNat j))).eval args s none [] s = some (.int (xk_fv j))) (hex : (Cond.exactly (Term.static "OdometryDesk" "FIRST_VALUES" "[I") "[I").before args s = true) : xk_FV A s s.heap := by
  obtain ⟨t, cell, ht, hat, hv⟩ := Term.length_spec hlen
  obtain ⟨hcell, hkn, hst, -⟩ := State.arrayAt?_spec hat
  have hsm : cell.slots.size < 2 ^ 31 := by
    have hv2 := hlen
    simp only [Term.eval, Option.bind_eq_bind] at hv2
    have ht2 : (Term.static "OdometryDesk" "FIRST_VALUES" "[I").eval args s none [] s = some (.ref t) := ht
    simp only [Term.eval, Option.bind_eq_bind] at ht2
    rw [ht2] at hv2
    simp only [Option.bind_some, hat] at hv2
    by_cases hlt : cell.slots.size < 2147483648
    · exact hlt
    · simp [hlt] at hv2
  have hsz : cell.slots.size = 9 := by
    have h2 := Value.int.inj hv
    have h3 : (cell.slots.size.toInt32).toInt = (cell.slots.size : Int) := nI_toInt hsm
    rw [← h2] at h3
    have h4 : (9 : Int32).toInt = 9 := rfl
    omega
  obtain ⟨t2, c2, cell2, k2, g1, g2, g3, g4, g5, g6, -⟩ := Cond.exactly_spec hex
  cases ht.symm.trans g1
  cases hcell.symm.trans g3
  refine ⟨t, cell, c2, va_Zref hl hi ht hA, hcell, g2, g6, ?_, hkn, hst, hA t (Array.getElem?_eq_some_iff.mp hcell).1⟩
  have hz : (vp_cell c2 (9, .inl xk_fv)).slots.size = 9 := arrV_size _ _ _
  apply Array.ext_getElem?
  intro j
  by_cases hj : j < 9
  · obtain ⟨a, i, cell3, h1, h2, h3, h4, h5⟩ := Term.elem_spec (hel j hj)
    cases ht.symm.trans h1
    cases hat.symm.trans h3
    have hij : i = Int32.ofNat j := by
      have e : (Term.int (Int32.ofNat j)).eval args s none [] s = some (.int (Int32.ofNat j)) := rfl
      cases h2.symm.trans e
      rfl
    have hc : i.toNatClampNeg = j := by rw [hij]; exact Int32.toNatClampNeg_ofNat_of_lt (by omega)
    rw [hc] at h5
    rw [h5]
    show _ = (arrV c2 9 (fun j => .int (xk_fv j))).slots[j]?
    rw [arrV_read _ _ hj]
  · rw [Array.getElem?_eq_none (by omega), Array.getElem?_eq_none (by omega)]
set_option maxHeartbeats 4000000 in
set_option maxRecDepth 100000 in
theorem xs_cls {p : Program} {s : State} {m : MethodId} {meth : Method} {c : Code} {b L : Nat} {xs : Nat → Int32} (C0 : lw_At p s m meth c b L xs) : ∃ D : va_G, ∀ (k : Nat) (q : vw_C), vwCl[k]? = some q → u_Kn s q.1 q.2.1 q.2.2 (D.1 k) (D.2 k) := by
  obtain ⟨hx, hb, hr, hml, hown, hts, hX, hbl, hlocks, hgv⟩ := id C0
  have hs := flat_of_before _ hgv
  have hA9 : ∀ a : Nat, a < s.heap.size → ¬ (fun q : Nat => s.heap.size ≤ q) a := fun _ h => Nat.not_le.mpr h
  obtain ⟨c0, iS0, hKn0⟩ := u_known (C := RX0) (T := TX0) (N := 5) (n := 5) hts (fun z hz => lw_gd_in z (iw_X0 z hz)) (hts (.instantiable RX0 5) (lw_gd_in _ gm_108))
  obtain ⟨c1, iS1, hKn1⟩ := u_known (C := RX1) (T := TX1) (N := 11) (n := 11) hts (fun z hz => lw_gd_in z (iw_X1 z hz)) (hts (.instantiable RX1 11) (lw_gd_in _ gm_18))
  obtain ⟨c2, iS2, hKn2⟩ := u_known (C := RX2) (T := TX2) (N := 12) (n := 12) hts (fun z hz => lw_gd_in z (iw_X2 z hz)) (hts (.instantiable RX2 12) (lw_gd_in _ gm_70))
  obtain ⟨c3, iS3, hKn3⟩ := u_known (C := RX3) (T := TX3) (N := 6) (n := 6) hts (fun z hz => lw_gd_in z (iw_X3 z hz)) (hts (.instantiable RX3 6) (lw_gd_in _ gm_10))
  obtain ⟨c4, iS4, hKn4⟩ := u_known (C := RX4) (T := TX4) (N := 27) (n := 27) hts (fun z hz => lw_gd_in z (iw_X4 z hz)) (hts (.instantiable RX4 27) (lw_gd_in _ gm_427))
  refine ⟨(fun k => if k = 0 then c0 else if k = 1 then c1 else if k = 2 then c2 else if k = 3 then c3 else c4, fun k => if k = 0 then iS0 else if k = 1 then iS1 else if k = 2 then iS2 else if k = 3 then iS3 else iS4), ?_⟩
  intro k q hq
  match k, hq with
  | 0, hq => cases hq; exact hKn0
  | 1, hq => cases hq; exact hKn1
  | 2, hq => cases hq; exact hKn2
  | 3, hq => cases hq; exact hKn3
  | 4, hq => cases hq; exact hKn4
  | k + 5, hq => simp [vwCl] at hq
set_option maxHeartbeats 4000000 in
set_option maxRecDepth 100000 in
theorem xs_K {p : Program} {s : State} {m : MethodId} {meth : Method} {c : Code} {b L : Nat} {xs : Nat → Int32} (C0 : lw_At p s m meth c b L xs) : ∃ (D : va_G) (cI cII cZ : ClassId), va_K D vwCl (xk_tl cI cII [(cZ, .boolean)]) s := by
  obtain ⟨hx, hb, hr, hml, hown, hts, hX, hbl, hlocks, hgv⟩ := id C0
  have hs := flat_of_before _ hgv
  have hA9 : ∀ a : Nat, a < s.heap.size → ¬ (fun q : Nat => s.heap.size ≤ q) a := fun _ h => Nat.not_le.mpr h
  obtain ⟨D, hKc⟩ := xs_cls C0
  obtain ⟨cI, aI, nI9⟩ := xs_arr (hts _ (lw_gd_in _ gm_68))
  obtain ⟨cZ, aZ, nZ9⟩ := xs_arr (hts _ (lw_gd_in _ gm_487))
  obtain ⟨cII, aII, nII9⟩ := xs_over (hts _ (List.mem_append_right _ (lw_in1 (List.mem_of_getElem? (i := 33) rfl))))
  refine ⟨D, cI, cII, cZ, hKc, fun k q hq => ?_⟩
  match k, hq with
  | 0, hq => cases hq; exact ⟨aI, nI9⟩
  | 1, hq => cases hq; exact ⟨aII, nII9⟩
  | 2, hq => cases hq; exact ⟨aZ, nZ9⟩
  | k + 3, hq => simp at hq
set_option maxHeartbeats 4000000 in
set_option maxRecDepth 100000 in
theorem xs_Nx {p : Program} {s : State} {m : MethodId} {meth : Method} {c : Code} {b L : Nat} {xs : Nat → Int32} (C0 : lw_At p s m meth c b L xs) : xm_Nx s := by
  obtain ⟨hx, hb, hr, hml, hown, hts, hX, hbl, hlocks, hgv⟩ := id C0
  have hs := flat_of_before _ hgv
  have hA9 : ∀ a : Nat, a < s.heap.size → ¬ (fun q : Nat => s.heap.size ≤ q) a := fun _ h => Nat.not_le.mpr h
  exact (List.forall_mem_cons.mpr ⟨va_Nw.of rfl (hts _ (List.mem_append_right _ (lw_in2 (List.mem_of_getElem? (i := 5) rfl)))), (List.forall_mem_cons.mpr ⟨va_Nw.of rfl (hts _ (List.mem_append_right _ (lw_in2 (List.mem_of_getElem? (i := 8) rfl)))), (List.forall_mem_cons.mpr ⟨va_Nw.of rfl (hts _ (List.mem_append_right _ (lw_in2 (List.mem_of_getElem? (i := 39) rfl)))), (List.forall_mem_cons.mpr ⟨va_Nw.of rfl (hts _ (List.mem_append_right _ (lw_in2 (List.mem_of_getElem? (i := 44) rfl)))), (List.forall_mem_cons.mpr ⟨va_Nw.of rfl (hts _ (List.mem_append_right _ (lw_in2 (List.mem_of_getElem? (i := 51) rfl)))), (List.forall_mem_cons.mpr ⟨va_Nw.of rfl (hts _ (List.mem_append_right _ (lw_in2 (List.mem_of_getElem? (i := 56) rfl)))), (List.forall_mem_cons.mpr ⟨va_Nw.of rfl (hts _ (List.mem_append_right _ (lw_in2 (List.mem_of_getElem? (i := 57) rfl)))), (List.forall_mem_cons.mpr ⟨va_Nw.of rfl (hts _ (List.mem_append_right _ (lw_in2 (List.mem_of_getElem? (i := 65) rfl)))), (List.forall_mem_cons.mpr ⟨va_Nw.of rfl (hts _ (List.mem_append_right _ (lw_in2 (List.mem_of_getElem? (i := 83) rfl)))), (List.forall_mem_cons.mpr ⟨va_Nw.of rfl (hts _ (List.mem_append_right _ (lw_in2 (List.mem_of_getElem? (i := 90) rfl)))), (List.forall_mem_cons.mpr ⟨va_Nw.of rfl (hts _ (List.mem_append_right _ (lw_in2 (List.mem_of_getElem? (i := 94) rfl)))), (List.forall_mem_cons.mpr ⟨va_Nw.of rfl (hts _ (List.mem_append_right _ (lw_in2 (List.mem_of_getElem? (i := 195) rfl)))), (List.forall_mem_cons.mpr ⟨va_Nw.of rfl (hts _ (List.mem_append_right _ (lw_in2 (List.mem_of_getElem? (i := 200) rfl)))), (List.forall_mem_cons.mpr ⟨va_Nw.of rfl (hts _ (List.mem_append_right _ (lw_in2 (List.mem_of_getElem? (i := 221) rfl)))), (List.forall_mem_cons.mpr ⟨va_Nw.of rfl (hts _ (List.mem_append_right _ (lw_in3 (List.mem_of_getElem? (i := 17) rfl)))), (List.forall_mem_cons.mpr ⟨va_Nw.of rfl (hts _ (List.mem_append_right _ (lw_in3 (List.mem_of_getElem? (i := 18) rfl)))), (fun _ h => absurd h List.not_mem_nil)⟩)⟩)⟩)⟩)⟩)⟩)⟩)⟩)⟩)⟩)⟩)⟩)⟩)⟩)⟩)⟩)
set_option maxHeartbeats 4000000 in
set_option maxRecDepth 100000 in
theorem xs_TLOWEST {p : Program} {s : State} {m : MethodId} {meth : Method} {c : Code} {b L : Nat} {xs : Nat → Int32} (C0 : lw_At p s m meth c b L xs) : ∃ t : Nat, va_Z "OdometryDesk" "LOWEST" "[I" (.ref t) (fun q : Nat => s.heap.size ≤ q) s s.heap ∧ va_T .int t 9 (fun j => .int (xm_low j)) (fun q : Nat => s.heap.size ≤ q) s s.heap := by
  obtain ⟨hx, hb, hr, hml, hown, hts, hX, hbl, hlocks, hgv⟩ := id C0
  have hs := flat_of_before _ hgv
  have hA9 : ∀ a : Nat, a < s.heap.size → ¬ (fun q : Nat => s.heap.size ≤ q) a := fun _ h => Nat.not_le.mpr h
  obtain ⟨t, et, Tt⟩ := va_Tof (tm := (Jvm.Term.static "OdometryDesk" "LOWEST" "[I")) (ty := .int) (N := 9) (f := fun j => .int (xm_low j)) (A := fun q : Nat => s.heap.size ≤ q) (by decide) (hs _ (by decide +kernel)) (va_eqt (z := 9) (hs _ (by decide +kernel))) (fun j hj => by
    match j, hj with
    | 0, _ => exact va_eqt (z := 100) (hs _ (by decide +kernel))
    | 1, _ => exact va_eqt (z := 100) (hs _ (by decide +kernel))
    | 2, _ => exact va_eqt (z := 100) (hs _ (by decide +kernel))
    | 3, _ => exact va_eqt (z := 0) (hs _ (by decide +kernel))
    | 4, _ => exact va_eqt (z := 0) (hs _ (by decide +kernel))
    | 5, _ => exact va_eqt (z := 1) (hs _ (by decide +kernel))
    | 6, _ => exact va_eqt (z := 0) (hs _ (by decide +kernel))
    | 7, _ => exact va_eqt (z := 0) (hs _ (by decide +kernel))
    | 8, _ => exact va_eqt (z := 0) (hs _ (by decide +kernel))
    | j + 9, h => exact absurd h (by omega)) hA9
  exact ⟨t, va_Zref (hts _ (List.mem_append_right _ (lw_in1 (List.mem_of_getElem? (i := 194) rfl)))) (hts _ (lw_gd_in _ gm_1)) et hA9, Tt⟩
set_option maxHeartbeats 4000000 in
set_option maxRecDepth 100000 in
theorem xs_THIGHEST {p : Program} {s : State} {m : MethodId} {meth : Method} {c : Code} {b L : Nat} {xs : Nat → Int32} (C0 : lw_At p s m meth c b L xs) : ∃ t : Nat, va_Z "OdometryDesk" "HIGHEST" "[I" (.ref t) (fun q : Nat => s.heap.size ≤ q) s s.heap ∧ va_T .int t 9 (fun j => .int (xm_high j)) (fun q : Nat => s.heap.size ≤ q) s s.heap := by
  obtain ⟨hx, hb, hr, hml, hown, hts, hX, hbl, hlocks, hgv⟩ := id C0
  have hs := flat_of_before _ hgv
  have hA9 : ∀ a : Nat, a < s.heap.size → ¬ (fun q : Nat => s.heap.size ≤ q) a := fun _ h => Nat.not_le.mpr h
  obtain ⟨t, et, Tt⟩ := va_Tof (tm := (Jvm.Term.static "OdometryDesk" "HIGHEST" "[I")) (ty := .int) (N := 9) (f := fun j => .int (xm_high j)) (A := fun q : Nat => s.heap.size ≤ q) (by decide) (hs _ (by decide +kernel)) (va_eqt (z := 9) (hs _ (by decide +kernel))) (fun j hj => by
    match j, hj with
    | 0, _ => exact va_eqt (z := 2000) (hs _ (by decide +kernel))
    | 1, _ => exact va_eqt (z := 2000) (hs _ (by decide +kernel))
    | 2, _ => exact va_eqt (z := 1000) (hs _ (by decide +kernel))
    | 3, _ => exact va_eqt (z := 200000) (hs _ (by decide +kernel))
    | 4, _ => exact va_eqt (z := 100) (hs _ (by decide +kernel))
    | 5, _ => exact va_eqt (z := 64) (hs _ (by decide +kernel))
    | 6, _ => exact va_eqt (z := 100) (hs _ (by decide +kernel))
    | 7, _ => exact va_eqt (z := 2000) (hs _ (by decide +kernel))
    | 8, _ => exact va_eqt (z := 900000) (hs _ (by decide +kernel))
    | j + 9, h => exact absurd h (by omega)) hA9
  exact ⟨t, va_Zref (hts _ (List.mem_append_right _ (lw_in1 (List.mem_of_getElem? (i := 196) rfl)))) (hts _ (lw_gd_in _ gm_1)) et hA9, Tt⟩
set_option maxHeartbeats 4000000 in
set_option maxRecDepth 100000 in
theorem xs_B {p : Program} {s : State} {m : MethodId} {meth : Method} {c : Code} {b L : Nat} {xs : Nat → Int32} (C0 : lw_At p s m meth c b L xs) : xk_B (fun q : Nat => s.heap.size ≤ q) s s.heap := by
  obtain ⟨hx, hb, hr, hml, hown, hts, hX, hbl, hlocks, hgv⟩ := id C0
  have hs := flat_of_before _ hgv
  have hA9 : ∀ a : Nat, a < s.heap.size → ¬ (fun q : Nat => s.heap.size ≤ q) a := fun _ h => Nat.not_le.mpr h
  have hlenF : (Term.length (Jvm.Term.static "OdometryDesk" "FIRST_VALUES" "[I")).eval #[Value.ref b] s none [] s = some (.int 9) := va_eqt (hs _ (by decide +kernel))
  have hFV : xk_FV (fun q : Nat => s.heap.size ≤ q) s s.heap := xs_FV hA9 (hts _ (List.mem_append_right _ (lw_in1 (List.mem_of_getElem? (i := 24) rfl)))) (hts _ (lw_gd_in _ gm_1)) hlenF (fun j hj => by
    match j, hj with
    | 0, _ => exact va_eqt (z := 500) (hs _ (by decide +kernel))
    | 1, _ => exact va_eqt (z := 500) (hs _ (by decide +kernel))
    | 2, _ => exact va_eqt (z := 300) (hs _ (by decide +kernel))
    | 3, _ => exact va_eqt (z := 20000) (hs _ (by decide +kernel))
    | 4, _ => exact va_eqt (z := 50) (hs _ (by decide +kernel))
    | 5, _ => exact va_eqt (z := 8) (hs _ (by decide +kernel))
    | 6, _ => exact va_eqt (z := 30) (hs _ (by decide +kernel))
    | 7, _ => exact va_eqt (z := 300) (hs _ (by decide +kernel))
    | 8, _ => exact va_eqt (z := 100000) (hs _ (by decide +kernel))
    | j + 9, h => exact absurd h (by omega)) (hs _ (by decide +kernel))
  exact ⟨(List.forall_mem_cons.mpr ⟨va_Nw.of rfl (hts _ (List.mem_append_right _ (lw_in1 (List.mem_of_getElem? (i := 19) rfl)))), (List.forall_mem_cons.mpr ⟨va_Nw.of rfl (hts _ (List.mem_append_right _ (lw_in1 (List.mem_of_getElem? (i := 88) rfl)))), (List.forall_mem_cons.mpr ⟨va_Nw.of rfl (hts _ (List.mem_append_right _ (lw_in1 (List.mem_of_getElem? (i := 140) rfl)))), (fun _ h => absurd h List.not_mem_nil)⟩)⟩)⟩), va_Nw.of rfl (hts _ (List.mem_append_right _ (lw_in1 (List.mem_of_getElem? (i := 23) rfl)))), va_Nw.of rfl (hts _ (List.mem_append_right _ (lw_in1 (List.mem_of_getElem? (i := 30) rfl)))), hts _ (List.mem_append_right _ (lw_in1 (List.mem_of_getElem? (i := 33) rfl))), hFV⟩
set_option maxHeartbeats 400000 in
set_option maxRecDepth 100000 in
theorem xs_tyok {cI cII cZ : ClassId} {LL : List xm_Sh} {aa : Nat → Nat} (h : LL.all (fun sh => match sh with | .inl a => decide ((a.1 = 0 ∧ a.2.1 = .int) ∨ (a.1 = 2 ∧ a.2.1 = .boolean)) | _ => true) = true) : xm_tyok LL (aa, xk_tl cI cII [(cZ, .boolean)]) := fun k sh hk => by
  have h2 := List.all_eq_true.mp h sh (List.mem_of_getElem? hk)
  match sh, h2 with
  | .inl (t, ty, n), h2 =>
    rcases (of_decide_eq_true h2) with ⟨h3, h4⟩ | ⟨h3, h4⟩
    · have h3 : t = 0 := h3
      have h4 : ty = .int := h4
      subst h3; subst h4; rfl
    · have h3 : t = 2 := h3
      have h4 : ty = .boolean := h4
      subst h3; subst h4; rfl
  | .inr (.inl _), _ => rfl
  | .inr (.inr _), _ => trivial
theorem xs_tyc {cI cII cZ : ClassId} {aa : Nat → Nat} : xm_tyok cL (aa, xk_tl cI cII [(cZ, .boolean)]) := xs_tyok (by decide +kernel)
theorem xs_tym {cI cII cZ : ClassId} {aa : Nat → Nat} : xm_tyok mL (aa, xk_tl cI cII [(cZ, .boolean)]) := xs_tyok (by decide +kernel)
set_option maxHeartbeats 400000 in
set_option maxRecDepth 100000 in
theorem xs_end {Rel : xm_M → xm_M → Prop} (hsim : xl_Sim Rel) (hRel : Rel xk_Mc xk_Mm) {p : Program} {e : Env} {s : State} {m : MethodId} {below : List Frame} {meth : Method} {c : Code} (l : Launch) {b L : Nat} {xs : Nat → Int32} (hL : L ≤ 3072) (C0 : lw_At p s m meth c b L xs) {D : va_G} {cI cII cZ : ClassId} (hK : va_K D vwCl (xk_tl cI cII [(cZ, .boolean)]) s) (hNx : xm_Nx s) (hSt : xm_St (fun q : Nat => s.heap.size ≤ q) s s.heap) {ad ad2 : Nat → Nat} {ls : Array Slot} (hl : lv_has ls 4 [(1, .ref (ad 0)), (0, .ref b)]) {H : Heap} {locs : List Loc} (hP : va_P D vwCl (xm_w cL (ad, xk_tl cI cII [(cZ, .boolean)]) xk_Mc ++ xm_w mL (ad2, xk_tl cI cII [(cZ, .boolean)]) xk_Mm) H) (hD : va_D (fun q : Nat => s.heap.size ≤ q) (xm_w cL (ad, xk_tl cI cII [(cZ, .boolean)]) xk_Mc ++ xm_w mL (ad2, xk_tl cI cII [(cZ, .boolean)]) xk_Mm)) (hS : va_S (fun q : Nat => s.heap.size ≤ q) s.heap H locs) : W p l e room_1 s m #[Value.ref b] below meth c H locs 600000 7302250 (lw_Z below #[Value.ref b] s) (F0 m 15 ls [.ref (ad2 0)]) := by
  obtain ⟨hx, hb, hr, hml, hown, hts, hX, hbl, hlocks, hgv⟩ := id C0
  refine lv_astore_n (lv' := [(2, .ref (ad2 0)), (1, .ref (ad 0)), (0, .ref b)]) hx hb dL_law_15 rfl hl (by decide) rfl (fun ls hl => ?_)
  refine lv_iconst (v := 0) hx hb dL_law_16 (by decide) ?_
  refine lv_istore_n (lv' := [(3, .int 0), (2, .ref (ad2 0)), (1, .ref (ad 0)), (0, .ref b)]) hx hb dL_law_17 rfl hl (by decide) rfl (fun ls hl => ?_)
  have hi1 := xs_inj (xs_lD hD)
  have hi2 := xs_inj (xs_rD hD)
  exact law_loop hsim (g := (ad, xk_tl cI cII [(cZ, .boolean)])) (g2 := (ad2, xk_tl cI cII [(cZ, .boolean)])) ⟨⟨hx, hb, hml, hown, hts⟩, hr, hlocks, hX, hbl, hL, hK, rfl, hNx, hSt, hi1.1, hi2.1, xs_tyc, xs_tym, hi1.2, hi2.2, xs_dis hD⟩ (L + 6) 0 0 (by omega) (Nat.zero_le L) nI_0.symm xk_Mc xk_Mm hRel ls (lv_sub hl [3, 2, 1, 0] rfl) H _ (xs_l hP) (xs_r hP) hS
set_option maxHeartbeats 800000 in
set_option maxRecDepth 100000 in
theorem xs_start {Rel : xm_M → xm_M → Prop} (hsim : xl_Sim Rel) (hRel : Rel xk_Mc xk_Mm) {p : Program} {e : Env} {s : State} {m : MethodId} {below : List Frame} {meth : Method} {c : Code} (l : Launch) {b L : Nat} {xs : Nat → Int32} (hL : L ≤ 3072) (C0 : lw_At p s m meth c b L xs) : W p l e room_1 s m #[Value.ref b] below meth c s.heap [] 0 0 (lw_Z below #[Value.ref b] s) (entryFrame m ([Value.ref b] : List Value).toArray 4) := by
  obtain ⟨hx, hb, hr, hml, hown, hts, hX, hbl, hlocks, hgv⟩ := id C0
  have hA : ∀ q : Nat, s.heap.size ≤ q → (fun q : Nat => s.heap.size ≤ q) q := fun _ h => h
  have hA9 : ∀ a : Nat, a < s.heap.size → ¬ (fun q : Nat => s.heap.size ≤ q) a := fun _ h => Nat.not_le.mpr h
  obtain ⟨D, cI, cII, cZ, hK⟩ := xs_K C0
  have hNx := xs_Nx C0
  have hB := xs_B C0
  obtain ⟨tl, hZl, hTl⟩ := xs_TLOWEST C0
  obtain ⟨th, hZh, hTh⟩ := xs_THIGHEST C0
  have hSt : xm_St (fun q : Nat => s.heap.size ≤ q) s s.heap := ⟨tl, th, hZl, hTl, hZh, hTh⟩
  have hS : va_S (fun q : Nat => s.heap.size ≤ q) s.heap s.heap [] := va_S.rf
  have hP : va_P D vwCl [] s.heap := fun k q h => by simp at h
  have hD : va_D (fun q : Nat => s.heap.size ≤ q) [] := ⟨fun i j p q h => by simp at h, fun k q h => by simp at h⟩
  have hl := lv_entry ([.ref b]) (n := 4) (Nat.le_of_ble_eq_true rfl)
  rw [lg_entry_eq]
  generalize (lg_sl ([.ref b]) ++ List.replicate (4 - (lg_sl ([.ref b])).length) Slot.unset).toArray = ls at hl ⊢
  have hl : lv_has ls 4 [(0, .ref b)] := hl
  refine va_new (ci := 3) (fs := [.null, .null, .null, .null, .null, .null]) (C := RX3) (T := TX3) (N := 6) hx hb hts (fun z hz => lw_gd_in z (iw_X3 z hz)) tyX3 tyX3_ok hown (hts (.classLink RL 7 RX3) (lw_gd_in _ gm_9)) (hts (.instantiable RX3 6) (lw_gd_in _ gm_10)) (hts (.initialized RX3) (lw_gd_in _ gm_1)) hK hP hD hS hA rfl (fun j hj => match j, hj with | 0, _ => rfl | 1, _ => rfl | 2, _ => rfl | 3, _ => rfl | 4, _ => rfl | 5, _ => rfl | j + 6, h => absurd h (by omega)) (Nat.le_of_ble_eq_true rfl) (Nat.le_of_ble_eq_true rfl) dL_law_0 (fun q0 H hP hD hS => ?_)
  have hP : va_P D vwCl [(q0, .inr (3, [.null, .null, .null, .null, .null, .null]))] H := hP
  have hD : va_D (fun q : Nat => s.heap.size ≤ q) [(q0, .inr (3, [.null, .null, .null, .null, .null, .null]))] := hD
  refine W.widen (k := 1) (n := 6) (by omega) (by omega) ?_
  refine lv_dup hx hb dL_law_3 rfl ?_
  have hPc : va_P D vwCl [(q0, .inr (3, [.null, .null, .null, .null, .null, .null]))] H := xs_r (wr := []) hP
  have hDc : va_D (fun q : Nat => s.heap.size ≤ q) [(q0, .inr (3, [.null, .null, .null, .null, .null, .null]))] := xs_rD (wr := []) hD
  have hFc : ∀ z, va_A [(q0, .inr (3, [.null, .null, .null, .null, .null, .null]))] H.size z → s.heap.size ≤ z := xs_F hDc hS
  refine va_callv (va_runI (As := []) (rest := [.ref q0]) ⟨hx, hb, hml, hown, hts⟩ (kX3_init l D cI cII [(cZ, .boolean)] q0 H.size) (cwI 0 hts (xl_gI gm_13) rfl rfl rfl (hts _ (lw_gd_in _ gm_1)) (hts _ (lw_gd_in _ gm_11)) (hts _ (lw_gd_in _ gm_12)) rfl (by decide +kernel) ⟨(Nat.le_of_ble_eq_true rfl), (Nat.le_of_ble_eq_true rfl)⟩) ⟨fun fr U gg mk z => ⟨z.1, z.2.1, z.2.2.1, va_K.moved (u := U) (U := U.calling gg mk fr) (Vm.Alike.refl U.vm) z.2.2.2.1, z.2.2.2.2.1, xk_B.blind (u := U) (U := U.calling gg mk fr) rfl (Vm.Alike.refl U.vm) z.2.2.2.2.2⟩, fun U hU hW => ⟨rfl, by rw [hU], by rw [hU]; exact hPc, va_K.moved hW.alike hK, hDc.weaken (fun _ _ _ _ => trivial), xk_B.next hB hS hU hW hFc⟩⟩ rfl rfl hl.1 rfl (lv_room (Nat.le_of_ble_eq_true rfl)) dL_law_4 ⟨(Nat.le_of_ble_eq_true rfl), (Nat.le_of_ble_eq_true rfl)⟩) hS (fun q _ h => hFc q h) hFc (fun u t H1 locs ht hvm hw hB1 hz1 hk1 hS => ?_)
  obtain ⟨ad, ead, hP1, hD1⟩ := hB1
  rw [ht] at hP1
  obtain ⟨hP, hD⟩ := xk_join (wr := []) (wc := [(q0, .inr (3, [.null, .null, .null, .null, .null, .null]))]) (w1 := xm_w cL (ad, xk_tl cI cII [(cZ, .boolean)]) xk_Mc) hP hD hk1 hFc hP1 hD1
  generalize H1 = H at hP hS ⊢
  rw [List.nil_append] at hP hD
  refine W.widen (k := 73) (n := 3770) (by omega) (by omega) ?_
  rw [← ead]
  refine lv_astore_n (lv' := [(1, .ref (ad 0)), (0, .ref b)]) hx hb dL_law_7 rfl hl (by decide) rfl (fun ls hl => ?_)
  refine va_new (ci := 4) (fs := [.null, .null, .null, .null, .int 0, .null, .null, .null, .null, .null, .null, .null, .null, .null, .null, .null, .null, .null, .int 0, .int 0, .int 0, .int 0, .int 0, .int 0, .int 0, .null, .int 0]) (C := RX4) (T := TX4) (N := 27) hx hb hts (fun z hz => lw_gd_in z (iw_X4 z hz)) tyX4 tyX4_ok hown (hts (.classLink RL 10 RX4) (lw_gd_in _ gm_426)) (hts (.instantiable RX4 27) (lw_gd_in _ gm_427)) (hts (.initialized RX4) (lw_gd_in _ gm_5)) hK hP hD hS hA rfl (fun j hj => match j, hj with | 0, _ => rfl | 1, _ => rfl | 2, _ => rfl | 3, _ => rfl | 4, _ => rfl | 5, _ => rfl | 6, _ => rfl | 7, _ => rfl | 8, _ => rfl | 9, _ => rfl | 10, _ => rfl | 11, _ => rfl | 12, _ => rfl | 13, _ => rfl | 14, _ => rfl | 15, _ => rfl | 16, _ => rfl | 17, _ => rfl | 18, _ => rfl | 19, _ => rfl | 20, _ => rfl | 21, _ => rfl | 22, _ => rfl | 23, _ => rfl | 24, _ => rfl | 25, _ => rfl | 26, _ => rfl | j + 27, h => absurd h (by omega)) (Nat.le_of_ble_eq_true rfl) (Nat.le_of_ble_eq_true rfl) dL_law_8 (fun q1 H hP hD hS => ?_)
  refine W.widen (k := 74) (n := 3797) (by omega) (by omega) ?_
  refine lv_dup hx hb dL_law_11 rfl ?_
  have hPc : va_P D vwCl [(q1, .inr (4, [.null, .null, .null, .null, .int 0, .null, .null, .null, .null, .null, .null, .null, .null, .null, .null, .null, .null, .null, .int 0, .int 0, .int 0, .int 0, .int 0, .int 0, .int 0, .null, .int 0]))] H := xs_r (wr := (xm_w cL (ad, xk_tl cI cII [(cZ, .boolean)]) xk_Mc)) hP
  have hDc : va_D (fun q : Nat => s.heap.size ≤ q) [(q1, .inr (4, [.null, .null, .null, .null, .int 0, .null, .null, .null, .null, .null, .null, .null, .null, .null, .null, .null, .null, .null, .int 0, .int 0, .int 0, .int 0, .int 0, .int 0, .int 0, .null, .int 0]))] := xs_rD (wr := (xm_w cL (ad, xk_tl cI cII [(cZ, .boolean)]) xk_Mc)) hD
  have hFc : ∀ z, va_A [(q1, .inr (4, [.null, .null, .null, .null, .int 0, .null, .null, .null, .null, .null, .null, .null, .null, .null, .null, .null, .null, .null, .int 0, .int 0, .int 0, .int 0, .int 0, .int 0, .int 0, .null, .int 0]))] H.size z → s.heap.size ≤ z := xs_F hDc hS
  refine va_callv (va_runI (As := []) (rest := [.ref q1]) ⟨hx, hb, hml, hown, hts⟩ (kX4_init l D cI cII cZ [] q1 H.size) (cwI 0 hts (xl_gI gm_430) rfl rfl rfl (hts _ (lw_gd_in _ gm_5)) (hts _ (lw_gd_in _ gm_428)) (hts _ (lw_gd_in _ gm_429)) rfl (by decide +kernel) ⟨(Nat.le_of_ble_eq_true rfl), (Nat.le_of_ble_eq_true rfl)⟩) ⟨fun fr U gg mk z => ⟨z.1, z.2.1, z.2.2.1, va_K.moved (u := U) (U := U.calling gg mk fr) (Vm.Alike.refl U.vm) z.2.2.2.1, z.2.2.2.2⟩, fun U hU hW => ⟨rfl, by rw [hU], by rw [hU]; exact hPc, va_K.moved hW.alike hK, hDc.weaken (fun _ _ _ _ => trivial)⟩⟩ rfl rfl hl.1 rfl (lv_room (Nat.le_of_ble_eq_true rfl)) dL_law_12 ⟨(Nat.le_of_ble_eq_true rfl), (Nat.le_of_ble_eq_true rfl)⟩) hS (fun q _ h => hFc q h) hFc (fun u t H1 locs ht hvm hw hB1 hz1 hk1 hS => ?_)
  obtain ⟨ad2, ead2, hP1, hD1⟩ := hB1
  rw [ht] at hP1
  obtain ⟨hP, hD⟩ := xk_join (wr := (xm_w cL (ad, xk_tl cI cII [(cZ, .boolean)]) xk_Mc)) (wc := [(q1, .inr (4, [.null, .null, .null, .null, .int 0, .null, .null, .null, .null, .null, .null, .null, .null, .null, .null, .null, .null, .null, .int 0, .int 0, .int 0, .int 0, .int 0, .int 0, .int 0, .null, .int 0]))]) (w1 := xm_w mL (ad2, xk_tl cI cII [(cZ, .boolean)]) xk_Mm) hP hD hk1 hFc hP1 hD1
  generalize H1 = H at hP hS ⊢
  rw [← ead2]
  refine W.widen (k := 600000) (n := 7302250) (by omega) (by omega) ?_
  exact xs_end hsim hRel l hL C0 hK hNx hSt hl hP hD hS
