theorem xs_arr {s : State} {args : Array Value} {ty : FieldType} (h : (Cond.arrayClass ty).before args s = true) : ∃ c : ClassId, ArrOfT s c ty ∧ s.vm.findClass ("[" ++ ty.toString) = some c := by
  obtain ⟨c, k, comp, h1, h2, h3⟩ := Cond.arrayClass_spec h
  exact ⟨c, fun n z => ⟨fun j hj => (by cases hj), k, h2, comp, h3⟩, h1⟩
theorem xs_over {s : State} {args : Array Value} (h : (Cond.arrayOver (.array .int)).before args s = true) : ∃ c : ClassId, ArrOfT s c (.array .int) ∧ s.vm.findClass "[[I" = some c := by
  obtain ⟨comp, c, k, h1, h2, h3, h4, h5⟩ := xk_over h
  exact ⟨c, fun n z => ⟨fun j hj => (by cases hj), k, h3, comp, h4⟩, h5⟩
/-- the table of the first values, out of the premises -/
theorem xs_FV {s : State} {args : Array Value} {A : Nat → Prop} (hA : ∀ a : Nat, a < s.heap.size → ¬ A a) (hl : (Cond.laysStatic "OdometryDesk" "FIRST_VALUES" "[I").before args s = true) (hi : (Cond.initialized "OdometryDesk").before args s = true)
    (hlen : (Term.length (Term.static "OdometryDesk" "FIRST_VALUES" "[I")).eval args s none [] s = some (.int 9)) (hel : ∀ j : Nat, j < 9 → (Term.elem (Term.static "OdometryDesk" "FIRST_VALUES" "[I") (.int (Int32.ofNat j))).eval args s none [] s = some (.int (xk_fv j))) (hex : (Cond.exactly (Term.static "OdometryDesk" "FIRST_VALUES" "[I") "[I").before args s = true) : xk_FV A s s.heap := by
  obtain ⟨t, cell, ht, hat, hv⟩ := Term.length_spec hlen
  obtain ⟨hcell, hkn, hst, -⟩ := State.arrayAt?_spec hat
  have hsm : cell.slots.size < 2 ^ 31 := by
    have hv2 := hlen
    simp only [Term.eval, Option.bind_eq_bind] at hv2
    have ht2 : (Term.static "OdometryDesk" "FIRST_VALUES" "[I").eval args s none [] s = some (.ref t) := ht
    simp only [Term.eval, Option.bind_eq_bind] at ht2
    rw [ht2] at hv2
    simp only [Option.bind_some, hat] at hv2
    by_cases hlt : cell.slots.size < 2147483648
    · exact hlt
    · simp [hlt] at hv2
  have hsz : cell.slots.size = 9 := by
    have h2 := Value.int.inj hv
    have h3 : (cell.slots.size.toInt32).toInt = (cell.slots.size : Int) := nI_toInt hsm
    rw [← h2] at h3
    have h4 : (9 : Int32).toInt = 9 := rfl
    omega
  obtain ⟨t2, c2, cell2, k2, g1, g2, g3, g4, g5, g6, -⟩ := Cond.exactly_spec hex
  cases ht.symm.trans g1
  cases hcell.symm.trans g3
  refine ⟨t, cell, c2, va_Zref hl hi ht hA, hcell, g2, g6, ?_, hkn, hst, hA t (Array.getElem?_eq_some_iff.mp hcell).1⟩
  have hz : (vp_cell c2 (9, .inl xk_fv)).slots.size = 9 := arrV_size _ _ _
  apply Array.ext_getElem?
  intro j
  by_cases hj : j < 9
  · obtain ⟨a, i, cell3, h1, h2, h3, h4, h5⟩ := Term.elem_spec (hel j hj)
    cases ht.symm.trans h1
    cases hat.symm.trans h3
    have hij : i = Int32.ofNat j := by
      have e : (Term.int (Int32.ofNat j)).eval args s none [] s = some (.int (Int32.ofNat j)) := rfl
      cases h2.symm.trans e
      rfl
    have hc : i.toNatClampNeg = j := by rw [hij]; exact Int32.toNatClampNeg_ofNat_of_lt (by omega)
    rw [hc] at h5
    rw [h5]
    show _ = (arrV c2 9 (fun j => .int (xk_fv j))).slots[j]?
    rw [arrV_read _ _ hj]
  · rw [Array.getElem?_eq_none (by omega), Array.getElem?_eq_none (by omega)]
set_option maxHeartbeats 4000000 in
set_option maxRecDepth 100000 in
theorem xs_cls {p : Program} {s : State} {m : MethodId} {meth : Method} {c : Code} {b L : Nat} {xs : Nat → Int32} (C0 : lw_At p s m meth c b L xs) : ∃ D : va_G, ∀ (k : Nat) (q : vw_C), vwCl[k]? = some q → u_Kn s q.1 q.2.1 q.2.2 (D.1 k) (D.2 k) := by
  obtain ⟨hx, hb, hr, hml, hown, hts, hX, hbl, hlocks, hgv⟩ := id C0
  have hs := flat_of_before _ hgv
  have hA9 : ∀ a : Nat, a < s.heap.size → ¬ (fun q : Nat => s.heap.size ≤ q) a := fun _ h => Nat.not_le.mpr h
  obtain ⟨c0, iS0, hKn0⟩ := u_known (C := RX0) (T := TX0) (N := 5) (n := 5) hts (fun z hz => lw_gd_in z (iw_X0 z hz)) (hts (.instantiable RX0 5) (lw_gd_in _ gm_107))
  obtain ⟨c1, iS1, hKn1⟩ := u_known (C := RX1) (T := TX1) (N := 11) (n := 11) hts (fun z hz => lw_gd_in z (iw_X1 z hz)) (hts (.instantiable RX1 11) (lw_gd_in _ gm_17))
  obtain ⟨c2, iS2, hKn2⟩ := u_known (C := RX2) (T := TX2) (N := 12) (n := 12) hts (fun z hz => lw_gd_in z (iw_X2 z hz)) (hts (.instantiable RX2 12) (lw_gd_in _ gm_69))
  obtain ⟨c3, iS3, hKn3⟩ := u_known (C := RX3) (T := TX3) (N := 6) (n := 6) hts (fun z hz => lw_gd_in z (iw_X3 z hz)) (hts (.instantiable RX3 6) (lw_gd_in _ gm_9))
  refine ⟨(fun k => if k = 0 then c0 else if k = 1 then c1 else if k = 2 then c2 else c3, fun k => if k = 0 then iS0 else if k = 1 then iS1 else if k = 2 then iS2 else iS3), ?_⟩
  intro k q hq
  match k, hq with
  | 0, hq => cases hq; exact hKn0
  | 1, hq => cases hq; exact hKn1
  | 2, hq => cases hq; exact hKn2
  | 3, hq => cases hq; exact hKn3
  | k + 4, hq => simp [vwCl] at hq
set_option maxHeartbeats 4000000 in
set_option maxRecDepth 100000 in
theorem xs_K {p : Program} {s : State} {m : MethodId} {meth : Method} {c : Code} {b L : Nat} {xs : Nat → Int32} (C0 : lw_At p s m meth c b L xs) : ∃ (D : va_G) (cI cII : ClassId), va_K D vwCl (xk_tl cI cII []) s := by
  obtain ⟨hx, hb, hr, hml, hown, hts, hX, hbl, hlocks, hgv⟩ := id C0
  have hs := flat_of_before _ hgv
  have hA9 : ∀ a : Nat, a < s.heap.size → ¬ (fun q : Nat => s.heap.size ≤ q) a := fun _ h => Nat.not_le.mpr h
  obtain ⟨D, hKc⟩ := xs_cls C0
  obtain ⟨cI, aI, nI9⟩ := xs_arr (hts _ (lw_gd_in _ gm_67))
  obtain ⟨cII, aII, nII9⟩ := xs_over (hts _ (List.mem_append_right _ (lw_in1 (List.mem_of_getElem? (i := 32) rfl))))
  refine ⟨D, cI, cII, hKc, fun k q hq => ?_⟩
  match k, hq with
  | 0, hq => cases hq; exact ⟨aI, nI9⟩
  | 1, hq => cases hq; exact ⟨aII, nII9⟩
  | k + 2, hq => simp at hq
set_option maxHeartbeats 4000000 in
set_option maxRecDepth 100000 in
theorem xs_Nx {p : Program} {s : State} {m : MethodId} {meth : Method} {c : Code} {b L : Nat} {xs : Nat → Int32} (C0 : lw_At p s m meth c b L xs) : xm_Nx s := by
  obtain ⟨hx, hb, hr, hml, hown, hts, hX, hbl, hlocks, hgv⟩ := id C0
  have hs := flat_of_before _ hgv
  have hA9 : ∀ a : Nat, a < s.heap.size → ¬ (fun q : Nat => s.heap.size ≤ q) a := fun _ h => Nat.not_le.mpr h
  exact (List.forall_mem_cons.mpr ⟨va_Nw.of rfl (hts _ (List.mem_append_right _ (lw_in2 (List.mem_of_getElem? (i := 19) rfl)))), (List.forall_mem_cons.mpr ⟨va_Nw.of rfl (hts _ (List.mem_append_right _ (lw_in2 (List.mem_of_getElem? (i := 24) rfl)))), (List.forall_mem_cons.mpr ⟨va_Nw.of rfl (hts _ (List.mem_append_right _ (lw_in2 (List.mem_of_getElem? (i := 31) rfl)))), (List.forall_mem_cons.mpr ⟨va_Nw.of rfl (hts _ (List.mem_append_right _ (lw_in2 (List.mem_of_getElem? (i := 36) rfl)))), (List.forall_mem_cons.mpr ⟨va_Nw.of rfl (hts _ (List.mem_append_right _ (lw_in2 (List.mem_of_getElem? (i := 37) rfl)))), (List.forall_mem_cons.mpr ⟨va_Nw.of rfl (hts _ (List.mem_append_right _ (lw_in2 (List.mem_of_getElem? (i := 45) rfl)))), (List.forall_mem_cons.mpr ⟨va_Nw.of rfl (hts _ (List.mem_append_right _ (lw_in2 (List.mem_of_getElem? (i := 63) rfl)))), (List.forall_mem_cons.mpr ⟨va_Nw.of rfl (hts _ (List.mem_append_right _ (lw_in2 (List.mem_of_getElem? (i := 70) rfl)))), (List.forall_mem_cons.mpr ⟨va_Nw.of rfl (hts _ (List.mem_append_right _ (lw_in2 (List.mem_of_getElem? (i := 74) rfl)))), (List.forall_mem_cons.mpr ⟨va_Nw.of rfl (hts _ (List.mem_append_right _ (lw_in2 (List.mem_of_getElem? (i := 99) rfl)))), (List.forall_mem_cons.mpr ⟨va_Nw.of rfl (hts _ (List.mem_append_right _ (lw_in2 (List.mem_of_getElem? (i := 139) rfl)))), (List.forall_mem_cons.mpr ⟨va_Nw.of rfl (hts _ (List.mem_append_right _ (lw_in3 (List.mem_of_getElem? (i := 9) rfl)))), (List.forall_mem_cons.mpr ⟨va_Nw.of rfl (hts _ (List.mem_append_right _ (lw_in3 (List.mem_of_getElem? (i := 10) rfl)))), (List.forall_mem_cons.mpr ⟨va_Nw.of rfl (hts _ (List.mem_append_right _ (lw_in3 (List.mem_of_getElem? (i := 30) rfl)))), (List.forall_mem_cons.mpr ⟨va_Nw.of rfl (hts _ (List.mem_append_right _ (lw_in3 (List.mem_of_getElem? (i := 35) rfl)))), (List.forall_mem_cons.mpr ⟨va_Nw.of rfl (hts _ (List.mem_append_right _ (lw_in3 (List.mem_of_getElem? (i := 52) rfl)))), (fun _ h => absurd h List.not_mem_nil)⟩)⟩)⟩)⟩)⟩)⟩)⟩)⟩)⟩)⟩)⟩)⟩)⟩)⟩)⟩)⟩)
set_option maxHeartbeats 4000000 in
set_option maxRecDepth 100000 in
theorem xs_TLOWEST {p : Program} {s : State} {m : MethodId} {meth : Method} {c : Code} {b L : Nat} {xs : Nat → Int32} (C0 : lw_At p s m meth c b L xs) : ∃ t : Nat, va_Z "OdometryDesk" "LOWEST" "[I" (.ref t) (fun q : Nat => s.heap.size ≤ q) s s.heap ∧ va_T .int t 9 (fun j => .int (xm_low j)) (fun q : Nat => s.heap.size ≤ q) s s.heap := by
  obtain ⟨hx, hb, hr, hml, hown, hts, hX, hbl, hlocks, hgv⟩ := id C0
  have hs := flat_of_before _ hgv
  have hA9 : ∀ a : Nat, a < s.heap.size → ¬ (fun q : Nat => s.heap.size ≤ q) a := fun _ h => Nat.not_le.mpr h
  obtain ⟨t, et, Tt⟩ := va_Tof (tm := (Jvm.Term.static "OdometryDesk" "LOWEST" "[I")) (ty := .int) (N := 9) (f := fun j => .int (xm_low j)) (A := fun q : Nat => s.heap.size ≤ q) (by decide) (hs _ (by decide +kernel)) (va_eqt (z := 9) (hs _ (by decide +kernel))) (fun j hj => by
    match j, hj with
    | 0, _ => exact va_eqt (z := 100) (hs _ (by decide +kernel))
    | 1, _ => exact va_eqt (z := 100) (hs _ (by decide +kernel))
    | 2, _ => exact va_eqt (z := 100) (hs _ (by decide +kernel))
    | 3, _ => exact va_eqt (z := 0) (hs _ (by decide +kernel))
    | 4, _ => exact va_eqt (z := 0) (hs _ (by decide +kernel))
    | 5, _ => exact va_eqt (z := 1) (hs _ (by decide +kernel))
    | 6, _ => exact va_eqt (z := 0) (hs _ (by decide +kernel))
    | 7, _ => exact va_eqt (z := 0) (hs _ (by decide +kernel))
    | 8, _ => exact va_eqt (z := 0) (hs _ (by decide +kernel))
    | j + 9, h => exact absurd h (by omega)) hA9
  exact ⟨t, va_Zref (hts _ (List.mem_append_right _ (lw_in1 (List.mem_of_getElem? (i := 193) rfl)))) (hts _ (lw_gd_in _ gm_1)) et hA9, Tt⟩
set_option maxHeartbeats 4000000 in
set_option maxRecDepth 100000 in
theorem xs_THIGHEST {p : Program} {s : State} {m : MethodId} {meth : Method} {c : Code} {b L : Nat} {xs : Nat → Int32} (C0 : lw_At p s m meth c b L xs) : ∃ t : Nat, va_Z "OdometryDesk" "HIGHEST" "[I" (.ref t) (fun q : Nat => s.heap.size ≤ q) s s.heap ∧ va_T .int t 9 (fun j => .int (xm_high j)) (fun q : Nat => s.heap.size ≤ q) s s.heap := by
  obtain ⟨hx, hb, hr, hml, hown, hts, hX, hbl, hlocks, hgv⟩ := id C0
  have hs := flat_of_before _ hgv
  have hA9 : ∀ a : Nat, a < s.heap.size → ¬ (fun q : Nat => s.heap.size ≤ q) a := fun _ h => Nat.not_le.mpr h
  obtain ⟨t, et, Tt⟩ := va_Tof (tm := (Jvm.Term.static "OdometryDesk" "HIGHEST" "[I")) (ty := .int) (N := 9) (f := fun j => .int (xm_high j)) (A := fun q : Nat => s.heap.size ≤ q) (by decide) (hs _ (by decide +kernel)) (va_eqt (z := 9) (hs _ (by decide +kernel))) (fun j hj => by
    match j, hj with
    | 0, _ => exact va_eqt (z := 2000) (hs _ (by decide +kernel))
    | 1, _ => exact va_eqt (z := 2000) (hs _ (by decide +kernel))
    | 2, _ => exact va_eqt (z := 1000) (hs _ (by decide +kernel))
    | 3, _ => exact va_eqt (z := 200000) (hs _ (by decide +kernel))
    | 4, _ => exact va_eqt (z := 100) (hs _ (by decide +kernel))
    | 5, _ => exact va_eqt (z := 64) (hs _ (by decide +kernel))
    | 6, _ => exact va_eqt (z := 100) (hs _ (by decide +kernel))
    | 7, _ => exact va_eqt (z := 2000) (hs _ (by decide +kernel))
    | 8, _ => exact va_eqt (z := 900000) (hs _ (by decide +kernel))
    | j + 9, h => exact absurd h (by omega)) hA9
  exact ⟨t, va_Zref (hts _ (List.mem_append_right _ (lw_in1 (List.mem_of_getElem? (i := 195) rfl)))) (hts _ (lw_gd_in _ gm_1)) et hA9, Tt⟩
set_option maxHeartbeats 4000000 in
set_option maxRecDepth 100000 in
theorem xs_B {p : Program} {s : State} {m : MethodId} {meth : Method} {c : Code} {b L : Nat} {xs : Nat → Int32} (C0 : lw_At p s m meth c b L xs) : xk_B (fun q : Nat => s.heap.size ≤ q) s s.heap := by
  obtain ⟨hx, hb, hr, hml, hown, hts, hX, hbl, hlocks, hgv⟩ := id C0
  have hs := flat_of_before _ hgv
  have hA9 : ∀ a : Nat, a < s.heap.size → ¬ (fun q : Nat => s.heap.size ≤ q) a := fun _ h => Nat.not_le.mpr h
  have hlenF : (Term.length (Jvm.Term.static "OdometryDesk" "FIRST_VALUES" "[I")).eval #[Value.ref b] s none [] s = some (.int 9) := va_eqt (hs _ (by decide +kernel))
  have hFV : xk_FV (fun q : Nat => s.heap.size ≤ q) s s.heap := xs_FV hA9 (hts _ (List.mem_append_right _ (lw_in1 (List.mem_of_getElem? (i := 23) rfl)))) (hts _ (lw_gd_in _ gm_1)) hlenF (fun j hj => by
    match j, hj with
    | 0, _ => exact va_eqt (z := 500) (hs _ (by decide +kernel))
    | 1, _ => exact va_eqt (z := 500) (hs _ (by decide +kernel))
    | 2, _ => exact va_eqt (z := 300) (hs _ (by decide +kernel))
    | 3, _ => exact va_eqt (z := 20000) (hs _ (by decide +kernel))
    | 4, _ => exact va_eqt (z := 50) (hs _ (by decide +kernel))
    | 5, _ => exact va_eqt (z := 8) (hs _ (by decide +kernel))
    | 6, _ => exact va_eqt (z := 30) (hs _ (by decide +kernel))
    | 7, _ => exact va_eqt (z := 300) (hs _ (by decide +kernel))
    | 8, _ => exact va_eqt (z := 100000) (hs _ (by decide +kernel))
    | j + 9, h => exact absurd h (by omega)) (hs _ (by decide +kernel))
  exact ⟨(List.forall_mem_cons.mpr ⟨va_Nw.of rfl (hts _ (List.mem_append_right _ (lw_in1 (List.mem_of_getElem? (i := 18) rfl)))), (List.forall_mem_cons.mpr ⟨va_Nw.of rfl (hts _ (List.mem_append_right _ (lw_in1 (List.mem_of_getElem? (i := 87) rfl)))), (List.forall_mem_cons.mpr ⟨va_Nw.of rfl (hts _ (List.mem_append_right _ (lw_in1 (List.mem_of_getElem? (i := 139) rfl)))), (fun _ h => absurd h List.not_mem_nil)⟩)⟩)⟩), va_Nw.of rfl (hts _ (List.mem_append_right _ (lw_in1 (List.mem_of_getElem? (i := 22) rfl)))), va_Nw.of rfl (hts _ (List.mem_append_right _ (lw_in1 (List.mem_of_getElem? (i := 29) rfl)))), hts _ (List.mem_append_right _ (lw_in1 (List.mem_of_getElem? (i := 32) rfl))), hFV⟩
theorem xs_tyok {cI cII : ClassId} {LL : List xm_Sh} {aa : Nat → Nat} (h : LL.all (fun sh => match sh with | .inl a => decide (a.1 = 0 ∧ a.2.1 = .int) | _ => true) = true) : xm_tyok LL (aa, xk_tl cI cII []) := fun k sh hk => by
  have h2 := List.all_eq_true.mp h sh (List.mem_of_getElem? hk)
  match sh, h2 with
  | .inl (t, ty, n), h2 =>
    obtain ⟨h3, h4⟩ := (of_decide_eq_true h2)
    have h3 : t = 0 := h3
    have h4 : ty = .int := h4
    subst h3; subst h4; rfl
  | .inr (.inl _), _ => rfl
  | .inr (.inr _), _ => trivial
theorem xs_tyc {cI cII : ClassId} {aa : Nat → Nat} : xm_tyok cL (aa, xk_tl cI cII []) := xs_tyok (by decide +kernel)
/-- what the law's own function answers is all that is left -/
def xl_Pure : Prop := ∀ (xs : Nat → Int32) (Ls : Nat), Ls ≤ 260 → ∃ M1 : xm_M, fL_law xs Ls xk_Mc = some ((1 : Int32), M1)
set_option maxHeartbeats 800000 in
set_option maxRecDepth 100000 in
theorem xs_start (hpure : xl_Pure) {p : Program} {e : Env} {s : State} {m : MethodId} {below : List Frame} {meth : Method} {c : Code} (l : Launch) {b L : Nat} {xs : Nat → Int32} (hL : L ≤ 260) (C0 : lw_At p s m meth c b L xs) : W p l e room_1 s m #[Value.ref b] below meth c s.heap [] 0 0 (lw_Z below #[Value.ref b] s) (entryFrame m ([Value.ref b] : List Value).toArray 7) := by
  obtain ⟨hx, hb, hr, hml, hown, hts, hX, hbl, hlocks, hgv⟩ := id C0
  have hA : ∀ q : Nat, s.heap.size ≤ q → (fun q : Nat => s.heap.size ≤ q) q := fun _ h => h
  have hA9 : ∀ a : Nat, a < s.heap.size → ¬ (fun q : Nat => s.heap.size ≤ q) a := fun _ h => Nat.not_le.mpr h
  obtain ⟨D, cI, cII, hK⟩ := xs_K C0
  have hNx := xs_Nx C0
  have hB := xs_B C0
  obtain ⟨tl, hZl, hTl⟩ := xs_TLOWEST C0
  obtain ⟨th, hZh, hTh⟩ := xs_THIGHEST C0
  have hSt : xm_St (fun q : Nat => s.heap.size ≤ q) s s.heap := ⟨tl, th, hZl, hTl, hZh, hTh⟩
  have hS : va_S (fun q : Nat => s.heap.size ≤ q) s.heap s.heap [] := va_S.rf
  have hP : va_P D vwCl [] s.heap := fun k q h => by simp at h
  have hD : va_D (fun q : Nat => s.heap.size ≤ q) [] := ⟨fun i j p q h => by simp at h, fun k q h => by simp at h⟩
  have hl := lv_entry ([.ref b]) (n := 7) (Nat.le_of_ble_eq_true rfl)
  rw [lg_entry_eq]
  generalize (lg_sl ([.ref b]) ++ List.replicate (7 - (lg_sl ([.ref b])).length) Slot.unset).toArray = ls at hl ⊢
  have hl : lv_has ls 7 [(0, .ref b)] := hl
  refine va_new (ci := 3) (fs := [.null, .null, .null, .null, .null, .null]) (C := RX3) (T := TX3) (N := 6) hx hb hts (fun z hz => lw_gd_in z (iw_X3 z hz)) tyX3 tyX3_ok hown (hts (.classLink RL 9 RX3) (lw_gd_in _ gm_8)) (hts (.instantiable RX3 6) (lw_gd_in _ gm_9)) (hts (.initialized RX3) (lw_gd_in _ gm_1)) hK hP hD hS hA rfl (fun j hj => match j, hj with | 0, _ => rfl | 1, _ => rfl | 2, _ => rfl | 3, _ => rfl | 4, _ => rfl | 5, _ => rfl | j + 6, h => absurd h (by omega)) (Nat.le_of_ble_eq_true rfl) (Nat.le_of_ble_eq_true rfl) dL_law_0 (fun q0 H hP hD hS => ?_)
  have hP : va_P D vwCl [(q0, .inr (3, [.null, .null, .null, .null, .null, .null]))] H := hP
  have hD : va_D (fun q : Nat => s.heap.size ≤ q) [(q0, .inr (3, [.null, .null, .null, .null, .null, .null]))] := hD
  refine W.widen (k := 1) (n := 6) (by omega) (by omega) ?_
  refine lv_dup hx hb dL_law_3 rfl ?_
  have hPc : va_P D vwCl [(q0, .inr (3, [.null, .null, .null, .null, .null, .null]))] H := xs_r (wr := []) hP
  have hDc : va_D (fun q : Nat => s.heap.size ≤ q) [(q0, .inr (3, [.null, .null, .null, .null, .null, .null]))] := xs_rD (wr := []) hD
  have hFc : ∀ z, va_A [(q0, .inr (3, [.null, .null, .null, .null, .null, .null]))] H.size z → s.heap.size ≤ z := xs_F hDc hS
  refine va_callv (va_runI (As := []) (rest := [.ref q0]) ⟨hx, hb, hml, hown, hts⟩ (kX3_init l D cI cII [] q0 H.size) (cwI 0 hts (xl_gI gm_12) rfl rfl rfl (hts _ (lw_gd_in _ gm_1)) (hts _ (lw_gd_in _ gm_10)) (hts _ (lw_gd_in _ gm_11)) rfl (by decide +kernel) ⟨(Nat.le_of_ble_eq_true rfl), (Nat.le_of_ble_eq_true rfl)⟩) ⟨fun fr U gg mk z => ⟨z.1, z.2.1, z.2.2.1, va_K.moved (u := U) (U := U.calling gg mk fr) (Vm.Alike.refl U.vm) z.2.2.2.1, z.2.2.2.2.1, xk_B.blind (u := U) (U := U.calling gg mk fr) rfl (Vm.Alike.refl U.vm) z.2.2.2.2.2⟩, fun U hU hW => ⟨rfl, by rw [hU], by rw [hU]; exact hPc, va_K.moved hW.alike hK, hDc.weaken (fun _ _ _ _ => trivial), xk_B.next hB hS hU hW hFc⟩⟩ rfl rfl hl.1 rfl (lv_room (Nat.le_of_ble_eq_true rfl)) dL_law_4 ⟨(Nat.le_of_ble_eq_true rfl), (Nat.le_of_ble_eq_true rfl)⟩) hS (fun q _ h => hFc q h) hFc (fun u t H1 locs ht hvm hw hB1 hz1 hk1 hS => ?_)
  obtain ⟨ad, ead, hP1, hD1⟩ := hB1
  rw [ht] at hP1
  obtain ⟨hP, hD⟩ := xk_join (wr := []) (wc := [(q0, .inr (3, [.null, .null, .null, .null, .null, .null]))]) (w1 := xm_w cL (ad, xk_tl cI cII []) xk_Mc) hP hD hk1 hFc hP1 hD1
  generalize H1 = H at hP hS ⊢
  rw [List.nil_append] at hP hD
  refine W.widen (k := 73) (n := 3770) (by omega) (by omega) ?_
  rw [← ead]
  refine lv_astore_n (lv' := [(1, .ref (ad 0)), (0, .ref b)]) hx hb dL_law_7 rfl hl (by decide) rfl (fun ls hl => ?_)
  refine W.widen (k := 599998) (n := 7302240) (by omega) (by omega) ?_
  have hi1 := xs_inj hD
  obtain ⟨M1, hM1⟩ := hpure xs L hL
  have hXX : xm_X p m meth c code 7 s #[Value.ref b] lw_tbl RL ret D cL (ad, xk_tl cI cII []) (fun q : Nat => s.heap.size ≤ q) := ⟨⟨hx, hb, hml, hown, hts⟩, hr, hlocks, hK, hNx, hi1.1, xs_tyc, hi1.2, hA, hSt⟩
  exact kL_law_w xs L hXX ⟨hX, hbl, hA9 b hbl, hL⟩ xk_Mc _ hM1 ls H _ hl hP hS
