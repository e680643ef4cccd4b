section XW
variable {p : Program} {l : Launch} {e : Env} {R : Room} {s : State} {m : MethodId} {args : Array Value} {below : List Frame} {meth : Method} {c : Code} {cc : ByteArray} {nL : Nat} {Ts : List Cond} {own : String} {ret : Option FieldType} {D : va_G} {L : List xm_Sh} {g : xm_G} {A : Nat → Prop}
variable {ρ : Type} {pc : Nat} {lv : List (Nat × Value)} {rest : List Value} {M : xm_M}
/-- a call that makes mc cells of ms elements -/
theorem xm_callW {Q : ρ → State → Prop} {mc ms nC nS nC2 nS2 : Nat} {f : Option (Int32 × xm_M)} {K : Int32 → xm_M → Option ρ} {st0 : List Value} {a : Array Value} (e1 : nC + mc = nC2) (e2 : nS + ms = nS2) (hX : xm_X p m meth c cc nL s args Ts own ret D L g A)
    (hrun : ∀ r1, f = some r1 → ∀ (ls : Array Slot) (H : Heap) (locs : List Loc), lv_has ls nL lv → va_P D vwCl (xm_w L g M) H → va_S A s.heap H locs → va_Run p l e R s m args below meth c H locs nC nS mc ms (F0 m pc ls st0) rest (xm_Q D L g (xm_A L g H.size) (xm_Fi g r1) a) (xm_A L g H.size))
    (kk : ∀ (x : Int32) (M1 : xm_M), xm_J p l e R s m args below meth c nL D L g A (Q, nC2, nS2) (pc + 3) lv (.int x :: rest) M1 (K x M1)) : xm_J p l e R s m args below meth c nL D L g A (Q, nC, nS) pc lv st0 M (xm_bi f K) := by
  subst e1
  subst e2
  intro r hr ls H locs hl hP hS
  cases hf : f with
  | none => rw [hf] at hr; cases hr
  | some r1 =>
    rw [hf] at hr
    intro T hT X
    obtain ⟨v, st₀, t, T', L', h0, X', hL, e1, e2, ⟨hv, hP1, hz, hk⟩, stp⟩ := hrun r1 hf ls H locs hl hP hS T hT X
    rw [h0] at hz hk
    cases hv
    obtain ⟨t2, a1, b1⟩ := kk r1.1 r1.2 r hr ls T'.heap (locs ++ L') hl (by rw [e1]; exact hP1)
      ⟨Nat.le_trans hS.1 (by rw [e1]; exact hz), fun q h1 h2 => by rw [e1, hk q (Nat.lt_of_lt_of_le h1 hS.1) (fun z => h2 (xm_sub hX hS q z))]; exact hS.2.1 q h1 h2, fun q hq => by
        rcases List.mem_append.mp hq with h | h
        · exact hS.2.2 q h
        · exact xm_sub hX hS _ (hL q h)⟩ T' rfl X'
    exact ⟨t2, stp t2 a1, b1⟩
end XW
-- ===== OdometryDeskLaw.law([I)Z ['S']
def fL_law_312 (xs : Nat → Int32) (Ls : Nat) (k312 : Int32 → Int32 → xm_M → Option (Int32 × xm_M)) (b2 : Int32) (b4 : Int32) (M : xm_M) : Option (Int32 × xm_M) :=
  if (26 : Int32) ≤ b4 then xm_bi (fL_wayN M) (fun x44 M45 => if x44 = 0 then none else xm_bi (fL_spread M45) (fun x47 M46 => if x47 = 0 then none else xm_lt (b2 + Int32.ofInt 1) (fun x48 => xm_bi (fL_cell xs Ls b2 M46) (fun x49 M50 => xm_bi (fL_tried x49 M50) (fun x52 M51 => if x52 = 0 then none else xm_bi (fL_fits M51) (fun x54 M53 => if x54 = 0 then none else xm_lt (x48 + Int32.ofInt 1) (fun x55 => xm_bi (fL_cell xs Ls x48 M53) (fun x56 M57 => xm_bi (fL_told x56 M57) (fun x59 M58 => if x59 = 0 then none else xm_lt (x55 + Int32.ofInt 1) (fun x60 => xm_bi (fL_cell xs Ls x55 M58) (fun x61 M62 => xm_bi (fL_kept x61 M62) (fun x64 M63 => if x64 = 0 then none else xm_bi (fL_wayN M63) (fun x65 M66 => if x65 = 0 then none else some ((1 : Int32), M66)))))))))))))) else xm_lt (b2 + Int32.ofInt 1) (fun x67 => xm_bi (fL_cell xs Ls b2 M) (fun x68 M69 => xm_lt (x67 + Int32.ofInt 1) (fun x70 => xm_bi (fL_cell xs Ls x67 M69) (fun x71 M72 => xm_bi (fL_adds x68 x71 M72) (fun x74 M73 => if x74 = 0 then none else xm_lt (b4 + Int32.ofInt 1) (fun x75 => k312 x70 x75 M73))))))
set_option maxRecDepth 20000 in
theorem tfL_law_312 {p : Program} {l : Launch} {e : Env} {s : State} {m : MethodId} {below : List Frame} {meth : Method} {c : Code} {D : va_G} {g : xm_G} {b : Nat} (xs : Nat → Int32) (Ls : Nat) (hX : xm_X p m meth c code 7 s #[Value.ref b] lw_tbl RL ret D cL g (fun q : Nat => s.heap.size ≤ q)) (hs : xm_Sc b Ls xs s (fun q : Nat => s.heap.size ≤ q))  (k312 : Int32 → Int32 → xm_M → Option (Int32 × xm_M)) (h312 : ∀ (b2 : Int32), ∀ (b4 : Int32), ∀ (M : xm_M), xm_J p l e room_1 s m #[Value.ref b] below meth c 7 D cL g (fun q : Nat => s.heap.size ≤ q) (xm_FL below b s 599998 7302240) 312 [(0, .ref b), (1, .ref (g.1 0)), (2, .int b2), (4, .int b4)] [] M (k312 b2 b4 M)) : ∀ (b2 : Int32), ∀ (b4 : Int32), ∀ (M : xm_M), xm_J p l e room_1 s m #[Value.ref b] below meth c 7 D cL g (fun q : Nat => s.heap.size ≤ q) (xm_FL below b s 599998 7302240) 312 [(0, .ref b), (1, .ref (g.1 0)), (2, .int b2), (4, .int b4)] [] M (fL_law_312 xs Ls k312 b2 b4 M) := by
  intro b2 b4 M
  unfold fL_law_312
  refine xm_iload hX 3 dL_law_312 rfl ?_
  refine xm_bipush hX (v := 26) rfl dL_law_314 ?_
  refine xm_icmp_ge hX (tgt := 352) dL_law_316 rfl ?_ ?_
  · refine xm_aload_n hX 1 dL_law_352 rfl rfl ?_
    refine xm_callW (mc := 1) (ms := 5) (nC2 := 599999) (nS2 := 7302245) rfl rfl hX (xm_runSM (nC := 599998) (nS := 7302240) hX (As := (fun g => [.ref (g.1 0)])) (kL_way M) (xl_gS gm_333 gm_334 gm_0 gm_335) rfl ⟨rfl, rfl⟩ hdL_way ⟨Nat.le_of_ble_eq_true rfl, Nat.le_of_ble_eq_true rfl⟩ rfl (Nat.le_of_ble_eq_true rfl) rfl ⟨Nat.le_of_ble_eq_true rfl, Nat.le_of_ble_eq_true rfl⟩ dL_law_353) (fun x44 M45 => ?_)
    refine xm_if_eq hX (tgt := 429) dL_law_356 rfl ?_ ?_
    · refine xm_iconst hX (v := 0) rfl dL_law_429 ?_
      exact xm_none
    · refine xm_aload_n hX 1 dL_law_359 rfl rfl ?_
      refine xm_calli hX (xm_runS (nC := 599999) (nS := 7302245) hX (As := (fun g => [.ref (g.1 0)])) (kL_spread cL_pre M45) (xl_gS gm_365 gm_366 gm_0 gm_367) rfl ⟨rfl, rfl⟩ hdL_spread ⟨Nat.le_of_ble_eq_true rfl, Nat.le_of_ble_eq_true rfl⟩ rfl (Nat.le_of_ble_eq_true rfl) rfl ⟨Nat.le_of_ble_eq_true rfl, Nat.le_of_ble_eq_true rfl⟩ dL_law_360) (fun x47 M46 => ?_)
      refine xm_if_eq hX (tgt := 429) dL_law_363 rfl ?_ ?_
      · refine xm_iconst hX (v := 0) rfl dL_law_429 ?_
        exact xm_none
      · refine xm_aload_n hX 1 dL_law_366 rfl rfl ?_
        refine xm_aload_n hX 0 dL_law_367 rfl rfl ?_
        refine xm_iload_n hX 2 dL_law_368 rfl rfl ?_
        refine xm_iinc hX (lv2 := fun x48 => [(2, .int x48), (0, .ref b), (1, .ref (g.1 0)), (4, .int b4)]) 2 dL_law_369 rfl (by decide) (fun _ => rfl) (fun x48 => ?_)
        refine xm_calli hX (xm_runCell (nC := 599999) (nS := 7302245) hX hs (k := b2) rfl ⟨Nat.le_of_ble_eq_true rfl, Nat.le_of_ble_eq_true rfl⟩ rfl dL_law_372) (fun x49 M50 => ?_)
        refine xm_calli hX (xm_runS (nC := 599999) (nS := 7302245) hX (As := (fun g => [.ref (g.1 0), .int x49])) (kL_tried cL_pre x49 M50) (xl_gS gm_368 gm_369 gm_0 gm_370) rfl ⟨rfl, rfl⟩ hdL_tried ⟨Nat.le_of_ble_eq_true rfl, Nat.le_of_ble_eq_true rfl⟩ rfl (Nat.le_of_ble_eq_true rfl) rfl ⟨Nat.le_of_ble_eq_true rfl, Nat.le_of_ble_eq_true rfl⟩ dL_law_375) (fun x52 M51 => ?_)
        refine xm_if_eq hX (tgt := 429) dL_law_378 rfl ?_ ?_
        · refine xm_iconst hX (v := 0) rfl dL_law_429 ?_
          exact xm_none
        · refine xm_aload_n hX 2 dL_law_381 rfl rfl ?_
          refine xm_calli hX (xm_runS (nC := 599999) (nS := 7302245) hX (As := (fun g => [.ref (g.1 0)])) (kL_fits cL_pre M51) (xl_gS gm_388 gm_389 gm_0 gm_390) rfl ⟨rfl, rfl⟩ hdL_fits ⟨Nat.le_of_ble_eq_true rfl, Nat.le_of_ble_eq_true rfl⟩ rfl (Nat.le_of_ble_eq_true rfl) rfl ⟨Nat.le_of_ble_eq_true rfl, Nat.le_of_ble_eq_true rfl⟩ dL_law_382) (fun x54 M53 => ?_)
          refine xm_if_eq hX (tgt := 429) dL_law_385 rfl ?_ ?_
          · refine xm_iconst hX (v := 0) rfl dL_law_429 ?_
            exact xm_none
          · refine xm_aload_n hX 2 dL_law_388 rfl rfl ?_
            refine xm_aload_n hX 1 dL_law_389 rfl rfl ?_
            refine xm_iload_n hX 0 dL_law_390 rfl rfl ?_
            refine xm_iinc hX (lv2 := fun x55 => [(2, .int x55), (0, .ref b), (1, .ref (g.1 0)), (4, .int b4)]) 0 dL_law_391 rfl (by decide) (fun _ => rfl) (fun x55 => ?_)
            refine xm_calli hX (xm_runCell (nC := 599999) (nS := 7302245) hX hs (k := x48) rfl ⟨Nat.le_of_ble_eq_true rfl, Nat.le_of_ble_eq_true rfl⟩ rfl dL_law_394) (fun x56 M57 => ?_)
            refine xm_calli hX (xm_runS (nC := 599999) (nS := 7302245) hX (As := (fun g => [.ref (g.1 0), .int x56])) (kL_told cL_pre x56 M57) (xl_gS gm_405 gm_406 gm_0 gm_407) rfl ⟨rfl, rfl⟩ hdL_told ⟨Nat.le_of_ble_eq_true rfl, Nat.le_of_ble_eq_true rfl⟩ rfl (Nat.le_of_ble_eq_true rfl) rfl ⟨Nat.le_of_ble_eq_true rfl, Nat.le_of_ble_eq_true rfl⟩ dL_law_397) (fun x59 M58 => ?_)
            refine xm_if_eq hX (tgt := 429) dL_law_400 rfl ?_ ?_
            · refine xm_iconst hX (v := 0) rfl dL_law_429 ?_
              exact xm_none
            · refine xm_aload_n hX 2 dL_law_403 rfl rfl ?_
              refine xm_aload_n hX 1 dL_law_404 rfl rfl ?_
              refine xm_iload_n hX 0 dL_law_405 rfl rfl ?_
              refine xm_iinc hX (lv2 := fun x60 => [(2, .int x60), (0, .ref b), (1, .ref (g.1 0)), (4, .int b4)]) 0 dL_law_406 rfl (by decide) (fun _ => rfl) (fun x60 => ?_)
              refine xm_calli hX (xm_runCell (nC := 599999) (nS := 7302245) hX hs (k := x55) rfl ⟨Nat.le_of_ble_eq_true rfl, Nat.le_of_ble_eq_true rfl⟩ rfl dL_law_409) (fun x61 M62 => ?_)
              refine xm_calli hX (xm_runS (nC := 599999) (nS := 7302245) hX (As := (fun g => [.ref (g.1 0), .int x61])) (kL_kept cL_pre x61 M62) (xl_gS gm_484 gm_485 gm_0 gm_486) rfl ⟨rfl, rfl⟩ hdL_kept ⟨Nat.le_of_ble_eq_true rfl, Nat.le_of_ble_eq_true rfl⟩ rfl (Nat.le_of_ble_eq_true rfl) rfl ⟨Nat.le_of_ble_eq_true rfl, Nat.le_of_ble_eq_true rfl⟩ dL_law_412) (fun x64 M63 => ?_)
              refine xm_if_eq hX (tgt := 429) dL_law_415 rfl ?_ ?_
              · refine xm_iconst hX (v := 0) rfl dL_law_429 ?_
                exact xm_none
              · refine xm_aload_n hX 2 dL_law_418 rfl rfl ?_
                refine xm_callW (mc := 1) (ms := 5) (nC2 := 600000) (nS2 := 7302250) rfl rfl hX (xm_runSM (nC := 599999) (nS := 7302245) hX (As := (fun g => [.ref (g.1 0)])) (kL_way M63) (xl_gS gm_333 gm_334 gm_0 gm_335) rfl ⟨rfl, rfl⟩ hdL_way ⟨Nat.le_of_ble_eq_true rfl, Nat.le_of_ble_eq_true rfl⟩ rfl (Nat.le_of_ble_eq_true rfl) rfl ⟨Nat.le_of_ble_eq_true rfl, Nat.le_of_ble_eq_true rfl⟩ dL_law_419) (fun x65 M66 => ?_)
                refine xm_if_eq hX (tgt := 429) dL_law_422 rfl ?_ ?_
                · refine xm_iconst hX (v := 0) rfl dL_law_429 ?_
                  exact xm_none
                · refine xm_iconst hX (v := 1) rfl dL_law_425 ?_
                  refine xm_goto hX (tgt := 430) dL_law_426 rfl ?_
                  exact xm_retL hX (Nat.le_of_ble_eq_true rfl) (Nat.le_of_ble_eq_true rfl) dL_law_430
  · refine xm_aload_n hX 0 dL_law_319 rfl rfl ?_
    refine xm_iload_n hX 2 dL_law_320 rfl rfl ?_
    refine xm_iinc hX (lv2 := fun x67 => [(2, .int x67), (0, .ref b), (1, .ref (g.1 0)), (4, .int b4)]) 2 dL_law_321 rfl (by decide) (fun _ => rfl) (fun x67 => ?_)
    refine xm_calli hX (xm_runCell (nC := 599998) (nS := 7302240) hX hs (k := b2) rfl ⟨Nat.le_of_ble_eq_true rfl, Nat.le_of_ble_eq_true rfl⟩ rfl dL_law_324) (fun x68 M69 => ?_)
    refine xm_istore_n hX (lv' := [(3, .int x68), (2, .int x67), (0, .ref b), (1, .ref (g.1 0)), (4, .int b4)]) dL_law_327 rfl (by decide) rfl ?_
    refine xm_aload_n hX 3 dL_law_328 rfl rfl ?_
    refine xm_iload_n hX 0 dL_law_329 rfl rfl ?_
    refine xm_aload_n hX 2 dL_law_330 rfl rfl ?_
    refine xm_iload_n hX 1 dL_law_331 rfl rfl ?_
    refine xm_iinc hX (lv2 := fun x70 => [(2, .int x70), (3, .int x68), (0, .ref b), (1, .ref (g.1 0)), (4, .int b4)]) 1 dL_law_332 rfl (by decide) (fun _ => rfl) (fun x70 => ?_)
    refine xm_calli hX (xm_runCell (nC := 599998) (nS := 7302240) hX hs (k := x67) rfl ⟨Nat.le_of_ble_eq_true rfl, Nat.le_of_ble_eq_true rfl⟩ rfl dL_law_335) (fun x71 M72 => ?_)
    refine xm_calli hX (xm_runS (nC := 599998) (nS := 7302240) hX (As := (fun g => [.ref (g.1 0), .int x68, .int x71])) (kL_adds cL_pre x68 x71 M72) (xl_gS gm_193 gm_194 gm_0 gm_195) rfl ⟨rfl, rfl⟩ hdL_adds ⟨Nat.le_of_ble_eq_true rfl, Nat.le_of_ble_eq_true rfl⟩ rfl (Nat.le_of_ble_eq_true rfl) rfl ⟨Nat.le_of_ble_eq_true rfl, Nat.le_of_ble_eq_true rfl⟩ dL_law_338) (fun x74 M73 => ?_)
    refine xm_if_ne hX (tgt := 346) dL_law_341 rfl ?_ ?_
    · refine xm_iinc hX (lv2 := fun x75 => [(4, .int x75), (2, .int x70), (3, .int x68), (0, .ref b), (1, .ref (g.1 0))]) 4 dL_law_346 rfl (by decide) (fun _ => rfl) (fun x75 => ?_)
      refine xm_goto hX (tgt := 312) dL_law_349 rfl ?_
      refine xm_weak [3, 4, 1, 0] (lv' := [(0, .ref b), (1, .ref (g.1 0)), (2, .int x70), (4, .int x75)]) rfl ?_
      exact h312 x70 x75 M73
    · refine xm_iconst hX (v := 0) rfl dL_law_344 ?_
      exact xm_none
def fL_law_312_it (xs : Nat → Int32) (Ls : Nat)  (nq : Nat) : Int32 → Int32 → xm_M → Option (Int32 × xm_M) := xm_it (fun kq => fL_law_312 xs Ls kq) (fun _ _ _ => none) nq
theorem tfL_law_312_it {p : Program} {l : Launch} {e : Env} {s : State} {m : MethodId} {below : List Frame} {meth : Method} {c : Code} {D : va_G} {g : xm_G} {b : Nat} (xs : Nat → Int32) (Ls : Nat) (hX : xm_X p m meth c code 7 s #[Value.ref b] lw_tbl RL ret D cL g (fun q : Nat => s.heap.size ≤ q)) (hs : xm_Sc b Ls xs s (fun q : Nat => s.heap.size ≤ q))    : ∀ (nq : Nat), ∀ (b2 : Int32), ∀ (b4 : Int32), ∀ (M : xm_M), xm_J p l e room_1 s m #[Value.ref b] below meth c 7 D cL g (fun q : Nat => s.heap.size ≤ q) (xm_FL below b s 599998 7302240) 312 [(0, .ref b), (1, .ref (g.1 0)), (2, .int b2), (4, .int b4)] [] M (fL_law_312_it xs Ls nq b2 b4 M) := by
  intro nq
  induction nq with
  | zero => exact fun _ _ _ => xm_none
  | succ nq ih => exact tfL_law_312 xs Ls hX hs _ ih
def fL_law_174 (xs : Nat → Int32) (Ls : Nat) (k174 : Int32 → Int32 → xm_M → Option (Int32 × xm_M)) (b2 : Int32) (b4 : Int32) (M : xm_M) : Option (Int32 × xm_M) :=
  if (3 : Int32) ≤ b4 then xm_lt ((0 : Int32)) (fun x43 => fL_law_312_it xs Ls xm_N b2 x43 M) else xm_lt (b2 + Int32.ofInt 1) (fun x76 => xm_bi (fL_cell xs Ls b2 M) (fun x77 M78 => xm_bi (fL_up x77 (4001 : Int32) M78) (fun x80 M79 => xm_bi (fL_up (x77 >>> ((12 : Int32) &&& 31)) (4001 : Int32) M79) (fun x82 M81 => xm_bi (fX3_marker (x80 - (2000 : Int32)) (x82 - (2000 : Int32)) M81) (fun x84 M83 => xm_lt (x76 + Int32.ofInt 1) (fun x85 => xm_bi (fL_cell xs Ls x76 M83) (fun x86 M87 => xm_bi (fL_up (x77 >>> ((3 : Int32) &&& 31)) (4001 : Int32) M87) (fun x89 M88 => xm_bi (fL_up (x77 >>> ((9 : Int32) &&& 31)) (4001 : Int32) M88) (fun x91 M90 => xm_bi (fL_up x86 (4001 : Int32) M90) (fun x93 M92 => xm_bi (fL_up (x86 >>> ((9 : Int32) &&& 31)) (4001 : Int32) M92) (fun x95 M94 => xm_bi (fL_up (x86 >>> ((3 : Int32) &&& 31)) (18000 : Int32) M94) (fun x97 M96 => xm_bi (fX3_corridor (x89 - (2000 : Int32)) (x91 - (2000 : Int32)) (x93 - (2000 : Int32)) (x95 - (2000 : Int32)) x97 M96) (fun x99 M98 => xm_lt (b4 + Int32.ofInt 1) (fun x100 => k174 x85 x100 M98))))))))))))))
set_option maxRecDepth 20000 in
theorem tfL_law_174 {p : Program} {l : Launch} {e : Env} {s : State} {m : MethodId} {below : List Frame} {meth : Method} {c : Code} {D : va_G} {g : xm_G} {b : Nat} (xs : Nat → Int32) (Ls : Nat) (hX : xm_X p m meth c code 7 s #[Value.ref b] lw_tbl RL ret D cL g (fun q : Nat => s.heap.size ≤ q)) (hs : xm_Sc b Ls xs s (fun q : Nat => s.heap.size ≤ q))  (k174 : Int32 → Int32 → xm_M → Option (Int32 × xm_M)) (h174 : ∀ (b2 : Int32), ∀ (b4 : Int32), ∀ (M : xm_M), xm_J p l e room_1 s m #[Value.ref b] below meth c 7 D cL g (fun q : Nat => s.heap.size ≤ q) (xm_FL below b s 599998 7302240) 174 [(0, .ref b), (1, .ref (g.1 0)), (2, .int b2), (4, .int b4)] [] M (k174 b2 b4 M)) : ∀ (b2 : Int32), ∀ (b4 : Int32), ∀ (M : xm_M), xm_J p l e room_1 s m #[Value.ref b] below meth c 7 D cL g (fun q : Nat => s.heap.size ≤ q) (xm_FL below b s 599998 7302240) 174 [(0, .ref b), (1, .ref (g.1 0)), (2, .int b2), (4, .int b4)] [] M (fL_law_174 xs Ls k174 b2 b4 M) := by
  intro b2 b4 M
  unfold fL_law_174
  refine xm_iload hX 3 dL_law_174 rfl ?_
  refine xm_iconst hX (v := 3) rfl dL_law_176 ?_
  refine xm_icmp_ge hX (tgt := 309) dL_law_177 rfl ?_ ?_
  · refine xm_iconst hX (v := 0) rfl dL_law_309 ?_
    refine xm_nmi (fun x43 => ?_)
    refine xm_istore hX (lv' := [(4, .int x43), (0, .ref b), (1, .ref (g.1 0)), (2, .int b2)]) dL_law_310 (by decide) rfl ?_
    refine xm_weak [1, 2, 3, 0] (lv' := [(0, .ref b), (1, .ref (g.1 0)), (2, .int b2), (4, .int x43)]) rfl ?_
    exact tfL_law_312_it xs Ls hX hs xm_N b2 x43 M
  · refine xm_aload_n hX 0 dL_law_180 rfl rfl ?_
    refine xm_iload_n hX 2 dL_law_181 rfl rfl ?_
    refine xm_iinc hX (lv2 := fun x76 => [(2, .int x76), (0, .ref b), (1, .ref (g.1 0)), (4, .int b4)]) 2 dL_law_182 rfl (by decide) (fun _ => rfl) (fun x76 => ?_)
    refine xm_calli hX (xm_runCell (nC := 599998) (nS := 7302240) hX hs (k := b2) rfl ⟨Nat.le_of_ble_eq_true rfl, Nat.le_of_ble_eq_true rfl⟩ rfl dL_law_185) (fun x77 M78 => ?_)
    refine xm_istore hX (lv' := [(5, .int x77), (2, .int x76), (0, .ref b), (1, .ref (g.1 0)), (4, .int b4)]) dL_law_188 (by decide) rfl ?_
    refine xm_aload_n hX 3 dL_law_190 rfl rfl ?_
    refine xm_iload hX 0 dL_law_191 rfl ?_
    refine xm_sipush hX (v := 4001) rfl dL_law_193 ?_
    refine xm_calli hX (xm_runS (nC := 599998) (nS := 7302240) hX (As := (fun g => [.int x77, .int (4001 : Int32)])) (kL_up cL_pre x77 (4001 : Int32) M78) (xl_gS gm_189 gm_190 gm_0 gm_191) rfl ⟨rfl, rfl⟩ hdL_up ⟨Nat.le_of_ble_eq_true rfl, Nat.le_of_ble_eq_true rfl⟩ rfl (Nat.le_of_ble_eq_true rfl) rfl ⟨Nat.le_of_ble_eq_true rfl, Nat.le_of_ble_eq_true rfl⟩ dL_law_196) (fun x80 M79 => ?_)
    refine xm_sipush hX (v := 2000) rfl dL_law_199 ?_
    refine xm_isub hX dL_law_202 ?_
    refine xm_iload hX 0 dL_law_203 rfl ?_
    refine xm_bipush hX (v := 12) rfl dL_law_205 ?_
    refine xm_ishr hX dL_law_207 ?_
    refine xm_sipush hX (v := 4001) rfl dL_law_208 ?_
    refine xm_calli hX (xm_runS (nC := 599998) (nS := 7302240) hX (As := (fun g => [.int (x77 >>> ((12 : Int32) &&& 31)), .int (4001 : Int32)])) (kL_up cL_pre (x77 >>> ((12 : Int32) &&& 31)) (4001 : Int32) M79) (xl_gS gm_189 gm_190 gm_0 gm_191) rfl ⟨rfl, rfl⟩ hdL_up ⟨Nat.le_of_ble_eq_true rfl, Nat.le_of_ble_eq_true rfl⟩ rfl (Nat.le_of_ble_eq_true rfl) rfl ⟨Nat.le_of_ble_eq_true rfl, Nat.le_of_ble_eq_true rfl⟩ dL_law_211) (fun x82 M81 => ?_)
    refine xm_sipush hX (v := 2000) rfl dL_law_214 ?_
    refine xm_isub hX dL_law_217 ?_
    refine xm_calli hX (xm_runV (nC := 599998) (nS := 7302240) hX (k := 0) (ci := 3) (As := (fun g => [.int (x80 - (2000 : Int32)), .int (x82 - (2000 : Int32))])) (kX3_marker cL_pre (x80 - (2000 : Int32)) (x82 - (2000 : Int32)) M81) cL_0 rfl (xl_gV gm_176 gm_177 gm_178 gm_1 gm_179) rfl ⟨rfl, rfl⟩ ⟨rfl, hdX3_marker⟩ ⟨Nat.le_of_ble_eq_true rfl, Nat.le_of_ble_eq_true rfl⟩ rfl (Nat.le_of_ble_eq_true rfl) rfl ⟨Nat.le_of_ble_eq_true rfl, Nat.le_of_ble_eq_true rfl⟩ dL_law_218) (fun x84 M83 => ?_)
    refine xm_pop hX rfl dL_law_221 ?_
    refine xm_aload_n hX 2 dL_law_222 rfl rfl ?_
    refine xm_iload_n hX 1 dL_law_223 rfl rfl ?_
    refine xm_iinc hX (lv2 := fun x85 => [(2, .int x85), (5, .int x77), (0, .ref b), (1, .ref (g.1 0)), (4, .int b4)]) 1 dL_law_224 rfl (by decide) (fun _ => rfl) (fun x85 => ?_)
    refine xm_calli hX (xm_runCell (nC := 599998) (nS := 7302240) hX hs (k := x76) rfl ⟨Nat.le_of_ble_eq_true rfl, Nat.le_of_ble_eq_true rfl⟩ rfl dL_law_227) (fun x86 M87 => ?_)
    refine xm_istore hX (lv' := [(6, .int x86), (2, .int x85), (5, .int x77), (0, .ref b), (1, .ref (g.1 0)), (4, .int b4)]) dL_law_230 (by decide) rfl ?_
    refine xm_aload_n hX 4 dL_law_232 rfl rfl ?_
    refine xm_iload hX 2 dL_law_233 rfl ?_
    refine xm_iconst hX (v := 3) rfl dL_law_235 ?_
    refine xm_ishr hX dL_law_236 ?_
    refine xm_sipush hX (v := 4001) rfl dL_law_237 ?_
    refine xm_calli hX (xm_runS (nC := 599998) (nS := 7302240) hX (As := (fun g => [.int (x77 >>> ((3 : Int32) &&& 31)), .int (4001 : Int32)])) (kL_up cL_pre (x77 >>> ((3 : Int32) &&& 31)) (4001 : Int32) M87) (xl_gS gm_189 gm_190 gm_0 gm_191) rfl ⟨rfl, rfl⟩ hdL_up ⟨Nat.le_of_ble_eq_true rfl, Nat.le_of_ble_eq_true rfl⟩ rfl (Nat.le_of_ble_eq_true rfl) rfl ⟨Nat.le_of_ble_eq_true rfl, Nat.le_of_ble_eq_true rfl⟩ dL_law_240) (fun x89 M88 => ?_)
    refine xm_sipush hX (v := 2000) rfl dL_law_243 ?_
    refine xm_isub hX dL_law_246 ?_
    refine xm_iload hX 2 dL_law_247 rfl ?_
    refine xm_bipush hX (v := 9) rfl dL_law_249 ?_
    refine xm_ishr hX dL_law_251 ?_
    refine xm_sipush hX (v := 4001) rfl dL_law_252 ?_
    refine xm_calli hX (xm_runS (nC := 599998) (nS := 7302240) hX (As := (fun g => [.int (x77 >>> ((9 : Int32) &&& 31)), .int (4001 : Int32)])) (kL_up cL_pre (x77 >>> ((9 : Int32) &&& 31)) (4001 : Int32) M88) (xl_gS gm_189 gm_190 gm_0 gm_191) rfl ⟨rfl, rfl⟩ hdL_up ⟨Nat.le_of_ble_eq_true rfl, Nat.le_of_ble_eq_true rfl⟩ rfl (Nat.le_of_ble_eq_true rfl) rfl ⟨Nat.le_of_ble_eq_true rfl, Nat.le_of_ble_eq_true rfl⟩ dL_law_255) (fun x91 M90 => ?_)
    refine xm_sipush hX (v := 2000) rfl dL_law_258 ?_
    refine xm_isub hX dL_law_261 ?_
    refine xm_iload hX 0 dL_law_262 rfl ?_
    refine xm_sipush hX (v := 4001) rfl dL_law_264 ?_
    refine xm_calli hX (xm_runS (nC := 599998) (nS := 7302240) hX (As := (fun g => [.int x86, .int (4001 : Int32)])) (kL_up cL_pre x86 (4001 : Int32) M90) (xl_gS gm_189 gm_190 gm_0 gm_191) rfl ⟨rfl, rfl⟩ hdL_up ⟨Nat.le_of_ble_eq_true rfl, Nat.le_of_ble_eq_true rfl⟩ rfl (Nat.le_of_ble_eq_true rfl) rfl ⟨Nat.le_of_ble_eq_true rfl, Nat.le_of_ble_eq_true rfl⟩ dL_law_267) (fun x93 M92 => ?_)
    refine xm_sipush hX (v := 2000) rfl dL_law_270 ?_
    refine xm_isub hX dL_law_273 ?_
    refine xm_iload hX 0 dL_law_274 rfl ?_
    refine xm_bipush hX (v := 9) rfl dL_law_276 ?_
    refine xm_ishr hX dL_law_278 ?_
    refine xm_sipush hX (v := 4001) rfl dL_law_279 ?_
    refine xm_calli hX (xm_runS (nC := 599998) (nS := 7302240) hX (As := (fun g => [.int (x86 >>> ((9 : Int32) &&& 31)), .int (4001 : Int32)])) (kL_up cL_pre (x86 >>> ((9 : Int32) &&& 31)) (4001 : Int32) M92) (xl_gS gm_189 gm_190 gm_0 gm_191) rfl ⟨rfl, rfl⟩ hdL_up ⟨Nat.le_of_ble_eq_true rfl, Nat.le_of_ble_eq_true rfl⟩ rfl (Nat.le_of_ble_eq_true rfl) rfl ⟨Nat.le_of_ble_eq_true rfl, Nat.le_of_ble_eq_true rfl⟩ dL_law_282) (fun x95 M94 => ?_)
    refine xm_sipush hX (v := 2000) rfl dL_law_285 ?_
    refine xm_isub hX dL_law_288 ?_
    refine xm_iload hX 0 dL_law_289 rfl ?_
    refine xm_iconst hX (v := 3) rfl dL_law_291 ?_
    refine xm_ishr hX dL_law_292 ?_
    refine xm_sipush hX (v := 18000) rfl dL_law_293 ?_
    refine xm_calli hX (xm_runS (nC := 599998) (nS := 7302240) hX (As := (fun g => [.int (x86 >>> ((3 : Int32) &&& 31)), .int (18000 : Int32)])) (kL_up cL_pre (x86 >>> ((3 : Int32) &&& 31)) (18000 : Int32) M94) (xl_gS gm_189 gm_190 gm_0 gm_191) rfl ⟨rfl, rfl⟩ hdL_up ⟨Nat.le_of_ble_eq_true rfl, Nat.le_of_ble_eq_true rfl⟩ rfl (Nat.le_of_ble_eq_true rfl) rfl ⟨Nat.le_of_ble_eq_true rfl, Nat.le_of_ble_eq_true rfl⟩ dL_law_296) (fun x97 M96 => ?_)
    refine xm_calli hX (xm_runV (nC := 599998) (nS := 7302240) hX (k := 0) (ci := 3) (As := (fun g => [.int (x89 - (2000 : Int32)), .int (x91 - (2000 : Int32)), .int (x93 - (2000 : Int32)), .int (x95 - (2000 : Int32)), .int x97])) (kX3_corridor cL_pre (x89 - (2000 : Int32)) (x91 - (2000 : Int32)) (x93 - (2000 : Int32)) (x95 - (2000 : Int32)) x97 M96) cL_0 rfl (xl_gV gm_158 gm_159 gm_160 gm_1 gm_161) rfl ⟨rfl, rfl⟩ ⟨rfl, hdX3_corridor⟩ ⟨Nat.le_of_ble_eq_true rfl, Nat.le_of_ble_eq_true rfl⟩ rfl (Nat.le_of_ble_eq_true rfl) rfl ⟨Nat.le_of_ble_eq_true rfl, Nat.le_of_ble_eq_true rfl⟩ dL_law_299) (fun x99 M98 => ?_)
    refine xm_pop hX rfl dL_law_302 ?_
    refine xm_iinc hX (lv2 := fun x100 => [(4, .int x100), (6, .int x86), (2, .int x85), (5, .int x77), (0, .ref b), (1, .ref (g.1 0))]) 5 dL_law_303 rfl (by decide) (fun _ => rfl) (fun x100 => ?_)
    refine xm_goto hX (tgt := 174) dL_law_306 rfl ?_
    refine xm_weak [4, 5, 2, 0] (lv' := [(0, .ref b), (1, .ref (g.1 0)), (2, .int x85), (4, .int x100)]) rfl ?_
    exact h174 x85 x100 M98
def fL_law_174_it (xs : Nat → Int32) (Ls : Nat)  (nq : Nat) : Int32 → Int32 → xm_M → Option (Int32 × xm_M) := xm_it (fun kq => fL_law_174 xs Ls kq) (fun _ _ _ => none) nq
theorem tfL_law_174_it {p : Program} {l : Launch} {e : Env} {s : State} {m : MethodId} {below : List Frame} {meth : Method} {c : Code} {D : va_G} {g : xm_G} {b : Nat} (xs : Nat → Int32) (Ls : Nat) (hX : xm_X p m meth c code 7 s #[Value.ref b] lw_tbl RL ret D cL g (fun q : Nat => s.heap.size ≤ q)) (hs : xm_Sc b Ls xs s (fun q : Nat => s.heap.size ≤ q))    : ∀ (nq : Nat), ∀ (b2 : Int32), ∀ (b4 : Int32), ∀ (M : xm_M), xm_J p l e room_1 s m #[Value.ref b] below meth c 7 D cL g (fun q : Nat => s.heap.size ≤ q) (xm_FL below b s 599998 7302240) 174 [(0, .ref b), (1, .ref (g.1 0)), (2, .int b2), (4, .int b4)] [] M (fL_law_174_it xs Ls nq b2 b4 M) := by
  intro nq
  induction nq with
  | zero => exact fun _ _ _ => xm_none
  | succ nq ih => exact tfL_law_174 xs Ls hX hs _ ih
def fL_law (xs : Nat → Int32) (Ls : Nat)  (M : xm_M) : Option (Int32 × xm_M) :=
  xm_lt ((0 : Int32)) (fun x1 => xm_lt (x1 + Int32.ofInt 1) (fun x2 => xm_bi (fL_cell xs Ls x1 M) (fun x3 M4 => xm_bi (fL_refused x3 M4) (fun x6 M5 => if x6 = 0 then none else xm_lt (x2 + Int32.ofInt 1) (fun x7 => xm_bi (fL_cell xs Ls x2 M5) (fun x8 M9 => xm_bi (fL_up x8 (900 : Int32) M9) (fun x11 M10 => xm_bi (fX3_set (0 : Int32) ((300 : Int32) + x11) M10) (fun x13 M12 => xm_bi (fL_up (x8 >>> ((3 : Int32) &&& 31)) (900 : Int32) M12) (fun x15 M14 => xm_bi (fX3_set (1 : Int32) ((300 : Int32) + x15) M14) (fun x17 M16 => xm_bi (fL_up (x8 >>> ((5 : Int32) &&& 31)) (900 : Int32) M16) (fun x19 M18 => xm_bi (fX3_set (2 : Int32) ((100 : Int32) + x19) M18) (fun x21 M20 => xm_bi (fL_up (x8 >>> ((7 : Int32) &&& 31)) (101 : Int32) M20) (fun x23 M22 => xm_bi (fX3_set (4 : Int32) x23 M22) (fun x25 M24 => xm_bi (fL_up (x8 >>> ((9 : Int32) &&& 31)) (101 : Int32) M24) (fun x27 M26 => xm_bi (fX3_set (6 : Int32) x27 M26) (fun x29 M28 => xm_bi (fL_up (x8 >>> ((2 : Int32) &&& 31)) (900001 : Int32) M28) (fun x31 M30 => xm_bi (fX3_set (8 : Int32) x31 M30) (fun x33 M32 => xm_bi (fL_up x8 (2001 : Int32) M32) (fun x35 M34 => xm_bi (fL_up (x8 >>> ((4 : Int32) &&& 31)) (2001 : Int32) M34) (fun x37 M36 => xm_bi (fL_up x8 (3600000 : Int32) M36) (fun x39 M38 => xm_bi (fX3_begin (x35 - (1000 : Int32)) (x37 - (1000 : Int32)) x39 M38) (fun x41 M40 => xm_lt ((0 : Int32)) (fun x42 => fL_law_174_it xs Ls xm_N x7 x42 M40)))))))))))))))))))))))
set_option maxRecDepth 20000 in
theorem kL_law_w {p : Program} {l : Launch} {e : Env} {s : State} {m : MethodId} {below : List Frame} {meth : Method} {c : Code} {D : va_G} {g : xm_G} {b : Nat} (xs : Nat → Int32) (Ls : Nat) (hX : xm_X p m meth c code 7 s #[Value.ref b] lw_tbl RL ret D cL g (fun q : Nat => s.heap.size ≤ q)) (hs : xm_Sc b Ls xs s (fun q : Nat => s.heap.size ≤ q)) (M : xm_M) : xm_J p l e room_1 s m #[Value.ref b] below meth c 7 D cL g (fun q : Nat => s.heap.size ≤ q) (xm_FL below b s 599998 7302240) 8 [(1, .ref (g.1 0)), (0, .ref b)] [] M (fL_law xs Ls M) := by
  unfold fL_law
  refine xm_iconst hX (v := 0) rfl dL_law_8 ?_
  refine xm_nmi (fun x1 => ?_)
  refine xm_istore_n hX (lv' := [(2, .int x1), (1, .ref (g.1 0)), (0, .ref b)]) dL_law_9 rfl (by decide) rfl ?_
  refine xm_aload_n hX 1 dL_law_10 rfl rfl ?_
  refine xm_aload_n hX 2 dL_law_11 rfl rfl ?_
  refine xm_iload_n hX 0 dL_law_12 rfl rfl ?_
  refine xm_iinc hX (lv2 := fun x2 => [(2, .int x2), (1, .ref (g.1 0)), (0, .ref b)]) 0 dL_law_13 rfl (by decide) (fun _ => rfl) (fun x2 => ?_)
  refine xm_calli hX (xm_runCell (nC := 599998) (nS := 7302240) hX hs (k := x1) rfl ⟨Nat.le_of_ble_eq_true rfl, Nat.le_of_ble_eq_true rfl⟩ rfl dL_law_16) (fun x3 M4 => ?_)
  refine xm_calli hX (xm_runS (nC := 599998) (nS := 7302240) hX (As := (fun g => [.ref (g.1 0), .int x3])) (kL_refused cL_pre x3 M4) (xl_gS gm_493 gm_494 gm_0 gm_495) rfl ⟨rfl, rfl⟩ hdL_refused ⟨Nat.le_of_ble_eq_true rfl, Nat.le_of_ble_eq_true rfl⟩ rfl (Nat.le_of_ble_eq_true rfl) rfl ⟨Nat.le_of_ble_eq_true rfl, Nat.le_of_ble_eq_true rfl⟩ dL_law_19) (fun x6 M5 => ?_)
  refine xm_if_ne hX (tgt := 27) dL_law_22 rfl ?_ ?_
  · refine xm_aload_n hX 2 dL_law_27 rfl rfl ?_
    refine xm_iload_n hX 0 dL_law_28 rfl rfl ?_
    refine xm_iinc hX (lv2 := fun x7 => [(2, .int x7), (1, .ref (g.1 0)), (0, .ref b)]) 0 dL_law_29 rfl (by decide) (fun _ => rfl) (fun x7 => ?_)
    refine xm_calli hX (xm_runCell (nC := 599998) (nS := 7302240) hX hs (k := x2) rfl ⟨Nat.le_of_ble_eq_true rfl, Nat.le_of_ble_eq_true rfl⟩ rfl dL_law_32) (fun x8 M9 => ?_)
    refine xm_istore_n hX (lv' := [(3, .int x8), (2, .int x7), (1, .ref (g.1 0)), (0, .ref b)]) dL_law_35 rfl (by decide) rfl ?_
    refine xm_aload_n hX 2 dL_law_36 rfl rfl ?_
    refine xm_iconst hX (v := 0) rfl dL_law_37 ?_
    refine xm_sipush hX (v := 300) rfl dL_law_38 ?_
    refine xm_iload_n hX 0 dL_law_41 rfl rfl ?_
    refine xm_sipush hX (v := 900) rfl dL_law_42 ?_
    refine xm_calli hX (xm_runS (nC := 599998) (nS := 7302240) hX (As := (fun g => [.int x8, .int (900 : Int32)])) (kL_up cL_pre x8 (900 : Int32) M9) (xl_gS gm_189 gm_190 gm_0 gm_191) rfl ⟨rfl, rfl⟩ hdL_up ⟨Nat.le_of_ble_eq_true rfl, Nat.le_of_ble_eq_true rfl⟩ rfl (Nat.le_of_ble_eq_true rfl) rfl ⟨Nat.le_of_ble_eq_true rfl, Nat.le_of_ble_eq_true rfl⟩ dL_law_45) (fun x11 M10 => ?_)
    refine xm_iadd hX dL_law_48 ?_
    refine xm_calli hX (xm_runV (nC := 599998) (nS := 7302240) hX (k := 0) (ci := 3) (As := (fun g => [.int (0 : Int32), .int ((300 : Int32) + x11)])) (kX3_set cL_pre (0 : Int32) ((300 : Int32) + x11) M10) cL_0 rfl (xl_gV gm_140 gm_141 gm_142 gm_1 gm_143) rfl ⟨rfl, rfl⟩ ⟨rfl, hdX3_set⟩ ⟨Nat.le_of_ble_eq_true rfl, Nat.le_of_ble_eq_true rfl⟩ rfl (Nat.le_of_ble_eq_true rfl) rfl ⟨Nat.le_of_ble_eq_true rfl, Nat.le_of_ble_eq_true rfl⟩ dL_law_49) (fun x13 M12 => ?_)
    refine xm_pop hX rfl dL_law_52 ?_
    refine xm_aload_n hX 2 dL_law_53 rfl rfl ?_
    refine xm_iconst hX (v := 1) rfl dL_law_54 ?_
    refine xm_sipush hX (v := 300) rfl dL_law_55 ?_
    refine xm_iload_n hX 0 dL_law_58 rfl rfl ?_
    refine xm_iconst hX (v := 3) rfl dL_law_59 ?_
    refine xm_ishr hX dL_law_60 ?_
    refine xm_sipush hX (v := 900) rfl dL_law_61 ?_
    refine xm_calli hX (xm_runS (nC := 599998) (nS := 7302240) hX (As := (fun g => [.int (x8 >>> ((3 : Int32) &&& 31)), .int (900 : Int32)])) (kL_up cL_pre (x8 >>> ((3 : Int32) &&& 31)) (900 : Int32) M12) (xl_gS gm_189 gm_190 gm_0 gm_191) rfl ⟨rfl, rfl⟩ hdL_up ⟨Nat.le_of_ble_eq_true rfl, Nat.le_of_ble_eq_true rfl⟩ rfl (Nat.le_of_ble_eq_true rfl) rfl ⟨Nat.le_of_ble_eq_true rfl, Nat.le_of_ble_eq_true rfl⟩ dL_law_64) (fun x15 M14 => ?_)
    refine xm_iadd hX dL_law_67 ?_
    refine xm_calli hX (xm_runV (nC := 599998) (nS := 7302240) hX (k := 0) (ci := 3) (As := (fun g => [.int (1 : Int32), .int ((300 : Int32) + x15)])) (kX3_set cL_pre (1 : Int32) ((300 : Int32) + x15) M14) cL_0 rfl (xl_gV gm_140 gm_141 gm_142 gm_1 gm_143) rfl ⟨rfl, rfl⟩ ⟨rfl, hdX3_set⟩ ⟨Nat.le_of_ble_eq_true rfl, Nat.le_of_ble_eq_true rfl⟩ rfl (Nat.le_of_ble_eq_true rfl) rfl ⟨Nat.le_of_ble_eq_true rfl, Nat.le_of_ble_eq_true rfl⟩ dL_law_68) (fun x17 M16 => ?_)
    refine xm_pop hX rfl dL_law_71 ?_
    refine xm_aload_n hX 2 dL_law_72 rfl rfl ?_
    refine xm_iconst hX (v := 2) rfl dL_law_73 ?_
    refine xm_bipush hX (v := 100) rfl dL_law_74 ?_
    refine xm_iload_n hX 0 dL_law_76 rfl rfl ?_
    refine xm_iconst hX (v := 5) rfl dL_law_77 ?_
    refine xm_ishr hX dL_law_78 ?_
    refine xm_sipush hX (v := 900) rfl dL_law_79 ?_
    refine xm_calli hX (xm_runS (nC := 599998) (nS := 7302240) hX (As := (fun g => [.int (x8 >>> ((5 : Int32) &&& 31)), .int (900 : Int32)])) (kL_up cL_pre (x8 >>> ((5 : Int32) &&& 31)) (900 : Int32) M16) (xl_gS gm_189 gm_190 gm_0 gm_191) rfl ⟨rfl, rfl⟩ hdL_up ⟨Nat.le_of_ble_eq_true rfl, Nat.le_of_ble_eq_true rfl⟩ rfl (Nat.le_of_ble_eq_true rfl) rfl ⟨Nat.le_of_ble_eq_true rfl, Nat.le_of_ble_eq_true rfl⟩ dL_law_82) (fun x19 M18 => ?_)
    refine xm_iadd hX dL_law_85 ?_
    refine xm_calli hX (xm_runV (nC := 599998) (nS := 7302240) hX (k := 0) (ci := 3) (As := (fun g => [.int (2 : Int32), .int ((100 : Int32) + x19)])) (kX3_set cL_pre (2 : Int32) ((100 : Int32) + x19) M18) cL_0 rfl (xl_gV gm_140 gm_141 gm_142 gm_1 gm_143) rfl ⟨rfl, rfl⟩ ⟨rfl, hdX3_set⟩ ⟨Nat.le_of_ble_eq_true rfl, Nat.le_of_ble_eq_true rfl⟩ rfl (Nat.le_of_ble_eq_true rfl) rfl ⟨Nat.le_of_ble_eq_true rfl, Nat.le_of_ble_eq_true rfl⟩ dL_law_86) (fun x21 M20 => ?_)
    refine xm_pop hX rfl dL_law_89 ?_
    refine xm_aload_n hX 2 dL_law_90 rfl rfl ?_
    refine xm_iconst hX (v := 4) rfl dL_law_91 ?_
    refine xm_iload_n hX 0 dL_law_92 rfl rfl ?_
    refine xm_bipush hX (v := 7) rfl dL_law_93 ?_
    refine xm_ishr hX dL_law_95 ?_
    refine xm_bipush hX (v := 101) rfl dL_law_96 ?_
    refine xm_calli hX (xm_runS (nC := 599998) (nS := 7302240) hX (As := (fun g => [.int (x8 >>> ((7 : Int32) &&& 31)), .int (101 : Int32)])) (kL_up cL_pre (x8 >>> ((7 : Int32) &&& 31)) (101 : Int32) M20) (xl_gS gm_189 gm_190 gm_0 gm_191) rfl ⟨rfl, rfl⟩ hdL_up ⟨Nat.le_of_ble_eq_true rfl, Nat.le_of_ble_eq_true rfl⟩ rfl (Nat.le_of_ble_eq_true rfl) rfl ⟨Nat.le_of_ble_eq_true rfl, Nat.le_of_ble_eq_true rfl⟩ dL_law_98) (fun x23 M22 => ?_)
    refine xm_calli hX (xm_runV (nC := 599998) (nS := 7302240) hX (k := 0) (ci := 3) (As := (fun g => [.int (4 : Int32), .int x23])) (kX3_set cL_pre (4 : Int32) x23 M22) cL_0 rfl (xl_gV gm_140 gm_141 gm_142 gm_1 gm_143) rfl ⟨rfl, rfl⟩ ⟨rfl, hdX3_set⟩ ⟨Nat.le_of_ble_eq_true rfl, Nat.le_of_ble_eq_true rfl⟩ rfl (Nat.le_of_ble_eq_true rfl) rfl ⟨Nat.le_of_ble_eq_true rfl, Nat.le_of_ble_eq_true rfl⟩ dL_law_101) (fun x25 M24 => ?_)
    refine xm_pop hX rfl dL_law_104 ?_
    refine xm_aload_n hX 2 dL_law_105 rfl rfl ?_
    refine xm_bipush hX (v := 6) rfl dL_law_106 ?_
    refine xm_iload_n hX 0 dL_law_108 rfl rfl ?_
    refine xm_bipush hX (v := 9) rfl dL_law_109 ?_
    refine xm_ishr hX dL_law_111 ?_
    refine xm_bipush hX (v := 101) rfl dL_law_112 ?_
    refine xm_calli hX (xm_runS (nC := 599998) (nS := 7302240) hX (As := (fun g => [.int (x8 >>> ((9 : Int32) &&& 31)), .int (101 : Int32)])) (kL_up cL_pre (x8 >>> ((9 : Int32) &&& 31)) (101 : Int32) M24) (xl_gS gm_189 gm_190 gm_0 gm_191) rfl ⟨rfl, rfl⟩ hdL_up ⟨Nat.le_of_ble_eq_true rfl, Nat.le_of_ble_eq_true rfl⟩ rfl (Nat.le_of_ble_eq_true rfl) rfl ⟨Nat.le_of_ble_eq_true rfl, Nat.le_of_ble_eq_true rfl⟩ dL_law_114) (fun x27 M26 => ?_)
    refine xm_calli hX (xm_runV (nC := 599998) (nS := 7302240) hX (k := 0) (ci := 3) (As := (fun g => [.int (6 : Int32), .int x27])) (kX3_set cL_pre (6 : Int32) x27 M26) cL_0 rfl (xl_gV gm_140 gm_141 gm_142 gm_1 gm_143) rfl ⟨rfl, rfl⟩ ⟨rfl, hdX3_set⟩ ⟨Nat.le_of_ble_eq_true rfl, Nat.le_of_ble_eq_true rfl⟩ rfl (Nat.le_of_ble_eq_true rfl) rfl ⟨Nat.le_of_ble_eq_true rfl, Nat.le_of_ble_eq_true rfl⟩ dL_law_117) (fun x29 M28 => ?_)
    refine xm_pop hX rfl dL_law_120 ?_
    refine xm_aload_n hX 2 dL_law_121 rfl rfl ?_
    refine xm_bipush hX (v := 8) rfl dL_law_122 ?_
    refine xm_iload_n hX 0 dL_law_124 rfl rfl ?_
    refine xm_iconst hX (v := 2) rfl dL_law_125 ?_
    refine xm_ishr hX dL_law_126 ?_
    refine xm_ldc hX (v := 900001) (lw_gd_in _ gm_374) dL_law_127 ?_
    refine xm_calli hX (xm_runS (nC := 599998) (nS := 7302240) hX (As := (fun g => [.int (x8 >>> ((2 : Int32) &&& 31)), .int (900001 : Int32)])) (kL_up cL_pre (x8 >>> ((2 : Int32) &&& 31)) (900001 : Int32) M28) (xl_gS gm_189 gm_190 gm_0 gm_191) rfl ⟨rfl, rfl⟩ hdL_up ⟨Nat.le_of_ble_eq_true rfl, Nat.le_of_ble_eq_true rfl⟩ rfl (Nat.le_of_ble_eq_true rfl) rfl ⟨Nat.le_of_ble_eq_true rfl, Nat.le_of_ble_eq_true rfl⟩ dL_law_129) (fun x31 M30 => ?_)
    refine xm_calli hX (xm_runV (nC := 599998) (nS := 7302240) hX (k := 0) (ci := 3) (As := (fun g => [.int (8 : Int32), .int x31])) (kX3_set cL_pre (8 : Int32) x31 M30) cL_0 rfl (xl_gV gm_140 gm_141 gm_142 gm_1 gm_143) rfl ⟨rfl, rfl⟩ ⟨rfl, hdX3_set⟩ ⟨Nat.le_of_ble_eq_true rfl, Nat.le_of_ble_eq_true rfl⟩ rfl (Nat.le_of_ble_eq_true rfl) rfl ⟨Nat.le_of_ble_eq_true rfl, Nat.le_of_ble_eq_true rfl⟩ dL_law_132) (fun x33 M32 => ?_)
    refine xm_pop hX rfl dL_law_135 ?_
    refine xm_aload_n hX 2 dL_law_136 rfl rfl ?_
    refine xm_iload_n hX 0 dL_law_137 rfl rfl ?_
    refine xm_sipush hX (v := 2001) rfl dL_law_138 ?_
    refine xm_calli hX (xm_runS (nC := 599998) (nS := 7302240) hX (As := (fun g => [.int x8, .int (2001 : Int32)])) (kL_up cL_pre x8 (2001 : Int32) M32) (xl_gS gm_189 gm_190 gm_0 gm_191) rfl ⟨rfl, rfl⟩ hdL_up ⟨Nat.le_of_ble_eq_true rfl, Nat.le_of_ble_eq_true rfl⟩ rfl (Nat.le_of_ble_eq_true rfl) rfl ⟨Nat.le_of_ble_eq_true rfl, Nat.le_of_ble_eq_true rfl⟩ dL_law_141) (fun x35 M34 => ?_)
    refine xm_sipush hX (v := 1000) rfl dL_law_144 ?_
    refine xm_isub hX dL_law_147 ?_
    refine xm_iload_n hX 0 dL_law_148 rfl rfl ?_
    refine xm_iconst hX (v := 4) rfl dL_law_149 ?_
    refine xm_ishr hX dL_law_150 ?_
    refine xm_sipush hX (v := 2001) rfl dL_law_151 ?_
    refine xm_calli hX (xm_runS (nC := 599998) (nS := 7302240) hX (As := (fun g => [.int (x8 >>> ((4 : Int32) &&& 31)), .int (2001 : Int32)])) (kL_up cL_pre (x8 >>> ((4 : Int32) &&& 31)) (2001 : Int32) M34) (xl_gS gm_189 gm_190 gm_0 gm_191) rfl ⟨rfl, rfl⟩ hdL_up ⟨Nat.le_of_ble_eq_true rfl, Nat.le_of_ble_eq_true rfl⟩ rfl (Nat.le_of_ble_eq_true rfl) rfl ⟨Nat.le_of_ble_eq_true rfl, Nat.le_of_ble_eq_true rfl⟩ dL_law_154) (fun x37 M36 => ?_)
    refine xm_sipush hX (v := 1000) rfl dL_law_157 ?_
    refine xm_isub hX dL_law_160 ?_
    refine xm_iload_n hX 0 dL_law_161 rfl rfl ?_
    refine xm_ldc hX (v := 3600000) (lw_gd_in _ gm_492) dL_law_162 ?_
    refine xm_calli hX (xm_runS (nC := 599998) (nS := 7302240) hX (As := (fun g => [.int x8, .int (3600000 : Int32)])) (kL_up cL_pre x8 (3600000 : Int32) M36) (xl_gS gm_189 gm_190 gm_0 gm_191) rfl ⟨rfl, rfl⟩ hdL_up ⟨Nat.le_of_ble_eq_true rfl, Nat.le_of_ble_eq_true rfl⟩ rfl (Nat.le_of_ble_eq_true rfl) rfl ⟨Nat.le_of_ble_eq_true rfl, Nat.le_of_ble_eq_true rfl⟩ dL_law_164) (fun x39 M38 => ?_)
    refine xm_calli hX (xm_runV (nC := 599998) (nS := 7302240) hX (k := 0) (ci := 3) (As := (fun g => [.int (x35 - (1000 : Int32)), .int (x37 - (1000 : Int32)), .int x39])) (kX3_begin cL_pre (x35 - (1000 : Int32)) (x37 - (1000 : Int32)) x39 M38) cL_0 rfl (xl_gV gm_180 gm_181 gm_182 gm_1 gm_183) rfl ⟨rfl, rfl⟩ ⟨rfl, hdX3_begin⟩ ⟨Nat.le_of_ble_eq_true rfl, Nat.le_of_ble_eq_true rfl⟩ rfl (Nat.le_of_ble_eq_true rfl) rfl ⟨Nat.le_of_ble_eq_true rfl, Nat.le_of_ble_eq_true rfl⟩ dL_law_167) (fun x41 M40 => ?_)
    refine xm_pop hX rfl dL_law_170 ?_
    refine xm_iconst hX (v := 0) rfl dL_law_171 ?_
    refine xm_nmi (fun x42 => ?_)
    refine xm_istore hX (lv' := [(4, .int x42), (3, .int x8), (2, .int x7), (1, .ref (g.1 0)), (0, .ref b)]) dL_law_172 (by decide) rfl ?_
    refine xm_weak [4, 3, 2, 0] (lv' := [(0, .ref b), (1, .ref (g.1 0)), (2, .int x7), (4, .int x42)]) rfl ?_
    exact tfL_law_174_it xs Ls hX hs xm_N x7 x42 M40
  · refine xm_iconst hX (v := 0) rfl dL_law_25 ?_
    exact xm_none
