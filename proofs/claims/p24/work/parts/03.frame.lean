/-! THE PURE PICTURE. A memory: the ints and the longs of every cell by the cell's number and the place in it. Shapes: what a cell is. A world is made of both and of the addresses. -/
abbrev xm_M : Type := (Nat → Nat → Int32) × (Nat → Nat → Int64)
abbrev xm_Sh : Type := (Nat × FieldType × Nat) ⊕ (Nat × Nat) ⊕ (Nat × List (Nat × Nat))
abbrev xm_G : Type := (Nat → Nat) × List (ClassId × FieldType)
def xm_cid (g : xm_G) (t : Nat) : ClassId := (g.2.getD t (0, .int)).1
def xm_fv (g : xm_G) (f : Nat → Int32) (h : Nat → Int64) (j : Nat) (q : Nat × Nat) : Value := if q.1 = 0 then .int (f j) else if q.1 = 1 then .long (h j) else .ref (g.1 q.2)
def xm_fs (g : xm_G) (f : Nat → Int32) (h : Nat → Int64) (fs : List (Nat × Nat)) : List Value := fs.mapIdx (xm_fv g f h)
def xm_rows (g : xm_G) (b : Nat × Nat) : Nat → Option Nat := fun i => if i < b.1 then some (g.1 (b.2 + i)) else none
def xm_cell (g : xm_G) (sh : xm_Sh) (f : Nat → Int32) (h : Nat → Int64) : va_E := match sh with
  | .inl a => .inl (xm_cid g a.1, a.2.2, .inl f)
  | .inr (.inl b) => .inl (xm_cid g 1, b.1, .inr (.inr (.inr (.inr (xm_rows g b)))))
  | .inr (.inr q) => .inr (q.1, xm_fs g f h q.2)
def xm_w (L : List xm_Sh) (g : xm_G) (M : xm_M) : va_W := L.mapIdx (fun k sh => (g.1 k, xm_cell g sh (M.1 k) (M.2 k)))
/-- a memory with one int more, with one long more, with a row of ints -/
def xm_s (M : xm_M) (k j : Nat) (v : Int32) : xm_M := (fun a b => if a = k ∧ b = j then v else M.1 a b, M.2)
def xm_sl (M : xm_M) (k j : Nat) (v : Int64) : xm_M := (M.1, fun a b => if a = k ∧ b = j then v else M.2 a b)
def xm_r (M : xm_M) (k : Nat) (f : Nat → Int32) : xm_M := (fun a => if a = k then f else M.1 a, M.2)
theorem xm_s_o {M : xm_M} {k j : Nat} {v : Int32} (a : Nat) (h : a ≠ k) : (xm_s M k j v).1 a = M.1 a ∧ (xm_s M k j v).2 a = M.2 a := ⟨funext fun b => by simp [xm_s, h], rfl⟩
theorem xm_sl_o {M : xm_M} {k j : Nat} {v : Int64} (a : Nat) (h : a ≠ k) : (xm_sl M k j v).1 a = M.1 a ∧ (xm_sl M k j v).2 a = M.2 a := ⟨rfl, funext fun b => by simp [xm_sl, h]⟩
theorem xm_r_o {M : xm_M} {k : Nat} {f : Nat → Int32} (a : Nat) (h : a ≠ k) : (xm_r M k f).1 a = M.1 a ∧ (xm_r M k f).2 a = M.2 a := ⟨by simp [xm_r, h], rfl⟩
theorem xm_s_at {M : xm_M} {k j : Nat} {v : Int32} : (xm_s M k j v).1 k = upd (M.1 k) j v := funext fun b => by simp [xm_s, upd]
theorem xm_r_at {M : xm_M} {k : Nat} {f : Nat → Int32} : (xm_r M k f).1 k = f := by simp [xm_r]
theorem xm_w_at {L : List xm_Sh} {g : xm_G} {M : xm_M} {k : Nat} {sh : xm_Sh} (h : L[k]? = some sh) : (xm_w L g M)[k]? = some (g.1 k, xm_cell g sh (M.1 k) (M.2 k)) := by simp [xm_w, List.getElem?_mapIdx, h]
theorem xm_w_len {L : List xm_Sh} {g : xm_G} {M : xm_M} : (xm_w L g M).length = L.length := by simp [xm_w]
theorem xm_w_spec {L : List xm_Sh} {g : xm_G} {M : xm_M} {k : Nat} {q : Nat × va_E} (h : (xm_w L g M)[k]? = some q) : k < L.length ∧ q.1 = g.1 k := by
  have hl : k < L.length := by rw [← xm_w_len (g := g) (M := M)]; exact (List.getElem?_eq_some_iff.mp h).1
  refine ⟨hl, ?_⟩
  rw [xm_w_at (List.getElem?_eq_getElem hl)] at h
  rw [← Option.some.inj h]
theorem xm_w_set {L : List xm_Sh} {g : xm_G} {M M' : xm_M} {k : Nat} {sh : xm_Sh} {e : va_E} (h : L[k]? = some sh) (he : e = xm_cell g sh (M'.1 k) (M'.2 k)) (ho : ∀ a, a ≠ k → M'.1 a = M.1 a ∧ M'.2 a = M.2 a) : (xm_w L g M).set k (g.1 k, e) = xm_w L g M' := by
  apply List.ext_getElem?
  intro i
  by_cases hi : k = i
  · subst hi
    have hl : k < (xm_w L g M).length := by rw [xm_w_len]; exact (List.getElem?_eq_some_iff.mp h).1
    rw [List.getElem?_set_self hl, xm_w_at h, he]
  · rw [List.getElem?_set_ne hi]
    unfold xm_w
    rw [List.getElem?_mapIdx, List.getElem?_mapIdx]
    have h2 := ho i (Ne.symm hi)
    cases L[i]? with
    | none => rfl
    | some z => simp [h2.1, h2.2]
def xm_inj (L : List xm_Sh) (g : xm_G) : Prop := ∀ i j : Nat, i < L.length → j < L.length → g.1 i = g.1 j → i = j
theorem xm_D {L : List xm_Sh} {g : xm_G} {A : Nat → Prop} (hi : xm_inj L g) (hA : ∀ k, k < L.length → A (g.1 k)) (M : xm_M) : va_D A (xm_w L g M) := by
  refine ⟨fun i j p q h1 h2 h => ?_, fun k q h => ?_⟩
  · have e1 := xm_w_spec h1
    have e2 := xm_w_spec h2
    exact hi i j e1.1 e2.1 (by rw [← e1.2, ← e2.2]; exact h)
  · have e1 := xm_w_spec h
    rw [e1.2]
    exact hA k e1.1
/-- what a method of this world may change: its cells, and what is new -/
def xm_A (L : List xm_Sh) (g : xm_G) (sz : Nat) : Nat → Prop := fun q => (∃ k, k < L.length ∧ q = g.1 k) ∨ sz ≤ q
def xm_tyk (g : xm_G) (sh : xm_Sh) : Prop := match sh with
  | .inl a => g.2[a.1]? = some (xm_cid g a.1, a.2.1)
  | .inr (.inl _) => g.2[1]? = some (xm_cid g 1, .array .int)
  | .inr (.inr _) => True
def xm_tyok (L : List xm_Sh) (g : xm_G) : Prop := ∀ (k : Nat) (sh : xm_Sh), L[k]? = some sh → xm_tyk g sh
/-- nest mates' links -/
def xm_nwW (q : String × Nat × MethodName × String) : Cond := .methodLinkNest q.1 q.2.1 q.2.2.1 q.2.2.2
def xm_Nx (U : State) : Prop := ∀ q ∈ xm_nw, va_Nw (xm_nwW q) U
theorem xm_Nx.warm {s U : State} (h : xm_Nx s) (hW : s.WarmedH U.vm) : xm_Nx U := fun q hq => va_Nw.warmM hW (h q hq)
theorem xm_Nx.same {u U : State} (h : xm_Nx u) (e : u.vm = U.vm) : xm_Nx U := fun q hq => va_Nw.same rfl e (h q hq)
def xm_low : Nat → Int32 := fun j => ([100, 100, 100, 0, 0, 1, 0, 0, 0] : List Int32).getD j 0
def xm_high : Nat → Int32 := fun j => ([2000, 2000, 1000, 200000, 100, 64, 100, 2000, 900000] : List Int32).getD j 0
def xm_St (A : Nat → Prop) (U : State) (H : Heap) : Prop := ∃ tl th : Nat, va_Z "OdometryDesk" "LOWEST" "[I" (.ref tl) A U H ∧ va_T .int tl 9 (fun j => .int (xm_low j)) A U H ∧ va_Z "OdometryDesk" "HIGHEST" "[I" (.ref th) A U H ∧ va_T .int th 9 (fun j => .int (xm_high j)) A U H
theorem xm_St.moved {A : Nat → Prop} {u U : State} {H : Heap} (hvm : u.vm.Alike U.vm) (h : xm_St A u H) : xm_St A U H := by
  obtain ⟨tl, th, h1, h2, h3, h4⟩ := h
  exact ⟨tl, th, h1.moved hvm, h2.moved hvm, h3.moved hvm, h4.moved hvm⟩
theorem xm_St.kept {A : Nat → Prop} {U : State} {H H1 : Heap} (h : xm_St A U H) (hq : ∀ a : Nat, a < H.size → ¬ A a → H1[a]? = H[a]?) : xm_St A U H1 := by
  obtain ⟨tl, th, h1, h2, h3, h4⟩ := h
  exact ⟨tl, th, h1.kept hq, h2.kept hq, h3.kept hq, h4.kept hq⟩
theorem xm_St.narrow {A B : Nat → Prop} {U : State} {H : Heap} (h : xm_St A U H) (hAB : ∀ q, B q → A q) : xm_St B U H := by
  obtain ⟨tl, th, h1, h2, h3, h4⟩ := h
  exact ⟨tl, th, h1.narrow hAB, h2.narrow hAB, h3.narrow hAB, h4.narrow hAB⟩
def xm_Pre (D : va_G) (L : List xm_Sh) (g : xm_G) (M : xm_M) (sz : Nat) (U : State) : Prop := U.heap.size = sz ∧ va_P D vwCl (xm_w L g M) U.heap ∧ va_K D vwCl g.2 U ∧ xm_Nx U ∧ xm_inj L g ∧ xm_tyok L g ∧ xm_St (xm_A L g sz) U U.heap
def xm_Q (D : va_G) (L : List xm_Sh) (g : xm_G) (A : Nat → Prop) (vM : Option Value × xm_M) : Array Value → State → Outcome → State → Prop := fun _ st oc t => oc = .returned vM.1 ∧ va_P D vwCl (xm_w L g vM.2) t.heap ∧ va_F A st t
/-- A CONTRACT: where the pure function answers, the method answers that, and leaves that memory -/
def xm_C {ρ : Type} (l : Launch) (y : MethodName) (ws : List Cond) (rm : Room) (L : List xm_Sh) (As : xm_G → List Value) (M : xm_M) (Fn : xm_G → ρ → Option Value × xm_M) (X : Option ρ) : Prop :=
  ∀ (D : va_G) (g : xm_G) (sz : Nat) (r : ρ), X = some r → Met l y ws rm (va_Pc (As g) (xm_Pre D L g M sz)) (xm_Q D L g (xm_A L g sz) (Fn g r)) 0 0 (xm_A L g sz)
theorem xm_blind {D : va_G} {L : List xm_Sh} {g : xm_G} {M : xm_M} {sz : Nat} {As : List Value} : FrameBlind (va_Pc As (xm_Pre D L g M sz)) :=
  fun a U fr mk q => ⟨q.1, q.2.1, q.2.2.1, va_K.moved (u := U) (U := U.calling fr mk a) (Vm.Alike.refl U.vm) q.2.2.2.1, xm_Nx.same (u := U) (U := U.calling fr mk a) q.2.2.2.2.1 rfl, q.2.2.2.2.2.1, q.2.2.2.2.2.2.1, xm_St.moved (u := U) (U := U.calling fr mk a) (Vm.Alike.refl U.vm) q.2.2.2.2.2.2.2⟩
/-- the ends: an int, a long, nothing, a cell -/
abbrev xm_Fi : xm_G → Int32 × xm_M → Option Value × xm_M := fun _ r => (some (.int r.1), r.2)
abbrev xm_Fl : xm_G → Int64 × xm_M → Option Value × xm_M := fun _ r => (some (.long r.1), r.2)
abbrev xm_Fv : xm_G → xm_M → Option Value × xm_M := fun _ r => (none, r)
abbrev xm_Fr : xm_G → Nat × xm_M → Option Value × xm_M := fun g r => (some (.ref (g.1 r.1)), r.2)
/-- a value, or a memory, that gets a name -/
def xm_lt {α β : Type} (v : α) (f : α → β) : β := f v
/-- behind a call -/
def xm_bi {ρ : Type} (f : Option (Int32 × xm_M)) (K : Int32 → xm_M → Option ρ) : Option ρ := f.bind (fun r => K r.1 r.2)
def xm_bl {ρ : Type} (f : Option (Int64 × xm_M)) (K : Int64 → xm_M → Option ρ) : Option ρ := f.bind (fun r => K r.1 r.2)
def xm_bv {ρ : Type} (f : Option xm_M) (K : xm_M → Option ρ) : Option ρ := f.bind K
def xm_br {ρ : Type} (f : Option (Nat × xm_M)) (K : Nat → xm_M → Option ρ) : Option ρ := f.bind (fun r => K r.1 r.2)
/-- so many times -/
def xm_it {α : Type} (f : α → α) (z : α) : Nat → α
  | 0 => z
  | n + 1 => f (xm_it f z n)
def xm_N : Nat := 4096
/-- what holds throughout a method -/
def xm_X (p : Program) (m : MethodId) (meth : Method) (c : Code) (cc : ByteArray) (nL : Nat) (s : State) (args : Array Value) (Ts : List Cond) (own : String) (ret : Option FieldType) (D : va_G) (L : List xm_Sh) (g : xm_G) (A : Nat → Prop) : Prop :=
  CallFix p m c cc nL s args Ts own ∧ meth.sig.returnType = ret ∧ meth.locks = false ∧ va_K D vwCl g.2 s ∧ xm_Nx s ∧ xm_inj L g ∧ xm_tyok L g ∧ (∀ k, k < L.length → A (g.1 k)) ∧ (∀ q, s.heap.size ≤ q → A q) ∧ xm_St A s s.heap
/-- THE JUDGEMENT: from here, where the pure function answers r, the method comes to its end with r -/
def xm_J (p : Program) (l : Launch) (e : Env) (R : Room) (s : State) (m : MethodId) (args : Array Value) (below : List Frame) (meth : Method) (c : Code) (nL : Nat) (D : va_G) (L : List xm_Sh) (g : xm_G) (A : Nat → Prop) {ρ : Type} (Fn : (ρ → State → Prop) × Nat × Nat) (pc : Nat) (lv : List (Nat × Value)) (st : List Value) (M : xm_M) (X : Option ρ) : Prop :=
  ∀ r : ρ, X = some r → ∀ (ls : Array Slot) (H : Heap) (locs : List Loc), lv_has ls nL lv → va_P D vwCl (xm_w L g M) H → va_S A s.heap H locs → W p l e R s m args below meth c H locs Fn.2.1 Fn.2.2 (Fn.1 r) (F0 m pc ls st)
/-- the end of a method that makes nothing -/
abbrev xm_Z {ρ : Type} (below : List Frame) (args : Array Value) (s : State) (D : va_G) (L : List xm_Sh) (g : xm_G) (A : Nat → Prop) (Fc : ρ → Option Value × xm_M) : (ρ → State → Prop) × Nat × Nat := (fun r => MQ below (xm_Q D L g A (Fc r)) args s 0 0 A, 0, 0)
theorem xm_C.of {ρ : Type} {l : Launch} {y : MethodName} {ws ws' : List Cond} {rm : Room} {L : List xm_Sh} {As : xm_G → List Value} {M : xm_M} {Fn : xm_G → ρ → Option Value × xm_M} {X : Option ρ} {cc : ByteArray} {maxL : Nat} {ret : Option FieldType} (hy : plainName y.cls = true) (hw : ws = Cond.code y cc maxL ret :: ws') (hn : ∀ g, (lg_sl (As g)).length ≤ maxL)
    (body : ∀ p e s m args below meth c D g A, xm_X p m meth c cc maxL s args ws y.cls ret D L g A → xm_J p l e rm s m args below meth c maxL D L g A (xm_Z below args s D L g A (Fn g)) 0 (lv_args 0 (As g)) [] M X) : xm_C l y ws rm L As M Fn X := by
  intro D g sz r hr
  refine Met.ofW hy hw ?_
  intro p e s m args below meth c s₁ B hml hv
  obtain ⟨rfl, hsz, hP, hK, hN, hI, hT, hSt⟩ := hv
  subst hsz
  have h := body p e s m (As g).toArray below meth c D g (xm_A L g s.heap.size) ⟨⟨B.exec, B.bytes, hml, findClass_of_methodNamed B.named, atoms_spec (ws := ws) B.pre⟩, B.returns, B.notSynchronized, hK, hN, hI, hT, fun k hk => Or.inl ⟨k, hk, rfl⟩, fun q hq => Or.inr hq, hSt⟩ r hr
  rw [lg_entry_eq]
  exact h _ _ _ (lv_entry (As g) (hn g)) hP va_S.rf
theorem xm_C.ofF {ρ : Type} {l : Launch} {y : MethodName} {ws ws' : List Cond} {rm : Room} {L : List xm_Sh} {As : xm_G → List Value} {M : xm_M} {Fn : xm_G → ρ → Option Value × xm_M} {X : Option ρ} {cc : ByteArray} {maxL : Nat} {ret : Option FieldType} (hy : plainFor y = true) (hw : ws = Cond.code y cc maxL ret :: ws') (hn : ∀ g, (lg_sl (As g)).length ≤ maxL)
    (body : ∀ p e s m args below meth c D g A, xm_X p m meth c cc maxL s args ws y.cls ret D L g A → xm_J p l e rm s m args below meth c maxL D L g A (xm_Z below args s D L g A (Fn g)) 0 (lv_args 0 (As g)) [] M X) : xm_C l y ws rm L As M Fn X := by
  intro D g sz r hr
  refine va_MetF hy hw ?_
  intro p e s m args below meth c s₁ B hml hv
  obtain ⟨rfl, hsz, hP, hK, hN, hI, hT, hSt⟩ := hv
  subst hsz
  have h := body p e s m (As g).toArray below meth c D g (xm_A L g s.heap.size) ⟨⟨B.exec, B.bytes, hml, findClass_of_methodNamed B.named, atoms_spec (ws := ws) B.pre⟩, B.returns, B.notSynchronized, hK, hN, hI, hT, fun k hk => Or.inl ⟨k, hk, rfl⟩, fun q hq => Or.inr hq, hSt⟩ r hr
  rw [lg_entry_eq]
  exact h _ _ _ (lv_entry (As g) (hn g)) hP va_S.rf
section XM
variable {p : Program} {l : Launch} {e : Env} {R : Room} {s : State} {m : MethodId} {args : Array Value} {below : List Frame} {meth : Method} {c : Code} {cc : ByteArray} {nL : Nat} {Ts : List Cond} {own : String} {ret : Option FieldType} {D : va_G} {L : List xm_Sh} {g : xm_G} {A : Nat → Prop}
variable {ρ : Type} {Fn : (ρ → State → Prop) × Nat × Nat} {pc tgt : Nat} {lv lv' : List (Nat × Value)} {rest : List Value} {M : xm_M} {X Y : Option ρ}
theorem xm_none {st : List Value} : xm_J p l e R s m args below meth c nL D L g A Fn pc lv st M (none : Option ρ) := fun r hr => by cases hr
theorem xm_X.hD (hX : xm_X p m meth c cc nL s args Ts own ret D L g A) (M : xm_M) : va_D A (xm_w L g M) := xm_D hX.2.2.2.2.2.1 hX.2.2.2.2.2.2.2.1 M
theorem xm_ite {st : List Value} {P : Prop} [Decidable P] (ht : P → xm_J p l e R s m args below meth c nL D L g A Fn pc lv st M X) (hf : ¬ P → xm_J p l e R s m args below meth c nL D L g A Fn pc lv st M Y) : xm_J p l e R s m args below meth c nL D L g A Fn pc lv st M (if P then X else Y) := by
  by_cases h : P
  · rw [if_pos h]; exact ht h
  · rw [if_neg h]; exact hf h
/-- names for what lies on top, for a long there, for the memory -/
theorem xm_nmi {x : Int32} {f : Int32 → Option ρ} (k : ∀ y : Int32, xm_J p l e R s m args below meth c nL D L g A Fn pc lv (.int y :: rest) M (f y)) : xm_J p l e R s m args below meth c nL D L g A Fn pc lv (.int x :: rest) M (xm_lt x f) := k x
theorem xm_nml {x : Int64} {f : Int64 → Option ρ} (k : ∀ y : Int64, xm_J p l e R s m args below meth c nL D L g A Fn pc lv (.long y :: rest) M (f y)) : xm_J p l e R s m args below meth c nL D L g A Fn pc lv (.long x :: rest) M (xm_lt x f) := k x
theorem xm_nmM {st : List Value} {f : xm_M → Option ρ} (k : ∀ M1 : xm_M, xm_J p l e R s m args below meth c nL D L g A Fn pc lv st M1 (f M1)) : xm_J p l e R s m args below meth c nL D L g A Fn pc lv st M (xm_lt M f) := k M
theorem xm_iconst (hX : xm_X p m meth c cc nL s args Ts own ret D L g A) {n : Int} {v : Int32} (hv : Int32.ofInt n = v) (hdg : decode cc pc = .ok (.iconst n, 1)) (k : xm_J p l e R s m args below meth c nL D L g A Fn (pc + 1) lv (.int v :: rest) M X) : xm_J p l e R s m args below meth c nL D L g A Fn pc lv rest M X := fun r hr ls H locs hl hP hS => lv_iconst hX.1.1 hX.1.2.1 hdg hv (k r hr ls H locs hl hP hS)
theorem xm_bipush (hX : xm_X p m meth c cc nL s args Ts own ret D L g A) {n : Int} {v : Int32} (hv : (Int8.ofInt n).toInt32 = v) (hdg : decode cc pc = .ok (.bipush n, 2)) (k : xm_J p l e R s m args below meth c nL D L g A Fn (pc + 2) lv (.int v :: rest) M X) : xm_J p l e R s m args below meth c nL D L g A Fn pc lv rest M X := fun r hr ls H locs hl hP hS => lv_bipush hX.1.1 hX.1.2.1 hdg hv (k r hr ls H locs hl hP hS)
theorem xm_sipush (hX : xm_X p m meth c cc nL s args Ts own ret D L g A) {n : Int} {v : Int32} (hv : (Int16.ofInt n).toInt32 = v) (hdg : decode cc pc = .ok (.sipush n, 3)) (k : xm_J p l e R s m args below meth c nL D L g A Fn (pc + 3) lv (.int v :: rest) M X) : xm_J p l e R s m args below meth c nL D L g A Fn pc lv rest M X := fun r hr ls H locs hl hP hS => lv_sipush hX.1.1 hX.1.2.1 hdg hv (k r hr ls H locs hl hP hS)
theorem xm_lconst (hX : xm_X p m meth c cc nL s args Ts own ret D L g A) {n : Fin 2} {v : Int64} (hv : Int64.ofNat (n : Nat) = v) (hdg : decode cc pc = .ok (.lconst n, 1)) (k : xm_J p l e R s m args below meth c nL D L g A Fn (pc + 1) lv (.long v :: rest) M X) : xm_J p l e R s m args below meth c nL D L g A Fn pc lv rest M X := fun r hr ls H locs hl hP hS => lv_lconst hX.1.1 hX.1.2.1 hdg hv (k r hr ls H locs hl hP hS)
theorem xm_iload_n (hX : xm_X p m meth c cc nL s args Ts own ret D L g A) {k9 : Fin 4} {i : Nat} {x : Int32} (j : Nat) (hdg : decode cc pc = .ok (.iload_n k9, 1)) (hi : (k9 : Nat) = i) (hj : lv[j]? = some (i, .int x)) (k : xm_J p l e R s m args below meth c nL D L g A Fn (pc + 1) lv (.int x :: rest) M X) : xm_J p l e R s m args below meth c nL D L g A Fn pc lv rest M X := fun r hr ls H locs hl hP hS => lv_iload_n hX.1.1 hX.1.2.1 hdg hi (lv_at hl j hj) (k r hr ls H locs hl hP hS)
theorem xm_iload (hX : xm_X p m meth c cc nL s args Ts own ret D L g A) {i : Nat} {x : Int32} (j : Nat) (hdg : decode cc pc = .ok (.iload i, 2)) (hj : lv[j]? = some (i, .int x)) (k : xm_J p l e R s m args below meth c nL D L g A Fn (pc + 2) lv (.int x :: rest) M X) : xm_J p l e R s m args below meth c nL D L g A Fn pc lv rest M X := fun r hr ls H locs hl hP hS => lv_iload hX.1.1 hX.1.2.1 hdg (lv_at hl j hj) (k r hr ls H locs hl hP hS)
theorem xm_istore_n (hX : xm_X p m meth c cc nL s args Ts own ret D L g A) {k9 : Fin 4} {i : Nat} {x : Int32} (hdg : decode cc pc = .ok (.istore_n k9, 1)) (hi : (k9 : Nat) = i) (hn : i < nL) (hv : (i, Value.int x) :: lv.filter (fun q => !(q.1 == i) && !(q.1 + 1 == i && q.2.category == 2)) = lv') (k : xm_J p l e R s m args below meth c nL D L g A Fn (pc + 1) lv' rest M X) : xm_J p l e R s m args below meth c nL D L g A Fn pc lv (.int x :: rest) M X := fun r hr ls H locs hl hP hS => lv_istore_n hX.1.1 hX.1.2.1 hdg hi hl hn hv (fun ls1 hl1 => k r hr ls1 H locs hl1 hP hS)
theorem xm_istore (hX : xm_X p m meth c cc nL s args Ts own ret D L g A) {i : Nat} {x : Int32} (hdg : decode cc pc = .ok (.istore i, 2)) (hn : i < nL) (hv : (i, Value.int x) :: lv.filter (fun q => !(q.1 == i) && !(q.1 + 1 == i && q.2.category == 2)) = lv') (k : xm_J p l e R s m args below meth c nL D L g A Fn (pc + 2) lv' rest M X) : xm_J p l e R s m args below meth c nL D L g A Fn pc lv (.int x :: rest) M X := fun r hr ls H locs hl hP hS => lv_istore hX.1.1 hX.1.2.1 hdg hl hn hv (fun ls1 hl1 => k r hr ls1 H locs hl1 hP hS)
theorem xm_lload_n (hX : xm_X p m meth c cc nL s args Ts own ret D L g A) {k9 : Fin 4} {i : Nat} {x : Int64} (j : Nat) (hdg : decode cc pc = .ok (.lload_n k9, 1)) (hi : (k9 : Nat) = i) (hj : lv[j]? = some (i, .long x)) (k : xm_J p l e R s m args below meth c nL D L g A Fn (pc + 1) lv (.long x :: rest) M X) : xm_J p l e R s m args below meth c nL D L g A Fn pc lv rest M X := fun r hr ls H locs hl hP hS => lv_lload_n hX.1.1 hX.1.2.1 hdg hi (lv_at hl j hj) (k r hr ls H locs hl hP hS)
theorem xm_lload (hX : xm_X p m meth c cc nL s args Ts own ret D L g A) {i : Nat} {x : Int64} (j : Nat) (hdg : decode cc pc = .ok (.lload i, 2)) (hj : lv[j]? = some (i, .long x)) (k : xm_J p l e R s m args below meth c nL D L g A Fn (pc + 2) lv (.long x :: rest) M X) : xm_J p l e R s m args below meth c nL D L g A Fn pc lv rest M X := fun r hr ls H locs hl hP hS => lv_lload hX.1.1 hX.1.2.1 hdg (lv_at hl j hj) (k r hr ls H locs hl hP hS)
theorem xm_lstore_n (hX : xm_X p m meth c cc nL s args Ts own ret D L g A) {k9 : Fin 4} {i : Nat} {x : Int64} (hdg : decode cc pc = .ok (.lstore_n k9, 1)) (hi : (k9 : Nat) = i) (hn : i + 1 < nL) (hv : (i, Value.long x) :: lv.filter (fun q => !(q.1 == i) && (!(q.1 == i + 1) && !(q.1 + 1 == i && q.2.category == 2))) = lv') (k : xm_J p l e R s m args below meth c nL D L g A Fn (pc + 1) lv' rest M X) : xm_J p l e R s m args below meth c nL D L g A Fn pc lv (.long x :: rest) M X := fun r hr ls H locs hl hP hS => lv_lstore_n hX.1.1 hX.1.2.1 hdg hi hl hn hv (fun ls1 hl1 => k r hr ls1 H locs hl1 hP hS)
theorem xm_lstore (hX : xm_X p m meth c cc nL s args Ts own ret D L g A) {i : Nat} {x : Int64} (hdg : decode cc pc = .ok (.lstore i, 2)) (hn : i + 1 < nL) (hv : (i, Value.long x) :: lv.filter (fun q => !(q.1 == i) && (!(q.1 == i + 1) && !(q.1 + 1 == i && q.2.category == 2))) = lv') (k : xm_J p l e R s m args below meth c nL D L g A Fn (pc + 2) lv' rest M X) : xm_J p l e R s m args below meth c nL D L g A Fn pc lv (.long x :: rest) M X := fun r hr ls H locs hl hP hS => lv_lstore hX.1.1 hX.1.2.1 hdg hl hn hv (fun ls1 hl1 => k r hr ls1 H locs hl1 hP hS)
theorem xm_aload_n (hX : xm_X p m meth c cc nL s args Ts own ret D L g A) {k9 : Fin 4} {i : Nat} {x : Nat} (j : Nat) (hdg : decode cc pc = .ok (.aload_n k9, 1)) (hi : (k9 : Nat) = i) (hj : lv[j]? = some (i, .ref x)) (k : xm_J p l e R s m args below meth c nL D L g A Fn (pc + 1) lv (.ref x :: rest) M X) : xm_J p l e R s m args below meth c nL D L g A Fn pc lv rest M X := fun r hr ls H locs hl hP hS => lv_aload_n hX.1.1 hX.1.2.1 hdg hi (lv_at hl j hj) (k r hr ls H locs hl hP hS)
theorem xm_aload (hX : xm_X p m meth c cc nL s args Ts own ret D L g A) {i : Nat} {x : Nat} (j : Nat) (hdg : decode cc pc = .ok (.aload i, 2)) (hj : lv[j]? = some (i, .ref x)) (k : xm_J p l e R s m args below meth c nL D L g A Fn (pc + 2) lv (.ref x :: rest) M X) : xm_J p l e R s m args below meth c nL D L g A Fn pc lv rest M X := fun r hr ls H locs hl hP hS => lv_aload hX.1.1 hX.1.2.1 hdg (lv_at hl j hj) (k r hr ls H locs hl hP hS)
theorem xm_astore_n (hX : xm_X p m meth c cc nL s args Ts own ret D L g A) {k9 : Fin 4} {i : Nat} {x : Nat} (hdg : decode cc pc = .ok (.astore_n k9, 1)) (hi : (k9 : Nat) = i) (hn : i < nL) (hv : (i, Value.ref x) :: lv.filter (fun q => !(q.1 == i) && !(q.1 + 1 == i && q.2.category == 2)) = lv') (k : xm_J p l e R s m args below meth c nL D L g A Fn (pc + 1) lv' rest M X) : xm_J p l e R s m args below meth c nL D L g A Fn pc lv (.ref x :: rest) M X := fun r hr ls H locs hl hP hS => lv_astore_n hX.1.1 hX.1.2.1 hdg hi hl hn hv (fun ls1 hl1 => k r hr ls1 H locs hl1 hP hS)
theorem xm_astore (hX : xm_X p m meth c cc nL s args Ts own ret D L g A) {i : Nat} {x : Nat} (hdg : decode cc pc = .ok (.astore i, 2)) (hn : i < nL) (hv : (i, Value.ref x) :: lv.filter (fun q => !(q.1 == i) && !(q.1 + 1 == i && q.2.category == 2)) = lv') (k : xm_J p l e R s m args below meth c nL D L g A Fn (pc + 2) lv' rest M X) : xm_J p l e R s m args below meth c nL D L g A Fn pc lv (.ref x :: rest) M X := fun r hr ls H locs hl hP hS => lv_astore hX.1.1 hX.1.2.1 hdg hl hn hv (fun ls1 hl1 => k r hr ls1 H locs hl1 hP hS)
theorem xm_iinc (hX : xm_X p m meth c cc nL s args Ts own ret D L g A) {i : Nat} {n : Int} {x : Int32} {f : Int32 → Option ρ} {lv2 : Int32 → List (Nat × Value)} (j : Nat) (hdg : decode cc pc = .ok (.iinc i n, 3)) (hj : lv[j]? = some (i, .int x)) (hn : i < nL) (hv : ∀ v, (i, Value.int v) :: lv.filter (fun q => !(q.1 == i) && !(q.1 + 1 == i && q.2.category == 2)) = lv2 v) (k : ∀ v : Int32, xm_J p l e R s m args below meth c nL D L g A Fn (pc + 3) (lv2 v) rest M (f v)) : xm_J p l e R s m args below meth c nL D L g A Fn pc lv rest M (xm_lt (x + Int32.ofInt n) f) := fun r hr ls H locs hl hP hS => lv_iinc hX.1.1 hX.1.2.1 hdg hl hj rfl hn (hv _) (fun ls1 hl1 => k _ r hr ls1 H locs hl1 hP hS)
theorem xm_iadd (hX : xm_X p m meth c cc nL s args Ts own ret D L g A) {x y : Int32} (hdg : decode cc pc = .ok (.iadd, 1)) (k : xm_J p l e R s m args below meth c nL D L g A Fn (pc + 1) lv (.int (x + y) :: rest) M X) : xm_J p l e R s m args below meth c nL D L g A Fn pc lv (.int y :: .int x :: rest) M X := fun r hr ls H locs hl hP hS => lv_iadd hX.1.1 hX.1.2.1 hdg (k r hr ls H locs hl hP hS)
theorem xm_isub (hX : xm_X p m meth c cc nL s args Ts own ret D L g A) {x y : Int32} (hdg : decode cc pc = .ok (.isub, 1)) (k : xm_J p l e R s m args below meth c nL D L g A Fn (pc + 1) lv (.int (x - y) :: rest) M X) : xm_J p l e R s m args below meth c nL D L g A Fn pc lv (.int y :: .int x :: rest) M X := fun r hr ls H locs hl hP hS => lv_isub hX.1.1 hX.1.2.1 hdg (k r hr ls H locs hl hP hS)
theorem xm_imul (hX : xm_X p m meth c cc nL s args Ts own ret D L g A) {x y : Int32} (hdg : decode cc pc = .ok (.imul, 1)) (k : xm_J p l e R s m args below meth c nL D L g A Fn (pc + 1) lv (.int (x * y) :: rest) M X) : xm_J p l e R s m args below meth c nL D L g A Fn pc lv (.int y :: .int x :: rest) M X := fun r hr ls H locs hl hP hS => lv_imul hX.1.1 hX.1.2.1 hdg (k r hr ls H locs hl hP hS)
theorem xm_iand (hX : xm_X p m meth c cc nL s args Ts own ret D L g A) {x y : Int32} (hdg : decode cc pc = .ok (.iand, 1)) (k : xm_J p l e R s m args below meth c nL D L g A Fn (pc + 1) lv (.int (x &&& y) :: rest) M X) : xm_J p l e R s m args below meth c nL D L g A Fn pc lv (.int y :: .int x :: rest) M X := fun r hr ls H locs hl hP hS => lv_iand hX.1.1 hX.1.2.1 hdg (k r hr ls H locs hl hP hS)
theorem xm_ior (hX : xm_X p m meth c cc nL s args Ts own ret D L g A) {x y : Int32} (hdg : decode cc pc = .ok (.ior, 1)) (k : xm_J p l e R s m args below meth c nL D L g A Fn (pc + 1) lv (.int (x ||| y) :: rest) M X) : xm_J p l e R s m args below meth c nL D L g A Fn pc lv (.int y :: .int x :: rest) M X := fun r hr ls H locs hl hP hS => lv_ior hX.1.1 hX.1.2.1 hdg (k r hr ls H locs hl hP hS)
theorem xm_ixor (hX : xm_X p m meth c cc nL s args Ts own ret D L g A) {x y : Int32} (hdg : decode cc pc = .ok (.ixor, 1)) (k : xm_J p l e R s m args below meth c nL D L g A Fn (pc + 1) lv (.int (x ^^^ y) :: rest) M X) : xm_J p l e R s m args below meth c nL D L g A Fn pc lv (.int y :: .int x :: rest) M X := fun r hr ls H locs hl hP hS => lv_ixor hX.1.1 hX.1.2.1 hdg (k r hr ls H locs hl hP hS)
theorem xm_ladd (hX : xm_X p m meth c cc nL s args Ts own ret D L g A) {x y : Int64} (hdg : decode cc pc = .ok (.ladd, 1)) (k : xm_J p l e R s m args below meth c nL D L g A Fn (pc + 1) lv (.long (x + y) :: rest) M X) : xm_J p l e R s m args below meth c nL D L g A Fn pc lv (.long y :: .long x :: rest) M X := fun r hr ls H locs hl hP hS => lv_ladd hX.1.1 hX.1.2.1 hdg (k r hr ls H locs hl hP hS)
theorem xm_lsub (hX : xm_X p m meth c cc nL s args Ts own ret D L g A) {x y : Int64} (hdg : decode cc pc = .ok (.lsub, 1)) (k : xm_J p l e R s m args below meth c nL D L g A Fn (pc + 1) lv (.long (x - y) :: rest) M X) : xm_J p l e R s m args below meth c nL D L g A Fn pc lv (.long y :: .long x :: rest) M X := fun r hr ls H locs hl hP hS => lv_lsub hX.1.1 hX.1.2.1 hdg (k r hr ls H locs hl hP hS)
theorem xm_lmul (hX : xm_X p m meth c cc nL s args Ts own ret D L g A) {x y : Int64} (hdg : decode cc pc = .ok (.lmul, 1)) (k : xm_J p l e R s m args below meth c nL D L g A Fn (pc + 1) lv (.long (x * y) :: rest) M X) : xm_J p l e R s m args below meth c nL D L g A Fn pc lv (.long y :: .long x :: rest) M X := fun r hr ls H locs hl hP hS => lv_lmul hX.1.1 hX.1.2.1 hdg (k r hr ls H locs hl hP hS)
theorem xm_land (hX : xm_X p m meth c cc nL s args Ts own ret D L g A) {x y : Int64} (hdg : decode cc pc = .ok (.land, 1)) (k : xm_J p l e R s m args below meth c nL D L g A Fn (pc + 1) lv (.long (x &&& y) :: rest) M X) : xm_J p l e R s m args below meth c nL D L g A Fn pc lv (.long y :: .long x :: rest) M X := fun r hr ls H locs hl hP hS => lv_land hX.1.1 hX.1.2.1 hdg (k r hr ls H locs hl hP hS)
theorem xm_lor (hX : xm_X p m meth c cc nL s args Ts own ret D L g A) {x y : Int64} (hdg : decode cc pc = .ok (.lor, 1)) (k : xm_J p l e R s m args below meth c nL D L g A Fn (pc + 1) lv (.long (x ||| y) :: rest) M X) : xm_J p l e R s m args below meth c nL D L g A Fn pc lv (.long y :: .long x :: rest) M X := fun r hr ls H locs hl hP hS => lv_lor hX.1.1 hX.1.2.1 hdg (k r hr ls H locs hl hP hS)
theorem xm_lxor (hX : xm_X p m meth c cc nL s args Ts own ret D L g A) {x y : Int64} (hdg : decode cc pc = .ok (.lxor, 1)) (k : xm_J p l e R s m args below meth c nL D L g A Fn (pc + 1) lv (.long (x ^^^ y) :: rest) M X) : xm_J p l e R s m args below meth c nL D L g A Fn pc lv (.long y :: .long x :: rest) M X := fun r hr ls H locs hl hP hS => lv_lxor hX.1.1 hX.1.2.1 hdg (k r hr ls H locs hl hP hS)
theorem xm_ineg (hX : xm_X p m meth c cc nL s args Ts own ret D L g A) {x : Int32} (hdg : decode cc pc = .ok (.ineg, 1)) (k : xm_J p l e R s m args below meth c nL D L g A Fn (pc + 1) lv (.int (-x) :: rest) M X) : xm_J p l e R s m args below meth c nL D L g A Fn pc lv (.int x :: rest) M X := fun r hr ls H locs hl hP hS => lv_ineg hX.1.1 hX.1.2.1 hdg (k r hr ls H locs hl hP hS)
theorem xm_lneg (hX : xm_X p m meth c cc nL s args Ts own ret D L g A) {x : Int64} (hdg : decode cc pc = .ok (.lneg, 1)) (k : xm_J p l e R s m args below meth c nL D L g A Fn (pc + 1) lv (.long (-x) :: rest) M X) : xm_J p l e R s m args below meth c nL D L g A Fn pc lv (.long x :: rest) M X := fun r hr ls H locs hl hP hS => lv_lneg hX.1.1 hX.1.2.1 hdg (k r hr ls H locs hl hP hS)
theorem xm_i2l (hX : xm_X p m meth c cc nL s args Ts own ret D L g A) {x : Int32} (hdg : decode cc pc = .ok (.i2l, 1)) (k : xm_J p l e R s m args below meth c nL D L g A Fn (pc + 1) lv (.long x.toInt64 :: rest) M X) : xm_J p l e R s m args below meth c nL D L g A Fn pc lv (.int x :: rest) M X := fun r hr ls H locs hl hP hS => lv_i2l hX.1.1 hX.1.2.1 hdg rfl (k r hr ls H locs hl hP hS)
theorem xm_l2i (hX : xm_X p m meth c cc nL s args Ts own ret D L g A) {x : Int64} (hdg : decode cc pc = .ok (.l2i, 1)) (k : xm_J p l e R s m args below meth c nL D L g A Fn (pc + 1) lv (.int x.toInt32 :: rest) M X) : xm_J p l e R s m args below meth c nL D L g A Fn pc lv (.long x :: rest) M X := fun r hr ls H locs hl hP hS => lv_l2i hX.1.1 hX.1.2.1 hdg rfl (k r hr ls H locs hl hP hS)
theorem xm_lushr (hX : xm_X p m meth c cc nL s args Ts own ret D L g A) {x : Int64} {y : Int32} (hdg : decode cc pc = .ok (.lushr, 1)) (k : xm_J p l e R s m args below meth c nL D L g A Fn (pc + 1) lv (.long (x.toUInt64 >>> (y.toInt64.toUInt64 &&& Int64.toUInt64 63)).toInt64 :: rest) M X) : xm_J p l e R s m args below meth c nL D L g A Fn pc lv (.int y :: .long x :: rest) M X := fun r hr ls H locs hl hP hS => lv_lushr hX.1.1 hX.1.2.1 hdg rfl (k r hr ls H locs hl hP hS)
theorem xm_lshl (hX : xm_X p m meth c cc nL s args Ts own ret D L g A) {x : Int64} {y : Int32} (hdg : decode cc pc = .ok (.lshl, 1)) (k : xm_J p l e R s m args below meth c nL D L g A Fn (pc + 1) lv (.long (x <<< (y.toInt64 &&& 63)) :: rest) M X) : xm_J p l e R s m args below meth c nL D L g A Fn pc lv (.int y :: .long x :: rest) M X := fun r hr ls H locs hl hP hS => lv_lshl hX.1.1 hX.1.2.1 hdg rfl (k r hr ls H locs hl hP hS)
theorem xm_lshr (hX : xm_X p m meth c cc nL s args Ts own ret D L g A) {x : Int64} {y : Int32} (hdg : decode cc pc = .ok (.lshr, 1)) (k : xm_J p l e R s m args below meth c nL D L g A Fn (pc + 1) lv (.long (x >>> (y.toInt64 &&& 63)) :: rest) M X) : xm_J p l e R s m args below meth c nL D L g A Fn pc lv (.int y :: .long x :: rest) M X := fun r hr ls H locs hl hP hS => lv_lshr hX.1.1 hX.1.2.1 hdg rfl (k r hr ls H locs hl hP hS)
theorem xm_ishr (hX : xm_X p m meth c cc nL s args Ts own ret D L g A) {x y : Int32} (hdg : decode cc pc = .ok (.ishr, 1)) (k : xm_J p l e R s m args below meth c nL D L g A Fn (pc + 1) lv (.int (x >>> (y &&& 31)) :: rest) M X) : xm_J p l e R s m args below meth c nL D L g A Fn pc lv (.int y :: .int x :: rest) M X := fun r hr ls H locs hl hP hS => lv_ishr hX.1.1 hX.1.2.1 hdg (k r hr ls H locs hl hP hS)
theorem xm_lcmp (hX : xm_X p m meth c cc nL s args Ts own ret D L g A) {x y : Int64} (hdg : decode cc pc = .ok (.lcmp, 1)) (k : xm_J p l e R s m args below meth c nL D L g A Fn (pc + 1) lv (.int (lg_cmp x y) :: rest) M X) : xm_J p l e R s m args below meth c nL D L g A Fn pc lv (.long y :: .long x :: rest) M X := fun r hr ls H locs hl hP hS => W.lcmp hX.1.1 hX.1.2.1 hdg (k r hr ls H locs hl hP hS)
theorem xm_dup (hX : xm_X p m meth c cc nL s args Ts own ret D L g A) {v : Value} (hv : v.category = 1) (hdg : decode cc pc = .ok (.dup, 1)) (k : xm_J p l e R s m args below meth c nL D L g A Fn (pc + 1) lv (v :: v :: rest) M X) : xm_J p l e R s m args below meth c nL D L g A Fn pc lv (v :: rest) M X := fun r hr ls H locs hl hP hS => lv_dup hX.1.1 hX.1.2.1 hdg hv (k r hr ls H locs hl hP hS)
theorem xm_pop (hX : xm_X p m meth c cc nL s args Ts own ret D L g A) {v : Value} (hv : v.category = 1) (hdg : decode cc pc = .ok (.pop, 1)) (k : xm_J p l e R s m args below meth c nL D L g A Fn (pc + 1) lv rest M X) : xm_J p l e R s m args below meth c nL D L g A Fn pc lv (v :: rest) M X := fun r hr ls H locs hl hP hS => lv_pop hX.1.1 hX.1.2.1 hdg hv (k r hr ls H locs hl hP hS)
theorem xm_dup2_11 (hX : xm_X p m meth c cc nL s args Ts own ret D L g A) {v u : Value} (hv : v.category = 1) (hu : u.category = 1) (hdg : decode cc pc = .ok (.dup2, 1)) (k : xm_J p l e R s m args below meth c nL D L g A Fn (pc + 1) lv (v :: u :: v :: u :: rest) M X) : xm_J p l e R s m args below meth c nL D L g A Fn pc lv (v :: u :: rest) M X := fun r hr ls H locs hl hP hS => lv_dup2_11 hX.1.1 hX.1.2.1 hdg hv hu (k r hr ls H locs hl hP hS)
theorem xm_dup2_2 (hX : xm_X p m meth c cc nL s args Ts own ret D L g A) {v : Value} (hv : v.category = 2) (hdg : decode cc pc = .ok (.dup2, 1)) (k : xm_J p l e R s m args below meth c nL D L g A Fn (pc + 1) lv (v :: v :: rest) M X) : xm_J p l e R s m args below meth c nL D L g A Fn pc lv (v :: rest) M X := fun r hr ls H locs hl hP hS => lv_dup2_2 hX.1.1 hX.1.2.1 hdg hv (k r hr ls H locs hl hP hS)
theorem xm_pop2_2 (hX : xm_X p m meth c cc nL s args Ts own ret D L g A) {v : Value} (hv : v.category = 2) (hdg : decode cc pc = .ok (.pop2, 1)) (k : xm_J p l e R s m args below meth c nL D L g A Fn (pc + 1) lv rest M X) : xm_J p l e R s m args below meth c nL D L g A Fn pc lv (v :: rest) M X := fun r hr ls H locs hl hP hS => lv_pop2_2 hX.1.1 hX.1.2.1 hdg hv (k r hr ls H locs hl hP hS)
theorem xm_idiv (hX : xm_X p m meth c cc nL s args Ts own ret D L g A) {x y : Int32} (hdg : decode cc pc = .ok (.idiv, 1)) (k : xm_J p l e R s m args below meth c nL D L g A Fn (pc + 1) lv (.int (x / y) :: rest) M X) : xm_J p l e R s m args below meth c nL D L g A Fn pc lv (.int y :: .int x :: rest) M (if y = 0 then none else X) := by
  by_cases h : y = 0
  · rw [if_pos h]; exact xm_none
  · rw [if_neg h]; exact fun r hr ls H locs hl hP hS => lv_idiv hX.1.1 hX.1.2.1 hdg h (k r hr ls H locs hl hP hS)
theorem xm_irem (hX : xm_X p m meth c cc nL s args Ts own ret D L g A) {x y : Int32} (hdg : decode cc pc = .ok (.irem, 1)) (k : xm_J p l e R s m args below meth c nL D L g A Fn (pc + 1) lv (.int (x - x / y * y) :: rest) M X) : xm_J p l e R s m args below meth c nL D L g A Fn pc lv (.int y :: .int x :: rest) M (if y = 0 then none else X) := by
  by_cases h : y = 0
  · rw [if_pos h]; exact xm_none
  · rw [if_neg h]; exact fun r hr ls H locs hl hP hS => lv_irem hX.1.1 hX.1.2.1 hdg h (k r hr ls H locs hl hP hS)
theorem xm_ldiv (hX : xm_X p m meth c cc nL s args Ts own ret D L g A) {x y : Int64} (hdg : decode cc pc = .ok (.ldiv, 1)) (k : xm_J p l e R s m args below meth c nL D L g A Fn (pc + 1) lv (.long (x / y) :: rest) M X) : xm_J p l e R s m args below meth c nL D L g A Fn pc lv (.long y :: .long x :: rest) M (if y = 0 then none else X) := by
  by_cases h : y = 0
  · rw [if_pos h]; exact xm_none
  · rw [if_neg h]; exact fun r hr ls H locs hl hP hS => lv_ldiv hX.1.1 hX.1.2.1 hdg h (k r hr ls H locs hl hP hS)
theorem xm_lrem (hX : xm_X p m meth c cc nL s args Ts own ret D L g A) {x y : Int64} (hdg : decode cc pc = .ok (.lrem, 1)) (k : xm_J p l e R s m args below meth c nL D L g A Fn (pc + 1) lv (.long (x - x / y * y) :: rest) M X) : xm_J p l e R s m args below meth c nL D L g A Fn pc lv (.long y :: .long x :: rest) M (if y = 0 then none else X) := by
  by_cases h : y = 0
  · rw [if_pos h]; exact xm_none
  · rw [if_neg h]; exact fun r hr ls H locs hl hP hS => lv_lrem hX.1.1 hX.1.2.1 hdg h (k r hr ls H locs hl hP hS)
theorem xm_idivL (hX : xm_X p m meth c cc nL s args Ts own ret D L g A) {x y : Int32} (h : ¬ y = 0) (hdg : decode cc pc = .ok (.idiv, 1)) (k : xm_J p l e R s m args below meth c nL D L g A Fn (pc + 1) lv (.int (x / y) :: rest) M X) : xm_J p l e R s m args below meth c nL D L g A Fn pc lv (.int y :: .int x :: rest) M X := fun r hr ls H locs hl hP hS => lv_idiv hX.1.1 hX.1.2.1 hdg h (k r hr ls H locs hl hP hS)
theorem xm_iremL (hX : xm_X p m meth c cc nL s args Ts own ret D L g A) {x y : Int32} (h : ¬ y = 0) (hdg : decode cc pc = .ok (.irem, 1)) (k : xm_J p l e R s m args below meth c nL D L g A Fn (pc + 1) lv (.int (x - x / y * y) :: rest) M X) : xm_J p l e R s m args below meth c nL D L g A Fn pc lv (.int y :: .int x :: rest) M X := fun r hr ls H locs hl hP hS => lv_irem hX.1.1 hX.1.2.1 hdg h (k r hr ls H locs hl hP hS)
theorem xm_ldivL (hX : xm_X p m meth c cc nL s args Ts own ret D L g A) {x y : Int64} (h : ¬ y = 0) (hdg : decode cc pc = .ok (.ldiv, 1)) (k : xm_J p l e R s m args below meth c nL D L g A Fn (pc + 1) lv (.long (x / y) :: rest) M X) : xm_J p l e R s m args below meth c nL D L g A Fn pc lv (.long y :: .long x :: rest) M X := fun r hr ls H locs hl hP hS => lv_ldiv hX.1.1 hX.1.2.1 hdg h (k r hr ls H locs hl hP hS)
theorem xm_lremL (hX : xm_X p m meth c cc nL s args Ts own ret D L g A) {x y : Int64} (h : ¬ y = 0) (hdg : decode cc pc = .ok (.lrem, 1)) (k : xm_J p l e R s m args below meth c nL D L g A Fn (pc + 1) lv (.long (x - x / y * y) :: rest) M X) : xm_J p l e R s m args below meth c nL D L g A Fn pc lv (.long y :: .long x :: rest) M X := fun r hr ls H locs hl hP hS => lv_lrem hX.1.1 hX.1.2.1 hdg h (k r hr ls H locs hl hP hS)
theorem xm_goto (hX : xm_X p m meth c cc nL s args Ts own ret D L g A) {off : Int} (hdg : decode cc pc = .ok (.goto off, 3)) (ht : (pc : Int) + off = (tgt : Int)) (k : xm_J p l e R s m args below meth c nL D L g A Fn tgt lv rest M X) : xm_J p l e R s m args below meth c nL D L g A Fn pc lv rest M X := fun r hr ls H locs hl hP hS => lv_goto hX.1.1 hX.1.2.1 hdg ht (k r hr ls H locs hl hP hS)
theorem xm_if_eq (hX : xm_X p m meth c cc nL s args Ts own ret D L g A) {x : Int32} {off : Int} (hdg : decode cc pc = .ok (.ifCond .eq off, 3)) (ht : (pc : Int) + off = (tgt : Int)) (kt : xm_J p l e R s m args below meth c nL D L g A Fn tgt lv rest M X) (kf : xm_J p l e R s m args below meth c nL D L g A Fn (pc + 3) lv rest M Y) : xm_J p l e R s m args below meth c nL D L g A Fn pc lv (.int x :: rest) M (if x = 0 then X else Y) := fun r hr ls H locs hl hP hS => lv_if_eq hX.1.1 hX.1.2.1 hdg ht (fun h => kt r (by first | rw [if_pos h] at hr; exact hr | rw [if_neg h] at hr; exact hr) ls H locs hl hP hS) (fun h => kf r (by first | rw [if_neg h] at hr; exact hr | rw [if_pos (Classical.not_not.mp h)] at hr; exact hr) ls H locs hl hP hS)
theorem xm_if_ne (hX : xm_X p m meth c cc nL s args Ts own ret D L g A) {x : Int32} {off : Int} (hdg : decode cc pc = .ok (.ifCond .ne off, 3)) (ht : (pc : Int) + off = (tgt : Int)) (kt : xm_J p l e R s m args below meth c nL D L g A Fn tgt lv rest M X) (kf : xm_J p l e R s m args below meth c nL D L g A Fn (pc + 3) lv rest M Y) : xm_J p l e R s m args below meth c nL D L g A Fn pc lv (.int x :: rest) M (if x = 0 then Y else X) := fun r hr ls H locs hl hP hS => lv_if_ne hX.1.1 hX.1.2.1 hdg ht (fun h => kt r (by rw [if_neg h] at hr; exact hr) ls H locs hl hP hS) (fun h => kf r (by rw [if_pos h] at hr; exact hr) ls H locs hl hP hS)
theorem xm_if_lt (hX : xm_X p m meth c cc nL s args Ts own ret D L g A) {x : Int32} {off : Int} (hdg : decode cc pc = .ok (.ifCond .lt off, 3)) (ht : (pc : Int) + off = (tgt : Int)) (kt : xm_J p l e R s m args below meth c nL D L g A Fn tgt lv rest M X) (kf : xm_J p l e R s m args below meth c nL D L g A Fn (pc + 3) lv rest M Y) : xm_J p l e R s m args below meth c nL D L g A Fn pc lv (.int x :: rest) M (if x < 0 then X else Y) := fun r hr ls H locs hl hP hS => lv_if_lt hX.1.1 hX.1.2.1 hdg ht (fun h => kt r (by first | rw [if_pos h] at hr; exact hr | rw [if_neg h] at hr; exact hr) ls H locs hl hP hS) (fun h => kf r (by first | rw [if_neg h] at hr; exact hr | rw [if_pos (Classical.not_not.mp h)] at hr; exact hr) ls H locs hl hP hS)
theorem xm_if_ge (hX : xm_X p m meth c cc nL s args Ts own ret D L g A) {x : Int32} {off : Int} (hdg : decode cc pc = .ok (.ifCond .ge off, 3)) (ht : (pc : Int) + off = (tgt : Int)) (kt : xm_J p l e R s m args below meth c nL D L g A Fn tgt lv rest M X) (kf : xm_J p l e R s m args below meth c nL D L g A Fn (pc + 3) lv rest M Y) : xm_J p l e R s m args below meth c nL D L g A Fn pc lv (.int x :: rest) M (if 0 ≤ x then X else Y) := fun r hr ls H locs hl hP hS => lv_if_ge hX.1.1 hX.1.2.1 hdg ht (fun h => kt r (by first | rw [if_pos h] at hr; exact hr | rw [if_neg h] at hr; exact hr) ls H locs hl hP hS) (fun h => kf r (by first | rw [if_neg h] at hr; exact hr | rw [if_pos (Classical.not_not.mp h)] at hr; exact hr) ls H locs hl hP hS)
theorem xm_if_gt (hX : xm_X p m meth c cc nL s args Ts own ret D L g A) {x : Int32} {off : Int} (hdg : decode cc pc = .ok (.ifCond .gt off, 3)) (ht : (pc : Int) + off = (tgt : Int)) (kt : xm_J p l e R s m args below meth c nL D L g A Fn tgt lv rest M X) (kf : xm_J p l e R s m args below meth c nL D L g A Fn (pc + 3) lv rest M Y) : xm_J p l e R s m args below meth c nL D L g A Fn pc lv (.int x :: rest) M (if 0 < x then X else Y) := fun r hr ls H locs hl hP hS => lv_if_gt hX.1.1 hX.1.2.1 hdg ht (fun h => kt r (by first | rw [if_pos h] at hr; exact hr | rw [if_neg h] at hr; exact hr) ls H locs hl hP hS) (fun h => kf r (by first | rw [if_neg h] at hr; exact hr | rw [if_pos (Classical.not_not.mp h)] at hr; exact hr) ls H locs hl hP hS)
theorem xm_if_le (hX : xm_X p m meth c cc nL s args Ts own ret D L g A) {x : Int32} {off : Int} (hdg : decode cc pc = .ok (.ifCond .le off, 3)) (ht : (pc : Int) + off = (tgt : Int)) (kt : xm_J p l e R s m args below meth c nL D L g A Fn tgt lv rest M X) (kf : xm_J p l e R s m args below meth c nL D L g A Fn (pc + 3) lv rest M Y) : xm_J p l e R s m args below meth c nL D L g A Fn pc lv (.int x :: rest) M (if x ≤ 0 then X else Y) := fun r hr ls H locs hl hP hS => lv_if_le hX.1.1 hX.1.2.1 hdg ht (fun h => kt r (by first | rw [if_pos h] at hr; exact hr | rw [if_neg h] at hr; exact hr) ls H locs hl hP hS) (fun h => kf r (by first | rw [if_neg h] at hr; exact hr | rw [if_pos (Classical.not_not.mp h)] at hr; exact hr) ls H locs hl hP hS)
theorem xm_icmp_eq (hX : xm_X p m meth c cc nL s args Ts own ret D L g A) {x y : Int32} {off : Int} (hdg : decode cc pc = .ok (.if_icmp .eq off, 3)) (ht : (pc : Int) + off = (tgt : Int)) (kt : xm_J p l e R s m args below meth c nL D L g A Fn tgt lv rest M X) (kf : xm_J p l e R s m args below meth c nL D L g A Fn (pc + 3) lv rest M Y) : xm_J p l e R s m args below meth c nL D L g A Fn pc lv (.int y :: .int x :: rest) M (if x = y then X else Y) := fun r hr ls H locs hl hP hS => lv_icmp_eq hX.1.1 hX.1.2.1 hdg ht (fun h => kt r (by first | rw [if_pos h] at hr; exact hr | rw [if_neg h] at hr; exact hr) ls H locs hl hP hS) (fun h => kf r (by first | rw [if_neg h] at hr; exact hr | rw [if_pos (Classical.not_not.mp h)] at hr; exact hr) ls H locs hl hP hS)
theorem xm_icmp_ne (hX : xm_X p m meth c cc nL s args Ts own ret D L g A) {x y : Int32} {off : Int} (hdg : decode cc pc = .ok (.if_icmp .ne off, 3)) (ht : (pc : Int) + off = (tgt : Int)) (kt : xm_J p l e R s m args below meth c nL D L g A Fn tgt lv rest M X) (kf : xm_J p l e R s m args below meth c nL D L g A Fn (pc + 3) lv rest M Y) : xm_J p l e R s m args below meth c nL D L g A Fn pc lv (.int y :: .int x :: rest) M (if x = y then Y else X) := fun r hr ls H locs hl hP hS => lv_icmp_ne hX.1.1 hX.1.2.1 hdg ht (fun h => kt r (by rw [if_neg h] at hr; exact hr) ls H locs hl hP hS) (fun h => kf r (by rw [if_pos h] at hr; exact hr) ls H locs hl hP hS)
theorem xm_icmp_lt (hX : xm_X p m meth c cc nL s args Ts own ret D L g A) {x y : Int32} {off : Int} (hdg : decode cc pc = .ok (.if_icmp .lt off, 3)) (ht : (pc : Int) + off = (tgt : Int)) (kt : xm_J p l e R s m args below meth c nL D L g A Fn tgt lv rest M X) (kf : xm_J p l e R s m args below meth c nL D L g A Fn (pc + 3) lv rest M Y) : xm_J p l e R s m args below meth c nL D L g A Fn pc lv (.int y :: .int x :: rest) M (if x < y then X else Y) := fun r hr ls H locs hl hP hS => lv_icmp_lt hX.1.1 hX.1.2.1 hdg ht (fun h => kt r (by first | rw [if_pos h] at hr; exact hr | rw [if_neg h] at hr; exact hr) ls H locs hl hP hS) (fun h => kf r (by first | rw [if_neg h] at hr; exact hr | rw [if_pos (Classical.not_not.mp h)] at hr; exact hr) ls H locs hl hP hS)
theorem xm_icmp_ge (hX : xm_X p m meth c cc nL s args Ts own ret D L g A) {x y : Int32} {off : Int} (hdg : decode cc pc = .ok (.if_icmp .ge off, 3)) (ht : (pc : Int) + off = (tgt : Int)) (kt : xm_J p l e R s m args below meth c nL D L g A Fn tgt lv rest M X) (kf : xm_J p l e R s m args below meth c nL D L g A Fn (pc + 3) lv rest M Y) : xm_J p l e R s m args below meth c nL D L g A Fn pc lv (.int y :: .int x :: rest) M (if y ≤ x then X else Y) := fun r hr ls H locs hl hP hS => lv_icmp_ge hX.1.1 hX.1.2.1 hdg ht (fun h => kt r (by first | rw [if_pos h] at hr; exact hr | rw [if_neg h] at hr; exact hr) ls H locs hl hP hS) (fun h => kf r (by first | rw [if_neg h] at hr; exact hr | rw [if_pos (Classical.not_not.mp h)] at hr; exact hr) ls H locs hl hP hS)
theorem xm_icmp_gt (hX : xm_X p m meth c cc nL s args Ts own ret D L g A) {x y : Int32} {off : Int} (hdg : decode cc pc = .ok (.if_icmp .gt off, 3)) (ht : (pc : Int) + off = (tgt : Int)) (kt : xm_J p l e R s m args below meth c nL D L g A Fn tgt lv rest M X) (kf : xm_J p l e R s m args below meth c nL D L g A Fn (pc + 3) lv rest M Y) : xm_J p l e R s m args below meth c nL D L g A Fn pc lv (.int y :: .int x :: rest) M (if y < x then X else Y) := fun r hr ls H locs hl hP hS => lv_icmp_gt hX.1.1 hX.1.2.1 hdg ht (fun h => kt r (by first | rw [if_pos h] at hr; exact hr | rw [if_neg h] at hr; exact hr) ls H locs hl hP hS) (fun h => kf r (by first | rw [if_neg h] at hr; exact hr | rw [if_pos (Classical.not_not.mp h)] at hr; exact hr) ls H locs hl hP hS)
theorem xm_icmp_le (hX : xm_X p m meth c cc nL s args Ts own ret D L g A) {x y : Int32} {off : Int} (hdg : decode cc pc = .ok (.if_icmp .le off, 3)) (ht : (pc : Int) + off = (tgt : Int)) (kt : xm_J p l e R s m args below meth c nL D L g A Fn tgt lv rest M X) (kf : xm_J p l e R s m args below meth c nL D L g A Fn (pc + 3) lv rest M Y) : xm_J p l e R s m args below meth c nL D L g A Fn pc lv (.int y :: .int x :: rest) M (if x ≤ y then X else Y) := fun r hr ls H locs hl hP hS => lv_icmp_le hX.1.1 hX.1.2.1 hdg ht (fun h => kt r (by first | rw [if_pos h] at hr; exact hr | rw [if_neg h] at hr; exact hr) ls H locs hl hP hS) (fun h => kf r (by first | rw [if_neg h] at hr; exact hr | rw [if_pos (Classical.not_not.mp h)] at hr; exact hr) ls H locs hl hP hS)
theorem xm_tsIn (hX : xm_X p m meth c cc nL s args Ts own ret D L g A) {dflt lo hi : Int} {offs : Array Int} {len : Nat} {x k9 : Int32} {off : Int} (hdg : decode cc pc = .ok (.tableswitch dflt lo hi offs, len)) (h : x = k9) (h1 : ¬ k9.toInt < lo) (h2 : ¬ hi < k9.toInt) (ho : offs[(k9.toInt - lo).toNat]? = some off) (ht : (pc : Int) + off = (tgt : Int)) (k : xm_J p l e R s m args below meth c nL D L g A Fn tgt lv rest M X) : xm_J p l e R s m args below meth c nL D L g A Fn pc lv (.int x :: rest) M X := by
  subst h
  exact fun r hr ls H locs hl hP hS => lv_tableIn hX.1.1 hX.1.2.1 hdg h1 h2 ho ht (k r hr ls H locs hl hP hS)
theorem xm_tsOut (hX : xm_X p m meth c cc nL s args Ts own ret D L g A) {dflt lo hi : Int} {offs : Array Int} {len : Nat} {x : Int32} (hdg : decode cc pc = .ok (.tableswitch dflt lo hi offs, len)) (h : x.toInt < lo ∨ hi < x.toInt) (ht : (pc : Int) + dflt = (tgt : Int)) (k : xm_J p l e R s m args below meth c nL D L g A Fn tgt lv rest M X) : xm_J p l e R s m args below meth c nL D L g A Fn pc lv (.int x :: rest) M X :=
  fun r hr ls H locs hl hP hS => lv_tableOut hX.1.1 hX.1.2.1 hdg h ht (k r hr ls H locs hl hP hS)
theorem xm_ldc (hX : xm_X p m meth c cc nL s args Ts own ret D L g A) {index : Nat} {v : Int32} (hw : Cond.constant own index v ∈ Ts) (hdg : decode cc pc = .ok (.ldc index, 2)) (k : xm_J p l e R s m args below meth c nL D L g A Fn (pc + 2) lv (.int v :: rest) M X) : xm_J p l e R s m args below meth c nL D L g A Fn pc lv rest M X :=
  fun r hr ls H locs hl hP hS => lv_ldc hX.1.1 hX.1.2.1 hX.1.2.2.2.1 (hX.1.2.2.2.2 _ hw) hdg (k r hr ls H locs hl hP hS)
theorem xm_ldcw (hX : xm_X p m meth c cc nL s args Ts own ret D L g A) {index : Nat} {v : Int32} (hw : Cond.constant own index v ∈ Ts) (hdg : decode cc pc = .ok (.ldc_w index, 3)) (k : xm_J p l e R s m args below meth c nL D L g A Fn (pc + 3) lv (.int v :: rest) M X) : xm_J p l e R s m args below meth c nL D L g A Fn pc lv rest M X :=
  fun r hr ls H locs hl hP hS => lv_ldcw hX.1.1 hX.1.2.1 hX.1.2.2.2.1 (hX.1.2.2.2.2 _ hw) hdg (k r hr ls H locs hl hP hS)
theorem xm_ldc2 (hX : xm_X p m meth c cc nL s args Ts own ret D L g A) {index : Nat} {v : Int64} (hw : Cond.constantLong own index v ∈ Ts) (hdg : decode cc pc = .ok (.ldc2_w index, 3)) (k : xm_J p l e R s m args below meth c nL D L g A Fn (pc + 3) lv (.long v :: rest) M X) : xm_J p l e R s m args below meth c nL D L g A Fn pc lv rest M X :=
  fun r hr ls H locs hl hP hS => lv_ldc2 hX.1.1 hX.1.2.1 hX.1.2.2.2.1 (hX.1.2.2.2.2 _ hw) hdg (k r hr ls H locs hl hP hS)
/-! the cells -/
theorem xm_fs_at {f : Nat → Int32} {h : Nat → Int64} {fs : List (Nat × Nat)} {j : Nat} {q : Nat × Nat} (hq : fs[j]? = some q) : (xm_fs g f h fs)[j]? = some (xm_fv g f h j q) := by simp [xm_fs, List.getElem?_mapIdx, hq]
theorem xm_get (hX : xm_X p m meth c cc nL s args Ts own ret D L g A) {k ci j index : Nat} {fs : List (Nat × Nat)} {q : Nat × Nat} {C : String} {T : u_T} {N : Nat} {v : Value} (hS : L[k]? = some (.inr (.inr (ci, fs)))) (hc : vwCl[ci]? = some (C, T, N)) (hq : fs[j]? = some q) (hv : xm_fv g (M.1 k) (M.2 k) j q = v) (hj : j < N) (hin : ∀ w ∈ u_ws C T N, w ∈ Ts) (hw : Cond.fieldLink own index (T j).1 (T j).2.1 (T j).2.2.1 ∈ Ts) (hdg : decode cc pc = .ok (.getfield index, 3))
    (kk : xm_J p l e R s m args below meth c nL D L g A Fn (pc + 3) lv (v :: rest) M X) : xm_J p l e R s m args below meth c nL D L g A Fn pc lv (.ref (g.1 k) :: rest) M X := fun r hr ls H locs hl hP hSS =>
  va_get (D := D) (ci := ci) (v := v) (C := C) (T := T) (N := N) (ref := (T j).1) hX.1.1 hX.1.2.1 hX.1.2.2.2.2 hin hX.1.2.2.2.1 hX.2.2.2.1 hP k (xm_w_at hS) hc j hj (hX.1.2.2.2.2 _ hw) (fun _ h9 => h9) (by rw [xm_fs_at hq, hv]) hdg (kk r hr ls H locs hl hP hSS)
theorem xm_fs_set {M M' : xm_M} {k j : Nat} {fs : List (Nat × Nat)} {q : Nat × Nat} {v : Value} (hq : fs[j]? = some q) (hv : xm_fv g (M'.1 k) (M'.2 k) j q = v) (ho : ∀ i, i ≠ j → M'.1 k i = M.1 k i ∧ M'.2 k i = M.2 k i) : (xm_fs g (M.1 k) (M.2 k) fs).set j v = xm_fs g (M'.1 k) (M'.2 k) fs := by
  apply List.ext_getElem?
  intro i
  by_cases hi : j = i
  · subst hi
    have hl : j < (xm_fs g (M.1 k) (M.2 k) fs).length := by
      have := (List.getElem?_eq_some_iff.mp hq).1
      simpa [xm_fs] using this
    rw [List.getElem?_set_self hl, xm_fs_at hq, hv]
  · rw [List.getElem?_set_ne hi]
    unfold xm_fs
    rw [List.getElem?_mapIdx, List.getElem?_mapIdx]
    have h2 := ho i (Ne.symm hi)
    cases fs[i]? with
    | none => rfl
    | some z => simp [xm_fv, h2.1, h2.2]
theorem xm_putG (hX : xm_X p m meth c cc nL s args Ts own ret D L g A) {M1 : xm_M} {k ci j index : Nat} {fs : List (Nat × Nat)} {q : Nat × Nat} {C : String} {T : u_T} {N : Nat} {v : Value} {ty : FieldType} {t0 : Nat → FieldType} (hS : L[k]? = some (.inr (.inr (ci, fs)))) (hc : vwCl[ci]? = some (C, T, N)) (hq : fs[j]? = some q) (hv : xm_fv g (M1.1 k) (M1.2 k) j q = v) (ho : ∀ i, i ≠ j → M1.1 k i = M.1 k i ∧ M1.2 k i = M.2 k i) (ho2 : ∀ a, a ≠ k → M1.1 a = M.1 a ∧ M1.2 a = M.2 a) (hj : j < N) (hin : ∀ w ∈ u_ws C T N, w ∈ Ts) (ht0 : ∀ k, k < N → parseFieldDescriptor (T k).2.2.1 = some (t0 k)) (hnm : ∀ a, a < N → ∀ b, b < N → a ≠ b → (T a).2.1 ≠ (T b).2.1) (hfin : (T j).2.2.2 = false) (hd : parseFieldDescriptor (T j).2.2.1 = some ty) (hn : narrow ty v = v) (hfit : fits ty v = true) (hw : Cond.fieldLink own index (T j).1 (T j).2.1 (T j).2.2.1 ∈ Ts) (hdg : decode cc pc = .ok (.putfield index, 3))
    (kk : xm_J p l e R s m args below meth c nL D L g A Fn (pc + 3) lv rest M1 X) : xm_J p l e R s m args below meth c nL D L g A Fn pc lv (v :: .ref (g.1 k) :: rest) M X := fun r hr ls H locs hl hP hSS => by
  have e : (xm_w L g M).set k (g.1 k, .inr (ci, (xm_fs g (M.1 k) (M.2 k) fs).set j v)) = xm_w L g M1 := xm_w_set hS (by rw [xm_fs_set hq hv ho]; rfl) ho2
  refine va_put (D := D) (ci := ci) (v := v) (ty := ty) (C := C) (T := T) (N := N) (ref := (T j).1) hX.1.1 hX.1.2.1 hX.1.2.2.2.2 hin t0 ht0 hnm hX.1.2.2.2.1 hX.2.2.2.1 hP (xm_X.hD hX M) hSS k (xm_w_at hS) hc j hj (hX.1.2.2.2.2 _ hw) (fun _ h9 => h9) hfin hd hn hfit (by have := (List.getElem?_eq_some_iff.mp hq).1; simpa [xm_fs] using this) hdg (fun H1 locs1 hP1 _ hS1 => kk r hr ls H1 locs1 hl (by rw [e] at hP1; exact hP1) hS1)
theorem xm_puti (hX : xm_X p m meth c cc nL s args Ts own ret D L g A) {f : xm_M → Option ρ} {k ci j index : Nat} {fs : List (Nat × Nat)} {z : Nat} {C : String} {T : u_T} {N : Nat} {x : Int32} {t0 : Nat → FieldType} (hS : L[k]? = some (.inr (.inr (ci, fs)))) (hc : vwCl[ci]? = some (C, T, N)) (hq : fs[j]? = some (0, z)) (hj : j < N) (hin : ∀ w ∈ u_ws C T N, w ∈ Ts) (ht0 : ∀ k, k < N → parseFieldDescriptor (T k).2.2.1 = some (t0 k)) (hnm : ∀ a, a < N → ∀ b, b < N → a ≠ b → (T a).2.1 ≠ (T b).2.1) (hfin : (T j).2.2.2 = false) (hd : parseFieldDescriptor (T j).2.2.1 = some .int) (hw : Cond.fieldLink own index (T j).1 (T j).2.1 (T j).2.2.1 ∈ Ts) (hdg : decode cc pc = .ok (.putfield index, 3))
    (kk : ∀ M1 : xm_M, xm_J p l e R s m args below meth c nL D L g A Fn (pc + 3) lv rest M1 (f M1)) : xm_J p l e R s m args below meth c nL D L g A Fn pc lv (.int x :: .ref (g.1 k) :: rest) M (xm_lt (xm_s M k j x) f) :=
  xm_putG hX (M1 := xm_s M k j x) (v := .int x) hS hc hq (by simp [xm_fv, xm_s]) (fun i hi => by simp [xm_s, hi]) xm_s_o hj hin ht0 hnm hfin hd rfl rfl hw hdg (kk _)
/-- a boolean field takes 0 and 1 -/
theorem xm_putz (hX : xm_X p m meth c cc nL s args Ts own ret D L g A) {f : xm_M → Option ρ} {k ci j index : Nat} {fs : List (Nat × Nat)} {z : Nat} {C : String} {T : u_T} {N : Nat} {x : Int32} {t0 : Nat → FieldType} (hS : L[k]? = some (.inr (.inr (ci, fs)))) (hc : vwCl[ci]? = some (C, T, N)) (hq : fs[j]? = some (0, z)) (hj : j < N) (hin : ∀ w ∈ u_ws C T N, w ∈ Ts) (ht0 : ∀ k, k < N → parseFieldDescriptor (T k).2.2.1 = some (t0 k)) (hnm : ∀ a, a < N → ∀ b, b < N → a ≠ b → (T a).2.1 ≠ (T b).2.1) (hfin : (T j).2.2.2 = false) (hd : parseFieldDescriptor (T j).2.2.1 = some .boolean) (hw : Cond.fieldLink own index (T j).1 (T j).2.1 (T j).2.2.1 ∈ Ts) (hdg : decode cc pc = .ok (.putfield index, 3))
    (kk : ∀ M1 : xm_M, xm_J p l e R s m args below meth c nL D L g A Fn (pc + 3) lv rest M1 (f M1)) : xm_J p l e R s m args below meth c nL D L g A Fn pc lv (.int x :: .ref (g.1 k) :: rest) M (if x = 0 ∨ x = 1 then xm_lt (xm_s M k j x) f else none) := by
  refine xm_ite (fun h => ?_) (fun _ => xm_none)
  refine xm_putG hX (M1 := xm_s M k j x) (v := .int x) hS hc hq (by simp [xm_fv, xm_s]) (fun i hi => by simp [xm_s, hi]) xm_s_o hj hin ht0 hnm hfin hd ?_ ?_ hw hdg (kk _)
  · rcases h with rfl | rfl <;> rfl
  · rcases h with rfl | rfl <;> rfl
theorem xm_putzL (hX : xm_X p m meth c cc nL s args Ts own ret D L g A) {f : xm_M → Option ρ} {k ci j index : Nat} {fs : List (Nat × Nat)} {z : Nat} {C : String} {T : u_T} {N : Nat} {x : Int32} {t0 : Nat → FieldType} (h01 : x = 0 ∨ x = 1) (hS : L[k]? = some (.inr (.inr (ci, fs)))) (hc : vwCl[ci]? = some (C, T, N)) (hq : fs[j]? = some (0, z)) (hj : j < N) (hin : ∀ w ∈ u_ws C T N, w ∈ Ts) (ht0 : ∀ k, k < N → parseFieldDescriptor (T k).2.2.1 = some (t0 k)) (hnm : ∀ a, a < N → ∀ b, b < N → a ≠ b → (T a).2.1 ≠ (T b).2.1) (hfin : (T j).2.2.2 = false) (hd : parseFieldDescriptor (T j).2.2.1 = some .boolean) (hw : Cond.fieldLink own index (T j).1 (T j).2.1 (T j).2.2.1 ∈ Ts) (hdg : decode cc pc = .ok (.putfield index, 3))
    (kk : ∀ M1 : xm_M, xm_J p l e R s m args below meth c nL D L g A Fn (pc + 3) lv rest M1 (f M1)) : xm_J p l e R s m args below meth c nL D L g A Fn pc lv (.int x :: .ref (g.1 k) :: rest) M (xm_lt (xm_s M k j x) f) := by
  have k9 := xm_putz (R := R) (lv := lv) (rest := rest) (M := M) hX (f := f) hS hc hq (x := x) hj hin ht0 hnm hfin hd hw hdg kk
  rw [if_pos h01] at k9
  exact k9
theorem xm_putl (hX : xm_X p m meth c cc nL s args Ts own ret D L g A) {f : xm_M → Option ρ} {k ci j index : Nat} {fs : List (Nat × Nat)} {z : Nat} {C : String} {T : u_T} {N : Nat} {x : Int64} {t0 : Nat → FieldType} (hS : L[k]? = some (.inr (.inr (ci, fs)))) (hc : vwCl[ci]? = some (C, T, N)) (hq : fs[j]? = some (1, z)) (hj : j < N) (hin : ∀ w ∈ u_ws C T N, w ∈ Ts) (ht0 : ∀ k, k < N → parseFieldDescriptor (T k).2.2.1 = some (t0 k)) (hnm : ∀ a, a < N → ∀ b, b < N → a ≠ b → (T a).2.1 ≠ (T b).2.1) (hfin : (T j).2.2.2 = false) (hd : parseFieldDescriptor (T j).2.2.1 = some .long) (hw : Cond.fieldLink own index (T j).1 (T j).2.1 (T j).2.2.1 ∈ Ts) (hdg : decode cc pc = .ok (.putfield index, 3))
    (kk : ∀ M1 : xm_M, xm_J p l e R s m args below meth c nL D L g A Fn (pc + 3) lv rest M1 (f M1)) : xm_J p l e R s m args below meth c nL D L g A Fn pc lv (.long x :: .ref (g.1 k) :: rest) M (xm_lt (xm_sl M k j x) f) :=
  xm_putG hX (M1 := xm_sl M k j x) (v := .long x) hS hc hq (by simp [xm_fv, xm_sl]) (fun i hi => by simp [xm_sl, hi]) xm_sl_o hj hin ht0 hnm hfin hd rfl rfl hw hdg (kk _)
theorem xm_inb {i : Int32} {n : Nat} (h : ¬ (i < 0 ∨ n ≤ i.toNatClampNeg)) : vp_in i n := h
theorem xm_iald (hX : xm_X p m meth c cc nL s args Ts own ret D L g A) {k t n : Nat} {i : Int32} (hS : L[k]? = some (.inl (t, .int, n))) (hdg : decode cc pc = .ok (.iaload, 1)) (kk : xm_J p l e R s m args below meth c nL D L g A Fn (pc + 1) lv (.int (M.1 k i.toNatClampNeg) :: rest) M X) : xm_J p l e R s m args below meth c nL D L g A Fn pc lv (.int i :: .ref (g.1 k) :: rest) M (if i < 0 ∨ n ≤ i.toNatClampNeg then none else X) :=
  xm_ite (fun _ => xm_none) (fun h r hr ls H locs hl hP hSS => va_iald hX.1.1 hX.1.2.1 hX.2.2.2.1 hP k t (xm_w_at hS) (hX.2.2.2.2.2.2.1 k _ hS) (xm_inb h) hdg (kk r hr ls H locs hl hP hSS))
theorem xm_zald (hX : xm_X p m meth c cc nL s args Ts own ret D L g A) {k t n : Nat} {i : Int32} (hS : L[k]? = some (.inl (t, .boolean, n))) (hdg : decode cc pc = .ok (.baload, 1)) (kk : xm_J p l e R s m args below meth c nL D L g A Fn (pc + 1) lv (.int (M.1 k i.toNatClampNeg) :: rest) M X) : xm_J p l e R s m args below meth c nL D L g A Fn pc lv (.int i :: .ref (g.1 k) :: rest) M (if i < 0 ∨ n ≤ i.toNatClampNeg then none else X) :=
  xm_ite (fun _ => xm_none) (fun h r hr ls H locs hl hP hSS => va_zald hX.1.1 hX.1.2.1 hX.2.2.2.1 hP k t (xm_w_at hS) (hX.2.2.2.2.2.2.1 k _ hS) (xm_inb h) hdg (kk r hr ls H locs hl hP hSS))
theorem xm_iast (hX : xm_X p m meth c cc nL s args Ts own ret D L g A) {f : xm_M → Option ρ} {k t n : Nat} {i x : Int32} (hS : L[k]? = some (.inl (t, .int, n))) (hdg : decode cc pc = .ok (.iastore, 1)) (kk : ∀ M1 : xm_M, xm_J p l e R s m args below meth c nL D L g A Fn (pc + 1) lv rest M1 (f M1)) : xm_J p l e R s m args below meth c nL D L g A Fn pc lv (.int x :: .int i :: .ref (g.1 k) :: rest) M (if i < 0 ∨ n ≤ i.toNatClampNeg then none else xm_lt (xm_s M k i.toNatClampNeg x) f) :=
  xm_ite (fun _ => xm_none) (fun h r hr ls H locs hl hP hSS => va_iast hX.1.1 hX.1.2.1 hX.2.2.2.1 hP (xm_X.hD hX M) hSS k t (xm_w_at hS) (hX.2.2.2.2.2.2.1 k _ hS) (xm_inb h) hdg (fun H1 locs1 hP1 _ hS1 => kk _ r hr ls H1 locs1 hl (by
    have e : (xm_w L g M).set k (g.1 k, .inl (xm_cid g t, n, .inl (upd (M.1 k) i.toNatClampNeg x))) = xm_w L g (xm_s M k i.toNatClampNeg x) := xm_w_set hS (by rw [xm_s_at]; rfl) xm_s_o
    rw [e] at hP1; exact hP1) hS1))
theorem xm_zast (hX : xm_X p m meth c cc nL s args Ts own ret D L g A) {f : xm_M → Option ρ} {k t n : Nat} {i x : Int32} (hS : L[k]? = some (.inl (t, .boolean, n))) (hdg : decode cc pc = .ok (.bastore, 1)) (kk : ∀ M1 : xm_M, xm_J p l e R s m args below meth c nL D L g A Fn (pc + 1) lv rest M1 (f M1)) : xm_J p l e R s m args below meth c nL D L g A Fn pc lv (.int x :: .int i :: .ref (g.1 k) :: rest) M (if i < 0 ∨ n ≤ i.toNatClampNeg then none else xm_lt (xm_s M k i.toNatClampNeg (vp_nar .boolean x)) f) :=
  xm_ite (fun _ => xm_none) (fun h r hr ls H locs hl hP hSS => va_zast hX.1.1 hX.1.2.1 hX.2.2.2.1 hP (xm_X.hD hX M) hSS k t (xm_w_at hS) (hX.2.2.2.2.2.2.1 k _ hS) (xm_inb h) hdg (fun H1 locs1 hP1 _ hS1 => kk _ r hr ls H1 locs1 hl (by
    have e : (xm_w L g M).set k (g.1 k, .inl (xm_cid g t, n, .inl (upd (M.1 k) i.toNatClampNeg (vp_nar .boolean x)))) = xm_w L g (xm_s M k i.toNatClampNeg (vp_nar .boolean x)) := xm_w_set hS (by rw [xm_s_at]; rfl) xm_s_o
    rw [e] at hP1; exact hP1) hS1))
theorem xm_alen (hX : xm_X p m meth c cc nL s args Ts own ret D L g A) {k t n : Nat} {ty : FieldType} {v : Int32} (hS : L[k]? = some (.inl (t, ty, n))) (hv : Int32.ofNat n = v) (hdg : decode cc pc = .ok (.arraylength, 1)) (kk : xm_J p l e R s m args below meth c nL D L g A Fn (pc + 1) lv (.int v :: rest) M X) : xm_J p l e R s m args below meth c nL D L g A Fn pc lv (.ref (g.1 k) :: rest) M X :=
  fun r hr ls H locs hl hP hSS => va_alen hX.1.1 hX.1.2.1 hX.2.2.2.1 hP k t (xm_w_at hS) (hX.2.2.2.2.2.2.1 k _ hS) hv hdg (kk r hr ls H locs hl hP hSS)
theorem xm_ifT {st : List Value} {P : Prop} [Decidable P] (h : ¬ P) (k : xm_J p l e R s m args below meth c nL D L g A Fn pc lv st M (if P then none else X)) : xm_J p l e R s m args below meth c nL D L g A Fn pc lv st M X := by rw [if_neg h] at k; exact k
theorem xm_ialdL (hX : xm_X p m meth c cc nL s args Ts own ret D L g A) {k t n j : Nat} {i : Int32} (hS : L[k]? = some (.inl (t, .int, n))) (h : ¬ (i < 0 ∨ n ≤ i.toNatClampNeg)) (hj : i.toNatClampNeg = j) (hdg : decode cc pc = .ok (.iaload, 1)) (kk : xm_J p l e R s m args below meth c nL D L g A Fn (pc + 1) lv (.int (M.1 k j) :: rest) M X) : xm_J p l e R s m args below meth c nL D L g A Fn pc lv (.int i :: .ref (g.1 k) :: rest) M X := by
  subst hj
  exact xm_ifT h (xm_iald hX hS hdg kk)
theorem xm_zaldL (hX : xm_X p m meth c cc nL s args Ts own ret D L g A) {k t n j : Nat} {i : Int32} (hS : L[k]? = some (.inl (t, .boolean, n))) (h : ¬ (i < 0 ∨ n ≤ i.toNatClampNeg)) (hj : i.toNatClampNeg = j) (hdg : decode cc pc = .ok (.baload, 1)) (kk : xm_J p l e R s m args below meth c nL D L g A Fn (pc + 1) lv (.int (M.1 k j) :: rest) M X) : xm_J p l e R s m args below meth c nL D L g A Fn pc lv (.int i :: .ref (g.1 k) :: rest) M X := by
  subst hj
  exact xm_ifT h (xm_zald hX hS hdg kk)
theorem xm_iastL (hX : xm_X p m meth c cc nL s args Ts own ret D L g A) {f : xm_M → Option ρ} {k t n j : Nat} {i x : Int32} (hS : L[k]? = some (.inl (t, .int, n))) (h : ¬ (i < 0 ∨ n ≤ i.toNatClampNeg)) (hj : i.toNatClampNeg = j) (hdg : decode cc pc = .ok (.iastore, 1)) (kk : ∀ M1 : xm_M, xm_J p l e R s m args below meth c nL D L g A Fn (pc + 1) lv rest M1 (f M1)) : xm_J p l e R s m args below meth c nL D L g A Fn pc lv (.int x :: .int i :: .ref (g.1 k) :: rest) M (xm_lt (xm_s M k j x) f) := by
  subst hj
  exact xm_ifT h (xm_iast hX hS hdg kk)
theorem xm_alenR (hX : xm_X p m meth c cc nL s args Ts own ret D L g A) {k N k0 : Nat} {v : Int32} (hS : L[k]? = some (.inr (.inl (N, k0)))) (hv : Int32.ofNat N = v) (hdg : decode cc pc = .ok (.arraylength, 1)) (kk : xm_J p l e R s m args below meth c nL D L g A Fn (pc + 1) lv (.int v :: rest) M X) : xm_J p l e R s m args below meth c nL D L g A Fn pc lv (.ref (g.1 k) :: rest) M X :=
  fun r hr ls H locs hl hP hSS => va_alen hX.1.1 hX.1.2.1 hX.2.2.2.1 hP k 1 (xm_w_at hS) (hX.2.2.2.2.2.2.1 k _ hS) hv hdg (kk r hr ls H locs hl hP hSS)
theorem xm_aald (hX : xm_X p m meth c cc nL s args Ts own ret D L g A) {k N k0 : Nat} {i : Int32} (hS : L[k]? = some (.inr (.inl (N, k0)))) (hdg : decode cc pc = .ok (.aaload, 1)) (kk : i.toNatClampNeg < N → xm_J p l e R s m args below meth c nL D L g A Fn (pc + 1) lv (.ref (g.1 (k0 + i.toNatClampNeg)) :: rest) M X) : xm_J p l e R s m args below meth c nL D L g A Fn pc lv (.int i :: .ref (g.1 k) :: rest) M (if i < 0 ∨ N ≤ i.toNatClampNeg then none else X) :=
  xm_ite (fun _ => xm_none) (fun h r hr ls H locs hl hP hSS => by
    have hlt : i.toNatClampNeg < N := Nat.not_le.mp fun q => h (Or.inr q)
    have ev : va_rf (xm_rows g (N, k0) i.toNatClampNeg) = .ref (g.1 (k0 + i.toNatClampNeg)) := by simp [xm_rows, hlt, va_rf]
    refine W.aald (v := va_rf (xm_rows g (N, k0) i.toNatClampNeg)) (ty := .array .int) hX.1.1 hX.1.2.1 (hP k _ (xm_w_at hS)) ((hX.2.2.2.1.2 1 _ (hX.2.2.2.2.2.2.1 k _ hS)).1 N (fun j => va_rf (xm_rows g (N, k0) j))) rfl (fun q => by cases q) (by show ¬ (i < 0 ∨ (arrV _ _ _).slots.size ≤ _); rw [arrV_size]; exact h) (by show (arrV _ _ _).slots[_]? = _; rw [arrV_read _ _ hlt]) rfl rfl hdg ?_
    rw [ev]
    exact kk hlt r hr ls H locs hl hP hSS)
/-! Math, System.arraycopy -/
theorem xm_mmin (hX : xm_X p m meth c cc nL s args Ts own ret D L g A) {index : Nat} (h1 : Cond.methodLink own index Lib.Math.min.name ∈ Ts) (h2 : Cond.static Lib.Math.min.name ∈ Ts) (h3 : Cond.initialized "java/lang/Math" ∈ Ts) (h4 : Cond.code Lib.Math.min.name Lib.Math.min.code 2 (some .int) ∈ Ts) (hf : 1 ≤ R.frames) (hlo : (rest.map fun v => v.category).sum + 13 ≤ R.locals) {x y : Int32} (hF : Fn.2.1 ≤ R.cells ∧ Fn.2.2 ≤ R.slots) (hdg : decode cc pc = .ok (.invokestatic index, 3)) (kk : xm_J p l e R s m args below meth c nL D L g A Fn (pc + 3) lv (.int (if y < x then y else x) :: rest) M X) : xm_J p l e R s m args below meth c nL D L g A Fn pc lv (.int y :: .int x :: rest) M X :=
  fun r hr ls H locs hl hP hSS => va_mmin hX.1.1 hX.1.2.1 (by rw [hX.1.2.2.1]; exact hl.1.symm) hX.1.2.2.2.1 (hX.1.2.2.2.2 _ h1) (hX.1.2.2.2.2 _ h2) (hX.1.2.2.2.2 _ h3) (hX.1.2.2.2.2 _ h4) hf hlo hF.1 hF.2 hdg (kk r hr ls H locs hl hP hSS)
theorem xm_mmax (hX : xm_X p m meth c cc nL s args Ts own ret D L g A) {index : Nat} (h1 : Cond.methodLink own index Lib.Math.max.name ∈ Ts) (h2 : Cond.static Lib.Math.max.name ∈ Ts) (h3 : Cond.initialized "java/lang/Math" ∈ Ts) (h4 : Cond.code Lib.Math.max.name Lib.Math.max.code 2 (some .int) ∈ Ts) (hf : 1 ≤ R.frames) (hlo : (rest.map fun v => v.category).sum + 13 ≤ R.locals) {x y : Int32} (hF : Fn.2.1 ≤ R.cells ∧ Fn.2.2 ≤ R.slots) (hdg : decode cc pc = .ok (.invokestatic index, 3)) (kk : xm_J p l e R s m args below meth c nL D L g A Fn (pc + 3) lv (.int (if x < y then y else x) :: rest) M X) : xm_J p l e R s m args below meth c nL D L g A Fn pc lv (.int y :: .int x :: rest) M X :=
  fun r hr ls H locs hl hP hSS => va_mmax hX.1.1 hX.1.2.1 (by rw [hX.1.2.2.1]; exact hl.1.symm) hX.1.2.2.2.1 (hX.1.2.2.2.2 _ h1) (hX.1.2.2.2.2 _ h2) (hX.1.2.2.2.2 _ h3) (hX.1.2.2.2.2 _ h4) hf hlo hF.1 hF.2 hdg (kk r hr ls H locs hl hP hSS)
theorem xm_mabs (hX : xm_X p m meth c cc nL s args Ts own ret D L g A) {index : Nat} (h1 : Cond.methodLink own index Lib.Math.abs.name ∈ Ts) (h2 : Cond.static Lib.Math.abs.name ∈ Ts) (h3 : Cond.initialized "java/lang/Math" ∈ Ts) (h4 : Cond.code Lib.Math.abs.name Lib.Math.abs.code 1 (some .int) ∈ Ts) (hf : 1 ≤ R.frames) (hlo : (rest.map fun v => v.category).sum + 13 ≤ R.locals) {x : Int32} (hF : Fn.2.1 ≤ R.cells ∧ Fn.2.2 ≤ R.slots) (hdg : decode cc pc = .ok (.invokestatic index, 3)) (kk : xm_J p l e R s m args below meth c nL D L g A Fn (pc + 3) lv (.int (if 0 ≤ x then x else 0 - x) :: rest) M X) : xm_J p l e R s m args below meth c nL D L g A Fn pc lv (.int x :: rest) M X :=
  fun r hr ls H locs hl hP hSS => va_mabs hX.1.1 hX.1.2.1 (by rw [hX.1.2.2.1]; exact hl.1.symm) hX.1.2.2.2.1 (hX.1.2.2.2.2 _ h1) (hX.1.2.2.2.2 _ h2) (hX.1.2.2.2.2 _ h3) (hX.1.2.2.2.2 _ h4) hf hlo hF.1 hF.2 hdg (kk r hr ls H locs hl hP hSS)
theorem xm_mminl (hX : xm_X p m meth c cc nL s args Ts own ret D L g A) {index : Nat} (h1 : Cond.methodLink own index Lib.MathLoose.min_long.x ∈ Ts) (h2 : Cond.static Lib.MathLoose.min_long.x ∈ Ts) (h3 : Cond.initialized "java/lang/Math" ∈ Ts) (h4 : Cond.code Lib.MathLoose.min_long.x Lib.MathLoose.min_long.code 4 (some .long) ∈ Ts) (hf : 1 ≤ R.frames) (hlo : (rest.map fun v => v.category).sum + 15 ≤ R.locals) {x y : Int64} (hF : Fn.2.1 ≤ R.cells ∧ Fn.2.2 ≤ R.slots) (hdg : decode cc pc = .ok (.invokestatic index, 3)) (kk : xm_J p l e R s m args below meth c nL D L g A Fn (pc + 3) lv (.long (if y < x then y else x) :: rest) M X) : xm_J p l e R s m args below meth c nL D L g A Fn pc lv (.long y :: .long x :: rest) M X :=
  fun r hr ls H locs hl hP hSS => va_mmin_long hX.1.1 hX.1.2.1 (by rw [hX.1.2.2.1]; exact hl.1.symm) hX.1.2.2.2.1 (hX.1.2.2.2.2 _ h1) (hX.1.2.2.2.2 _ h2) (hX.1.2.2.2.2 _ h3) (hX.1.2.2.2.2 _ h4) hf hlo hF.1 hF.2 hdg (kk r hr ls H locs hl hP hSS)
theorem xm_mabsl (hX : xm_X p m meth c cc nL s args Ts own ret D L g A) {index : Nat} (h1 : Cond.methodLink own index Lib.MathLoose.abs_long.x ∈ Ts) (h2 : Cond.static Lib.MathLoose.abs_long.x ∈ Ts) (h3 : Cond.initialized "java/lang/Math" ∈ Ts) (h4 : Cond.code Lib.MathLoose.abs_long.x Lib.MathLoose.abs_long.code 2 (some .long) ∈ Ts) (hf : 1 ≤ R.frames) (hlo : (rest.map fun v => v.category).sum + 13 ≤ R.locals) {x : Int64} (hF : Fn.2.1 ≤ R.cells ∧ Fn.2.2 ≤ R.slots) (hdg : decode cc pc = .ok (.invokestatic index, 3)) (kk : xm_J p l e R s m args below meth c nL D L g A Fn (pc + 3) lv (.long (if 0 < x then x else -x) :: rest) M X) : xm_J p l e R s m args below meth c nL D L g A Fn pc lv (.long x :: rest) M X :=
  fun r hr ls H locs hl hP hSS => va_mabs_long hX.1.1 hX.1.2.1 (by rw [hX.1.2.2.1]; exact hl.1.symm) hX.1.2.2.2.1 (hX.1.2.2.2.2 _ h1) (hX.1.2.2.2.2 _ h2) (hX.1.2.2.2.2 _ h3) (hX.1.2.2.2.2 _ h4) hf hlo hF.1 hF.2 hdg (kk r hr ls H locs hl hP hSS)
/-- a row of ints copied into another, from the first on -/
theorem xm_acopy (hX : xm_X p m meth c cc nL s args Ts own ret D L g A) {f : xm_M → Option ρ} {index : Nat} (h1 : Cond.methodLink own index arraycopyName ∈ Ts) (h2 : Cond.native arraycopyName ∈ Ts) (h3 : Cond.static arraycopyName ∈ Ts) (h4 : Cond.initialized "java/lang/System" ∈ Ts) {k1 k2 t n1 n2 : Nat} (hS1 : L[k1]? = some (.inl (t, .int, n1))) (hS2 : L[k2]? = some (.inl (t, .int, n2))) {sp dp n : Int32} (hf : 1 ≤ R.frames) (hlo : (rest.map fun v => v.category).sum + (nativeFrameWords "java/lang/System" "arraycopy" 5 + 11) ≤ R.locals) (hdg : decode cc pc = .ok (.invokestatic index, 3))
    (kk : ∀ M1 : xm_M, xm_J p l e R s m args below meth c nL D L g A Fn (pc + 3) lv rest M1 (f M1)) : xm_J p l e R s m args below meth c nL D L g A Fn pc lv (.int n :: .int dp :: .ref (g.1 k2) :: .int sp :: .ref (g.1 k1) :: rest) M (if sp < 0 ∨ dp < 0 ∨ n < 0 ∨ n1 < sp.toNatClampNeg + n.toNatClampNeg ∨ n2 < dp.toNatClampNeg + n.toNatClampNeg then none else xm_lt (xm_r M k2 (va_cpy (M.1 k1) (M.1 k2) sp.toNatClampNeg dp.toNatClampNeg n.toNatClampNeg)) f) :=
  xm_ite (fun _ => xm_none) (fun h r hr ls H locs hl hP hSS => va_copyi hX.1.1 hX.1.2.1 (by rw [hX.1.2.2.1]; exact hl.1.symm) hX.1.2.2.2.1 (hX.1.2.2.2.2 _ h1) (hX.1.2.2.2.2 _ h2) (hX.1.2.2.2.2 _ h3) (hX.1.2.2.2.2 _ h4) hX.2.2.2.1 hP (xm_X.hD hX M) hSS k1 k2 t t (xm_w_at hS1) (xm_w_at hS2) (hX.2.2.2.2.2.2.1 k1 _ hS1) (hX.2.2.2.2.2.2.1 k2 _ hS2) rfl
    (fun z => h (Or.inl z)) (fun z => h (Or.inr (Or.inl z))) (fun z => h (Or.inr (Or.inr (Or.inl z)))) (Nat.not_lt.mp fun z => h (Or.inr (Or.inr (Or.inr (Or.inl z))))) (Nat.not_lt.mp fun z => h (Or.inr (Or.inr (Or.inr (Or.inr z))))) (fun _ _ => rfl) hf hlo hdg (fun H1 locs1 hP1 _ hS1' => kk _ r hr ls H1 locs1 hl (by
    have e : (xm_w L g M).set k2 (g.1 k2, .inl (xm_cid g t, n2, .inl (va_cpy (M.1 k1) (M.1 k2) sp.toNatClampNeg dp.toNatClampNeg n.toNatClampNeg))) = xm_w L g (xm_r M k2 (va_cpy (M.1 k1) (M.1 k2) sp.toNatClampNeg dp.toNatClampNeg n.toNatClampNeg)) := xm_w_set hS2 (by rw [xm_r_at]; rfl) xm_r_o
    rw [e] at hP1; exact hP1) hS1'))
/-! statics: the two tables of the settings' ranges -/
theorem xm_gets (hX : xm_X p m meth c cc nL s args Ts own ret D L g A) {C n d : String} {v : Value} {index : Nat} (hZ : va_Z C n d v A s s.heap) (hw : Cond.fieldLink own index C n d ∈ Ts) (hdg : decode cc pc = .ok (.getstatic index, 3)) (kk : xm_J p l e R s m args below meth c nL D L g A Fn (pc + 3) lv (v :: rest) M X) : xm_J p l e R s m args below meth c nL D L g A Fn pc lv rest M X :=
  fun r hr ls H locs hl hP hSS => va_gets hX.1.1 hX.1.2.1 hZ hSS hX.1.2.2.2.1 (hX.1.2.2.2.2 _ hw) (fun _ h => h) hdg (kk r hr ls H locs hl hP hSS)
theorem xm_tlen (hX : xm_X p m meth c cc nL s args Ts own ret D L g A) {t n : Nat} {f : Nat → Value} {v : Int32} (hT : va_T .int t n f A s s.heap) (hv : Int32.ofNat n = v) (hdg : decode cc pc = .ok (.arraylength, 1)) (kk : xm_J p l e R s m args below meth c nL D L g A Fn (pc + 1) lv (.int v :: rest) M X) : xm_J p l e R s m args below meth c nL D L g A Fn pc lv (.ref t :: rest) M X :=
  fun r hr ls H locs hl hP hSS => va_tlen hX.1.1 hX.1.2.1 hT hSS hv hdg (kk r hr ls H locs hl hP hSS)
theorem xm_ti (hX : xm_X p m meth c cc nL s args Ts own ret D L g A) {t n : Nat} {f : Nat → Int32} {i : Int32} (hT : va_T .int t n (fun j => .int (f j)) A s s.heap) (hdg : decode cc pc = .ok (.iaload, 1)) (kk : xm_J p l e R s m args below meth c nL D L g A Fn (pc + 1) lv (.int (f i.toNatClampNeg) :: rest) M X) : xm_J p l e R s m args below meth c nL D L g A Fn pc lv (.int i :: .ref t :: rest) M (if i < 0 ∨ n ≤ i.toNatClampNeg then none else X) :=
  xm_ite (fun _ => xm_none) (fun h r hr ls H locs hl hP hSS => va_ti hX.1.1 hX.1.2.1 hT hSS (xm_inb h) rfl hdg (kk r hr ls H locs hl hP hSS))
/-! ends -/
theorem xm_iret (hX : xm_X p m meth c cc nL s args Ts own (some .int) D L g A) {v : Int32} (hdg : decode cc pc = .ok (.ireturn, 1)) : xm_J p l e R s m args below meth c nL D L g A (xm_Z below args s D L g A (xm_Fi g)) pc lv [.int v] M (some (v, M)) := fun r hr ls H locs hl hP hSS => by
  cases hr
  exact W.iret (v := v) hX.1.1 hX.1.2.1 hX.2.1 (fun t ht hW => ⟨rfl, by rw [ht]; exact hP, hSS.F ht⟩) hSS.2.2 hdg hX.2.2.1
theorem xm_zret (hX : xm_X p m meth c cc nL s args Ts own (some .boolean) D L g A) {v : Int32} (hdg : decode cc pc = .ok (.ireturn, 1)) : xm_J p l e R s m args below meth c nL D L g A (xm_Z below args s D L g A (xm_Fi g)) pc lv [.int v] M (if v = 0 ∨ v = 1 then some (v, M) else none) :=
  xm_ite (fun h r hr ls H locs hl hP hSS => by
    cases hr
    exact W.zret (v := v) hX.1.1 hX.1.2.1 hX.2.1 (by rcases h with rfl | rfl <;> rfl) (fun t ht hW => ⟨rfl, by rw [ht]; exact hP, hSS.F ht⟩) hSS.2.2 hdg hX.2.2.1) (fun _ => xm_none)
theorem xm_zretL (hX : xm_X p m meth c cc nL s args Ts own (some .boolean) D L g A) {v : Int32} (h : v = 0 ∨ v = 1) (hdg : decode cc pc = .ok (.ireturn, 1)) : xm_J p l e R s m args below meth c nL D L g A (xm_Z below args s D L g A (xm_Fi g)) pc lv [.int v] M (some (v, M)) := by
  have k := xm_zret (p := p) (l := l) (e := e) (R := R) (below := below) (lv := lv) (M := M) hX (v := v) hdg
  rw [if_pos h] at k
  exact k
theorem xm_lret (hX : xm_X p m meth c cc nL s args Ts own (some .long) D L g A) {v : Int64} (hdg : decode cc pc = .ok (.lreturn, 1)) : xm_J p l e R s m args below meth c nL D L g A (xm_Z below args s D L g A (xm_Fl g)) pc lv [.long v] M (some (v, M)) := fun r hr ls H locs hl hP hSS => by
  cases hr
  exact W.lret (v := v) hX.1.1 hX.1.2.1 hX.2.1 (fun t ht hW => ⟨rfl, by rw [ht]; exact hP, hSS.F ht⟩) hSS.2.2 hdg hX.2.2.1
theorem xm_vret (hX : xm_X p m meth c cc nL s args Ts own none D L g A) (hdg : decode cc pc = .ok (.return_, 1)) : xm_J p l e R s m args below meth c nL D L g A (xm_Z below args s D L g A (xm_Fv g)) pc lv [] M (some M) := fun r hr ls H locs hl hP hSS => by
  cases hr
  exact W.vret hX.1.1 hX.1.2.1 hX.2.1 (fun t ht hW => ⟨rfl, by rw [ht]; exact hP, hSS.F ht⟩) hSS.2.2 hdg hX.2.2.1
/-! calls -/
theorem xm_sub (hX : xm_X p m meth c cc nL s args Ts own ret D L g A) {H : Heap} {locs : List Loc} (hS : va_S A s.heap H locs) : ∀ q, xm_A L g H.size q → A q := fun q h => by
  rcases h with ⟨k, hk, rfl⟩ | h
  · exact hX.2.2.2.2.2.2.2.1 k hk
  · exact hX.2.2.2.2.2.2.2.2.1 q (Nat.le_trans hS.1 h)
theorem xm_preU (hX : xm_X p m meth c cc nL s args Ts own ret D L g A) {H : Heap} {locs : List Loc} (hP : va_P D vwCl (xm_w L g M) H) (hS : va_S A s.heap H locs) {As : List Value} : ∀ U : State, U.heap = H → s.WarmedH U.vm → va_Pc As (xm_Pre D L g M H.size) As.toArray U := fun U hU hW =>
  ⟨rfl, by rw [hU], by rw [hU]; exact hP, va_K.moved hW.alike hX.2.2.2.1, hX.2.2.2.2.1.warm hW, hX.2.2.2.2.2.1, hX.2.2.2.2.2.2.1, by rw [hU]; exact (((hX.2.2.2.2.2.2.2.2.2).moved hW.alike).kept (fun a h1 h2 => hS.2.1 a h1 h2)).narrow (xm_sub hX hS)⟩
theorem xm_call {σ : Type} {Fc : σ → Option Value × xm_M} {f : Option σ} {K : σ → Option ρ} {st0 : List Value} {a : Array Value} (hX : xm_X p m meth c cc nL s args Ts own ret D L g A)
    (hrun : ∀ r1, f = some r1 → ∀ (ls : Array Slot) (H : Heap) (locs : List Loc), lv_has ls nL lv → va_P D vwCl (xm_w L g M) H → va_S A s.heap H locs → va_Run p l e R s m args below meth c H locs Fn.2.1 Fn.2.2 0 0 (F0 m pc ls st0) rest (xm_Q D L g (xm_A L g H.size) (Fc r1) a) (xm_A L g H.size))
    (kk : ∀ r1 : σ, f = some r1 → xm_J p l e R s m args below meth c nL D L g A Fn (pc + 3) lv ((Fc r1).1.toList ++ rest) (Fc r1).2 (K r1)) : xm_J p l e R s m args below meth c nL D L g A Fn pc lv st0 M (f.bind K) := by
  intro r hr ls H locs hl hP hS
  cases hf : f with
  | none => rw [hf] at hr; cases hr
  | some r1 =>
    rw [hf] at hr
    intro T hT X
    obtain ⟨v, st₀, t, T', L', h0, X', hL, e1, e2, ⟨hv, hP1, hz, hk⟩, stp⟩ := hrun r1 hf ls H locs hl hP hS T hT X
    rw [h0] at hz hk
    cases hv
    obtain ⟨t2, a1, b1⟩ := kk r1 hf r hr ls T'.heap (locs ++ L') hl (by rw [e1]; exact hP1)
      ⟨Nat.le_trans hS.1 (by rw [e1]; exact hz), fun q h1 h2 => by rw [e1, hk q (Nat.lt_of_lt_of_le h1 hS.1) (fun z => h2 (xm_sub hX hS q z))]; exact hS.2.1 q h1 h2, fun q hq => by
        rcases List.mem_append.mp hq with h | h
        · exact hS.2.2 q h
        · exact xm_sub hX hS _ (hL q h)⟩ T' rfl X'
    exact ⟨t2, stp t2 a1, b1⟩
theorem xm_runS {nC nS : Nat} {σ : Type} {Fc : xm_G → σ → Option Value × xm_M} {st0 : List Value} {f : Option σ} {y : MethodName} {ws2 ws3 : List Cond} {rm : Room} {bytes : ByteArray} {maxL n index : Nat} {rt : Option FieldType} {As : xm_G → List Value} (hX : xm_X p m meth c cc nL s args Ts own ret D L g A) (hC : xm_C l y ws2 rm L As M Fc f) (hG : GoodIn Ts (va_wsS own index y ws2)) (hw : ws2 = Cond.code y bytes maxL rt :: ws3) (hr0 : rm.cells = 0 ∧ rm.slots = 0)
    (hd : y.cls ≠ "java/lang/invoke/MethodHandle" ∧ y.cls ≠ "java/lang/invoke/VarHandle" ∧ (parseMethodDescriptor y.desc).map (fun d => d.parameters.length) = some n) (hR : rm.frames + 1 ≤ R.frames ∧ 8 + (maxL + 11) + rm.locals ≤ R.locals) (hn : (As g).length = n) (hq : (rest.map fun v => v.category).sum ≤ 8) (hst : st0 = (As g).reverse ++ rest) (hF : nC ≤ R.cells ∧ nS ≤ R.slots) (hdg : decode cc pc = .ok (.invokestatic index, 3)) :
    ∀ r1, f = some r1 → ∀ (ls : Array Slot) (H : Heap) (locs : List Loc), lv_has ls nL lv → va_P D vwCl (xm_w L g M) H → va_S A s.heap H locs → va_Run p l e R s m args below meth c H locs nC nS 0 0 (F0 m pc ls st0) rest (xm_Q D L g (xm_A L g H.size) (Fc g r1) (As g).toArray) (xm_A L g H.size) := fun r1 h1 ls H locs hl hP hS =>
  va_runS hX.1 (hC D g H.size r1 h1) (va_cwS n hX.1.2.2.2.2 hG hw hr0.1 hr0.2 hd hR) ⟨xm_blind, xm_preU hX hP hS⟩ rfl hn hl.1 hst (lv_room hq) hdg hF
theorem xm_runSN {nC nS : Nat} {σ : Type} {Fc : xm_G → σ → Option Value × xm_M} {st0 : List Value} {f : Option σ} {y : MethodName} {host : String} {ws2 ws3 : List Cond} {rm : Room} {bytes : ByteArray} {maxL n index : Nat} {rt : Option FieldType} {As : xm_G → List Value} (hX : xm_X p m meth c cc nL s args Ts own ret D L g A) (hC : xm_C l y ws2 rm L As M Fc f) (hG : GoodIn Ts ws2) (hw : ws2 = Cond.code y bytes maxL rt :: ws3) (hr0 : rm.cells = 0 ∧ rm.slots = 0)
    (hN : (own, index, y, host) ∈ xm_nw) (hi : Cond.initialized y.cls ∈ Ts) (hs : Cond.static y ∈ Ts)
    (hd : y.cls ≠ "java/lang/invoke/MethodHandle" ∧ y.cls ≠ "java/lang/invoke/VarHandle" ∧ (parseMethodDescriptor y.desc).map (fun d => d.parameters.length) = some n) (hR : rm.frames + 1 ≤ R.frames ∧ 8 + (maxL + 11) + rm.locals ≤ R.locals) (hn : (As g).length = n) (hq : (rest.map fun v => v.category).sum ≤ 8) (hst : st0 = (As g).reverse ++ rest) (hF : nC ≤ R.cells ∧ nS ≤ R.slots) (hdg : decode cc pc = .ok (.invokestatic index, 3)) :
    ∀ r1, f = some r1 → ∀ (ls : Array Slot) (H : Heap) (locs : List Loc), lv_has ls nL lv → va_P D vwCl (xm_w L g M) H → va_S A s.heap H locs → va_Run p l e R s m args below meth c H locs nC nS 0 0 (F0 m pc ls st0) rest (xm_Q D L g (xm_A L g H.size) (Fc g r1) (As g).toArray) (xm_A L g H.size) := fun r1 h1 ls H locs hl hP hS =>
  va_runSN hX.1 (hC D g H.size r1 h1) ⟨va_cnB n hX.1.2.2.2.2 hG hw hr0.1 hr0.2 (hX.2.2.2.2.1 _ hN) (hX.1.2.2.2.2 _ hi) hd hR, hX.1.2.2.2.2 _ hs, trivial⟩ ⟨xm_blind, xm_preU hX hP hS⟩ rfl hn hl.1 hst (lv_room hq) hdg hF
theorem xm_runV {nC nS : Nat} {σ : Type} {Fc : xm_G → σ → Option Value × xm_M} {st0 : List Value} {f : Option σ} {y : MethodName} {C : String} {ws2 ws3 : List Cond} {rm : Room} {bytes : ByteArray} {maxL n index k ci : Nat} {fs : List (Nat × Nat)} {T : u_T} {N : Nat} {rt : Option FieldType} {As : xm_G → List Value} (hX : xm_X p m meth c cc nL s args Ts own ret D L g A) (hC : xm_C l y ws2 rm L (fun g => .ref (g.1 k) :: As g) M Fc f) (hSk : L[k]? = some (.inr (.inr (ci, fs)))) (hc : vwCl[ci]? = some (C, T, N)) (hG : GoodIn Ts (wsV own index C y ws2)) (hw : ws2 = Cond.code y bytes maxL rt :: ws3) (hr0 : rm.cells = 0 ∧ rm.slots = 0)
    (hd : y.cls = C ∧ y.cls ≠ "java/lang/invoke/MethodHandle" ∧ y.cls ≠ "java/lang/invoke/VarHandle" ∧ (parseMethodDescriptor y.desc).map (fun d => d.parameters.length) = some n) (hR : rm.frames + 1 ≤ R.frames ∧ 8 + (maxL + 11) + rm.locals ≤ R.locals) (hn : (As g).length = n) (hq : (rest.map fun v => v.category).sum ≤ 8) (hst : st0 = (As g).reverse ++ .ref (g.1 k) :: rest) (hF : nC ≤ R.cells ∧ nS ≤ R.slots) (hdg : decode cc pc = .ok (.invokevirtual index, 3)) :
    ∀ r1, f = some r1 → ∀ (ls : Array Slot) (H : Heap) (locs : List Loc), lv_has ls nL lv → va_P D vwCl (xm_w L g M) H → va_S A s.heap H locs → va_Run p l e R s m args below meth c H locs nC nS 0 0 (F0 m pc ls st0) rest (xm_Q D L g (xm_A L g H.size) (Fc g r1) (.ref (g.1 k) :: As g).toArray) (xm_A L g H.size) := fun r1 h1 ls H locs hl hP hS =>
  va_runV hX.1 (hC D g H.size r1 h1) (cwV n hX.1.2.2.2.2 hG hw hr0.1 hr0.2 hd hR) ⟨xm_blind, va_recv hX.2.2.2.1 hP (ci := ci) (q0 := k) hc (xm_w_at hSk), xm_preU hX hP hS⟩ rfl hn hl.1 hst (lv_room hq) hdg hF
theorem xm_aret {own2 : String} (hX : xm_X p m meth c cc nL s args Ts own (some (.object own2)) D L g A) {k : Nat} (hdg : decode cc pc = .ok (.areturn, 1)) : xm_J p l e R s m args below meth c nL D L g A (xm_Z below args s D L g A (xm_Fr g)) pc lv [.ref (g.1 k)] M (some (k, M)) := fun r hr ls H locs hl hP hSS => by
  cases hr
  exact W.aret (v := .ref (g.1 k)) hX.1.1 hX.1.2.1 hX.2.1 (Or.inl ⟨_, rfl⟩) (Or.inr ⟨_, rfl⟩) (fun t ht hW => ⟨rfl, by rw [ht]; exact hP, hSS.F ht⟩) hSS.2.2 hdg hX.2.2.1
theorem xm_calli {f : Option (Int32 × xm_M)} {K : Int32 → xm_M → Option ρ} {st0 : List Value} {a : Array Value} (hX : xm_X p m meth c cc nL s args Ts own ret D L g A)
    (hrun : ∀ r1, f = some r1 → ∀ (ls : Array Slot) (H : Heap) (locs : List Loc), lv_has ls nL lv → va_P D vwCl (xm_w L g M) H → va_S A s.heap H locs → va_Run p l e R s m args below meth c H locs Fn.2.1 Fn.2.2 0 0 (F0 m pc ls st0) rest (xm_Q D L g (xm_A L g H.size) (xm_Fi g r1) a) (xm_A L g H.size))
    (kk : ∀ (x : Int32) (M1 : xm_M), xm_J p l e R s m args below meth c nL D L g A Fn (pc + 3) lv (.int x :: rest) M1 (K x M1)) : xm_J p l e R s m args below meth c nL D L g A Fn pc lv st0 M (xm_bi f K) := xm_call hX hrun (fun r1 _ => kk r1.1 r1.2)
theorem xm_calll {f : Option (Int64 × xm_M)} {K : Int64 → xm_M → Option ρ} {st0 : List Value} {a : Array Value} (hX : xm_X p m meth c cc nL s args Ts own ret D L g A)
    (hrun : ∀ r1, f = some r1 → ∀ (ls : Array Slot) (H : Heap) (locs : List Loc), lv_has ls nL lv → va_P D vwCl (xm_w L g M) H → va_S A s.heap H locs → va_Run p l e R s m args below meth c H locs Fn.2.1 Fn.2.2 0 0 (F0 m pc ls st0) rest (xm_Q D L g (xm_A L g H.size) (xm_Fl g r1) a) (xm_A L g H.size))
    (kk : ∀ (x : Int64) (M1 : xm_M), xm_J p l e R s m args below meth c nL D L g A Fn (pc + 3) lv (.long x :: rest) M1 (K x M1)) : xm_J p l e R s m args below meth c nL D L g A Fn pc lv st0 M (xm_bl f K) := xm_call hX hrun (fun r1 _ => kk r1.1 r1.2)
theorem xm_callv {f : Option xm_M} {K : xm_M → Option ρ} {st0 : List Value} {a : Array Value} (hX : xm_X p m meth c cc nL s args Ts own ret D L g A)
    (hrun : ∀ r1, f = some r1 → ∀ (ls : Array Slot) (H : Heap) (locs : List Loc), lv_has ls nL lv → va_P D vwCl (xm_w L g M) H → va_S A s.heap H locs → va_Run p l e R s m args below meth c H locs Fn.2.1 Fn.2.2 0 0 (F0 m pc ls st0) rest (xm_Q D L g (xm_A L g H.size) (xm_Fv g r1) a) (xm_A L g H.size))
    (kk : ∀ (M1 : xm_M), xm_J p l e R s m args below meth c nL D L g A Fn (pc + 3) lv rest M1 (K M1)) : xm_J p l e R s m args below meth c nL D L g A Fn pc lv st0 M (xm_bv f K) := xm_call hX hrun (fun r1 _ => kk r1)
theorem xm_callr {f : Option (Nat × xm_M)} {K : Nat → xm_M → Option ρ} {st0 : List Value} {a : Array Value} (hX : xm_X p m meth c cc nL s args Ts own ret D L g A)
    (hrun : ∀ r1, f = some r1 → ∀ (ls : Array Slot) (H : Heap) (locs : List Loc), lv_has ls nL lv → va_P D vwCl (xm_w L g M) H → va_S A s.heap H locs → va_Run p l e R s m args below meth c H locs Fn.2.1 Fn.2.2 0 0 (F0 m pc ls st0) rest (xm_Q D L g (xm_A L g H.size) (xm_Fr g r1) a) (xm_A L g H.size))
    (kk : ∀ (x : Nat) (M1 : xm_M), xm_J p l e R s m args below meth c nL D L g A Fn (pc + 3) lv (.ref (g.1 x) :: rest) M1 (K x M1)) : xm_J p l e R s m args below meth c nL D L g A Fn pc lv st0 M (xm_br f K) := xm_call hX hrun (fun r1 _ => kk r1.1 r1.2)
theorem xm_weak {st : List Value} (is : List Nat) (h : lv_pick lv is = lv') (k : xm_J p l e R s m args below meth c nL D L g A Fn pc lv' st M X) : xm_J p l e R s m args below meth c nL D L g A Fn pc lv st M X := fun r hr ls H locs hl hP hS => k r hr ls H locs (lv_sub hl is h) hP hS
theorem xm_lv {st : List Value} (h : lv = lv') (k : xm_J p l e R s m args below meth c nL D L g A Fn pc lv' st M X) : xm_J p l e R s m args below meth c nL D L g A Fn pc lv st M X := h ▸ k
/-! the script, a new array, the law's own end -/
/-- the script stands: L ints xs at the cell b, which is none of the world's -/
def xm_Sc (b Ls : Nat) (xs : Nat → Int32) (s : State) (A : Nat → Prop) : Prop := va_X b Ls xs s s.heap ∧ b < s.heap.size ∧ ¬ A b ∧ Ls ≤ 260
theorem xm_slen (hX : xm_X p m meth c cc nL s args Ts own ret D L g A) {b Ls : Nat} {xs : Nat → Int32} (hs : xm_Sc b Ls xs s A) (hdg : decode cc pc = .ok (.arraylength, 1)) (kk : xm_J p l e R s m args below meth c nL D L g A Fn (pc + 1) lv (.int (Int32.ofNat Ls) :: rest) M X) : xm_J p l e R s m args below meth c nL D L g A Fn pc lv (.ref b :: rest) M X := fun r hr ls H locs hl hP hS => va_slen hX.1.1 hX.1.2.1 hs.1 hs.2.1 hs.2.2.1 hS hdg (kk r hr ls H locs hl hP hS)
theorem xm_sld (hX : xm_X p m meth c cc nL s args Ts own ret D L g A) {b Ls : Nat} {xs : Nat → Int32} (hs : xm_Sc b Ls xs s A) {i : Int32} (hi : vp_in i Ls) (hdg : decode cc pc = .ok (.iaload, 1)) (kk : xm_J p l e R s m args below meth c nL D L g A Fn (pc + 1) lv (.int (xs i.toNatClampNeg) :: rest) M X) : xm_J p l e R s m args below meth c nL D L g A Fn pc lv (.int i :: .ref b :: rest) M X := fun r hr ls H locs hl hP hS => va_sld hX.1.1 hX.1.2.1 hs.1 hs.2.1 hs.2.2.1 hS hi hdg (kk r hr ls H locs hl hP hS)
/-- a call that makes mc cells of ms elements -/
theorem xm_callM {mc ms : Nat} {f : Option (Int32 × xm_M)} {K : Int32 → xm_M → Option ρ} {st0 : List Value} {a : Array Value} (hX : xm_X p m meth c cc nL s args Ts own ret D L g A)
    (hrun : ∀ r1, f = some r1 → ∀ (ls : Array Slot) (H : Heap) (locs : List Loc), lv_has ls nL lv → va_P D vwCl (xm_w L g M) H → va_S A s.heap H locs → va_Run p l e R s m args below meth c H locs Fn.2.1 Fn.2.2 mc ms (F0 m pc ls st0) rest (xm_Q D L g (xm_A L g H.size) (xm_Fi g r1) a) (xm_A L g H.size))
    (kk : ∀ (x : Int32) (M1 : xm_M), xm_J p l e R s m args below meth c nL D L g A (Fn.1, Fn.2.1 + mc, Fn.2.2 + ms) (pc + 3) lv (.int x :: rest) M1 (K x M1)) : xm_J p l e R s m args below meth c nL D L g A Fn pc lv st0 M (xm_bi f K) := by
  intro r hr ls H locs hl hP hS
  cases hf : f with
  | none => rw [hf] at hr; cases hr
  | some r1 =>
    rw [hf] at hr
    intro T hT X
    obtain ⟨v, st₀, t, T', L', h0, X', hL, e1, e2, ⟨hv, hP1, hz, hk⟩, stp⟩ := hrun r1 hf ls H locs hl hP hS T hT X
    rw [h0] at hz hk
    cases hv
    obtain ⟨t2, a1, b1⟩ := kk r1.1 r1.2 r hr ls T'.heap (locs ++ L') hl (by rw [e1]; exact hP1)
      ⟨Nat.le_trans hS.1 (by rw [e1]; exact hz), fun q h1 h2 => by rw [e1, hk q (Nat.lt_of_lt_of_le h1 hS.1) (fun z => h2 (xm_sub hX hS q z))]; exact hS.2.1 q h1 h2, fun q hq => by
        rcases List.mem_append.mp hq with h | h
        · exact hS.2.2 q h
        · exact xm_sub hX hS _ (hL q h)⟩ T' rfl X'
    exact ⟨t2, stp t2 a1, b1⟩
end XM
/-! words of a call, out of the one list -/
theorem xm_gS {c0 : Cond} {own : String} {index : Nat} {y : MethodName} {bytes : ByteArray} {maxL : Nat} {rt : Option FieldType} (h1 : Cond.methodLink own index y ∈ lw_gd) (h2 : Cond.static y ∈ lw_gd) (h3 : Cond.initialized y.cls ∈ lw_gd) (h4 : Cond.code y bytes maxL rt ∈ lw_gd) : GoodIn (c0 :: lw_gd) (va_wsS own index y (Cond.code y bytes maxL rt :: lw_gd)) := by
  intro w hw
  have hm : w ∈ lw_gd := by
    rcases List.mem_append.mp hw with h | h
    · rcases List.mem_cons.mp h with rfl | h
      · exact h1
      · rcases List.mem_cons.mp h with rfl | h
        · exact h2
        · rw [List.mem_singleton.mp h]; exact h3
    · rcases List.mem_cons.mp h with rfl | h
      · exact h4
      · exact h
  exact ⟨List.mem_cons_of_mem _ hm, lw_gd_good w hm⟩
theorem xm_gN {c0 : Cond} {y : MethodName} {bytes : ByteArray} {maxL : Nat} {rt : Option FieldType} (h4 : Cond.code y bytes maxL rt ∈ lw_gd) : GoodIn (c0 :: lw_gd) (Cond.code y bytes maxL rt :: lw_gd) := by
  intro w hw
  have hm : w ∈ lw_gd := by
    rcases List.mem_cons.mp hw with rfl | h
    · exact h4
    · exact h
  exact ⟨List.mem_cons_of_mem _ hm, lw_gd_good w hm⟩
theorem xm_gV {c0 : Cond} {own C : String} {index : Nat} {y : MethodName} {bytes : ByteArray} {maxL : Nat} {rt : Option FieldType} (h1 : Cond.methodLink own index y ∈ lw_gd) (h2 : Cond.instanceMethod y ∈ lw_gd) (h3 : Cond.selects C y y ∈ lw_gd) (h0 : Cond.initialized C ∈ lw_gd) (h4 : Cond.code y bytes maxL rt ∈ lw_gd) : GoodIn (c0 :: lw_gd) (wsV own index C y (Cond.code y bytes maxL rt :: lw_gd)) := by
  intro w hw
  have hm : w ∈ lw_gd := by
    rcases List.mem_append.mp hw with h | h
    · rcases List.mem_cons.mp h with rfl | h
      · exact h1
      · rcases List.mem_cons.mp h with rfl | h
        · exact h2
        · rcases List.mem_cons.mp h with rfl | h
          · exact h3
          · rw [List.mem_singleton.mp h]; exact h0
    · rcases List.mem_cons.mp h with rfl | h
      · exact h4
      · exact h
  exact ⟨List.mem_cons_of_mem _ hm, lw_gd_good w hm⟩
