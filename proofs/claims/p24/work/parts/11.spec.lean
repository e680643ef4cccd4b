/-! THE NUMBERS OF THE DOCUMENT, over ints and longs as the machine has them. -/
def sp_NG : Int32 := -1000000006
def sp_w (le ri ba l r : Int32) : Int64 := (ri.toInt64 * r.toInt64 - le.toInt64 * l.toInt64) * 572958 / (1000 * ba.toInt64)
def sp_v (bias t : Int32) : Int64 := (t - bias / 16).toInt64
def sp_ab (x : Int64) : Int64 := if 0 < x then x else -x
def sp_ab32 (x : Int32) : Int32 := if 0 ≤ x then x else 0 - x
def sp_kind (sl : Int32) (w v : Int64) : Int32 := if sl.toInt64 < sp_ab (w - v) then (if w ≤ v then 2 else 3) else 1
def sp_turn (sl tr : Int32) (w v : Int64) : Int32 := if sl.toInt64 < sp_ab (w - v) then v.toInt32 else ((tr.toInt64 * w + (100 - tr).toInt64 * v) / 100).toInt32
def sp_s (ba : Int32) (v : Int64) : Int64 := v * (1000 * ba.toInt64) / 572958
def sp_d (sl ba : Int32) (a b w v : Int64) : Int32 := if sl.toInt64 < sp_ab (w - v) then (if w ≤ v then (((b - sp_s ba v) + b) / 2).toInt32 else ((a + (a + sp_s ba v)) / 2).toInt32) else ((a + b) / 2).toInt32
def sp_mod (x : Int64) : Int64 := x - x / 3600000 * 3600000
def sp_head (x : Int64) : Int32 := if 0 ≤ sp_mod x then (sp_mod x).toInt32 else (sp_mod x + 3600000).toInt32
def sp_half (x : Int32) : Int32 := ((4000000 * (x.toInt64 * (18000 - x).toInt64)) / (405000000 - x.toInt64 * (18000 - x).toInt64)).toInt32
def sp_sin (a : Int32) : Int32 := if 18000 < a then -sp_half (a - 18000) else sp_half a
def sp_mod36 (a : Int32) : Int32 := a - a / 36000 * 36000
def sp_cos (a : Int32) : Int32 := sp_sin (sp_mod36 (a + 9000))
def sp_ang (h turn : Int32) : Int32 := sp_head (h.toInt64 + (turn / 2).toInt64) / 100
def sp_dx (d ang : Int32) : Int32 := (d.toInt64 * (sp_cos ang).toInt64 / 1000000).toInt32
def sp_dy (d ang : Int32) : Int32 := (d.toInt64 * (sp_sin ang).toInt64 / 1000000).toInt32
def sp_rem18 (x : Int32) : Int32 := x - x / 1800000 * 1800000
def sp_off (h dir : Int32) : Int32 := if -900000 ≤ sp_rem18 (h - 100 * dir) then (if sp_rem18 (h - 100 * dir) ≤ 899999 then sp_rem18 (h - 100 * dir) else sp_rem18 (h - 100 * dir) - 1800000) else sp_rem18 (h - 100 * dir) + 1800000
/-- what a way stands on: settings, counts and start, corridors' rows, markers' rows, the log's rows -/
abbrev sV : Type := Nat → Nat → Int32
/-- x, y, heading, way, bias -/
abbrev sP : Type := Int32 × Int32 × Int32 × Int32 × Int32
def sp_near (V : sV) (c : Nat) (x y : Int32) : Prop := (V 2 c - V 0 7 ≤ x / 1000 ∧ x / 1000 ≤ V 3 c + V 0 7) ∧ V 4 c - V 0 7 ≤ y / 1000 ∧ y / 1000 ≤ V 5 c + V 0 7
def sp_pulls (V : sV) (x y h : Int32) (c : Nat) : Prop := sp_near V c x y ∧ sp_ab32 (sp_off h (V 6 c)) ≤ V 0 8
noncomputable def sp_fst (P : Nat → Prop) : Nat → Nat → Option Nat
  | 0, _ => none
  | n + 1, c => @ite _ (P c) (Classical.propDecidable _) (some c) (sp_fst P n (c + 1))
def sp_pl (V : sV) (h : Int32) (c : Nat) : Int32 := sp_off h (V 6 c) * V 0 6 / 100
noncomputable def sp_who (V : sV) (x y h : Int32) : Option Nat := sp_fst (sp_pulls V x y h) (V 1 0).toNatClampNeg 0
/-- the facts of an entry, by the numbers under which they are asked for -/
def sp_row (k0 k1 k2 k3 k4 k5 k6 k7 k8 k9 k10 : Int32) (r : Nat) : Int32 := match r with
  | 0 => k0 | 1 => k1 | 2 => k2 | 3 => k3 | 4 => k4 | 5 => k5 | 6 => k6 | 7 => k7 | 8 => k8 | 9 => k9 | 10 => k10 | _ => 0
def sp_mx (V : sV) (e : Nat) : Int32 := 1000 * V 7 (V 9 e).toNatClampNeg
def sp_my (V : sV) (e : Nat) : Int32 := 1000 * V 8 (V 9 e).toNatClampNeg
def sp_stepW (V : sV) (e : Nat) : Int64 := sp_w (V 0 0) (V 0 1) (V 0 2) (V 10 e) (V 11 e)
def sp_A (V : sV) (e : Nat) : Int64 := (V 0 0).toInt64 * (V 10 e).toInt64
def sp_B (V : sV) (e : Nat) : Int64 := (V 0 1).toInt64 * (V 11 e).toInt64
def sp_T (V : sV) (e : Nat) (bias : Int32) : Int32 := sp_turn (V 0 3) (V 0 4) (sp_stepW V e) (sp_v bias (V 12 e))
def sp_Dd (V : sV) (e : Nat) (bias : Int32) : Int32 := sp_d (V 0 3) (V 0 2) (sp_A V e) (sp_B V e) (sp_stepW V e) (sp_v bias (V 12 e))
def sp_K (V : sV) (e : Nat) (bias : Int32) : Int32 := sp_kind (V 0 3) (sp_stepW V e) (sp_v bias (V 12 e))
/-- x, y, heading, way behind a step, ahead of the corridors' pull -/
def sp_X (V : sV) (e : Nat) (p : sP) : Int32 := p.1 + sp_dx (sp_Dd V e p.2.2.2.2) (sp_ang p.2.2.1 (sp_T V e p.2.2.2.2))
def sp_Y (V : sV) (e : Nat) (p : sP) : Int32 := p.2.1 + sp_dy (sp_Dd V e p.2.2.2.2) (sp_ang p.2.2.1 (sp_T V e p.2.2.2.2))
def sp_H (V : sV) (e : Nat) (p : sP) : Int32 := sp_head (p.2.2.1.toInt64 + (sp_T V e p.2.2.2.2).toInt64)
def sp_L (V : sV) (e : Nat) (p : sP) : Int32 := p.2.2.2.1 + sp_ab32 (sp_Dd V e p.2.2.2.2)
def sp_bias (V : sV) (e : Nat) (bias : Int32) : Int32 := bias + ((16 * V 12 e - bias).toInt64 / (V 0 5).toInt64).toInt32
noncomputable def sp_step (V : sV) (e : Nat) (p : sP) : sP × (Nat → Int32) :=
  if 0 ≤ V 9 e then ((sp_mx V e, sp_my V e, p.2.2.1, p.2.2.2.1, p.2.2.2.2), sp_row 4 (V 9 e) sp_NG sp_NG sp_NG sp_NG sp_NG sp_NG sp_NG (p.1 - sp_mx V e) (p.2.1 - sp_my V e))
  else if V 10 e = 0 ∧ V 11 e = 0 then ((p.1, p.2.1, p.2.2.1, p.2.2.2.1, sp_bias V e p.2.2.2.2), sp_row 0 0 0 (V 12 e) sp_NG sp_NG sp_NG sp_NG sp_NG sp_NG sp_NG)
  else match sp_who V (sp_X V e p) (sp_Y V e p) (sp_H V e p) with
    | none => ((sp_X V e p, sp_Y V e p, sp_H V e p, sp_L V e p, p.2.2.2.2), sp_row (sp_K V e p.2.2.2.2) (V 10 e) (V 11 e) (V 12 e) (sp_stepW V e).toInt32 (sp_T V e p.2.2.2.2) (sp_Dd V e p.2.2.2.2) sp_NG sp_NG sp_NG sp_NG)
    | some c => ((sp_X V e p, sp_Y V e p, sp_head ((sp_H V e p).toInt64 - (sp_pl V (sp_H V e p) c).toInt64), sp_L V e p, p.2.2.2.2), sp_row (sp_K V e p.2.2.2.2) (V 10 e) (V 11 e) (V 12 e) (sp_stepW V e).toInt32 (sp_T V e p.2.2.2.2) (sp_Dd V e p.2.2.2.2) (nI c) (sp_pl V (sp_H V e p) c) sp_NG sp_NG)
def sp_start (V : sV) : sP := (1000 * V 1 3, 1000 * V 1 4, V 1 5, 0, 0)
noncomputable def sp_P (V : sV) : Nat → sP
  | 0 => sp_start V
  | n + 1 => (sp_step V n (sp_P V n)).1
noncomputable def sp_F (V : sV) (e : Nat) : Nat → Int32 := (sp_step V e (sp_P V e)).2
