/-- what the cells of this world are -/
def cL : List xm_Sh := [.inr (.inr (3, [(2, 1), (2, 17), (2, 33), (2, 49), (2, 69), (2, 72)])), .inr (.inr (1, [(2, 2), (2, 3), (2, 9), (2, 12), (0, 0), (0, 0), (0, 0), (0, 0), (0, 0), (0, 0), (0, 0)])), .inl (0, .int, 9), .inr (.inl (5, 4)), .inl (0, .int, 8), .inl (0, .int, 8), .inl (0, .int, 8), .inl (0, .int, 8), .inl (0, .int, 8), .inr (.inl (2, 10)), .inl (0, .int, 6), .inl (0, .int, 6), .inr (.inl (4, 13)), .inl (0, .int, 120), .inl (0, .int, 120), .inl (0, .int, 120), .inl (0, .int, 120), .inr (.inr (1, [(2, 18), (2, 19), (2, 25), (2, 28), (0, 0), (0, 0), (0, 0), (0, 0), (0, 0), (0, 0), (0, 0)])), .inl (0, .int, 9), .inr (.inl (5, 20)), .inl (0, .int, 8), .inl (0, .int, 8), .inl (0, .int, 8), .inl (0, .int, 8), .inl (0, .int, 8), .inr (.inl (2, 26)), .inl (0, .int, 6), .inl (0, .int, 6), .inr (.inl (4, 29)), .inl (0, .int, 120), .inl (0, .int, 120), .inl (0, .int, 120), .inl (0, .int, 120), .inr (.inr (1, [(2, 34), (2, 35), (2, 41), (2, 44), (0, 0), (0, 0), (0, 0), (0, 0), (0, 0), (0, 0), (0, 0)])), .inl (0, .int, 9), .inr (.inl (5, 36)), .inl (0, .int, 8), .inl (0, .int, 8), .inl (0, .int, 8), .inl (0, .int, 8), .inl (0, .int, 8), .inr (.inl (2, 42)), .inl (0, .int, 6), .inl (0, .int, 6), .inr (.inl (4, 45)), .inl (0, .int, 120), .inl (0, .int, 120), .inl (0, .int, 120), .inl (0, .int, 120), .inr (.inr (2, [(2, 50), (2, 56), (2, 68), (0, 0), (0, 0), (0, 0), (0, 0), (0, 0), (0, 0), (1, 0), (0, 0), (0, 0)])), .inr (.inl (5, 51)), .inl (0, .int, 121), .inl (0, .int, 121), .inl (0, .int, 121), .inl (0, .int, 121), .inl (0, .int, 121), .inr (.inl (11, 57)), .inl (0, .int, 120), .inl (0, .int, 120), .inl (0, .int, 120), .inl (0, .int, 120), .inl (0, .int, 120), .inl (0, .int, 120), .inl (0, .int, 120), .inl (0, .int, 120), .inl (0, .int, 120), .inl (0, .int, 120), .inl (0, .int, 120), .inl (0, .int, 5), .inr (.inr (0, [(2, 70), (0, 0), (0, 0), (0, 0), (2, 71)])), .inl (0, .int, 100), .inl (0, .int, 3), .inl (0, .int, 9)]
theorem cL_0 : cL[0]? = some (.inr (.inr (3, [(2, 1), (2, 17), (2, 33), (2, 49), (2, 69), (2, 72)]))) := rfl
theorem cL_1 : cL[1]? = some (.inr (.inr (1, [(2, 2), (2, 3), (2, 9), (2, 12), (0, 0), (0, 0), (0, 0), (0, 0), (0, 0), (0, 0), (0, 0)]))) := rfl
theorem cL_2 : cL[2]? = some (.inl (0, .int, 9)) := rfl
theorem cL_3 : cL[3]? = some (.inr (.inl (5, 4))) := rfl
theorem cL_rows_3 : ∀ i, i < 5 → cL[4 + i]? = some (.inl (0, .int, 8)) := fun i hi => match i, hi with
  | 0, _ => rfl
  | 1, _ => rfl
  | 2, _ => rfl
  | 3, _ => rfl
  | 4, _ => rfl
  | i + 5, h => absurd h (by omega)
theorem cL_4 : cL[4]? = some (.inl (0, .int, 8)) := rfl
theorem cL_5 : cL[5]? = some (.inl (0, .int, 8)) := rfl
theorem cL_6 : cL[6]? = some (.inl (0, .int, 8)) := rfl
theorem cL_7 : cL[7]? = some (.inl (0, .int, 8)) := rfl
theorem cL_8 : cL[8]? = some (.inl (0, .int, 8)) := rfl
theorem cL_9 : cL[9]? = some (.inr (.inl (2, 10))) := rfl
theorem cL_rows_9 : ∀ i, i < 2 → cL[10 + i]? = some (.inl (0, .int, 6)) := fun i hi => match i, hi with
  | 0, _ => rfl
  | 1, _ => rfl
  | i + 2, h => absurd h (by omega)
theorem cL_10 : cL[10]? = some (.inl (0, .int, 6)) := rfl
theorem cL_11 : cL[11]? = some (.inl (0, .int, 6)) := rfl
theorem cL_12 : cL[12]? = some (.inr (.inl (4, 13))) := rfl
theorem cL_rows_12 : ∀ i, i < 4 → cL[13 + i]? = some (.inl (0, .int, 120)) := fun i hi => match i, hi with
  | 0, _ => rfl
  | 1, _ => rfl
  | 2, _ => rfl
  | 3, _ => rfl
  | i + 4, h => absurd h (by omega)
theorem cL_13 : cL[13]? = some (.inl (0, .int, 120)) := rfl
theorem cL_14 : cL[14]? = some (.inl (0, .int, 120)) := rfl
theorem cL_15 : cL[15]? = some (.inl (0, .int, 120)) := rfl
theorem cL_16 : cL[16]? = some (.inl (0, .int, 120)) := rfl
theorem cL_17 : cL[17]? = some (.inr (.inr (1, [(2, 18), (2, 19), (2, 25), (2, 28), (0, 0), (0, 0), (0, 0), (0, 0), (0, 0), (0, 0), (0, 0)]))) := rfl
theorem cL_18 : cL[18]? = some (.inl (0, .int, 9)) := rfl
theorem cL_19 : cL[19]? = some (.inr (.inl (5, 20))) := rfl
theorem cL_rows_19 : ∀ i, i < 5 → cL[20 + i]? = some (.inl (0, .int, 8)) := fun i hi => match i, hi with
  | 0, _ => rfl
  | 1, _ => rfl
  | 2, _ => rfl
  | 3, _ => rfl
  | 4, _ => rfl
  | i + 5, h => absurd h (by omega)
theorem cL_20 : cL[20]? = some (.inl (0, .int, 8)) := rfl
theorem cL_21 : cL[21]? = some (.inl (0, .int, 8)) := rfl
theorem cL_22 : cL[22]? = some (.inl (0, .int, 8)) := rfl
theorem cL_23 : cL[23]? = some (.inl (0, .int, 8)) := rfl
theorem cL_24 : cL[24]? = some (.inl (0, .int, 8)) := rfl
theorem cL_25 : cL[25]? = some (.inr (.inl (2, 26))) := rfl
theorem cL_rows_25 : ∀ i, i < 2 → cL[26 + i]? = some (.inl (0, .int, 6)) := fun i hi => match i, hi with
  | 0, _ => rfl
  | 1, _ => rfl
  | i + 2, h => absurd h (by omega)
theorem cL_26 : cL[26]? = some (.inl (0, .int, 6)) := rfl
theorem cL_27 : cL[27]? = some (.inl (0, .int, 6)) := rfl
theorem cL_28 : cL[28]? = some (.inr (.inl (4, 29))) := rfl
theorem cL_rows_28 : ∀ i, i < 4 → cL[29 + i]? = some (.inl (0, .int, 120)) := fun i hi => match i, hi with
  | 0, _ => rfl
  | 1, _ => rfl
  | 2, _ => rfl
  | 3, _ => rfl
  | i + 4, h => absurd h (by omega)
theorem cL_29 : cL[29]? = some (.inl (0, .int, 120)) := rfl
theorem cL_30 : cL[30]? = some (.inl (0, .int, 120)) := rfl
theorem cL_31 : cL[31]? = some (.inl (0, .int, 120)) := rfl
theorem cL_32 : cL[32]? = some (.inl (0, .int, 120)) := rfl
theorem cL_33 : cL[33]? = some (.inr (.inr (1, [(2, 34), (2, 35), (2, 41), (2, 44), (0, 0), (0, 0), (0, 0), (0, 0), (0, 0), (0, 0), (0, 0)]))) := rfl
theorem cL_34 : cL[34]? = some (.inl (0, .int, 9)) := rfl
theorem cL_35 : cL[35]? = some (.inr (.inl (5, 36))) := rfl
theorem cL_rows_35 : ∀ i, i < 5 → cL[36 + i]? = some (.inl (0, .int, 8)) := fun i hi => match i, hi with
  | 0, _ => rfl
  | 1, _ => rfl
  | 2, _ => rfl
  | 3, _ => rfl
  | 4, _ => rfl
  | i + 5, h => absurd h (by omega)
theorem cL_36 : cL[36]? = some (.inl (0, .int, 8)) := rfl
theorem cL_37 : cL[37]? = some (.inl (0, .int, 8)) := rfl
theorem cL_38 : cL[38]? = some (.inl (0, .int, 8)) := rfl
theorem cL_39 : cL[39]? = some (.inl (0, .int, 8)) := rfl
theorem cL_40 : cL[40]? = some (.inl (0, .int, 8)) := rfl
theorem cL_41 : cL[41]? = some (.inr (.inl (2, 42))) := rfl
theorem cL_rows_41 : ∀ i, i < 2 → cL[42 + i]? = some (.inl (0, .int, 6)) := fun i hi => match i, hi with
  | 0, _ => rfl
  | 1, _ => rfl
  | i + 2, h => absurd h (by omega)
theorem cL_42 : cL[42]? = some (.inl (0, .int, 6)) := rfl
theorem cL_43 : cL[43]? = some (.inl (0, .int, 6)) := rfl
theorem cL_44 : cL[44]? = some (.inr (.inl (4, 45))) := rfl
theorem cL_rows_44 : ∀ i, i < 4 → cL[45 + i]? = some (.inl (0, .int, 120)) := fun i hi => match i, hi with
  | 0, _ => rfl
  | 1, _ => rfl
  | 2, _ => rfl
  | 3, _ => rfl
  | i + 4, h => absurd h (by omega)
theorem cL_45 : cL[45]? = some (.inl (0, .int, 120)) := rfl
theorem cL_46 : cL[46]? = some (.inl (0, .int, 120)) := rfl
theorem cL_47 : cL[47]? = some (.inl (0, .int, 120)) := rfl
theorem cL_48 : cL[48]? = some (.inl (0, .int, 120)) := rfl
theorem cL_49 : cL[49]? = some (.inr (.inr (2, [(2, 50), (2, 56), (2, 68), (0, 0), (0, 0), (0, 0), (0, 0), (0, 0), (0, 0), (1, 0), (0, 0), (0, 0)]))) := rfl
theorem cL_50 : cL[50]? = some (.inr (.inl (5, 51))) := rfl
theorem cL_rows_50 : ∀ i, i < 5 → cL[51 + i]? = some (.inl (0, .int, 121)) := fun i hi => match i, hi with
  | 0, _ => rfl
  | 1, _ => rfl
  | 2, _ => rfl
  | 3, _ => rfl
  | 4, _ => rfl
  | i + 5, h => absurd h (by omega)
theorem cL_51 : cL[51]? = some (.inl (0, .int, 121)) := rfl
theorem cL_52 : cL[52]? = some (.inl (0, .int, 121)) := rfl
theorem cL_53 : cL[53]? = some (.inl (0, .int, 121)) := rfl
theorem cL_54 : cL[54]? = some (.inl (0, .int, 121)) := rfl
theorem cL_55 : cL[55]? = some (.inl (0, .int, 121)) := rfl
theorem cL_56 : cL[56]? = some (.inr (.inl (11, 57))) := rfl
theorem cL_rows_56 : ∀ i, i < 11 → cL[57 + i]? = some (.inl (0, .int, 120)) := fun i hi => match i, hi with
  | 0, _ => rfl
  | 1, _ => rfl
  | 2, _ => rfl
  | 3, _ => rfl
  | 4, _ => rfl
  | 5, _ => rfl
  | 6, _ => rfl
  | 7, _ => rfl
  | 8, _ => rfl
  | 9, _ => rfl
  | 10, _ => rfl
  | i + 11, h => absurd h (by omega)
theorem cL_57 : cL[57]? = some (.inl (0, .int, 120)) := rfl
theorem cL_58 : cL[58]? = some (.inl (0, .int, 120)) := rfl
theorem cL_59 : cL[59]? = some (.inl (0, .int, 120)) := rfl
theorem cL_60 : cL[60]? = some (.inl (0, .int, 120)) := rfl
theorem cL_61 : cL[61]? = some (.inl (0, .int, 120)) := rfl
theorem cL_62 : cL[62]? = some (.inl (0, .int, 120)) := rfl
theorem cL_63 : cL[63]? = some (.inl (0, .int, 120)) := rfl
theorem cL_64 : cL[64]? = some (.inl (0, .int, 120)) := rfl
theorem cL_65 : cL[65]? = some (.inl (0, .int, 120)) := rfl
theorem cL_66 : cL[66]? = some (.inl (0, .int, 120)) := rfl
theorem cL_67 : cL[67]? = some (.inl (0, .int, 120)) := rfl
theorem cL_68 : cL[68]? = some (.inl (0, .int, 5)) := rfl
theorem cL_69 : cL[69]? = some (.inr (.inr (0, [(2, 70), (0, 0), (0, 0), (0, 0), (2, 71)]))) := rfl
theorem cL_70 : cL[70]? = some (.inl (0, .int, 100)) := rfl
theorem cL_71 : cL[71]? = some (.inl (0, .int, 3)) := rfl
theorem cL_72 : cL[72]? = some (.inl (0, .int, 9)) := rfl
/-- a world that begins so -/
def xm_pre (L : List xm_Sh) : Prop := ∀ (k : Nat) (sh : xm_Sh), cL[k]? = some sh → L[k]? = some sh
theorem cL_pre : xm_pre cL := fun _ _ h => h
theorem cL_rowsL_3 {L : List xm_Sh} (hL : xm_pre L) : ∀ i, i < 5 → L[4 + i]? = some (.inl (0, .int, 8)) := fun i hi => hL _ _ (cL_rows_3 i hi)
theorem cL_rowsL_9 {L : List xm_Sh} (hL : xm_pre L) : ∀ i, i < 2 → L[10 + i]? = some (.inl (0, .int, 6)) := fun i hi => hL _ _ (cL_rows_9 i hi)
theorem cL_rowsL_12 {L : List xm_Sh} (hL : xm_pre L) : ∀ i, i < 4 → L[13 + i]? = some (.inl (0, .int, 120)) := fun i hi => hL _ _ (cL_rows_12 i hi)
theorem cL_rowsL_19 {L : List xm_Sh} (hL : xm_pre L) : ∀ i, i < 5 → L[20 + i]? = some (.inl (0, .int, 8)) := fun i hi => hL _ _ (cL_rows_19 i hi)
theorem cL_rowsL_25 {L : List xm_Sh} (hL : xm_pre L) : ∀ i, i < 2 → L[26 + i]? = some (.inl (0, .int, 6)) := fun i hi => hL _ _ (cL_rows_25 i hi)
theorem cL_rowsL_28 {L : List xm_Sh} (hL : xm_pre L) : ∀ i, i < 4 → L[29 + i]? = some (.inl (0, .int, 120)) := fun i hi => hL _ _ (cL_rows_28 i hi)
theorem cL_rowsL_35 {L : List xm_Sh} (hL : xm_pre L) : ∀ i, i < 5 → L[36 + i]? = some (.inl (0, .int, 8)) := fun i hi => hL _ _ (cL_rows_35 i hi)
theorem cL_rowsL_41 {L : List xm_Sh} (hL : xm_pre L) : ∀ i, i < 2 → L[42 + i]? = some (.inl (0, .int, 6)) := fun i hi => hL _ _ (cL_rows_41 i hi)
theorem cL_rowsL_44 {L : List xm_Sh} (hL : xm_pre L) : ∀ i, i < 4 → L[45 + i]? = some (.inl (0, .int, 120)) := fun i hi => hL _ _ (cL_rows_44 i hi)
theorem cL_rowsL_50 {L : List xm_Sh} (hL : xm_pre L) : ∀ i, i < 5 → L[51 + i]? = some (.inl (0, .int, 121)) := fun i hi => hL _ _ (cL_rows_50 i hi)
theorem cL_rowsL_56 {L : List xm_Sh} (hL : xm_pre L) : ∀ i, i < 11 → L[57 + i]? = some (.inl (0, .int, 120)) := fun i hi => hL _ _ (cL_rows_56 i hi)
/-- the same with a row of five more -/
def cLw : List xm_Sh := cL ++ [.inl (0, .int, 5)]
theorem cLw_pre : xm_pre cLw := fun k sh h => by
  have hk := (List.getElem?_eq_some_iff.mp h).1
  unfold cLw
  rw [List.getElem?_append_left hk]
  exact h
theorem cLw_73 : cLw[73]? = some (.inl (0, .int, 5)) := rfl
