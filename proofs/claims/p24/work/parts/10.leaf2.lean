theorem px_fI_0 {e : Nat} (he : e < 120) (M : xm_M) : fX3_item_ 56 11 57 120 0 (nI e) M = some (M.1 57 e, M) := by
  rw [px_item_ (px_kl (by decide)) (by decide) (px_kn he (by decide)) (by decide), nI_clamp (by omega)]
  rfl
theorem px_fK_0 {e : Nat} (he : e < 120) (v : Int32) (M : xm_M) : fX3_keep_ 56 11 57 120 0 (nI e) v M = some (xm_s M 57 e v) := by
  rw [px_keep_ (px_kl (by decide)) (by decide) (px_kn he (by decide)) (by decide), nI_clamp (by omega)]
  rfl
theorem px_fI_1 {e : Nat} (he : e < 120) (M : xm_M) : fX3_item_ 56 11 57 120 1 (nI e) M = some (M.1 58 e, M) := by
  rw [px_item_ (px_kl (by decide)) (by decide) (px_kn he (by decide)) (by decide), nI_clamp (by omega)]
  rfl
theorem px_fK_1 {e : Nat} (he : e < 120) (v : Int32) (M : xm_M) : fX3_keep_ 56 11 57 120 1 (nI e) v M = some (xm_s M 58 e v) := by
  rw [px_keep_ (px_kl (by decide)) (by decide) (px_kn he (by decide)) (by decide), nI_clamp (by omega)]
  rfl
theorem px_fI_2 {e : Nat} (he : e < 120) (M : xm_M) : fX3_item_ 56 11 57 120 2 (nI e) M = some (M.1 59 e, M) := by
  rw [px_item_ (px_kl (by decide)) (by decide) (px_kn he (by decide)) (by decide), nI_clamp (by omega)]
  rfl
theorem px_fK_2 {e : Nat} (he : e < 120) (v : Int32) (M : xm_M) : fX3_keep_ 56 11 57 120 2 (nI e) v M = some (xm_s M 59 e v) := by
  rw [px_keep_ (px_kl (by decide)) (by decide) (px_kn he (by decide)) (by decide), nI_clamp (by omega)]
  rfl
theorem px_fI_3 {e : Nat} (he : e < 120) (M : xm_M) : fX3_item_ 56 11 57 120 3 (nI e) M = some (M.1 60 e, M) := by
  rw [px_item_ (px_kl (by decide)) (by decide) (px_kn he (by decide)) (by decide), nI_clamp (by omega)]
  rfl
theorem px_fK_3 {e : Nat} (he : e < 120) (v : Int32) (M : xm_M) : fX3_keep_ 56 11 57 120 3 (nI e) v M = some (xm_s M 60 e v) := by
  rw [px_keep_ (px_kl (by decide)) (by decide) (px_kn he (by decide)) (by decide), nI_clamp (by omega)]
  rfl
theorem px_fI_4 {e : Nat} (he : e < 120) (M : xm_M) : fX3_item_ 56 11 57 120 4 (nI e) M = some (M.1 61 e, M) := by
  rw [px_item_ (px_kl (by decide)) (by decide) (px_kn he (by decide)) (by decide), nI_clamp (by omega)]
  rfl
theorem px_fK_4 {e : Nat} (he : e < 120) (v : Int32) (M : xm_M) : fX3_keep_ 56 11 57 120 4 (nI e) v M = some (xm_s M 61 e v) := by
  rw [px_keep_ (px_kl (by decide)) (by decide) (px_kn he (by decide)) (by decide), nI_clamp (by omega)]
  rfl
theorem px_fI_5 {e : Nat} (he : e < 120) (M : xm_M) : fX3_item_ 56 11 57 120 5 (nI e) M = some (M.1 62 e, M) := by
  rw [px_item_ (px_kl (by decide)) (by decide) (px_kn he (by decide)) (by decide), nI_clamp (by omega)]
  rfl
theorem px_fK_5 {e : Nat} (he : e < 120) (v : Int32) (M : xm_M) : fX3_keep_ 56 11 57 120 5 (nI e) v M = some (xm_s M 62 e v) := by
  rw [px_keep_ (px_kl (by decide)) (by decide) (px_kn he (by decide)) (by decide), nI_clamp (by omega)]
  rfl
theorem px_fI_6 {e : Nat} (he : e < 120) (M : xm_M) : fX3_item_ 56 11 57 120 6 (nI e) M = some (M.1 63 e, M) := by
  rw [px_item_ (px_kl (by decide)) (by decide) (px_kn he (by decide)) (by decide), nI_clamp (by omega)]
  rfl
theorem px_fK_6 {e : Nat} (he : e < 120) (v : Int32) (M : xm_M) : fX3_keep_ 56 11 57 120 6 (nI e) v M = some (xm_s M 63 e v) := by
  rw [px_keep_ (px_kl (by decide)) (by decide) (px_kn he (by decide)) (by decide), nI_clamp (by omega)]
  rfl
theorem px_fI_7 {e : Nat} (he : e < 120) (M : xm_M) : fX3_item_ 56 11 57 120 7 (nI e) M = some (M.1 64 e, M) := by
  rw [px_item_ (px_kl (by decide)) (by decide) (px_kn he (by decide)) (by decide), nI_clamp (by omega)]
  rfl
theorem px_fK_7 {e : Nat} (he : e < 120) (v : Int32) (M : xm_M) : fX3_keep_ 56 11 57 120 7 (nI e) v M = some (xm_s M 64 e v) := by
  rw [px_keep_ (px_kl (by decide)) (by decide) (px_kn he (by decide)) (by decide), nI_clamp (by omega)]
  rfl
theorem px_fI_8 {e : Nat} (he : e < 120) (M : xm_M) : fX3_item_ 56 11 57 120 8 (nI e) M = some (M.1 65 e, M) := by
  rw [px_item_ (px_kl (by decide)) (by decide) (px_kn he (by decide)) (by decide), nI_clamp (by omega)]
  rfl
theorem px_fK_8 {e : Nat} (he : e < 120) (v : Int32) (M : xm_M) : fX3_keep_ 56 11 57 120 8 (nI e) v M = some (xm_s M 65 e v) := by
  rw [px_keep_ (px_kl (by decide)) (by decide) (px_kn he (by decide)) (by decide), nI_clamp (by omega)]
  rfl
theorem px_fI_9 {e : Nat} (he : e < 120) (M : xm_M) : fX3_item_ 56 11 57 120 9 (nI e) M = some (M.1 66 e, M) := by
  rw [px_item_ (px_kl (by decide)) (by decide) (px_kn he (by decide)) (by decide), nI_clamp (by omega)]
  rfl
theorem px_fK_9 {e : Nat} (he : e < 120) (v : Int32) (M : xm_M) : fX3_keep_ 56 11 57 120 9 (nI e) v M = some (xm_s M 66 e v) := by
  rw [px_keep_ (px_kl (by decide)) (by decide) (px_kn he (by decide)) (by decide), nI_clamp (by omega)]
  rfl
theorem px_fI_10 {e : Nat} (he : e < 120) (M : xm_M) : fX3_item_ 56 11 57 120 10 (nI e) M = some (M.1 67 e, M) := by
  rw [px_item_ (px_kl (by decide)) (by decide) (px_kn he (by decide)) (by decide), nI_clamp (by omega)]
  rfl
theorem px_fK_10 {e : Nat} (he : e < 120) (v : Int32) (M : xm_M) : fX3_keep_ 56 11 57 120 10 (nI e) v M = some (xm_s M 67 e v) := by
  rw [px_keep_ (px_kl (by decide)) (by decide) (px_kn he (by decide)) (by decide), nI_clamp (by omega)]
  rfl
theorem px_pI_0 {e : Nat} (he : e < 121) (M : xm_M) : fX3_item_ 50 5 51 121 0 (nI e) M = some (M.1 51 e, M) := by
  rw [px_item_ (px_kl (by decide)) (by decide) (px_kn he (by decide)) (by decide), nI_clamp (by omega)]
  rfl
theorem px_pK_0 {e : Nat} (he : e < 121) (v : Int32) (M : xm_M) : fX3_keep_ 50 5 51 121 0 (nI e) v M = some (xm_s M 51 e v) := by
  rw [px_keep_ (px_kl (by decide)) (by decide) (px_kn he (by decide)) (by decide), nI_clamp (by omega)]
  rfl
theorem px_pI_1 {e : Nat} (he : e < 121) (M : xm_M) : fX3_item_ 50 5 51 121 1 (nI e) M = some (M.1 52 e, M) := by
  rw [px_item_ (px_kl (by decide)) (by decide) (px_kn he (by decide)) (by decide), nI_clamp (by omega)]
  rfl
theorem px_pK_1 {e : Nat} (he : e < 121) (v : Int32) (M : xm_M) : fX3_keep_ 50 5 51 121 1 (nI e) v M = some (xm_s M 52 e v) := by
  rw [px_keep_ (px_kl (by decide)) (by decide) (px_kn he (by decide)) (by decide), nI_clamp (by omega)]
  rfl
theorem px_pI_2 {e : Nat} (he : e < 121) (M : xm_M) : fX3_item_ 50 5 51 121 2 (nI e) M = some (M.1 53 e, M) := by
  rw [px_item_ (px_kl (by decide)) (by decide) (px_kn he (by decide)) (by decide), nI_clamp (by omega)]
  rfl
theorem px_pK_2 {e : Nat} (he : e < 121) (v : Int32) (M : xm_M) : fX3_keep_ 50 5 51 121 2 (nI e) v M = some (xm_s M 53 e v) := by
  rw [px_keep_ (px_kl (by decide)) (by decide) (px_kn he (by decide)) (by decide), nI_clamp (by omega)]
  rfl
theorem px_pI_3 {e : Nat} (he : e < 121) (M : xm_M) : fX3_item_ 50 5 51 121 3 (nI e) M = some (M.1 54 e, M) := by
  rw [px_item_ (px_kl (by decide)) (by decide) (px_kn he (by decide)) (by decide), nI_clamp (by omega)]
  rfl
theorem px_pK_3 {e : Nat} (he : e < 121) (v : Int32) (M : xm_M) : fX3_keep_ 50 5 51 121 3 (nI e) v M = some (xm_s M 54 e v) := by
  rw [px_keep_ (px_kl (by decide)) (by decide) (px_kn he (by decide)) (by decide), nI_clamp (by omega)]
  rfl
theorem px_pI_4 {e : Nat} (he : e < 121) (M : xm_M) : fX3_item_ 50 5 51 121 4 (nI e) M = some (M.1 55 e, M) := by
  rw [px_item_ (px_kl (by decide)) (by decide) (px_kn he (by decide)) (by decide), nI_clamp (by omega)]
  rfl
theorem px_pK_4 {e : Nat} (he : e < 121) (v : Int32) (M : xm_M) : fX3_keep_ 50 5 51 121 4 (nI e) v M = some (xm_s M 55 e v) := by
  rw [px_keep_ (px_kl (by decide)) (by decide) (px_kn he (by decide)) (by decide), nI_clamp (by omega)]
  rfl
theorem px_lI_0 {e : Nat} (he : e < 120) (M : xm_M) : fX3_item_ 12 4 13 120 0 (nI e) M = some (M.1 13 e, M) := by
  rw [px_item_ (px_kl (by decide)) (by decide) (px_kn he (by decide)) (by decide), nI_clamp (by omega)]
  rfl
theorem px_lK_0 {e : Nat} (he : e < 120) (v : Int32) (M : xm_M) : fX3_keep_ 12 4 13 120 0 (nI e) v M = some (xm_s M 13 e v) := by
  rw [px_keep_ (px_kl (by decide)) (by decide) (px_kn he (by decide)) (by decide), nI_clamp (by omega)]
  rfl
theorem px_lI_1 {e : Nat} (he : e < 120) (M : xm_M) : fX3_item_ 12 4 13 120 1 (nI e) M = some (M.1 14 e, M) := by
  rw [px_item_ (px_kl (by decide)) (by decide) (px_kn he (by decide)) (by decide), nI_clamp (by omega)]
  rfl
theorem px_lK_1 {e : Nat} (he : e < 120) (v : Int32) (M : xm_M) : fX3_keep_ 12 4 13 120 1 (nI e) v M = some (xm_s M 14 e v) := by
  rw [px_keep_ (px_kl (by decide)) (by decide) (px_kn he (by decide)) (by decide), nI_clamp (by omega)]
  rfl
theorem px_lI_2 {e : Nat} (he : e < 120) (M : xm_M) : fX3_item_ 12 4 13 120 2 (nI e) M = some (M.1 15 e, M) := by
  rw [px_item_ (px_kl (by decide)) (by decide) (px_kn he (by decide)) (by decide), nI_clamp (by omega)]
  rfl
theorem px_lK_2 {e : Nat} (he : e < 120) (v : Int32) (M : xm_M) : fX3_keep_ 12 4 13 120 2 (nI e) v M = some (xm_s M 15 e v) := by
  rw [px_keep_ (px_kl (by decide)) (by decide) (px_kn he (by decide)) (by decide), nI_clamp (by omega)]
  rfl
theorem px_lI_3 {e : Nat} (he : e < 120) (M : xm_M) : fX3_item_ 12 4 13 120 3 (nI e) M = some (M.1 16 e, M) := by
  rw [px_item_ (px_kl (by decide)) (by decide) (px_kn he (by decide)) (by decide), nI_clamp (by omega)]
  rfl
theorem px_lK_3 {e : Nat} (he : e < 120) (v : Int32) (M : xm_M) : fX3_keep_ 12 4 13 120 3 (nI e) v M = some (xm_s M 16 e v) := by
  rw [px_keep_ (px_kl (by decide)) (by decide) (px_kn he (by decide)) (by decide), nI_clamp (by omega)]
  rfl
theorem px_cI_0 {e : Nat} (he : e < 8) (M : xm_M) : fX3_item_ 3 5 4 8 0 (nI e) M = some (M.1 4 e, M) := by
  rw [px_item_ (px_kl (by decide)) (by decide) (px_kn he (by decide)) (by decide), nI_clamp (by omega)]
  rfl
theorem px_cK_0 {e : Nat} (he : e < 8) (v : Int32) (M : xm_M) : fX3_keep_ 3 5 4 8 0 (nI e) v M = some (xm_s M 4 e v) := by
  rw [px_keep_ (px_kl (by decide)) (by decide) (px_kn he (by decide)) (by decide), nI_clamp (by omega)]
  rfl
theorem px_cI_1 {e : Nat} (he : e < 8) (M : xm_M) : fX3_item_ 3 5 4 8 1 (nI e) M = some (M.1 5 e, M) := by
  rw [px_item_ (px_kl (by decide)) (by decide) (px_kn he (by decide)) (by decide), nI_clamp (by omega)]
  rfl
theorem px_cK_1 {e : Nat} (he : e < 8) (v : Int32) (M : xm_M) : fX3_keep_ 3 5 4 8 1 (nI e) v M = some (xm_s M 5 e v) := by
  rw [px_keep_ (px_kl (by decide)) (by decide) (px_kn he (by decide)) (by decide), nI_clamp (by omega)]
  rfl
theorem px_cI_2 {e : Nat} (he : e < 8) (M : xm_M) : fX3_item_ 3 5 4 8 2 (nI e) M = some (M.1 6 e, M) := by
  rw [px_item_ (px_kl (by decide)) (by decide) (px_kn he (by decide)) (by decide), nI_clamp (by omega)]
  rfl
theorem px_cK_2 {e : Nat} (he : e < 8) (v : Int32) (M : xm_M) : fX3_keep_ 3 5 4 8 2 (nI e) v M = some (xm_s M 6 e v) := by
  rw [px_keep_ (px_kl (by decide)) (by decide) (px_kn he (by decide)) (by decide), nI_clamp (by omega)]
  rfl
theorem px_cI_3 {e : Nat} (he : e < 8) (M : xm_M) : fX3_item_ 3 5 4 8 3 (nI e) M = some (M.1 7 e, M) := by
  rw [px_item_ (px_kl (by decide)) (by decide) (px_kn he (by decide)) (by decide), nI_clamp (by omega)]
  rfl
theorem px_cK_3 {e : Nat} (he : e < 8) (v : Int32) (M : xm_M) : fX3_keep_ 3 5 4 8 3 (nI e) v M = some (xm_s M 7 e v) := by
  rw [px_keep_ (px_kl (by decide)) (by decide) (px_kn he (by decide)) (by decide), nI_clamp (by omega)]
  rfl
theorem px_cI_4 {e : Nat} (he : e < 8) (M : xm_M) : fX3_item_ 3 5 4 8 4 (nI e) M = some (M.1 8 e, M) := by
  rw [px_item_ (px_kl (by decide)) (by decide) (px_kn he (by decide)) (by decide), nI_clamp (by omega)]
  rfl
theorem px_cK_4 {e : Nat} (he : e < 8) (v : Int32) (M : xm_M) : fX3_keep_ 3 5 4 8 4 (nI e) v M = some (xm_s M 8 e v) := by
  rw [px_keep_ (px_kl (by decide)) (by decide) (px_kn he (by decide)) (by decide), nI_clamp (by omega)]
  rfl
theorem px_mI_0 {e : Nat} (he : e < 6) (M : xm_M) : fX3_item_ 9 2 10 6 0 (nI e) M = some (M.1 10 e, M) := by
  rw [px_item_ (px_kl (by decide)) (by decide) (px_kn he (by decide)) (by decide), nI_clamp (by omega)]
  rfl
theorem px_mK_0 {e : Nat} (he : e < 6) (v : Int32) (M : xm_M) : fX3_keep_ 9 2 10 6 0 (nI e) v M = some (xm_s M 10 e v) := by
  rw [px_keep_ (px_kl (by decide)) (by decide) (px_kn he (by decide)) (by decide), nI_clamp (by omega)]
  rfl
theorem px_mI_1 {e : Nat} (he : e < 6) (M : xm_M) : fX3_item_ 9 2 10 6 1 (nI e) M = some (M.1 11 e, M) := by
  rw [px_item_ (px_kl (by decide)) (by decide) (px_kn he (by decide)) (by decide), nI_clamp (by omega)]
  rfl
theorem px_mK_1 {e : Nat} (he : e < 6) (v : Int32) (M : xm_M) : fX3_keep_ 9 2 10 6 1 (nI e) v M = some (xm_s M 11 e v) := by
  rw [px_keep_ (px_kl (by decide)) (by decide) (px_kn he (by decide)) (by decide), nI_clamp (by omega)]
  rfl
theorem px_sI_0 (ps : Nat) (M : xm_M) : fX3_item ps 9 0 M = some (M.1 ps 0, M) := by
  rw [px_item (px_kl (by decide)) (by decide)]
  rfl
theorem px_sI_1 (ps : Nat) (M : xm_M) : fX3_item ps 9 1 M = some (M.1 ps 1, M) := by
  rw [px_item (px_kl (by decide)) (by decide)]
  rfl
theorem px_sI_2 (ps : Nat) (M : xm_M) : fX3_item ps 9 2 M = some (M.1 ps 2, M) := by
  rw [px_item (px_kl (by decide)) (by decide)]
  rfl
theorem px_sI_3 (ps : Nat) (M : xm_M) : fX3_item ps 9 3 M = some (M.1 ps 3, M) := by
  rw [px_item (px_kl (by decide)) (by decide)]
  rfl
theorem px_sI_4 (ps : Nat) (M : xm_M) : fX3_item ps 9 4 M = some (M.1 ps 4, M) := by
  rw [px_item (px_kl (by decide)) (by decide)]
  rfl
theorem px_sI_5 (ps : Nat) (M : xm_M) : fX3_item ps 9 5 M = some (M.1 ps 5, M) := by
  rw [px_item (px_kl (by decide)) (by decide)]
  rfl
theorem px_sI_6 (ps : Nat) (M : xm_M) : fX3_item ps 9 6 M = some (M.1 ps 6, M) := by
  rw [px_item (px_kl (by decide)) (by decide)]
  rfl
theorem px_sI_7 (ps : Nat) (M : xm_M) : fX3_item ps 9 7 M = some (M.1 ps 7, M) := by
  rw [px_item (px_kl (by decide)) (by decide)]
  rfl
theorem px_sI_8 (ps : Nat) (M : xm_M) : fX3_item ps 9 8 M = some (M.1 ps 8, M) := by
  rw [px_item (px_kl (by decide)) (by decide)]
  rfl
theorem px_kI_0 (M : xm_M) : fX3_item 68 5 0 M = some (M.1 68 0, M) := by
  rw [px_item (px_kl (by decide)) (by decide)]
  rfl
theorem px_KK_0 {e : Nat} (he : e < 120) (M : xm_M) : fX2_keepKind (nI e) 0 M = some (xm_s (xm_s M 57 e 0) 68 0 (M.1 68 0 + 1)) := by
  rw [px_keepKind he (px_kl (by decide))]
  rfl
theorem px_kI_1 (M : xm_M) : fX3_item 68 5 1 M = some (M.1 68 1, M) := by
  rw [px_item (px_kl (by decide)) (by decide)]
  rfl
theorem px_KK_1 {e : Nat} (he : e < 120) (M : xm_M) : fX2_keepKind (nI e) 1 M = some (xm_s (xm_s M 57 e 1) 68 1 (M.1 68 1 + 1)) := by
  rw [px_keepKind he (px_kl (by decide))]
  rfl
theorem px_kI_2 (M : xm_M) : fX3_item 68 5 2 M = some (M.1 68 2, M) := by
  rw [px_item (px_kl (by decide)) (by decide)]
  rfl
theorem px_KK_2 {e : Nat} (he : e < 120) (M : xm_M) : fX2_keepKind (nI e) 2 M = some (xm_s (xm_s M 57 e 2) 68 2 (M.1 68 2 + 1)) := by
  rw [px_keepKind he (px_kl (by decide))]
  rfl
theorem px_kI_3 (M : xm_M) : fX3_item 68 5 3 M = some (M.1 68 3, M) := by
  rw [px_item (px_kl (by decide)) (by decide)]
  rfl
theorem px_KK_3 {e : Nat} (he : e < 120) (M : xm_M) : fX2_keepKind (nI e) 3 M = some (xm_s (xm_s M 57 e 3) 68 3 (M.1 68 3 + 1)) := by
  rw [px_keepKind he (px_kl (by decide))]
  rfl
theorem px_kI_4 (M : xm_M) : fX3_item 68 5 4 M = some (M.1 68 4, M) := by
  rw [px_item (px_kl (by decide)) (by decide)]
  rfl
theorem px_KK_4 {e : Nat} (he : e < 120) (M : xm_M) : fX2_keepKind (nI e) 4 M = some (xm_s (xm_s M 57 e 4) 68 4 (M.1 68 4 + 1)) := by
  rw [px_keepKind he (px_kl (by decide))]
  rfl
