/-! ===== small methods that ask no heap ===== -/
abbrev kUnder (kind as : Int32) : Prop := as = 0 ∨ kind = as ∨ (as = 2 ∧ kind = 3) ∨ (as = 4 ∧ kind = 5)
theorem s_X9_isWithin {X : kX} {d : Nat} (h : kH) (v0 : Int32) (a0 : Int32) (b0 : Int32) : WP X d 0 0 Y_X9_isWithin 0 [(0, .int (v0)), (1, .int (a0)), (2, .int (b0))] [] h (kR (some (.int (kb (a0.toInt ≤ v0.toInt ∧ v0.toInt ≤ b0.toInt)))) h) := by
  refine wp_iload_n 0 d_X9_isWithin_0 rfl rfl ?_
  refine wp_iload_n 1 d_X9_isWithin_1 rfl rfl ?_
  refine wp_icmp_lt 14 d_X9_isWithin_2 rfl (fun c2 => ?_) (fun c2 => ?_)
  · refine wp_iconst (v0 := 0) d_X9_isWithin_14 rfl ?_
    refine wp_iret d_X9_isWithin_15 rfl k_nar0 ?_
    refine kR_i (Eq.symm (kb_f ?_)) rfl
    simp only [Int32.lt_iff_toInt_lt, Int32.le_iff_toInt_le] at *; omega
  · refine wp_iload_n 0 d_X9_isWithin_5 rfl rfl ?_
    refine wp_iload_n 2 d_X9_isWithin_6 rfl rfl ?_
    refine wp_icmp_gt 14 d_X9_isWithin_7 rfl (fun c7 => ?_) (fun c7 => ?_)
    · refine wp_iconst (v0 := 0) d_X9_isWithin_14 rfl ?_
      refine wp_iret d_X9_isWithin_15 rfl k_nar0 ?_
      refine kR_i (Eq.symm (kb_f ?_)) rfl
      simp only [Int32.lt_iff_toInt_lt, Int32.le_iff_toInt_le] at *; omega
    · refine wp_iconst (v0 := 1) d_X9_isWithin_10 rfl ?_
      refine wp_goto 15 d_X9_isWithin_11 rfl ?_
      refine wp_iret d_X9_isWithin_15 rfl k_nar1 ?_
      refine kR_i (Eq.symm (kb_t ?_)) rfl
      simp only [Int32.lt_iff_toInt_lt, Int32.le_iff_toInt_le] at *; omega
theorem s_X9_isSmall {X : kX} {d : Nat} (h : kH) (v0 : Int32) : WP X (d + 1) 0 0 Y_X9_isSmall 0 [(0, .int (v0))] [] h (kR (some (.int (kb (-9 ≤ v0.toInt ∧ v0.toInt ≤ 9)))) h) := by
  refine wp_iload_n 0 d_X9_isSmall_0 rfl rfl ?_
  refine wp_bipush (v0 := -9) d_X9_isSmall_1 (by decide) ?_
  refine wp_bipush (v0 := 9) d_X9_isSmall_3 (by decide) ?_
  refine wp_stc_i (As := [.int (v0), .int ((-9)), .int (9)]) (x0 := kb ((-9) ≤ (v0 : Int32).toInt ∧ (v0 : Int32).toInt ≤ 9)) (h1 := h) d_X9_isSmall_5 lk_X9_98 mv_X9_isWithin st_X9_isWithin (Nat.le_of_ble_eq_true rfl) (Nat.le_of_ble_eq_true rfl) (s_X9_isWithin _ (v0 : Int32) ((-9) : Int32) (9 : Int32)) ?_
  refine wp_retb d_X9_isSmall_8 rfl ?_
  exact kR_i (kb_iff (by exact Iff.rfl)) rfl
theorem s_X9_isMadeKind {X : kX} {d : Nat} (h : kH) (v0 : Int32) : WP X (d + 1) 0 0 Y_X9_isMadeKind 0 [(0, .int (v0))] [] h (kR (some (.int (kb (1 ≤ v0.toInt ∧ v0.toInt ≤ 5)))) h) := by
  refine wp_iload_n 0 d_X9_isMadeKind_0 rfl rfl ?_
  refine wp_iconst (v0 := 1) d_X9_isMadeKind_1 rfl ?_
  refine wp_iconst (v0 := 5) d_X9_isMadeKind_2 rfl ?_
  refine wp_stc_i (As := [.int (v0), .int (1), .int (5)]) (x0 := kb (1 ≤ (v0 : Int32).toInt ∧ (v0 : Int32).toInt ≤ 5)) (h1 := h) d_X9_isMadeKind_3 lk_X9_98 mv_X9_isWithin st_X9_isWithin (Nat.le_of_ble_eq_true rfl) (Nat.le_of_ble_eq_true rfl) (s_X9_isWithin _ (v0 : Int32) (1 : Int32) (5 : Int32)) ?_
  refine wp_retb d_X9_isMadeKind_6 rfl ?_
  exact kR_i (kb_iff (by exact Iff.rfl)) rfl
theorem s_X9_isTurn {X : kX} {d : Nat} (h : kH) (v0 : Int32) : WP X (d + 1) 0 0 Y_X9_isTurn 0 [(0, .int (v0))] [] h (kR (some (.int (kb (0 ≤ v0.toInt ∧ v0.toInt ≤ 3)))) h) := by
  refine wp_iload_n 0 d_X9_isTurn_0 rfl rfl ?_
  refine wp_iconst (v0 := 0) d_X9_isTurn_1 rfl ?_
  refine wp_iconst (v0 := 3) d_X9_isTurn_2 rfl ?_
  refine wp_stc_i (As := [.int (v0), .int (0), .int (3)]) (x0 := kb (0 ≤ (v0 : Int32).toInt ∧ (v0 : Int32).toInt ≤ 3)) (h1 := h) d_X9_isTurn_3 lk_X9_98 mv_X9_isWithin st_X9_isWithin (Nat.le_of_ble_eq_true rfl) (Nat.le_of_ble_eq_true rfl) (s_X9_isWithin _ (v0 : Int32) (0 : Int32) (3 : Int32)) ?_
  refine wp_retb d_X9_isTurn_6 rfl ?_
  exact kR_i (kb_iff (by exact Iff.rfl)) rfl
theorem s_X9_isPut {X : kX} {d : Nat} (h : kH) (v0 : Int32) : WP X (d + 1) 0 0 Y_X9_isPut 0 [(0, .int (v0))] [] h (kR (some (.int (kb (1 ≤ v0.toInt ∧ v0.toInt ≤ 3)))) h) := by
  refine wp_iload_n 0 d_X9_isPut_0 rfl rfl ?_
  refine wp_iconst (v0 := 1) d_X9_isPut_1 rfl ?_
  refine wp_iconst (v0 := 3) d_X9_isPut_2 rfl ?_
  refine wp_stc_i (As := [.int (v0), .int (1), .int (3)]) (x0 := kb (1 ≤ (v0 : Int32).toInt ∧ (v0 : Int32).toInt ≤ 3)) (h1 := h) d_X9_isPut_3 lk_X9_98 mv_X9_isWithin st_X9_isWithin (Nat.le_of_ble_eq_true rfl) (Nat.le_of_ble_eq_true rfl) (s_X9_isWithin _ (v0 : Int32) (1 : Int32) (3 : Int32)) ?_
  refine wp_retb d_X9_isPut_6 rfl ?_
  exact kR_i (kb_iff (by exact Iff.rfl)) rfl
theorem s_X9_isSheet {X : kX} {d : Nat} (h : kH) (v0 : Int32) : WP X (d + 1) 0 0 Y_X9_isSheet 0 [(0, .int (v0))] [] h (kR (some (.int (kb (0 ≤ v0.toInt ∧ v0.toInt ≤ 3)))) h) := by
  refine wp_iload_n 0 d_X9_isSheet_0 rfl rfl ?_
  refine wp_iconst (v0 := 0) d_X9_isSheet_1 rfl ?_
  refine wp_iconst (v0 := 3) d_X9_isSheet_2 rfl ?_
  refine wp_stc_i (As := [.int (v0), .int (0), .int (3)]) (x0 := kb (0 ≤ (v0 : Int32).toInt ∧ (v0 : Int32).toInt ≤ 3)) (h1 := h) d_X9_isSheet_3 lk_X9_98 mv_X9_isWithin st_X9_isWithin (Nat.le_of_ble_eq_true rfl) (Nat.le_of_ble_eq_true rfl) (s_X9_isWithin _ (v0 : Int32) (0 : Int32) (3 : Int32)) ?_
  refine wp_retb d_X9_isSheet_6 rfl ?_
  exact kR_i (kb_iff (by exact Iff.rfl)) rfl
theorem s_X9_isShelf {X : kX} {d : Nat} (h : kH) (v0 : Int32) : WP X (d + 1) 0 0 Y_X9_isShelf 0 [(0, .int (v0))] [] h (kR (some (.int (kb (0 ≤ v0.toInt ∧ v0.toInt ≤ 3)))) h) := by
  refine wp_iload_n 0 d_X9_isShelf_0 rfl rfl ?_
  refine wp_iconst (v0 := 0) d_X9_isShelf_1 rfl ?_
  refine wp_iconst (v0 := 3) d_X9_isShelf_2 rfl ?_
  refine wp_stc_i (As := [.int (v0), .int (0), .int (3)]) (x0 := kb (0 ≤ (v0 : Int32).toInt ∧ (v0 : Int32).toInt ≤ 3)) (h1 := h) d_X9_isShelf_3 lk_X9_98 mv_X9_isWithin st_X9_isWithin (Nat.le_of_ble_eq_true rfl) (Nat.le_of_ble_eq_true rfl) (s_X9_isWithin _ (v0 : Int32) (0 : Int32) (3 : Int32)) ?_
  refine wp_retb d_X9_isShelf_6 rfl ?_
  exact kR_i (kb_iff (by exact Iff.rfl)) rfl
theorem s_X9_isSort {X : kX} {d : Nat} (h : kH) (v0 : Int32) : WP X (d + 1) 0 0 Y_X9_isSort 0 [(0, .int (v0))] [] h (kR (some (.int (kb (0 ≤ v0.toInt ∧ v0.toInt ≤ 4)))) h) := by
  refine wp_iload_n 0 d_X9_isSort_0 rfl rfl ?_
  refine wp_iconst (v0 := 0) d_X9_isSort_1 rfl ?_
  refine wp_iconst (v0 := 4) d_X9_isSort_2 rfl ?_
  refine wp_stc_i (As := [.int (v0), .int (0), .int (4)]) (x0 := kb (0 ≤ (v0 : Int32).toInt ∧ (v0 : Int32).toInt ≤ 4)) (h1 := h) d_X9_isSort_3 lk_X9_98 mv_X9_isWithin st_X9_isWithin (Nat.le_of_ble_eq_true rfl) (Nat.le_of_ble_eq_true rfl) (s_X9_isWithin _ (v0 : Int32) (0 : Int32) (4 : Int32)) ?_
  refine wp_retb d_X9_isSort_6 rfl ?_
  exact kR_i (kb_iff (by exact Iff.rfl)) rfl
