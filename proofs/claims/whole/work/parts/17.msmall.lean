/-! ===== the reference: small methods ===== -/
theorem s_X10_in {X : kX} {d : Nat} (h : kH) (v0 : Int64) (a0 : Int64) (b0 : Int64) : WP X d 0 0 Y_X10_in 0 [(0, .long (v0)), (2, .long (a0)), (4, .long (b0))] [] h (kR (some (.int (kb (a0.toInt ≤ v0.toInt ∧ v0.toInt ≤ b0.toInt)))) h) := by
  refine wp_lload_n 0 d_X10_in_0 rfl rfl ?_
  refine wp_lload_n 1 d_X10_in_1 rfl rfl ?_
  refine wp_lcmp d_X10_in_2 ?_
  refine wp_if_lt 17 d_X10_in_3 rfl (fun c3 => ?_) (fun c3 => ?_)
  · refine wp_iconst (v0 := 0) d_X10_in_17 rfl ?_
    refine wp_iret d_X10_in_18 rfl k_nar0 ?_
    refine kR_i (Eq.symm (kb_f ?_)) rfl
    simp only [lg_cmp_lt, lg_cmp_gt, Int64.lt_iff_toInt_lt, Int64.le_iff_toInt_le] at *; omega
  · refine wp_lload_n 0 d_X10_in_6 rfl rfl ?_
    refine wp_lload 2 d_X10_in_7 rfl ?_
    refine wp_lcmp d_X10_in_9 ?_
    refine wp_if_gt 17 d_X10_in_10 rfl (fun c10 => ?_) (fun c10 => ?_)
    · refine wp_iconst (v0 := 0) d_X10_in_17 rfl ?_
      refine wp_iret d_X10_in_18 rfl k_nar0 ?_
      refine kR_i (Eq.symm (kb_f ?_)) rfl
      simp only [lg_cmp_lt, lg_cmp_gt, Int64.lt_iff_toInt_lt, Int64.le_iff_toInt_le] at *; omega
    · refine wp_iconst (v0 := 1) d_X10_in_13 rfl ?_
      refine wp_goto 18 d_X10_in_14 rfl ?_
      refine wp_iret d_X10_in_18 rfl k_nar1 ?_
      refine kR_i (Eq.symm (kb_t ?_)) rfl
      simp only [lg_cmp_lt, lg_cmp_gt, Int64.lt_iff_toInt_lt, Int64.le_iff_toInt_le] at *; omega
theorem s_X10_in_i {X : kX} {d : Nat} (h : kH) (v0 : Int32) (a0 b0 : Int64) : WP X d 0 0 Y_X10_in 0 [(0, .long v0.toInt64), (2, .long a0), (4, .long b0)] [] h (kR (some (.int (kb (a0.toInt ≤ v0.toInt ∧ v0.toInt ≤ b0.toInt)))) h) := by
  have K := s_X10_in (X := X) (d := d) h v0.toInt64 a0 b0
  rw [kb_iff (show (a0.toInt ≤ v0.toInt64.toInt ∧ v0.toInt64.toInt ≤ b0.toInt) ↔ (a0.toInt ≤ v0.toInt ∧ v0.toInt ≤ b0.toInt) by rw [Int32.toInt_toInt64])] at K
  exact K
theorem s_X10_in_j {X : kX} {d : Nat} (h : kH) (v0 : Int32) (a0 : Int64) (b0 : Int32) : WP X d 0 0 Y_X10_in 0 [(0, .long v0.toInt64), (2, .long a0), (4, .long b0.toInt64)] [] h (kR (some (.int (kb (a0.toInt ≤ v0.toInt ∧ v0.toInt ≤ b0.toInt)))) h) := by
  have K := s_X10_in_i (X := X) (d := d) h v0 a0 b0.toInt64
  rw [kb_iff (show (a0.toInt ≤ v0.toInt ∧ v0.toInt ≤ b0.toInt64.toInt) ↔ (a0.toInt ≤ v0.toInt ∧ v0.toInt ≤ b0.toInt) by rw [Int32.toInt_toInt64])] at K
  exact K
theorem s_X10_isKind {X : kX} {d : Nat} (h : kH) (v0 : Int32) : WP X (d + 1) 0 0 Y_X10_isKind 0 [(0, .int (v0))] [] h (kR (some (.int (kb (1 ≤ v0.toInt ∧ v0.toInt ≤ 5)))) h) := by
  refine wp_iload_n 0 d_X10_isKind_0 rfl rfl ?_
  refine wp_i2l d_X10_isKind_1 ?_
  refine wp_lconst (v0 := 1) d_X10_isKind_2 rfl ?_
  refine wp_ldc2 (v0 := 5) d_X10_isKind_3 cl_X10_82 ?_
  refine wp_stc_i (As := [.long (Int32.toInt64 (v0)), .long (1), .long (5)]) (x0 := kb (1 ≤ (v0 : Int32).toInt ∧ (v0 : Int32).toInt ≤ 5)) (h1 := h) d_X10_isKind_6 lk_X10_74 mv_X10_in st_X10_in (Nat.le_of_ble_eq_true rfl) (Nat.le_of_ble_eq_true rfl) (s_X10_in_i _ (v0) (1) (5)) ?_
  refine wp_retb d_X10_isKind_9 rfl ?_
  exact kR_i (kb_iff (by exact Iff.rfl)) rfl
theorem s_X10_isHeight {X : kX} {d : Nat} (h : kH) (v0 : Int32) : WP X (d + 1) 0 0 Y_X10_isHeight 0 [(0, .int (v0))] [] h (kR (some (.int (kb (-9 ≤ v0.toInt ∧ v0.toInt ≤ 9)))) h) := by
  refine wp_iload_n 0 d_X10_isHeight_0 rfl rfl ?_
  refine wp_i2l d_X10_isHeight_1 ?_
  refine wp_ldc2 (v0 := -9) d_X10_isHeight_2 cl_X10_84 ?_
  refine wp_ldc2 (v0 := 9) d_X10_isHeight_5 cl_X10_86 ?_
  refine wp_stc_i (As := [.long (Int32.toInt64 (v0)), .long ((-9)), .long (9)]) (x0 := kb ((-9) ≤ (v0 : Int32).toInt ∧ (v0 : Int32).toInt ≤ 9)) (h1 := h) d_X10_isHeight_8 lk_X10_74 mv_X10_in st_X10_in (Nat.le_of_ble_eq_true rfl) (Nat.le_of_ble_eq_true rfl) (s_X10_in_i _ (v0) ((-9)) (9)) ?_
  refine wp_retb d_X10_isHeight_11 rfl ?_
  exact kR_i (kb_iff (by exact Iff.rfl)) rfl
theorem s_X10_isTurn {X : kX} {d : Nat} (h : kH) (v0 : Int32) : WP X (d + 1) 0 0 Y_X10_isTurn 0 [(0, .int (v0))] [] h (kR (some (.int (kb (0 ≤ v0.toInt ∧ v0.toInt ≤ 3)))) h) := by
  refine wp_iload_n 0 d_X10_isTurn_0 rfl rfl ?_
  refine wp_i2l d_X10_isTurn_1 ?_
  refine wp_lconst (v0 := 0) d_X10_isTurn_2 rfl ?_
  refine wp_ldc2 (v0 := 3) d_X10_isTurn_3 cl_X10_127 ?_
  refine wp_stc_i (As := [.long (Int32.toInt64 (v0)), .long (0), .long (3)]) (x0 := kb (0 ≤ (v0 : Int32).toInt ∧ (v0 : Int32).toInt ≤ 3)) (h1 := h) d_X10_isTurn_6 lk_X10_74 mv_X10_in st_X10_in (Nat.le_of_ble_eq_true rfl) (Nat.le_of_ble_eq_true rfl) (s_X10_in_i _ (v0) (0) (3)) ?_
  refine wp_retb d_X10_isTurn_9 rfl ?_
  exact kR_i (kb_iff (by exact Iff.rfl)) rfl
theorem s_X10_isMany {X : kX} {d : Nat} (h : kH) (v0 : Int32) : WP X (d + 1) 0 0 Y_X10_isMany 0 [(0, .int (v0))] [] h (kR (some (.int (kb (1 ≤ v0.toInt ∧ v0.toInt ≤ 3)))) h) := by
  refine wp_iload_n 0 d_X10_isMany_0 rfl rfl ?_
  refine wp_i2l d_X10_isMany_1 ?_
  refine wp_lconst (v0 := 1) d_X10_isMany_2 rfl ?_
  refine wp_ldc2 (v0 := 3) d_X10_isMany_3 cl_X10_127 ?_
  refine wp_stc_i (As := [.long (Int32.toInt64 (v0)), .long (1), .long (3)]) (x0 := kb (1 ≤ (v0 : Int32).toInt ∧ (v0 : Int32).toInt ≤ 3)) (h1 := h) d_X10_isMany_6 lk_X10_74 mv_X10_in st_X10_in (Nat.le_of_ble_eq_true rfl) (Nat.le_of_ble_eq_true rfl) (s_X10_in_i _ (v0) (1) (3)) ?_
  refine wp_retb d_X10_isMany_9 rfl ?_
  exact kR_i (kb_iff (by exact Iff.rfl)) rfl
theorem s_X10_isOne {X : kX} {d : Nat} (h : kH) (v0 : Int32) : WP X (d + 1) 0 0 Y_X10_isOne 0 [(0, .int (v0))] [] h (kR (some (.int (kb (0 ≤ v0.toInt ∧ v0.toInt ≤ 3)))) h) := by
  refine wp_iload_n 0 d_X10_isOne_0 rfl rfl ?_
  refine wp_i2l d_X10_isOne_1 ?_
  refine wp_lconst (v0 := 0) d_X10_isOne_2 rfl ?_
  refine wp_ldc2 (v0 := 3) d_X10_isOne_3 cl_X10_127 ?_
  refine wp_stc_i (As := [.long (Int32.toInt64 (v0)), .long (0), .long (3)]) (x0 := kb (0 ≤ (v0 : Int32).toInt ∧ (v0 : Int32).toInt ≤ 3)) (h1 := h) d_X10_isOne_6 lk_X10_74 mv_X10_in st_X10_in (Nat.le_of_ble_eq_true rfl) (Nat.le_of_ble_eq_true rfl) (s_X10_in_i _ (v0) (0) (3)) ?_
  refine wp_retb d_X10_isOne_9 rfl ?_
  exact kR_i (kb_iff (by exact Iff.rfl)) rfl
theorem s_X10_isLetter {X : kX} {d : Nat} (h : kH) (v0 : Int32) : WP X (d + 1) 0 0 Y_X10_isLetter 0 [(0, .int (v0))] [] h (kR (some (.int (kb (97 ≤ v0.toInt ∧ v0.toInt ≤ 122)))) h) := by
  refine wp_iload_n 0 d_X10_isLetter_0 rfl rfl ?_
  refine wp_i2l d_X10_isLetter_1 ?_
  refine wp_ldc2 (v0 := 97) d_X10_isLetter_2 cl_X10_280 ?_
  refine wp_ldc2 (v0 := 122) d_X10_isLetter_5 cl_X10_282 ?_
  refine wp_stc_i (As := [.long (Int32.toInt64 (v0)), .long (97), .long (122)]) (x0 := kb (97 ≤ (v0 : Int32).toInt ∧ (v0 : Int32).toInt ≤ 122)) (h1 := h) d_X10_isLetter_8 lk_X10_74 mv_X10_in st_X10_in (Nat.le_of_ble_eq_true rfl) (Nat.le_of_ble_eq_true rfl) (s_X10_in_i _ (v0) (97) (122)) ?_
  refine wp_retb d_X10_isLetter_11 rfl ?_
  exact kR_i (kb_iff (by exact Iff.rfl)) rfl
theorem s_X10_isDigit {X : kX} {d : Nat} (h : kH) (v0 : Int32) : WP X (d + 1) 0 0 Y_X10_isDigit 0 [(0, .int (v0))] [] h (kR (some (.int (kb (48 ≤ v0.toInt ∧ v0.toInt ≤ 57)))) h) := by
  refine wp_iload_n 0 d_X10_isDigit_0 rfl rfl ?_
  refine wp_i2l d_X10_isDigit_1 ?_
  refine wp_ldc2 (v0 := 48) d_X10_isDigit_2 cl_X10_284 ?_
  refine wp_ldc2 (v0 := 57) d_X10_isDigit_5 cl_X10_286 ?_
  refine wp_stc_i (As := [.long (Int32.toInt64 (v0)), .long (48), .long (57)]) (x0 := kb (48 ≤ (v0 : Int32).toInt ∧ (v0 : Int32).toInt ≤ 57)) (h1 := h) d_X10_isDigit_8 lk_X10_74 mv_X10_in st_X10_in (Nat.le_of_ble_eq_true rfl) (Nat.le_of_ble_eq_true rfl) (s_X10_in_i _ (v0) (48) (57)) ?_
  refine wp_retb d_X10_isDigit_11 rfl ?_
  exact kR_i (kb_iff (by exact Iff.rfl)) rfl
theorem s_X10_isUnder {X : kX} {d : Nat} (h : kH) (v0 : Int32) (a0 : Int32) : WP X d 0 0 Y_X10_isUnder 0 [(0, .int (v0)), (1, .int (a0))] [] h (kR (some (.int (kb (kUnder v0 a0)))) h) := by
  refine wp_iload_n 1 d_X10_isUnder_0 rfl rfl ?_
  refine wp_if_eq 29 d_X10_isUnder_1 rfl (fun c1 => ?_) (fun c1 => ?_)
  · refine wp_iconst (v0 := 1) d_X10_isUnder_29 rfl ?_
    refine wp_goto 34 d_X10_isUnder_30 rfl ?_
    refine wp_iret d_X10_isUnder_34 rfl k_nar1 ?_
    refine kR_i (Eq.symm (kb_t ?_)) rfl
    simp_all [kUnder]
  · refine wp_iload_n 0 d_X10_isUnder_4 rfl rfl ?_
    refine wp_iload_n 1 d_X10_isUnder_5 rfl rfl ?_
    refine wp_icmp_eq 29 d_X10_isUnder_6 rfl (fun c6 => ?_) (fun c6 => ?_)
    · refine wp_iconst (v0 := 1) d_X10_isUnder_29 rfl ?_
      refine wp_goto 34 d_X10_isUnder_30 rfl ?_
      refine wp_iret d_X10_isUnder_34 rfl k_nar1 ?_
      refine kR_i (Eq.symm (kb_t ?_)) rfl
      simp_all [kUnder]
    · refine wp_iload_n 1 d_X10_isUnder_9 rfl rfl ?_
      refine wp_iconst (v0 := 2) d_X10_isUnder_10 rfl ?_
      refine wp_icmp_ne 19 d_X10_isUnder_11 rfl (fun c11 => ?_) (fun c11 => ?_)
      · refine wp_iload_n 1 d_X10_isUnder_19 rfl rfl ?_
        refine wp_iconst (v0 := 4) d_X10_isUnder_20 rfl ?_
        refine wp_icmp_ne 33 d_X10_isUnder_21 rfl (fun c21 => ?_) (fun c21 => ?_)
        · refine wp_iconst (v0 := 0) d_X10_isUnder_33 rfl ?_
          refine wp_iret d_X10_isUnder_34 rfl k_nar0 ?_
          refine kR_i (Eq.symm (kb_f ?_)) rfl
          simp_all [kUnder]
        · refine wp_iload_n 0 d_X10_isUnder_24 rfl rfl ?_
          refine wp_iconst (v0 := 5) d_X10_isUnder_25 rfl ?_
          refine wp_icmp_ne 33 d_X10_isUnder_26 rfl (fun c26 => ?_) (fun c26 => ?_)
          · refine wp_iconst (v0 := 0) d_X10_isUnder_33 rfl ?_
            refine wp_iret d_X10_isUnder_34 rfl k_nar0 ?_
            refine kR_i (Eq.symm (kb_f ?_)) rfl
            simp_all [kUnder]
          · refine wp_iconst (v0 := 1) d_X10_isUnder_29 rfl ?_
            refine wp_goto 34 d_X10_isUnder_30 rfl ?_
            refine wp_iret d_X10_isUnder_34 rfl k_nar1 ?_
            refine kR_i (Eq.symm (kb_t ?_)) rfl
            simp_all [kUnder]
      · refine wp_iload_n 0 d_X10_isUnder_14 rfl rfl ?_
        refine wp_iconst (v0 := 3) d_X10_isUnder_15 rfl ?_
        refine wp_icmp_eq 29 d_X10_isUnder_16 rfl (fun c16 => ?_) (fun c16 => ?_)
        · refine wp_iconst (v0 := 1) d_X10_isUnder_29 rfl ?_
          refine wp_goto 34 d_X10_isUnder_30 rfl ?_
          refine wp_iret d_X10_isUnder_34 rfl k_nar1 ?_
          refine kR_i (Eq.symm (kb_t ?_)) rfl
          simp_all [kUnder]
        · refine wp_iload_n 1 d_X10_isUnder_19 rfl rfl ?_
          refine wp_iconst (v0 := 4) d_X10_isUnder_20 rfl ?_
          refine wp_icmp_ne 33 d_X10_isUnder_21 rfl (fun c21 => ?_) (fun c21 => ?_)
          · refine wp_iconst (v0 := 0) d_X10_isUnder_33 rfl ?_
            refine wp_iret d_X10_isUnder_34 rfl k_nar0 ?_
            refine kR_i (Eq.symm (kb_f ?_)) rfl
            simp_all [kUnder]
          · refine wp_iload_n 0 d_X10_isUnder_24 rfl rfl ?_
            refine wp_iconst (v0 := 5) d_X10_isUnder_25 rfl ?_
            refine wp_icmp_ne 33 d_X10_isUnder_26 rfl (fun c26 => ?_) (fun c26 => ?_)
            · refine wp_iconst (v0 := 0) d_X10_isUnder_33 rfl ?_
              refine wp_iret d_X10_isUnder_34 rfl k_nar0 ?_
              refine kR_i (Eq.symm (kb_f ?_)) rfl
              simp_all [kUnder]
            · refine wp_iconst (v0 := 1) d_X10_isUnder_29 rfl ?_
              refine wp_goto 34 d_X10_isUnder_30 rfl ?_
              refine wp_iret d_X10_isUnder_34 rfl k_nar1 ?_
              refine kR_i (Eq.symm (kb_t ?_)) rfl
              simp_all [kUnder]
theorem s_X10_isPart {X : kX} {d : Nat} (h : kH) (v0 : Int32) (x0 : Int32) : WP X (d + 1) 0 0 Y_X10_isPart 0 [(0, .int (v0)), (1, .int (x0))] [] h (kR (some (.int (kb (((v0 = 1 ∨ v0 = 2) ∧ -9 ≤ x0.toInt ∧ x0.toInt ≤ 9) ∨ (v0 = 3 ∧ 1 ≤ x0.toInt ∧ x0.toInt ≤ 999))))) h) := by
  refine wp_iload_n 0 d_X10_isPart_0 rfl rfl ?_
  refine wp_iconst (v0 := 1) d_X10_isPart_1 rfl ?_
  refine wp_icmp_eq 10 d_X10_isPart_2 rfl (fun c2 => ?_) (fun c2 => ?_)
  · refine wp_iload_n 1 d_X10_isPart_10 rfl rfl ?_
    refine wp_i2l d_X10_isPart_11 ?_
    refine wp_ldc2 (v0 := -9) d_X10_isPart_12 cl_X10_84 ?_
    refine wp_ldc2 (v0 := 9) d_X10_isPart_15 cl_X10_86 ?_
    refine wp_stc_i (As := [.long (Int32.toInt64 (x0)), .long ((-9)), .long (9)]) (x0 := kb ((-9) ≤ (x0 : Int32).toInt ∧ (x0 : Int32).toInt ≤ 9)) (h1 := h) d_X10_isPart_18 lk_X10_74 mv_X10_in st_X10_in (Nat.le_of_ble_eq_true rfl) (Nat.le_of_ble_eq_true rfl) (s_X10_in_i _ (x0) ((-9)) (9)) ?_
    refine wp_ifb_ne 41 d_X10_isPart_21 rfl (fun c21 => ?_) (fun c21 => ?_)
    · refine wp_iconst (v0 := 1) d_X10_isPart_41 rfl ?_
      refine wp_goto 46 d_X10_isPart_42 rfl ?_
      refine wp_iret d_X10_isPart_46 rfl k_nar1 ?_
      refine kR_i (Eq.symm (kb_t ?_)) rfl
      first | exact Or.inl ⟨Or.inl (by assumption), by assumption⟩ | exact Or.inl ⟨Or.inr (by assumption), by assumption⟩ | exact Or.inr ⟨by assumption, by assumption⟩
    · refine wp_iload_n 0 d_X10_isPart_24 rfl rfl ?_
      refine wp_iconst (v0 := 3) d_X10_isPart_25 rfl ?_
      refine wp_icmp_ne 45 d_X10_isPart_26 rfl (fun c26 => ?_) (fun c26 => ?_)
      · refine wp_iconst (v0 := 0) d_X10_isPart_45 rfl ?_
        refine wp_iret d_X10_isPart_46 rfl k_nar0 ?_
        refine kR_i (Eq.symm (kb_f ?_)) rfl
        rintro (⟨q1 | q1, q2⟩ | ⟨q1, q2⟩)
        all_goals first | contradiction | (subst q1; simp_all; done) | (simp_all; omega)
      · refine wp_iload_n 1 d_X10_isPart_29 rfl rfl ?_
        refine wp_i2l d_X10_isPart_30 ?_
        refine wp_lconst (v0 := 1) d_X10_isPart_31 rfl ?_
        refine wp_ldc2 (v0 := 999) d_X10_isPart_32 cl_X10_88 ?_
        refine wp_stc_i (As := [.long (Int32.toInt64 (x0)), .long (1), .long (999)]) (x0 := kb (1 ≤ (x0 : Int32).toInt ∧ (x0 : Int32).toInt ≤ 999)) (h1 := h) d_X10_isPart_35 lk_X10_74 mv_X10_in st_X10_in (Nat.le_of_ble_eq_true rfl) (Nat.le_of_ble_eq_true rfl) (s_X10_in_i _ (x0) (1) (999)) ?_
        refine wp_ifb_eq 45 d_X10_isPart_38 rfl (fun c38 => ?_) (fun c38 => ?_)
        · refine wp_iconst (v0 := 0) d_X10_isPart_45 rfl ?_
          refine wp_iret d_X10_isPart_46 rfl k_nar0 ?_
          refine kR_i (Eq.symm (kb_f ?_)) rfl
          rintro (⟨q1 | q1, q2⟩ | ⟨q1, q2⟩)
          all_goals first | contradiction | (subst q1; simp_all; done) | (simp_all; omega)
        · refine wp_iconst (v0 := 1) d_X10_isPart_41 rfl ?_
          refine wp_goto 46 d_X10_isPart_42 rfl ?_
          refine wp_iret d_X10_isPart_46 rfl k_nar1 ?_
          refine kR_i (Eq.symm (kb_t ?_)) rfl
          first | exact Or.inl ⟨Or.inl (by assumption), by assumption⟩ | exact Or.inl ⟨Or.inr (by assumption), by assumption⟩ | exact Or.inr ⟨by assumption, by assumption⟩
  · refine wp_iload_n 0 d_X10_isPart_5 rfl rfl ?_
    refine wp_iconst (v0 := 2) d_X10_isPart_6 rfl ?_
    refine wp_icmp_ne 24 d_X10_isPart_7 rfl (fun c7 => ?_) (fun c7 => ?_)
    · refine wp_iload_n 0 d_X10_isPart_24 rfl rfl ?_
      refine wp_iconst (v0 := 3) d_X10_isPart_25 rfl ?_
      refine wp_icmp_ne 45 d_X10_isPart_26 rfl (fun c26 => ?_) (fun c26 => ?_)
      · refine wp_iconst (v0 := 0) d_X10_isPart_45 rfl ?_
        refine wp_iret d_X10_isPart_46 rfl k_nar0 ?_
        refine kR_i (Eq.symm (kb_f ?_)) rfl
        rintro (⟨q1 | q1, q2⟩ | ⟨q1, q2⟩)
        all_goals first | contradiction | (subst q1; simp_all; done) | (simp_all; omega)
      · refine wp_iload_n 1 d_X10_isPart_29 rfl rfl ?_
        refine wp_i2l d_X10_isPart_30 ?_
        refine wp_lconst (v0 := 1) d_X10_isPart_31 rfl ?_
        refine wp_ldc2 (v0 := 999) d_X10_isPart_32 cl_X10_88 ?_
        refine wp_stc_i (As := [.long (Int32.toInt64 (x0)), .long (1), .long (999)]) (x0 := kb (1 ≤ (x0 : Int32).toInt ∧ (x0 : Int32).toInt ≤ 999)) (h1 := h) d_X10_isPart_35 lk_X10_74 mv_X10_in st_X10_in (Nat.le_of_ble_eq_true rfl) (Nat.le_of_ble_eq_true rfl) (s_X10_in_i _ (x0) (1) (999)) ?_
        refine wp_ifb_eq 45 d_X10_isPart_38 rfl (fun c38 => ?_) (fun c38 => ?_)
        · refine wp_iconst (v0 := 0) d_X10_isPart_45 rfl ?_
          refine wp_iret d_X10_isPart_46 rfl k_nar0 ?_
          refine kR_i (Eq.symm (kb_f ?_)) rfl
          rintro (⟨q1 | q1, q2⟩ | ⟨q1, q2⟩)
          all_goals first | contradiction | (subst q1; simp_all; done) | (simp_all; omega)
        · refine wp_iconst (v0 := 1) d_X10_isPart_41 rfl ?_
          refine wp_goto 46 d_X10_isPart_42 rfl ?_
          refine wp_iret d_X10_isPart_46 rfl k_nar1 ?_
          refine kR_i (Eq.symm (kb_t ?_)) rfl
          first | exact Or.inl ⟨Or.inl (by assumption), by assumption⟩ | exact Or.inl ⟨Or.inr (by assumption), by assumption⟩ | exact Or.inr ⟨by assumption, by assumption⟩
    · refine wp_iload_n 1 d_X10_isPart_10 rfl rfl ?_
      refine wp_i2l d_X10_isPart_11 ?_
      refine wp_ldc2 (v0 := -9) d_X10_isPart_12 cl_X10_84 ?_
      refine wp_ldc2 (v0 := 9) d_X10_isPart_15 cl_X10_86 ?_
      refine wp_stc_i (As := [.long (Int32.toInt64 (x0)), .long ((-9)), .long (9)]) (x0 := kb ((-9) ≤ (x0 : Int32).toInt ∧ (x0 : Int32).toInt ≤ 9)) (h1 := h) d_X10_isPart_18 lk_X10_74 mv_X10_in st_X10_in (Nat.le_of_ble_eq_true rfl) (Nat.le_of_ble_eq_true rfl) (s_X10_in_i _ (x0) ((-9)) (9)) ?_
      refine wp_ifb_ne 41 d_X10_isPart_21 rfl (fun c21 => ?_) (fun c21 => ?_)
      · refine wp_iconst (v0 := 1) d_X10_isPart_41 rfl ?_
        refine wp_goto 46 d_X10_isPart_42 rfl ?_
        refine wp_iret d_X10_isPart_46 rfl k_nar1 ?_
        refine kR_i (Eq.symm (kb_t ?_)) rfl
        first | exact Or.inl ⟨Or.inl (by assumption), by assumption⟩ | exact Or.inl ⟨Or.inr (by assumption), by assumption⟩ | exact Or.inr ⟨by assumption, by assumption⟩
      · refine wp_iload_n 0 d_X10_isPart_24 rfl rfl ?_
        refine wp_iconst (v0 := 3) d_X10_isPart_25 rfl ?_
        refine wp_icmp_ne 45 d_X10_isPart_26 rfl (fun c26 => ?_) (fun c26 => ?_)
        · refine wp_iconst (v0 := 0) d_X10_isPart_45 rfl ?_
          refine wp_iret d_X10_isPart_46 rfl k_nar0 ?_
          refine kR_i (Eq.symm (kb_f ?_)) rfl
          rintro (⟨q1 | q1, q2⟩ | ⟨q1, q2⟩)
          all_goals first | contradiction | (subst q1; simp_all; done) | (simp_all; omega)
        · refine wp_iload_n 1 d_X10_isPart_29 rfl rfl ?_
          refine wp_i2l d_X10_isPart_30 ?_
          refine wp_lconst (v0 := 1) d_X10_isPart_31 rfl ?_
          refine wp_ldc2 (v0 := 999) d_X10_isPart_32 cl_X10_88 ?_
          refine wp_stc_i (As := [.long (Int32.toInt64 (x0)), .long (1), .long (999)]) (x0 := kb (1 ≤ (x0 : Int32).toInt ∧ (x0 : Int32).toInt ≤ 999)) (h1 := h) d_X10_isPart_35 lk_X10_74 mv_X10_in st_X10_in (Nat.le_of_ble_eq_true rfl) (Nat.le_of_ble_eq_true rfl) (s_X10_in_i _ (x0) (1) (999)) ?_
          refine wp_ifb_eq 45 d_X10_isPart_38 rfl (fun c38 => ?_) (fun c38 => ?_)
          · refine wp_iconst (v0 := 0) d_X10_isPart_45 rfl ?_
            refine wp_iret d_X10_isPart_46 rfl k_nar0 ?_
            refine kR_i (Eq.symm (kb_f ?_)) rfl
            rintro (⟨q1 | q1, q2⟩ | ⟨q1, q2⟩)
            all_goals first | contradiction | (subst q1; simp_all; done) | (simp_all; omega)
          · refine wp_iconst (v0 := 1) d_X10_isPart_41 rfl ?_
            refine wp_goto 46 d_X10_isPart_42 rfl ?_
            refine wp_iret d_X10_isPart_46 rfl k_nar1 ?_
            refine kR_i (Eq.symm (kb_t ?_)) rfl
            first | exact Or.inl ⟨Or.inl (by assumption), by assumption⟩ | exact Or.inl ⟨Or.inr (by assumption), by assumption⟩ | exact Or.inr ⟨by assumption, by assumption⟩
def kabs (x : Int32) : Int32 := if 0 ≤ x then x else 0 - x
theorem s_X10_sizeOf {X : kX} {d : Nat} (h : kH) (x : Int32) : WP X d 0 0 Y_X10_sizeOf 0 [(0, .int x)] [] h (kR (some (.int (kabs x))) h) := by
  refine wp_iload_n 0 d_X10_sizeOf_0 rfl rfl ?_
  refine wp_if_ge 9 d_X10_sizeOf_1 rfl (fun c1 => ?_) (fun c1 => ?_)
  · refine wp_iload_n 0 d_X10_sizeOf_9 rfl rfl ?_
    refine wp_reti d_X10_sizeOf_10 rfl ?_
    exact kR_i (by simp only [kabs]; rw [if_pos c1]) rfl
  · refine wp_iload_n 0 d_X10_sizeOf_4 rfl rfl ?_
    refine wp_ineg d_X10_sizeOf_5 ?_
    refine wp_goto 10 d_X10_sizeOf_6 rfl ?_
    refine wp_reti d_X10_sizeOf_10 rfl ?_
    exact kR_i (by simp only [kabs]; rw [if_neg c1, Int32.zero_sub]) rfl
theorem s_X10_at {X : kX} {d : Nat} (h : kH) (j u : Nat) : WP X d 0 0 Y_X10_at 0 [(0, .int (nI j)), (1, .int (nI u))] [] h (kR (some (.int (nI (9 + 4 * j + u)))) h) := by
  refine wp_bipush (v0 := 9) d_X10_at_0 (by decide) ?_
  refine wp_iconst (v0 := 4) d_X10_at_2 rfl ?_
  refine wp_iload_n 0 d_X10_at_3 rfl rfl ?_
  refine wp_imul d_X10_at_4 ?_
  refine wp_v (v0 := nI ((4) * (j))) (pk_mul (4) (j)) ?_
  refine wp_iadd d_X10_at_5 ?_
  refine wp_v (v0 := nI ((9) + ((4) * (j)))) (nI_add (9) ((4) * (j))) ?_
  refine wp_iload_n 1 d_X10_at_6 rfl rfl ?_
  refine wp_iadd d_X10_at_7 ?_
  refine wp_v (v0 := nI (((9) + ((4) * (j))) + (u))) (nI_add ((9) + ((4) * (j))) (u)) ?_
  refine wp_reti d_X10_at_8 rfl ?_
  exact kR_i rfl rfl
theorem s_X10_its {X : kX} {d : Nat} {c w m v : kZ} {E : kH} {j u : Nat} (hj : j < 9) (hu : u < 4) : WP X (d + 1) 0 0 Y_X10_its 0 [(0, .ref (80)), (1, .int (nI (j))), (2, .int (nI (u)))] [] (HP c w m v E) (kR (some (.int ((m.2.1 81) (9 + 4 * j + u)))) (HP c w m v E)) := by
  refine wp_aload_n 0 d_X10_its_0 rfl rfl ?_
  refine wp_getfield (v := .ref (81)) d_X10_its_1 gf_X10_7 (hp_80 _ _ _ _ _) rfl ?_
  refine wp_iload_n 1 d_X10_its_4 rfl rfl ?_
  refine wp_iload_n 2 d_X10_its_5 rfl rfl ?_
  refine wp_stc_i (As := [.int (nI (j)), .int (nI (u))]) (x0 := nI (9 + 4 * (j) + (u))) (h1 := HP c w m v E) d_X10_its_6 lk_X10_78 mv_X10_at st_X10_at (Nat.le_of_ble_eq_true rfl) (Nat.le_of_ble_eq_true rfl) (s_X10_at _ (j) (u)) ?_
  refine wp_iaload (v := (m.2.1 81) (9 + 4 * (j) + (u))) d_X10_its_9 (hp_81 _ _ _ _ _) (vp_in_nI (by omega) (by omega)) (congrArg ((m.2.1 81)) (nI_clamp (by omega))) ?_
  refine wp_reti d_X10_its_10 rfl ?_
  exact kR_i rfl rfl
theorem s_X10_becomes {X : kX} {d : Nat} {c w m v : kZ} {E : kH} {j : Nat} (hj : j < 300) (x : Int32) : WP X d 0 0 Y_X10_becomes 0 [(0, .ref (80)), (1, .int (nI (j))), (2, .int (x))] [] (HP c w m v E) (kR (some (.int (kb ((m.2.1 81) (j) ≠ x)))) (HP c w (setA m 81 (upd (m.2.1 81) j x)) v E)) := by
  refine wp_aload_n 0 d_X10_becomes_0 rfl rfl ?_
  refine wp_getfield (v := .ref (81)) d_X10_becomes_1 gf_X10_7 (hp_80 _ _ _ _ _) rfl ?_
  refine wp_iload_n 1 d_X10_becomes_4 rfl rfl ?_
  refine wp_iaload (v := (m.2.1 81) (j)) d_X10_becomes_5 (hp_81 _ _ _ _ _) (vp_in_nI (by omega) (by omega)) (congrArg ((m.2.1 81)) (nI_clamp (by omega))) ?_
  refine wp_istore_n [(3, .int ((m.2.1 81) (j))), (0, .ref (80)), (1, .int (nI (j))), (2, .int (x))] d_X10_becomes_6 rfl (Nat.le_of_ble_eq_true rfl) rfl ?_
  refine wp_aload_n 1 d_X10_becomes_7 rfl rfl ?_
  refine wp_getfield (v := .ref (81)) d_X10_becomes_8 gf_X10_7 (hp_80 _ _ _ _ _) rfl ?_
  refine wp_iload_n 2 d_X10_becomes_11 rfl rfl ?_
  refine wp_iload_n 3 d_X10_becomes_12 rfl rfl ?_
  refine wp_iastore (h' := HP c w (setA m 81 (upd (m.2.1 81) (j) (x))) v E) d_X10_becomes_13 (hp_81 _ _ _ _ _) (vp_in_nI (by omega) (by omega)) (by rw [nI_clamp (by omega)]; exact (hpa_81 _ _ _ _ _ _)) ?_
  refine wp_iload_n 0 d_X10_becomes_14 rfl rfl ?_
  refine wp_iload_n 3 d_X10_becomes_15 rfl rfl ?_
  refine wp_icmp_ne 23 d_X10_becomes_16 rfl (fun c16 => ?_) (fun c16 => ?_)
  · refine wp_iconst (v0 := 1) d_X10_becomes_23 rfl ?_
    refine wp_reti d_X10_becomes_24 rfl ?_
    exact kR_i (Eq.symm (kb_t c16)) rfl
  · refine wp_iconst (v0 := 0) d_X10_becomes_19 rfl ?_
    refine wp_goto 24 d_X10_becomes_20 rfl ?_
    refine wp_reti d_X10_becomes_24 rfl ?_
    exact kR_i (Eq.symm (kb_f (fun z9 => z9 c16))) rfl
theorem s_X10_isLens {X : kX} {d : Nat} {c w m v : kZ} {E : kH} {n : Nat} (hn : m.2.1 81 0 = nI n) (hn9 : n ≤ 9) (l : Int32) : WP X (d + 1) 0 0 Y_X10_isLens 0 [(0, .ref (80)), (1, .int (l))] [] (HP c w m v E) (kR (some (.int (kb (0 ≤ l.toInt ∧ l.toInt < (n : Int))))) (HP c w m v E)) := by
  refine wp_iload_n 1 d_X10_isLens_0 rfl rfl ?_
  refine wp_i2l d_X10_isLens_1 ?_
  refine wp_lconst (v0 := 0) d_X10_isLens_2 rfl ?_
  refine wp_aload_n 0 d_X10_isLens_3 rfl rfl ?_
  refine wp_getfield (v := .ref (81)) d_X10_isLens_4 gf_X10_7 (hp_80 _ _ _ _ _) rfl ?_
  refine wp_iconst (v0 := 0) d_X10_isLens_7 rfl ?_
  refine wp_iaload (v := nI n) d_X10_isLens_8 (hp_81 _ _ _ _ _) (kin rfl) hn ?_
  refine wp_iconst (v0 := 1) d_X10_isLens_9 rfl ?_
  refine wp_isub d_X10_isLens_10 ?_
  refine wp_i2l d_X10_isLens_11 ?_
  refine wp_stc_i (As := [.long (Int32.toInt64 (l)), .long (0), .long (Int32.toInt64 ((nI n) - (1)))]) (x0 := kb (0 ≤ (l : Int32).toInt ∧ (l : Int32).toInt ≤ ((nI n) - (1) : Int32).toInt)) (h1 := HP c w m v E) d_X10_isLens_12 lk_X10_74 mv_X10_in st_X10_in (Nat.le_of_ble_eq_true rfl) (Nat.le_of_ble_eq_true rfl) (s_X10_in_j _ (l) (0) ((nI n) - (1))) ?_
  refine wp_retb d_X10_isLens_15 rfl ?_
  exact kR_i (kb_iff (by rw [kn_pred (by omega)]; constructor <;> intro q9 <;> exact ⟨by simpa using q9.1, by omega⟩)) rfl
theorem s_X10_isPlace {X : kX} {d : Nat} {c w m v : kZ} {E : kH} {p : Nat} (hp : m.2.1 81 2 = nI p) (hp4 : p ≤ 4) (l : Int32) : WP X (d + 1) 0 0 Y_X10_isPlace 0 [(0, .ref (80)), (1, .int (l))] [] (HP c w m v E) (kR (some (.int (kb (0 ≤ l.toInt ∧ l.toInt < (p : Int))))) (HP c w m v E)) := by
  refine wp_iload_n 1 d_X10_isPlace_0 rfl rfl ?_
  refine wp_i2l d_X10_isPlace_1 ?_
  refine wp_lconst (v0 := 0) d_X10_isPlace_2 rfl ?_
  refine wp_aload_n 0 d_X10_isPlace_3 rfl rfl ?_
  refine wp_getfield (v := .ref (81)) d_X10_isPlace_4 gf_X10_7 (hp_80 _ _ _ _ _) rfl ?_
  refine wp_iconst (v0 := 2) d_X10_isPlace_7 rfl ?_
  refine wp_iaload (v := nI p) d_X10_isPlace_8 (hp_81 _ _ _ _ _) (kin rfl) hp ?_
  refine wp_iconst (v0 := 1) d_X10_isPlace_9 rfl ?_
  refine wp_isub d_X10_isPlace_10 ?_
  refine wp_i2l d_X10_isPlace_11 ?_
  refine wp_stc_i (As := [.long (Int32.toInt64 (l)), .long (0), .long (Int32.toInt64 ((nI p) - (1)))]) (x0 := kb (0 ≤ (l : Int32).toInt ∧ (l : Int32).toInt ≤ ((nI p) - (1) : Int32).toInt)) (h1 := HP c w m v E) d_X10_isPlace_12 lk_X10_74 mv_X10_in st_X10_in (Nat.le_of_ble_eq_true rfl) (Nat.le_of_ble_eq_true rfl) (s_X10_in_j _ (l) (0) ((nI p) - (1))) ?_
  refine wp_retb d_X10_isPlace_15 rfl ?_
  exact kR_i (kb_iff (by rw [kn_pred (by omega)]; constructor <;> intro q9 <;> exact ⟨by simpa using q9.1, by omega⟩)) rfl
theorem s_X10_isPart_1 {X : kX} {d : Nat} (h : kH) (x0 : Int32) : WP X (d + 1) 0 0 Y_X10_isPart 0 [(0, .int 1), (1, .int x0)] [] h (kR (some (.int (kb (-9 ≤ x0.toInt ∧ x0.toInt ≤ 9)))) h) := by
  have K := s_X10_isPart (X := X) (d := d) h 1 x0
  rw [kb_iff (show (((((1 : Int32) = 1 ∨ (1 : Int32) = 2) ∧ -9 ≤ x0.toInt ∧ x0.toInt ≤ 9) ∨ ((1 : Int32) = 3 ∧ 1 ≤ x0.toInt ∧ x0.toInt ≤ 999))) ↔ (-9 ≤ x0.toInt ∧ x0.toInt ≤ 9) by
    have e13 : ¬ (1 : Int32) = 3 := by decide
    have e23 : ¬ (2 : Int32) = 3 := by decide
    have e31 : ¬ (3 : Int32) = 1 := by decide
    have e32 : ¬ (3 : Int32) = 2 := by decide
    constructor
    · rintro (⟨q1, q2⟩ | ⟨q1, q2⟩)
      · exact q2
      · exact absurd q1 (by decide)
    · intro q
      exact Or.inl ⟨by decide, q⟩)] at K
  exact K
theorem s_X10_isPart_2 {X : kX} {d : Nat} (h : kH) (x0 : Int32) : WP X (d + 1) 0 0 Y_X10_isPart 0 [(0, .int 2), (1, .int x0)] [] h (kR (some (.int (kb (-9 ≤ x0.toInt ∧ x0.toInt ≤ 9)))) h) := by
  have K := s_X10_isPart (X := X) (d := d) h 2 x0
  rw [kb_iff (show (((((2 : Int32) = 1 ∨ (2 : Int32) = 2) ∧ -9 ≤ x0.toInt ∧ x0.toInt ≤ 9) ∨ ((2 : Int32) = 3 ∧ 1 ≤ x0.toInt ∧ x0.toInt ≤ 999))) ↔ (-9 ≤ x0.toInt ∧ x0.toInt ≤ 9) by
    have e13 : ¬ (1 : Int32) = 3 := by decide
    have e23 : ¬ (2 : Int32) = 3 := by decide
    have e31 : ¬ (3 : Int32) = 1 := by decide
    have e32 : ¬ (3 : Int32) = 2 := by decide
    constructor
    · rintro (⟨q1, q2⟩ | ⟨q1, q2⟩)
      · exact q2
      · exact absurd q1 (by decide)
    · intro q
      exact Or.inl ⟨by decide, q⟩)] at K
  exact K
theorem s_X10_isPart_3 {X : kX} {d : Nat} (h : kH) (x0 : Int32) : WP X (d + 1) 0 0 Y_X10_isPart 0 [(0, .int 3), (1, .int x0)] [] h (kR (some (.int (kb (1 ≤ x0.toInt ∧ x0.toInt ≤ 999)))) h) := by
  have K := s_X10_isPart (X := X) (d := d) h 3 x0
  rw [kb_iff (show (((((3 : Int32) = 1 ∨ (3 : Int32) = 2) ∧ -9 ≤ x0.toInt ∧ x0.toInt ≤ 9) ∨ ((3 : Int32) = 3 ∧ 1 ≤ x0.toInt ∧ x0.toInt ≤ 999))) ↔ (1 ≤ x0.toInt ∧ x0.toInt ≤ 999) by
    have e13 : ¬ (1 : Int32) = 3 := by decide
    have e23 : ¬ (2 : Int32) = 3 := by decide
    have e31 : ¬ (3 : Int32) = 1 := by decide
    have e32 : ¬ (3 : Int32) = 2 := by decide
    constructor
    · rintro (⟨q1, q2⟩ | ⟨q1, q2⟩)
      · exact absurd q1 (by simp [e31, e32])
      · exact q2
    · intro q
      exact Or.inr ⟨rfl, q⟩)] at K
  exact K
theorem s_X10_lens {X : kX} {d : Nat} {c w m v : kZ} {E : kH} {n : Nat} (hn : m.2.1 81 0 = nI n) (hn9 : n ≤ 9) (kd bd tl pr : Int32) : WP X (d + 2) 0 0 Y_X10_lens 0 [(0, .ref (80)), (1, .int (kd)), (2, .int (bd)), (3, .int (tl)), (4, .int (pr))] [] (HP c w m v E) (fun r h1 => (¬ (1 ≤ kd.toInt ∧ kd.toInt ≤ 5 ∧ -9 ≤ bd.toInt ∧ bd.toInt ≤ 9 ∧ -9 ≤ tl.toInt ∧ tl.toInt ≤ 9 ∧ 1 ≤ pr.toInt ∧ pr.toInt ≤ 999) ∧ r = some (.int (-1)) ∧ h1 = HP c w m v E) ∨ ((1 ≤ kd.toInt ∧ kd.toInt ≤ 5 ∧ -9 ≤ bd.toInt ∧ bd.toInt ≤ 9 ∧ -9 ≤ tl.toInt ∧ tl.toInt ≤ 9 ∧ 1 ≤ pr.toInt ∧ pr.toInt ≤ 999) ∧ n = 9 ∧ r = some (.int (-2)) ∧ h1 = HP c w m v E) ∨ ((1 ≤ kd.toInt ∧ kd.toInt ≤ 5 ∧ -9 ≤ bd.toInt ∧ bd.toInt ≤ 9 ∧ -9 ≤ tl.toInt ∧ tl.toInt ≤ 9 ∧ 1 ≤ pr.toInt ∧ pr.toInt ≤ 999) ∧ n < 9 ∧ r = some (.int (nI n)) ∧ h1 = HP c w (setA m 81 ((upd (upd (upd (upd (upd (m.2.1 81) (9 + 4 * n + 0) kd) (9 + 4 * n + 1) bd) (9 + 4 * n + 2) tl) (9 + 4 * n + 3) pr) 0 (nI (n + 1))))) v E)) := by
  refine wp_iload_n 1 d_X10_lens_0 rfl rfl ?_
  refine wp_stc_i (As := [.int (kd)]) (x0 := kb (1 ≤ (kd : Int32).toInt ∧ (kd : Int32).toInt ≤ 5)) (h1 := HP c w m v E) d_X10_lens_1 lk_X10_90 mv_X10_isKind st_X10_isKind (Nat.le_of_ble_eq_true rfl) (Nat.le_of_ble_eq_true rfl) (s_X10_isKind _ (kd : Int32)) ?_
  refine wp_ifb_eq 32 d_X10_lens_4 rfl (fun c4 => ?_) (fun c4 => ?_)
  · refine wp_iconst (v0 := -1) d_X10_lens_32 rfl ?_
    refine wp_reti d_X10_lens_33 rfl ?_
    exact Or.inl ⟨by omega, rfl, rfl⟩
  · refine wp_iconst (v0 := 1) d_X10_lens_7 rfl ?_
    refine wp_iload_n 2 d_X10_lens_8 rfl rfl ?_
    refine wp_stc_i (As := [.int (1), .int (bd)]) (x0 := kb (-9 ≤ (bd : Int32).toInt ∧ (bd : Int32).toInt ≤ 9)) (h1 := HP c w m v E) d_X10_lens_9 lk_X10_94 mv_X10_isPart st_X10_isPart (Nat.le_of_ble_eq_true rfl) (Nat.le_of_ble_eq_true rfl) (s_X10_isPart_1 _ (bd : Int32)) ?_
    refine wp_ifb_eq 32 d_X10_lens_12 rfl (fun c12 => ?_) (fun c12 => ?_)
    · refine wp_iconst (v0 := -1) d_X10_lens_32 rfl ?_
      refine wp_reti d_X10_lens_33 rfl ?_
      exact Or.inl ⟨by omega, rfl, rfl⟩
    · refine wp_iconst (v0 := 2) d_X10_lens_15 rfl ?_
      refine wp_iload_n 3 d_X10_lens_16 rfl rfl ?_
      refine wp_stc_i (As := [.int (2), .int (tl)]) (x0 := kb (-9 ≤ (tl : Int32).toInt ∧ (tl : Int32).toInt ≤ 9)) (h1 := HP c w m v E) d_X10_lens_17 lk_X10_94 mv_X10_isPart st_X10_isPart (Nat.le_of_ble_eq_true rfl) (Nat.le_of_ble_eq_true rfl) (s_X10_isPart_2 _ (tl : Int32)) ?_
      refine wp_ifb_eq 32 d_X10_lens_20 rfl (fun c20 => ?_) (fun c20 => ?_)
      · refine wp_iconst (v0 := -1) d_X10_lens_32 rfl ?_
        refine wp_reti d_X10_lens_33 rfl ?_
        exact Or.inl ⟨by omega, rfl, rfl⟩
      · refine wp_iconst (v0 := 3) d_X10_lens_23 rfl ?_
        refine wp_iload 4 d_X10_lens_24 rfl ?_
        refine wp_stc_i (As := [.int (3), .int (pr)]) (x0 := kb (1 ≤ (pr : Int32).toInt ∧ (pr : Int32).toInt ≤ 999)) (h1 := HP c w m v E) d_X10_lens_26 lk_X10_94 mv_X10_isPart st_X10_isPart (Nat.le_of_ble_eq_true rfl) (Nat.le_of_ble_eq_true rfl) (s_X10_isPart_3 _ (pr : Int32)) ?_
        refine wp_ifb_ne 34 d_X10_lens_29 rfl (fun c29 => ?_) (fun c29 => ?_)
        · refine wp_aload_n 0 d_X10_lens_34 rfl rfl ?_
          refine wp_getfield (v := .ref (81)) d_X10_lens_35 gf_X10_7 (hp_80 _ _ _ _ _) rfl ?_
          refine wp_iconst (v0 := 0) d_X10_lens_38 rfl ?_
          refine wp_iaload (v := nI (n)) d_X10_lens_39 (hp_81 _ _ _ _ _) (kin rfl) hn ?_
          refine wp_bipush (v0 := 9) d_X10_lens_40 (by decide) ?_
          refine wp_ncmp_ne (a := n) (b := 9) 48 d_X10_lens_42 rfl (by omega) (by omega) (fun c42 => ?_) (fun c42 => ?_)
          · have hn8 : n < 9 := by omega
            refine wp_aload_n 0 d_X10_lens_48 rfl rfl ?_
            refine wp_getfield (v := .ref (81)) d_X10_lens_49 gf_X10_7 (hp_80 _ _ _ _ _) rfl ?_
            refine wp_iconst (v0 := 0) d_X10_lens_52 rfl ?_
            refine wp_iaload (v := nI (n)) d_X10_lens_53 (hp_81 _ _ _ _ _) (kin rfl) hn ?_
            refine wp_istore [(5, .int (nI (n))), (0, .ref (80)), (1, .int (kd)), (2, .int (bd)), (3, .int (tl)), (4, .int (pr))] d_X10_lens_54 (Nat.le_of_ble_eq_true rfl) rfl ?_
            refine wp_aload_n 1 d_X10_lens_56 rfl rfl ?_
            refine wp_getfield (v := .ref (81)) d_X10_lens_57 gf_X10_7 (hp_80 _ _ _ _ _) rfl ?_
            refine wp_iload 0 d_X10_lens_60 rfl ?_
            refine wp_iconst (v0 := 0) d_X10_lens_62 rfl ?_
            refine wp_stc_i (As := [.int (nI (n)), .int (0)]) (x0 := nI (9 + 4 * (n) + (0))) (h1 := HP c w m v E) d_X10_lens_63 lk_X10_78 mv_X10_at st_X10_at (Nat.le_of_ble_eq_true rfl) (Nat.le_of_ble_eq_true rfl) (s_X10_at _ (n) (0)) ?_
            refine wp_iload_n 2 d_X10_lens_66 rfl rfl ?_
            refine wp_iastore (h' := HP c w (setA m 81 (upd (m.2.1 81) (9 + 4 * (n) + (0)) (kd))) v E) d_X10_lens_67 (hp_81 _ _ _ _ _) (vp_in_nI (by omega) (by omega)) (by rw [nI_clamp (by omega)]; exact (hpa_81 _ _ _ _ _ _)) ?_
            refine wp_aload_n 1 d_X10_lens_68 rfl rfl ?_
            refine wp_getfield (v := .ref (81)) d_X10_lens_69 gf_X10_7 (hp_80 _ _ _ _ _) rfl ?_
            refine wp_iload 0 d_X10_lens_72 rfl ?_
            refine wp_iconst (v0 := 1) d_X10_lens_74 rfl ?_
            refine wp_stc_i (As := [.int (nI (n)), .int (1)]) (x0 := nI (9 + 4 * (n) + (1))) (h1 := HP c w (setA m 81 (upd (m.2.1 81) (9 + 4 * (n) + (0)) (kd))) v E) d_X10_lens_75 lk_X10_78 mv_X10_at st_X10_at (Nat.le_of_ble_eq_true rfl) (Nat.le_of_ble_eq_true rfl) (s_X10_at _ (n) (1)) ?_
            refine wp_iload_n 3 d_X10_lens_78 rfl rfl ?_
            refine wp_iastore (h' := HP c w (setA (setA m 81 (upd (m.2.1 81) (9 + 4 * (n) + (0)) (kd))) 81 (upd (upd (m.2.1 81) (9 + 4 * (n) + (0)) (kd)) (9 + 4 * (n) + (1)) (bd))) v E) d_X10_lens_79 (hp_81 _ _ _ _ _) (vp_in_nI (by omega) (by omega)) (by rw [nI_clamp (by omega)]; exact (hpa_81 _ _ _ _ _ _)) ?_
            refine wp_aload_n 1 d_X10_lens_80 rfl rfl ?_
            refine wp_getfield (v := .ref (81)) d_X10_lens_81 gf_X10_7 (hp_80 _ _ _ _ _) rfl ?_
            refine wp_iload 0 d_X10_lens_84 rfl ?_
            refine wp_iconst (v0 := 2) d_X10_lens_86 rfl ?_
            refine wp_stc_i (As := [.int (nI (n)), .int (2)]) (x0 := nI (9 + 4 * (n) + (2))) (h1 := HP c w (setA (setA m 81 (upd (m.2.1 81) (9 + 4 * (n) + (0)) (kd))) 81 (upd (upd (m.2.1 81) (9 + 4 * (n) + (0)) (kd)) (9 + 4 * (n) + (1)) (bd))) v E) d_X10_lens_87 lk_X10_78 mv_X10_at st_X10_at (Nat.le_of_ble_eq_true rfl) (Nat.le_of_ble_eq_true rfl) (s_X10_at _ (n) (2)) ?_
            refine wp_iload_n 4 d_X10_lens_90 rfl rfl ?_
            refine wp_iastore (h' := HP c w (setA (setA (setA m 81 (upd (m.2.1 81) (9 + 4 * (n) + (0)) (kd))) 81 (upd (upd (m.2.1 81) (9 + 4 * (n) + (0)) (kd)) (9 + 4 * (n) + (1)) (bd))) 81 (upd (upd (upd (m.2.1 81) (9 + 4 * (n) + (0)) (kd)) (9 + 4 * (n) + (1)) (bd)) (9 + 4 * (n) + (2)) (tl))) v E) d_X10_lens_91 (hp_81 _ _ _ _ _) (vp_in_nI (by omega) (by omega)) (by rw [nI_clamp (by omega)]; exact (hpa_81 _ _ _ _ _ _)) ?_
            refine wp_aload_n 1 d_X10_lens_92 rfl rfl ?_
            refine wp_getfield (v := .ref (81)) d_X10_lens_93 gf_X10_7 (hp_80 _ _ _ _ _) rfl ?_
            refine wp_iload 0 d_X10_lens_96 rfl ?_
            refine wp_iconst (v0 := 3) d_X10_lens_98 rfl ?_
            refine wp_stc_i (As := [.int (nI (n)), .int (3)]) (x0 := nI (9 + 4 * (n) + (3))) (h1 := HP c w (setA (setA (setA m 81 (upd (m.2.1 81) (9 + 4 * (n) + (0)) (kd))) 81 (upd (upd (m.2.1 81) (9 + 4 * (n) + (0)) (kd)) (9 + 4 * (n) + (1)) (bd))) 81 (upd (upd (upd (m.2.1 81) (9 + 4 * (n) + (0)) (kd)) (9 + 4 * (n) + (1)) (bd)) (9 + 4 * (n) + (2)) (tl))) v E) d_X10_lens_99 lk_X10_78 mv_X10_at st_X10_at (Nat.le_of_ble_eq_true rfl) (Nat.le_of_ble_eq_true rfl) (s_X10_at _ (n) (3)) ?_
            refine wp_iload 5 d_X10_lens_102 rfl ?_
            refine wp_iastore (h' := HP c w (setA (setA (setA (setA m 81 (upd (m.2.1 81) (9 + 4 * (n) + (0)) (kd))) 81 (upd (upd (m.2.1 81) (9 + 4 * (n) + (0)) (kd)) (9 + 4 * (n) + (1)) (bd))) 81 (upd (upd (upd (m.2.1 81) (9 + 4 * (n) + (0)) (kd)) (9 + 4 * (n) + (1)) (bd)) (9 + 4 * (n) + (2)) (tl))) 81 (upd (upd (upd (upd (m.2.1 81) (9 + 4 * (n) + (0)) (kd)) (9 + 4 * (n) + (1)) (bd)) (9 + 4 * (n) + (2)) (tl)) (9 + 4 * (n) + (3)) (pr))) v E) d_X10_lens_104 (hp_81 _ _ _ _ _) (vp_in_nI (by omega) (by omega)) (by rw [nI_clamp (by omega)]; exact (hpa_81 _ _ _ _ _ _)) ?_
            refine wp_aload_n 1 d_X10_lens_105 rfl rfl ?_
            refine wp_getfield (v := .ref (81)) d_X10_lens_106 gf_X10_7 (hp_80 _ _ _ _ _) rfl ?_
            refine wp_iconst (v0 := 0) d_X10_lens_109 rfl ?_
            refine wp_dup2 d_X10_lens_110 rfl rfl ?_
            refine wp_iaload (v := nI (n)) d_X10_lens_111 (hp_81 _ _ _ _ _) (kin rfl) (show (upd (upd (upd (upd (m.2.1 81) (9 + 4 * (n) + (0)) (kd)) (9 + 4 * (n) + (1)) (bd)) (9 + 4 * (n) + (2)) (tl)) (9 + 4 * (n) + (3)) (pr)) (0) = nI n from by (repeat rw [upd_n _ _ (by omega)]); exact hn) ?_
            refine wp_iconst (v0 := 1) d_X10_lens_112 rfl ?_
            refine wp_iadd d_X10_lens_113 ?_
            refine wp_v (v0 := nI ((n) + (1))) (nI_add (n) (1)) ?_
            refine wp_iastore (h' := HP c w (setA (setA (setA (setA (setA m 81 (upd (m.2.1 81) (9 + 4 * (n) + (0)) (kd))) 81 (upd (upd (m.2.1 81) (9 + 4 * (n) + (0)) (kd)) (9 + 4 * (n) + (1)) (bd))) 81 (upd (upd (upd (m.2.1 81) (9 + 4 * (n) + (0)) (kd)) (9 + 4 * (n) + (1)) (bd)) (9 + 4 * (n) + (2)) (tl))) 81 (upd (upd (upd (upd (m.2.1 81) (9 + 4 * (n) + (0)) (kd)) (9 + 4 * (n) + (1)) (bd)) (9 + 4 * (n) + (2)) (tl)) (9 + 4 * (n) + (3)) (pr))) 81 (upd (upd (upd (upd (upd (m.2.1 81) (9 + 4 * (n) + (0)) (kd)) (9 + 4 * (n) + (1)) (bd)) (9 + 4 * (n) + (2)) (tl)) (9 + 4 * (n) + (3)) (pr)) 0 (nI ((n) + (1))))) v E) d_X10_lens_114 (hp_81 _ _ _ _ _) (kin rfl) ((hpa_81 _ _ _ _ _ _)) ?_
            refine wp_iload 0 d_X10_lens_115 rfl ?_
            refine wp_reti d_X10_lens_117 rfl ?_
            exact Or.inr (Or.inr ⟨by omega, by omega, rfl, by rw [setA_idem, setA_idem, setA_idem, setA_idem]⟩)
          · refine wp_bipush (v0 := -2) d_X10_lens_45 (by decide) ?_
            refine wp_reti d_X10_lens_47 rfl ?_
            exact Or.inr (Or.inl ⟨by omega, by omega, rfl, rfl⟩)
        · refine wp_iconst (v0 := -1) d_X10_lens_32 rfl ?_
          refine wp_reti d_X10_lens_33 rfl ?_
          exact Or.inl ⟨by omega, rfl, rfl⟩
theorem s_X10_grind {X : kX} {d : Nat} {c w m v : kZ} {E : kH} {n : Nat} (hn : m.2.1 81 0 = nI n) (hn9 : n ≤ 9) (l wh x : Int32) : WP X (d + 2) 0 0 Y_X10_grind 0 [(0, .ref (80)), (1, .int (l)), (2, .int (wh)), (3, .int (x))] [] (HP c w m v E) (fun r h1 => (¬ (0 ≤ l.toInt ∧ l.toInt < (n : Int)) ∨ ¬ (((wh = 1 ∨ wh = 2) ∧ -9 ≤ x.toInt ∧ x.toInt ≤ 9) ∨ (wh = 3 ∧ 1 ≤ x.toInt ∧ x.toInt ≤ 999))) ∧ r = some (.int (-1)) ∧ h1 = HP c w m v E ∨ ∃ j u : Nat, j < n ∧ l = nI j ∧ u < 4 ∧ wh = nI u ∧ (((wh = 1 ∨ wh = 2) ∧ -9 ≤ x.toInt ∧ x.toInt ≤ 9) ∨ (wh = 3 ∧ 1 ≤ x.toInt ∧ x.toInt ≤ 999)) ∧ r = some (.int (kb ((m.2.1 81) (9 + 4 * (j) + (u)) ≠ (x)))) ∧ h1 = HP c w (setA m 81 (upd (m.2.1 81) (9 + 4 * (j) + (u)) (x))) v E) := by
  refine wp_aload_n 0 d_X10_grind_0 rfl rfl ?_
  refine wp_iload_n 1 d_X10_grind_1 rfl rfl ?_
  refine wp_vrt_i (As := [.int (l)]) (x0 := kb (0 ≤ ((l) : Int32).toInt ∧ ((l) : Int32).toInt < (n : Int))) (h1 := HP c w m v E) d_X10_grind_2 lk_X10_114 mv_X10_isLens in_X10_isLens se_X10_isLens (Nat.le_of_ble_eq_true rfl) (Nat.le_of_ble_eq_true rfl) (hp_80 _ _ _ _ _) rfl (s_X10_isLens hn (by omega) (l)) ?_
  refine wp_ifb_eq 29 d_X10_grind_5 rfl (fun c5 => ?_) (fun c5 => ?_)
  · refine wp_iconst (v0 := -1) d_X10_grind_29 rfl ?_
    refine wp_reti d_X10_grind_30 rfl ?_
    exact Or.inl ⟨by first | exact Or.inl c5 | exact Or.inr c13, rfl, rfl⟩
  · refine wp_iload_n 2 d_X10_grind_8 rfl rfl ?_
    refine wp_iload_n 3 d_X10_grind_9 rfl rfl ?_
    refine wp_stc_i (As := [.int (wh), .int (x)]) (x0 := kb ((((wh) = 1 ∨ (wh) = 2) ∧ -9 ≤ (x : Int32).toInt ∧ (x : Int32).toInt ≤ 9) ∨ ((wh) = 3 ∧ 1 ≤ (x : Int32).toInt ∧ (x : Int32).toInt ≤ 999))) (h1 := HP c w m v E) d_X10_grind_10 lk_X10_94 mv_X10_isPart st_X10_isPart (Nat.le_of_ble_eq_true rfl) (Nat.le_of_ble_eq_true rfl) (s_X10_isPart _ (wh) (x : Int32)) ?_
    refine wp_ifb_eq 29 d_X10_grind_13 rfl (fun c13 => ?_) (fun c13 => ?_)
    · refine wp_iconst (v0 := -1) d_X10_grind_29 rfl ?_
      refine wp_reti d_X10_grind_30 rfl ?_
      exact Or.inl ⟨by first | exact Or.inl c5 | exact Or.inr c13, rfl, rfl⟩
    · obtain ⟨j, hj, rfl⟩ := k_nat c5
      obtain ⟨u, hu, rfl⟩ : ∃ u : Nat, u < 4 ∧ wh = nI u := by
        rcases c13 with ⟨e | e, -⟩ | ⟨e, -⟩
        · exact ⟨1, by omega, e⟩
        · exact ⟨2, by omega, e⟩
        · exact ⟨3, by omega, e⟩
      refine wp_aload_n 0 d_X10_grind_16 rfl rfl ?_
      refine wp_iload_n 1 d_X10_grind_17 rfl rfl ?_
      refine wp_iload_n 2 d_X10_grind_18 rfl rfl ?_
      refine wp_stc_i (As := [.int (nI (j)), .int (nI (u))]) (x0 := nI (9 + 4 * (j) + (u))) (h1 := HP c w m v E) d_X10_grind_19 lk_X10_78 mv_X10_at st_X10_at (Nat.le_of_ble_eq_true rfl) (Nat.le_of_ble_eq_true rfl) (s_X10_at _ (j) (u)) ?_
      refine wp_iload_n 3 d_X10_grind_22 rfl rfl ?_
      refine wp_vrt_i (As := [.int (nI (9 + 4 * (j) + (u))), .int (x)]) (x0 := kb ((m.2.1 81) (9 + 4 * (j) + (u)) ≠ (x))) (h1 := HP c w (setA m 81 (upd (m.2.1 81) (9 + 4 * (j) + (u)) (x))) v E) d_X10_grind_23 lk_X10_124 mv_X10_becomes in_X10_becomes se_X10_becomes (Nat.le_of_ble_eq_true rfl) (Nat.le_of_ble_eq_true rfl) (hp_80 _ _ _ _ _) rfl (s_X10_becomes (j := 9 + 4 * (j) + (u)) (by omega) (x)) ?_
      refine wp_goto 30 d_X10_grind_26 rfl ?_
      refine wp_reti d_X10_grind_30 rfl ?_
      exact Or.inr ⟨j, u, hj, rfl, hu, rfl, c13, rfl, rfl⟩
theorem s_X10_remake {X : kX} {d : Nat} {c w m v : kZ} {E : kH} {n : Nat} (hn : m.2.1 81 0 = nI n) (hn9 : n ≤ 9) (l kd : Int32) : WP X (d + 2) 0 0 Y_X10_remake 0 [(0, .ref (80)), (1, .int (l)), (2, .int (kd))] [] (HP c w m v E) (fun r h1 => (¬ ((0 ≤ l.toInt ∧ l.toInt < (n : Int)) ∧ (1 ≤ kd.toInt ∧ kd.toInt ≤ 5)) ∧ r = some (.int (-1)) ∧ h1 = HP c w m v E) ∨ ∃ j : Nat, j < n ∧ l = nI j ∧ (1 ≤ kd.toInt ∧ kd.toInt ≤ 5) ∧ r = some (.int ((m.2.1 81) (9 + 4 * (j) + (0)))) ∧ h1 = HP c w (setA m 81 (upd (m.2.1 81) (9 + 4 * (j) + (0)) (kd))) v E) := by
  refine wp_aload_n 0 d_X10_remake_0 rfl rfl ?_
  refine wp_iload_n 1 d_X10_remake_1 rfl rfl ?_
  refine wp_vrt_i (As := [.int (l)]) (x0 := kb (0 ≤ ((l) : Int32).toInt ∧ ((l) : Int32).toInt < (n : Int))) (h1 := HP c w m v E) d_X10_remake_2 lk_X10_114 mv_X10_isLens in_X10_isLens se_X10_isLens (Nat.le_of_ble_eq_true rfl) (Nat.le_of_ble_eq_true rfl) (hp_80 _ _ _ _ _) rfl (s_X10_isLens hn (by omega) (l)) ?_
  refine wp_ifb_eq 15 d_X10_remake_5 rfl (fun c5 => ?_) (fun c5 => ?_)
  · refine wp_iconst (v0 := -1) d_X10_remake_15 rfl ?_
    refine wp_reti d_X10_remake_16 rfl ?_
    exact Or.inl ⟨by omega, rfl, rfl⟩
  · refine wp_iload_n 2 d_X10_remake_8 rfl rfl ?_
    refine wp_stc_i (As := [.int (kd)]) (x0 := kb (1 ≤ (kd : Int32).toInt ∧ (kd : Int32).toInt ≤ 5)) (h1 := HP c w m v E) d_X10_remake_9 lk_X10_90 mv_X10_isKind st_X10_isKind (Nat.le_of_ble_eq_true rfl) (Nat.le_of_ble_eq_true rfl) (s_X10_isKind _ (kd : Int32)) ?_
    refine wp_ifb_ne 17 d_X10_remake_12 rfl (fun c12 => ?_) (fun c12 => ?_)
    · obtain ⟨j, hj, rfl⟩ := k_nat c5
      refine wp_aload_n 0 d_X10_remake_17 rfl rfl ?_
      refine wp_iload_n 1 d_X10_remake_18 rfl rfl ?_
      refine wp_iconst (v0 := 0) d_X10_remake_19 rfl ?_
      refine wp_vrt_i (As := [.int (nI (j)), .int (0)]) (x0 := (m.2.1 81) (9 + 4 * (j) + (0))) (h1 := HP c w m v E) d_X10_remake_20 lk_X10_98 mv_X10_its in_X10_its se_X10_its (Nat.le_of_ble_eq_true rfl) (Nat.le_of_ble_eq_true rfl) (hp_80 _ _ _ _ _) rfl (s_X10_its (j := j) (u := 0) (by omega) (by omega)) ?_
      refine wp_istore_n [(3, .int ((m.2.1 81) (9 + 4 * (j) + (0)))), (0, .ref (80)), (1, .int (nI (j))), (2, .int (kd))] d_X10_remake_23 rfl (Nat.le_of_ble_eq_true rfl) rfl ?_
      refine wp_aload_n 1 d_X10_remake_24 rfl rfl ?_
      refine wp_getfield (v := .ref (81)) d_X10_remake_25 gf_X10_7 (hp_80 _ _ _ _ _) rfl ?_
      refine wp_iload_n 2 d_X10_remake_28 rfl rfl ?_
      refine wp_iconst (v0 := 0) d_X10_remake_29 rfl ?_
      refine wp_stc_i (As := [.int (nI (j)), .int (0)]) (x0 := nI (9 + 4 * (j) + (0))) (h1 := HP c w m v E) d_X10_remake_30 lk_X10_78 mv_X10_at st_X10_at (Nat.le_of_ble_eq_true rfl) (Nat.le_of_ble_eq_true rfl) (s_X10_at _ (j) (0)) ?_
      refine wp_iload_n 3 d_X10_remake_33 rfl rfl ?_
      refine wp_iastore (h' := HP c w (setA m 81 (upd (m.2.1 81) (9 + 4 * (j) + (0)) (kd))) v E) d_X10_remake_34 (hp_81 _ _ _ _ _) (vp_in_nI (by omega) (by omega)) (by rw [nI_clamp (by omega)]; exact (hpa_81 _ _ _ _ _ _)) ?_
      refine wp_iload_n 0 d_X10_remake_35 rfl rfl ?_
      refine wp_reti d_X10_remake_36 rfl ?_
      exact Or.inr ⟨j, hj, rfl, by omega, rfl, rfl⟩
    · refine wp_iconst (v0 := -1) d_X10_remake_15 rfl ?_
      refine wp_reti d_X10_remake_16 rfl ?_
      exact Or.inl ⟨by omega, rfl, rfl⟩
theorem s_X10_setting {X : kX} {d : Nat} {c w m v : kZ} {E : kH} (wh : Int32) : WP X (d + 1) 0 0 Y_X10_setting 0 [(0, .ref (80)), (1, .int (wh))] [] (HP c w m v E) (fun r h1 => (¬ (0 ≤ wh.toInt ∧ wh.toInt ≤ 3) ∧ r = some (.int (-1)) ∧ h1 = HP c w m v E) ∨ ∃ j : Nat, j ≤ 3 ∧ wh = nI j ∧ r = some (.int ((m.2.1 81) (4 + j))) ∧ h1 = HP c w m v E) := by
  refine wp_iload_n 1 d_X10_setting_0 rfl rfl ?_
  refine wp_i2l d_X10_setting_1 ?_
  refine wp_lconst (v0 := 0) d_X10_setting_2 rfl ?_
  refine wp_ldc2 (v0 := 3) d_X10_setting_3 cl_X10_127 ?_
  refine wp_stc_i (As := [.long (Int32.toInt64 (wh)), .long (0), .long (3)]) (x0 := kb (0 ≤ (wh : Int32).toInt ∧ (wh : Int32).toInt ≤ 3)) (h1 := HP c w m v E) d_X10_setting_6 lk_X10_74 mv_X10_in st_X10_in (Nat.le_of_ble_eq_true rfl) (Nat.le_of_ble_eq_true rfl) (s_X10_in_i _ (wh) (0) (3)) ?_
  refine wp_ifb_eq 23 d_X10_setting_9 rfl (fun c9 => ?_) (fun c9 => ?_)
  · refine wp_iconst (v0 := -1) d_X10_setting_23 rfl ?_
    refine wp_reti d_X10_setting_24 rfl ?_
    exact Or.inl ⟨by omega, rfl, rfl⟩
  · obtain ⟨j, hj, rfl⟩ := k_natle (n := 3) c9
    refine wp_aload_n 0 d_X10_setting_12 rfl rfl ?_
    refine wp_getfield (v := .ref (81)) d_X10_setting_13 gf_X10_7 (hp_80 _ _ _ _ _) rfl ?_
    refine wp_iconst (v0 := 4) d_X10_setting_16 rfl ?_
    refine wp_iload_n 1 d_X10_setting_17 rfl rfl ?_
    refine wp_iadd d_X10_setting_18 ?_
    refine wp_v (v0 := nI ((4) + (j))) (nI_add (4) (j)) ?_
    refine wp_iaload (v := (m.2.1 81) ((4) + (j))) d_X10_setting_19 (hp_81 _ _ _ _ _) (vp_in_nI (by omega) (by omega)) (congrArg ((m.2.1 81)) (nI_clamp (by omega))) ?_
    refine wp_goto 24 d_X10_setting_20 rfl ?_
    refine wp_reti d_X10_setting_24 rfl ?_
    exact Or.inr ⟨j, hj, rfl, rfl, rfl⟩
theorem s_X10_let {X : kX} {d : Nat} {c w m v : kZ} {E : kH} (wh x : Int32) : WP X (d + 1) 0 0 Y_X10_let 0 [(0, .ref (80)), (1, .int (wh)), (2, .int (x))] [] (HP c w m v E) (fun r h1 => (¬ ((wh = 0 ∧ 0 ≤ x.toInt ∧ x.toInt ≤ 9) ∨ (wh = 1 ∧ 1 ≤ x.toInt ∧ x.toInt ≤ 3) ∨ (wh = 2 ∧ -9 ≤ x.toInt ∧ x.toInt ≤ 9) ∨ (wh = 3 ∧ 0 ≤ x.toInt ∧ x.toInt ≤ 999)) ∧ r = some (.int (-1)) ∧ h1 = HP c w m v E) ∨ ∃ j : Nat, j ≤ 3 ∧ wh = nI j ∧ ((wh = 0 ∧ 0 ≤ x.toInt ∧ x.toInt ≤ 9) ∨ (wh = 1 ∧ 1 ≤ x.toInt ∧ x.toInt ≤ 3) ∨ (wh = 2 ∧ -9 ≤ x.toInt ∧ x.toInt ≤ 9) ∨ (wh = 3 ∧ 0 ≤ x.toInt ∧ x.toInt ≤ 999)) ∧ r = some (.int (kb ((m.2.1 81) (4 + j) ≠ (x)))) ∧ h1 = HP c w (setA m 81 (upd (m.2.1 81) (4 + j) (x))) v E) := by
  refine wp_iload_n 1 d_X10_let_0 rfl rfl ?_
  refine wp_if_ne 16 d_X10_let_1 rfl (fun c1 => ?_) (fun c1 => ?_)
  · refine wp_iload_n 1 d_X10_let_16 rfl rfl ?_
    refine wp_iconst (v0 := 1) d_X10_let_17 rfl ?_
    refine wp_icmp_ne 33 d_X10_let_18 rfl (fun c18 => ?_) (fun c18 => ?_)
    · refine wp_iload_n 1 d_X10_let_33 rfl rfl ?_
      refine wp_iconst (v0 := 2) d_X10_let_34 rfl ?_
      refine wp_icmp_ne 52 d_X10_let_35 rfl (fun c35 => ?_) (fun c35 => ?_)
      · refine wp_iload_n 1 d_X10_let_52 rfl rfl ?_
        refine wp_iconst (v0 := 3) d_X10_let_53 rfl ?_
        refine wp_icmp_ne 73 d_X10_let_54 rfl (fun c54 => ?_) (fun c54 => ?_)
        · refine wp_iconst (v0 := 0) d_X10_let_73 rfl ?_
          refine wp_istore_n [(3, .int (0)), (0, .ref (80)), (1, .int (wh)), (2, .int (x))] d_X10_let_74 rfl (Nat.le_of_ble_eq_true rfl) rfl ?_
          refine wp_iload_n 0 d_X10_let_75 rfl rfl ?_
          refine wp_if_eq 90 d_X10_let_76 rfl (fun _ => ?_) (fun z => absurd z (by decide))
          refine wp_iconst (v0 := -1) d_X10_let_90 rfl ?_
          refine wp_reti d_X10_let_91 rfl ?_
          refine Or.inl ⟨?_, rfl, rfl⟩
          simp_all
        · refine wp_iload_n 2 d_X10_let_57 rfl rfl ?_
          refine wp_i2l d_X10_let_58 ?_
          refine wp_lconst (v0 := 0) d_X10_let_59 rfl ?_
          refine wp_ldc2 (v0 := 999) d_X10_let_60 cl_X10_88 ?_
          refine wp_stc_i (As := [.long (Int32.toInt64 (x)), .long (0), .long (999)]) (x0 := kb (0 ≤ (x : Int32).toInt ∧ (x : Int32).toInt ≤ 999)) (h1 := HP c w m v E) d_X10_let_63 lk_X10_74 mv_X10_in st_X10_in (Nat.le_of_ble_eq_true rfl) (Nat.le_of_ble_eq_true rfl) (s_X10_in_i _ (x) (0) (999)) ?_
          refine wp_ifb_eq 73 d_X10_let_66 rfl (fun c66 => ?_) (fun c66 => ?_)
          · refine wp_iconst (v0 := 0) d_X10_let_73 rfl ?_
            refine wp_istore_n [(3, .int (0)), (0, .ref (80)), (1, .int (wh)), (2, .int (x))] d_X10_let_74 rfl (Nat.le_of_ble_eq_true rfl) rfl ?_
            refine wp_iload_n 0 d_X10_let_75 rfl rfl ?_
            refine wp_if_eq 90 d_X10_let_76 rfl (fun _ => ?_) (fun z => absurd z (by decide))
            refine wp_iconst (v0 := -1) d_X10_let_90 rfl ?_
            refine wp_reti d_X10_let_91 rfl ?_
            refine Or.inl ⟨?_, rfl, rfl⟩
            simp_all
          · refine wp_iconst (v0 := 1) d_X10_let_69 rfl ?_
            refine wp_goto 74 d_X10_let_70 rfl ?_
            refine wp_istore_n [(3, .int (1)), (0, .ref (80)), (1, .int (wh)), (2, .int (x))] d_X10_let_74 rfl (Nat.le_of_ble_eq_true rfl) rfl ?_
            refine wp_iload_n 0 d_X10_let_75 rfl rfl ?_
            refine wp_if_eq 90 d_X10_let_76 rfl (fun z => absurd z (by decide)) (fun _ => ?_)
            have hz : (wh = 0 ∧ 0 ≤ x.toInt ∧ x.toInt ≤ 9) ∨ (wh = 1 ∧ 1 ≤ x.toInt ∧ x.toInt ≤ 3) ∨ (wh = 2 ∧ -9 ≤ x.toInt ∧ x.toInt ≤ 9) ∨ (wh = 3 ∧ 0 ≤ x.toInt ∧ x.toInt ≤ 999) := by simp_all
            obtain ⟨j, hj, rfl⟩ : ∃ j : Nat, j ≤ 3 ∧ wh = nI j := by
              rcases hz with ⟨e, -⟩ | ⟨e, -⟩ | ⟨e, -⟩ | ⟨e, -⟩
              · exact ⟨0, by omega, e⟩
              · exact ⟨1, by omega, e⟩
              · exact ⟨2, by omega, e⟩
              · exact ⟨3, by omega, e⟩
            refine wp_aload_n 1 d_X10_let_79 rfl rfl ?_
            refine wp_iconst (v0 := 4) d_X10_let_80 rfl ?_
            refine wp_iload_n 2 d_X10_let_81 rfl rfl ?_
            refine wp_iadd d_X10_let_82 ?_
            refine wp_v (v0 := nI ((4) + (j))) (nI_add (4) (j)) ?_
            refine wp_iload_n 3 d_X10_let_83 rfl rfl ?_
            refine wp_vrt_i (As := [.int (nI ((4) + (j))), .int (x)]) (x0 := kb ((m.2.1 81) ((4) + (j)) ≠ (x))) (h1 := HP c w (setA m 81 (upd (m.2.1 81) ((4) + (j)) (x))) v E) d_X10_let_84 lk_X10_124 mv_X10_becomes in_X10_becomes se_X10_becomes (Nat.le_of_ble_eq_true rfl) (Nat.le_of_ble_eq_true rfl) (hp_80 _ _ _ _ _) rfl (s_X10_becomes (j := (4) + (j)) (by omega) (x)) ?_
            refine wp_goto 91 d_X10_let_87 rfl ?_
            refine wp_reti d_X10_let_91 rfl ?_
            exact Or.inr ⟨j, hj, rfl, hz, rfl, rfl⟩
      · refine wp_iload_n 2 d_X10_let_38 rfl rfl ?_
        refine wp_i2l d_X10_let_39 ?_
        refine wp_ldc2 (v0 := -9) d_X10_let_40 cl_X10_84 ?_
        refine wp_ldc2 (v0 := 9) d_X10_let_43 cl_X10_86 ?_
        refine wp_stc_i (As := [.long (Int32.toInt64 (x)), .long ((-9)), .long (9)]) (x0 := kb ((-9) ≤ (x : Int32).toInt ∧ (x : Int32).toInt ≤ 9)) (h1 := HP c w m v E) d_X10_let_46 lk_X10_74 mv_X10_in st_X10_in (Nat.le_of_ble_eq_true rfl) (Nat.le_of_ble_eq_true rfl) (s_X10_in_i _ (x) ((-9)) (9)) ?_
        refine wp_ifb_ne 69 d_X10_let_49 rfl (fun c49 => ?_) (fun c49 => ?_)
        · refine wp_iconst (v0 := 1) d_X10_let_69 rfl ?_
          refine wp_goto 74 d_X10_let_70 rfl ?_
          refine wp_istore_n [(3, .int (1)), (0, .ref (80)), (1, .int (wh)), (2, .int (x))] d_X10_let_74 rfl (Nat.le_of_ble_eq_true rfl) rfl ?_
          refine wp_iload_n 0 d_X10_let_75 rfl rfl ?_
          refine wp_if_eq 90 d_X10_let_76 rfl (fun z => absurd z (by decide)) (fun _ => ?_)
          have hz : (wh = 0 ∧ 0 ≤ x.toInt ∧ x.toInt ≤ 9) ∨ (wh = 1 ∧ 1 ≤ x.toInt ∧ x.toInt ≤ 3) ∨ (wh = 2 ∧ -9 ≤ x.toInt ∧ x.toInt ≤ 9) ∨ (wh = 3 ∧ 0 ≤ x.toInt ∧ x.toInt ≤ 999) := by simp_all
          obtain ⟨j, hj, rfl⟩ : ∃ j : Nat, j ≤ 3 ∧ wh = nI j := by
            rcases hz with ⟨e, -⟩ | ⟨e, -⟩ | ⟨e, -⟩ | ⟨e, -⟩
            · exact ⟨0, by omega, e⟩
            · exact ⟨1, by omega, e⟩
            · exact ⟨2, by omega, e⟩
            · exact ⟨3, by omega, e⟩
          refine wp_aload_n 1 d_X10_let_79 rfl rfl ?_
          refine wp_iconst (v0 := 4) d_X10_let_80 rfl ?_
          refine wp_iload_n 2 d_X10_let_81 rfl rfl ?_
          refine wp_iadd d_X10_let_82 ?_
          refine wp_v (v0 := nI ((4) + (j))) (nI_add (4) (j)) ?_
          refine wp_iload_n 3 d_X10_let_83 rfl rfl ?_
          refine wp_vrt_i (As := [.int (nI ((4) + (j))), .int (x)]) (x0 := kb ((m.2.1 81) ((4) + (j)) ≠ (x))) (h1 := HP c w (setA m 81 (upd (m.2.1 81) ((4) + (j)) (x))) v E) d_X10_let_84 lk_X10_124 mv_X10_becomes in_X10_becomes se_X10_becomes (Nat.le_of_ble_eq_true rfl) (Nat.le_of_ble_eq_true rfl) (hp_80 _ _ _ _ _) rfl (s_X10_becomes (j := (4) + (j)) (by omega) (x)) ?_
          refine wp_goto 91 d_X10_let_87 rfl ?_
          refine wp_reti d_X10_let_91 rfl ?_
          exact Or.inr ⟨j, hj, rfl, hz, rfl, rfl⟩
        · refine wp_iload_n 1 d_X10_let_52 rfl rfl ?_
          refine wp_iconst (v0 := 3) d_X10_let_53 rfl ?_
          refine wp_icmp_ne 73 d_X10_let_54 rfl (fun c54 => ?_) (fun c54 => ?_)
          · refine wp_iconst (v0 := 0) d_X10_let_73 rfl ?_
            refine wp_istore_n [(3, .int (0)), (0, .ref (80)), (1, .int (wh)), (2, .int (x))] d_X10_let_74 rfl (Nat.le_of_ble_eq_true rfl) rfl ?_
            refine wp_iload_n 0 d_X10_let_75 rfl rfl ?_
            refine wp_if_eq 90 d_X10_let_76 rfl (fun _ => ?_) (fun z => absurd z (by decide))
            refine wp_iconst (v0 := -1) d_X10_let_90 rfl ?_
            refine wp_reti d_X10_let_91 rfl ?_
            refine Or.inl ⟨?_, rfl, rfl⟩
            simp_all
          · refine wp_iload_n 2 d_X10_let_57 rfl rfl ?_
            refine wp_i2l d_X10_let_58 ?_
            refine wp_lconst (v0 := 0) d_X10_let_59 rfl ?_
            refine wp_ldc2 (v0 := 999) d_X10_let_60 cl_X10_88 ?_
            refine wp_stc_i (As := [.long (Int32.toInt64 (x)), .long (0), .long (999)]) (x0 := kb (0 ≤ (x : Int32).toInt ∧ (x : Int32).toInt ≤ 999)) (h1 := HP c w m v E) d_X10_let_63 lk_X10_74 mv_X10_in st_X10_in (Nat.le_of_ble_eq_true rfl) (Nat.le_of_ble_eq_true rfl) (s_X10_in_i _ (x) (0) (999)) ?_
            refine wp_ifb_eq 73 d_X10_let_66 rfl (fun c66 => ?_) (fun c66 => ?_)
            · refine wp_iconst (v0 := 0) d_X10_let_73 rfl ?_
              refine wp_istore_n [(3, .int (0)), (0, .ref (80)), (1, .int (wh)), (2, .int (x))] d_X10_let_74 rfl (Nat.le_of_ble_eq_true rfl) rfl ?_
              refine wp_iload_n 0 d_X10_let_75 rfl rfl ?_
              refine wp_if_eq 90 d_X10_let_76 rfl (fun _ => ?_) (fun z => absurd z (by decide))
              refine wp_iconst (v0 := -1) d_X10_let_90 rfl ?_
              refine wp_reti d_X10_let_91 rfl ?_
              refine Or.inl ⟨?_, rfl, rfl⟩
              simp_all
            · refine wp_iconst (v0 := 1) d_X10_let_69 rfl ?_
              refine wp_goto 74 d_X10_let_70 rfl ?_
              refine wp_istore_n [(3, .int (1)), (0, .ref (80)), (1, .int (wh)), (2, .int (x))] d_X10_let_74 rfl (Nat.le_of_ble_eq_true rfl) rfl ?_
              refine wp_iload_n 0 d_X10_let_75 rfl rfl ?_
              refine wp_if_eq 90 d_X10_let_76 rfl (fun z => absurd z (by decide)) (fun _ => ?_)
              have hz : (wh = 0 ∧ 0 ≤ x.toInt ∧ x.toInt ≤ 9) ∨ (wh = 1 ∧ 1 ≤ x.toInt ∧ x.toInt ≤ 3) ∨ (wh = 2 ∧ -9 ≤ x.toInt ∧ x.toInt ≤ 9) ∨ (wh = 3 ∧ 0 ≤ x.toInt ∧ x.toInt ≤ 999) := by simp_all
              obtain ⟨j, hj, rfl⟩ : ∃ j : Nat, j ≤ 3 ∧ wh = nI j := by
                rcases hz with ⟨e, -⟩ | ⟨e, -⟩ | ⟨e, -⟩ | ⟨e, -⟩
                · exact ⟨0, by omega, e⟩
                · exact ⟨1, by omega, e⟩
                · exact ⟨2, by omega, e⟩
                · exact ⟨3, by omega, e⟩
              refine wp_aload_n 1 d_X10_let_79 rfl rfl ?_
              refine wp_iconst (v0 := 4) d_X10_let_80 rfl ?_
              refine wp_iload_n 2 d_X10_let_81 rfl rfl ?_
              refine wp_iadd d_X10_let_82 ?_
              refine wp_v (v0 := nI ((4) + (j))) (nI_add (4) (j)) ?_
              refine wp_iload_n 3 d_X10_let_83 rfl rfl ?_
              refine wp_vrt_i (As := [.int (nI ((4) + (j))), .int (x)]) (x0 := kb ((m.2.1 81) ((4) + (j)) ≠ (x))) (h1 := HP c w (setA m 81 (upd (m.2.1 81) ((4) + (j)) (x))) v E) d_X10_let_84 lk_X10_124 mv_X10_becomes in_X10_becomes se_X10_becomes (Nat.le_of_ble_eq_true rfl) (Nat.le_of_ble_eq_true rfl) (hp_80 _ _ _ _ _) rfl (s_X10_becomes (j := (4) + (j)) (by omega) (x)) ?_
              refine wp_goto 91 d_X10_let_87 rfl ?_
              refine wp_reti d_X10_let_91 rfl ?_
              exact Or.inr ⟨j, hj, rfl, hz, rfl, rfl⟩
    · refine wp_iload_n 2 d_X10_let_21 rfl rfl ?_
      refine wp_i2l d_X10_let_22 ?_
      refine wp_lconst (v0 := 1) d_X10_let_23 rfl ?_
      refine wp_ldc2 (v0 := 3) d_X10_let_24 cl_X10_127 ?_
      refine wp_stc_i (As := [.long (Int32.toInt64 (x)), .long (1), .long (3)]) (x0 := kb (1 ≤ (x : Int32).toInt ∧ (x : Int32).toInt ≤ 3)) (h1 := HP c w m v E) d_X10_let_27 lk_X10_74 mv_X10_in st_X10_in (Nat.le_of_ble_eq_true rfl) (Nat.le_of_ble_eq_true rfl) (s_X10_in_i _ (x) (1) (3)) ?_
      refine wp_ifb_ne 69 d_X10_let_30 rfl (fun c30 => ?_) (fun c30 => ?_)
      · refine wp_iconst (v0 := 1) d_X10_let_69 rfl ?_
        refine wp_goto 74 d_X10_let_70 rfl ?_
        refine wp_istore_n [(3, .int (1)), (0, .ref (80)), (1, .int (wh)), (2, .int (x))] d_X10_let_74 rfl (Nat.le_of_ble_eq_true rfl) rfl ?_
        refine wp_iload_n 0 d_X10_let_75 rfl rfl ?_
        refine wp_if_eq 90 d_X10_let_76 rfl (fun z => absurd z (by decide)) (fun _ => ?_)
        have hz : (wh = 0 ∧ 0 ≤ x.toInt ∧ x.toInt ≤ 9) ∨ (wh = 1 ∧ 1 ≤ x.toInt ∧ x.toInt ≤ 3) ∨ (wh = 2 ∧ -9 ≤ x.toInt ∧ x.toInt ≤ 9) ∨ (wh = 3 ∧ 0 ≤ x.toInt ∧ x.toInt ≤ 999) := by simp_all
        obtain ⟨j, hj, rfl⟩ : ∃ j : Nat, j ≤ 3 ∧ wh = nI j := by
          rcases hz with ⟨e, -⟩ | ⟨e, -⟩ | ⟨e, -⟩ | ⟨e, -⟩
          · exact ⟨0, by omega, e⟩
          · exact ⟨1, by omega, e⟩
          · exact ⟨2, by omega, e⟩
          · exact ⟨3, by omega, e⟩
        refine wp_aload_n 1 d_X10_let_79 rfl rfl ?_
        refine wp_iconst (v0 := 4) d_X10_let_80 rfl ?_
        refine wp_iload_n 2 d_X10_let_81 rfl rfl ?_
        refine wp_iadd d_X10_let_82 ?_
        refine wp_v (v0 := nI ((4) + (j))) (nI_add (4) (j)) ?_
        refine wp_iload_n 3 d_X10_let_83 rfl rfl ?_
        refine wp_vrt_i (As := [.int (nI ((4) + (j))), .int (x)]) (x0 := kb ((m.2.1 81) ((4) + (j)) ≠ (x))) (h1 := HP c w (setA m 81 (upd (m.2.1 81) ((4) + (j)) (x))) v E) d_X10_let_84 lk_X10_124 mv_X10_becomes in_X10_becomes se_X10_becomes (Nat.le_of_ble_eq_true rfl) (Nat.le_of_ble_eq_true rfl) (hp_80 _ _ _ _ _) rfl (s_X10_becomes (j := (4) + (j)) (by omega) (x)) ?_
        refine wp_goto 91 d_X10_let_87 rfl ?_
        refine wp_reti d_X10_let_91 rfl ?_
        exact Or.inr ⟨j, hj, rfl, hz, rfl, rfl⟩
      · refine wp_iload_n 1 d_X10_let_33 rfl rfl ?_
        refine wp_iconst (v0 := 2) d_X10_let_34 rfl ?_
        refine wp_icmp_ne 52 d_X10_let_35 rfl (fun c35 => ?_) (fun c35 => ?_)
        · refine wp_iload_n 1 d_X10_let_52 rfl rfl ?_
          refine wp_iconst (v0 := 3) d_X10_let_53 rfl ?_
          refine wp_icmp_ne 73 d_X10_let_54 rfl (fun c54 => ?_) (fun c54 => ?_)
          · refine wp_iconst (v0 := 0) d_X10_let_73 rfl ?_
            refine wp_istore_n [(3, .int (0)), (0, .ref (80)), (1, .int (wh)), (2, .int (x))] d_X10_let_74 rfl (Nat.le_of_ble_eq_true rfl) rfl ?_
            refine wp_iload_n 0 d_X10_let_75 rfl rfl ?_
            refine wp_if_eq 90 d_X10_let_76 rfl (fun _ => ?_) (fun z => absurd z (by decide))
            refine wp_iconst (v0 := -1) d_X10_let_90 rfl ?_
            refine wp_reti d_X10_let_91 rfl ?_
            refine Or.inl ⟨?_, rfl, rfl⟩
            simp_all
          · refine wp_iload_n 2 d_X10_let_57 rfl rfl ?_
            refine wp_i2l d_X10_let_58 ?_
            refine wp_lconst (v0 := 0) d_X10_let_59 rfl ?_
            refine wp_ldc2 (v0 := 999) d_X10_let_60 cl_X10_88 ?_
            refine wp_stc_i (As := [.long (Int32.toInt64 (x)), .long (0), .long (999)]) (x0 := kb (0 ≤ (x : Int32).toInt ∧ (x : Int32).toInt ≤ 999)) (h1 := HP c w m v E) d_X10_let_63 lk_X10_74 mv_X10_in st_X10_in (Nat.le_of_ble_eq_true rfl) (Nat.le_of_ble_eq_true rfl) (s_X10_in_i _ (x) (0) (999)) ?_
            refine wp_ifb_eq 73 d_X10_let_66 rfl (fun c66 => ?_) (fun c66 => ?_)
            · refine wp_iconst (v0 := 0) d_X10_let_73 rfl ?_
              refine wp_istore_n [(3, .int (0)), (0, .ref (80)), (1, .int (wh)), (2, .int (x))] d_X10_let_74 rfl (Nat.le_of_ble_eq_true rfl) rfl ?_
              refine wp_iload_n 0 d_X10_let_75 rfl rfl ?_
              refine wp_if_eq 90 d_X10_let_76 rfl (fun _ => ?_) (fun z => absurd z (by decide))
              refine wp_iconst (v0 := -1) d_X10_let_90 rfl ?_
              refine wp_reti d_X10_let_91 rfl ?_
              refine Or.inl ⟨?_, rfl, rfl⟩
              simp_all
            · refine wp_iconst (v0 := 1) d_X10_let_69 rfl ?_
              refine wp_goto 74 d_X10_let_70 rfl ?_
              refine wp_istore_n [(3, .int (1)), (0, .ref (80)), (1, .int (wh)), (2, .int (x))] d_X10_let_74 rfl (Nat.le_of_ble_eq_true rfl) rfl ?_
              refine wp_iload_n 0 d_X10_let_75 rfl rfl ?_
              refine wp_if_eq 90 d_X10_let_76 rfl (fun z => absurd z (by decide)) (fun _ => ?_)
              have hz : (wh = 0 ∧ 0 ≤ x.toInt ∧ x.toInt ≤ 9) ∨ (wh = 1 ∧ 1 ≤ x.toInt ∧ x.toInt ≤ 3) ∨ (wh = 2 ∧ -9 ≤ x.toInt ∧ x.toInt ≤ 9) ∨ (wh = 3 ∧ 0 ≤ x.toInt ∧ x.toInt ≤ 999) := by simp_all
              obtain ⟨j, hj, rfl⟩ : ∃ j : Nat, j ≤ 3 ∧ wh = nI j := by
                rcases hz with ⟨e, -⟩ | ⟨e, -⟩ | ⟨e, -⟩ | ⟨e, -⟩
                · exact ⟨0, by omega, e⟩
                · exact ⟨1, by omega, e⟩
                · exact ⟨2, by omega, e⟩
                · exact ⟨3, by omega, e⟩
              refine wp_aload_n 1 d_X10_let_79 rfl rfl ?_
              refine wp_iconst (v0 := 4) d_X10_let_80 rfl ?_
              refine wp_iload_n 2 d_X10_let_81 rfl rfl ?_
              refine wp_iadd d_X10_let_82 ?_
              refine wp_v (v0 := nI ((4) + (j))) (nI_add (4) (j)) ?_
              refine wp_iload_n 3 d_X10_let_83 rfl rfl ?_
              refine wp_vrt_i (As := [.int (nI ((4) + (j))), .int (x)]) (x0 := kb ((m.2.1 81) ((4) + (j)) ≠ (x))) (h1 := HP c w (setA m 81 (upd (m.2.1 81) ((4) + (j)) (x))) v E) d_X10_let_84 lk_X10_124 mv_X10_becomes in_X10_becomes se_X10_becomes (Nat.le_of_ble_eq_true rfl) (Nat.le_of_ble_eq_true rfl) (hp_80 _ _ _ _ _) rfl (s_X10_becomes (j := (4) + (j)) (by omega) (x)) ?_
              refine wp_goto 91 d_X10_let_87 rfl ?_
              refine wp_reti d_X10_let_91 rfl ?_
              exact Or.inr ⟨j, hj, rfl, hz, rfl, rfl⟩
        · refine wp_iload_n 2 d_X10_let_38 rfl rfl ?_
          refine wp_i2l d_X10_let_39 ?_
          refine wp_ldc2 (v0 := -9) d_X10_let_40 cl_X10_84 ?_
          refine wp_ldc2 (v0 := 9) d_X10_let_43 cl_X10_86 ?_
          refine wp_stc_i (As := [.long (Int32.toInt64 (x)), .long ((-9)), .long (9)]) (x0 := kb ((-9) ≤ (x : Int32).toInt ∧ (x : Int32).toInt ≤ 9)) (h1 := HP c w m v E) d_X10_let_46 lk_X10_74 mv_X10_in st_X10_in (Nat.le_of_ble_eq_true rfl) (Nat.le_of_ble_eq_true rfl) (s_X10_in_i _ (x) ((-9)) (9)) ?_
          refine wp_ifb_ne 69 d_X10_let_49 rfl (fun c49 => ?_) (fun c49 => ?_)
          · refine wp_iconst (v0 := 1) d_X10_let_69 rfl ?_
            refine wp_goto 74 d_X10_let_70 rfl ?_
            refine wp_istore_n [(3, .int (1)), (0, .ref (80)), (1, .int (wh)), (2, .int (x))] d_X10_let_74 rfl (Nat.le_of_ble_eq_true rfl) rfl ?_
            refine wp_iload_n 0 d_X10_let_75 rfl rfl ?_
            refine wp_if_eq 90 d_X10_let_76 rfl (fun z => absurd z (by decide)) (fun _ => ?_)
            have hz : (wh = 0 ∧ 0 ≤ x.toInt ∧ x.toInt ≤ 9) ∨ (wh = 1 ∧ 1 ≤ x.toInt ∧ x.toInt ≤ 3) ∨ (wh = 2 ∧ -9 ≤ x.toInt ∧ x.toInt ≤ 9) ∨ (wh = 3 ∧ 0 ≤ x.toInt ∧ x.toInt ≤ 999) := by simp_all
            obtain ⟨j, hj, rfl⟩ : ∃ j : Nat, j ≤ 3 ∧ wh = nI j := by
              rcases hz with ⟨e, -⟩ | ⟨e, -⟩ | ⟨e, -⟩ | ⟨e, -⟩
              · exact ⟨0, by omega, e⟩
              · exact ⟨1, by omega, e⟩
              · exact ⟨2, by omega, e⟩
              · exact ⟨3, by omega, e⟩
            refine wp_aload_n 1 d_X10_let_79 rfl rfl ?_
            refine wp_iconst (v0 := 4) d_X10_let_80 rfl ?_
            refine wp_iload_n 2 d_X10_let_81 rfl rfl ?_
            refine wp_iadd d_X10_let_82 ?_
            refine wp_v (v0 := nI ((4) + (j))) (nI_add (4) (j)) ?_
            refine wp_iload_n 3 d_X10_let_83 rfl rfl ?_
            refine wp_vrt_i (As := [.int (nI ((4) + (j))), .int (x)]) (x0 := kb ((m.2.1 81) ((4) + (j)) ≠ (x))) (h1 := HP c w (setA m 81 (upd (m.2.1 81) ((4) + (j)) (x))) v E) d_X10_let_84 lk_X10_124 mv_X10_becomes in_X10_becomes se_X10_becomes (Nat.le_of_ble_eq_true rfl) (Nat.le_of_ble_eq_true rfl) (hp_80 _ _ _ _ _) rfl (s_X10_becomes (j := (4) + (j)) (by omega) (x)) ?_
            refine wp_goto 91 d_X10_let_87 rfl ?_
            refine wp_reti d_X10_let_91 rfl ?_
            exact Or.inr ⟨j, hj, rfl, hz, rfl, rfl⟩
          · refine wp_iload_n 1 d_X10_let_52 rfl rfl ?_
            refine wp_iconst (v0 := 3) d_X10_let_53 rfl ?_
            refine wp_icmp_ne 73 d_X10_let_54 rfl (fun c54 => ?_) (fun c54 => ?_)
            · refine wp_iconst (v0 := 0) d_X10_let_73 rfl ?_
              refine wp_istore_n [(3, .int (0)), (0, .ref (80)), (1, .int (wh)), (2, .int (x))] d_X10_let_74 rfl (Nat.le_of_ble_eq_true rfl) rfl ?_
              refine wp_iload_n 0 d_X10_let_75 rfl rfl ?_
              refine wp_if_eq 90 d_X10_let_76 rfl (fun _ => ?_) (fun z => absurd z (by decide))
              refine wp_iconst (v0 := -1) d_X10_let_90 rfl ?_
              refine wp_reti d_X10_let_91 rfl ?_
              refine Or.inl ⟨?_, rfl, rfl⟩
              simp_all
            · refine wp_iload_n 2 d_X10_let_57 rfl rfl ?_
              refine wp_i2l d_X10_let_58 ?_
              refine wp_lconst (v0 := 0) d_X10_let_59 rfl ?_
              refine wp_ldc2 (v0 := 999) d_X10_let_60 cl_X10_88 ?_
              refine wp_stc_i (As := [.long (Int32.toInt64 (x)), .long (0), .long (999)]) (x0 := kb (0 ≤ (x : Int32).toInt ∧ (x : Int32).toInt ≤ 999)) (h1 := HP c w m v E) d_X10_let_63 lk_X10_74 mv_X10_in st_X10_in (Nat.le_of_ble_eq_true rfl) (Nat.le_of_ble_eq_true rfl) (s_X10_in_i _ (x) (0) (999)) ?_
              refine wp_ifb_eq 73 d_X10_let_66 rfl (fun c66 => ?_) (fun c66 => ?_)
              · refine wp_iconst (v0 := 0) d_X10_let_73 rfl ?_
                refine wp_istore_n [(3, .int (0)), (0, .ref (80)), (1, .int (wh)), (2, .int (x))] d_X10_let_74 rfl (Nat.le_of_ble_eq_true rfl) rfl ?_
                refine wp_iload_n 0 d_X10_let_75 rfl rfl ?_
                refine wp_if_eq 90 d_X10_let_76 rfl (fun _ => ?_) (fun z => absurd z (by decide))
                refine wp_iconst (v0 := -1) d_X10_let_90 rfl ?_
                refine wp_reti d_X10_let_91 rfl ?_
                refine Or.inl ⟨?_, rfl, rfl⟩
                simp_all
              · refine wp_iconst (v0 := 1) d_X10_let_69 rfl ?_
                refine wp_goto 74 d_X10_let_70 rfl ?_
                refine wp_istore_n [(3, .int (1)), (0, .ref (80)), (1, .int (wh)), (2, .int (x))] d_X10_let_74 rfl (Nat.le_of_ble_eq_true rfl) rfl ?_
                refine wp_iload_n 0 d_X10_let_75 rfl rfl ?_
                refine wp_if_eq 90 d_X10_let_76 rfl (fun z => absurd z (by decide)) (fun _ => ?_)
                have hz : (wh = 0 ∧ 0 ≤ x.toInt ∧ x.toInt ≤ 9) ∨ (wh = 1 ∧ 1 ≤ x.toInt ∧ x.toInt ≤ 3) ∨ (wh = 2 ∧ -9 ≤ x.toInt ∧ x.toInt ≤ 9) ∨ (wh = 3 ∧ 0 ≤ x.toInt ∧ x.toInt ≤ 999) := by simp_all
                obtain ⟨j, hj, rfl⟩ : ∃ j : Nat, j ≤ 3 ∧ wh = nI j := by
                  rcases hz with ⟨e, -⟩ | ⟨e, -⟩ | ⟨e, -⟩ | ⟨e, -⟩
                  · exact ⟨0, by omega, e⟩
                  · exact ⟨1, by omega, e⟩
                  · exact ⟨2, by omega, e⟩
                  · exact ⟨3, by omega, e⟩
                refine wp_aload_n 1 d_X10_let_79 rfl rfl ?_
                refine wp_iconst (v0 := 4) d_X10_let_80 rfl ?_
                refine wp_iload_n 2 d_X10_let_81 rfl rfl ?_
                refine wp_iadd d_X10_let_82 ?_
                refine wp_v (v0 := nI ((4) + (j))) (nI_add (4) (j)) ?_
                refine wp_iload_n 3 d_X10_let_83 rfl rfl ?_
                refine wp_vrt_i (As := [.int (nI ((4) + (j))), .int (x)]) (x0 := kb ((m.2.1 81) ((4) + (j)) ≠ (x))) (h1 := HP c w (setA m 81 (upd (m.2.1 81) ((4) + (j)) (x))) v E) d_X10_let_84 lk_X10_124 mv_X10_becomes in_X10_becomes se_X10_becomes (Nat.le_of_ble_eq_true rfl) (Nat.le_of_ble_eq_true rfl) (hp_80 _ _ _ _ _) rfl (s_X10_becomes (j := (4) + (j)) (by omega) (x)) ?_
                refine wp_goto 91 d_X10_let_87 rfl ?_
                refine wp_reti d_X10_let_91 rfl ?_
                exact Or.inr ⟨j, hj, rfl, hz, rfl, rfl⟩
  · refine wp_iload_n 2 d_X10_let_4 rfl rfl ?_
    refine wp_i2l d_X10_let_5 ?_
    refine wp_lconst (v0 := 0) d_X10_let_6 rfl ?_
    refine wp_ldc2 (v0 := 9) d_X10_let_7 cl_X10_86 ?_
    refine wp_stc_i (As := [.long (Int32.toInt64 (x)), .long (0), .long (9)]) (x0 := kb (0 ≤ (x : Int32).toInt ∧ (x : Int32).toInt ≤ 9)) (h1 := HP c w m v E) d_X10_let_10 lk_X10_74 mv_X10_in st_X10_in (Nat.le_of_ble_eq_true rfl) (Nat.le_of_ble_eq_true rfl) (s_X10_in_i _ (x) (0) (9)) ?_
    refine wp_ifb_ne 69 d_X10_let_13 rfl (fun c13 => ?_) (fun c13 => ?_)
    · refine wp_iconst (v0 := 1) d_X10_let_69 rfl ?_
      refine wp_goto 74 d_X10_let_70 rfl ?_
      refine wp_istore_n [(3, .int (1)), (0, .ref (80)), (1, .int (wh)), (2, .int (x))] d_X10_let_74 rfl (Nat.le_of_ble_eq_true rfl) rfl ?_
      refine wp_iload_n 0 d_X10_let_75 rfl rfl ?_
      refine wp_if_eq 90 d_X10_let_76 rfl (fun z => absurd z (by decide)) (fun _ => ?_)
      have hz : (wh = 0 ∧ 0 ≤ x.toInt ∧ x.toInt ≤ 9) ∨ (wh = 1 ∧ 1 ≤ x.toInt ∧ x.toInt ≤ 3) ∨ (wh = 2 ∧ -9 ≤ x.toInt ∧ x.toInt ≤ 9) ∨ (wh = 3 ∧ 0 ≤ x.toInt ∧ x.toInt ≤ 999) := by simp_all
      obtain ⟨j, hj, rfl⟩ : ∃ j : Nat, j ≤ 3 ∧ wh = nI j := by
        rcases hz with ⟨e, -⟩ | ⟨e, -⟩ | ⟨e, -⟩ | ⟨e, -⟩
        · exact ⟨0, by omega, e⟩
        · exact ⟨1, by omega, e⟩
        · exact ⟨2, by omega, e⟩
        · exact ⟨3, by omega, e⟩
      refine wp_aload_n 1 d_X10_let_79 rfl rfl ?_
      refine wp_iconst (v0 := 4) d_X10_let_80 rfl ?_
      refine wp_iload_n 2 d_X10_let_81 rfl rfl ?_
      refine wp_iadd d_X10_let_82 ?_
      refine wp_v (v0 := nI ((4) + (j))) (nI_add (4) (j)) ?_
      refine wp_iload_n 3 d_X10_let_83 rfl rfl ?_
      refine wp_vrt_i (As := [.int (nI ((4) + (j))), .int (x)]) (x0 := kb ((m.2.1 81) ((4) + (j)) ≠ (x))) (h1 := HP c w (setA m 81 (upd (m.2.1 81) ((4) + (j)) (x))) v E) d_X10_let_84 lk_X10_124 mv_X10_becomes in_X10_becomes se_X10_becomes (Nat.le_of_ble_eq_true rfl) (Nat.le_of_ble_eq_true rfl) (hp_80 _ _ _ _ _) rfl (s_X10_becomes (j := (4) + (j)) (by omega) (x)) ?_
      refine wp_goto 91 d_X10_let_87 rfl ?_
      refine wp_reti d_X10_let_91 rfl ?_
      exact Or.inr ⟨j, hj, rfl, hz, rfl, rfl⟩
    · refine wp_iload_n 1 d_X10_let_16 rfl rfl ?_
      refine wp_iconst (v0 := 1) d_X10_let_17 rfl ?_
      refine wp_icmp_ne 33 d_X10_let_18 rfl (fun c18 => ?_) (fun c18 => ?_)
      · refine wp_iload_n 1 d_X10_let_33 rfl rfl ?_
        refine wp_iconst (v0 := 2) d_X10_let_34 rfl ?_
        refine wp_icmp_ne 52 d_X10_let_35 rfl (fun c35 => ?_) (fun c35 => ?_)
        · refine wp_iload_n 1 d_X10_let_52 rfl rfl ?_
          refine wp_iconst (v0 := 3) d_X10_let_53 rfl ?_
          refine wp_icmp_ne 73 d_X10_let_54 rfl (fun c54 => ?_) (fun c54 => ?_)
          · refine wp_iconst (v0 := 0) d_X10_let_73 rfl ?_
            refine wp_istore_n [(3, .int (0)), (0, .ref (80)), (1, .int (wh)), (2, .int (x))] d_X10_let_74 rfl (Nat.le_of_ble_eq_true rfl) rfl ?_
            refine wp_iload_n 0 d_X10_let_75 rfl rfl ?_
            refine wp_if_eq 90 d_X10_let_76 rfl (fun _ => ?_) (fun z => absurd z (by decide))
            refine wp_iconst (v0 := -1) d_X10_let_90 rfl ?_
            refine wp_reti d_X10_let_91 rfl ?_
            refine Or.inl ⟨?_, rfl, rfl⟩
            simp_all
          · refine wp_iload_n 2 d_X10_let_57 rfl rfl ?_
            refine wp_i2l d_X10_let_58 ?_
            refine wp_lconst (v0 := 0) d_X10_let_59 rfl ?_
            refine wp_ldc2 (v0 := 999) d_X10_let_60 cl_X10_88 ?_
            refine wp_stc_i (As := [.long (Int32.toInt64 (x)), .long (0), .long (999)]) (x0 := kb (0 ≤ (x : Int32).toInt ∧ (x : Int32).toInt ≤ 999)) (h1 := HP c w m v E) d_X10_let_63 lk_X10_74 mv_X10_in st_X10_in (Nat.le_of_ble_eq_true rfl) (Nat.le_of_ble_eq_true rfl) (s_X10_in_i _ (x) (0) (999)) ?_
            refine wp_ifb_eq 73 d_X10_let_66 rfl (fun c66 => ?_) (fun c66 => ?_)
            · refine wp_iconst (v0 := 0) d_X10_let_73 rfl ?_
              refine wp_istore_n [(3, .int (0)), (0, .ref (80)), (1, .int (wh)), (2, .int (x))] d_X10_let_74 rfl (Nat.le_of_ble_eq_true rfl) rfl ?_
              refine wp_iload_n 0 d_X10_let_75 rfl rfl ?_
              refine wp_if_eq 90 d_X10_let_76 rfl (fun _ => ?_) (fun z => absurd z (by decide))
              refine wp_iconst (v0 := -1) d_X10_let_90 rfl ?_
              refine wp_reti d_X10_let_91 rfl ?_
              refine Or.inl ⟨?_, rfl, rfl⟩
              simp_all
            · refine wp_iconst (v0 := 1) d_X10_let_69 rfl ?_
              refine wp_goto 74 d_X10_let_70 rfl ?_
              refine wp_istore_n [(3, .int (1)), (0, .ref (80)), (1, .int (wh)), (2, .int (x))] d_X10_let_74 rfl (Nat.le_of_ble_eq_true rfl) rfl ?_
              refine wp_iload_n 0 d_X10_let_75 rfl rfl ?_
              refine wp_if_eq 90 d_X10_let_76 rfl (fun z => absurd z (by decide)) (fun _ => ?_)
              have hz : (wh = 0 ∧ 0 ≤ x.toInt ∧ x.toInt ≤ 9) ∨ (wh = 1 ∧ 1 ≤ x.toInt ∧ x.toInt ≤ 3) ∨ (wh = 2 ∧ -9 ≤ x.toInt ∧ x.toInt ≤ 9) ∨ (wh = 3 ∧ 0 ≤ x.toInt ∧ x.toInt ≤ 999) := by simp_all
              obtain ⟨j, hj, rfl⟩ : ∃ j : Nat, j ≤ 3 ∧ wh = nI j := by
                rcases hz with ⟨e, -⟩ | ⟨e, -⟩ | ⟨e, -⟩ | ⟨e, -⟩
                · exact ⟨0, by omega, e⟩
                · exact ⟨1, by omega, e⟩
                · exact ⟨2, by omega, e⟩
                · exact ⟨3, by omega, e⟩
              refine wp_aload_n 1 d_X10_let_79 rfl rfl ?_
              refine wp_iconst (v0 := 4) d_X10_let_80 rfl ?_
              refine wp_iload_n 2 d_X10_let_81 rfl rfl ?_
              refine wp_iadd d_X10_let_82 ?_
              refine wp_v (v0 := nI ((4) + (j))) (nI_add (4) (j)) ?_
              refine wp_iload_n 3 d_X10_let_83 rfl rfl ?_
              refine wp_vrt_i (As := [.int (nI ((4) + (j))), .int (x)]) (x0 := kb ((m.2.1 81) ((4) + (j)) ≠ (x))) (h1 := HP c w (setA m 81 (upd (m.2.1 81) ((4) + (j)) (x))) v E) d_X10_let_84 lk_X10_124 mv_X10_becomes in_X10_becomes se_X10_becomes (Nat.le_of_ble_eq_true rfl) (Nat.le_of_ble_eq_true rfl) (hp_80 _ _ _ _ _) rfl (s_X10_becomes (j := (4) + (j)) (by omega) (x)) ?_
              refine wp_goto 91 d_X10_let_87 rfl ?_
              refine wp_reti d_X10_let_91 rfl ?_
              exact Or.inr ⟨j, hj, rfl, hz, rfl, rfl⟩
        · refine wp_iload_n 2 d_X10_let_38 rfl rfl ?_
          refine wp_i2l d_X10_let_39 ?_
          refine wp_ldc2 (v0 := -9) d_X10_let_40 cl_X10_84 ?_
          refine wp_ldc2 (v0 := 9) d_X10_let_43 cl_X10_86 ?_
          refine wp_stc_i (As := [.long (Int32.toInt64 (x)), .long ((-9)), .long (9)]) (x0 := kb ((-9) ≤ (x : Int32).toInt ∧ (x : Int32).toInt ≤ 9)) (h1 := HP c w m v E) d_X10_let_46 lk_X10_74 mv_X10_in st_X10_in (Nat.le_of_ble_eq_true rfl) (Nat.le_of_ble_eq_true rfl) (s_X10_in_i _ (x) ((-9)) (9)) ?_
          refine wp_ifb_ne 69 d_X10_let_49 rfl (fun c49 => ?_) (fun c49 => ?_)
          · refine wp_iconst (v0 := 1) d_X10_let_69 rfl ?_
            refine wp_goto 74 d_X10_let_70 rfl ?_
            refine wp_istore_n [(3, .int (1)), (0, .ref (80)), (1, .int (wh)), (2, .int (x))] d_X10_let_74 rfl (Nat.le_of_ble_eq_true rfl) rfl ?_
            refine wp_iload_n 0 d_X10_let_75 rfl rfl ?_
            refine wp_if_eq 90 d_X10_let_76 rfl (fun z => absurd z (by decide)) (fun _ => ?_)
            have hz : (wh = 0 ∧ 0 ≤ x.toInt ∧ x.toInt ≤ 9) ∨ (wh = 1 ∧ 1 ≤ x.toInt ∧ x.toInt ≤ 3) ∨ (wh = 2 ∧ -9 ≤ x.toInt ∧ x.toInt ≤ 9) ∨ (wh = 3 ∧ 0 ≤ x.toInt ∧ x.toInt ≤ 999) := by simp_all
            obtain ⟨j, hj, rfl⟩ : ∃ j : Nat, j ≤ 3 ∧ wh = nI j := by
              rcases hz with ⟨e, -⟩ | ⟨e, -⟩ | ⟨e, -⟩ | ⟨e, -⟩
              · exact ⟨0, by omega, e⟩
              · exact ⟨1, by omega, e⟩
              · exact ⟨2, by omega, e⟩
              · exact ⟨3, by omega, e⟩
            refine wp_aload_n 1 d_X10_let_79 rfl rfl ?_
            refine wp_iconst (v0 := 4) d_X10_let_80 rfl ?_
            refine wp_iload_n 2 d_X10_let_81 rfl rfl ?_
            refine wp_iadd d_X10_let_82 ?_
            refine wp_v (v0 := nI ((4) + (j))) (nI_add (4) (j)) ?_
            refine wp_iload_n 3 d_X10_let_83 rfl rfl ?_
            refine wp_vrt_i (As := [.int (nI ((4) + (j))), .int (x)]) (x0 := kb ((m.2.1 81) ((4) + (j)) ≠ (x))) (h1 := HP c w (setA m 81 (upd (m.2.1 81) ((4) + (j)) (x))) v E) d_X10_let_84 lk_X10_124 mv_X10_becomes in_X10_becomes se_X10_becomes (Nat.le_of_ble_eq_true rfl) (Nat.le_of_ble_eq_true rfl) (hp_80 _ _ _ _ _) rfl (s_X10_becomes (j := (4) + (j)) (by omega) (x)) ?_
            refine wp_goto 91 d_X10_let_87 rfl ?_
            refine wp_reti d_X10_let_91 rfl ?_
            exact Or.inr ⟨j, hj, rfl, hz, rfl, rfl⟩
          · refine wp_iload_n 1 d_X10_let_52 rfl rfl ?_
            refine wp_iconst (v0 := 3) d_X10_let_53 rfl ?_
            refine wp_icmp_ne 73 d_X10_let_54 rfl (fun c54 => ?_) (fun c54 => ?_)
            · refine wp_iconst (v0 := 0) d_X10_let_73 rfl ?_
              refine wp_istore_n [(3, .int (0)), (0, .ref (80)), (1, .int (wh)), (2, .int (x))] d_X10_let_74 rfl (Nat.le_of_ble_eq_true rfl) rfl ?_
              refine wp_iload_n 0 d_X10_let_75 rfl rfl ?_
              refine wp_if_eq 90 d_X10_let_76 rfl (fun _ => ?_) (fun z => absurd z (by decide))
              refine wp_iconst (v0 := -1) d_X10_let_90 rfl ?_
              refine wp_reti d_X10_let_91 rfl ?_
              refine Or.inl ⟨?_, rfl, rfl⟩
              simp_all
            · refine wp_iload_n 2 d_X10_let_57 rfl rfl ?_
              refine wp_i2l d_X10_let_58 ?_
              refine wp_lconst (v0 := 0) d_X10_let_59 rfl ?_
              refine wp_ldc2 (v0 := 999) d_X10_let_60 cl_X10_88 ?_
              refine wp_stc_i (As := [.long (Int32.toInt64 (x)), .long (0), .long (999)]) (x0 := kb (0 ≤ (x : Int32).toInt ∧ (x : Int32).toInt ≤ 999)) (h1 := HP c w m v E) d_X10_let_63 lk_X10_74 mv_X10_in st_X10_in (Nat.le_of_ble_eq_true rfl) (Nat.le_of_ble_eq_true rfl) (s_X10_in_i _ (x) (0) (999)) ?_
              refine wp_ifb_eq 73 d_X10_let_66 rfl (fun c66 => ?_) (fun c66 => ?_)
              · refine wp_iconst (v0 := 0) d_X10_let_73 rfl ?_
                refine wp_istore_n [(3, .int (0)), (0, .ref (80)), (1, .int (wh)), (2, .int (x))] d_X10_let_74 rfl (Nat.le_of_ble_eq_true rfl) rfl ?_
                refine wp_iload_n 0 d_X10_let_75 rfl rfl ?_
                refine wp_if_eq 90 d_X10_let_76 rfl (fun _ => ?_) (fun z => absurd z (by decide))
                refine wp_iconst (v0 := -1) d_X10_let_90 rfl ?_
                refine wp_reti d_X10_let_91 rfl ?_
                refine Or.inl ⟨?_, rfl, rfl⟩
                simp_all
              · refine wp_iconst (v0 := 1) d_X10_let_69 rfl ?_
                refine wp_goto 74 d_X10_let_70 rfl ?_
                refine wp_istore_n [(3, .int (1)), (0, .ref (80)), (1, .int (wh)), (2, .int (x))] d_X10_let_74 rfl (Nat.le_of_ble_eq_true rfl) rfl ?_
                refine wp_iload_n 0 d_X10_let_75 rfl rfl ?_
                refine wp_if_eq 90 d_X10_let_76 rfl (fun z => absurd z (by decide)) (fun _ => ?_)
                have hz : (wh = 0 ∧ 0 ≤ x.toInt ∧ x.toInt ≤ 9) ∨ (wh = 1 ∧ 1 ≤ x.toInt ∧ x.toInt ≤ 3) ∨ (wh = 2 ∧ -9 ≤ x.toInt ∧ x.toInt ≤ 9) ∨ (wh = 3 ∧ 0 ≤ x.toInt ∧ x.toInt ≤ 999) := by simp_all
                obtain ⟨j, hj, rfl⟩ : ∃ j : Nat, j ≤ 3 ∧ wh = nI j := by
                  rcases hz with ⟨e, -⟩ | ⟨e, -⟩ | ⟨e, -⟩ | ⟨e, -⟩
                  · exact ⟨0, by omega, e⟩
                  · exact ⟨1, by omega, e⟩
                  · exact ⟨2, by omega, e⟩
                  · exact ⟨3, by omega, e⟩
                refine wp_aload_n 1 d_X10_let_79 rfl rfl ?_
                refine wp_iconst (v0 := 4) d_X10_let_80 rfl ?_
                refine wp_iload_n 2 d_X10_let_81 rfl rfl ?_
                refine wp_iadd d_X10_let_82 ?_
                refine wp_v (v0 := nI ((4) + (j))) (nI_add (4) (j)) ?_
                refine wp_iload_n 3 d_X10_let_83 rfl rfl ?_
                refine wp_vrt_i (As := [.int (nI ((4) + (j))), .int (x)]) (x0 := kb ((m.2.1 81) ((4) + (j)) ≠ (x))) (h1 := HP c w (setA m 81 (upd (m.2.1 81) ((4) + (j)) (x))) v E) d_X10_let_84 lk_X10_124 mv_X10_becomes in_X10_becomes se_X10_becomes (Nat.le_of_ble_eq_true rfl) (Nat.le_of_ble_eq_true rfl) (hp_80 _ _ _ _ _) rfl (s_X10_becomes (j := (4) + (j)) (by omega) (x)) ?_
                refine wp_goto 91 d_X10_let_87 rfl ?_
                refine wp_reti d_X10_let_91 rfl ?_
                exact Or.inr ⟨j, hj, rfl, hz, rfl, rfl⟩
      · refine wp_iload_n 2 d_X10_let_21 rfl rfl ?_
        refine wp_i2l d_X10_let_22 ?_
        refine wp_lconst (v0 := 1) d_X10_let_23 rfl ?_
        refine wp_ldc2 (v0 := 3) d_X10_let_24 cl_X10_127 ?_
        refine wp_stc_i (As := [.long (Int32.toInt64 (x)), .long (1), .long (3)]) (x0 := kb (1 ≤ (x : Int32).toInt ∧ (x : Int32).toInt ≤ 3)) (h1 := HP c w m v E) d_X10_let_27 lk_X10_74 mv_X10_in st_X10_in (Nat.le_of_ble_eq_true rfl) (Nat.le_of_ble_eq_true rfl) (s_X10_in_i _ (x) (1) (3)) ?_
        refine wp_ifb_ne 69 d_X10_let_30 rfl (fun c30 => ?_) (fun c30 => ?_)
        · refine wp_iconst (v0 := 1) d_X10_let_69 rfl ?_
          refine wp_goto 74 d_X10_let_70 rfl ?_
          refine wp_istore_n [(3, .int (1)), (0, .ref (80)), (1, .int (wh)), (2, .int (x))] d_X10_let_74 rfl (Nat.le_of_ble_eq_true rfl) rfl ?_
          refine wp_iload_n 0 d_X10_let_75 rfl rfl ?_
          refine wp_if_eq 90 d_X10_let_76 rfl (fun z => absurd z (by decide)) (fun _ => ?_)
          have hz : (wh = 0 ∧ 0 ≤ x.toInt ∧ x.toInt ≤ 9) ∨ (wh = 1 ∧ 1 ≤ x.toInt ∧ x.toInt ≤ 3) ∨ (wh = 2 ∧ -9 ≤ x.toInt ∧ x.toInt ≤ 9) ∨ (wh = 3 ∧ 0 ≤ x.toInt ∧ x.toInt ≤ 999) := by simp_all
          obtain ⟨j, hj, rfl⟩ : ∃ j : Nat, j ≤ 3 ∧ wh = nI j := by
            rcases hz with ⟨e, -⟩ | ⟨e, -⟩ | ⟨e, -⟩ | ⟨e, -⟩
            · exact ⟨0, by omega, e⟩
            · exact ⟨1, by omega, e⟩
            · exact ⟨2, by omega, e⟩
            · exact ⟨3, by omega, e⟩
          refine wp_aload_n 1 d_X10_let_79 rfl rfl ?_
          refine wp_iconst (v0 := 4) d_X10_let_80 rfl ?_
          refine wp_iload_n 2 d_X10_let_81 rfl rfl ?_
          refine wp_iadd d_X10_let_82 ?_
          refine wp_v (v0 := nI ((4) + (j))) (nI_add (4) (j)) ?_
          refine wp_iload_n 3 d_X10_let_83 rfl rfl ?_
          refine wp_vrt_i (As := [.int (nI ((4) + (j))), .int (x)]) (x0 := kb ((m.2.1 81) ((4) + (j)) ≠ (x))) (h1 := HP c w (setA m 81 (upd (m.2.1 81) ((4) + (j)) (x))) v E) d_X10_let_84 lk_X10_124 mv_X10_becomes in_X10_becomes se_X10_becomes (Nat.le_of_ble_eq_true rfl) (Nat.le_of_ble_eq_true rfl) (hp_80 _ _ _ _ _) rfl (s_X10_becomes (j := (4) + (j)) (by omega) (x)) ?_
          refine wp_goto 91 d_X10_let_87 rfl ?_
          refine wp_reti d_X10_let_91 rfl ?_
          exact Or.inr ⟨j, hj, rfl, hz, rfl, rfl⟩
        · refine wp_iload_n 1 d_X10_let_33 rfl rfl ?_
          refine wp_iconst (v0 := 2) d_X10_let_34 rfl ?_
          refine wp_icmp_ne 52 d_X10_let_35 rfl (fun c35 => ?_) (fun c35 => ?_)
          · refine wp_iload_n 1 d_X10_let_52 rfl rfl ?_
            refine wp_iconst (v0 := 3) d_X10_let_53 rfl ?_
            refine wp_icmp_ne 73 d_X10_let_54 rfl (fun c54 => ?_) (fun c54 => ?_)
            · refine wp_iconst (v0 := 0) d_X10_let_73 rfl ?_
              refine wp_istore_n [(3, .int (0)), (0, .ref (80)), (1, .int (wh)), (2, .int (x))] d_X10_let_74 rfl (Nat.le_of_ble_eq_true rfl) rfl ?_
              refine wp_iload_n 0 d_X10_let_75 rfl rfl ?_
              refine wp_if_eq 90 d_X10_let_76 rfl (fun _ => ?_) (fun z => absurd z (by decide))
              refine wp_iconst (v0 := -1) d_X10_let_90 rfl ?_
              refine wp_reti d_X10_let_91 rfl ?_
              refine Or.inl ⟨?_, rfl, rfl⟩
              simp_all
            · refine wp_iload_n 2 d_X10_let_57 rfl rfl ?_
              refine wp_i2l d_X10_let_58 ?_
              refine wp_lconst (v0 := 0) d_X10_let_59 rfl ?_
              refine wp_ldc2 (v0 := 999) d_X10_let_60 cl_X10_88 ?_
              refine wp_stc_i (As := [.long (Int32.toInt64 (x)), .long (0), .long (999)]) (x0 := kb (0 ≤ (x : Int32).toInt ∧ (x : Int32).toInt ≤ 999)) (h1 := HP c w m v E) d_X10_let_63 lk_X10_74 mv_X10_in st_X10_in (Nat.le_of_ble_eq_true rfl) (Nat.le_of_ble_eq_true rfl) (s_X10_in_i _ (x) (0) (999)) ?_
              refine wp_ifb_eq 73 d_X10_let_66 rfl (fun c66 => ?_) (fun c66 => ?_)
              · refine wp_iconst (v0 := 0) d_X10_let_73 rfl ?_
                refine wp_istore_n [(3, .int (0)), (0, .ref (80)), (1, .int (wh)), (2, .int (x))] d_X10_let_74 rfl (Nat.le_of_ble_eq_true rfl) rfl ?_
                refine wp_iload_n 0 d_X10_let_75 rfl rfl ?_
                refine wp_if_eq 90 d_X10_let_76 rfl (fun _ => ?_) (fun z => absurd z (by decide))
                refine wp_iconst (v0 := -1) d_X10_let_90 rfl ?_
                refine wp_reti d_X10_let_91 rfl ?_
                refine Or.inl ⟨?_, rfl, rfl⟩
                simp_all
              · refine wp_iconst (v0 := 1) d_X10_let_69 rfl ?_
                refine wp_goto 74 d_X10_let_70 rfl ?_
                refine wp_istore_n [(3, .int (1)), (0, .ref (80)), (1, .int (wh)), (2, .int (x))] d_X10_let_74 rfl (Nat.le_of_ble_eq_true rfl) rfl ?_
                refine wp_iload_n 0 d_X10_let_75 rfl rfl ?_
                refine wp_if_eq 90 d_X10_let_76 rfl (fun z => absurd z (by decide)) (fun _ => ?_)
                have hz : (wh = 0 ∧ 0 ≤ x.toInt ∧ x.toInt ≤ 9) ∨ (wh = 1 ∧ 1 ≤ x.toInt ∧ x.toInt ≤ 3) ∨ (wh = 2 ∧ -9 ≤ x.toInt ∧ x.toInt ≤ 9) ∨ (wh = 3 ∧ 0 ≤ x.toInt ∧ x.toInt ≤ 999) := by simp_all
                obtain ⟨j, hj, rfl⟩ : ∃ j : Nat, j ≤ 3 ∧ wh = nI j := by
                  rcases hz with ⟨e, -⟩ | ⟨e, -⟩ | ⟨e, -⟩ | ⟨e, -⟩
                  · exact ⟨0, by omega, e⟩
                  · exact ⟨1, by omega, e⟩
                  · exact ⟨2, by omega, e⟩
                  · exact ⟨3, by omega, e⟩
                refine wp_aload_n 1 d_X10_let_79 rfl rfl ?_
                refine wp_iconst (v0 := 4) d_X10_let_80 rfl ?_
                refine wp_iload_n 2 d_X10_let_81 rfl rfl ?_
                refine wp_iadd d_X10_let_82 ?_
                refine wp_v (v0 := nI ((4) + (j))) (nI_add (4) (j)) ?_
                refine wp_iload_n 3 d_X10_let_83 rfl rfl ?_
                refine wp_vrt_i (As := [.int (nI ((4) + (j))), .int (x)]) (x0 := kb ((m.2.1 81) ((4) + (j)) ≠ (x))) (h1 := HP c w (setA m 81 (upd (m.2.1 81) ((4) + (j)) (x))) v E) d_X10_let_84 lk_X10_124 mv_X10_becomes in_X10_becomes se_X10_becomes (Nat.le_of_ble_eq_true rfl) (Nat.le_of_ble_eq_true rfl) (hp_80 _ _ _ _ _) rfl (s_X10_becomes (j := (4) + (j)) (by omega) (x)) ?_
                refine wp_goto 91 d_X10_let_87 rfl ?_
                refine wp_reti d_X10_let_91 rfl ?_
                exact Or.inr ⟨j, hj, rfl, hz, rfl, rfl⟩
          · refine wp_iload_n 2 d_X10_let_38 rfl rfl ?_
            refine wp_i2l d_X10_let_39 ?_
            refine wp_ldc2 (v0 := -9) d_X10_let_40 cl_X10_84 ?_
            refine wp_ldc2 (v0 := 9) d_X10_let_43 cl_X10_86 ?_
            refine wp_stc_i (As := [.long (Int32.toInt64 (x)), .long ((-9)), .long (9)]) (x0 := kb ((-9) ≤ (x : Int32).toInt ∧ (x : Int32).toInt ≤ 9)) (h1 := HP c w m v E) d_X10_let_46 lk_X10_74 mv_X10_in st_X10_in (Nat.le_of_ble_eq_true rfl) (Nat.le_of_ble_eq_true rfl) (s_X10_in_i _ (x) ((-9)) (9)) ?_
            refine wp_ifb_ne 69 d_X10_let_49 rfl (fun c49 => ?_) (fun c49 => ?_)
            · refine wp_iconst (v0 := 1) d_X10_let_69 rfl ?_
              refine wp_goto 74 d_X10_let_70 rfl ?_
              refine wp_istore_n [(3, .int (1)), (0, .ref (80)), (1, .int (wh)), (2, .int (x))] d_X10_let_74 rfl (Nat.le_of_ble_eq_true rfl) rfl ?_
              refine wp_iload_n 0 d_X10_let_75 rfl rfl ?_
              refine wp_if_eq 90 d_X10_let_76 rfl (fun z => absurd z (by decide)) (fun _ => ?_)
              have hz : (wh = 0 ∧ 0 ≤ x.toInt ∧ x.toInt ≤ 9) ∨ (wh = 1 ∧ 1 ≤ x.toInt ∧ x.toInt ≤ 3) ∨ (wh = 2 ∧ -9 ≤ x.toInt ∧ x.toInt ≤ 9) ∨ (wh = 3 ∧ 0 ≤ x.toInt ∧ x.toInt ≤ 999) := by simp_all
              obtain ⟨j, hj, rfl⟩ : ∃ j : Nat, j ≤ 3 ∧ wh = nI j := by
                rcases hz with ⟨e, -⟩ | ⟨e, -⟩ | ⟨e, -⟩ | ⟨e, -⟩
                · exact ⟨0, by omega, e⟩
                · exact ⟨1, by omega, e⟩
                · exact ⟨2, by omega, e⟩
                · exact ⟨3, by omega, e⟩
              refine wp_aload_n 1 d_X10_let_79 rfl rfl ?_
              refine wp_iconst (v0 := 4) d_X10_let_80 rfl ?_
              refine wp_iload_n 2 d_X10_let_81 rfl rfl ?_
              refine wp_iadd d_X10_let_82 ?_
              refine wp_v (v0 := nI ((4) + (j))) (nI_add (4) (j)) ?_
              refine wp_iload_n 3 d_X10_let_83 rfl rfl ?_
              refine wp_vrt_i (As := [.int (nI ((4) + (j))), .int (x)]) (x0 := kb ((m.2.1 81) ((4) + (j)) ≠ (x))) (h1 := HP c w (setA m 81 (upd (m.2.1 81) ((4) + (j)) (x))) v E) d_X10_let_84 lk_X10_124 mv_X10_becomes in_X10_becomes se_X10_becomes (Nat.le_of_ble_eq_true rfl) (Nat.le_of_ble_eq_true rfl) (hp_80 _ _ _ _ _) rfl (s_X10_becomes (j := (4) + (j)) (by omega) (x)) ?_
              refine wp_goto 91 d_X10_let_87 rfl ?_
              refine wp_reti d_X10_let_91 rfl ?_
              exact Or.inr ⟨j, hj, rfl, hz, rfl, rfl⟩
            · refine wp_iload_n 1 d_X10_let_52 rfl rfl ?_
              refine wp_iconst (v0 := 3) d_X10_let_53 rfl ?_
              refine wp_icmp_ne 73 d_X10_let_54 rfl (fun c54 => ?_) (fun c54 => ?_)
              · refine wp_iconst (v0 := 0) d_X10_let_73 rfl ?_
                refine wp_istore_n [(3, .int (0)), (0, .ref (80)), (1, .int (wh)), (2, .int (x))] d_X10_let_74 rfl (Nat.le_of_ble_eq_true rfl) rfl ?_
                refine wp_iload_n 0 d_X10_let_75 rfl rfl ?_
                refine wp_if_eq 90 d_X10_let_76 rfl (fun _ => ?_) (fun z => absurd z (by decide))
                refine wp_iconst (v0 := -1) d_X10_let_90 rfl ?_
                refine wp_reti d_X10_let_91 rfl ?_
                refine Or.inl ⟨?_, rfl, rfl⟩
                simp_all
              · refine wp_iload_n 2 d_X10_let_57 rfl rfl ?_
                refine wp_i2l d_X10_let_58 ?_
                refine wp_lconst (v0 := 0) d_X10_let_59 rfl ?_
                refine wp_ldc2 (v0 := 999) d_X10_let_60 cl_X10_88 ?_
                refine wp_stc_i (As := [.long (Int32.toInt64 (x)), .long (0), .long (999)]) (x0 := kb (0 ≤ (x : Int32).toInt ∧ (x : Int32).toInt ≤ 999)) (h1 := HP c w m v E) d_X10_let_63 lk_X10_74 mv_X10_in st_X10_in (Nat.le_of_ble_eq_true rfl) (Nat.le_of_ble_eq_true rfl) (s_X10_in_i _ (x) (0) (999)) ?_
                refine wp_ifb_eq 73 d_X10_let_66 rfl (fun c66 => ?_) (fun c66 => ?_)
                · refine wp_iconst (v0 := 0) d_X10_let_73 rfl ?_
                  refine wp_istore_n [(3, .int (0)), (0, .ref (80)), (1, .int (wh)), (2, .int (x))] d_X10_let_74 rfl (Nat.le_of_ble_eq_true rfl) rfl ?_
                  refine wp_iload_n 0 d_X10_let_75 rfl rfl ?_
                  refine wp_if_eq 90 d_X10_let_76 rfl (fun _ => ?_) (fun z => absurd z (by decide))
                  refine wp_iconst (v0 := -1) d_X10_let_90 rfl ?_
                  refine wp_reti d_X10_let_91 rfl ?_
                  refine Or.inl ⟨?_, rfl, rfl⟩
                  simp_all
                · refine wp_iconst (v0 := 1) d_X10_let_69 rfl ?_
                  refine wp_goto 74 d_X10_let_70 rfl ?_
                  refine wp_istore_n [(3, .int (1)), (0, .ref (80)), (1, .int (wh)), (2, .int (x))] d_X10_let_74 rfl (Nat.le_of_ble_eq_true rfl) rfl ?_
                  refine wp_iload_n 0 d_X10_let_75 rfl rfl ?_
                  refine wp_if_eq 90 d_X10_let_76 rfl (fun z => absurd z (by decide)) (fun _ => ?_)
                  have hz : (wh = 0 ∧ 0 ≤ x.toInt ∧ x.toInt ≤ 9) ∨ (wh = 1 ∧ 1 ≤ x.toInt ∧ x.toInt ≤ 3) ∨ (wh = 2 ∧ -9 ≤ x.toInt ∧ x.toInt ≤ 9) ∨ (wh = 3 ∧ 0 ≤ x.toInt ∧ x.toInt ≤ 999) := by simp_all
                  obtain ⟨j, hj, rfl⟩ : ∃ j : Nat, j ≤ 3 ∧ wh = nI j := by
                    rcases hz with ⟨e, -⟩ | ⟨e, -⟩ | ⟨e, -⟩ | ⟨e, -⟩
                    · exact ⟨0, by omega, e⟩
                    · exact ⟨1, by omega, e⟩
                    · exact ⟨2, by omega, e⟩
                    · exact ⟨3, by omega, e⟩
                  refine wp_aload_n 1 d_X10_let_79 rfl rfl ?_
                  refine wp_iconst (v0 := 4) d_X10_let_80 rfl ?_
                  refine wp_iload_n 2 d_X10_let_81 rfl rfl ?_
                  refine wp_iadd d_X10_let_82 ?_
                  refine wp_v (v0 := nI ((4) + (j))) (nI_add (4) (j)) ?_
                  refine wp_iload_n 3 d_X10_let_83 rfl rfl ?_
                  refine wp_vrt_i (As := [.int (nI ((4) + (j))), .int (x)]) (x0 := kb ((m.2.1 81) ((4) + (j)) ≠ (x))) (h1 := HP c w (setA m 81 (upd (m.2.1 81) ((4) + (j)) (x))) v E) d_X10_let_84 lk_X10_124 mv_X10_becomes in_X10_becomes se_X10_becomes (Nat.le_of_ble_eq_true rfl) (Nat.le_of_ble_eq_true rfl) (hp_80 _ _ _ _ _) rfl (s_X10_becomes (j := (4) + (j)) (by omega) (x)) ?_
                  refine wp_goto 91 d_X10_let_87 rfl ?_
                  refine wp_reti d_X10_let_91 rfl ?_
                  exact Or.inr ⟨j, hj, rfl, hz, rfl, rfl⟩
/-- the reference's lens and turn at a place -/
def mln (s : Nat → Int32) : Nat → Int32 := fun j => s (45 + 2 * j)
def mtn (s : Nat → Int32) : Nat → Int32 := fun j => s (46 + 2 * j)
theorem s_X10_placeOf_l {X : kX} {d : Nat} {c w m v : kZ} {E : kH} {p : Nat} (hp : m.2.1 81 2 = nI p) (hp4 : p ≤ 4) (l : Int32) : ∀ (k : Nat) (i : Nat), (i + k = p) → WP X d 0 0 Y_X10_placeOf 2 [(2, .int (nI (i))), (0, .ref (80)), (1, .int (l))] [] (HP c w m v E) (kR (some (.int (kfi (mln (m.2.1 81)) l k i))) (HP c w m v E)) := by
  intro k
  induction k using Nat.strongRecOn with
  | ind k ih =>
    intro i hi
    refine wp_iload_n 0 d_X10_placeOf_2 rfl rfl ?_
    refine wp_aload_n 1 d_X10_placeOf_3 rfl rfl ?_
    refine wp_getfield (v := .ref (81)) d_X10_placeOf_4 gf_X10_7 (hp_80 _ _ _ _ _) rfl ?_
    refine wp_iconst (v0 := 2) d_X10_placeOf_7 rfl ?_
    refine wp_iaload (v := nI (p)) d_X10_placeOf_8 (hp_81 _ _ _ _ _) (kin rfl) hp ?_
    refine wp_ncmp_ge (a := i) (b := p) 35 d_X10_placeOf_9 rfl (by omega) (by omega) (fun c9 => ?_) (fun c9 => ?_)
    · refine wp_bipush (v0 := -9) d_X10_placeOf_35 (by decide) ?_
      refine wp_reti d_X10_placeOf_37 rfl ?_
      obtain rfl : k = 0 := by omega
      exact kR_i rfl rfl
    · refine wp_aload_n 1 d_X10_placeOf_12 rfl rfl ?_
      refine wp_getfield (v := .ref (81)) d_X10_placeOf_13 gf_X10_7 (hp_80 _ _ _ _ _) rfl ?_
      refine wp_bipush (v0 := 45) d_X10_placeOf_16 (by decide) ?_
      refine wp_iconst (v0 := 2) d_X10_placeOf_18 rfl ?_
      refine wp_iload_n 0 d_X10_placeOf_19 rfl rfl ?_
      refine wp_imul d_X10_placeOf_20 ?_
      refine wp_v (v0 := nI ((2) * (i))) (pk_mul (2) (i)) ?_
      refine wp_iadd d_X10_placeOf_21 ?_
      refine wp_v (v0 := nI ((45) + ((2) * (i)))) (nI_add (45) ((2) * (i))) ?_
      refine wp_iaload (v := (m.2.1 81) ((45) + ((2) * (i)))) d_X10_placeOf_22 (hp_81 _ _ _ _ _) (vp_in_nI (by omega) (by omega)) (congrArg ((m.2.1 81)) (nI_clamp (by omega))) ?_
      refine wp_iload_n 2 d_X10_placeOf_23 rfl rfl ?_
      refine wp_icmp_ne 29 d_X10_placeOf_24 rfl (fun c24 => ?_) (fun c24 => ?_)
      · refine wp_iinc (v0 := nI ((i) + 1)) [(2, .int (nI ((i) + 1))), (0, .ref (80)), (1, .int (l))] 0 d_X10_placeOf_29 rfl (nI_add (i) 1) (Nat.le_of_ble_eq_true rfl) rfl ?_
        refine wp_goto 2 d_X10_placeOf_32 rfl ?_
        obtain ⟨k1, rfl⟩ : ∃ k1, k = k1 + 1 := ⟨k - 1, by omega⟩
        have c24 : ¬ mln (m.2.1 81) i = l := c24
        simp only [kfi]; rw [if_neg c24]
        exact ih k1 (by omega) (i + 1) (by omega)
      · refine wp_iload_n 0 d_X10_placeOf_27 rfl rfl ?_
        refine wp_reti d_X10_placeOf_28 rfl ?_
        obtain ⟨k1, rfl⟩ : ∃ k1, k = k1 + 1 := ⟨k - 1, by omega⟩
        have c24 : mln (m.2.1 81) i = l := c24
        exact kR_i (by simp only [kfi]; rw [if_pos c24]) rfl
theorem s_X10_placeOf {X : kX} {d : Nat} {c w m v : kZ} {E : kH} {p : Nat} (hp : m.2.1 81 2 = nI p) (hp4 : p ≤ 4) (l : Int32) : WP X d 0 0 Y_X10_placeOf 0 [(0, .ref (80)), (1, .int (l))] [] (HP c w m v E) (kR (some (.int (kfi (mln (m.2.1 81)) l p 0))) (HP c w m v E)) := by
  refine wp_iconst (v0 := 0) d_X10_placeOf_0 rfl ?_
  refine wp_istore_n [(2, .int (0)), (0, .ref (80)), (1, .int (l))] d_X10_placeOf_1 rfl (Nat.le_of_ble_eq_true rfl) rfl ?_
  refine wp_sub [(2, .int (nI 0)), (0, .ref 80), (1, .int l)] [0, 1, 2] rfl ?_
  exact s_X10_placeOf_l hp hp4 l p 0 (by omega)
theorem s_X10_comes {X : kX} {d : Nat} {c w m v : kZ} {E : kH} {p : Nat} (hp : m.2.1 81 2 = nI p) (hp4 : p < 4) (l t : Int32) : WP X d 0 0 Y_X10_comes 0 [(0, .ref (80)), (1, .int (l)), (2, .int (t))] [] (HP c w m v E) (kR none (HP c w (setA m 81 ((upd (upd (upd (m.2.1 81) (45 + 2 * p) l) (45 + 2 * p + 1) t) 2 (nI (p + 1))))) v E)) := by
  refine wp_aload_n 0 d_X10_comes_0 rfl rfl ?_
  refine wp_getfield (v := .ref (81)) d_X10_comes_1 gf_X10_7 (hp_80 _ _ _ _ _) rfl ?_
  refine wp_bipush (v0 := 45) d_X10_comes_4 (by decide) ?_
  refine wp_iconst (v0 := 2) d_X10_comes_6 rfl ?_
  refine wp_aload_n 0 d_X10_comes_7 rfl rfl ?_
  refine wp_getfield (v := .ref (81)) d_X10_comes_8 gf_X10_7 (hp_80 _ _ _ _ _) rfl ?_
  refine wp_iconst (v0 := 2) d_X10_comes_11 rfl ?_
  refine wp_iaload (v := nI (p)) d_X10_comes_12 (hp_81 _ _ _ _ _) (kin rfl) hp ?_
  refine wp_imul d_X10_comes_13 ?_
  refine wp_v (v0 := nI ((2) * (p))) (pk_mul (2) (p)) ?_
  refine wp_iadd d_X10_comes_14 ?_
  refine wp_v (v0 := nI ((45) + ((2) * (p)))) (nI_add (45) ((2) * (p))) ?_
  refine wp_iload_n 1 d_X10_comes_15 rfl rfl ?_
  refine wp_iastore (h' := HP c w (setA m 81 (upd (m.2.1 81) ((45) + ((2) * (p))) (l))) v E) d_X10_comes_16 (hp_81 _ _ _ _ _) (vp_in_nI (by omega) (by omega)) (by rw [nI_clamp (by omega)]; exact (hpa_81 _ _ _ _ _ _)) ?_
  refine wp_aload_n 0 d_X10_comes_17 rfl rfl ?_
  refine wp_getfield (v := .ref (81)) d_X10_comes_18 gf_X10_7 (hp_80 _ _ _ _ _) rfl ?_
  refine wp_bipush (v0 := 45) d_X10_comes_21 (by decide) ?_
  refine wp_iconst (v0 := 2) d_X10_comes_23 rfl ?_
  refine wp_aload_n 0 d_X10_comes_24 rfl rfl ?_
  refine wp_getfield (v := .ref (81)) d_X10_comes_25 gf_X10_7 (hp_80 _ _ _ _ _) rfl ?_
  refine wp_iconst (v0 := 2) d_X10_comes_28 rfl ?_
  refine wp_iaload (v := nI (p)) d_X10_comes_29 (hp_81 _ _ _ _ _) (kin rfl) (show (upd (m.2.1 81) ((45) + ((2) * (p))) (l)) (2) = nI p from by (repeat rw [upd_n _ _ (by omega)]); exact hp) ?_
  refine wp_imul d_X10_comes_30 ?_
  refine wp_v (v0 := nI ((2) * (p))) (pk_mul (2) (p)) ?_
  refine wp_iadd d_X10_comes_31 ?_
  refine wp_v (v0 := nI ((45) + ((2) * (p)))) (nI_add (45) ((2) * (p))) ?_
  refine wp_iconst (v0 := 1) d_X10_comes_32 rfl ?_
  refine wp_iadd d_X10_comes_33 ?_
  refine wp_v (v0 := nI (((45) + ((2) * (p))) + (1))) (nI_add ((45) + ((2) * (p))) (1)) ?_
  refine wp_iload_n 2 d_X10_comes_34 rfl rfl ?_
  refine wp_iastore (h' := HP c w (setA (setA m 81 (upd (m.2.1 81) ((45) + ((2) * (p))) (l))) 81 (upd (upd (m.2.1 81) ((45) + ((2) * (p))) (l)) (((45) + ((2) * (p))) + (1)) (t))) v E) d_X10_comes_35 (hp_81 _ _ _ _ _) (vp_in_nI (by omega) (by omega)) (by rw [nI_clamp (by omega)]; exact (hpa_81 _ _ _ _ _ _)) ?_
  refine wp_aload_n 0 d_X10_comes_36 rfl rfl ?_
  refine wp_getfield (v := .ref (81)) d_X10_comes_37 gf_X10_7 (hp_80 _ _ _ _ _) rfl ?_
  refine wp_iconst (v0 := 2) d_X10_comes_40 rfl ?_
  refine wp_dup2 d_X10_comes_41 rfl rfl ?_
  refine wp_iaload (v := nI (p)) d_X10_comes_42 (hp_81 _ _ _ _ _) (kin rfl) (show (upd (upd (m.2.1 81) ((45) + ((2) * (p))) (l)) (((45) + ((2) * (p))) + (1)) (t)) (2) = nI p from by (repeat rw [upd_n _ _ (by omega)]); exact hp) ?_
  refine wp_iconst (v0 := 1) d_X10_comes_43 rfl ?_
  refine wp_iadd d_X10_comes_44 ?_
  refine wp_v (v0 := nI ((p) + (1))) (nI_add (p) (1)) ?_
  refine wp_iastore (h' := HP c w (setA (setA (setA m 81 (upd (m.2.1 81) ((45) + ((2) * (p))) (l))) 81 (upd (upd (m.2.1 81) ((45) + ((2) * (p))) (l)) (((45) + ((2) * (p))) + (1)) (t))) 81 (upd (upd (upd (m.2.1 81) ((45) + ((2) * (p))) (l)) (((45) + ((2) * (p))) + (1)) (t)) 2 (nI ((p) + (1))))) v E) d_X10_comes_45 (hp_81 _ _ _ _ _) (kin rfl) ((hpa_81 _ _ _ _ _ _)) ?_
  refine wp_vret d_X10_comes_46 rfl ?_
  exact ⟨rfl, by rw [setA_idem, setA_idem]⟩
theorem s_X10_fit {X : kX} {d : Nat} {c w m v : kZ} {E : kH} {n : Nat} (hn : m.2.1 81 0 = nI n) (hn9 : n ≤ 9) {p : Nat} (hp : m.2.1 81 2 = nI p) (hp4 : p ≤ 4) (l t : Int32) : WP X (d + 2) 0 0 Y_X10_fit 0 [(0, .ref (80)), (1, .int (l)), (2, .int (t))] [] (HP c w m v E) (fun r h1 => (¬ ((0 ≤ l.toInt ∧ l.toInt < (n : Int)) ∧ (0 ≤ t.toInt ∧ t.toInt ≤ 3)) ∧ r = some (.int (-1)) ∧ h1 = HP c w m v E) ∨ (((0 ≤ l.toInt ∧ l.toInt < (n : Int)) ∧ (0 ≤ t.toInt ∧ t.toInt ≤ 3)) ∧ p = 4 ∧ r = some (.int (-2)) ∧ h1 = HP c w m v E) ∨ (((0 ≤ l.toInt ∧ l.toInt < (n : Int)) ∧ (0 ≤ t.toInt ∧ t.toInt ≤ 3)) ∧ p < 4 ∧ kfi (mln (m.2.1 81)) l p 0 ≠ -9 ∧ r = some (.int (-4)) ∧ h1 = HP c w m v E) ∨ (((0 ≤ l.toInt ∧ l.toInt < (n : Int)) ∧ (0 ≤ t.toInt ∧ t.toInt ≤ 3)) ∧ p < 4 ∧ kfi (mln (m.2.1 81)) l p 0 = -9 ∧ r = some (.int (nI p)) ∧ h1 = HP c w (setA m 81 (upd (upd (upd (m.2.1 81) (45 + 2 * p) l) (45 + 2 * p + 1) t) 2 (nI (p + 1)))) v E)) := by
  refine wp_aload_n 0 d_X10_fit_0 rfl rfl ?_
  refine wp_iload_n 1 d_X10_fit_1 rfl rfl ?_
  refine wp_vrt_i (As := [.int (l)]) (x0 := kb (0 ≤ ((l) : Int32).toInt ∧ ((l) : Int32).toInt < (n : Int))) (h1 := HP c w m v E) d_X10_fit_2 lk_X10_114 mv_X10_isLens in_X10_isLens se_X10_isLens (Nat.le_of_ble_eq_true rfl) (Nat.le_of_ble_eq_true rfl) (hp_80 _ _ _ _ _) rfl (s_X10_isLens hn (by omega) (l)) ?_
  refine wp_ifb_eq 15 d_X10_fit_5 rfl (fun c5 => ?_) (fun c5 => ?_)
  · refine wp_iconst (v0 := -1) d_X10_fit_15 rfl ?_
    refine wp_reti d_X10_fit_16 rfl ?_
    exact Or.inl ⟨by omega, rfl, rfl⟩
  · refine wp_iload_n 2 d_X10_fit_8 rfl rfl ?_
    refine wp_stc_i (As := [.int (t)]) (x0 := kb (0 ≤ (t : Int32).toInt ∧ (t : Int32).toInt ≤ 3)) (h1 := HP c w m v E) d_X10_fit_9 lk_X10_173 mv_X10_isTurn st_X10_isTurn (Nat.le_of_ble_eq_true rfl) (Nat.le_of_ble_eq_true rfl) (s_X10_isTurn _ (t : Int32)) ?_
    refine wp_ifb_ne 17 d_X10_fit_12 rfl (fun c12 => ?_) (fun c12 => ?_)
    · refine wp_aload_n 0 d_X10_fit_17 rfl rfl ?_
      refine wp_getfield (v := .ref (81)) d_X10_fit_18 gf_X10_7 (hp_80 _ _ _ _ _) rfl ?_
      refine wp_iconst (v0 := 2) d_X10_fit_21 rfl ?_
      refine wp_iaload (v := nI (p)) d_X10_fit_22 (hp_81 _ _ _ _ _) (kin rfl) hp ?_
      refine wp_iconst (v0 := 4) d_X10_fit_23 rfl ?_
      refine wp_ncmp_ne (a := p) (b := 4) 30 d_X10_fit_24 rfl (by omega) (by omega) (fun c24 => ?_) (fun c24 => ?_)
      · have hp5 : p < 4 := by omega
        refine wp_aload_n 0 d_X10_fit_30 rfl rfl ?_
        refine wp_iload_n 1 d_X10_fit_31 rfl rfl ?_
        refine wp_vrt_i (As := [.int (l)]) (x0 := kfi (mln (m.2.1 81)) (l) p 0) (h1 := HP c w m v E) d_X10_fit_32 lk_X10_121 mv_X10_placeOf in_X10_placeOf se_X10_placeOf (Nat.le_of_ble_eq_true rfl) (Nat.le_of_ble_eq_true rfl) (hp_80 _ _ _ _ _) rfl (s_X10_placeOf hp (by omega) (l)) ?_
        refine wp_if_lt 41 d_X10_fit_35 rfl (fun c35 => ?_) (fun c35 => ?_)
        · refine wp_aload_n 0 d_X10_fit_41 rfl rfl ?_
          refine wp_iload_n 1 d_X10_fit_42 rfl rfl ?_
          refine wp_iload_n 2 d_X10_fit_43 rfl rfl ?_
          refine wp_vrt_v (As := [.int (l), .int (t)]) (h1 := HP c w (setA m 81 ((upd (upd (upd (m.2.1 81) (45 + 2 * p) l) (45 + 2 * p + 1) t) 2 (nI (p + 1))))) v E) d_X10_fit_44 lk_X10_176 mv_X10_comes in_X10_comes se_X10_comes (Nat.le_of_ble_eq_true rfl) (Nat.le_of_ble_eq_true rfl) (hp_80 _ _ _ _ _) rfl (s_X10_comes hp (by omega) (l) (t)) ?_
          refine wp_aload_n 0 d_X10_fit_47 rfl rfl ?_
          refine wp_getfield (v := .ref (81)) d_X10_fit_48 gf_X10_7 (hp_80 _ _ _ _ _) rfl ?_
          refine wp_iconst (v0 := 2) d_X10_fit_51 rfl ?_
          refine wp_iaload (v := nI (p + 1)) d_X10_fit_52 (hp_81 _ _ _ _ _) (kin rfl) (show ((upd (upd (upd (m.2.1 81) (45 + 2 * p) l) (45 + 2 * p + 1) t) 2 (nI (p + 1)))) (2) = nI (p + 1) from upd_s _ _ _) ?_
          refine wp_iconst (v0 := 1) d_X10_fit_53 rfl ?_
          refine wp_isub d_X10_fit_54 ?_
          refine wp_v (v0 := nI ((p + 1) - (1))) (pk_sub (a := p + 1) (b := 1) (by omega)) ?_
          refine wp_reti d_X10_fit_55 rfl ?_
          refine Or.inr (Or.inr (Or.inr ⟨by omega, by omega, ?_, rfl, rfl⟩))
          rcases kfi_iff (f := mln (m.2.1 81)) (l := l) p 0 (by omega) with ⟨h1, -⟩ | ⟨j, -, h2, -, h3⟩
          · exact h1
          · rw [h3] at c35
            exact absurd c35 (nI_pos (by omega))
        · refine wp_bipush (v0 := -4) d_X10_fit_38 (by decide) ?_
          refine wp_reti d_X10_fit_40 rfl ?_
          refine Or.inr (Or.inr (Or.inl ⟨by omega, by omega, fun e => ?_, rfl, rfl⟩))
          rw [e] at c35
          exact absurd c35 (by decide)
      · refine wp_bipush (v0 := -2) d_X10_fit_27 (by decide) ?_
        refine wp_reti d_X10_fit_29 rfl ?_
        exact Or.inr (Or.inl ⟨by omega, by omega, rfl, rfl⟩)
    · refine wp_iconst (v0 := -1) d_X10_fit_15 rfl ?_
      refine wp_reti d_X10_fit_16 rfl ?_
      exact Or.inl ⟨by omega, rfl, rfl⟩
