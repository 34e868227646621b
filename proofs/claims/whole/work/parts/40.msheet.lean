/-! ===== sheets: the reference ===== -/
def kzr (f : Nat → Int32) (a n : Nat) : Nat → Int32 := fun k => if a ≤ k ∧ k < a + n then 0 else f k
theorem kzr_0 (f : Nat → Int32) (a : Nat) : kzr f a 0 = f := by funext k; simp only [kzr]; rw [if_neg (by omega)]
theorem kzr_s (f : Nat → Int32) (a n : Nat) : upd (kzr f a n) (a + n) 0 = kzr f a (n + 1) := by
  funext k
  simp only [upd, kzr]
  by_cases h : k = a + n
  · rw [if_pos h, if_pos (by omega)]
  · rw [if_neg h]
    by_cases h2 : a ≤ k ∧ k < a + n
    · rw [if_pos h2, if_pos (by omega)]
    · rw [if_neg h2, if_neg (by omega)]
theorem k_i64 (x : Int32) {i n : Nat} (hi : i < 100) (hn : n ≤ 40) : (0 ≤ (Int32.toInt64 x + Int32.toInt64 (nI i)).toInt ∧ (Int32.toInt64 x + Int32.toInt64 (nI i)).toInt < (n : Int)) ↔ (0 ≤ (x + nI i).toInt ∧ (x + nI i).toInt < (n : Int)) := by
  have hx1 := x.toInt_lt
  have hx2 := x.le_toInt
  have e1 : (Int32.toInt64 x + Int32.toInt64 (nI i)).toInt = x.toInt + i := by
    rw [Int64.toInt_add, Int32.toInt_toInt64, Int32.toInt_toInt64, nI_toInt (by omega), Int.bmod_eq_of_le (by omega) (by omega)]
  rw [e1, Int32.toInt_add, nI_toInt (by omega)]
  by_cases h : x.toInt + i < 2 ^ 31
  · rw [Int.bmod_eq_of_le (by omega) (by omega)]
  · have e2 : (x.toInt + (i : Int)).bmod (2 ^ 32) = x.toInt + i - 2 ^ 32 := by
      show Int.bmod (x.toInt + (i : Int)) 4294967296 = x.toInt + i - 4294967296
      simp only [Int.bmod]
      split <;> omega
    rw [e2]
    constructor <;> intro q <;> omega
theorem k_idx (x : Int32) {a i n : Nat} (h : 0 ≤ (x + nI i).toInt ∧ (x + nI i).toInt < (n : Int)) (hn : n ≤ 40) : nI a + x + nI i = nI (a + (x + nI i).toNatClampNeg) := by
  obtain ⟨y, hy, e⟩ := k_nat h
  rw [Int32.add_assoc, e, nI_clamp (by omega), nI_add]
theorem s_X10_sheet_l {X : kX} {d : Nat} {c w m v : kZ} {E : kH} {j : Nat} (hj : j ≤ 3) (e x z : Int32) : ∀ (k : Nat) (i : Nat), (i + k = 40) → WP X d 0 0 Y_X10_sheet 69 [(4, .int (nI (i))), (0, .ref (80)), (1, .int (nI (j))), (2, .int (e)), (3, .int (x))] [] (HP c w (setA (setA (setA m 95 (upd (m.2.1 95) j e)) 96 (upd (m.2.1 96) j (z))) 97 (kzr (m.2.1 97) (40 * j) i)) v E) (kR (some (.int 1)) (HP c w (setA (setA (setA m 95 (upd (m.2.1 95) j e)) 96 (upd (m.2.1 96) j (z))) 97 (kzr (m.2.1 97) (40 * j) 40)) v E)) := by
  intro k
  induction k using Nat.strongRecOn with
  | ind k ih =>
    intro i hi
    refine wp_iload 0 d_X10_sheet_69 rfl ?_
    refine wp_bipush (v0 := 40) d_X10_sheet_71 (by decide) ?_
    refine wp_ncmp_ge (a := i) (b := 40) 95 d_X10_sheet_73 rfl (by omega) (by omega) (fun zc73 => ?_) (fun zc73 => ?_)
    · refine wp_iconst (v0 := 1) d_X10_sheet_95 rfl ?_
      refine wp_reti d_X10_sheet_96 rfl ?_
      obtain rfl : k = 0 := by omega
      obtain rfl : i = 40 := by omega
      exact ⟨rfl, rfl⟩
    · refine wp_aload_n 1 d_X10_sheet_76 rfl rfl ?_
      refine wp_getfield (v := .ref (97)) d_X10_sheet_77 gf_X10_59 (hp_80 _ _ _ _ _) rfl ?_
      refine wp_bipush (v0 := 40) d_X10_sheet_80 (by decide) ?_
      refine wp_iload_n 2 d_X10_sheet_82 rfl rfl ?_
      refine wp_imul d_X10_sheet_83 ?_
      refine wp_v (v0 := nI ((40) * (j))) (pk_mul (40) (j)) ?_
      refine wp_iload 0 d_X10_sheet_84 rfl ?_
      refine wp_iadd d_X10_sheet_86 ?_
      refine wp_v (v0 := nI (((40) * (j)) + (i))) (nI_add ((40) * (j)) (i)) ?_
      refine wp_iconst (v0 := 0) d_X10_sheet_87 rfl ?_
      refine wp_iastore (h' := HP c w (setA (setA (setA (setA m 95 (upd (m.2.1 95) j e)) 96 (upd (m.2.1 96) j (z))) 97 (kzr (m.2.1 97) (40 * j) i)) 97 (upd (kzr (m.2.1 97) (40 * j) i) (((40) * (j)) + (i)) (0))) v E) d_X10_sheet_88 (hp_97 _ _ _ _ _) (vp_in_nI (by omega) (by omega)) (by rw [nI_clamp (by omega)]; exact (hpa_97 _ _ _ _ _ _)) ?_
      refine wp_iinc (v0 := nI ((i) + 1)) [(4, .int (nI ((i) + 1))), (0, .ref (80)), (1, .int (nI (j))), (2, .int (e)), (3, .int (x))] 0 d_X10_sheet_89 rfl (nI_add (i) 1) (Nat.le_of_ble_eq_true rfl) rfl ?_
      refine wp_goto 69 d_X10_sheet_92 rfl ?_
      obtain ⟨k1, rfl⟩ : ∃ k1, k = k1 + 1 := ⟨k - 1, by omega⟩
      refine wp_sub [(4, .int (nI ((i) + 1))), (0, .ref (80)), (1, .int (nI (j))), (2, .int (e)), (3, .int (x))] [0, 1, 2, 3, 4] rfl ?_
      refine wp_h (h' := HP c w (setA (setA (setA m 95 (upd (m.2.1 95) j e)) 96 (upd (m.2.1 96) j (z))) 97 (kzr (m.2.1 97) (40 * j) (i + 1))) v E) ?_ ?_
      · rw [setA_idem, show 40 * j + i = 40 * j + i from rfl, kzr_s]
      · exact ih k1 (by omega) (i + 1) (by omega)
theorem s_X10_sheet {X : kX} {d : Nat} {c w m v : kZ} {E : kH} (s e x : Int32) : WP X (d + 2) 0 0 Y_X10_sheet 0 [(0, .ref (80)), (1, .int (s)), (2, .int (e)), (3, .int (x))] [] (HP c w m v E) (fun r h1 => (¬ ((0 ≤ s.toInt ∧ s.toInt ≤ 3) ∧ (-1 ≤ e.toInt ∧ e.toInt ≤ 4) ∧ (0 ≤ e → x ≤ 40)) ∧ r = some (.int (-1)) ∧ h1 = HP c w m v E) ∨ (((0 ≤ s.toInt ∧ s.toInt ≤ 3) ∧ (-1 ≤ e.toInt ∧ e.toInt ≤ 4) ∧ 0 ≤ e ∧ x < 0) ∧ r = some (.int (-14)) ∧ h1 = HP c w m v E) ∨ ∃ j : Nat, j ≤ 3 ∧ s = nI j ∧ (-1 ≤ e.toInt ∧ e.toInt ≤ 4) ∧ (0 ≤ e → 0 ≤ x ∧ x ≤ 40) ∧ r = some (.int 1) ∧ h1 = HP c w (setA (setA (setA m 95 (upd (m.2.1 95) j e)) 96 (upd (m.2.1 96) j (if e < 0 then 0 else x))) 97 (kzr (m.2.1 97) (40 * j) 40)) v E) := by
  refine wp_iload_n 1 d_X10_sheet_0 rfl rfl ?_
  refine wp_stc_i (As := [.int (s)]) (x0 := kb (0 ≤ (s : Int32).toInt ∧ (s : Int32).toInt ≤ 3)) (h1 := HP c w m v E) d_X10_sheet_1 lk_X10_397 mv_X10_isOne st_X10_isOne (Nat.le_of_ble_eq_true rfl) (Nat.le_of_ble_eq_true rfl) (s_X10_isOne _ (s : Int32)) ?_
  refine wp_ifb_eq 31 d_X10_sheet_4 rfl (fun zc4 => ?_) (fun zc4 => ?_)
  · refine wp_iconst (v0 := -1) d_X10_sheet_31 rfl ?_
    refine wp_reti d_X10_sheet_32 rfl ?_
    refine Or.inl ⟨?_, rfl, rfl⟩
    rintro ⟨q1, q2, q3⟩
    first
    | exact zc4 q1
    | exact zc18 q2
    | exact zc28 (q3 (Int32.not_lt.mp zc22))
  · refine wp_iload_n 2 d_X10_sheet_7 rfl rfl ?_
    refine wp_i2l d_X10_sheet_8 ?_
    refine wp_ldc2 (v0 := -1) d_X10_sheet_9 cl_X10_400 ?_
    refine wp_ldc2 (v0 := 4) d_X10_sheet_12 cl_X10_402 ?_
    refine wp_stc_i (As := [.long (Int32.toInt64 (e)), .long ((-1)), .long (4)]) (x0 := kb ((-1) ≤ (e : Int32).toInt ∧ (e : Int32).toInt ≤ 4)) (h1 := HP c w m v E) d_X10_sheet_15 lk_X10_74 mv_X10_in st_X10_in (Nat.le_of_ble_eq_true rfl) (Nat.le_of_ble_eq_true rfl) (s_X10_in_i _ (e) ((-1)) (4)) ?_
    refine wp_ifb_eq 31 d_X10_sheet_18 rfl (fun zc18 => ?_) (fun zc18 => ?_)
    · refine wp_iconst (v0 := -1) d_X10_sheet_31 rfl ?_
      refine wp_reti d_X10_sheet_32 rfl ?_
      refine Or.inl ⟨?_, rfl, rfl⟩
      rintro ⟨q1, q2, q3⟩
      first
      | exact zc4 q1
      | exact zc18 q2
      | exact zc28 (q3 (Int32.not_lt.mp zc22))
    · refine wp_iload_n 2 d_X10_sheet_21 rfl rfl ?_
      refine wp_if_lt 33 d_X10_sheet_22 rfl (fun zc22 => ?_) (fun zc22 => ?_)
      · refine wp_iload_n 2 d_X10_sheet_33 rfl rfl ?_
        refine wp_if_lt 44 d_X10_sheet_34 rfl (fun zc34 => ?_) (fun zc34 => ?_)
        · obtain ⟨j, hj, rfl⟩ := k_natle (n := 3) zc4
          have hN9 : 0 ≤ e → 0 ≤ x ∧ x ≤ 40 := by
            intro q
            first
              | exact absurd q (Int32.not_le.mpr zc22)
              | exact absurd q (Int32.not_le.mpr zc34)
              | exact ⟨zc38, zc28⟩
          refine wp_aload_n 0 d_X10_sheet_44 rfl rfl ?_
          refine wp_getfield (v := .ref (95)) d_X10_sheet_45 gf_X10_53 (hp_80 _ _ _ _ _) rfl ?_
          refine wp_iload_n 1 d_X10_sheet_48 rfl rfl ?_
          refine wp_iload_n 2 d_X10_sheet_49 rfl rfl ?_
          refine wp_iastore (h' := HP c w (setA m 95 (upd (m.2.1 95) (j) (e))) v E) d_X10_sheet_50 (hp_95 _ _ _ _ _) (vp_in_nI (by omega) (by omega)) (by rw [nI_clamp (by omega)]; exact (hpa_95 _ _ _ _ _ _)) ?_
          refine wp_aload_n 0 d_X10_sheet_51 rfl rfl ?_
          refine wp_getfield (v := .ref (96)) d_X10_sheet_52 gf_X10_56 (hp_80 _ _ _ _ _) rfl ?_
          refine wp_iload_n 1 d_X10_sheet_55 rfl rfl ?_
          refine wp_iload_n 2 d_X10_sheet_56 rfl rfl ?_
          refine wp_if_ge 64 d_X10_sheet_57 rfl (fun zc57 => ?_) (fun zc57 => ?_)
          · refine wp_iload_n 3 d_X10_sheet_64 rfl rfl ?_
            refine wp_iastore (h' := HP c w (setA (setA m 95 (upd (m.2.1 95) (j) (e))) 96 (upd (m.2.1 96) (j) (x))) v E) d_X10_sheet_65 (hp_96 _ _ _ _ _) (vp_in_nI (by omega) (by omega)) (by rw [nI_clamp (by omega)]; exact (hpa_96 _ _ _ _ _ _)) ?_
            refine wp_iconst (v0 := 0) d_X10_sheet_66 rfl ?_
            refine wp_istore [(4, .int (0)), (0, .ref (80)), (1, .int (nI (j))), (2, .int (e)), (3, .int (x))] d_X10_sheet_67 (Nat.le_of_ble_eq_true rfl) rfl ?_
            refine wp_sub [(4, .int (0)), (0, .ref (80)), (1, .int (nI (j))), (2, .int (e)), (3, .int (x))] [0, 1, 2, 3, 4] rfl ?_
            have L := s_X10_sheet_l (X := X) (d := d + 2) (c := c) (w := w) (m := m) (v := v) (E := E) (j := j) (by omega) e x x 40 0 (by omega)
            rw [kzr_0] at L
            rw [show setA (setA (setA m 95 (upd (m.2.1 95) j e)) 96 (upd (m.2.1 96) j x)) 97 (m.2.1 97) = setA (setA m 95 (upd (m.2.1 95) j e)) 96 (upd (m.2.1 96) j x) from setA_self _ 97] at L
            refine wp_mono ?_ L
            rintro r h1 ⟨rfl, rfl⟩
            exact Or.inr (Or.inr ⟨j, hj, rfl, zc18, hN9, rfl, by rw [if_neg (Int32.not_lt.mpr zc57)]⟩)
          · refine wp_iconst (v0 := 0) d_X10_sheet_60 rfl ?_
            refine wp_goto 65 d_X10_sheet_61 rfl ?_
            refine wp_iastore (h' := HP c w (setA (setA m 95 (upd (m.2.1 95) (j) (e))) 96 (upd (m.2.1 96) (j) (0))) v E) d_X10_sheet_65 (hp_96 _ _ _ _ _) (vp_in_nI (by omega) (by omega)) (by rw [nI_clamp (by omega)]; exact (hpa_96 _ _ _ _ _ _)) ?_
            refine wp_iconst (v0 := 0) d_X10_sheet_66 rfl ?_
            refine wp_istore [(4, .int (0)), (0, .ref (80)), (1, .int (nI (j))), (2, .int (e)), (3, .int (x))] d_X10_sheet_67 (Nat.le_of_ble_eq_true rfl) rfl ?_
            refine wp_sub [(4, .int (0)), (0, .ref (80)), (1, .int (nI (j))), (2, .int (e)), (3, .int (x))] [0, 1, 2, 3, 4] rfl ?_
            have L := s_X10_sheet_l (X := X) (d := d + 2) (c := c) (w := w) (m := m) (v := v) (E := E) (j := j) (by omega) e x 0 40 0 (by omega)
            rw [kzr_0] at L
            rw [show setA (setA (setA m 95 (upd (m.2.1 95) j e)) 96 (upd (m.2.1 96) j 0)) 97 (m.2.1 97) = setA (setA m 95 (upd (m.2.1 95) j e)) 96 (upd (m.2.1 96) j 0) from setA_self _ 97] at L
            refine wp_mono ?_ L
            rintro r h1 ⟨rfl, rfl⟩
            exact Or.inr (Or.inr ⟨j, hj, rfl, zc18, hN9, rfl, by rw [if_pos (Int32.not_le.mp zc57)]⟩)
        · refine wp_iload_n 3 d_X10_sheet_37 rfl rfl ?_
          refine wp_if_ge 44 d_X10_sheet_38 rfl (fun zc38 => ?_) (fun zc38 => ?_)
          · obtain ⟨j, hj, rfl⟩ := k_natle (n := 3) zc4
            have hN9 : 0 ≤ e → 0 ≤ x ∧ x ≤ 40 := by
              intro q
              first
                | exact absurd q (Int32.not_le.mpr zc22)
                | exact absurd q (Int32.not_le.mpr zc34)
                | exact ⟨zc38, zc28⟩
            refine wp_aload_n 0 d_X10_sheet_44 rfl rfl ?_
            refine wp_getfield (v := .ref (95)) d_X10_sheet_45 gf_X10_53 (hp_80 _ _ _ _ _) rfl ?_
            refine wp_iload_n 1 d_X10_sheet_48 rfl rfl ?_
            refine wp_iload_n 2 d_X10_sheet_49 rfl rfl ?_
            refine wp_iastore (h' := HP c w (setA m 95 (upd (m.2.1 95) (j) (e))) v E) d_X10_sheet_50 (hp_95 _ _ _ _ _) (vp_in_nI (by omega) (by omega)) (by rw [nI_clamp (by omega)]; exact (hpa_95 _ _ _ _ _ _)) ?_
            refine wp_aload_n 0 d_X10_sheet_51 rfl rfl ?_
            refine wp_getfield (v := .ref (96)) d_X10_sheet_52 gf_X10_56 (hp_80 _ _ _ _ _) rfl ?_
            refine wp_iload_n 1 d_X10_sheet_55 rfl rfl ?_
            refine wp_iload_n 2 d_X10_sheet_56 rfl rfl ?_
            refine wp_if_ge 64 d_X10_sheet_57 rfl (fun zc57 => ?_) (fun zc57 => ?_)
            · refine wp_iload_n 3 d_X10_sheet_64 rfl rfl ?_
              refine wp_iastore (h' := HP c w (setA (setA m 95 (upd (m.2.1 95) (j) (e))) 96 (upd (m.2.1 96) (j) (x))) v E) d_X10_sheet_65 (hp_96 _ _ _ _ _) (vp_in_nI (by omega) (by omega)) (by rw [nI_clamp (by omega)]; exact (hpa_96 _ _ _ _ _ _)) ?_
              refine wp_iconst (v0 := 0) d_X10_sheet_66 rfl ?_
              refine wp_istore [(4, .int (0)), (0, .ref (80)), (1, .int (nI (j))), (2, .int (e)), (3, .int (x))] d_X10_sheet_67 (Nat.le_of_ble_eq_true rfl) rfl ?_
              refine wp_sub [(4, .int (0)), (0, .ref (80)), (1, .int (nI (j))), (2, .int (e)), (3, .int (x))] [0, 1, 2, 3, 4] rfl ?_
              have L := s_X10_sheet_l (X := X) (d := d + 2) (c := c) (w := w) (m := m) (v := v) (E := E) (j := j) (by omega) e x x 40 0 (by omega)
              rw [kzr_0] at L
              rw [show setA (setA (setA m 95 (upd (m.2.1 95) j e)) 96 (upd (m.2.1 96) j x)) 97 (m.2.1 97) = setA (setA m 95 (upd (m.2.1 95) j e)) 96 (upd (m.2.1 96) j x) from setA_self _ 97] at L
              refine wp_mono ?_ L
              rintro r h1 ⟨rfl, rfl⟩
              exact Or.inr (Or.inr ⟨j, hj, rfl, zc18, hN9, rfl, by rw [if_neg (Int32.not_lt.mpr zc57)]⟩)
            · refine wp_iconst (v0 := 0) d_X10_sheet_60 rfl ?_
              refine wp_goto 65 d_X10_sheet_61 rfl ?_
              refine wp_iastore (h' := HP c w (setA (setA m 95 (upd (m.2.1 95) (j) (e))) 96 (upd (m.2.1 96) (j) (0))) v E) d_X10_sheet_65 (hp_96 _ _ _ _ _) (vp_in_nI (by omega) (by omega)) (by rw [nI_clamp (by omega)]; exact (hpa_96 _ _ _ _ _ _)) ?_
              refine wp_iconst (v0 := 0) d_X10_sheet_66 rfl ?_
              refine wp_istore [(4, .int (0)), (0, .ref (80)), (1, .int (nI (j))), (2, .int (e)), (3, .int (x))] d_X10_sheet_67 (Nat.le_of_ble_eq_true rfl) rfl ?_
              refine wp_sub [(4, .int (0)), (0, .ref (80)), (1, .int (nI (j))), (2, .int (e)), (3, .int (x))] [0, 1, 2, 3, 4] rfl ?_
              have L := s_X10_sheet_l (X := X) (d := d + 2) (c := c) (w := w) (m := m) (v := v) (E := E) (j := j) (by omega) e x 0 40 0 (by omega)
              rw [kzr_0] at L
              rw [show setA (setA (setA m 95 (upd (m.2.1 95) j e)) 96 (upd (m.2.1 96) j 0)) 97 (m.2.1 97) = setA (setA m 95 (upd (m.2.1 95) j e)) 96 (upd (m.2.1 96) j 0) from setA_self _ 97] at L
              refine wp_mono ?_ L
              rintro r h1 ⟨rfl, rfl⟩
              exact Or.inr (Or.inr ⟨j, hj, rfl, zc18, hN9, rfl, by rw [if_pos (Int32.not_le.mp zc57)]⟩)
          · refine wp_bipush (v0 := -14) d_X10_sheet_41 (by decide) ?_
            refine wp_reti d_X10_sheet_43 rfl ?_
            refine Or.inr (Or.inl ⟨⟨zc4, zc18, ?_, Int32.not_le.mp zc38⟩, rfl, rfl⟩)
            exact Int32.not_lt.mp zc34
      · refine wp_iload_n 3 d_X10_sheet_25 rfl rfl ?_
        refine wp_bipush (v0 := 40) d_X10_sheet_26 (by decide) ?_
        refine wp_icmp_le 33 d_X10_sheet_28 rfl (fun zc28 => ?_) (fun zc28 => ?_)
        · refine wp_iload_n 2 d_X10_sheet_33 rfl rfl ?_
          refine wp_if_lt 44 d_X10_sheet_34 rfl (fun zc34 => ?_) (fun zc34 => ?_)
          · obtain ⟨j, hj, rfl⟩ := k_natle (n := 3) zc4
            have hN9 : 0 ≤ e → 0 ≤ x ∧ x ≤ 40 := by
              intro q
              first
                | exact absurd q (Int32.not_le.mpr zc22)
                | exact absurd q (Int32.not_le.mpr zc34)
                | exact ⟨zc38, zc28⟩
            refine wp_aload_n 0 d_X10_sheet_44 rfl rfl ?_
            refine wp_getfield (v := .ref (95)) d_X10_sheet_45 gf_X10_53 (hp_80 _ _ _ _ _) rfl ?_
            refine wp_iload_n 1 d_X10_sheet_48 rfl rfl ?_
            refine wp_iload_n 2 d_X10_sheet_49 rfl rfl ?_
            refine wp_iastore (h' := HP c w (setA m 95 (upd (m.2.1 95) (j) (e))) v E) d_X10_sheet_50 (hp_95 _ _ _ _ _) (vp_in_nI (by omega) (by omega)) (by rw [nI_clamp (by omega)]; exact (hpa_95 _ _ _ _ _ _)) ?_
            refine wp_aload_n 0 d_X10_sheet_51 rfl rfl ?_
            refine wp_getfield (v := .ref (96)) d_X10_sheet_52 gf_X10_56 (hp_80 _ _ _ _ _) rfl ?_
            refine wp_iload_n 1 d_X10_sheet_55 rfl rfl ?_
            refine wp_iload_n 2 d_X10_sheet_56 rfl rfl ?_
            refine wp_if_ge 64 d_X10_sheet_57 rfl (fun zc57 => ?_) (fun zc57 => ?_)
            · refine wp_iload_n 3 d_X10_sheet_64 rfl rfl ?_
              refine wp_iastore (h' := HP c w (setA (setA m 95 (upd (m.2.1 95) (j) (e))) 96 (upd (m.2.1 96) (j) (x))) v E) d_X10_sheet_65 (hp_96 _ _ _ _ _) (vp_in_nI (by omega) (by omega)) (by rw [nI_clamp (by omega)]; exact (hpa_96 _ _ _ _ _ _)) ?_
              refine wp_iconst (v0 := 0) d_X10_sheet_66 rfl ?_
              refine wp_istore [(4, .int (0)), (0, .ref (80)), (1, .int (nI (j))), (2, .int (e)), (3, .int (x))] d_X10_sheet_67 (Nat.le_of_ble_eq_true rfl) rfl ?_
              refine wp_sub [(4, .int (0)), (0, .ref (80)), (1, .int (nI (j))), (2, .int (e)), (3, .int (x))] [0, 1, 2, 3, 4] rfl ?_
              have L := s_X10_sheet_l (X := X) (d := d + 2) (c := c) (w := w) (m := m) (v := v) (E := E) (j := j) (by omega) e x x 40 0 (by omega)
              rw [kzr_0] at L
              rw [show setA (setA (setA m 95 (upd (m.2.1 95) j e)) 96 (upd (m.2.1 96) j x)) 97 (m.2.1 97) = setA (setA m 95 (upd (m.2.1 95) j e)) 96 (upd (m.2.1 96) j x) from setA_self _ 97] at L
              refine wp_mono ?_ L
              rintro r h1 ⟨rfl, rfl⟩
              exact Or.inr (Or.inr ⟨j, hj, rfl, zc18, hN9, rfl, by rw [if_neg (Int32.not_lt.mpr zc57)]⟩)
            · refine wp_iconst (v0 := 0) d_X10_sheet_60 rfl ?_
              refine wp_goto 65 d_X10_sheet_61 rfl ?_
              refine wp_iastore (h' := HP c w (setA (setA m 95 (upd (m.2.1 95) (j) (e))) 96 (upd (m.2.1 96) (j) (0))) v E) d_X10_sheet_65 (hp_96 _ _ _ _ _) (vp_in_nI (by omega) (by omega)) (by rw [nI_clamp (by omega)]; exact (hpa_96 _ _ _ _ _ _)) ?_
              refine wp_iconst (v0 := 0) d_X10_sheet_66 rfl ?_
              refine wp_istore [(4, .int (0)), (0, .ref (80)), (1, .int (nI (j))), (2, .int (e)), (3, .int (x))] d_X10_sheet_67 (Nat.le_of_ble_eq_true rfl) rfl ?_
              refine wp_sub [(4, .int (0)), (0, .ref (80)), (1, .int (nI (j))), (2, .int (e)), (3, .int (x))] [0, 1, 2, 3, 4] rfl ?_
              have L := s_X10_sheet_l (X := X) (d := d + 2) (c := c) (w := w) (m := m) (v := v) (E := E) (j := j) (by omega) e x 0 40 0 (by omega)
              rw [kzr_0] at L
              rw [show setA (setA (setA m 95 (upd (m.2.1 95) j e)) 96 (upd (m.2.1 96) j 0)) 97 (m.2.1 97) = setA (setA m 95 (upd (m.2.1 95) j e)) 96 (upd (m.2.1 96) j 0) from setA_self _ 97] at L
              refine wp_mono ?_ L
              rintro r h1 ⟨rfl, rfl⟩
              exact Or.inr (Or.inr ⟨j, hj, rfl, zc18, hN9, rfl, by rw [if_pos (Int32.not_le.mp zc57)]⟩)
          · refine wp_iload_n 3 d_X10_sheet_37 rfl rfl ?_
            refine wp_if_ge 44 d_X10_sheet_38 rfl (fun zc38 => ?_) (fun zc38 => ?_)
            · obtain ⟨j, hj, rfl⟩ := k_natle (n := 3) zc4
              have hN9 : 0 ≤ e → 0 ≤ x ∧ x ≤ 40 := by
                intro q
                first
                  | exact absurd q (Int32.not_le.mpr zc22)
                  | exact absurd q (Int32.not_le.mpr zc34)
                  | exact ⟨zc38, zc28⟩
              refine wp_aload_n 0 d_X10_sheet_44 rfl rfl ?_
              refine wp_getfield (v := .ref (95)) d_X10_sheet_45 gf_X10_53 (hp_80 _ _ _ _ _) rfl ?_
              refine wp_iload_n 1 d_X10_sheet_48 rfl rfl ?_
              refine wp_iload_n 2 d_X10_sheet_49 rfl rfl ?_
              refine wp_iastore (h' := HP c w (setA m 95 (upd (m.2.1 95) (j) (e))) v E) d_X10_sheet_50 (hp_95 _ _ _ _ _) (vp_in_nI (by omega) (by omega)) (by rw [nI_clamp (by omega)]; exact (hpa_95 _ _ _ _ _ _)) ?_
              refine wp_aload_n 0 d_X10_sheet_51 rfl rfl ?_
              refine wp_getfield (v := .ref (96)) d_X10_sheet_52 gf_X10_56 (hp_80 _ _ _ _ _) rfl ?_
              refine wp_iload_n 1 d_X10_sheet_55 rfl rfl ?_
              refine wp_iload_n 2 d_X10_sheet_56 rfl rfl ?_
              refine wp_if_ge 64 d_X10_sheet_57 rfl (fun zc57 => ?_) (fun zc57 => ?_)
              · refine wp_iload_n 3 d_X10_sheet_64 rfl rfl ?_
                refine wp_iastore (h' := HP c w (setA (setA m 95 (upd (m.2.1 95) (j) (e))) 96 (upd (m.2.1 96) (j) (x))) v E) d_X10_sheet_65 (hp_96 _ _ _ _ _) (vp_in_nI (by omega) (by omega)) (by rw [nI_clamp (by omega)]; exact (hpa_96 _ _ _ _ _ _)) ?_
                refine wp_iconst (v0 := 0) d_X10_sheet_66 rfl ?_
                refine wp_istore [(4, .int (0)), (0, .ref (80)), (1, .int (nI (j))), (2, .int (e)), (3, .int (x))] d_X10_sheet_67 (Nat.le_of_ble_eq_true rfl) rfl ?_
                refine wp_sub [(4, .int (0)), (0, .ref (80)), (1, .int (nI (j))), (2, .int (e)), (3, .int (x))] [0, 1, 2, 3, 4] rfl ?_
                have L := s_X10_sheet_l (X := X) (d := d + 2) (c := c) (w := w) (m := m) (v := v) (E := E) (j := j) (by omega) e x x 40 0 (by omega)
                rw [kzr_0] at L
                rw [show setA (setA (setA m 95 (upd (m.2.1 95) j e)) 96 (upd (m.2.1 96) j x)) 97 (m.2.1 97) = setA (setA m 95 (upd (m.2.1 95) j e)) 96 (upd (m.2.1 96) j x) from setA_self _ 97] at L
                refine wp_mono ?_ L
                rintro r h1 ⟨rfl, rfl⟩
                exact Or.inr (Or.inr ⟨j, hj, rfl, zc18, hN9, rfl, by rw [if_neg (Int32.not_lt.mpr zc57)]⟩)
              · refine wp_iconst (v0 := 0) d_X10_sheet_60 rfl ?_
                refine wp_goto 65 d_X10_sheet_61 rfl ?_
                refine wp_iastore (h' := HP c w (setA (setA m 95 (upd (m.2.1 95) (j) (e))) 96 (upd (m.2.1 96) (j) (0))) v E) d_X10_sheet_65 (hp_96 _ _ _ _ _) (vp_in_nI (by omega) (by omega)) (by rw [nI_clamp (by omega)]; exact (hpa_96 _ _ _ _ _ _)) ?_
                refine wp_iconst (v0 := 0) d_X10_sheet_66 rfl ?_
                refine wp_istore [(4, .int (0)), (0, .ref (80)), (1, .int (nI (j))), (2, .int (e)), (3, .int (x))] d_X10_sheet_67 (Nat.le_of_ble_eq_true rfl) rfl ?_
                refine wp_sub [(4, .int (0)), (0, .ref (80)), (1, .int (nI (j))), (2, .int (e)), (3, .int (x))] [0, 1, 2, 3, 4] rfl ?_
                have L := s_X10_sheet_l (X := X) (d := d + 2) (c := c) (w := w) (m := m) (v := v) (E := E) (j := j) (by omega) e x 0 40 0 (by omega)
                rw [kzr_0] at L
                rw [show setA (setA (setA m 95 (upd (m.2.1 95) j e)) 96 (upd (m.2.1 96) j 0)) 97 (m.2.1 97) = setA (setA m 95 (upd (m.2.1 95) j e)) 96 (upd (m.2.1 96) j 0) from setA_self _ 97] at L
                refine wp_mono ?_ L
                rintro r h1 ⟨rfl, rfl⟩
                exact Or.inr (Or.inr ⟨j, hj, rfl, zc18, hN9, rfl, by rw [if_pos (Int32.not_le.mp zc57)]⟩)
            · refine wp_bipush (v0 := -14) d_X10_sheet_41 (by decide) ?_
              refine wp_reti d_X10_sheet_43 rfl ?_
              refine Or.inr (Or.inl ⟨⟨zc4, zc18, ?_, Int32.not_le.mp zc38⟩, rfl, rfl⟩)
              exact Int32.not_lt.mp zc34
        · refine wp_iconst (v0 := -1) d_X10_sheet_31 rfl ?_
          refine wp_reti d_X10_sheet_32 rfl ?_
          refine Or.inl ⟨?_, rfl, rfl⟩
          rintro ⟨q1, q2, q3⟩
          first
          | exact zc4 q1
          | exact zc18 q2
          | exact zc28 (q3 (Int32.not_lt.mp zc22))
theorem s_X10_write {X : kX} {d : Nat} {c w m v : kZ} {E : kH} {nn : Nat → Nat} (hsz : ∀ j, j < 4 → m.2.1 96 j = nI (nn j) ∧ nn j ≤ 40) (s i x : Int32) : WP X (d + 2) 0 0 Y_X10_write 0 [(0, .ref (80)), (1, .int (s)), (2, .int (i)), (3, .int (x))] [] (HP c w m v E) (fun r h1 => (¬ (0 ≤ s.toInt ∧ s.toInt ≤ 3) ∧ r = some (.int (-1)) ∧ h1 = HP c w m v E) ∨ ∃ j : Nat, j ≤ 3 ∧ s = nI j ∧ ((m.2.1 95 j < 0 ∧ r = some (.int (-11)) ∧ h1 = HP c w m v E) ∨ (0 ≤ m.2.1 95 j ∧ ((¬ (0 ≤ i.toInt ∧ i.toInt < (nn j : Int)) ∧ r = some (.int (-12)) ∧ h1 = HP c w m v E) ∨ ∃ y : Nat, y < nn j ∧ i = nI y ∧ r = some (.int 1) ∧ h1 = HP c w (setA m 97 (upd (m.2.1 97) (40 * j + y) (knar (m.2.1 95 j) x))) v E)))) := by
  refine wp_iload_n 1 d_X10_write_0 rfl rfl ?_
  refine wp_stc_i (As := [.int (s)]) (x0 := kb (0 ≤ (s : Int32).toInt ∧ (s : Int32).toInt ≤ 3)) (h1 := HP c w m v E) d_X10_write_1 lk_X10_397 mv_X10_isOne st_X10_isOne (Nat.le_of_ble_eq_true rfl) (Nat.le_of_ble_eq_true rfl) (s_X10_isOne _ (s : Int32)) ?_
  refine wp_ifb_ne 9 d_X10_write_4 rfl (fun zc4 => ?_) (fun zc4 => ?_)
  · obtain ⟨j, hj, rfl⟩ := k_natle (n := 3) zc4
    have hz9 := (hsz j (by omega)).1
    have hz8 := (hsz j (by omega)).2
    refine wp_aload_n 0 d_X10_write_9 rfl rfl ?_
    refine wp_getfield (v := .ref (95)) d_X10_write_10 gf_X10_53 (hp_80 _ _ _ _ _) rfl ?_
    refine wp_iload_n 1 d_X10_write_13 rfl rfl ?_
    refine wp_iaload (v := (m.2.1 95) (j)) d_X10_write_14 (hp_95 _ _ _ _ _) (vp_in_nI (by omega) (by omega)) (congrArg ((m.2.1 95)) (nI_clamp (by omega))) ?_
    refine wp_if_ge 21 d_X10_write_15 rfl (fun zc15 => ?_) (fun zc15 => ?_)
    · refine wp_iload_n 2 d_X10_write_21 rfl rfl ?_
      refine wp_i2l d_X10_write_22 ?_
      refine wp_lconst (v0 := 0) d_X10_write_23 rfl ?_
      refine wp_aload_n 0 d_X10_write_24 rfl rfl ?_
      refine wp_getfield (v := .ref (96)) d_X10_write_25 gf_X10_56 (hp_80 _ _ _ _ _) rfl ?_
      refine wp_iload_n 1 d_X10_write_28 rfl rfl ?_
      refine wp_iaload (v := nI (nn j)) d_X10_write_29 (hp_96 _ _ _ _ _) (vp_in_nI (by omega) (by omega)) ((congrArg ((m.2.1 96)) (nI_clamp (by omega))).trans hz9) ?_
      refine wp_iconst (v0 := 1) d_X10_write_30 rfl ?_
      refine wp_isub d_X10_write_31 ?_
      refine wp_i2l d_X10_write_32 ?_
      refine wp_stc_i (As := [.long (Int32.toInt64 (i)), .long (0), .long (Int32.toInt64 ((nI (nn j)) - (1)))]) (x0 := kb (0 ≤ (i : Int32).toInt ∧ (i : Int32).toInt ≤ ((nI (nn j)) - (1) : Int32).toInt)) (h1 := HP c w m v E) d_X10_write_33 lk_X10_74 mv_X10_in st_X10_in (Nat.le_of_ble_eq_true rfl) (Nat.le_of_ble_eq_true rfl) (s_X10_in_j _ (i) (0) ((nI (nn j)) - (1))) ?_
      refine wp_ifb_ne 42 d_X10_write_36 rfl (fun zc36 => ?_) (fun zc36 => ?_)
      · have hin : 0 ≤ i.toInt ∧ i.toInt < (nn j : Int) := by
          have q9 := zc36
          rw [kn_pred (by omega)] at q9
          exact ⟨by simpa using q9.1, by omega⟩
        obtain ⟨y, hy, rfl⟩ := k_nat hin
        refine wp_aload_n 0 d_X10_write_42 rfl rfl ?_
        refine wp_getfield (v := .ref (97)) d_X10_write_43 gf_X10_59 (hp_80 _ _ _ _ _) rfl ?_
        refine wp_bipush (v0 := 40) d_X10_write_46 (by decide) ?_
        refine wp_iload_n 1 d_X10_write_48 rfl rfl ?_
        refine wp_imul d_X10_write_49 ?_
        refine wp_v (v0 := nI ((40) * (j))) (pk_mul (40) (j)) ?_
        refine wp_iload_n 2 d_X10_write_50 rfl rfl ?_
        refine wp_iadd d_X10_write_51 ?_
        refine wp_v (v0 := nI (((40) * (j)) + (y))) (nI_add ((40) * (j)) (y)) ?_
        refine wp_aload_n 0 d_X10_write_52 rfl rfl ?_
        refine wp_getfield (v := .ref (95)) d_X10_write_53 gf_X10_53 (hp_80 _ _ _ _ _) rfl ?_
        refine wp_iload_n 1 d_X10_write_56 rfl rfl ?_
        refine wp_iaload (v := (m.2.1 95) (j)) d_X10_write_57 (hp_95 _ _ _ _ _) (vp_in_nI (by omega) (by omega)) (congrArg ((m.2.1 95)) (nI_clamp (by omega))) ?_
        refine wp_iload_n 3 d_X10_write_58 rfl rfl ?_
        refine wp_stc_i (As := [.int ((m.2.1 95) (j)), .int (x)]) (x0 := knar ((m.2.1 95) (j)) (x)) (h1 := HP c w m v E) d_X10_write_59 lk_X10_404 mv_X10_narrowed st_X10_narrowed (Nat.le_of_ble_eq_true rfl) (Nat.le_of_ble_eq_true rfl) (s_X10_narrowed _ ((m.2.1 95) (j)) (x)) ?_
        refine wp_iastore (h' := HP c w (setA m 97 (upd (m.2.1 97) (((40) * (j)) + (y)) (knar ((m.2.1 95) (j)) (x)))) v E) d_X10_write_62 (hp_97 _ _ _ _ _) (vp_in_nI (by omega) (by omega)) (by rw [nI_clamp (by omega)]; exact (hpa_97 _ _ _ _ _ _)) ?_
        refine wp_iconst (v0 := 1) d_X10_write_63 rfl ?_
        refine wp_reti d_X10_write_64 rfl ?_
        exact Or.inr ⟨j, hj, rfl, Or.inr ⟨zc15, Or.inr ⟨y, hy, rfl, rfl, rfl⟩⟩⟩
      · refine wp_bipush (v0 := -12) d_X10_write_39 (by decide) ?_
        refine wp_reti d_X10_write_41 rfl ?_
        refine Or.inr ⟨j, hj, rfl, Or.inr ⟨zc15, Or.inl ⟨?_, rfl, rfl⟩⟩⟩
        rintro ⟨q1, q2⟩
        refine zc36 ⟨by simpa using q1, ?_⟩
        rw [kn_pred (by omega)]
        omega
    · refine wp_bipush (v0 := -11) d_X10_write_18 (by decide) ?_
      refine wp_reti d_X10_write_20 rfl ?_
      exact Or.inr ⟨j, hj, rfl, Or.inl ⟨Int32.not_le.mp zc15, rfl, rfl⟩⟩
  · refine wp_iconst (v0 := -1) d_X10_write_7 rfl ?_
    refine wp_reti d_X10_write_8 rfl ?_
    exact Or.inl ⟨zc4, rfl, rfl⟩
theorem s_X10_whyNot {X : kX} {d : Nat} {c w m v : kZ} {E : kH} {j : Nat} (hj : j ≤ 3) (e : Int32) : WP X d 0 0 Y_X10_whyNot 0 [(0, .ref (80)), (1, .int (nI (j))), (2, .int (e))] [] (HP c w m v E) (kR (some (.int ((if m.2.1 95 j < 0 then -11 else if m.2.1 95 j ≠ e then -13 else (0 : Int32))))) (HP c w m v E)) := by
  refine wp_aload_n 0 d_X10_whyNot_0 rfl rfl ?_
  refine wp_getfield (v := .ref (95)) d_X10_whyNot_1 gf_X10_53 (hp_80 _ _ _ _ _) rfl ?_
  refine wp_iload_n 1 d_X10_whyNot_4 rfl rfl ?_
  refine wp_iaload (v := (m.2.1 95) (j)) d_X10_whyNot_5 (hp_95 _ _ _ _ _) (vp_in_nI (by omega) (by omega)) (congrArg ((m.2.1 95)) (nI_clamp (by omega))) ?_
  refine wp_if_ge 14 d_X10_whyNot_6 rfl (fun zc6 => ?_) (fun zc6 => ?_)
  · refine wp_aload_n 0 d_X10_whyNot_14 rfl rfl ?_
    refine wp_getfield (v := .ref (95)) d_X10_whyNot_15 gf_X10_53 (hp_80 _ _ _ _ _) rfl ?_
    refine wp_iload_n 1 d_X10_whyNot_18 rfl rfl ?_
    refine wp_iaload (v := (m.2.1 95) (j)) d_X10_whyNot_19 (hp_95 _ _ _ _ _) (vp_in_nI (by omega) (by omega)) (congrArg ((m.2.1 95)) (nI_clamp (by omega))) ?_
    refine wp_iload_n 2 d_X10_whyNot_20 rfl rfl ?_
    refine wp_icmp_eq 29 d_X10_whyNot_21 rfl (fun zc21 => ?_) (fun zc21 => ?_)
    · refine wp_iconst (v0 := 0) d_X10_whyNot_29 rfl ?_
      refine wp_reti d_X10_whyNot_30 rfl ?_
      refine kR_i ?_ rfl
      first | rw [if_pos (Int32.not_le.mp zc6)] | rw [if_neg (Int32.not_lt.mpr zc6), if_pos zc21] | rw [if_neg (Int32.not_lt.mpr zc6), if_neg (fun q => q zc21)]
    · refine wp_bipush (v0 := -13) d_X10_whyNot_24 (by decide) ?_
      refine wp_goto 30 d_X10_whyNot_26 rfl ?_
      refine wp_reti d_X10_whyNot_30 rfl ?_
      refine kR_i ?_ rfl
      first | rw [if_pos (Int32.not_le.mp zc6)] | rw [if_neg (Int32.not_lt.mpr zc6), if_pos zc21] | rw [if_neg (Int32.not_lt.mpr zc6), if_neg (fun q => q zc21)]
  · refine wp_bipush (v0 := -11) d_X10_whyNot_9 (by decide) ?_
    refine wp_goto 30 d_X10_whyNot_11 rfl ?_
    refine wp_reti d_X10_whyNot_30 rfl ?_
    refine kR_i ?_ rfl
    first | rw [if_pos (Int32.not_le.mp zc6)] | rw [if_neg (Int32.not_lt.mpr zc6), if_pos zc21] | rw [if_neg (Int32.not_lt.mpr zc6), if_neg (fun q => q zc21)]
theorem wn_cases {a e : Int32} : (a < 0 ∧ (if a < 0 then -11 else if a ≠ e then -13 else (0 : Int32)) = -11) ∨ (0 ≤ a ∧ a ≠ e ∧ (if a < 0 then -11 else if a ≠ e then -13 else (0 : Int32)) = -13) ∨ (0 ≤ a ∧ a = e ∧ (if a < 0 then -11 else if a ≠ e then -13 else (0 : Int32)) = 0) := by
  by_cases h : a < 0
  · exact Or.inl ⟨h, if_pos h⟩
  · by_cases g : a = e
    · exact Or.inr (Or.inr ⟨Int32.not_lt.mp h, g, by rw [if_neg h, if_neg (fun q => q g)]⟩)
    · exact Or.inr (Or.inl ⟨Int32.not_lt.mp h, g, by rw [if_neg h, if_pos g]⟩)
theorem s_X10_item {X : kX} {d : Nat} {c w m v : kZ} {E : kH} {nn : Nat → Nat} (hsz : ∀ j, j < 4 → m.2.1 96 j = nI (nn j) ∧ nn j ≤ 40) (s e i : Int32) : WP X (d + 2) 0 0 Y_X10_item 0 [(0, .ref (80)), (1, .int (s)), (2, .int (e)), (3, .int (i))] [] (HP c w m v E) (fun r h1 => h1 = HP c w m v E ∧ ((¬ ((0 ≤ s.toInt ∧ s.toInt ≤ 3) ∧ 0 ≤ e.toInt ∧ e.toInt ≤ 4) ∧ r = some (.int (-1))) ∨ ∃ j : Nat, j ≤ 3 ∧ s = nI j ∧ (0 ≤ e.toInt ∧ e.toInt ≤ 4) ∧ ((m.2.1 95 j < 0 ∧ r = some (.int (-11))) ∨ (0 ≤ m.2.1 95 j ∧ ((m.2.1 95 j ≠ e ∧ r = some (.int (-13))) ∨ (m.2.1 95 j = e ∧ ((¬ (0 ≤ i.toInt ∧ i.toInt < (nn j : Int)) ∧ r = some (.int (-12))) ∨ ∃ y : Nat, y < nn j ∧ i = nI y ∧ r = some (.int ((m.2.1 97) (40 * j + y)))))))))) := by
  refine wp_iload_n 1 d_X10_item_0 rfl rfl ?_
  refine wp_stc_i (As := [.int (s)]) (x0 := kb (0 ≤ (s : Int32).toInt ∧ (s : Int32).toInt ≤ 3)) (h1 := HP c w m v E) d_X10_item_1 lk_X10_397 mv_X10_isOne st_X10_isOne (Nat.le_of_ble_eq_true rfl) (Nat.le_of_ble_eq_true rfl) (s_X10_isOne _ (s : Int32)) ?_
  refine wp_ifb_eq 19 d_X10_item_4 rfl (fun zc4 => ?_) (fun zc4 => ?_)
  · refine wp_iconst (v0 := -1) d_X10_item_19 rfl ?_
    refine wp_reti d_X10_item_20 rfl ?_
    exact ⟨rfl, Or.inl ⟨by omega, rfl⟩⟩
  · refine wp_iload_n 2 d_X10_item_7 rfl rfl ?_
    refine wp_i2l d_X10_item_8 ?_
    refine wp_lconst (v0 := 0) d_X10_item_9 rfl ?_
    refine wp_ldc2 (v0 := 4) d_X10_item_10 cl_X10_402 ?_
    refine wp_stc_i (As := [.long (Int32.toInt64 (e)), .long (0), .long (4)]) (x0 := kb (0 ≤ (e : Int32).toInt ∧ (e : Int32).toInt ≤ 4)) (h1 := HP c w m v E) d_X10_item_13 lk_X10_74 mv_X10_in st_X10_in (Nat.le_of_ble_eq_true rfl) (Nat.le_of_ble_eq_true rfl) (s_X10_in_i _ (e) (0) (4)) ?_
    refine wp_ifb_ne 21 d_X10_item_16 rfl (fun zc16 => ?_) (fun zc16 => ?_)
    · obtain ⟨j, hj, rfl⟩ := k_natle (n := 3) zc4
      have hz9 := (hsz j (by omega)).1
      have hz8 := (hsz j (by omega)).2
      refine wp_aload_n 0 d_X10_item_21 rfl rfl ?_
      refine wp_iload_n 1 d_X10_item_22 rfl rfl ?_
      refine wp_iload_n 2 d_X10_item_23 rfl rfl ?_
      refine wp_vrt_i (As := [.int (nI (j)), .int (e)]) (x0 := (if m.2.1 95 (j) < 0 then -11 else if m.2.1 95 (j) ≠ (e) then -13 else (0 : Int32))) (h1 := HP c w m v E) d_X10_item_24 lk_X10_407 mv_X10_whyNot in_X10_whyNot se_X10_whyNot (Nat.le_of_ble_eq_true rfl) (Nat.le_of_ble_eq_true rfl) (hp_80 _ _ _ _ _) rfl (s_X10_whyNot (j := j) (by omega) (e)) ?_
      rcases wn_cases (a := m.2.1 95 j) (e := (e)) with ⟨w1, w2⟩ | ⟨w1, w3, w2⟩ | ⟨w1, w3, w2⟩
      · rw [w2]
        show WP _ _ _ _ _ 27 _ [.int ((-11))] (HP c w m v E) _
        refine wp_istore [(4, .int ((-11))), (0, .ref (80)), (1, .int (nI (j))), (2, .int (e)), (3, .int (i))] d_X10_item_27 (Nat.le_of_ble_eq_true rfl) rfl ?_
        refine wp_iload 0 d_X10_item_29 rfl ?_
        refine wp_if_eq 39 d_X10_item_31 rfl (fun z => absurd z (by decide)) (fun _ => ?_)
        refine wp_iload 0 d_X10_item_34 rfl ?_
        refine wp_goto 73 d_X10_item_36 rfl ?_
        refine wp_reti d_X10_item_73 rfl ?_
        exact ⟨rfl, Or.inr ⟨j, hj, rfl, zc16, Or.inl ⟨w1, rfl⟩⟩⟩
      · rw [w2]
        show WP _ _ _ _ _ 27 _ [.int ((-13))] (HP c w m v E) _
        refine wp_istore [(4, .int ((-13))), (0, .ref (80)), (1, .int (nI (j))), (2, .int (e)), (3, .int (i))] d_X10_item_27 (Nat.le_of_ble_eq_true rfl) rfl ?_
        refine wp_iload 0 d_X10_item_29 rfl ?_
        refine wp_if_eq 39 d_X10_item_31 rfl (fun z => absurd z (by decide)) (fun _ => ?_)
        refine wp_iload 0 d_X10_item_34 rfl ?_
        refine wp_goto 73 d_X10_item_36 rfl ?_
        refine wp_reti d_X10_item_73 rfl ?_
        exact ⟨rfl, Or.inr ⟨j, hj, rfl, zc16, Or.inr ⟨w1, Or.inl ⟨w3, rfl⟩⟩⟩⟩
      · rw [w2]
        show WP _ _ _ _ _ 27 _ [.int (0)] (HP c w m v E) _
        refine wp_istore [(4, .int (0)), (0, .ref (80)), (1, .int (nI (j))), (2, .int (e)), (3, .int (i))] d_X10_item_27 (Nat.le_of_ble_eq_true rfl) rfl ?_
        refine wp_iload 0 d_X10_item_29 rfl ?_
        refine wp_if_eq 39 d_X10_item_31 rfl (fun _ => ?_) (fun z => absurd z (by decide))
        refine wp_iload_n 4 d_X10_item_39 rfl rfl ?_
        refine wp_i2l d_X10_item_40 ?_
        refine wp_lconst (v0 := 0) d_X10_item_41 rfl ?_
        refine wp_aload_n 1 d_X10_item_42 rfl rfl ?_
        refine wp_getfield (v := .ref (96)) d_X10_item_43 gf_X10_56 (hp_80 _ _ _ _ _) rfl ?_
        refine wp_iload_n 2 d_X10_item_46 rfl rfl ?_
        refine wp_iaload (v := nI (nn j)) d_X10_item_47 (hp_96 _ _ _ _ _) (vp_in_nI (by omega) (by omega)) ((congrArg ((m.2.1 96)) (nI_clamp (by omega))).trans hz9) ?_
        refine wp_iconst (v0 := 1) d_X10_item_48 rfl ?_
        refine wp_isub d_X10_item_49 ?_
        refine wp_i2l d_X10_item_50 ?_
        refine wp_stc_i (As := [.long (Int32.toInt64 (i)), .long (0), .long (Int32.toInt64 ((nI (nn j)) - (1)))]) (x0 := kb (0 ≤ (i : Int32).toInt ∧ (i : Int32).toInt ≤ ((nI (nn j)) - (1) : Int32).toInt)) (h1 := HP c w m v E) d_X10_item_51 lk_X10_74 mv_X10_in st_X10_in (Nat.le_of_ble_eq_true rfl) (Nat.le_of_ble_eq_true rfl) (s_X10_in_j _ (i) (0) ((nI (nn j)) - (1))) ?_
        refine wp_ifb_eq 71 d_X10_item_54 rfl (fun zc54 => ?_) (fun zc54 => ?_)
        · refine wp_bipush (v0 := -12) d_X10_item_71 (by decide) ?_
          refine wp_reti d_X10_item_73 rfl ?_
          refine ⟨rfl, Or.inr ⟨j, hj, rfl, zc16, Or.inr ⟨w1, Or.inr ⟨w3, Or.inl ⟨?_, rfl⟩⟩⟩⟩⟩
          rintro ⟨q1, q2⟩
          refine zc54 ⟨by simpa using q1, ?_⟩
          rw [kn_pred (by omega)]
          omega
        · have hin : 0 ≤ i.toInt ∧ i.toInt < (nn j : Int) := by
            have q9 := zc54
            rw [kn_pred (by omega)] at q9
            exact ⟨by simpa using q9.1, by omega⟩
          obtain ⟨y, hy, rfl⟩ := k_nat hin
          refine wp_aload_n 1 d_X10_item_57 rfl rfl ?_
          refine wp_getfield (v := .ref (97)) d_X10_item_58 gf_X10_59 (hp_80 _ _ _ _ _) rfl ?_
          refine wp_bipush (v0 := 40) d_X10_item_61 (by decide) ?_
          refine wp_iload_n 2 d_X10_item_63 rfl rfl ?_
          refine wp_imul d_X10_item_64 ?_
          refine wp_v (v0 := nI ((40) * (j))) (pk_mul (40) (j)) ?_
          refine wp_iload_n 4 d_X10_item_65 rfl rfl ?_
          refine wp_iadd d_X10_item_66 ?_
          refine wp_v (v0 := nI (((40) * (j)) + (y))) (nI_add ((40) * (j)) (y)) ?_
          refine wp_iaload (v := (m.2.1 97) (((40) * (j)) + (y))) d_X10_item_67 (hp_97 _ _ _ _ _) (vp_in_nI (by omega) (by omega)) (congrArg ((m.2.1 97)) (nI_clamp (by omega))) ?_
          refine wp_goto 73 d_X10_item_68 rfl ?_
          refine wp_reti d_X10_item_73 rfl ?_
          exact ⟨rfl, Or.inr ⟨j, hj, rfl, zc16, Or.inr ⟨w1, Or.inr ⟨w3, Or.inr ⟨y, hy, rfl, rfl⟩⟩⟩⟩⟩
    · refine wp_iconst (v0 := -1) d_X10_item_19 rfl ?_
      refine wp_reti d_X10_item_20 rfl ?_
      exact ⟨rfl, Or.inl ⟨by omega, rfl⟩⟩
theorem s_X10_in_h {X : kX} {d : Nat} (h : kH) (v0 : Int64) (a0 : Int64) (b0 : Int32) : WP X d 0 0 Y_X10_in 0 [(0, .long v0), (2, .long a0), (4, .long b0.toInt64)] [] h (kR (some (.int (kb (a0.toInt ≤ v0.toInt ∧ v0.toInt ≤ b0.toInt)))) h) := by
  have K := s_X10_in (X := X) (d := d) h v0 a0 b0.toInt64
  rw [kb_iff (show (a0.toInt ≤ v0.toInt ∧ v0.toInt ≤ b0.toInt64.toInt) ↔ (a0.toInt ≤ v0.toInt ∧ v0.toInt ≤ b0.toInt) by rw [Int32.toInt_toInt64])] at K
  exact K
theorem s_X10_isItem {X : kX} {d : Nat} {c w m v : kZ} {E : kH} {j N : Nat} (hj : j ≤ 3) (hz9 : m.2.1 96 j = nI N) (hz8 : N ≤ 40) (i : Int64) : WP X (d + 1) 0 0 Y_X10_isItem 0 [(0, .ref (80)), (1, .int (nI (j))), (2, .long (i))] [] (HP c w m v E) (kR (some (.int (kb (0 ≤ i.toInt ∧ i.toInt < (N : Int))))) (HP c w m v E)) := by
  refine wp_lload_n 2 d_X10_isItem_0 rfl rfl ?_
  refine wp_lconst (v0 := 0) d_X10_isItem_1 rfl ?_
  refine wp_aload_n 0 d_X10_isItem_2 rfl rfl ?_
  refine wp_getfield (v := .ref (96)) d_X10_isItem_3 gf_X10_56 (hp_80 _ _ _ _ _) rfl ?_
  refine wp_iload_n 1 d_X10_isItem_6 rfl rfl ?_
  refine wp_iaload (v := nI N) d_X10_isItem_7 (hp_96 _ _ _ _ _) (vp_in_nI (by omega) (by omega)) ((congrArg ((m.2.1 96)) (nI_clamp (by omega))).trans hz9) ?_
  refine wp_iconst (v0 := 1) d_X10_isItem_8 rfl ?_
  refine wp_isub d_X10_isItem_9 ?_
  refine wp_i2l d_X10_isItem_10 ?_
  refine wp_stc_i (As := [.long (i), .long (0), .long (Int32.toInt64 ((nI N) - (1)))]) (x0 := kb ((0 : Int64).toInt ≤ i.toInt ∧ i.toInt ≤ (nI N - 1).toInt)) (h1 := HP c w m v E) d_X10_isItem_11 lk_X10_74 mv_X10_in st_X10_in (Nat.le_of_ble_eq_true rfl) (Nat.le_of_ble_eq_true rfl) (s_X10_in_h _ i 0 (nI N - 1)) ?_
  refine wp_retb d_X10_isItem_14 rfl ?_
  refine kR_i (kb_iff ?_) rfl
  rw [kn_pred (by omega)]
  constructor <;> intro q9 <;> exact ⟨by simpa using q9.1, by omega⟩
def mfitc (n : Nat) (s : Nat → Int32) (x : Int32) : Option (Nat → Int32) := if (0 ≤ x.toInt ∧ x.toInt < (n : Int)) ∧ (s 2).toNatClampNeg < 4 ∧ kfi (mln s) x (s 2).toNatClampNeg 0 = -9 then some (upd (upd (upd s (45 + 2 * (s 2).toNatClampNeg) x) (45 + 2 * (s 2).toNatClampNeg + 1) 0) 2 (nI ((s 2).toNatClampNeg + 1))) else none
def mcq (n : Nat) (s : Nat → Int32) : Prop := s 0 = nI n ∧ ∃ p, s 2 = nI p ∧ p ≤ 4
theorem s_X10_fit_f {X : kX} {d : Nat} {c w m v : kZ} {E : kH} {n : Nat} (hn9 : n ≤ 9) {s0 : Nat → Int32} (hs0 : m.2.1 81 = s0) (hc : mcq n s0) (l : Int32) : WP X (d + 2) 0 0 Y_X10_fit 0 [(0, .ref 80), (1, .int l), (2, .int 0)] [] (HP c w m v E) (fun r h1 => (mfitc n s0 l = none ∧ ∃ z : Int32, ¬ 0 ≤ z ∧ r = some (.int z) ∧ h1 = HP c w m v E) ∨ ∃ (s1 : Nat → Int32) (q : Nat), mfitc n s0 l = some s1 ∧ q < 4 ∧ mcq n s1 ∧ r = some (.int (nI q)) ∧ h1 = HP c w (setA m 81 s1) v E) := by
  subst hs0
  obtain ⟨hn, p, hp, hp4⟩ := hc
  have ep : (m.2.1 81 2).toNatClampNeg = p := by rw [hp, nI_clamp (by omega)]
  refine wp_mono ?_ (s_X10_fit hn hn9 hp hp4 l 0)
  have h0 : 0 ≤ (0 : Int32).toInt ∧ (0 : Int32).toInt ≤ 3 := by decide
  rintro r h1 (⟨a, rfl, rfl⟩ | ⟨a, b, rfl, rfl⟩ | ⟨a, b, e, rfl, rfl⟩ | ⟨a, b, e, rfl, rfl⟩)
  · exact Or.inl ⟨by unfold mfitc; rw [ep]; exact if_neg (fun q => a ⟨q.1, h0⟩), _, by decide, rfl, rfl⟩
  · exact Or.inl ⟨by unfold mfitc; rw [ep]; exact if_neg (fun q => absurd q.2.1 (by omega)), _, by decide, rfl, rfl⟩
  · exact Or.inl ⟨by unfold mfitc; rw [ep]; exact if_neg (fun q => e q.2.2), _, by decide, rfl, rfl⟩
  · refine Or.inr ⟨upd (upd (upd (m.2.1 81) (45 + 2 * p) l) (45 + 2 * p + 1) 0) 2 (nI (p + 1)), p, by unfold mfitc; rw [ep]; exact if_pos ⟨a.1, b, e⟩, b, ⟨?_, p + 1, upd_s _ _ _, by omega⟩, rfl, rfl⟩
    rw [upd_n _ _ (by omega), upd_n _ _ (by omega), upd_n _ _ (by omega)]
    exact hn
theorem s_X10_fits_l {X : kX} {d : Nat} {c w m v : kZ} {E : kH} {n : Nat} (hn9 : n ≤ 9) {j N9 : Nat} (hj : j ≤ 3) (hz9 : m.2.1 96 j = nI N9) (hz8 : N9 ≤ 40) (x : Int32) {N : Nat} (hN : N ≤ 20) : ∀ (k : Nat) (i : Nat) (s' : Nat → Int32) (z : Int32), (i + k = N) → (mcq n s') → WP X (d + 3) 0 0 Y_X10_fits 43 [(6, .int (nI (i))), (5, .int (z)), (0, .ref (80)), (1, .int (nI (j))), (2, .int (x)), (3, .int (nI (N))), (4, .int (0))] [] (HP c w (setA m 81 (s')) v E) (fun r h1 => r = some (.int (kft (mfitc n) (cit N9 (fun y => m.2.1 97 (40 * j + y)) x) k i s' z).2) ∧ h1 = HP c w (setA m 81 (kft (mfitc n) (cit N9 (fun y => m.2.1 97 (40 * j + y)) x) k i s' z).1) v E) := by
  intro k
  induction k using Nat.strongRecOn with
  | ind k ih =>
    intro i s' z hi hk
    refine wp_iload 0 d_X10_fits_43 rfl ?_
    refine wp_iload_n 5 d_X10_fits_45 rfl rfl ?_
    refine wp_ncmp_ge (a := i) (b := N) 104 d_X10_fits_46 rfl (by omega) (by omega) (fun zc46 => ?_) (fun zc46 => ?_)
    · refine wp_iload 1 d_X10_fits_104 rfl ?_
      refine wp_reti d_X10_fits_106 rfl ?_
      obtain rfl : k = 0 := by omega
      exact ⟨rfl, rfl⟩
    · refine wp_aload_n 2 d_X10_fits_49 rfl rfl ?_
      refine wp_iload_n 3 d_X10_fits_50 rfl rfl ?_
      refine wp_iload_n 4 d_X10_fits_51 rfl rfl ?_
      refine wp_i2l d_X10_fits_52 ?_
      refine wp_iload 0 d_X10_fits_53 rfl ?_
      refine wp_i2l d_X10_fits_55 ?_
      refine wp_ladd d_X10_fits_56 ?_
      refine wp_vrt_i (As := [.int (nI (j)), .long ((Int32.toInt64 (x)) + (Int32.toInt64 (nI (i))))]) (x0 := kb (0 ≤ ((Int32.toInt64 (x)) + (Int32.toInt64 (nI (i))) : Int64).toInt ∧ ((Int32.toInt64 (x)) + (Int32.toInt64 (nI (i))) : Int64).toInt < (N9 : Int))) (h1 := HP c w (setA m 81 (s')) v E) d_X10_fits_57 lk_X10_410 mv_X10_isItem in_X10_isItem se_X10_isItem (Nat.le_of_ble_eq_true rfl) (Nat.le_of_ble_eq_true rfl) (hp_80 _ _ _ _ _) rfl (s_X10_isItem (m := (setA m 81 (s'))) hj hz9 hz8 ((Int32.toInt64 (x)) + (Int32.toInt64 (nI (i))))) ?_
      refine wp_ifb_ne 66 d_X10_fits_60 rfl (fun zc60 => ?_) (fun zc60 => ?_)
      · have c60b := (k_i64 x (i := i) (by omega) hz8).mp zc60
        have hit : (cit N9 (fun y => m.2.1 97 (40 * j + y)) x) i = some (m.2.1 97 (40 * j + (x + nI i).toNatClampNeg)) := if_pos c60b
        refine wp_iload 1 d_X10_fits_66 rfl ?_
        refine wp_aload_n 2 d_X10_fits_68 rfl rfl ?_
        refine wp_aload_n 2 d_X10_fits_69 rfl rfl ?_
        refine wp_getfield (v := .ref (97)) d_X10_fits_70 gf_X10_59 (hp_80 _ _ _ _ _) rfl ?_
        refine wp_bipush (v0 := 40) d_X10_fits_73 (by decide) ?_
        refine wp_iload_n 3 d_X10_fits_75 rfl rfl ?_
        refine wp_imul d_X10_fits_76 ?_
        refine wp_v (v0 := nI ((40) * (j))) (pk_mul (40) (j)) ?_
        refine wp_iload_n 4 d_X10_fits_77 rfl rfl ?_
        refine wp_iadd d_X10_fits_78 ?_
        refine wp_iload 0 d_X10_fits_79 rfl ?_
        refine wp_iadd d_X10_fits_81 ?_
        refine wp_v (v0 := nI (40 * j + (x + nI i).toNatClampNeg)) (k_idx x c60b hz8) ?_
        have hy9 : (x + nI i).toNatClampNeg < N9 := by obtain ⟨y9, hy9, ey9⟩ := k_nat c60b; rw [ey9, nI_clamp (by omega)]; exact hy9
        refine wp_iaload (v := (m.2.1 97) (40 * j + (x + nI i).toNatClampNeg)) d_X10_fits_82 (hp_97 _ _ _ _ _) (vp_in_nI (by omega) (by omega)) (congrArg ((m.2.1 97)) (nI_clamp (by omega))) ?_
        refine wp_iconst (v0 := 0) d_X10_fits_83 rfl ?_
        refine wp_virtual0 (As := [.int ((m.2.1 97) (40 * j + (x + nI i).toNatClampNeg)), .int (0)]) d_X10_fits_84 lk_X10_414 mv_X10_fit in_X10_fit se_X10_fit (Nat.le_of_ble_eq_true rfl) (Nat.le_of_ble_eq_true rfl) (hp_80 _ _ _ _ _) rfl (s_X10_fit_f (m := (setA m 81 (s'))) (s0 := s') hn9 rfl hk ((m.2.1 97) (40 * j + (x + nI i).toNatClampNeg))) (fun v84 h84 q84 => ?_)
        rcases q84 with ⟨hf, z84, hz84, rfl, rfl⟩ | ⟨s1, q84, hf, hq84, hk84, rfl, rfl⟩
        · show WP _ _ _ _ _ 87 _ [.int (z84), .int (z)] (HP c w (setA m 81 (s')) v E) _
          refine wp_if_lt 94 d_X10_fits_87 rfl (fun zc87 => ?_) (fun zc87 => ?_)
          · refine wp_iconst (v0 := 0) d_X10_fits_94 rfl ?_
            refine wp_iadd d_X10_fits_95 ?_
            refine wp_istore [(5, .int ((z) + (0))), (6, .int (nI (i))), (0, .ref (80)), (1, .int (nI (j))), (2, .int (x)), (3, .int (nI (N))), (4, .int (0))] d_X10_fits_96 (Nat.le_of_ble_eq_true rfl) rfl ?_
            refine wp_iinc (v0 := nI ((i) + 1)) [(6, .int (nI ((i) + 1))), (5, .int ((z) + (0))), (0, .ref (80)), (1, .int (nI (j))), (2, .int (x)), (3, .int (nI (N))), (4, .int (0))] 1 d_X10_fits_98 rfl (nI_add (i) 1) (Nat.le_of_ble_eq_true rfl) rfl ?_
            refine wp_goto 43 d_X10_fits_101 rfl ?_
            obtain ⟨k1, rfl⟩ : ∃ k1, k = k1 + 1 := ⟨k - 1, by omega⟩
            refine wp_sub [(6, .int (nI ((i) + 1))), (5, .int ((z) + (0))), (0, .ref (80)), (1, .int (nI (j))), (2, .int (x)), (3, .int (nI (N))), (4, .int (0))] [0, 1, 2, 3, 4, 5, 6] rfl ?_
            rw [Int32.add_zero]
            simp only [kft]
            rw [hit]
            simp only [hf]
            exact ih k1 (by omega) (i + 1) s' z (by omega) hk
          · refine wp_iconst (v0 := 1) d_X10_fits_90 rfl ?_
            refine wp_goto 95 d_X10_fits_91 rfl ?_
            refine wp_iadd d_X10_fits_95 ?_
            refine wp_istore [(5, .int ((z) + (1))), (6, .int (nI (i))), (0, .ref (80)), (1, .int (nI (j))), (2, .int (x)), (3, .int (nI (N))), (4, .int (0))] d_X10_fits_96 (Nat.le_of_ble_eq_true rfl) rfl ?_
            refine wp_iinc (v0 := nI ((i) + 1)) [(6, .int (nI ((i) + 1))), (5, .int ((z) + (1))), (0, .ref (80)), (1, .int (nI (j))), (2, .int (x)), (3, .int (nI (N))), (4, .int (0))] 1 d_X10_fits_98 rfl (nI_add (i) 1) (Nat.le_of_ble_eq_true rfl) rfl ?_
            refine wp_goto 43 d_X10_fits_101 rfl ?_
            exact absurd (Int32.not_lt.mp zc87) hz84
        · rw [setA_idem]
          show WP _ _ _ _ _ 87 _ [.int (nI (q84)), .int (z)] (HP c w (setA m 81 (s1)) v E) _
          refine wp_if_lt 94 d_X10_fits_87 rfl (fun zc87 => ?_) (fun zc87 => ?_)
          · refine wp_iconst (v0 := 0) d_X10_fits_94 rfl ?_
            refine wp_iadd d_X10_fits_95 ?_
            refine wp_istore [(5, .int ((z) + (0))), (6, .int (nI (i))), (0, .ref (80)), (1, .int (nI (j))), (2, .int (x)), (3, .int (nI (N))), (4, .int (0))] d_X10_fits_96 (Nat.le_of_ble_eq_true rfl) rfl ?_
            refine wp_iinc (v0 := nI ((i) + 1)) [(6, .int (nI ((i) + 1))), (5, .int ((z) + (0))), (0, .ref (80)), (1, .int (nI (j))), (2, .int (x)), (3, .int (nI (N))), (4, .int (0))] 1 d_X10_fits_98 rfl (nI_add (i) 1) (Nat.le_of_ble_eq_true rfl) rfl ?_
            refine wp_goto 43 d_X10_fits_101 rfl ?_
            exact absurd zc87 (Int32.not_lt.mpr (nI_nn (by omega)))
          · refine wp_iconst (v0 := 1) d_X10_fits_90 rfl ?_
            refine wp_goto 95 d_X10_fits_91 rfl ?_
            refine wp_iadd d_X10_fits_95 ?_
            refine wp_istore [(5, .int ((z) + (1))), (6, .int (nI (i))), (0, .ref (80)), (1, .int (nI (j))), (2, .int (x)), (3, .int (nI (N))), (4, .int (0))] d_X10_fits_96 (Nat.le_of_ble_eq_true rfl) rfl ?_
            refine wp_iinc (v0 := nI ((i) + 1)) [(6, .int (nI ((i) + 1))), (5, .int ((z) + (1))), (0, .ref (80)), (1, .int (nI (j))), (2, .int (x)), (3, .int (nI (N))), (4, .int (0))] 1 d_X10_fits_98 rfl (nI_add (i) 1) (Nat.le_of_ble_eq_true rfl) rfl ?_
            refine wp_goto 43 d_X10_fits_101 rfl ?_
            obtain ⟨k1, rfl⟩ : ∃ k1, k = k1 + 1 := ⟨k - 1, by omega⟩
            refine wp_sub [(6, .int (nI ((i) + 1))), (5, .int ((z) + (1))), (0, .ref (80)), (1, .int (nI (j))), (2, .int (x)), (3, .int (nI (N))), (4, .int (0))] [0, 1, 2, 3, 4, 5, 6] rfl ?_
            simp only [kft]
            rw [hit]
            simp only [hf]
            exact ih k1 (by omega) (i + 1) s1 (z + 1) (by omega) hk84
      · refine wp_bipush (v0 := -12) d_X10_fits_63 (by decide) ?_
        refine wp_reti d_X10_fits_65 rfl ?_
        obtain ⟨k1, rfl⟩ : ∃ k1, k = k1 + 1 := ⟨k - 1, by omega⟩
        have c60b := fun q => zc60 ((k_i64 x (i := i) (by omega) hz8).mpr q)
        have hit : (cit N9 (fun y => m.2.1 97 (40 * j + y)) x) i = none := if_neg c60b
        simp only [kft]
        rw [hit]
        exact ⟨rfl, rfl⟩
theorem s_X10_fits {X : kX} {d : Nat} {c w m v : kZ} {E : kH} {n : Nat} (hn9 : n ≤ 9) (hc : mcq n (m.2.1 81)) {nn : Nat → Nat} (hsz : ∀ j, j < 4 → m.2.1 96 j = nI (nn j) ∧ nn j ≤ 40) (s x y : Int32) : WP X (d + 3) 0 0 Y_X10_fits 0 [(0, .ref (80)), (1, .int (s)), (2, .int (x)), (3, .int (y))] [] (HP c w m v E) (fun r h1 => (¬ ((0 ≤ s.toInt ∧ s.toInt ≤ 3) ∧ 0 ≤ y.toInt ∧ y.toInt ≤ 20) ∧ r = some (.int (-1)) ∧ h1 = HP c w m v E) ∨ ∃ j N : Nat, j ≤ 3 ∧ s = nI j ∧ N ≤ 20 ∧ y = nI N ∧ ((m.2.1 95 j < 0 ∧ r = some (.int (-11)) ∧ h1 = HP c w m v E) ∨ (0 ≤ m.2.1 95 j ∧ ((m.2.1 95 j ≠ 0 ∧ r = some (.int (-13)) ∧ h1 = HP c w m v E) ∨ (m.2.1 95 j = 0 ∧ r = some (.int (kft (mfitc n) (cit (nn j) (fun y => m.2.1 97 (40 * j + y)) x) N 0 (m.2.1 81) 0).2) ∧ h1 = HP c w (setA m 81 (kft (mfitc n) (cit (nn j) (fun y => m.2.1 97 (40 * j + y)) x) N 0 (m.2.1 81) 0).1) v E))))) := by
  refine wp_iload_n 1 d_X10_fits_0 rfl rfl ?_
  refine wp_stc_i (As := [.int (s)]) (x0 := kb (0 ≤ (s : Int32).toInt ∧ (s : Int32).toInt ≤ 3)) (h1 := HP c w m v E) d_X10_fits_1 lk_X10_397 mv_X10_isOne st_X10_isOne (Nat.le_of_ble_eq_true rfl) (Nat.le_of_ble_eq_true rfl) (s_X10_isOne _ (s : Int32)) ?_
  refine wp_ifb_eq 19 d_X10_fits_4 rfl (fun zc4 => ?_) (fun zc4 => ?_)
  · refine wp_iconst (v0 := -1) d_X10_fits_19 rfl ?_
    refine wp_reti d_X10_fits_20 rfl ?_
    exact Or.inl ⟨by omega, rfl, rfl⟩
  · refine wp_iload_n 3 d_X10_fits_7 rfl rfl ?_
    refine wp_i2l d_X10_fits_8 ?_
    refine wp_lconst (v0 := 0) d_X10_fits_9 rfl ?_
    refine wp_ldc2 (v0 := 20) d_X10_fits_10 cl_X10_222 ?_
    refine wp_stc_i (As := [.long (Int32.toInt64 (y)), .long (0), .long (20)]) (x0 := kb (0 ≤ (y : Int32).toInt ∧ (y : Int32).toInt ≤ 20)) (h1 := HP c w m v E) d_X10_fits_13 lk_X10_74 mv_X10_in st_X10_in (Nat.le_of_ble_eq_true rfl) (Nat.le_of_ble_eq_true rfl) (s_X10_in_i _ (y) (0) (20)) ?_
    refine wp_ifb_ne 21 d_X10_fits_16 rfl (fun zc16 => ?_) (fun zc16 => ?_)
    · obtain ⟨j, hj, rfl⟩ := k_natle (n := 3) zc4
      obtain ⟨N, hN, rfl⟩ := k_natle (n := 20) zc16
      have hz9 := (hsz j (by omega)).1
      have hz8 := (hsz j (by omega)).2
      refine wp_aload_n 0 d_X10_fits_21 rfl rfl ?_
      refine wp_iload_n 1 d_X10_fits_22 rfl rfl ?_
      refine wp_iconst (v0 := 0) d_X10_fits_23 rfl ?_
      refine wp_vrt_i (As := [.int (nI (j)), .int (0)]) (x0 := (if m.2.1 95 (j) < 0 then -11 else if m.2.1 95 (j) ≠ (0) then -13 else (0 : Int32))) (h1 := HP c w m v E) d_X10_fits_24 lk_X10_407 mv_X10_whyNot in_X10_whyNot se_X10_whyNot (Nat.le_of_ble_eq_true rfl) (Nat.le_of_ble_eq_true rfl) (hp_80 _ _ _ _ _) rfl (s_X10_whyNot (j := j) (by omega) (0)) ?_
      rcases wn_cases (a := m.2.1 95 j) (e := (0)) with ⟨w1, w2⟩ | ⟨w1, w3, w2⟩ | ⟨w1, w3, w2⟩
      · rw [w2]
        show WP _ _ _ _ _ 27 _ [.int ((-11))] (HP c w m v E) _
        refine wp_istore [(4, .int ((-11))), (0, .ref (80)), (1, .int (nI (j))), (2, .int (x)), (3, .int (nI (N)))] d_X10_fits_27 (Nat.le_of_ble_eq_true rfl) rfl ?_
        refine wp_iload 0 d_X10_fits_29 rfl ?_
        refine wp_if_eq 37 d_X10_fits_31 rfl (fun z => absurd z (by decide)) (fun _ => ?_)
        refine wp_iload 0 d_X10_fits_34 rfl ?_
        refine wp_reti d_X10_fits_36 rfl ?_
        exact Or.inr ⟨j, N, hj, rfl, hN, rfl, Or.inl ⟨w1, rfl, rfl⟩⟩
      · rw [w2]
        show WP _ _ _ _ _ 27 _ [.int ((-13))] (HP c w m v E) _
        refine wp_istore [(4, .int ((-13))), (0, .ref (80)), (1, .int (nI (j))), (2, .int (x)), (3, .int (nI (N)))] d_X10_fits_27 (Nat.le_of_ble_eq_true rfl) rfl ?_
        refine wp_iload 0 d_X10_fits_29 rfl ?_
        refine wp_if_eq 37 d_X10_fits_31 rfl (fun z => absurd z (by decide)) (fun _ => ?_)
        refine wp_iload 0 d_X10_fits_34 rfl ?_
        refine wp_reti d_X10_fits_36 rfl ?_
        exact Or.inr ⟨j, N, hj, rfl, hN, rfl, Or.inr ⟨w1, Or.inl ⟨w3, rfl, rfl⟩⟩⟩
      · rw [w2]
        show WP _ _ _ _ _ 27 _ [.int (0)] (HP c w m v E) _
        refine wp_istore [(4, .int (0)), (0, .ref (80)), (1, .int (nI (j))), (2, .int (x)), (3, .int (nI (N)))] d_X10_fits_27 (Nat.le_of_ble_eq_true rfl) rfl ?_
        refine wp_iload 0 d_X10_fits_29 rfl ?_
        refine wp_if_eq 37 d_X10_fits_31 rfl (fun _ => ?_) (fun z => absurd z (by decide))
        refine wp_iconst (v0 := 0) d_X10_fits_37 rfl ?_
        refine wp_istore [(5, .int (0)), (4, .int (0)), (0, .ref (80)), (1, .int (nI (j))), (2, .int (x)), (3, .int (nI (N)))] d_X10_fits_38 (Nat.le_of_ble_eq_true rfl) rfl ?_
        refine wp_iconst (v0 := 0) d_X10_fits_40 rfl ?_
        refine wp_istore [(6, .int (0)), (5, .int (0)), (4, .int (0)), (0, .ref (80)), (1, .int (nI (j))), (2, .int (x)), (3, .int (nI (N)))] d_X10_fits_41 (Nat.le_of_ble_eq_true rfl) rfl ?_
        refine wp_sub [(6, .int (0)), (5, .int (0)), (0, .ref (80)), (1, .int (nI (j))), (2, .int (x)), (3, .int (nI (N))), (4, .int (0))] [0, 1, 3, 4, 5, 6, 2] rfl ?_
        have L := s_X10_fits_l (X := X) (d := d) (c := c) (w := w) (m := m) (v := v) (E := E) hn9 hj hz9 hz8 x hN N 0 (m.2.1 81) 0 (by omega) hc
        rw [setA_self] at L
        refine wp_mono ?_ L
        rintro r h1 ⟨rfl, rfl⟩
        exact Or.inr ⟨j, N, hj, rfl, hN, rfl, Or.inr ⟨w1, Or.inr ⟨w3, rfl, rfl⟩⟩⟩
    · refine wp_iconst (v0 := -1) d_X10_fits_19 rfl ?_
      refine wp_reti d_X10_fits_20 rfl ?_
      exact Or.inl ⟨by omega, rfl, rfl⟩
theorem s_X10_spread_l {X : kX} {d : Nat} {c w m v : kZ} {E : kH} {cnt : Nat} (hs1 : (m.2.1 81) 1 = nI cnt) (hc8 : cnt ≤ 8) {en : Nat → Nat} (hm : mWF (m.2.1 81) cnt en) {n : Nat} (hn : m.2.1 81 0 = nI n) (hn9 : n ≤ 9) {p : Nat} (hp : m.2.1 81 2 = nI p) (hp4 : p ≤ 4) (hln : ∀ j, j < p → vp_in (mlp (m.2.1 81) j) n) {j N9 : Nat} (hj : j ≤ 3) (hz9 : m.2.1 96 j = nI N9) (hz8 : N9 ≤ 40) (x : Int32) {N : Nat} (hN : N ≤ 20) : ∀ (k : Nat) (i : Nat) (lo : Int32) (hh : Int32) (v' : kZ), (i + k = N) → (mLaid v' (mTube (m.2.1 81) en cnt p)) → WP X (d + 9) 0 0 Y_X10_spread 50 [(7, .int (nI (i))), (6, .int (hh)), (5, .int (lo)), (0, .ref (80)), (1, .int (nI (j))), (2, .int (x)), (3, .int (nI (N))), (4, .int (0))] [] (HP c w m v' E) (fun r h1 => r = some (.int (ksp (fun y => msee ((m.2.1 81) 5) ((m.2.1 81) 6) (mTube (m.2.1 81) en cnt p) y) (cit N9 (fun y => m.2.1 97 (40 * j + y)) x) k i lo hh)) ∧ ∃ v1 : kZ, h1 = HP c w m v1 E) := by
  intro k
  induction k using Nat.strongRecOn with
  | ind k ih =>
    intro i lo hh v' hi hl
    refine wp_iload 0 d_X10_spread_50 rfl ?_
    refine wp_iload_n 6 d_X10_spread_52 rfl rfl ?_
    refine wp_ncmp_ge (a := i) (b := N) 156 d_X10_spread_53 rfl (by omega) (by omega) (fun zc53 => ?_) (fun zc53 => ?_)
    · refine wp_iload 1 d_X10_spread_156 rfl ?_
      refine wp_iload 2 d_X10_spread_158 rfl ?_
      refine wp_isub d_X10_spread_160 ?_
      refine wp_reti d_X10_spread_161 rfl ?_
      obtain rfl : k = 0 := by omega
      exact ⟨rfl, _, rfl⟩
    · refine wp_aload_n 3 d_X10_spread_56 rfl rfl ?_
      refine wp_iload_n 4 d_X10_spread_57 rfl rfl ?_
      refine wp_iload_n 5 d_X10_spread_58 rfl rfl ?_
      refine wp_i2l d_X10_spread_59 ?_
      refine wp_iload 0 d_X10_spread_60 rfl ?_
      refine wp_i2l d_X10_spread_62 ?_
      refine wp_ladd d_X10_spread_63 ?_
      refine wp_vrt_i (As := [.int (nI (j)), .long ((Int32.toInt64 (x)) + (Int32.toInt64 (nI (i))))]) (x0 := kb (0 ≤ ((Int32.toInt64 (x)) + (Int32.toInt64 (nI (i))) : Int64).toInt ∧ ((Int32.toInt64 (x)) + (Int32.toInt64 (nI (i))) : Int64).toInt < (N9 : Int))) (h1 := HP c w m v' E) d_X10_spread_64 lk_X10_410 mv_X10_isItem in_X10_isItem se_X10_isItem (Nat.le_of_ble_eq_true rfl) (Nat.le_of_ble_eq_true rfl) (hp_80 _ _ _ _ _) rfl (s_X10_isItem (m := m) hj hz9 hz8 ((Int32.toInt64 (x)) + (Int32.toInt64 (nI (i))))) ?_
      refine wp_ifb_ne 73 d_X10_spread_67 rfl (fun zc67 => ?_) (fun zc67 => ?_)
      · have c67b := (k_i64 x (i := i) (by omega) hz8).mp zc67
        have hit : (cit N9 (fun y => m.2.1 97 (40 * j + y)) x) i = some (m.2.1 97 (40 * j + (x + nI i).toNatClampNeg)) := if_pos c67b
        refine wp_aload_n 3 d_X10_spread_73 rfl rfl ?_
        refine wp_getfield (v := .ref (97)) d_X10_spread_74 gf_X10_59 (hp_80 _ _ _ _ _) rfl ?_
        refine wp_bipush (v0 := 40) d_X10_spread_77 (by decide) ?_
        refine wp_iload_n 4 d_X10_spread_79 rfl rfl ?_
        refine wp_imul d_X10_spread_80 ?_
        refine wp_v (v0 := nI ((40) * (j))) (pk_mul (40) (j)) ?_
        refine wp_iload_n 5 d_X10_spread_81 rfl rfl ?_
        refine wp_iadd d_X10_spread_82 ?_
        refine wp_iload 0 d_X10_spread_83 rfl ?_
        refine wp_iadd d_X10_spread_85 ?_
        refine wp_v (v0 := nI (40 * j + (x + nI i).toNatClampNeg)) (k_idx x c67b hz8) ?_
        have hy9 : (x + nI i).toNatClampNeg < N9 := by obtain ⟨y9, hy9, ey9⟩ := k_nat c67b; rw [ey9, nI_clamp (by omega)]; exact hy9
        refine wp_iaload (v := (m.2.1 97) (40 * j + (x + nI i).toNatClampNeg)) d_X10_spread_86 (hp_97 _ _ _ _ _) (vp_in_nI (by omega) (by omega)) (congrArg ((m.2.1 97)) (nI_clamp (by omega))) ?_
        refine wp_istore [(8, .int ((m.2.1 97) (40 * j + (x + nI i).toNatClampNeg))), (7, .int (nI (i))), (6, .int (hh)), (5, .int (lo)), (0, .ref (80)), (1, .int (nI (j))), (2, .int (x)), (3, .int (nI (N))), (4, .int (0))] d_X10_spread_87 (Nat.le_of_ble_eq_true rfl) rfl ?_
        refine wp_iload 0 d_X10_spread_89 rfl ?_
        refine wp_stc_i (As := [.int ((m.2.1 97) (40 * j + (x + nI i).toNatClampNeg))]) (x0 := kb (-9 ≤ ((m.2.1 97) (40 * j + (x + nI i).toNatClampNeg) : Int32).toInt ∧ ((m.2.1 97) (40 * j + (x + nI i).toNatClampNeg) : Int32).toInt ≤ 9)) (h1 := HP c w m v' E) d_X10_spread_91 lk_X10_163 mv_X10_isHeight st_X10_isHeight (Nat.le_of_ble_eq_true rfl) (Nat.le_of_ble_eq_true rfl) (s_X10_isHeight _ ((m.2.1 97) (40 * j + (x + nI i).toNatClampNeg) : Int32)) ?_
        refine wp_ifb_ne 100 d_X10_spread_94 rfl (fun zc94 => ?_) (fun zc94 => ?_)
        · refine wp_aload_n 4 d_X10_spread_100 rfl rfl ?_
          refine wp_iload 0 d_X10_spread_101 rfl ?_
          refine wp_virtual0 (As := [.int ((m.2.1 97) (40 * j + (x + nI i).toNatClampNeg))]) d_X10_spread_103 lk_X10_153 mv_X10_seenBy in_X10_seenBy se_X10_seenBy (Nat.le_of_ble_eq_true rfl) (Nat.le_of_ble_eq_true rfl) (hp_80 _ _ _ _ _) rfl (s_X10_seenBy (l := (mTube (m.2.1 81) en cnt p)) (by rw [mTube_len]; omega) hl ((m.2.1 97) (40 * j + (x + nI i).toNatClampNeg))) (fun v103 h103 q103 => ?_)
          obtain ⟨rfl, u1, rfl, hu1⟩ := q103
          show WP _ _ _ _ _ 106 _ [.int (msee ((m.2.1 81) 5) ((m.2.1 81) 6) (mTube (m.2.1 81) en cnt p) ((m.2.1 97) (40 * j + (x + nI i).toNatClampNeg)))] (HP c w m u1 E) _
          refine wp_istore [(9, .int (msee ((m.2.1 81) 5) ((m.2.1 81) 6) (mTube (m.2.1 81) en cnt p) ((m.2.1 97) (40 * j + (x + nI i).toNatClampNeg)))), (8, .int ((m.2.1 97) (40 * j + (x + nI i).toNatClampNeg))), (7, .int (nI (i))), (6, .int (hh)), (5, .int (lo)), (0, .ref (80)), (1, .int (nI (j))), (2, .int (x)), (3, .int (nI (N))), (4, .int (0))] d_X10_spread_106 (Nat.le_of_ble_eq_true rfl) rfl ?_
          refine wp_iload 2 d_X10_spread_108 rfl ?_
          refine wp_nif_eq (a := i) 120 d_X10_spread_110 rfl (by omega) (fun zc110 => ?_) (fun zc110 => ?_)
          · refine wp_iload 0 d_X10_spread_120 rfl ?_
            refine wp_goto 127 d_X10_spread_122 rfl ?_
            refine wp_istore [(5, .int (msee ((m.2.1 81) 5) ((m.2.1 81) 6) (mTube (m.2.1 81) en cnt p) ((m.2.1 97) (40 * j + (x + nI i).toNatClampNeg)))), (9, .int (msee ((m.2.1 81) 5) ((m.2.1 81) 6) (mTube (m.2.1 81) en cnt p) ((m.2.1 97) (40 * j + (x + nI i).toNatClampNeg)))), (8, .int ((m.2.1 97) (40 * j + (x + nI i).toNatClampNeg))), (7, .int (nI (i))), (6, .int (hh)), (0, .ref (80)), (1, .int (nI (j))), (2, .int (x)), (3, .int (nI (N))), (4, .int (0))] d_X10_spread_127 (Nat.le_of_ble_eq_true rfl) rfl ?_
            refine wp_iload 3 d_X10_spread_129 rfl ?_
            refine wp_nif_eq (a := i) 141 d_X10_spread_131 rfl (by omega) (fun zc131 => ?_) (fun zc131 => ?_)
            · refine wp_iload 1 d_X10_spread_141 rfl ?_
              refine wp_goto 148 d_X10_spread_143 rfl ?_
              refine wp_istore [(6, .int (msee ((m.2.1 81) 5) ((m.2.1 81) 6) (mTube (m.2.1 81) en cnt p) ((m.2.1 97) (40 * j + (x + nI i).toNatClampNeg)))), (5, .int (msee ((m.2.1 81) 5) ((m.2.1 81) 6) (mTube (m.2.1 81) en cnt p) ((m.2.1 97) (40 * j + (x + nI i).toNatClampNeg)))), (9, .int (msee ((m.2.1 81) 5) ((m.2.1 81) 6) (mTube (m.2.1 81) en cnt p) ((m.2.1 97) (40 * j + (x + nI i).toNatClampNeg)))), (8, .int ((m.2.1 97) (40 * j + (x + nI i).toNatClampNeg))), (7, .int (nI (i))), (0, .ref (80)), (1, .int (nI (j))), (2, .int (x)), (3, .int (nI (N))), (4, .int (0))] d_X10_spread_148 (Nat.le_of_ble_eq_true rfl) rfl ?_
              refine wp_iinc (v0 := nI ((i) + 1)) [(7, .int (nI ((i) + 1))), (6, .int (msee ((m.2.1 81) 5) ((m.2.1 81) 6) (mTube (m.2.1 81) en cnt p) ((m.2.1 97) (40 * j + (x + nI i).toNatClampNeg)))), (5, .int (msee ((m.2.1 81) 5) ((m.2.1 81) 6) (mTube (m.2.1 81) en cnt p) ((m.2.1 97) (40 * j + (x + nI i).toNatClampNeg)))), (9, .int (msee ((m.2.1 81) 5) ((m.2.1 81) 6) (mTube (m.2.1 81) en cnt p) ((m.2.1 97) (40 * j + (x + nI i).toNatClampNeg)))), (8, .int ((m.2.1 97) (40 * j + (x + nI i).toNatClampNeg))), (0, .ref (80)), (1, .int (nI (j))), (2, .int (x)), (3, .int (nI (N))), (4, .int (0))] 4 d_X10_spread_150 rfl (nI_add (i) 1) (Nat.le_of_ble_eq_true rfl) rfl ?_
              refine wp_goto 50 d_X10_spread_153 rfl ?_
              obtain ⟨k1, rfl⟩ : ∃ k1, k = k1 + 1 := ⟨k - 1, by omega⟩
              refine wp_sub [(7, .int (nI ((i) + 1))), (6, .int (msee ((m.2.1 81) 5) ((m.2.1 81) 6) (mTube (m.2.1 81) en cnt p) ((m.2.1 97) (40 * j + (x + nI i).toNatClampNeg)))), (5, .int (msee ((m.2.1 81) 5) ((m.2.1 81) 6) (mTube (m.2.1 81) en cnt p) ((m.2.1 97) (40 * j + (x + nI i).toNatClampNeg)))), (0, .ref (80)), (1, .int (nI (j))), (2, .int (x)), (3, .int (nI (N))), (4, .int (0))] [0, 1, 2, 5, 6, 7, 8, 9] rfl ?_
              have e1 : (if i = 0 ∨ (fun y => msee ((m.2.1 81) 5) ((m.2.1 81) 6) (mTube (m.2.1 81) en cnt p) y) (m.2.1 97 (40 * j + (x + nI i).toNatClampNeg)) < lo then (fun y => msee ((m.2.1 81) 5) ((m.2.1 81) 6) (mTube (m.2.1 81) en cnt p) y) (m.2.1 97 (40 * j + (x + nI i).toNatClampNeg)) else lo) = msee ((m.2.1 81) 5) ((m.2.1 81) 6) (mTube (m.2.1 81) en cnt p) ((m.2.1 97) (40 * j + (x + nI i).toNatClampNeg)) := by
                first
                  | exact if_pos (Or.inl zc110)
                  | exact if_pos (Or.inr (Int32.not_le.mp zc117))
                  | exact if_neg (fun q => q.elim zc110 (fun q => absurd zc117 (Int32.not_le.mpr q)))
              have e2 : (if i = 0 ∨ hh < (fun y => msee ((m.2.1 81) 5) ((m.2.1 81) 6) (mTube (m.2.1 81) en cnt p) y) (m.2.1 97 (40 * j + (x + nI i).toNatClampNeg)) then (fun y => msee ((m.2.1 81) 5) ((m.2.1 81) 6) (mTube (m.2.1 81) en cnt p) y) (m.2.1 97 (40 * j + (x + nI i).toNatClampNeg)) else hh) = msee ((m.2.1 81) 5) ((m.2.1 81) 6) (mTube (m.2.1 81) en cnt p) ((m.2.1 97) (40 * j + (x + nI i).toNatClampNeg)) := by
                first
                  | exact if_pos (Or.inl zc131)
                  | exact if_pos (Or.inr (Int32.not_le.mp zc138))
                  | exact if_neg (fun q => q.elim zc131 (fun q => absurd zc138 (Int32.not_le.mpr q)))
              simp only [ksp]
              rw [hit]
              simp only []
              rw [if_pos zc94, e1, e2]
              exact ih k1 (by omega) (i + 1) _ _ _ (by omega) (hl.h hu1)
            · refine wp_iload 1 d_X10_spread_134 rfl ?_
              refine wp_iload 4 d_X10_spread_136 rfl ?_
              refine wp_icmp_le 146 d_X10_spread_138 rfl (fun zc138 => ?_) (fun zc138 => ?_)
              · refine wp_iload 4 d_X10_spread_146 rfl ?_
                refine wp_istore [(6, .int (hh)), (5, .int (msee ((m.2.1 81) 5) ((m.2.1 81) 6) (mTube (m.2.1 81) en cnt p) ((m.2.1 97) (40 * j + (x + nI i).toNatClampNeg)))), (9, .int (msee ((m.2.1 81) 5) ((m.2.1 81) 6) (mTube (m.2.1 81) en cnt p) ((m.2.1 97) (40 * j + (x + nI i).toNatClampNeg)))), (8, .int ((m.2.1 97) (40 * j + (x + nI i).toNatClampNeg))), (7, .int (nI (i))), (0, .ref (80)), (1, .int (nI (j))), (2, .int (x)), (3, .int (nI (N))), (4, .int (0))] d_X10_spread_148 (Nat.le_of_ble_eq_true rfl) rfl ?_
                refine wp_iinc (v0 := nI ((i) + 1)) [(7, .int (nI ((i) + 1))), (6, .int (hh)), (5, .int (msee ((m.2.1 81) 5) ((m.2.1 81) 6) (mTube (m.2.1 81) en cnt p) ((m.2.1 97) (40 * j + (x + nI i).toNatClampNeg)))), (9, .int (msee ((m.2.1 81) 5) ((m.2.1 81) 6) (mTube (m.2.1 81) en cnt p) ((m.2.1 97) (40 * j + (x + nI i).toNatClampNeg)))), (8, .int ((m.2.1 97) (40 * j + (x + nI i).toNatClampNeg))), (0, .ref (80)), (1, .int (nI (j))), (2, .int (x)), (3, .int (nI (N))), (4, .int (0))] 4 d_X10_spread_150 rfl (nI_add (i) 1) (Nat.le_of_ble_eq_true rfl) rfl ?_
                refine wp_goto 50 d_X10_spread_153 rfl ?_
                obtain ⟨k1, rfl⟩ : ∃ k1, k = k1 + 1 := ⟨k - 1, by omega⟩
                refine wp_sub [(7, .int (nI ((i) + 1))), (6, .int (hh)), (5, .int (msee ((m.2.1 81) 5) ((m.2.1 81) 6) (mTube (m.2.1 81) en cnt p) ((m.2.1 97) (40 * j + (x + nI i).toNatClampNeg)))), (0, .ref (80)), (1, .int (nI (j))), (2, .int (x)), (3, .int (nI (N))), (4, .int (0))] [0, 1, 2, 5, 6, 7, 8, 9] rfl ?_
                have e1 : (if i = 0 ∨ (fun y => msee ((m.2.1 81) 5) ((m.2.1 81) 6) (mTube (m.2.1 81) en cnt p) y) (m.2.1 97 (40 * j + (x + nI i).toNatClampNeg)) < lo then (fun y => msee ((m.2.1 81) 5) ((m.2.1 81) 6) (mTube (m.2.1 81) en cnt p) y) (m.2.1 97 (40 * j + (x + nI i).toNatClampNeg)) else lo) = msee ((m.2.1 81) 5) ((m.2.1 81) 6) (mTube (m.2.1 81) en cnt p) ((m.2.1 97) (40 * j + (x + nI i).toNatClampNeg)) := by
                  first
                    | exact if_pos (Or.inl zc110)
                    | exact if_pos (Or.inr (Int32.not_le.mp zc117))
                    | exact if_neg (fun q => q.elim zc110 (fun q => absurd zc117 (Int32.not_le.mpr q)))
                have e2 : (if i = 0 ∨ hh < (fun y => msee ((m.2.1 81) 5) ((m.2.1 81) 6) (mTube (m.2.1 81) en cnt p) y) (m.2.1 97 (40 * j + (x + nI i).toNatClampNeg)) then (fun y => msee ((m.2.1 81) 5) ((m.2.1 81) 6) (mTube (m.2.1 81) en cnt p) y) (m.2.1 97 (40 * j + (x + nI i).toNatClampNeg)) else hh) = hh := by
                  first
                    | exact if_pos (Or.inl zc131)
                    | exact if_pos (Or.inr (Int32.not_le.mp zc138))
                    | exact if_neg (fun q => q.elim zc131 (fun q => absurd zc138 (Int32.not_le.mpr q)))
                simp only [ksp]
                rw [hit]
                simp only []
                rw [if_pos zc94, e1, e2]
                exact ih k1 (by omega) (i + 1) _ _ _ (by omega) (hl.h hu1)
              · refine wp_iload 1 d_X10_spread_141 rfl ?_
                refine wp_goto 148 d_X10_spread_143 rfl ?_
                refine wp_istore [(6, .int (msee ((m.2.1 81) 5) ((m.2.1 81) 6) (mTube (m.2.1 81) en cnt p) ((m.2.1 97) (40 * j + (x + nI i).toNatClampNeg)))), (5, .int (msee ((m.2.1 81) 5) ((m.2.1 81) 6) (mTube (m.2.1 81) en cnt p) ((m.2.1 97) (40 * j + (x + nI i).toNatClampNeg)))), (9, .int (msee ((m.2.1 81) 5) ((m.2.1 81) 6) (mTube (m.2.1 81) en cnt p) ((m.2.1 97) (40 * j + (x + nI i).toNatClampNeg)))), (8, .int ((m.2.1 97) (40 * j + (x + nI i).toNatClampNeg))), (7, .int (nI (i))), (0, .ref (80)), (1, .int (nI (j))), (2, .int (x)), (3, .int (nI (N))), (4, .int (0))] d_X10_spread_148 (Nat.le_of_ble_eq_true rfl) rfl ?_
                refine wp_iinc (v0 := nI ((i) + 1)) [(7, .int (nI ((i) + 1))), (6, .int (msee ((m.2.1 81) 5) ((m.2.1 81) 6) (mTube (m.2.1 81) en cnt p) ((m.2.1 97) (40 * j + (x + nI i).toNatClampNeg)))), (5, .int (msee ((m.2.1 81) 5) ((m.2.1 81) 6) (mTube (m.2.1 81) en cnt p) ((m.2.1 97) (40 * j + (x + nI i).toNatClampNeg)))), (9, .int (msee ((m.2.1 81) 5) ((m.2.1 81) 6) (mTube (m.2.1 81) en cnt p) ((m.2.1 97) (40 * j + (x + nI i).toNatClampNeg)))), (8, .int ((m.2.1 97) (40 * j + (x + nI i).toNatClampNeg))), (0, .ref (80)), (1, .int (nI (j))), (2, .int (x)), (3, .int (nI (N))), (4, .int (0))] 4 d_X10_spread_150 rfl (nI_add (i) 1) (Nat.le_of_ble_eq_true rfl) rfl ?_
                refine wp_goto 50 d_X10_spread_153 rfl ?_
                obtain ⟨k1, rfl⟩ : ∃ k1, k = k1 + 1 := ⟨k - 1, by omega⟩
                refine wp_sub [(7, .int (nI ((i) + 1))), (6, .int (msee ((m.2.1 81) 5) ((m.2.1 81) 6) (mTube (m.2.1 81) en cnt p) ((m.2.1 97) (40 * j + (x + nI i).toNatClampNeg)))), (5, .int (msee ((m.2.1 81) 5) ((m.2.1 81) 6) (mTube (m.2.1 81) en cnt p) ((m.2.1 97) (40 * j + (x + nI i).toNatClampNeg)))), (0, .ref (80)), (1, .int (nI (j))), (2, .int (x)), (3, .int (nI (N))), (4, .int (0))] [0, 1, 2, 5, 6, 7, 8, 9] rfl ?_
                have e1 : (if i = 0 ∨ (fun y => msee ((m.2.1 81) 5) ((m.2.1 81) 6) (mTube (m.2.1 81) en cnt p) y) (m.2.1 97 (40 * j + (x + nI i).toNatClampNeg)) < lo then (fun y => msee ((m.2.1 81) 5) ((m.2.1 81) 6) (mTube (m.2.1 81) en cnt p) y) (m.2.1 97 (40 * j + (x + nI i).toNatClampNeg)) else lo) = msee ((m.2.1 81) 5) ((m.2.1 81) 6) (mTube (m.2.1 81) en cnt p) ((m.2.1 97) (40 * j + (x + nI i).toNatClampNeg)) := by
                  first
                    | exact if_pos (Or.inl zc110)
                    | exact if_pos (Or.inr (Int32.not_le.mp zc117))
                    | exact if_neg (fun q => q.elim zc110 (fun q => absurd zc117 (Int32.not_le.mpr q)))
                have e2 : (if i = 0 ∨ hh < (fun y => msee ((m.2.1 81) 5) ((m.2.1 81) 6) (mTube (m.2.1 81) en cnt p) y) (m.2.1 97 (40 * j + (x + nI i).toNatClampNeg)) then (fun y => msee ((m.2.1 81) 5) ((m.2.1 81) 6) (mTube (m.2.1 81) en cnt p) y) (m.2.1 97 (40 * j + (x + nI i).toNatClampNeg)) else hh) = msee ((m.2.1 81) 5) ((m.2.1 81) 6) (mTube (m.2.1 81) en cnt p) ((m.2.1 97) (40 * j + (x + nI i).toNatClampNeg)) := by
                  first
                    | exact if_pos (Or.inl zc131)
                    | exact if_pos (Or.inr (Int32.not_le.mp zc138))
                    | exact if_neg (fun q => q.elim zc131 (fun q => absurd zc138 (Int32.not_le.mpr q)))
                simp only [ksp]
                rw [hit]
                simp only []
                rw [if_pos zc94, e1, e2]
                exact ih k1 (by omega) (i + 1) _ _ _ (by omega) (hl.h hu1)
          · refine wp_iload 0 d_X10_spread_113 rfl ?_
            refine wp_iload 4 d_X10_spread_115 rfl ?_
            refine wp_icmp_ge 125 d_X10_spread_117 rfl (fun zc117 => ?_) (fun zc117 => ?_)
            · refine wp_iload 4 d_X10_spread_125 rfl ?_
              refine wp_istore [(5, .int (lo)), (9, .int (msee ((m.2.1 81) 5) ((m.2.1 81) 6) (mTube (m.2.1 81) en cnt p) ((m.2.1 97) (40 * j + (x + nI i).toNatClampNeg)))), (8, .int ((m.2.1 97) (40 * j + (x + nI i).toNatClampNeg))), (7, .int (nI (i))), (6, .int (hh)), (0, .ref (80)), (1, .int (nI (j))), (2, .int (x)), (3, .int (nI (N))), (4, .int (0))] d_X10_spread_127 (Nat.le_of_ble_eq_true rfl) rfl ?_
              refine wp_iload 3 d_X10_spread_129 rfl ?_
              refine wp_nif_eq (a := i) 141 d_X10_spread_131 rfl (by omega) (fun zc131 => ?_) (fun zc131 => ?_)
              · refine wp_iload 1 d_X10_spread_141 rfl ?_
                refine wp_goto 148 d_X10_spread_143 rfl ?_
                refine wp_istore [(6, .int (msee ((m.2.1 81) 5) ((m.2.1 81) 6) (mTube (m.2.1 81) en cnt p) ((m.2.1 97) (40 * j + (x + nI i).toNatClampNeg)))), (5, .int (lo)), (9, .int (msee ((m.2.1 81) 5) ((m.2.1 81) 6) (mTube (m.2.1 81) en cnt p) ((m.2.1 97) (40 * j + (x + nI i).toNatClampNeg)))), (8, .int ((m.2.1 97) (40 * j + (x + nI i).toNatClampNeg))), (7, .int (nI (i))), (0, .ref (80)), (1, .int (nI (j))), (2, .int (x)), (3, .int (nI (N))), (4, .int (0))] d_X10_spread_148 (Nat.le_of_ble_eq_true rfl) rfl ?_
                refine wp_iinc (v0 := nI ((i) + 1)) [(7, .int (nI ((i) + 1))), (6, .int (msee ((m.2.1 81) 5) ((m.2.1 81) 6) (mTube (m.2.1 81) en cnt p) ((m.2.1 97) (40 * j + (x + nI i).toNatClampNeg)))), (5, .int (lo)), (9, .int (msee ((m.2.1 81) 5) ((m.2.1 81) 6) (mTube (m.2.1 81) en cnt p) ((m.2.1 97) (40 * j + (x + nI i).toNatClampNeg)))), (8, .int ((m.2.1 97) (40 * j + (x + nI i).toNatClampNeg))), (0, .ref (80)), (1, .int (nI (j))), (2, .int (x)), (3, .int (nI (N))), (4, .int (0))] 4 d_X10_spread_150 rfl (nI_add (i) 1) (Nat.le_of_ble_eq_true rfl) rfl ?_
                refine wp_goto 50 d_X10_spread_153 rfl ?_
                obtain ⟨k1, rfl⟩ : ∃ k1, k = k1 + 1 := ⟨k - 1, by omega⟩
                refine wp_sub [(7, .int (nI ((i) + 1))), (6, .int (msee ((m.2.1 81) 5) ((m.2.1 81) 6) (mTube (m.2.1 81) en cnt p) ((m.2.1 97) (40 * j + (x + nI i).toNatClampNeg)))), (5, .int (lo)), (0, .ref (80)), (1, .int (nI (j))), (2, .int (x)), (3, .int (nI (N))), (4, .int (0))] [0, 1, 2, 5, 6, 7, 8, 9] rfl ?_
                have e1 : (if i = 0 ∨ (fun y => msee ((m.2.1 81) 5) ((m.2.1 81) 6) (mTube (m.2.1 81) en cnt p) y) (m.2.1 97 (40 * j + (x + nI i).toNatClampNeg)) < lo then (fun y => msee ((m.2.1 81) 5) ((m.2.1 81) 6) (mTube (m.2.1 81) en cnt p) y) (m.2.1 97 (40 * j + (x + nI i).toNatClampNeg)) else lo) = lo := by
                  first
                    | exact if_pos (Or.inl zc110)
                    | exact if_pos (Or.inr (Int32.not_le.mp zc117))
                    | exact if_neg (fun q => q.elim zc110 (fun q => absurd zc117 (Int32.not_le.mpr q)))
                have e2 : (if i = 0 ∨ hh < (fun y => msee ((m.2.1 81) 5) ((m.2.1 81) 6) (mTube (m.2.1 81) en cnt p) y) (m.2.1 97 (40 * j + (x + nI i).toNatClampNeg)) then (fun y => msee ((m.2.1 81) 5) ((m.2.1 81) 6) (mTube (m.2.1 81) en cnt p) y) (m.2.1 97 (40 * j + (x + nI i).toNatClampNeg)) else hh) = msee ((m.2.1 81) 5) ((m.2.1 81) 6) (mTube (m.2.1 81) en cnt p) ((m.2.1 97) (40 * j + (x + nI i).toNatClampNeg)) := by
                  first
                    | exact if_pos (Or.inl zc131)
                    | exact if_pos (Or.inr (Int32.not_le.mp zc138))
                    | exact if_neg (fun q => q.elim zc131 (fun q => absurd zc138 (Int32.not_le.mpr q)))
                simp only [ksp]
                rw [hit]
                simp only []
                rw [if_pos zc94, e1, e2]
                exact ih k1 (by omega) (i + 1) _ _ _ (by omega) (hl.h hu1)
              · refine wp_iload 1 d_X10_spread_134 rfl ?_
                refine wp_iload 4 d_X10_spread_136 rfl ?_
                refine wp_icmp_le 146 d_X10_spread_138 rfl (fun zc138 => ?_) (fun zc138 => ?_)
                · refine wp_iload 4 d_X10_spread_146 rfl ?_
                  refine wp_istore [(6, .int (hh)), (5, .int (lo)), (9, .int (msee ((m.2.1 81) 5) ((m.2.1 81) 6) (mTube (m.2.1 81) en cnt p) ((m.2.1 97) (40 * j + (x + nI i).toNatClampNeg)))), (8, .int ((m.2.1 97) (40 * j + (x + nI i).toNatClampNeg))), (7, .int (nI (i))), (0, .ref (80)), (1, .int (nI (j))), (2, .int (x)), (3, .int (nI (N))), (4, .int (0))] d_X10_spread_148 (Nat.le_of_ble_eq_true rfl) rfl ?_
                  refine wp_iinc (v0 := nI ((i) + 1)) [(7, .int (nI ((i) + 1))), (6, .int (hh)), (5, .int (lo)), (9, .int (msee ((m.2.1 81) 5) ((m.2.1 81) 6) (mTube (m.2.1 81) en cnt p) ((m.2.1 97) (40 * j + (x + nI i).toNatClampNeg)))), (8, .int ((m.2.1 97) (40 * j + (x + nI i).toNatClampNeg))), (0, .ref (80)), (1, .int (nI (j))), (2, .int (x)), (3, .int (nI (N))), (4, .int (0))] 4 d_X10_spread_150 rfl (nI_add (i) 1) (Nat.le_of_ble_eq_true rfl) rfl ?_
                  refine wp_goto 50 d_X10_spread_153 rfl ?_
                  obtain ⟨k1, rfl⟩ : ∃ k1, k = k1 + 1 := ⟨k - 1, by omega⟩
                  refine wp_sub [(7, .int (nI ((i) + 1))), (6, .int (hh)), (5, .int (lo)), (0, .ref (80)), (1, .int (nI (j))), (2, .int (x)), (3, .int (nI (N))), (4, .int (0))] [0, 1, 2, 5, 6, 7, 8, 9] rfl ?_
                  have e1 : (if i = 0 ∨ (fun y => msee ((m.2.1 81) 5) ((m.2.1 81) 6) (mTube (m.2.1 81) en cnt p) y) (m.2.1 97 (40 * j + (x + nI i).toNatClampNeg)) < lo then (fun y => msee ((m.2.1 81) 5) ((m.2.1 81) 6) (mTube (m.2.1 81) en cnt p) y) (m.2.1 97 (40 * j + (x + nI i).toNatClampNeg)) else lo) = lo := by
                    first
                      | exact if_pos (Or.inl zc110)
                      | exact if_pos (Or.inr (Int32.not_le.mp zc117))
                      | exact if_neg (fun q => q.elim zc110 (fun q => absurd zc117 (Int32.not_le.mpr q)))
                  have e2 : (if i = 0 ∨ hh < (fun y => msee ((m.2.1 81) 5) ((m.2.1 81) 6) (mTube (m.2.1 81) en cnt p) y) (m.2.1 97 (40 * j + (x + nI i).toNatClampNeg)) then (fun y => msee ((m.2.1 81) 5) ((m.2.1 81) 6) (mTube (m.2.1 81) en cnt p) y) (m.2.1 97 (40 * j + (x + nI i).toNatClampNeg)) else hh) = hh := by
                    first
                      | exact if_pos (Or.inl zc131)
                      | exact if_pos (Or.inr (Int32.not_le.mp zc138))
                      | exact if_neg (fun q => q.elim zc131 (fun q => absurd zc138 (Int32.not_le.mpr q)))
                  simp only [ksp]
                  rw [hit]
                  simp only []
                  rw [if_pos zc94, e1, e2]
                  exact ih k1 (by omega) (i + 1) _ _ _ (by omega) (hl.h hu1)
                · refine wp_iload 1 d_X10_spread_141 rfl ?_
                  refine wp_goto 148 d_X10_spread_143 rfl ?_
                  refine wp_istore [(6, .int (msee ((m.2.1 81) 5) ((m.2.1 81) 6) (mTube (m.2.1 81) en cnt p) ((m.2.1 97) (40 * j + (x + nI i).toNatClampNeg)))), (5, .int (lo)), (9, .int (msee ((m.2.1 81) 5) ((m.2.1 81) 6) (mTube (m.2.1 81) en cnt p) ((m.2.1 97) (40 * j + (x + nI i).toNatClampNeg)))), (8, .int ((m.2.1 97) (40 * j + (x + nI i).toNatClampNeg))), (7, .int (nI (i))), (0, .ref (80)), (1, .int (nI (j))), (2, .int (x)), (3, .int (nI (N))), (4, .int (0))] d_X10_spread_148 (Nat.le_of_ble_eq_true rfl) rfl ?_
                  refine wp_iinc (v0 := nI ((i) + 1)) [(7, .int (nI ((i) + 1))), (6, .int (msee ((m.2.1 81) 5) ((m.2.1 81) 6) (mTube (m.2.1 81) en cnt p) ((m.2.1 97) (40 * j + (x + nI i).toNatClampNeg)))), (5, .int (lo)), (9, .int (msee ((m.2.1 81) 5) ((m.2.1 81) 6) (mTube (m.2.1 81) en cnt p) ((m.2.1 97) (40 * j + (x + nI i).toNatClampNeg)))), (8, .int ((m.2.1 97) (40 * j + (x + nI i).toNatClampNeg))), (0, .ref (80)), (1, .int (nI (j))), (2, .int (x)), (3, .int (nI (N))), (4, .int (0))] 4 d_X10_spread_150 rfl (nI_add (i) 1) (Nat.le_of_ble_eq_true rfl) rfl ?_
                  refine wp_goto 50 d_X10_spread_153 rfl ?_
                  obtain ⟨k1, rfl⟩ : ∃ k1, k = k1 + 1 := ⟨k - 1, by omega⟩
                  refine wp_sub [(7, .int (nI ((i) + 1))), (6, .int (msee ((m.2.1 81) 5) ((m.2.1 81) 6) (mTube (m.2.1 81) en cnt p) ((m.2.1 97) (40 * j + (x + nI i).toNatClampNeg)))), (5, .int (lo)), (0, .ref (80)), (1, .int (nI (j))), (2, .int (x)), (3, .int (nI (N))), (4, .int (0))] [0, 1, 2, 5, 6, 7, 8, 9] rfl ?_
                  have e1 : (if i = 0 ∨ (fun y => msee ((m.2.1 81) 5) ((m.2.1 81) 6) (mTube (m.2.1 81) en cnt p) y) (m.2.1 97 (40 * j + (x + nI i).toNatClampNeg)) < lo then (fun y => msee ((m.2.1 81) 5) ((m.2.1 81) 6) (mTube (m.2.1 81) en cnt p) y) (m.2.1 97 (40 * j + (x + nI i).toNatClampNeg)) else lo) = lo := by
                    first
                      | exact if_pos (Or.inl zc110)
                      | exact if_pos (Or.inr (Int32.not_le.mp zc117))
                      | exact if_neg (fun q => q.elim zc110 (fun q => absurd zc117 (Int32.not_le.mpr q)))
                  have e2 : (if i = 0 ∨ hh < (fun y => msee ((m.2.1 81) 5) ((m.2.1 81) 6) (mTube (m.2.1 81) en cnt p) y) (m.2.1 97 (40 * j + (x + nI i).toNatClampNeg)) then (fun y => msee ((m.2.1 81) 5) ((m.2.1 81) 6) (mTube (m.2.1 81) en cnt p) y) (m.2.1 97 (40 * j + (x + nI i).toNatClampNeg)) else hh) = msee ((m.2.1 81) 5) ((m.2.1 81) 6) (mTube (m.2.1 81) en cnt p) ((m.2.1 97) (40 * j + (x + nI i).toNatClampNeg)) := by
                    first
                      | exact if_pos (Or.inl zc131)
                      | exact if_pos (Or.inr (Int32.not_le.mp zc138))
                      | exact if_neg (fun q => q.elim zc131 (fun q => absurd zc138 (Int32.not_le.mpr q)))
                  simp only [ksp]
                  rw [hit]
                  simp only []
                  rw [if_pos zc94, e1, e2]
                  exact ih k1 (by omega) (i + 1) _ _ _ (by omega) (hl.h hu1)
            · refine wp_iload 0 d_X10_spread_120 rfl ?_
              refine wp_goto 127 d_X10_spread_122 rfl ?_
              refine wp_istore [(5, .int (msee ((m.2.1 81) 5) ((m.2.1 81) 6) (mTube (m.2.1 81) en cnt p) ((m.2.1 97) (40 * j + (x + nI i).toNatClampNeg)))), (9, .int (msee ((m.2.1 81) 5) ((m.2.1 81) 6) (mTube (m.2.1 81) en cnt p) ((m.2.1 97) (40 * j + (x + nI i).toNatClampNeg)))), (8, .int ((m.2.1 97) (40 * j + (x + nI i).toNatClampNeg))), (7, .int (nI (i))), (6, .int (hh)), (0, .ref (80)), (1, .int (nI (j))), (2, .int (x)), (3, .int (nI (N))), (4, .int (0))] d_X10_spread_127 (Nat.le_of_ble_eq_true rfl) rfl ?_
              refine wp_iload 3 d_X10_spread_129 rfl ?_
              refine wp_nif_eq (a := i) 141 d_X10_spread_131 rfl (by omega) (fun zc131 => ?_) (fun zc131 => ?_)
              · refine wp_iload 1 d_X10_spread_141 rfl ?_
                refine wp_goto 148 d_X10_spread_143 rfl ?_
                refine wp_istore [(6, .int (msee ((m.2.1 81) 5) ((m.2.1 81) 6) (mTube (m.2.1 81) en cnt p) ((m.2.1 97) (40 * j + (x + nI i).toNatClampNeg)))), (5, .int (msee ((m.2.1 81) 5) ((m.2.1 81) 6) (mTube (m.2.1 81) en cnt p) ((m.2.1 97) (40 * j + (x + nI i).toNatClampNeg)))), (9, .int (msee ((m.2.1 81) 5) ((m.2.1 81) 6) (mTube (m.2.1 81) en cnt p) ((m.2.1 97) (40 * j + (x + nI i).toNatClampNeg)))), (8, .int ((m.2.1 97) (40 * j + (x + nI i).toNatClampNeg))), (7, .int (nI (i))), (0, .ref (80)), (1, .int (nI (j))), (2, .int (x)), (3, .int (nI (N))), (4, .int (0))] d_X10_spread_148 (Nat.le_of_ble_eq_true rfl) rfl ?_
                refine wp_iinc (v0 := nI ((i) + 1)) [(7, .int (nI ((i) + 1))), (6, .int (msee ((m.2.1 81) 5) ((m.2.1 81) 6) (mTube (m.2.1 81) en cnt p) ((m.2.1 97) (40 * j + (x + nI i).toNatClampNeg)))), (5, .int (msee ((m.2.1 81) 5) ((m.2.1 81) 6) (mTube (m.2.1 81) en cnt p) ((m.2.1 97) (40 * j + (x + nI i).toNatClampNeg)))), (9, .int (msee ((m.2.1 81) 5) ((m.2.1 81) 6) (mTube (m.2.1 81) en cnt p) ((m.2.1 97) (40 * j + (x + nI i).toNatClampNeg)))), (8, .int ((m.2.1 97) (40 * j + (x + nI i).toNatClampNeg))), (0, .ref (80)), (1, .int (nI (j))), (2, .int (x)), (3, .int (nI (N))), (4, .int (0))] 4 d_X10_spread_150 rfl (nI_add (i) 1) (Nat.le_of_ble_eq_true rfl) rfl ?_
                refine wp_goto 50 d_X10_spread_153 rfl ?_
                obtain ⟨k1, rfl⟩ : ∃ k1, k = k1 + 1 := ⟨k - 1, by omega⟩
                refine wp_sub [(7, .int (nI ((i) + 1))), (6, .int (msee ((m.2.1 81) 5) ((m.2.1 81) 6) (mTube (m.2.1 81) en cnt p) ((m.2.1 97) (40 * j + (x + nI i).toNatClampNeg)))), (5, .int (msee ((m.2.1 81) 5) ((m.2.1 81) 6) (mTube (m.2.1 81) en cnt p) ((m.2.1 97) (40 * j + (x + nI i).toNatClampNeg)))), (0, .ref (80)), (1, .int (nI (j))), (2, .int (x)), (3, .int (nI (N))), (4, .int (0))] [0, 1, 2, 5, 6, 7, 8, 9] rfl ?_
                have e1 : (if i = 0 ∨ (fun y => msee ((m.2.1 81) 5) ((m.2.1 81) 6) (mTube (m.2.1 81) en cnt p) y) (m.2.1 97 (40 * j + (x + nI i).toNatClampNeg)) < lo then (fun y => msee ((m.2.1 81) 5) ((m.2.1 81) 6) (mTube (m.2.1 81) en cnt p) y) (m.2.1 97 (40 * j + (x + nI i).toNatClampNeg)) else lo) = msee ((m.2.1 81) 5) ((m.2.1 81) 6) (mTube (m.2.1 81) en cnt p) ((m.2.1 97) (40 * j + (x + nI i).toNatClampNeg)) := by
                  first
                    | exact if_pos (Or.inl zc110)
                    | exact if_pos (Or.inr (Int32.not_le.mp zc117))
                    | exact if_neg (fun q => q.elim zc110 (fun q => absurd zc117 (Int32.not_le.mpr q)))
                have e2 : (if i = 0 ∨ hh < (fun y => msee ((m.2.1 81) 5) ((m.2.1 81) 6) (mTube (m.2.1 81) en cnt p) y) (m.2.1 97 (40 * j + (x + nI i).toNatClampNeg)) then (fun y => msee ((m.2.1 81) 5) ((m.2.1 81) 6) (mTube (m.2.1 81) en cnt p) y) (m.2.1 97 (40 * j + (x + nI i).toNatClampNeg)) else hh) = msee ((m.2.1 81) 5) ((m.2.1 81) 6) (mTube (m.2.1 81) en cnt p) ((m.2.1 97) (40 * j + (x + nI i).toNatClampNeg)) := by
                  first
                    | exact if_pos (Or.inl zc131)
                    | exact if_pos (Or.inr (Int32.not_le.mp zc138))
                    | exact if_neg (fun q => q.elim zc131 (fun q => absurd zc138 (Int32.not_le.mpr q)))
                simp only [ksp]
                rw [hit]
                simp only []
                rw [if_pos zc94, e1, e2]
                exact ih k1 (by omega) (i + 1) _ _ _ (by omega) (hl.h hu1)
              · refine wp_iload 1 d_X10_spread_134 rfl ?_
                refine wp_iload 4 d_X10_spread_136 rfl ?_
                refine wp_icmp_le 146 d_X10_spread_138 rfl (fun zc138 => ?_) (fun zc138 => ?_)
                · refine wp_iload 4 d_X10_spread_146 rfl ?_
                  refine wp_istore [(6, .int (hh)), (5, .int (msee ((m.2.1 81) 5) ((m.2.1 81) 6) (mTube (m.2.1 81) en cnt p) ((m.2.1 97) (40 * j + (x + nI i).toNatClampNeg)))), (9, .int (msee ((m.2.1 81) 5) ((m.2.1 81) 6) (mTube (m.2.1 81) en cnt p) ((m.2.1 97) (40 * j + (x + nI i).toNatClampNeg)))), (8, .int ((m.2.1 97) (40 * j + (x + nI i).toNatClampNeg))), (7, .int (nI (i))), (0, .ref (80)), (1, .int (nI (j))), (2, .int (x)), (3, .int (nI (N))), (4, .int (0))] d_X10_spread_148 (Nat.le_of_ble_eq_true rfl) rfl ?_
                  refine wp_iinc (v0 := nI ((i) + 1)) [(7, .int (nI ((i) + 1))), (6, .int (hh)), (5, .int (msee ((m.2.1 81) 5) ((m.2.1 81) 6) (mTube (m.2.1 81) en cnt p) ((m.2.1 97) (40 * j + (x + nI i).toNatClampNeg)))), (9, .int (msee ((m.2.1 81) 5) ((m.2.1 81) 6) (mTube (m.2.1 81) en cnt p) ((m.2.1 97) (40 * j + (x + nI i).toNatClampNeg)))), (8, .int ((m.2.1 97) (40 * j + (x + nI i).toNatClampNeg))), (0, .ref (80)), (1, .int (nI (j))), (2, .int (x)), (3, .int (nI (N))), (4, .int (0))] 4 d_X10_spread_150 rfl (nI_add (i) 1) (Nat.le_of_ble_eq_true rfl) rfl ?_
                  refine wp_goto 50 d_X10_spread_153 rfl ?_
                  obtain ⟨k1, rfl⟩ : ∃ k1, k = k1 + 1 := ⟨k - 1, by omega⟩
                  refine wp_sub [(7, .int (nI ((i) + 1))), (6, .int (hh)), (5, .int (msee ((m.2.1 81) 5) ((m.2.1 81) 6) (mTube (m.2.1 81) en cnt p) ((m.2.1 97) (40 * j + (x + nI i).toNatClampNeg)))), (0, .ref (80)), (1, .int (nI (j))), (2, .int (x)), (3, .int (nI (N))), (4, .int (0))] [0, 1, 2, 5, 6, 7, 8, 9] rfl ?_
                  have e1 : (if i = 0 ∨ (fun y => msee ((m.2.1 81) 5) ((m.2.1 81) 6) (mTube (m.2.1 81) en cnt p) y) (m.2.1 97 (40 * j + (x + nI i).toNatClampNeg)) < lo then (fun y => msee ((m.2.1 81) 5) ((m.2.1 81) 6) (mTube (m.2.1 81) en cnt p) y) (m.2.1 97 (40 * j + (x + nI i).toNatClampNeg)) else lo) = msee ((m.2.1 81) 5) ((m.2.1 81) 6) (mTube (m.2.1 81) en cnt p) ((m.2.1 97) (40 * j + (x + nI i).toNatClampNeg)) := by
                    first
                      | exact if_pos (Or.inl zc110)
                      | exact if_pos (Or.inr (Int32.not_le.mp zc117))
                      | exact if_neg (fun q => q.elim zc110 (fun q => absurd zc117 (Int32.not_le.mpr q)))
                  have e2 : (if i = 0 ∨ hh < (fun y => msee ((m.2.1 81) 5) ((m.2.1 81) 6) (mTube (m.2.1 81) en cnt p) y) (m.2.1 97 (40 * j + (x + nI i).toNatClampNeg)) then (fun y => msee ((m.2.1 81) 5) ((m.2.1 81) 6) (mTube (m.2.1 81) en cnt p) y) (m.2.1 97 (40 * j + (x + nI i).toNatClampNeg)) else hh) = hh := by
                    first
                      | exact if_pos (Or.inl zc131)
                      | exact if_pos (Or.inr (Int32.not_le.mp zc138))
                      | exact if_neg (fun q => q.elim zc131 (fun q => absurd zc138 (Int32.not_le.mpr q)))
                  simp only [ksp]
                  rw [hit]
                  simp only []
                  rw [if_pos zc94, e1, e2]
                  exact ih k1 (by omega) (i + 1) _ _ _ (by omega) (hl.h hu1)
                · refine wp_iload 1 d_X10_spread_141 rfl ?_
                  refine wp_goto 148 d_X10_spread_143 rfl ?_
                  refine wp_istore [(6, .int (msee ((m.2.1 81) 5) ((m.2.1 81) 6) (mTube (m.2.1 81) en cnt p) ((m.2.1 97) (40 * j + (x + nI i).toNatClampNeg)))), (5, .int (msee ((m.2.1 81) 5) ((m.2.1 81) 6) (mTube (m.2.1 81) en cnt p) ((m.2.1 97) (40 * j + (x + nI i).toNatClampNeg)))), (9, .int (msee ((m.2.1 81) 5) ((m.2.1 81) 6) (mTube (m.2.1 81) en cnt p) ((m.2.1 97) (40 * j + (x + nI i).toNatClampNeg)))), (8, .int ((m.2.1 97) (40 * j + (x + nI i).toNatClampNeg))), (7, .int (nI (i))), (0, .ref (80)), (1, .int (nI (j))), (2, .int (x)), (3, .int (nI (N))), (4, .int (0))] d_X10_spread_148 (Nat.le_of_ble_eq_true rfl) rfl ?_
                  refine wp_iinc (v0 := nI ((i) + 1)) [(7, .int (nI ((i) + 1))), (6, .int (msee ((m.2.1 81) 5) ((m.2.1 81) 6) (mTube (m.2.1 81) en cnt p) ((m.2.1 97) (40 * j + (x + nI i).toNatClampNeg)))), (5, .int (msee ((m.2.1 81) 5) ((m.2.1 81) 6) (mTube (m.2.1 81) en cnt p) ((m.2.1 97) (40 * j + (x + nI i).toNatClampNeg)))), (9, .int (msee ((m.2.1 81) 5) ((m.2.1 81) 6) (mTube (m.2.1 81) en cnt p) ((m.2.1 97) (40 * j + (x + nI i).toNatClampNeg)))), (8, .int ((m.2.1 97) (40 * j + (x + nI i).toNatClampNeg))), (0, .ref (80)), (1, .int (nI (j))), (2, .int (x)), (3, .int (nI (N))), (4, .int (0))] 4 d_X10_spread_150 rfl (nI_add (i) 1) (Nat.le_of_ble_eq_true rfl) rfl ?_
                  refine wp_goto 50 d_X10_spread_153 rfl ?_
                  obtain ⟨k1, rfl⟩ : ∃ k1, k = k1 + 1 := ⟨k - 1, by omega⟩
                  refine wp_sub [(7, .int (nI ((i) + 1))), (6, .int (msee ((m.2.1 81) 5) ((m.2.1 81) 6) (mTube (m.2.1 81) en cnt p) ((m.2.1 97) (40 * j + (x + nI i).toNatClampNeg)))), (5, .int (msee ((m.2.1 81) 5) ((m.2.1 81) 6) (mTube (m.2.1 81) en cnt p) ((m.2.1 97) (40 * j + (x + nI i).toNatClampNeg)))), (0, .ref (80)), (1, .int (nI (j))), (2, .int (x)), (3, .int (nI (N))), (4, .int (0))] [0, 1, 2, 5, 6, 7, 8, 9] rfl ?_
                  have e1 : (if i = 0 ∨ (fun y => msee ((m.2.1 81) 5) ((m.2.1 81) 6) (mTube (m.2.1 81) en cnt p) y) (m.2.1 97 (40 * j + (x + nI i).toNatClampNeg)) < lo then (fun y => msee ((m.2.1 81) 5) ((m.2.1 81) 6) (mTube (m.2.1 81) en cnt p) y) (m.2.1 97 (40 * j + (x + nI i).toNatClampNeg)) else lo) = msee ((m.2.1 81) 5) ((m.2.1 81) 6) (mTube (m.2.1 81) en cnt p) ((m.2.1 97) (40 * j + (x + nI i).toNatClampNeg)) := by
                    first
                      | exact if_pos (Or.inl zc110)
                      | exact if_pos (Or.inr (Int32.not_le.mp zc117))
                      | exact if_neg (fun q => q.elim zc110 (fun q => absurd zc117 (Int32.not_le.mpr q)))
                  have e2 : (if i = 0 ∨ hh < (fun y => msee ((m.2.1 81) 5) ((m.2.1 81) 6) (mTube (m.2.1 81) en cnt p) y) (m.2.1 97 (40 * j + (x + nI i).toNatClampNeg)) then (fun y => msee ((m.2.1 81) 5) ((m.2.1 81) 6) (mTube (m.2.1 81) en cnt p) y) (m.2.1 97 (40 * j + (x + nI i).toNatClampNeg)) else hh) = msee ((m.2.1 81) 5) ((m.2.1 81) 6) (mTube (m.2.1 81) en cnt p) ((m.2.1 97) (40 * j + (x + nI i).toNatClampNeg)) := by
                    first
                      | exact if_pos (Or.inl zc131)
                      | exact if_pos (Or.inr (Int32.not_le.mp zc138))
                      | exact if_neg (fun q => q.elim zc131 (fun q => absurd zc138 (Int32.not_le.mpr q)))
                  simp only [ksp]
                  rw [hit]
                  simp only []
                  rw [if_pos zc94, e1, e2]
                  exact ih k1 (by omega) (i + 1) _ _ _ (by omega) (hl.h hu1)
        · refine wp_bipush (v0 := -4) d_X10_spread_97 (by decide) ?_
          refine wp_reti d_X10_spread_99 rfl ?_
          obtain ⟨k1, rfl⟩ : ∃ k1, k = k1 + 1 := ⟨k - 1, by omega⟩
          refine ⟨congrArg (fun z => some (Value.int z)) ?_, _, rfl⟩
          simp only [ksp]
          rw [hit]
          simp only []
          rw [if_neg zc94]
      · refine wp_bipush (v0 := -12) d_X10_spread_70 (by decide) ?_
        refine wp_reti d_X10_spread_72 rfl ?_
        obtain ⟨k1, rfl⟩ : ∃ k1, k = k1 + 1 := ⟨k - 1, by omega⟩
        have c67b := fun q => zc67 ((k_i64 x (i := i) (by omega) hz8).mpr q)
        have hit : (cit N9 (fun y => m.2.1 97 (40 * j + y)) x) i = none := if_neg c67b
        refine ⟨congrArg (fun z => some (Value.int z)) ?_, _, rfl⟩
        simp only [ksp]
        rw [hit]
theorem s_X10_spread {X : kX} {d : Nat} {c w m v : kZ} {E : kH} {cnt : Nat} (hs1 : (m.2.1 81) 1 = nI cnt) (hc8 : cnt ≤ 8) {en : Nat → Nat} (hm : mWF (m.2.1 81) cnt en) {n : Nat} (hn : m.2.1 81 0 = nI n) (hn9 : n ≤ 9) {p : Nat} (hp : m.2.1 81 2 = nI p) (hp4 : p ≤ 4) (hln : ∀ j, j < p → vp_in (mlp (m.2.1 81) j) n) {nn : Nat → Nat} (hsz : ∀ j, j < 4 → m.2.1 96 j = nI (nn j) ∧ nn j ≤ 40) (s x y : Int32) : WP X (d + 9) 0 0 Y_X10_spread 0 [(0, .ref (80)), (1, .int (s)), (2, .int (x)), (3, .int (y))] [] (HP c w m v E) (fun r h1 => (¬ ((0 ≤ s.toInt ∧ s.toInt ≤ 3) ∧ 1 ≤ y.toInt ∧ y.toInt ≤ 20) ∧ r = some (.int (-1)) ∧ h1 = HP c w m v E) ∨ ∃ j N : Nat, j ≤ 3 ∧ s = nI j ∧ 1 ≤ N ∧ N ≤ 20 ∧ y = nI N ∧ ((m.2.1 95 j < 0 ∧ r = some (.int (-11)) ∧ h1 = HP c w m v E) ∨ (0 ≤ m.2.1 95 j ∧ ((m.2.1 95 j ≠ 0 ∧ r = some (.int (-13)) ∧ h1 = HP c w m v E) ∨ (m.2.1 95 j = 0 ∧ r = some (.int (ksp (fun y => msee ((m.2.1 81) 5) ((m.2.1 81) 6) (mTube (m.2.1 81) en cnt p) y) (cit (nn j) (fun y => m.2.1 97 (40 * j + y)) x) N 0 0 0)) ∧ ∃ v1 : kZ, h1 = HP c w m v1 E))))) := by
  refine wp_iload_n 1 d_X10_spread_0 rfl rfl ?_
  refine wp_stc_i (As := [.int (s)]) (x0 := kb (0 ≤ (s : Int32).toInt ∧ (s : Int32).toInt ≤ 3)) (h1 := HP c w m v E) d_X10_spread_1 lk_X10_397 mv_X10_isOne st_X10_isOne (Nat.le_of_ble_eq_true rfl) (Nat.le_of_ble_eq_true rfl) (s_X10_isOne _ (s : Int32)) ?_
  refine wp_ifb_eq 19 d_X10_spread_4 rfl (fun zc4 => ?_) (fun zc4 => ?_)
  · refine wp_iconst (v0 := -1) d_X10_spread_19 rfl ?_
    refine wp_reti d_X10_spread_20 rfl ?_
    exact Or.inl ⟨by omega, rfl, rfl⟩
  · refine wp_iload_n 3 d_X10_spread_7 rfl rfl ?_
    refine wp_i2l d_X10_spread_8 ?_
    refine wp_lconst (v0 := 1) d_X10_spread_9 rfl ?_
    refine wp_ldc2 (v0 := 20) d_X10_spread_10 cl_X10_222 ?_
    refine wp_stc_i (As := [.long (Int32.toInt64 (y)), .long (1), .long (20)]) (x0 := kb (1 ≤ (y : Int32).toInt ∧ (y : Int32).toInt ≤ 20)) (h1 := HP c w m v E) d_X10_spread_13 lk_X10_74 mv_X10_in st_X10_in (Nat.le_of_ble_eq_true rfl) (Nat.le_of_ble_eq_true rfl) (s_X10_in_i _ (y) (1) (20)) ?_
    refine wp_ifb_ne 21 d_X10_spread_16 rfl (fun zc16 => ?_) (fun zc16 => ?_)
    · obtain ⟨j, hj, rfl⟩ := k_natle (n := 3) zc4
      have hN1b := zc16.1
      obtain ⟨N, hN, rfl⟩ := k_natle (n := 20) ⟨by omega, zc16.2⟩
      have hN1 : 1 ≤ N := by rw [nI_toInt (by omega)] at hN1b; omega
      have hz9 := (hsz j (by omega)).1
      have hz8 := (hsz j (by omega)).2
      refine wp_aload_n 0 d_X10_spread_21 rfl rfl ?_
      refine wp_iload_n 1 d_X10_spread_22 rfl rfl ?_
      refine wp_iconst (v0 := 0) d_X10_spread_23 rfl ?_
      refine wp_vrt_i (As := [.int (nI (j)), .int (0)]) (x0 := (if m.2.1 95 (j) < 0 then -11 else if m.2.1 95 (j) ≠ (0) then -13 else (0 : Int32))) (h1 := HP c w m v E) d_X10_spread_24 lk_X10_407 mv_X10_whyNot in_X10_whyNot se_X10_whyNot (Nat.le_of_ble_eq_true rfl) (Nat.le_of_ble_eq_true rfl) (hp_80 _ _ _ _ _) rfl (s_X10_whyNot (j := j) (by omega) (0)) ?_
      rcases wn_cases (a := m.2.1 95 j) (e := (0)) with ⟨w1, w2⟩ | ⟨w1, w3, w2⟩ | ⟨w1, w3, w2⟩
      · rw [w2]
        show WP _ _ _ _ _ 27 _ [.int ((-11))] (HP c w m v E) _
        refine wp_istore [(4, .int ((-11))), (0, .ref (80)), (1, .int (nI (j))), (2, .int (x)), (3, .int (nI (N)))] d_X10_spread_27 (Nat.le_of_ble_eq_true rfl) rfl ?_
        refine wp_iload 0 d_X10_spread_29 rfl ?_
        refine wp_if_eq 37 d_X10_spread_31 rfl (fun z => absurd z (by decide)) (fun _ => ?_)
        refine wp_iload 0 d_X10_spread_34 rfl ?_
        refine wp_reti d_X10_spread_36 rfl ?_
        exact Or.inr ⟨j, N, hj, rfl, hN1, hN, rfl, Or.inl ⟨w1, rfl, rfl⟩⟩
      · rw [w2]
        show WP _ _ _ _ _ 27 _ [.int ((-13))] (HP c w m v E) _
        refine wp_istore [(4, .int ((-13))), (0, .ref (80)), (1, .int (nI (j))), (2, .int (x)), (3, .int (nI (N)))] d_X10_spread_27 (Nat.le_of_ble_eq_true rfl) rfl ?_
        refine wp_iload 0 d_X10_spread_29 rfl ?_
        refine wp_if_eq 37 d_X10_spread_31 rfl (fun z => absurd z (by decide)) (fun _ => ?_)
        refine wp_iload 0 d_X10_spread_34 rfl ?_
        refine wp_reti d_X10_spread_36 rfl ?_
        exact Or.inr ⟨j, N, hj, rfl, hN1, hN, rfl, Or.inr ⟨w1, Or.inl ⟨w3, rfl, rfl⟩⟩⟩
      · rw [w2]
        show WP _ _ _ _ _ 27 _ [.int (0)] (HP c w m v E) _
        refine wp_istore [(4, .int (0)), (0, .ref (80)), (1, .int (nI (j))), (2, .int (x)), (3, .int (nI (N)))] d_X10_spread_27 (Nat.le_of_ble_eq_true rfl) rfl ?_
        refine wp_iload 0 d_X10_spread_29 rfl ?_
        refine wp_if_eq 37 d_X10_spread_31 rfl (fun _ => ?_) (fun z => absurd z (by decide))
        refine wp_aload_n 1 d_X10_spread_37 rfl rfl ?_
        refine wp_virtual0 (As := []) d_X10_spread_38 lk_X10_166 mv_X10_layTube in_X10_layTube se_X10_layTube (Nat.le_of_ble_eq_true rfl) (Nat.le_of_ble_eq_true rfl) (hp_80 _ _ _ _ _) rfl (s_X10_layTube hs1 hc8 hm hn hn9 hp hp4 hln) (fun v38 h38 q38 => ?_)
        obtain ⟨rfl, v1, rfl, hf1, hst1, hl1⟩ := q38
        show WP _ _ _ _ _ 41 _ [] (HP c w m v1 E) _
        refine wp_iconst (v0 := 0) d_X10_spread_41 rfl ?_
        refine wp_istore [(5, .int (0)), (4, .int (0)), (0, .ref (80)), (1, .int (nI (j))), (2, .int (x)), (3, .int (nI (N)))] d_X10_spread_42 (Nat.le_of_ble_eq_true rfl) rfl ?_
        refine wp_iconst (v0 := 0) d_X10_spread_44 rfl ?_
        refine wp_istore [(6, .int (0)), (5, .int (0)), (4, .int (0)), (0, .ref (80)), (1, .int (nI (j))), (2, .int (x)), (3, .int (nI (N)))] d_X10_spread_45 (Nat.le_of_ble_eq_true rfl) rfl ?_
        refine wp_iconst (v0 := 0) d_X10_spread_47 rfl ?_
        refine wp_istore [(7, .int (0)), (6, .int (0)), (5, .int (0)), (4, .int (0)), (0, .ref (80)), (1, .int (nI (j))), (2, .int (x)), (3, .int (nI (N)))] d_X10_spread_48 (Nat.le_of_ble_eq_true rfl) rfl ?_
        refine wp_sub [(7, .int (0)), (6, .int (0)), (5, .int (0)), (0, .ref (80)), (1, .int (nI (j))), (2, .int (x)), (3, .int (nI (N))), (4, .int (0))] [0, 1, 2, 4, 5, 6, 7, 3] rfl ?_
        refine wp_mono ?_ (s_X10_spread_l (d := d) (v := v) hs1 hc8 hm hn hn9 hp hp4 hln hj hz9 hz8 x hN N 0 0 0 v1 (by omega) hl1)
        rintro r h1 ⟨rfl, v2, rfl⟩
        exact Or.inr ⟨j, N, hj, rfl, hN1, hN, rfl, Or.inr ⟨w1, Or.inr ⟨w3, rfl, v2, rfl⟩⟩⟩
    · refine wp_iconst (v0 := -1) d_X10_spread_19 rfl ?_
      refine wp_reti d_X10_spread_20 rfl ?_
      exact Or.inl ⟨by omega, rfl, rfl⟩
