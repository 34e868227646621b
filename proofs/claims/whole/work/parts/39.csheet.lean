/-! ===== sheets: the class ===== -/
theorem hp_setX {c w m v : kZ} {E : kH} {b : Nat} (h : 102 ≤ b) (x : kC) : (HP c w m v E).set b x = HP c w m v (E.set (b - 102) x) := by
  obtain ⟨k, rfl⟩ : ∃ k, b = 102 + k := ⟨b - 102, by omega⟩
  rw [hp_setE, Nat.add_sub_cancel_left]
/-- a row of a sort with n items, its items at b -/
def kSh (E : kH) (a : Nat) (so : Int32) (b n : Nat) (f : Nat → Int32) : Prop := n ≤ 40 ∧ (102 ≤ a ∧ E[a - 102]? = some (.inr (7, [.int so, .ref b]))) ∧ 102 ≤ b ∧ E[b - 102]? = some (.inl (0, n, .inl f))
theorem hp_X {c w m v : kZ} {E : kH} {a : Nat} (h : 102 ≤ a) : (HP c w m v E)[a]? = E[a - 102]? := by
  obtain ⟨k, rfl⟩ : ∃ k, a = 102 + k := ⟨a - 102, by omega⟩
  rw [hp_E, Nat.add_sub_cancel_left]
theorem kSh.oa {c w m v : kZ} {E : kH} {a : Nat} {so : Int32} {b n : Nat} {f : Nat → Int32} (h : kSh E a so b n f) : (HP c w m v E)[a]? = some (.inr (7, [.int so, .ref b])) := (hp_X h.2.1.1).trans h.2.1.2
theorem kSh.ob {c w m v : kZ} {E : kH} {a : Nat} {so : Int32} {b n : Nat} {f : Nat → Int32} (h : kSh E a so b n f) : (HP c w m v E)[b]? = some (.inl (0, n, .inl f)) := (hp_X h.2.2.1).trans h.2.2.2
theorem s_X7_hasItem {X : kX} {d : Nat} {h : kH} {a b n : Nat} {so : Int32} {f : Nat → Int32} (ha : h[a]? = some (.inr (7, [.int so, .ref b]))) (hb : h[b]? = some (.inl (0, n, .inl f))) (hn : n ≤ 40) (i : Int32) : WP X (d + 1) 0 0 Y_X7_hasItem 0 [(0, .ref a), (1, .int i)] [] h (kR (some (.int (kb (0 ≤ i.toInt ∧ i.toInt < (n : Int))))) h) := by
  refine wp_iload_n 1 d_X7_hasItem_0 rfl rfl ?_
  refine wp_iconst (v0 := 0) d_X7_hasItem_1 rfl ?_
  refine wp_aload_n 0 d_X7_hasItem_2 rfl rfl ?_
  refine wp_getfield (v := .ref (b)) d_X7_hasItem_3 gf_X7_15 ha rfl ?_
  refine wp_alen (v := nI (n)) d_X7_hasItem_6 hb (Nat.le_of_ble_eq_true rfl) rfl ?_
  refine wp_iconst (v0 := 1) d_X7_hasItem_7 rfl ?_
  refine wp_isub d_X7_hasItem_8 ?_
  refine wp_stc_i (As := [.int (i), .int (0), .int ((nI (n)) - (1))]) (x0 := kb (0 ≤ (i : Int32).toInt ∧ (i : Int32).toInt ≤ ((nI (n)) - (1) : Int32).toInt)) (h1 := h) d_X7_hasItem_9 lk_X7_19 mv_X9_isWithin st_X9_isWithin (Nat.le_of_ble_eq_true rfl) (Nat.le_of_ble_eq_true rfl) (s_X9_isWithin _ (i : Int32) (0 : Int32) ((nI (n)) - (1) : Int32)) ?_
  refine wp_retb d_X7_hasItem_12 rfl ?_
  refine kR_i (kb_iff ?_) rfl
  rw [kn_pred (by omega)]
  constructor <;> intro q9 <;> exact ⟨by simpa using q9.1, by omega⟩
theorem s_X7_narrowed {X : kX} {d : Nat} {h : kH} {a b : Nat} {so : Int32} (ha : h[a]? = some (.inr (7, [.int so, .ref b]))) (x : Int32) : WP X d 0 0 Y_X7_narrowed 0 [(0, .ref a), (1, .int x)] [] h (kR (some (.int (knar so x))) h) := by
  refine wp_aload_n 0 d_X7_narrowed_0 rfl rfl ?_
  refine wp_getfield (v := .int (so)) d_X7_narrowed_1 gf_X7_9 ha rfl ?_
  refine wp_if (P := (so) = 0) (fun zc4 => ?_) (fun zc4_0 => ?_)
  · refine wp_tableIn 40 d_X7_narrowed_4 (by rw [zc4] <;> decide) (by rw [zc4] <;> decide) (by rw [zc4] <;> rfl) rfl ?_
    refine wp_iload_n 1 d_X7_narrowed_40 rfl rfl ?_
    refine wp_i2b d_X7_narrowed_41 ?_
    refine wp_reti d_X7_narrowed_42 rfl ?_
    refine kR_i ?_ rfl
    simp_all [knar]
  refine wp_if (P := (so) = 1) (fun zc4 => ?_) (fun zc4_1 => ?_)
  · refine wp_tableIn 43 d_X7_narrowed_4 (by rw [zc4] <;> decide) (by rw [zc4] <;> decide) (by rw [zc4] <;> rfl) rfl ?_
    refine wp_iload_n 1 d_X7_narrowed_43 rfl rfl ?_
    refine wp_i2s d_X7_narrowed_44 ?_
    refine wp_reti d_X7_narrowed_45 rfl ?_
    refine kR_i ?_ rfl
    simp_all [knar]
  refine wp_if (P := (so) = 4) (fun zc4 => ?_) (fun zc4_4 => ?_)
  · refine wp_tableIn 46 d_X7_narrowed_4 (by rw [zc4] <;> decide) (by rw [zc4] <;> decide) (by rw [zc4] <;> rfl) rfl ?_
    refine wp_iload_n 1 d_X7_narrowed_46 rfl rfl ?_
    refine wp_if_eq 54 d_X7_narrowed_47 rfl (fun zc47 => ?_) (fun zc47 => ?_)
    · refine wp_iconst (v0 := 0) d_X7_narrowed_54 rfl ?_
      refine wp_reti d_X7_narrowed_55 rfl ?_
      refine kR_i ?_ rfl
      simp_all [knar]
    · refine wp_iconst (v0 := 1) d_X7_narrowed_50 rfl ?_
      refine wp_goto 55 d_X7_narrowed_51 rfl ?_
      refine wp_reti d_X7_narrowed_55 rfl ?_
      refine kR_i ?_ rfl
      simp_all [knar]
  refine wp_swd_X7_narrowed_4 zc4_0 zc4_1 zc4_4 ?_
  refine wp_iload_n 1 d_X7_narrowed_56 rfl rfl ?_
  refine wp_reti d_X7_narrowed_57 rfl ?_
  refine kR_i ?_ rfl
  simp_all [knar]
theorem s_X7_init {X : kX} {d : Nat} (h : kH) (so : Int32) {N : Nat} (hN : N ≤ 40) : WP X (d + 1) 1 40 Y_X7_init 0 [(0, .ref h.length), (1, .int so), (2, .int (nI N))] [] (h ++ [.inr (7, [.int 0, .null])]) (kR none (h ++ [.inr (7, [.int so, .ref (h.length + 1)]), .inl (0, N, .inl (fun _ => 0))])) := by
  have e0 : (h ++ [.inr (7, [.int 0, .null])])[h.length]? = some (.inr (7, [.int 0, .null]) : kC) := by simp
  have e1 : (h ++ [.inr (7, [.int so, .null])])[h.length]? = some (.inr (7, [.int so, .null]) : kC) := by simp
  refine wp_aload_n 0 d_X7_init_0 rfl rfl ?_
  refine wp_objinit d_X7_init_1 oi_X7_3 oi_in oi_co (Nat.le_of_ble_eq_true rfl) ?_
  refine wp_aload_n 0 d_X7_init_4 rfl rfl ?_
  refine wp_iload_n 1 d_X7_init_5 rfl rfl ?_
  refine wp_putfinal (h' := h ++ [.inr (7, [.int so, .null])]) d_X7_init_6 rfl gi_X7_9 (kfit_i _) e0 (Nat.le_of_ble_eq_true rfl) (by simp [List.set_append]) ?_
  refine wp_aload_n 0 d_X7_init_9 rfl rfl ?_
  refine wp_iload_n 2 d_X7_init_10 rfl rfl ?_
  refine wp_widen (mc' := 0 + 1) (ms' := 0 + N) (by omega) (by omega) ?_
  refine wp_newarray d_X7_init_11 ac_int (by have := nI_nn (n := N) (by omega); exact Int32.not_lt.mpr this) (nI_clamp (by omega)) (by omega) ?_
  refine wp_putfinal (h' := h ++ [.inr (7, [.int so, .ref (h.length + 1)]), .inl (0, N, .inl (fun _ => 0))]) d_X7_init_13 rfl gi_X7_15 (kfit_a _) (by rw [List.getElem?_append_left (by simp)]; exact e1) (Nat.le_of_ble_eq_true rfl) (by simp [List.set_append]) ?_
  exact wp_vret d_X7_init_16 rfl ⟨rfl, rfl⟩
theorem s_X9_sheet {X : kX} {d : Nat} {c w m v : kZ} {E : kH} (s e x : Int32) : WP X (d + 2) 2 42 Y_X9_sheet 0 [(0, .ref (0)), (1, .int (s)), (2, .int (e)), (3, .int (x))] [] (HP c w m v E) (fun r h1 => (¬ (0 ≤ s.toInt ∧ s.toInt ≤ 3) ∧ r = some (.int (-1)) ∧ h1 = HP c w m v E) ∨ ∃ j : Nat, j ≤ 3 ∧ s = nI j ∧ ((e = -1 ∧ r = some (.int 1) ∧ h1 = HP (setQ c 75 (va_up (c.2.2.2 75) j none)) w m v E) ∨ (e ≠ -1 ∧ (¬ (0 ≤ e.toInt ∧ e.toInt ≤ 4) ∨ 40 < x.toInt) ∧ r = some (.int (-1)) ∧ h1 = HP c w m v E) ∨ (e ≠ -1 ∧ (0 ≤ e.toInt ∧ e.toInt ≤ 4) ∧ x.toInt < 0 ∧ r = some (.int (-14)) ∧ h1 = HP c w m v E) ∨ (e ≠ -1 ∧ (0 ≤ e.toInt ∧ e.toInt ≤ 4) ∧ ∃ N : Nat, N ≤ 40 ∧ x = nI N ∧ r = some (.int 1) ∧ h1 = HP (setQ c 75 (va_up (c.2.2.2 75) j (some (102 + E.length)))) w m v (E ++ [.inr (7, [.int e, .ref (103 + E.length)]), .inl (0, N, .inl (fun _ => 0))])))) := by
  refine wp_iload_n 1 d_X9_sheet_0 rfl rfl ?_
  refine wp_stc_i (As := [.int (s)]) (x0 := kb (0 ≤ (s : Int32).toInt ∧ (s : Int32).toInt ≤ 3)) (h1 := HP c w m v E) d_X9_sheet_1 lk_X9_312 mv_X9_isSheet st_X9_isSheet (Nat.le_of_ble_eq_true rfl) (Nat.le_of_ble_eq_true rfl) (s_X9_isSheet _ (s : Int32)) ?_
  refine wp_ifb_ne 9 d_X9_sheet_4 rfl (fun zc4 => ?_) (fun zc4 => ?_)
  · obtain ⟨j, hj, rfl⟩ := k_natle (n := 3) zc4
    refine wp_iload_n 2 d_X9_sheet_9 rfl rfl ?_
    refine wp_iconst (v0 := -1) d_X9_sheet_10 rfl ?_
    refine wp_icmp_ne 23 d_X9_sheet_11 rfl (fun zc11 => ?_) (fun zc11 => ?_)
    · refine wp_iload_n 2 d_X9_sheet_23 rfl rfl ?_
      refine wp_stc_i (As := [.int (e)]) (x0 := kb (0 ≤ (e : Int32).toInt ∧ (e : Int32).toInt ≤ 4)) (h1 := HP c w m v E) d_X9_sheet_24 lk_X9_315 mv_X9_isSort st_X9_isSort (Nat.le_of_ble_eq_true rfl) (Nat.le_of_ble_eq_true rfl) (s_X9_isSort _ (e : Int32)) ?_
      refine wp_ifb_eq 36 d_X9_sheet_27 rfl (fun zc27 => ?_) (fun zc27 => ?_)
      · refine wp_iconst (v0 := -1) d_X9_sheet_36 rfl ?_
        refine wp_reti d_X9_sheet_37 rfl ?_
        refine Or.inr ⟨j, hj, rfl, Or.inr (Or.inl ⟨zc11, ?_, rfl, rfl⟩)⟩
        first
        | exact Or.inl zc27
        | (have q9 := Int32.lt_iff_toInt_lt.mp (Int32.not_le.mp zc33); exact Or.inr (by simpa using q9))
      · refine wp_iload_n 3 d_X9_sheet_30 rfl rfl ?_
        refine wp_bipush (v0 := 40) d_X9_sheet_31 (by decide) ?_
        refine wp_icmp_le 38 d_X9_sheet_33 rfl (fun zc33 => ?_) (fun zc33 => ?_)
        · refine wp_iload_n 3 d_X9_sheet_38 rfl rfl ?_
          refine wp_if_ge 45 d_X9_sheet_39 rfl (fun zc39 => ?_) (fun zc39 => ?_)
          · refine wp_aload_n 0 d_X9_sheet_45 rfl rfl ?_
            refine wp_getfield (v := .ref (75)) d_X9_sheet_46 gf_X9_68 (hp_0 _ _ _ _ _) rfl ?_
            refine wp_iload_n 1 d_X9_sheet_49 rfl rfl ?_
            have c39b := Int32.le_iff_toInt_le.mp zc39
            have c33b := Int32.le_iff_toInt_le.mp zc33
            obtain ⟨N, hN, rfl⟩ := k_natle (n := 40) (x := x) ⟨by simpa using c39b, by simpa using c33b⟩
            refine wp_widen (mc' := 1 + 1) (ms' := 40 + 2) (by omega) (by omega) ?_
            refine wp_new (ci := 7) (r := (RX7, TX7, 2)) (fs := [.int 0, .null]) d_X9_sheet_50 rfl nw_X9_66 ins_X7 ini_X7 rfl (fun _ _ => rfl) ?_
            refine wp_dup d_X9_sheet_53 rfl ?_
            refine wp_iload_n 2 d_X9_sheet_54 rfl rfl ?_
            refine wp_iload_n 3 d_X9_sheet_55 rfl rfl ?_
            refine wp_widen (mc' := 1 + 0) (ms' := 40 + 0) (by omega) (by omega) ?_
            have L := s_X7_init (X := X) (d := d) (HP c w m v E) e hN
            refine wp_special (As := [.int e, .int (nI N)]) d_X9_sheet_56 lk_X9_318 mv_X7_init rfl rfl in_X7_init (Nat.le_of_ble_eq_true rfl) (Nat.le_of_ble_eq_true rfl) L (fun v56 h56 q56 => ?_)
            obtain ⟨rfl, rfl⟩ := q56
            rw [hp_app, hp_len]
            show WP _ _ _ _ _ 59 _ [.ref (102 + E.length), .int (nI j), .ref 75] (HP c w m v (E ++ [.inr (7, [.int e, .ref (102 + E.length + 1)]), .inl (0, N, .inl (fun _ => 0))])) _
            refine wp_aastore (h' := HP (setQ c 75 (va_up (c.2.2.2 75) (j) (some (102 + E.length)))) w m v (E ++ [.inr (7, [.int e, .ref (102 + E.length + 1)]), .inl (0, N, .inl (fun _ => 0))])) d_X9_sheet_59 (hp_75 _ _ _ _ _) (show _ = some (Sum.inr (7, [.int e, .ref (102 + E.length + 1)])) from by rw [hp_X (by omega), show 102 + E.length - 102 = E.length by omega]; simp) (vp_in_nI (by omega) (by omega)) (by rw [nI_clamp (by omega)]; exact hpq_75 _ _ _ _ _ _) ?_
            refine wp_iconst (v0 := 1) d_X9_sheet_60 rfl ?_
            refine wp_reti d_X9_sheet_61 rfl ?_
            exact Or.inr ⟨j, hj, rfl, Or.inr (Or.inr (Or.inr ⟨zc11, zc27, N, hN, rfl, rfl, by rw [show 103 + E.length = 102 + E.length + 1 by omega]⟩))⟩
          · refine wp_bipush (v0 := -14) d_X9_sheet_42 (by decide) ?_
            refine wp_reti d_X9_sheet_44 rfl ?_
            refine Or.inr ⟨j, hj, rfl, Or.inr (Or.inr (Or.inl ⟨zc11, zc27, ?_, rfl, rfl⟩))⟩
            have q9 := Int32.lt_iff_toInt_lt.mp (Int32.not_le.mp zc39)
            simpa using q9
        · refine wp_iconst (v0 := -1) d_X9_sheet_36 rfl ?_
          refine wp_reti d_X9_sheet_37 rfl ?_
          refine Or.inr ⟨j, hj, rfl, Or.inr (Or.inl ⟨zc11, ?_, rfl, rfl⟩)⟩
          first
          | exact Or.inl zc27
          | (have q9 := Int32.lt_iff_toInt_lt.mp (Int32.not_le.mp zc33); exact Or.inr (by simpa using q9))
    · refine wp_aload_n 0 d_X9_sheet_14 rfl rfl ?_
      refine wp_getfield (v := .ref (75)) d_X9_sheet_15 gf_X9_68 (hp_0 _ _ _ _ _) rfl ?_
      refine wp_iload_n 1 d_X9_sheet_18 rfl rfl ?_
      refine wp_null d_X9_sheet_19 ?_
      refine wp_aastoreN (h' := HP (setQ c 75 (va_up (c.2.2.2 75) (j) (none))) w m v E) d_X9_sheet_20 (hp_75 _ _ _ _ _) (vp_in_nI (by omega) (by omega)) (by rw [nI_clamp (by omega)]; exact hpq_75 _ _ _ _ _ _) ?_
      refine wp_iconst (v0 := 1) d_X9_sheet_21 rfl ?_
      refine wp_reti d_X9_sheet_22 rfl ?_
      exact Or.inr ⟨j, hj, rfl, Or.inl ⟨zc11, rfl, rfl⟩⟩
  · refine wp_iconst (v0 := -1) d_X9_sheet_7 rfl ?_
    refine wp_reti d_X9_sheet_8 rfl ?_
    exact Or.inl ⟨zc4, rfl, rfl⟩
theorem s_X9_write {X : kX} {d : Nat} {c w m v : kZ} {E : kH} {so : Nat → Int32} {ia nn : Nat → Nat} {ff : Nat → Nat → Int32} (hSh : ∀ j a, j < 4 → c.2.2.2 75 j = some a → kSh E a (so j) (ia j) (nn j) (ff j)) (s i x : Int32) : WP X (d + 2) 0 0 Y_X9_write 0 [(0, .ref (0)), (1, .int (s)), (2, .int (i)), (3, .int (x))] [] (HP c w m v E) (fun r h1 => (¬ (0 ≤ s.toInt ∧ s.toInt ≤ 3) ∧ r = some (.int (-1)) ∧ h1 = HP c w m v E) ∨ ∃ j : Nat, j ≤ 3 ∧ s = nI j ∧ ((c.2.2.2 75 j = none ∧ r = some (.int (-11)) ∧ h1 = HP c w m v E) ∨ ∃ a, c.2.2.2 75 j = some a ∧ ((¬ (0 ≤ (i).toInt ∧ (i).toInt < (nn j : Int)) ∧ r = some (.int (-12)) ∧ h1 = HP c w m v E) ∨ ∃ y : Nat, y < nn j ∧ i = nI y ∧ r = some (.int 1) ∧ h1 = HP c w m v (E.set (ia j - 102) (.inl (0, nn j, .inl (upd (ff j) y (knar (so j) x)))))))) := by
  refine wp_iload_n 1 d_X9_write_0 rfl rfl ?_
  refine wp_stc_i (As := [.int (s)]) (x0 := kb (0 ≤ (s : Int32).toInt ∧ (s : Int32).toInt ≤ 3)) (h1 := HP c w m v E) d_X9_write_1 lk_X9_312 mv_X9_isSheet st_X9_isSheet (Nat.le_of_ble_eq_true rfl) (Nat.le_of_ble_eq_true rfl) (s_X9_isSheet _ (s : Int32)) ?_
  refine wp_ifb_ne 9 d_X9_write_4 rfl (fun zc4 => ?_) (fun zc4 => ?_)
  · obtain ⟨j, hj, rfl⟩ := k_natle (n := 3) zc4
    refine wp_aload_n 0 d_X9_write_9 rfl rfl ?_
    refine wp_getfield (v := .ref (75)) d_X9_write_10 gf_X9_68 (hp_0 _ _ _ _ _) rfl ?_
    refine wp_iload_n 1 d_X9_write_13 rfl rfl ?_
    rcases h14 : (c.2.2.2 75) (j) with _ | a14
    · refine wp_aaload (v := .null) d_X9_write_14 (hp_75 _ _ _ _ _) (vp_in_nI (by omega) (by omega)) (by rw [nI_clamp (by omega), h14]; rfl) ?_
      refine wp_astoreN [(4, .null), (0, .ref (0)), (1, .int (nI (j))), (2, .int (i)), (3, .int (x))] d_X9_write_15 (Nat.le_of_ble_eq_true rfl) rfl ?_
      refine wp_aloadN 0 d_X9_write_17 rfl ?_
      refine wp_ifnonnullN d_X9_write_19 ?_
      refine wp_bipush (v0 := -11) d_X9_write_22 (by decide) ?_
      refine wp_reti d_X9_write_24 rfl ?_
      exact Or.inr ⟨j, hj, rfl, Or.inl ⟨h14, rfl, rfl⟩⟩
    · refine wp_aaload (v := .ref (a14)) d_X9_write_14 (hp_75 _ _ _ _ _) (vp_in_nI (by omega) (by omega)) (by rw [nI_clamp (by omega), h14]; rfl) ?_
      have hs9 := hSh j a14 (by omega) h14
      have hnn9 := hs9.1
      refine wp_astore [(4, .ref (a14)), (0, .ref (0)), (1, .int (nI (j))), (2, .int (i)), (3, .int (x))] d_X9_write_15 (Nat.le_of_ble_eq_true rfl) rfl ?_
      refine wp_aload 0 d_X9_write_17 rfl ?_
      refine wp_ifnonnull 25 d_X9_write_19 rfl ?_
      refine wp_aload 0 d_X9_write_25 rfl ?_
      refine wp_iload_n 3 d_X9_write_27 rfl rfl ?_
      refine wp_vrt_i (As := [.int (i)]) (x0 := kb (0 ≤ ((i) : Int32).toInt ∧ ((i) : Int32).toInt < (nn j : Int))) (h1 := HP c w m v E) d_X9_write_28 lk_X9_320 mv_X7_hasItem in_X7_hasItem se_X7_hasItem (Nat.le_of_ble_eq_true rfl) (Nat.le_of_ble_eq_true rfl) hs9.oa rfl (s_X7_hasItem hs9.oa hs9.ob hs9.1 (i)) ?_
      refine wp_ifb_ne 37 d_X9_write_31 rfl (fun zc31 => ?_) (fun zc31 => ?_)
      · obtain ⟨y, hy, rfl⟩ := k_nat zc31
        refine wp_aload 0 d_X9_write_37 rfl ?_
        refine wp_getfield (v := .ref ((ia j))) d_X9_write_39 gf_X9_323 hs9.oa rfl ?_
        refine wp_iload_n 3 d_X9_write_42 rfl rfl ?_
        refine wp_aload 0 d_X9_write_43 rfl ?_
        refine wp_iload_n 4 d_X9_write_45 rfl rfl ?_
        refine wp_vrt_i (As := [.int (x)]) (x0 := knar (so j) (x)) (h1 := HP c w m v E) d_X9_write_46 lk_X9_326 mv_X7_narrowed in_X7_narrowed se_X7_narrowed (Nat.le_of_ble_eq_true rfl) (Nat.le_of_ble_eq_true rfl) hs9.oa rfl (s_X7_narrowed hs9.oa (x)) ?_
        refine wp_iastore (h' := HP c w m v (E.set (ia j - 102) (.inl (0, nn j, .inl (upd (ff j) (y) (knar (so j) (x))))))) d_X9_write_49 hs9.ob (vp_in_nI (by omega) (by omega)) (by rw [nI_clamp (by omega)]; exact (hp_setX hs9.2.2.1 _)) ?_
        refine wp_iconst (v0 := 1) d_X9_write_50 rfl ?_
        refine wp_reti d_X9_write_51 rfl ?_
        exact Or.inr ⟨j, hj, rfl, Or.inr ⟨a14, h14, Or.inr ⟨y, hy, rfl, rfl, rfl⟩⟩⟩
      · refine wp_bipush (v0 := -12) d_X9_write_34 (by decide) ?_
        refine wp_reti d_X9_write_36 rfl ?_
        exact Or.inr ⟨j, hj, rfl, Or.inr ⟨a14, h14, Or.inl ⟨zc31, rfl, rfl⟩⟩⟩
  · refine wp_iconst (v0 := -1) d_X9_write_7 rfl ?_
    refine wp_reti d_X9_write_8 rfl ?_
    exact Or.inl ⟨zc4, rfl, rfl⟩
theorem s_X9_item {X : kX} {d : Nat} {c w m v : kZ} {E : kH} {so : Nat → Int32} {ia nn : Nat → Nat} {ff : Nat → Nat → Int32} (hSh : ∀ j a, j < 4 → c.2.2.2 75 j = some a → kSh E a (so j) (ia j) (nn j) (ff j)) (s e i : Int32) : WP X (d + 2) 0 0 Y_X9_item 0 [(0, .ref (0)), (1, .int (s)), (2, .int (e)), (3, .int (i))] [] (HP c w m v E) (fun r h1 => h1 = HP c w m v E ∧ ((¬ ((0 ≤ s.toInt ∧ s.toInt ≤ 3) ∧ 0 ≤ e.toInt ∧ e.toInt ≤ 4) ∧ r = some (.int (-1))) ∨ ∃ j : Nat, j ≤ 3 ∧ s = nI j ∧ (0 ≤ e.toInt ∧ e.toInt ≤ 4) ∧ ((c.2.2.2 75 j = none ∧ r = some (.int (-11))) ∨ ∃ a, c.2.2.2 75 j = some a ∧ ((so j ≠ e ∧ r = some (.int (-13))) ∨ (so j = e ∧ ((¬ (0 ≤ (i).toInt ∧ (i).toInt < (nn j : Int)) ∧ r = some (.int (-12))) ∨ ∃ y : Nat, y < nn j ∧ i = nI y ∧ r = some (.int ((ff j) (y))))))))) := by
  refine wp_iload_n 1 d_X9_item_0 rfl rfl ?_
  refine wp_stc_i (As := [.int (s)]) (x0 := kb (0 ≤ (s : Int32).toInt ∧ (s : Int32).toInt ≤ 3)) (h1 := HP c w m v E) d_X9_item_1 lk_X9_312 mv_X9_isSheet st_X9_isSheet (Nat.le_of_ble_eq_true rfl) (Nat.le_of_ble_eq_true rfl) (s_X9_isSheet _ (s : Int32)) ?_
  refine wp_ifb_eq 14 d_X9_item_4 rfl (fun zc4 => ?_) (fun zc4 => ?_)
  · refine wp_iconst (v0 := -1) d_X9_item_14 rfl ?_
    refine wp_reti d_X9_item_15 rfl ?_
    exact ⟨rfl, Or.inl ⟨by omega, rfl⟩⟩
  · refine wp_iload_n 2 d_X9_item_7 rfl rfl ?_
    refine wp_stc_i (As := [.int (e)]) (x0 := kb (0 ≤ (e : Int32).toInt ∧ (e : Int32).toInt ≤ 4)) (h1 := HP c w m v E) d_X9_item_8 lk_X9_315 mv_X9_isSort st_X9_isSort (Nat.le_of_ble_eq_true rfl) (Nat.le_of_ble_eq_true rfl) (s_X9_isSort _ (e : Int32)) ?_
    refine wp_ifb_ne 16 d_X9_item_11 rfl (fun zc11 => ?_) (fun zc11 => ?_)
    · obtain ⟨j, hj, rfl⟩ := k_natle (n := 3) zc4
      refine wp_aload_n 0 d_X9_item_16 rfl rfl ?_
      refine wp_getfield (v := .ref (75)) d_X9_item_17 gf_X9_68 (hp_0 _ _ _ _ _) rfl ?_
      refine wp_iload_n 1 d_X9_item_20 rfl rfl ?_
      rcases h21 : (c.2.2.2 75) (j) with _ | a21
      · refine wp_aaload (v := .null) d_X9_item_21 (hp_75 _ _ _ _ _) (vp_in_nI (by omega) (by omega)) (by rw [nI_clamp (by omega), h21]; rfl) ?_
        refine wp_astoreN [(4, .null), (0, .ref (0)), (1, .int (nI (j))), (2, .int (e)), (3, .int (i))] d_X9_item_22 (Nat.le_of_ble_eq_true rfl) rfl ?_
        refine wp_aloadN 0 d_X9_item_24 rfl ?_
        refine wp_ifnonnullN d_X9_item_26 ?_
        refine wp_bipush (v0 := -11) d_X9_item_29 (by decide) ?_
        refine wp_reti d_X9_item_31 rfl ?_
        exact ⟨rfl, Or.inr ⟨j, hj, rfl, zc11, Or.inl ⟨h21, rfl⟩⟩⟩
      · refine wp_aaload (v := .ref (a21)) d_X9_item_21 (hp_75 _ _ _ _ _) (vp_in_nI (by omega) (by omega)) (by rw [nI_clamp (by omega), h21]; rfl) ?_
        have hs9 := hSh j a21 (by omega) h21
        have hnn9 := hs9.1
        refine wp_astore [(4, .ref (a21)), (0, .ref (0)), (1, .int (nI (j))), (2, .int (e)), (3, .int (i))] d_X9_item_22 (Nat.le_of_ble_eq_true rfl) rfl ?_
        refine wp_aload 0 d_X9_item_24 rfl ?_
        refine wp_ifnonnull 32 d_X9_item_26 rfl ?_
        refine wp_aload 0 d_X9_item_32 rfl ?_
        refine wp_getfield (v := .int (so j)) d_X9_item_34 gf_X9_329 hs9.oa rfl ?_
        refine wp_iload_n 3 d_X9_item_37 rfl rfl ?_
        refine wp_icmp_eq 44 d_X9_item_38 rfl (fun zc38 => ?_) (fun zc38 => ?_)
        · refine wp_aload 0 d_X9_item_44 rfl ?_
          refine wp_iload_n 4 d_X9_item_46 rfl rfl ?_
          refine wp_vrt_i (As := [.int (i)]) (x0 := kb (0 ≤ ((i) : Int32).toInt ∧ ((i) : Int32).toInt < (nn j : Int))) (h1 := HP c w m v E) d_X9_item_47 lk_X9_320 mv_X7_hasItem in_X7_hasItem se_X7_hasItem (Nat.le_of_ble_eq_true rfl) (Nat.le_of_ble_eq_true rfl) hs9.oa rfl (s_X7_hasItem hs9.oa hs9.ob hs9.1 (i)) ?_
          refine wp_ifb_eq 63 d_X9_item_50 rfl (fun zc50 => ?_) (fun zc50 => ?_)
          · refine wp_bipush (v0 := -12) d_X9_item_63 (by decide) ?_
            refine wp_reti d_X9_item_65 rfl ?_
            exact ⟨rfl, Or.inr ⟨j, hj, rfl, zc11, Or.inr ⟨a21, h21, Or.inr ⟨zc38, Or.inl ⟨zc50, rfl⟩⟩⟩⟩⟩
          · obtain ⟨y, hy, rfl⟩ := k_nat zc50
            refine wp_aload 0 d_X9_item_53 rfl ?_
            refine wp_getfield (v := .ref ((ia j))) d_X9_item_55 gf_X9_323 hs9.oa rfl ?_
            refine wp_iload_n 4 d_X9_item_58 rfl rfl ?_
            refine wp_iaload (v := (ff j) (y)) d_X9_item_59 hs9.ob (vp_in_nI (by omega) (by omega)) (congrArg ((ff j)) (nI_clamp (by omega))) ?_
            refine wp_goto 65 d_X9_item_60 rfl ?_
            refine wp_reti d_X9_item_65 rfl ?_
            exact ⟨rfl, Or.inr ⟨j, hj, rfl, zc11, Or.inr ⟨a21, h21, Or.inr ⟨zc38, Or.inr ⟨y, hy, rfl, rfl⟩⟩⟩⟩⟩
        · refine wp_bipush (v0 := -13) d_X9_item_41 (by decide) ?_
          refine wp_reti d_X9_item_43 rfl ?_
          exact ⟨rfl, Or.inr ⟨j, hj, rfl, zc11, Or.inr ⟨a21, h21, Or.inl ⟨zc38, rfl⟩⟩⟩⟩
    · refine wp_iconst (v0 := -1) d_X9_item_14 rfl ?_
      refine wp_reti d_X9_item_15 rfl ?_
      exact ⟨rfl, Or.inl ⟨by omega, rfl⟩⟩
/-- items one behind the other, as far as there are such -/
def kft {α : Type} (fit : α → Int32 → Option α) (it : Nat → Option Int32) : Nat → Nat → α → Int32 → α × Int32
  | 0, _, c, z => (c, z)
  | k + 1, i, c, z => match it i with
    | none => (c, -12)
    | some x => match fit c x with
      | some zc1 => kft fit it k (i + 1) zc1 (z + 1)
      | none => kft fit it k (i + 1) c z
def ksp (F : Int32 → Int32) (it : Nat → Option Int32) : Nat → Nat → Int32 → Int32 → Int32
  | 0, _, lo, hi => hi - lo
  | k + 1, i, lo, hi => match it i with
    | none => -12
    | some x => if -9 ≤ x.toInt ∧ x.toInt ≤ 9 then ksp F it k (i + 1) (if i = 0 ∨ F x < lo then F x else lo) (if i = 0 ∨ hi < F x then F x else hi) else -4
abbrev cit (n : Nat) (f : Nat → Int32) (x : Int32) : Nat → Option Int32 := fun i => if 0 ≤ (x + nI i).toInt ∧ (x + nI i).toInt < (n : Int) then some (f (x + nI i).toNatClampNeg) else none
def cfitc (n : Nat) (c : kZ) (x : Int32) : Option kZ := if (0 ≤ x.toInt ∧ x.toInt < (n : Int)) ∧ (c.1 107).toNatClampNeg < 4 ∧ kfi (c.2.1 9) x (c.1 107).toNatClampNeg 0 = -9 then some (setS (setA (setA c 9 (upd (c.2.1 9) (c.1 107).toNatClampNeg x)) 10 (upd (c.2.1 10) (c.1 107).toNatClampNeg 0)) 107 (nI ((c.1 107).toNatClampNeg + 1))) else none
def kcq (n : Nat) (c : kZ) : Prop := c.1 100 = nI n ∧ ∃ p, c.1 107 = nI p ∧ p ≤ 4
theorem s_X9_fit_f {X : kX} {d : Nat} {c w m v : kZ} {E : kH} {n : Nat} (hn9 : n ≤ 9) (hc : kcq n c) (l : Int32) : WP X (d + 2) 0 0 Y_X9_fit 0 [(0, .ref (0)), (1, .int l), (2, .int 0)] [] (HP c w m v E) (fun r h1 => (cfitc n c l = none ∧ ∃ z : Int32, ¬ 0 ≤ z ∧ r = some (.int z) ∧ h1 = HP c w m v E) ∨ ∃ (zc1 : kZ) (q : Nat), cfitc n c l = some zc1 ∧ q < 4 ∧ kcq n zc1 ∧ r = some (.int (nI q)) ∧ h1 = HP zc1 w m v E) := by
  obtain ⟨hn, p, hp, hp4⟩ := hc
  have ep : (c.1 107).toNatClampNeg = p := by rw [hp, nI_clamp (by omega)]
  refine wp_mono ?_ (s_X9_fit hn hn9 hp hp4 l 0)
  have h0 : 0 ≤ (0 : Int32).toInt ∧ (0 : Int32).toInt ≤ 3 := by decide
  rintro r h1 (⟨a, rfl, rfl⟩ | ⟨a, b, rfl, rfl⟩ | ⟨a, b, e, rfl, rfl⟩ | ⟨a, b, e, rfl, rfl⟩)
  · exact Or.inl ⟨by unfold cfitc; rw [ep]; exact if_neg (fun q => a ⟨q.1, h0⟩), _, by decide, rfl, rfl⟩
  · exact Or.inl ⟨by unfold cfitc; rw [ep]; exact if_neg (fun q => absurd q.2.1 (by omega)), _, by decide, rfl, rfl⟩
  · exact Or.inl ⟨by unfold cfitc; rw [ep]; exact if_neg (fun q => e q.2.2), _, by decide, rfl, rfl⟩
  · refine Or.inr ⟨setS (setA (setA c 9 (upd (c.2.1 9) p l)) 10 (upd (c.2.1 10) p 0)) 107 (nI (p + 1)), p, by unfold cfitc; rw [ep]; exact if_pos ⟨a.1, b, e⟩, b, ⟨hn, p + 1, rfl, by omega⟩, rfl, rfl⟩
theorem s_X9_fits_l {X : kX} {d : Nat} {c w m v : kZ} {E : kH} {n : Nat} (hn9 : n ≤ 9) {a4 : Nat} {so : Nat → Int32} {ia nn : Nat → Nat} {ff : Nat → Nat → Int32} {j : Nat} (hs9 : kSh E a4 (so j) (ia j) (nn j) (ff j)) (s x : Int32) {N : Nat} (hN : N ≤ 20) : ∀ (k : Nat) (i : Nat) (c' : kZ) (z : Int32), (i + k = N) → (kcq n c') → WP X (d + 3) 0 0 Y_X9_fits 52 [(6, .int (nI (i))), (5, .int (z)), (0, .ref (0)), (2, .int (x)), (3, .int (nI (N))), (4, .ref (a4))] [] (HP c' w m v E) (fun r h1 => r = some (.int (kft (cfitc n) (cit (nn j) (ff j) x) k i c' z).2) ∧ h1 = HP (kft (cfitc n) (cit (nn j) (ff j) x) k i c' z).1 w m v E) := by
  intro k
  induction k using Nat.strongRecOn with
  | ind k ih =>
    intro i c' z hi hk
    refine wp_iload 0 d_X9_fits_52 rfl ?_
    refine wp_iload_n 4 d_X9_fits_54 rfl rfl ?_
    refine wp_ncmp_ge (a := i) (b := N) 100 d_X9_fits_55 rfl (by omega) (by omega) (fun zc55 => ?_) (fun zc55 => ?_)
    · refine wp_iload 1 d_X9_fits_100 rfl ?_
      refine wp_reti d_X9_fits_102 rfl ?_
      obtain rfl : k = 0 := by omega
      exact ⟨rfl, rfl⟩
    · refine wp_aload 5 d_X9_fits_58 rfl ?_
      refine wp_iload_n 3 d_X9_fits_60 rfl rfl ?_
      refine wp_iload 0 d_X9_fits_61 rfl ?_
      refine wp_iadd d_X9_fits_63 ?_
      refine wp_vrt_i (As := [.int ((x) + (nI (i)))]) (x0 := kb (0 ≤ (((x) + (nI (i))) : Int32).toInt ∧ (((x) + (nI (i))) : Int32).toInt < (nn j : Int))) (h1 := HP c' w m v E) d_X9_fits_64 lk_X9_320 mv_X7_hasItem in_X7_hasItem se_X7_hasItem (Nat.le_of_ble_eq_true rfl) (Nat.le_of_ble_eq_true rfl) hs9.oa rfl (s_X7_hasItem hs9.oa hs9.ob hs9.1 ((x) + (nI (i)))) ?_
      refine wp_ifb_ne 73 d_X9_fits_67 rfl (fun zc67 => ?_) (fun zc67 => ?_)
      · have hnn9 := hs9.1
        have hv83 : vp_in (x + nI i) (nn j) := vp_in_iff.mpr zc67
        refine wp_aload_n 2 d_X9_fits_73 rfl rfl ?_
        refine wp_aload 5 d_X9_fits_74 rfl ?_
        refine wp_getfield (v := .ref ((ia j))) d_X9_fits_76 gf_X9_323 hs9.oa rfl ?_
        refine wp_iload_n 3 d_X9_fits_79 rfl rfl ?_
        refine wp_iload 0 d_X9_fits_80 rfl ?_
        refine wp_iadd d_X9_fits_82 ?_
        refine wp_iaload (v := (ff j) (((x) + (nI (i))).toNatClampNeg)) d_X9_fits_83 hs9.ob hv83 rfl ?_
        refine wp_iconst (v0 := 0) d_X9_fits_84 rfl ?_
        refine wp_virtual0 (As := [.int ((ff j) (((x) + (nI (i))).toNatClampNeg)), .int (0)]) d_X9_fits_85 lk_X9_332 mv_X9_fit in_X9_fit se_X9_fit (Nat.le_of_ble_eq_true rfl) (Nat.le_of_ble_eq_true rfl) (hp_0 _ _ _ _ _) rfl (s_X9_fit_f hn9 hk ((ff j) (((x) + (nI (i))).toNatClampNeg))) (fun v85 h85 q85 => ?_)
        rcases q85 with ⟨hf, z85, hz85, rfl, rfl⟩ | ⟨zc1, q85, hf, hq85, hk85, rfl, rfl⟩
        · show WP _ _ _ _ _ 88 _ [.int (z85)] (HP c' w m v E) _
          refine wp_if_lt 94 d_X9_fits_88 rfl (fun zc88 => ?_) (fun zc88 => ?_)
          · refine wp_iinc (v0 := nI ((i) + 1)) [(6, .int (nI ((i) + 1))), (5, .int (z)), (0, .ref (0)), (2, .int (x)), (3, .int (nI (N))), (4, .ref (a4))] 0 d_X9_fits_94 rfl (nI_add (i) 1) (Nat.le_of_ble_eq_true rfl) rfl ?_
            refine wp_goto 52 d_X9_fits_97 rfl ?_
            obtain ⟨k1, rfl⟩ : ∃ k1, k = k1 + 1 := ⟨k - 1, by omega⟩
            refine wp_sub [(6, .int (nI ((i) + 1))), (5, .int (z)), (0, .ref (0)), (2, .int (x)), (3, .int (nI (N))), (4, .ref (a4))] [0, 1, 2, 3, 4, 5] rfl ?_
            have hit : (cit (nn j) (ff j) x) i = some (ff j (x + nI i).toNatClampNeg) := if_pos zc67
            simp only [kft]
            rw [hit]
            simp only [hf]
            have L := ih k1 (by omega) (i + 1) c' z (by omega) hk
            exact L
          · refine wp_iinc (v0 := (z) + (1)) [(5, .int ((z) + (1))), (6, .int (nI (i))), (0, .ref (0)), (2, .int (x)), (3, .int (nI (N))), (4, .ref (a4))] 1 d_X9_fits_91 rfl rfl (Nat.le_of_ble_eq_true rfl) rfl ?_
            refine wp_iinc (v0 := nI ((i) + 1)) [(6, .int (nI ((i) + 1))), (5, .int ((z) + (1))), (0, .ref (0)), (2, .int (x)), (3, .int (nI (N))), (4, .ref (a4))] 1 d_X9_fits_94 rfl (nI_add (i) 1) (Nat.le_of_ble_eq_true rfl) rfl ?_
            refine wp_goto 52 d_X9_fits_97 rfl ?_
            exact absurd (Int32.not_lt.mp zc88) hz85
        · show WP _ _ _ _ _ 88 _ [.int (nI (q85))] (HP zc1 w m v E) _
          refine wp_if_lt 94 d_X9_fits_88 rfl (fun zc88 => ?_) (fun zc88 => ?_)
          · refine wp_iinc (v0 := nI ((i) + 1)) [(6, .int (nI ((i) + 1))), (5, .int (z)), (0, .ref (0)), (2, .int (x)), (3, .int (nI (N))), (4, .ref (a4))] 0 d_X9_fits_94 rfl (nI_add (i) 1) (Nat.le_of_ble_eq_true rfl) rfl ?_
            refine wp_goto 52 d_X9_fits_97 rfl ?_
            exact absurd zc88 (Int32.not_lt.mpr (nI_nn (by omega)))
          · refine wp_iinc (v0 := (z) + (1)) [(5, .int ((z) + (1))), (6, .int (nI (i))), (0, .ref (0)), (2, .int (x)), (3, .int (nI (N))), (4, .ref (a4))] 1 d_X9_fits_91 rfl rfl (Nat.le_of_ble_eq_true rfl) rfl ?_
            refine wp_iinc (v0 := nI ((i) + 1)) [(6, .int (nI ((i) + 1))), (5, .int ((z) + (1))), (0, .ref (0)), (2, .int (x)), (3, .int (nI (N))), (4, .ref (a4))] 1 d_X9_fits_94 rfl (nI_add (i) 1) (Nat.le_of_ble_eq_true rfl) rfl ?_
            refine wp_goto 52 d_X9_fits_97 rfl ?_
            obtain ⟨k1, rfl⟩ : ∃ k1, k = k1 + 1 := ⟨k - 1, by omega⟩
            refine wp_sub [(6, .int (nI ((i) + 1))), (5, .int ((z) + (1))), (0, .ref (0)), (2, .int (x)), (3, .int (nI (N))), (4, .ref (a4))] [0, 1, 2, 3, 4, 5] rfl ?_
            have hit : (cit (nn j) (ff j) x) i = some (ff j (x + nI i).toNatClampNeg) := if_pos zc67
            simp only [kft]
            rw [hit]
            simp only [hf]
            have L := ih k1 (by omega) (i + 1) zc1 (z + 1) (by omega) hk85
            exact L
      · refine wp_bipush (v0 := -12) d_X9_fits_70 (by decide) ?_
        refine wp_reti d_X9_fits_72 rfl ?_
        obtain ⟨k1, rfl⟩ : ∃ k1, k = k1 + 1 := ⟨k - 1, by omega⟩
        have hit : (cit (nn j) (ff j) x) i = none := if_neg zc67
        simp only [kft]
        rw [hit]
        exact ⟨rfl, rfl⟩
theorem s_X9_fits {X : kX} {d : Nat} {c w m v : kZ} {E : kH} {n : Nat} (hn9 : n ≤ 9) (hc : kcq n c) {so : Nat → Int32} {ia nn : Nat → Nat} {ff : Nat → Nat → Int32} (hSh : ∀ j a, j < 4 → c.2.2.2 75 j = some a → kSh E a (so j) (ia j) (nn j) (ff j)) (s x y : Int32) : WP X (d + 3) 0 0 Y_X9_fits 0 [(0, .ref (0)), (1, .int (s)), (2, .int (x)), (3, .int (y))] [] (HP c w m v E) (fun r h1 => (¬ ((0 ≤ s.toInt ∧ s.toInt ≤ 3) ∧ 0 ≤ y.toInt ∧ y.toInt ≤ 20) ∧ r = some (.int (-1)) ∧ h1 = HP c w m v E) ∨ ∃ j N : Nat, j ≤ 3 ∧ s = nI j ∧ N ≤ 20 ∧ y = nI N ∧ ((c.2.2.2 75 j = none ∧ r = some (.int (-11)) ∧ h1 = HP c w m v E) ∨ ∃ a, c.2.2.2 75 j = some a ∧ ((so j ≠ 0 ∧ r = some (.int (-13)) ∧ h1 = HP c w m v E) ∨ (so j = 0 ∧ r = some (.int (kft (cfitc n) (cit (nn j) (ff j) x) N 0 c 0).2) ∧ h1 = HP (kft (cfitc n) (cit (nn j) (ff j) x) N 0 c 0).1 w m v E)))) := by
  refine wp_iload_n 1 d_X9_fits_0 rfl rfl ?_
  refine wp_stc_i (As := [.int (s)]) (x0 := kb (0 ≤ (s : Int32).toInt ∧ (s : Int32).toInt ≤ 3)) (h1 := HP c w m v E) d_X9_fits_1 lk_X9_312 mv_X9_isSheet st_X9_isSheet (Nat.le_of_ble_eq_true rfl) (Nat.le_of_ble_eq_true rfl) (s_X9_isSheet _ (s : Int32)) ?_
  refine wp_ifb_eq 17 d_X9_fits_4 rfl (fun zc4 => ?_) (fun zc4 => ?_)
  · refine wp_iconst (v0 := -1) d_X9_fits_17 rfl ?_
    refine wp_reti d_X9_fits_18 rfl ?_
    exact Or.inl ⟨by omega, rfl, rfl⟩
  · refine wp_iload_n 3 d_X9_fits_7 rfl rfl ?_
    refine wp_iconst (v0 := 0) d_X9_fits_8 rfl ?_
    refine wp_bipush (v0 := 20) d_X9_fits_9 (by decide) ?_
    refine wp_stc_i (As := [.int (y), .int (0), .int (20)]) (x0 := kb (0 ≤ (y : Int32).toInt ∧ (y : Int32).toInt ≤ 20)) (h1 := HP c w m v E) d_X9_fits_11 lk_X9_98 mv_X9_isWithin st_X9_isWithin (Nat.le_of_ble_eq_true rfl) (Nat.le_of_ble_eq_true rfl) (s_X9_isWithin _ (y : Int32) (0 : Int32) (20 : Int32)) ?_
    refine wp_ifb_ne 19 d_X9_fits_14 rfl (fun zc14 => ?_) (fun zc14 => ?_)
    · obtain ⟨j, hj, rfl⟩ := k_natle (n := 3) zc4
      obtain ⟨N, hN, rfl⟩ := k_natle (n := 20) zc14
      refine wp_aload_n 0 d_X9_fits_19 rfl rfl ?_
      refine wp_getfield (v := .ref (75)) d_X9_fits_20 gf_X9_68 (hp_0 _ _ _ _ _) rfl ?_
      refine wp_iload_n 1 d_X9_fits_23 rfl rfl ?_
      rcases h24 : (c.2.2.2 75) (j) with _ | a24
      · refine wp_aaload (v := .null) d_X9_fits_24 (hp_75 _ _ _ _ _) (vp_in_nI (by omega) (by omega)) (by rw [nI_clamp (by omega), h24]; rfl) ?_
        refine wp_astoreN [(4, .null), (0, .ref (0)), (1, .int (nI (j))), (2, .int (x)), (3, .int (nI (N)))] d_X9_fits_25 (Nat.le_of_ble_eq_true rfl) rfl ?_
        refine wp_aloadN 0 d_X9_fits_27 rfl ?_
        refine wp_ifnonnullN d_X9_fits_29 ?_
        refine wp_bipush (v0 := -11) d_X9_fits_32 (by decide) ?_
        refine wp_reti d_X9_fits_34 rfl ?_
        exact Or.inr ⟨j, N, hj, rfl, hN, rfl, Or.inl ⟨h24, rfl, rfl⟩⟩
      · refine wp_aaload (v := .ref (a24)) d_X9_fits_24 (hp_75 _ _ _ _ _) (vp_in_nI (by omega) (by omega)) (by rw [nI_clamp (by omega), h24]; rfl) ?_
        have hs9 := hSh j a24 (by omega) h24
        have hnn9 := hs9.1
        refine wp_astore [(4, .ref (a24)), (0, .ref (0)), (1, .int (nI (j))), (2, .int (x)), (3, .int (nI (N)))] d_X9_fits_25 (Nat.le_of_ble_eq_true rfl) rfl ?_
        refine wp_aload 0 d_X9_fits_27 rfl ?_
        refine wp_ifnonnull 35 d_X9_fits_29 rfl ?_
        refine wp_aload 0 d_X9_fits_35 rfl ?_
        refine wp_getfield (v := .int (so j)) d_X9_fits_37 gf_X9_329 hs9.oa rfl ?_
        refine wp_if_eq 46 d_X9_fits_40 rfl (fun zc40 => ?_) (fun zc40 => ?_)
        · refine wp_iconst (v0 := 0) d_X9_fits_46 rfl ?_
          refine wp_istore [(5, .int (0)), (4, .ref (a24)), (0, .ref (0)), (1, .int (nI (j))), (2, .int (x)), (3, .int (nI (N)))] d_X9_fits_47 (Nat.le_of_ble_eq_true rfl) rfl ?_
          refine wp_iconst (v0 := 0) d_X9_fits_49 rfl ?_
          refine wp_istore [(6, .int (0)), (5, .int (0)), (4, .ref (a24)), (0, .ref (0)), (1, .int (nI (j))), (2, .int (x)), (3, .int (nI (N)))] d_X9_fits_50 (Nat.le_of_ble_eq_true rfl) rfl ?_
          refine wp_sub [(6, .int (0)), (5, .int (0)), (0, .ref (0)), (2, .int (x)), (3, .int (nI (N))), (4, .ref (a24))] [0, 1, 3, 5, 6, 2] rfl ?_
          refine wp_mono ?_ (s_X9_fits_l (c := c) hn9 hs9 (nI j) x hN N 0 c 0 (by omega) hc)
          rintro r h1 ⟨rfl, rfl⟩
          exact Or.inr ⟨j, N, hj, rfl, hN, rfl, Or.inr ⟨a24, h24, Or.inr ⟨zc40, rfl, rfl⟩⟩⟩
        · refine wp_bipush (v0 := -13) d_X9_fits_43 (by decide) ?_
          refine wp_reti d_X9_fits_45 rfl ?_
          exact Or.inr ⟨j, N, hj, rfl, hN, rfl, Or.inr ⟨a24, h24, Or.inl ⟨zc40, rfl, rfl⟩⟩⟩
    · refine wp_iconst (v0 := -1) d_X9_fits_17 rfl ?_
      refine wp_reti d_X9_fits_18 rfl ?_
      exact Or.inl ⟨by omega, rfl, rfl⟩
theorem s_X9_spread_l {X : kX} {d : Nat} {c w m v : kZ} {E : kH} {w1 : kZ} {p : Nat} (hp4 : p ≤ 4) (he1 : w1.1 4210 = nI (p + 1)) {a4 : Nat} {so : Nat → Int32} {ia nn : Nat → Nat} {ff : Nat → Nat → Int32} {j : Nat} (hs9 : kSh E a4 (so j) (ia j) (nn j) (ff j)) (s x : Int32) {N : Nat} (hN : N ≤ 20) : ∀ (k : Nat) (i : Nat) (lo : Int32) (hh : Int32), (i + k = N) → WP X (d + 7) 0 0 Y_X9_spread 59 [(7, .int (nI (i))), (6, .int (hh)), (5, .int (lo)), (0, .ref (0)), (2, .int (x)), (3, .int (nI (N))), (4, .ref (a4))] [] (HP c w1 m v E) (kR (some (.int (ksp (fun y => w1.2.1 46 (p + 1) + y * w1.2.1 48 (p + 1)) (cit (nn j) (ff j) x) k i lo hh))) (HP c w1 m v E)) := by
  intro k
  induction k using Nat.strongRecOn with
  | ind k ih =>
    intro i lo hh hi
    refine wp_iload 0 d_X9_spread_59 rfl ?_
    refine wp_iload_n 5 d_X9_spread_61 rfl rfl ?_
    refine wp_ncmp_ge (a := i) (b := N) 156 d_X9_spread_62 rfl (by omega) (by omega) (fun zc62 => ?_) (fun zc62 => ?_)
    · refine wp_iload 1 d_X9_spread_156 rfl ?_
      refine wp_iload 2 d_X9_spread_158 rfl ?_
      refine wp_isub d_X9_spread_160 ?_
      refine wp_reti d_X9_spread_161 rfl ?_
      obtain rfl : k = 0 := by omega
      exact kR_i rfl rfl
    · refine wp_aload 6 d_X9_spread_65 rfl ?_
      refine wp_iload_n 4 d_X9_spread_67 rfl rfl ?_
      refine wp_iload 0 d_X9_spread_68 rfl ?_
      refine wp_iadd d_X9_spread_70 ?_
      refine wp_vrt_i (As := [.int ((x) + (nI (i)))]) (x0 := kb (0 ≤ (((x) + (nI (i))) : Int32).toInt ∧ (((x) + (nI (i))) : Int32).toInt < (nn j : Int))) (h1 := HP c w1 m v E) d_X9_spread_71 lk_X9_320 mv_X7_hasItem in_X7_hasItem se_X7_hasItem (Nat.le_of_ble_eq_true rfl) (Nat.le_of_ble_eq_true rfl) hs9.oa rfl (s_X7_hasItem hs9.oa hs9.ob hs9.1 ((x) + (nI (i)))) ?_
      refine wp_ifb_ne 80 d_X9_spread_74 rfl (fun zc74 => ?_) (fun zc74 => ?_)
      · have hnn9 := hs9.1
        have hv83 : vp_in (x + nI i) (nn j) := vp_in_iff.mpr zc74
        refine wp_aload 6 d_X9_spread_80 rfl ?_
        refine wp_getfield (v := .ref ((ia j))) d_X9_spread_82 gf_X9_323 hs9.oa rfl ?_
        refine wp_iload_n 4 d_X9_spread_85 rfl rfl ?_
        refine wp_iload 0 d_X9_spread_86 rfl ?_
        refine wp_iadd d_X9_spread_88 ?_
        refine wp_iaload (v := (ff j) (((x) + (nI (i))).toNatClampNeg)) d_X9_spread_89 hs9.ob hv83 rfl ?_
        refine wp_stc_i (As := [.int ((ff j) (((x) + (nI (i))).toNatClampNeg))]) (x0 := kb (-9 ≤ ((ff j) (((x) + (nI (i))).toNatClampNeg) : Int32).toInt ∧ ((ff j) (((x) + (nI (i))).toNatClampNeg) : Int32).toInt ≤ 9)) (h1 := HP c w1 m v E) d_X9_spread_90 lk_X9_95 mv_X9_isSmall st_X9_isSmall (Nat.le_of_ble_eq_true rfl) (Nat.le_of_ble_eq_true rfl) (s_X9_isSmall _ ((ff j) (((x) + (nI (i))).toNatClampNeg) : Int32)) ?_
        refine wp_ifb_ne 99 d_X9_spread_93 rfl (fun zc93 => ?_) (fun zc93 => ?_)
        · refine wp_aload_n 3 d_X9_spread_99 rfl rfl ?_
          refine wp_getfield (v := .ref (42)) d_X9_spread_100 gf_X9_32 (hp_0 _ _ _ _ _) rfl ?_
          refine wp_aload 6 d_X9_spread_103 rfl ?_
          refine wp_getfield (v := .ref ((ia j))) d_X9_spread_105 gf_X9_323 hs9.oa rfl ?_
          refine wp_iload_n 4 d_X9_spread_108 rfl rfl ?_
          refine wp_iload 0 d_X9_spread_109 rfl ?_
          refine wp_iadd d_X9_spread_111 ?_
          refine wp_iaload (v := (ff j) (((x) + (nI (i))).toNatClampNeg)) d_X9_spread_112 hs9.ob hv83 rfl ?_
          refine wp_vrt_i (As := [.int ((ff j) (((x) + (nI (i))).toNatClampNeg))]) (x0 := w1.2.1 46 (p + 1) + ((ff j) (((x) + (nI (i))).toNatClampNeg)) * w1.2.1 48 (p + 1)) (h1 := HP c w1 m v E) d_X9_spread_113 lk_X9_171 mv_X5_seenOf in_X5_seenOf se_X5_seenOf (Nat.le_of_ble_eq_true rfl) (Nat.le_of_ble_eq_true rfl) (hp_42 _ _ _ _ _) rfl (s_X5_seenOf (w := w1) he1 (by omega) ((ff j) (((x) + (nI (i))).toNatClampNeg))) ?_
          refine wp_istore [(8, .int (w1.2.1 46 (p + 1) + ((ff j) (((x) + (nI (i))).toNatClampNeg)) * w1.2.1 48 (p + 1))), (7, .int (nI (i))), (6, .int (hh)), (5, .int (lo)), (0, .ref (0)), (2, .int (x)), (3, .int (nI (N))), (4, .ref (a4))] d_X9_spread_116 (Nat.le_of_ble_eq_true rfl) rfl ?_
          refine wp_iload 1 d_X9_spread_118 rfl ?_
          refine wp_nif_eq (a := i) 130 d_X9_spread_120 rfl (by omega) (fun zc120 => ?_) (fun zc120 => ?_)
          · refine wp_iload 0 d_X9_spread_130 rfl ?_
            refine wp_istore [(5, .int (w1.2.1 46 (p + 1) + ((ff j) (((x) + (nI (i))).toNatClampNeg)) * w1.2.1 48 (p + 1))), (8, .int (w1.2.1 46 (p + 1) + ((ff j) (((x) + (nI (i))).toNatClampNeg)) * w1.2.1 48 (p + 1))), (7, .int (nI (i))), (6, .int (hh)), (0, .ref (0)), (2, .int (x)), (3, .int (nI (N))), (4, .ref (a4))] d_X9_spread_132 (Nat.le_of_ble_eq_true rfl) rfl ?_
            refine wp_iload 2 d_X9_spread_134 rfl ?_
            refine wp_nif_eq (a := i) 146 d_X9_spread_136 rfl (by omega) (fun zc136 => ?_) (fun zc136 => ?_)
            · refine wp_iload 1 d_X9_spread_146 rfl ?_
              refine wp_istore [(6, .int (w1.2.1 46 (p + 1) + ((ff j) (((x) + (nI (i))).toNatClampNeg)) * w1.2.1 48 (p + 1))), (5, .int (w1.2.1 46 (p + 1) + ((ff j) (((x) + (nI (i))).toNatClampNeg)) * w1.2.1 48 (p + 1))), (8, .int (w1.2.1 46 (p + 1) + ((ff j) (((x) + (nI (i))).toNatClampNeg)) * w1.2.1 48 (p + 1))), (7, .int (nI (i))), (0, .ref (0)), (2, .int (x)), (3, .int (nI (N))), (4, .ref (a4))] d_X9_spread_148 (Nat.le_of_ble_eq_true rfl) rfl ?_
              refine wp_iinc (v0 := nI ((i) + 1)) [(7, .int (nI ((i) + 1))), (6, .int (w1.2.1 46 (p + 1) + ((ff j) (((x) + (nI (i))).toNatClampNeg)) * w1.2.1 48 (p + 1))), (5, .int (w1.2.1 46 (p + 1) + ((ff j) (((x) + (nI (i))).toNatClampNeg)) * w1.2.1 48 (p + 1))), (8, .int (w1.2.1 46 (p + 1) + ((ff j) (((x) + (nI (i))).toNatClampNeg)) * w1.2.1 48 (p + 1))), (0, .ref (0)), (2, .int (x)), (3, .int (nI (N))), (4, .ref (a4))] 3 d_X9_spread_150 rfl (nI_add (i) 1) (Nat.le_of_ble_eq_true rfl) rfl ?_
              refine wp_goto 59 d_X9_spread_153 rfl ?_
              obtain ⟨k1, rfl⟩ : ∃ k1, k = k1 + 1 := ⟨k - 1, by omega⟩
              refine wp_sub [(7, .int (nI ((i) + 1))), (6, .int (w1.2.1 46 (p + 1) + ((ff j) (((x) + (nI (i))).toNatClampNeg)) * w1.2.1 48 (p + 1))), (5, .int (w1.2.1 46 (p + 1) + ((ff j) (((x) + (nI (i))).toNatClampNeg)) * w1.2.1 48 (p + 1))), (0, .ref (0)), (2, .int (x)), (3, .int (nI (N))), (4, .ref (a4))] [0, 1, 2, 4, 5, 6, 7] rfl ?_
              have hit : (cit (nn j) (ff j) x) i = some (ff j (x + nI i).toNatClampNeg) := if_pos zc74
              have e1 : (if i = 0 ∨ (fun y => w1.2.1 46 (p + 1) + y * w1.2.1 48 (p + 1)) (ff j (x + nI i).toNatClampNeg) < lo then (fun y => w1.2.1 46 (p + 1) + y * w1.2.1 48 (p + 1)) (ff j (x + nI i).toNatClampNeg) else lo) = w1.2.1 46 (p + 1) + ((ff j) (((x) + (nI (i))).toNatClampNeg)) * w1.2.1 48 (p + 1) := by
                first
                  | exact if_pos (Or.inl zc120)
                  | exact if_pos (Or.inr (Int32.not_le.mp zc127))
                  | exact if_neg (fun q => q.elim zc120 (fun q => absurd zc127 (Int32.not_le.mpr q)))
              have e2 : (if i = 0 ∨ hh < (fun y => w1.2.1 46 (p + 1) + y * w1.2.1 48 (p + 1)) (ff j (x + nI i).toNatClampNeg) then (fun y => w1.2.1 46 (p + 1) + y * w1.2.1 48 (p + 1)) (ff j (x + nI i).toNatClampNeg) else hh) = w1.2.1 46 (p + 1) + ((ff j) (((x) + (nI (i))).toNatClampNeg)) * w1.2.1 48 (p + 1) := by
                first
                  | exact if_pos (Or.inl zc136)
                  | exact if_pos (Or.inr (Int32.not_le.mp zc143))
                  | exact if_neg (fun q => q.elim zc136 (fun q => absurd zc143 (Int32.not_le.mpr q)))
              simp only [ksp]
              rw [hit]
              simp only []
              rw [if_pos zc93, e1, e2]
              exact ih k1 (by omega) (i + 1) _ _ (by omega)
            · refine wp_iload 1 d_X9_spread_139 rfl ?_
              refine wp_iload 3 d_X9_spread_141 rfl ?_
              refine wp_icmp_le 150 d_X9_spread_143 rfl (fun zc143 => ?_) (fun zc143 => ?_)
              · refine wp_iinc (v0 := nI ((i) + 1)) [(7, .int (nI ((i) + 1))), (5, .int (w1.2.1 46 (p + 1) + ((ff j) (((x) + (nI (i))).toNatClampNeg)) * w1.2.1 48 (p + 1))), (8, .int (w1.2.1 46 (p + 1) + ((ff j) (((x) + (nI (i))).toNatClampNeg)) * w1.2.1 48 (p + 1))), (6, .int (hh)), (0, .ref (0)), (2, .int (x)), (3, .int (nI (N))), (4, .ref (a4))] 2 d_X9_spread_150 rfl (nI_add (i) 1) (Nat.le_of_ble_eq_true rfl) rfl ?_
                refine wp_goto 59 d_X9_spread_153 rfl ?_
                obtain ⟨k1, rfl⟩ : ∃ k1, k = k1 + 1 := ⟨k - 1, by omega⟩
                refine wp_sub [(7, .int (nI ((i) + 1))), (6, .int (hh)), (5, .int (w1.2.1 46 (p + 1) + ((ff j) (((x) + (nI (i))).toNatClampNeg)) * w1.2.1 48 (p + 1))), (0, .ref (0)), (2, .int (x)), (3, .int (nI (N))), (4, .ref (a4))] [0, 3, 1, 4, 5, 6, 7] rfl ?_
                have hit : (cit (nn j) (ff j) x) i = some (ff j (x + nI i).toNatClampNeg) := if_pos zc74
                have e1 : (if i = 0 ∨ (fun y => w1.2.1 46 (p + 1) + y * w1.2.1 48 (p + 1)) (ff j (x + nI i).toNatClampNeg) < lo then (fun y => w1.2.1 46 (p + 1) + y * w1.2.1 48 (p + 1)) (ff j (x + nI i).toNatClampNeg) else lo) = w1.2.1 46 (p + 1) + ((ff j) (((x) + (nI (i))).toNatClampNeg)) * w1.2.1 48 (p + 1) := by
                  first
                    | exact if_pos (Or.inl zc120)
                    | exact if_pos (Or.inr (Int32.not_le.mp zc127))
                    | exact if_neg (fun q => q.elim zc120 (fun q => absurd zc127 (Int32.not_le.mpr q)))
                have e2 : (if i = 0 ∨ hh < (fun y => w1.2.1 46 (p + 1) + y * w1.2.1 48 (p + 1)) (ff j (x + nI i).toNatClampNeg) then (fun y => w1.2.1 46 (p + 1) + y * w1.2.1 48 (p + 1)) (ff j (x + nI i).toNatClampNeg) else hh) = hh := by
                  first
                    | exact if_pos (Or.inl zc136)
                    | exact if_pos (Or.inr (Int32.not_le.mp zc143))
                    | exact if_neg (fun q => q.elim zc136 (fun q => absurd zc143 (Int32.not_le.mpr q)))
                simp only [ksp]
                rw [hit]
                simp only []
                rw [if_pos zc93, e1, e2]
                exact ih k1 (by omega) (i + 1) _ _ (by omega)
              · refine wp_iload 1 d_X9_spread_146 rfl ?_
                refine wp_istore [(6, .int (w1.2.1 46 (p + 1) + ((ff j) (((x) + (nI (i))).toNatClampNeg)) * w1.2.1 48 (p + 1))), (5, .int (w1.2.1 46 (p + 1) + ((ff j) (((x) + (nI (i))).toNatClampNeg)) * w1.2.1 48 (p + 1))), (8, .int (w1.2.1 46 (p + 1) + ((ff j) (((x) + (nI (i))).toNatClampNeg)) * w1.2.1 48 (p + 1))), (7, .int (nI (i))), (0, .ref (0)), (2, .int (x)), (3, .int (nI (N))), (4, .ref (a4))] d_X9_spread_148 (Nat.le_of_ble_eq_true rfl) rfl ?_
                refine wp_iinc (v0 := nI ((i) + 1)) [(7, .int (nI ((i) + 1))), (6, .int (w1.2.1 46 (p + 1) + ((ff j) (((x) + (nI (i))).toNatClampNeg)) * w1.2.1 48 (p + 1))), (5, .int (w1.2.1 46 (p + 1) + ((ff j) (((x) + (nI (i))).toNatClampNeg)) * w1.2.1 48 (p + 1))), (8, .int (w1.2.1 46 (p + 1) + ((ff j) (((x) + (nI (i))).toNatClampNeg)) * w1.2.1 48 (p + 1))), (0, .ref (0)), (2, .int (x)), (3, .int (nI (N))), (4, .ref (a4))] 3 d_X9_spread_150 rfl (nI_add (i) 1) (Nat.le_of_ble_eq_true rfl) rfl ?_
                refine wp_goto 59 d_X9_spread_153 rfl ?_
                obtain ⟨k1, rfl⟩ : ∃ k1, k = k1 + 1 := ⟨k - 1, by omega⟩
                refine wp_sub [(7, .int (nI ((i) + 1))), (6, .int (w1.2.1 46 (p + 1) + ((ff j) (((x) + (nI (i))).toNatClampNeg)) * w1.2.1 48 (p + 1))), (5, .int (w1.2.1 46 (p + 1) + ((ff j) (((x) + (nI (i))).toNatClampNeg)) * w1.2.1 48 (p + 1))), (0, .ref (0)), (2, .int (x)), (3, .int (nI (N))), (4, .ref (a4))] [0, 1, 2, 4, 5, 6, 7] rfl ?_
                have hit : (cit (nn j) (ff j) x) i = some (ff j (x + nI i).toNatClampNeg) := if_pos zc74
                have e1 : (if i = 0 ∨ (fun y => w1.2.1 46 (p + 1) + y * w1.2.1 48 (p + 1)) (ff j (x + nI i).toNatClampNeg) < lo then (fun y => w1.2.1 46 (p + 1) + y * w1.2.1 48 (p + 1)) (ff j (x + nI i).toNatClampNeg) else lo) = w1.2.1 46 (p + 1) + ((ff j) (((x) + (nI (i))).toNatClampNeg)) * w1.2.1 48 (p + 1) := by
                  first
                    | exact if_pos (Or.inl zc120)
                    | exact if_pos (Or.inr (Int32.not_le.mp zc127))
                    | exact if_neg (fun q => q.elim zc120 (fun q => absurd zc127 (Int32.not_le.mpr q)))
                have e2 : (if i = 0 ∨ hh < (fun y => w1.2.1 46 (p + 1) + y * w1.2.1 48 (p + 1)) (ff j (x + nI i).toNatClampNeg) then (fun y => w1.2.1 46 (p + 1) + y * w1.2.1 48 (p + 1)) (ff j (x + nI i).toNatClampNeg) else hh) = w1.2.1 46 (p + 1) + ((ff j) (((x) + (nI (i))).toNatClampNeg)) * w1.2.1 48 (p + 1) := by
                  first
                    | exact if_pos (Or.inl zc136)
                    | exact if_pos (Or.inr (Int32.not_le.mp zc143))
                    | exact if_neg (fun q => q.elim zc136 (fun q => absurd zc143 (Int32.not_le.mpr q)))
                simp only [ksp]
                rw [hit]
                simp only []
                rw [if_pos zc93, e1, e2]
                exact ih k1 (by omega) (i + 1) _ _ (by omega)
          · refine wp_iload 0 d_X9_spread_123 rfl ?_
            refine wp_iload 3 d_X9_spread_125 rfl ?_
            refine wp_icmp_ge 134 d_X9_spread_127 rfl (fun zc127 => ?_) (fun zc127 => ?_)
            · refine wp_iload 1 d_X9_spread_134 rfl ?_
              refine wp_nif_eq (a := i) 146 d_X9_spread_136 rfl (by omega) (fun zc136 => ?_) (fun zc136 => ?_)
              · refine wp_iload 0 d_X9_spread_146 rfl ?_
                refine wp_istore [(6, .int (w1.2.1 46 (p + 1) + ((ff j) (((x) + (nI (i))).toNatClampNeg)) * w1.2.1 48 (p + 1))), (8, .int (w1.2.1 46 (p + 1) + ((ff j) (((x) + (nI (i))).toNatClampNeg)) * w1.2.1 48 (p + 1))), (7, .int (nI (i))), (5, .int (lo)), (0, .ref (0)), (2, .int (x)), (3, .int (nI (N))), (4, .ref (a4))] d_X9_spread_148 (Nat.le_of_ble_eq_true rfl) rfl ?_
                refine wp_iinc (v0 := nI ((i) + 1)) [(7, .int (nI ((i) + 1))), (6, .int (w1.2.1 46 (p + 1) + ((ff j) (((x) + (nI (i))).toNatClampNeg)) * w1.2.1 48 (p + 1))), (8, .int (w1.2.1 46 (p + 1) + ((ff j) (((x) + (nI (i))).toNatClampNeg)) * w1.2.1 48 (p + 1))), (5, .int (lo)), (0, .ref (0)), (2, .int (x)), (3, .int (nI (N))), (4, .ref (a4))] 2 d_X9_spread_150 rfl (nI_add (i) 1) (Nat.le_of_ble_eq_true rfl) rfl ?_
                refine wp_goto 59 d_X9_spread_153 rfl ?_
                obtain ⟨k1, rfl⟩ : ∃ k1, k = k1 + 1 := ⟨k - 1, by omega⟩
                refine wp_sub [(7, .int (nI ((i) + 1))), (6, .int (w1.2.1 46 (p + 1) + ((ff j) (((x) + (nI (i))).toNatClampNeg)) * w1.2.1 48 (p + 1))), (5, .int (lo)), (0, .ref (0)), (2, .int (x)), (3, .int (nI (N))), (4, .ref (a4))] [0, 1, 3, 4, 5, 6, 7] rfl ?_
                have hit : (cit (nn j) (ff j) x) i = some (ff j (x + nI i).toNatClampNeg) := if_pos zc74
                have e1 : (if i = 0 ∨ (fun y => w1.2.1 46 (p + 1) + y * w1.2.1 48 (p + 1)) (ff j (x + nI i).toNatClampNeg) < lo then (fun y => w1.2.1 46 (p + 1) + y * w1.2.1 48 (p + 1)) (ff j (x + nI i).toNatClampNeg) else lo) = lo := by
                  first
                    | exact if_pos (Or.inl zc120)
                    | exact if_pos (Or.inr (Int32.not_le.mp zc127))
                    | exact if_neg (fun q => q.elim zc120 (fun q => absurd zc127 (Int32.not_le.mpr q)))
                have e2 : (if i = 0 ∨ hh < (fun y => w1.2.1 46 (p + 1) + y * w1.2.1 48 (p + 1)) (ff j (x + nI i).toNatClampNeg) then (fun y => w1.2.1 46 (p + 1) + y * w1.2.1 48 (p + 1)) (ff j (x + nI i).toNatClampNeg) else hh) = w1.2.1 46 (p + 1) + ((ff j) (((x) + (nI (i))).toNatClampNeg)) * w1.2.1 48 (p + 1) := by
                  first
                    | exact if_pos (Or.inl zc136)
                    | exact if_pos (Or.inr (Int32.not_le.mp zc143))
                    | exact if_neg (fun q => q.elim zc136 (fun q => absurd zc143 (Int32.not_le.mpr q)))
                simp only [ksp]
                rw [hit]
                simp only []
                rw [if_pos zc93, e1, e2]
                exact ih k1 (by omega) (i + 1) _ _ (by omega)
              · refine wp_iload 0 d_X9_spread_139 rfl ?_
                refine wp_iload 2 d_X9_spread_141 rfl ?_
                refine wp_icmp_le 150 d_X9_spread_143 rfl (fun zc143 => ?_) (fun zc143 => ?_)
                · refine wp_iinc (v0 := nI ((i) + 1)) [(7, .int (nI ((i) + 1))), (8, .int (w1.2.1 46 (p + 1) + ((ff j) (((x) + (nI (i))).toNatClampNeg)) * w1.2.1 48 (p + 1))), (6, .int (hh)), (5, .int (lo)), (0, .ref (0)), (2, .int (x)), (3, .int (nI (N))), (4, .ref (a4))] 1 d_X9_spread_150 rfl (nI_add (i) 1) (Nat.le_of_ble_eq_true rfl) rfl ?_
                  refine wp_goto 59 d_X9_spread_153 rfl ?_
                  obtain ⟨k1, rfl⟩ : ∃ k1, k = k1 + 1 := ⟨k - 1, by omega⟩
                  refine wp_sub [(7, .int (nI ((i) + 1))), (6, .int (hh)), (5, .int (lo)), (0, .ref (0)), (2, .int (x)), (3, .int (nI (N))), (4, .ref (a4))] [0, 2, 3, 4, 5, 6, 7] rfl ?_
                  have hit : (cit (nn j) (ff j) x) i = some (ff j (x + nI i).toNatClampNeg) := if_pos zc74
                  have e1 : (if i = 0 ∨ (fun y => w1.2.1 46 (p + 1) + y * w1.2.1 48 (p + 1)) (ff j (x + nI i).toNatClampNeg) < lo then (fun y => w1.2.1 46 (p + 1) + y * w1.2.1 48 (p + 1)) (ff j (x + nI i).toNatClampNeg) else lo) = lo := by
                    first
                      | exact if_pos (Or.inl zc120)
                      | exact if_pos (Or.inr (Int32.not_le.mp zc127))
                      | exact if_neg (fun q => q.elim zc120 (fun q => absurd zc127 (Int32.not_le.mpr q)))
                  have e2 : (if i = 0 ∨ hh < (fun y => w1.2.1 46 (p + 1) + y * w1.2.1 48 (p + 1)) (ff j (x + nI i).toNatClampNeg) then (fun y => w1.2.1 46 (p + 1) + y * w1.2.1 48 (p + 1)) (ff j (x + nI i).toNatClampNeg) else hh) = hh := by
                    first
                      | exact if_pos (Or.inl zc136)
                      | exact if_pos (Or.inr (Int32.not_le.mp zc143))
                      | exact if_neg (fun q => q.elim zc136 (fun q => absurd zc143 (Int32.not_le.mpr q)))
                  simp only [ksp]
                  rw [hit]
                  simp only []
                  rw [if_pos zc93, e1, e2]
                  exact ih k1 (by omega) (i + 1) _ _ (by omega)
                · refine wp_iload 0 d_X9_spread_146 rfl ?_
                  refine wp_istore [(6, .int (w1.2.1 46 (p + 1) + ((ff j) (((x) + (nI (i))).toNatClampNeg)) * w1.2.1 48 (p + 1))), (8, .int (w1.2.1 46 (p + 1) + ((ff j) (((x) + (nI (i))).toNatClampNeg)) * w1.2.1 48 (p + 1))), (7, .int (nI (i))), (5, .int (lo)), (0, .ref (0)), (2, .int (x)), (3, .int (nI (N))), (4, .ref (a4))] d_X9_spread_148 (Nat.le_of_ble_eq_true rfl) rfl ?_
                  refine wp_iinc (v0 := nI ((i) + 1)) [(7, .int (nI ((i) + 1))), (6, .int (w1.2.1 46 (p + 1) + ((ff j) (((x) + (nI (i))).toNatClampNeg)) * w1.2.1 48 (p + 1))), (8, .int (w1.2.1 46 (p + 1) + ((ff j) (((x) + (nI (i))).toNatClampNeg)) * w1.2.1 48 (p + 1))), (5, .int (lo)), (0, .ref (0)), (2, .int (x)), (3, .int (nI (N))), (4, .ref (a4))] 2 d_X9_spread_150 rfl (nI_add (i) 1) (Nat.le_of_ble_eq_true rfl) rfl ?_
                  refine wp_goto 59 d_X9_spread_153 rfl ?_
                  obtain ⟨k1, rfl⟩ : ∃ k1, k = k1 + 1 := ⟨k - 1, by omega⟩
                  refine wp_sub [(7, .int (nI ((i) + 1))), (6, .int (w1.2.1 46 (p + 1) + ((ff j) (((x) + (nI (i))).toNatClampNeg)) * w1.2.1 48 (p + 1))), (5, .int (lo)), (0, .ref (0)), (2, .int (x)), (3, .int (nI (N))), (4, .ref (a4))] [0, 1, 3, 4, 5, 6, 7] rfl ?_
                  have hit : (cit (nn j) (ff j) x) i = some (ff j (x + nI i).toNatClampNeg) := if_pos zc74
                  have e1 : (if i = 0 ∨ (fun y => w1.2.1 46 (p + 1) + y * w1.2.1 48 (p + 1)) (ff j (x + nI i).toNatClampNeg) < lo then (fun y => w1.2.1 46 (p + 1) + y * w1.2.1 48 (p + 1)) (ff j (x + nI i).toNatClampNeg) else lo) = lo := by
                    first
                      | exact if_pos (Or.inl zc120)
                      | exact if_pos (Or.inr (Int32.not_le.mp zc127))
                      | exact if_neg (fun q => q.elim zc120 (fun q => absurd zc127 (Int32.not_le.mpr q)))
                  have e2 : (if i = 0 ∨ hh < (fun y => w1.2.1 46 (p + 1) + y * w1.2.1 48 (p + 1)) (ff j (x + nI i).toNatClampNeg) then (fun y => w1.2.1 46 (p + 1) + y * w1.2.1 48 (p + 1)) (ff j (x + nI i).toNatClampNeg) else hh) = w1.2.1 46 (p + 1) + ((ff j) (((x) + (nI (i))).toNatClampNeg)) * w1.2.1 48 (p + 1) := by
                    first
                      | exact if_pos (Or.inl zc136)
                      | exact if_pos (Or.inr (Int32.not_le.mp zc143))
                      | exact if_neg (fun q => q.elim zc136 (fun q => absurd zc143 (Int32.not_le.mpr q)))
                  simp only [ksp]
                  rw [hit]
                  simp only []
                  rw [if_pos zc93, e1, e2]
                  exact ih k1 (by omega) (i + 1) _ _ (by omega)
            · refine wp_iload 0 d_X9_spread_130 rfl ?_
              refine wp_istore [(5, .int (w1.2.1 46 (p + 1) + ((ff j) (((x) + (nI (i))).toNatClampNeg)) * w1.2.1 48 (p + 1))), (8, .int (w1.2.1 46 (p + 1) + ((ff j) (((x) + (nI (i))).toNatClampNeg)) * w1.2.1 48 (p + 1))), (7, .int (nI (i))), (6, .int (hh)), (0, .ref (0)), (2, .int (x)), (3, .int (nI (N))), (4, .ref (a4))] d_X9_spread_132 (Nat.le_of_ble_eq_true rfl) rfl ?_
              refine wp_iload 2 d_X9_spread_134 rfl ?_
              refine wp_nif_eq (a := i) 146 d_X9_spread_136 rfl (by omega) (fun zc136 => ?_) (fun zc136 => ?_)
              · refine wp_iload 1 d_X9_spread_146 rfl ?_
                refine wp_istore [(6, .int (w1.2.1 46 (p + 1) + ((ff j) (((x) + (nI (i))).toNatClampNeg)) * w1.2.1 48 (p + 1))), (5, .int (w1.2.1 46 (p + 1) + ((ff j) (((x) + (nI (i))).toNatClampNeg)) * w1.2.1 48 (p + 1))), (8, .int (w1.2.1 46 (p + 1) + ((ff j) (((x) + (nI (i))).toNatClampNeg)) * w1.2.1 48 (p + 1))), (7, .int (nI (i))), (0, .ref (0)), (2, .int (x)), (3, .int (nI (N))), (4, .ref (a4))] d_X9_spread_148 (Nat.le_of_ble_eq_true rfl) rfl ?_
                refine wp_iinc (v0 := nI ((i) + 1)) [(7, .int (nI ((i) + 1))), (6, .int (w1.2.1 46 (p + 1) + ((ff j) (((x) + (nI (i))).toNatClampNeg)) * w1.2.1 48 (p + 1))), (5, .int (w1.2.1 46 (p + 1) + ((ff j) (((x) + (nI (i))).toNatClampNeg)) * w1.2.1 48 (p + 1))), (8, .int (w1.2.1 46 (p + 1) + ((ff j) (((x) + (nI (i))).toNatClampNeg)) * w1.2.1 48 (p + 1))), (0, .ref (0)), (2, .int (x)), (3, .int (nI (N))), (4, .ref (a4))] 3 d_X9_spread_150 rfl (nI_add (i) 1) (Nat.le_of_ble_eq_true rfl) rfl ?_
                refine wp_goto 59 d_X9_spread_153 rfl ?_
                obtain ⟨k1, rfl⟩ : ∃ k1, k = k1 + 1 := ⟨k - 1, by omega⟩
                refine wp_sub [(7, .int (nI ((i) + 1))), (6, .int (w1.2.1 46 (p + 1) + ((ff j) (((x) + (nI (i))).toNatClampNeg)) * w1.2.1 48 (p + 1))), (5, .int (w1.2.1 46 (p + 1) + ((ff j) (((x) + (nI (i))).toNatClampNeg)) * w1.2.1 48 (p + 1))), (0, .ref (0)), (2, .int (x)), (3, .int (nI (N))), (4, .ref (a4))] [0, 1, 2, 4, 5, 6, 7] rfl ?_
                have hit : (cit (nn j) (ff j) x) i = some (ff j (x + nI i).toNatClampNeg) := if_pos zc74
                have e1 : (if i = 0 ∨ (fun y => w1.2.1 46 (p + 1) + y * w1.2.1 48 (p + 1)) (ff j (x + nI i).toNatClampNeg) < lo then (fun y => w1.2.1 46 (p + 1) + y * w1.2.1 48 (p + 1)) (ff j (x + nI i).toNatClampNeg) else lo) = w1.2.1 46 (p + 1) + ((ff j) (((x) + (nI (i))).toNatClampNeg)) * w1.2.1 48 (p + 1) := by
                  first
                    | exact if_pos (Or.inl zc120)
                    | exact if_pos (Or.inr (Int32.not_le.mp zc127))
                    | exact if_neg (fun q => q.elim zc120 (fun q => absurd zc127 (Int32.not_le.mpr q)))
                have e2 : (if i = 0 ∨ hh < (fun y => w1.2.1 46 (p + 1) + y * w1.2.1 48 (p + 1)) (ff j (x + nI i).toNatClampNeg) then (fun y => w1.2.1 46 (p + 1) + y * w1.2.1 48 (p + 1)) (ff j (x + nI i).toNatClampNeg) else hh) = w1.2.1 46 (p + 1) + ((ff j) (((x) + (nI (i))).toNatClampNeg)) * w1.2.1 48 (p + 1) := by
                  first
                    | exact if_pos (Or.inl zc136)
                    | exact if_pos (Or.inr (Int32.not_le.mp zc143))
                    | exact if_neg (fun q => q.elim zc136 (fun q => absurd zc143 (Int32.not_le.mpr q)))
                simp only [ksp]
                rw [hit]
                simp only []
                rw [if_pos zc93, e1, e2]
                exact ih k1 (by omega) (i + 1) _ _ (by omega)
              · refine wp_iload 1 d_X9_spread_139 rfl ?_
                refine wp_iload 3 d_X9_spread_141 rfl ?_
                refine wp_icmp_le 150 d_X9_spread_143 rfl (fun zc143 => ?_) (fun zc143 => ?_)
                · refine wp_iinc (v0 := nI ((i) + 1)) [(7, .int (nI ((i) + 1))), (5, .int (w1.2.1 46 (p + 1) + ((ff j) (((x) + (nI (i))).toNatClampNeg)) * w1.2.1 48 (p + 1))), (8, .int (w1.2.1 46 (p + 1) + ((ff j) (((x) + (nI (i))).toNatClampNeg)) * w1.2.1 48 (p + 1))), (6, .int (hh)), (0, .ref (0)), (2, .int (x)), (3, .int (nI (N))), (4, .ref (a4))] 2 d_X9_spread_150 rfl (nI_add (i) 1) (Nat.le_of_ble_eq_true rfl) rfl ?_
                  refine wp_goto 59 d_X9_spread_153 rfl ?_
                  obtain ⟨k1, rfl⟩ : ∃ k1, k = k1 + 1 := ⟨k - 1, by omega⟩
                  refine wp_sub [(7, .int (nI ((i) + 1))), (6, .int (hh)), (5, .int (w1.2.1 46 (p + 1) + ((ff j) (((x) + (nI (i))).toNatClampNeg)) * w1.2.1 48 (p + 1))), (0, .ref (0)), (2, .int (x)), (3, .int (nI (N))), (4, .ref (a4))] [0, 3, 1, 4, 5, 6, 7] rfl ?_
                  have hit : (cit (nn j) (ff j) x) i = some (ff j (x + nI i).toNatClampNeg) := if_pos zc74
                  have e1 : (if i = 0 ∨ (fun y => w1.2.1 46 (p + 1) + y * w1.2.1 48 (p + 1)) (ff j (x + nI i).toNatClampNeg) < lo then (fun y => w1.2.1 46 (p + 1) + y * w1.2.1 48 (p + 1)) (ff j (x + nI i).toNatClampNeg) else lo) = w1.2.1 46 (p + 1) + ((ff j) (((x) + (nI (i))).toNatClampNeg)) * w1.2.1 48 (p + 1) := by
                    first
                      | exact if_pos (Or.inl zc120)
                      | exact if_pos (Or.inr (Int32.not_le.mp zc127))
                      | exact if_neg (fun q => q.elim zc120 (fun q => absurd zc127 (Int32.not_le.mpr q)))
                  have e2 : (if i = 0 ∨ hh < (fun y => w1.2.1 46 (p + 1) + y * w1.2.1 48 (p + 1)) (ff j (x + nI i).toNatClampNeg) then (fun y => w1.2.1 46 (p + 1) + y * w1.2.1 48 (p + 1)) (ff j (x + nI i).toNatClampNeg) else hh) = hh := by
                    first
                      | exact if_pos (Or.inl zc136)
                      | exact if_pos (Or.inr (Int32.not_le.mp zc143))
                      | exact if_neg (fun q => q.elim zc136 (fun q => absurd zc143 (Int32.not_le.mpr q)))
                  simp only [ksp]
                  rw [hit]
                  simp only []
                  rw [if_pos zc93, e1, e2]
                  exact ih k1 (by omega) (i + 1) _ _ (by omega)
                · refine wp_iload 1 d_X9_spread_146 rfl ?_
                  refine wp_istore [(6, .int (w1.2.1 46 (p + 1) + ((ff j) (((x) + (nI (i))).toNatClampNeg)) * w1.2.1 48 (p + 1))), (5, .int (w1.2.1 46 (p + 1) + ((ff j) (((x) + (nI (i))).toNatClampNeg)) * w1.2.1 48 (p + 1))), (8, .int (w1.2.1 46 (p + 1) + ((ff j) (((x) + (nI (i))).toNatClampNeg)) * w1.2.1 48 (p + 1))), (7, .int (nI (i))), (0, .ref (0)), (2, .int (x)), (3, .int (nI (N))), (4, .ref (a4))] d_X9_spread_148 (Nat.le_of_ble_eq_true rfl) rfl ?_
                  refine wp_iinc (v0 := nI ((i) + 1)) [(7, .int (nI ((i) + 1))), (6, .int (w1.2.1 46 (p + 1) + ((ff j) (((x) + (nI (i))).toNatClampNeg)) * w1.2.1 48 (p + 1))), (5, .int (w1.2.1 46 (p + 1) + ((ff j) (((x) + (nI (i))).toNatClampNeg)) * w1.2.1 48 (p + 1))), (8, .int (w1.2.1 46 (p + 1) + ((ff j) (((x) + (nI (i))).toNatClampNeg)) * w1.2.1 48 (p + 1))), (0, .ref (0)), (2, .int (x)), (3, .int (nI (N))), (4, .ref (a4))] 3 d_X9_spread_150 rfl (nI_add (i) 1) (Nat.le_of_ble_eq_true rfl) rfl ?_
                  refine wp_goto 59 d_X9_spread_153 rfl ?_
                  obtain ⟨k1, rfl⟩ : ∃ k1, k = k1 + 1 := ⟨k - 1, by omega⟩
                  refine wp_sub [(7, .int (nI ((i) + 1))), (6, .int (w1.2.1 46 (p + 1) + ((ff j) (((x) + (nI (i))).toNatClampNeg)) * w1.2.1 48 (p + 1))), (5, .int (w1.2.1 46 (p + 1) + ((ff j) (((x) + (nI (i))).toNatClampNeg)) * w1.2.1 48 (p + 1))), (0, .ref (0)), (2, .int (x)), (3, .int (nI (N))), (4, .ref (a4))] [0, 1, 2, 4, 5, 6, 7] rfl ?_
                  have hit : (cit (nn j) (ff j) x) i = some (ff j (x + nI i).toNatClampNeg) := if_pos zc74
                  have e1 : (if i = 0 ∨ (fun y => w1.2.1 46 (p + 1) + y * w1.2.1 48 (p + 1)) (ff j (x + nI i).toNatClampNeg) < lo then (fun y => w1.2.1 46 (p + 1) + y * w1.2.1 48 (p + 1)) (ff j (x + nI i).toNatClampNeg) else lo) = w1.2.1 46 (p + 1) + ((ff j) (((x) + (nI (i))).toNatClampNeg)) * w1.2.1 48 (p + 1) := by
                    first
                      | exact if_pos (Or.inl zc120)
                      | exact if_pos (Or.inr (Int32.not_le.mp zc127))
                      | exact if_neg (fun q => q.elim zc120 (fun q => absurd zc127 (Int32.not_le.mpr q)))
                  have e2 : (if i = 0 ∨ hh < (fun y => w1.2.1 46 (p + 1) + y * w1.2.1 48 (p + 1)) (ff j (x + nI i).toNatClampNeg) then (fun y => w1.2.1 46 (p + 1) + y * w1.2.1 48 (p + 1)) (ff j (x + nI i).toNatClampNeg) else hh) = w1.2.1 46 (p + 1) + ((ff j) (((x) + (nI (i))).toNatClampNeg)) * w1.2.1 48 (p + 1) := by
                    first
                      | exact if_pos (Or.inl zc136)
                      | exact if_pos (Or.inr (Int32.not_le.mp zc143))
                      | exact if_neg (fun q => q.elim zc136 (fun q => absurd zc143 (Int32.not_le.mpr q)))
                  simp only [ksp]
                  rw [hit]
                  simp only []
                  rw [if_pos zc93, e1, e2]
                  exact ih k1 (by omega) (i + 1) _ _ (by omega)
        · refine wp_bipush (v0 := -4) d_X9_spread_96 (by decide) ?_
          refine wp_reti d_X9_spread_98 rfl ?_
          obtain ⟨k1, rfl⟩ : ∃ k1, k = k1 + 1 := ⟨k - 1, by omega⟩
          have hit : (cit (nn j) (ff j) x) i = some (ff j (x + nI i).toNatClampNeg) := if_pos zc74
          refine kR_i ?_ rfl
          simp only [ksp]
          rw [hit]
          simp only []
          rw [if_neg zc93]
      · refine wp_bipush (v0 := -12) d_X9_spread_77 (by decide) ?_
        refine wp_reti d_X9_spread_79 rfl ?_
        obtain ⟨k1, rfl⟩ : ∃ k1, k = k1 + 1 := ⟨k - 1, by omega⟩
        have hit : (cit (nn j) (ff j) x) i = none := if_neg zc74
        refine kR_i ?_ rfl
        simp only [ksp]
        rw [hit]
theorem s_X9_spread {X : kX} {d : Nat} {c w m v : kZ} {E : kH} {n : Nat} (hn : c.1 100 = nI n) (hn9 : n ≤ 9) {rho cnt ka L : Nat} {code : Nat → Int32} (hrr : c.2.2.1 1 = rho) (hR : kRu E rho cnt ka L code) (hL : L < 2 ^ 20) (hc8 : cnt ≤ 8) (hwf : kWF code L cnt 0) (hk : ∀ j, j < n → 1 ≤ (c.2.1 2 j).toInt ∧ (c.2.1 2 j).toInt ≤ 5) {p : Nat} (hp : c.1 107 = nI p) (hp4 : p ≤ 4) (hln : ∀ j, j < p → vp_in (c.2.1 9 j) n) (hr0 : kRay w []) {so : Nat → Int32} {ia nn : Nat → Nat} {ff : Nat → Nat → Int32} (hSh : ∀ j a, j < 4 → c.2.2.2 75 j = some a → kSh E a (so j) (ia j) (nn j) (ff j)) (s x y : Int32) : WP X (d + 7) 0 0 Y_X9_spread 0 [(0, .ref (0)), (1, .int (s)), (2, .int (x)), (3, .int (y))] [] (HP c w m v E) (fun r h1 => (¬ ((0 ≤ s.toInt ∧ s.toInt ≤ 3) ∧ 1 ≤ y.toInt ∧ y.toInt ≤ 20) ∧ r = some (.int (-1)) ∧ h1 = HP c w m v E) ∨ ∃ j N : Nat, j ≤ 3 ∧ s = nI j ∧ 1 ≤ N ∧ N ≤ 20 ∧ y = nI N ∧ ((c.2.2.2 75 j = none ∧ r = some (.int (-11)) ∧ h1 = HP c w m v E) ∨ ∃ a, c.2.2.2 75 j = some a ∧ ((so j ≠ 0 ∧ r = some (.int (-13)) ∧ h1 = HP c w m v E) ∨ (so j = 0 ∧ r = some (.int (ksp (fun y => (csee (c.2.1 6 1) (c.2.1 6 2) (cTube c.2.1 1 code cnt p)).1 + y * (csee (c.2.1 6 1) (c.2.1 6 2) (cTube c.2.1 1 code cnt p)).2.2.1) (cit (nn j) (ff j) x) N 0 0 0)) ∧ ∃ w1 : kZ, h1 = HP c w1 m v E ∧ kLa w w1 ∧ kRay w1 [])))) := by
  refine wp_iload_n 1 d_X9_spread_0 rfl rfl ?_
  refine wp_stc_i (As := [.int (s)]) (x0 := kb (0 ≤ (s : Int32).toInt ∧ (s : Int32).toInt ≤ 3)) (h1 := HP c w m v E) d_X9_spread_1 lk_X9_312 mv_X9_isSheet st_X9_isSheet (Nat.le_of_ble_eq_true rfl) (Nat.le_of_ble_eq_true rfl) (s_X9_isSheet _ (s : Int32)) ?_
  refine wp_ifb_eq 17 d_X9_spread_4 rfl (fun zc4 => ?_) (fun zc4 => ?_)
  · refine wp_iconst (v0 := -1) d_X9_spread_17 rfl ?_
    refine wp_reti d_X9_spread_18 rfl ?_
    exact Or.inl ⟨by omega, rfl, rfl⟩
  · refine wp_iload_n 3 d_X9_spread_7 rfl rfl ?_
    refine wp_iconst (v0 := 1) d_X9_spread_8 rfl ?_
    refine wp_bipush (v0 := 20) d_X9_spread_9 (by decide) ?_
    refine wp_stc_i (As := [.int (y), .int (1), .int (20)]) (x0 := kb (1 ≤ (y : Int32).toInt ∧ (y : Int32).toInt ≤ 20)) (h1 := HP c w m v E) d_X9_spread_11 lk_X9_98 mv_X9_isWithin st_X9_isWithin (Nat.le_of_ble_eq_true rfl) (Nat.le_of_ble_eq_true rfl) (s_X9_isWithin _ (y : Int32) (1 : Int32) (20 : Int32)) ?_
    refine wp_ifb_ne 19 d_X9_spread_14 rfl (fun zc14 => ?_) (fun zc14 => ?_)
    · obtain ⟨j, hj, rfl⟩ := k_natle (n := 3) zc4
      have hN1b := zc14.1
      obtain ⟨N, hN, rfl⟩ := k_natle (n := 20) ⟨by omega, zc14.2⟩
      have hN1 : 1 ≤ N := by rw [nI_toInt (by omega)] at hN1b; omega
      refine wp_aload_n 0 d_X9_spread_19 rfl rfl ?_
      refine wp_getfield (v := .ref (75)) d_X9_spread_20 gf_X9_68 (hp_0 _ _ _ _ _) rfl ?_
      refine wp_iload_n 1 d_X9_spread_23 rfl rfl ?_
      rcases h24 : (c.2.2.2 75) (j) with _ | a24
      · refine wp_aaload (v := .null) d_X9_spread_24 (hp_75 _ _ _ _ _) (vp_in_nI (by omega) (by omega)) (by rw [nI_clamp (by omega), h24]; rfl) ?_
        refine wp_astoreN [(4, .null), (0, .ref (0)), (1, .int (nI (j))), (2, .int (x)), (3, .int (nI (N)))] d_X9_spread_25 (Nat.le_of_ble_eq_true rfl) rfl ?_
        refine wp_aloadN 0 d_X9_spread_27 rfl ?_
        refine wp_ifnonnullN d_X9_spread_29 ?_
        refine wp_bipush (v0 := -11) d_X9_spread_32 (by decide) ?_
        refine wp_reti d_X9_spread_34 rfl ?_
        exact Or.inr ⟨j, N, hj, rfl, hN1, hN, rfl, Or.inl ⟨h24, rfl, rfl⟩⟩
      · refine wp_aaload (v := .ref (a24)) d_X9_spread_24 (hp_75 _ _ _ _ _) (vp_in_nI (by omega) (by omega)) (by rw [nI_clamp (by omega), h24]; rfl) ?_
        have hs9 := hSh j a24 (by omega) h24
        have hnn9 := hs9.1
        refine wp_astore [(4, .ref (a24)), (0, .ref (0)), (1, .int (nI (j))), (2, .int (x)), (3, .int (nI (N)))] d_X9_spread_25 (Nat.le_of_ble_eq_true rfl) rfl ?_
        refine wp_aload 0 d_X9_spread_27 rfl ?_
        refine wp_ifnonnull 35 d_X9_spread_29 rfl ?_
        refine wp_aload 0 d_X9_spread_35 rfl ?_
        refine wp_getfield (v := .int (so j)) d_X9_spread_37 gf_X9_329 hs9.oa rfl ?_
        refine wp_if_eq 46 d_X9_spread_40 rfl (fun zc40 => ?_) (fun zc40 => ?_)
        · refine wp_aload_n 1 d_X9_spread_46 rfl rfl ?_
          refine wp_virtual0 (As := []) d_X9_spread_47 lk_X9_168 mv_X9_shine in_X9_shine se_X9_shine (Nat.le_of_ble_eq_true rfl) (Nat.le_of_ble_eq_true rfl) (hp_0 _ _ _ _ _) rfl (s_X9_shine hn hn9 hrr hR hL hc8 hwf hk hp hp4 hln hr0) (fun v47 h47 q47 => ?_)
          obtain ⟨rfl, w1, rfl, ha1, hd1, hs1⟩ := q47
          have he1 := hs1.2.2.2
          rw [cTube_len] at he1
          have hA := hs1.a
          have hB := hs1.b
          rw [cTube_len] at hA hB
          show WP _ _ _ _ _ 50 _ [] (HP c w1 m v E) _
          refine wp_iconst (v0 := 0) d_X9_spread_50 rfl ?_
          refine wp_istore [(5, .int (0)), (4, .ref (a24)), (0, .ref (0)), (1, .int (nI (j))), (2, .int (x)), (3, .int (nI (N)))] d_X9_spread_51 (Nat.le_of_ble_eq_true rfl) rfl ?_
          refine wp_iconst (v0 := 0) d_X9_spread_53 rfl ?_
          refine wp_istore [(6, .int (0)), (5, .int (0)), (4, .ref (a24)), (0, .ref (0)), (1, .int (nI (j))), (2, .int (x)), (3, .int (nI (N)))] d_X9_spread_54 (Nat.le_of_ble_eq_true rfl) rfl ?_
          refine wp_iconst (v0 := 0) d_X9_spread_56 rfl ?_
          refine wp_istore [(7, .int (0)), (6, .int (0)), (5, .int (0)), (4, .ref (a24)), (0, .ref (0)), (1, .int (nI (j))), (2, .int (x)), (3, .int (nI (N)))] d_X9_spread_57 (Nat.le_of_ble_eq_true rfl) rfl ?_
          refine wp_sub [(7, .int (0)), (6, .int (0)), (5, .int (0)), (0, .ref (0)), (2, .int (x)), (3, .int (nI (N))), (4, .ref (a24))] [0, 1, 2, 4, 6, 7, 3] rfl ?_
          refine wp_mono ?_ (s_X9_spread_l (d := d) (c := c) (w := w) (w1 := w1) hp4 he1 hs9 (nI j) x hN N 0 0 0 (by omega))
          rintro r h1 ⟨rfl, rfl⟩
          exact Or.inr ⟨j, N, hj, rfl, hN1, hN, rfl, Or.inr ⟨a24, h24, Or.inr ⟨zc40, by rw [hA, hB], w1, rfl, ha1, hs1.2.2.1.len (j := 0)⟩⟩⟩
        · refine wp_bipush (v0 := -13) d_X9_spread_43 (by decide) ?_
          refine wp_reti d_X9_spread_45 rfl ?_
          exact Or.inr ⟨j, N, hj, rfl, hN1, hN, rfl, Or.inr ⟨a24, h24, Or.inl ⟨zc40, rfl, rfl⟩⟩⟩
    · refine wp_iconst (v0 := -1) d_X9_spread_17 rfl ?_
      refine wp_reti d_X9_spread_18 rfl ?_
      exact Or.inl ⟨by omega, rfl, rfl⟩
theorem s_X9_putOnShelf_n {X : kX} {d : Nat} {c w m v : kZ} {E : kH} {j : Nat} (hj : j ≤ 3) (l : Int32) : WP X d 0 0 Y_X9_putOnShelf 0 [(0, .ref (0)), (1, .int (nI (j))), (2, .int (l)), (3, .null)] [] (HP c w m v E) (kR (some (.int (1))) (HP (setQ (setA c 77 (upd (c.2.1 77) (j) (l))) 76 (va_up (c.2.2.2 76) (j) (none))) w m v E)) := by
  refine wp_aload_n 0 d_X9_putOnShelf_0 rfl rfl ?_
  refine wp_getfield (v := .ref (77)) d_X9_putOnShelf_1 gf_X9_75 (hp_0 _ _ _ _ _) rfl ?_
  refine wp_iload_n 1 d_X9_putOnShelf_4 rfl rfl ?_
  refine wp_iload_n 2 d_X9_putOnShelf_5 rfl rfl ?_
  refine wp_iastore (h' := HP (setA c 77 (upd (c.2.1 77) (j) (l))) w m v E) d_X9_putOnShelf_6 (hp_77 _ _ _ _ _) (vp_in_nI (by omega) (by omega)) (by rw [nI_clamp (by omega)]; exact (hpa_77 _ _ _ _ _ _)) ?_
  refine wp_aload_n 0 d_X9_putOnShelf_7 rfl rfl ?_
  refine wp_getfield (v := .ref (76)) d_X9_putOnShelf_8 gf_X9_72 (hp_0 _ _ _ _ _) rfl ?_
  refine wp_iload_n 1 d_X9_putOnShelf_11 rfl rfl ?_
  refine wp_aload_nN 3 d_X9_putOnShelf_12 rfl rfl ?_
  refine wp_aastoreN (h' := HP (setQ (setA c 77 (upd (c.2.1 77) (j) (l))) 76 (va_up (c.2.2.2 76) (j) (none))) w m v E) d_X9_putOnShelf_13 (hp_76 _ _ _ _ _) (vp_in_nI (by omega) (by omega)) (by rw [nI_clamp (by omega)]; exact hpq_76 _ _ _ _ _ _) ?_
  refine wp_iconst (v0 := 1) d_X9_putOnShelf_14 rfl ?_
  refine wp_reti d_X9_putOnShelf_15 rfl ?_
  exact ⟨rfl, rfl⟩
theorem s_X9_putOnShelf_r {X : kX} {d : Nat} {c w m v : kZ} {E : kH} {j a b n : Nat} {so : Int32} {f : Nat → Int32} (hj : j ≤ 3) (hs9 : kSh E a so b n f) (l : Int32) : WP X d 0 0 Y_X9_putOnShelf 0 [(0, .ref (0)), (1, .int (nI (j))), (2, .int (l)), (3, .ref (a))] [] (HP c w m v E) (kR (some (.int (1))) (HP (setQ (setA c 77 (upd (c.2.1 77) (j) (l))) 76 (va_up (c.2.2.2 76) (j) (some (a)))) w m v E)) := by
  refine wp_aload_n 0 d_X9_putOnShelf_0 rfl rfl ?_
  refine wp_getfield (v := .ref (77)) d_X9_putOnShelf_1 gf_X9_75 (hp_0 _ _ _ _ _) rfl ?_
  refine wp_iload_n 1 d_X9_putOnShelf_4 rfl rfl ?_
  refine wp_iload_n 2 d_X9_putOnShelf_5 rfl rfl ?_
  refine wp_iastore (h' := HP (setA c 77 (upd (c.2.1 77) (j) (l))) w m v E) d_X9_putOnShelf_6 (hp_77 _ _ _ _ _) (vp_in_nI (by omega) (by omega)) (by rw [nI_clamp (by omega)]; exact (hpa_77 _ _ _ _ _ _)) ?_
  refine wp_aload_n 0 d_X9_putOnShelf_7 rfl rfl ?_
  refine wp_getfield (v := .ref (76)) d_X9_putOnShelf_8 gf_X9_72 (hp_0 _ _ _ _ _) rfl ?_
  refine wp_iload_n 1 d_X9_putOnShelf_11 rfl rfl ?_
  refine wp_aload_n 3 d_X9_putOnShelf_12 rfl rfl ?_
  refine wp_aastore (h' := HP (setQ (setA c 77 (upd (c.2.1 77) (j) (l))) 76 (va_up (c.2.2.2 76) (j) (some (a)))) w m v E) d_X9_putOnShelf_13 (hp_76 _ _ _ _ _) hs9.oa (vp_in_nI (by omega) (by omega)) (by rw [nI_clamp (by omega)]; exact hpq_76 _ _ _ _ _ _) ?_
  refine wp_iconst (v0 := 1) d_X9_putOnShelf_14 rfl ?_
  refine wp_reti d_X9_putOnShelf_15 rfl ?_
  exact ⟨rfl, rfl⟩
theorem s_X9_shelf {X : kX} {d : Nat} {c w m v : kZ} {E : kH} {n : Nat} (hn : c.1 100 = nI n) (hn9 : n ≤ 9) {so : Nat → Int32} {ia nn : Nat → Nat} {ff : Nat → Nat → Int32} (hSh : ∀ j a, j < 4 → c.2.2.2 75 j = some a → kSh E a (so j) (ia j) (nn j) (ff j)) (s u x : Int32) : WP X (d + 3) 0 0 Y_X9_shelf 0 [(0, .ref (0)), (1, .int (s)), (2, .int (u)), (3, .int (x))] [] (HP c w m v E) (fun r h1 => (¬ ((0 ≤ s.toInt ∧ s.toInt ≤ 3) ∧ ((u = 0 ∧ 0 ≤ x.toInt ∧ x.toInt < (n : Int)) ∨ (u = 1 ∧ 0 ≤ x.toInt ∧ x.toInt ≤ 3) ∨ u = 2)) ∧ r = some (.int (-1)) ∧ h1 = HP c w m v E) ∨ ∃ j : Nat, j ≤ 3 ∧ s = nI j ∧ r = some (.int 1) ∧ ((u = 0 ∧ (0 ≤ x.toInt ∧ x.toInt < (n : Int)) ∧ h1 = HP (setQ (setA c 77 (upd (c.2.1 77) (j) (x))) 76 (va_up (c.2.2.2 76) (j) (none))) w m v E) ∨ (u = 1 ∧ ∃ y : Nat, y ≤ 3 ∧ x = nI y ∧ h1 = HP (setQ (setA c 77 (upd (c.2.1 77) (j) (-1))) 76 (va_up (c.2.2.2 76) (j) (c.2.2.2 75 y))) w m v E) ∨ (u = 2 ∧ h1 = HP (setQ (setA c 77 (upd (c.2.1 77) (j) (-1))) 76 (va_up (c.2.2.2 76) (j) (none))) w m v E))) := by
  refine wp_iload_n 1 d_X9_shelf_0 rfl rfl ?_
  refine wp_stc_i (As := [.int (s)]) (x0 := kb (0 ≤ (s : Int32).toInt ∧ (s : Int32).toInt ≤ 3)) (h1 := HP c w m v E) d_X9_shelf_1 lk_X9_335 mv_X9_isShelf st_X9_isShelf (Nat.le_of_ble_eq_true rfl) (Nat.le_of_ble_eq_true rfl) (s_X9_isShelf _ (s : Int32)) ?_
  refine wp_ifb_ne 9 d_X9_shelf_4 rfl (fun zc4 => ?_) (fun zc4 => ?_)
  · obtain ⟨j, hj, rfl⟩ := k_natle (n := 3) zc4
    refine wp_iload_n 2 d_X9_shelf_9 rfl rfl ?_
    refine wp_if (P := (u) = 0) (fun zc10 => ?_) (fun zc10_0 => ?_)
    · refine wp_tableIn 36 d_X9_shelf_10 (by rw [zc10] <;> decide) (by rw [zc10] <;> decide) (by rw [zc10] <;> rfl) rfl ?_
      refine wp_aload_n 0 d_X9_shelf_36 rfl rfl ?_
      refine wp_getfield (v := .ref (1)) d_X9_shelf_37 gf_X9_12 (hp_0 _ _ _ _ _) rfl ?_
      refine wp_iload_n 3 d_X9_shelf_40 rfl rfl ?_
      refine wp_vrt_i (As := [.int (x)]) (x0 := kb (0 ≤ ((x) : Int32).toInt ∧ ((x) : Int32).toInt < (n : Int))) (h1 := HP c w m v E) d_X9_shelf_41 lk_X9_118 mv_X1_hasLens in_X1_hasLens se_X1_hasLens (Nat.le_of_ble_eq_true rfl) (Nat.le_of_ble_eq_true rfl) (hp_1 _ _ _ _ _) rfl (s_X1_hasLens hn (by omega) (x)) ?_
      refine wp_ifb_eq 57 d_X9_shelf_44 rfl (fun zc44 => ?_) (fun zc44 => ?_)
      · refine wp_iconst (v0 := -1) d_X9_shelf_57 rfl ?_
        refine wp_reti d_X9_shelf_58 rfl ?_
        refine Or.inl ⟨fun z9 => ?_, rfl, rfl⟩
        rcases z9.2 with q | q | q
        · exact zc44 q.2
        · rw [zc10] at q; exact absurd q.1 (by decide)
        · rw [zc10] at q; exact absurd q (by decide)
      · refine wp_aload_n 0 d_X9_shelf_47 rfl rfl ?_
        refine wp_iload_n 1 d_X9_shelf_48 rfl rfl ?_
        refine wp_iload_n 3 d_X9_shelf_49 rfl rfl ?_
        refine wp_null d_X9_shelf_50 ?_
        refine wp_vrt_i (As := [.int (nI (j)), .int (x), .null]) (x0 := 1) (h1 := HP (setQ (setA c 77 (upd (c.2.1 77) (j) (x))) 76 (va_up (c.2.2.2 76) (j) (none))) w m v E) d_X9_shelf_51 lk_X9_338 mv_X9_putOnShelf in_X9_putOnShelf se_X9_putOnShelf (Nat.le_of_ble_eq_true rfl) (Nat.le_of_ble_eq_true rfl) (hp_0 _ _ _ _ _) rfl (s_X9_putOnShelf_n (j := j) (by omega) (x)) ?_
        refine wp_goto 58 d_X9_shelf_54 rfl ?_
        refine wp_reti d_X9_shelf_58 rfl ?_
        exact Or.inr ⟨j, hj, rfl, rfl, Or.inl ⟨zc10, zc44, rfl⟩⟩
    refine wp_if (P := (u) = 1) (fun zc10 => ?_) (fun zc10_1 => ?_)
    · refine wp_tableIn 59 d_X9_shelf_10 (by rw [zc10] <;> decide) (by rw [zc10] <;> decide) (by rw [zc10] <;> rfl) rfl ?_
      refine wp_iload_n 3 d_X9_shelf_59 rfl rfl ?_
      refine wp_stc_i (As := [.int (x)]) (x0 := kb (0 ≤ (x : Int32).toInt ∧ (x : Int32).toInt ≤ 3)) (h1 := HP c w m v E) d_X9_shelf_60 lk_X9_312 mv_X9_isSheet st_X9_isSheet (Nat.le_of_ble_eq_true rfl) (Nat.le_of_ble_eq_true rfl) (s_X9_isSheet _ (x : Int32)) ?_
      refine wp_ifb_eq 81 d_X9_shelf_63 rfl (fun zc63 => ?_) (fun zc63 => ?_)
      · refine wp_iconst (v0 := -1) d_X9_shelf_81 rfl ?_
        refine wp_reti d_X9_shelf_82 rfl ?_
        refine Or.inl ⟨fun z9 => ?_, rfl, rfl⟩
        rcases z9.2 with q | q | q
        · rw [zc10] at q; exact absurd q.1 (by decide)
        · exact zc63 q.2
        · rw [zc10] at q; exact absurd q (by decide)
      · obtain ⟨y, hy, rfl⟩ := k_natle (n := 3) zc63
        refine wp_aload_n 0 d_X9_shelf_66 rfl rfl ?_
        refine wp_iload_n 1 d_X9_shelf_67 rfl rfl ?_
        refine wp_iconst (v0 := -1) d_X9_shelf_68 rfl ?_
        refine wp_aload_n 0 d_X9_shelf_69 rfl rfl ?_
        refine wp_getfield (v := .ref (75)) d_X9_shelf_70 gf_X9_68 (hp_0 _ _ _ _ _) rfl ?_
        refine wp_iload_n 3 d_X9_shelf_73 rfl rfl ?_
        rcases h74 : (c.2.2.2 75) (y) with _ | a74
        · refine wp_aaload (v := .null) d_X9_shelf_74 (hp_75 _ _ _ _ _) (vp_in_nI (by omega) (by omega)) (by rw [nI_clamp (by omega), h74]; rfl) ?_
          refine wp_vrt_i (As := [.int (nI (j)), .int ((-1)), .null]) (x0 := 1) (h1 := HP (setQ (setA c 77 (upd (c.2.1 77) (j) ((-1)))) 76 (va_up (c.2.2.2 76) (j) (none))) w m v E) d_X9_shelf_75 lk_X9_338 mv_X9_putOnShelf in_X9_putOnShelf se_X9_putOnShelf (Nat.le_of_ble_eq_true rfl) (Nat.le_of_ble_eq_true rfl) (hp_0 _ _ _ _ _) rfl (s_X9_putOnShelf_n (j := j) (by omega) ((-1))) ?_
          refine wp_goto 82 d_X9_shelf_78 rfl ?_
          refine wp_reti d_X9_shelf_82 rfl ?_
          exact Or.inr ⟨j, hj, rfl, rfl, Or.inr (Or.inl ⟨zc10, y, hy, rfl, by rw [h74]⟩)⟩
        · refine wp_aaload (v := .ref (a74)) d_X9_shelf_74 (hp_75 _ _ _ _ _) (vp_in_nI (by omega) (by omega)) (by rw [nI_clamp (by omega), h74]; rfl) ?_
          have hs9 := hSh y a74 (by omega) h74
          refine wp_vrt_i (As := [.int (nI (j)), .int ((-1)), .ref (a74)]) (x0 := 1) (h1 := HP (setQ (setA c 77 (upd (c.2.1 77) (j) ((-1)))) 76 (va_up (c.2.2.2 76) (j) (some (a74)))) w m v E) d_X9_shelf_75 lk_X9_338 mv_X9_putOnShelf in_X9_putOnShelf se_X9_putOnShelf (Nat.le_of_ble_eq_true rfl) (Nat.le_of_ble_eq_true rfl) (hp_0 _ _ _ _ _) rfl (s_X9_putOnShelf_r (j := j) (by omega) hs9 ((-1))) ?_
          refine wp_goto 82 d_X9_shelf_78 rfl ?_
          refine wp_reti d_X9_shelf_82 rfl ?_
          exact Or.inr ⟨j, hj, rfl, rfl, Or.inr (Or.inl ⟨zc10, y, hy, rfl, by rw [h74]⟩)⟩
    refine wp_if (P := (u) = 2) (fun zc10 => ?_) (fun zc10_2 => ?_)
    · refine wp_tableIn 83 d_X9_shelf_10 (by rw [zc10] <;> decide) (by rw [zc10] <;> decide) (by rw [zc10] <;> rfl) rfl ?_
      refine wp_aload_n 0 d_X9_shelf_83 rfl rfl ?_
      refine wp_iload_n 1 d_X9_shelf_84 rfl rfl ?_
      refine wp_iconst (v0 := -1) d_X9_shelf_85 rfl ?_
      refine wp_null d_X9_shelf_86 ?_
      refine wp_vrt_i (As := [.int (nI (j)), .int ((-1)), .null]) (x0 := 1) (h1 := HP (setQ (setA c 77 (upd (c.2.1 77) (j) ((-1)))) 76 (va_up (c.2.2.2 76) (j) (none))) w m v E) d_X9_shelf_87 lk_X9_338 mv_X9_putOnShelf in_X9_putOnShelf se_X9_putOnShelf (Nat.le_of_ble_eq_true rfl) (Nat.le_of_ble_eq_true rfl) (hp_0 _ _ _ _ _) rfl (s_X9_putOnShelf_n (j := j) (by omega) ((-1))) ?_
      refine wp_reti d_X9_shelf_90 rfl ?_
      exact Or.inr ⟨j, hj, rfl, rfl, Or.inr (Or.inr ⟨zc10, rfl⟩)⟩
    refine wp_swd_X9_shelf_10 zc10_0 zc10_1 zc10_2 ?_
    refine wp_iconst (v0 := -1) d_X9_shelf_91 rfl ?_
    refine wp_reti d_X9_shelf_92 rfl ?_
    refine Or.inl ⟨fun z9 => ?_, rfl, rfl⟩
    rcases z9.2 with q | q | q
    · exact zc10_0 q.1
    · exact zc10_1 q.1
    · exact zc10_2 q
  · refine wp_iconst (v0 := -1) d_X9_shelf_7 rfl ?_
    refine wp_reti d_X9_shelf_8 rfl ?_
    exact Or.inl ⟨fun z9 => zc4 z9.1, rfl, rfl⟩
theorem s_X9_taken {X : kX} {d : Nat} {c w m v : kZ} {E : kH} {n : Nat} (hn : c.1 100 = nI n) (hn9 : n ≤ 9) (hk : ∀ j, j < n → 1 ≤ (c.2.1 2 j).toInt ∧ (c.2.1 2 j).toInt ≤ 5) {so : Nat → Int32} {ia nn : Nat → Nat} {ff : Nat → Nat → Int32} (hSf : ∀ j a, j < 4 → c.2.2.2 76 j = some a → kSh E a (so j) (ia j) (nn j) (ff j)) (s u : Int32) : WP X (d + 3) 0 0 Y_X9_taken 0 [(0, .ref (0)), (1, .int (s)), (2, .int (u))] [] (HP c w m v E) (fun r h1 => h1 = HP c w m v E ∧ ((¬ ((0 ≤ s.toInt ∧ s.toInt ≤ 3) ∧ ((0 ≤ u.toInt ∧ u.toInt ≤ 5) ∨ (0 ≤ (u - 10).toInt ∧ (u - 10).toInt ≤ 4))) ∧ r = some (.int (-1))) ∨ ∃ j : Nat, j ≤ 3 ∧ s = nI j ∧ ((0 ≤ u.toInt ∧ u.toInt ≤ 5) ∨ (0 ≤ (u - 10).toInt ∧ (u - 10).toInt ≤ 4)) ∧ r = some (.int (if 0 ≤ ((c.2.1 77) (j)).toInt ∧ ((c.2.1 77) (j)).toInt < (n : Int) then (if (0 ≤ u.toInt ∧ u.toInt ≤ 5) ∧ kUnder ((c.2.1 2) (((c.2.1 77) (j)).toNatClampNeg)) u then (c.2.1 77) (j) else -13) else if c.2.2.2 76 j = none then -11 else if so j = u - 10 then nI (nn j) else -13)))) := by
  refine wp_iload_n 2 d_X9_taken_0 rfl rfl ?_
  refine wp_iconst (v0 := 0) d_X9_taken_1 rfl ?_
  refine wp_iconst (v0 := 5) d_X9_taken_2 rfl ?_
  refine wp_stc_i (As := [.int (u), .int (0), .int (5)]) (x0 := kb (0 ≤ (u : Int32).toInt ∧ (u : Int32).toInt ≤ 5)) (h1 := HP c w m v E) d_X9_taken_3 lk_X9_98 mv_X9_isWithin st_X9_isWithin (Nat.le_of_ble_eq_true rfl) (Nat.le_of_ble_eq_true rfl) (s_X9_isWithin _ (u : Int32) (0 : Int32) (5 : Int32)) ?_
  refine wp_istore_n [(3, .int (kb (0 ≤ (u : Int32).toInt ∧ (u : Int32).toInt ≤ 5))), (0, .ref (0)), (1, .int (s)), (2, .int (u))] d_X9_taken_6 rfl (Nat.le_of_ble_eq_true rfl) rfl ?_
  refine wp_iload_n 2 d_X9_taken_7 rfl rfl ?_
  refine wp_stc_i (As := [.int (s)]) (x0 := kb (0 ≤ (s : Int32).toInt ∧ (s : Int32).toInt ≤ 3)) (h1 := HP c w m v E) d_X9_taken_8 lk_X9_335 mv_X9_isShelf st_X9_isShelf (Nat.le_of_ble_eq_true rfl) (Nat.le_of_ble_eq_true rfl) (s_X9_isShelf _ (s : Int32)) ?_
  refine wp_ifb_eq 28 d_X9_taken_11 rfl (fun zc11 => ?_) (fun zc11 => ?_)
  · refine wp_iconst (v0 := -1) d_X9_taken_28 rfl ?_
    refine wp_reti d_X9_taken_29 rfl ?_
    refine ⟨rfl, Or.inl ⟨?_, rfl⟩⟩
    rintro ⟨q1, q2⟩
    first | exact zc11 q1 | exact q2.elim zc15 zc25
  · refine wp_iload_n 0 d_X9_taken_14 rfl rfl ?_
    refine wp_ifb_ne 30 d_X9_taken_15 rfl (fun zc15 => ?_) (fun zc15 => ?_)
    · obtain ⟨j, hj, rfl⟩ := k_natle (n := 3) zc11
      refine wp_aload_n 1 d_X9_taken_30 rfl rfl ?_
      refine wp_getfield (v := .ref (77)) d_X9_taken_31 gf_X9_75 (hp_0 _ _ _ _ _) rfl ?_
      refine wp_iload_n 2 d_X9_taken_34 rfl rfl ?_
      refine wp_iaload (v := (c.2.1 77) (j)) d_X9_taken_35 (hp_77 _ _ _ _ _) (vp_in_nI (by omega) (by omega)) (congrArg ((c.2.1 77)) (nI_clamp (by omega))) ?_
      refine wp_istore [(4, .int ((c.2.1 77) (j))), (3, .int (kb (0 ≤ (u : Int32).toInt ∧ (u : Int32).toInt ≤ 5))), (0, .ref (0)), (1, .int (nI (j))), (2, .int (u))] d_X9_taken_36 (Nat.le_of_ble_eq_true rfl) rfl ?_
      refine wp_aload_n 2 d_X9_taken_38 rfl rfl ?_
      refine wp_getfield (v := .ref (76)) d_X9_taken_39 gf_X9_72 (hp_0 _ _ _ _ _) rfl ?_
      refine wp_iload_n 3 d_X9_taken_42 rfl rfl ?_
      rcases h43 : (c.2.2.2 76) (j) with _ | a43
      · refine wp_aaload (v := .null) d_X9_taken_43 (hp_76 _ _ _ _ _) (vp_in_nI (by omega) (by omega)) (by rw [nI_clamp (by omega), h43]; rfl) ?_
        refine wp_astoreN [(5, .null), (4, .int ((c.2.1 77) (j))), (3, .int (kb (0 ≤ (u : Int32).toInt ∧ (u : Int32).toInt ≤ 5))), (0, .ref (0)), (1, .int (nI (j))), (2, .int (u))] d_X9_taken_44 (Nat.le_of_ble_eq_true rfl) rfl ?_
        refine wp_aload_n 3 d_X9_taken_46 rfl rfl ?_
        refine wp_getfield (v := .ref (1)) d_X9_taken_47 gf_X9_12 (hp_0 _ _ _ _ _) rfl ?_
        refine wp_iload 1 d_X9_taken_50 rfl ?_
        refine wp_vrt_i (As := [.int ((c.2.1 77) (j))]) (x0 := kb (0 ≤ (((c.2.1 77) (j)) : Int32).toInt ∧ (((c.2.1 77) (j)) : Int32).toInt < (n : Int))) (h1 := HP c w m v E) d_X9_taken_52 lk_X9_118 mv_X1_hasLens in_X1_hasLens se_X1_hasLens (Nat.le_of_ble_eq_true rfl) (Nat.le_of_ble_eq_true rfl) (hp_1 _ _ _ _ _) rfl (s_X1_hasLens hn (by omega) ((c.2.1 77) (j))) ?_
        refine wp_ifb_eq 87 d_X9_taken_55 rfl (fun zc55 => ?_) (fun zc55 => ?_)
        · refine wp_aloadN 0 d_X9_taken_87 rfl ?_
          refine wp_ifnonnullN d_X9_taken_89 ?_
          refine wp_bipush (v0 := -11) d_X9_taken_92 (by decide) ?_
          refine wp_reti d_X9_taken_94 rfl ?_
          refine ⟨rfl, Or.inr ⟨j, hj, rfl, ?_, congrArg (fun z => some (Value.int z)) ?_⟩⟩
          · first | exact Or.inl zc15 | exact Or.inr zc25
          · rw [if_neg zc55, if_pos h43]
        · refine wp_iload_n 2 d_X9_taken_58 rfl rfl ?_
          refine wp_ifb_eq 84 d_X9_taken_59 rfl (fun zc59 => ?_) (fun zc59 => ?_)
          · refine wp_bipush (v0 := -13) d_X9_taken_84 (by decide) ?_
            refine wp_reti d_X9_taken_86 rfl ?_
            refine ⟨rfl, Or.inr ⟨j, hj, rfl, ?_, congrArg (fun z => some (Value.int z)) ?_⟩⟩
            · first | exact Or.inl zc15 | exact Or.inr zc25
            · rw [if_pos zc55, if_neg]
              rintro ⟨q1, q2⟩
              first | exact zc59 q1 | exact zc76 q2
          · refine wp_aload_n 3 d_X9_taken_62 rfl rfl ?_
            refine wp_getfield (v := .ref (1)) d_X9_taken_63 gf_X9_12 (hp_0 _ _ _ _ _) rfl ?_
            have hv9 : vp_in ((c.2.1 77) (j)) n := vp_in_iff.mpr zc55
            have hk9 := hk (((c.2.1 77) (j)).toNatClampNeg) (by obtain ⟨q9, hq9, eq9⟩ := k_nat zc55; rw [eq9, nI_clamp (by omega)]; exact hq9)
            have hv99 : vp_in ((c.2.1 77) (j)) 9 := vp_in_iff.mpr ⟨zc55.1, by have := zc55.2; omega⟩
            refine wp_getfield (v := .ref (2)) d_X9_taken_66 gf_X9_106 (hp_1 _ _ _ _ _) rfl ?_
            refine wp_iload 1 d_X9_taken_69 rfl ?_
            refine wp_iaload (v := (c.2.1 2) (((c.2.1 77) (j)).toNatClampNeg)) d_X9_taken_71 (hp_2 _ _ _ _ _) hv99 rfl ?_
            refine wp_iload_n 5 d_X9_taken_72 rfl rfl ?_
            refine wp_stc_i (As := [.int ((c.2.1 2) (((c.2.1 77) (j)).toNatClampNeg)), .int (u)]) (x0 := kb (kUnder ((c.2.1 2) (((c.2.1 77) (j)).toNatClampNeg)) (u))) (h1 := HP c w m v E) d_X9_taken_73 lk_X9_342 mv_X9_isUnder st_X9_isUnder (Nat.le_of_ble_eq_true rfl) (Nat.le_of_ble_eq_true rfl) (s_X9_isUnder _ ((c.2.1 2) (((c.2.1 77) (j)).toNatClampNeg)) (u) hk9) ?_
            refine wp_ifb_eq 84 d_X9_taken_76 rfl (fun zc76 => ?_) (fun zc76 => ?_)
            · refine wp_bipush (v0 := -13) d_X9_taken_84 (by decide) ?_
              refine wp_reti d_X9_taken_86 rfl ?_
              refine ⟨rfl, Or.inr ⟨j, hj, rfl, ?_, congrArg (fun z => some (Value.int z)) ?_⟩⟩
              · first | exact Or.inl zc15 | exact Or.inr zc25
              · rw [if_pos zc55, if_neg]
                rintro ⟨q1, q2⟩
                first | exact zc59 q1 | exact zc76 q2
            · refine wp_iload 1 d_X9_taken_79 rfl ?_
              refine wp_goto 86 d_X9_taken_81 rfl ?_
              refine wp_reti d_X9_taken_86 rfl ?_
              refine ⟨rfl, Or.inr ⟨j, hj, rfl, ?_, congrArg (fun z => some (Value.int z)) ?_⟩⟩
              · first | exact Or.inl zc15 | exact Or.inr zc25
              · rw [if_pos zc55, if_pos ⟨zc59, zc76⟩]
      · refine wp_aaload (v := .ref (a43)) d_X9_taken_43 (hp_76 _ _ _ _ _) (vp_in_nI (by omega) (by omega)) (by rw [nI_clamp (by omega), h43]; rfl) ?_
        have hs9 := hSf j a43 (by omega) h43
        have hnn9 := hs9.1
        refine wp_astore [(5, .ref (a43)), (4, .int ((c.2.1 77) (j))), (3, .int (kb (0 ≤ (u : Int32).toInt ∧ (u : Int32).toInt ≤ 5))), (0, .ref (0)), (1, .int (nI (j))), (2, .int (u))] d_X9_taken_44 (Nat.le_of_ble_eq_true rfl) rfl ?_
        refine wp_aload_n 3 d_X9_taken_46 rfl rfl ?_
        refine wp_getfield (v := .ref (1)) d_X9_taken_47 gf_X9_12 (hp_0 _ _ _ _ _) rfl ?_
        refine wp_iload 1 d_X9_taken_50 rfl ?_
        refine wp_vrt_i (As := [.int ((c.2.1 77) (j))]) (x0 := kb (0 ≤ (((c.2.1 77) (j)) : Int32).toInt ∧ (((c.2.1 77) (j)) : Int32).toInt < (n : Int))) (h1 := HP c w m v E) d_X9_taken_52 lk_X9_118 mv_X1_hasLens in_X1_hasLens se_X1_hasLens (Nat.le_of_ble_eq_true rfl) (Nat.le_of_ble_eq_true rfl) (hp_1 _ _ _ _ _) rfl (s_X1_hasLens hn (by omega) ((c.2.1 77) (j))) ?_
        refine wp_ifb_eq 87 d_X9_taken_55 rfl (fun zc55 => ?_) (fun zc55 => ?_)
        · refine wp_aload 0 d_X9_taken_87 rfl ?_
          refine wp_ifnonnull 95 d_X9_taken_89 rfl ?_
          refine wp_aload 0 d_X9_taken_95 rfl ?_
          refine wp_getfield (v := .int (so j)) d_X9_taken_97 gf_X9_329 hs9.oa rfl ?_
          refine wp_iload_n 5 d_X9_taken_100 rfl rfl ?_
          refine wp_bipush (v0 := 10) d_X9_taken_101 (by decide) ?_
          refine wp_isub d_X9_taken_103 ?_
          refine wp_icmp_ne 116 d_X9_taken_104 rfl (fun zc104 => ?_) (fun zc104 => ?_)
          · refine wp_bipush (v0 := -13) d_X9_taken_116 (by decide) ?_
            refine wp_reti d_X9_taken_118 rfl ?_
            refine ⟨rfl, Or.inr ⟨j, hj, rfl, ?_, congrArg (fun z => some (Value.int z)) ?_⟩⟩
            · first | exact Or.inl zc15 | exact Or.inr zc25
            · rw [if_neg zc55, if_neg (by rw [h43]; simp), if_neg zc104]
          · refine wp_aload 0 d_X9_taken_107 rfl ?_
            refine wp_getfield (v := .ref ((ia j))) d_X9_taken_109 gf_X9_323 hs9.oa rfl ?_
            refine wp_alen (v := nI ((nn j))) d_X9_taken_112 hs9.ob (Nat.le_of_ble_eq_true rfl) rfl ?_
            refine wp_goto 118 d_X9_taken_113 rfl ?_
            refine wp_reti d_X9_taken_118 rfl ?_
            refine ⟨rfl, Or.inr ⟨j, hj, rfl, ?_, congrArg (fun z => some (Value.int z)) ?_⟩⟩
            · first | exact Or.inl zc15 | exact Or.inr zc25
            · rw [if_neg zc55, if_neg (by rw [h43]; simp), if_pos zc104]
        · refine wp_iload_n 2 d_X9_taken_58 rfl rfl ?_
          refine wp_ifb_eq 84 d_X9_taken_59 rfl (fun zc59 => ?_) (fun zc59 => ?_)
          · refine wp_bipush (v0 := -13) d_X9_taken_84 (by decide) ?_
            refine wp_reti d_X9_taken_86 rfl ?_
            refine ⟨rfl, Or.inr ⟨j, hj, rfl, ?_, congrArg (fun z => some (Value.int z)) ?_⟩⟩
            · first | exact Or.inl zc15 | exact Or.inr zc25
            · rw [if_pos zc55, if_neg]
              rintro ⟨q1, q2⟩
              first | exact zc59 q1 | exact zc76 q2
          · refine wp_aload_n 3 d_X9_taken_62 rfl rfl ?_
            refine wp_getfield (v := .ref (1)) d_X9_taken_63 gf_X9_12 (hp_0 _ _ _ _ _) rfl ?_
            have hv9 : vp_in ((c.2.1 77) (j)) n := vp_in_iff.mpr zc55
            have hk9 := hk (((c.2.1 77) (j)).toNatClampNeg) (by obtain ⟨q9, hq9, eq9⟩ := k_nat zc55; rw [eq9, nI_clamp (by omega)]; exact hq9)
            have hv99 : vp_in ((c.2.1 77) (j)) 9 := vp_in_iff.mpr ⟨zc55.1, by have := zc55.2; omega⟩
            refine wp_getfield (v := .ref (2)) d_X9_taken_66 gf_X9_106 (hp_1 _ _ _ _ _) rfl ?_
            refine wp_iload 1 d_X9_taken_69 rfl ?_
            refine wp_iaload (v := (c.2.1 2) (((c.2.1 77) (j)).toNatClampNeg)) d_X9_taken_71 (hp_2 _ _ _ _ _) hv99 rfl ?_
            refine wp_iload_n 5 d_X9_taken_72 rfl rfl ?_
            refine wp_stc_i (As := [.int ((c.2.1 2) (((c.2.1 77) (j)).toNatClampNeg)), .int (u)]) (x0 := kb (kUnder ((c.2.1 2) (((c.2.1 77) (j)).toNatClampNeg)) (u))) (h1 := HP c w m v E) d_X9_taken_73 lk_X9_342 mv_X9_isUnder st_X9_isUnder (Nat.le_of_ble_eq_true rfl) (Nat.le_of_ble_eq_true rfl) (s_X9_isUnder _ ((c.2.1 2) (((c.2.1 77) (j)).toNatClampNeg)) (u) hk9) ?_
            refine wp_ifb_eq 84 d_X9_taken_76 rfl (fun zc76 => ?_) (fun zc76 => ?_)
            · refine wp_bipush (v0 := -13) d_X9_taken_84 (by decide) ?_
              refine wp_reti d_X9_taken_86 rfl ?_
              refine ⟨rfl, Or.inr ⟨j, hj, rfl, ?_, congrArg (fun z => some (Value.int z)) ?_⟩⟩
              · first | exact Or.inl zc15 | exact Or.inr zc25
              · rw [if_pos zc55, if_neg]
                rintro ⟨q1, q2⟩
                first | exact zc59 q1 | exact zc76 q2
            · refine wp_iload 1 d_X9_taken_79 rfl ?_
              refine wp_goto 86 d_X9_taken_81 rfl ?_
              refine wp_reti d_X9_taken_86 rfl ?_
              refine ⟨rfl, Or.inr ⟨j, hj, rfl, ?_, congrArg (fun z => some (Value.int z)) ?_⟩⟩
              · first | exact Or.inl zc15 | exact Or.inr zc25
              · rw [if_pos zc55, if_pos ⟨zc59, zc76⟩]
    · refine wp_iload_n 3 d_X9_taken_18 rfl rfl ?_
      refine wp_bipush (v0 := 10) d_X9_taken_19 (by decide) ?_
      refine wp_isub d_X9_taken_21 ?_
      refine wp_stc_i (As := [.int ((u) - (10))]) (x0 := kb (0 ≤ ((u) - (10) : Int32).toInt ∧ ((u) - (10) : Int32).toInt ≤ 4)) (h1 := HP c w m v E) d_X9_taken_22 lk_X9_315 mv_X9_isSort st_X9_isSort (Nat.le_of_ble_eq_true rfl) (Nat.le_of_ble_eq_true rfl) (s_X9_isSort _ ((u) - (10) : Int32)) ?_
      refine wp_ifb_ne 30 d_X9_taken_25 rfl (fun zc25 => ?_) (fun zc25 => ?_)
      · obtain ⟨j, hj, rfl⟩ := k_natle (n := 3) zc11
        refine wp_aload_n 1 d_X9_taken_30 rfl rfl ?_
        refine wp_getfield (v := .ref (77)) d_X9_taken_31 gf_X9_75 (hp_0 _ _ _ _ _) rfl ?_
        refine wp_iload_n 2 d_X9_taken_34 rfl rfl ?_
        refine wp_iaload (v := (c.2.1 77) (j)) d_X9_taken_35 (hp_77 _ _ _ _ _) (vp_in_nI (by omega) (by omega)) (congrArg ((c.2.1 77)) (nI_clamp (by omega))) ?_
        refine wp_istore [(4, .int ((c.2.1 77) (j))), (3, .int (kb (0 ≤ (u : Int32).toInt ∧ (u : Int32).toInt ≤ 5))), (0, .ref (0)), (1, .int (nI (j))), (2, .int (u))] d_X9_taken_36 (Nat.le_of_ble_eq_true rfl) rfl ?_
        refine wp_aload_n 2 d_X9_taken_38 rfl rfl ?_
        refine wp_getfield (v := .ref (76)) d_X9_taken_39 gf_X9_72 (hp_0 _ _ _ _ _) rfl ?_
        refine wp_iload_n 3 d_X9_taken_42 rfl rfl ?_
        rcases h43 : (c.2.2.2 76) (j) with _ | a43
        · refine wp_aaload (v := .null) d_X9_taken_43 (hp_76 _ _ _ _ _) (vp_in_nI (by omega) (by omega)) (by rw [nI_clamp (by omega), h43]; rfl) ?_
          refine wp_astoreN [(5, .null), (4, .int ((c.2.1 77) (j))), (3, .int (kb (0 ≤ (u : Int32).toInt ∧ (u : Int32).toInt ≤ 5))), (0, .ref (0)), (1, .int (nI (j))), (2, .int (u))] d_X9_taken_44 (Nat.le_of_ble_eq_true rfl) rfl ?_
          refine wp_aload_n 3 d_X9_taken_46 rfl rfl ?_
          refine wp_getfield (v := .ref (1)) d_X9_taken_47 gf_X9_12 (hp_0 _ _ _ _ _) rfl ?_
          refine wp_iload 1 d_X9_taken_50 rfl ?_
          refine wp_vrt_i (As := [.int ((c.2.1 77) (j))]) (x0 := kb (0 ≤ (((c.2.1 77) (j)) : Int32).toInt ∧ (((c.2.1 77) (j)) : Int32).toInt < (n : Int))) (h1 := HP c w m v E) d_X9_taken_52 lk_X9_118 mv_X1_hasLens in_X1_hasLens se_X1_hasLens (Nat.le_of_ble_eq_true rfl) (Nat.le_of_ble_eq_true rfl) (hp_1 _ _ _ _ _) rfl (s_X1_hasLens hn (by omega) ((c.2.1 77) (j))) ?_
          refine wp_ifb_eq 87 d_X9_taken_55 rfl (fun zc55 => ?_) (fun zc55 => ?_)
          · refine wp_aloadN 0 d_X9_taken_87 rfl ?_
            refine wp_ifnonnullN d_X9_taken_89 ?_
            refine wp_bipush (v0 := -11) d_X9_taken_92 (by decide) ?_
            refine wp_reti d_X9_taken_94 rfl ?_
            refine ⟨rfl, Or.inr ⟨j, hj, rfl, ?_, congrArg (fun z => some (Value.int z)) ?_⟩⟩
            · first | exact Or.inl zc15 | exact Or.inr zc25
            · rw [if_neg zc55, if_pos h43]
          · refine wp_iload_n 2 d_X9_taken_58 rfl rfl ?_
            refine wp_ifb_eq 84 d_X9_taken_59 rfl (fun zc59 => ?_) (fun zc59 => ?_)
            · refine wp_bipush (v0 := -13) d_X9_taken_84 (by decide) ?_
              refine wp_reti d_X9_taken_86 rfl ?_
              refine ⟨rfl, Or.inr ⟨j, hj, rfl, ?_, congrArg (fun z => some (Value.int z)) ?_⟩⟩
              · first | exact Or.inl zc15 | exact Or.inr zc25
              · rw [if_pos zc55, if_neg]
                rintro ⟨q1, q2⟩
                first | exact zc59 q1 | exact zc76 q2
            · refine wp_aload_n 3 d_X9_taken_62 rfl rfl ?_
              refine wp_getfield (v := .ref (1)) d_X9_taken_63 gf_X9_12 (hp_0 _ _ _ _ _) rfl ?_
              have hv9 : vp_in ((c.2.1 77) (j)) n := vp_in_iff.mpr zc55
              have hk9 := hk (((c.2.1 77) (j)).toNatClampNeg) (by obtain ⟨q9, hq9, eq9⟩ := k_nat zc55; rw [eq9, nI_clamp (by omega)]; exact hq9)
              have hv99 : vp_in ((c.2.1 77) (j)) 9 := vp_in_iff.mpr ⟨zc55.1, by have := zc55.2; omega⟩
              refine wp_getfield (v := .ref (2)) d_X9_taken_66 gf_X9_106 (hp_1 _ _ _ _ _) rfl ?_
              refine wp_iload 1 d_X9_taken_69 rfl ?_
              refine wp_iaload (v := (c.2.1 2) (((c.2.1 77) (j)).toNatClampNeg)) d_X9_taken_71 (hp_2 _ _ _ _ _) hv99 rfl ?_
              refine wp_iload_n 5 d_X9_taken_72 rfl rfl ?_
              refine wp_stc_i (As := [.int ((c.2.1 2) (((c.2.1 77) (j)).toNatClampNeg)), .int (u)]) (x0 := kb (kUnder ((c.2.1 2) (((c.2.1 77) (j)).toNatClampNeg)) (u))) (h1 := HP c w m v E) d_X9_taken_73 lk_X9_342 mv_X9_isUnder st_X9_isUnder (Nat.le_of_ble_eq_true rfl) (Nat.le_of_ble_eq_true rfl) (s_X9_isUnder _ ((c.2.1 2) (((c.2.1 77) (j)).toNatClampNeg)) (u) hk9) ?_
              refine wp_ifb_eq 84 d_X9_taken_76 rfl (fun zc76 => ?_) (fun zc76 => ?_)
              · refine wp_bipush (v0 := -13) d_X9_taken_84 (by decide) ?_
                refine wp_reti d_X9_taken_86 rfl ?_
                refine ⟨rfl, Or.inr ⟨j, hj, rfl, ?_, congrArg (fun z => some (Value.int z)) ?_⟩⟩
                · first | exact Or.inl zc15 | exact Or.inr zc25
                · rw [if_pos zc55, if_neg]
                  rintro ⟨q1, q2⟩
                  first | exact zc59 q1 | exact zc76 q2
              · refine wp_iload 1 d_X9_taken_79 rfl ?_
                refine wp_goto 86 d_X9_taken_81 rfl ?_
                refine wp_reti d_X9_taken_86 rfl ?_
                refine ⟨rfl, Or.inr ⟨j, hj, rfl, ?_, congrArg (fun z => some (Value.int z)) ?_⟩⟩
                · first | exact Or.inl zc15 | exact Or.inr zc25
                · rw [if_pos zc55, if_pos ⟨zc59, zc76⟩]
        · refine wp_aaload (v := .ref (a43)) d_X9_taken_43 (hp_76 _ _ _ _ _) (vp_in_nI (by omega) (by omega)) (by rw [nI_clamp (by omega), h43]; rfl) ?_
          have hs9 := hSf j a43 (by omega) h43
          have hnn9 := hs9.1
          refine wp_astore [(5, .ref (a43)), (4, .int ((c.2.1 77) (j))), (3, .int (kb (0 ≤ (u : Int32).toInt ∧ (u : Int32).toInt ≤ 5))), (0, .ref (0)), (1, .int (nI (j))), (2, .int (u))] d_X9_taken_44 (Nat.le_of_ble_eq_true rfl) rfl ?_
          refine wp_aload_n 3 d_X9_taken_46 rfl rfl ?_
          refine wp_getfield (v := .ref (1)) d_X9_taken_47 gf_X9_12 (hp_0 _ _ _ _ _) rfl ?_
          refine wp_iload 1 d_X9_taken_50 rfl ?_
          refine wp_vrt_i (As := [.int ((c.2.1 77) (j))]) (x0 := kb (0 ≤ (((c.2.1 77) (j)) : Int32).toInt ∧ (((c.2.1 77) (j)) : Int32).toInt < (n : Int))) (h1 := HP c w m v E) d_X9_taken_52 lk_X9_118 mv_X1_hasLens in_X1_hasLens se_X1_hasLens (Nat.le_of_ble_eq_true rfl) (Nat.le_of_ble_eq_true rfl) (hp_1 _ _ _ _ _) rfl (s_X1_hasLens hn (by omega) ((c.2.1 77) (j))) ?_
          refine wp_ifb_eq 87 d_X9_taken_55 rfl (fun zc55 => ?_) (fun zc55 => ?_)
          · refine wp_aload 0 d_X9_taken_87 rfl ?_
            refine wp_ifnonnull 95 d_X9_taken_89 rfl ?_
            refine wp_aload 0 d_X9_taken_95 rfl ?_
            refine wp_getfield (v := .int (so j)) d_X9_taken_97 gf_X9_329 hs9.oa rfl ?_
            refine wp_iload_n 5 d_X9_taken_100 rfl rfl ?_
            refine wp_bipush (v0 := 10) d_X9_taken_101 (by decide) ?_
            refine wp_isub d_X9_taken_103 ?_
            refine wp_icmp_ne 116 d_X9_taken_104 rfl (fun zc104 => ?_) (fun zc104 => ?_)
            · refine wp_bipush (v0 := -13) d_X9_taken_116 (by decide) ?_
              refine wp_reti d_X9_taken_118 rfl ?_
              refine ⟨rfl, Or.inr ⟨j, hj, rfl, ?_, congrArg (fun z => some (Value.int z)) ?_⟩⟩
              · first | exact Or.inl zc15 | exact Or.inr zc25
              · rw [if_neg zc55, if_neg (by rw [h43]; simp), if_neg zc104]
            · refine wp_aload 0 d_X9_taken_107 rfl ?_
              refine wp_getfield (v := .ref ((ia j))) d_X9_taken_109 gf_X9_323 hs9.oa rfl ?_
              refine wp_alen (v := nI ((nn j))) d_X9_taken_112 hs9.ob (Nat.le_of_ble_eq_true rfl) rfl ?_
              refine wp_goto 118 d_X9_taken_113 rfl ?_
              refine wp_reti d_X9_taken_118 rfl ?_
              refine ⟨rfl, Or.inr ⟨j, hj, rfl, ?_, congrArg (fun z => some (Value.int z)) ?_⟩⟩
              · first | exact Or.inl zc15 | exact Or.inr zc25
              · rw [if_neg zc55, if_neg (by rw [h43]; simp), if_pos zc104]
          · refine wp_iload_n 2 d_X9_taken_58 rfl rfl ?_
            refine wp_ifb_eq 84 d_X9_taken_59 rfl (fun zc59 => ?_) (fun zc59 => ?_)
            · refine wp_bipush (v0 := -13) d_X9_taken_84 (by decide) ?_
              refine wp_reti d_X9_taken_86 rfl ?_
              refine ⟨rfl, Or.inr ⟨j, hj, rfl, ?_, congrArg (fun z => some (Value.int z)) ?_⟩⟩
              · first | exact Or.inl zc15 | exact Or.inr zc25
              · rw [if_pos zc55, if_neg]
                rintro ⟨q1, q2⟩
                first | exact zc59 q1 | exact zc76 q2
            · refine wp_aload_n 3 d_X9_taken_62 rfl rfl ?_
              refine wp_getfield (v := .ref (1)) d_X9_taken_63 gf_X9_12 (hp_0 _ _ _ _ _) rfl ?_
              have hv9 : vp_in ((c.2.1 77) (j)) n := vp_in_iff.mpr zc55
              have hk9 := hk (((c.2.1 77) (j)).toNatClampNeg) (by obtain ⟨q9, hq9, eq9⟩ := k_nat zc55; rw [eq9, nI_clamp (by omega)]; exact hq9)
              have hv99 : vp_in ((c.2.1 77) (j)) 9 := vp_in_iff.mpr ⟨zc55.1, by have := zc55.2; omega⟩
              refine wp_getfield (v := .ref (2)) d_X9_taken_66 gf_X9_106 (hp_1 _ _ _ _ _) rfl ?_
              refine wp_iload 1 d_X9_taken_69 rfl ?_
              refine wp_iaload (v := (c.2.1 2) (((c.2.1 77) (j)).toNatClampNeg)) d_X9_taken_71 (hp_2 _ _ _ _ _) hv99 rfl ?_
              refine wp_iload_n 5 d_X9_taken_72 rfl rfl ?_
              refine wp_stc_i (As := [.int ((c.2.1 2) (((c.2.1 77) (j)).toNatClampNeg)), .int (u)]) (x0 := kb (kUnder ((c.2.1 2) (((c.2.1 77) (j)).toNatClampNeg)) (u))) (h1 := HP c w m v E) d_X9_taken_73 lk_X9_342 mv_X9_isUnder st_X9_isUnder (Nat.le_of_ble_eq_true rfl) (Nat.le_of_ble_eq_true rfl) (s_X9_isUnder _ ((c.2.1 2) (((c.2.1 77) (j)).toNatClampNeg)) (u) hk9) ?_
              refine wp_ifb_eq 84 d_X9_taken_76 rfl (fun zc76 => ?_) (fun zc76 => ?_)
              · refine wp_bipush (v0 := -13) d_X9_taken_84 (by decide) ?_
                refine wp_reti d_X9_taken_86 rfl ?_
                refine ⟨rfl, Or.inr ⟨j, hj, rfl, ?_, congrArg (fun z => some (Value.int z)) ?_⟩⟩
                · first | exact Or.inl zc15 | exact Or.inr zc25
                · rw [if_pos zc55, if_neg]
                  rintro ⟨q1, q2⟩
                  first | exact zc59 q1 | exact zc76 q2
              · refine wp_iload 1 d_X9_taken_79 rfl ?_
                refine wp_goto 86 d_X9_taken_81 rfl ?_
                refine wp_reti d_X9_taken_86 rfl ?_
                refine ⟨rfl, Or.inr ⟨j, hj, rfl, ?_, congrArg (fun z => some (Value.int z)) ?_⟩⟩
                · first | exact Or.inl zc15 | exact Or.inr zc25
                · rw [if_pos zc55, if_pos ⟨zc59, zc76⟩]
      · refine wp_iconst (v0 := -1) d_X9_taken_28 rfl ?_
        refine wp_reti d_X9_taken_29 rfl ?_
        refine ⟨rfl, Or.inl ⟨?_, rfl⟩⟩
        rintro ⟨q1, q2⟩
        first | exact zc11 q1 | exact q2.elim zc15 zc25
