/-! ===== feed ===== -/
def cby (e : Int64) (i : Nat) : Int32 := (Int64.toInt32 ((Int64.toUInt64 (e) >>> ((Int32.toInt64 (nI (8 * i))).toUInt64 &&& Int64.toUInt64 63)).toInt64)) &&& 255
theorem setSA38 (c : kZ) (f F : Nat → Int32) (a b : Int32) : setS (setA (setS (setA c 38 f) 3701 a) 38 F) 3701 b = setS (setA c 38 F) 3701 b := by
  simp only [setS, setA, updA_idem]
  congr 1
  funext j
  simp only [upd]
  split <;> rfl
theorem s_X8_append {X : kX} {d : Nat} {c w m v : kZ} {E : kH} {T : Nat} (hT : c.1 3701 = nI T) (hT2 : T < 200) (b : Int32) : WP X d 0 0 Y_X8_append 0 [(0, .ref (37)), (1, .int (b))] [] (HP c w m v E) (kR none (HP (setS (setA c 38 (upd (c.2.1 38) T b)) 3701 (nI (T + 1))) w m v E)) := by
  refine wp_aload_n 0 d_X8_append_0 rfl rfl ?_
  refine wp_getfield (v := .int (nI (T))) d_X8_append_1 gf_X8_26 (hp_37 _ _ _ _ _) (congrArg (fun z => some (Value.int z)) hT) ?_
  refine wp_sipush (v0 := 200) d_X8_append_4 (by decide) ?_
  refine wp_ncmp_lt (a := T) (b := 200) 11 d_X8_append_7 rfl (by omega) (by omega) (fun c7 => ?_) (fun c7 => ?_)
  · refine wp_aload_n 0 d_X8_append_11 rfl rfl ?_
    refine wp_getfield (v := .ref (38)) d_X8_append_12 gf_X8_9 (hp_37 _ _ _ _ _) rfl ?_
    refine wp_aload_n 0 d_X8_append_15 rfl rfl ?_
    refine wp_getfield (v := .int (nI (T))) d_X8_append_16 gf_X8_26 (hp_37 _ _ _ _ _) (congrArg (fun z => some (Value.int z)) hT) ?_
    refine wp_iload_n 1 d_X8_append_19 rfl rfl ?_
    refine wp_iastore (h' := HP (setA c 38 (upd (c.2.1 38) (T) (b))) w m v E) d_X8_append_20 (hp_38 _ _ _ _ _) (vp_in_nI (by omega) (by omega)) (by rw [nI_clamp (by omega)]; exact (hpa_38 _ _ _ _ _ _)) ?_
    refine wp_aload_n 0 d_X8_append_21 rfl rfl ?_
    refine wp_dup d_X8_append_22 rfl ?_
    refine wp_getfield (v := .int (nI (T))) d_X8_append_23 gf_X8_26 (hp_37 _ _ _ _ _) (congrArg (fun z => some (Value.int z)) hT) ?_
    refine wp_iconst (v0 := 1) d_X8_append_26 rfl ?_
    refine wp_iadd d_X8_append_27 ?_
    refine wp_v (v0 := nI ((T) + (1))) (nI_add (T) (1)) ?_
    refine wp_putfield (h' := HP (setS (setA c 38 (upd (c.2.1 38) (T) (b))) 3701 (nI ((T) + (1)))) w m v E) d_X8_append_28 gp_X8_26 (kfit_i _) (hp_37 _ _ _ _ _) (Nat.le_of_ble_eq_true rfl) (hps_37_1 _ _ _ _ _ _) ?_
    refine wp_vret d_X8_append_31 rfl ?_
    first
      | exact ⟨rfl, rfl⟩
      | exact absurd hT2 (by omega)
  · refine wp_vret d_X8_append_10 rfl ?_
    first
      | exact ⟨rfl, rfl⟩
      | exact absurd hT2 (by omega)
theorem s_X9_feed_l {X : kX} {d : Nat} {c w m v : kZ} {E : kH} {T N : Nat} (hN8 : N ≤ 8) (hTN : T + N ≤ 200) (e : Int64) : ∀ (k : Nat) (i : Nat) (f : Nat → Int32), (i + k = N) → (∀ j, j < T → f j = c.2.1 38 j) → (∀ j, j < i → f (T + j) = cby e j) → WP X (d + 1) 0 0 Y_X9_feed 33 [(4, .int (nI (i))), (0, .ref (0)), (1, .long (e)), (3, .int (nI (N)))] [] (HP (setS (setA c 38 (f)) 3701 (nI (T + i))) w m v E) (fun r1 h1 => r1 = some (.int (nI (T + N))) ∧ ∃ f1, h1 = HP (setS (setA c 38 f1) 3701 (nI (T + N))) w m v E ∧ ((∀ j, j < T → f1 j = c.2.1 38 j) ∧ ∀ j, j < N → f1 (T + j) = cby e j)) := by
  intro k
  induction k using Nat.strongRecOn with
  | ind k ih =>
    intro i f hi h1 h2
    refine wp_iload 0 d_X9_feed_33 rfl ?_
    refine wp_iload_n 3 d_X9_feed_35 rfl rfl ?_
    refine wp_ncmp_ge (a := i) (b := N) 64 d_X9_feed_36 rfl (by omega) (by omega) (fun c36 => ?_) (fun c36 => ?_)
    · refine wp_aload_n 1 d_X9_feed_64 rfl rfl ?_
      refine wp_getfield (v := .ref (37)) d_X9_feed_65 gf_X9_25 (hp_0 _ _ _ _ _) rfl ?_
      refine wp_getfield (v := .int ((nI (T + i)))) d_X9_feed_68 gf_X9_145 (hp_37 _ _ _ _ _) rfl ?_
      refine wp_reti d_X9_feed_71 rfl ?_
      obtain rfl : k = 0 := by omega
      obtain rfl : N = i := by omega
      exact ⟨rfl, f, rfl, h1, h2⟩
    · refine wp_aload_n 1 d_X9_feed_39 rfl rfl ?_
      refine wp_getfield (v := .ref (37)) d_X9_feed_40 gf_X9_25 (hp_0 _ _ _ _ _) rfl ?_
      refine wp_lload_n 2 d_X9_feed_43 rfl rfl ?_
      refine wp_bipush (v0 := 8) d_X9_feed_44 (by decide) ?_
      refine wp_iload 0 d_X9_feed_46 rfl ?_
      refine wp_imul d_X9_feed_48 ?_
      refine wp_v (v0 := nI ((8) * (i))) (pk_mul (8) (i)) ?_
      refine wp_lushr (v0 := (Int64.toUInt64 (e) >>> ((Int32.toInt64 (nI ((8) * (i)))).toUInt64 &&& Int64.toUInt64 63)).toInt64) d_X9_feed_49 rfl ?_
      refine wp_l2i d_X9_feed_50 ?_
      refine wp_sipush (v0 := 255) d_X9_feed_51 (by decide) ?_
      refine wp_iand d_X9_feed_54 ?_
      refine wp_vrt_v (As := [.int ((Int64.toInt32 ((Int64.toUInt64 (e) >>> ((Int32.toInt64 (nI ((8) * (i)))).toUInt64 &&& Int64.toUInt64 63)).toInt64)) &&& (255))]) (h1 := HP (setS (setA (setS (setA c 38 (f)) 3701 (nI (T + i))) 38 (upd (f) (T + i) ((Int64.toInt32 ((Int64.toUInt64 (e) >>> ((Int32.toInt64 (nI ((8) * (i)))).toUInt64 &&& Int64.toUInt64 63)).toInt64)) &&& (255)))) 3701 (nI (T + i + 1))) w m v E) d_X9_feed_55 lk_X9_148 mv_X8_append in_X8_append se_X8_append (Nat.le_of_ble_eq_true rfl) (Nat.le_of_ble_eq_true rfl) (hp_37 _ _ _ _ _) rfl (s_X8_append (c := (setS (setA c 38 (f)) 3701 (nI (T + i)))) (T := T + i) rfl (by omega) ((Int64.toInt32 ((Int64.toUInt64 (e) >>> ((Int32.toInt64 (nI ((8) * (i)))).toUInt64 &&& Int64.toUInt64 63)).toInt64)) &&& (255))) ?_
      refine wp_iinc (v0 := nI ((i) + 1)) [(4, .int (nI ((i) + 1))), (0, .ref (0)), (1, .long (e)), (3, .int (nI (N)))] 0 d_X9_feed_58 rfl (nI_add (i) 1) (Nat.le_of_ble_eq_true rfl) rfl ?_
      refine wp_goto 33 d_X9_feed_61 rfl ?_
      obtain ⟨k1, rfl⟩ : ∃ k1, k = k1 + 1 := ⟨k - 1, by omega⟩
      refine wp_sub [(4, .int (nI ((i) + 1))), (0, .ref (0)), (1, .long (e)), (3, .int (nI (N)))] [0, 1, 2, 3] rfl ?_
      refine wp_h (h' := HP (setS (setA c 38 (upd (f) (T + i) ((Int64.toInt32 ((Int64.toUInt64 (e) >>> ((Int32.toInt64 (nI ((8) * (i)))).toUInt64 &&& Int64.toUInt64 63)).toInt64)) &&& (255)))) 3701 (nI (T + i + 1))) w m v E) (by rw [setSA38]) ?_
      refine ih k1 (by omega) (i + 1) _ (by omega) (fun j hj => ?_) (fun j hj => ?_)
      · rw [upd_n _ _ (by omega)]; exact h1 j hj
      · by_cases e9 : j = i
        · subst e9; rw [upd_s]; rfl
        · rw [upd_n _ _ (by omega)]; exact h2 j (by omega)
theorem s_X9_feed {X : kX} {d : Nat} {c w m v : kZ} {E : kH} {T : Nat} (hT : c.1 3701 = nI T) (hT2 : T ≤ 200) (e : Int64) (x : Int32) : WP X (d + 1) 0 0 Y_X9_feed 0 [(0, .ref (0)), (1, .long (e)), (3, .int (x))] [] (HP c w m v E) (fun r1 h1 => (¬ (1 ≤ x.toInt ∧ x.toInt ≤ 8) ∧ r1 = some (.int (-1)) ∧ h1 = HP c w m v E) ∨ ∃ N : Nat, 1 ≤ N ∧ N ≤ 8 ∧ x = nI N ∧ ((200 < T + N ∧ r1 = some (.int (-2)) ∧ h1 = HP c w m v E) ∨ (T + N ≤ 200 ∧ r1 = some (.int (nI (T + N))) ∧ ∃ f1, h1 = HP (setS (setA c 38 f1) 3701 (nI (T + N))) w m v E ∧ ((∀ j, j < T → f1 j = c.2.1 38 j) ∧ ∀ j, j < N → f1 (T + j) = cby e j)))) := by
  refine wp_iload_n 2 d_X9_feed_0 rfl rfl ?_
  refine wp_iconst (v0 := 1) d_X9_feed_1 rfl ?_
  refine wp_bipush (v0 := 8) d_X9_feed_2 (by decide) ?_
  refine wp_stc_i (As := [.int (x), .int (1), .int (8)]) (x0 := kb (1 ≤ (x : Int32).toInt ∧ (x : Int32).toInt ≤ 8)) (h1 := HP c w m v E) d_X9_feed_4 lk_X9_98 mv_X9_isWithin st_X9_isWithin (Nat.le_of_ble_eq_true rfl) (Nat.le_of_ble_eq_true rfl) (s_X9_isWithin _ (x : Int32) (1 : Int32) (8 : Int32)) ?_
  refine wp_ifb_ne 12 d_X9_feed_7 rfl (fun c7 => ?_) (fun c7 => ?_)
  · obtain ⟨N, hN8, rfl⟩ := k_natle (n := 8) ⟨by omega, c7.2⟩
    have hN1 : 1 ≤ N := by
      have q9 := c7.1
      rw [nI_toInt (by omega)] at q9
      omega
    refine wp_aload_n 0 d_X9_feed_12 rfl rfl ?_
    refine wp_getfield (v := .ref (37)) d_X9_feed_13 gf_X9_25 (hp_0 _ _ _ _ _) rfl ?_
    refine wp_getfield (v := .int (nI (T))) d_X9_feed_16 gf_X9_145 (hp_37 _ _ _ _ _) (congrArg (fun z => some (Value.int z)) hT) ?_
    refine wp_iload_n 2 d_X9_feed_19 rfl rfl ?_
    refine wp_iadd d_X9_feed_20 ?_
    refine wp_v (v0 := nI ((T) + (N))) (nI_add (T) (N)) ?_
    refine wp_sipush (v0 := 200) d_X9_feed_21 (by decide) ?_
    refine wp_ncmp_le (a := (T) + (N)) (b := 200) 30 d_X9_feed_24 rfl (by omega) (by omega) (fun c24 => ?_) (fun c24 => ?_)
    · refine wp_iconst (v0 := 0) d_X9_feed_30 rfl ?_
      refine wp_istore [(4, .int (0)), (0, .ref (0)), (1, .long (e)), (3, .int (nI (N)))] d_X9_feed_31 (Nat.le_of_ble_eq_true rfl) rfl ?_
      refine wp_sub [(4, .int (0)), (0, .ref (0)), (1, .long (e)), (3, .int (nI (N)))] [0, 1, 2, 3] rfl ?_
      have L := s_X9_feed_l (X := X) (d := d) (c := c) (w := w) (m := m) (v := v) (E := E) (T := T) hN8 (by omega) e N 0 (c.2.1 38) (by omega) (fun _ _ => rfl) (fun j hj => absurd hj (by omega))
      rw [setA_self, show setS c 3701 (nI (T + 0)) = c from by rw [Nat.add_zero, ← hT]; simp only [setS, upd_self]] at L
      refine wp_mono ?_ L
      rintro r1 h1 ⟨rfl, f1, rfl, hq⟩
      exact Or.inr ⟨N, hN1, hN8, rfl, Or.inr ⟨by omega, rfl, f1, rfl, hq⟩⟩
    · refine wp_bipush (v0 := -2) d_X9_feed_27 (by decide) ?_
      refine wp_reti d_X9_feed_29 rfl ?_
      exact Or.inr ⟨N, hN1, hN8, rfl, Or.inl ⟨by omega, rfl, rfl⟩⟩
  · refine wp_iconst (v0 := -1) d_X9_feed_10 rfl ?_
    refine wp_reti d_X9_feed_11 rfl ?_
    exact Or.inl ⟨c7, rfl, rfl⟩
def mby (e : Int64) (i : Nat) : Int32 := Int64.toInt32 (((e) >>> (Int32.toInt64 (nI (8 * i)) &&& 63)) &&& (255))
theorem setSA94 (c : kZ) (f F : Nat → Int32) (a b : Int32) : setS (setA (setS (setA c 94 f) 8024 a) 94 F) 8024 b = setS (setA c 94 F) 8024 b := by
  simp only [setS, setA, updA_idem]
  congr 1
  funext j
  simp only [upd]
  split <;> rfl
theorem s_X10_feed_l {X : kX} {d : Nat} {c w m v : kZ} {E : kH} {T N : Nat} (hN8 : N ≤ 8) (hTN : T + N ≤ 200) (e : Int64) : ∀ (k : Nat) (i : Nat) (f : Nat → Int32), (i + k = N) → (∀ j, j < T → f j = m.2.1 94 j) → (∀ j, j < i → f (T + j) = mby e j) → WP X (d + 1) 0 0 Y_X10_feed 32 [(4, .int (nI (i))), (0, .ref (80)), (1, .long (e)), (3, .int (nI (N)))] [] (HP c w (setS (setA m 94 (f)) 8024 (nI (T + i))) v E) (fun r1 h1 => r1 = some (.int (nI (T + N))) ∧ ∃ f1, h1 = HP c w (setS (setA m 94 f1) 8024 (nI (T + N))) v E ∧ ((∀ j, j < T → f1 j = m.2.1 94 j) ∧ ∀ j, j < N → f1 (T + j) = mby e j)) := by
  intro k
  induction k using Nat.strongRecOn with
  | ind k ih =>
    intro i f hi h1 h2
    refine wp_iload 0 d_X10_feed_32 rfl ?_
    refine wp_iload_n 3 d_X10_feed_34 rfl rfl ?_
    refine wp_ncmp_ge (a := i) (b := N) 75 d_X10_feed_35 rfl (by omega) (by omega) (fun c35 => ?_) (fun c35 => ?_)
    · refine wp_aload_n 1 d_X10_feed_75 rfl rfl ?_
      refine wp_getfield (v := .int ((nI (T + i)))) d_X10_feed_76 gf_X10_275 (hp_80 _ _ _ _ _) rfl ?_
      refine wp_reti d_X10_feed_79 rfl ?_
      obtain rfl : k = 0 := by omega
      obtain rfl : N = i := by omega
      exact ⟨rfl, f, rfl, h1, h2⟩
    · refine wp_aload_n 1 d_X10_feed_38 rfl rfl ?_
      refine wp_getfield (v := .ref (94)) d_X10_feed_39 gf_X10_50 (hp_80 _ _ _ _ _) rfl ?_
      refine wp_aload_n 1 d_X10_feed_42 rfl rfl ?_
      refine wp_getfield (v := .int ((nI (T + i)))) d_X10_feed_43 gf_X10_275 (hp_80 _ _ _ _ _) rfl ?_
      refine wp_lload_n 2 d_X10_feed_46 rfl rfl ?_
      refine wp_bipush (v0 := 8) d_X10_feed_47 (by decide) ?_
      refine wp_iload 0 d_X10_feed_49 rfl ?_
      refine wp_imul d_X10_feed_51 ?_
      refine wp_v (v0 := nI ((8) * (i))) (pk_mul (8) (i)) ?_
      refine wp_lshr (v0 := (e) >>> (Int32.toInt64 (nI ((8) * (i))) &&& 63)) d_X10_feed_52 rfl ?_
      refine wp_ldc2 (v0 := 255) d_X10_feed_53 cl_X10_278 ?_
      refine wp_land d_X10_feed_56 ?_
      refine wp_l2i d_X10_feed_57 ?_
      refine wp_iastore (h' := HP c w (setA (setS (setA m 94 (f)) 8024 (nI (T + i))) 94 (upd (f) (T + i) (Int64.toInt32 (((e) >>> (Int32.toInt64 (nI ((8) * (i))) &&& 63)) &&& (255))))) v E) d_X10_feed_58 (hp_94 _ _ _ _ _) (vp_in_nI (by omega) (by omega)) (by rw [nI_clamp (by omega)]; exact (hpa_94 _ _ _ _ _ _)) ?_
      refine wp_aload_n 1 d_X10_feed_59 rfl rfl ?_
      refine wp_dup d_X10_feed_60 rfl ?_
      refine wp_getfield (v := .int ((nI (T + i)))) d_X10_feed_61 gf_X10_275 (hp_80 _ _ _ _ _) rfl ?_
      refine wp_iconst (v0 := 1) d_X10_feed_64 rfl ?_
      refine wp_iadd d_X10_feed_65 ?_
      refine wp_v (v0 := nI ((T + i) + (1))) (nI_add (T + i) (1)) ?_
      refine wp_putfield (h' := HP c w (setS (setA (setS (setA m 94 (f)) 8024 (nI (T + i))) 94 (upd (f) (T + i) (Int64.toInt32 (((e) >>> (Int32.toInt64 (nI ((8) * (i))) &&& 63)) &&& (255))))) 8024 (nI ((T + i) + (1)))) v E) d_X10_feed_66 gp_X10_275 (kfit_i _) (hp_80 _ _ _ _ _) (Nat.le_of_ble_eq_true rfl) (hps_80_24 _ _ _ _ _ _) ?_
      refine wp_iinc (v0 := nI ((i) + 1)) [(4, .int (nI ((i) + 1))), (0, .ref (80)), (1, .long (e)), (3, .int (nI (N)))] 0 d_X10_feed_69 rfl (nI_add (i) 1) (Nat.le_of_ble_eq_true rfl) rfl ?_
      refine wp_goto 32 d_X10_feed_72 rfl ?_
      obtain ⟨k1, rfl⟩ : ∃ k1, k = k1 + 1 := ⟨k - 1, by omega⟩
      refine wp_sub [(4, .int (nI ((i) + 1))), (0, .ref (80)), (1, .long (e)), (3, .int (nI (N)))] [0, 1, 2, 3] rfl ?_
      refine wp_h (h' := HP c w (setS (setA m 94 (upd (f) (T + i) (Int64.toInt32 (((e) >>> (Int32.toInt64 (nI ((8) * (i))) &&& 63)) &&& (255))))) 8024 (nI (T + i + 1))) v E) (by rw [setSA94]) ?_
      refine ih k1 (by omega) (i + 1) _ (by omega) (fun j hj => ?_) (fun j hj => ?_)
      · rw [upd_n _ _ (by omega)]; exact h1 j hj
      · by_cases e9 : j = i
        · subst e9; rw [upd_s]; rfl
        · rw [upd_n _ _ (by omega)]; exact h2 j (by omega)
theorem s_X10_feed {X : kX} {d : Nat} {c w m v : kZ} {E : kH} {T : Nat} (hT : m.1 8024 = nI T) (hT2 : T ≤ 200) (e : Int64) (x : Int32) : WP X (d + 1) 0 0 Y_X10_feed 0 [(0, .ref (80)), (1, .long (e)), (3, .int (x))] [] (HP c w m v E) (fun r1 h1 => (¬ (1 ≤ x.toInt ∧ x.toInt ≤ 8) ∧ r1 = some (.int (-1)) ∧ h1 = HP c w m v E) ∨ ∃ N : Nat, 1 ≤ N ∧ N ≤ 8 ∧ x = nI N ∧ ((200 < T + N ∧ r1 = some (.int (-2)) ∧ h1 = HP c w m v E) ∨ (T + N ≤ 200 ∧ r1 = some (.int (nI (T + N))) ∧ ∃ f1, h1 = HP c w (setS (setA m 94 f1) 8024 (nI (T + N))) v E ∧ ((∀ j, j < T → f1 j = m.2.1 94 j) ∧ ∀ j, j < N → f1 (T + j) = mby e j)))) := by
  refine wp_iload_n 2 d_X10_feed_0 rfl rfl ?_
  refine wp_i2l d_X10_feed_1 ?_
  refine wp_lconst (v0 := 1) d_X10_feed_2 rfl ?_
  refine wp_ldc2 (v0 := 8) d_X10_feed_3 cl_X10_273 ?_
  refine wp_stc_i (As := [.long (Int32.toInt64 (x)), .long (1), .long (8)]) (x0 := kb (1 ≤ (x : Int32).toInt ∧ (x : Int32).toInt ≤ 8)) (h1 := HP c w m v E) d_X10_feed_6 lk_X10_74 mv_X10_in st_X10_in (Nat.le_of_ble_eq_true rfl) (Nat.le_of_ble_eq_true rfl) (s_X10_in_i _ (x) (1) (8)) ?_
  refine wp_ifb_ne 14 d_X10_feed_9 rfl (fun c9 => ?_) (fun c9 => ?_)
  · obtain ⟨N, hN8, rfl⟩ := k_natle (n := 8) ⟨by omega, c9.2⟩
    have hN1 : 1 ≤ N := by
      have q9 := c9.1
      rw [nI_toInt (by omega)] at q9
      omega
    refine wp_aload_n 0 d_X10_feed_14 rfl rfl ?_
    refine wp_getfield (v := .int (nI (T))) d_X10_feed_15 gf_X10_275 (hp_80 _ _ _ _ _) (congrArg (fun z => some (Value.int z)) hT) ?_
    refine wp_iload_n 2 d_X10_feed_18 rfl rfl ?_
    refine wp_iadd d_X10_feed_19 ?_
    refine wp_v (v0 := nI ((T) + (N))) (nI_add (T) (N)) ?_
    refine wp_sipush (v0 := 200) d_X10_feed_20 (by decide) ?_
    refine wp_ncmp_le (a := (T) + (N)) (b := 200) 29 d_X10_feed_23 rfl (by omega) (by omega) (fun c23 => ?_) (fun c23 => ?_)
    · refine wp_iconst (v0 := 0) d_X10_feed_29 rfl ?_
      refine wp_istore [(4, .int (0)), (0, .ref (80)), (1, .long (e)), (3, .int (nI (N)))] d_X10_feed_30 (Nat.le_of_ble_eq_true rfl) rfl ?_
      refine wp_sub [(4, .int (0)), (0, .ref (80)), (1, .long (e)), (3, .int (nI (N)))] [0, 1, 2, 3] rfl ?_
      have L := s_X10_feed_l (X := X) (d := d) (c := c) (w := w) (m := m) (v := v) (E := E) (T := T) hN8 (by omega) e N 0 (m.2.1 94) (by omega) (fun _ _ => rfl) (fun j hj => absurd hj (by omega))
      rw [setA_self, show setS m 8024 (nI (T + 0)) = m from by rw [Nat.add_zero, ← hT]; simp only [setS, upd_self]] at L
      refine wp_mono ?_ L
      rintro r1 h1 ⟨rfl, f1, rfl, hq⟩
      exact Or.inr ⟨N, hN1, hN8, rfl, Or.inr ⟨by omega, rfl, f1, rfl, hq⟩⟩
    · refine wp_bipush (v0 := -2) d_X10_feed_26 (by decide) ?_
      refine wp_reti d_X10_feed_28 rfl ?_
      exact Or.inr ⟨N, hN1, hN8, rfl, Or.inl ⟨by omega, rfl, rfl⟩⟩
  · refine wp_iconst (v0 := -1) d_X10_feed_12 rfl ?_
    refine wp_reti d_X10_feed_13 rfl ?_
    exact Or.inl ⟨c9, rfl, rfl⟩
