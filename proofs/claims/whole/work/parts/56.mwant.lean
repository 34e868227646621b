/-! ===== reference: wants, writes, word, number ===== -/
def rwant (t : Nat → Int32) (T : Nat) (b : Bool) (q : kRt) : kRt := if q.2.2.1 = true ∨ ¬ b = true then (q.1, q.2.1, true, q.2.2.2) else rtok t T (q.1, q.2.1, false, q.2.2.2)
def rwri (x : Int32) (q : kRt) : kRt := if q.2.2.1 = true then q else (q.1, q.2.1, q.2.2.1, q.2.2.2.1, q.2.2.2.2.1, q.2.2.2.2.2.1 + 1, upd q.2.2.2.2.2.2 (97 + q.2.2.2.2.2.1) x)
def rnum (t : Nat → Int32) (T : Nat) (hi : Int32) (q : kRt) : kRt :=
  if qDg (qby t T q.1) ∧ q.2.1 < q.1 + 5 then rwant t T (decide (qnum t q.1 (q.2.1 - q.1) ≤ hi)) (q.1, q.2.1, q.2.2.1, qnum t q.1 (q.2.1 - q.1), q.2.2.2.2)
  else rwant t T false (q.1, q.2.1, q.2.2.1, 0, q.2.2.2.2)
def rwd (t : Nat → Int32) : Nat → Nat → Int64 → Int64
  | 0, _, x => x
  | k + 1, i, x => rwd t k (i + 1) (if x ≤ 36028797018963967 then 32 * x + (t i - 96).toInt64 else x)
def rword (t : Nat → Int32) (T : Nat) (q : kRt) : Int64 := if q.2.2.1 = true ∨ ¬ qLt (qby t T q.1) then 0 else rwd t (q.2.1 - q.1) q.1 0
theorem s_X10_wants {X : kX} {d : Nat} {c w m v : kZ} {E : kH} {T : Nat} (hT : m.1 8024 = nI T) (hT2 : T ≤ 200) {q : kRt} {y : kZ} (hx : kMx v q y) {s1 : Nat → Int32} (hto : q.2.1 ≤ T) (b9 : Bool) : WP X (d + 3) 0 0 Y_X10_wants 0 [(0, .ref (80)), (1, .int (kb (b9 = true)))] [] (HP c w (setA m 81 (s1)) y E) (fun r1 h1 => r1 = none ∧ ∃ y1 : kZ, h1 = HP c w (setA m 81 (s1)) y1 E ∧ kMx v (rwant (m.2.1 94) T b9 q) y1) := by
  refine wp_aload_n 0 d_X10_wants_0 rfl rfl ?_
  refine wp_aload_n 0 d_X10_wants_1 rfl rfl ?_
  refine wp_getfield (v := .int (kb ((q).2.2.1 = true))) d_X10_wants_2 gf_X10_303 (hp_80 _ _ _ _ _) (congrArg (fun z => some (Value.int z)) hx.2.2.1) ?_
  refine wp_ifb_ne 12 d_X10_wants_5 rfl (fun zc5 => ?_) (fun zc5 => ?_)
  · refine wp_iconst (v0 := 1) d_X10_wants_12 rfl ?_
    refine wp_goto 17 d_X10_wants_13 rfl ?_
    refine wp_putfield (h' := HP c w (setA m 81 (s1)) (setS y 8030 (1)) E) d_X10_wants_17 gp_X10_303 kfit_z1 (hp_80 _ _ _ _ _) (Nat.le_of_ble_eq_true rfl) (hps_80_30 _ _ _ _ _ _) ?_
    refine wp_aload_n 0 d_X10_wants_20 rfl rfl ?_
    refine wp_getfield (v := .int (1)) d_X10_wants_21 gf_X10_303 (hp_80 _ _ _ _ _) rfl ?_
    refine wp_if_ne 31 d_X10_wants_24 rfl (fun _ => ?_) (fun z => absurd z (by decide))
    refine wp_vret d_X10_wants_31 rfl ?_
    exact ⟨rfl, _, rfl, by rw [show rwant (m.2.1 94) T b9 q = _ from if_pos (Or.inl zc5)]; exact hx.wr true rfl⟩
  · refine wp_iload_n 1 d_X10_wants_8 rfl rfl ?_
    refine wp_ifb_ne 16 d_X10_wants_9 rfl (fun zc9 => ?_) (fun zc9 => ?_)
    · refine wp_iconst (v0 := 0) d_X10_wants_16 rfl ?_
      refine wp_putfield (h' := HP c w (setA m 81 (s1)) (setS y 8030 (0)) E) d_X10_wants_17 gp_X10_303 kfit_z0 (hp_80 _ _ _ _ _) (Nat.le_of_ble_eq_true rfl) (hps_80_30 _ _ _ _ _ _) ?_
      refine wp_aload_n 0 d_X10_wants_20 rfl rfl ?_
      refine wp_getfield (v := .int (0)) d_X10_wants_21 gf_X10_303 (hp_80 _ _ _ _ _) rfl ?_
      refine wp_if_ne 31 d_X10_wants_24 rfl (fun z => absurd z (by decide)) (fun _ => ?_)
      refine wp_aload_n 0 d_X10_wants_27 rfl rfl ?_
      refine wp_virtual0 (As := []) d_X10_wants_28 lk_X10_307 mv_X10_token in_X10_token se_X10_token (Nat.le_of_ble_eq_true rfl) (Nat.le_of_ble_eq_true rfl) (hp_80 _ _ _ _ _) rfl (s_X10_token hT hT2 (hx.wr false rfl) hto) (fun v28 h28 q28 => ?_)
      obtain ⟨rfl, y1, rfl, hx1⟩ := q28
      show WP _ _ _ _ _ 31 _ [] (HP c w (setA m 81 (s1)) y1 E) _
      refine wp_vret d_X10_wants_31 rfl ?_
      exact ⟨rfl, y1, rfl, by rw [show rwant (m.2.1 94) T b9 q = _ from if_neg (fun z => z.elim (fun z => zc5 z) (fun z => z zc9))]; exact hx1⟩
    · refine wp_iconst (v0 := 1) d_X10_wants_12 rfl ?_
      refine wp_goto 17 d_X10_wants_13 rfl ?_
      refine wp_putfield (h' := HP c w (setA m 81 (s1)) (setS y 8030 (1)) E) d_X10_wants_17 gp_X10_303 kfit_z1 (hp_80 _ _ _ _ _) (Nat.le_of_ble_eq_true rfl) (hps_80_30 _ _ _ _ _ _) ?_
      refine wp_aload_n 0 d_X10_wants_20 rfl rfl ?_
      refine wp_getfield (v := .int (1)) d_X10_wants_21 gf_X10_303 (hp_80 _ _ _ _ _) rfl ?_
      refine wp_if_ne 31 d_X10_wants_24 rfl (fun _ => ?_) (fun z => absurd z (by decide))
      refine wp_vret d_X10_wants_31 rfl ?_
      exact ⟨rfl, _, rfl, by rw [show rwant (m.2.1 94) T b9 q = _ from if_pos (Or.inr zc9)]; exact hx.wr true rfl⟩
theorem s_X10_writes {X : kX} {d : Nat} {c w m v : kZ} {E : kH} {q : kRt} {y : kZ} (hx : kMx v q y) (hc : q.2.2.1 = false → q.2.2.2.2.2.1 < 203) (x : Int32) : WP X d 0 0 Y_X10_writes 0 [(0, .ref (80)), (1, .int (x))] [] (HP c w (setA m 81 (q.2.2.2.2.2.2)) y E) (fun r1 h1 => r1 = none ∧ ∃ y1 : kZ, h1 = HP c w (setA m 81 ((rwri x q).2.2.2.2.2.2)) y1 E ∧ kMx v (rwri x q) y1) := by
  refine wp_aload_n 0 d_X10_writes_0 rfl rfl ?_
  refine wp_getfield (v := .int (kb ((q).2.2.1 = true))) d_X10_writes_1 gf_X10_303 (hp_80 _ _ _ _ _) (congrArg (fun z => some (Value.int z)) hx.2.2.1) ?_
  refine wp_ifb_ne 30 d_X10_writes_4 rfl (fun zc4 => ?_) (fun zc4 => ?_)
  · refine wp_vret d_X10_writes_30 rfl ?_
    exact ⟨rfl, y, by rw [show rwri x q = q from if_pos zc4], by rw [show rwri x q = q from if_pos zc4]; exact hx⟩
  · have hcc := hc (Bool.not_eq_true _ |>.mp zc4)
    refine wp_aload_n 0 d_X10_writes_7 rfl rfl ?_
    refine wp_getfield (v := .ref (81)) d_X10_writes_8 gf_X10_7 (hp_80 _ _ _ _ _) rfl ?_
    refine wp_bipush (v0 := 97) d_X10_writes_11 (by decide) ?_
    refine wp_aload_n 0 d_X10_writes_13 rfl rfl ?_
    refine wp_getfield (v := .int (nI ((q).2.2.2.2.2.1))) d_X10_writes_14 gf_X10_347 (hp_80 _ _ _ _ _) (congrArg (fun z => some (Value.int z)) hx.2.2.2.2.2.1) ?_
    refine wp_iadd d_X10_writes_17 ?_
    refine wp_v (v0 := nI ((97) + ((q).2.2.2.2.2.1))) (nI_add (97) ((q).2.2.2.2.2.1)) ?_
    refine wp_iload_n 1 d_X10_writes_18 rfl rfl ?_
    refine wp_iastore (h' := HP c w (setA (setA m 81 (q.2.2.2.2.2.2)) 81 (upd (q.2.2.2.2.2.2) ((97) + ((q).2.2.2.2.2.1)) (x))) y E) d_X10_writes_19 (hp_81 _ _ _ _ _) (vp_in_nI (by omega) (by omega)) (by rw [nI_clamp (by omega)]; exact (hpa_81 _ _ _ _ _ _)) ?_
    refine wp_aload_n 0 d_X10_writes_20 rfl rfl ?_
    refine wp_dup d_X10_writes_21 rfl ?_
    refine wp_getfield (v := .int (nI ((q).2.2.2.2.2.1))) d_X10_writes_22 gf_X10_347 (hp_80 _ _ _ _ _) (congrArg (fun z => some (Value.int z)) hx.2.2.2.2.2.1) ?_
    refine wp_iconst (v0 := 1) d_X10_writes_25 rfl ?_
    refine wp_iadd d_X10_writes_26 ?_
    refine wp_v (v0 := nI (((q).2.2.2.2.2.1) + (1))) (nI_add ((q).2.2.2.2.2.1) (1)) ?_
    refine wp_putfield (h' := HP c w (setA (setA m 81 (q.2.2.2.2.2.2)) 81 (upd (q.2.2.2.2.2.2) ((97) + ((q).2.2.2.2.2.1)) (x))) (setS y 8029 (nI (((q).2.2.2.2.2.1) + (1)))) E) d_X10_writes_27 gp_X10_347 (kfit_i _) (hp_80 _ _ _ _ _) (Nat.le_of_ble_eq_true rfl) (hps_80_29 _ _ _ _ _ _) ?_
    refine wp_vret d_X10_writes_30 rfl ?_
    rw [show rwri x q = _ from if_neg zc4]
    exact ⟨rfl, _, by rw [setA_idem], hx.cod _ _⟩
theorem lg_le9 {x y : Int64} : lg_cmp x y ≤ 0 ↔ x ≤ y := by
  rw [← Int32.not_lt, ← Int64.not_lt]
  exact not_congr (lg_cmp_gt x y)
theorem s_X10_word_l {X : kX} {d : Nat} {c w m v : kZ} {E : kH} {T : Nat} (hT : m.1 8024 = nI T) (hT2 : T ≤ 200) {s1 : Nat → Int32} {q : kRt} {y : kZ} (hx : kMx v q y) (hfr : q.1 ≤ q.2.1) (hto : q.2.1 ≤ T) : ∀ (k : Nat) (i : Nat) (x : Int64) (r : Int64), (i + k = q.2.1) → (rwd (m.2.1 94) k i x = r) → WP X (d + 2) 0 0 Y_X10_word 7 [(3, .int (nI (i))), (1, .long (x)), (0, .ref (80))] [] (HP c w (setA m 81 (s1)) y E) (kR (some (.long (if q.2.2.1 = true ∨ ¬ qLt (qby (m.2.1 94) T q.1) then 0 else r))) (HP c w (setA m 81 (s1)) y E)) := by
  intro k
  induction k using Nat.strongRecOn with
  | ind k ih =>
    intro i x r hi hr
    refine wp_iload_n 0 d_X10_word_7 rfl rfl ?_
    refine wp_aload_n 2 d_X10_word_8 rfl rfl ?_
    refine wp_getfield (v := .int (nI ((q).2.1))) d_X10_word_9 gf_X10_288 (hp_80 _ _ _ _ _) (congrArg (fun z => some (Value.int z)) hx.2.1) ?_
    refine wp_ncmp_ge (a := i) (b := (q).2.1) 50 d_X10_word_12 rfl (by omega) (by omega) (fun zc12 => ?_) (fun zc12 => ?_)
    · refine wp_aload_n 2 d_X10_word_50 rfl rfl ?_
      refine wp_getfield (v := .int (kb ((q).2.2.1 = true))) d_X10_word_51 gf_X10_303 (hp_80 _ _ _ _ _) (congrArg (fun z => some (Value.int z)) hx.2.2.1) ?_
      refine wp_ifb_ne 71 d_X10_word_54 rfl (fun zc54 => ?_) (fun zc54 => ?_)
      · refine wp_lconst (v0 := 0) d_X10_word_71 rfl ?_
        refine wp_goto 76 d_X10_word_72 rfl ?_
        refine wp_lret d_X10_word_76 rfl ?_
        obtain rfl : k = 0 := by omega
        simp only [rwd] at hr
        subst hr
        rw [if_pos (Or.inl zc54)]
        exact ⟨rfl, rfl⟩
      · refine wp_aload_n 2 d_X10_word_57 rfl rfl ?_
        refine wp_aload_n 2 d_X10_word_58 rfl rfl ?_
        refine wp_getfield (v := .int (nI ((q).1))) d_X10_word_59 gf_X10_291 (hp_80 _ _ _ _ _) (congrArg (fun z => some (Value.int z)) hx.1) ?_
        refine wp_vrt_i (As := [.int (nI ((q).1))]) (x0 := qby (m.2.1 94) T ((q).1)) (h1 := HP c w (setA m 81 (s1)) y E) d_X10_word_62 lk_X10_294 mv_X10_byteAt in_X10_byteAt se_X10_byteAt (Nat.le_of_ble_eq_true rfl) (Nat.le_of_ble_eq_true rfl) (hp_80 _ _ _ _ _) rfl (s_X10_byteAt hT hT2 (k := (q).1) (by omega)) ?_
        refine wp_stc_i (As := [.int (qby (m.2.1 94) T ((q).1))]) (x0 := kb (97 ≤ (qby (m.2.1 94) T ((q).1) : Int32).toInt ∧ (qby (m.2.1 94) T ((q).1) : Int32).toInt ≤ 122)) (h1 := HP c w (setA m 81 (s1)) y E) d_X10_word_65 lk_X10_297 mv_X10_isLetter st_X10_isLetter (Nat.le_of_ble_eq_true rfl) (Nat.le_of_ble_eq_true rfl) (s_X10_isLetter _ (qby (m.2.1 94) T ((q).1) : Int32)) ?_
        refine wp_ifb_ne 75 d_X10_word_68 rfl (fun zc68 => ?_) (fun zc68 => ?_)
        · refine wp_lload_n 1 d_X10_word_75 rfl rfl ?_
          refine wp_lret d_X10_word_76 rfl ?_
          obtain rfl : k = 0 := by omega
          simp only [rwd] at hr
          subst hr
          rw [if_neg (fun z => z.elim (fun z => zc54 z) (fun z => z zc68))]
          exact ⟨rfl, rfl⟩
        · refine wp_lconst (v0 := 0) d_X10_word_71 rfl ?_
          refine wp_goto 76 d_X10_word_72 rfl ?_
          refine wp_lret d_X10_word_76 rfl ?_
          obtain rfl : k = 0 := by omega
          simp only [rwd] at hr
          subst hr
          rw [if_pos (Or.inr zc68)]
          exact ⟨rfl, rfl⟩
    · refine wp_lload_n 1 d_X10_word_15 rfl rfl ?_
      refine wp_ldc2 (v0 := 36028797018963967) d_X10_word_16 cl_X10_310 ?_
      refine wp_lcmp d_X10_word_19 ?_
      refine wp_if_le 27 d_X10_word_20 rfl (fun zc20 => ?_) (fun zc20 => ?_)
      · refine wp_ldc2 (v0 := 32) d_X10_word_27 cl_X10_312 ?_
        refine wp_lload_n 1 d_X10_word_30 rfl rfl ?_
        refine wp_lmul d_X10_word_31 ?_
        refine wp_aload_n 2 d_X10_word_32 rfl rfl ?_
        refine wp_getfield (v := .ref (94)) d_X10_word_33 gf_X10_50 (hp_80 _ _ _ _ _) rfl ?_
        refine wp_iload_n 0 d_X10_word_36 rfl rfl ?_
        refine wp_iaload (v := (m.2.1 94) (i)) d_X10_word_37 (hp_94 _ _ _ _ _) (vp_in_nI (by omega) (by omega)) (congrArg ((m.2.1 94)) (nI_clamp (by omega))) ?_
        refine wp_bipush (v0 := 96) d_X10_word_38 (by decide) ?_
        refine wp_isub d_X10_word_40 ?_
        refine wp_i2l d_X10_word_41 ?_
        refine wp_ladd d_X10_word_42 ?_
        refine wp_lstore_n [(1, .long (((32) * (x)) + (Int32.toInt64 (((m.2.1 94) (i)) - (96))))), (3, .int (nI (i))), (0, .ref (80))] d_X10_word_43 rfl (Nat.le_of_ble_eq_true rfl) rfl ?_
        refine wp_iinc (v0 := nI ((i) + 1)) [(3, .int (nI ((i) + 1))), (1, .long (((32) * (x)) + (Int32.toInt64 (((m.2.1 94) (i)) - (96))))), (0, .ref (80))] 1 d_X10_word_44 rfl (nI_add (i) 1) (Nat.le_of_ble_eq_true rfl) rfl ?_
        refine wp_goto 7 d_X10_word_47 rfl ?_
        obtain ⟨k1, rfl⟩ : ∃ k1, k = k1 + 1 := ⟨k - 1, by omega⟩
        simp only [rwd] at hr
        rw [if_pos (lg_le9.mp zc20)] at hr
        refine wp_sub [(3, .int (nI ((i) + 1))), (1, .long (((32) * (x)) + (Int32.toInt64 (((m.2.1 94) (i)) - (96))))), (0, .ref (80))] [0, 1, 2] rfl ?_
        exact ih k1 (by omega) (i + 1) _ r (by omega) hr
      · refine wp_lload_n 1 d_X10_word_23 rfl rfl ?_
        refine wp_goto 43 d_X10_word_24 rfl ?_
        refine wp_lstore_n [(1, .long (x)), (3, .int (nI (i))), (0, .ref (80))] d_X10_word_43 rfl (Nat.le_of_ble_eq_true rfl) rfl ?_
        refine wp_iinc (v0 := nI ((i) + 1)) [(3, .int (nI ((i) + 1))), (1, .long (x)), (0, .ref (80))] 1 d_X10_word_44 rfl (nI_add (i) 1) (Nat.le_of_ble_eq_true rfl) rfl ?_
        refine wp_goto 7 d_X10_word_47 rfl ?_
        obtain ⟨k1, rfl⟩ : ∃ k1, k = k1 + 1 := ⟨k - 1, by omega⟩
        simp only [rwd] at hr
        rw [if_neg (fun z => zc20 (lg_le9.mpr z))] at hr
        refine wp_sub [(3, .int (nI ((i) + 1))), (1, .long (x)), (0, .ref (80))] [0, 1, 2] rfl ?_
        exact ih k1 (by omega) (i + 1) _ r (by omega) hr
theorem s_X10_word {X : kX} {d : Nat} {c w m v : kZ} {E : kH} {T : Nat} (hT : m.1 8024 = nI T) (hT2 : T ≤ 200) {s1 : Nat → Int32} {q : kRt} {y : kZ} (hx : kMx v q y) (hfr : q.1 ≤ q.2.1) (hto : q.2.1 ≤ T) : WP X (d + 2) 0 0 Y_X10_word 0 [(0, .ref (80))] [] (HP c w (setA m 81 (s1)) y E) (kR (some (.long (rword (m.2.1 94) T q))) (HP c w (setA m 81 (s1)) y E)) := by
  refine wp_lconst (v0 := 0) d_X10_word_0 rfl ?_
  refine wp_lstore_n [(1, .long (0)), (0, .ref (80))] d_X10_word_1 rfl (Nat.le_of_ble_eq_true rfl) rfl ?_
  refine wp_aload_n 1 d_X10_word_2 rfl rfl ?_
  refine wp_getfield (v := .int (nI ((q).1))) d_X10_word_3 gf_X10_291 (hp_80 _ _ _ _ _) (congrArg (fun z => some (Value.int z)) hx.1) ?_
  refine wp_istore_n [(3, .int (nI ((q).1))), (1, .long (0)), (0, .ref (80))] d_X10_word_6 rfl (Nat.le_of_ble_eq_true rfl) rfl ?_
  refine wp_sub [(3, .int (nI ((q).1))), (1, .long (0)), (0, .ref (80))] [0, 1, 2] rfl ?_
  exact s_X10_word_l hT hT2 hx hfr hto (q.2.1 - q.1) q.1 0 _ (by omega) rfl
theorem s_X10_number_l {X : kX} {d : Nat} {c w m v : kZ} {E : kH} {T : Nat} (hT : m.1 8024 = nI T) (hT2 : T ≤ 200) {s1 : Nat → Int32} {q : kRt} (hfr : q.1 ≤ q.2.1) (hto : q.2.1 ≤ T) {hi : Int32} {n : Nat} (hn : n = q.2.1 - q.1) : ∀ (k : Nat) (j : Nat) (y : kZ), (j + k = n) → (kMx v (q.1, q.2.1, q.2.2.1, qnum (m.2.1 94) q.1 j, q.2.2.2.2) y) → WP X (d + 4) 0 0 Y_X10_number 43 [(3, .int (nI (q.1 + j))), (2, .int (1)), (0, .ref (80)), (1, .int (hi))] [] (HP c w (setA m 81 (s1)) y E) (fun r1 h1 => r1 = none ∧ ∃ y1 : kZ, h1 = HP c w (setA m 81 (s1)) y1 E ∧ kMx v (rwant (m.2.1 94) T (decide (qnum (m.2.1 94) q.1 n ≤ hi)) (q.1, q.2.1, q.2.2.1, qnum (m.2.1 94) q.1 n, q.2.2.2.2)) y1) := by
  intro k
  induction k using Nat.strongRecOn with
  | ind k ih =>
    intro j y hj hx
    refine wp_iload_n 0 d_X10_number_43 rfl rfl ?_
    refine wp_aload_n 2 d_X10_number_44 rfl rfl ?_
    refine wp_getfield (v := .int (nI (q.2.1))) d_X10_number_45 gf_X10_288 (hp_80 _ _ _ _ _) (congrArg (fun z => some (Value.int z)) hx.2.1) ?_
    refine wp_ncmp_ge (a := q.1 + j) (b := q.2.1) 82 d_X10_number_48 rfl (by omega) (by omega) (fun zc48 => ?_) (fun zc48 => ?_)
    · obtain rfl : k = 0 := by omega
      obtain rfl : j = n := by omega
      refine wp_aload_n 2 d_X10_number_82 rfl rfl ?_
      refine wp_iload_n 1 d_X10_number_83 rfl rfl ?_
      refine wp_if_eq 99 d_X10_number_84 rfl (fun z => absurd z (by decide)) (fun _ => ?_)
      refine wp_aload_n 2 d_X10_number_87 rfl rfl ?_
      refine wp_getfield (v := .int (qnum (m.2.1 94) q.1 j)) d_X10_number_88 gf_X10_314 (hp_80 _ _ _ _ _) (congrArg (fun z => some (Value.int z)) hx.2.2.2.1) ?_
      refine wp_iload_n 3 d_X10_number_91 rfl rfl ?_
      refine wp_icmp_gt 99 d_X10_number_92 rfl (fun zc92 => ?_) (fun zc92 => ?_)
      · refine wp_iconst (v0 := 0) d_X10_number_99 rfl ?_
        refine wp_virtual0 (As := [.int (0)]) d_X10_number_100 lk_X10_317 mv_X10_wants in_X10_wants se_X10_wants (Nat.le_of_ble_eq_true rfl) (Nat.le_of_ble_eq_true rfl) (hp_80 _ _ _ _ _) rfl (s_X10_wants hT hT2 (q := (q.1, q.2.1, q.2.2.1, qnum (m.2.1 94) q.1 j, q.2.2.2.2)) hx hto false) (fun v100 h100 q100 => ?_)
        obtain ⟨rfl, y1, rfl, hx1⟩ := q100
        show WP _ _ _ _ _ 103 _ [] (HP c w (setA m 81 (s1)) y1 E) _
        refine wp_vret d_X10_number_103 rfl ?_
        refine ⟨rfl, y1, rfl, ?_⟩
        rw [decide_eq_false (show ¬ qnum (m.2.1 94) q.1 j ≤ hi from Int32.not_le.mpr zc92)]
        exact hx1
      · refine wp_iconst (v0 := 1) d_X10_number_95 rfl ?_
        refine wp_goto 100 d_X10_number_96 rfl ?_
        refine wp_virtual0 (As := [.int (1)]) d_X10_number_100 lk_X10_317 mv_X10_wants in_X10_wants se_X10_wants (Nat.le_of_ble_eq_true rfl) (Nat.le_of_ble_eq_true rfl) (hp_80 _ _ _ _ _) rfl (s_X10_wants hT hT2 (q := (q.1, q.2.1, q.2.2.1, qnum (m.2.1 94) q.1 j, q.2.2.2.2)) hx hto true) (fun v100 h100 q100 => ?_)
        obtain ⟨rfl, y1, rfl, hx1⟩ := q100
        show WP _ _ _ _ _ 103 _ [] (HP c w (setA m 81 (s1)) y1 E) _
        refine wp_vret d_X10_number_103 rfl ?_
        refine ⟨rfl, y1, rfl, ?_⟩
        rw [decide_eq_true (show qnum (m.2.1 94) q.1 j ≤ hi from Int32.not_lt.mp zc92)]
        exact hx1
    · refine wp_iload_n 1 d_X10_number_51 rfl rfl ?_
      refine wp_if_eq 82 d_X10_number_52 rfl (fun z => absurd z (by decide)) (fun _ => ?_)
      refine wp_aload_n 2 d_X10_number_55 rfl rfl ?_
      refine wp_bipush (v0 := 10) d_X10_number_56 (by decide) ?_
      refine wp_aload_n 2 d_X10_number_58 rfl rfl ?_
      refine wp_getfield (v := .int (qnum (m.2.1 94) q.1 j)) d_X10_number_59 gf_X10_314 (hp_80 _ _ _ _ _) (congrArg (fun z => some (Value.int z)) hx.2.2.2.1) ?_
      refine wp_imul d_X10_number_62 ?_
      refine wp_aload_n 2 d_X10_number_63 rfl rfl ?_
      refine wp_getfield (v := .ref (94)) d_X10_number_64 gf_X10_50 (hp_80 _ _ _ _ _) rfl ?_
      refine wp_iload_n 0 d_X10_number_67 rfl rfl ?_
      refine wp_iaload (v := (m.2.1 94) (q.1 + j)) d_X10_number_68 (hp_94 _ _ _ _ _) (vp_in_nI (by omega) (by omega)) (congrArg ((m.2.1 94)) (nI_clamp (by omega))) ?_
      refine wp_iadd d_X10_number_69 ?_
      refine wp_bipush (v0 := 48) d_X10_number_70 (by decide) ?_
      refine wp_isub d_X10_number_72 ?_
      refine wp_putfield (h' := HP c w (setA m 81 (s1)) (setS y 8027 ((((10) * (qnum (m.2.1 94) q.1 j)) + ((m.2.1 94) (q.1 + j))) - (48))) E) d_X10_number_73 gp_X10_314 (kfit_i _) (hp_80 _ _ _ _ _) (Nat.le_of_ble_eq_true rfl) (hps_80_27 _ _ _ _ _ _) ?_
      refine wp_iinc (v0 := nI ((q.1 + j) + 1)) [(3, .int (nI ((q.1 + j) + 1))), (2, .int (1)), (0, .ref (80)), (1, .int (hi))] 0 d_X10_number_76 rfl (nI_add (q.1 + j) 1) (Nat.le_of_ble_eq_true rfl) rfl ?_
      refine wp_goto 43 d_X10_number_79 rfl ?_
      obtain ⟨k1, rfl⟩ : ∃ k1, k = k1 + 1 := ⟨k - 1, by omega⟩
      refine wp_sub [(3, .int (nI ((q.1 + j) + 1))), (2, .int (1)), (0, .ref (80)), (1, .int (hi))] [0, 1, 2, 3] rfl ?_
      exact ih k1 (by omega) (j + 1) _ (by omega) (hx.val _)
theorem s_X10_number {X : kX} {d : Nat} {c w m v : kZ} {E : kH} {T : Nat} (hT : m.1 8024 = nI T) (hT2 : T ≤ 200) {s1 : Nat → Int32} {q : kRt} {y : kZ} (hx : kMx v q y) (hfr : q.1 ≤ q.2.1) (hto : q.2.1 ≤ T) (hi : Int32) : WP X (d + 4) 0 0 Y_X10_number 0 [(0, .ref (80)), (1, .int (hi))] [] (HP c w (setA m 81 (s1)) y E) (fun r1 h1 => r1 = none ∧ ∃ y1 : kZ, h1 = HP c w (setA m 81 (s1)) y1 E ∧ kMx v (rnum (m.2.1 94) T hi q) y1) := by
  refine wp_aload_n 0 d_X10_number_0 rfl rfl ?_
  refine wp_aload_n 0 d_X10_number_1 rfl rfl ?_
  refine wp_getfield (v := .int (nI ((q).1))) d_X10_number_2 gf_X10_291 (hp_80 _ _ _ _ _) (congrArg (fun z => some (Value.int z)) hx.1) ?_
  refine wp_vrt_i (As := [.int (nI ((q).1))]) (x0 := qby (m.2.1 94) T ((q).1)) (h1 := HP c w (setA m 81 (s1)) y E) d_X10_number_5 lk_X10_294 mv_X10_byteAt in_X10_byteAt se_X10_byteAt (Nat.le_of_ble_eq_true rfl) (Nat.le_of_ble_eq_true rfl) (hp_80 _ _ _ _ _) rfl (s_X10_byteAt hT hT2 (k := (q).1) (by omega)) ?_
  refine wp_stc_i (As := [.int (qby (m.2.1 94) T ((q).1))]) (x0 := kb (48 ≤ (qby (m.2.1 94) T ((q).1) : Int32).toInt ∧ (qby (m.2.1 94) T ((q).1) : Int32).toInt ≤ 57)) (h1 := HP c w (setA m 81 (s1)) y E) d_X10_number_8 lk_X10_300 mv_X10_isDigit st_X10_isDigit (Nat.le_of_ble_eq_true rfl) (Nat.le_of_ble_eq_true rfl) (s_X10_isDigit _ (qby (m.2.1 94) T ((q).1) : Int32)) ?_
  refine wp_ifb_eq 31 d_X10_number_11 rfl (fun zc11 => ?_) (fun zc11 => ?_)
  · refine wp_iconst (v0 := 0) d_X10_number_31 rfl ?_
    refine wp_istore_n [(2, .int (0)), (0, .ref (80)), (1, .int (hi))] d_X10_number_32 rfl (Nat.le_of_ble_eq_true rfl) rfl ?_
    refine wp_aload_n 1 d_X10_number_33 rfl rfl ?_
    refine wp_iconst (v0 := 0) d_X10_number_34 rfl ?_
    refine wp_putfield (h' := HP c w (setA m 81 (s1)) (setS y 8027 (0)) E) d_X10_number_35 gp_X10_314 (kfit_i _) (hp_80 _ _ _ _ _) (Nat.le_of_ble_eq_true rfl) (hps_80_27 _ _ _ _ _ _) ?_
    refine wp_aload_n 1 d_X10_number_38 rfl rfl ?_
    refine wp_getfield (v := .int (nI ((q).1))) d_X10_number_39 gf_X10_291 (hp_80 _ _ _ _ _) (congrArg (fun z => some (Value.int z)) hx.1) ?_
    refine wp_istore_n [(3, .int (nI ((q).1))), (2, .int (0)), (0, .ref (80)), (1, .int (hi))] d_X10_number_42 rfl (Nat.le_of_ble_eq_true rfl) rfl ?_
    refine wp_iload_n 0 d_X10_number_43 rfl rfl ?_
    refine wp_aload_n 2 d_X10_number_44 rfl rfl ?_
    refine wp_getfield (v := .int (nI ((q).2.1))) d_X10_number_45 gf_X10_288 (hp_80 _ _ _ _ _) (congrArg (fun z => some (Value.int z)) hx.2.1) ?_
    refine wp_ncmp_ge (a := (q).1) (b := (q).2.1) 82 d_X10_number_48 rfl (by omega) (by omega) (fun zc48 => ?_) (fun zc48 => ?_)
    · refine wp_aload_n 2 d_X10_number_82 rfl rfl ?_
      refine wp_iload_n 1 d_X10_number_83 rfl rfl ?_
      refine wp_if_eq 99 d_X10_number_84 rfl (fun _ => ?_) (fun z => absurd z (by decide))
      refine wp_iconst (v0 := 0) d_X10_number_99 rfl ?_
      refine wp_virtual0 (As := [.int (0)]) d_X10_number_100 lk_X10_317 mv_X10_wants in_X10_wants se_X10_wants (Nat.le_of_ble_eq_true rfl) (Nat.le_of_ble_eq_true rfl) (hp_80 _ _ _ _ _) rfl (s_X10_wants hT hT2 (q := (q.1, q.2.1, q.2.2.1, 0, q.2.2.2.2)) (hx.val 0) hto false) (fun v100 h100 q100 => ?_)
      obtain ⟨rfl, y1, rfl, hx1⟩ := q100
      show WP _ _ _ _ _ 103 _ [] (HP c w (setA m 81 (s1)) y1 E) _
      refine wp_vret d_X10_number_103 rfl ?_
      refine ⟨rfl, y1, rfl, ?_⟩
      rw [show rnum (m.2.1 94) T hi q = _ from if_neg (fun z => zc11 z.1)]
      exact hx1
    · refine wp_iload_n 1 d_X10_number_51 rfl rfl ?_
      refine wp_if_eq 82 d_X10_number_52 rfl (fun _ => ?_) (fun z => absurd z (by decide))
      refine wp_aload_n 2 d_X10_number_82 rfl rfl ?_
      refine wp_iload_n 1 d_X10_number_83 rfl rfl ?_
      refine wp_if_eq 99 d_X10_number_84 rfl (fun _ => ?_) (fun z => absurd z (by decide))
      refine wp_iconst (v0 := 0) d_X10_number_99 rfl ?_
      refine wp_virtual0 (As := [.int (0)]) d_X10_number_100 lk_X10_317 mv_X10_wants in_X10_wants se_X10_wants (Nat.le_of_ble_eq_true rfl) (Nat.le_of_ble_eq_true rfl) (hp_80 _ _ _ _ _) rfl (s_X10_wants hT hT2 (q := (q.1, q.2.1, q.2.2.1, 0, q.2.2.2.2)) (hx.val 0) hto false) (fun v100 h100 q100 => ?_)
      obtain ⟨rfl, y1, rfl, hx1⟩ := q100
      show WP _ _ _ _ _ 103 _ [] (HP c w (setA m 81 (s1)) y1 E) _
      refine wp_vret d_X10_number_103 rfl ?_
      refine ⟨rfl, y1, rfl, ?_⟩
      rw [show rnum (m.2.1 94) T hi q = _ from if_neg (fun z => zc11 z.1)]
      exact hx1
  · refine wp_aload_n 0 d_X10_number_14 rfl rfl ?_
    refine wp_getfield (v := .int (nI ((q).2.1))) d_X10_number_15 gf_X10_288 (hp_80 _ _ _ _ _) (congrArg (fun z => some (Value.int z)) hx.2.1) ?_
    refine wp_aload_n 0 d_X10_number_18 rfl rfl ?_
    refine wp_getfield (v := .int (nI ((q).1))) d_X10_number_19 gf_X10_291 (hp_80 _ _ _ _ _) (congrArg (fun z => some (Value.int z)) hx.1) ?_
    refine wp_isub d_X10_number_22 ?_
    refine wp_v (v0 := nI (((q).2.1) - ((q).1))) (pk_sub (a := (q).2.1) (b := (q).1) (by omega)) ?_
    refine wp_iconst (v0 := 5) d_X10_number_23 rfl ?_
    refine wp_ncmp_ge (a := ((q).2.1) - ((q).1)) (b := 5) 31 d_X10_number_24 rfl (by omega) (by omega) (fun zc24 => ?_) (fun zc24 => ?_)
    · refine wp_iconst (v0 := 0) d_X10_number_31 rfl ?_
      refine wp_istore_n [(2, .int (0)), (0, .ref (80)), (1, .int (hi))] d_X10_number_32 rfl (Nat.le_of_ble_eq_true rfl) rfl ?_
      refine wp_aload_n 1 d_X10_number_33 rfl rfl ?_
      refine wp_iconst (v0 := 0) d_X10_number_34 rfl ?_
      refine wp_putfield (h' := HP c w (setA m 81 (s1)) (setS y 8027 (0)) E) d_X10_number_35 gp_X10_314 (kfit_i _) (hp_80 _ _ _ _ _) (Nat.le_of_ble_eq_true rfl) (hps_80_27 _ _ _ _ _ _) ?_
      refine wp_aload_n 1 d_X10_number_38 rfl rfl ?_
      refine wp_getfield (v := .int (nI ((q).1))) d_X10_number_39 gf_X10_291 (hp_80 _ _ _ _ _) (congrArg (fun z => some (Value.int z)) hx.1) ?_
      refine wp_istore_n [(3, .int (nI ((q).1))), (2, .int (0)), (0, .ref (80)), (1, .int (hi))] d_X10_number_42 rfl (Nat.le_of_ble_eq_true rfl) rfl ?_
      refine wp_iload_n 0 d_X10_number_43 rfl rfl ?_
      refine wp_aload_n 2 d_X10_number_44 rfl rfl ?_
      refine wp_getfield (v := .int (nI ((q).2.1))) d_X10_number_45 gf_X10_288 (hp_80 _ _ _ _ _) (congrArg (fun z => some (Value.int z)) hx.2.1) ?_
      refine wp_ncmp_ge (a := (q).1) (b := (q).2.1) 82 d_X10_number_48 rfl (by omega) (by omega) (fun zc48 => ?_) (fun zc48 => ?_)
      · refine wp_aload_n 2 d_X10_number_82 rfl rfl ?_
        refine wp_iload_n 1 d_X10_number_83 rfl rfl ?_
        refine wp_if_eq 99 d_X10_number_84 rfl (fun _ => ?_) (fun z => absurd z (by decide))
        refine wp_iconst (v0 := 0) d_X10_number_99 rfl ?_
        refine wp_virtual0 (As := [.int (0)]) d_X10_number_100 lk_X10_317 mv_X10_wants in_X10_wants se_X10_wants (Nat.le_of_ble_eq_true rfl) (Nat.le_of_ble_eq_true rfl) (hp_80 _ _ _ _ _) rfl (s_X10_wants hT hT2 (q := (q.1, q.2.1, q.2.2.1, 0, q.2.2.2.2)) (hx.val 0) hto false) (fun v100 h100 q100 => ?_)
        obtain ⟨rfl, y1, rfl, hx1⟩ := q100
        show WP _ _ _ _ _ 103 _ [] (HP c w (setA m 81 (s1)) y1 E) _
        refine wp_vret d_X10_number_103 rfl ?_
        refine ⟨rfl, y1, rfl, ?_⟩
        rw [show rnum (m.2.1 94) T hi q = _ from if_neg (fun z => by omega)]
        exact hx1
      · refine wp_iload_n 1 d_X10_number_51 rfl rfl ?_
        refine wp_if_eq 82 d_X10_number_52 rfl (fun _ => ?_) (fun z => absurd z (by decide))
        refine wp_aload_n 2 d_X10_number_82 rfl rfl ?_
        refine wp_iload_n 1 d_X10_number_83 rfl rfl ?_
        refine wp_if_eq 99 d_X10_number_84 rfl (fun _ => ?_) (fun z => absurd z (by decide))
        refine wp_iconst (v0 := 0) d_X10_number_99 rfl ?_
        refine wp_virtual0 (As := [.int (0)]) d_X10_number_100 lk_X10_317 mv_X10_wants in_X10_wants se_X10_wants (Nat.le_of_ble_eq_true rfl) (Nat.le_of_ble_eq_true rfl) (hp_80 _ _ _ _ _) rfl (s_X10_wants hT hT2 (q := (q.1, q.2.1, q.2.2.1, 0, q.2.2.2.2)) (hx.val 0) hto false) (fun v100 h100 q100 => ?_)
        obtain ⟨rfl, y1, rfl, hx1⟩ := q100
        show WP _ _ _ _ _ 103 _ [] (HP c w (setA m 81 (s1)) y1 E) _
        refine wp_vret d_X10_number_103 rfl ?_
        refine ⟨rfl, y1, rfl, ?_⟩
        rw [show rnum (m.2.1 94) T hi q = _ from if_neg (fun z => by omega)]
        exact hx1
    · refine wp_iconst (v0 := 1) d_X10_number_27 rfl ?_
      refine wp_goto 32 d_X10_number_28 rfl ?_
      refine wp_istore_n [(2, .int (1)), (0, .ref (80)), (1, .int (hi))] d_X10_number_32 rfl (Nat.le_of_ble_eq_true rfl) rfl ?_
      refine wp_aload_n 1 d_X10_number_33 rfl rfl ?_
      refine wp_iconst (v0 := 0) d_X10_number_34 rfl ?_
      refine wp_putfield (h' := HP c w (setA m 81 (s1)) (setS y 8027 (0)) E) d_X10_number_35 gp_X10_314 (kfit_i _) (hp_80 _ _ _ _ _) (Nat.le_of_ble_eq_true rfl) (hps_80_27 _ _ _ _ _ _) ?_
      refine wp_aload_n 1 d_X10_number_38 rfl rfl ?_
      refine wp_getfield (v := .int (nI ((q).1))) d_X10_number_39 gf_X10_291 (hp_80 _ _ _ _ _) (congrArg (fun z => some (Value.int z)) hx.1) ?_
      refine wp_istore_n [(3, .int (nI ((q).1))), (2, .int (1)), (0, .ref (80)), (1, .int (hi))] d_X10_number_42 rfl (Nat.le_of_ble_eq_true rfl) rfl ?_
      rw [show rnum (m.2.1 94) T hi q = _ from if_pos ⟨zc11, by omega⟩]
      refine wp_sub [(3, .int (nI ((q).1))), (2, .int (1)), (0, .ref (80)), (1, .int (hi))] [0, 1, 2, 3] rfl ?_
      exact s_X10_number_l hT hT2 hfr hto rfl (q.2.1 - q.1) 0 _ (by omega) (hx.val 0)
