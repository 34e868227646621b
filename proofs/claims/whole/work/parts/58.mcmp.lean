/-! ===== reference: a comparison ===== -/
def rcb (t : Nat → Int32) (T : Nat) (q : kRt) : Int32 := if q.2.2.1 = true then -1 else qby t T q.1
def rcw (x : Int32) : Bool := decide (x = 60 ∨ x = 61 ∨ x = 62)
def rco (x : Int32) : Int32 := if x = 60 then -11 else if x = 61 then -12 else -13
def rcmp (t : Nat → Int32) (T : Nat) (q : kRt) : kRt := rwri (rco (rcb t T (rvh t T q))) (rvh t T (rwant t T (rcw (rcb t T (rvh t T q))) (rvh t T q)))
theorem rcb_lt {t : Nat → Int32} {T : Nat} {q : kRt} (h : rcb t T q ≠ -1) : q.1 < T := by
  unfold rcb at h
  split at h
  · exact absurd rfl h
  · exact qby_lt (t := t) h
theorem kRJ.cmp {t : Nat → Int32} {T : Nat} {a : Int} {q : kRt} (h : kRJ T a q) : kRJ T a (rcmp t T q) := by
  refine kRJ.wri (kRJ.vh (kRJ.want (fun e => rcb_lt (t := t) (fun z => ?_)) h.vh))
  rw [z] at e
  revert e
  decide
theorem s_X10_comparison {X : kX} {d : Nat} {c w m v : kZ} {E : kH} {T : Nat} (hT : m.1 8024 = nI T) (hT2 : T ≤ 200) {q : kRt} {y : kZ} (hx : kMx v q y) {a : Int} (ha : 0 ≤ a) (hj : kRJ T a q) : WP X (d + 6) 0 0 Y_X10_comparison 0 [(0, .ref (80))] [] (HP c w (setA m 81 ((q).2.2.2.2.2.2)) y E) (fun r1 h1 => r1 = none ∧ ∃ y1 : kZ, h1 = HP c w (setA m 81 ((rcmp (m.2.1 94) T q).2.2.2.2.2.2)) y1 E ∧ kMx v (rcmp (m.2.1 94) T q) y1) := by
  refine wp_aload_n 0 d_X10_comparison_0 rfl rfl ?_
  refine wp_virtual0 (As := []) d_X10_comparison_1 lk_X10_359 mv_X10_valueHere in_X10_valueHere se_X10_valueHere (Nat.le_of_ble_eq_true rfl) (Nat.le_of_ble_eq_true rfl) (hp_80 _ _ _ _ _) rfl (s_X10_valueHere hT hT2 hx (by omega) hj) (fun v1 h1 q1 => ?_)
  obtain ⟨rfl, y1, rfl, hx1⟩ := q1
  have hj1 := hj.vh (t := (m.2.1 94))
  show WP _ _ _ _ _ 4 _ [] (HP c w (setA m 81 ((rvh (m.2.1 94) T (q)).2.2.2.2.2.2)) y1 E) _
  refine wp_aload_n 0 d_X10_comparison_4 rfl rfl ?_
  refine wp_getfield (v := .int (kb ((rvh (m.2.1 94) T (q)).2.2.1 = true))) d_X10_comparison_5 gf_X10_303 (hp_80 _ _ _ _ _) (congrArg (fun z => some (Value.int z)) hx1.2.2.1) ?_
  refine wp_ifb_eq 15 d_X10_comparison_8 rfl (fun zc8 => ?_) (fun zc8 => ?_)
  · refine wp_aload_n 0 d_X10_comparison_15 rfl rfl ?_
    refine wp_aload_n 0 d_X10_comparison_16 rfl rfl ?_
    refine wp_getfield (v := .int (nI ((rvh (m.2.1 94) T (q)).1))) d_X10_comparison_17 gf_X10_291 (hp_80 _ _ _ _ _) (congrArg (fun z => some (Value.int z)) hx1.1) ?_
    refine wp_vrt_i (As := [.int (nI ((rvh (m.2.1 94) T (q)).1))]) (x0 := qby (m.2.1 94) T ((rvh (m.2.1 94) T (q)).1)) (h1 := HP c w (setA m 81 ((rvh (m.2.1 94) T (q)).2.2.2.2.2.2)) y1 E) d_X10_comparison_20 lk_X10_294 mv_X10_byteAt in_X10_byteAt se_X10_byteAt (Nat.le_of_ble_eq_true rfl) (Nat.le_of_ble_eq_true rfl) (hp_80 _ _ _ _ _) rfl (s_X10_byteAt hT hT2 (k := (rvh (m.2.1 94) T (q)).1) (Nat.le_trans hj1.1 (Nat.le_trans hj1.2.1 hT2))) ?_
    have hb9 : rcb (m.2.1 94) T (rvh (m.2.1 94) T (q)) = qby (m.2.1 94) T ((rvh (m.2.1 94) T (q)).1) := if_neg zc8
    refine wp_istore_n [(1, .int (qby (m.2.1 94) T ((rvh (m.2.1 94) T (q)).1))), (0, .ref (80))] d_X10_comparison_23 rfl (Nat.le_of_ble_eq_true rfl) rfl ?_
    refine wp_aload_n 1 d_X10_comparison_24 rfl rfl ?_
    refine wp_iload_n 0 d_X10_comparison_25 rfl rfl ?_
    refine wp_bipush (v0 := 60) d_X10_comparison_26 (by decide) ?_
    refine wp_icmp_eq 43 d_X10_comparison_28 rfl (fun zc28 => ?_) (fun zc28 => ?_)
    · have hsg : qby (m.2.1 94) T ((rvh (m.2.1 94) T (q)).1) = 60 ∨ qby (m.2.1 94) T ((rvh (m.2.1 94) T (q)).1) = 61 ∨ qby (m.2.1 94) T ((rvh (m.2.1 94) T (q)).1) = 62 := Or.inl zc28
      have hw9 : rcw (qby (m.2.1 94) T ((rvh (m.2.1 94) T (q)).1)) = true := decide_eq_true hsg
      refine wp_iconst (v0 := 1) d_X10_comparison_43 rfl ?_
      refine wp_goto 48 d_X10_comparison_44 rfl ?_
      refine wp_virtual0 (As := [.int (1)]) d_X10_comparison_48 lk_X10_317 mv_X10_wants in_X10_wants se_X10_wants (Nat.le_of_ble_eq_true rfl) (Nat.le_of_ble_eq_true rfl) (hp_80 _ _ _ _ _) rfl (s_X10_wantsS hT hT2 hx1 hj1.2.1 (true)) (fun v48 h48 q48 => ?_)
      obtain ⟨rfl, y48, rfl, hx48⟩ := q48
      have hj48 := hj1.want (t := (m.2.1 94)) (b := true) (fun _ => qby_lt (t := (m.2.1 94)) (fun e => by rw [e] at hsg; revert hsg; decide))
      show WP _ _ _ _ _ 51 _ [] (HP c w (setA m 81 ((rwant (m.2.1 94) T (true) (rvh (m.2.1 94) T (q))).2.2.2.2.2.2)) y48 E) _
      refine wp_aload_n 1 d_X10_comparison_51 rfl rfl ?_
      refine wp_virtual0 (As := []) d_X10_comparison_52 lk_X10_359 mv_X10_valueHere in_X10_valueHere se_X10_valueHere (Nat.le_of_ble_eq_true rfl) (Nat.le_of_ble_eq_true rfl) (hp_80 _ _ _ _ _) rfl (s_X10_valueHere hT hT2 hx48 (by omega) hj48) (fun v52 h52 q52 => ?_)
      obtain ⟨rfl, y52, rfl, hx52⟩ := q52
      have hj52 := hj48.vh (t := (m.2.1 94))
      show WP _ _ _ _ _ 55 _ [] (HP c w (setA m 81 ((rvh (m.2.1 94) T (rwant (m.2.1 94) T (true) (rvh (m.2.1 94) T (q)))).2.2.2.2.2.2)) y52 E) _
      refine wp_aload_n 1 d_X10_comparison_55 rfl rfl ?_
      refine wp_iload_n 0 d_X10_comparison_56 rfl rfl ?_
      refine wp_bipush (v0 := 60) d_X10_comparison_57 (by decide) ?_
      refine wp_icmp_ne 67 d_X10_comparison_59 rfl (fun zc59 => ?_) (fun zc59 => ?_)
      · refine wp_iload_n 0 d_X10_comparison_67 rfl rfl ?_
        refine wp_bipush (v0 := 61) d_X10_comparison_68 (by decide) ?_
        refine wp_icmp_ne 78 d_X10_comparison_70 rfl (fun zc70 => ?_) (fun zc70 => ?_)
        · refine wp_bipush (v0 := -13) d_X10_comparison_78 (by decide) ?_
          refine wp_virtual0 (As := [.int ((-13))]) d_X10_comparison_80 lk_X10_353 mv_X10_writes in_X10_writes se_X10_writes (Nat.le_of_ble_eq_true rfl) (Nat.le_of_ble_eq_true rfl) (hp_80 _ _ _ _ _) rfl (s_X10_writes hx52 (hj52.cb hT2 (by omega)) ((-13))) (fun v80 h80 q80 => ?_)
          obtain ⟨rfl, y80, rfl, hx80⟩ := q80
          have hj80 := hj52.wri (x := (-13))
          show WP _ _ _ _ _ 83 _ [] (HP c w (setA m 81 ((rwri ((-13)) (rvh (m.2.1 94) T (rwant (m.2.1 94) T (true) (rvh (m.2.1 94) T (q))))).2.2.2.2.2.2)) y80 E) _
          refine wp_vret d_X10_comparison_83 rfl ?_
          have hq9 : rcmp (m.2.1 94) T q = rwri ((-13)) (rvh (m.2.1 94) T (rwant (m.2.1 94) T (true) (rvh (m.2.1 94) T (q)))) := by
            unfold rcmp
            rw [hb9, hw9]
            exact congrArg (fun z => rwri z _) (show rco _ = _ from by first | (unfold rco; rw [if_neg zc59, if_neg zc70]; done) | decide)
          exact ⟨rfl, y80, by rw [hq9], by rw [hq9]; exact hx80⟩
        · refine wp_bipush (v0 := -12) d_X10_comparison_73 (by decide) ?_
          refine wp_goto 80 d_X10_comparison_75 rfl ?_
          refine wp_virtual0 (As := [.int ((-12))]) d_X10_comparison_80 lk_X10_353 mv_X10_writes in_X10_writes se_X10_writes (Nat.le_of_ble_eq_true rfl) (Nat.le_of_ble_eq_true rfl) (hp_80 _ _ _ _ _) rfl (s_X10_writes hx52 (hj52.cb hT2 (by omega)) ((-12))) (fun v80 h80 q80 => ?_)
          obtain ⟨rfl, y80, rfl, hx80⟩ := q80
          have hj80 := hj52.wri (x := (-12))
          show WP _ _ _ _ _ 83 _ [] (HP c w (setA m 81 ((rwri ((-12)) (rvh (m.2.1 94) T (rwant (m.2.1 94) T (true) (rvh (m.2.1 94) T (q))))).2.2.2.2.2.2)) y80 E) _
          refine wp_vret d_X10_comparison_83 rfl ?_
          have hq9 : rcmp (m.2.1 94) T q = rwri ((-12)) (rvh (m.2.1 94) T (rwant (m.2.1 94) T (true) (rvh (m.2.1 94) T (q)))) := by
            unfold rcmp
            rw [hb9, hw9]
            exact congrArg (fun z => rwri z _) (show rco _ = _ from by unfold rco; rw [if_neg zc59, if_pos zc70])
          exact ⟨rfl, y80, by rw [hq9], by rw [hq9]; exact hx80⟩
      · refine wp_bipush (v0 := -11) d_X10_comparison_62 (by decide) ?_
        refine wp_goto 80 d_X10_comparison_64 rfl ?_
        refine wp_virtual0 (As := [.int ((-11))]) d_X10_comparison_80 lk_X10_353 mv_X10_writes in_X10_writes se_X10_writes (Nat.le_of_ble_eq_true rfl) (Nat.le_of_ble_eq_true rfl) (hp_80 _ _ _ _ _) rfl (s_X10_writes hx52 (hj52.cb hT2 (by omega)) ((-11))) (fun v80 h80 q80 => ?_)
        obtain ⟨rfl, y80, rfl, hx80⟩ := q80
        have hj80 := hj52.wri (x := (-11))
        show WP _ _ _ _ _ 83 _ [] (HP c w (setA m 81 ((rwri ((-11)) (rvh (m.2.1 94) T (rwant (m.2.1 94) T (true) (rvh (m.2.1 94) T (q))))).2.2.2.2.2.2)) y80 E) _
        refine wp_vret d_X10_comparison_83 rfl ?_
        have hq9 : rcmp (m.2.1 94) T q = rwri ((-11)) (rvh (m.2.1 94) T (rwant (m.2.1 94) T (true) (rvh (m.2.1 94) T (q)))) := by
          unfold rcmp
          rw [hb9, hw9]
          exact congrArg (fun z => rwri z _) (show rco _ = _ from if_pos zc59)
        exact ⟨rfl, y80, by rw [hq9], by rw [hq9]; exact hx80⟩
    · refine wp_iload_n 0 d_X10_comparison_31 rfl rfl ?_
      refine wp_bipush (v0 := 61) d_X10_comparison_32 (by decide) ?_
      refine wp_icmp_eq 43 d_X10_comparison_34 rfl (fun zc34 => ?_) (fun zc34 => ?_)
      · have hsg : qby (m.2.1 94) T ((rvh (m.2.1 94) T (q)).1) = 60 ∨ qby (m.2.1 94) T ((rvh (m.2.1 94) T (q)).1) = 61 ∨ qby (m.2.1 94) T ((rvh (m.2.1 94) T (q)).1) = 62 := Or.inr (Or.inl zc34)
        have hw9 : rcw (qby (m.2.1 94) T ((rvh (m.2.1 94) T (q)).1)) = true := decide_eq_true hsg
        refine wp_iconst (v0 := 1) d_X10_comparison_43 rfl ?_
        refine wp_goto 48 d_X10_comparison_44 rfl ?_
        refine wp_virtual0 (As := [.int (1)]) d_X10_comparison_48 lk_X10_317 mv_X10_wants in_X10_wants se_X10_wants (Nat.le_of_ble_eq_true rfl) (Nat.le_of_ble_eq_true rfl) (hp_80 _ _ _ _ _) rfl (s_X10_wantsS hT hT2 hx1 hj1.2.1 (true)) (fun v48 h48 q48 => ?_)
        obtain ⟨rfl, y48, rfl, hx48⟩ := q48
        have hj48 := hj1.want (t := (m.2.1 94)) (b := true) (fun _ => qby_lt (t := (m.2.1 94)) (fun e => by rw [e] at hsg; revert hsg; decide))
        show WP _ _ _ _ _ 51 _ [] (HP c w (setA m 81 ((rwant (m.2.1 94) T (true) (rvh (m.2.1 94) T (q))).2.2.2.2.2.2)) y48 E) _
        refine wp_aload_n 1 d_X10_comparison_51 rfl rfl ?_
        refine wp_virtual0 (As := []) d_X10_comparison_52 lk_X10_359 mv_X10_valueHere in_X10_valueHere se_X10_valueHere (Nat.le_of_ble_eq_true rfl) (Nat.le_of_ble_eq_true rfl) (hp_80 _ _ _ _ _) rfl (s_X10_valueHere hT hT2 hx48 (by omega) hj48) (fun v52 h52 q52 => ?_)
        obtain ⟨rfl, y52, rfl, hx52⟩ := q52
        have hj52 := hj48.vh (t := (m.2.1 94))
        show WP _ _ _ _ _ 55 _ [] (HP c w (setA m 81 ((rvh (m.2.1 94) T (rwant (m.2.1 94) T (true) (rvh (m.2.1 94) T (q)))).2.2.2.2.2.2)) y52 E) _
        refine wp_aload_n 1 d_X10_comparison_55 rfl rfl ?_
        refine wp_iload_n 0 d_X10_comparison_56 rfl rfl ?_
        refine wp_bipush (v0 := 60) d_X10_comparison_57 (by decide) ?_
        refine wp_icmp_ne 67 d_X10_comparison_59 rfl (fun zc59 => ?_) (fun zc59 => ?_)
        · refine wp_iload_n 0 d_X10_comparison_67 rfl rfl ?_
          refine wp_bipush (v0 := 61) d_X10_comparison_68 (by decide) ?_
          refine wp_icmp_ne 78 d_X10_comparison_70 rfl (fun zc70 => ?_) (fun zc70 => ?_)
          · refine wp_bipush (v0 := -13) d_X10_comparison_78 (by decide) ?_
            refine wp_virtual0 (As := [.int ((-13))]) d_X10_comparison_80 lk_X10_353 mv_X10_writes in_X10_writes se_X10_writes (Nat.le_of_ble_eq_true rfl) (Nat.le_of_ble_eq_true rfl) (hp_80 _ _ _ _ _) rfl (s_X10_writes hx52 (hj52.cb hT2 (by omega)) ((-13))) (fun v80 h80 q80 => ?_)
            obtain ⟨rfl, y80, rfl, hx80⟩ := q80
            have hj80 := hj52.wri (x := (-13))
            show WP _ _ _ _ _ 83 _ [] (HP c w (setA m 81 ((rwri ((-13)) (rvh (m.2.1 94) T (rwant (m.2.1 94) T (true) (rvh (m.2.1 94) T (q))))).2.2.2.2.2.2)) y80 E) _
            refine wp_vret d_X10_comparison_83 rfl ?_
            have hq9 : rcmp (m.2.1 94) T q = rwri ((-13)) (rvh (m.2.1 94) T (rwant (m.2.1 94) T (true) (rvh (m.2.1 94) T (q)))) := by
              unfold rcmp
              rw [hb9, hw9]
              exact congrArg (fun z => rwri z _) (show rco _ = _ from by first | (unfold rco; rw [if_neg zc59, if_neg zc70]; done) | decide)
            exact ⟨rfl, y80, by rw [hq9], by rw [hq9]; exact hx80⟩
          · refine wp_bipush (v0 := -12) d_X10_comparison_73 (by decide) ?_
            refine wp_goto 80 d_X10_comparison_75 rfl ?_
            refine wp_virtual0 (As := [.int ((-12))]) d_X10_comparison_80 lk_X10_353 mv_X10_writes in_X10_writes se_X10_writes (Nat.le_of_ble_eq_true rfl) (Nat.le_of_ble_eq_true rfl) (hp_80 _ _ _ _ _) rfl (s_X10_writes hx52 (hj52.cb hT2 (by omega)) ((-12))) (fun v80 h80 q80 => ?_)
            obtain ⟨rfl, y80, rfl, hx80⟩ := q80
            have hj80 := hj52.wri (x := (-12))
            show WP _ _ _ _ _ 83 _ [] (HP c w (setA m 81 ((rwri ((-12)) (rvh (m.2.1 94) T (rwant (m.2.1 94) T (true) (rvh (m.2.1 94) T (q))))).2.2.2.2.2.2)) y80 E) _
            refine wp_vret d_X10_comparison_83 rfl ?_
            have hq9 : rcmp (m.2.1 94) T q = rwri ((-12)) (rvh (m.2.1 94) T (rwant (m.2.1 94) T (true) (rvh (m.2.1 94) T (q)))) := by
              unfold rcmp
              rw [hb9, hw9]
              exact congrArg (fun z => rwri z _) (show rco _ = _ from by unfold rco; rw [if_neg zc59, if_pos zc70])
            exact ⟨rfl, y80, by rw [hq9], by rw [hq9]; exact hx80⟩
        · refine wp_bipush (v0 := -11) d_X10_comparison_62 (by decide) ?_
          refine wp_goto 80 d_X10_comparison_64 rfl ?_
          refine wp_virtual0 (As := [.int ((-11))]) d_X10_comparison_80 lk_X10_353 mv_X10_writes in_X10_writes se_X10_writes (Nat.le_of_ble_eq_true rfl) (Nat.le_of_ble_eq_true rfl) (hp_80 _ _ _ _ _) rfl (s_X10_writes hx52 (hj52.cb hT2 (by omega)) ((-11))) (fun v80 h80 q80 => ?_)
          obtain ⟨rfl, y80, rfl, hx80⟩ := q80
          have hj80 := hj52.wri (x := (-11))
          show WP _ _ _ _ _ 83 _ [] (HP c w (setA m 81 ((rwri ((-11)) (rvh (m.2.1 94) T (rwant (m.2.1 94) T (true) (rvh (m.2.1 94) T (q))))).2.2.2.2.2.2)) y80 E) _
          refine wp_vret d_X10_comparison_83 rfl ?_
          have hq9 : rcmp (m.2.1 94) T q = rwri ((-11)) (rvh (m.2.1 94) T (rwant (m.2.1 94) T (true) (rvh (m.2.1 94) T (q)))) := by
            unfold rcmp
            rw [hb9, hw9]
            exact congrArg (fun z => rwri z _) (show rco _ = _ from if_pos zc59)
          exact ⟨rfl, y80, by rw [hq9], by rw [hq9]; exact hx80⟩
      · refine wp_iload_n 0 d_X10_comparison_37 rfl rfl ?_
        refine wp_bipush (v0 := 62) d_X10_comparison_38 (by decide) ?_
        refine wp_icmp_ne 47 d_X10_comparison_40 rfl (fun zc40 => ?_) (fun zc40 => ?_)
        · have hw9 : rcw (qby (m.2.1 94) T ((rvh (m.2.1 94) T (q)).1)) = false := decide_eq_false (fun z => z.elim (fun z => zc28 z) (fun z => z.elim (fun z => zc34 z) (fun z => zc40 z)))
          refine wp_iconst (v0 := 0) d_X10_comparison_47 rfl ?_
          refine wp_virtual0 (As := [.int (0)]) d_X10_comparison_48 lk_X10_317 mv_X10_wants in_X10_wants se_X10_wants (Nat.le_of_ble_eq_true rfl) (Nat.le_of_ble_eq_true rfl) (hp_80 _ _ _ _ _) rfl (s_X10_wantsS hT hT2 hx1 hj1.2.1 (false)) (fun v48 h48 q48 => ?_)
          obtain ⟨rfl, y48, rfl, hx48⟩ := q48
          have hj48 := hj1.want (t := (m.2.1 94)) (b := false) (fun e => by cases e)
          show WP _ _ _ _ _ 51 _ [] (HP c w (setA m 81 ((rwant (m.2.1 94) T (false) (rvh (m.2.1 94) T (q))).2.2.2.2.2.2)) y48 E) _
          refine wp_aload_n 1 d_X10_comparison_51 rfl rfl ?_
          refine wp_virtual0 (As := []) d_X10_comparison_52 lk_X10_359 mv_X10_valueHere in_X10_valueHere se_X10_valueHere (Nat.le_of_ble_eq_true rfl) (Nat.le_of_ble_eq_true rfl) (hp_80 _ _ _ _ _) rfl (s_X10_valueHere hT hT2 hx48 (by omega) hj48) (fun v52 h52 q52 => ?_)
          obtain ⟨rfl, y52, rfl, hx52⟩ := q52
          have hj52 := hj48.vh (t := (m.2.1 94))
          show WP _ _ _ _ _ 55 _ [] (HP c w (setA m 81 ((rvh (m.2.1 94) T (rwant (m.2.1 94) T (false) (rvh (m.2.1 94) T (q)))).2.2.2.2.2.2)) y52 E) _
          refine wp_aload_n 1 d_X10_comparison_55 rfl rfl ?_
          refine wp_iload_n 0 d_X10_comparison_56 rfl rfl ?_
          refine wp_bipush (v0 := 60) d_X10_comparison_57 (by decide) ?_
          refine wp_icmp_ne 67 d_X10_comparison_59 rfl (fun zc59 => ?_) (fun zc59 => ?_)
          · refine wp_iload_n 0 d_X10_comparison_67 rfl rfl ?_
            refine wp_bipush (v0 := 61) d_X10_comparison_68 (by decide) ?_
            refine wp_icmp_ne 78 d_X10_comparison_70 rfl (fun zc70 => ?_) (fun zc70 => ?_)
            · refine wp_bipush (v0 := -13) d_X10_comparison_78 (by decide) ?_
              refine wp_virtual0 (As := [.int ((-13))]) d_X10_comparison_80 lk_X10_353 mv_X10_writes in_X10_writes se_X10_writes (Nat.le_of_ble_eq_true rfl) (Nat.le_of_ble_eq_true rfl) (hp_80 _ _ _ _ _) rfl (s_X10_writes hx52 (hj52.cb hT2 (by omega)) ((-13))) (fun v80 h80 q80 => ?_)
              obtain ⟨rfl, y80, rfl, hx80⟩ := q80
              have hj80 := hj52.wri (x := (-13))
              show WP _ _ _ _ _ 83 _ [] (HP c w (setA m 81 ((rwri ((-13)) (rvh (m.2.1 94) T (rwant (m.2.1 94) T (false) (rvh (m.2.1 94) T (q))))).2.2.2.2.2.2)) y80 E) _
              refine wp_vret d_X10_comparison_83 rfl ?_
              have hq9 : rcmp (m.2.1 94) T q = rwri ((-13)) (rvh (m.2.1 94) T (rwant (m.2.1 94) T (false) (rvh (m.2.1 94) T (q)))) := by
                unfold rcmp
                rw [hb9, hw9]
                exact congrArg (fun z => rwri z _) (show rco _ = _ from by first | (unfold rco; rw [if_neg zc59, if_neg zc70]; done) | decide)
              exact ⟨rfl, y80, by rw [hq9], by rw [hq9]; exact hx80⟩
            · refine wp_bipush (v0 := -12) d_X10_comparison_73 (by decide) ?_
              refine wp_goto 80 d_X10_comparison_75 rfl ?_
              refine wp_virtual0 (As := [.int ((-12))]) d_X10_comparison_80 lk_X10_353 mv_X10_writes in_X10_writes se_X10_writes (Nat.le_of_ble_eq_true rfl) (Nat.le_of_ble_eq_true rfl) (hp_80 _ _ _ _ _) rfl (s_X10_writes hx52 (hj52.cb hT2 (by omega)) ((-12))) (fun v80 h80 q80 => ?_)
              obtain ⟨rfl, y80, rfl, hx80⟩ := q80
              have hj80 := hj52.wri (x := (-12))
              show WP _ _ _ _ _ 83 _ [] (HP c w (setA m 81 ((rwri ((-12)) (rvh (m.2.1 94) T (rwant (m.2.1 94) T (false) (rvh (m.2.1 94) T (q))))).2.2.2.2.2.2)) y80 E) _
              refine wp_vret d_X10_comparison_83 rfl ?_
              have hq9 : rcmp (m.2.1 94) T q = rwri ((-12)) (rvh (m.2.1 94) T (rwant (m.2.1 94) T (false) (rvh (m.2.1 94) T (q)))) := by
                unfold rcmp
                rw [hb9, hw9]
                exact congrArg (fun z => rwri z _) (show rco _ = _ from by unfold rco; rw [if_neg zc59, if_pos zc70])
              exact ⟨rfl, y80, by rw [hq9], by rw [hq9]; exact hx80⟩
          · refine wp_bipush (v0 := -11) d_X10_comparison_62 (by decide) ?_
            refine wp_goto 80 d_X10_comparison_64 rfl ?_
            refine wp_virtual0 (As := [.int ((-11))]) d_X10_comparison_80 lk_X10_353 mv_X10_writes in_X10_writes se_X10_writes (Nat.le_of_ble_eq_true rfl) (Nat.le_of_ble_eq_true rfl) (hp_80 _ _ _ _ _) rfl (s_X10_writes hx52 (hj52.cb hT2 (by omega)) ((-11))) (fun v80 h80 q80 => ?_)
            obtain ⟨rfl, y80, rfl, hx80⟩ := q80
            have hj80 := hj52.wri (x := (-11))
            show WP _ _ _ _ _ 83 _ [] (HP c w (setA m 81 ((rwri ((-11)) (rvh (m.2.1 94) T (rwant (m.2.1 94) T (false) (rvh (m.2.1 94) T (q))))).2.2.2.2.2.2)) y80 E) _
            refine wp_vret d_X10_comparison_83 rfl ?_
            have hq9 : rcmp (m.2.1 94) T q = rwri ((-11)) (rvh (m.2.1 94) T (rwant (m.2.1 94) T (false) (rvh (m.2.1 94) T (q)))) := by
              unfold rcmp
              rw [hb9, hw9]
              exact congrArg (fun z => rwri z _) (show rco _ = _ from if_pos zc59)
            exact ⟨rfl, y80, by rw [hq9], by rw [hq9]; exact hx80⟩
        · have hsg : qby (m.2.1 94) T ((rvh (m.2.1 94) T (q)).1) = 60 ∨ qby (m.2.1 94) T ((rvh (m.2.1 94) T (q)).1) = 61 ∨ qby (m.2.1 94) T ((rvh (m.2.1 94) T (q)).1) = 62 := Or.inr (Or.inr zc40)
          have hw9 : rcw (qby (m.2.1 94) T ((rvh (m.2.1 94) T (q)).1)) = true := decide_eq_true hsg
          refine wp_iconst (v0 := 1) d_X10_comparison_43 rfl ?_
          refine wp_goto 48 d_X10_comparison_44 rfl ?_
          refine wp_virtual0 (As := [.int (1)]) d_X10_comparison_48 lk_X10_317 mv_X10_wants in_X10_wants se_X10_wants (Nat.le_of_ble_eq_true rfl) (Nat.le_of_ble_eq_true rfl) (hp_80 _ _ _ _ _) rfl (s_X10_wantsS hT hT2 hx1 hj1.2.1 (true)) (fun v48 h48 q48 => ?_)
          obtain ⟨rfl, y48, rfl, hx48⟩ := q48
          have hj48 := hj1.want (t := (m.2.1 94)) (b := true) (fun _ => qby_lt (t := (m.2.1 94)) (fun e => by rw [e] at hsg; revert hsg; decide))
          show WP _ _ _ _ _ 51 _ [] (HP c w (setA m 81 ((rwant (m.2.1 94) T (true) (rvh (m.2.1 94) T (q))).2.2.2.2.2.2)) y48 E) _
          refine wp_aload_n 1 d_X10_comparison_51 rfl rfl ?_
          refine wp_virtual0 (As := []) d_X10_comparison_52 lk_X10_359 mv_X10_valueHere in_X10_valueHere se_X10_valueHere (Nat.le_of_ble_eq_true rfl) (Nat.le_of_ble_eq_true rfl) (hp_80 _ _ _ _ _) rfl (s_X10_valueHere hT hT2 hx48 (by omega) hj48) (fun v52 h52 q52 => ?_)
          obtain ⟨rfl, y52, rfl, hx52⟩ := q52
          have hj52 := hj48.vh (t := (m.2.1 94))
          show WP _ _ _ _ _ 55 _ [] (HP c w (setA m 81 ((rvh (m.2.1 94) T (rwant (m.2.1 94) T (true) (rvh (m.2.1 94) T (q)))).2.2.2.2.2.2)) y52 E) _
          refine wp_aload_n 1 d_X10_comparison_55 rfl rfl ?_
          refine wp_iload_n 0 d_X10_comparison_56 rfl rfl ?_
          refine wp_bipush (v0 := 60) d_X10_comparison_57 (by decide) ?_
          refine wp_icmp_ne 67 d_X10_comparison_59 rfl (fun zc59 => ?_) (fun zc59 => ?_)
          · refine wp_iload_n 0 d_X10_comparison_67 rfl rfl ?_
            refine wp_bipush (v0 := 61) d_X10_comparison_68 (by decide) ?_
            refine wp_icmp_ne 78 d_X10_comparison_70 rfl (fun zc70 => ?_) (fun zc70 => ?_)
            · refine wp_bipush (v0 := -13) d_X10_comparison_78 (by decide) ?_
              refine wp_virtual0 (As := [.int ((-13))]) d_X10_comparison_80 lk_X10_353 mv_X10_writes in_X10_writes se_X10_writes (Nat.le_of_ble_eq_true rfl) (Nat.le_of_ble_eq_true rfl) (hp_80 _ _ _ _ _) rfl (s_X10_writes hx52 (hj52.cb hT2 (by omega)) ((-13))) (fun v80 h80 q80 => ?_)
              obtain ⟨rfl, y80, rfl, hx80⟩ := q80
              have hj80 := hj52.wri (x := (-13))
              show WP _ _ _ _ _ 83 _ [] (HP c w (setA m 81 ((rwri ((-13)) (rvh (m.2.1 94) T (rwant (m.2.1 94) T (true) (rvh (m.2.1 94) T (q))))).2.2.2.2.2.2)) y80 E) _
              refine wp_vret d_X10_comparison_83 rfl ?_
              have hq9 : rcmp (m.2.1 94) T q = rwri ((-13)) (rvh (m.2.1 94) T (rwant (m.2.1 94) T (true) (rvh (m.2.1 94) T (q)))) := by
                unfold rcmp
                rw [hb9, hw9]
                exact congrArg (fun z => rwri z _) (show rco _ = _ from by first | (unfold rco; rw [if_neg zc59, if_neg zc70]; done) | decide)
              exact ⟨rfl, y80, by rw [hq9], by rw [hq9]; exact hx80⟩
            · refine wp_bipush (v0 := -12) d_X10_comparison_73 (by decide) ?_
              refine wp_goto 80 d_X10_comparison_75 rfl ?_
              refine wp_virtual0 (As := [.int ((-12))]) d_X10_comparison_80 lk_X10_353 mv_X10_writes in_X10_writes se_X10_writes (Nat.le_of_ble_eq_true rfl) (Nat.le_of_ble_eq_true rfl) (hp_80 _ _ _ _ _) rfl (s_X10_writes hx52 (hj52.cb hT2 (by omega)) ((-12))) (fun v80 h80 q80 => ?_)
              obtain ⟨rfl, y80, rfl, hx80⟩ := q80
              have hj80 := hj52.wri (x := (-12))
              show WP _ _ _ _ _ 83 _ [] (HP c w (setA m 81 ((rwri ((-12)) (rvh (m.2.1 94) T (rwant (m.2.1 94) T (true) (rvh (m.2.1 94) T (q))))).2.2.2.2.2.2)) y80 E) _
              refine wp_vret d_X10_comparison_83 rfl ?_
              have hq9 : rcmp (m.2.1 94) T q = rwri ((-12)) (rvh (m.2.1 94) T (rwant (m.2.1 94) T (true) (rvh (m.2.1 94) T (q)))) := by
                unfold rcmp
                rw [hb9, hw9]
                exact congrArg (fun z => rwri z _) (show rco _ = _ from by unfold rco; rw [if_neg zc59, if_pos zc70])
              exact ⟨rfl, y80, by rw [hq9], by rw [hq9]; exact hx80⟩
          · refine wp_bipush (v0 := -11) d_X10_comparison_62 (by decide) ?_
            refine wp_goto 80 d_X10_comparison_64 rfl ?_
            refine wp_virtual0 (As := [.int ((-11))]) d_X10_comparison_80 lk_X10_353 mv_X10_writes in_X10_writes se_X10_writes (Nat.le_of_ble_eq_true rfl) (Nat.le_of_ble_eq_true rfl) (hp_80 _ _ _ _ _) rfl (s_X10_writes hx52 (hj52.cb hT2 (by omega)) ((-11))) (fun v80 h80 q80 => ?_)
            obtain ⟨rfl, y80, rfl, hx80⟩ := q80
            have hj80 := hj52.wri (x := (-11))
            show WP _ _ _ _ _ 83 _ [] (HP c w (setA m 81 ((rwri ((-11)) (rvh (m.2.1 94) T (rwant (m.2.1 94) T (true) (rvh (m.2.1 94) T (q))))).2.2.2.2.2.2)) y80 E) _
            refine wp_vret d_X10_comparison_83 rfl ?_
            have hq9 : rcmp (m.2.1 94) T q = rwri ((-11)) (rvh (m.2.1 94) T (rwant (m.2.1 94) T (true) (rvh (m.2.1 94) T (q)))) := by
              unfold rcmp
              rw [hb9, hw9]
              exact congrArg (fun z => rwri z _) (show rco _ = _ from if_pos zc59)
            exact ⟨rfl, y80, by rw [hq9], by rw [hq9]; exact hx80⟩
  · refine wp_iconst (v0 := -1) d_X10_comparison_11 rfl ?_
    refine wp_goto 23 d_X10_comparison_12 rfl ?_
    have hb9 : rcb (m.2.1 94) T (rvh (m.2.1 94) T (q)) = (-1) := if_pos zc8
    refine wp_istore_n [(1, .int ((-1))), (0, .ref (80))] d_X10_comparison_23 rfl (Nat.le_of_ble_eq_true rfl) rfl ?_
    refine wp_aload_n 1 d_X10_comparison_24 rfl rfl ?_
    refine wp_iload_n 0 d_X10_comparison_25 rfl rfl ?_
    refine wp_bipush (v0 := 60) d_X10_comparison_26 (by decide) ?_
    refine wp_icmp_eq 43 d_X10_comparison_28 rfl (fun z => absurd z (by decide)) (fun _ => ?_)
    refine wp_iload_n 0 d_X10_comparison_31 rfl rfl ?_
    refine wp_bipush (v0 := 61) d_X10_comparison_32 (by decide) ?_
    refine wp_icmp_eq 43 d_X10_comparison_34 rfl (fun z => absurd z (by decide)) (fun _ => ?_)
    refine wp_iload_n 0 d_X10_comparison_37 rfl rfl ?_
    refine wp_bipush (v0 := 62) d_X10_comparison_38 (by decide) ?_
    refine wp_icmp_ne 47 d_X10_comparison_40 rfl (fun _ => ?_) (fun z => absurd z (by decide))
    have hw9 : rcw ((-1)) = false := by decide
    refine wp_iconst (v0 := 0) d_X10_comparison_47 rfl ?_
    refine wp_virtual0 (As := [.int (0)]) d_X10_comparison_48 lk_X10_317 mv_X10_wants in_X10_wants se_X10_wants (Nat.le_of_ble_eq_true rfl) (Nat.le_of_ble_eq_true rfl) (hp_80 _ _ _ _ _) rfl (s_X10_wantsS hT hT2 hx1 hj1.2.1 (false)) (fun v48 h48 q48 => ?_)
    obtain ⟨rfl, y48, rfl, hx48⟩ := q48
    have hj48 := hj1.want (t := (m.2.1 94)) (b := false) (fun e => by cases e)
    show WP _ _ _ _ _ 51 _ [] (HP c w (setA m 81 ((rwant (m.2.1 94) T (false) (rvh (m.2.1 94) T (q))).2.2.2.2.2.2)) y48 E) _
    refine wp_aload_n 1 d_X10_comparison_51 rfl rfl ?_
    refine wp_virtual0 (As := []) d_X10_comparison_52 lk_X10_359 mv_X10_valueHere in_X10_valueHere se_X10_valueHere (Nat.le_of_ble_eq_true rfl) (Nat.le_of_ble_eq_true rfl) (hp_80 _ _ _ _ _) rfl (s_X10_valueHere hT hT2 hx48 (by omega) hj48) (fun v52 h52 q52 => ?_)
    obtain ⟨rfl, y52, rfl, hx52⟩ := q52
    have hj52 := hj48.vh (t := (m.2.1 94))
    show WP _ _ _ _ _ 55 _ [] (HP c w (setA m 81 ((rvh (m.2.1 94) T (rwant (m.2.1 94) T (false) (rvh (m.2.1 94) T (q)))).2.2.2.2.2.2)) y52 E) _
    refine wp_aload_n 1 d_X10_comparison_55 rfl rfl ?_
    refine wp_iload_n 0 d_X10_comparison_56 rfl rfl ?_
    refine wp_bipush (v0 := 60) d_X10_comparison_57 (by decide) ?_
    refine wp_icmp_ne 67 d_X10_comparison_59 rfl (fun _ => ?_) (fun z => absurd z (by decide))
    refine wp_iload_n 0 d_X10_comparison_67 rfl rfl ?_
    refine wp_bipush (v0 := 61) d_X10_comparison_68 (by decide) ?_
    refine wp_icmp_ne 78 d_X10_comparison_70 rfl (fun _ => ?_) (fun z => absurd z (by decide))
    refine wp_bipush (v0 := -13) d_X10_comparison_78 (by decide) ?_
    refine wp_virtual0 (As := [.int ((-13))]) d_X10_comparison_80 lk_X10_353 mv_X10_writes in_X10_writes se_X10_writes (Nat.le_of_ble_eq_true rfl) (Nat.le_of_ble_eq_true rfl) (hp_80 _ _ _ _ _) rfl (s_X10_writes hx52 (hj52.cb hT2 (by omega)) ((-13))) (fun v80 h80 q80 => ?_)
    obtain ⟨rfl, y80, rfl, hx80⟩ := q80
    have hj80 := hj52.wri (x := (-13))
    show WP _ _ _ _ _ 83 _ [] (HP c w (setA m 81 ((rwri ((-13)) (rvh (m.2.1 94) T (rwant (m.2.1 94) T (false) (rvh (m.2.1 94) T (q))))).2.2.2.2.2.2)) y80 E) _
    refine wp_vret d_X10_comparison_83 rfl ?_
    have hq9 : rcmp (m.2.1 94) T q = rwri ((-13)) (rvh (m.2.1 94) T (rwant (m.2.1 94) T (false) (rvh (m.2.1 94) T (q)))) := by
      unfold rcmp
      rw [hb9, hw9]
      exact congrArg (fun z => rwri z _) (show rco _ = _ from by first | (unfold rco; rw [if_neg zc59, if_neg zc70]; done) | decide)
    exact ⟨rfl, y80, by rw [hq9], by rw [hq9]; exact hx80⟩
