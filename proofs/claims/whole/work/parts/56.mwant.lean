/-! ===== reference: wants, writes, word, number ===== -/
def rwant (t : Nat → Int32) (T : Nat) (b : Bool) (q : kRt) : kRt := if q.2.2.1 = true ∨ ¬ b = true then (q.1, q.2.1, true, q.2.2.2) else rtok t T (q.1, q.2.1, false, q.2.2.2)
def rwri (x : Int32) (q : kRt) : kRt := if q.2.2.1 = true then q else (q.1, q.2.1, q.2.2.1, q.2.2.2.1, q.2.2.2.2.1, q.2.2.2.2.2.1 + 1, upd q.2.2.2.2.2.2 (97 + q.2.2.2.2.2.1) x)
def rnum (t : Nat → Int32) (T : Nat) (hi : Int32) (q : kRt) : kRt :=
  if qDg (qby t T q.1) ∧ q.2.1 < q.1 + 5 then rwant t T (decide (qnum t q.1 (q.2.1 - q.1) ≤ hi)) (q.1, q.2.1, q.2.2.1, qnum t q.1 (q.2.1 - q.1), q.2.2.2.2)
  else rwant t T false (q.1, q.2.1, q.2.2.1, 0, q.2.2.2.2)
def rwd (t : Nat → Int32) : Nat → Nat → Int64 → Int64
  | 0, _, x => x
  | k + 1, i, x => rwd t k (i + 1) (if x ≤ 36028797018963967 then 32 * x + (t i - 96).toInt64 else x)
def rword (t : Nat → Int32) (T : Nat) (q : kRt) : Int64 := if q.2.2.1 = true ∨ ¬ qLt (qby t T q.1) then 0 else rwd t (q.2.1 - q.1) q.1 0
theorem s_X10_wants {X : kX} {d : Nat} {c w m v : kZ} {E : kH} {T : Nat} (hT : m.1 8024 = nI T) (hT2 : T ≤ 200) {q : kRt} {y : kZ} (hx : kMx v q y) {s1 : Nat → Int32} (hto : q.2.1 ≤ T) (b9 : Bool) : WP X (d + 3) 0 0 Y_X10_wants 0 [(0, .ref (80)), (1, .int (kb (b9 = true)))] [] (HP c w (setA m 81 (s1)) y E) (fun r1 h1 => r1 = none ∧ ∃ y1 : kZ, h1 = HP c w (setA m 81 (s1)) y1 E ∧ kMx v (rwant (m.2.1 94) T b9 q) y1) := by
  refine wp_aload_n 0 d_X10_wants_0 rfl rfl ?_
  refine wp_aload_n 0 d_X10_wants_1 rfl rfl ?_
  refine wp_getfield (v := .int (kb ((q).2.2.1 = true))) d_X10_wants_2 gf_X10_303 (hp_80 _ _ _ _ _) (congrArg (fun z => some (Value.int z)) hx.2.2.1) ?_
  refine wp_ifb_ne 12 d_X10_wants_5 rfl (fun zc5 => ?_) (fun zc5 => ?_)
  · refine wp_iconst (v0 := 1) d_X10_wants_12 rfl ?_
    refine wp_goto 17 d_X10_wants_13 rfl ?_
    refine wp_putfield (h' := HP c w (setA m 81 (s1)) (setS y 8030 (1)) E) d_X10_wants_17 gp_X10_303 kfit_z1 (hp_80 _ _ _ _ _) (Nat.le_of_ble_eq_true rfl) (hps_80_30 _ _ _ _ _ _) ?_
    refine wp_aload_n 0 d_X10_wants_20 rfl rfl ?_
    refine wp_getfield (v := .int (1)) d_X10_wants_21 gf_X10_303 (hp_80 _ _ _ _ _) rfl ?_
    refine wp_if_ne 31 d_X10_wants_24 rfl (fun _ => ?_) (fun z => absurd z (by decide))
    refine wp_vret d_X10_wants_31 rfl ?_
    exact ⟨rfl, _, rfl, by rw [show rwant (m.2.1 94) T b9 q = _ from if_pos (Or.inl zc5)]; exact hx.wr true rfl⟩
  · refine wp_iload_n 1 d_X10_wants_8 rfl rfl ?_
    refine wp_ifb_ne 16 d_X10_wants_9 rfl (fun zc9 => ?_) (fun zc9 => ?_)
    · refine wp_iconst (v0 := 0) d_X10_wants_16 rfl ?_
      refine wp_putfield (h' := HP c w (setA m 81 (s1)) (setS y 8030 (0)) E) d_X10_wants_17 gp_X10_303 kfit_z0 (hp_80 _ _ _ _ _) (Nat.le_of_ble_eq_true rfl) (hps_80_30 _ _ _ _ _ _) ?_
      refine wp_aload_n 0 d_X10_wants_20 rfl rfl ?_
      refine wp_getfield (v := .int (0)) d_X10_wants_21 gf_X10_303 (hp_80 _ _ _ _ _) rfl ?_
      refine wp_if_ne 31 d_X10_wants_24 rfl (fun z => absurd z (by decide)) (fun _ => ?_)
      refine wp_aload_n 0 d_X10_wants_27 rfl rfl ?_
      refine wp_virtual0 (As := []) d_X10_wants_28 lk_X10_307 mv_X10_token in_X10_token se_X10_token (Nat.le_of_ble_eq_true rfl) (Nat.le_of_ble_eq_true rfl) (hp_80 _ _ _ _ _) rfl (s_X10_token hT hT2 (hx.wr false rfl) hto) (fun v28 h28 q28 => ?_)
      obtain ⟨rfl, y1, rfl, hx1⟩ := q28
      show WP _ _ _ _ _ 31 _ [] (HP c w (setA m 81 (s1)) y1 E) _
      refine wp_vret d_X10_wants_31 rfl ?_
      exact ⟨rfl, y1, rfl, by rw [show rwant (m.2.1 94) T b9 q = _ from if_neg (fun z => z.elim (fun z => zc5 z) (fun z => z zc9))]; exact hx1⟩
    · refine wp_iconst (v0 := 1) d_X10_wants_12 rfl ?_
      refine wp_goto 17 d_X10_wants_13 rfl ?_
      refine wp_putfield (h' := HP c w (setA m 81 (s1)) (setS y 8030 (1)) E) d_X10_wants_17 gp_X10_303 kfit_z1 (hp_80 _ _ _ _ _) (Nat.le_of_ble_eq_true rfl) (hps_80_30 _ _ _ _ _ _) ?_
      refine wp_aload_n 0 d_X10_wants_20 rfl rfl ?_
      refine wp_getfield (v := .int (1)) d_X10_wants_21 gf_X10_303 (hp_80 _ _ _ _ _) rfl ?_
      refine wp_if_ne 31 d_X10_wants_24 rfl (fun _ => ?_) (fun z => absurd z (by decide))
      refine wp_vret d_X10_wants_31 rfl ?_
      exact ⟨rfl, _, rfl, by rw [show rwant (m.2.1 94) T b9 q = _ from if_pos (Or.inr zc9)]; exact hx.wr true rfl⟩
theorem s_X10_writes {X : kX} {d : Nat} {c w m v : kZ} {E : kH} {q : kRt} {y : kZ} (hx : kMx v q y) (hc : q.2.2.1 = false → q.2.2.2.2.2.1 < 203) (x : Int32) : WP X d 0 0 Y_X10_writes 0 [(0, .ref (80)), (1, .int (x))] [] (HP c w (setA m 81 (q.2.2.2.2.2.2)) y E) (fun r1 h1 => r1 = none ∧ ∃ y1 : kZ, h1 = HP c w (setA m 81 ((rwri x q).2.2.2.2.2.2)) y1 E ∧ kMx v (rwri x q) y1) := by
  refine wp_aload_n 0 d_X10_writes_0 rfl rfl ?_
  refine wp_getfield (v := .int (kb ((q).2.2.1 = true))) d_X10_writes_1 gf_X10_303 (hp_80 _ _ _ _ _) (congrArg (fun z => some (Value.int z)) hx.2.2.1) ?_
  refine wp_ifb_ne 30 d_X10_writes_4 rfl (fun zc4 => ?_) (fun zc4 => ?_)
  · refine wp_vret d_X10_writes_30 rfl ?_
    exact ⟨rfl, y, by rw [show rwri x q = q from if_pos zc4], by rw [show rwri x q = q from if_pos zc4]; exact hx⟩
  · have hcc := hc (Bool.not_eq_true _ |>.mp zc4)
    refine wp_aload_n 0 d_X10_writes_7 rfl rfl ?_
    refine wp_getfield (v := .ref (81)) d_X10_writes_8 gf_X10_7 (hp_80 _ _ _ _ _) rfl ?_
    refine wp_bipush (v0 := 97) d_X10_writes_11 (by decide) ?_
    refine wp_aload_n 0 d_X10_writes_13 rfl rfl ?_
    refine wp_getfield (v := .int (nI ((q).2.2.2.2.2.1))) d_X10_writes_14 gf_X10_347 (hp_80 _ _ _ _ _) (congrArg (fun z => some (Value.int z)) hx.2.2.2.2.2.1) ?_
    refine wp_iadd d_X10_writes_17 ?_
    refine wp_v (v0 := nI ((97) + ((q).2.2.2.2.2.1))) (nI_add (97) ((q).2.2.2.2.2.1)) ?_
    refine wp_iload_n 1 d_X10_writes_18 rfl rfl ?_
    refine wp_iastore (h' := HP c w (setA (setA m 81 (q.2.2.2.2.2.2)) 81 (upd (q.2.2.2.2.2.2) ((97) + ((q).2.2.2.2.2.1)) (x))) y E) d_X10_writes_19 (hp_81 _ _ _ _ _) (vp_in_nI (by omega) (by omega)) (by rw [nI_clamp (by omega)]; exact (hpa_81 _ _ _ _ _ _)) ?_
    refine wp_aload_n 0 d_X10_writes_20 rfl rfl ?_
    refine wp_dup d_X10_writes_21 rfl ?_
    refine wp_getfield (v := .int (nI ((q).2.2.2.2.2.1))) d_X10_writes_22 gf_X10_347 (hp_80 _ _ _ _ _) (congrArg (fun z => some (Value.int z)) hx.2.2.2.2.2.1) ?_
    refine wp_iconst (v0 := 1) d_X10_writes_25 rfl ?_
    refine wp_iadd d_X10_writes_26 ?_
    refine wp_v (v0 := nI (((q).2.2.2.2.2.1) + (1))) (nI_add ((q).2.2.2.2.2.1) (1)) ?_
    refine wp_putfield (h' := HP c w (setA (setA m 81 (q.2.2.2.2.2.2)) 81 (upd (q.2.2.2.2.2.2) ((97) + ((q).2.2.2.2.2.1)) (x))) (setS y 8029 (nI (((q).2.2.2.2.2.1) + (1)))) E) d_X10_writes_27 gp_X10_347 (kfit_i _) (hp_80 _ _ _ _ _) (Nat.le_of_ble_eq_true rfl) (hps_80_29 _ _ _ _ _ _) ?_
    refine wp_vret d_X10_writes_30 rfl ?_
    rw [show rwri x q = _ from if_neg zc4]
    exact ⟨rfl, _, by rw [setA_idem], hx.cod _ _⟩
