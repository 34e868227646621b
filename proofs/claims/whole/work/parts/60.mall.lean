/-! ===== reference: all, condition ===== -/
def rjs (t : Nat → Int32) (T : Nat) (c : Int64) (x : Int32) (O : kRt → kRt) : Nat → kRt → kRt
  | 0, q => q
  | k + 1, q => if rword t T q = c then rjs t T c x O k (rwri x (O (rwant t T true q))) else q
theorem rwri_f (x : Int32) (q : kRt) : (rwri x q).1 = q.1 := by
  unfold rwri
  split <;> rfl
theorem rwri_o (x : Int32) (q : kRt) : (rwri x q).2.2.2.2.1 = q.2.2.2.2.1 := by
  unfold rwri
  split <;> rfl
def kRG (T : Nat) (O : kRt → kRt) : Prop := ∀ (a : Int) (q : kRt), kRJ T a q → kRJ T a (O q) ∧ q.1 ≤ (O q).1 ∧ (O q).2.2.2.2.1 = q.2.2.2.2.1
theorem s_X10_all_l {X : kX} {d : Nat} {c w m v : kZ} {E : kH} {T : Nat} (hT : m.1 8024 = nI T) (hT2 : T ≤ 200) {e kk : Nat} {O : kRt → kRt} (gO : kRG T O) (HO : ∀ (a : Int) (q : kRt) (y : kZ), 0 ≤ a → kMx v q y → kRJ T a q → q.2.2.2.2.1 + kk = 3 → WP X (d + e + 7) 0 0 Y_X10_one 0 [(0, .ref 80)] [] (HP c w (setA m 81 (q.2.2.2.2.2.2)) y E) (fun r1 h1 => r1 = none ∧ ∃ y1 : kZ, h1 = HP c w (setA m 81 ((O q).2.2.2.2.2.2)) y1 E ∧ kMx v (O q) y1)) {a : Int} (ha : 0 ≤ a) {qe : kRt} : ∀ (k : Nat) (q : kRt) (y : kZ), (T + 1 ≤ q.1 + k) → (kMx v q y) → (kRJ T a q) → (q.2.2.2.2.1 + kk = 3) → (rjs (m.2.1 94) T 1476 (-21) O k q = qe) → WP X (d + e + 8) 0 0 Y_X10_all 4 [(0, .ref (80))] [] (HP c w (setA m 81 ((q).2.2.2.2.2.2)) y E) (fun r1 h1 => r1 = none ∧ ∃ y1 : kZ, h1 = HP c w (setA m 81 ((qe).2.2.2.2.2.2)) y1 E ∧ kMx v (qe) y1) := by
  intro k
  induction k using Nat.strongRecOn with
  | ind k ih =>
    intro q y hi hx hj ho hr
    refine wp_aload_n 0 d_X10_all_4 rfl rfl ?_
    refine wp_vrt_l (As := []) (x0 := rword (m.2.1 94) T (q)) (h1 := HP c w (setA m 81 ((q).2.2.2.2.2.2)) y E) d_X10_all_5 lk_X10_321 mv_X10_word in_X10_word se_X10_word (Nat.le_of_ble_eq_true rfl) (Nat.le_of_ble_eq_true rfl) (hp_80 _ _ _ _ _) rfl (s_X10_word hT hT2 hx hj.1 hj.2.1) ?_
    refine wp_ldc2 (v0 := 1476) d_X10_all_8 cl_X10_376 ?_
    refine wp_lcmp d_X10_all_11 ?_
    refine wp_if_ne 33 d_X10_all_12 rfl (fun zc12 => ?_) (fun zc12 => ?_)
    · refine wp_vret d_X10_all_33 rfl ?_
      have hk0 : k ≠ 0 := fun e => by have := hj.1; have := hj.2.1; omega
      obtain ⟨k1, rfl⟩ : ∃ k1, k = k1 + 1 := ⟨k - 1, by omega⟩
      simp only [rjs] at hr
      rw [if_neg (fun z => zc12 (lg_eq9.mpr z))] at hr
      subst hr
      exact ⟨rfl, y, rfl, hx⟩
    · refine wp_aload_n 0 d_X10_all_15 rfl rfl ?_
      refine wp_iconst (v0 := 1) d_X10_all_16 rfl ?_
      refine wp_virtual0 (As := [.int (1)]) d_X10_all_17 lk_X10_317 mv_X10_wants in_X10_wants se_X10_wants (Nat.le_of_ble_eq_true rfl) (Nat.le_of_ble_eq_true rfl) (hp_80 _ _ _ _ _) rfl (s_X10_wantsS hT hT2 hx hj.2.1 (true)) (fun v17 h17 q17 => ?_)
      obtain ⟨rfl, y17, rfl, hx17⟩ := q17
      have hj17 := hj.want (t := (m.2.1 94)) (b := true) (fun _ => rword_lt (t := (m.2.1 94)) (rw_ne (lg_eq9.mp zc12) (by decide)))
      show WP _ _ _ _ _ 20 _ [] (HP c w (setA m 81 ((rwant (m.2.1 94) T (true) (q)).2.2.2.2.2.2)) y17 E) _
      have ho17 : (rwant (m.2.1 94) T true q).2.2.2.2.1 + kk = 3 := by rw [rwant_o]; exact ho
      refine wp_aload_n 0 d_X10_all_20 rfl rfl ?_
      refine wp_virtual0 (As := []) d_X10_all_21 lk_X10_373 mv_X10_one in_X10_one se_X10_one (Nat.le_of_ble_eq_true rfl) (Nat.le_of_ble_eq_true rfl) (hp_80 _ _ _ _ _) rfl (HO _ _ _ (by omega) hx17 hj17 ho17) (fun v21 h21 q21 => ?_)
      obtain ⟨rfl, y21, rfl, hx21⟩ := q21
      have hg21 := gO _ _ hj17
      have hj21 := hg21.1
      have ho21 : (O (rwant (m.2.1 94) T (true) (q))).2.2.2.2.1 + kk = 3 := by rw [hg21.2.2]; exact ho17
      show WP _ _ _ _ _ 24 _ [] (HP c w (setA m 81 ((O (rwant (m.2.1 94) T (true) (q))).2.2.2.2.2.2)) y21 E) _
      refine wp_aload_n 0 d_X10_all_24 rfl rfl ?_
      refine wp_bipush (v0 := -21) d_X10_all_25 (by decide) ?_
      refine wp_virtual0 (As := [.int ((-21))]) d_X10_all_27 lk_X10_353 mv_X10_writes in_X10_writes se_X10_writes (Nat.le_of_ble_eq_true rfl) (Nat.le_of_ble_eq_true rfl) (hp_80 _ _ _ _ _) rfl (s_X10_writes hx21 (hj21.cb hT2 (by omega)) ((-21))) (fun v27 h27 q27 => ?_)
      obtain ⟨rfl, y27, rfl, hx27⟩ := q27
      have hj27 := hj21.wri (x := (-21))
      show WP _ _ _ _ _ 30 _ [] (HP c w (setA m 81 ((rwri ((-21)) (O (rwant (m.2.1 94) T (true) (q)))).2.2.2.2.2.2)) y27 E) _
      refine wp_goto 4 d_X10_all_30 rfl ?_
      have hz : rword (m.2.1 94) T q = 1476 := lg_eq9.mp zc12
      have hf9 := rwant_fr (rw_ne hz (by decide)) hj
      have hk0 : k ≠ 0 := fun e => by have := hj.1; have := hj.2.1; omega
      obtain ⟨k1, rfl⟩ : ∃ k1, k = k1 + 1 := ⟨k - 1, by omega⟩
      simp only [rjs] at hr
      rw [if_pos hz] at hr
      have hf8 := hg21.2.1
      exact ih k1 (by omega) _ y27 (by rw [rwri_f]; omega) hx27 hj27 (by rw [rwri_o]; exact ho21) hr
theorem s_X10_all {X : kX} {d : Nat} {c w m v : kZ} {E : kH} {T : Nat} (hT : m.1 8024 = nI T) (hT2 : T ≤ 200) {e kk : Nat} {O : kRt → kRt} (gO : kRG T O) (HO : ∀ (a : Int) (q : kRt) (y : kZ), 0 ≤ a → kMx v q y → kRJ T a q → q.2.2.2.2.1 + kk = 3 → WP X (d + e + 7) 0 0 Y_X10_one 0 [(0, .ref 80)] [] (HP c w (setA m 81 (q.2.2.2.2.2.2)) y E) (fun r1 h1 => r1 = none ∧ ∃ y1 : kZ, h1 = HP c w (setA m 81 ((O q).2.2.2.2.2.2)) y1 E ∧ kMx v (O q) y1)) {a : Int} (ha : 0 ≤ a) {q : kRt} {y : kZ} (hx : kMx v q y) (hj : kRJ T a q) (ho : q.2.2.2.2.1 + kk = 3) : WP X (d + e + 8) 0 0 Y_X10_all 0 [(0, .ref (80))] [] (HP c w (setA m 81 ((q).2.2.2.2.2.2)) y E) (fun r1 h1 => r1 = none ∧ ∃ y1 : kZ, h1 = HP c w (setA m 81 ((rjs (m.2.1 94) T 1476 (-21) O 201 (O q)).2.2.2.2.2.2)) y1 E ∧ kMx v (rjs (m.2.1 94) T 1476 (-21) O 201 (O q)) y1) := by
  refine wp_aload_n 0 d_X10_all_0 rfl rfl ?_
  refine wp_virtual0 (As := []) d_X10_all_1 lk_X10_373 mv_X10_one in_X10_one se_X10_one (Nat.le_of_ble_eq_true rfl) (Nat.le_of_ble_eq_true rfl) (hp_80 _ _ _ _ _) rfl (HO _ _ _ (by omega) hx hj ho) (fun v1 h1 q1 => ?_)
  obtain ⟨rfl, y1, rfl, hx1⟩ := q1
  have hg1 := gO _ _ hj
  have hj1 := hg1.1
  have ho1 : (O (q)).2.2.2.2.1 + kk = 3 := by rw [hg1.2.2]; exact ho
  show WP _ _ _ _ _ 4 _ [] (HP c w (setA m 81 ((O (q)).2.2.2.2.2.2)) y1 E) _
  exact s_X10_all_l hT hT2 gO HO ha 201 _ y1 (by omega) hx1 hj1 ho1 rfl
theorem s_X10_cond_l {X : kX} {d : Nat} {c w m v : kZ} {E : kH} {T : Nat} (hT : m.1 8024 = nI T) (hT2 : T ≤ 200) {e kk : Nat} {O : kRt → kRt} (gO : kRG T O) (HO : ∀ (a : Int) (q : kRt) (y : kZ), 0 ≤ a → kMx v q y → kRJ T a q → q.2.2.2.2.1 + kk = 3 → WP X (d + e + 8) 0 0 Y_X10_all 0 [(0, .ref 80)] [] (HP c w (setA m 81 (q.2.2.2.2.2.2)) y E) (fun r1 h1 => r1 = none ∧ ∃ y1 : kZ, h1 = HP c w (setA m 81 ((O q).2.2.2.2.2.2)) y1 E ∧ kMx v (O q) y1)) {a : Int} (ha : 0 ≤ a) {qe : kRt} : ∀ (k : Nat) (q : kRt) (y : kZ), (T + 1 ≤ q.1 + k) → (kMx v q y) → (kRJ T a q) → (q.2.2.2.2.1 + kk = 3) → (rjs (m.2.1 94) T 498 (-22) O k q = qe) → WP X (d + e + 9) 0 0 Y_X10_condition 12 [(0, .ref (80))] [] (HP c w (setA m 81 ((q).2.2.2.2.2.2)) y E) (fun r1 h1 => r1 = none ∧ ∃ y1 : kZ, h1 = HP c w (setA m 81 ((qe).2.2.2.2.2.2)) y1 E ∧ kMx v (qe) y1) := by
  intro k
  induction k using Nat.strongRecOn with
  | ind k ih =>
    intro q y hi hx hj ho hr
    refine wp_aload_n 0 d_X10_condition_12 rfl rfl ?_
    refine wp_vrt_l (As := []) (x0 := rword (m.2.1 94) T (q)) (h1 := HP c w (setA m 81 ((q).2.2.2.2.2.2)) y E) d_X10_condition_13 lk_X10_321 mv_X10_word in_X10_word se_X10_word (Nat.le_of_ble_eq_true rfl) (Nat.le_of_ble_eq_true rfl) (hp_80 _ _ _ _ _) rfl (s_X10_word hT hT2 hx hj.1 hj.2.1) ?_
    refine wp_ldc2 (v0 := 498) d_X10_condition_16 cl_X10_381 ?_
    refine wp_lcmp d_X10_condition_19 ?_
    refine wp_if_ne 41 d_X10_condition_20 rfl (fun zc20 => ?_) (fun zc20 => ?_)
    · refine wp_vret d_X10_condition_41 rfl ?_
      have hk0 : k ≠ 0 := fun e => by have := hj.1; have := hj.2.1; omega
      obtain ⟨k1, rfl⟩ : ∃ k1, k = k1 + 1 := ⟨k - 1, by omega⟩
      simp only [rjs] at hr
      rw [if_neg (fun z => zc20 (lg_eq9.mpr z))] at hr
      subst hr
      exact ⟨rfl, y, rfl, hx⟩
    · refine wp_aload_n 0 d_X10_condition_23 rfl rfl ?_
      refine wp_iconst (v0 := 1) d_X10_condition_24 rfl ?_
      refine wp_virtual0 (As := [.int (1)]) d_X10_condition_25 lk_X10_317 mv_X10_wants in_X10_wants se_X10_wants (Nat.le_of_ble_eq_true rfl) (Nat.le_of_ble_eq_true rfl) (hp_80 _ _ _ _ _) rfl (s_X10_wantsS hT hT2 hx hj.2.1 (true)) (fun v25 h25 q25 => ?_)
      obtain ⟨rfl, y25, rfl, hx25⟩ := q25
      have hj25 := hj.want (t := (m.2.1 94)) (b := true) (fun _ => rword_lt (t := (m.2.1 94)) (rw_ne (lg_eq9.mp zc20) (by decide)))
      show WP _ _ _ _ _ 28 _ [] (HP c w (setA m 81 ((rwant (m.2.1 94) T (true) (q)).2.2.2.2.2.2)) y25 E) _
      have ho25 : (rwant (m.2.1 94) T true q).2.2.2.2.1 + kk = 3 := by rw [rwant_o]; exact ho
      refine wp_aload_n 0 d_X10_condition_28 rfl rfl ?_
      refine wp_virtual0 (As := []) d_X10_condition_29 lk_X10_378 mv_X10_all in_X10_all se_X10_all (Nat.le_of_ble_eq_true rfl) (Nat.le_of_ble_eq_true rfl) (hp_80 _ _ _ _ _) rfl (HO _ _ _ (by omega) hx25 hj25 ho25) (fun v29 h29 q29 => ?_)
      obtain ⟨rfl, y29, rfl, hx29⟩ := q29
      have hg29 := gO _ _ hj25
      have hj29 := hg29.1
      have ho29 : (O (rwant (m.2.1 94) T (true) (q))).2.2.2.2.1 + kk = 3 := by rw [hg29.2.2]; exact ho25
      show WP _ _ _ _ _ 32 _ [] (HP c w (setA m 81 ((O (rwant (m.2.1 94) T (true) (q))).2.2.2.2.2.2)) y29 E) _
      refine wp_aload_n 0 d_X10_condition_32 rfl rfl ?_
      refine wp_bipush (v0 := -22) d_X10_condition_33 (by decide) ?_
      refine wp_virtual0 (As := [.int ((-22))]) d_X10_condition_35 lk_X10_353 mv_X10_writes in_X10_writes se_X10_writes (Nat.le_of_ble_eq_true rfl) (Nat.le_of_ble_eq_true rfl) (hp_80 _ _ _ _ _) rfl (s_X10_writes hx29 (hj29.cb hT2 (by omega)) ((-22))) (fun v35 h35 q35 => ?_)
      obtain ⟨rfl, y35, rfl, hx35⟩ := q35
      have hj35 := hj29.wri (x := (-22))
      show WP _ _ _ _ _ 38 _ [] (HP c w (setA m 81 ((rwri ((-22)) (O (rwant (m.2.1 94) T (true) (q)))).2.2.2.2.2.2)) y35 E) _
      refine wp_goto 12 d_X10_condition_38 rfl ?_
      have hz : rword (m.2.1 94) T q = 498 := lg_eq9.mp zc20
      have hf9 := rwant_fr (rw_ne hz (by decide)) hj
      have hk0 : k ≠ 0 := fun e => by have := hj.1; have := hj.2.1; omega
      obtain ⟨k1, rfl⟩ : ∃ k1, k = k1 + 1 := ⟨k - 1, by omega⟩
      simp only [rjs] at hr
      rw [if_pos hz] at hr
      have hf8 := hg29.2.1
      exact ih k1 (by omega) _ y35 (by rw [rwri_f]; omega) hx35 hj35 (by rw [rwri_o]; exact ho29) hr
def rcnd (t : Nat → Int32) (T : Nat) (O : kRt → kRt) (q : kRt) : kRt := if q.2.2.1 = true then q else rjs t T 498 (-22) O 201 (O q)
theorem s_X10_condition {X : kX} {d : Nat} {c w m v : kZ} {E : kH} {T : Nat} (hT : m.1 8024 = nI T) (hT2 : T ≤ 200) {e kk : Nat} {O : kRt → kRt} (gO : kRG T O) (HO : ∀ (a : Int) (q : kRt) (y : kZ), 0 ≤ a → kMx v q y → kRJ T a q → q.2.2.2.2.1 + kk = 3 → WP X (d + e + 8) 0 0 Y_X10_all 0 [(0, .ref 80)] [] (HP c w (setA m 81 (q.2.2.2.2.2.2)) y E) (fun r1 h1 => r1 = none ∧ ∃ y1 : kZ, h1 = HP c w (setA m 81 ((O q).2.2.2.2.2.2)) y1 E ∧ kMx v (O q) y1)) {a : Int} (ha : 0 ≤ a) {q : kRt} {y : kZ} (hx : kMx v q y) (hj : kRJ T a q) (ho0 : q.2.2.1 = true ∨ q.2.2.2.2.1 + kk = 3) : WP X (d + e + 9) 0 0 Y_X10_condition 0 [(0, .ref (80))] [] (HP c w (setA m 81 ((q).2.2.2.2.2.2)) y E) (fun r1 h1 => r1 = none ∧ ∃ y1 : kZ, h1 = HP c w (setA m 81 ((rcnd (m.2.1 94) T O q).2.2.2.2.2.2)) y1 E ∧ kMx v (rcnd (m.2.1 94) T O q) y1) := by
  refine wp_aload_n 0 d_X10_condition_0 rfl rfl ?_
  refine wp_getfield (v := .int (kb ((q).2.2.1 = true))) d_X10_condition_1 gf_X10_303 (hp_80 _ _ _ _ _) (congrArg (fun z => some (Value.int z)) hx.2.2.1) ?_
  refine wp_ifb_eq 8 d_X10_condition_4 rfl (fun zc4 => ?_) (fun zc4 => ?_)
  · have ho := ho0.resolve_left zc4
    refine wp_aload_n 0 d_X10_condition_8 rfl rfl ?_
    refine wp_virtual0 (As := []) d_X10_condition_9 lk_X10_378 mv_X10_all in_X10_all se_X10_all (Nat.le_of_ble_eq_true rfl) (Nat.le_of_ble_eq_true rfl) (hp_80 _ _ _ _ _) rfl (HO _ _ _ (by omega) hx hj ho) (fun v9 h9 q9 => ?_)
    obtain ⟨rfl, y9, rfl, hx9⟩ := q9
    have hg9 := gO _ _ hj
    have hj9 := hg9.1
    have ho9 : (O (q)).2.2.2.2.1 + kk = 3 := by rw [hg9.2.2]; exact ho
    show WP _ _ _ _ _ 12 _ [] (HP c w (setA m 81 ((O (q)).2.2.2.2.2.2)) y9 E) _
    rw [show rcnd (m.2.1 94) T O q = _ from if_neg zc4]
    exact s_X10_cond_l hT hT2 gO HO ha 201 _ y9 (by omega) hx9 hj9 ho9 rfl
  · refine wp_vret d_X10_condition_7 rfl ?_
    exact ⟨rfl, y, by rw [show rcnd (m.2.1 94) T O q = q from if_pos zc4], by rw [show rcnd (m.2.1 94) T O q = q from if_pos zc4]; exact hx⟩
