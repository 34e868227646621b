/-! ===== the reference: calls of light ===== -/
theorem s_X10_shift {X : kX} {d : Nat} {c w m v : kZ} {E : kH} {cnt : Nat} (hs1 : (m.2.1 81) 1 = nI cnt) (hc8 : cnt ≤ 8) {en : Nat → Nat} (hm : mWF (m.2.1 81) cnt en) {n : Nat} (hn : m.2.1 81 0 = nI n) (hn9 : n ≤ 9) {p : Nat} (hp : m.2.1 81 2 = nI p) (hp4 : p ≤ 4) (hln : ∀ j, j < p → vp_in (mlp (m.2.1 81) j) n) : WP X (d + 9) 0 0 Y_X10_shift 0 [(0, .ref (80))] [] (HP c w m v E) (fun r1 h1 => r1 = some (.int (kabs (msee ((m.2.1 81) 5) ((m.2.1 81) 6) (mTube (m.2.1 81) en cnt p) (0)))) ∧ ∃ v1 : kZ, h1 = HP c w m v1 E ∧ mFr 84 87 v v1) := by
  refine wp_aload_n 0 d_X10_shift_0 rfl rfl ?_
  refine wp_virtual0 (As := []) d_X10_shift_1 lk_X10_166 mv_X10_layTube in_X10_layTube se_X10_layTube (Nat.le_of_ble_eq_true rfl) (Nat.le_of_ble_eq_true rfl) (hp_80 _ _ _ _ _) rfl (s_X10_layTube hs1 hc8 hm hn hn9 hp hp4 hln) (fun v1 h1 q1 => ?_)
  obtain ⟨rfl, v1, rfl, hf1, hst1, hl1⟩ := q1
  show WP _ _ _ _ _ 4 _ [] (HP c w m v1 E) _
  refine wp_aload_n 0 d_X10_shift_4 rfl rfl ?_
  refine wp_iconst (v0 := 0) d_X10_shift_5 rfl ?_
  refine wp_virtual0 (As := [.int (0)]) d_X10_shift_6 lk_X10_153 mv_X10_seenBy in_X10_seenBy se_X10_seenBy (Nat.le_of_ble_eq_true rfl) (Nat.le_of_ble_eq_true rfl) (hp_80 _ _ _ _ _) rfl (s_X10_seenBy (l := (mTube (m.2.1 81) en cnt p)) (by rw [mTube_len]; omega) hl1 (0)) (fun v6 h6 q6 => ?_)
  obtain ⟨rfl, u1, rfl, hu1⟩ := q6
  have hld1 := hl1.h hu1
  show WP _ _ _ _ _ 9 _ [.int (msee ((m.2.1 81) 5) ((m.2.1 81) 6) (mTube (m.2.1 81) en cnt p) (0))] (HP c w m u1 E) _
  refine wp_stc_i (As := [.int (msee ((m.2.1 81) 5) ((m.2.1 81) 6) (mTube (m.2.1 81) en cnt p) (0))]) (x0 := kabs (msee ((m.2.1 81) 5) ((m.2.1 81) 6) (mTube (m.2.1 81) en cnt p) (0))) (h1 := HP c w m u1 E) d_X10_shift_9 lk_X10_156 mv_X10_sizeOf st_X10_sizeOf (Nat.le_of_ble_eq_true rfl) (Nat.le_of_ble_eq_true rfl) (s_X10_sizeOf _ (msee ((m.2.1 81) 5) ((m.2.1 81) 6) (mTube (m.2.1 81) en cnt p) (0))) ?_
  refine wp_reti d_X10_shift_12 rfl ?_
  exact ⟨rfl, _, rfl, hf1.tr (hu1.fr _ _)⟩
theorem s_X10_blur {X : kX} {d : Nat} {c w m v : kZ} {E : kH} {cnt : Nat} (hs1 : (m.2.1 81) 1 = nI cnt) (hc8 : cnt ≤ 8) {en : Nat → Nat} (hm : mWF (m.2.1 81) cnt en) {n : Nat} (hn : m.2.1 81 0 = nI n) (hn9 : n ≤ 9) {p : Nat} (hp : m.2.1 81 2 = nI p) (hp4 : p ≤ 4) (hln : ∀ j, j < p → vp_in (mlp (m.2.1 81) j) n) : WP X (d + 9) 0 0 Y_X10_blur 0 [(0, .ref (80))] [] (HP c w m v E) (fun r1 h1 => r1 = some (.int (kabs (msee ((m.2.1 81) 5) ((m.2.1 81) 6) (mTube (m.2.1 81) en cnt p) (1) - msee ((m.2.1 81) 5) ((m.2.1 81) 6) (mTube (m.2.1 81) en cnt p) (0)))) ∧ ∃ v1 : kZ, h1 = HP c w m v1 E ∧ mFr 84 87 v v1) := by
  refine wp_aload_n 0 d_X10_blur_0 rfl rfl ?_
  refine wp_virtual0 (As := []) d_X10_blur_1 lk_X10_166 mv_X10_layTube in_X10_layTube se_X10_layTube (Nat.le_of_ble_eq_true rfl) (Nat.le_of_ble_eq_true rfl) (hp_80 _ _ _ _ _) rfl (s_X10_layTube hs1 hc8 hm hn hn9 hp hp4 hln) (fun v1 h1 q1 => ?_)
  obtain ⟨rfl, v1, rfl, hf1, hst1, hl1⟩ := q1
  show WP _ _ _ _ _ 4 _ [] (HP c w m v1 E) _
  refine wp_aload_n 0 d_X10_blur_4 rfl rfl ?_
  refine wp_iconst (v0 := 0) d_X10_blur_5 rfl ?_
  refine wp_virtual0 (As := [.int (0)]) d_X10_blur_6 lk_X10_153 mv_X10_seenBy in_X10_seenBy se_X10_seenBy (Nat.le_of_ble_eq_true rfl) (Nat.le_of_ble_eq_true rfl) (hp_80 _ _ _ _ _) rfl (s_X10_seenBy (l := (mTube (m.2.1 81) en cnt p)) (by rw [mTube_len]; omega) hl1 (0)) (fun v6 h6 q6 => ?_)
  obtain ⟨rfl, u1, rfl, hu1⟩ := q6
  have hld1 := hl1.h hu1
  show WP _ _ _ _ _ 9 _ [.int (msee ((m.2.1 81) 5) ((m.2.1 81) 6) (mTube (m.2.1 81) en cnt p) (0))] (HP c w m u1 E) _
  refine wp_istore_n [(1, .int (msee ((m.2.1 81) 5) ((m.2.1 81) 6) (mTube (m.2.1 81) en cnt p) (0))), (0, .ref (80))] d_X10_blur_9 rfl (Nat.le_of_ble_eq_true rfl) rfl ?_
  refine wp_aload_n 1 d_X10_blur_10 rfl rfl ?_
  refine wp_iconst (v0 := 1) d_X10_blur_11 rfl ?_
  refine wp_virtual0 (As := [.int (1)]) d_X10_blur_12 lk_X10_153 mv_X10_seenBy in_X10_seenBy se_X10_seenBy (Nat.le_of_ble_eq_true rfl) (Nat.le_of_ble_eq_true rfl) (hp_80 _ _ _ _ _) rfl (s_X10_seenBy (l := (mTube (m.2.1 81) en cnt p)) (by rw [mTube_len]; omega) hld1 (1)) (fun v12 h12 q12 => ?_)
  obtain ⟨rfl, u2, rfl, hu2⟩ := q12
  have hu2 := hu1.tr hu2
  have hld2 := hl1.h hu2
  show WP _ _ _ _ _ 15 _ [.int (msee ((m.2.1 81) 5) ((m.2.1 81) 6) (mTube (m.2.1 81) en cnt p) (1))] (HP c w m u2 E) _
  refine wp_iload_n 0 d_X10_blur_15 rfl rfl ?_
  refine wp_isub d_X10_blur_16 ?_
  refine wp_stc_i (As := [.int ((msee ((m.2.1 81) 5) ((m.2.1 81) 6) (mTube (m.2.1 81) en cnt p) (1)) - (msee ((m.2.1 81) 5) ((m.2.1 81) 6) (mTube (m.2.1 81) en cnt p) (0)))]) (x0 := kabs ((msee ((m.2.1 81) 5) ((m.2.1 81) 6) (mTube (m.2.1 81) en cnt p) (1)) - (msee ((m.2.1 81) 5) ((m.2.1 81) 6) (mTube (m.2.1 81) en cnt p) (0)))) (h1 := HP c w m u2 E) d_X10_blur_17 lk_X10_156 mv_X10_sizeOf st_X10_sizeOf (Nat.le_of_ble_eq_true rfl) (Nat.le_of_ble_eq_true rfl) (s_X10_sizeOf _ ((msee ((m.2.1 81) 5) ((m.2.1 81) 6) (mTube (m.2.1 81) en cnt p) (1)) - (msee ((m.2.1 81) 5) ((m.2.1 81) 6) (mTube (m.2.1 81) en cnt p) (0)))) ?_
  refine wp_reti d_X10_blur_20 rfl ?_
  exact ⟨rfl, _, rfl, hf1.tr (hu2.fr _ _)⟩
theorem s_X10_wrong {X : kX} {d : Nat} {c w m v : kZ} {E : kH} {cnt : Nat} (hs1 : (m.2.1 81) 1 = nI cnt) (hc8 : cnt ≤ 8) {en : Nat → Nat} (hm : mWF (m.2.1 81) cnt en) {n : Nat} (hn : m.2.1 81 0 = nI n) (hn9 : n ≤ 9) {p : Nat} (hp : m.2.1 81 2 = nI p) (hp4 : p ≤ 4) (hln : ∀ j, j < p → vp_in (mlp (m.2.1 81) j) n) : WP X (d + 9) 0 0 Y_X10_wrong 0 [(0, .ref (80))] [] (HP c w m v E) (fun r1 h1 => r1 = some (.int (mwr ((m.2.1 81) 5) ((m.2.1 81) 6) (mTube (m.2.1 81) en cnt p))) ∧ ∃ v1 : kZ, h1 = HP c w m v1 E ∧ mFr 84 87 v v1) := by
  refine wp_aload_n 0 d_X10_wrong_0 rfl rfl ?_
  refine wp_virtual0 (As := []) d_X10_wrong_1 lk_X10_166 mv_X10_layTube in_X10_layTube se_X10_layTube (Nat.le_of_ble_eq_true rfl) (Nat.le_of_ble_eq_true rfl) (hp_80 _ _ _ _ _) rfl (s_X10_layTube hs1 hc8 hm hn hn9 hp hp4 hln) (fun v1 h1 q1 => ?_)
  obtain ⟨rfl, v1, rfl, hf1, hst1, hl1⟩ := q1
  show WP _ _ _ _ _ 4 _ [] (HP c w m v1 E) _
  refine wp_aload_n 0 d_X10_wrong_4 rfl rfl ?_
  refine wp_virtual0 (As := []) d_X10_wrong_5 lk_X10_159 mv_X10_wrongOf in_X10_wrongOf se_X10_wrongOf (Nat.le_of_ble_eq_true rfl) (Nat.le_of_ble_eq_true rfl) (hp_80 _ _ _ _ _) rfl (s_X10_wrongOf (l := (mTube (m.2.1 81) en cnt p)) (by rw [mTube_len]; omega) hl1) (fun v5 h5 q5 => ?_)
  obtain ⟨rfl, u1, rfl, hu1⟩ := q5
  show WP _ _ _ _ _ 8 _ [.int (mwr ((m.2.1 81) 5) ((m.2.1 81) 6) (mTube (m.2.1 81) en cnt p))] (HP c w m u1 E) _
  refine wp_reti d_X10_wrong_8 rfl ?_
  exact ⟨rfl, _, rfl, hf1.tr (hu1.fr _ _)⟩
theorem s_X10_mended {X : kX} {d : Nat} {c w m v : kZ} {E : kH} {cnt : Nat} (hs1 : (m.2.1 81) 1 = nI cnt) (hc8 : cnt ≤ 8) {en : Nat → Nat} (hm : mWF (m.2.1 81) cnt en) {n : Nat} (hn : m.2.1 81 0 = nI n) (hn9 : n ≤ 9) {p : Nat} (hp : m.2.1 81 2 = nI p) (hp4 : p ≤ 4) (hln : ∀ j, j < p → vp_in (mlp (m.2.1 81) j) n) : WP X (d + 9) 0 0 Y_X10_mended 0 [(0, .ref (80))] [] (HP c w m v E) (fun r1 h1 => r1 = some (.int (kb (mwr ((m.2.1 81) 5) ((m.2.1 81) 6) (mTube (m.2.1 81) en cnt p) ≤ (m.2.1 81) 7))) ∧ ∃ v1 : kZ, h1 = HP c w m v1 E ∧ mFr 84 87 v v1) := by
  refine wp_aload_n 0 d_X10_mended_0 rfl rfl ?_
  refine wp_virtual0 (As := []) d_X10_mended_1 lk_X10_166 mv_X10_layTube in_X10_layTube se_X10_layTube (Nat.le_of_ble_eq_true rfl) (Nat.le_of_ble_eq_true rfl) (hp_80 _ _ _ _ _) rfl (s_X10_layTube hs1 hc8 hm hn hn9 hp hp4 hln) (fun v1 h1 q1 => ?_)
  obtain ⟨rfl, v1, rfl, hf1, hst1, hl1⟩ := q1
  show WP _ _ _ _ _ 4 _ [] (HP c w m v1 E) _
  refine wp_aload_n 0 d_X10_mended_4 rfl rfl ?_
  refine wp_virtual0 (As := []) d_X10_mended_5 lk_X10_169 mv_X10_isMended in_X10_isMended se_X10_isMended (Nat.le_of_ble_eq_true rfl) (Nat.le_of_ble_eq_true rfl) (hp_80 _ _ _ _ _) rfl (s_X10_isMended (l := (mTube (m.2.1 81) en cnt p)) (by rw [mTube_len]; omega) hl1) (fun v5 h5 q5 => ?_)
  obtain ⟨rfl, u1, rfl, hu1⟩ := q5
  show WP _ _ _ _ _ 8 _ [.int (kb (mwr ((m.2.1 81) 5) ((m.2.1 81) 6) (mTube (m.2.1 81) en cnt p) ≤ (m.2.1 81) 7))] (HP c w m u1 E) _
  refine wp_ifb_eq 15 d_X10_mended_8 rfl (fun c8 => ?_) (fun c8 => ?_)
  · refine wp_iconst (v0 := 0) d_X10_mended_15 rfl ?_
    refine wp_reti d_X10_mended_16 rfl ?_
    exact ⟨congrArg (fun z => some (Value.int z)) (Eq.symm (kb_f c8)), _, rfl, hf1.tr (hu1.fr _ _)⟩
  · refine wp_iconst (v0 := 1) d_X10_mended_11 rfl ?_
    refine wp_goto 16 d_X10_mended_12 rfl ?_
    refine wp_reti d_X10_mended_16 rfl ?_
    exact ⟨congrArg (fun z => some (Value.int z)) (Eq.symm (kb_t c8)), _, rfl, hf1.tr (hu1.fr _ _)⟩
theorem s_X10_seen {X : kX} {d : Nat} {c w m v : kZ} {E : kH} {cnt : Nat} (hs1 : (m.2.1 81) 1 = nI cnt) (hc8 : cnt ≤ 8) {en : Nat → Nat} (hm : mWF (m.2.1 81) cnt en) {n : Nat} (hn : m.2.1 81 0 = nI n) (hn9 : n ≤ 9) {p : Nat} (hp : m.2.1 81 2 = nI p) (hp4 : p ≤ 4) (hln : ∀ j, j < p → vp_in (mlp (m.2.1 81) j) n) (x : Int32) : WP X (d + 9) 0 0 Y_X10_seen 0 [(0, .ref (80)), (1, .int (x))] [] (HP c w m v E) (fun r1 h1 => (¬ (-9 ≤ x.toInt ∧ x.toInt ≤ 9) ∧ r1 = some (.int (-1)) ∧ h1 = HP c w m v E) ∨ ((-9 ≤ x.toInt ∧ x.toInt ≤ 9) ∧ r1 = some (.int (msee ((m.2.1 81) 5) ((m.2.1 81) 6) (mTube (m.2.1 81) en cnt p) (x))) ∧ ∃ v1 : kZ, h1 = HP c w m v1 E ∧ mFr 84 87 v v1)) := by
  refine wp_iload_n 1 d_X10_seen_0 rfl rfl ?_
  refine wp_stc_i (As := [.int (x)]) (x0 := kb (-9 ≤ (x : Int32).toInt ∧ (x : Int32).toInt ≤ 9)) (h1 := HP c w m v E) d_X10_seen_1 lk_X10_163 mv_X10_isHeight st_X10_isHeight (Nat.le_of_ble_eq_true rfl) (Nat.le_of_ble_eq_true rfl) (s_X10_isHeight _ (x : Int32)) ?_
  refine wp_ifb_ne 9 d_X10_seen_4 rfl (fun c4 => ?_) (fun c4 => ?_)
  · refine wp_aload_n 0 d_X10_seen_9 rfl rfl ?_
    refine wp_virtual0 (As := []) d_X10_seen_10 lk_X10_166 mv_X10_layTube in_X10_layTube se_X10_layTube (Nat.le_of_ble_eq_true rfl) (Nat.le_of_ble_eq_true rfl) (hp_80 _ _ _ _ _) rfl (s_X10_layTube hs1 hc8 hm hn hn9 hp hp4 hln) (fun v10 h10 q10 => ?_)
    obtain ⟨rfl, v1, rfl, hf1, hst1, hl1⟩ := q10
    show WP _ _ _ _ _ 13 _ [] (HP c w m v1 E) _
    refine wp_aload_n 0 d_X10_seen_13 rfl rfl ?_
    refine wp_iload_n 1 d_X10_seen_14 rfl rfl ?_
    refine wp_virtual0 (As := [.int (x)]) d_X10_seen_15 lk_X10_153 mv_X10_seenBy in_X10_seenBy se_X10_seenBy (Nat.le_of_ble_eq_true rfl) (Nat.le_of_ble_eq_true rfl) (hp_80 _ _ _ _ _) rfl (s_X10_seenBy (l := (mTube (m.2.1 81) en cnt p)) (by rw [mTube_len]; omega) hl1 (x)) (fun v15 h15 q15 => ?_)
    obtain ⟨rfl, u1, rfl, hu1⟩ := q15
    have hld1 := hl1.h hu1
    show WP _ _ _ _ _ 18 _ [.int (msee ((m.2.1 81) 5) ((m.2.1 81) 6) (mTube (m.2.1 81) en cnt p) (x))] (HP c w m u1 E) _
    refine wp_reti d_X10_seen_18 rfl ?_
    exact Or.inr ⟨c4, rfl, _, rfl, hf1.tr (hu1.fr _ _)⟩
  · refine wp_iconst (v0 := -1) d_X10_seen_7 rfl ?_
    refine wp_reti d_X10_seen_8 rfl ?_
    exact Or.inl ⟨c4, rfl, rfl⟩
theorem s_X10_lensOf {X : kX} {d : Nat} {c w m v : kZ} {E : kH} {cnt : Nat} (hs1 : (m.2.1 81) 1 = nI cnt) (hc8 : cnt ≤ 8) {en : Nat → Nat} (hm : mWF (m.2.1 81) cnt en) {n : Nat} (hn : m.2.1 81 0 = nI n) (hn9 : n ≤ 9) {p : Nat} (hp : m.2.1 81 2 = nI p) (hp4 : p ≤ 4) (x u : Int32) : WP X (d + 9) 0 0 Y_X10_lensOf 0 [(0, .ref (80)), (1, .int (x)), (2, .int (u))] [] (HP c w m v E) (fun r1 h1 => (¬ ((0 ≤ x.toInt ∧ x.toInt < (n : Int)) ∧ 0 ≤ u.toInt ∧ u.toInt ≤ 5) ∧ r1 = some (.int (-1)) ∧ h1 = HP c w m v E) ∨ ∃ l k : Nat, l < n ∧ k ≤ 5 ∧ x = nI l ∧ u = nI k ∧ r1 = some (.int (if k = 4 then mstr (m.2.1 81) en cnt l else if k = 5 then kfi (mln (m.2.1 81)) (nI l) p 0 else (m.2.1 81) (9 + 4 * l + k))) ∧ ∃ v1 : kZ, h1 = HP c w m v1 E ∧ mFr 84 87 v v1) := by
  refine wp_aload_n 0 d_X10_lensOf_0 rfl rfl ?_
  refine wp_iload_n 1 d_X10_lensOf_1 rfl rfl ?_
  refine wp_vrt_i (As := [.int (x)]) (x0 := kb (0 ≤ ((x) : Int32).toInt ∧ ((x) : Int32).toInt < (n : Int))) (h1 := HP c w m v E) d_X10_lensOf_2 lk_X10_114 mv_X10_isLens in_X10_isLens se_X10_isLens (Nat.le_of_ble_eq_true rfl) (Nat.le_of_ble_eq_true rfl) (hp_80 _ _ _ _ _) rfl (s_X10_isLens hn (by omega) (x)) ?_
  refine wp_ifb_eq 20 d_X10_lensOf_5 rfl (fun c5 => ?_) (fun c5 => ?_)
  · refine wp_iconst (v0 := -1) d_X10_lensOf_20 rfl ?_
    refine wp_reti d_X10_lensOf_21 rfl ?_
    exact Or.inl ⟨by omega, rfl, rfl⟩
  · refine wp_iload_n 2 d_X10_lensOf_8 rfl rfl ?_
    refine wp_i2l d_X10_lensOf_9 ?_
    refine wp_lconst (v0 := 0) d_X10_lensOf_10 rfl ?_
    refine wp_ldc2 (v0 := 5) d_X10_lensOf_11 cl_X10_82 ?_
    refine wp_stc_i (As := [.long (Int32.toInt64 (u)), .long (0), .long (5)]) (x0 := kb (0 ≤ (u : Int32).toInt ∧ (u : Int32).toInt ≤ 5)) (h1 := HP c w m v E) d_X10_lensOf_14 lk_X10_74 mv_X10_in st_X10_in (Nat.le_of_ble_eq_true rfl) (Nat.le_of_ble_eq_true rfl) (s_X10_in_i _ (u) (0) (5)) ?_
    refine wp_ifb_ne 22 d_X10_lensOf_17 rfl (fun c17 => ?_) (fun c17 => ?_)
    · obtain ⟨l, hl, rfl⟩ := k_nat c5
      obtain ⟨k, hk, rfl⟩ := k_natle (n := 5) c17
      refine wp_iload_n 2 d_X10_lensOf_22 rfl rfl ?_
      refine wp_iconst (v0 := 4) d_X10_lensOf_23 rfl ?_
      refine wp_ncmp_ne (a := k) (b := 4) 35 d_X10_lensOf_24 rfl (by omega) (by omega) (fun c24 => ?_) (fun c24 => ?_)
      · refine wp_iload_n 2 d_X10_lensOf_35 rfl rfl ?_
        refine wp_iconst (v0 := 5) d_X10_lensOf_36 rfl ?_
        refine wp_ncmp_ne (a := k) (b := 5) 48 d_X10_lensOf_37 rfl (by omega) (by omega) (fun c37 => ?_) (fun c37 => ?_)
        · refine wp_aload_n 0 d_X10_lensOf_48 rfl rfl ?_
          refine wp_iload_n 1 d_X10_lensOf_49 rfl rfl ?_
          refine wp_iload_n 2 d_X10_lensOf_50 rfl rfl ?_
          refine wp_vrt_i (As := [.int (nI (l)), .int (nI (k))]) (x0 := (m.2.1 81) (9 + 4 * (l) + (k))) (h1 := HP c w m v E) d_X10_lensOf_51 lk_X10_98 mv_X10_its in_X10_its se_X10_its (Nat.le_of_ble_eq_true rfl) (Nat.le_of_ble_eq_true rfl) (hp_80 _ _ _ _ _) rfl (s_X10_its (j := l) (u := k) (by omega) (by omega)) ?_
          refine wp_reti d_X10_lensOf_54 rfl ?_
          refine Or.inr ⟨l, k, hl, hk, rfl, rfl, congrArg (fun z => some (Value.int z)) ?_, _, rfl, ?_⟩
          · rw [if_neg (by omega), if_neg (by omega)]
          · exact mFr.rf _ _ _
        · refine wp_aload_n 0 d_X10_lensOf_40 rfl rfl ?_
          refine wp_iload_n 1 d_X10_lensOf_41 rfl rfl ?_
          refine wp_vrt_i (As := [.int (nI (l))]) (x0 := kfi (mln (m.2.1 81)) (nI (l)) p 0) (h1 := HP c w m v E) d_X10_lensOf_42 lk_X10_121 mv_X10_placeOf in_X10_placeOf se_X10_placeOf (Nat.le_of_ble_eq_true rfl) (Nat.le_of_ble_eq_true rfl) (hp_80 _ _ _ _ _) rfl (s_X10_placeOf hp (by omega) (nI (l))) ?_
          refine wp_goto 54 d_X10_lensOf_45 rfl ?_
          refine wp_reti d_X10_lensOf_54 rfl ?_
          refine Or.inr ⟨l, k, hl, hk, rfl, rfl, congrArg (fun z => some (Value.int z)) ?_, _, rfl, ?_⟩
          · rw [if_neg (by omega), if_pos (by omega)]
          · exact mFr.rf _ _ _
      · refine wp_aload_n 0 d_X10_lensOf_27 rfl rfl ?_
        refine wp_iload_n 1 d_X10_lensOf_28 rfl rfl ?_
        refine wp_virtual0 (As := [.int (nI (l))]) d_X10_lensOf_29 lk_X10_117 mv_X10_strengthOf in_X10_strengthOf se_X10_strengthOf (Nat.le_of_ble_eq_true rfl) (Nat.le_of_ble_eq_true rfl) (hp_80 _ _ _ _ _) rfl (s_X10_strengthOf (l := l) (by omega) hs1 hc8 hm) (fun v29 h29 q29 => ?_)
        obtain ⟨rfl, f1, rfl⟩ := q29
        show WP _ _ _ _ _ 32 _ [.int (mstr (m.2.1 81) en cnt (l))] (HP c w m (setA v 84 (f1)) E) _
        refine wp_goto 54 d_X10_lensOf_32 rfl ?_
        refine wp_reti d_X10_lensOf_54 rfl ?_
        refine Or.inr ⟨l, k, hl, hk, rfl, rfl, congrArg (fun z => some (Value.int z)) ?_, _, rfl, ?_⟩
        · rw [if_pos (by omega)]
        · exact (⟨fun _ _ => rfl, fun k9 h9 => by simp only [setA]; rw [updA_n _ _ (by omega)], rfl⟩)
    · refine wp_iconst (v0 := -1) d_X10_lensOf_20 rfl ?_
      refine wp_reti d_X10_lensOf_21 rfl ?_
      exact Or.inl ⟨by omega, rfl, rfl⟩
/-! scans for the first least -/
abbrev kP2 : Type := Int32 × Int32
def ksIn (W : Nat → Nat → Int32) (s : kP2) (i a : Nat) : Nat → kP2
  | 0 => s
  | k + 1 => if W i (a + k) < (ksIn W s i a k).1 then (W i (a + k), nI (10 * i + (a + k))) else ksIn W s i a k
def ksOut (W : Nat → Nat → Int32) (a b : Nat → Nat) (s : kP2) : Nat → kP2
  | 0 => s
  | i + 1 => ksIn W (ksOut W a b s i) i (a i) (b i)
theorem ksIn_t {W : Nat → Nat → Int32} {s : kP2} {i a k : Nat} {q : Nat} (hq : a + k = q) (h : W i q < (ksIn W s i a k).1) : ksIn W s i a (k + 1) = (W i q, nI (10 * i + q)) := by
  subst hq
  exact if_pos h
theorem ksIn_f {W : Nat → Nat → Int32} {s : kP2} {i a k : Nat} {q : Nat} (hq : a + k = q) (h : ¬ W i q < (ksIn W s i a k).1) : ksIn W s i a (k + 1) = ksIn W s i a k := by
  subst hq
  exact if_neg h
theorem ktub_get {sx bd : Int32} {st tl ln tn : Nat → Int32} {p j : Nat} (h : j < (ktub sx bd st tl ln tn p).length) : (ktub sx bd st tl ln tn p)[j] = kent sx bd st tl ln tn j := by simp [ktub]
theorem mLaid_upd {v : kZ} {st tl ln tn : Nat → Int32} {p i l : Nat} {t x : Int32} (h : mLaid v (ktub (-9) 0 st tl ln (upd tn i x) p)) (hp : p ≤ 4) (hi : i < p) (hl : ln i = nI l) (hl9 : l < 9) (hst : v.2.1 85 l = st l) : mLaid (setA (setA v 86 (upd (v.2.1 86) i (v.2.1 85 l))) 87 (upd (v.2.1 87) i (kpush (tl l) t))) (ktub (-9) 0 st tl ln (upd tn i t) p) := by
  refine ⟨?_, fun j hj => ?_⟩
  · rw [ktub_len]
    have h1 := h.1
    rw [ktub_len] at h1
    exact h1
  · rw [ktub_get]
    rw [ktub_len] at hj
    show (upd (v.2.1 86) i _ j, upd (v.2.1 87) i _ j) = _
    by_cases e : j = i
    · subst e
      rw [upd_s, upd_s]
      unfold kent
      rw [if_neg (nI_n9 _ (by omega)), hl, nI_clamp (by omega), upd_s, hst]
    · rw [upd_n _ _ e, upd_n _ _ e, h.2 j (by rw [ktub_len]; exact hj), ktub_get]
      unfold kent
      rw [upd_n _ _ e, upd_n _ _ e]
abbrev mSt (s : Nat → Int32) (en : Nat → Nat) (cnt n : Nat) (v : kZ) : Prop := ∀ l, l < n → v.2.1 85 l = mstr s en cnt l
theorem mSt.fr {s : Nat → Int32} {en : Nat → Nat} {cnt n : Nat} {v v' : kZ} (h : mSt s en cnt n v) {a b : Nat} (g : mFr a b v v') (ha : 85 < a) : mSt s en cnt n v' := fun l hl => (congrFun (g.2.1 85 (Or.inl ha)) l).trans (h l hl)
def mfixW (s : Nat → Int32) (en : Nat → Nat) (cnt p : Nat) (i t : Nat) : Int32 := mwr (s 5) (s 6) (ktub (-9) 0 (fun l => mstr s en cnt l) (mtl s) (mlp s) (upd (mtp s) i (nI t)) p)
theorem s_X10_layPlaces_t {X : kX} {d : Nat} {c w m v : kZ} {E : kH} {n : Nat} (hn : m.2.1 81 0 = nI n) (hn9 : n ≤ 9) {p : Nat} (hp : m.2.1 81 2 = nI p) (hp4 : p ≤ 4) (hln : ∀ j, j < p → vp_in (mlp (m.2.1 81) j) n) {st : Nat → Int32} (hS : ∀ l, l < n → v.2.1 85 l = st l) : WP X (d + 3) 0 0 Y_X10_layPlaces 0 [(0, .ref 80)] [] (HP c w m v E) (fun r1 h1 => r1 = none ∧ ∃ v1 : kZ, h1 = HP c w m v1 E ∧ mFr 86 87 v v1 ∧ mLaid v1 (ktub (-9) 0 st (mtl (m.2.1 81)) (mlp (m.2.1 81)) (mtp (m.2.1 81)) p)) := by
  have L := s_X10_layPlaces (X := X) (d := d) (c := c) (w := w) (m := m) (v := v) (E := E) hp hp4 (mln9 hn9 hln)
  rw [ktub_congr (n := n) hS (fun _ _ => rfl) hln] at L
  exact L
theorem s_X10_fix_i {X : kX} {d : Nat} {c w m v : kZ} {E : kH} {cnt : Nat} (hs1 : (m.2.1 81) 1 = nI cnt) (hc8 : cnt ≤ 8) {en : Nat → Nat} (hm : mWF (m.2.1 81) cnt en) {n : Nat} (hn : m.2.1 81 0 = nI n) (hn9 : n ≤ 9) {p : Nat} (hp : m.2.1 81 2 = nI p) (hp4 : p ≤ 4) (hln : ∀ j, j < p → vp_in (mlp (m.2.1 81) j) n) {i : Nat} (hi : i < p) (s0 : kP2) {Q : Option Value → kH → Prop} (K : ∀ v2 : kZ, mFr 84 87 v v2 → mSt (m.2.1 81) en cnt n v2 → WP X (d + 9) 0 0 Y_X10_fix 94 [(4, .int 4), (3, .int (nI i)), (2, .int (ksIn (mfixW (m.2.1 81) en cnt p) s0 i 0 4).2), (1, .int (ksIn (mfixW (m.2.1 81) en cnt p) s0 i 0 4).1), (0, .ref 80)] [] (HP c w m v2 E) Q) : ∀ (k : Nat) (t : Nat) (v' : kZ), (t + k = 4) → (mFr 84 87 v v') → (mSt (m.2.1 81) en cnt n v') → (∃ x, mLaid v' (ktub (-9) 0 (fun l => mstr (m.2.1 81) en cnt l) (mtl (m.2.1 81)) (mlp (m.2.1 81)) (upd (mtp (m.2.1 81)) i x) p)) → WP X (d + 9) 0 0 Y_X10_fix 27 [(4, .int (nI (t))), (3, .int (nI (i))), (2, .int ((ksIn (mfixW (m.2.1 81) en cnt p) s0 i 0 t).2)), (1, .int ((ksIn (mfixW (m.2.1 81) en cnt p) s0 i 0 t).1)), (0, .ref (80))] [] (HP c w m v' E) Q := by
  intro k
  induction k using Nat.strongRecOn with
  | ind k ih =>
    intro t v' ht hf hS hL0
    obtain ⟨x9, hL⟩ := hL0
    refine wp_iload 0 d_X10_fix_27 rfl ?_
    refine wp_iconst (v0 := 4) d_X10_fix_29 rfl ?_
    refine wp_ncmp_ge (a := t) (b := 4) 94 d_X10_fix_30 rfl (by omega) (by omega) (fun c30 => ?_) (fun c30 => ?_)
    · obtain rfl : k = 0 := by omega
      obtain rfl : t = 4 := by omega
      exact K v' hf hS
    · obtain ⟨ln, hln9, hln1⟩ := vp_in_of (hln i (by omega)) (by omega)
      have hln1 : (m.2.1 81) (45 + 2 * i) = nI ln := hln1
      refine wp_aload_n 4 d_X10_fix_33 rfl rfl ?_
      refine wp_iload_n 1 d_X10_fix_34 rfl rfl ?_
      refine wp_aload_n 4 d_X10_fix_35 rfl rfl ?_
      refine wp_getfield (v := .ref (81)) d_X10_fix_36 gf_X10_7 (hp_80 _ _ _ _ _) rfl ?_
      refine wp_bipush (v0 := 45) d_X10_fix_39 (by decide) ?_
      refine wp_iconst (v0 := 2) d_X10_fix_41 rfl ?_
      refine wp_iload_n 1 d_X10_fix_42 rfl rfl ?_
      refine wp_imul d_X10_fix_43 ?_
      refine wp_v (v0 := nI ((2) * (i))) (pk_mul (2) (i)) ?_
      refine wp_iadd d_X10_fix_44 ?_
      refine wp_v (v0 := nI ((45) + ((2) * (i)))) (nI_add (45) ((2) * (i))) ?_
      refine wp_iaload (v := nI (ln)) d_X10_fix_45 (hp_81 _ _ _ _ _) (vp_in_nI (by omega) (by omega)) ((congrArg ((m.2.1 81)) (nI_clamp (by omega))).trans hln1) ?_
      refine wp_iload 0 d_X10_fix_46 rfl ?_
      refine wp_vrt_v (As := [.int (nI (i)), .int (nI (ln)), .int (nI (t))]) (h1 := HP c w m (setA (setA v' 86 (upd (v'.2.1 86) (i) ((v'.2.1 85) (ln)))) 87 (upd (v'.2.1 87) (i) (kpush (mtl (m.2.1 81) (ln)) (nI (t))))) E) d_X10_fix_48 lk_X10_139 mv_X10_thinks in_X10_thinks se_X10_thinks (Nat.le_of_ble_eq_true rfl) (Nat.le_of_ble_eq_true rfl) (hp_80 _ _ _ _ _) rfl (s_X10_thinks (p := i) (l := ln) (by omega) (by omega) (nI (t))) ?_
      have hl9 := mLaid_upd (t := nI t) hL hp4 hi hln1 (by omega) (hS ln hln9)
      have hf8 : mFr 84 87 v' ((setA (setA v' 86 (upd (v'.2.1 86) (i) ((v'.2.1 85) (ln)))) 87 (upd (v'.2.1 87) (i) (kpush (mtl (m.2.1 81) (ln)) (nI (t)))))) := ⟨fun _ _ => rfl, fun k9 h9 => by simp only [setA]; rw [updA_n _ _ (by omega), updA_n _ _ (by omega)], rfl⟩
      refine wp_aload_n 4 d_X10_fix_51 rfl rfl ?_
      refine wp_virtual0 (As := []) d_X10_fix_52 lk_X10_159 mv_X10_wrongOf in_X10_wrongOf se_X10_wrongOf (Nat.le_of_ble_eq_true rfl) (Nat.le_of_ble_eq_true rfl) (hp_80 _ _ _ _ _) rfl (s_X10_wrongOf (l := (ktub (-9) 0 (fun l => mstr (m.2.1 81) en cnt l) (mtl (m.2.1 81)) (mlp (m.2.1 81)) (upd (mtp (m.2.1 81)) i (nI t)) p)) (by rw [ktub_len]; omega) hl9) (fun v52 h52 q52 => ?_)
      obtain ⟨rfl, u1, rfl, hu1⟩ := q52
      have hld1 := hl9.h hu1
      show WP _ _ _ _ _ 55 _ [.int (mwr ((m.2.1 81) 5) ((m.2.1 81) 6) (ktub (-9) 0 (fun l => mstr (m.2.1 81) en cnt l) (mtl (m.2.1 81)) (mlp (m.2.1 81)) (upd (mtp (m.2.1 81)) i (nI t)) p))] (HP c w m u1 E) _
      refine wp_istore [(5, .int (mwr ((m.2.1 81) 5) ((m.2.1 81) 6) (ktub (-9) 0 (fun l => mstr (m.2.1 81) en cnt l) (mtl (m.2.1 81)) (mlp (m.2.1 81)) (upd (mtp (m.2.1 81)) i (nI t)) p))), (4, .int (nI (t))), (3, .int (nI (i))), (2, .int ((ksIn (mfixW (m.2.1 81) en cnt p) s0 i 0 t).2)), (1, .int ((ksIn (mfixW (m.2.1 81) en cnt p) s0 i 0 t).1)), (0, .ref (80))] d_X10_fix_55 (Nat.le_of_ble_eq_true rfl) rfl ?_
      refine wp_iload 0 d_X10_fix_57 rfl ?_
      refine wp_iload_n 4 d_X10_fix_59 rfl rfl ?_
      refine wp_icmp_ge 73 d_X10_fix_60 rfl (fun c60 => ?_) (fun c60 => ?_)
      · refine wp_iload_n 3 d_X10_fix_73 rfl rfl ?_
        refine wp_istore_n [(2, .int ((ksIn (mfixW (m.2.1 81) en cnt p) s0 i 0 t).2)), (5, .int (mwr ((m.2.1 81) 5) ((m.2.1 81) 6) (ktub (-9) 0 (fun l => mstr (m.2.1 81) en cnt l) (mtl (m.2.1 81)) (mlp (m.2.1 81)) (upd (mtp (m.2.1 81)) i (nI t)) p))), (4, .int (nI (t))), (3, .int (nI (i))), (1, .int ((ksIn (mfixW (m.2.1 81) en cnt p) s0 i 0 t).1)), (0, .ref (80))] d_X10_fix_74 rfl (Nat.le_of_ble_eq_true rfl) rfl ?_
        refine wp_iload 1 d_X10_fix_75 rfl ?_
        refine wp_iload_n 4 d_X10_fix_77 rfl rfl ?_
        refine wp_icmp_ge 86 d_X10_fix_78 rfl (fun c78 => ?_) (fun c78 => ?_)
        · refine wp_iload_n 4 d_X10_fix_86 rfl rfl ?_
          refine wp_istore_n [(1, .int ((ksIn (mfixW (m.2.1 81) en cnt p) s0 i 0 t).1)), (2, .int ((ksIn (mfixW (m.2.1 81) en cnt p) s0 i 0 t).2)), (5, .int (mwr ((m.2.1 81) 5) ((m.2.1 81) 6) (ktub (-9) 0 (fun l => mstr (m.2.1 81) en cnt l) (mtl (m.2.1 81)) (mlp (m.2.1 81)) (upd (mtp (m.2.1 81)) i (nI t)) p))), (4, .int (nI (t))), (3, .int (nI (i))), (0, .ref (80))] d_X10_fix_87 rfl (Nat.le_of_ble_eq_true rfl) rfl ?_
          refine wp_iinc (v0 := nI ((t) + 1)) [(4, .int (nI ((t) + 1))), (1, .int ((ksIn (mfixW (m.2.1 81) en cnt p) s0 i 0 t).1)), (2, .int ((ksIn (mfixW (m.2.1 81) en cnt p) s0 i 0 t).2)), (5, .int (mwr ((m.2.1 81) 5) ((m.2.1 81) 6) (ktub (-9) 0 (fun l => mstr (m.2.1 81) en cnt l) (mtl (m.2.1 81)) (mlp (m.2.1 81)) (upd (mtp (m.2.1 81)) i (nI t)) p))), (3, .int (nI (i))), (0, .ref (80))] 3 d_X10_fix_88 rfl (nI_add (t) 1) (Nat.le_of_ble_eq_true rfl) rfl ?_
          refine wp_goto 27 d_X10_fix_91 rfl ?_
          obtain ⟨k1, rfl⟩ : ∃ k1, k = k1 + 1 := ⟨k - 1, by omega⟩
          refine wp_sub [(4, .int (nI ((t) + 1))), (3, .int (nI (i))), (2, .int ((ksIn (mfixW (m.2.1 81) en cnt p) s0 i 0 t).2)), (1, .int ((ksIn (mfixW (m.2.1 81) en cnt p) s0 i 0 t).1)), (0, .ref (80))] [0, 4, 2, 1, 5] rfl ?_
          have e9 := ksIn_f (W := mfixW (m.2.1 81) en cnt p) (s := s0) (i := i) (a := 0) (q := t) (Nat.zero_add t) (Int32.not_lt.mpr c60)
          have L := ih k1 (by omega) (t + 1) _ (by omega) (hf.tr ((hf8.tr (hu1.fr 84 87)))) (fun l hl => by rw [hu1.2]; exact hS l hl) ⟨_, hld1⟩
          rw [e9] at L
          exact L
        · refine wp_iload 1 d_X10_fix_81 rfl ?_
          refine wp_goto 87 d_X10_fix_83 rfl ?_
          refine wp_istore_n [(1, .int (mwr ((m.2.1 81) 5) ((m.2.1 81) 6) (ktub (-9) 0 (fun l => mstr (m.2.1 81) en cnt l) (mtl (m.2.1 81)) (mlp (m.2.1 81)) (upd (mtp (m.2.1 81)) i (nI t)) p))), (2, .int ((ksIn (mfixW (m.2.1 81) en cnt p) s0 i 0 t).2)), (5, .int (mwr ((m.2.1 81) 5) ((m.2.1 81) 6) (ktub (-9) 0 (fun l => mstr (m.2.1 81) en cnt l) (mtl (m.2.1 81)) (mlp (m.2.1 81)) (upd (mtp (m.2.1 81)) i (nI t)) p))), (4, .int (nI (t))), (3, .int (nI (i))), (0, .ref (80))] d_X10_fix_87 rfl (Nat.le_of_ble_eq_true rfl) rfl ?_
          refine wp_iinc (v0 := nI ((t) + 1)) [(4, .int (nI ((t) + 1))), (1, .int (mwr ((m.2.1 81) 5) ((m.2.1 81) 6) (ktub (-9) 0 (fun l => mstr (m.2.1 81) en cnt l) (mtl (m.2.1 81)) (mlp (m.2.1 81)) (upd (mtp (m.2.1 81)) i (nI t)) p))), (2, .int ((ksIn (mfixW (m.2.1 81) en cnt p) s0 i 0 t).2)), (5, .int (mwr ((m.2.1 81) 5) ((m.2.1 81) 6) (ktub (-9) 0 (fun l => mstr (m.2.1 81) en cnt l) (mtl (m.2.1 81)) (mlp (m.2.1 81)) (upd (mtp (m.2.1 81)) i (nI t)) p))), (3, .int (nI (i))), (0, .ref (80))] 3 d_X10_fix_88 rfl (nI_add (t) 1) (Nat.le_of_ble_eq_true rfl) rfl ?_
          refine wp_goto 27 d_X10_fix_91 rfl ?_
          exact absurd c60 c78
      · refine wp_bipush (v0 := 10) d_X10_fix_63 (by decide) ?_
        refine wp_iload_n 2 d_X10_fix_65 rfl rfl ?_
        refine wp_imul d_X10_fix_66 ?_
        refine wp_v (v0 := nI ((10) * (i))) (pk_mul (10) (i)) ?_
        refine wp_iload 1 d_X10_fix_67 rfl ?_
        refine wp_iadd d_X10_fix_69 ?_
        refine wp_v (v0 := nI (((10) * (i)) + (t))) (nI_add ((10) * (i)) (t)) ?_
        refine wp_goto 74 d_X10_fix_70 rfl ?_
        refine wp_istore_n [(2, .int (nI (((10) * (i)) + (t)))), (5, .int (mwr ((m.2.1 81) 5) ((m.2.1 81) 6) (ktub (-9) 0 (fun l => mstr (m.2.1 81) en cnt l) (mtl (m.2.1 81)) (mlp (m.2.1 81)) (upd (mtp (m.2.1 81)) i (nI t)) p))), (4, .int (nI (t))), (3, .int (nI (i))), (1, .int ((ksIn (mfixW (m.2.1 81) en cnt p) s0 i 0 t).1)), (0, .ref (80))] d_X10_fix_74 rfl (Nat.le_of_ble_eq_true rfl) rfl ?_
        refine wp_iload 1 d_X10_fix_75 rfl ?_
        refine wp_iload_n 4 d_X10_fix_77 rfl rfl ?_
        refine wp_icmp_ge 86 d_X10_fix_78 rfl (fun c78 => ?_) (fun c78 => ?_)
        · refine wp_iload_n 4 d_X10_fix_86 rfl rfl ?_
          refine wp_istore_n [(1, .int ((ksIn (mfixW (m.2.1 81) en cnt p) s0 i 0 t).1)), (2, .int (nI (((10) * (i)) + (t)))), (5, .int (mwr ((m.2.1 81) 5) ((m.2.1 81) 6) (ktub (-9) 0 (fun l => mstr (m.2.1 81) en cnt l) (mtl (m.2.1 81)) (mlp (m.2.1 81)) (upd (mtp (m.2.1 81)) i (nI t)) p))), (4, .int (nI (t))), (3, .int (nI (i))), (0, .ref (80))] d_X10_fix_87 rfl (Nat.le_of_ble_eq_true rfl) rfl ?_
          refine wp_iinc (v0 := nI ((t) + 1)) [(4, .int (nI ((t) + 1))), (1, .int ((ksIn (mfixW (m.2.1 81) en cnt p) s0 i 0 t).1)), (2, .int (nI (((10) * (i)) + (t)))), (5, .int (mwr ((m.2.1 81) 5) ((m.2.1 81) 6) (ktub (-9) 0 (fun l => mstr (m.2.1 81) en cnt l) (mtl (m.2.1 81)) (mlp (m.2.1 81)) (upd (mtp (m.2.1 81)) i (nI t)) p))), (3, .int (nI (i))), (0, .ref (80))] 3 d_X10_fix_88 rfl (nI_add (t) 1) (Nat.le_of_ble_eq_true rfl) rfl ?_
          refine wp_goto 27 d_X10_fix_91 rfl ?_
          exact absurd c78 c60
        · refine wp_iload 1 d_X10_fix_81 rfl ?_
          refine wp_goto 87 d_X10_fix_83 rfl ?_
          refine wp_istore_n [(1, .int (mwr ((m.2.1 81) 5) ((m.2.1 81) 6) (ktub (-9) 0 (fun l => mstr (m.2.1 81) en cnt l) (mtl (m.2.1 81)) (mlp (m.2.1 81)) (upd (mtp (m.2.1 81)) i (nI t)) p))), (2, .int (nI (((10) * (i)) + (t)))), (5, .int (mwr ((m.2.1 81) 5) ((m.2.1 81) 6) (ktub (-9) 0 (fun l => mstr (m.2.1 81) en cnt l) (mtl (m.2.1 81)) (mlp (m.2.1 81)) (upd (mtp (m.2.1 81)) i (nI t)) p))), (4, .int (nI (t))), (3, .int (nI (i))), (0, .ref (80))] d_X10_fix_87 rfl (Nat.le_of_ble_eq_true rfl) rfl ?_
          refine wp_iinc (v0 := nI ((t) + 1)) [(4, .int (nI ((t) + 1))), (1, .int (mwr ((m.2.1 81) 5) ((m.2.1 81) 6) (ktub (-9) 0 (fun l => mstr (m.2.1 81) en cnt l) (mtl (m.2.1 81)) (mlp (m.2.1 81)) (upd (mtp (m.2.1 81)) i (nI t)) p))), (2, .int (nI (((10) * (i)) + (t)))), (5, .int (mwr ((m.2.1 81) 5) ((m.2.1 81) 6) (ktub (-9) 0 (fun l => mstr (m.2.1 81) en cnt l) (mtl (m.2.1 81)) (mlp (m.2.1 81)) (upd (mtp (m.2.1 81)) i (nI t)) p))), (3, .int (nI (i))), (0, .ref (80))] 3 d_X10_fix_88 rfl (nI_add (t) 1) (Nat.le_of_ble_eq_true rfl) rfl ?_
          refine wp_goto 27 d_X10_fix_91 rfl ?_
          obtain ⟨k1, rfl⟩ : ∃ k1, k = k1 + 1 := ⟨k - 1, by omega⟩
          refine wp_sub [(4, .int (nI ((t) + 1))), (3, .int (nI (i))), (2, .int (nI (((10) * (i)) + (t)))), (1, .int (mwr ((m.2.1 81) 5) ((m.2.1 81) 6) (ktub (-9) 0 (fun l => mstr (m.2.1 81) en cnt l) (mtl (m.2.1 81)) (mlp (m.2.1 81)) (upd (mtp (m.2.1 81)) i (nI t)) p))), (0, .ref (80))] [0, 4, 2, 1, 5] rfl ?_
          have e9 := ksIn_t (W := mfixW (m.2.1 81) en cnt p) (s := s0) (i := i) (a := 0) (q := t) (Nat.zero_add t) (Int32.not_le.mp c60)
          have L := ih k1 (by omega) (t + 1) _ (by omega) (hf.tr ((hf8.tr (hu1.fr 84 87)))) (fun l hl => by rw [hu1.2]; exact hS l hl) ⟨_, hld1⟩
          rw [e9] at L
          exact L
theorem s_X10_fix_o {X : kX} {d : Nat} {c w m v : kZ} {E : kH} {cnt : Nat} (hs1 : (m.2.1 81) 1 = nI cnt) (hc8 : cnt ≤ 8) {en : Nat → Nat} (hm : mWF (m.2.1 81) cnt en) {n : Nat} (hn : m.2.1 81 0 = nI n) (hn9 : n ≤ 9) {p : Nat} (hp : m.2.1 81 2 = nI p) (hp4 : p ≤ 4) (hln : ∀ j, j < p → vp_in (mlp (m.2.1 81) j) n) (s0 : kP2) : ∀ (k : Nat) (i : Nat) (v' : kZ), (i + k = p) → (mFr 84 87 v v') → (mSt (m.2.1 81) en cnt n v') → (mLaid v' (mTube (m.2.1 81) en cnt p)) → WP X (d + 9) 0 0 Y_X10_fix 14 [(3, .int (nI (i))), (2, .int ((ksOut (mfixW (m.2.1 81) en cnt p) (fun _ => 0) (fun _ => 4) s0 i).2)), (1, .int ((ksOut (mfixW (m.2.1 81) en cnt p) (fun _ => 0) (fun _ => 4) s0 i).1)), (0, .ref (80))] [] (HP c w m v' E) (fun r1 h1 => r1 = some (.int ((ksOut (mfixW (m.2.1 81) en cnt p) (fun _ => 0) (fun _ => 4) s0 p).2)) ∧ ∃ v1 : kZ, h1 = HP c w m v1 E ∧ mFr 84 87 v v1) := by
  intro k
  induction k using Nat.strongRecOn with
  | ind k ih =>
    intro i v' hi hf hS hL
    refine wp_iload_n 0 d_X10_fix_14 rfl rfl ?_
    refine wp_aload_n 3 d_X10_fix_15 rfl rfl ?_
    refine wp_getfield (v := .ref (81)) d_X10_fix_16 gf_X10_7 (hp_80 _ _ _ _ _) rfl ?_
    refine wp_iconst (v0 := 2) d_X10_fix_19 rfl ?_
    refine wp_iaload (v := nI (p)) d_X10_fix_20 (hp_81 _ _ _ _ _) (kin rfl) hp ?_
    refine wp_ncmp_ge (a := i) (b := p) 104 d_X10_fix_21 rfl (by omega) (by omega) (fun c21 => ?_) (fun c21 => ?_)
    · refine wp_iload_n 1 d_X10_fix_104 rfl rfl ?_
      refine wp_reti d_X10_fix_105 rfl ?_
      obtain rfl : k = 0 := by omega
      obtain rfl : i = p := by omega
      exact ⟨rfl, v', rfl, hf⟩
    · refine wp_iconst (v0 := 0) d_X10_fix_24 rfl ?_
      refine wp_istore [(4, .int (0)), (3, .int (nI (i))), (2, .int ((ksOut (mfixW (m.2.1 81) en cnt p) (fun _ => 0) (fun _ => 4) s0 i).2)), (1, .int ((ksOut (mfixW (m.2.1 81) en cnt p) (fun _ => 0) (fun _ => 4) s0 i).1)), (0, .ref (80))] d_X10_fix_25 (Nat.le_of_ble_eq_true rfl) rfl ?_
      refine wp_sub [(4, .int (0)), (3, .int (nI (i))), (2, .int ((ksOut (mfixW (m.2.1 81) en cnt p) (fun _ => 0) (fun _ => 4) s0 i).2)), (1, .int ((ksOut (mfixW (m.2.1 81) en cnt p) (fun _ => 0) (fun _ => 4) s0 i).1)), (0, .ref (80))] [0, 1, 2, 3, 4] rfl ?_
      refine s_X10_fix_i hs1 hc8 hm hn hn9 hp hp4 hln (i := i) (by omega) (ksOut (mfixW (m.2.1 81) en cnt p) (fun _ => 0) (fun _ => 4) s0 i) (fun v2 hf2 hS2 => ?_) 4 0 v' (by omega) hf hS ⟨_, by rw [upd_self]; exact hL⟩
      refine wp_aload_n 4 d_X10_fix_94 rfl rfl ?_
      refine wp_virtual0 (As := []) d_X10_fix_95 lk_X10_132 mv_X10_layPlaces in_X10_layPlaces se_X10_layPlaces (Nat.le_of_ble_eq_true rfl) (Nat.le_of_ble_eq_true rfl) (hp_80 _ _ _ _ _) rfl (s_X10_layPlaces_t hn hn9 hp hp4 hln hS2) (fun v95 h95 q95 => ?_)
      obtain ⟨rfl, v3, rfl, hf3, hl3⟩ := q95
      show WP _ _ _ _ _ 98 _ [] (HP c w m v3 E) _
      refine wp_iinc (v0 := nI ((i) + 1)) [(3, .int (nI ((i) + 1))), (4, .int (4)), (2, .int ((ksIn (mfixW (m.2.1 81) en cnt p) (ksOut (mfixW (m.2.1 81) en cnt p) (fun _ => 0) (fun _ => 4) s0 i) i 0 4).2)), (1, .int ((ksIn (mfixW (m.2.1 81) en cnt p) (ksOut (mfixW (m.2.1 81) en cnt p) (fun _ => 0) (fun _ => 4) s0 i) i 0 4).1)), (0, .ref (80))] 1 d_X10_fix_98 rfl (nI_add (i) 1) (Nat.le_of_ble_eq_true rfl) rfl ?_
      refine wp_goto 14 d_X10_fix_101 rfl ?_
      obtain ⟨k1, rfl⟩ : ∃ k1, k = k1 + 1 := ⟨k - 1, by omega⟩
      refine wp_sub [(3, .int (nI ((i) + 1))), (2, .int ((ksIn (mfixW (m.2.1 81) en cnt p) (ksOut (mfixW (m.2.1 81) en cnt p) (fun _ => 0) (fun _ => 4) s0 i) i 0 4).2)), (1, .int ((ksIn (mfixW (m.2.1 81) en cnt p) (ksOut (mfixW (m.2.1 81) en cnt p) (fun _ => 0) (fun _ => 4) s0 i) i 0 4).1)), (0, .ref (80))] [0, 2, 3, 4] rfl ?_
      exact ih k1 (by omega) (i + 1) _ (by omega) (hf2.tr (hf3.mo (by decide) (by decide))) (hS2.fr hf3 (by decide)) hl3
theorem s_X10_fix {X : kX} {d : Nat} {c w m v : kZ} {E : kH} {cnt : Nat} (hs1 : (m.2.1 81) 1 = nI cnt) (hc8 : cnt ≤ 8) {en : Nat → Nat} (hm : mWF (m.2.1 81) cnt en) {n : Nat} (hn : m.2.1 81 0 = nI n) (hn9 : n ≤ 9) {p : Nat} (hp : m.2.1 81 2 = nI p) (hp4 : p ≤ 4) (hln : ∀ j, j < p → vp_in (mlp (m.2.1 81) j) n) : WP X (d + 9) 0 0 Y_X10_fix 0 [(0, .ref (80))] [] (HP c w m v E) (fun r1 h1 => r1 = some (.int ((ksOut (mfixW (m.2.1 81) en cnt p) (fun _ => 0) (fun _ => 4) (mwr ((m.2.1 81) 5) ((m.2.1 81) 6) (mTube (m.2.1 81) en cnt p), -3) p).2)) ∧ ∃ v1 : kZ, h1 = HP c w m v1 E ∧ mFr 84 87 v v1) := by
  refine wp_aload_n 0 d_X10_fix_0 rfl rfl ?_
  refine wp_virtual0 (As := []) d_X10_fix_1 lk_X10_166 mv_X10_layTube in_X10_layTube se_X10_layTube (Nat.le_of_ble_eq_true rfl) (Nat.le_of_ble_eq_true rfl) (hp_80 _ _ _ _ _) rfl (s_X10_layTube hs1 hc8 hm hn hn9 hp hp4 hln) (fun v1 h1 q1 => ?_)
  obtain ⟨rfl, v1, rfl, hf1, hst1, hl1⟩ := q1
  show WP _ _ _ _ _ 4 _ [] (HP c w m v1 E) _
  refine wp_aload_n 0 d_X10_fix_4 rfl rfl ?_
  refine wp_virtual0 (As := []) d_X10_fix_5 lk_X10_159 mv_X10_wrongOf in_X10_wrongOf se_X10_wrongOf (Nat.le_of_ble_eq_true rfl) (Nat.le_of_ble_eq_true rfl) (hp_80 _ _ _ _ _) rfl (s_X10_wrongOf (l := (mTube (m.2.1 81) en cnt p)) (by rw [mTube_len]; omega) hl1) (fun v5 h5 q5 => ?_)
  obtain ⟨rfl, u1, rfl, hu1⟩ := q5
  show WP _ _ _ _ _ 8 _ [.int (mwr ((m.2.1 81) 5) ((m.2.1 81) 6) (mTube (m.2.1 81) en cnt p))] (HP c w m u1 E) _
  refine wp_istore_n [(1, .int (mwr ((m.2.1 81) 5) ((m.2.1 81) 6) (mTube (m.2.1 81) en cnt p))), (0, .ref (80))] d_X10_fix_8 rfl (Nat.le_of_ble_eq_true rfl) rfl ?_
  refine wp_bipush (v0 := -3) d_X10_fix_9 (by decide) ?_
  refine wp_istore_n [(2, .int ((-3))), (1, .int (mwr ((m.2.1 81) 5) ((m.2.1 81) 6) (mTube (m.2.1 81) en cnt p))), (0, .ref (80))] d_X10_fix_11 rfl (Nat.le_of_ble_eq_true rfl) rfl ?_
  refine wp_iconst (v0 := 0) d_X10_fix_12 rfl ?_
  refine wp_istore_n [(3, .int (0)), (2, .int ((-3))), (1, .int (mwr ((m.2.1 81) 5) ((m.2.1 81) 6) (mTube (m.2.1 81) en cnt p))), (0, .ref (80))] d_X10_fix_13 rfl (Nat.le_of_ble_eq_true rfl) rfl ?_
  refine wp_sub [(3, .int (0)), (2, .int ((-3))), (1, .int (mwr ((m.2.1 81) 5) ((m.2.1 81) 6) (mTube (m.2.1 81) en cnt p))), (0, .ref (80))] [0, 1, 2, 3] rfl ?_
  exact s_X10_fix_o (v := v) hs1 hc8 hm hn hn9 hp hp4 hln (mwr ((m.2.1 81) 5) ((m.2.1 81) 6) (mTube (m.2.1 81) en cnt p), -3) p 0 _ (by omega) (hf1.tr (hu1.fr 84 87)) (fun l hl => by rw [hu1.2]; exact hst1 l hl) (hl1.h hu1)
def swp (f : Nat → Int32) (a b : Nat) : Nat → Int32 := upd (upd f a (f b)) b (f a)
def msw (s : Nat → Int32) (a b : Nat) : Nat → Int32 := fun k => if k = 45 + 2 * b then s (45 + 2 * a) else if k = 45 + 2 * b + 1 then s (45 + 2 * a + 1) else if k = 45 + 2 * a then s (45 + 2 * b) else if k = 45 + 2 * a + 1 then s (45 + 2 * b + 1) else s k
theorem swp_e (f : Nat → Int32) (a b j : Nat) : swp f a b j = if j = b then f a else if j = a then f b else f j := by
  unfold swp upd
  rfl
theorem mlp_msw (s : Nat → Int32) (a b : Nat) : mlp (msw s a b) = swp (mlp s) a b := by
  funext j
  rw [swp_e]
  simp only [mlp, msw]
  rw [if_neg (by omega : ¬ 45 + 2 * j = 45 + 2 * b + 1), if_neg (by omega : ¬ 45 + 2 * j = 45 + 2 * a + 1)]
  by_cases h : j = b
  · rw [if_pos (by omega), if_pos h]
  · rw [if_neg (by omega), if_neg h]
    by_cases g : j = a
    · rw [if_pos (by omega), if_pos g]
    · rw [if_neg (by omega), if_neg g]
theorem mtp_msw (s : Nat → Int32) (a b : Nat) : mtp (msw s a b) = swp (mtp s) a b := by
  funext j
  rw [swp_e]
  simp only [mtp, msw]
  rw [if_neg (by omega : ¬ 45 + 2 * j + 1 = 45 + 2 * b), if_neg (by omega : ¬ 45 + 2 * j + 1 = 45 + 2 * a)]
  by_cases h : j = b
  · rw [if_pos (by omega), if_pos h]
  · rw [if_neg (by omega), if_neg h]
    by_cases g : j = a
    · rw [if_pos (by omega), if_pos g]
    · rw [if_neg (by omega), if_neg g]
theorem msw_out (s : Nat → Int32) {a b k : Nat} (ha : a < 4) (hb : b < 4) (hk : k < 45 ∨ 52 < k) : msw s a b k = s k := by
  simp only [msw]
  rw [if_neg (by omega), if_neg (by omega), if_neg (by omega), if_neg (by omega)]
theorem msw_msw (s : Nat → Int32) (a b : Nat) : msw (msw s a b) a b = s := by
  funext k
  simp only [msw]
  by_cases h1 : k = 45 + 2 * b
  · rw [if_pos h1]
    by_cases e : a = b
    · subst e; simp [h1]
    · rw [if_neg (by omega), if_neg (by omega), if_pos trivial, h1]
  · rw [if_neg h1]
    by_cases h2 : k = 45 + 2 * b + 1
    · rw [if_pos h2]
      by_cases e : a = b
      · subst e; simp [h2]
      · rw [if_neg (by omega), if_neg (by omega), if_neg (by omega), if_pos trivial, h2]
    · rw [if_neg h2]
      by_cases h3 : k = 45 + 2 * a
      · rw [if_pos h3, if_pos trivial, h3]
      · rw [if_neg h3]
        by_cases h4 : k = 45 + 2 * a + 1
        · rw [if_pos h4, if_pos trivial, if_neg (by omega), h4]
        · rw [if_neg h4, if_neg h1, if_neg h2, if_neg h3, if_neg h4]
theorem s_X10_changes_m {X : kX} {d : Nat} {c w m v : kZ} {E : kH} {a b : Nat} (ha : a < 4) (hb : b < 4) {h' : kH} (he : HP c w (setA m 81 (msw (m.2.1 81) a b)) v E = h') : WP X d 0 0 Y_X10_changes 0 [(0, .ref 80), (1, .int (nI a)), (2, .int (nI b))] [] (HP c w m v E) (kR none h') := by
  subst he
  have L := s_X10_changes (X := X) (d := d) (c := c) (w := w) (m := m) (v := v) (E := E) ha hb
  refine wp_mono ?_ L
  rintro r1 h1 ⟨rfl, rfl⟩
  refine ⟨rfl, ?_⟩
  congr 2
  funext k
  simp only [msw, upd]
  repeat' split
  all_goals first | rfl | omega | (congr 1; omega) | skip
def mchgW (s : Nat → Int32) (en : Nat → Nat) (cnt p : Nat) (i q : Nat) : Int32 := mwr (s 5) (s 6) (ktub (-9) 0 (fun l => mstr s en cnt l) (mtl s) (swp (mlp s) i q) (swp (mtp s) i q) p)
theorem s_X10_layPlaces_w {X : kX} {d : Nat} {c w m v : kZ} {E : kH} {n : Nat} (hn : m.2.1 81 0 = nI n) (hn9 : n ≤ 9) {p : Nat} (hp : m.2.1 81 2 = nI p) (hp4 : p ≤ 4) (hln : ∀ j, j < p → vp_in (mlp (m.2.1 81) j) n) {st : Nat → Int32} (hS : ∀ l, l < n → v.2.1 85 l = st l) {i q : Nat} (hi : i < p) (hq : q < p) : WP X (d + 3) 0 0 Y_X10_layPlaces 0 [(0, .ref 80)] [] (HP c w (setA m 81 (msw (m.2.1 81) i q)) v E) (fun r1 h1 => r1 = none ∧ ∃ v1 : kZ, h1 = HP c w (setA m 81 (msw (m.2.1 81) i q)) v1 E ∧ mFr 86 87 v v1 ∧ mLaid v1 (ktub (-9) 0 st (mtl (m.2.1 81)) (swp (mlp (m.2.1 81)) i q) (swp (mtp (m.2.1 81)) i q) p)) := by
  have e1 : (setA m 81 (msw (m.2.1 81) i q)).2.1 81 = msw (m.2.1 81) i q := rfl
  have hln2 : ∀ j, j < p → vp_in (mlp (msw (m.2.1 81) i q) j) n := by
    intro j hj
    rw [mlp_msw, swp_e]
    split
    · exact hln i hi
    · split
      · exact hln q hq
      · exact hln j hj
  have L := s_X10_layPlaces_t (X := X) (d := d) (c := c) (w := w) (m := setA m 81 (msw (m.2.1 81) i q)) (v := v) (E := E) (n := n) ((msw_out _ (by omega) (by omega) (by omega)).trans hn) hn9 (p := p) ((msw_out _ (by omega) (by omega) (by omega)).trans hp) hp4 hln2 hS
  rw [e1, mlp_msw, mtp_msw, ktub_congr (n := n) (st' := st) (tl := mtl (msw (m.2.1 81) i q)) (tl' := mtl (m.2.1 81)) (fun _ _ => rfl) (fun l hl => msw_out _ (by omega) (by omega) (by omega)) (by rw [← mlp_msw]; exact hln2)] at L
  exact L
theorem s_X10_change_i {X : kX} {d : Nat} {c w m v : kZ} {E : kH} {cnt : Nat} (hs1 : (m.2.1 81) 1 = nI cnt) (hc8 : cnt ≤ 8) {en : Nat → Nat} (hm : mWF (m.2.1 81) cnt en) {n : Nat} (hn : m.2.1 81 0 = nI n) (hn9 : n ≤ 9) {p : Nat} (hp : m.2.1 81 2 = nI p) (hp4 : p ≤ 4) (hln : ∀ j, j < p → vp_in (mlp (m.2.1 81) j) n) {i : Nat} (hi : i < p) (s0 : kP2) {Q : Option Value → kH → Prop} (K : ∀ v2 : kZ, mFr 84 87 v v2 → mSt (m.2.1 81) en cnt n v2 → WP X (d + 9) 0 0 Y_X10_change 101 [(4, .int (nI p)), (3, .int (nI i)), (2, .int (ksIn (mchgW (m.2.1 81) en cnt p) s0 i (i + 1) (p - (i + 1))).2), (1, .int (ksIn (mchgW (m.2.1 81) en cnt p) s0 i (i + 1) (p - (i + 1))).1), (0, .ref 80)] [] (HP c w m v2 E) Q) : ∀ (k : Nat) (t : Nat) (v' : kZ), (i + 1 + t + k = p) → (mFr 84 87 v v') → (mSt (m.2.1 81) en cnt n v') → WP X (d + 9) 0 0 Y_X10_change 29 [(4, .int (nI (i + 1 + t))), (3, .int (nI (i))), (2, .int ((ksIn (mchgW (m.2.1 81) en cnt p) s0 i (i + 1) t).2)), (1, .int ((ksIn (mchgW (m.2.1 81) en cnt p) s0 i (i + 1) t).1)), (0, .ref (80))] [] (HP c w m v' E) Q := by
  intro k
  induction k using Nat.strongRecOn with
  | ind k ih =>
    intro t v' ht hf hS
    refine wp_iload 0 d_X10_change_29 rfl ?_
    refine wp_aload_n 4 d_X10_change_31 rfl rfl ?_
    refine wp_getfield (v := .ref (81)) d_X10_change_32 gf_X10_7 (hp_80 _ _ _ _ _) rfl ?_
    refine wp_iconst (v0 := 2) d_X10_change_35 rfl ?_
    refine wp_iaload (v := nI (p)) d_X10_change_36 (hp_81 _ _ _ _ _) (kin rfl) hp ?_
    refine wp_ncmp_ge (a := i + 1 + t) (b := p) 101 d_X10_change_37 rfl (by omega) (by omega) (fun c37 => ?_) (fun c37 => ?_)
    · obtain rfl : k = 0 := by omega
      obtain rfl : i + 1 + t = p := by omega
      have e8 : i + 1 + t - (i + 1) = t := by omega
      have L := K v' hf hS
      rw [e8] at L
      exact L
    · refine wp_aload_n 4 d_X10_change_40 rfl rfl ?_
      refine wp_iload_n 1 d_X10_change_41 rfl rfl ?_
      refine wp_iload 0 d_X10_change_42 rfl ?_
      refine wp_vrt_v (As := [.int (nI (i)), .int (nI (i + 1 + t))]) (h1 := HP c w (setA m 81 (msw (m.2.1 81) i (i + 1 + t))) v' E) d_X10_change_44 lk_X10_182 mv_X10_changes in_X10_changes se_X10_changes (Nat.le_of_ble_eq_true rfl) (Nat.le_of_ble_eq_true rfl) (hp_80 _ _ _ _ _) rfl (s_X10_changes_m (a := i) (b := i + 1 + t) (by omega) (by omega) rfl) ?_
      refine wp_aload_n 4 d_X10_change_47 rfl rfl ?_
      refine wp_virtual0 (As := []) d_X10_change_48 lk_X10_132 mv_X10_layPlaces in_X10_layPlaces se_X10_layPlaces (Nat.le_of_ble_eq_true rfl) (Nat.le_of_ble_eq_true rfl) (hp_80 _ _ _ _ _) rfl (s_X10_layPlaces_w hn hn9 hp hp4 hln hS hi (q := i + 1 + t) (by omega)) (fun v48 h48 q48 => ?_)
      obtain ⟨rfl, v3, rfl, hf3, hl3⟩ := q48
      show WP _ _ _ _ _ 51 _ [] (HP c w (setA m 81 (msw (m.2.1 81) i (i + 1 + t))) v3 E) _
      refine wp_aload_n 4 d_X10_change_51 rfl rfl ?_
      refine wp_iload_n 1 d_X10_change_52 rfl rfl ?_
      refine wp_iload 0 d_X10_change_53 rfl ?_
      refine wp_vrt_v (As := [.int (nI (i)), .int (nI (i + 1 + t))]) (h1 := HP c w m v3 E) d_X10_change_55 lk_X10_182 mv_X10_changes in_X10_changes se_X10_changes (Nat.le_of_ble_eq_true rfl) (Nat.le_of_ble_eq_true rfl) (hp_80 _ _ _ _ _) rfl (s_X10_changes_m (h' := HP c w m v3 E) (a := i) (b := i + 1 + t) (by omega) (by omega) (by rw [setA_idem]; show HP c w (setA m 81 (msw (msw (m.2.1 81) i (i + 1 + t)) i (i + 1 + t))) _ E = _; rw [msw_msw, setA_self])) ?_
      refine wp_aload_n 4 d_X10_change_58 rfl rfl ?_
      refine wp_virtual0 (As := []) d_X10_change_59 lk_X10_159 mv_X10_wrongOf in_X10_wrongOf se_X10_wrongOf (Nat.le_of_ble_eq_true rfl) (Nat.le_of_ble_eq_true rfl) (hp_80 _ _ _ _ _) rfl (s_X10_wrongOf (l := (ktub (-9) 0 (fun l => mstr (m.2.1 81) en cnt l) (mtl (m.2.1 81)) (swp (mlp (m.2.1 81)) i (i + 1 + t)) (swp (mtp (m.2.1 81)) i (i + 1 + t)) p)) (by rw [ktub_len]; omega) hl3) (fun v59 h59 q59 => ?_)
      obtain ⟨rfl, u1, rfl, hu1⟩ := q59
      show WP _ _ _ _ _ 62 _ [.int (mwr ((m.2.1 81) 5) ((m.2.1 81) 6) (ktub (-9) 0 (fun l => mstr (m.2.1 81) en cnt l) (mtl (m.2.1 81)) (swp (mlp (m.2.1 81)) i (i + 1 + t)) (swp (mtp (m.2.1 81)) i (i + 1 + t)) p))] (HP c w m u1 E) _
      refine wp_istore [(5, .int (mwr ((m.2.1 81) 5) ((m.2.1 81) 6) (ktub (-9) 0 (fun l => mstr (m.2.1 81) en cnt l) (mtl (m.2.1 81)) (swp (mlp (m.2.1 81)) i (i + 1 + t)) (swp (mtp (m.2.1 81)) i (i + 1 + t)) p))), (4, .int (nI (i + 1 + t))), (3, .int (nI (i))), (2, .int ((ksIn (mchgW (m.2.1 81) en cnt p) s0 i (i + 1) t).2)), (1, .int ((ksIn (mchgW (m.2.1 81) en cnt p) s0 i (i + 1) t).1)), (0, .ref (80))] d_X10_change_62 (Nat.le_of_ble_eq_true rfl) rfl ?_
      refine wp_iload 0 d_X10_change_64 rfl ?_
      refine wp_iload_n 4 d_X10_change_66 rfl rfl ?_
      refine wp_icmp_ge 80 d_X10_change_67 rfl (fun c67 => ?_) (fun c67 => ?_)
      · refine wp_iload_n 3 d_X10_change_80 rfl rfl ?_
        refine wp_istore_n [(2, .int ((ksIn (mchgW (m.2.1 81) en cnt p) s0 i (i + 1) t).2)), (5, .int (mwr ((m.2.1 81) 5) ((m.2.1 81) 6) (ktub (-9) 0 (fun l => mstr (m.2.1 81) en cnt l) (mtl (m.2.1 81)) (swp (mlp (m.2.1 81)) i (i + 1 + t)) (swp (mtp (m.2.1 81)) i (i + 1 + t)) p))), (4, .int (nI (i + 1 + t))), (3, .int (nI (i))), (1, .int ((ksIn (mchgW (m.2.1 81) en cnt p) s0 i (i + 1) t).1)), (0, .ref (80))] d_X10_change_81 rfl (Nat.le_of_ble_eq_true rfl) rfl ?_
        refine wp_iload 1 d_X10_change_82 rfl ?_
        refine wp_iload_n 4 d_X10_change_84 rfl rfl ?_
        refine wp_icmp_ge 93 d_X10_change_85 rfl (fun c85 => ?_) (fun c85 => ?_)
        · refine wp_iload_n 4 d_X10_change_93 rfl rfl ?_
          refine wp_istore_n [(1, .int ((ksIn (mchgW (m.2.1 81) en cnt p) s0 i (i + 1) t).1)), (2, .int ((ksIn (mchgW (m.2.1 81) en cnt p) s0 i (i + 1) t).2)), (5, .int (mwr ((m.2.1 81) 5) ((m.2.1 81) 6) (ktub (-9) 0 (fun l => mstr (m.2.1 81) en cnt l) (mtl (m.2.1 81)) (swp (mlp (m.2.1 81)) i (i + 1 + t)) (swp (mtp (m.2.1 81)) i (i + 1 + t)) p))), (4, .int (nI (i + 1 + t))), (3, .int (nI (i))), (0, .ref (80))] d_X10_change_94 rfl (Nat.le_of_ble_eq_true rfl) rfl ?_
          refine wp_iinc (v0 := nI ((i + 1 + t) + 1)) [(4, .int (nI ((i + 1 + t) + 1))), (1, .int ((ksIn (mchgW (m.2.1 81) en cnt p) s0 i (i + 1) t).1)), (2, .int ((ksIn (mchgW (m.2.1 81) en cnt p) s0 i (i + 1) t).2)), (5, .int (mwr ((m.2.1 81) 5) ((m.2.1 81) 6) (ktub (-9) 0 (fun l => mstr (m.2.1 81) en cnt l) (mtl (m.2.1 81)) (swp (mlp (m.2.1 81)) i (i + 1 + t)) (swp (mtp (m.2.1 81)) i (i + 1 + t)) p))), (3, .int (nI (i))), (0, .ref (80))] 3 d_X10_change_95 rfl (nI_add (i + 1 + t) 1) (Nat.le_of_ble_eq_true rfl) rfl ?_
          refine wp_goto 29 d_X10_change_98 rfl ?_
          obtain ⟨k1, rfl⟩ : ∃ k1, k = k1 + 1 := ⟨k - 1, by omega⟩
          refine wp_sub [(4, .int (nI ((i + 1 + t) + 1))), (3, .int (nI (i))), (2, .int ((ksIn (mchgW (m.2.1 81) en cnt p) s0 i (i + 1) t).2)), (1, .int ((ksIn (mchgW (m.2.1 81) en cnt p) s0 i (i + 1) t).1)), (0, .ref (80))] [0, 4, 2, 1, 5] rfl ?_
          have e9 := ksIn_f (W := (mchgW (m.2.1 81) en cnt p)) (s := s0) (i := i) (a := i + 1) (k := t) (q := i + 1 + t) rfl (Int32.not_lt.mpr c67)
          have L := ih k1 (by omega) (t + 1) _ (by omega) ((hf.tr (hf3.mo (by decide) (by decide))).tr (hu1.fr 84 87)) (fun l hl => by rw [hu1.2]; exact (hS.fr hf3 (by decide)) l hl)
          rw [e9] at L
          exact L
        · refine wp_iload 1 d_X10_change_88 rfl ?_
          refine wp_goto 94 d_X10_change_90 rfl ?_
          refine wp_istore_n [(1, .int (mwr ((m.2.1 81) 5) ((m.2.1 81) 6) (ktub (-9) 0 (fun l => mstr (m.2.1 81) en cnt l) (mtl (m.2.1 81)) (swp (mlp (m.2.1 81)) i (i + 1 + t)) (swp (mtp (m.2.1 81)) i (i + 1 + t)) p))), (2, .int ((ksIn (mchgW (m.2.1 81) en cnt p) s0 i (i + 1) t).2)), (5, .int (mwr ((m.2.1 81) 5) ((m.2.1 81) 6) (ktub (-9) 0 (fun l => mstr (m.2.1 81) en cnt l) (mtl (m.2.1 81)) (swp (mlp (m.2.1 81)) i (i + 1 + t)) (swp (mtp (m.2.1 81)) i (i + 1 + t)) p))), (4, .int (nI (i + 1 + t))), (3, .int (nI (i))), (0, .ref (80))] d_X10_change_94 rfl (Nat.le_of_ble_eq_true rfl) rfl ?_
          refine wp_iinc (v0 := nI ((i + 1 + t) + 1)) [(4, .int (nI ((i + 1 + t) + 1))), (1, .int (mwr ((m.2.1 81) 5) ((m.2.1 81) 6) (ktub (-9) 0 (fun l => mstr (m.2.1 81) en cnt l) (mtl (m.2.1 81)) (swp (mlp (m.2.1 81)) i (i + 1 + t)) (swp (mtp (m.2.1 81)) i (i + 1 + t)) p))), (2, .int ((ksIn (mchgW (m.2.1 81) en cnt p) s0 i (i + 1) t).2)), (5, .int (mwr ((m.2.1 81) 5) ((m.2.1 81) 6) (ktub (-9) 0 (fun l => mstr (m.2.1 81) en cnt l) (mtl (m.2.1 81)) (swp (mlp (m.2.1 81)) i (i + 1 + t)) (swp (mtp (m.2.1 81)) i (i + 1 + t)) p))), (3, .int (nI (i))), (0, .ref (80))] 3 d_X10_change_95 rfl (nI_add (i + 1 + t) 1) (Nat.le_of_ble_eq_true rfl) rfl ?_
          refine wp_goto 29 d_X10_change_98 rfl ?_
          exact absurd c67 c85
      · refine wp_bipush (v0 := 10) d_X10_change_70 (by decide) ?_
        refine wp_iload_n 2 d_X10_change_72 rfl rfl ?_
        refine wp_imul d_X10_change_73 ?_
        refine wp_v (v0 := nI ((10) * (i))) (pk_mul (10) (i)) ?_
        refine wp_iload 1 d_X10_change_74 rfl ?_
        refine wp_iadd d_X10_change_76 ?_
        refine wp_v (v0 := nI (((10) * (i)) + (i + 1 + t))) (nI_add ((10) * (i)) (i + 1 + t)) ?_
        refine wp_goto 81 d_X10_change_77 rfl ?_
        refine wp_istore_n [(2, .int (nI (((10) * (i)) + (i + 1 + t)))), (5, .int (mwr ((m.2.1 81) 5) ((m.2.1 81) 6) (ktub (-9) 0 (fun l => mstr (m.2.1 81) en cnt l) (mtl (m.2.1 81)) (swp (mlp (m.2.1 81)) i (i + 1 + t)) (swp (mtp (m.2.1 81)) i (i + 1 + t)) p))), (4, .int (nI (i + 1 + t))), (3, .int (nI (i))), (1, .int ((ksIn (mchgW (m.2.1 81) en cnt p) s0 i (i + 1) t).1)), (0, .ref (80))] d_X10_change_81 rfl (Nat.le_of_ble_eq_true rfl) rfl ?_
        refine wp_iload 1 d_X10_change_82 rfl ?_
        refine wp_iload_n 4 d_X10_change_84 rfl rfl ?_
        refine wp_icmp_ge 93 d_X10_change_85 rfl (fun c85 => ?_) (fun c85 => ?_)
        · refine wp_iload_n 4 d_X10_change_93 rfl rfl ?_
          refine wp_istore_n [(1, .int ((ksIn (mchgW (m.2.1 81) en cnt p) s0 i (i + 1) t).1)), (2, .int (nI (((10) * (i)) + (i + 1 + t)))), (5, .int (mwr ((m.2.1 81) 5) ((m.2.1 81) 6) (ktub (-9) 0 (fun l => mstr (m.2.1 81) en cnt l) (mtl (m.2.1 81)) (swp (mlp (m.2.1 81)) i (i + 1 + t)) (swp (mtp (m.2.1 81)) i (i + 1 + t)) p))), (4, .int (nI (i + 1 + t))), (3, .int (nI (i))), (0, .ref (80))] d_X10_change_94 rfl (Nat.le_of_ble_eq_true rfl) rfl ?_
          refine wp_iinc (v0 := nI ((i + 1 + t) + 1)) [(4, .int (nI ((i + 1 + t) + 1))), (1, .int ((ksIn (mchgW (m.2.1 81) en cnt p) s0 i (i + 1) t).1)), (2, .int (nI (((10) * (i)) + (i + 1 + t)))), (5, .int (mwr ((m.2.1 81) 5) ((m.2.1 81) 6) (ktub (-9) 0 (fun l => mstr (m.2.1 81) en cnt l) (mtl (m.2.1 81)) (swp (mlp (m.2.1 81)) i (i + 1 + t)) (swp (mtp (m.2.1 81)) i (i + 1 + t)) p))), (3, .int (nI (i))), (0, .ref (80))] 3 d_X10_change_95 rfl (nI_add (i + 1 + t) 1) (Nat.le_of_ble_eq_true rfl) rfl ?_
          refine wp_goto 29 d_X10_change_98 rfl ?_
          exact absurd c85 c67
        · refine wp_iload 1 d_X10_change_88 rfl ?_
          refine wp_goto 94 d_X10_change_90 rfl ?_
          refine wp_istore_n [(1, .int (mwr ((m.2.1 81) 5) ((m.2.1 81) 6) (ktub (-9) 0 (fun l => mstr (m.2.1 81) en cnt l) (mtl (m.2.1 81)) (swp (mlp (m.2.1 81)) i (i + 1 + t)) (swp (mtp (m.2.1 81)) i (i + 1 + t)) p))), (2, .int (nI (((10) * (i)) + (i + 1 + t)))), (5, .int (mwr ((m.2.1 81) 5) ((m.2.1 81) 6) (ktub (-9) 0 (fun l => mstr (m.2.1 81) en cnt l) (mtl (m.2.1 81)) (swp (mlp (m.2.1 81)) i (i + 1 + t)) (swp (mtp (m.2.1 81)) i (i + 1 + t)) p))), (4, .int (nI (i + 1 + t))), (3, .int (nI (i))), (0, .ref (80))] d_X10_change_94 rfl (Nat.le_of_ble_eq_true rfl) rfl ?_
          refine wp_iinc (v0 := nI ((i + 1 + t) + 1)) [(4, .int (nI ((i + 1 + t) + 1))), (1, .int (mwr ((m.2.1 81) 5) ((m.2.1 81) 6) (ktub (-9) 0 (fun l => mstr (m.2.1 81) en cnt l) (mtl (m.2.1 81)) (swp (mlp (m.2.1 81)) i (i + 1 + t)) (swp (mtp (m.2.1 81)) i (i + 1 + t)) p))), (2, .int (nI (((10) * (i)) + (i + 1 + t)))), (5, .int (mwr ((m.2.1 81) 5) ((m.2.1 81) 6) (ktub (-9) 0 (fun l => mstr (m.2.1 81) en cnt l) (mtl (m.2.1 81)) (swp (mlp (m.2.1 81)) i (i + 1 + t)) (swp (mtp (m.2.1 81)) i (i + 1 + t)) p))), (3, .int (nI (i))), (0, .ref (80))] 3 d_X10_change_95 rfl (nI_add (i + 1 + t) 1) (Nat.le_of_ble_eq_true rfl) rfl ?_
          refine wp_goto 29 d_X10_change_98 rfl ?_
          obtain ⟨k1, rfl⟩ : ∃ k1, k = k1 + 1 := ⟨k - 1, by omega⟩
          refine wp_sub [(4, .int (nI ((i + 1 + t) + 1))), (3, .int (nI (i))), (2, .int (nI (((10) * (i)) + (i + 1 + t)))), (1, .int (mwr ((m.2.1 81) 5) ((m.2.1 81) 6) (ktub (-9) 0 (fun l => mstr (m.2.1 81) en cnt l) (mtl (m.2.1 81)) (swp (mlp (m.2.1 81)) i (i + 1 + t)) (swp (mtp (m.2.1 81)) i (i + 1 + t)) p))), (0, .ref (80))] [0, 4, 2, 1, 5] rfl ?_
          have e9 := ksIn_t (W := (mchgW (m.2.1 81) en cnt p)) (s := s0) (i := i) (a := i + 1) (k := t) (q := i + 1 + t) rfl (Int32.not_le.mp c67)
          have L := ih k1 (by omega) (t + 1) _ (by omega) ((hf.tr (hf3.mo (by decide) (by decide))).tr (hu1.fr 84 87)) (fun l hl => by rw [hu1.2]; exact (hS.fr hf3 (by decide)) l hl)
          rw [e9] at L
          exact L
theorem s_X10_change_o {X : kX} {d : Nat} {c w m v : kZ} {E : kH} {cnt : Nat} (hs1 : (m.2.1 81) 1 = nI cnt) (hc8 : cnt ≤ 8) {en : Nat → Nat} (hm : mWF (m.2.1 81) cnt en) {n : Nat} (hn : m.2.1 81 0 = nI n) (hn9 : n ≤ 9) {p : Nat} (hp : m.2.1 81 2 = nI p) (hp4 : p ≤ 4) (hln : ∀ j, j < p → vp_in (mlp (m.2.1 81) j) n) (s0 : kP2) : ∀ (k : Nat) (i : Nat) (v' : kZ), (i + k = p) → (mFr 84 87 v v') → (mSt (m.2.1 81) en cnt n v') → WP X (d + 9) 0 0 Y_X10_change 14 [(3, .int (nI (i))), (2, .int ((ksOut (mchgW (m.2.1 81) en cnt p) (fun i => i + 1) (fun i => p - (i + 1)) s0 i).2)), (1, .int ((ksOut (mchgW (m.2.1 81) en cnt p) (fun i => i + 1) (fun i => p - (i + 1)) s0 i).1)), (0, .ref (80))] [] (HP c w m v' E) (fun r1 h1 => r1 = some (.int ((ksOut (mchgW (m.2.1 81) en cnt p) (fun i => i + 1) (fun i => p - (i + 1)) s0 p).2)) ∧ ∃ v1 : kZ, h1 = HP c w m v1 E ∧ mFr 84 87 v v1) := by
  intro k
  induction k using Nat.strongRecOn with
  | ind k ih =>
    intro i v' hi hf hS
    refine wp_iload_n 0 d_X10_change_14 rfl rfl ?_
    refine wp_aload_n 3 d_X10_change_15 rfl rfl ?_
    refine wp_getfield (v := .ref (81)) d_X10_change_16 gf_X10_7 (hp_80 _ _ _ _ _) rfl ?_
    refine wp_iconst (v0 := 2) d_X10_change_19 rfl ?_
    refine wp_iaload (v := nI (p)) d_X10_change_20 (hp_81 _ _ _ _ _) (kin rfl) hp ?_
    refine wp_ncmp_ge (a := i) (b := p) 107 d_X10_change_21 rfl (by omega) (by omega) (fun c21 => ?_) (fun c21 => ?_)
    · refine wp_iload_n 1 d_X10_change_107 rfl rfl ?_
      refine wp_reti d_X10_change_108 rfl ?_
      obtain rfl : k = 0 := by omega
      obtain rfl : i = p := by omega
      exact ⟨rfl, v', rfl, hf⟩
    · refine wp_iload_n 0 d_X10_change_24 rfl rfl ?_
      refine wp_iconst (v0 := 1) d_X10_change_25 rfl ?_
      refine wp_iadd d_X10_change_26 ?_
      refine wp_v (v0 := nI ((i) + (1))) (nI_add (i) (1)) ?_
      refine wp_istore [(4, .int (nI ((i) + (1)))), (3, .int (nI (i))), (2, .int ((ksOut (mchgW (m.2.1 81) en cnt p) (fun i => i + 1) (fun i => p - (i + 1)) s0 i).2)), (1, .int ((ksOut (mchgW (m.2.1 81) en cnt p) (fun i => i + 1) (fun i => p - (i + 1)) s0 i).1)), (0, .ref (80))] d_X10_change_27 (Nat.le_of_ble_eq_true rfl) rfl ?_
      refine wp_sub [(4, .int (nI ((i) + (1)))), (3, .int (nI (i))), (2, .int ((ksOut (mchgW (m.2.1 81) en cnt p) (fun i => i + 1) (fun i => p - (i + 1)) s0 i).2)), (1, .int ((ksOut (mchgW (m.2.1 81) en cnt p) (fun i => i + 1) (fun i => p - (i + 1)) s0 i).1)), (0, .ref (80))] [0, 1, 2, 3, 4] rfl ?_
      refine s_X10_change_i hs1 hc8 hm hn hn9 hp hp4 hln (i := i) (by omega) (ksOut (mchgW (m.2.1 81) en cnt p) (fun i => i + 1) (fun i => p - (i + 1)) s0 i) (fun v2 hf2 hS2 => ?_) (p - (i + 1)) 0 v' (by omega) hf hS
      refine wp_iinc (v0 := nI ((i) + 1)) [(3, .int (nI ((i) + 1))), (4, .int (nI (p))), (2, .int ((ksIn (mchgW (m.2.1 81) en cnt p) (ksOut (mchgW (m.2.1 81) en cnt p) (fun i => i + 1) (fun i => p - (i + 1)) s0 i) i (i + 1) (p - (i + 1))).2)), (1, .int ((ksIn (mchgW (m.2.1 81) en cnt p) (ksOut (mchgW (m.2.1 81) en cnt p) (fun i => i + 1) (fun i => p - (i + 1)) s0 i) i (i + 1) (p - (i + 1))).1)), (0, .ref (80))] 1 d_X10_change_101 rfl (nI_add (i) 1) (Nat.le_of_ble_eq_true rfl) rfl ?_
      refine wp_goto 14 d_X10_change_104 rfl ?_
      obtain ⟨k1, rfl⟩ : ∃ k1, k = k1 + 1 := ⟨k - 1, by omega⟩
      refine wp_sub [(3, .int (nI ((i) + 1))), (2, .int ((ksIn (mchgW (m.2.1 81) en cnt p) (ksOut (mchgW (m.2.1 81) en cnt p) (fun i => i + 1) (fun i => p - (i + 1)) s0 i) i (i + 1) (p - (i + 1))).2)), (1, .int ((ksIn (mchgW (m.2.1 81) en cnt p) (ksOut (mchgW (m.2.1 81) en cnt p) (fun i => i + 1) (fun i => p - (i + 1)) s0 i) i (i + 1) (p - (i + 1))).1)), (0, .ref (80))] [0, 2, 3, 4] rfl ?_
      exact ih k1 (by omega) (i + 1) _ (by omega) hf2 hS2
theorem s_X10_change {X : kX} {d : Nat} {c w m v : kZ} {E : kH} {cnt : Nat} (hs1 : (m.2.1 81) 1 = nI cnt) (hc8 : cnt ≤ 8) {en : Nat → Nat} (hm : mWF (m.2.1 81) cnt en) {n : Nat} (hn : m.2.1 81 0 = nI n) (hn9 : n ≤ 9) {p : Nat} (hp : m.2.1 81 2 = nI p) (hp4 : p ≤ 4) (hln : ∀ j, j < p → vp_in (mlp (m.2.1 81) j) n) : WP X (d + 9) 0 0 Y_X10_change 0 [(0, .ref (80))] [] (HP c w m v E) (fun r1 h1 => r1 = some (.int ((ksOut (mchgW (m.2.1 81) en cnt p) (fun i => i + 1) (fun i => p - (i + 1)) (mwr ((m.2.1 81) 5) ((m.2.1 81) 6) (mTube (m.2.1 81) en cnt p), -3) p).2)) ∧ ∃ v1 : kZ, h1 = HP c w m v1 E ∧ mFr 84 87 v v1) := by
  refine wp_aload_n 0 d_X10_change_0 rfl rfl ?_
  refine wp_virtual0 (As := []) d_X10_change_1 lk_X10_166 mv_X10_layTube in_X10_layTube se_X10_layTube (Nat.le_of_ble_eq_true rfl) (Nat.le_of_ble_eq_true rfl) (hp_80 _ _ _ _ _) rfl (s_X10_layTube hs1 hc8 hm hn hn9 hp hp4 hln) (fun v1 h1 q1 => ?_)
  obtain ⟨rfl, v1, rfl, hf1, hst1, hl1⟩ := q1
  show WP _ _ _ _ _ 4 _ [] (HP c w m v1 E) _
  refine wp_aload_n 0 d_X10_change_4 rfl rfl ?_
  refine wp_virtual0 (As := []) d_X10_change_5 lk_X10_159 mv_X10_wrongOf in_X10_wrongOf se_X10_wrongOf (Nat.le_of_ble_eq_true rfl) (Nat.le_of_ble_eq_true rfl) (hp_80 _ _ _ _ _) rfl (s_X10_wrongOf (l := (mTube (m.2.1 81) en cnt p)) (by rw [mTube_len]; omega) hl1) (fun v5 h5 q5 => ?_)
  obtain ⟨rfl, u1, rfl, hu1⟩ := q5
  show WP _ _ _ _ _ 8 _ [.int (mwr ((m.2.1 81) 5) ((m.2.1 81) 6) (mTube (m.2.1 81) en cnt p))] (HP c w m u1 E) _
  refine wp_istore_n [(1, .int (mwr ((m.2.1 81) 5) ((m.2.1 81) 6) (mTube (m.2.1 81) en cnt p))), (0, .ref (80))] d_X10_change_8 rfl (Nat.le_of_ble_eq_true rfl) rfl ?_
  refine wp_bipush (v0 := -3) d_X10_change_9 (by decide) ?_
  refine wp_istore_n [(2, .int ((-3))), (1, .int (mwr ((m.2.1 81) 5) ((m.2.1 81) 6) (mTube (m.2.1 81) en cnt p))), (0, .ref (80))] d_X10_change_11 rfl (Nat.le_of_ble_eq_true rfl) rfl ?_
  refine wp_iconst (v0 := 0) d_X10_change_12 rfl ?_
  refine wp_istore_n [(3, .int (0)), (2, .int ((-3))), (1, .int (mwr ((m.2.1 81) 5) ((m.2.1 81) 6) (mTube (m.2.1 81) en cnt p))), (0, .ref (80))] d_X10_change_13 rfl (Nat.le_of_ble_eq_true rfl) rfl ?_
  refine wp_sub [(3, .int (0)), (2, .int ((-3))), (1, .int (mwr ((m.2.1 81) 5) ((m.2.1 81) 6) (mTube (m.2.1 81) en cnt p))), (0, .ref (80))] [0, 1, 2, 3] rfl ?_
  exact s_X10_change_o (v := v) hs1 hc8 hm hn hn9 hp hp4 hln (mwr ((m.2.1 81) 5) ((m.2.1 81) 6) (mTube (m.2.1 81) en cnt p), -3) p 0 _ (by omega) (hf1.tr (hu1.fr 84 87)) (fun l hl => by rw [hu1.2]; exact hst1 l hl)
