/-! ===== the class: calls of light ===== -/
def cTube (A : Nat → Nat → Int32) (b : Nat) (code : Nat → Int32) (cnt p : Nat) : List (Int32 × Int32) := ktub (-9) 0 (fun l => kstr code cnt (A (b + 5) 0) (A (b + 5) 1) (A (b + 5) 2) (A (b + 1) l) (A (b + 2) l) l) (A (b + 3)) (A (b + 8)) (A (b + 9)) p
theorem cTube_len (A : Nat → Nat → Int32) (b : Nat) (code : Nat → Int32) (cnt p : Nat) : (cTube A b code cnt p).length = p := ktub_len _ _ _ _ _ _ _
def csee (g e : Int32) (l : List (Int32 × Int32)) : kQ := kray g (l ++ [(e, 0)])
def cwr (g e : Int32) (l : List (Int32 × Int32)) : Int32 := kabs (csee g e l).1 + kabs (csee g e l).2.2.1
theorem vp9 {f : Nat → Int32} {n p : Nat} (hn9 : n ≤ 9) (h : ∀ j, j < p → vp_in (f j) n) : ∀ j, j < p → vp_in (f j) 9 := by
  intro j hj
  have h1 := vp_in_iff.mp (h j hj)
  exact vp_in_iff.mpr ⟨h1.1, by omega⟩
theorem kRay_end {w : kZ} {l : List (Int32 × Int32)} (h : kRay w l) {e : Nat} (he : e = l.length) : (w.2.1 46 e, w.2.1 47 e, w.2.1 48 e, w.2.1 49 e) = kray (w.1 4203) l := by
  subst he
  have h1 := h l.length (Nat.le_refl _)
  rw [List.take_length] at h1
  exact h1
theorem kRay_0 {w w' : kZ} (h : kRay w []) (g : ∀ k, 46 ≤ k → k ≤ 49 → w'.2.1 k 0 = w.2.1 k 0) : kRay w' [] := by
  intro k hk
  have h1 := h 0 (by simp)
  obtain rfl : k = 0 := by simpa using hk
  rw [g 46 (by decide) (by decide), g 47 (by decide) (by decide), g 48 (by decide) (by decide), g 49 (by decide) (by decide)]
  exact h1
/-- the light has gone through a tube: gap g, eye e, limit, tube l -/
def kSeen (w : kZ) (g e lim : Int32) (l : List (Int32 × Int32)) : Prop := w.1 4203 = g ∧ w.1 4205 = lim ∧ kRay w (l ++ [(e, 0)]) ∧ w.1 4210 = nI (l.length + 1)
theorem kSeen.e {w : kZ} {g e lim : Int32} {l : List (Int32 × Int32)} (h : kSeen w g e lim l) : (w.2.1 46 (l.length + 1), w.2.1 47 (l.length + 1), w.2.1 48 (l.length + 1), w.2.1 49 (l.length + 1)) = csee g e l := by
  obtain ⟨h1, h2, h3, h4⟩ := h
  have h5 := kRay_end h3 (e := l.length + 1) (by simp)
  rw [h1] at h5
  exact h5
theorem kSeen.a {w : kZ} {g e lim : Int32} {l : List (Int32 × Int32)} (h : kSeen w g e lim l) : w.2.1 46 (l.length + 1) = (csee g e l).1 := congrArg (fun q => q.1) h.e
theorem kSeen.b {w : kZ} {g e lim : Int32} {l : List (Int32 × Int32)} (h : kSeen w g e lim l) : w.2.1 48 (l.length + 1) = (csee g e l).2.2.1 := congrArg (fun q => q.2.2.1) h.e
theorem s_X9_shine {X : kX} {d : Nat} {c w m v : kZ} {E : kH} {n : Nat} (hn : c.1 100 = nI n) (hn9 : n ≤ 9) {rho cnt ka L : Nat} {code : Nat → Int32} (hrr : c.2.2.1 1 = rho) (hR : kRu E rho cnt ka L code) (hL : L < 2 ^ 20) (hc8 : cnt ≤ 8) (hwf : kWF code L cnt 0) (hk : ∀ j, j < n → 1 ≤ (c.2.1 2 j).toInt ∧ (c.2.1 2 j).toInt ≤ 5) {p : Nat} (hp : c.1 107 = nI p) (hp4 : p ≤ 4) (hln : ∀ j, j < p → vp_in (c.2.1 9 j) n) (hr0 : kRay w []) : WP X (d + 6) 0 0 Y_X9_shine 0 [(0, .ref (0))] [] (HP c w m v E) (fun r1 h1 => r1 = none ∧ ∃ w1 : kZ, h1 = HP c w1 m v E ∧ kLa w w1 ∧ kLd w1 (c.2.1 6 1) (c.2.1 6 2) (c.2.1 6 3) (fun l => kstr code cnt (c.2.1 6 0) (c.2.1 6 1) (c.2.1 6 2) (c.2.1 2 l) (c.2.1 3 l) l) (c.2.1 4) n ∧ kSeen w1 (c.2.1 6 1) (c.2.1 6 2) (c.2.1 6 3) (cTube c.2.1 1 code cnt p)) := by
  refine wp_aload_n 0 d_X9_shine_0 rfl rfl ?_
  refine wp_getfield (v := .ref (42)) d_X9_shine_1 gf_X9_32 (hp_0 _ _ _ _ _) rfl ?_
  refine wp_aload_n 0 d_X9_shine_4 rfl rfl ?_
  refine wp_getfield (v := .ref (1)) d_X9_shine_5 gf_X9_12 (hp_0 _ _ _ _ _) rfl ?_
  refine wp_virtual0 (As := [.ref (1)]) d_X9_shine_8 lk_X9_121 mv_X5_load in_X5_load se_X5_load (Nat.le_of_ble_eq_true rfl) (Nat.le_of_ble_eq_true rfl) (hp_42 _ _ _ _ _) rfl (s_X5_load hn hn9 hrr hR hL hc8 hwf hk) (fun v8 h8 q8 => ?_)
  obtain ⟨rfl, w1, rfl, hl1, hd1⟩ := q8
  have hr1 : kRay w1 [] := kRay_0 hr0 (fun k9 h9 h8 => by rw [hl1.2.1 k9 (by omega)])
  show WP _ _ _ _ _ 11 _ [] (HP c w1 m v E) _
  refine wp_aload_n 0 d_X9_shine_11 rfl rfl ?_
  refine wp_getfield (v := .ref (42)) d_X9_shine_12 gf_X9_32 (hp_0 _ _ _ _ _) rfl ?_
  refine wp_aload_n 0 d_X9_shine_15 rfl rfl ?_
  refine wp_getfield (v := .ref (1)) d_X9_shine_16 gf_X9_12 (hp_0 _ _ _ _ _) rfl ?_
  refine wp_virtual0 (As := [.ref (1)]) d_X9_shine_19 lk_X9_210 mv_X5_through in_X5_through se_X5_through (Nat.le_of_ble_eq_true rfl) (Nat.le_of_ble_eq_true rfl) (hp_42 _ _ _ _ _) rfl (s_X5_through hp hp4 (vp9 hn9 hln) hr1) (fun v19 h19 q19 => ?_)
  obtain ⟨rfl, w2, rfl, hf2, hr2, he2⟩ := q19
  show WP _ _ _ _ _ 22 _ [] (HP c w2 m v E) _
  refine wp_vret d_X9_shine_22 rfl ?_
  refine ⟨rfl, w2, rfl, hl1.a.tr hf2.a, hd1.f hf2, (hd1.f hf2).1, (hd1.f hf2).2.2.1, ?_, by rw [cTube_len]; exact he2⟩
  rw [hd1.2.1, ktub_congr (n := n) (fun l hl => hd1.2.2.2.1 l hl) (fun l hl => hd1.2.2.2.2 l (by omega)) hln] at hr2
  exact hr2
theorem s_X9_shift {X : kX} {d : Nat} {c w m v : kZ} {E : kH} {n : Nat} (hn : c.1 100 = nI n) (hn9 : n ≤ 9) {rho cnt ka L : Nat} {code : Nat → Int32} (hrr : c.2.2.1 1 = rho) (hR : kRu E rho cnt ka L code) (hL : L < 2 ^ 20) (hc8 : cnt ≤ 8) (hwf : kWF code L cnt 0) (hk : ∀ j, j < n → 1 ≤ (c.2.1 2 j).toInt ∧ (c.2.1 2 j).toInt ≤ 5) {p : Nat} (hp : c.1 107 = nI p) (hp4 : p ≤ 4) (hln : ∀ j, j < p → vp_in (c.2.1 9 j) n) (hr0 : kRay w []) : WP X (d + 7) 0 0 Y_X9_shift 0 [(0, .ref (0))] [] (HP c w m v E) (fun r1 h1 => r1 = some (.int (kabs (csee (c.2.1 6 1) (c.2.1 6 2) (cTube c.2.1 1 code cnt p)).1)) ∧ ∃ w1 : kZ, h1 = HP c w1 m v E ∧ kLa w w1 ∧ kRay w1 []) := by
  refine wp_aload_n 0 d_X9_shift_0 rfl rfl ?_
  refine wp_virtual0 (As := []) d_X9_shift_1 lk_X9_168 mv_X9_shine in_X9_shine se_X9_shine (Nat.le_of_ble_eq_true rfl) (Nat.le_of_ble_eq_true rfl) (hp_0 _ _ _ _ _) rfl (s_X9_shine hn hn9 hrr hR hL hc8 hwf hk hp hp4 hln hr0) (fun v1 h1 q1 => ?_)
  obtain ⟨rfl, w1, rfl, ha1, hd1, hs1⟩ := q1
  have he1 := hs1.2.2.2
  rw [cTube_len] at he1
  have hA := hs1.a
  have hB := hs1.b
  rw [cTube_len] at hA hB
  show WP _ _ _ _ _ 4 _ [] (HP c w1 m v E) _
  refine wp_aload_n 0 d_X9_shift_4 rfl rfl ?_
  refine wp_getfield (v := .ref (42)) d_X9_shift_5 gf_X9_32 (hp_0 _ _ _ _ _) rfl ?_
  refine wp_vrt_i (As := []) (x0 := kabs (w1.2.1 46 (p + 1))) (h1 := HP c w1 m v E) d_X9_shift_8 lk_X9_174 mv_X5_shiftSeen in_X5_shiftSeen se_X5_shiftSeen (Nat.le_of_ble_eq_true rfl) (Nat.le_of_ble_eq_true rfl) (hp_42 _ _ _ _ _) rfl (s_X5_shiftSeen (w := w1) he1 (by omega)) ?_
  refine wp_reti d_X9_shift_11 rfl ?_
  refine ⟨congrArg (fun z => some (Value.int z)) ?_, _, rfl, ha1, hs1.2.2.1.len (j := 0)⟩
  rw [hA]
theorem s_X9_blur {X : kX} {d : Nat} {c w m v : kZ} {E : kH} {n : Nat} (hn : c.1 100 = nI n) (hn9 : n ≤ 9) {rho cnt ka L : Nat} {code : Nat → Int32} (hrr : c.2.2.1 1 = rho) (hR : kRu E rho cnt ka L code) (hL : L < 2 ^ 20) (hc8 : cnt ≤ 8) (hwf : kWF code L cnt 0) (hk : ∀ j, j < n → 1 ≤ (c.2.1 2 j).toInt ∧ (c.2.1 2 j).toInt ≤ 5) {p : Nat} (hp : c.1 107 = nI p) (hp4 : p ≤ 4) (hln : ∀ j, j < p → vp_in (c.2.1 9 j) n) (hr0 : kRay w []) : WP X (d + 7) 0 0 Y_X9_blur 0 [(0, .ref (0))] [] (HP c w m v E) (fun r1 h1 => r1 = some (.int (kabs (csee (c.2.1 6 1) (c.2.1 6 2) (cTube c.2.1 1 code cnt p)).2.2.1)) ∧ ∃ w1 : kZ, h1 = HP c w1 m v E ∧ kLa w w1 ∧ kRay w1 []) := by
  refine wp_aload_n 0 d_X9_blur_0 rfl rfl ?_
  refine wp_virtual0 (As := []) d_X9_blur_1 lk_X9_168 mv_X9_shine in_X9_shine se_X9_shine (Nat.le_of_ble_eq_true rfl) (Nat.le_of_ble_eq_true rfl) (hp_0 _ _ _ _ _) rfl (s_X9_shine hn hn9 hrr hR hL hc8 hwf hk hp hp4 hln hr0) (fun v1 h1 q1 => ?_)
  obtain ⟨rfl, w1, rfl, ha1, hd1, hs1⟩ := q1
  have he1 := hs1.2.2.2
  rw [cTube_len] at he1
  have hA := hs1.a
  have hB := hs1.b
  rw [cTube_len] at hA hB
  show WP _ _ _ _ _ 4 _ [] (HP c w1 m v E) _
  refine wp_aload_n 0 d_X9_blur_4 rfl rfl ?_
  refine wp_getfield (v := .ref (42)) d_X9_blur_5 gf_X9_32 (hp_0 _ _ _ _ _) rfl ?_
  refine wp_vrt_i (As := []) (x0 := kabs (w1.2.1 48 (p + 1))) (h1 := HP c w1 m v E) d_X9_blur_8 lk_X9_178 mv_X5_blurSeen in_X5_blurSeen se_X5_blurSeen (Nat.le_of_ble_eq_true rfl) (Nat.le_of_ble_eq_true rfl) (hp_42 _ _ _ _ _) rfl (s_X5_blurSeen (w := w1) he1 (by omega)) ?_
  refine wp_reti d_X9_blur_11 rfl ?_
  refine ⟨congrArg (fun z => some (Value.int z)) ?_, _, rfl, ha1, hs1.2.2.1.len (j := 0)⟩
  rw [hB]
theorem s_X9_wrong {X : kX} {d : Nat} {c w m v : kZ} {E : kH} {n : Nat} (hn : c.1 100 = nI n) (hn9 : n ≤ 9) {rho cnt ka L : Nat} {code : Nat → Int32} (hrr : c.2.2.1 1 = rho) (hR : kRu E rho cnt ka L code) (hL : L < 2 ^ 20) (hc8 : cnt ≤ 8) (hwf : kWF code L cnt 0) (hk : ∀ j, j < n → 1 ≤ (c.2.1 2 j).toInt ∧ (c.2.1 2 j).toInt ≤ 5) {p : Nat} (hp : c.1 107 = nI p) (hp4 : p ≤ 4) (hln : ∀ j, j < p → vp_in (c.2.1 9 j) n) (hr0 : kRay w []) : WP X (d + 7) 0 0 Y_X9_wrong 0 [(0, .ref (0))] [] (HP c w m v E) (fun r1 h1 => r1 = some (.int ((cwr (c.2.1 6 1) (c.2.1 6 2) (cTube c.2.1 1 code cnt p)))) ∧ ∃ w1 : kZ, h1 = HP c w1 m v E ∧ kLa w w1 ∧ kRay w1 []) := by
  refine wp_aload_n 0 d_X9_wrong_0 rfl rfl ?_
  refine wp_virtual0 (As := []) d_X9_wrong_1 lk_X9_168 mv_X9_shine in_X9_shine se_X9_shine (Nat.le_of_ble_eq_true rfl) (Nat.le_of_ble_eq_true rfl) (hp_0 _ _ _ _ _) rfl (s_X9_shine hn hn9 hrr hR hL hc8 hwf hk hp hp4 hln hr0) (fun v1 h1 q1 => ?_)
  obtain ⟨rfl, w1, rfl, ha1, hd1, hs1⟩ := q1
  have he1 := hs1.2.2.2
  rw [cTube_len] at he1
  have hA := hs1.a
  have hB := hs1.b
  rw [cTube_len] at hA hB
  show WP _ _ _ _ _ 4 _ [] (HP c w1 m v E) _
  refine wp_aload_n 0 d_X9_wrong_4 rfl rfl ?_
  refine wp_getfield (v := .ref (42)) d_X9_wrong_5 gf_X9_32 (hp_0 _ _ _ _ _) rfl ?_
  refine wp_vrt_i (As := []) (x0 := kabs (w1.2.1 46 (p + 1)) + kabs (w1.2.1 48 (p + 1))) (h1 := HP c w1 m v E) d_X9_wrong_8 lk_X9_181 mv_X5_wrongSeen in_X5_wrongSeen se_X5_wrongSeen (Nat.le_of_ble_eq_true rfl) (Nat.le_of_ble_eq_true rfl) (hp_42 _ _ _ _ _) rfl (s_X5_wrongSeen (w := w1) he1 (by omega)) ?_
  refine wp_reti d_X9_wrong_11 rfl ?_
  refine ⟨congrArg (fun z => some (Value.int z)) ?_, _, rfl, ha1, hs1.2.2.1.len (j := 0)⟩
  rw [hA, hB]
  rfl
theorem s_X9_mended {X : kX} {d : Nat} {c w m v : kZ} {E : kH} {n : Nat} (hn : c.1 100 = nI n) (hn9 : n ≤ 9) {rho cnt ka L : Nat} {code : Nat → Int32} (hrr : c.2.2.1 1 = rho) (hR : kRu E rho cnt ka L code) (hL : L < 2 ^ 20) (hc8 : cnt ≤ 8) (hwf : kWF code L cnt 0) (hk : ∀ j, j < n → 1 ≤ (c.2.1 2 j).toInt ∧ (c.2.1 2 j).toInt ≤ 5) {p : Nat} (hp : c.1 107 = nI p) (hp4 : p ≤ 4) (hln : ∀ j, j < p → vp_in (c.2.1 9 j) n) (hr0 : kRay w []) : WP X (d + 7) 0 0 Y_X9_mended 0 [(0, .ref (0))] [] (HP c w m v E) (fun r1 h1 => r1 = some (.int (kb ((cwr (c.2.1 6 1) (c.2.1 6 2) (cTube c.2.1 1 code cnt p)) ≤ (c.2.1 6 3)))) ∧ ∃ w1 : kZ, h1 = HP c w1 m v E ∧ kLa w w1 ∧ kRay w1 []) := by
  refine wp_aload_n 0 d_X9_mended_0 rfl rfl ?_
  refine wp_virtual0 (As := []) d_X9_mended_1 lk_X9_168 mv_X9_shine in_X9_shine se_X9_shine (Nat.le_of_ble_eq_true rfl) (Nat.le_of_ble_eq_true rfl) (hp_0 _ _ _ _ _) rfl (s_X9_shine hn hn9 hrr hR hL hc8 hwf hk hp hp4 hln hr0) (fun v1 h1 q1 => ?_)
  obtain ⟨rfl, w1, rfl, ha1, hd1, hs1⟩ := q1
  have he1 := hs1.2.2.2
  rw [cTube_len] at he1
  have hA := hs1.a
  have hB := hs1.b
  rw [cTube_len] at hA hB
  show WP _ _ _ _ _ 4 _ [] (HP c w1 m v E) _
  refine wp_aload_n 0 d_X9_mended_4 rfl rfl ?_
  refine wp_getfield (v := .ref (42)) d_X9_mended_5 gf_X9_32 (hp_0 _ _ _ _ _) rfl ?_
  refine wp_vrt_i (As := []) (x0 := kb (kabs (w1.2.1 46 (p + 1)) + kabs (w1.2.1 48 (p + 1)) ≤ w1.1 4205)) (h1 := HP c w1 m v E) d_X9_mended_8 lk_X9_184 mv_X5_isMended in_X5_isMended se_X5_isMended (Nat.le_of_ble_eq_true rfl) (Nat.le_of_ble_eq_true rfl) (hp_42 _ _ _ _ _) rfl (s_X5_isMended (w := w1) he1 (by omega)) ?_
  refine wp_ifb_eq 18 d_X9_mended_11 rfl (fun c11 => ?_) (fun c11 => ?_)
  · refine wp_iconst (v0 := 0) d_X9_mended_18 rfl ?_
    refine wp_reti d_X9_mended_19 rfl ?_
    rw [hA, hB, hs1.2.1] at c11
    refine ⟨congrArg (fun z => some (Value.int z)) ?_, _, rfl, ha1, hs1.2.2.1.len (j := 0)⟩
    exact Eq.symm (kb_f c11)
  · refine wp_iconst (v0 := 1) d_X9_mended_14 rfl ?_
    refine wp_goto 19 d_X9_mended_15 rfl ?_
    refine wp_reti d_X9_mended_19 rfl ?_
    rw [hA, hB, hs1.2.1] at c11
    refine ⟨congrArg (fun z => some (Value.int z)) ?_, _, rfl, ha1, hs1.2.2.1.len (j := 0)⟩
    exact Eq.symm (kb_t c11)
theorem s_X9_seen {X : kX} {d : Nat} {c w m v : kZ} {E : kH} {n : Nat} (hn : c.1 100 = nI n) (hn9 : n ≤ 9) {rho cnt ka L : Nat} {code : Nat → Int32} (hrr : c.2.2.1 1 = rho) (hR : kRu E rho cnt ka L code) (hL : L < 2 ^ 20) (hc8 : cnt ≤ 8) (hwf : kWF code L cnt 0) (hk : ∀ j, j < n → 1 ≤ (c.2.1 2 j).toInt ∧ (c.2.1 2 j).toInt ≤ 5) {p : Nat} (hp : c.1 107 = nI p) (hp4 : p ≤ 4) (hln : ∀ j, j < p → vp_in (c.2.1 9 j) n) (hr0 : kRay w []) (x : Int32) : WP X (d + 7) 0 0 Y_X9_seen 0 [(0, .ref (0)), (1, .int (x))] [] (HP c w m v E) (fun r1 h1 => (¬ (-9 ≤ x.toInt ∧ x.toInt ≤ 9) ∧ r1 = some (.int (-1)) ∧ h1 = HP c w m v E) ∨ ((-9 ≤ x.toInt ∧ x.toInt ≤ 9) ∧ r1 = some (.int ((csee (c.2.1 6 1) (c.2.1 6 2) (cTube c.2.1 1 code cnt p)).1 + x * (csee (c.2.1 6 1) (c.2.1 6 2) (cTube c.2.1 1 code cnt p)).2.2.1)) ∧ ∃ w1 : kZ, h1 = HP c w1 m v E ∧ kLa w w1 ∧ kRay w1 [])) := by
  refine wp_iload_n 1 d_X9_seen_0 rfl rfl ?_
  refine wp_stc_i (As := [.int (x)]) (x0 := kb (-9 ≤ (x : Int32).toInt ∧ (x : Int32).toInt ≤ 9)) (h1 := HP c w m v E) d_X9_seen_1 lk_X9_95 mv_X9_isSmall st_X9_isSmall (Nat.le_of_ble_eq_true rfl) (Nat.le_of_ble_eq_true rfl) (s_X9_isSmall _ (x : Int32)) ?_
  refine wp_ifb_ne 9 d_X9_seen_4 rfl (fun c4 => ?_) (fun c4 => ?_)
  · refine wp_aload_n 0 d_X9_seen_9 rfl rfl ?_
    refine wp_virtual0 (As := []) d_X9_seen_10 lk_X9_168 mv_X9_shine in_X9_shine se_X9_shine (Nat.le_of_ble_eq_true rfl) (Nat.le_of_ble_eq_true rfl) (hp_0 _ _ _ _ _) rfl (s_X9_shine hn hn9 hrr hR hL hc8 hwf hk hp hp4 hln hr0) (fun v10 h10 q10 => ?_)
    obtain ⟨rfl, w1, rfl, ha1, hd1, hs1⟩ := q10
    have he1 := hs1.2.2.2
    rw [cTube_len] at he1
    have hA := hs1.a
    have hB := hs1.b
    rw [cTube_len] at hA hB
    show WP _ _ _ _ _ 13 _ [] (HP c w1 m v E) _
    refine wp_aload_n 0 d_X9_seen_13 rfl rfl ?_
    refine wp_getfield (v := .ref (42)) d_X9_seen_14 gf_X9_32 (hp_0 _ _ _ _ _) rfl ?_
    refine wp_iload_n 1 d_X9_seen_17 rfl rfl ?_
    refine wp_vrt_i (As := [.int (x)]) (x0 := w1.2.1 46 (p + 1) + (x) * w1.2.1 48 (p + 1)) (h1 := HP c w1 m v E) d_X9_seen_18 lk_X9_171 mv_X5_seenOf in_X5_seenOf se_X5_seenOf (Nat.le_of_ble_eq_true rfl) (Nat.le_of_ble_eq_true rfl) (hp_42 _ _ _ _ _) rfl (s_X5_seenOf (w := w1) he1 (by omega) (x)) ?_
    refine wp_reti d_X9_seen_21 rfl ?_
    refine Or.inr ⟨c4, congrArg (fun z => some (Value.int z)) ?_, _, rfl, ha1, hs1.2.2.1.len (j := 0)⟩
    rw [hA, hB]
  · refine wp_iconst (v0 := -1) d_X9_seen_7 rfl ?_
    refine wp_reti d_X9_seen_8 rfl ?_
    exact Or.inl ⟨c4, rfl, rfl⟩
