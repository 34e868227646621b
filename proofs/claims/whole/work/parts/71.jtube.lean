/-! ===== call by call: asked of the tube ===== -/
theorem RlA.t {n p cnt : Nat} {code : Nat → Int32} {en : Nat → Nat} {A : Nat → Nat → Int32} {s : Nat → Int32} (hn : n ≤ 9) (h : RlA n p cnt code en A s) {sx bd : Int32} {ln tn ln' tn' : Nat → Int32} (g : ∀ j, j < p → ln' j = ln j ∧ tn' j = tn j ∧ ∃ l, l < n ∧ ln j = nI l) : mwr (s 5) (s 6) (ktub sx bd (fun l => mstr s en cnt l) (mtl s) ln' tn' p) = cwr (A 6 1) (A 6 2) (ktub sx bd (fun l => kstr code cnt (A 6 0) (A 6 1) (A 6 2) (A 2 l) (A 3 l) l) (A 4) ln tn p) := by
  rw [mwr_cwr, h.1.2.1, h.1.2.2.1]
  exact congrArg (cwr _ _) (ktub_c hn g h.2.1)
theorem RlA.fix {n p cnt : Nat} {code : Nat → Int32} {en : Nat → Nat} {A : Nat → Nat → Int32} {s : Nat → Int32} (hn : n ≤ 9) (h : RlA n p cnt code en A s) (i t : Nat) : mfixW s en cnt p i t = cfixW A code cnt p i t := by
  unfold mfixW cfixW
  refine h.t hn (fun j hj => ⟨(h.2.2 j hj).1, ?_, (h.2.2 j hj).2.2⟩)
  by_cases e : j = i
  · rw [e, upd_s, upd_s]
  · rw [upd_n _ _ e, upd_n _ _ e]
    exact (h.2.2 j hj).2.1
theorem RlA.chg {n p cnt : Nat} {code : Nat → Int32} {en : Nat → Nat} {A : Nat → Nat → Int32} {s : Nat → Int32} (hn : n ≤ 9) (h : RlA n p cnt code en A s) {i q : Nat} (hi : i < p) (hq : q < p) : mchgW s en cnt p i q = cchgW A code cnt p i q := by
  unfold mchgW cchgW
  refine h.t hn (fun j hj => ?_)
  rw [swp_e, swp_e, swp_e, swp_e]
  split
  · exact h.2.2 i hi
  · split
    · exact h.2.2 q hq
    · exact h.2.2 j hj
theorem RlA.md {n p cnt : Nat} {code : Nat → Int32} {en : Nat → Nat} {A : Nat → Nat → Int32} {s : Nat → Int32} (hn : n ≤ 9) (h : RlA n p cnt code en A s) : cMend A code cnt p ↔ mMend s en cnt p := by
  show cwr _ _ _ ≤ _ ↔ mwr _ _ _ ≤ _
  rw [h.wr hn, h.1.2.2.2]
theorem kof_c {M M' : (Nat → Int32) → Prop} [DecidablePred M] [DecidablePred M'] {p : Nat} (hp : 0 < p) (hM : ∀ t t' : Nat → Int32, (∀ j, j < p → t' j = t j) → (M t ↔ M' t')) : ∀ k z t t' x, (∀ j, j < p → t' j = t j ∧ 0 ≤ (t j).toInt ∧ (t j).toInt ≤ 3) → kof kq4 M p k z t x = kof kq3 M' p k z t' x
  | 0, _, _, _, _, _ => rfl
  | k + 1, z, t, t', x, h => by
    have h2 : ∀ j, j < p → kdt kq3 p z t' j = kdt kq4 p z t j ∧ 0 ≤ (kdt kq4 p z t j).toInt ∧ (kdt kq4 p z t j).toInt ≤ 3 := by
      intro j hj
      unfold kdt
      have hq : kz16 (kdz z) % p < p := Nat.mod_lt _ hp
      generalize kz16 (kdz z) % p = q at hq ⊢
      obtain ⟨a, b, e⟩ := h q hq
      obtain ⟨b1, b2, b3⟩ := kq43 (t q) b e
      by_cases e : j = q
      · rw [e, upd_s, upd_s, a]
        exact ⟨b1.symm, b2, b3⟩
      · rw [upd_n _ _ e, upd_n _ _ e]
        exact h j hj
    simp only [kof]
    rw [kof_c hp hM k (kdz z) (kdt kq4 p z t) (kdt kq3 p z t') _ h2]
    by_cases e : M (kdt kq4 p z t)
    · rw [if_pos e, if_pos ((hM _ _ (fun j hj => (h2 j hj).1)).mp e)]
    · rw [if_neg e, if_neg (fun f => e ((hM _ _ (fun j hj => (h2 j hj).1)).mpr f))]
theorem cdue_c {ln ln' : Nat → Int32} {p : Nat} (h : ∀ j, j < p → ln' j = ln j) (k : Nat) : cdue ln' p k = cdue ln p k := by
  unfold cdue
  split
  · rfl
  · split
    · exact h _ (by omega)
    · rfl
theorem RlA.row {n p cnt : Nat} {code : Nat → Int32} {en : Nat → Nat} {A : Nat → Nat → Int32} {s : Nat → Int32} (hn : n ≤ 9) (h : RlA n p cnt code en A s) (x : Int32) (k : Nat) : mrow (s 5) (mlp s) p (mTube s en cnt p ++ [(s 6, 0)]) x k = crow (A 6 1) (A 9) p (cTube A 1 code cnt p ++ [(A 6 2, 0)]) x k := by
  rw [mrow_crow, h.1.2.1, h.1.2.2.1, h.tb hn]
  unfold crow
  rw [cdue_c (fun j hj => (h.2.2 j hj).1)]
theorem k_one {N : Nat} (h : 1 ≤ N) (h2 : N < 2 ^ 30) : 1 ≤ (nI N).toInt := by
  have e : (nI N).toInt = (N : Int) := nI_toInt (by omega)
  omega
theorem j_fix {X : kX} {d : Nat} (hd : 20 ≤ d) : kJn X d 0 0 Y_X9_fix Y_X10_fix [] := by
  intro c w m v E hRl
  obtain ⟨⟨n, p, r, ⟨⟨hn9, hp4, hr6⟩, ⟨hn, hn'⟩, ⟨hp, hp'⟩, ⟨hr, hr'⟩, hz⟩, hL, hS, hP, hRp, cnt, L, code, en, hu, hL20, hc8, hwf, hs1, hm, hq⟩, hK, hT, hW, hC, hH, hF, hV⟩ := id hRl
  have hA := RlA.of hq hL hS hP
  have hse := hA.1
  have hM : ∀ w1 : kZ, WP X d 0 0 Y_X10_fix 0 _ [] (HP c w1 m v E) _ := fun w1 => wp_depth (by omega) (s_X10_fix (X := X) (d := 0) (c := c) (w := w1) (m := m) (v := v) (E := E) hs1 hc8 hm hn' hn9 hp' hp4 (hP.vm hn9) )
  refine wp_mono ?_ (wp_depth (by omega) (s_X9_fix (d := 0) hn hn9 rfl hu hL20 hc8 hwf hL.kd hp hp4 (hP.vp hn9) hV.1 ))
  rintro r1 t1 ⟨rfl, w1, rfl, hw, hray⟩
  refine ⟨_, c, w1, E, rfl, rfl, wp_mono ?_ (hM _)⟩
  rintro r2 t2 ⟨rfl, v1, rfl, -⟩
  refine ⟨?_, m, v1, rfl, hRl.w (hV.f (hw.2.1 72 (by omega)) hray)⟩
  rw [hA.wr hn9]
  exact congrArg (fun z : kP2 => some (Value.int z.2)) (ksOut_congr p (fun i _ t _ _ => hA.fix hn9 i t))
theorem j_change {X : kX} {d : Nat} (hd : 20 ≤ d) : kJn X d 0 0 Y_X9_change Y_X10_change [] := by
  intro c w m v E hRl
  obtain ⟨⟨n, p, r, ⟨⟨hn9, hp4, hr6⟩, ⟨hn, hn'⟩, ⟨hp, hp'⟩, ⟨hr, hr'⟩, hz⟩, hL, hS, hP, hRp, cnt, L, code, en, hu, hL20, hc8, hwf, hs1, hm, hq⟩, hK, hT, hW, hC, hH, hF, hV⟩ := id hRl
  have hA := RlA.of hq hL hS hP
  have hse := hA.1
  have hM : ∀ w1 : kZ, WP X d 0 0 Y_X10_change 0 _ [] (HP c w1 m v E) _ := fun w1 => wp_depth (by omega) (s_X10_change (X := X) (d := 0) (c := c) (w := w1) (m := m) (v := v) (E := E) hs1 hc8 hm hn' hn9 hp' hp4 (hP.vm hn9) )
  refine wp_mono ?_ (wp_depth (by omega) (s_X9_change (d := 0) hn hn9 rfl hu hL20 hc8 hwf hL.kd hp hp4 (hP.vp hn9) hV.1 ))
  rintro r1 t1 ⟨rfl, w1, rfl, hw, hray⟩
  refine ⟨_, c, w1, E, rfl, rfl, wp_mono ?_ (hM _)⟩
  rintro r2 t2 ⟨rfl, v1, rfl, -⟩
  refine ⟨?_, m, v1, rfl, hRl.w (hV.f (hw.2.1 72 (by omega)) hray)⟩
  rw [hA.wr hn9]
  exact congrArg (fun z : kP2 => some (Value.int z.2)) (ksOut_congr p (fun i hi t h1 h2 => hA.chg hn9 hi (by omega)))
theorem j_heatFor {X : kX} {d : Nat} (hd : 20 ≤ d) : kJn X d 0 0 Y_X9_heatFor Y_X10_heatFor [] := by
  intro c w m v E hRl
  obtain ⟨⟨n, p, r, ⟨⟨hn9, hp4, hr6⟩, ⟨hn, hn'⟩, ⟨hp, hp'⟩, ⟨hr, hr'⟩, hz⟩, hL, hS, hP, hRp, cnt, L, code, en, hu, hL20, hc8, hwf, hs1, hm, hq⟩, hK, hT, hW, hC, hH, hF, hV⟩ := id hRl
  have hA := RlA.of hq hL hS hP
  have hse := hA.1
  have hM : ∀ w1 : kZ, WP X d 0 0 Y_X10_heatFor 0 _ [] (HP c w1 m v E) _ := fun w1 => wp_depth (by omega) (s_X10_heatFor (X := X) (d := 0) (c := c) (w := w1) (m := m) (v := v) (E := E) hs1 hc8 hm hn' hn9 hp' hp4 (hP.vm hn9) )
  refine wp_mono ?_ (wp_depth (by omega) (s_X9_heatFor (d := 0) hn hn9 rfl hu hL20 hc8 hwf hL.kd hp hp4 (hP.vp hn9) hV.1 ))
  rintro r1 t1 ⟨rfl, w1, rfl, hw, hray⟩
  refine ⟨_, c, w1, E, rfl, rfl, wp_mono ?_ (hM _)⟩
  rintro r2 t2 ⟨rfl, v1, rfl, -⟩
  refine ⟨?_, m, v1, rfl, hRl.w (hV.f (hw.2.1 72 (by omega)) hray)⟩
  rw [khd_kfr _ 10 (by omega)]
  exact congrArg (fun z => some (Value.int z)) (kfr_congr (fun j => ((RlA.set hn9 hp4 hq hL hS hP (k := 0) (by omega) (nI j)).md hn9).symm) 10 0)
theorem j_eyes {X : kX} {d : Nat} (hd : 20 ≤ d) : kJn X d 0 0 Y_X9_eyes Y_X10_eyes [] := by
  intro c w m v E hRl
  obtain ⟨⟨n, p, r, ⟨⟨hn9, hp4, hr6⟩, ⟨hn, hn'⟩, ⟨hp, hp'⟩, ⟨hr, hr'⟩, hz⟩, hL, hS, hP, hRp, cnt, L, code, en, hu, hL20, hc8, hwf, hs1, hm, hq⟩, hK, hT, hW, hC, hH, hF, hV⟩ := id hRl
  have hA := RlA.of hq hL hS hP
  have hse := hA.1
  have hM : ∀ w1 : kZ, WP X d 0 0 Y_X10_eyes 0 _ [] (HP c w1 m v E) _ := fun w1 => wp_depth (by omega) (s_X10_eyes (X := X) (d := 0) (c := c) (w := w1) (m := m) (v := v) (E := E) hs1 hc8 hm hn' hn9 hp' hp4 (hP.vm hn9) )
  refine wp_mono ?_ (wp_depth (by omega) (s_X9_eyes (d := 0) hn hn9 rfl hu hL20 hc8 hwf hL.kd hp hp4 (hP.vp hn9) hV.1 ))
  rintro r1 t1 ⟨rfl, w1, rfl, hw, hray⟩
  refine ⟨_, c, w1, E, rfl, rfl, wp_mono ?_ (hM _)⟩
  rintro r2 t2 ⟨rfl, v1, rfl, -⟩
  refine ⟨?_, m, v1, rfl, hRl.w (hV.f (hw.2.1 72 (by omega)) hray)⟩
  exact congrArg (fun z => some (Value.int z)) (kcnt_congr (fun j => ((RlA.set hn9 hp4 hq hL hS hP (k := 2) (by omega) (nI j + (-9))).md hn9).symm) 19)
theorem j_often {X : kX} {d : Nat} (hd : 20 ≤ d) (x : Int32) : kJn X d 0 0 Y_X9_often Y_X10_often [(1, .int x)] := by
  intro c w m v E hRl
  obtain ⟨⟨n, p, r, ⟨⟨hn9, hp4, hr6⟩, ⟨hn, hn'⟩, ⟨hp, hp'⟩, ⟨hr, hr'⟩, hz⟩, hL, hS, hP, hRp, cnt, L, code, en, hu, hL20, hc8, hwf, hs1, hm, hq⟩, hK, hT, hW, hC, hH, hF, hV⟩ := id hRl
  have hA := RlA.of hq hL hS hP
  have hse := hA.1
  have hM : ∀ w1 : kZ, WP X d 0 0 Y_X10_often 0 _ [] (HP c w1 m v E) _ := fun w1 => wp_depth (by omega) (s_X10_often (X := X) (d := 0) (c := c) (w := w1) (m := m) (v := v) (E := E) hs1 hc8 hm hn' hn9 hp' hp4 (hP.vm hn9) x)
  refine wp_mono ?_ (wp_depth (by omega) (s_X9_often (d := 0) hn hn9 rfl hu hL20 hc8 hwf hL.kd hp hp4 (hP.vp hn9) hV.1 x))
  rintro r1 t1 (⟨h, rfl, rfl⟩ | ⟨N, h1, h2, rfl, rfl, w1, rfl, hw, hray⟩)
  · refine ⟨_, c, w, E, rfl, rfl, wp_mono ?_ (hM _)⟩
    rintro r2 t2 (⟨g, rfl, rfl⟩ | ⟨N, h1, h2, rfl, rfl, v1, rfl, -⟩)
    · exact ⟨rfl, m, v, rfl, hRl⟩
    · exact absurd ⟨by have := (nI_rng (j := N) (n := 61) (by omega) (by omega)).1; have := k_one h1 (by omega); omega, by have := (nI_rng (j := N) (n := 61) (by omega) (by omega)).2; omega⟩ h
  · refine ⟨_, c, w1, E, rfl, rfl, wp_mono ?_ (hM _)⟩
    rintro r2 t2 (⟨g, rfl, rfl⟩ | ⟨N2, g1, g2, e, rfl, v1, rfl, -⟩)
    · exact absurd ⟨by have := k_one h1 (by omega); omega, by have := (nI_rng (j := N) (n := 61) (by omega) (by omega)).2; omega⟩ g
    · obtain rfl := nI_ij (by omega) (by omega) e
      refine ⟨?_, m, v1, rfl, hRl.w (hV.f (hw.2.1 72 (by omega)) hray)⟩
      by_cases e0 : p = 0
      · rw [if_pos e0, if_pos e0]
      · rw [if_neg e0, if_neg e0]
        refine congrArg (fun z => some (Value.int z)) (Eq.symm ?_)
        rw [show m.2.1 81 8 = c.1 113 from hz]
        refine kof_c (by omega) (fun t t' ht => ?_) N _ _ _ _ (fun j hj => ?_)
        · show cwr _ _ _ ≤ _ ↔ mwr _ _ _ ≤ _
          rw [hA.t hn9 (fun j hj => ⟨(hA.2.2 j hj).1, ht j hj, (hA.2.2 j hj).2.2⟩), hse.2.2.2]
        · obtain ⟨t, ht, e⟩ := (hP.1 j hj).2.2
          have e : c.2.1 10 j = nI t := e
          refine ⟨(hP.1 j hj).2.1, ?_⟩
          rw [e]
          exact ⟨(nI_rng (n := 4) ht (by omega)).1, by have := (nI_rng (n := 4) ht (by omega)).2; omega⟩
theorem j_lensOf {X : kX} {d : Nat} (hd : 20 ≤ d) (x u : Int32) : kJn X d 0 0 Y_X9_lensOf Y_X10_lensOf [(1, .int x), (2, .int u)] := by
  intro c w m v E hRl
  obtain ⟨⟨n, p, r, ⟨⟨hn9, hp4, hr6⟩, ⟨hn, hn'⟩, ⟨hp, hp'⟩, ⟨hr, hr'⟩, hz⟩, hL, hS, hP, hRp, cnt, L, code, en, hu, hL20, hc8, hwf, hs1, hm, hq⟩, hK, hT, hW, hC, hH, hF, hV⟩ := id hRl
  have hA := RlA.of hq hL hS hP
  have hse := hA.1
  have hM : ∀ w1 : kZ, WP X d 0 0 Y_X10_lensOf 0 _ [] (HP c w1 m v E) _ := fun w1 => wp_depth (by omega) (s_X10_lensOf (X := X) (d := 0) (c := c) (w := w1) (m := m) (v := v) (E := E) hs1 hc8 hm hn' hn9 hp' hp4 x u)
  refine wp_mono ?_ (wp_depth (by omega) (s_X9_lensOf (d := 0) hn hn9 rfl hu hL20 hc8 hwf hL.kd hp hp4 x u))
  rintro r1 t1 (⟨h, rfl, rfl⟩ | ⟨l, hl, rfl, rfl, w1, rfl, hw, hray⟩)
  · refine ⟨_, c, w, E, rfl, rfl, wp_mono ?_ (hM _)⟩
    rintro r2 t2 (⟨g, rfl, rfl⟩ | ⟨l, k, hl, hk, rfl, rfl, rfl, v1, rfl, -⟩)
    · exact ⟨rfl, m, v, rfl, hRl⟩
    · exact absurd (nI_rng hl (by omega)) h
  · refine ⟨_, c, w1, E, rfl, rfl, wp_mono ?_ (hM _)⟩
    rintro r2 t2 (⟨g, rfl, rfl⟩ | ⟨l2, k, hl2, hk, e, rfl, rfl, v1, rfl, -⟩)
    · refine ⟨?_, m, v, rfl, hRl.w (hV.f (hw.2.1 72 (by omega)) (hray hV.1))⟩
      have g2 : ¬ (0 ≤ u.toInt ∧ u.toInt ≤ 5) := fun z => g ⟨nI_rng hl (by omega), z⟩
      have ne : ∀ y : Int32, 0 ≤ y.toInt ∧ y.toInt ≤ 5 → ¬ u = y := fun y hy e => g2 (e ▸ hy)
      rw [if_neg (ne 0 (by decide)), if_neg (ne 1 (by decide)), if_neg (ne 2 (by decide)), if_neg (ne 3 (by decide)), if_neg (ne 4 (by decide)), if_neg (ne 5 (by decide))]
    · obtain rfl := nI_ij (by omega) (by omega) e
      refine ⟨?_, m, v1, rfl, hRl.w (hV.f (hw.2.1 72 (by omega)) (hray hV.1))⟩
      obtain ⟨a1, a2, a3, a4⟩ := hL l hl
      obtain rfl | rfl | rfl | rfl | rfl | rfl : k = 0 ∨ k = 1 ∨ k = 2 ∨ k = 3 ∨ k = 4 ∨ k = 5 := by omega
      · exact congrArg (fun z => some (Value.int z)) a1.1
      · exact congrArg (fun z => some (Value.int z)) a2.1
      · exact congrArg (fun z => some (Value.int z)) a3.1
      · exact congrArg (fun z => some (Value.int z)) a4.1
      · exact congrArg (fun z => some (Value.int z)) (hA.2.1 l hl).1
      · exact congrArg (fun z => some (Value.int z)) (hP.kf9 (nI l))
theorem j_prove {X : kX} {d : Nat} (hd : 20 ≤ d) (x : Int32) : kJn X d 0 0 Y_X9_prove Y_X10_prove [(1, .int x)] := by
  intro c w m v E hRl
  obtain ⟨⟨n, p, r, ⟨⟨hn9, hp4, hr6⟩, ⟨hn, hn'⟩, ⟨hp, hp'⟩, ⟨hr, hr'⟩, hz⟩, hL, hS, hP, hRp, cnt, L, code, en, hu, hL20, hc8, hwf, hs1, hm, hq⟩, hK, hT, hW, hC, hH, hF, hV⟩ := id hRl
  have hA := RlA.of hq hL hS hP
  have hse := hA.1
  have hM : ∀ c1 w1 : kZ, WP X d 0 0 Y_X10_prove 0 _ [] (HP c1 w1 m v E) _ := fun c1 w1 => wp_depth (by omega) (s_X10_prove (X := X) (d := 0) (c := c1) (w := w1) (m := m) (v := v) (E := E) hs1 hc8 hm hn' hn9 hp' hp4 (hP.vm hn9) x)
  refine wp_mono ?_ (wp_depth (by omega) (s_X9_prove (d := 0) hn hn9 rfl hu hL20 hc8 hwf hL.kd hp hp4 (hP.vp hn9) hV.1 x))
  rintro r1 t1 (⟨h, rfl, rfl⟩ | ⟨h, rfl, f1, w1, rfl, hw, hray, hf1⟩)
  · refine ⟨_, c, w, E, rfl, rfl, wp_mono ?_ (hM _ _)⟩
    rintro r2 t2 (⟨g, rfl, rfl⟩ | ⟨g, rfl, f2, v1, rfl, -, hf2⟩)
    · exact ⟨rfl, m, v, rfl, hRl⟩
    · exact absurd g h
  · refine ⟨_, _, w1, E, rfl, rfl, wp_mono ?_ (hM _ _)⟩
    rintro r2 t2 (⟨g, rfl, rfl⟩ | ⟨g, rfl, f2, v1, rfl, -, hf2⟩)
    · exact absurd h g
    · have hW2 : RlW (setA (setS c 11 (nI (p + 2))) 74 f1) (setS (setA m 93 f2) 8022 (nI (p + 2))) := by
        refine ⟨p + 2, by omega, by omega, rfl, rfl, fun j hj => ?_⟩
        show f2 j = f1 j
        have e := (hf2 (j / 3) (by omega)).trans ((hA.row hn9 x (j / 3)).trans (hf1 (j / 3) (by omega)).symm)
        obtain ⟨e1, e2⟩ := Prod.mk.inj e
        obtain ⟨e2, e3⟩ := Prod.mk.inj e2
        obtain q | q | q : j = 3 * (j / 3) ∨ j = 3 * (j / 3) + 1 ∨ j = 3 * (j / 3) + 2 := by omega
        · rw [q]; exact e1
        · rw [q]; exact e2
        · rw [q]; exact e3
      exact ⟨rfl, _, v1, rfl, ⟨⟨n, p, r, ⟨⟨hn9, hp4, hr6⟩, ⟨hn, hn'⟩, ⟨hp, hp'⟩, ⟨hr, hr'⟩, hz⟩, hL, hS, hP, hRp, cnt, L, code, en, hu, hL20, hc8, hwf, hs1, hm, hq⟩, hK, hT, hW2, hC, hH, hF, hV.f (hw.2.1 72 (by omega)) hray⟩⟩
theorem j_judge {X : kX} {d : Nat} (hd : 20 ≤ d) : kJn X d 0 0 Y_X9_judge Y_X10_judge [] := by
  intro c w m v E hRl
  obtain ⟨⟨n, p, r, ⟨⟨hn9, hp4, hr6⟩, ⟨hn, hn'⟩, ⟨hp, hp'⟩, ⟨hr, hr'⟩, hz⟩, hL, hS, hP, hRp, cnt, L, code, en, hu, hL20, hc8, hwf, hs1, hm, hq⟩, hK, hT, hW, hC, hH, hF, hV⟩ := id hRl
  have hA := RlA.of hq hL hS hP
  have hse := hA.1
  obtain ⟨rc, hrc6, hrc1, hw1, hw2, hw3⟩ := hW
  have hM : ∀ w1 : kZ, WP X d 0 0 Y_X10_judge 0 _ [] (HP c w1 m v E) _ := fun w1 => wp_depth (by omega) (s_X10_judge (X := X) (d := 0) (c := c) (w := w1) (m := m) (v := v) (E := E) hs1 hc8 hm hn' hn9 hp' hp4 (hP.vm hn9) hw2 hrc6 hrc1)
  refine wp_mono ?_ (wp_depth (by omega) (s_X9_judge (d := 0) hn hn9 rfl hu hL20 hc8 hwf hL.kd hp hp4 (hP.vp hn9) hV.1 hw1 hrc6))
  rintro r1 t1 ⟨rfl, w1, rfl, hw, hray⟩
  refine ⟨_, c, w1, E, rfl, rfl, wp_mono ?_ (hM _)⟩
  rintro r2 t2 ⟨rfl, v1, rfl, -⟩
  refine ⟨?_, m, v1, rfl, hRl.w (hV.f (hw.2.1 72 (by omega)) hray)⟩
  by_cases e0 : rc = 0
  · rw [if_pos e0, if_pos e0]
  · rw [if_neg e0, if_neg e0]
    have hh : cHead (m.2.1 93) ↔ cHead (c.2.1 74) := by
      show (_ = _ ∧ _ ∧ _ = _) ↔ (_ = _ ∧ _ ∧ _ = _)
      rw [hw3 0 (by omega), hw3 1 (by omega), hw3 2 (by omega)]
    by_cases e1 : cHead (c.2.1 74)
    · rw [if_pos e1, if_pos (hh.mpr e1)]
      refine congrArg (fun z => some (Value.int z)) (kfj_congr (rc - 1) 1 (fun i h1 h2 => ?_))
      show (_ ∧ _ = _) ↔ (_ ∧ _ = _)
      rw [hA.row hn9, hw3 (3 * i) (by omega), hw3 (3 * i + 1) (by omega), hw3 (3 * i + 2) (by omega), hw3 1 (by omega)]
    · rw [if_neg e1, if_neg (fun z => e1 (hh.mp z))]
