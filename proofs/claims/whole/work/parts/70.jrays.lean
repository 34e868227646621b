/-! ===== call by call: rays ===== -/
theorem Rel.w {c w w1 m : kZ} {E : kH} (g : Rel c w m E) (h : RlV w1) : Rel c w1 m E := ⟨g.1, g.2.1, g.2.2.1, g.2.2.2.1, g.2.2.2.2.1, g.2.2.2.2.2.1, g.2.2.2.2.2.2.1, h⟩
theorem RlV.f {w w1 : kZ} (g : RlV w) (h : w1.2.1 72 = w.2.1 72) (k : kRay w1 []) : RlV w1 := ⟨k, by rw [h]; exact g.2⟩
theorem str_eq {code : Nat → Int32} {cnt : Nat} {s : Nat → Int32} {en : Nat → Nat} (hq : ∀ s' : Nat → Int32, (∀ k, 65 ≤ k → k < 300 → s' k = s k) → ∀ (l : Nat) (kd : Int32), kbent (kfac (s' 4) (s' 5) (s' 6) (s' (9 + 4 * l + 1)) l) code kd (s' (9 + 4 * l + 1)) cnt 0 = mbent s' en l kd (s' (9 + 4 * l + 1)) cnt) {s' : Nat → Int32} (h : ∀ k, 65 ≤ k → k < 300 → s' k = s k) (l : Nat) : mstr s' en cnt l = kstr code cnt (s' 4) (s' 5) (s' 6) (s' (9 + 4 * l + 0)) (s' (9 + 4 * l + 1)) l := by
  unfold mstr kstr
  rw [kclip_mclip, hq s' h]
/-- the class's rows A and the reference's s, as rays see them -/
def RlA (n p cnt : Nat) (code : Nat → Int32) (en : Nat → Nat) (A : Nat → Nat → Int32) (s : Nat → Int32) : Prop := (s 4 = A 6 0 ∧ s 5 = A 6 1 ∧ s 6 = A 6 2 ∧ s 7 = A 6 3) ∧ (∀ l, l < n → mstr s en cnt l = kstr code cnt (A 6 0) (A 6 1) (A 6 2) (A 2 l) (A 3 l) l ∧ mtl s l = A 4 l) ∧ ∀ j, j < p → mlp s j = A 9 j ∧ mtp s j = A 10 j ∧ ∃ l, l < n ∧ A 9 j = nI l
theorem RlA.set {n p cnt k : Nat} {code : Nat → Int32} {en : Nat → Nat} {c : kZ} {s : Nat → Int32} (hn : n ≤ 9) (hp : p ≤ 4) (hq : ∀ s' : Nat → Int32, (∀ k, 65 ≤ k → k < 300 → s' k = s k) → ∀ (l : Nat) (kd : Int32), kbent (kfac (s' 4) (s' 5) (s' 6) (s' (9 + 4 * l + 1)) l) code kd (s' (9 + 4 * l + 1)) cnt 0 = mbent s' en l kd (s' (9 + 4 * l + 1)) cnt) (hL : RlL n (c.2.1 2) (c.2.1 3) (c.2.1 4) (c.2.1 5) s) (hS : RlS (c.2.1 6) s) (hP : RlP n p (c.2.1 9) (c.2.1 10) s) (hk : k ≤ 3) (x : Int32) : RlA n p cnt code en (kAs c k x) (upd s (4 + k) x) := by
  have e6 : ∀ j, j ≤ 3 → upd s (4 + k) x (4 + j) = kAs c k x 6 j := fun j hj => by
    show upd s (4 + k) x (4 + j) = upd (c.2.1 6) k x j
    by_cases e : j = k
    · rw [e, upd_s, upd_s]
    · rw [upd_n _ _ e, upd_n _ _ (by omega)]
      exact hS.at hj
  refine ⟨⟨e6 0 (by omega), e6 1 (by omega), e6 2 (by omega), e6 3 (by omega)⟩, fun l hl => ⟨?_, ?_⟩, fun j hj => ?_⟩
  · rw [str_eq hq (fun k2 h1 h2 => upd_n _ _ (by omega)) l, show upd s (4 + k) x 4 = _ from e6 0 (by omega), show upd s (4 + k) x 5 = _ from e6 1 (by omega), show upd s (4 + k) x 6 = _ from e6 2 (by omega), upd_n (k := 4 + k) (j := 9 + 4 * l + 0) s x (by omega), upd_n (k := 4 + k) (j := 9 + 4 * l + 1) s x (by omega), (hL l hl).1.1, (hL l hl).2.1.1]
    rfl
  · exact (upd_n _ _ (by omega)).trans (hL l hl).2.2.1.1
  · exact ⟨(upd_n _ _ (by omega)).trans (hP.1 j hj).1.1, (upd_n _ _ (by omega)).trans (hP.1 j hj).2.1, (hP.1 j hj).1.2⟩
theorem RlA.of {n p cnt : Nat} {code : Nat → Int32} {en : Nat → Nat} {c : kZ} {s : Nat → Int32} (hq : ∀ s' : Nat → Int32, (∀ k, 65 ≤ k → k < 300 → s' k = s k) → ∀ (l : Nat) (kd : Int32), kbent (kfac (s' 4) (s' 5) (s' 6) (s' (9 + 4 * l + 1)) l) code kd (s' (9 + 4 * l + 1)) cnt 0 = mbent s' en l kd (s' (9 + 4 * l + 1)) cnt) (hL : RlL n (c.2.1 2) (c.2.1 3) (c.2.1 4) (c.2.1 5) s) (hS : RlS (c.2.1 6) s) (hP : RlP n p (c.2.1 9) (c.2.1 10) s) : RlA n p cnt code en c.2.1 s := by
  refine ⟨⟨hS.1.1, hS.2.1.1, hS.2.2.1.1, hS.2.2.2.1⟩, fun l hl => ⟨?_, (hL l hl).2.2.1.1⟩, fun j hj => ⟨(hP.1 j hj).1.1, (hP.1 j hj).2.1, (hP.1 j hj).1.2⟩⟩
  rw [str_eq hq (fun _ _ _ => rfl) l, hS.1.1, hS.2.1.1, hS.2.2.1.1, (hL l hl).1.1, (hL l hl).2.1.1]
theorem ktub_c {n p : Nat} {sx bd : Int32} {st st' tl tl' ln ln' tn tn' : Nat → Int32} (hn : n ≤ 9) (h : ∀ j, j < p → ln' j = ln j ∧ tn' j = tn j ∧ ∃ l, l < n ∧ ln j = nI l) (g : ∀ l, l < n → st' l = st l ∧ tl' l = tl l) : ktub sx bd st' tl' ln' tn' p = ktub sx bd st tl ln tn p := by
  unfold ktub
  refine List.map_congr_left (fun j hj => ?_)
  obtain ⟨e1, e2, l, hl, e3⟩ := h j (List.mem_range.mp hj)
  unfold kent
  rw [e1, e2, e3, nI_clamp (by omega), (g l hl).1, (g l hl).2]
theorem RlA.tb {n p cnt : Nat} {code : Nat → Int32} {en : Nat → Nat} {A : Nat → Nat → Int32} {s : Nat → Int32} (hn : n ≤ 9) (h : RlA n p cnt code en A s) : mTube s en cnt p = cTube A 1 code cnt p := ktub_c hn h.2.2 h.2.1
theorem RlA.wr {n p cnt : Nat} {code : Nat → Int32} {en : Nat → Nat} {A : Nat → Nat → Int32} {s : Nat → Int32} (hn : n ≤ 9) (h : RlA n p cnt code en A s) : mwr (s 5) (s 6) (mTube s en cnt p) = cwr (A 6 1) (A 6 2) (cTube A 1 code cnt p) := by
  rw [mwr_cwr, h.tb hn, h.1.2.1, h.1.2.2.1]
theorem RlL.kd {n : Nat} {kd bd tl pr s : Nat → Int32} (g : RlL n kd bd tl pr s) : ∀ j, j < n → 1 ≤ (kd j).toInt ∧ (kd j).toInt ≤ 5 := fun j hj => (g j hj).1.2
theorem j_seen {X : kX} {d : Nat} (hd : 20 ≤ d) (x : Int32) : kJn X d 0 0 Y_X9_seen Y_X10_seen [(1, .int x)] := by
  intro c w m v E hRl
  obtain ⟨⟨n, p, r, ⟨⟨hn9, hp4, hr6⟩, ⟨hn, hn'⟩, ⟨hp, hp'⟩, ⟨hr, hr'⟩, hz⟩, hL, hS, hP, hRp, cnt, L, code, en, hu, hL20, hc8, hwf, hs1, hm, hq⟩, hK, hT, hW, hC, hH, hF, hV⟩ := id hRl
  have hA := RlA.of hq hL hS hP
  have hse := hA.1
  have hM : ∀ w1 : kZ, WP X d 0 0 Y_X10_seen 0 _ [] (HP c w1 m v E) _ := fun w1 => wp_depth (by omega) (s_X10_seen (X := X) (d := 0) (c := c) (w := w1) (m := m) (v := v) (E := E) hs1 hc8 hm hn' hn9 hp' hp4 (hP.vm hn9) x)
  refine wp_mono ?_ (wp_depth (by omega) (s_X9_seen (d := 0) hn hn9 rfl hu hL20 hc8 hwf hL.kd hp hp4 (hP.vp hn9) hV.1 x))
  rintro r1 t1 (⟨h, rfl, rfl⟩ | ⟨h, rfl, w1, rfl, hw, hray⟩)
  · refine ⟨_, c, w, E, rfl, rfl, wp_mono ?_ (hM _)⟩
    rintro r2 t2 (⟨g, rfl, rfl⟩ | ⟨g, rfl, v1, rfl, -⟩)
    · exact ⟨rfl, m, v, rfl, hRl⟩
    · exact absurd g h
  · refine ⟨_, c, w1, E, rfl, rfl, wp_mono ?_ (hM _)⟩
    rintro r2 t2 (⟨g, rfl, rfl⟩ | ⟨g, rfl, v1, rfl, -⟩)
    · exact absurd h g
    · refine ⟨?_, m, v1, rfl, hRl.w (hV.f (hw.2.1 72 (by omega)) hray)⟩
      rw [msee_csee, hA.tb hn9, hse.2.1, hse.2.2.1]
theorem j_shift {X : kX} {d : Nat} (hd : 20 ≤ d) : kJn X d 0 0 Y_X9_shift Y_X10_shift [] := by
  intro c w m v E hRl
  obtain ⟨⟨n, p, r, ⟨⟨hn9, hp4, hr6⟩, ⟨hn, hn'⟩, ⟨hp, hp'⟩, ⟨hr, hr'⟩, hz⟩, hL, hS, hP, hRp, cnt, L, code, en, hu, hL20, hc8, hwf, hs1, hm, hq⟩, hK, hT, hW, hC, hH, hF, hV⟩ := id hRl
  have hA := RlA.of hq hL hS hP
  have hse := hA.1
  have hM : ∀ w1 : kZ, WP X d 0 0 Y_X10_shift 0 _ [] (HP c w1 m v E) _ := fun w1 => wp_depth (by omega) (s_X10_shift (X := X) (d := 0) (c := c) (w := w1) (m := m) (v := v) (E := E) hs1 hc8 hm hn' hn9 hp' hp4 (hP.vm hn9) )
  refine wp_mono ?_ (wp_depth (by omega) (s_X9_shift (d := 0) hn hn9 rfl hu hL20 hc8 hwf hL.kd hp hp4 (hP.vp hn9) hV.1 ))
  rintro r1 t1 ⟨rfl, w1, rfl, hw, hray⟩
  refine ⟨_, c, w1, E, rfl, rfl, wp_mono ?_ (hM _)⟩
  rintro r2 t2 ⟨rfl, v1, rfl, -⟩
  refine ⟨?_, m, v1, rfl, hRl.w (hV.f (hw.2.1 72 (by omega)) hray)⟩
  rw [msee_csee, hA.tb hn9, hse.2.1, hse.2.2.1, Int32.zero_mul, Int32.add_zero]
theorem j_blur {X : kX} {d : Nat} (hd : 20 ≤ d) : kJn X d 0 0 Y_X9_blur Y_X10_blur [] := by
  intro c w m v E hRl
  obtain ⟨⟨n, p, r, ⟨⟨hn9, hp4, hr6⟩, ⟨hn, hn'⟩, ⟨hp, hp'⟩, ⟨hr, hr'⟩, hz⟩, hL, hS, hP, hRp, cnt, L, code, en, hu, hL20, hc8, hwf, hs1, hm, hq⟩, hK, hT, hW, hC, hH, hF, hV⟩ := id hRl
  have hA := RlA.of hq hL hS hP
  have hse := hA.1
  have hM : ∀ w1 : kZ, WP X d 0 0 Y_X10_blur 0 _ [] (HP c w1 m v E) _ := fun w1 => wp_depth (by omega) (s_X10_blur (X := X) (d := 0) (c := c) (w := w1) (m := m) (v := v) (E := E) hs1 hc8 hm hn' hn9 hp' hp4 (hP.vm hn9) )
  refine wp_mono ?_ (wp_depth (by omega) (s_X9_blur (d := 0) hn hn9 rfl hu hL20 hc8 hwf hL.kd hp hp4 (hP.vp hn9) hV.1 ))
  rintro r1 t1 ⟨rfl, w1, rfl, hw, hray⟩
  refine ⟨_, c, w1, E, rfl, rfl, wp_mono ?_ (hM _)⟩
  rintro r2 t2 ⟨rfl, v1, rfl, -⟩
  refine ⟨?_, m, v1, rfl, hRl.w (hV.f (hw.2.1 72 (by omega)) hray)⟩
  rw [msee_csee, msee_csee, hA.tb hn9, hse.2.1, hse.2.2.1, Int32.zero_mul, Int32.add_zero, Int32.one_mul, Int32.add_comm, Int32.add_sub_cancel]
theorem j_wrong {X : kX} {d : Nat} (hd : 20 ≤ d) : kJn X d 0 0 Y_X9_wrong Y_X10_wrong [] := by
  intro c w m v E hRl
  obtain ⟨⟨n, p, r, ⟨⟨hn9, hp4, hr6⟩, ⟨hn, hn'⟩, ⟨hp, hp'⟩, ⟨hr, hr'⟩, hz⟩, hL, hS, hP, hRp, cnt, L, code, en, hu, hL20, hc8, hwf, hs1, hm, hq⟩, hK, hT, hW, hC, hH, hF, hV⟩ := id hRl
  have hA := RlA.of hq hL hS hP
  have hse := hA.1
  have hM : ∀ w1 : kZ, WP X d 0 0 Y_X10_wrong 0 _ [] (HP c w1 m v E) _ := fun w1 => wp_depth (by omega) (s_X10_wrong (X := X) (d := 0) (c := c) (w := w1) (m := m) (v := v) (E := E) hs1 hc8 hm hn' hn9 hp' hp4 (hP.vm hn9) )
  refine wp_mono ?_ (wp_depth (by omega) (s_X9_wrong (d := 0) hn hn9 rfl hu hL20 hc8 hwf hL.kd hp hp4 (hP.vp hn9) hV.1 ))
  rintro r1 t1 ⟨rfl, w1, rfl, hw, hray⟩
  refine ⟨_, c, w1, E, rfl, rfl, wp_mono ?_ (hM _)⟩
  rintro r2 t2 ⟨rfl, v1, rfl, -⟩
  refine ⟨?_, m, v1, rfl, hRl.w (hV.f (hw.2.1 72 (by omega)) hray)⟩
  rw [hA.wr hn9]
theorem j_mended {X : kX} {d : Nat} (hd : 20 ≤ d) : kJn X d 0 0 Y_X9_mended Y_X10_mended [] := by
  intro c w m v E hRl
  obtain ⟨⟨n, p, r, ⟨⟨hn9, hp4, hr6⟩, ⟨hn, hn'⟩, ⟨hp, hp'⟩, ⟨hr, hr'⟩, hz⟩, hL, hS, hP, hRp, cnt, L, code, en, hu, hL20, hc8, hwf, hs1, hm, hq⟩, hK, hT, hW, hC, hH, hF, hV⟩ := id hRl
  have hA := RlA.of hq hL hS hP
  have hse := hA.1
  have hM : ∀ w1 : kZ, WP X d 0 0 Y_X10_mended 0 _ [] (HP c w1 m v E) _ := fun w1 => wp_depth (by omega) (s_X10_mended (X := X) (d := 0) (c := c) (w := w1) (m := m) (v := v) (E := E) hs1 hc8 hm hn' hn9 hp' hp4 (hP.vm hn9) )
  refine wp_mono ?_ (wp_depth (by omega) (s_X9_mended (d := 0) hn hn9 rfl hu hL20 hc8 hwf hL.kd hp hp4 (hP.vp hn9) hV.1 ))
  rintro r1 t1 ⟨rfl, w1, rfl, hw, hray⟩
  refine ⟨_, c, w1, E, rfl, rfl, wp_mono ?_ (hM _)⟩
  rintro r2 t2 ⟨rfl, v1, rfl, -⟩
  refine ⟨?_, m, v1, rfl, hRl.w (hV.f (hw.2.1 72 (by omega)) hray)⟩
  rw [hA.wr hn9, hse.2.2.2]
