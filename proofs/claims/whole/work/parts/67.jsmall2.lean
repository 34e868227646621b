/-! ===== call by call: the small ones, further ===== -/
theorem j_remake {X : kX} {d : Nat} (hd : 20 ≤ d) (l kd : Int32) : kJn X d 0 0 Y_X9_remake Y_X10_remake [(1, .int l), (2, .int kd)] := by
  intro c w m v E hRl
  obtain ⟨⟨n, p, r, ⟨⟨hn9, hp4, hr6⟩, ⟨hn, hn'⟩, ⟨hp, hp'⟩, ⟨hr, hr'⟩, hz⟩, hL, hS, hP, hRp, hU⟩, -⟩ := id hRl
  have hM : ∀ c1 : kZ, WP X d 0 0 Y_X10_remake 0 _ [] (HP c1 w m v E) _ := fun c1 => wp_depth (by omega) (s_X10_remake (X := X) (d := 0) (c := c1) (w := w) (m := m) (v := v) (E := E) hn' hn9 l kd)
  refine wp_mono ?_ (wp_depth (by omega) (s_X9_remake (d := 0) hn hn9 l kd))
  rintro r1 h1 (⟨h, rfl, rfl⟩ | ⟨j, hj, rfl, hk, rfl, rfl⟩)
  · refine ⟨_, c, w, E, rfl, rfl, wp_mono ?_ (hM _)⟩
    rintro r2 h2 (⟨g, rfl, rfl⟩ | ⟨j, hj, rfl, hk, rfl, rfl⟩)
    · exact ⟨rfl, m, v, rfl, hRl⟩
    · exact absurd ⟨nI_rng hj (by omega), hk⟩ h
  · refine ⟨_, _, w, E, rfl, rfl, wp_mono ?_ (hM _)⟩
    rintro r2 h2 (⟨g, rfl, rfl⟩ | ⟨j2, hj2, e2, -, rfl, rfl⟩)
    · exact absurd ⟨nI_rng hj (by omega), hk⟩ g
    · obtain rfl := nI_ij (by omega) (by omega) e2
      have u1 : ∀ k, (k < 9 ∨ 45 ≤ k) → upd (m.2.1 81) (9 + 4 * j + 0) kd k = m.2.1 81 k := fun k hk => upd_n _ _ (by omega)
      refine ⟨by rw [(hL j hj).1.1], _, v, rfl, Rel.b ((RlO.rf c).A (by omega) _) ⟨⟨⟨hn9, hp4, hr6⟩, ⟨hn, (u1 _ (by omega)).trans hn'⟩, ⟨hp, (u1 _ (by omega)).trans hp'⟩, ⟨hr, (u1 _ (by omega)).trans hr'⟩, (u1 _ (by omega)).trans hz⟩, ?_, hS.c (fun k a b => u1 k (by omega)), hP.c hp4 (fun k a b => u1 k (by omega)), hRp.c hr6 (fun k a b => u1 k (by omega)), hU.c (u1 1 (by omega)) (fun k a b => u1 k (by omega))⟩ hRl⟩
      intro l hl
      show (_ = upd (c.2.1 2) j kd l ∧ 1 ≤ (upd (c.2.1 2) j kd l).toInt ∧ (upd (c.2.1 2) j kd l).toInt ≤ 5) ∧ _
      have hl2 : ∀ q2, q2 < 4 → (l ≠ j ∨ q2 ≠ 0) → upd (m.2.1 81) (9 + 4 * j + 0) kd (9 + 4 * l + q2) = m.2.1 81 (9 + 4 * l + q2) := fun q2 hq2 hne => upd_n _ _ (by omega)
      rw [hl2 1 (by omega) (by omega), hl2 2 (by omega) (by omega), hl2 3 (by omega) (by omega)]
      by_cases e : l = j
      · subst e
        rw [upd_s, upd_s]
        exact ⟨⟨rfl, hk⟩, (hL l hj).2⟩
      · rw [upd_n _ _ e, hl2 0 (by omega) (by omega)]
        exact hL l hl
theorem RlS.at {se s : Nat → Int32} (g : RlS se s) {j : Nat} (hj : j ≤ 3) : s (4 + j) = se j := by
  obtain rfl | rfl | rfl | rfl : j = 0 ∨ j = 1 ∨ j = 2 ∨ j = 3 := by omega
  · exact g.1.1
  · exact g.2.1.1
  · exact g.2.2.1.1
  · exact g.2.2.2.1
theorem j_setting {X : kX} {d : Nat} (hd : 20 ≤ d) (wh : Int32) : kJn X d 0 0 Y_X9_setting Y_X10_setting [(1, .int wh)] := by
  intro c w m v E hRl
  obtain ⟨⟨n, p, r, ⟨⟨hn9, hp4, hr6⟩, ⟨hn, hn'⟩, ⟨hp, hp'⟩, ⟨hr, hr'⟩, hz⟩, hL, hS, hP, hRp, hU⟩, -⟩ := id hRl
  refine wp_mono ?_ (wp_depth (by omega) (s_X9_setting (d := 0) wh))
  rintro r1 h1 (⟨h, rfl, rfl⟩ | ⟨j, hj, rfl, rfl, rfl⟩)
  · refine ⟨_, c, w, E, rfl, rfl, wp_mono ?_ (wp_depth (by omega) (s_X10_setting (d := 0) wh))⟩
    rintro r2 h2 (⟨g, rfl, rfl⟩ | ⟨j, hj, rfl, rfl, rfl⟩)
    · exact ⟨rfl, m, v, rfl, hRl⟩
    · exact absurd ⟨(nI_rng (n := 4) (by omega) (by omega)).1, by have := (nI_rng (j := j) (n := 4) (by omega) (by omega)).2; omega⟩ h
  · refine ⟨_, c, w, E, rfl, rfl, wp_mono ?_ (wp_depth (by omega) (s_X10_setting (d := 0) (nI j)))⟩
    rintro r2 h2 (⟨g, rfl, rfl⟩ | ⟨j2, hj2, e2, rfl, rfl⟩)
    · exact absurd ⟨(nI_rng (n := 4) (by omega) (by omega)).1, by have := (nI_rng (j := j) (n := 4) (by omega) (by omega)).2; omega⟩ g
    · obtain rfl := nI_ij (by omega) (by omega) e2
      exact ⟨by rw [hS.at hj], m, v, rfl, hRl⟩
theorem let_c {j : Nat} (hj : j ≤ 3) {A B C D : Prop} : ((nI j = 0 ∧ A) ∨ (nI j = 1 ∧ B) ∨ (nI j = 2 ∧ C) ∨ (nI j = 3 ∧ D)) ↔ ((j = 0 ∧ A) ∨ (j = 1 ∧ B) ∨ (j = 2 ∧ C) ∨ (j = 3 ∧ D)) := by
  have k : ∀ u : Nat, u ≤ 3 → (nI j = nI u ↔ j = u) := fun u hu => ⟨fun e => nI_ij (by omega) (by omega) e, fun e => by rw [e]⟩
  exact or_congr (and_congr (k 0 (by omega)) Iff.rfl) (or_congr (and_congr (k 1 (by omega)) Iff.rfl) (or_congr (and_congr (k 2 (by omega)) Iff.rfl) (and_congr (k 3 (by omega)) Iff.rfl)))
theorem RlS.let {se s : Nat → Int32} (g : RlS se s) {j : Nat} {x : Int32} (h : (j = 0 ∧ 0 ≤ x.toInt ∧ x.toInt ≤ 9) ∨ (j = 1 ∧ 1 ≤ x.toInt ∧ x.toInt ≤ 3) ∨ (j = 2 ∧ -9 ≤ x.toInt ∧ x.toInt ≤ 9) ∨ (j = 3 ∧ 0 ≤ x.toInt ∧ x.toInt ≤ 999)) : RlS (upd se j x) (upd s (4 + j) x) := by
  rcases h with ⟨rfl, h⟩ | ⟨rfl, h⟩ | ⟨rfl, h⟩ | ⟨rfl, h⟩
  · exact ⟨⟨rfl, h⟩, g.2⟩
  · exact ⟨g.1, ⟨rfl, h⟩, g.2.2⟩
  · exact ⟨g.1, g.2.1, ⟨rfl, h⟩, g.2.2.2⟩
  · exact ⟨g.1, g.2.1, g.2.2.1, ⟨rfl, h⟩⟩
theorem j_let {X : kX} {d : Nat} (hd : 20 ≤ d) (wh x : Int32) : kJn X d 0 0 Y_X9_let Y_X10_let [(1, .int wh), (2, .int x)] := by
  intro c w m v E hRl
  obtain ⟨⟨n, p, r, ⟨⟨hn9, hp4, hr6⟩, ⟨hn, hn'⟩, ⟨hp, hp'⟩, ⟨hr, hr'⟩, hz⟩, hL, hS, hP, hRp, hU⟩, -⟩ := id hRl
  have hM : ∀ c1 : kZ, WP X d 0 0 Y_X10_let 0 _ [] (HP c1 w m v E) _ := fun c1 => wp_depth (by omega) (s_X10_let (X := X) (d := 0) (c := c1) (w := w) (m := m) (v := v) (E := E) wh x)
  refine wp_mono ?_ (wp_depth (by omega) (s_X9_let (d := 0) wh x))
  rintro r1 h1 (⟨h, rfl, rfl⟩ | ⟨j, hj, rfl, ⟨h, rfl, rfl⟩ | ⟨h, rfl, rfl⟩⟩)
  · refine ⟨_, c, w, E, rfl, rfl, wp_mono ?_ (hM _)⟩
    rintro r2 h2 (⟨g, rfl, rfl⟩ | ⟨j, hj, rfl, g, rfl, rfl⟩)
    · exact ⟨rfl, m, v, rfl, hRl⟩
    · exact absurd ⟨(nI_rng (n := 4) (by omega) (by omega)).1, by have := (nI_rng (j := j) (n := 4) (by omega) (by omega)).2; omega⟩ h
  · refine ⟨_, c, w, E, rfl, rfl, wp_mono ?_ (hM _)⟩
    rintro r2 h2 (⟨g, rfl, rfl⟩ | ⟨j2, hj2, e2, g, rfl, rfl⟩)
    · exact ⟨rfl, m, v, rfl, hRl⟩
    · exact absurd ((let_c hj).mp g) h
  · refine ⟨_, _, w, E, rfl, rfl, wp_mono ?_ (hM _)⟩
    rintro r2 h2 (⟨g, rfl, rfl⟩ | ⟨j2, hj2, e2, g, rfl, rfl⟩)
    · exact absurd ((let_c hj).mpr h) g
    · obtain rfl := nI_ij (by omega) (by omega) e2
      have u1 : ∀ k, (k < 4 ∨ 8 ≤ k) → upd (m.2.1 81) (4 + j) x k = m.2.1 81 k := fun k hk => upd_n _ _ (by omega)
      exact ⟨by rw [hS.at hj], _, v, rfl, Rel.b ((RlO.rf c).A (by omega) _) ⟨⟨⟨hn9, hp4, hr6⟩, ⟨hn, (u1 _ (by omega)).trans hn'⟩, ⟨hp, (u1 _ (by omega)).trans hp'⟩, ⟨hr, (u1 _ (by omega)).trans hr'⟩, (u1 _ (by omega)).trans hz⟩, hL.c hn9 (fun k a b => u1 k (by omega)), hS.let h, hP.c hp4 (fun k a b => u1 k (by omega)), hRp.c hr6 (fun k a b => u1 k (by omega)), hU.c (u1 1 (by omega)) (fun k a b => u1 k (by omega))⟩ hRl⟩
theorem j_seed {X : kX} {d : Nat} (x : Int32) : kJn X d 0 0 Y_X9_seed Y_X10_seed [(1, .int x)] := by
  intro c w m v E hRl
  obtain ⟨⟨n, p, r, ⟨⟨hn9, hp4, hr6⟩, ⟨hn, hn'⟩, ⟨hp, hp'⟩, ⟨hr, hr'⟩, hz⟩, hL, hS, hP, hRp, hU⟩, -⟩ := id hRl
  refine wp_mono ?_ (s_X9_seed x)
  rintro r1 h1 ⟨rfl, rfl⟩
  refine ⟨_, _, w, E, rfl, rfl, wp_mono ?_ (s_X10_seed x)⟩
  rintro r2 h2 ⟨rfl, rfl⟩
  have u1 : ∀ k, k ≠ 8 → upd (m.2.1 81) 8 x k = m.2.1 81 k := fun k hk => upd_n _ _ hk
  exact ⟨by rw [show m.2.1 81 8 = c.1 113 from hz], _, v, rfl, Rel.b ((RlO.rf c).S (by omega) _) ⟨⟨⟨hn9, hp4, hr6⟩, ⟨hn, (u1 _ (by omega)).trans hn'⟩, ⟨hp, (u1 _ (by omega)).trans hp'⟩, ⟨hr, (u1 _ (by omega)).trans hr'⟩, upd_s _ _ _⟩, hL.c hn9 (fun k a b => u1 k (by omega)), hS.c (fun k a b => u1 k (by omega)), hP.c hp4 (fun k a b => u1 k (by omega)), hRp.c hr6 (fun k a b => u1 k (by omega)), hU.c (u1 1 (by omega)) (fun k a b => u1 k (by omega))⟩ hRl⟩
theorem j_forget {X : kX} {d : Nat} : kJn X d 0 0 Y_X9_forget Y_X10_forget [] := by
  intro c w m v E hRl
  obtain ⟨⟨n, p, r, ⟨⟨hn9, hp4, hr6⟩, ⟨hn, hn'⟩, ⟨hp, hp'⟩, ⟨hr, hr'⟩, hz⟩, hL, hS, hP, hRp, hU⟩, -⟩ := id hRl
  refine wp_mono ?_ s_X9_forget
  rintro r1 h1 ⟨rfl, rfl⟩
  refine ⟨_, _, w, E, rfl, rfl, wp_mono ?_ s_X10_forget⟩
  rintro r2 h2 ⟨rfl, rfl⟩
  have u1 : ∀ k, k ≠ 3 → upd (m.2.1 81) 3 0 k = m.2.1 81 k := fun k hk => upd_n _ _ hk
  exact ⟨by rw [hr', show c.1 110 = nI r from hr], _, v, rfl, Rel.b ((RlO.rf c).S (by omega) _) (r := 0) ⟨⟨⟨hn9, hp4, by omega⟩, ⟨hn, (u1 _ (by omega)).trans hn'⟩, ⟨hp, (u1 _ (by omega)).trans hp'⟩, ⟨rfl, upd_s _ _ _⟩, (u1 _ (by omega)).trans hz⟩, hL.c hn9 (fun k a b => u1 k (by omega)), hS.c (fun k a b => u1 k (by omega)), hP.c hp4 (fun k a b => u1 k (by omega)), fun j hj => absurd hj (by omega), hU.c (u1 1 (by omega)) (fun k a b => u1 k (by omega))⟩ hRl⟩
theorem j_report {X : kX} {d : Nat} (hd : 20 ≤ d) (q u : Int32) : kJn X d 0 0 Y_X9_report Y_X10_report [(1, .int q), (2, .int u)] := by
  intro c w m v E hRl
  obtain ⟨⟨n, p, r, ⟨⟨hn9, hp4, hr6⟩, ⟨hn, hn'⟩, ⟨hp, hp'⟩, ⟨hr, hr'⟩, hz⟩, hL, hS, hP, hRp, hU⟩, -⟩ := id hRl
  have hM : ∀ c1 : kZ, WP X d 0 0 Y_X10_report 0 _ [] (HP c1 w m v E) _ := fun c1 => wp_depth (by omega) (s_X10_report (X := X) (d := 0) (c := c1) (w := w) (m := m) (v := v) (E := E) hr' hr6 q u)
  refine wp_mono ?_ (wp_depth (by omega) (s_X9_report (d := 0) hr hr6 q u))
  rintro r1 h1 (⟨h, rfl, rfl⟩ | ⟨h, h9, rfl, rfl⟩ | ⟨h, h9, rfl, rfl⟩)
  · refine ⟨_, c, w, E, rfl, rfl, wp_mono ?_ (hM _)⟩
    rintro r2 h2 (⟨g, rfl, rfl⟩ | ⟨g, g9, rfl, rfl⟩ | ⟨g, g9, rfl, rfl⟩)
    · exact ⟨rfl, m, v, rfl, hRl⟩
    · exact absurd g h
    · exact absurd g h
  · refine ⟨_, c, w, E, rfl, rfl, wp_mono ?_ (hM _)⟩
    rintro r2 h2 (⟨g, rfl, rfl⟩ | ⟨g, g9, rfl, rfl⟩ | ⟨g, g9, rfl, rfl⟩)
    · exact absurd h g
    · exact ⟨rfl, m, v, rfl, hRl⟩
    · omega
  · refine ⟨_, _, w, E, rfl, rfl, wp_mono ?_ (hM _)⟩
    rintro r2 h2 (⟨g, rfl, rfl⟩ | ⟨g, g9, rfl, rfl⟩ | ⟨g, g9, rfl, rfl⟩)
    · exact absurd h g
    · omega
    · have u1 : ∀ k, k ≠ 3 → (k < 53 ∨ 65 ≤ k) → upd (upd (upd (m.2.1 81) (53 + 2 * r) q) (53 + 2 * r + 1) u) 3 (nI (r + 1)) k = m.2.1 81 k := fun k h1 h2 => upd3 (by omega) (by omega) (by omega)
      refine ⟨rfl, _, v, rfl, Rel.b ((((RlO.rf c).A (by omega) _).A (by omega) _).S (by omega) _) (r := r + 1) ⟨⟨⟨hn9, hp4, by omega⟩, ⟨hn, (u1 _ (by omega) (by omega)).trans hn'⟩, ⟨hp, (u1 _ (by omega) (by omega)).trans hp'⟩, ⟨rfl, upd_s _ _ _⟩, (u1 _ (by omega) (by omega)).trans hz⟩, hL.c hn9 (fun k a b => u1 k (by omega) (by omega)), hS.c (fun k a b => u1 k (by omega) (by omega)), hP.c hp4 (fun k a b => u1 k (by omega) (by omega)), ?_, hU.c (u1 1 (by omega) (by omega)) (fun k a b => u1 k (by omega) (by omega))⟩ hRl⟩
      intro j hj
      show (_ = upd (c.2.1 11) r q j ∧ 0 ≤ (upd (c.2.1 11) r q j).toInt ∧ (upd (c.2.1 11) r q j).toInt ≤ 3) ∧ (_ = upd (c.2.1 12) r u j ∧ 0 ≤ (upd (c.2.1 12) r u j).toInt ∧ (upd (c.2.1 12) r u j).toInt ≤ 1)
      by_cases e : j = r
      · subst e
        rw [upd_s, upd_s]
        exact ⟨⟨by rw [upd_n _ _ (by omega), upd_n _ _ (by omega), upd_s], h.1⟩, ⟨by rw [upd_n _ _ (by omega), upd_s], h.2⟩⟩
      · rw [upd_n _ _ e, upd_n _ _ e, upd3 (by omega) (by omega) (by omega), upd3 (by omega) (by omega) (by omega)]
        exact hRp j (by omega)
theorem j_place {X : kX} {d : Nat} (hd : 20 ≤ d) (q wh : Int32) : kJn X d 0 0 Y_X9_place Y_X10_place [(1, .int q), (2, .int wh)] := by
  intro c w m v E hRl
  obtain ⟨⟨n, p, r, ⟨⟨hn9, hp4, hr6⟩, ⟨hn, hn'⟩, ⟨hp, hp'⟩, ⟨hr, hr'⟩, hz⟩, hL, hS, hP, hRp, hU⟩, -⟩ := id hRl
  have hM : WP X d 0 0 Y_X10_place 0 _ [] (HP c w m v E) _ := wp_depth (by omega) (s_X10_place (X := X) (d := 0) (c := c) (w := w) (m := m) (v := v) (E := E) hp' hp4 q wh)
  refine wp_mono ?_ (wp_depth (by omega) (s_X9_place (d := 0) hp hp4 q wh))
  have hb : ∀ b : Nat, b ≤ 1 → (nI b = 0 ∨ nI b = 1) ∧ 0 ≤ (nI b).toInt ∧ (nI b).toInt ≤ 1 := fun b hb => by
    obtain rfl | rfl : b = 0 ∨ b = 1 := by omega
    · decide
    · decide
  rintro r1 h1 ⟨rfl, ⟨h, rfl⟩ | ⟨j, hj, rfl, h⟩⟩
  · refine ⟨_, c, w, E, rfl, rfl, wp_mono ?_ hM⟩
    rintro r2 h2 ⟨rfl, ⟨g, rfl⟩ | ⟨j, b, hj, hb1, rfl, rfl, rfl⟩⟩
    · exact ⟨rfl, m, v, rfl, hRl⟩
    · rcases h with h | h
      · exact absurd (nI_rng hj (by omega)) h
      · rcases (hb b hb1).1 with e | e
        · exact absurd e h.1
        · exact absurd e h.2
  · have hpj := hP.1 j hj
    rcases h with ⟨rfl, rfl⟩ | ⟨rfl, rfl⟩
    · refine ⟨_, c, w, E, rfl, rfl, wp_mono ?_ hM⟩
      rintro r2 h2 ⟨rfl, ⟨g, rfl⟩ | ⟨j2, b, hj2, hb1, e2, e3, rfl⟩⟩
      · exact absurd ⟨nI_rng hj (by omega), by decide⟩ g
      · obtain rfl := nI_ij (by omega) (by omega) e2
        obtain rfl := nI_ij (i := 0) (by omega) (by omega) e3
        exact ⟨by rw [show m.2.1 81 (45 + 2 * j + 0) = c.2.1 9 j from hpj.1.1], m, v, rfl, hRl⟩
    · refine ⟨_, c, w, E, rfl, rfl, wp_mono ?_ hM⟩
      rintro r2 h2 ⟨rfl, ⟨g, rfl⟩ | ⟨j2, b, hj2, hb1, e2, e3, rfl⟩⟩
      · exact absurd ⟨nI_rng hj (by omega), by decide⟩ g
      · obtain rfl := nI_ij (by omega) (by omega) e2
        obtain rfl := nI_ij (i := 1) (by omega) (by omega) e3
        exact ⟨by rw [show m.2.1 81 (45 + 2 * j + 1) = c.2.1 10 j from hpj.2.1], m, v, rfl, hRl⟩
theorem nI_all4 {t : Int32} (h : 0 ≤ t.toInt ∧ t.toInt ≤ 3) : ∃ k, k < 4 ∧ t = nI k := by
  obtain ⟨k, hk, e⟩ := k_natle (n := 3) h
  exact ⟨k, by omega, e⟩
theorem j_turn {X : kX} {d : Nat} (hd : 20 ≤ d) (q t : Int32) : kJn X d 0 0 Y_X9_turn Y_X10_turn [(1, .int q), (2, .int t)] := by
  intro c w m v E hRl
  obtain ⟨⟨n, p, r, ⟨⟨hn9, hp4, hr6⟩, ⟨hn, hn'⟩, ⟨hp, hp'⟩, ⟨hr, hr'⟩, hz⟩, hL, hS, hP, hRp, hU⟩, -⟩ := id hRl
  have hM : ∀ c1 : kZ, WP X d 0 0 Y_X10_turn 0 _ [] (HP c1 w m v E) _ := fun c1 => wp_depth (by omega) (s_X10_turn (X := X) (d := 0) (c := c1) (w := w) (m := m) (v := v) (E := E) hp' hp4 q t)
  refine wp_mono ?_ (wp_depth (by omega) (s_X9_turn (d := 0) hp hp4 q t))
  rintro r1 h1 (⟨h, rfl, rfl⟩ | ⟨j, hj, rfl, ht, rfl, rfl⟩)
  · refine ⟨_, c, w, E, rfl, rfl, wp_mono ?_ (hM _)⟩
    rintro r2 h2 (⟨g, rfl, rfl⟩ | ⟨j, hj, rfl, ht, rfl, rfl⟩)
    · exact ⟨rfl, m, v, rfl, hRl⟩
    · exact absurd ⟨nI_rng hj (by omega), ht⟩ h
  · refine ⟨_, _, w, E, rfl, rfl, wp_mono ?_ (hM _)⟩
    rintro r2 h2 (⟨g, rfl, rfl⟩ | ⟨j2, hj2, e2, -, rfl, rfl⟩)
    · exact absurd ⟨nI_rng hj (by omega), ht⟩ g
    · obtain rfl := nI_ij (by omega) (by omega) e2
      have u1 : ∀ k, (k < 45 ∨ 53 ≤ k) → upd (m.2.1 81) (45 + 2 * j + 1) t k = m.2.1 81 k := fun k hk => upd_n _ _ (by omega)
      refine ⟨by rw [(hP.1 j hj).2.1], _, v, rfl, Rel.b ((RlO.rf c).A (by omega) _) ⟨⟨⟨hn9, hp4, hr6⟩, ⟨hn, (u1 _ (by omega)).trans hn'⟩, ⟨hp, (u1 _ (by omega)).trans hp'⟩, ⟨hr, (u1 _ (by omega)).trans hr'⟩, (u1 _ (by omega)).trans hz⟩, hL.c hn9 (fun k a b => u1 k (by omega)), hS.c (fun k a b => u1 k (by omega)), ⟨?_, hP.2⟩, hRp.c hr6 (fun k a b => u1 k (by omega)), hU.c (u1 1 (by omega)) (fun k a b => u1 k (by omega))⟩ hRl⟩
      intro i hi
      show (upd (m.2.1 81) (45 + 2 * j + 1) t (45 + 2 * i) = _ ∧ _) ∧ (upd (m.2.1 81) (45 + 2 * j + 1) t (45 + 2 * i + 1) = upd (c.2.1 10) j t i ∧ ∃ k, k < 4 ∧ upd (c.2.1 10) j t i = nI k)
      rw [upd_n _ _ (by omega)]
      by_cases e : i = j
      · subst e
        rw [upd_s, upd_s]
        exact ⟨(hP.1 i hj).1, rfl, nI_all4 ht⟩
      · rw [upd_n _ _ e, upd_n _ _ (by omega)]
        exact hP.1 i hi
