/-! ===== call by call: the tube ===== -/
theorem xch_msw (s : Nat → Int32) (a b : Nat) : upd (upd (upd (upd s (45 + 2 * a + 0) (s (45 + 2 * b + 0))) (45 + 2 * b + 0) (s (45 + 2 * a + 0))) (45 + 2 * a + 1) ((upd (upd s (45 + 2 * a + 0) (s (45 + 2 * b + 0))) (45 + 2 * b + 0) (s (45 + 2 * a + 0))) (45 + 2 * b + 1))) (45 + 2 * b + 1) ((upd (upd s (45 + 2 * a + 0) (s (45 + 2 * b + 0))) (45 + 2 * b + 0) (s (45 + 2 * a + 0))) (45 + 2 * a + 1)) = msw s a b := by
  funext k
  simp only [msw, upd]
  repeat' split
  all_goals first | rfl | omega | (congr 1; omega) | skip
theorem RlP.sw {n p : Nat} {ln tn s : Nat → Int32} (g : RlP n p ln tn s) {a b : Nat} (ha : a < p) (hb : b < p) : RlP n p (swp ln a b) (swp tn a b) (msw s a b) := by
  have k1 : ∀ j, msw s a b (45 + 2 * j) = swp (mlp s) a b j := fun j => congrFun (mlp_msw s a b) j
  have k2 : ∀ j, msw s a b (45 + 2 * j + 1) = swp (mtp s) a b j := fun j => congrFun (mtp_msw s a b) j
  refine ⟨fun j hj => ?_, fun i j hi hj e => ?_⟩
  · rw [k1, k2, swp_e, swp_e, swp_e, swp_e]
    split
    · exact g.1 a ha
    · split
      · exact g.1 b hb
      · exact g.1 j hj
  · rw [swp_e, swp_e] at e
    have h2 := g.2
    repeat' split at e
    all_goals first
      | omega
      | (have := h2 _ _ ha ha e; omega)
      | (have := h2 _ _ ha hb e; omega)
      | (have := h2 _ _ hb ha e; omega)
      | (have := h2 _ _ hb hb e; omega)
      | (have := h2 _ _ ha hj e; omega)
      | (have := h2 _ _ hb hj e; omega)
      | (have := h2 _ _ hi ha e; omega)
      | (have := h2 _ _ hi hb e; omega)
      | (have := h2 _ _ hi hj e; omega)
theorem j_exchange {X : kX} {d : Nat} (hd : 20 ≤ d) (q u : Int32) : kJn X d 0 0 Y_X9_exchange Y_X10_exchange [(1, .int q), (2, .int u)] := by
  intro c w m v E hRl
  obtain ⟨⟨n, p, r, ⟨⟨hn9, hp4, hr6⟩, ⟨hn, hn'⟩, ⟨hp, hp'⟩, ⟨hr, hr'⟩, hz⟩, hL, hS, hP, hRp, hU⟩, -⟩ := id hRl
  have hM : ∀ c1 : kZ, WP X d 0 0 Y_X10_exchange 0 _ [] (HP c1 w m v E) _ := fun c1 => wp_depth (by omega) (s_X10_exchange (X := X) (d := 0) (c := c1) (w := w) (m := m) (v := v) (E := E) hp' hp4 q u)
  refine wp_mono ?_ (wp_depth (by omega) (s_X9_exchange (d := 0) hp hp4 q u))
  rintro r1 h1 (⟨h, rfl, rfl⟩ | ⟨a, b, ha, hb, rfl, rfl, rfl, rfl⟩)
  · refine ⟨_, c, w, E, rfl, rfl, wp_mono ?_ (hM _)⟩
    rintro r2 h2 (⟨g, rfl, rfl⟩ | ⟨a, b, ha, hb, rfl, rfl, rfl, rfl⟩)
    · exact ⟨rfl, m, v, rfl, hRl⟩
    · exact absurd ⟨nI_rng ha (by omega), nI_rng hb (by omega)⟩ h
  · refine ⟨_, _, w, E, rfl, rfl, wp_mono ?_ (hM _)⟩
    rintro r2 h2 (⟨g, rfl, rfl⟩ | ⟨a2, b2, ha2, hb2, e1, e2, rfl, rfl⟩)
    · exact absurd ⟨nI_rng ha (by omega), nI_rng hb (by omega)⟩ g
    · obtain rfl := nI_ij (by omega) (by omega) e1
      obtain rfl := nI_ij (by omega) (by omega) e2
      rw [xch_msw]
      have u1 : ∀ k, (k < 45 ∨ 53 ≤ k) → msw (m.2.1 81) a b k = m.2.1 81 k := fun k hk => msw_out _ (by omega) (by omega) (by omega)
      exact ⟨rfl, _, v, rfl, Rel.b (((RlO.rf c).A (by omega) _).A (by omega) _) ⟨⟨⟨hn9, hp4, hr6⟩, ⟨hn, (u1 _ (by omega)).trans hn'⟩, ⟨hp, (u1 _ (by omega)).trans hp'⟩, ⟨hr, (u1 _ (by omega)).trans hr'⟩, (u1 _ (by omega)).trans hz⟩, hL.c hn9 (fun k a b => u1 k (by omega)), hS.c (fun k a b => u1 k (by omega)), hP.sw ha hb, hRp.c hr6 (fun k a b => u1 k (by omega)), hU.c (u1 1 (by omega)) (fun k a b => u1 k (by omega))⟩ hRl⟩
theorem RlP.vp {n p : Nat} {ln tn s : Nat → Int32} (hn : n ≤ 9) (g : RlP n p ln tn s) : ∀ j, j < p → vp_in (ln j) n := fun j hj => by
  obtain ⟨l, hl, e⟩ := (g.1 j hj).1.2
  rw [e]
  exact vp_in_nI hl (by omega)
theorem RlP.vm {n p : Nat} {ln tn s : Nat → Int32} (hn : n ≤ 9) (g : RlP n p ln tn s) : ∀ j, j < p → vp_in (mlp s j) n := fun j hj => by
  rw [show mlp s j = ln j from (g.1 j hj).1.1]
  exact g.vp hn j hj
theorem kpri_c {ln ln' pr pr' : Nat → Int32} {n p : Nat} (hn : n ≤ 9) (h : ∀ j, j < p → ln' j = ln j ∧ ∃ l, l < n ∧ ln j = nI l) (g : ∀ l, l < n → pr' l = pr l) : ∀ k i z, i + k = p → kpri ln' pr' k i z = kpri ln pr k i z
  | 0, _, _, _ => rfl
  | k + 1, i, z, hi => by
    obtain ⟨e, l, hl, e2⟩ := h i (by omega)
    simp only [kpri]
    rw [e, e2, nI_clamp (by omega), g l hl]
    exact kpri_c hn h g k (i + 1) _ (by omega)
theorem j_price {X : kX} {d : Nat} (hd : 20 ≤ d) : kJn X d 0 0 Y_X9_price Y_X10_price [] := by
  intro c w m v E hRl
  obtain ⟨⟨n, p, r, ⟨⟨hn9, hp4, hr6⟩, ⟨hn, hn'⟩, ⟨hp, hp'⟩, ⟨hr, hr'⟩, hz⟩, hL, hS, hP, hRp, hU⟩, -⟩ := id hRl
  have hln : ∀ j, j < p → m.2.1 81 (45 + 2 * j) = nI ((c.2.1 9 j).toNatClampNeg) ∧ (c.2.1 9 j).toNatClampNeg < 9 := fun j hj => by
    obtain ⟨⟨e, l, hl, e2⟩, -⟩ := hP.1 j hj
    rw [e, show c.2.1 (1 + 8) j = nI l from e2, nI_clamp (by omega)]
    exact ⟨rfl, by omega⟩
  refine wp_mono ?_ (wp_depth (by omega) (s_X9_price (d := 0) hn hn9 hp hp4 (hP.vp hn9)))
  rintro r1 h1 ⟨rfl, rfl⟩
  refine ⟨_, c, w, E, rfl, rfl, wp_mono ?_ (wp_depth (by omega) (s_X10_price (d := 0) hp' hp4 _ hln))⟩
  rintro r2 h2 ⟨rfl, rfl⟩
  exact ⟨congrArg (fun z => some (Value.int z)) (kpri_c hn9 (fun j hj => (hP.1 j hj).1) (fun l hl => (hL l hl).2.2.2.1) p 0 0 (by omega)), m, v, rfl, hRl⟩
theorem RlP.kf9 {n p : Nat} {ln tn s : Nat → Int32} (g : RlP n p ln tn s) (l : Int32) : kfi (mln s) l p 0 = kfi ln l p 0 := kfi_congr p 0 (fun j _ h => (g.1 j (by omega)).1.1)
theorem RlP.fit {n p : Nat} {ln tn s : Nat → Int32} (hp : p < 4) (g : RlP n p ln tn s) {l t : Int32} (hl : 0 ≤ l.toInt ∧ l.toInt < (n : Int)) (ht : 0 ≤ t.toInt ∧ t.toInt ≤ 3) (h : kfi ln l p 0 = -9) {y : Int32} : RlP n (p + 1) (upd ln p l) (upd tn p t) (upd (upd (upd s (45 + 2 * p) l) (45 + 2 * p + 1) t) 2 y) := by
  have hne : ∀ j, j < p → ln j ≠ l := by
    rcases kfi_iff (f := ln) (l := l) p 0 (by omega) with ⟨-, q⟩ | ⟨j, h1, h2, h3, h4⟩
    · exact fun j hj => q j (by omega) (by omega)
    · exact absurd (h.symm.trans h4) (fun e => nI_n9 j (by omega) e.symm)
  obtain ⟨k, hk, rfl⟩ := k_nat hl
  refine ⟨fun j hj => ?_, fun i j hi hj e => ?_⟩
  · by_cases e : j = p
    · subst e
      rw [upd_s, upd_s]
      exact ⟨⟨by rw [upd_n _ _ (by omega), upd_n _ _ (by omega), upd_s], k, hk, rfl⟩, by rw [upd_n _ _ (by omega), upd_s], nI_all4 ht⟩
    · rw [upd_n ln _ e, upd_n tn _ e, upd3 (by omega) (by omega) (by omega), upd3 (by omega) (by omega) (by omega)]
      exact g.1 j (by omega)
  · by_cases e1 : i = p
    · by_cases e2 : j = p
      · omega
      · subst e1
        rw [upd_s, upd_n _ _ e2] at e
        exact absurd e.symm (hne j (by omega))
    · by_cases e2 : j = p
      · subst e2
        rw [upd_s, upd_n _ _ e1] at e
        exact absurd e (hne i (by omega))
      · rw [upd_n _ _ e1, upd_n _ _ e2] at e
        exact g.2 i j (by omega) (by omega) e
theorem j_fit {X : kX} {d : Nat} (hd : 20 ≤ d) (l t : Int32) : kJn X d 0 0 Y_X9_fit Y_X10_fit [(1, .int l), (2, .int t)] := by
  intro c w m v E hRl
  obtain ⟨⟨n, p, r, ⟨⟨hn9, hp4, hr6⟩, ⟨hn, hn'⟩, ⟨hp, hp'⟩, ⟨hr, hr'⟩, hz⟩, hL, hS, hP, hRp, hU⟩, -⟩ := id hRl
  have hM : ∀ c1 : kZ, WP X d 0 0 Y_X10_fit 0 _ [] (HP c1 w m v E) _ := fun c1 => wp_depth (by omega) (s_X10_fit (X := X) (d := 0) (c := c1) (w := w) (m := m) (v := v) (E := E) hn' hn9 hp' hp4 l t)
  have hf : kfi (mln (m.2.1 81)) l p 0 = kfi (c.2.1 9) l p 0 := hP.kf9 l
  refine wp_mono ?_ (wp_depth (by omega) (s_X9_fit (d := 0) hn hn9 hp hp4 l t))
  rintro r1 h1 (⟨h, rfl, rfl⟩ | ⟨h, h4, rfl, rfl⟩ | ⟨h, h4, h5, rfl, rfl⟩ | ⟨h, h4, h5, rfl, rfl⟩)
  · refine ⟨_, c, w, E, rfl, rfl, wp_mono ?_ (hM _)⟩
    rintro r2 h2 (⟨g, rfl, rfl⟩ | ⟨g, g4, rfl, rfl⟩ | ⟨g, g4, g5, rfl, rfl⟩ | ⟨g, g4, g5, rfl, rfl⟩) <;> first | exact absurd g h | exact ⟨rfl, m, v, rfl, hRl⟩
  · refine ⟨_, c, w, E, rfl, rfl, wp_mono ?_ (hM _)⟩
    rintro r2 h2 (⟨g, rfl, rfl⟩ | ⟨g, g4, rfl, rfl⟩ | ⟨g, g4, g5, rfl, rfl⟩ | ⟨g, g4, g5, rfl, rfl⟩) <;> first | exact absurd h g | omega | exact ⟨rfl, m, v, rfl, hRl⟩
  · refine ⟨_, c, w, E, rfl, rfl, wp_mono ?_ (hM _)⟩
    rintro r2 h2 (⟨g, rfl, rfl⟩ | ⟨g, g4, rfl, rfl⟩ | ⟨g, g4, g5, rfl, rfl⟩ | ⟨g, g4, g5, rfl, rfl⟩) <;> first | exact absurd h g | omega | exact absurd (hf.symm.trans g5) h5 | exact ⟨rfl, m, v, rfl, hRl⟩
  · refine ⟨_, _, w, E, rfl, rfl, wp_mono ?_ (hM _)⟩
    rintro r2 h2 (⟨g, rfl, rfl⟩ | ⟨g, g4, rfl, rfl⟩ | ⟨g, g4, g5, rfl, rfl⟩ | ⟨g, g4, g5, rfl, rfl⟩)
    · exact absurd h g
    · omega
    · exact absurd (hf.trans h5) g5
    · have u1 : ∀ k, k ≠ 2 → (k < 45 ∨ 53 ≤ k) → upd (upd (upd (m.2.1 81) (45 + 2 * p) l) (45 + 2 * p + 1) t) 2 (nI (p + 1)) k = m.2.1 81 k := fun k h1 h2 => upd3 (by omega) (by omega) (by omega)
      exact ⟨rfl, _, v, rfl, Rel.b ((((RlO.rf c).A (by omega) _).A (by omega) _).S (by omega) _) (p := p + 1) ⟨⟨⟨hn9, by omega, hr6⟩, ⟨hn, (u1 _ (by omega) (by omega)).trans hn'⟩, ⟨rfl, upd_s _ _ _⟩, ⟨hr, (u1 _ (by omega) (by omega)).trans hr'⟩, (u1 _ (by omega) (by omega)).trans hz⟩, hL.c hn9 (fun k a b => u1 k (by omega) (by omega)), hS.c (fun k a b => u1 k (by omega) (by omega)), hP.fit h4 h.1 h.2 h5, hRp.c hr6 (fun k a b => u1 k (by omega) (by omega)), hU.c (u1 1 (by omega) (by omega)) (fun k a b => u1 k (by omega) (by omega))⟩ hRl⟩
theorem j_take {X : kX} {d : Nat} (hd : 20 ≤ d) (q : Int32) : kJn X d 0 0 Y_X9_take Y_X10_take [(1, .int q)] := by
  intro c w m v E hRl
  obtain ⟨⟨n, p, r, ⟨⟨hn9, hp4, hr6⟩, ⟨hn, hn'⟩, ⟨hp, hp'⟩, ⟨hr, hr'⟩, hz⟩, hL, hS, hP, hRp, hU⟩, -⟩ := id hRl
  have hM : ∀ c1 : kZ, WP X d 0 0 Y_X10_take 0 _ [] (HP c1 w m v E) _ := fun c1 => wp_depth (by omega) (s_X10_take (X := X) (d := 0) (c := c1) (w := w) (m := m) (v := v) (E := E) hp' hp4 q)
  refine wp_mono ?_ (wp_depth (by omega) (s_X9_take (d := 0) hp hp4 q))
  rintro r1 h1 (⟨h, rfl, rfl⟩ | ⟨j, hj, rfl, rfl, rfl⟩)
  · refine ⟨_, c, w, E, rfl, rfl, wp_mono ?_ (hM _)⟩
    rintro r2 h2 (⟨g, rfl, rfl⟩ | ⟨j, hj, rfl, rfl, rfl⟩)
    · exact ⟨rfl, m, v, rfl, hRl⟩
    · exact absurd (nI_rng hj (by omega)) h
  · refine ⟨_, _, w, E, rfl, rfl, wp_mono ?_ (hM _)⟩
    rintro r2 h2 (⟨g, rfl, rfl⟩ | ⟨j2, hj2, e2, rfl, rfl⟩)
    · exact absurd (nI_rng hj (by omega)) g
    · obtain rfl := nI_ij (by omega) (by omega) e2
      have u1 : ∀ k, k ≠ 2 → (k < 45 ∨ 53 ≤ k) → ksh2 (upd (m.2.1 81) 2 (nI (p - 1))) (45 + 2 * j) (45 + 2 * (p - 1)) k = m.2.1 81 k := fun k h1 h2 => by
        simp only [ksh2]
        rw [if_neg (by omega), upd_n _ _ h1]
      have u2 : ∀ i y, i + 1 < p → y < 2 → ksh2 (upd (m.2.1 81) 2 (nI (p - 1))) (45 + 2 * j) (45 + 2 * (p - 1)) (45 + 2 * i + y) = m.2.1 81 (45 + 2 * (if j ≤ i then i + 1 else i) + y) := fun i y hi hy => by
        by_cases e : j ≤ i
        · rw [if_pos e]
          simp only [ksh2]
          rw [if_pos (by omega), upd_n _ _ (by omega)]
          exact congrArg (m.2.1 81) (by omega)
        · rw [if_neg e]
          simp only [ksh2]
          rw [if_neg (by omega), upd_n _ _ (by omega)]
      have u3 : ∀ (f : Nat → Int32) i, i + 1 < p → ksh f j p i = f (if j ≤ i then i + 1 else i) := fun f i hi => by
        simp only [ksh]
        by_cases e : j ≤ i
        · rw [if_pos ⟨e, hi⟩, if_pos e]
        · rw [if_neg (fun z => e z.1), if_neg e]
      refine ⟨by rw [(hP.1 j hj).1.1], _, v, rfl, Rel.b ((((RlO.rf c).A (by omega) _).A (by omega) _).S (by omega) _) (p := p - 1) ⟨⟨⟨hn9, by omega, hr6⟩, ⟨hn, (u1 _ (by omega) (by omega)).trans hn'⟩, ⟨rfl, ?_⟩, ⟨hr, (u1 _ (by omega) (by omega)).trans hr'⟩, (u1 _ (by omega) (by omega)).trans hz⟩, hL.c hn9 (fun k a b => u1 k (by omega) (by omega)), hS.c (fun k a b => u1 k (by omega) (by omega)), ⟨?_, ?_⟩, hRp.c hr6 (fun k a b => u1 k (by omega) (by omega)), hU.c (u1 1 (by omega) (by omega)) (fun k a b => u1 k (by omega) (by omega))⟩ hRl⟩
      · simp only [ksh2]
        rw [if_neg (by omega), upd_s]
      · intro i hi
        show (_ = ksh (c.2.1 9) j p i ∧ ∃ l, l < n ∧ ksh (c.2.1 9) j p i = nI l) ∧ (_ = ksh (c.2.1 10) j p i ∧ ∃ t, t < 4 ∧ ksh (c.2.1 10) j p i = nI t)
        have a := u2 i 0 (by omega) (by omega)
        have b := u2 i 1 (by omega) (by omega)
        rw [u3 _ i (by omega), u3 _ i (by omega)]
        have hq : (if j ≤ i then i + 1 else i) < p := by split <;> omega
        generalize (if j ≤ i then i + 1 else i) = i2 at a b hq ⊢
        refine ⟨⟨a.trans (hP.1 i2 hq).1.1, (hP.1 i2 hq).1.2⟩, b.trans (hP.1 i2 hq).2.1, (hP.1 i2 hq).2.2⟩
      · intro i i2 hi hi2 e
        have e : ksh (c.2.1 9) j p i = ksh (c.2.1 9) j p i2 := e
        rw [u3 _ i (by omega), u3 _ i2 (by omega)] at e
        have := hP.2 _ _ (by split <;> omega) (by split <;> omega) e
        split at this <;> split at this <;> omega
theorem j_draw {X : kX} {d : Nat} (hd : 20 ≤ d) : kJn X d 0 0 Y_X9_draw Y_X10_draw [] := by
  intro c w m v E hRl
  obtain ⟨⟨n, p, r, ⟨⟨hn9, hp4, hr6⟩, ⟨hn, hn'⟩, ⟨hp, hp'⟩, ⟨hr, hr'⟩, hz⟩, hL, hS, hP, hRp, hU⟩, -⟩ := id hRl
  refine wp_mono ?_ (wp_depth (by omega) (s_X9_draw (d := 0) hp hp4))
  have hM : ∀ c1 : kZ, WP X d 0 0 Y_X10_draw 0 _ [] (HP c1 w m v E) _ := fun c1 => wp_depth (by omega) (s_X10_draw (X := X) (d := 0) (c := c1) (w := w) (m := m) (v := v) (E := E) hp' hp4)
  have hz : m.2.1 81 8 = c.1 113 := hz
  rw [hz] at hM
  generalize c.1 113 * 1103515245 + 12345 = y at hM ⊢
  rintro r1 h1 (⟨h, rfl, rfl⟩ | ⟨h, rfl, rfl⟩)
  · refine ⟨_, c, w, E, rfl, rfl, wp_mono ?_ (hM _)⟩
    rintro r2 h2 (⟨g, rfl, rfl⟩ | ⟨g, rfl, rfl⟩)
    · exact ⟨rfl, m, v, rfl, hRl⟩
    · omega
  · refine ⟨_, _, w, E, rfl, rfl, wp_mono ?_ (hM _)⟩
    rintro r2 h2 (⟨g, rfl, rfl⟩ | ⟨g, rfl, rfl⟩)
    · omega
    · have hq : kz16 y % p < p := Nat.mod_lt _ h
      generalize kz16 y % p = q at hq ⊢
      have hpq := hP.1 q hq
      have e1 : upd (m.2.1 81) 8 y (45 + 2 * q + 1) = c.2.1 10 q := (upd_n _ _ (by omega)).trans hpq.2.1
      have u1 : ∀ k x, k ≠ 8 → (k < 45 ∨ 53 ≤ k) → upd (upd (m.2.1 81) 8 y) (45 + 2 * q + 1) x k = m.2.1 81 k := fun k x h1 h2 => by rw [upd_n _ _ (by omega), upd_n _ _ h1]
      obtain ⟨t, ht, et⟩ := hpq.2.2
      have et : c.2.1 10 q = nI t := et
      have h3 := kq43 (nI t) (nI_rng (n := 4) ht (by omega)).1 (by have := (nI_rng (n := 4) ht (by omega)).2; omega)
      rw [e1]
      refine ⟨rfl, _, v, rfl, Rel.b (((RlO.rf c).S (by omega) _).A (by omega) _) ⟨⟨⟨hn9, hp4, hr6⟩, ⟨hn, (u1 _ _ (by omega) (by omega)).trans hn'⟩, ⟨hp, (u1 _ _ (by omega) (by omega)).trans hp'⟩, ⟨hr, (u1 _ _ (by omega) (by omega)).trans hr'⟩, ?_⟩, hL.c hn9 (fun k a b => u1 k _ (by omega) (by omega)), hS.c (fun k a b => u1 k _ (by omega) (by omega)), ⟨?_, hP.2⟩, hRp.c hr6 (fun k a b => u1 k _ (by omega) (by omega)), hU.c (u1 1 _ (by omega) (by omega)) (fun k a b => u1 k _ (by omega) (by omega))⟩ hRl⟩
      · show upd (upd (m.2.1 81) 8 y) (45 + 2 * q + 1) _ 8 = y
        rw [upd_n _ _ (by omega), upd_s]
      · intro i hi
        show (upd (upd (m.2.1 81) 8 y) (45 + 2 * q + 1) (kq3 (c.2.1 10 q)) (45 + 2 * i) = c.2.1 9 i ∧ _) ∧ (upd (upd (m.2.1 81) 8 y) (45 + 2 * q + 1) (kq3 (c.2.1 10 q)) (45 + 2 * i + 1) = upd (c.2.1 10) q (kq4 (c.2.1 10 q)) i ∧ ∃ k, k < 4 ∧ upd (c.2.1 10) q (kq4 (c.2.1 10 q)) i = nI k)
        rw [upd_n _ _ (by omega), upd_n _ _ (by omega)]
        by_cases e : i = q
        · subst e
          rw [upd_s, upd_s, et, h3.1]
          exact ⟨hpq.1, rfl, nI_all4 (by rw [← h3.1]; exact h3.2)⟩
        · rw [upd_n _ _ (by omega), upd_n _ _ (by omega), upd_n _ _ e]
          exact hP.1 i hi
