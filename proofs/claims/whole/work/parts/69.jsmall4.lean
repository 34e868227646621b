/-! ===== call by call: rows, the trace, what is kept, the tape ===== -/
theorem j_row {X : kX} {d : Nat} (hd : 20 ≤ d) (q u : Int32) : kJn X d 0 0 Y_X9_row Y_X10_row [(1, .int q), (2, .int u)] := by
  intro c w m v E hRl
  obtain ⟨-, -, -, ⟨rc, hrc6, hrc1, h1, h2, h3⟩, -⟩ := id hRl
  have hM : WP X d 0 0 Y_X10_row 0 _ [] (HP c w m v E) _ := wp_depth (by omega) (s_X10_row (X := X) (d := 0) (c := c) (w := w) (m := m) (v := v) (E := E) h2 hrc6 q u)
  refine wp_mono ?_ (wp_depth (by omega) (s_X9_row (d := 0) h1 hrc6 q u))
  rintro r1 t1 ⟨rfl, ⟨h, rfl⟩ | ⟨a, b, ha, hb, rfl, rfl, rfl⟩⟩
  · refine ⟨_, c, w, E, rfl, rfl, wp_mono ?_ hM⟩
    rintro r2 t2 ⟨rfl, ⟨g, rfl⟩ | ⟨a, b, ha, hb, rfl, rfl, rfl⟩⟩
    · exact ⟨rfl, m, v, rfl, hRl⟩
    · exact absurd ⟨nI_rng ha (by omega), (nI_rng (j := b) (n := 3) (by omega) (by omega)).1, by have := (nI_rng (j := b) (n := 3) (by omega) (by omega)).2; omega⟩ h
  · refine ⟨_, c, w, E, rfl, rfl, wp_mono ?_ hM⟩
    rintro r2 t2 ⟨rfl, ⟨g, rfl⟩ | ⟨a2, b2, ha2, hb2, e1, e2, rfl⟩⟩
    · exact absurd ⟨nI_rng ha (by omega), (nI_rng (j := b) (n := 3) (by omega) (by omega)).1, by have := (nI_rng (j := b) (n := 3) (by omega) (by omega)).2; omega⟩ g
    · obtain rfl := nI_ij (by omega) (by omega) e1
      obtain rfl := nI_ij (by omega) (by omega) e2
      exact ⟨by rw [h3 _ (by omega)], m, v, rfl, hRl⟩
theorem j_alterRow {X : kX} {d : Nat} (hd : 20 ≤ d) (q u x : Int32) : kJn X d 0 0 Y_X9_alterRow Y_X10_alterRow [(1, .int q), (2, .int u), (3, .int x)] := by
  intro c w m v E hRl
  obtain ⟨hB, hK, hT, ⟨rc, hrc6, hrc1, h1, h2, h3⟩, hC, hH, hF, hV⟩ := id hRl
  have hM : ∀ c1 : kZ, WP X d 0 0 Y_X10_alterRow 0 _ [] (HP c1 w m v E) _ := fun c1 => wp_depth (by omega) (s_X10_alterRow (X := X) (d := 0) (c := c1) (w := w) (m := m) (v := v) (E := E) h2 hrc6 q u x)
  refine wp_mono ?_ (wp_depth (by omega) (s_X9_alterRow (d := 0) h1 hrc6 q u x))
  rintro r1 t1 (⟨h, rfl, rfl⟩ | ⟨a, b, ha, hb, rfl, rfl, rfl, rfl⟩)
  · refine ⟨_, c, w, E, rfl, rfl, wp_mono ?_ (hM _)⟩
    rintro r2 t2 (⟨g, rfl, rfl⟩ | ⟨a, b, ha, hb, rfl, rfl, rfl, rfl⟩)
    · exact ⟨rfl, m, v, rfl, hRl⟩
    · exact absurd ⟨nI_rng ha (by omega), (nI_rng (j := b) (n := 3) (by omega) (by omega)).1, by have := (nI_rng (j := b) (n := 3) (by omega) (by omega)).2; omega⟩ h
  · refine ⟨_, _, w, E, rfl, rfl, wp_mono ?_ (hM _)⟩
    rintro r2 t2 (⟨g, rfl, rfl⟩ | ⟨a2, b2, ha2, hb2, e1, e2, rfl, rfl⟩)
    · exact absurd ⟨nI_rng ha (by omega), (nI_rng (j := b) (n := 3) (by omega) (by omega)).1, by have := (nI_rng (j := b) (n := 3) (by omega) (by omega)).2; omega⟩ g
    · obtain rfl := nI_ij (by omega) (by omega) e1
      obtain rfl := nI_ij (by omega) (by omega) e2
      refine ⟨?_, _, v, rfl, ⟨hB, hK, hT, ⟨rc, hrc6, hrc1, h1, h2, fun j hj => ?_⟩, hC, hH, hF, hV⟩⟩
      · rw [h3 _ (by omega)]
        by_cases e : c.2.1 74 (3 * a + b) = x
        · rw [if_neg (fun z => z e), kb_f (fun z => z e)]
          rfl
        · rw [if_pos e, kb_t e]
          rfl
      · show upd (m.2.1 93) (3 * a + b) x j = upd (c.2.1 74) (3 * a + b) x j
        by_cases e : j = 3 * a + b
        · rw [e, upd_s, upd_s]
        · rw [upd_n _ _ e, upd_n _ _ e]
          exact h3 j hj
theorem j_trace {X : kX} {d : Nat} (hd : 20 ≤ d) (q : Int32) : kJn X d 0 0 Y_X9_trace Y_X10_trace [(1, .int q)] := by
  intro c w m v E hRl
  obtain ⟨-, -, -, -, ⟨tc, htc, h1, h2, h3⟩, -⟩ := id hRl
  have hM : WP X d 0 0 Y_X10_trace 0 _ [] (HP c w m v E) _ := wp_depth (by omega) (s_X10_trace (X := X) (d := 0) (c := c) (w := w) (m := m) (v := v) (E := E) h2 (by omega) q)
  rw [show min tc 30 = tc by omega] at hM
  refine wp_mono ?_ (wp_depth (by omega) (s_X9_trace (d := 0) h1 htc q))
  rintro r1 t1 ⟨rfl, ⟨h, rfl⟩ | ⟨a, ha, rfl, rfl⟩⟩
  · refine ⟨_, c, w, E, rfl, rfl, wp_mono ?_ hM⟩
    rintro r2 t2 ⟨rfl, ⟨g, rfl⟩ | ⟨a, ha, rfl, rfl⟩⟩
    · exact ⟨rfl, m, v, rfl, hRl⟩
    · exact absurd (nI_rng ha (by omega)) h
  · refine ⟨_, c, w, E, rfl, rfl, wp_mono ?_ hM⟩
    rintro r2 t2 ⟨rfl, ⟨g, rfl⟩ | ⟨a2, ha2, e1, rfl⟩⟩
    · exact absurd (nI_rng ha (by omega)) g
    · obtain rfl := nI_ij (by omega) (by omega) e1
      exact ⟨by rw [h3 _ ha], m, v, rfl, hRl⟩
theorem j_many {X : kX} {d : Nat} (hd : 20 ≤ d) (q : Int32) : kJn X d 0 0 Y_X9_many Y_X10_many [(1, .int q)] := by
  intro c w m v E hRl
  obtain ⟨⟨n, p, r, ⟨⟨hn9, hp4, hr6⟩, ⟨hn, hn'⟩, ⟨hp, hp'⟩, ⟨hr, hr'⟩, hz⟩, hL, hS, hP, hRp, cnt, L, code, en, hU, -, -, -, hcn, -⟩, -, ⟨T, hT2, hT, hT', -⟩, ⟨rc, hrc6, hrc1, hw1, hw2, hw3⟩, ⟨tc, htc, hc1, hc2, hc3⟩, -⟩ := id hRl
  have hM : WP X d 0 0 Y_X10_many 0 _ [] (HP c w m v E) _ := wp_depth (by omega) (s_X10_many (X := X) (d := 0) (c := c) (w := w) (m := m) (v := v) (E := E) hc2 (by omega) q)
  rw [show min tc 30 = tc by omega] at hM
  refine wp_mono ?_ (wp_depth (by omega) (s_X9_many (d := 0) (hU c w m v).1 q))
  rintro r1 t1 ⟨rfl, h⟩
  have key : ∃ z : Int32, r1 = some (.int z) ∧ ∀ r2, ((q = 0 ∧ r2 = some (.int ((m.2.1 81) 0))) ∨ (q = 1 ∧ r2 = some (.int ((m.2.1 81) 1))) ∨ (q = 2 ∧ r2 = some (.int ((m.2.1 81) 2))) ∨ (q = 3 ∧ r2 = some (.int ((m.2.1 81) 3))) ∨ (q = 4 ∧ r2 = some (.int (m.1 8022))) ∨ (q = 5 ∧ r2 = some (.int (m.1 8024))) ∨ (q = 6 ∧ r2 = some (.int (nI tc))) ∨ ((q ≠ 0 ∧ q ≠ 1 ∧ q ≠ 2 ∧ q ≠ 3 ∧ q ≠ 4 ∧ q ≠ 5 ∧ q ≠ 6) ∧ r2 = some (.int (-1)))) → r2 = some (Value.int z) := by
    have hn : c.1 100 = nI n := hn
    have hp : c.1 107 = nI p := hp
    have hr : c.1 110 = nI r := hr
    rw [hn, hp, hr, hw1, hT, hc1] at h
    rw [hn', hcn, hp', hr', hw2, hT']
    rcases h with ⟨e, rfl⟩ | ⟨e, rfl⟩ | ⟨e, rfl⟩ | ⟨e, rfl⟩ | ⟨e, rfl⟩ | ⟨e, rfl⟩ | ⟨e, rfl⟩ | ⟨e, rfl⟩
    all_goals
      refine ⟨_, rfl, fun r2 g => ?_⟩
      rcases g with ⟨e2, rfl⟩ | ⟨e2, rfl⟩ | ⟨e2, rfl⟩ | ⟨e2, rfl⟩ | ⟨e2, rfl⟩ | ⟨e2, rfl⟩ | ⟨e2, rfl⟩ | ⟨e2, rfl⟩
    all_goals first
      | rfl
      | exact absurd (Eq.trans (Eq.symm e) e2) (by decide)
      | (obtain ⟨n0, n1, n2, n3, n4, n5, n6⟩ := e2; first | exact absurd e n0 | exact absurd e n1 | exact absurd e n2 | exact absurd e n3 | exact absurd e n4 | exact absurd e n5 | exact absurd e n6)
      | (obtain ⟨n0, n1, n2, n3, n4, n5, n6⟩ := e; first | exact absurd e2 n0 | exact absurd e2 n1 | exact absurd e2 n2 | exact absurd e2 n3 | exact absurd e2 n4 | exact absurd e2 n5 | exact absurd e2 n6)
  obtain ⟨z, rfl, hz2⟩ := key
  refine ⟨z, c, w, E, rfl, rfl, wp_mono ?_ hM⟩
  rintro r2 t2 ⟨rfl, g⟩
  exact ⟨hz2 r2 g, m, v, rfl, hRl⟩
theorem RlB.cp {a b n p r : Nat} {c c' : kZ} {E : kH} {s s' : Nat → Int32} (h : kBc c' a c b) (hs : ∀ k, k < 300 → s' k = s k) (g : RlB b n p r c E s) : RlB a n p r c' E s' := by
  obtain ⟨⟨e1, e2, e3, e4⟩, b1, b2, b3, b4, b5, b6, b7, b8, b9, b10⟩ := h
  obtain ⟨hN, hL, hS, hP, hR, hU⟩ := g
  obtain ⟨⟨hn9, hp4, hr6⟩, -⟩ := id hN
  refine ⟨?_, (hL.c hn9 (fun k _ _ => hs k (by omega))).k (fun j hj => b1 j (by omega)) (fun j hj => b2 j (by omega)) (fun j hj => b3 j (by omega)) (fun j hj => b4 j (by omega)), (hS.c (fun k _ _ => hs k (by omega))).k b5, (hP.c hp4 (fun k _ _ => hs k (by omega))).k (fun j hj => b6 j (by omega)) (fun j hj => b7 j (by omega)), (hR.c hr6 (fun k _ _ => hs k (by omega))).k (fun j hj => b8 j (by omega)) (fun j hj => b9 j (by omega)), ?_⟩
  · rw [e1, e2, e3, e4]
    exact hN.c (hs 0 (by omega)) (hs 2 (by omega)) (hs 3 (by omega)) (hs 8 (by omega))
  · rw [b10]
    exact hU.c (hs 1 (by omega)) (fun k _ h => hs k h)
theorem kov_lt (f g : Nat → Int32) {k : Nat} (h : k < 300) : kov f g 300 k = g k := if_pos h
theorem j_keep {X : kX} {d : Nat} (hd : 20 ≤ d) : kJn X d 0 0 Y_X9_keep Y_X10_keep [] := by
  intro c w m v E hRl
  obtain ⟨⟨n, p, r, hB⟩, hK, hT, hW, hC, hH, hF, hV⟩ := id hRl
  refine wp_mono ?_ (wp_depth (by omega) (s_X9_keep (d := 0)))
  rintro r1 t1 ⟨rfl, c', rfl, hc, f1, f2, f3, f4⟩
  refine ⟨_, _, w, E, rfl, rfl, wp_mono ?_ s_X10_keep⟩
  rintro r2 t2 ⟨rfl, rfl⟩
  have q1 : ∀ k, k ≠ 2 → (k < 1300 ∨ 1314 ≤ k) → (setS c' 2 1).1 k = c.1 k := fun k h1 h2 => (upd_n _ _ h1).trans (f1 k (by omega))
  have q2 : ∀ k, (k ≤ 13 ∨ 25 ≤ k) → (setS c' 2 1).2.1 k = c.2.1 k := fun k h => f2 k (by omega)
  have q3 : ∀ k, k ≠ 13 → (setS c' 2 1).2.2.1 k = c.2.2.1 k := fun k h => f3 k h
  refine ⟨rfl, _, v, rfl, ⟨⟨n, p, r, ?_⟩, ⟨Or.inr rfl, rfl, fun _ => ⟨n, p, r, ?_⟩⟩, ?_, ?_, ?_, ?_, ?_, hV⟩⟩
  · show RlB 1 n p r (setS c' 2 1) E (m.2.1 81)
    unfold RlB at hB ⊢
    rw [q1 (100 * 1) (by omega) (by omega), q1 (100 * 1 + 7) (by omega) (by omega), q1 (100 * 1 + 10) (by omega) (by omega), q1 (100 * 1 + 13) (by omega) (by omega), q2 (1 + 1) (by omega), q2 (1 + 2) (by omega), q2 (1 + 3) (by omega), q2 (1 + 4) (by omega), q2 (1 + 5) (by omega), q2 (1 + 8) (by omega), q2 (1 + 9) (by omega), q2 (1 + 10) (by omega), q2 (1 + 11) (by omega), q3 1 (by omega)]
    exact hB
  · have hb := RlB.cp (a := 13) (s' := kov (m.2.1 82) (m.2.1 81) 300) hc (fun k h => kov_lt _ _ h) hB
    have e1 : ∀ k, k ≠ 2 → (setS c' 2 1).1 k = c'.1 k := fun k h => upd_n _ _ h
    show RlB 13 n p r (setS c' 2 1) E (kov (m.2.1 82) (m.2.1 81) 300)
    unfold RlB at hb ⊢
    rw [e1 (100 * 13) (by omega), e1 (100 * 13 + 7) (by omega), e1 (100 * 13 + 10) (by omega), e1 (100 * 13 + 13) (by omega)]
    exact hb
  · show RlT (setS c' 2 1) m
    unfold RlT at hT ⊢
    rw [q1 3701 (by omega) (by omega), q2 38 (by omega)]
    exact hT
  · show RlW (setS c' 2 1) m
    unfold RlW at hW ⊢
    rw [q1 11 (by omega) (by omega), q2 74 (by omega)]
    exact hW
  · show RlC (setS c' 2 1) m
    unfold RlC at hC ⊢
    rw [q1 7805 (by omega) (by omega), q2 79 (by omega)]
    exact hC
  · show RlH (setS c' 2 1) m E
    unfold RlH RlH1 at hH ⊢
    rw [show (setS c' 2 1).2.2.2 = c.2.2.2 from f4]
    exact hH
  · show RlF (setS c' 2 1) m E
    unfold RlF at hF ⊢
    rw [show (setS c' 2 1).2.2.2 = c.2.2.2 from f4, q2 77 (by omega)]
    exact hF
theorem j_again {X : kX} {d : Nat} (hd : 20 ≤ d) : kJn X d 0 0 Y_X9_again Y_X10_again [] := by
  intro c w m v E hRl
  obtain ⟨-, ⟨hK1, hK2, hK3⟩, -⟩ := id hRl
  refine wp_mono ?_ (wp_depth (by omega) (s_X9_again (d := 0) hK1))
  have hM : ∀ c1 : kZ, WP X d 0 0 Y_X10_again 0 _ [] (HP c1 w m v E) _ := fun c1 => s_X10_again (X := X) (d := d) (c := c1) (w := w) (m := m) (v := v) (E := E) (by rw [hK2]; exact hK1)
  rw [hK2] at hM
  rintro r1 t1 (⟨h, rfl, rfl⟩ | ⟨h, c', rfl, rfl, hc, f1, f2, f3, f4⟩)
  · refine ⟨_, c, w, E, rfl, rfl, wp_mono ?_ (hM _)⟩
    rintro r2 t2 (⟨g, rfl, rfl⟩ | ⟨g, rfl, rfl⟩)
    · exact ⟨rfl, m, v, rfl, hRl⟩
    · exact absurd (Eq.trans (Eq.symm h) g) (by decide)
  · obtain ⟨n, p, r, hB⟩ := hK3 h
    refine ⟨_, _, w, E, rfl, rfl, wp_mono ?_ (hM _)⟩
    rintro r2 t2 (⟨g, rfl, rfl⟩ | ⟨g, rfl, rfl⟩)
    · exact absurd (Eq.trans (Eq.symm g) h) (by decide)
    · refine ⟨?_, _, v, rfl, Rel.b ⟨fun k hk => f1 k (by omega), fun k hk => f2 k (by omega), f3, f4⟩ (RlB.cp hc (fun k h => kov_lt _ _ h) hB) hRl⟩
      obtain ⟨⟨-, ⟨e1, e2⟩, -⟩, -⟩ := hB
      rw [kov_lt _ _ (by omega), e2, show c'.1 100 = c.1 (100 * 13) from hc.1.1, e1]
