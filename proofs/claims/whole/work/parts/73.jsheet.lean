/-! ===== call by call: sheets ===== -/
theorem kSh.lt {E : kH} {a b n : Nat} {so : Int32} {f : Nat → Int32} (h : kSh E a so b n f) : a < 102 + E.length ∧ 102 ≤ a := by
  obtain ⟨-, ⟨h2, h3⟩, -⟩ := h
  have := (List.getElem?_eq_some_iff.mp h3).1
  omega
theorem RlH1.put {c m : kZ} {E E' : kH} {so : Nat → Int32} {nn : Nat → Nat} {ff : Nat → Nat → Int32} (g : RlH1 c m E so nn ff) {j N : Nat} {e : Int32} {o : Option Nat} (hj : j < 4) (hN : N ≤ 40) (hgr : ∀ a so n f, kSh E a so (a + 1) n f → kSh E' a so (a + 1) n f) (ho : (o = none ∧ e = -1) ∨ ∃ a, o = some a ∧ kSh E' a e (a + 1) N (fun _ => 0) ∧ (0 ≤ e.toInt ∧ e.toInt ≤ 4)) (hf : ∀ i a, i < 4 → o = some a → c.2.2.2 75 i = some a → False) : RlH1 (setQ c 75 (va_up (c.2.2.2 75) j o)) (setA (setA (setA m 95 (upd (m.2.1 95) j e)) 96 (upd (m.2.1 96) j (nI N))) 97 (kzr (m.2.1 97) (40 * j) 40)) E' (upd so j e) (fun i => if i = j then N else nn i) (fun i => if i = j then (fun _ => 0) else ff i) := by
  refine ⟨fun i hi => ?_, fun i1 i2 a h1 h2 e1 e2 => ?_⟩
  · show upd (m.2.1 96) j (nI N) i = _ ∧ _ ∧ ((va_up (c.2.2.2 75) j o i = none ∧ upd (m.2.1 95) j e i = -1) ∨ ∃ a, va_up (c.2.2.2 75) j o i = some a ∧ kSh E' a (upd so j e i) (a + 1) (if i = j then N else nn i) (if i = j then (fun _ => 0) else ff i) ∧ (0 ≤ (upd so j e i).toInt ∧ (upd so j e i).toInt ≤ 4) ∧ upd (m.2.1 95) j e i = upd so j e i ∧ ∀ y, y < (if i = j then N else nn i) → kzr (m.2.1 97) (40 * j) 40 (40 * i + y) = (if i = j then (fun _ => 0) else ff i : Nat → Int32) y)
    by_cases q : i = j
    · subst q
      simp only [if_true]
      rw [upd_s, upd_s, upd_s, va_up_self]
      refine ⟨rfl, hN, ?_⟩
      rcases ho with ⟨rfl, rfl⟩ | ⟨a, rfl, h1, h2⟩
      · exact Or.inl ⟨rfl, rfl⟩
      · refine Or.inr ⟨a, rfl, h1, h2, rfl, fun y hy => ?_⟩
        simp only [kzr]
        rw [if_pos (by omega)]
    · simp only [if_neg q]
      rw [upd_n _ _ q, upd_n _ _ q, upd_n _ _ q, va_up_ne _ _ q]
      obtain ⟨h1, h2, h3⟩ := g.1 i hi
      refine ⟨h1, h2, ?_⟩
      rcases h3 with h3 | ⟨a, h3, h4, h5, h6, h7⟩
      · exact Or.inl h3
      · refine Or.inr ⟨a, h3, hgr _ _ _ _ h4, h5, h6, fun y hy => ?_⟩
        simp only [kzr]
        rw [if_neg (by omega)]
        exact h7 y hy
  · have e1 : va_up (c.2.2.2 75) j o i1 = some a := e1
    have e2 : va_up (c.2.2.2 75) j o i2 = some a := e2
    by_cases q1 : i1 = j
    · by_cases q2 : i2 = j
      · omega
      · rw [q1, va_up_self] at e1
        rw [va_up_ne _ _ q2] at e2
        exact absurd (hf i2 a h2 e1 e2) (fun z => z)
    · by_cases q2 : i2 = j
      · rw [q2, va_up_self] at e2
        rw [va_up_ne _ _ q1] at e1
        exact absurd (hf i1 a h1 e2 e1) (fun z => z)
      · rw [va_up_ne _ _ q1] at e1
        rw [va_up_ne _ _ q2] at e2
        exact g.2 i1 i2 a h1 h2 e1 e2
theorem kSh.nw {E : kH} {e : Int32} {N : Nat} (hN : N ≤ 40) : kSh (E ++ [.inr (7, [.int e, .ref (103 + E.length)]), .inl (0, N, .inl (fun _ => 0))]) (102 + E.length) e (102 + E.length + 1) N (fun _ => 0) := by
  refine ⟨hN, ⟨by omega, ?_⟩, by omega, ?_⟩
  · rw [show 102 + E.length - 102 = E.length by omega, show 102 + E.length + 1 = 103 + E.length by omega]
    simp
  · rw [show 102 + E.length + 1 - 102 = E.length + 1 by omega]
    simp
theorem e_neg {e : Int32} (h : 0 ≤ e.toInt ∧ e.toInt ≤ 4) : ¬ e < 0 ∧ 0 ≤ e ∧ e ≠ -1 := by
  have h0 : (0 : Int32).toInt = 0 := rfl
  refine ⟨fun z => ?_, ?_, fun z => ?_⟩
  · have := Int32.lt_iff_toInt_lt.mp z
    omega
  · exact Int32.le_iff_toInt_le.mpr (by omega)
  · rw [z] at h
    exact absurd h (by decide)
theorem j_sheet {X : kX} {d : Nat} (hd : 20 ≤ d) (s e x : Int32) : kJn X d 2 42 Y_X9_sheet Y_X10_sheet [(1, .int s), (2, .int e), (3, .int x)] := by
  intro c w m v E hRl
  obtain ⟨⟨n, p, r, hB⟩, hK, hT, hW, hC, ⟨so, nn, ff, hH⟩, hF, hV⟩ := id hRl
  have hM : ∀ (c1 : kZ) (E1 : kH), WP X d 0 0 Y_X10_sheet 0 _ [] (HP c1 w m v E1) _ := fun c1 E1 => wp_depth (by omega) (s_X10_sheet (X := X) (d := 0) (c := c1) (w := w) (m := m) (v := v) (E := E1) s e x)
  have h0 : (0 : Int32).toInt = 0 := rfl
  have r3 : ∀ {j : Nat}, j ≤ 3 → 0 ≤ (nI j).toInt ∧ (nI j).toInt ≤ 3 := fun {j} h => by
    have := nI_toInt (n := j) (by omega)
    omega
  refine wp_mono ?_ (wp_depth (by omega) (s_X9_sheet (d := 0) s e x))
  rintro r1 t1 (⟨h, rfl, rfl⟩ | ⟨j, hj, rfl, ⟨rfl, rfl, rfl⟩ | ⟨h1, h2, rfl, rfl⟩ | ⟨h1, h2, h3, rfl, rfl⟩ | ⟨h1, h2, N, hN, rfl, rfl, rfl⟩⟩)
  · refine ⟨_, c, w, E, rfl, rfl, wp_mono ?_ (hM _ _)⟩
    rintro r2 t2 (⟨g, rfl, rfl⟩ | ⟨g, rfl, rfl⟩ | ⟨j, hj, rfl, -⟩)
    · exact ⟨rfl, m, v, rfl, hRl⟩
    · exact absurd g.1 h
    · exact absurd (r3 hj) h
  · refine ⟨_, _, w, E, rfl, rfl, wp_mono ?_ (hM _ _)⟩
    rintro r2 t2 (⟨g, rfl, rfl⟩ | ⟨g, rfl, rfl⟩ | ⟨j2, hj2, e2, g1, g2, rfl, rfl⟩)
    · exact absurd ⟨r3 hj, by decide, fun z => absurd z (by decide)⟩ g
    · exact absurd g.2.2.1 (by decide)
    · obtain rfl := nI_ij (by omega) (by omega) e2
      refine ⟨rfl, _, v, rfl, ⟨⟨n, p, r, hB⟩, hK, hT, hW, hC, ⟨upd so j (-1), (fun i => if i = j then 0 else nn i), (fun i => if i = j then (fun _ => 0) else ff i), ?_⟩, hF, hV⟩⟩
      exact hH.put (N := 0) (by omega) (by omega) (fun _ _ _ _ h => h) (Or.inl ⟨rfl, rfl⟩) (fun _ _ _ h => by cases h)
  · refine ⟨_, c, w, E, rfl, rfl, wp_mono ?_ (hM _ _)⟩
    rintro r2 t2 (⟨g, rfl, rfl⟩ | ⟨g, rfl, rfl⟩ | ⟨j2, hj2, e2, g1, g2, rfl, rfl⟩)
    · exact ⟨rfl, m, v, rfl, hRl⟩
    · exfalso
      obtain ⟨-, g1, g2, g3⟩ := g
      have a1 := Int32.le_iff_toInt_le.mp g2
      have a2 := Int32.lt_iff_toInt_lt.mp g3
      rcases h2 with h2 | h2 <;> omega
    · exfalso
      have e1 : ¬ e.toInt = -1 := fun z => h1 (Int32.toInt_inj.mp z)
      rcases h2 with h2 | h2
      · omega
      · have a2 := (g2 (Int32.le_iff_toInt_le.mpr (by omega))).2
        have a3 := Int32.le_iff_toInt_le.mp a2
        have : (40 : Int32).toInt = 40 := rfl
        omega
  · refine ⟨_, c, w, E, rfl, rfl, wp_mono ?_ (hM _ _)⟩
    rintro r2 t2 (⟨g, rfl, rfl⟩ | ⟨g, rfl, rfl⟩ | ⟨j2, hj2, e2, g1, g2, rfl, rfl⟩)
    · refine absurd ⟨r3 hj, by omega, fun _ => ?_⟩ g
      refine Int32.le_iff_toInt_le.mpr ?_
      have : (40 : Int32).toInt = 40 := rfl
      omega
    · exact ⟨rfl, m, v, rfl, hRl⟩
    · exfalso
      have a2 := (g2 (e_neg h2).2.1).1
      have a3 := Int32.le_iff_toInt_le.mp a2
      omega
  · have hx : (nI N).toInt = N := nI_toInt (by omega)
    have h40 : (40 : Int32).toInt = 40 := rfl
    refine ⟨_, _, w, _, rfl, rfl, wp_mono ?_ (hM _ _)⟩
    rintro r2 t2 (⟨g, rfl, rfl⟩ | ⟨g, rfl, rfl⟩ | ⟨j2, hj2, e2, g1, g2, rfl, rfl⟩)
    · exact absurd ⟨r3 hj, by omega, fun _ => Int32.le_iff_toInt_le.mpr (by omega)⟩ g
    · exfalso
      have a2 := Int32.lt_iff_toInt_lt.mp g.2.2.2
      omega
    · obtain rfl := nI_ij (by omega) (by omega) e2
      refine ⟨rfl, _, v, rfl, ⟨⟨n, p, r, hB.gr _⟩, hK.gr _, hT, hW, hC, ⟨upd so j e, (fun i => if i = j then N else nn i), (fun i => if i = j then (fun _ => 0) else ff i), ?_⟩, hF.gr _, hV⟩⟩
      rw [if_neg (e_neg h2).1]
      refine hH.put (N := N) (by omega) hN (fun _ _ _ _ h => h.gr _) (Or.inr ⟨_, rfl, kSh.nw hN, h2⟩) (fun i a hi h k => ?_)
      obtain rfl := Option.some.inj h
      obtain ⟨-, -, ⟨k2, -⟩ | ⟨a2, k2, k3, -⟩⟩ := hH.1 i hi
      · rw [k] at k2; cases k2
      · rw [k] at k2
        obtain rfl := Option.some.inj k2
        have := k3.lt
        omega
theorem RlH1.sh {c m : kZ} {E : kH} {so : Nat → Int32} {nn : Nat → Nat} {ff : Nat → Nat → Int32} (g : RlH1 c m E so nn ff) : ∀ j a, j < 4 → c.2.2.2 75 j = some a → kSh E a (so j) ((c.2.2.2 75 j).getD 0 + 1) (nn j) (ff j) := by
  intro j a hj h
  obtain ⟨-, -, ⟨k2, -⟩ | ⟨a2, k2, k3, -⟩⟩ := g.1 j hj
  · rw [h] at k2; cases k2
  · rw [k2]
    rw [k2] at h
    obtain rfl := Option.some.inj h
    exact k3
theorem RlH1.sz {c m : kZ} {E : kH} {so : Nat → Int32} {nn : Nat → Nat} {ff : Nat → Nat → Int32} (g : RlH1 c m E so nn ff) : ∀ j, j < 4 → m.2.1 96 j = nI (nn j) ∧ nn j ≤ 40 := fun j hj => ⟨(g.1 j hj).1, (g.1 j hj).2.1⟩
/-- a missing sheet is missing on both sides -/
theorem RlH1.ms {c m : kZ} {E : kH} {so : Nat → Int32} {nn : Nat → Nat} {ff : Nat → Nat → Int32} (g : RlH1 c m E so nn ff) {j : Nat} (hj : j < 4) (h : c.2.2.2 75 j = none) : m.2.1 95 j < 0 := by
  obtain ⟨-, -, ⟨k2, k3⟩ | ⟨a2, k2, -⟩⟩ := g.1 j hj
  · rw [k3]; decide
  · rw [h] at k2; cases k2
theorem RlH1.is {c m : kZ} {E : kH} {so : Nat → Int32} {nn : Nat → Nat} {ff : Nat → Nat → Int32} (g : RlH1 c m E so nn ff) {j a : Nat} (hj : j < 4) (h : c.2.2.2 75 j = some a) : ¬ m.2.1 95 j < 0 ∧ m.2.1 95 j = so j ∧ kSh E a (so j) (a + 1) (nn j) (ff j) ∧ (0 ≤ (so j).toInt ∧ (so j).toInt ≤ 4) ∧ ∀ y, y < nn j → m.2.1 97 (40 * j + y) = ff j y := by
  obtain ⟨-, -, ⟨k2, k3⟩ | ⟨a2, k2, k3, k4, k5, k6⟩⟩ := g.1 j hj
  · rw [h] at k2; cases k2
  · rw [h] at k2
    obtain rfl := Option.some.inj k2
    exact ⟨by rw [k5]; exact (e_neg k4).1, k5, k3, k4, k6⟩
theorem RlH1.wr {c m : kZ} {E : kH} {so : Nat → Int32} {nn : Nat → Nat} {ff : Nat → Nat → Int32} (g : RlH1 c m E so nn ff) {j a y : Nat} (hj : j < 4) (h : c.2.2.2 75 j = some a) (hy : y < nn j) (x : Int32) : RlH1 c (setA m 97 (upd (m.2.1 97) (40 * j + y) x)) (E.set (a + 1 - 102) (.inl (0, nn j, .inl (upd (ff j) y x)))) so nn (fun i => if i = j then upd (ff j) y x else ff i) := by
  obtain ⟨-, -, hS, -, -⟩ := g.is hj h
  refine ⟨fun i hi => ?_, g.2⟩
  obtain ⟨h1, h2, h3⟩ := g.1 i hi
  refine ⟨h1, h2, ?_⟩
  rcases h3 with h3 | ⟨b, h3, h4, h5, h6, h7⟩
  · exact Or.inl h3
  · refine Or.inr ⟨b, h3, ?_, h5, h6, fun z hz => ?_⟩
    · by_cases q : i = j
      · subst q
        rw [h] at h3
        obtain rfl := Option.some.inj h3
        simp only [if_true]
        exact hS.it0
      · simp only [if_neg q]
        refine hS.it h4 (fun e => q ?_)
        subst e
        exact g.2 i j a hi hj h3 h
    · show upd (m.2.1 97) (40 * j + y) x (40 * i + z) = (if i = j then upd (ff j) y x else ff i : Nat → Int32) z
      by_cases q : i = j
      · subst q
        simp only [if_true]
        by_cases e : z = y
        · subst e
          rw [upd_s, upd_s]
        · rw [upd_n _ _ e, upd_n _ _ (by omega)]
          exact h7 z hz
      · simp only [if_neg q]
        have := (g.1 i hi).2.1
        have := (g.1 j hj).2.1
        rw [upd_n _ _ (by omega)]
        exact h7 z hz
theorem j_write {X : kX} {d : Nat} (hd : 20 ≤ d) (s i x : Int32) : kJn X d 0 0 Y_X9_write Y_X10_write [(1, .int s), (2, .int i), (3, .int x)] := by
  intro c w m v E hRl
  obtain ⟨⟨n, p, r, hB⟩, hK, hT, hW, hC, ⟨so, nn, ff, hH⟩, hF, hV⟩ := id hRl
  have hM : ∀ (E1 : kH), WP X d 0 0 Y_X10_write 0 _ [] (HP c w m v E1) _ := fun E1 => wp_depth (by omega) (s_X10_write (X := X) (d := 0) (c := c) (w := w) (m := m) (v := v) (E := E1) hH.sz s i x)
  have r3 : ∀ {j : Nat}, j ≤ 3 → 0 ≤ (nI j).toInt ∧ (nI j).toInt ≤ 3 := fun {j} h => by
    have := nI_toInt (n := j) (by omega)
    omega
  refine wp_mono ?_ (wp_depth (by omega) (s_X9_write (d := 0) hH.sh s i x))
  rintro r1 t1 (⟨h, rfl, rfl⟩ | ⟨j, hj, rfl, ⟨h1, rfl, rfl⟩ | ⟨a, h1, ⟨h2, rfl, rfl⟩ | ⟨y, hy, rfl, rfl, rfl⟩⟩⟩)
  · refine ⟨_, c, w, E, rfl, rfl, wp_mono ?_ (hM _)⟩
    rintro r2 t2 (⟨g, rfl, rfl⟩ | ⟨j, hj, rfl, -⟩)
    · exact ⟨rfl, m, v, rfl, hRl⟩
    · exact absurd (r3 hj) h
  · refine ⟨_, c, w, E, rfl, rfl, wp_mono ?_ (hM _)⟩
    rintro r2 t2 (⟨g, rfl, rfl⟩ | ⟨j2, hj2, e2, ⟨g1, rfl, rfl⟩ | ⟨g1, -⟩⟩)
    · exact absurd (r3 hj) g
    · exact ⟨rfl, m, v, rfl, hRl⟩
    · obtain rfl := nI_ij (by omega) (by omega) e2
      exact absurd (hH.ms (by omega) h1) (Int32.not_lt.mpr g1)
  · obtain ⟨k1, k2, k3, k4, k5⟩ := hH.is (by omega) h1
    refine ⟨_, c, w, E, rfl, rfl, wp_mono ?_ (hM _)⟩
    rintro r2 t2 (⟨g, rfl, rfl⟩ | ⟨j2, hj2, e2, ⟨g1, rfl, rfl⟩ | ⟨g1, ⟨g2, rfl, rfl⟩ | ⟨y, hy, rfl, rfl, rfl⟩⟩⟩)
    · exact absurd (r3 hj) g
    · obtain rfl := nI_ij (by omega) (by omega) e2
      exact absurd g1 k1
    · exact ⟨rfl, m, v, rfl, hRl⟩
    · obtain rfl := nI_ij (by omega) (by omega) e2
      have := (hH.sz j (by omega)).2
      exact absurd (nI_rng hy (by omega)) h2
  · obtain ⟨k1, k2, k3, k4, k5⟩ := hH.is (by omega) h1
    have hn40 := (hH.sz j (by omega)).2
    refine ⟨_, c, w, _, rfl, rfl, wp_mono ?_ (hM _)⟩
    rintro r2 t2 (⟨g, rfl, rfl⟩ | ⟨j2, hj2, e2, ⟨g1, rfl, rfl⟩ | ⟨g1, ⟨g2, rfl, rfl⟩ | ⟨y2, hy2, e3, rfl, rfl⟩⟩⟩)
    · exact absurd (r3 hj) g
    · obtain rfl := nI_ij (by omega) (by omega) e2
      exact absurd g1 k1
    · obtain rfl := nI_ij (by omega) (by omega) e2
      exact absurd (nI_rng hy (by omega)) g2
    · obtain rfl := nI_ij (by omega) (by omega) e2
      have := (hH.sz j (by omega)).2
      obtain rfl := nI_ij (by omega) (by omega) e3
      rw [h1, k2]
      exact ⟨rfl, _, v, rfl, ⟨⟨n, p, r, hB.it k3⟩, hK.it k3, hT, hW, hC, ⟨so, nn, (fun i => if i = j then upd (ff j) y (knar (so j) x) else ff i), hH.wr (by omega) h1 hy _⟩, hF.it k3, hV⟩⟩
theorem j_item {X : kX} {d : Nat} (hd : 20 ≤ d) (s e i : Int32) : kJn X d 0 0 Y_X9_item Y_X10_item [(1, .int s), (2, .int e), (3, .int i)] := by
  intro c w m v E hRl
  obtain ⟨⟨n, p, r, hB⟩, hK, hT, hW, hC, ⟨so, nn, ff, hH⟩, hF, hV⟩ := id hRl
  have hM : WP X d 0 0 Y_X10_item 0 _ [] (HP c w m v E) _ := wp_depth (by omega) (s_X10_item (X := X) (d := 0) (c := c) (w := w) (m := m) (v := v) (E := E) hH.sz s e i)
  have r3 : ∀ {j : Nat}, j ≤ 3 → 0 ≤ (nI j).toInt ∧ (nI j).toInt ≤ 3 := fun {j} h => by
    have := nI_toInt (n := j) (by omega)
    omega
  refine wp_mono ?_ (wp_depth (by omega) (s_X9_item (d := 0) hH.sh s e i))
  rintro r1 t1 ⟨rfl, h⟩
  have key : ∃ z : Int32, r1 = some (.int z) ∧ ∀ r2, ((¬ ((0 ≤ s.toInt ∧ s.toInt ≤ 3) ∧ 0 ≤ e.toInt ∧ e.toInt ≤ 4) ∧ r2 = some (.int (-1))) ∨ ∃ j : Nat, j ≤ 3 ∧ s = nI j ∧ (0 ≤ e.toInt ∧ e.toInt ≤ 4) ∧ ((m.2.1 95 j < 0 ∧ r2 = some (.int (-11))) ∨ (0 ≤ m.2.1 95 j ∧ ((m.2.1 95 j ≠ e ∧ r2 = some (.int (-13))) ∨ (m.2.1 95 j = e ∧ ((¬ (0 ≤ i.toInt ∧ i.toInt < (nn j : Int)) ∧ r2 = some (.int (-12))) ∨ ∃ y : Nat, y < nn j ∧ i = nI y ∧ r2 = some (.int ((m.2.1 97) (40 * j + y))))))))) → r2 = some (Value.int z) := by
    rcases h with ⟨h, rfl⟩ | ⟨j, hj, rfl, he, ⟨h1, rfl⟩ | ⟨a, h1, h2⟩⟩
    · refine ⟨_, rfl, fun r2 g => ?_⟩
      rcases g with ⟨g, rfl⟩ | ⟨j, hj, rfl, he, -⟩
      · rfl
      · exact absurd ⟨r3 hj, he⟩ h
    · refine ⟨_, rfl, fun r2 g => ?_⟩
      rcases g with ⟨g, rfl⟩ | ⟨j2, hj2, e2, -, ⟨g1, rfl⟩ | ⟨g1, -⟩⟩
      · exact absurd ⟨r3 hj, he⟩ g
      · rfl
      · obtain rfl := nI_ij (by omega) (by omega) e2
        exact absurd (hH.ms (by omega) h1) (Int32.not_lt.mpr g1)
    · obtain ⟨k1, k2, k3, k4, k5⟩ := hH.is (by omega) h1
      have hn40 := (hH.sz j (by omega)).2
      rcases h2 with ⟨h2, rfl⟩ | ⟨h2, ⟨h3, rfl⟩ | ⟨y, hy, rfl, rfl⟩⟩
      all_goals
        refine ⟨_, rfl, fun r2 g => ?_⟩
        rcases g with ⟨g, rfl⟩ | ⟨j2, hj2, e2, -, ⟨g1, rfl⟩ | ⟨g1, ⟨g2, rfl⟩ | ⟨g2, ⟨g3, rfl⟩ | ⟨y2, hy2, e3, rfl⟩⟩⟩⟩
      all_goals first
        | rfl
        | exact absurd ⟨r3 hj, he⟩ g
        | (obtain rfl := nI_ij (by omega) (by omega) e2; first
            | exact absurd g1 k1
            | exact absurd (Eq.trans (Eq.symm k2) g2) h2
            | exact absurd (Eq.trans k2 h2) g2
            | (subst e3; exact absurd (nI_rng hy2 (by omega)) h3)
            | exact absurd (nI_rng hy (by omega)) g3
            | (obtain rfl := nI_ij (by omega) (by omega) e3; rw [k5 _ hy]))
  obtain ⟨z, rfl, hz2⟩ := key
  refine ⟨z, c, w, E, rfl, rfl, wp_mono ?_ hM⟩
  rintro r2 t2 ⟨rfl, g⟩
  exact ⟨hz2 r2 g, m, v, rfl, hRl⟩
