/-! ===== call by call: the small ones ===== -/
/-- all but the bench that is now stays -/
def RlO (c c' : kZ) : Prop := (∀ k, (k < 100 ∨ 113 < k) → c'.1 k = c.1 k) ∧ (∀ k, 12 < k → c'.2.1 k = c.2.1 k) ∧ (∀ k, k ≠ 1 → c'.2.2.1 k = c.2.2.1 k) ∧ c'.2.2.2 = c.2.2.2
theorem RlO.rf (c : kZ) : RlO c c := ⟨fun _ _ => rfl, fun _ _ => rfl, fun _ _ => rfl, rfl⟩
theorem RlO.A {c c' : kZ} (h : RlO c c') {a : Nat} (ha : a ≤ 12) (f : Nat → Int32) : RlO c (setA c' a f) := ⟨h.1, fun k hk => (updA_n _ _ (by omega)).trans (h.2.1 k hk), h.2.2⟩
theorem RlO.S {c c' : kZ} (h : RlO c c') {a : Nat} (ha : 100 ≤ a ∧ a ≤ 113) (x : Int32) : RlO c (setS c' a x) := ⟨fun k hk => (upd_n _ _ (by omega)).trans (h.1 k hk), h.2⟩
theorem RlO.R {c c' : kZ} (h : RlO c c') (x : Nat) : RlO c (setR c' 1 x) := ⟨h.1, h.2.1, fun k hk => (updA_n _ _ hk).trans (h.2.2.1 k hk), h.2.2.2⟩
theorem RlB.o {n p r : Nat} {c c' : kZ} {E : kH} {s : Nat → Int32} (h : RlO c c') (g : RlB 13 n p r c E s) : RlB 13 n p r c' E s := by
  unfold RlB at g ⊢
  rw [h.1 (100 * 13) (by omega), h.1 (100 * 13 + 7) (by omega), h.1 (100 * 13 + 10) (by omega), h.1 (100 * 13 + 13) (by omega), h.2.1 (13 + 1) (by omega), h.2.1 (13 + 2) (by omega), h.2.1 (13 + 3) (by omega), h.2.1 (13 + 4) (by omega), h.2.1 (13 + 5) (by omega), h.2.1 (13 + 8) (by omega), h.2.1 (13 + 9) (by omega), h.2.1 (13 + 10) (by omega), h.2.1 (13 + 11) (by omega), h.2.2.1 13 (by omega)]
  exact g
theorem RlK.o {c c' m : kZ} {E : kH} (h : RlO c c') (g : RlK c m E) : RlK c' m E := by
  have e := h.1 2 (by omega)
  refine ⟨by rw [e]; exact g.1, by rw [e]; exact g.2.1, fun q => ?_⟩
  rw [e] at q
  obtain ⟨n, p, r, b⟩ := g.2.2 q
  exact ⟨n, p, r, b.o h⟩
theorem RlT.o {c c' m : kZ} (h : RlO c c') (g : RlT c m) : RlT c' m := by
  unfold RlT at g ⊢
  rw [h.1 3701 (by omega), h.2.1 38 (by omega)]
  exact g
theorem RlW.o {c c' m : kZ} (h : RlO c c') (g : RlW c m) : RlW c' m := by
  unfold RlW at g ⊢
  rw [h.1 11 (by omega), h.2.1 74 (by omega)]
  exact g
theorem RlC.o {c c' m : kZ} (h : RlO c c') (g : RlC c m) : RlC c' m := by
  unfold RlC at g ⊢
  rw [h.1 7805 (by omega), h.2.1 79 (by omega)]
  exact g
theorem RlH.o {c c' m : kZ} {E : kH} (h : RlO c c') (g : RlH c m E) : RlH c' m E := by
  unfold RlH RlH1 at g ⊢
  rw [h.2.2.2]
  exact g
theorem RlF.o {c c' m : kZ} {E : kH} (h : RlO c c') (g : RlF c m E) : RlF c' m E := by
  unfold RlF at g ⊢
  rw [h.2.2.2, h.2.1 77 (by omega)]
  exact g
/-- a call that changes the bench that is now -/
theorem Rel.b {c c' w m : kZ} {E : kH} {X : Nat → Int32} (h : RlO c c') {n p r : Nat} (hB : RlB 1 n p r c' E X) (g : Rel c w m E) : Rel c' w (setA m 81 X) E := by
  obtain ⟨-, hK, hT, hW, hC, hH, hF, hV⟩ := g
  refine ⟨⟨n, p, r, hB⟩, ?_, ?_, ?_, ?_, ?_, ?_, hV⟩
  · have := hK.o h; exact this
  · have := hT.o h; exact this
  · have := hW.o h; exact this
  · have := hC.o h; exact this
  · have := hH.o h; exact this
  · have := hF.o h; exact this
theorem RlL.add {n : Nat} {kd bd tl pr s : Nat → Int32} {x1 x2 x3 x4 y : Int32} (g : RlL n kd bd tl pr s) (h : 1 ≤ x1.toInt ∧ x1.toInt ≤ 5 ∧ -9 ≤ x2.toInt ∧ x2.toInt ≤ 9 ∧ -9 ≤ x3.toInt ∧ x3.toInt ≤ 9 ∧ 1 ≤ x4.toInt ∧ x4.toInt ≤ 999) : RlL (n + 1) (upd kd n x1) (upd bd n x2) (upd tl n x3) (upd pr n x4) (upd (upd (upd (upd (upd s (9 + 4 * n + 0) x1) (9 + 4 * n + 1) x2) (9 + 4 * n + 2) x3) (9 + 4 * n + 3) x4) 0 y) := by
  obtain ⟨a1, a2, b1, b2, c1, c2, d1, d2⟩ := h
  intro l hl
  by_cases e : l = n
  · subst e
    rw [upd_s, upd_s, upd_s, upd_s]
    refine ⟨⟨?_, a1, a2⟩, ⟨?_, b1, b2⟩, ⟨?_, c1, c2⟩, ⟨?_, d1, d2⟩⟩
    · rw [upd_n _ _ (by omega), upd_n _ _ (by omega), upd_n _ _ (by omega), upd_n _ _ (by omega), upd_s]
    · rw [upd_n _ _ (by omega), upd_n _ _ (by omega), upd_n _ _ (by omega), upd_s]
    · rw [upd_n _ _ (by omega), upd_n _ _ (by omega), upd_s]
    · rw [upd_n _ _ (by omega), upd_s]
  · rw [upd_n _ _ e, upd_n _ _ e, upd_n _ _ e, upd_n _ _ e]
    have k : ∀ q, q < 4 → upd (upd (upd (upd (upd s (9 + 4 * n + 0) x1) (9 + 4 * n + 1) x2) (9 + 4 * n + 2) x3) (9 + 4 * n + 3) x4) 0 y (9 + 4 * l + q) = s (9 + 4 * l + q) := fun q hq => by
      rw [upd_n _ _ (by omega), upd_n _ _ (by omega), upd_n _ _ (by omega), upd_n _ _ (by omega), upd_n _ _ (by omega)]
    rw [k 0 (by omega), k 1 (by omega), k 2 (by omega), k 3 (by omega)]
    exact g l (by omega)
theorem RlP.n {n n' p : Nat} {ln tn s : Nat → Int32} (h : n ≤ n') (g : RlP n p ln tn s) : RlP n' p ln tn s := ⟨fun j hj => by
  obtain ⟨⟨a, l, b, e⟩, q⟩ := g.1 j hj
  exact ⟨⟨a, l, by omega, e⟩, q⟩, g.2⟩
theorem upd5 {s : Nat → Int32} {a1 a2 a3 a4 a5 k : Nat} {x1 x2 x3 x4 x5 : Int32} (h1 : k ≠ a1) (h2 : k ≠ a2) (h3 : k ≠ a3) (h4 : k ≠ a4) (h5 : k ≠ a5) : upd (upd (upd (upd (upd s a1 x1) a2 x2) a3 x3) a4 x4) a5 x5 k = s k := by
  rw [upd_n _ _ h5, upd_n _ _ h4, upd_n _ _ h3, upd_n _ _ h2, upd_n _ _ h1]
theorem upd3 {s : Nat → Int32} {a1 a2 a3 k : Nat} {x1 x2 x3 : Int32} (h1 : k ≠ a1) (h2 : k ≠ a2) (h3 : k ≠ a3) : upd (upd (upd s a1 x1) a2 x2) a3 x3 k = s k := by
  rw [upd_n _ _ h3, upd_n _ _ h2, upd_n _ _ h1]
theorem j_lens {X : kX} {d : Nat} (hd : 20 ≤ d) (kd bd tl pr : Int32) : kJn X d 0 0 Y_X9_lens Y_X10_lens [(1, .int kd), (2, .int bd), (3, .int tl), (4, .int pr)] := by
  intro c w m v E hRl
  obtain ⟨⟨n, p, r, ⟨⟨hn9, hp4, hr6⟩, ⟨hn, hn'⟩, ⟨hp, hp'⟩, ⟨hr, hr'⟩, hz⟩, hL, hS, hP, hRp, hU⟩, -⟩ := id hRl
  refine wp_mono ?_ (wp_depth (by omega) (s_X9_lens (d := 0) hn hn9 kd bd tl pr))
  rintro r1 h1 (⟨h, rfl, rfl⟩ | ⟨⟨h, h9⟩, rfl, rfl⟩ | ⟨⟨h, h9⟩, rfl, rfl⟩)
  · refine ⟨_, c, w, E, rfl, rfl, wp_mono ?_ (wp_depth (by omega) (s_X10_lens (d := 0) hn' hn9 kd bd tl pr))⟩
    rintro r2 h2 (⟨g, rfl, rfl⟩ | ⟨g, g9, rfl, rfl⟩ | ⟨g, g9, rfl, rfl⟩)
    · exact ⟨rfl, m, v, rfl, hRl⟩
    · exact absurd g h
    · exact absurd g h
  · refine ⟨_, c, w, E, rfl, rfl, wp_mono ?_ (wp_depth (by omega) (s_X10_lens (d := 0) hn' hn9 kd bd tl pr))⟩
    rintro r2 h2 (⟨g, rfl, rfl⟩ | ⟨g, g9, rfl, rfl⟩ | ⟨g, g9, rfl, rfl⟩)
    · exact absurd h g
    · exact ⟨rfl, m, v, rfl, hRl⟩
    · omega
  · refine ⟨_, _, w, E, rfl, rfl, wp_mono ?_ (wp_depth (by omega) (s_X10_lens (d := 0) hn' hn9 kd bd tl pr))⟩
    rintro r2 h2 (⟨g, rfl, rfl⟩ | ⟨g, g9, rfl, rfl⟩ | ⟨g, g9, rfl, rfl⟩)
    · exact absurd h g
    · omega
    · refine ⟨rfl, _, v, rfl, Rel.b ((((((RlO.rf c).A (by omega) _).A (by omega) _).A (by omega) _).A (by omega) _).S (by omega) _) (n := n + 1) (p := p) (r := r) ⟨⟨⟨by omega, hp4, hr6⟩, ⟨rfl, upd_s _ _ _⟩, ⟨hp, ?_⟩, ⟨hr, ?_⟩, ?_⟩, hL.add h, hS.c ?_, (hP.n (by omega)).c hp4 ?_, hRp.c hr6 ?_, hU.c ?_ ?_⟩ hRl⟩
      · exact (upd5 (by omega) (by omega) (by omega) (by omega) (by omega)).trans hp'
      · exact (upd5 (by omega) (by omega) (by omega) (by omega) (by omega)).trans hr'
      · exact (upd5 (by omega) (by omega) (by omega) (by omega) (by omega)).trans hz
      · exact fun k a b => upd5 (by omega) (by omega) (by omega) (by omega) (by omega)
      · exact fun k a b => upd5 (by omega) (by omega) (by omega) (by omega) (by omega)
      · exact fun k a b => upd5 (by omega) (by omega) (by omega) (by omega) (by omega)
      · exact upd5 (by omega) (by omega) (by omega) (by omega) (by omega)
      · exact fun k a b => upd5 (by omega) (by omega) (by omega) (by omega) (by omega)
theorem nI_ij {i j : Nat} (hi : i < 2 ^ 30) (hj : j < 2 ^ 30) (h : nI i = nI j) : i = j := by
  have := congrArg Int32.toNatClampNeg h
  rwa [nI_clamp (by omega), nI_clamp (by omega)] at this
theorem j_grind {X : kX} {d : Nat} (hd : 20 ≤ d) (l wh x : Int32) : kJn X d 0 0 Y_X9_grind Y_X10_grind [(1, .int l), (2, .int wh), (3, .int x)] := by
  intro c w m v E hRl
  obtain ⟨⟨n, p, r, ⟨⟨hn9, hp4, hr6⟩, ⟨hn, hn'⟩, ⟨hp, hp'⟩, ⟨hr, hr'⟩, hz⟩, hL, hS, hP, hRp, hU⟩, -⟩ := id hRl
  have hM := s_X10_grind (X := X) (d := 0) (c := c) (w := w) (m := m) (v := v) (E := E) hn' hn9 l wh x
  refine wp_mono ?_ (wp_depth (by omega) (s_X9_grind (d := 0) hn hn9 l wh x))
  rintro r1 h1 (⟨h, rfl, rfl⟩ | ⟨j, hj, rfl, hh⟩)
  · refine ⟨_, c, w, E, rfl, rfl, wp_mono ?_ (wp_depth (by omega) hM)⟩
    rintro r2 h2 (⟨g, rfl, rfl⟩ | ⟨j, u, hj, rfl, hu, rfl, g, rfl, rfl⟩)
    · exact ⟨rfl, m, v, rfl, hRl⟩
    · exfalso
      rcases h with h | h
      · exact h (nI_rng hj (by omega))
      · refine h ?_
        rcases g with ⟨g | g, g2⟩ | ⟨g, g2⟩
        · exact Or.inl ⟨g, g2⟩
        · exact Or.inr (Or.inl ⟨g, g2⟩)
        · exact Or.inr (Or.inr ⟨g, g2⟩)
  · have hlj := hL j hj
    have done : ∀ (u : Nat) (A : Nat) (f : Nat → Int32), wh = nI u → u < 4 → (((wh = 1 ∨ wh = 2) ∧ -9 ≤ x.toInt ∧ x.toInt ≤ 9) ∨ (wh = 3 ∧ 1 ≤ x.toInt ∧ x.toInt ≤ 999)) → A ≤ 12 → c.2.1 A = f → m.2.1 81 (9 + 4 * j + u) = f j → RlB 1 n p r (setA c A (upd f j x)) E (upd (m.2.1 81) (9 + 4 * j + u) x) →
        ∃ (z : Int32) (c1 w1 : kZ) (E1 : kH), some (Value.int (kb (f j ≠ x))) = some (.int z) ∧ HP (setA c A (upd f j x)) w m v E = HP c1 w1 m v E1 ∧ WP X d 0 0 Y_X10_grind 0 ((0, .ref 80) :: [(1, .int (nI j)), (2, .int wh), (3, .int x)]) [] (HP c1 w1 m v E1) (fun r2 h2 => r2 = some (.int z) ∧ ∃ m2 v2 : kZ, h2 = HP c1 w1 m2 v2 E1 ∧ Rel c1 w1 m2 E1) := by
      intro u A f hu hu4 hc hA hf hs hb
      refine ⟨_, _, w, E, rfl, rfl, wp_mono ?_ (wp_depth (by omega) (s_X10_grind (d := 0) hn' hn9 (nI j) wh x))⟩
      rintro r2 h2 (⟨g, rfl, rfl⟩ | ⟨j2, u2, hj2, e2, hu2, e3, g, rfl, rfl⟩)
      · exfalso
        rcases g with g | g
        · exact g (nI_rng hj (by omega))
        · exact g hc
      · obtain rfl := nI_ij (by omega) (by omega) e2
        obtain rfl := nI_ij (by omega) (by omega) (hu.symm.trans e3)
        exact ⟨by rw [hs], _, v, rfl, Rel.b ((RlO.rf c).A hA _) hb hRl⟩
    have u1 : ∀ {q : Nat}, q < 4 → ∀ k, (k < 9 ∨ 45 ≤ k) → upd (m.2.1 81) (9 + 4 * j + q) x k = m.2.1 81 k := fun hq k hk => upd_n _ _ (by omega)
    have hN' : ∀ {q : Nat}, q < 4 → RlN n p r (c.1 100) (c.1 107) (c.1 110) (c.1 113) (upd (m.2.1 81) (9 + 4 * j + q) x) := fun hq => ⟨⟨hn9, hp4, hr6⟩, ⟨hn, (u1 hq _ (by omega)).trans hn'⟩, ⟨hp, (u1 hq _ (by omega)).trans hp'⟩, ⟨hr, (u1 hq _ (by omega)).trans hr'⟩, (u1 hq _ (by omega)).trans hz⟩
    have hl' : ∀ {q : Nat}, q < 4 → ∀ l, l ≠ j → ∀ q2, q2 < 4 → upd (m.2.1 81) (9 + 4 * j + q) x (9 + 4 * l + q2) = m.2.1 81 (9 + 4 * l + q2) := fun hq l hl q2 hq2 => upd_n _ _ (by omega)
    have hl2 : ∀ {q : Nat}, q < 4 → ∀ q2, q2 < 4 → q2 ≠ q → upd (m.2.1 81) (9 + 4 * j + q) x (9 + 4 * j + q2) = m.2.1 81 (9 + 4 * j + q2) := fun hq q2 hq2 hne => upd_n _ _ (by omega)
    rcases hh with ⟨rfl, g, rfl, rfl⟩ | ⟨rfl, g, rfl, rfl⟩ | ⟨rfl, g, rfl, rfl⟩
    · refine done 1 3 (c.2.1 3) rfl (by omega) (Or.inl ⟨Or.inl rfl, g⟩) (by omega) rfl hlj.2.1.1 ⟨hN' (by omega), ?_, hS.c (fun k a b => u1 (by omega) k (by omega)), hP.c hp4 (fun k a b => u1 (by omega) k (by omega)), hRp.c hr6 (fun k a b => u1 (by omega) k (by omega)), hU.c (u1 (by omega) 1 (by omega)) (fun k a b => u1 (by omega) k (by omega))⟩
      intro l hl
      show (_ = _ ∧ _) ∧ (_ = upd (c.2.1 3) j x l ∧ -9 ≤ (upd (c.2.1 3) j x l).toInt ∧ (upd (c.2.1 3) j x l).toInt ≤ 9) ∧ _
      by_cases e : l = j
      · subst e
        rw [upd_s, upd_s, hl2 (by omega) 0 (by omega) (by omega), hl2 (by omega) 2 (by omega) (by omega), hl2 (by omega) 3 (by omega) (by omega)]
        exact ⟨hlj.1, ⟨rfl, g⟩, hlj.2.2⟩
      · rw [upd_n _ _ e, hl' (by omega) l e 0 (by omega), hl' (by omega) l e 1 (by omega), hl' (by omega) l e 2 (by omega), hl' (by omega) l e 3 (by omega)]
        exact hL l hl
    · refine done 2 4 (c.2.1 4) rfl (by omega) (Or.inl ⟨Or.inr rfl, g⟩) (by omega) rfl hlj.2.2.1.1 ⟨hN' (by omega), ?_, hS.c (fun k a b => u1 (by omega) k (by omega)), hP.c hp4 (fun k a b => u1 (by omega) k (by omega)), hRp.c hr6 (fun k a b => u1 (by omega) k (by omega)), hU.c (u1 (by omega) 1 (by omega)) (fun k a b => u1 (by omega) k (by omega))⟩
      intro l hl
      show (_ = _ ∧ _) ∧ (_ ∧ _) ∧ (_ = upd (c.2.1 4) j x l ∧ -9 ≤ (upd (c.2.1 4) j x l).toInt ∧ (upd (c.2.1 4) j x l).toInt ≤ 9) ∧ _
      by_cases e : l = j
      · subst e
        rw [upd_s, upd_s, hl2 (by omega) 0 (by omega) (by omega), hl2 (by omega) 1 (by omega) (by omega), hl2 (by omega) 3 (by omega) (by omega)]
        exact ⟨hlj.1, hlj.2.1, ⟨rfl, g⟩, hlj.2.2.2⟩
      · rw [upd_n _ _ e, hl' (by omega) l e 0 (by omega), hl' (by omega) l e 1 (by omega), hl' (by omega) l e 2 (by omega), hl' (by omega) l e 3 (by omega)]
        exact hL l hl
    · refine done 3 5 (c.2.1 5) rfl (by omega) (Or.inr ⟨rfl, g⟩) (by omega) rfl hlj.2.2.2.1 ⟨hN' (by omega), ?_, hS.c (fun k a b => u1 (by omega) k (by omega)), hP.c hp4 (fun k a b => u1 (by omega) k (by omega)), hRp.c hr6 (fun k a b => u1 (by omega) k (by omega)), hU.c (u1 (by omega) 1 (by omega)) (fun k a b => u1 (by omega) k (by omega))⟩
      intro l hl
      show (_ = _ ∧ _) ∧ (_ ∧ _) ∧ (_ ∧ _) ∧ (_ = upd (c.2.1 5) j x l ∧ 1 ≤ (upd (c.2.1 5) j x l).toInt ∧ (upd (c.2.1 5) j x l).toInt ≤ 999)
      by_cases e : l = j
      · subst e
        rw [upd_s, upd_s, hl2 (by omega) 0 (by omega) (by omega), hl2 (by omega) 1 (by omega) (by omega), hl2 (by omega) 2 (by omega) (by omega)]
        exact ⟨hlj.1, hlj.2.1, hlj.2.2.1, ⟨rfl, g⟩⟩
      · rw [upd_n _ _ e, hl' (by omega) l e 0 (by omega), hl' (by omega) l e 1 (by omega), hl' (by omega) l e 2 (by omega), hl' (by omega) l e 3 (by omega)]
        exact hL l hl
