/-! ===== call by call: sheets into the tube, shelves, acts ===== -/
theorem cit_c {n : Nat} {f f' : Nat → Int32} (h : ∀ y, y < n → f' y = f y) (x : Int32) : cit n f' x = cit n f x := by
  funext i
  show (if _ then _ else _) = (if _ then _ else _)
  split
  · rename_i q
    have e : ((x + nI i).toNatClampNeg : Int) = (x + nI i).toInt := Int32.cast_toNatClampNeg _ (Int32.le_iff_toInt_le.mpr q.1)
    rw [h _ (by omega)]
  · rfl
theorem kft_c {α β : Type} {fit : α → Int32 → Option α} {fit' : β → Int32 → Option β} {it : Nat → Option Int32} {R : α → β → Prop} (h : ∀ a b x, R a b → (fit a x = none ∧ fit' b x = none) ∨ ∃ a' b', fit a x = some a' ∧ fit' b x = some b' ∧ R a' b') : ∀ k i a b z, R a b → (kft fit it k i a z).2 = (kft fit' it k i b z).2 ∧ R (kft fit it k i a z).1 (kft fit' it k i b z).1
  | 0, _, _, _, _, hR => ⟨rfl, hR⟩
  | k + 1, i, a, b, z, hR => by
    simp only [kft]
    cases it i with
    | none => exact ⟨rfl, hR⟩
    | some x =>
      rcases h a b x hR with ⟨h1, h2⟩ | ⟨a', b', h1, h2, h3⟩
      · simp only [h1, h2]
        exact kft_c h k (i + 1) a b z hR
      · simp only [h1, h2]
        exact kft_c h k (i + 1) a' b' (z + 1) h3
def RlX (n r : Nat) (c0 : kZ) (E : kH) (c : kZ) (s : Nat → Int32) : Prop := RlO c0 c ∧ ∃ p, RlB 1 n p r c E s
theorem RlX.fit {n r : Nat} {c0 : kZ} {E : kH} {c : kZ} {s : Nat → Int32} (h : RlX n r c0 E c s) (x : Int32) : (cfitc n c x = none ∧ mfitc n s x = none) ∨ ∃ c' s', cfitc n c x = some c' ∧ mfitc n s x = some s' ∧ RlX n r c0 E c' s' := by
  obtain ⟨ho, p, ⟨⟨hn9, hp4, hr6⟩, ⟨hn, hn'⟩, ⟨hp, hp'⟩, ⟨hr, hr'⟩, hz⟩, hL, hS, hP, hRp, hU⟩ := h
  have e1 : (c.1 107).toNatClampNeg = p := by
    rw [show c.1 107 = nI p from hp]
    exact nI_clamp (by omega)
  have e2 : (s 2).toNatClampNeg = p := by
    rw [hp']
    exact nI_clamp (by omega)
  unfold cfitc mfitc
  rw [e1, e2, hP.kf9 x]
  by_cases q : (0 ≤ x.toInt ∧ x.toInt < (n : Int)) ∧ p < 4 ∧ kfi (c.2.1 9) x p 0 = -9
  · refine Or.inr ⟨_, _, if_pos q, if_pos q, ((ho.A (by omega) _).A (by omega) _).S (by omega) _, p + 1, ?_⟩
    have u1 : ∀ k, k ≠ 2 → (k < 45 ∨ 53 ≤ k) → upd (upd (upd s (45 + 2 * p) x) (45 + 2 * p + 1) 0) 2 (nI (p + 1)) k = s k := fun k h1 h2 => upd3 (by omega) (by omega) (by omega)
    exact ⟨⟨⟨hn9, by omega, hr6⟩, ⟨hn, (u1 _ (by omega) (by omega)).trans hn'⟩, ⟨rfl, upd_s _ _ _⟩, ⟨hr, (u1 _ (by omega) (by omega)).trans hr'⟩, (u1 _ (by omega) (by omega)).trans hz⟩, hL.c hn9 (fun k a b => u1 k (by omega) (by omega)), hS.c (fun k a b => u1 k (by omega) (by omega)), hP.fit q.2.1 q.1 (by decide) q.2.2, hRp.c hr6 (fun k a b => u1 k (by omega) (by omega)), hU.c (u1 1 (by omega) (by omega)) (fun k a b => u1 k (by omega) (by omega))⟩
  · exact Or.inl ⟨if_neg q, if_neg q⟩
theorem j_fits {X : kX} {d : Nat} (hd : 20 ≤ d) (s x y : Int32) : kJn X d 0 0 Y_X9_fits Y_X10_fits [(1, .int s), (2, .int x), (3, .int y)] := by
  intro c w m v E hRl
  obtain ⟨⟨n, p, r, hB⟩, hK, hT, hW, hC, ⟨so, nn, ff, hH⟩, hF, hV⟩ := id hRl
  obtain ⟨⟨⟨hn9, hp4, hr6⟩, ⟨hn, hn'⟩, ⟨hp, hp'⟩, -⟩, -⟩ := id hB
  have hM : ∀ (c1 : kZ), WP X d 0 0 Y_X10_fits 0 _ [] (HP c1 w m v E) _ := fun c1 => wp_depth (by omega) (s_X10_fits (X := X) (d := 0) (c := c1) (w := w) (m := m) (v := v) (E := E) hn9 ⟨hn', p, hp', hp4⟩ hH.sz s x y)
  have r3 : ∀ {j : Nat}, j ≤ 3 → 0 ≤ (nI j).toInt ∧ (nI j).toInt ≤ 3 := fun {j} h => by
    have := nI_toInt (n := j) (by omega)
    omega
  have r20 : ∀ {j : Nat}, j ≤ 20 → 0 ≤ (nI j).toInt ∧ (nI j).toInt ≤ 20 := fun {j} h => by
    have := nI_toInt (n := j) (by omega)
    omega
  refine wp_mono ?_ (wp_depth (by omega) (s_X9_fits (d := 0) hn9 ⟨hn, p, hp, hp4⟩ hH.sh s x y))
  rintro r1 t1 (⟨h, rfl, rfl⟩ | ⟨j, N, hj, rfl, hN, rfl, ⟨h1, rfl, rfl⟩ | ⟨a, h1, ⟨h2, rfl, rfl⟩ | ⟨h2, rfl, rfl⟩⟩⟩)
  · refine ⟨_, c, w, E, rfl, rfl, wp_mono ?_ (hM _)⟩
    rintro r2 t2 (⟨g, rfl, rfl⟩ | ⟨j, N, hj, rfl, hN, rfl, -⟩)
    · exact ⟨rfl, m, v, rfl, hRl⟩
    · exact absurd ⟨r3 hj, r20 hN⟩ h
  · refine ⟨_, c, w, E, rfl, rfl, wp_mono ?_ (hM _)⟩
    rintro r2 t2 (⟨g, rfl, rfl⟩ | ⟨j2, N2, hj2, e2, hN2, e3, ⟨g1, rfl, rfl⟩ | ⟨g1, -⟩⟩)
    · exact absurd ⟨r3 hj, r20 hN⟩ g
    · exact ⟨rfl, m, v, rfl, hRl⟩
    · obtain rfl := nI_ij (by omega) (by omega) e2
      exact absurd (hH.ms (by omega) h1) (Int32.not_lt.mpr g1)
  · obtain ⟨k1, k2, k3, k4, k5⟩ := hH.is (by omega) h1
    refine ⟨_, c, w, E, rfl, rfl, wp_mono ?_ (hM _)⟩
    rintro r2 t2 (⟨g, rfl, rfl⟩ | ⟨j2, N2, hj2, e2, hN2, e3, ⟨g1, rfl, rfl⟩ | ⟨g1, ⟨g2, rfl, rfl⟩ | ⟨g2, rfl, rfl⟩⟩⟩)
    · exact absurd ⟨r3 hj, r20 hN⟩ g
    · obtain rfl := nI_ij (by omega) (by omega) e2
      exact absurd g1 k1
    · exact ⟨rfl, m, v, rfl, hRl⟩
    · obtain rfl := nI_ij (by omega) (by omega) e2
      exact absurd (Eq.trans (Eq.symm k2) g2) h2
  · obtain ⟨k1, k2, k3, k4, k5⟩ := hH.is (by omega) h1
    refine ⟨_, _, w, E, rfl, rfl, wp_mono ?_ (hM _)⟩
    rintro r2 t2 (⟨g, rfl, rfl⟩ | ⟨j2, N2, hj2, e2, hN2, e3, ⟨g1, rfl, rfl⟩ | ⟨g1, ⟨g2, rfl, rfl⟩ | ⟨g2, rfl, rfl⟩⟩⟩)
    · exact absurd ⟨r3 hj, r20 hN⟩ g
    · obtain rfl := nI_ij (by omega) (by omega) e2
      exact absurd g1 k1
    · obtain rfl := nI_ij (by omega) (by omega) e2
      exact absurd (Eq.trans k2 h2) g2
    · obtain rfl := nI_ij (by omega) (by omega) e2
      obtain rfl := nI_ij (by omega) (by omega) e3
      rw [cit_c (f := ff j) (f' := fun y => m.2.1 97 (40 * j + y)) k5 x]
      have K := kft_c (R := RlX n r c E) (fit := cfitc n) (fit' := mfitc n) (it := cit (nn j) (ff j) x) (fun a b z h => h.fit z) N 0 c (m.2.1 81) 0 ⟨RlO.rf c, p, hB⟩
      obtain ⟨K1, K2, p2, K3⟩ := K
      exact ⟨by rw [K1], _, v, rfl, Rel.b K2 K3 hRl⟩
theorem j_spread {X : kX} {d : Nat} (hd : 20 ≤ d) (s x y : Int32) : kJn X d 0 0 Y_X9_spread Y_X10_spread [(1, .int s), (2, .int x), (3, .int y)] := by
  intro c w m v E hRl
  obtain ⟨⟨n, p, r, ⟨⟨hn9, hp4, hr6⟩, ⟨hn, hn'⟩, ⟨hp, hp'⟩, ⟨hr, hr'⟩, hz⟩, hL, hS, hP, hRp, cnt, L, code, en, hu, hL20, hc8, hwf, hs1, hm, hq⟩, hK, hT, hW, hC, ⟨so, nn, ff, hH⟩, hF, hV⟩ := id hRl
  have hA := RlA.of hq hL hS hP
  have hse := hA.1
  have hM : ∀ (w1 : kZ), WP X d 0 0 Y_X10_spread 0 _ [] (HP c w1 m v E) _ := fun w1 => wp_depth (by omega) (s_X10_spread (X := X) (d := 0) (c := c) (w := w1) (m := m) (v := v) (E := E) hs1 hc8 hm hn' hn9 hp' hp4 (hP.vm hn9) hH.sz s x y)
  have r3 : ∀ {j : Nat}, j ≤ 3 → 0 ≤ (nI j).toInt ∧ (nI j).toInt ≤ 3 := fun {j} h => by
    have := nI_toInt (n := j) (by omega)
    omega
  have r20 : ∀ {j : Nat}, j ≤ 20 → 0 ≤ (nI j).toInt ∧ (nI j).toInt ≤ 20 := fun {j} h => by
    have := nI_toInt (n := j) (by omega)
    omega
  have r1' : ∀ {N : Nat}, 1 ≤ N → N ≤ 20 → 1 ≤ (nI N).toInt ∧ (nI N).toInt ≤ 20 := fun {N} h1 h2 => by
    have := nI_toInt (n := N) (by omega)
    omega
  refine wp_mono ?_ (wp_depth (by omega) (s_X9_spread (d := 0) hn hn9 rfl hu hL20 hc8 hwf hL.kd hp hp4 (hP.vp hn9) hV.1 hH.sh s x y))
  rintro r1 t1 (⟨h, rfl, rfl⟩ | ⟨j, N, hj, rfl, hN1, hN, rfl, ⟨h1, rfl, rfl⟩ | ⟨a, h1, ⟨h2, rfl, rfl⟩ | ⟨h2, rfl, w1, rfl, hw, hray⟩⟩⟩)
  · refine ⟨_, c, w, E, rfl, rfl, wp_mono ?_ (hM _)⟩
    rintro r2 t2 (⟨g, rfl, rfl⟩ | ⟨j, N, hj, rfl, hN1, hN, rfl, -⟩)
    · exact ⟨rfl, m, v, rfl, hRl⟩
    · exact absurd ⟨r3 hj, r1' hN1 hN⟩ h
  · refine ⟨_, c, w, E, rfl, rfl, wp_mono ?_ (hM _)⟩
    rintro r2 t2 (⟨g, rfl, rfl⟩ | ⟨j2, N2, hj2, e2, -, hN2, e3, ⟨g1, rfl, rfl⟩ | ⟨g1, -⟩⟩)
    · exact absurd ⟨r3 hj, r1' hN1 hN⟩ g
    · exact ⟨rfl, m, v, rfl, hRl⟩
    · obtain rfl := nI_ij (by omega) (by omega) e2
      exact absurd (hH.ms (by omega) h1) (Int32.not_lt.mpr g1)
  · obtain ⟨k1, k2, k3, k4, k5⟩ := hH.is (by omega) h1
    refine ⟨_, c, w, E, rfl, rfl, wp_mono ?_ (hM _)⟩
    rintro r2 t2 (⟨g, rfl, rfl⟩ | ⟨j2, N2, hj2, e2, -, hN2, e3, ⟨g1, rfl, rfl⟩ | ⟨g1, ⟨g2, rfl, rfl⟩ | ⟨g2, rfl, v1, rfl⟩⟩⟩)
    · exact absurd ⟨r3 hj, r1' hN1 hN⟩ g
    · obtain rfl := nI_ij (by omega) (by omega) e2
      exact absurd g1 k1
    · exact ⟨rfl, m, v, rfl, hRl⟩
    · obtain rfl := nI_ij (by omega) (by omega) e2
      exact absurd (Eq.trans (Eq.symm k2) g2) h2
  · obtain ⟨k1, k2, k3, k4, k5⟩ := hH.is (by omega) h1
    refine ⟨_, c, w1, E, rfl, rfl, wp_mono ?_ (hM _)⟩
    rintro r2 t2 (⟨g, rfl, rfl⟩ | ⟨j2, N2, hj2, e2, -, hN2, e3, ⟨g1, rfl, rfl⟩ | ⟨g1, ⟨g2, rfl, rfl⟩ | ⟨g2, rfl, v1, rfl⟩⟩⟩)
    · exact absurd ⟨r3 hj, r1' hN1 hN⟩ g
    · obtain rfl := nI_ij (by omega) (by omega) e2
      exact absurd g1 k1
    · obtain rfl := nI_ij (by omega) (by omega) e2
      exact absurd (Eq.trans k2 h2) g2
    · obtain rfl := nI_ij (by omega) (by omega) e2
      obtain rfl := nI_ij (by omega) (by omega) e3
      refine ⟨?_, m, v1, rfl, hRl.w (hV.f (hw.2.1 72 (by omega)) hray)⟩
      rw [cit_c (f := ff j) (f' := fun y => m.2.1 97 (40 * j + y)) k5 x]
      refine congrArg (fun F => some (Value.int (ksp F (cit (nn j) (ff j) x) N 0 0 0))) (funext fun z => ?_)
      rw [msee_csee, hA.tb hn9, hse.2.1, hse.2.2.1]
theorem RlF.put {c m : kZ} {E : kH} (g : RlF c m E) {j : Nat} {x x1 x2 x3 : Int32} {o : Option Nat} (h : (o = none ∧ x1 = 1 ∧ x2 = x ∧ 0 ≤ x.toInt ∧ x.toInt < 9) ∨ (x = -1 ∧ ∃ (a n : Nat) (so : Int32) (f : Nat → Int32), o = some a ∧ kSh E a so (a + 1) n f ∧ (0 ≤ so.toInt ∧ so.toInt ≤ 4) ∧ x1 = 2 ∧ x2 = nI n ∧ x3 = so) ∨ (x = -1 ∧ o = none ∧ x1 = 0)) : RlF (setQ (setA c 77 (upd (c.2.1 77) j x)) 76 (va_up (c.2.2.2 76) j o)) (setA (setA (setA m 98 (upd (m.2.1 98) j x1)) 99 (upd (m.2.1 99) j x2)) 100 (upd (m.2.1 100) j x3)) E := by
  intro i hi
  show (va_up (c.2.2.2 76) j o i = none ∧ upd (m.2.1 98) j x1 i = 1 ∧ upd (m.2.1 99) j x2 i = upd (c.2.1 77) j x i ∧ 0 ≤ (upd (c.2.1 77) j x i).toInt ∧ (upd (c.2.1 77) j x i).toInt < 9) ∨ (upd (c.2.1 77) j x i = -1 ∧ ∃ (a n : Nat) (so : Int32) (f : Nat → Int32), va_up (c.2.2.2 76) j o i = some a ∧ kSh E a so (a + 1) n f ∧ (0 ≤ so.toInt ∧ so.toInt ≤ 4) ∧ upd (m.2.1 98) j x1 i = 2 ∧ upd (m.2.1 99) j x2 i = nI n ∧ upd (m.2.1 100) j x3 i = so) ∨ (upd (c.2.1 77) j x i = -1 ∧ va_up (c.2.2.2 76) j o i = none ∧ upd (m.2.1 98) j x1 i = 0)
  by_cases q : i = j
  · subst q
    rw [upd_s, upd_s, upd_s, upd_s, va_up_self]
    exact h
  · rw [upd_n _ _ q, upd_n _ _ q, upd_n _ _ q, upd_n _ _ q, va_up_ne _ _ q]
    exact g i hi
theorem j_shelf {X : kX} {d : Nat} (hd : 20 ≤ d) (s u x : Int32) : kJn X d 0 0 Y_X9_shelf Y_X10_shelf [(1, .int s), (2, .int u), (3, .int x)] := by
  intro c w m v E hRl
  obtain ⟨⟨n, p, r, hB⟩, hK, hT, hW, hC, ⟨so, nn, ff, hH⟩, hF, hV⟩ := id hRl
  obtain ⟨⟨⟨hn9, hp4, hr6⟩, ⟨hn, hn'⟩, ⟨hp, hp'⟩, -⟩, -⟩ := id hB
  have hM : ∀ (c1 : kZ), WP X d 0 0 Y_X10_shelf 0 _ [] (HP c1 w m v E) _ := fun c1 => wp_depth (by omega) (s_X10_shelf (X := X) (d := 0) (c := c1) (w := w) (m := m) (v := v) (E := E) hn' hn9 s u x)
  have r3 : ∀ {j : Nat}, j ≤ 3 → 0 ≤ (nI j).toInt ∧ (nI j).toInt ≤ 3 := fun {j} h => by
    have := nI_toInt (n := j) (by omega)
    omega
  refine wp_mono ?_ (wp_depth (by omega) (s_X9_shelf (d := 0) hn hn9 hH.sh s u x))
  rintro r1 t1 (⟨h, rfl, rfl⟩ | ⟨j, hj, rfl, rfl, ⟨rfl, h1, rfl⟩ | ⟨rfl, y, hy, rfl, rfl⟩ | ⟨rfl, rfl⟩⟩)
  · refine ⟨_, c, w, E, rfl, rfl, wp_mono ?_ (hM _)⟩
    rintro r2 t2 (⟨g, rfl, rfl⟩ | ⟨j, hj, rfl, rfl, ⟨rfl, h1, rfl⟩ | ⟨rfl, y, hy, rfl, rfl⟩ | ⟨rfl, rfl⟩⟩)
    · exact ⟨rfl, m, v, rfl, hRl⟩
    · exact absurd ⟨r3 hj, Or.inl ⟨rfl, h1⟩⟩ h
    · exact absurd ⟨r3 hj, Or.inr (Or.inl ⟨rfl, r3 hy⟩)⟩ h
    · exact absurd ⟨r3 hj, Or.inr (Or.inr rfl)⟩ h
  · refine ⟨_, _, w, E, rfl, rfl, wp_mono ?_ (hM _)⟩
    rintro r2 t2 (⟨g, rfl, rfl⟩ | ⟨j2, hj2, e2, rfl, ⟨-, g1, rfl⟩ | ⟨g, -⟩ | ⟨g, -⟩⟩)
    · exact absurd ⟨r3 hj, Or.inl ⟨rfl, h1⟩⟩ g
    · obtain rfl := nI_ij (by omega) (by omega) e2
      exact ⟨rfl, _, v, rfl, ⟨⟨n, p, r, hB⟩, hK, hT, hW, hC, ⟨so, nn, ff, hH⟩, hF.put (Or.inl ⟨rfl, rfl, rfl, h1.1, by omega⟩), hV⟩⟩
    · exact absurd g (by decide)
    · exact absurd g (by decide)
  · refine ⟨_, _, w, E, rfl, rfl, wp_mono ?_ (hM _)⟩
    rintro r2 t2 (⟨g, rfl, rfl⟩ | ⟨j2, hj2, e2, rfl, ⟨g, -⟩ | ⟨-, y2, hy2, e3, rfl⟩ | ⟨g, -⟩⟩)
    · exact absurd ⟨r3 hj, Or.inr (Or.inl ⟨rfl, r3 hy⟩)⟩ g
    · exact absurd g (by decide)
    · obtain rfl := nI_ij (by omega) (by omega) e2
      obtain rfl := nI_ij (by omega) (by omega) e3
      refine ⟨rfl, _, v, rfl, ⟨⟨n, p, r, hB⟩, hK, hT, hW, hC, ⟨so, nn, ff, hH⟩, hF.put ?_, hV⟩⟩
      obtain ⟨a1, a2, ⟨a3, a4⟩ | ⟨a, a3, a4, a5, a6, a7⟩⟩ := hH.1 y (by omega)
      · refine Or.inr (Or.inr ⟨rfl, a3, ?_⟩)
        rw [a4]
        decide
      · refine Or.inr (Or.inl ⟨rfl, a, nn y, so y, ff y, a3, a4, a5, ?_, a1, a6⟩)
        rw [a6, if_pos (e_neg a5).2.1]
    · exact absurd g (by decide)
  · refine ⟨_, _, w, E, rfl, rfl, wp_mono ?_ (hM _)⟩
    rintro r2 t2 (⟨g, rfl, rfl⟩ | ⟨j2, hj2, e2, rfl, ⟨g, -⟩ | ⟨g, -⟩ | ⟨-, rfl⟩⟩)
    · exact absurd ⟨r3 hj, Or.inr (Or.inr rfl)⟩ g
    · exact absurd g (by decide)
    · exact absurd g (by decide)
    · obtain rfl := nI_ij (by omega) (by omega) e2
      exact ⟨rfl, _, v, rfl, ⟨⟨n, p, r, hB⟩, hK, hT, hW, hC, ⟨so, nn, ff, hH⟩, hF.put (Or.inr (Or.inr ⟨rfl, rfl, rfl⟩)), hV⟩⟩
theorem RlF.sh {c m : kZ} {E : kH} (g : RlF c m E) : ∃ f : Nat → Int32 × Nat × Nat × (Nat → Int32), ∀ j a, j < 4 → c.2.2.2 76 j = some a → kSh E a (f j).1 (f j).2.1 (f j).2.2.1 (f j).2.2.2 := by
  have : ∀ j, ∃ y : Int32 × Nat × Nat × (Nat → Int32), ∀ a, j < 4 → c.2.2.2 76 j = some a → kSh E a y.1 y.2.1 y.2.2.1 y.2.2.2 := by
    intro j
    by_cases hj : j < 4
    · rcases g j hj with ⟨h, -⟩ | ⟨-, a, n, so, f, h1, h2, -⟩ | ⟨-, h, -⟩
      · exact ⟨(0, 0, 0, fun _ => 0), fun a _ k => by rw [h] at k; cases k⟩
      · exact ⟨(so, a + 1, n, f), fun b _ k => by rw [h1] at k; obtain rfl := Option.some.inj k; exact h2⟩
      · exact ⟨(0, 0, 0, fun _ => 0), fun a _ k => by rw [h] at k; cases k⟩
    · exact ⟨(0, 0, 0, fun _ => 0), fun a k => absurd k hj⟩
  obtain ⟨f, hf⟩ := Classical.axiomOfChoice this
  exact ⟨f, fun j a hj => hf j a hj⟩
theorem u10 (u : Int32) : (0 ≤ (u - 10).toInt ∧ (u - 10).toInt ≤ 4) ↔ (10 ≤ u.toInt ∧ u.toInt ≤ 14) := by
  have h1 : (u - 10).toInt = (u.toInt - 10).bmod (2 ^ 32) := Int32.toInt_sub u 10
  have h2 := Int32.le_toInt u
  have h3 := Int32.toInt_lt u
  rw [h1]
  rw [Int.bmod_def]
  omega
theorem j_taken {X : kX} {d : Nat} (hd : 20 ≤ d) (s u : Int32) : kJn X d 0 0 Y_X9_taken Y_X10_taken [(1, .int s), (2, .int u)] := by
  intro c w m v E hRl
  obtain ⟨⟨n, p, r, ⟨⟨hn9, hp4, hr6⟩, ⟨hn, hn'⟩, ⟨hp, hp'⟩, ⟨hr, hr'⟩, hz⟩, hL, hS, hP, hRp, hU⟩, hK, hT, hW, hC, hH, hF, hV⟩ := id hRl
  obtain ⟨f, hf⟩ := hF.sh
  have hM : WP X d 0 0 Y_X10_taken 0 _ [] (HP c w m v E) _ := wp_depth (by omega) (s_X10_taken (X := X) (d := 0) (c := c) (w := w) (m := m) (v := v) (E := E) hn' hn9 s u)
  have r3 : ∀ {j : Nat}, j ≤ 3 → 0 ≤ (nI j).toInt ∧ (nI j).toInt ≤ 3 := fun {j} h => by
    have := nI_toInt (n := j) (by omega)
    omega
  refine wp_mono ?_ (wp_depth (by omega) (s_X9_taken (d := 0) hn hn9 hL.kd (so := fun j => (f j).1) (ia := fun j => (f j).2.1) (nn := fun j => (f j).2.2.1) (ff := fun j => (f j).2.2.2) hf s u))
  rw [u10 u]
  rintro r1 t1 ⟨rfl, ⟨h, rfl⟩ | ⟨j, hj, rfl, hu, rfl⟩⟩
  · refine ⟨_, c, w, E, rfl, rfl, wp_mono ?_ hM⟩
    rintro r2 t2 ⟨rfl, ⟨g, rfl⟩ | ⟨j, hj, rfl, hu, -⟩⟩
    · exact ⟨rfl, m, v, rfl, hRl⟩
    · exact absurd ⟨r3 hj, hu⟩ h
  · refine ⟨_, c, w, E, rfl, rfl, wp_mono ?_ hM⟩
    rintro r2 t2 ⟨rfl, ⟨g, rfl⟩ | ⟨j2, hj2, e2, hu2, g⟩⟩
    · exact absurd ⟨r3 hj, hu⟩ g
    · obtain rfl := nI_ij (by omega) (by omega) e2
      refine ⟨?_, m, v, rfl, hRl⟩
      have h6 : (6 : Int32).toInt = 6 := rfl
      rcases hF j (by omega) with ⟨q1, q2, q3, q4, q5⟩ | ⟨q1, a, N, so, f1, q2, q3, q4, q5, q6, q7⟩ | ⟨q1, q2, q3⟩
      · rw [q3] at g
        rcases g with ⟨g1, g2, rfl⟩ | ⟨g1, g2, -⟩ | ⟨l, g1, g2, g3, rfl⟩
        · rw [if_neg (fun z => g1 ⟨q2, z⟩), if_pos q1]
        · rw [q2] at g2
          exact absurd g2 (by decide)
        · rw [show m.2.1 81 (9 + 4 * l + 0) = c.2.1 2 l from (hL l g3).1.1, g2, nI_clamp (by omega), if_pos (show 0 ≤ (nI l).toInt ∧ (nI l).toInt < (n : Int) from nI_rng g3 (by omega))]
          have : (u < 6 ∧ kUnder (c.2.1 2 l) u) ↔ ((0 ≤ u.toInt ∧ u.toInt ≤ 5) ∧ kUnder (c.2.1 2 l) u) := by
            refine and_congr ?_ Iff.rfl
            rw [Int32.lt_iff_toInt_lt]
            omega
          by_cases z : (0 ≤ u.toInt ∧ u.toInt ≤ 5) ∧ kUnder (c.2.1 2 l) u
          · rw [if_pos z, if_pos (this.mpr z)]
          · rw [if_neg z, if_neg (fun y => z (this.mp y))]
      · have hk := hf j a (by omega) q2
        obtain ⟨e1, -, e3, -⟩ := hk.eq q3
        have e1 : (f j).1 = so := e1
        have e3 : (f j).2.2.1 = N := e3
        rw [q1, if_neg (show ¬ (0 ≤ (-1 : Int32).toInt ∧ (-1 : Int32).toInt < (n : Int)) from fun z => absurd z.1 (by decide)), q2, if_neg (show ¬ (some a = none) by intro z; cases z)]
        simp only [e1, e3]
        rcases g with ⟨g1, g2, rfl⟩ | ⟨g1, g2, rfl⟩ | ⟨l, g1, -⟩
        · rw [q5] at g2
          exact absurd g2 (by decide)
        · rw [q6, q7]
          by_cases z : so = u - 10
          · rw [if_pos z, if_pos z.symm]
          · rw [if_neg z, if_neg (fun y => z y.symm)]
        · rw [q5] at g1
          exact absurd g1 (by decide)
      · rw [q1, if_neg (show ¬ (0 ≤ (-1 : Int32).toInt ∧ (-1 : Int32).toInt < (n : Int)) from fun z => absurd z.1 (by decide)), if_pos q2]
        rcases g with ⟨g1, g2, rfl⟩ | ⟨g1, g2, rfl⟩ | ⟨l, g1, -⟩
        · rfl
        · rw [q3] at g2
          exact absurd g2 (by decide)
        · rw [q3] at g1
          exact absurd g1 (by decide)
theorem kaB_len (q : Nat) (K n a : Int32) : (kaB q K n a).length ≤ 30 := by
  unfold kaB
  split
  · unfold kdmB; repeat' split
    all_goals decide
  · unfold kwdB; repeat' split
    all_goals decide
  · unfold kptB; repeat' split
    all_goals decide
  · unfold ktlB kwdB; repeat' split
    all_goals decide
theorem j_act {X : kX} {d : Nat} (hd : 20 ≤ d) (s u x : Int32) : kJn X d 0 0 Y_X9_act Y_X10_act [(1, .int s), (2, .int u), (3, .int x)] := by
  intro c w m v E hRl
  obtain ⟨⟨n, p, r, ⟨⟨hn9, hp4, hr6⟩, ⟨hn, hn'⟩, ⟨hp, hp'⟩, ⟨hr, hr'⟩, hz⟩, hL, hS, hP, hRp, hU⟩, hK, hT, hW, hC, hH, hF, hV⟩ := id hRl
  have hkd : ∀ j, j < n → 1 ≤ (m.2.1 81 (9 + 4 * j + 0)).toInt ∧ (m.2.1 81 (9 + 4 * j + 0)).toInt ≤ 5 := fun j hj => by
    rw [(hL j hj).1.1]
    exact (hL j hj).1.2
  have hM : ∀ c1 w1 : kZ, WP X d 0 0 Y_X10_act 0 _ [] (HP c1 w1 m v E) _ := fun c1 w1 => wp_depth (by omega) (s_X10_act (X := X) (d := 0) (c := c1) (w := w1) (m := m) (v := v) (E := E) hn' hn9 hkd s u x)
  have r3 : ∀ {j : Nat}, j ≤ 3 → 0 ≤ (nI j).toInt ∧ (nI j).toInt ≤ 3 := fun {j} h => by
    have := nI_toInt (n := j) (by omega)
    omega
  have cl : ∀ {j : Nat}, j ≤ 3 → (nI j).toNatClampNeg = j := fun {j} h => nI_clamp (by omega)
  -- the lens on a shelf, on both sides
  have sh : ∀ j, j < 4 → ((0 ≤ (c.2.1 77 j).toInt ∧ (c.2.1 77 j).toInt < (n : Int)) ↔ (m.2.1 98 j = 1 ∧ 0 ≤ (m.2.1 99 j).toInt ∧ (m.2.1 99 j).toInt < (n : Int))) ∧ (m.2.1 98 j = 1 → m.2.1 99 j = c.2.1 77 j) := by
    intro j hj
    rcases hF j hj with ⟨q1, q2, q3, q4, q5⟩ | ⟨q1, a, N, so, f1, q2, q3, q4, q5, q6, q7⟩ | ⟨q1, q2, q3⟩
    · rw [q3]
      exact ⟨⟨fun z => ⟨q2, z⟩, fun z => z.2⟩, fun _ => rfl⟩
    · rw [q1, q5]
      exact ⟨⟨fun z => absurd z.1 (by decide), fun z => absurd z.1 (by decide)⟩, fun z => absurd z (by decide)⟩
    · rw [q1, q3]
      exact ⟨⟨fun z => absurd z.1 (by decide), fun z => absurd z.1 (by decide)⟩, fun z => absurd z (by decide)⟩
  refine wp_mono ?_ (wp_depth (by omega) (s_X9_act (d := 0) hn hn9 hL.kd s u x))
  rintro r1 t1 (⟨h, rfl, rfl⟩ | ⟨j, q, l, hj, rfl, hq3, rfl, hl, hln, ⟨z, rfl, z1, z2⟩, zc1, w1, rfl, hc1, hd1⟩)
  · refine ⟨_, _, w, E, rfl, rfl, wp_mono ?_ (hM _ _)⟩
    rintro r2 t2 (⟨g, rfl, v1, rfl⟩ | ⟨j, q, l, hj, rfl, hq3, rfl, g1, g2, hln, -⟩)
    · exact ⟨rfl, _, v1, rfl, ⟨⟨n, p, r, ⟨⟨hn9, hp4, hr6⟩, ⟨hn, hn'⟩, ⟨hp, hp'⟩, ⟨hr, hr'⟩, hz⟩, hL, hS, hP, hRp, hU⟩, hK, hT, hW, ⟨0, by omega, rfl, rfl, fun j hj => absurd hj (by omega)⟩, hH, hF, hV⟩⟩
    · refine absurd ⟨r3 hj, r3 hq3, ?_⟩ h
      rw [cl hj]
      exact (sh j (by omega)).1.mpr ⟨g1, by rw [g2]; exact nI_rng hln (by omega)⟩
  · refine ⟨_, _, w1, E, rfl, rfl, wp_mono ?_ (hM _ _)⟩
    have hs2 := (sh j (by omega)).1.mp (by rw [hl]; exact nI_rng hln (by omega))
    have hs3 := (sh j (by omega)).2 hs2.1
    rintro r2 t2 (⟨g, rfl, v1, rfl⟩ | ⟨j2, q2, l2, hj2, e2, hq2, e3, g1, g2, hln2, ⟨y, rfl, y1, y2⟩, m1, v1, rfl, hm1⟩)
    · refine absurd ⟨r3 hj, r3 hq3, ?_⟩ g
      rw [cl hj]
      exact hs2
    · obtain rfl := nI_ij (by omega) (by omega) e2
      obtain rfl := nI_ij (by omega) (by omega) e3
      rw [hs3, hl] at g2
      obtain rfl := nI_ij (by omega) (by omega) g2
      rw [(hL l hln).1.1, (hL l hln).2.1.1] at y1 y2 hm1
      obtain ⟨a1, a2, a3, a4, a5⟩ := hc1
      obtain ⟨b1, b2, b3, b4, b5⟩ := hm1
      refine ⟨?_, m1, v1, rfl, ?_⟩
      · by_cases e : kaP q (c.2.1 2 l) (nI l) (c.2.1 3 l)
        · rw [z1 e, y1 e]
        · rw [z2 e, y2 e]
      · have k81 : m1.2.1 81 = m.2.1 81 := b2 81 (by omega)
        refine ⟨⟨n, p, r, ?_⟩, ?_, ?_, ?_, ⟨_, kaB_len q (c.2.1 2 l) (nI l) (c.2.1 3 l), a4, b4, fun i hi => ?_⟩, ?_, ?_, ?_⟩
        · rw [k81]
          unfold RlB
          rw [a1 (100 * 1) (by omega), a1 (100 * 1 + 7) (by omega), a1 (100 * 1 + 10) (by omega), a1 (100 * 1 + 13) (by omega), a2 (1 + 1) (by omega), a2 (1 + 2) (by omega), a2 (1 + 3) (by omega), a2 (1 + 4) (by omega), a2 (1 + 5) (by omega), a2 (1 + 8) (by omega), a2 (1 + 9) (by omega), a2 (1 + 10) (by omega), a2 (1 + 11) (by omega), show zc1.2.2.1 1 = c.2.2.1 1 by rw [a3]]
          exact ⟨⟨⟨hn9, hp4, hr6⟩, ⟨hn, hn'⟩, ⟨hp, hp'⟩, ⟨hr, hr'⟩, hz⟩, hL, hS, hP, hRp, hU⟩
        · refine ⟨by rw [a1 2 (by omega)]; exact hK.1, by rw [a1 2 (by omega), b1 8003 (by omega)]; exact hK.2.1, fun q => ?_⟩
          rw [a1 2 (by omega)] at q
          obtain ⟨n2, p2, r2, hb⟩ := hK.2.2 q
          refine ⟨n2, p2, r2, ?_⟩
          rw [show m1.2.1 82 = m.2.1 82 from b2 82 (by omega)]
          unfold RlB at hb ⊢
          rw [a1 (100 * 13) (by omega), a1 (100 * 13 + 7) (by omega), a1 (100 * 13 + 10) (by omega), a1 (100 * 13 + 13) (by omega), a2 (13 + 1) (by omega), a2 (13 + 2) (by omega), a2 (13 + 3) (by omega), a2 (13 + 4) (by omega), a2 (13 + 5) (by omega), a2 (13 + 8) (by omega), a2 (13 + 9) (by omega), a2 (13 + 10) (by omega), a2 (13 + 11) (by omega), show zc1.2.2.1 13 = c.2.2.1 13 by rw [a3]]
          exact hb
        · unfold RlT at hT ⊢
          rw [a1 3701 (by omega), a2 38 (by omega), b1 8024 (by omega), b2 94 (by omega)]
          exact hT
        · unfold RlW at hW ⊢
          rw [a1 11 (by omega), a2 74 (by omega), b1 8022 (by omega), b2 93 (by omega)]
          exact hW
        · rw [a5 i hi, b5 i hi]
        · unfold RlH RlH1 at hH ⊢
          rw [show zc1.2.2.2 = c.2.2.2 by rw [a3], b2 95 (by omega), b2 96 (by omega), b2 97 (by omega)]
          exact hH
        · unfold RlF at hF ⊢
          rw [show zc1.2.2.2 = c.2.2.2 by rw [a3], a2 77 (by omega), b2 98 (by omega), b2 99 (by omega), b2 100 (by omega)]
          exact hF
        · obtain ⟨d1, d2⟩ := hd1
          refine hV.f (by rw [d2]) (kRay_0 hV.1 (fun k _ _ => by rw [d2]))
