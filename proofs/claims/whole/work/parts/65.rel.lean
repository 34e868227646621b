/-! ===== how the two states stand to one another ===== -/
/-- the rules at rho, and the reference's s -/
def RlU (E : kH) (rho : Nat) (s : Nat → Int32) : Prop := ∃ (cnt L : Nat) (code : Nat → Int32) (en : Nat → Nat), kRu E rho cnt (rho + 1) L code ∧ L < 2 ^ 20 ∧ cnt ≤ 8 ∧ kWF code L cnt 0 ∧ s 1 = nI cnt ∧ mWF s cnt en ∧ ∀ s' : Nat → Int32, (∀ k, 65 ≤ k → k < 300 → s' k = s k) → ∀ (l : Nat) (kd : Int32), kbent (kfac (s' 4) (s' 5) (s' 6) (s' (9 + 4 * l + 1)) l) code kd (s' (9 + 4 * l + 1)) cnt 0 = mbent s' en l kd (s' (9 + 4 * l + 1)) cnt
def RlL (n : Nat) (kd bd tl pr s : Nat → Int32) : Prop := ∀ l, l < n → (s (9 + 4 * l + 0) = kd l ∧ 1 ≤ (kd l).toInt ∧ (kd l).toInt ≤ 5) ∧ (s (9 + 4 * l + 1) = bd l ∧ -9 ≤ (bd l).toInt ∧ (bd l).toInt ≤ 9) ∧ (s (9 + 4 * l + 2) = tl l ∧ -9 ≤ (tl l).toInt ∧ (tl l).toInt ≤ 9) ∧ (s (9 + 4 * l + 3) = pr l ∧ 1 ≤ (pr l).toInt ∧ (pr l).toInt ≤ 999)
def RlS (se s : Nat → Int32) : Prop := (s 4 = se 0 ∧ 0 ≤ (se 0).toInt ∧ (se 0).toInt ≤ 9) ∧ (s 5 = se 1 ∧ 1 ≤ (se 1).toInt ∧ (se 1).toInt ≤ 3) ∧ (s 6 = se 2 ∧ -9 ≤ (se 2).toInt ∧ (se 2).toInt ≤ 9) ∧ (s 7 = se 3 ∧ 0 ≤ (se 3).toInt ∧ (se 3).toInt ≤ 999)
def RlP (n p : Nat) (ln tn s : Nat → Int32) : Prop := (∀ j, j < p → (s (45 + 2 * j) = ln j ∧ ∃ l, l < n ∧ ln j = nI l) ∧ (s (45 + 2 * j + 1) = tn j ∧ ∃ t, t < 4 ∧ tn j = nI t)) ∧ ∀ i j, i < p → j < p → ln i = ln j → i = j
def RlR (r : Nat) (rp rw s : Nat → Int32) : Prop := ∀ j, j < r → (s (53 + 2 * j) = rp j ∧ 0 ≤ (rp j).toInt ∧ (rp j).toInt ≤ 3) ∧ (s (53 + 2 * j + 1) = rw j ∧ 0 ≤ (rw j).toInt ∧ (rw j).toInt ≤ 1)
def RlN (n p r : Nat) (sn sp sr z : Int32) (s : Nat → Int32) : Prop := (n ≤ 9 ∧ p ≤ 4 ∧ r ≤ 6) ∧ (sn = nI n ∧ s 0 = nI n) ∧ (sp = nI p ∧ s 2 = nI p) ∧ (sr = nI r ∧ s 3 = nI r) ∧ s 8 = z
/-- a bench at a, and the reference's s -/
def RlB (a n p r : Nat) (c : kZ) (E : kH) (s : Nat → Int32) : Prop := RlN n p r (c.1 (100 * a)) (c.1 (100 * a + 7)) (c.1 (100 * a + 10)) (c.1 (100 * a + 13)) s ∧ RlL n (c.2.1 (a + 1)) (c.2.1 (a + 2)) (c.2.1 (a + 3)) (c.2.1 (a + 4)) s ∧ RlS (c.2.1 (a + 5)) s ∧ RlP n p (c.2.1 (a + 8)) (c.2.1 (a + 9)) s ∧ RlR r (c.2.1 (a + 10)) (c.2.1 (a + 11)) s ∧ RlU E (c.2.2.1 a) s
def RlK (c m : kZ) (E : kH) : Prop := (c.1 2 = 0 ∨ c.1 2 = 1) ∧ m.1 8003 = c.1 2 ∧ (c.1 2 = 1 → ∃ n p r, RlB 13 n p r c E (m.2.1 82))
def RlT (c m : kZ) : Prop := ∃ T : Nat, T ≤ 200 ∧ c.1 3701 = nI T ∧ m.1 8024 = nI T ∧ ∀ j, j < T → m.2.1 94 j = c.2.1 38 j ∧ 0 ≤ (c.2.1 38 j).toInt ∧ (c.2.1 38 j).toInt ≤ 255
def RlW (c m : kZ) : Prop := ∃ rc : Nat, rc ≤ 6 ∧ rc ≠ 1 ∧ c.1 11 = nI rc ∧ m.1 8022 = nI rc ∧ ∀ j, j < 3 * rc → m.2.1 93 j = c.2.1 74 j
def RlC (c m : kZ) : Prop := ∃ tc : Nat, tc ≤ 30 ∧ c.1 7805 = nI tc ∧ m.1 8038 = nI tc ∧ ∀ j, j < tc → m.2.1 101 j = c.2.1 79 j
def RlH1 (c m : kZ) (E : kH) (so : Nat → Int32) (nn : Nat → Nat) (ff : Nat → Nat → Int32) : Prop := (∀ j, j < 4 → m.2.1 96 j = nI (nn j) ∧ nn j ≤ 40 ∧ ((c.2.2.2 75 j = none ∧ m.2.1 95 j = -1) ∨ ∃ a, c.2.2.2 75 j = some a ∧ kSh E a (so j) (a + 1) (nn j) (ff j) ∧ (0 ≤ (so j).toInt ∧ (so j).toInt ≤ 4) ∧ m.2.1 95 j = so j ∧ ∀ y, y < nn j → m.2.1 97 (40 * j + y) = ff j y)) ∧ ∀ i j a, i < 4 → j < 4 → c.2.2.2 75 i = some a → c.2.2.2 75 j = some a → i = j
def RlH (c m : kZ) (E : kH) : Prop := ∃ so nn ff, RlH1 c m E so nn ff
def RlF (c m : kZ) (E : kH) : Prop := ∀ j, j < 4 → (c.2.2.2 76 j = none ∧ m.2.1 98 j = 1 ∧ m.2.1 99 j = c.2.1 77 j ∧ 0 ≤ (c.2.1 77 j).toInt ∧ (c.2.1 77 j).toInt < 9) ∨ (c.2.1 77 j = -1 ∧ ∃ (a n : Nat) (so : Int32) (f : Nat → Int32), c.2.2.2 76 j = some a ∧ kSh E a so (a + 1) n f ∧ (0 ≤ so.toInt ∧ so.toInt ≤ 4) ∧ m.2.1 98 j = 2 ∧ m.2.1 99 j = nI n ∧ m.2.1 100 j = so) ∨ (c.2.1 77 j = -1 ∧ c.2.2.2 76 j = none ∧ m.2.1 98 j = 0)
def RlV (w : kZ) : Prop := kRay w [] ∧ ∀ T, T < 256 → w.2.1 72 (5376 + T) = 0
def Rel (c w m : kZ) (E : kH) : Prop := (∃ n p r, RlB 1 n p r c E (m.2.1 81)) ∧ RlK c m E ∧ RlT c m ∧ RlW c m ∧ RlC c m ∧ RlH c m E ∧ RlF c m E ∧ RlV w
/-! s may change elsewhere -/
theorem mWF.c {s s' : Nat → Int32} {cnt : Nat} {en : Nat → Nat} (hc : cnt ≤ 8) (h : ∀ k, 65 ≤ k → k < 300 → s' k = s k) (g : mWF s cnt en) : mWF s' cnt en := by
  refine ⟨g.1, fun r hr => ?_⟩
  obtain ⟨h1, h2, h3, h4⟩ := g.2 r hr
  refine ⟨(h _ (by omega) (by omega)).trans h1, h2, h3, fun fac => ?_⟩
  obtain ⟨st, h5, h6⟩ := h4 fac
  refine ⟨st, ?_, h6⟩
  have : ∀ k i st, i + k ≤ en (r + 1) → mrun fac s' k i st = mrun fac s k i st := by
    intro k
    induction k with
    | zero => intro i st _; rfl
    | succ k ih =>
      intro i st hi
      simp only [mrun]
      rw [h (97 + i) (by omega) (by omega)]
      split
      · exact ih _ _ (by omega)
      · rfl
  rw [this _ _ _ (by omega)]
  exact h5
theorem RlU.c {E : kH} {rho : Nat} {s s' : Nat → Int32} (h1 : s' 1 = s 1) (h : ∀ k, 65 ≤ k → k < 300 → s' k = s k) (g : RlU E rho s) : RlU E rho s' := by
  obtain ⟨cnt, L, code, en, g1, g2, g3, g4, g5, g6, g7⟩ := g
  exact ⟨cnt, L, code, en, g1, g2, g3, g4, h1.trans g5, g6.c g3 h, fun s2 h2 => g7 s2 (fun k a b => (h2 k a b).trans (h k a b))⟩
theorem RlL.c {n : Nat} {kd bd tl pr s s' : Nat → Int32} (hn : n ≤ 9) (h : ∀ k, 9 ≤ k → k < 45 → s' k = s k) (g : RlL n kd bd tl pr s) : RlL n kd bd tl pr s' := by
  intro l hl
  obtain ⟨a, b, c, d⟩ := g l hl
  exact ⟨⟨(h _ (by omega) (by omega)).trans a.1, a.2⟩, ⟨(h _ (by omega) (by omega)).trans b.1, b.2⟩, ⟨(h _ (by omega) (by omega)).trans c.1, c.2⟩, ⟨(h _ (by omega) (by omega)).trans d.1, d.2⟩⟩
theorem RlS.c {se s s' : Nat → Int32} (h : ∀ k, 4 ≤ k → k < 8 → s' k = s k) (g : RlS se s) : RlS se s' := ⟨⟨(h _ (by omega) (by omega)).trans g.1.1, g.1.2⟩, ⟨(h _ (by omega) (by omega)).trans g.2.1.1, g.2.1.2⟩, ⟨(h _ (by omega) (by omega)).trans g.2.2.1.1, g.2.2.1.2⟩, ⟨(h _ (by omega) (by omega)).trans g.2.2.2.1, g.2.2.2.2⟩⟩
theorem RlP.c {n p : Nat} {ln tn s s' : Nat → Int32} (hp : p ≤ 4) (h : ∀ k, 45 ≤ k → k < 53 → s' k = s k) (g : RlP n p ln tn s) : RlP n p ln tn s' := ⟨fun j hj => ⟨⟨(h _ (by omega) (by omega)).trans (g.1 j hj).1.1, (g.1 j hj).1.2⟩, ⟨(h _ (by omega) (by omega)).trans (g.1 j hj).2.1, (g.1 j hj).2.2⟩⟩, g.2⟩
theorem RlR.c {r : Nat} {rp rw s s' : Nat → Int32} (hr : r ≤ 6) (h : ∀ k, 53 ≤ k → k < 65 → s' k = s k) (g : RlR r rp rw s) : RlR r rp rw s' := fun j hj => ⟨⟨(h _ (by omega) (by omega)).trans (g j hj).1.1, (g j hj).1.2⟩, ⟨(h _ (by omega) (by omega)).trans (g j hj).2.1, (g j hj).2.2⟩⟩
theorem RlN.c {n p r : Nat} {sn sp sr z : Int32} {s s' : Nat → Int32} (h0 : s' 0 = s 0) (h2 : s' 2 = s 2) (h3 : s' 3 = s 3) (h8 : s' 8 = s 8) (g : RlN n p r sn sp sr z s) : RlN n p r sn sp sr z s' := ⟨g.1, ⟨g.2.1.1, h0.trans g.2.1.2⟩, ⟨g.2.2.1.1, h2.trans g.2.2.1.2⟩, ⟨g.2.2.2.1.1, h3.trans g.2.2.2.1.2⟩, h8.trans g.2.2.2.2⟩
/-! the class's rows may change elsewhere -/
theorem RlL.k {n : Nat} {kd bd tl pr kd' bd' tl' pr' s : Nat → Int32} (h1 : ∀ j, j < n → kd' j = kd j) (h2 : ∀ j, j < n → bd' j = bd j) (h3 : ∀ j, j < n → tl' j = tl j) (h4 : ∀ j, j < n → pr' j = pr j) (g : RlL n kd bd tl pr s) : RlL n kd' bd' tl' pr' s := by
  intro l hl
  rw [h1 l hl, h2 l hl, h3 l hl, h4 l hl]
  exact g l hl
theorem RlS.k {se se' s : Nat → Int32} (h : ∀ j, j < 4 → se' j = se j) (g : RlS se s) : RlS se' s := by
  unfold RlS
  rw [h 0 (by omega), h 1 (by omega), h 2 (by omega), h 3 (by omega)]
  exact g
theorem RlP.k {n p : Nat} {ln tn ln' tn' s : Nat → Int32} (h1 : ∀ j, j < p → ln' j = ln j) (h2 : ∀ j, j < p → tn' j = tn j) (g : RlP n p ln tn s) : RlP n p ln' tn' s := by
  refine ⟨fun j hj => ?_, fun i j hi hj e => g.2 i j hi hj ?_⟩
  · rw [h1 j hj, h2 j hj]
    exact g.1 j hj
  · rw [← h1 i hi, ← h1 j hj]
    exact e
theorem RlR.k {r : Nat} {rp rw rp' rw' s : Nat → Int32} (h1 : ∀ j, j < r → rp' j = rp j) (h2 : ∀ j, j < r → rw' j = rw j) (g : RlR r rp rw s) : RlR r rp' rw' s := by
  intro j hj
  rw [h1 j hj, h2 j hj]
  exact g j hj
/-! the heap behind may grow; rows of items may change -/
theorem kRu.gr {E : kH} {rho cnt ka L : Nat} {code : Nat → Int32} (h : kRu E rho cnt ka L code) (F : kH) : kRu (E ++ F) rho cnt ka L code := by
  intro c w m v
  obtain ⟨h1, h2⟩ := h c w m v
  have e1 := (List.getElem?_eq_some_iff.mp h1).1
  have e2 := (List.getElem?_eq_some_iff.mp h2).1
  rw [← hp_app]
  exact ⟨(List.getElem?_append_left e1).trans h1, (List.getElem?_append_left e2).trans h2⟩
theorem kSh.gr {E : kH} {a b n : Nat} {so : Int32} {f : Nat → Int32} (h : kSh E a so b n f) (F : kH) : kSh (E ++ F) a so b n f := by
  obtain ⟨h1, ⟨h2, h3⟩, h4, h5⟩ := h
  have e1 := (List.getElem?_eq_some_iff.mp h3).1
  have e2 := (List.getElem?_eq_some_iff.mp h5).1
  exact ⟨h1, ⟨h2, (List.getElem?_append_left e1).trans h3⟩, h4, (List.getElem?_append_left e2).trans h5⟩
theorem RlU.gr {E : kH} {rho : Nat} {s : Nat → Int32} (g : RlU E rho s) (F : kH) : RlU (E ++ F) rho s := by
  obtain ⟨cnt, L, code, en, g1, g2⟩ := g
  exact ⟨cnt, L, code, en, g1.gr F, g2⟩
theorem RlB.gr {a n p r : Nat} {c : kZ} {E : kH} {s : Nat → Int32} (g : RlB a n p r c E s) (F : kH) : RlB a n p r c (E ++ F) s := ⟨g.1, g.2.1, g.2.2.1, g.2.2.2.1, g.2.2.2.2.1, g.2.2.2.2.2.gr F⟩
theorem RlK.gr {c m : kZ} {E : kH} (g : RlK c m E) (F : kH) : RlK c m (E ++ F) := ⟨g.1, g.2.1, fun h => by obtain ⟨n, p, r, b⟩ := g.2.2 h; exact ⟨n, p, r, b.gr F⟩⟩
theorem RlF.gr {c m : kZ} {E : kH} (g : RlF c m E) (F : kH) : RlF c m (E ++ F) := by
  intro j hj
  rcases g j hj with h | ⟨h1, a, n, so, f, h2, h3, h4⟩ | h
  · exact Or.inl h
  · exact Or.inr (Or.inl ⟨h1, a, n, so, f, h2, h3.gr F, h4⟩)
  · exact Or.inr (Or.inr h)
/-- the row of items of the sheet at a changes -/
theorem kRu.it {E : kH} {rho cnt L a b n : Nat} {so : Int32} {code f f' : Nat → Int32} (hS : kSh E a so (a + 1) n f) (h : kRu E rho cnt (rho + 1) L code) : kRu (E.set (a + 1 - 102) (.inl (0, n, .inl f'))) rho cnt (rho + 1) L code := by
  obtain ⟨h1, ⟨h2, h3⟩, h4, h5⟩ := hS
  intro c w m v
  obtain ⟨g1, g2⟩ := h c w m v
  rw [← hp_setX h4]
  have e : rho ≠ a := fun e => by
    subst e
    rw [hp_X h2, h3] at g1
    cases g1
  have e2 : a + 1 ≠ rho := fun e => by
    subst e
    rw [hp_X h4, h5] at g1
    cases g1
  exact ⟨(List.getElem?_set_ne e2).trans g1, (List.getElem?_set_ne (by omega)).trans g2⟩
theorem kSh.it {E : kH} {a b n n2 : Nat} {so so2 : Int32} {f f' f2 : Nat → Int32} (hS : kSh E a so (a + 1) n f) (h : kSh E b so2 (b + 1) n2 f2) (hab : a ≠ b) : kSh (E.set (a + 1 - 102) (.inl (0, n, .inl f'))) b so2 (b + 1) n2 f2 := by
  obtain ⟨h1, ⟨h2, h3⟩, h4, h5⟩ := hS
  obtain ⟨g1, ⟨g2, g3⟩, g4, g5⟩ := h
  have e : a + 1 ≠ b := fun e => by
    subst e
    rw [g3] at h5
    cases h5
  exact ⟨g1, ⟨g2, (List.getElem?_set_ne (by omega)).trans g3⟩, g4, (List.getElem?_set_ne (by omega)).trans g5⟩
theorem kSh.it0 {E : kH} {a n : Nat} {so : Int32} {f f' : Nat → Int32} (hS : kSh E a so (a + 1) n f) : kSh (E.set (a + 1 - 102) (.inl (0, n, .inl f'))) a so (a + 1) n f' := by
  obtain ⟨h1, ⟨h2, h3⟩, h4, h5⟩ := hS
  exact ⟨h1, ⟨h2, (List.getElem?_set_ne (by omega)).trans h3⟩, h4, List.getElem?_set_self (List.getElem?_eq_some_iff.mp h5).1⟩
theorem kSh.eq {E : kH} {a b b2 n n2 : Nat} {so so2 : Int32} {f f2 : Nat → Int32} (h : kSh E a so b n f) (g : kSh E a so2 b2 n2 f2) : so = so2 ∧ b = b2 ∧ n = n2 ∧ f = f2 := by
  obtain ⟨h1, ⟨h2, h3⟩, h4, h5⟩ := h
  obtain ⟨g1, ⟨g2, g3⟩, g4, g5⟩ := g
  rw [h3] at g3
  simp only [Option.some.injEq, Sum.inr.injEq, Prod.mk.injEq, List.cons.injEq, Value.int.injEq, Value.ref.injEq, true_and, and_true] at g3
  obtain ⟨e1, e2⟩ := g3
  subst e1 e2
  rw [h5] at g5
  simp only [Option.some.injEq, Sum.inl.injEq, Prod.mk.injEq, true_and] at g5
  exact ⟨rfl, rfl, g5.1, g5.2⟩
theorem RlU.it {E : kH} {rho a n : Nat} {so : Int32} {s f f' : Nat → Int32} (hS : kSh E a so (a + 1) n f) (g : RlU E rho s) : RlU (E.set (a + 1 - 102) (.inl (0, n, .inl f'))) rho s := by
  obtain ⟨cnt, L, code, en, g1, g2⟩ := g
  exact ⟨cnt, L, code, en, kRu.it (b := 0) hS g1, g2⟩
theorem RlB.it {a1 p r n1 : Nat} {c : kZ} {E : kH} {s : Nat → Int32} {a n : Nat} {so : Int32} {f f' : Nat → Int32} (hS : kSh E a so (a + 1) n f) (g : RlB a1 n1 p r c E s) : RlB a1 n1 p r c (E.set (a + 1 - 102) (.inl (0, n, .inl f'))) s := ⟨g.1, g.2.1, g.2.2.1, g.2.2.2.1, g.2.2.2.2.1, g.2.2.2.2.2.it hS⟩
theorem RlK.it {c m : kZ} {E : kH} {a n : Nat} {so : Int32} {f f' : Nat → Int32} (hS : kSh E a so (a + 1) n f) (g : RlK c m E) : RlK c m (E.set (a + 1 - 102) (.inl (0, n, .inl f'))) := ⟨g.1, g.2.1, fun h => by obtain ⟨n, p, r, b⟩ := g.2.2 h; exact ⟨n, p, r, b.it hS⟩⟩
theorem RlF.it {c m : kZ} {E : kH} {a n : Nat} {so : Int32} {f f' : Nat → Int32} (hS : kSh E a so (a + 1) n f) (g : RlF c m E) : RlF c m (E.set (a + 1 - 102) (.inl (0, n, .inl f'))) := by
  intro j hj
  rcases g j hj with h | ⟨h1, b, n2, so2, f2, h2, h3, h4⟩ | h
  · exact Or.inl h
  · refine Or.inr (Or.inl ⟨h1, b, n2, so2, ?_⟩)
    by_cases e : a = b
    · subst e
      obtain ⟨rfl, -, rfl, rfl⟩ := hS.eq h3
      exact ⟨f', h2, hS.it0, h4⟩
    · exact ⟨f2, h2, hS.it h3 e, h4⟩
  · exact Or.inr (Or.inr h)
/-- the call of the class, then that of the reference: like answers, the states stand to one another again -/
def kJn (X : kX) (d mc ms : Nat) (Yc Ym : kM) (As : List (Nat × Value)) : Prop := ∀ (c w m v : kZ) (E : kH), Rel c w m E → WP X d mc ms Yc 0 ((0, .ref 0) :: As) [] (HP c w m v E) (fun r h1 => ∃ (z : Int32) (c1 w1 : kZ) (E1 : kH), r = some (.int z) ∧ h1 = HP c1 w1 m v E1 ∧ WP X d 0 0 Ym 0 ((0, .ref 80) :: As) [] (HP c1 w1 m v E1) (fun r2 h2 => r2 = some (.int z) ∧ ∃ m2 v2 : kZ, h2 = HP c1 w1 m2 v2 E1 ∧ Rel c1 w1 m2 E1))
