/-! ===== levels of a condition side by side ===== -/
section
variable {b t : Nat → Int32} {T : Nat} {W Z : Nat → Int32}
theorem lSim.js_l (h : kTk b t T W Z) {e o : Nat} (he : e ≤ 27) {O : kQt → kQt} {G : kRt → kRt} (hO : lSim b t T W Z (e + 1) o O G) {tw : Int32} {c : Int64} {x y : Int32} {op : Bool → Bool → Bool} (hx : ∀ (f : Nat → Int32) (n : Nat), n < 536870912 → ∀ a v : Bool, kstk f (nI (2 * (2 * n + a.toNat) + v.toNat)) x = nI (2 * n + (op a v).toNat)) (hy : ∀ (fac : Int32 → Int32) (a v : Bool) (st : List Int32), mstep fac (nI v.toNat :: nI a.toNat :: st) y = some (nI (op a v).toNat :: st)) (hc : c ≠ 0) (htw : tw.toInt < 18) (hq : ∀ x, qof x = tw ↔ x = c) {p : kQt} {q : kRt} : ∀ (k : Nat) (p1 : kQt) (q1 : kRt), kNw b T ≤ p1.1 + k → kJ W (kNw b T) (-28) p1 → p.1 ≤ p1.1 → kPh e p q p1 q1 → lOK b t T o p1 q1 → (lOK b t T o (qjs W tw x O k p1) (rjs t T c y G (k + 1) q1) ∧ kPh e p q (qjs W tw x O k p1) (rjs t T c y G (k + 1) q1) ∧ p.1 ≤ (qjs W tw x O k p1).1) ∨ lBd (qjs W tw x O k p1) (rjs t T c y G (k + 1) q1)
  | 0, p1, q1, hk, hJ, hpp, hP, g => by
    have e1 : p1.1 = kNw b T := by have := g.2.1.2.2.2; omega
    have hw : W p1.1 = 19 := by rw [e1]; exact h.wN.1
    have hn := h.name g.2.1 hc htw hq
    have n1 : ¬ rword t T q1 = c := fun z => by
      rw [← hn, hw] at z
      rw [← z] at htw
      revert htw
      decide
    rw [show rjs t T c y G (0 + 1) q1 = if rword t T q1 = c then rjs t T c y G 0 (rwri y (G (rwant t T true q1))) else q1 from rfl, if_neg n1]
    exact Or.inl ⟨g, hP, hpp⟩
  | k + 1, p1, q1, hk, hJ, hpp, hP, g => by
    have hn := h.name g.2.1 hc htw hq
    rw [show rjs t T c y G (k + 1 + 1) q1 = if rword t T q1 = c then rjs t T c y G (k + 1) (rwri y (G (rwant t T true q1))) else q1 from rfl, show qjs W tw x O (k + 1) p1 = if W p1.1 = tw ∧ p1.2.1 = -1 then qjs W tw x O k (qemit x (O (qstep W p1))) else p1 from rfl]
    by_cases c1 : W p1.1 = tw
    · rw [if_pos ⟨c1, g.1⟩, if_pos (hn.mp c1)]
      have hne : W p1.1 ≠ 19 := fun z => by
        rw [← c1, z] at htw
        revert htw
        decide
      obtain ⟨s1, s2, s3⟩ := g.step h hne
      obtain ⟨fO, wG, gO, sO⟩ := hO
      have hJ2 := kJ.step1 h.w0 hne hJ
      have hJ3 := gO _ _ hJ2
      have hJ4 : kJ W (kNw b T) (-28) (O (qstep W p1)) := hJ3.mono (by omega)
      rcases sO _ _ (hJ2.mono (by omega)) s2 with ⟨i1, i2, i3⟩ | i1
      · have i4 : p1.1 + 1 ≤ (O (qstep W p1)).1 := by
          rw [s1] at i3 ⊢
          exact i3
        have i5 : (qemit x (O (qstep W p1))).1 = (O (qstep W p1)).1 := by unfold qemit; split <;> rfl
        refine lSim.js_l h he ⟨fO, wG, gO, sO⟩ hx hy hc htw hq k _ _ (by rw [i5]; omega) hJ3.emit (by rw [i5]; omega) ?_ ((i1.wri y).emit x)
        exact kPh.join he hx hy hP (by rw [s1]; exact ⟨rfl, rfl⟩) (by rw [s3]; exact ⟨rfl, rfl⟩) i2 (hJ4.sz h.w0.1 i1.1) i1.2.1.1
      · right
        exact (i1.go (lFl.emit x) (lWr.wri y)).go (lFl.js k) (lWr.js hc (k + 1))
    · rw [if_neg (fun z => c1 z.1), if_neg (fun z => c1 (hn.mpr z))]
      exact Or.inl ⟨g, hP, hpp⟩
theorem lSim.js (h : kTk b t T W Z) {e o : Nat} (he : e ≤ 27) {O : kQt → kQt} {G : kRt → kRt} (hO : lSim b t T W Z (e + 1) o O G) {tw : Int32} {c : Int64} {x y : Int32} {op : Bool → Bool → Bool} (hx : ∀ (f : Nat → Int32) (n : Nat), n < 536870912 → ∀ a v : Bool, kstk f (nI (2 * (2 * n + a.toNat) + v.toNat)) x = nI (2 * n + (op a v).toNat)) (hy : ∀ (fac : Int32 → Int32) (a v : Bool) (st : List Int32), mstep fac (nI v.toNat :: nI a.toNat :: st) y = some (nI (op a v).toNat :: st)) (hc : c ≠ 0) (htw : tw.toInt < 18) (hq : ∀ x, qof x = tw ↔ x = c) : lSim b t T W Z e o (fun p => qjs W tw x O 200 (O p)) (fun q => rjs t T c y G 201 (G q)) := by
  have hO' := hO
  obtain ⟨fO, wG, gO, sO⟩ := hO
  have ht19 : tw ≠ 19 := fun z => by rw [z] at htw; revert htw; decide
  refine ⟨lFl.co fO (lFl.js 200), lWr.co wG (lWr.js hc 201), fun a p hp => kGd.js h.w0 gO ht19 200 a _ (gO a p hp), fun p q hJ g => ?_⟩
  rcases sO p q hJ g with ⟨i1, i2, i3⟩ | i1
  · exact lSim.js_l h he hO' hx hy hc htw hq 200 (O p) (G q) (by have := h.w0.1; omega) (gO _ _ hJ) i3 (i2.mono (by omega)) i1
  · exact Or.inr (i1.go (lFl.js 200) (lWr.js hc 201))
theorem lSim.lev (h : kTk b t T W Z) {e o : Nat} (he : e ≤ 26) {O : kQt → kQt} {D : kRt → kRt} (hO : lSim b t T W Z (e + 2) o O (rone t T D)) : lSim b t T W Z e o (fun p => qjs W 10 (-3) (fun p => qjs W 11 (-2) O 200 (O p)) 200 (qjs W 11 (-2) O 200 (O p))) (rcnd t T (rall t T D)) := by
  have h1 : lSim b t T W Z (e + 1) o (fun p => qjs W 11 (-2) O 200 (O p)) (rall t T D) := lSim.js h (op := fun a v => a && v) (by omega) hO (fun f n hn a v => kstk_and hn a v) (fun fac a v st => mst_and) (c := 1476) (y := -21) (by decide) (by decide) qof_11
  have h2 := lSim.js h (op := fun a v => a || v) (by omega) h1 (fun f n hn a v => kstk_or hn a v) (fun fac a v st => mst_or) (c := 498) (y := -22) (tw := 10) (by decide) (by decide) qof_10
  obtain ⟨f2, w2, g2, s2⟩ := h2
  refine ⟨f2, fun q hq => ?_, g2, fun p q hJ g => ?_⟩
  · unfold rcnd
    rw [if_pos hq]
    exact ⟨hq, rfl⟩
  · have e1 : rcnd t T (rall t T D) q = rjs t T 498 (-22) (rall t T D) 201 (rall t T D q) := if_neg (by rw [g.2.1.1]; decide)
    rw [e1]
    exact s2 p q hJ g
theorem lSim.cond (h : kTk b t T W Z) : ∀ k : Nat, k ≤ 3 → lSim b t T W Z (26 - 2 * k) (3 - k) (qcond W Z k) (rcond t T (k + 1))
  | 0, _ => lSim.lev h (O := qone W Z id false) (by omega) (lSim.one h (by omega) (Iff.intro (fun z => (Bool.noConfusion z)) (fun z => absurd z (by omega))) lFl.idd (lWr.cond t T 0) (fun _ _ z => z) (fun z => (Bool.noConfusion z)))
  | k + 1, hk => by
    have ih := lSim.cond h k (by omega)
    refine lSim.lev h (O := qone W Z (qcond W Z k) true) (by omega) (lSim.one h (by omega) ⟨fun _ => by omega, fun _ => rfl⟩ (lFl.cond W Z k) (lWr.cond t T (k + 1)) (kGd.cond h.w0 k) (fun _ => ?_))
    rw [show 26 - 2 * (k + 1) + 2 = 26 - 2 * k from by omega, show 3 - (k + 1) + 1 = 3 - k from by omega]
    exact ih
end
