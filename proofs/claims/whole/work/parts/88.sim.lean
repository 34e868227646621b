/-! ===== the two readers side by side ===== -/
def lOK (b t : Nat → Int32) (T o : Nat) (p : kQt) (q : kRt) : Prop := p.2.1 = -1 ∧ rAt b t T p.1 q ∧ q.2.2.2.2.1 = o
def lBd (p : kQt) (q : kRt) : Prop := p.2.1 ≠ -1 ∧ q.2.2.1 = true ∧ p.2.1 = nI q.1
def lFl (F : kQt → kQt) : Prop := ∀ p, p.2.1 ≠ -1 → (F p).2.1 = p.2.1
def lWr (G : kRt → kRt) : Prop := ∀ q, q.2.2.1 = true → (G q).2.2.1 = true ∧ (G q).1 = q.1
theorem lBd.go {F : kQt → kQt} {G : kRt → kRt} (hF : lFl F) (hG : lWr G) {p : kQt} {q : kRt} (h : lBd p q) : lBd (F p) (G q) := ⟨by rw [hF p h.1]; exact h.1, (hG q h.2.1).1, by rw [hF p h.1, (hG q h.2.1).2]; exact h.2.2⟩
theorem lFl.co {F G : kQt → kQt} (hF : lFl F) (hG : lFl G) : lFl (fun p => G (F p)) := fun p h => (hG (F p) (by rw [hF p h]; exact h)).trans (hF p h)
theorem lWr.co {F G : kRt → kRt} (hF : lWr F) (hG : lWr G) : lWr (fun p => G (F p)) := fun q h => ⟨(hG _ (hF q h).1).1, (hG _ (hF q h).1).2.trans (hF q h).2⟩
theorem lFl.step (W : Nat → Int32) : lFl (qstep W) := fun p _ => by unfold qstep; split <;> rfl
theorem lFl.fail (Z : Nat → Int32) : lFl (qfail Z) := fun p h => by unfold qfail; rw [if_neg h]
theorem lFl.idd : lFl id := fun _ _ => rfl
theorem lFl.emit (x : Int32) : lFl (qemit x) := fun p _ => by unfold qemit; split <;> rfl
theorem lFl.some {W Z : Nat → Int32} {P : kQt → Prop} [DecidablePred P] : lFl (fun p => qstep W (if P p then p else qfail Z p)) := fun p h => by
  show (qstep W (if P p then p else qfail Z p)).2.1 = _
  split
  · exact lFl.step W p h
  · exact lFl.co (lFl.fail Z) (lFl.step W) p h
theorem lFl.exp (W Z : Nat → Int32) (x : Int32) : lFl (qexp W Z x) := lFl.some (P := fun p => W p.1 = x)
theorem lFl.sgn (W Z : Nat → Int32) : lFl (qsgn W Z) := lFl.some (P := fun p => W p.1 = 61 ∨ W p.1 = 62 ∨ W p.1 = 60)
theorem lFl.val (W Z : Nat → Int32) : lFl (qval W Z) := lFl.some (P := fun p => qNu (W p.1) ∨ qFa (W p.1))
theorem lFl.cq (W Z : Nat → Int32) : lFl (qcq W Z) := fun p h => by
  unfold qcq
  have h1 := lFl.co (lFl.co (lFl.val W Z) (lFl.sgn W Z)) (lFl.val W Z) p h
  have e := lFl.emit (qcmp (qvl (W p.1)) (qsgv (W (qval W Z p).1)) (qvl (W (qsgn W Z (qval W Z p)).1))) (qval W Z (qsgn W Z (qval W Z p))) (by rw [h1]; exact h)
  exact e.trans h1
theorem lFl.mid {W Z : Nat → Int32} {C : kQt → kQt} (hC : lFl C) (op : Bool) : lFl (qmid W Z C op) := fun p h => by
  unfold qmid
  split
  · split
    · exact lFl.co (lFl.co (lFl.step W) hC) (lFl.exp W Z 41) p h
    · exact lFl.fail Z p h
  · exact lFl.cq W Z p h
theorem lFl.nots (W : Nat → Int32) : ∀ (k : Nat) (b : Bool), lFl (fun p => (qnots W k p b).1)
  | 0, b => fun p h => rfl
  | k + 1, b => fun p h => by
    show (qnots W (k + 1) p b).1.2.1 = _
    simp only [qnots]
    split
    · have h1 := lFl.step W p h
      exact (lFl.nots W k (!b) (qstep W p) (by rw [h1]; exact h)).trans h1
    · rfl
theorem lFl.one {W Z : Nat → Int32} {C : kQt → kQt} (hC : lFl C) (op : Bool) : lFl (qone W Z C op) := fun p h => by
  have h1 := lFl.co (lFl.nots W 200 false) (lFl.mid (W := W) (Z := Z) hC op) p h
  unfold qone
  split
  · exact (lFl.emit (-1) (qmid W Z C op (qnots W 200 p false).1) (by rw [h1]; exact h)).trans h1
  · exact h1
theorem lFl.js {W : Nat → Int32} {t x : Int32} {O : kQt → kQt} : ∀ k : Nat, lFl (qjs W t x O k)
  | 0 => fun p h => rfl
  | k + 1 => fun p h => by
    simp only [qjs]
    rw [if_neg (fun z => h z.2)]
theorem lFl.cond (W Z : Nat → Int32) : ∀ k : Nat, lFl (qcond W Z k)
  | 0 => lFl.co (F := fun p => qjs W 11 (-2) (qone W Z id false) 200 (qone W Z id false p)) (lFl.co (lFl.one lFl.idd false) (lFl.js 200)) (lFl.js 200)
  | k + 1 => lFl.co (F := fun p => qjs W 11 (-2) (qone W Z (qcond W Z k) true) 200 (qone W Z (qcond W Z k) true p)) (lFl.co (lFl.one (lFl.cond W Z k) true) (lFl.js 200)) (lFl.js 200)
theorem lWr.idd : lWr id := fun _ h => ⟨h, rfl⟩
theorem lWr.want (t : Nat → Int32) (T : Nat) (B : Bool) : lWr (rwant t T B) := fun q h => by
  unfold rwant
  rw [if_pos (Or.inl h)]
  exact ⟨rfl, rfl⟩
theorem lWr.wri (x : Int32) : lWr (rwri x) := fun q h => by
  unfold rwri
  rw [if_pos h]
  exact ⟨h, rfl⟩
theorem lWr.rope (n : Nat) : lWr (fun q => rope q n) := fun q h => ⟨h, rfl⟩
theorem lWr.num (t : Nat → Int32) (T : Nat) (x : Int32) : lWr (rnum t T x) := fun q h => by
  unfold rnum
  split
  · exact lWr.want t T _ (q.1, q.2.1, q.2.2.1, qnum t q.1 (q.2.1 - q.1), q.2.2.2.2) h
  · exact lWr.want t T _ (q.1, q.2.1, q.2.2.1, 0, q.2.2.2.2) h
theorem lWr.vh (t : Nat → Int32) (T : Nat) : lWr (rvh t T) := fun q h => by
  unfold rvh
  split
  · exact lWr.co (lWr.want t T true) (lWr.wri _) q h
  · exact ⟨h, rfl⟩
theorem lWr.cmp (t : Nat → Int32) (T : Nat) : lWr (rcmp t T) := fun q h => by
  unfold rcmp
  exact lWr.co (lWr.co (lWr.co (lWr.vh t T) (lWr.want t T (rcw (rcb t T (rvh t T q))))) (lWr.vh t T)) (lWr.wri (rco (rcb t T (rvh t T q)))) q h
theorem lWr.mid {t : Nat → Int32} {T : Nat} {C : kRt → kRt} : lWr (rmid t T C) := fun q h => by
  unfold rmid
  rw [if_neg (fun z => by rw [h] at z; exact absurd z.1 (by decide))]
  exact lWr.cmp t T q h
theorem lrw0 {t : Nat → Int32} {T : Nat} {q : kRt} (h : q.2.2.1 = true) : rword t T q = 0 := if_pos (Or.inl h)
theorem lWr.nots (t : Nat → Int32) (T : Nat) : ∀ (k : Nat) (b : Bool), lWr (fun q => (rnots t T k q b).1)
  | 0, b => fun q h => ⟨h, rfl⟩
  | k + 1, b => fun q h => by
    show (rnots t T (k + 1) q b).1.2.2.1 = true ∧ _
    simp only [rnots]
    rw [if_neg (by rw [lrw0 h]; decide)]
    exact ⟨h, rfl⟩
theorem lWr.one {t : Nat → Int32} {T : Nat} {C : kRt → kRt} : lWr (rone t T C) := fun q h => by
  have h1 := lWr.co (lWr.nots t T 201 false) (lWr.mid (t := t) (T := T) (C := C)) q h
  unfold rone
  split
  · exact ⟨(lWr.wri _ _ h1.1).1, (lWr.wri _ _ h1.1).2.trans h1.2⟩
  · exact h1
theorem lWr.js {t : Nat → Int32} {T : Nat} {c : Int64} (hc : c ≠ 0) {x : Int32} {O : kRt → kRt} : ∀ k : Nat, lWr (rjs t T c x O k)
  | 0 => fun q h => ⟨h, rfl⟩
  | k + 1 => fun q h => by
    simp only [rjs]
    rw [if_neg (by rw [lrw0 h]; exact fun z => hc z.symm)]
    exact ⟨h, rfl⟩
theorem lWr.cond (t : Nat → Int32) (T : Nat) : ∀ k : Nat, lWr (rcond t T k)
  | 0 => fun q h => ⟨h, rfl⟩
  | k + 1 => fun q h => by
    simp only [rcond, rcnd]
    rw [if_pos h]
    exact ⟨h, rfl⟩
section
variable {b t : Nat → Int32} {T : Nat} {W Z : Nat → Int32}
theorem kTk.num (h : kTk b t T W Z) {j : Nat} {q : kRt} (ha : rAt b t T j q) : ((qDg (qby t T q.1) ∧ q.2.1 < q.1 + 5) ↔ qNu (W j)) ∧ (qNu (W j) → qnum t q.1 (q.2.1 - q.1) = W j - 1000) := by
  rcases h.cs ha with ⟨_, c1, c2⟩ | ⟨_, c1, c2, _, c4, c5⟩ | ⟨_, _, c1, _, c2⟩ | ⟨_, _, _, c1, _, c2⟩ | ⟨_, c1, _, _, c2⟩
  · have := qof_rng (rword t T q)
    rw [← c2] at this
    exact ⟨⟨fun z => absurd z.1 (qLD c1), fun z => absurd z.1 (by omega)⟩, fun z => absurd z.1 (by omega)⟩
  · exact ⟨⟨fun _ => c4, fun _ => ⟨c1, c2⟩⟩, fun _ => c5⟩
  · rw [c2]
    have n1 : ¬ qDg (qby t T q.1) ∧ ¬ qNu (qby t T q.1) := by
      rcases c1 with z | z | z | z | z | z <;> (rw [z]; decide)
    exact ⟨⟨fun z => absurd z.1 n1.1, fun z => absurd z n1.2⟩, fun z => absurd z n1.2⟩
  · rw [c2]
    exact ⟨⟨fun z => absurd z c1, fun z => absurd z (by decide)⟩, fun z => absurd z (by decide)⟩
  · rw [c2, c1]
    exact ⟨⟨fun z => absurd z.1 (by decide), fun z => absurd z (by decide)⟩, fun z => absurd z (by decide)⟩
theorem kTk.word (h : kTk b t T W Z) {j : Nat} {q : kRt} (ha : rAt b t T j q) : W j = qof (rword t T q) ∨ (rword t T q = 0 ∧ 18 ≤ (W j).toInt) := by
  rcases h.cs ha with ⟨_, c1, c2⟩ | ⟨_, c1, c2, c3, c4, c5⟩ | ⟨_, _, c1, c3, c2⟩ | ⟨_, _, _, c1, c3, c2⟩ | ⟨_, c1, _, c3, c2⟩
  · exact Or.inl c2
  · exact Or.inr ⟨c3, by omega⟩
  · refine Or.inr ⟨c3, ?_⟩
    rw [c2]
    rcases c1 with z | z | z | z | z | z <;> (rw [z]; decide)
  · exact Or.inr ⟨c3, by rw [c2]; decide⟩
  · exact Or.inr ⟨c3, by rw [c2]; decide⟩
theorem kTk.sign (h : kTk b t T W Z) {j : Nat} {q : kRt} (ha : rAt b t T j q) {x : Int32} (hx : qSg x) : qby t T q.1 = x ↔ W j = x := by
  have x1 : 40 ≤ x.toInt ∧ x.toInt ≤ 62 ∧ ¬ qLt x ∧ ¬ qDg x := by
    rcases hx with z | z | z | z | z | z <;> (rw [z]; decide)
  rcases h.cs ha with ⟨_, c1, c2⟩ | ⟨_, c1, c2, c3, c4, c5⟩ | ⟨_, _, c1, c3, c2⟩ | ⟨_, _, c6, c1, c3, c2⟩ | ⟨_, c1, _, c3, c2⟩
  · have := qof_rng (rword t T q)
    exact ⟨fun z => absurd (z ▸ c1) x1.2.2.1, fun z => by rw [← c2, z] at this; omega⟩
  · exact ⟨fun z => absurd (z ▸ c1) x1.2.2.2, fun z => by rw [z] at c4; omega⟩
  · rw [c2]
  · rw [c2]
    exact ⟨fun z => absurd (z ▸ hx) c6, fun z => by rw [← z] at x1; exact absurd x1.1 (by decide)⟩
  · rw [c1, c2]
    exact ⟨fun z => by rw [← z] at x1; exact absurd x1.1 (by decide), fun z => by rw [← z] at x1; exact absurd x1.1 (by decide)⟩
theorem lOK.step (h : kTk b t T W Z) {o : Nat} {p : kQt} {q : kRt} (hne : W p.1 ≠ 19) (g : lOK b t T o p q) : qstep W p = (p.1 + 1, p.2) ∧ lOK b t T o (qstep W p) (rwant t T true q) ∧ (rwant t T true q).2.2.2 = q.2.2.2 := by
  have e1 : qstep W p = (p.1 + 1, p.2) := if_neg hne
  obtain ⟨g1, ⟨a1, a2, a3, a4⟩, g3⟩ := g
  have hj : p.1 < kNw b T := by
    rcases Nat.eq_or_lt_of_le a4 with e | e
    · exact absurd (by rw [e]; exact h.wN.1) hne
    · exact e
  have e2 : rwant t T true q = rtok t T (q.1, q.2.1, false, q.2.2.2) := by
    unfold rwant
    rw [if_neg (fun z => z.elim (fun z => by rw [a1] at z; cases z) (fun z => z rfl))]
  have e3 : rfr t T q.2.1 = qP b T (p.1 + 1) := by
    rw [rfr_cg h.2.1, a3, a2, h.to (qP_lt hj), qP_s hj]
  refine ⟨e1, ?_, by rw [e2]; rfl⟩
  rw [e1, e2]
  exact ⟨g1, ⟨rfl, e3, rfl, hj⟩, g3⟩
theorem lOK.bad (h : kTk b t T W Z) {o : Nat} {p : kQt} {q : kRt} (g : lOK b t T o p q) : lBd (qfail Z p) (rwant t T false q) := by
  obtain ⟨g1, ⟨a1, a2, a3, a4⟩, g3⟩ := g
  have e1 : qfail Z p = (p.1, Z p.1, p.2.2) := if_pos g1
  have e2 : rwant t T false q = (q.1, q.2.1, true, q.2.2.2) := if_pos (Or.inr (by decide))
  have e3 : Z p.1 = nI (qP b T p.1) := by
    rcases Nat.eq_or_lt_of_le a4 with e | e
    · rw [e]; exact h.wN.2.trans (congrArg nI qP_N.symm)
    · exact (h.w e).2
  rw [e1, e2]
  exact ⟨h.w0.2.2.2 p.1 a4, rfl, by rw [a2]; exact e3⟩
theorem lOK.some (h : kTk b t T W Z) {o : Nat} {p : kQt} {q : kRt} (g : lOK b t T o p q) {P : Prop} [Decidable P] {B : Bool} (hPB : P ↔ B = true) (hP : P → W p.1 ≠ 19) : (P ∧ qstep W (if P then p else qfail Z p) = (p.1 + 1, p.2) ∧ lOK b t T o (qstep W (if P then p else qfail Z p)) (rwant t T B q) ∧ (rwant t T B q).2.2.2 = q.2.2.2) ∨ lBd (qstep W (if P then p else qfail Z p)) (rwant t T B q) := by
  by_cases q1 : P
  · left
    rw [if_pos q1, hPB.mp q1]
    exact ⟨q1, g.step h (hP q1)⟩
  · right
    have hB : B = false := by
      cases B with
      | false => rfl
      | true => exact absurd (hPB.mpr rfl) q1
    rw [if_neg q1, hB]
    exact (g.bad h).go (lFl.step W) lWr.idd
theorem lOK.cb {o : Nat} {p : kQt} {q : kRt} (g : lOK b t T o p q) : rcb t T q = qby t T q.1 := if_neg (by rw [g.2.1.1]; decide)
theorem rwri_ok {x : Int32} {q : kRt} (h : q.2.2.1 = false) : rwri x q = (q.1, q.2.1, q.2.2.1, q.2.2.2.1, q.2.2.2.2.1, q.2.2.2.2.2.1 + 1, upd q.2.2.2.2.2.2 (97 + q.2.2.2.2.2.1) x) := if_neg (by rw [h]; decide)
theorem lOK.wri {o : Nat} {p : kQt} {q : kRt} (x : Int32) (g : lOK b t T o p q) : lOK b t T o p (rwri x q) := by
  rw [rwri_ok g.2.1.1]
  exact g
theorem lOK.emit {o : Nat} {p : kQt} {q : kRt} (x : Int32) (g : lOK b t T o p q) : lOK b t T o (qemit x p) q := by
  unfold qemit
  split
  · exact g
  · exact g
theorem lOK.num (h : kTk b t T W Z) {o : Nat} {p : kQt} {q : kRt} (g : lOK b t T o p q) (hi : Int32) : (qNu (W p.1) ∧ W p.1 - 1000 ≤ hi ∧ lOK b t T o (qstep W p) (rnum t T hi q) ∧ (rnum t T hi q).2.2.2.1 = W p.1 - 1000 ∧ (rnum t T hi q).2.2.2.2 = q.2.2.2.2) ∨ (¬ (qNu (W p.1) ∧ W p.1 - 1000 ≤ hi) ∧ lBd (qfail Z p) (rnum t T hi q)) := by
  have hn := h.num g.2.1
  unfold rnum
  by_cases q1 : qNu (W p.1)
  · rw [if_pos (hn.1.mpr q1), hn.2 q1]
    have hne : W p.1 ≠ 19 := fun e => by rw [e] at q1; revert q1; decide
    have g2 : lOK b t T o p (q.1, q.2.1, q.2.2.1, W p.1 - 1000, q.2.2.2.2) := g
    by_cases q2 : W p.1 - 1000 ≤ hi
    · left
      rw [decide_eq_true q2]
      obtain ⟨_, s2, s3⟩ := g2.step h hne
      exact ⟨q1, q2, s2, by rw [s3], by rw [s3]⟩
    · right
      rw [decide_eq_false q2]
      exact ⟨fun z => q2 z.2, g2.bad h⟩
  · right
    rw [if_neg (fun z => q1 (hn.1.mp z))]
    have g2 : lOK b t T o p (q.1, q.2.1, q.2.2.1, 0, q.2.2.2.2) := g
    exact ⟨fun z => q1 z.1, g2.bad h⟩
theorem lOK.val (h : kTk b t T W Z) {o : Nat} {p : kQt} {q : kRt} (g : lOK b t T o p q) : (∃ r, kVw (W p.1) r ∧ qval W Z p = (p.1 + 1, p.2) ∧ lOK b t T o (qval W Z p) (rvh t T q) ∧ (rvh t T q).2.2.2.2.2.1 = q.2.2.2.2.2.1 + 1 ∧ (rvh t T q).2.2.2.2.2.2 = upd q.2.2.2.2.2.2 (97 + q.2.2.2.2.2.1) r) ∨ lBd (qval W Z p) (rvh t T q) := by
  have hw := h.word g.2.1
  have hfa : (rfc (rword t T q) < 0 ∧ W p.1 = 12 - rfc (rword t T q) ∧ qFa (W p.1)) ∨ (¬ rfc (rword t T q) < 0 ∧ ¬ qFa (W p.1)) := by
    rcases hw with e | ⟨e1, e2⟩
    · rw [e]; exact qof_rfc _
    · rw [e1]; exact Or.inr ⟨by decide, fun z => by omega⟩
  unfold rvh qval
  rcases hfa with ⟨c1, c2, c3⟩ | ⟨c1, c2⟩
  · left
    rw [if_pos c1, if_pos (Or.inr c3)]
    have hne : W p.1 ≠ 19 := fun e => by rw [e] at c3; revert c3; decide
    obtain ⟨s1, s2, s3⟩ := g.step h hne
    refine ⟨rfc (rword t T q), Or.inr ⟨c3, by rw [c2]; grind⟩, s1, s2.wri _, ?_, ?_⟩
    · rw [rwri_ok s2.2.1.1, s3]
    · rw [rwri_ok s2.2.1.1, s3]
  · rw [if_neg c1, if_neg (show ¬ q.2.2.1 = true from by rw [g.2.1.1]; decide)]
    rcases g.num h 9999 with ⟨n1, n2, n3, n4, n5⟩ | ⟨n1, n2⟩
    · left
      have hne : W p.1 ≠ 19 := fun e => by rw [e] at n1; revert n1; decide
      rw [if_pos (Or.inl n1)]
      refine ⟨W p.1 - 1000, Or.inl ⟨n1, rfl⟩, if_neg hne, n3.wri _, ?_, ?_⟩
      · rw [rwri_ok n3.2.1.1, n5]
      · rw [rwri_ok n3.2.1.1, n5, n4]
    · right
      have n3 : ¬ qNu (W p.1) := fun z => by
        refine n1 ⟨z, ?_⟩
        obtain ⟨n, hn, e⟩ : ∃ n : Nat, n < 10000 ∧ W p.1 = nI (1000 + n) := ⟨((W p.1).toInt - 1000).toNat, by omega, by
          apply Int32.toInt_inj.mp
          rw [nI_toInt (by omega)]
          omega⟩
        rw [e]
        have e1 : nI (1000 + n) - 1000 = nI n := by
          show Int32.ofNat (1000 + n) - 1000 = Int32.ofNat n
          rw [Int32.ofNat_add]
          show (1000 : Int32) + Int32.ofNat n - 1000 = _
          grind
        rw [e1]
        apply Int32.le_iff_toInt_le.mpr
        rw [nI_toInt (by omega), show (9999 : Int32).toInt = 9999 from rfl]
        omega
      rw [if_neg (fun z => z.elim n3 c2)]
      exact n2.go (lFl.step W) (lWr.wri _)
end
