/-! ===== the conditions side by side ===== -/
theorem kPh.cg {e : Nat} {p p1 p' p2 : kQt} {q q1 q' q2 : kRt} (h : kPh e p q p' q') (hp : p1.2.2 = p.2.2) (hq : q1.2.2.2.2.2 = q.2.2.2.2.2) (hp' : p2.2.2 = p'.2.2) (hq' : q2.2.2.2.2.2 = q'.2.2.2.2.2) : kPh e p1 q1 p2 q2 := by
  unfold kPh at h ⊢
  rw [hp, hq, hp', hq']
  exact h
/-- F and G read the same phrase, of room e, at depth o -/
def lSim (b t : Nat → Int32) (T : Nat) (W Z : Nat → Int32) (e o : Nat) (F : kQt → kQt) (G : kRt → kRt) : Prop := lFl F ∧ lWr G ∧ kGd W (kNw b T) F ∧ ∀ p q, kJ W (kNw b T) (-28) p → lOK b t T o p q → (lOK b t T o (F p) (G q) ∧ kPh e p q (F p) (G q) ∧ p.1 ≤ (F p).1) ∨ lBd (F p) (G q)
section
variable {b t : Nat → Int32} {T : Nat} {W Z : Nat → Int32}
theorem kJ.sz {N : Nat} {p : kQt} (hN : N ≤ 200) (h : kJ W N (-28) p) (hf : p.2.1 = -1) : p.2.2.1 < 232 := by
  have := h.2.2 hf
  have := h.1
  omega
theorem kJ.mid (hw : kW0 W Z (kNw b T)) {C : kQt → kQt} (hC : kGd W (kNw b T) C) (op : Bool) {a1 : Int} {p : kQt} (h : kJ W (kNw b T) a1 p) : kJ W (kNw b T) a1 (qmid W Z C op p) := by
  unfold qmid
  split
  · split
    · exact (hC _ _ (h.step hw)).exp hw
    · exact h.fail hw
  · exact h.cq hw
theorem lOK.sgn (h : kTk b t T W Z) {o : Nat} {p : kQt} {q : kRt} (g : lOK b t T o p q) : ((W p.1 = 61 ∨ W p.1 = 62 ∨ W p.1 = 60) ∧ qby t T q.1 = W p.1 ∧ qsgn W Z p = (p.1 + 1, p.2) ∧ lOK b t T o (qsgn W Z p) (rwant t T (rcw (rcb t T q)) q) ∧ (rwant t T (rcw (rcb t T q)) q).2.2.2 = q.2.2.2) ∨ lBd (qsgn W Z p) (rwant t T (rcw (rcb t T q)) q) := by
  have hs := fun x (hx : qSg x) => h.sign g.2.1 hx
  have h0 := hs 60 (by decide)
  have h1 := hs 61 (by decide)
  have h2 := hs 62 (by decide)
  have hPB : (W p.1 = 61 ∨ W p.1 = 62 ∨ W p.1 = 60) ↔ rcw (rcb t T q) = true := by
    rw [g.cb]
    unfold rcw
    rw [decide_eq_true_iff, h0, h1, h2]
    exact ⟨fun z => z.elim (fun z => Or.inr (Or.inl z)) (fun z => z.elim (fun z => Or.inr (Or.inr z)) Or.inl), fun z => z.elim (fun z => Or.inr (Or.inr z)) (fun z => z.elim Or.inl (fun z => Or.inr (Or.inl z)))⟩
  rcases g.some h hPB (fun q e => by rw [e] at q; revert q; decide) with ⟨c1, c2, c3, c4⟩ | c1
  · left
    refine ⟨c1, ?_, c2, c3, c4⟩
    rcases c1 with e | e | e
    · rw [e]; exact h1.mpr e
    · rw [e]; exact h2.mpr e
    · rw [e]; exact h0.mpr e
  · exact Or.inr c1
theorem lOK.cmp (h : kTk b t T W Z) {o : Nat} {p : kQt} {q : kRt} (hs : p.2.2.1 < 232) (g : lOK b t T o p q) : (lOK b t T o (qcq W Z p) (rcmp t T q) ∧ kPh 28 p q (qcq W Z p) (rcmp t T q) ∧ p.1 ≤ (qcq W Z p).1) ∨ lBd (qcq W Z p) (rcmp t T q) := by
  unfold qcq rcmp
  rcases g.val h with ⟨r1, v1, v2, v3, v4, v5⟩ | c1
  · generalize hq1 : rvh t T q = q1 at v3 v4 v5 ⊢
    rw [v2] at v3 ⊢
    rcases v3.sgn h with ⟨s1, s2, s3, s4, s5⟩ | c2
    · have hcb := v3.cb
      generalize hq2 : rwant t T (rcw (rcb t T q1)) q1 = q2 at s4 s5 ⊢
      rw [s3] at s4 ⊢
      rcases s4.val h with ⟨r2, w1, w2, w3, w4, w5⟩ | c3
      · left
        generalize hq3 : rvh t T q2 = q3 at w3 w4 w5 ⊢
        rw [w2] at w3 ⊢
        rw [hcb, s2]
        obtain ⟨k1, k2⟩ := kcmp_ok v1 w1 s1
        generalize qcmp (qvl (W p.1)) (qsgv (W (p.1 + 1, p.2).1)) (qvl (W ((p.1 + 1, p.2).1 + 1, (p.1 + 1, p.2).2).1)) = X at k1 k2 ⊢
        refine ⟨(w3.wri _).emit X, ?_, ?_⟩
        · have n4 : q2.2.2.2.2.2.1 = q.2.2.2.2.2.1 + 1 := by rw [s5]; exact v4
          have n5 : q2.2.2.2.2.2.2 = upd q.2.2.2.2.2.2 (97 + q.2.2.2.2.2.1) r1 := by rw [s5]; exact v5
          rw [n4] at w4 w5
          rw [n5] at w5
          rw [rwri_ok w3.2.1.1, w4, w5]
          unfold qemit
          rw [if_pos (show ((p.1 + 1 + 1 + 1, p.2) : kQt).2.2.1 < 232 from hs)]
          refine ⟨by show p.2.2.1 ≤ p.2.2.1 + 1; omega, by show q.2.2.2.2.2.1 ≤ q.2.2.2.2.2.1 + 1 + 1 + 1; omega, fun k hk => upd_n _ _ (Nat.ne_of_lt hk), fun k hk => ?_, fun f fac hF => ⟨kcmp f X, fun code s g1 g2 => ⟨fun S hS => ?_, fun st hst => ?_⟩⟩⟩
          · show upd (upd (upd q.2.2.2.2.2.2 (97 + q.2.2.2.2.2.1) r1) (97 + (q.2.2.2.2.2.1 + 1)) r2) (97 + (q.2.2.2.2.2.1 + 1 + 1)) _ k = _
            rw [upd_n _ _ (by omega), upd_n _ _ (by omega), upd_n _ _ (by omega)]
          · show kfold f code (p.2.2.1 + 1 - p.2.2.1) p.2.2.1 (nI S) = _
            rw [show p.2.2.1 + 1 - p.2.2.1 = 1 from by omega]
            have e1 : code p.2.2.1 = X := (g1 p.2.2.1 (Nat.le_refl _) (show p.2.2.1 < p.2.2.1 + 1 by omega)).trans (upd_s _ _ _)
            show kstk f (nI S) (code p.2.2.1) = _
            rw [e1]
            exact kstk_cmp (by omega) k1
          · show mrun fac s (q.2.2.2.2.2.1 + 1 + 1 + 1 - q.2.2.2.2.2.1) q.2.2.2.2.2.1 st = _
            rw [show q.2.2.2.2.2.1 + 1 + 1 + 1 - q.2.2.2.2.2.1 = 3 from by omega]
            generalize q.2.2.2.2.2.1 = n at g2 ⊢
            have e1 : s (97 + n) = r1 := (g2 n (Nat.le_refl _) (show n < n + 1 + 1 + 1 by omega)).trans (((upd_n _ _ (by omega)).trans (upd_n _ _ (by omega))).trans (upd_s _ _ _))
            have e2 : s (97 + (n + 1)) = r2 := (g2 (n + 1) (by omega) (show n + 1 < n + 1 + 1 + 1 by omega)).trans ((upd_n _ _ (by omega)).trans (upd_s _ _ _))
            have e3 : s (97 + (n + 1 + 1)) = rco (W (p.1 + 1)) := (g2 (n + 1 + 1) (by omega) (show n + 1 + 1 < n + 1 + 1 + 1 by omega)).trans (upd_s _ _ _)
            obtain ⟨_, _, _, b1, _⟩ := v1.n
            obtain ⟨_, _, _, b2, _⟩ := w1.n
            simp only [mrun]
            rw [e1, mst_push b1 (by omega)]
            simp only
            rw [e2, mst_push b2 (by rw [List.length_cons]; omega)]
            simp only
            rw [e3, k2 f fac hF st]
        · unfold qemit
          split
          · show p.1 ≤ p.1 + 1 + 1 + 1; omega
          · show p.1 ≤ p.1 + 1 + 1 + 1; omega
      · right
        exact c3.go (lFl.emit _) (lWr.wri _)
    · right
      exact (c2.go (lFl.val W Z) (lWr.vh t T)).go (lFl.emit _) (lWr.wri _)
  · right
    exact (((c1.go (lFl.sgn W Z) (lWr.want t T _)).go (lFl.val W Z) (lWr.vh t T)).go (lFl.emit _) (lWr.wri _))
/-- a name where it stands -/
theorem kTk.name (h : kTk b t T W Z) {j : Nat} {q : kRt} (ha : rAt b t T j q) {k : Int32} {c : Int64} (hc : c ≠ 0) (hk : k.toInt < 18) (hq : ∀ x, qof x = k ↔ x = c) : W j = k ↔ rword t T q = c := by
  rcases h.word ha with e | ⟨e1, e2⟩
  · rw [e]; exact hq _
  · exact ⟨fun z => by rw [z] at e2; omega, fun z => absurd (e1.symm.trans z).symm hc⟩
theorem lOK.nots (h : kTk b t T W Z) {o : Nat} : ∀ (k : Nat) (p : kQt) (q : kRt) (f : Bool), kNw b T ≤ p.1 + k → lOK b t T o p q → lOK b t T o (qnots W k p f).1 (rnots t T (k + 1) q f).1 ∧ (qnots W k p f).2 = (rnots t T (k + 1) q f).2 ∧ (qnots W k p f).1.2 = p.2 ∧ (rnots t T (k + 1) q f).1.2.2.2 = q.2.2.2 ∧ p.1 ≤ (qnots W k p f).1.1
  | 0, p, q, f, hk, g => by
    have e : p.1 = kNw b T := by have := g.2.1.2.2.2; omega
    have hw : W p.1 = 19 := by rw [e]; exact h.wN.1
    have hn := h.name g.2.1 (k := 12) (c := 14836) (by decide) (by decide) qof_12
    rw [show rnots t T (0 + 1) q f = if rword t T q = 14836 then rnots t T 0 (rwant t T true q) (!f) else (q, f) from rfl, if_neg (fun z => by rw [hn.mpr z] at hw; exact absurd hw (by decide))]
    exact ⟨g, rfl, rfl, rfl, Nat.le_refl _⟩
  | k + 1, p, q, f, hk, g => by
    have hn := h.name g.2.1 (k := 12) (c := 14836) (by decide) (by decide) qof_12
    rw [show rnots t T (k + 1 + 1) q f = if rword t T q = 14836 then rnots t T (k + 1) (rwant t T true q) (!f) else (q, f) from rfl, show qnots W (k + 1) p f = if W p.1 = 12 then qnots W k (qstep W p) (!f) else (p, f) from rfl]
    by_cases c : W p.1 = 12
    · rw [if_pos c, if_pos (hn.mp c)]
      obtain ⟨s1, s2, s3⟩ := g.step h (by rw [c]; decide)
      obtain ⟨i1, i2, i3, i4, i5⟩ := lOK.nots h k (qstep W p) (rwant t T true q) (!f) (by rw [s1]; show kNw b T ≤ p.1 + 1 + k; omega) s2
      refine ⟨i1, i2, by rw [i3, s1], by rw [i4, s3], ?_⟩
      rw [s1] at i5
      have i6 : p.1 + 1 ≤ (qnots W k (qstep W p) (!f)).1.1 := by rw [s1]; exact i5
      omega
    · rw [if_neg c, if_neg (fun z => c (hn.mpr z))]
      exact ⟨g, rfl, rfl, rfl, Nat.le_refl _⟩
/-- what lies behind the 'not's -/
theorem lOK.mid (h : kTk b t T W Z) {e o : Nat} (he : e ≤ 28) {op : Bool} {C : kQt → kQt} {D : kRt → kRt} (ho : op = true ↔ o < 3) (fC : lFl C) (wD : lWr D) (hC : op = true → lSim b t T W Z e (o + 1) C D) {p : kQt} {q : kRt} (hJ : kJ W (kNw b T) (-28) p) (g : lOK b t T o p q) : (lOK b t T o (qmid W Z C op p) (rmid t T D q) ∧ kPh e p q (qmid W Z C op p) (rmid t T D q) ∧ p.1 ≤ (qmid W Z C op p).1) ∨ lBd (qmid W Z C op p) (rmid t T D q) := by
  have hs := h.sign g.2.1 (x := 40) (by decide)
  unfold qmid rmid
  by_cases c : W p.1 = 40
  · rw [if_pos c, if_pos (show q.2.2.1 = false ∧ qby t T q.1 = 40 from ⟨g.2.1.1, hs.mpr c⟩), g.2.2]
    have hne : W p.1 ≠ 19 := by rw [c]; decide
    by_cases c2 : op = true
    · rw [if_pos c2, decide_eq_true (ho.mp c2)]
      obtain ⟨s1, s2, s3⟩ := g.step h hne
      obtain ⟨_, _, gC, sC⟩ := hC c2
      have s4 : lOK b t T (o + 1) (qstep W p) (rope (rwant t T true q) (o + 1)) := ⟨s2.1, s2.2.1, rfl⟩
      have hJ2 := hJ.step h.w0
      rcases sC _ _ hJ2 s4 with ⟨i1, i2, i3⟩ | i1
      · generalize C (qstep W p) = p2 at i1 i2 i3 ⊢
        generalize D (rope (rwant t T true q) (o + 1)) = q2 at i1 i2 i3 ⊢
        have g2 : lOK b t T o p2 (rope q2 o) := ⟨i1.1, i1.2.1, rfl⟩
        have h41 := h.sign g2.2.1 (x := 41) (by decide)
        rcases g2.some h (P := W p2.1 = 41) (B := decide (rcb t T (rope q2 o) = 41)) (by rw [decide_eq_true_iff, g2.cb]; exact h41.symm) (fun z => by rw [z]; decide) with ⟨j1, j2, j3, j4⟩ | j1
        · left
          refine ⟨j3, ?_, ?_⟩
          · refine i2.cg (by rw [s1]) ?_ ?_ ?_
            · show q.2.2.2.2.2 = (rwant t T true q).2.2.2.2.2
              rw [s3]
            · unfold qexp; rw [j2]
            · rw [j4]; rfl
          · unfold qexp
            rw [j2]
            rw [s1] at i3
            have i4 : p.1 + 1 ≤ p2.1 := i3
            show p.1 ≤ p2.1 + 1
            omega
        · exact Or.inr j1
      · right
        have i2 := i1.go (F := id) (fun _ _ => rfl) (lWr.rope o)
        exact i2.go (lFl.exp W Z 41) (lWr.want t T _)
    · rw [if_neg c2, decide_eq_false (fun z => c2 (ho.mpr z))]
      right
      have i1 := g.bad h
      have i2 := i1.go (F := id) (fun _ _ => rfl) (lWr.rope (o + 1))
      have i3 := i2.go (F := id) (fun _ _ => rfl) wD
      have i4 := i3.go (F := id) (fun _ _ => rfl) (lWr.rope o)
      exact i4.go (F := id) (fun _ _ => rfl) (lWr.want t T _)
  · rw [if_neg c, if_neg (show ¬ (q.2.2.1 = false ∧ qby t T q.1 = 40) from fun z => c (hs.mp z.2))]
    rcases g.cmp h (hJ.sz h.w0.1 g.1) with ⟨i1, i2, i3⟩ | i1
    · exact Or.inl ⟨i1, i2.mono he, i3⟩
    · exact Or.inr i1
theorem lSim.one (h : kTk b t T W Z) {e o : Nat} (he : e ≤ 28) {op : Bool} {C : kQt → kQt} {D : kRt → kRt} (ho : op = true ↔ o < 3) (fC : lFl C) (wD : lWr D) (gC : kGd W (kNw b T) C) (hC : op = true → lSim b t T W Z e (o + 1) C D) : lSim b t T W Z e o (qone W Z C op) (rone t T D) := by
  refine ⟨lFl.one fC op, lWr.one, kGd.one h.w0 gC op, fun p q hJ g => ?_⟩
  obtain ⟨n1, n2, n3, n4, n5⟩ := lOK.nots h 200 p q false (by have := h.w0.1; omega) g
  have hJ0 : kJ W (kNw b T) (-28) (qnots W 200 p false).1 := by
    have := kJ.nots h.w0 200 (a := -28) (p := p) (b := false) hJ
    split at this
    · exact this.mono (by omega)
    · exact this
  have hm := lOK.mid h he ho fC wD hC hJ0 n1
  unfold qone rone
  rw [← n2]
  generalize hf : (qnots W 200 p false).2 = fl at n2 ⊢
  generalize (qnots W 200 p false).1 = p1 at n1 n3 n5 hJ0 hm ⊢
  generalize (rnots t T (200 + 1) q false).1 = q1 at n1 n4 hm ⊢
  rcases hm with ⟨m1, m2, m3⟩ | m1
  · have m4 : kPh e p q (qmid W Z C op p1) (rmid t T D q1) := m2.cg (by rw [n3]) (by rw [n4]) rfl rfl
    left
    cases fl with
    | false =>
      rw [if_neg (by decide), if_neg (by decide)]
      exact ⟨m1, m4, by omega⟩
    | true =>
      rw [if_pos rfl, if_pos rfl]
      refine ⟨(m1.wri _).emit _, ?_, ?_⟩
      · exact m4.not he ((hJ0.mid h.w0 gC op).sz h.w0.1 m1.1) m1.2.1.1
      · unfold qemit
        split
        · show p.1 ≤ (qmid W Z C op p1).1; omega
        · omega
  · right
    cases fl with
    | false =>
      rw [if_neg (by decide), if_neg (by decide)]
      exact m1
    | true =>
      rw [if_pos rfl, if_pos rfl]
      exact m1.go (lFl.emit _) (lWr.wri _)
end
