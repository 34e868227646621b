/-! ===== one rule side by side ===== -/
theorem lFl.cd (h : Nat) (x : kQt → Int32) : lFl (fun p => qcd h (x p) p) := fun _ _ => rfl
theorem lFl.updF {F : kQt → kQt} (hF : lFl F) (h : Nat) (x : kQt → Int32) : lFl (fun p => F (p.1, p.2.1, p.2.2.1, upd p.2.2.2 h (x p))) := fun p hp => hF (p.1, p.2.1, p.2.2.1, upd p.2.2.2 h (x p)) hp
theorem lFl.dn (W : Nat → Int32) (hd : Nat) : lFl (qdn W hd) := lFl.updF (lFl.step W) (hd + 2) (fun p => W p.1 - 1000)
theorem lFl.dm (W Z : Nat → Int32) (hd : Nat) : lFl (qdm W Z hd) := fun p h => by
  unfold qdm
  split
  · exact lFl.dn W hd p h
  · exact lFl.co (lFl.fail Z) (lFl.dn W hd) p h
theorem lFl.ds (W Z : Nat → Int32) (hd : Nat) : lFl (qds W Z hd) := fun p h => by
  unfold qds
  split
  · rfl
  · split
    · rfl
    · exact lFl.fail Z p h
theorem lFl.do (W Z : Nat → Int32) (hd : Nat) : lFl (qdo W Z hd) := fun p h => by
  unfold qdo
  split
  · exact lFl.step W (p.1, p.2.1, p.2.2.1, upd p.2.2.2 (hd + 1) 2) h
  · exact lFl.co (lFl.co (lFl.ds W Z hd) (lFl.step W)) (lFl.dm W Z hd) p h
theorem lFl.rc (W Z : Nat → Int32) : lFl (qrc W Z) := fun p h => by
  unfold qrc
  split
  · exact lFl.co (lFl.step W) (lFl.cond W Z 3) p h
  · rfl
theorem lWr.val (x : Int32) : lWr (fun q => rval q x) := fun q h => ⟨h, rfl⟩
theorem lWr.E (kd dz fg : Int32) : lWr (rE kd dz fg) := fun q h => by
  unfold rE
  rw [if_pos h]
  exact ⟨h, rfl⟩
theorem lWr.D (t : Nat → Int32) (T : Nat) (kd dz : Int32) : lWr (rD t T kd dz) := fun q h => by
  unfold rD
  exact lWr.co (lWr.want t T _) (lWr.E kd dz q.2.2.2.1) q h
theorem lWr.C (t : Nat → Int32) (T : Nat) (kd dz : Int32) : lWr (rC t T kd dz) := fun q h => by
  unfold rC
  split
  · exact lWr.co (lWr.co (lWr.val 0) (lWr.num t T 99)) (lWr.D t T kd dz) q h
  · exact lWr.co (lWr.val 0) (lWr.D t T kd dz) q h
theorem lWr.B (t : Nat → Int32) (T : Nat) (kd : Int32) : lWr (rB t T kd) := fun q h => by
  unfold rB
  exact lWr.co (lWr.want t T _) (lWr.C t T kd (rdo (rword t T q))) q h
theorem lWr.A (t : Nat → Int32) (T : Nat) (kd : Int32) : lWr (rA t T kd) := fun q h => by
  unfold rA
  rw [if_neg (show ¬ rword t T q = 294 from by rw [lrw0 h]; decide)]
  exact lWr.B t T kd q h
theorem lWr.rule (t : Nat → Int32) (T : Nat) : lWr (rrule t T) := fun q h => by
  unfold rrule
  exact lWr.co (lWr.want t T _) (lWr.A t T (rkd (rword t T q))) q h
section
variable {b t : Nat → Int32} {T : Nat} {W Z : Nat → Int32}
theorem lOK.cd {o : Nat} {p : kQt} {q : kRt} (g : lOK b t T o p q) (f : Nat → Int32) : lOK b t T o (p.1, p.2.1, p.2.2.1, f) q := g
theorem lOK.rv {o : Nat} {p : kQt} {q : kRt} (g : lOK b t T o p q) (x : Int32) : lOK b t T o p (rval q x) := g
/-- the kind -/
theorem lOK.kind (h : kTk b t T W Z) {o hd R : Nat} {p : kQt} {q : kRt} (hR : R < 8) (hs : q.2.2.2.2.2.2 1 = nI R) (g : lOK b t T o p q) : (qrk W Z p = p ∧ W p.1 = rkd (rword t T q) ∧ qstep W (qcd hd (W (qrk W Z p).1) (qrk W Z p)) = (p.1 + 1, p.2.1, p.2.2.1, upd p.2.2.2 hd (rkd (rword t T q))) ∧ lOK b t T o (qstep W (qcd hd (W (qrk W Z p).1) (qrk W Z p))) (rwant t T (decide (0 ≤ rkd (rword t T q) ∧ q.2.2.2.2.2.2 1 < 8)) q) ∧ (rwant t T (decide (0 ≤ rkd (rword t T q) ∧ q.2.2.2.2.2.2 1 < 8)) q).2.2.2 = q.2.2.2) ∨ lBd (qstep W (qcd hd (W (qrk W Z p).1) (qrk W Z p))) (rwant t T (decide (0 ≤ rkd (rword t T q) ∧ q.2.2.2.2.2.2 1 < 8)) q) := by
  have h8 : q.2.2.2.2.2.2 1 < 8 := by
    rw [hs]
    apply Int32.lt_iff_toInt_lt.mpr
    rw [nI_toInt (by omega), show (8 : Int32).toInt = 8 from rfl]
    omega
  have hk : (0 ≤ rkd (rword t T q) ∧ W p.1 = rkd (rword t T q) ∧ (W p.1).toInt ≤ 5 ∧ 0 ≤ (W p.1).toInt) ∨ (¬ 0 ≤ rkd (rword t T q) ∧ 6 ≤ (W p.1).toInt) := by
    rcases h.word g.2.1 with e | ⟨e1, e2⟩
    · rw [e]
      have := qof_rng (rword t T q)
      rcases qof_rkd (rword t T q) with ⟨c1, c2, c3⟩ | c1
      · exact Or.inl ⟨c1, c2, c3, this.1⟩
      · exact Or.inr c1
    · rw [e1]
      exact Or.inr ⟨by decide, by omega⟩
  rcases hk with ⟨c1, c2, c3, c4⟩ | ⟨c1, c2⟩
  · left
    have e1 : qrk W Z p = p := if_pos ⟨c4, c3⟩
    rw [e1, decide_eq_true (show 0 ≤ rkd (rword t T q) ∧ q.2.2.2.2.2.2 1 < 8 from ⟨c1, h8⟩)]
    have hne : W p.1 ≠ 19 := fun z => by rw [z] at c3; revert c3; decide
    obtain ⟨s1, s2, s3⟩ := lOK.step (p := (p.1, p.2.1, p.2.2.1, upd p.2.2.2 hd (W p.1))) h hne (g.cd (upd p.2.2.2 hd (W p.1)))
    refine ⟨rfl, c2, ?_, s2, s3⟩
    show qstep W (p.1, p.2.1, p.2.2.1, upd p.2.2.2 hd (W p.1)) = _
    rw [s1, c2]
  · right
    have e1 : qrk W Z p = qfail Z p := if_neg (fun z => by omega)
    rw [e1, decide_eq_false (show ¬ (0 ≤ rkd (rword t T q) ∧ q.2.2.2.2.2.2 1 < 8) from fun z => c1 z.1)]
    exact ((g.bad h).go (lFl.cd hd (fun p => W p.1)) lWr.idd).go (lFl.step W) lWr.idd
/-- what the rule does, and its figure -/
def lC (t : Nat → Int32) (T : Nat) (dz : Int32) (q : kRt) : kRt := if 0 ≤ dz ∧ dz ≠ 2 ∧ q.2.2.1 = false then rnum t T 99 (rval q 0) else rval q 0
theorem lWr.lCf (t : Nat → Int32) (T : Nat) (dz : Int32) : lWr (lC t T dz) := fun q h => by
  unfold lC
  split
  · exact lWr.co (lWr.val 0) (lWr.num t T 99) q h
  · exact lWr.val 0 q h
theorem lnum99 {w : Int32} : (1000 ≤ w.toInt ∧ w.toInt ≤ 1099) ↔ (qNu w ∧ w - 1000 ≤ 99) := by
  constructor
  · rintro ⟨h1, h2⟩
    refine ⟨⟨h1, by omega⟩, ?_⟩
    obtain ⟨n, hn, rfl⟩ : ∃ n : Nat, n < 100 ∧ w = nI (1000 + n) := ⟨(w.toInt - 1000).toNat, by omega, by
      apply Int32.toInt_inj.mp
      rw [nI_toInt (by omega)]
      omega⟩
    exact (by decide : ∀ n : Fin 100, nI (1000 + n.val) - 1000 ≤ 99) ⟨n, hn⟩
  · rintro ⟨⟨h1, h2⟩, h3⟩
    refine ⟨h1, ?_⟩
    obtain ⟨n, hn, rfl⟩ : ∃ n : Nat, n < 10000 ∧ w = nI (1000 + n) := ⟨(w.toInt - 1000).toNat, by omega, by
      apply Int32.toInt_inj.mp
      rw [nI_toInt (by omega)]
      omega⟩
    have e1 : nI (1000 + n) - 1000 = nI n := by
      show Int32.ofNat (1000 + n) - 1000 = Int32.ofNat n
      rw [Int32.ofNat_add]
      show (1000 : Int32) + Int32.ofNat n - 1000 = _
      grind
    rw [e1] at h3
    have h4 := Int32.le_iff_toInt_le.mp h3
    rw [nI_toInt (by omega), show (99 : Int32).toInt = 99 from rfl] at h4
    rw [nI_toInt (by omega)]
    omega
theorem lOK.dm (h : kTk b t T W Z) {o hd : Nat} {p : kQt} {q : kRt} (g : lOK b t T o p q) : (∃ fg, qdm W Z hd p = (p.1 + 1, p.2.1, p.2.2.1, upd p.2.2.2 (hd + 2) fg) ∧ lOK b t T o (qdm W Z hd p) (rnum t T 99 q) ∧ (rnum t T 99 q).2.2.2.1 = fg ∧ (rnum t T 99 q).2.2.2.2 = q.2.2.2.2) ∨ lBd (qdm W Z hd p) (rnum t T 99 q) := by
  unfold qdm
  rcases (g.cd (upd p.2.2.2 (hd + 2) (W p.1 - 1000))).num h 99 with ⟨n1, n2, n3, n4, n5⟩ | ⟨n1, n2⟩
  · left
    have hne : W p.1 ≠ 19 := fun e => by
      have n1 : qNu (W p.1) := n1
      rw [e] at n1; revert n1; decide
    rw [if_pos (lnum99.mpr ⟨n1, n2⟩)]
    exact ⟨W p.1 - 1000, if_neg hne, n3, n4, n5⟩
  · right
    rw [if_neg (fun z => n1 (lnum99.mp z))]
    rcases g.num h 99 with ⟨m1, m2, _⟩ | ⟨_, m2⟩
    · exact absurd ⟨m1, m2⟩ n1
    · exact m2.go (lFl.dn W hd) lWr.idd
theorem lOK.do (h : kTk b t T W Z) {o hd : Nat} {p : kQt} {q : kRt} (h0 : p.2.2.2 (hd + 2) = 0) (g : lOK b t T o p q) : (∃ fg, (rdo (rword t T q) = 0 ∨ rdo (rword t T q) = 1 ∨ rdo (rword t T q) = 2) ∧ lOK b t T o (qdo W Z hd p) (lC t T (rdo (rword t T q)) (rwant t T (decide (0 ≤ rdo (rword t T q))) q)) ∧ (lC t T (rdo (rword t T q)) (rwant t T (decide (0 ≤ rdo (rword t T q))) q)).2.2.2.1 = fg ∧ (lC t T (rdo (rword t T q)) (rwant t T (decide (0 ≤ rdo (rword t T q))) q)).2.2.2.2 = q.2.2.2.2 ∧ (qdo W Z hd p).2.2.1 = p.2.2.1 ∧ (qdo W Z hd p).2.2.2 = upd (upd p.2.2.2 (hd + 1) (rdo (rword t T q))) (hd + 2) fg ∧ p.1 ≤ (qdo W Z hd p).1) ∨ lBd (qdo W Z hd p) (lC t T (rdo (rword t T q)) (rwant t T (decide (0 ≤ rdo (rword t T q))) q)) := by
  have hk : (0 ≤ rdo (rword t T q) ∧ W p.1 = 7 + rdo (rword t T q) ∧ 7 ≤ (W p.1).toInt ∧ (W p.1).toInt ≤ 9) ∨ (rdo (rword t T q) = -1 ∧ W p.1 ≠ 7 ∧ W p.1 ≠ 8 ∧ W p.1 ≠ 9) := by
    rcases h.word g.2.1 with e | ⟨e1, e2⟩
    · rw [e]; exact qof_rdo _
    · rw [e1]
      exact Or.inr ⟨by decide, fun z => by rw [z] at e2; revert e2; decide, fun z => by rw [z] at e2; revert e2; decide, fun z => by rw [z] at e2; revert e2; decide⟩
  generalize hdz : rdo (rword t T q) = dz at hk ⊢
  unfold qdo
  rcases hk with ⟨c1, c2, c3, c4⟩ | ⟨c1, c2, c3, c4⟩
  · have hne : W p.1 ≠ 19 := fun z => by rw [z] at c4; revert c4; decide
    have hw : (W p.1 = 7 ∧ dz = 0) ∨ (W p.1 = 8 ∧ dz = 1) ∨ (W p.1 = 9 ∧ dz = 2) := by
      have h1 : W p.1 = 7 ∨ W p.1 = 8 ∨ W p.1 = 9 := by
        have : (W p.1).toInt = 7 ∨ (W p.1).toInt = 8 ∨ (W p.1).toInt = 9 := by omega
        rcases this with e | e | e
        · exact Or.inl (Int32.toInt_inj.mp e)
        · exact Or.inr (Or.inl (Int32.toInt_inj.mp e))
        · exact Or.inr (Or.inr (Int32.toInt_inj.mp e))
      rcases h1 with e | e | e
      · exact Or.inl ⟨e, by rw [e] at c2; grind⟩
      · exact Or.inr (Or.inl ⟨e, by rw [e] at c2; grind⟩)
      · exact Or.inr (Or.inr ⟨e, by rw [e] at c2; grind⟩)
    rw [decide_eq_true c1]
    rcases hw with ⟨e1, e2⟩ | ⟨e1, e2⟩ | ⟨e1, e2⟩
    · subst e2
      rw [if_neg (by rw [e1]; decide)]
      have e3 : qds W Z hd p = (p.1, p.2.1, p.2.2.1, upd p.2.2.2 (hd + 1) 0) := if_pos e1
      rw [e3]
      obtain ⟨s1, s2, s3⟩ := lOK.step (p := (p.1, p.2.1, p.2.2.1, upd p.2.2.2 (hd + 1) 0)) h hne (g.cd (upd p.2.2.2 (hd + 1) 0))
      have e4 : lC t T 0 (rwant t T true q) = rnum t T 99 (rval (rwant t T true q) 0) := if_pos ⟨by decide, by decide, s2.2.1.1⟩
      rw [e4]
      rcases (s2.rv 0).dm h (hd := hd) with ⟨fg, m1, m2, m3, m4⟩ | m1
      · left
        refine ⟨fg, Or.inl rfl, m2, m3, m4.trans (by rw [show (rval (rwant t T true q) 0).2.2.2.2 = (rwant t T true q).2.2.2.2 from rfl, s3]), ?_, ?_, ?_⟩
        · rw [m1, s1]
        · rw [m1, s1]
        · rw [m1, s1]; show p.1 ≤ p.1 + 1 + 1; omega
      · exact Or.inr m1
    · subst e2
      rw [if_neg (by rw [e1]; decide)]
      have e3 : qds W Z hd p = (p.1, p.2.1, p.2.2.1, upd p.2.2.2 (hd + 1) 1) := (if_neg (by rw [e1]; decide)).trans (if_pos e1)
      rw [e3]
      obtain ⟨s1, s2, s3⟩ := lOK.step (p := (p.1, p.2.1, p.2.2.1, upd p.2.2.2 (hd + 1) 1)) h hne (g.cd (upd p.2.2.2 (hd + 1) 1))
      have e4 : lC t T 1 (rwant t T true q) = rnum t T 99 (rval (rwant t T true q) 0) := if_pos ⟨by decide, by decide, s2.2.1.1⟩
      rw [e4]
      rcases (s2.rv 0).dm h (hd := hd) with ⟨fg, m1, m2, m3, m4⟩ | m1
      · left
        refine ⟨fg, Or.inr (Or.inl rfl), m2, m3, m4.trans (by rw [show (rval (rwant t T true q) 0).2.2.2.2 = (rwant t T true q).2.2.2.2 from rfl, s3]), ?_, ?_, ?_⟩
        · rw [m1, s1]
        · rw [m1, s1]
        · rw [m1, s1]; show p.1 ≤ p.1 + 1 + 1; omega
      · exact Or.inr m1
    · subst e2
      rw [if_pos e1]
      obtain ⟨s1, s2, s3⟩ := lOK.step (p := (p.1, p.2.1, p.2.2.1, upd p.2.2.2 (hd + 1) 2)) h hne (g.cd (upd p.2.2.2 (hd + 1) 2))
      have e4 : lC t T 2 (rwant t T true q) = rval (rwant t T true q) 0 := if_neg (fun z => z.2.1 rfl)
      rw [e4]
      left
      refine ⟨0, Or.inr (Or.inr rfl), s2.rv 0, rfl, by rw [show (rval (rwant t T true q) 0).2.2.2.2 = (rwant t T true q).2.2.2.2 from rfl, s3], ?_, ?_, ?_⟩
      · rw [s1]
      · rw [s1]
        show upd p.2.2.2 (hd + 1) 2 = _
        funext k
        by_cases q : k = hd + 2
        · rw [q, upd_s, upd_n _ _ (by omega)]; exact h0
        · rw [upd_n (upd p.2.2.2 (hd + 1) 2) _ q]
      · rw [s1]; show p.1 ≤ p.1 + 1; omega
  · right
    rw [if_neg c4, c1]
    have e3 : qds W Z hd p = qfail Z p := (if_neg c2).trans (if_neg c3)
    rw [e3]
    exact (((g.bad h).go (lFl.step W) lWr.idd).go (lFl.dm W Z hd) (lWr.lCf t T (-1)))
end
