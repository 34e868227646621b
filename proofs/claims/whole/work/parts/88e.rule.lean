/-! ===== one rule side by side: all of it ===== -/
theorem q4_ok {p : kQt} (h : p.2.2.1 + 4 ≤ 232) : q4 p = (p.1, p.2.1, p.2.2.1 + 4, upd (upd (upd (upd p.2.2.2 p.2.2.1 0) (p.2.2.1 + 1) 0) (p.2.2.1 + 2) 0) (p.2.2.1 + 3) 0) := by
  have e : ∀ (x : Int32) (r : kQt), r.2.2.1 < 232 → qemit x r = (r.1, r.2.1, r.2.2.1 + 1, upd r.2.2.2 r.2.2.1 x) := fun x r hr => if_pos hr
  unfold q4
  rw [e 0 p (by omega)]
  rw [e 0 (p.1, p.2.1, p.2.2.1 + 1, upd p.2.2.2 p.2.2.1 0) (show p.2.2.1 + 1 < 232 by omega)]
  rw [e 0 (p.1, p.2.1, p.2.2.1 + 1 + 1, upd (upd p.2.2.2 p.2.2.1 0) (p.2.2.1 + 1) 0) (show p.2.2.1 + 1 + 1 < 232 by omega)]
  rw [e 0 (p.1, p.2.1, p.2.2.1 + 1 + 1 + 1, upd (upd (upd p.2.2.2 p.2.2.1 0) (p.2.2.1 + 1) 0) (p.2.2.1 + 2) 0) (show p.2.2.1 + 1 + 1 + 1 < 232 by omega)]
/-- a rule's condition: none, or one phrase -/
def lSeg (p : kQt) (q : kRt) (p' : kQt) (q' : kRt) : Prop :=
  p.2.2.1 ≤ p'.2.2.1 ∧ q.2.2.2.2.2.1 ≤ q'.2.2.2.2.2.1 ∧ (∀ k, k < p.2.2.1 → p'.2.2.2 k = p.2.2.2 k) ∧ (∀ k, k < 97 + q.2.2.2.2.2.1 → q'.2.2.2.2.2.2 k = q.2.2.2.2.2.2 k) ∧
  ∀ f fac, kFac f fac → ∃ v : Bool, ∀ code s : Nat → Int32, (∀ k, p.2.2.1 ≤ k → k < p'.2.2.1 → code k = p'.2.2.2 k) → (∀ k, q.2.2.2.2.2.1 ≤ k → k < q'.2.2.2.2.2.1 → s (97 + k) = q'.2.2.2.2.2.2 (97 + k)) →
    (p'.2.2.1 = p.2.2.1 ∧ q'.2.2.2.2.2.1 = q.2.2.2.2.2.1 ∧ v = true) ∨ (kfold f code (p'.2.2.1 - p.2.2.1) p.2.2.1 (nI 1) = nI (2 * 1 + v.toNat) ∧ mrun fac s (q'.2.2.2.2.2.1 - q.2.2.2.2.2.1) q.2.2.2.2.2.1 [] = some [nI v.toNat])
section
variable {b t : Nat → Int32} {T : Nat} {W Z : Nat → Int32}
theorem lOK.rc (h : kTk b t T W Z) {p : kQt} {q : kRt} (hJ : kJ W (kNw b T) (-28) p) (g : lOK b t T 0 p q) : (lOK b t T 0 (qrc W Z p) (if rword t T q = 294 then rcond t T 4 (rwant t T true q) else q) ∧ lSeg p q (qrc W Z p) (if rword t T q = 294 then rcond t T 4 (rwant t T true q) else q)) ∨ lBd (qrc W Z p) (if rword t T q = 294 then rcond t T 4 (rwant t T true q) else q) := by
  have hn := h.name g.2.1 (k := 6) (c := 294) (by decide) (by decide) qof_6
  unfold qrc
  by_cases c : W p.1 = 6
  · rw [if_pos c, if_pos (hn.mp c)]
    obtain ⟨s1, s2, s3⟩ := g.step h (by rw [c]; decide)
    obtain ⟨_, _, _, sO⟩ := lSim.cond h 3 (Nat.le_refl _)
    rcases sO _ _ (hJ.step h.w0) s2 with ⟨i1, i2, i3⟩ | i1
    · left
      have i4 : kPh 20 p q (qcond W Z 3 (qstep W p)) (rcond t T 4 (rwant t T true q)) := i2.cg (by rw [s1]) (by rw [s3]) rfl rfl
      obtain ⟨j1, j2, j3, j4, j5⟩ := i4
      refine ⟨i1, j1, j2, j3, j4, fun f fac hF => ?_⟩
      obtain ⟨v, hv⟩ := j5 f fac hF
      exact ⟨v, fun code s a1 a2 => Or.inr ⟨(hv code s a1 a2).1 1 (by decide), (hv code s a1 a2).2 [] (by decide)⟩⟩
    · exact Or.inr i1
  · rw [if_neg c, if_neg (fun z => c (hn.mpr z))]
    exact Or.inl ⟨g, Nat.le_refl _, Nat.le_refl _, fun _ _ => rfl, fun _ _ => rfl, fun f fac hF => ⟨true, fun code s a1 a2 => Or.inl ⟨rfl, rfl, rfl⟩⟩⟩
/-- rule R laid by both: from (p, q) to (p', q') -/
def lRl (R : Nat) (p : kQt) (q : kRt) (p' : kQt) (q' : kRt) : Prop := ∃ (n : Nat) (kd dz fg : Int32), p'.2.2.1 = p.2.2.1 + 4 + n ∧ q.2.2.2.2.2.1 ≤ q'.2.2.2.2.2.1 ∧ (dz = 0 ∨ dz = 1 ∨ dz = 2) ∧
  (p'.2.2.2 p.2.2.1 = kd ∧ p'.2.2.2 (p.2.2.1 + 1) = dz ∧ p'.2.2.2 (p.2.2.1 + 2) = fg ∧ p'.2.2.2 (p.2.2.1 + 3) = nI n) ∧ (∀ k, k < p.2.2.1 → p'.2.2.2 k = p.2.2.2 k) ∧
  (q'.2.2.2.2.2.2 (65 + 4 * R + 0) = kd ∧ q'.2.2.2.2.2.2 (65 + 4 * R + 1) = dz ∧ q'.2.2.2.2.2.2 (65 + 4 * R + 2) = fg ∧ q'.2.2.2.2.2.2 (65 + 4 * R + 3) = nI q'.2.2.2.2.2.1 ∧ q'.2.2.2.2.2.2 1 = nI (R + 1)) ∧
  (∀ k, k ≠ 1 → ¬ (65 + 4 * R ≤ k ∧ k < 65 + 4 * R + 4) → k < 97 + q.2.2.2.2.2.1 → q'.2.2.2.2.2.2 k = q.2.2.2.2.2.2 k) ∧
  ∀ f fac, kFac f fac → ∃ v : Bool, ∀ code s : Nat → Int32, (∀ k, p.2.2.1 + 4 ≤ k → k < p.2.2.1 + 4 + n → code k = p'.2.2.2 k) → (∀ k, q.2.2.2.2.2.1 ≤ k → k < q'.2.2.2.2.2.1 → s (97 + k) = q'.2.2.2.2.2.2 (97 + k)) →
    (n = 0 ∧ q'.2.2.2.2.2.1 = q.2.2.2.2.2.1 ∧ v = true) ∨ (kfold f code n (p.2.2.1 + 4) (nI 1) = nI (2 * 1 + v.toNat) ∧ mrun fac s (q'.2.2.2.2.2.1 - q.2.2.2.2.2.1) q.2.2.2.2.2.1 [] = some [nI v.toNat])
theorem nI_clN {R : Nat} (h : R < 8) : (nI R).toNatClampNeg = R := nI_clamp (by omega)
theorem lRule (h : kTk b t T W Z) {R : Nat} (hR : R < 8) {p : kQt} {q : kRt} (hs : q.2.2.2.2.2.2 1 = nI R) (hJ : kJ W (kNw b T) (-24) p) (g : lOK b t T 0 p q) : (lOK b t T 0 (qrule W Z p) (rrule t T q) ∧ lRl R p q (qrule W Z p) (rrule t T q)) ∨ lBd (qrule W Z p) (rrule t T q) := by
  have hJ1 := hJ.2.2 g.1
  have hJ2 := hJ.1
  have hN := h.w0.1
  have e4 := q4_ok (p := p) (by omega)
  have g4 : lOK b t T 0 (q4 p) q := by rw [e4]; exact g
  have hk := lOK.kind h (hd := p.2.2.1) hR hs g4
  unfold qrule rrule qr1 rA
  generalize rkd (rword t T q) = kd at hk ⊢
  generalize rwant t T (decide (0 ≤ kd ∧ q.2.2.2.2.2.2 1 < 8)) q = q1 at hk ⊢
  generalize hp1 : qstep W (qcd p.2.2.1 (W (qrk W Z (q4 p)).1) (qrk W Z (q4 p))) = p1 at hk ⊢
  rcases hk with ⟨_, _, k3, k4, k5⟩ | k1
  · rw [e4] at k3
    have hJ3 : kJ W (kNw b T) (-28) p1 := ⟨k4.2.1.2.2.2, by rw [k3]; show p.2.2.1 + 4 ≤ 232; omega, fun _ => by rw [k3]; show ((p.2.2.1 + 4 : Nat) : Int) + -28 ≤ (p.1 + 1 : Nat); omega⟩
    rcases k4.rc h hJ3 with ⟨r1, r2⟩ | r1
    · generalize (if rword t T q1 = 294 then rcond t T 4 (rwant t T true q1) else q1) = q2 at r1 r2 ⊢
      generalize qrc W Z p1 = p2 at r1 r2 ⊢
      obtain ⟨a1, a2, a3, a4, a5⟩ := r2
      have z1 : p1.2.2.1 = p.2.2.1 + 4 := by rw [k3]
      have z2 : p1.2.2.2 = upd (upd (upd (upd (upd p.2.2.2 p.2.2.1 0) (p.2.2.1 + 1) 0) (p.2.2.1 + 2) 0) (p.2.2.1 + 3) 0) p.2.2.1 kd := by rw [k3]
      rw [z1] at a1 a3 a5
      obtain ⟨n, hn⟩ : ∃ n, p2.2.2.1 = p.2.2.1 + 4 + n := ⟨p2.2.2.1 - (p.2.2.1 + 4), by omega⟩
      have en : nI p2.2.2.1 - nI p.2.2.1 - 4 = nI n := by
        rw [hn]
        show Int32.ofNat (p.2.2.1 + 4 + n) - Int32.ofNat p.2.2.1 - 4 = Int32.ofNat n
        rw [Int32.ofNat_add, Int32.ofNat_add]
        show Int32.ofNat p.2.2.1 + 4 + Int32.ofNat n - Int32.ofNat p.2.2.1 - 4 = Int32.ofNat n
        grind
      rw [en]
      have y1 : q1.2.2.2.2.2.1 = q.2.2.2.2.2.1 := by rw [k5]
      have y2 : q1.2.2.2.2.2.2 = q.2.2.2.2.2.2 := by rw [k5]
      rw [y1] at a2 a4 a5
      rw [y2] at a4
      have c2 : p2.2.2.2 (p.2.2.1 + 2) = 0 := by
        rw [a3 _ (by omega), z2, upd_n _ _ (by omega), upd_n _ _ (by omega), upd_s]
      have g3 : lOK b t T 0 (qcd (p.2.2.1 + 3) (nI n) p2) q2 := r1
      have hd := lOK.do h (hd := p.2.2.1) (p := qcd (p.2.2.1 + 3) (nI n) p2) (show upd p2.2.2.2 (p.2.2.1 + 3) (nI n) (p.2.2.1 + 2) = 0 by rw [upd_n _ _ (by omega)]; exact c2) g3
      unfold rB rC
      rw [show (if 0 ≤ rdo (rword t T q2) ∧ rdo (rword t T q2) ≠ 2 ∧ (rwant t T (decide (0 ≤ rdo (rword t T q2))) q2).2.2.1 = false then rnum t T 99 (rval (rwant t T (decide (0 ≤ rdo (rword t T q2))) q2) 0) else rval (rwant t T (decide (0 ≤ rdo (rword t T q2))) q2) 0) = lC t T (rdo (rword t T q2)) (rwant t T (decide (0 ≤ rdo (rword t T q2))) q2) from rfl]
      generalize rdo (rword t T q2) = dz at hd ⊢
      generalize lC t T dz (rwant t T (decide (0 ≤ dz)) q2) = q3 at hd ⊢
      generalize qdo W Z p.2.2.1 (qcd (p.2.2.1 + 3) (nI n) p2) = p3 at hd ⊢
      rcases hd with ⟨fg, d1, d2, d3, d4, d5, d6, d7⟩ | d1
      · unfold rD
        rw [d3]
        have h59 := h.sign d2.2.1 (x := 59) (by decide)
        rcases d2.some h (P := W p3.1 = 59) (B := decide (q3.2.2.1 = false ∧ qby t T q3.1 = 59)) (by rw [decide_eq_true_iff, h59]; exact ⟨fun z => ⟨d2.2.1.1, z⟩, fun z => z.2⟩) (fun z => by rw [z]; decide) with ⟨j1, j2, j3, j4⟩ | j1
        · left
          have e9 : qexp W Z 59 p3 = (p3.1 + 1, p3.2) := j2
          rw [e9]
          rw [j2] at j3
          generalize rwant t T (decide (q3.2.2.1 = false ∧ qby t T q3.1 = 59)) q3 = q5 at j3 j4 ⊢
          have x1 : q5.2.2.2.2 = q2.2.2.2.2 := by rw [j4, d4]
          have x2 : q5.2.2.2.2.2.1 = q2.2.2.2.2.2.1 := by rw [x1]
          have x3 : q5.2.2.2.2.2.2 = q2.2.2.2.2.2.2 := by rw [x1]
          have x4 : q2.2.2.2.2.2.2 1 = nI R := (a4 1 (by omega)).trans hs
          have eE : rE kd dz fg q5 = (q5.1, q5.2.1, q5.2.2.1, q5.2.2.2.1, q5.2.2.2.2.1, q2.2.2.2.2.2.1, rse q2.2.2.2.2.2.2 R kd dz fg q2.2.2.2.2.2.1) := by
            unfold rE
            rw [if_neg (by rw [j3.2.1.1]; decide), x2, x3, x4, nI_clN hR]
          rw [eE]
          refine ⟨j3, n, kd, dz, fg, ?_, a2, d1, ⟨?_, ?_, ?_, ?_⟩, fun k hk => ?_, ⟨?_, ?_, ?_, ?_, ?_⟩, fun k q1 q2 q3 => ?_, fun f fac hF => ?_⟩
          · show p3.2.2.1 = _
            rw [d5]; exact hn
          · show p3.2.2.2 p.2.2.1 = kd
            rw [d6, upd_n _ _ (by omega), upd_n _ _ (by omega)]
            show upd p2.2.2.2 (p.2.2.1 + 3) (nI n) p.2.2.1 = kd
            rw [upd_n _ _ (by omega), a3 _ (by omega), z2, upd_s]
          · show p3.2.2.2 (p.2.2.1 + 1) = dz
            rw [d6, upd_n _ _ (by omega), upd_s]
          · show p3.2.2.2 (p.2.2.1 + 2) = fg
            rw [d6, upd_s]
          · show p3.2.2.2 (p.2.2.1 + 3) = nI n
            rw [d6, upd_n _ _ (by omega), upd_n _ _ (by omega)]
            exact upd_s _ _ _
          · show p3.2.2.2 k = _
            rw [d6, upd_n _ _ (by omega), upd_n _ _ (by omega)]
            show upd p2.2.2.2 (p.2.2.1 + 3) (nI n) k = _
            rw [upd_n _ _ (by omega), a3 _ (by omega), z2, upd_n _ _ (by omega), upd_n _ _ (by omega), upd_n _ _ (by omega), upd_n _ _ (by omega), upd_n _ _ (by omega)]
          · show rse _ R kd dz fg _ (65 + 4 * R + 0) = kd
            unfold rse
            rw [upd_n _ _ (by omega), upd_n _ _ (by omega), upd_n _ _ (by omega), upd_n _ _ (by omega), upd_s]
          · show rse _ R kd dz fg _ (65 + 4 * R + 1) = dz
            unfold rse
            rw [upd_n _ _ (by omega), upd_n _ _ (by omega), upd_n _ _ (by omega), upd_s]
          · show rse _ R kd dz fg _ (65 + 4 * R + 2) = fg
            unfold rse
            rw [upd_n _ _ (by omega), upd_n _ _ (by omega), upd_s]
          · show rse _ R kd dz fg _ (65 + 4 * R + 3) = _
            unfold rse
            rw [upd_n _ _ (by omega), upd_s]
          · show rse q2.2.2.2.2.2.2 R kd dz fg q2.2.2.2.2.2.1 1 = nI (R + 1)
            unfold rse
            rw [upd_s]
          · show rse _ R kd dz fg _ k = _
            unfold rse
            rw [upd_n _ _ q1, upd_n _ _ (by omega), upd_n _ _ (by omega), upd_n _ _ (by omega), upd_n _ _ (by omega)]
            exact a4 k q3
          · obtain ⟨v, hv⟩ := a5 f fac hF
            refine ⟨v, fun code s b1 b2 => ?_⟩
            have b3 : ∀ k, p.2.2.1 + 4 ≤ k → k < p2.2.2.1 → code k = p2.2.2.2 k := fun k u1 u2 => by
              rw [b1 k u1 (by omega)]
              show p3.2.2.2 k = _
              rw [d6, upd_n _ _ (by omega), upd_n _ _ (by omega)]
              exact upd_n _ _ (by omega)
            have b4 : ∀ k, q.2.2.2.2.2.1 ≤ k → k < q2.2.2.2.2.2.1 → s (97 + k) = q2.2.2.2.2.2.2 (97 + k) := fun k u1 u2 => by
              rw [b2 k u1 u2]
              show rse _ R kd dz fg _ (97 + k) = _
              unfold rse
              rw [upd_n _ _ (by omega), upd_n _ _ (by omega), upd_n _ _ (by omega), upd_n _ _ (by omega), upd_n _ _ (by omega)]
            rcases hv code s b3 b4 with ⟨u1, u2, u3⟩ | ⟨u1, u2⟩
            · exact Or.inl ⟨by omega, u2, u3⟩
            · refine Or.inr ⟨?_, u2⟩
              rw [show p2.2.2.1 - (p.2.2.1 + 4) = n from by omega] at u1
              exact u1
        · right
          exact j1.go (F := id) (fun _ _ => rfl) (lWr.E kd dz fg)
      · right
        exact d1.go (lFl.exp W Z 59) (lWr.D t T kd dz)
    · right
      exact r1.go (lFl.co (lFl.co (lFl.cd (p.2.2.1 + 3) (fun p2 => nI p2.2.2.1 - nI p.2.2.1 - 4)) (lFl.do W Z p.2.2.1)) (lFl.exp W Z 59)) (lWr.B t T kd)
  · right
    exact k1.go (lFl.co (lFl.co (lFl.co (lFl.rc W Z) (lFl.cd (p.2.2.1 + 3) (fun p2 => nI p2.2.2.1 - nI p.2.2.1 - 4))) (lFl.do W Z p.2.2.1)) (lFl.exp W Z 59)) (lWr.A t T kd)
end
