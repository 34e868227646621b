/-! ===== the bent of a lens by both; the loop over rules ===== -/
theorem lDo {b d n : Int32} (h : d = 0 ∨ d = 1 ∨ d = 2) : kchg b d n = mchg b d n := by
  rcases h with rfl | rfl | rfl
  · rfl
  · rfl
  · rfl
theorem lAc.bent {R : Nat} {p : kQt} {q : kRt} {hs en : Nat → Nat} (g : lAc R p q hs en) (hL : p.2.2.1 < 1000) {f1 : Nat → Int32} (hf : ∀ j, j < p.2.2.1 → f1 j = p.2.2.2 j) {s' : Nat → Int32} (hs' : ∀ k, 65 ≤ k → k < 300 → s' k = q.2.2.2.2.2.2 k) (hR : R ≤ 8) {f : Nat → Int32} {l : Nat} (hF : kFac f (mfac s' l)) (kd bd : Int32) : ∀ k r, r + k = R → kbent f f1 kd bd k (hs r) = (match mfind s' en l kd k r with | some r => mchg bd (s' (65 + 4 * r + 1)) (s' (65 + 4 * r + 2)) | none => bd)
  | 0, r, _ => rfl
  | k + 1, r, hr => by
    obtain ⟨i1, i2, i3⟩ := g.2.2.2.2.2 r (by omega)
    obtain ⟨i4, i5, n, k0, dz, fg, g3, g4, g5, g6, g7⟩ := i1
    have ih := lAc.bent g hL hf hs' hR hF kd bd k (r + 1) (by omega)
    obtain ⟨v, hv⟩ := g7 _ _ hF
    have hv := hv f1 s' (fun k a1 a2 => hf k (by omega)) (fun k a1 a2 => hs' (97 + k) (by omega) (by omega))
    have c0 : f1 (hs r) = k0 := (hf _ (by omega)).trans g5.1
    have c1 : f1 (hs r + 1) = dz := (hf _ (by omega)).trans g5.2.1
    have c2 : f1 (hs r + 2) = fg := (hf _ (by omega)).trans g5.2.2.1
    have c3 : (f1 (hs r + 3)).toNatClampNeg = n := by
      rw [hf _ (by omega), g5.2.2.2]
      exact nI_clamp (by omega)
    have d0 : s' (65 + 4 * r + 0) = k0 := (hs' _ (by omega) (by omega)).trans g6.1
    have d1 : s' (65 + 4 * r + 1) = dz := (hs' _ (by omega) (by omega)).trans g6.2.1
    have d2 : s' (65 + 4 * r + 2) = fg := (hs' _ (by omega) (by omega)).trans g6.2.2.1
    have e1 : (kfold f f1 n (hs r + 4) 1 &&& 1 = 1) ↔ v = true := by
      rcases hv with ⟨e1, _, e3⟩ | ⟨e1, _⟩
      · rw [e1, e3]
        exact ⟨fun _ => rfl, fun _ => (by decide : (1 : Int32) &&& 1 = 1)⟩
      · rw [show (1 : Int32) = nI 1 from rfl, e1, show nI 1 = (1 : Int32) from rfl, kb_and1 (by have := bnat v; omega)]
        cases v
        · decide
        · decide
    have e2 : mhb s' l (en r) (en (r + 1)) = true ↔ v = true := by
      unfold mhb
      rcases hv with ⟨_, e2, e3⟩ | ⟨_, e1⟩
      · rw [e2, Nat.sub_self, e3]
        exact ⟨fun _ => rfl, fun _ => decide_eq_true (Or.inl rfl)⟩
      · rw [e1]
        cases v
        · exact ⟨fun z => absurd z (by decide), fun z => absurd z (by decide)⟩
        · exact ⟨fun _ => rfl, fun _ => by decide⟩
    show (if kUnder kd (f1 (hs r)) ∧ kfold f f1 (f1 (hs r + 3)).toNatClampNeg (hs r + 4) 1 &&& 1 = 1 then kchg bd (f1 (hs r + 1)) (f1 (hs r + 2)) else kbent f f1 kd bd k (hs r + 4 + (f1 (hs r + 3)).toNatClampNeg)) = (match (if kUnder kd (s' (65 + 4 * r + 0)) ∧ mhb s' l (en r) (en (r + 1)) = true then some r else mfind s' en l kd k (r + 1)) with | some r => mchg bd (s' (65 + 4 * r + 1)) (s' (65 + 4 * r + 2)) | none => bd)
    rw [c0, c1, c2, c3, d0]
    by_cases c : kUnder kd k0 ∧ v = true
    · rw [if_pos ⟨c.1, e1.mpr c.2⟩, if_pos ⟨c.1, e2.mpr c.2⟩]
      show _ = mchg bd (s' (65 + 4 * r + 1)) (s' (65 + 4 * r + 2))
      rw [d1, d2]
      exact lDo g4
    · rw [if_neg (fun z => c ⟨z.1, e1.mp z.2⟩), if_neg (fun z => c ⟨z.1, e2.mp z.2⟩), ← g3]
      exact ih
theorem lFl.told (W Z : Nat → Int32) : lFl (qtold W Z) := fun p h => by
  unfold qtold
  split
  · rfl
  · exact lFl.fail Z p h
theorem rloop_w {t : Nat → Int32} {T : Nat} {q : kRt} (h : ¬ (q.2.2.1 = false ∧ q.1 < T)) : ∀ k, rloop t T k q = q
  | 0 => rfl
  | k + 1 => if_neg h
theorem qrs_w {W Z : Nat → Int32} {p : kQt} (r : Nat) (h : ¬ (¬ W p.1 = 19 ∧ p.2.1 = -1)) : ∀ k, qrs W Z k r p = (r, p)
  | 0 => rfl
  | k + 1 => if_neg h
section
variable {b t : Nat → Int32} {T : Nat} {W Z : Nat → Int32}
theorem lLoop (h : kTk b t T W Z) {s0 : Nat → Int32} : ∀ (k R j : Nat) (p : kQt) (q : kRt) (hs en : Nat → Nat), R + k = 8 → lAc R p q hs en → lOK b t T 0 p q → kJ W (kNw b T) (-3 * R) p → kRJ T 0 q → (∀ k, k < 65 → k ≠ 1 → q.2.2.2.2.2.2 k = s0 k) →
    (∃ R' hs' en', R' ≤ 8 ∧ (qrs W Z k R p).1 = R' ∧ lAc R' (qtold W Z (qrs W Z k R p).2) (rloop t T (k + 1 + j) q) hs' en' ∧ (qtold W Z (qrs W Z k R p).2).2.1 = -1 ∧ (qtold W Z (qrs W Z k R p).2).2.2.1 ≤ 232 ∧ (rloop t T (k + 1 + j) q).2.2.1 = false ∧ ∀ i, i < 65 → i ≠ 1 → (rloop t T (k + 1 + j) q).2.2.2.2.2.2 i = s0 i) ∨ lBd (qtold W Z (qrs W Z k R p).2) (rloop t T (k + 1 + j) q)
  | k, R, j, p, q, hs, en, hk, hA, g, hJ, hK, h65 => by
    have hT := h.1
    by_cases c : W p.1 = 19
    · left
      have e1 : qrs W Z k R p = (R, p) := qrs_w R (fun z => z.1 c) k
      have hq : ¬ q.1 < T := by
        rw [g.2.1.2.1]
        rcases Nat.eq_or_lt_of_le g.2.1.2.2.2 with e | e
        · rw [e, show qP b T (kNw b T) = T from qP_N]; omega
        · exact absurd c (h.w0.2.2.1 _ e)
      have e2 : rloop t T (k + 1 + j) q = q := rloop_w (fun z => hq z.2) _
      have e3 : qtold W Z p = p := if_pos c
      rw [e1, e2]
      show ∃ R' hs' en', R' ≤ 8 ∧ R = R' ∧ lAc R' (qtold W Z p) q hs' en' ∧ (qtold W Z p).2.1 = -1 ∧ (qtold W Z p).2.2.1 ≤ 232 ∧ q.2.2.1 = false ∧ ∀ i, i < 65 → i ≠ 1 → q.2.2.2.2.2.2 i = s0 i
      rw [e3]
      exact ⟨R, hs, en, by omega, rfl, hA, g.1, hJ.2.1, g.2.1.1, h65⟩
    · have hlt : p.1 < kNw b T := by
        rcases Nat.eq_or_lt_of_le g.2.1.2.2.2 with e | e
        · exact absurd (by rw [e]; exact h.wN.1) c
        · exact e
      have hq : q.1 < T := by rw [g.2.1.2.1]; exact qP_lt hlt
      rcases k with _ | k
      · right
        have hR : R = 8 := by omega
        subst hR
        show lBd (qtold W Z p) (rloop t T (0 + 1 + j) q)
        rw [show 0 + 1 + j = j + 1 from by omega, show rloop t T (j + 1) q = if q.2.2.1 = false ∧ q.1 < T then rloop t T j (rrule t T q) else q from rfl, if_pos ⟨g.2.1.1, hq⟩, show qtold W Z p = qfail Z p from if_neg c]
        have e1 : rrule t T q = rA t T (rkd (rword t T q)) (rwant t T false q) := by
          unfold rrule
          rw [decide_eq_false (show ¬ (0 ≤ rkd (rword t T q) ∧ q.2.2.2.2.2.2 1 < 8) from fun z => by
            have z2 := z.2
            rw [hA.2.2.2.2.1] at z2
            exact absurd z2 (by decide))]
        have e2 : lBd (qfail Z p) (rrule t T q) := by
          rw [e1]
          exact (g.bad h).go (F := id) (fun _ _ => rfl) (lWr.A t T _)
        rw [rloop_w (fun z => by rw [e2.2.1] at z; exact absurd z.1 (by decide)) j]
        exact e2
      · have hJ24 : kJ W (kNw b T) (-24) p := hJ.mono (by omega)
        rw [show k + 1 + 1 + j = (k + 1 + j) + 1 from by omega, show rloop t T ((k + 1 + j) + 1) q = if q.2.2.1 = false ∧ q.1 < T then rloop t T (k + 1 + j) (rrule t T q) else q from rfl, if_pos ⟨g.2.1.1, hq⟩, show qrs W Z (k + 1) R p = if ¬ W p.1 = 19 ∧ p.2.1 = -1 then qrs W Z k (R + 1) (qrule W Z p) else (R, p) from rfl, if_pos ⟨c, g.1⟩]
        have hJ1 : kJ W (kNw b T) (-3 * (R + 1 : Nat)) (qrule W Z p) := by
          have := kJ.rule1 h.w0 hJ
          exact this.mono (by omega)
        have hK1 := (rule_g (t := t) hK).1
        rcases lRule h (by omega) hA.2.2.2.2.1 hJ24 g with ⟨r1, r2⟩ | r1
        · have h203 : (rrule t T q).2.2.2.2.2.1 ≤ 203 := by
            have a1 := hK1.2.2.2 r1.2.1.1
            have a2 := hK1.1
            have a3 := hK1.2.1
            omega
          exact lLoop h k (R + 1) j (qrule W Z p) (rrule t T q) _ _ (by omega) (hA.next (by omega) r2 h203) r1 hJ1 hK1 (fun i a1 a2 => by
            obtain ⟨n, kd, dz, fg, _, _, _, _, _, _, l7, _⟩ := r2
            exact (l7 i a2 (by omega) (by omega)).trans (h65 i a1 a2))
        · right
          rw [qrs_w (R + 1) (fun z => r1.1 z.2) k, rloop_w (fun z => by rw [r1.2.1] at z; exact absurd z.1 (by decide))]
          exact r1.go (lFl.told W Z) lWr.idd
termination_by k => k
end
