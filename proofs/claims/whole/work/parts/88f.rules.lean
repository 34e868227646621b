/-! ===== all rules side by side ===== -/
def lOne (r : Nat) (code s : Nat → Int32) (h e h' e' : Nat) : Prop := e ≤ e' ∧ e' ≤ 203 ∧ ∃ (n : Nat) (kd dz fg : Int32), h' = h + 4 + n ∧ (dz = 0 ∨ dz = 1 ∨ dz = 2) ∧
  (code h = kd ∧ code (h + 1) = dz ∧ code (h + 2) = fg ∧ code (h + 3) = nI n) ∧
  (s (65 + 4 * r + 0) = kd ∧ s (65 + 4 * r + 1) = dz ∧ s (65 + 4 * r + 2) = fg ∧ s (65 + 4 * r + 3) = nI e') ∧
  ∀ f fac, kFac f fac → ∃ v : Bool, ∀ c1 s1 : Nat → Int32, (∀ k, h + 4 ≤ k → k < h + 4 + n → c1 k = code k) → (∀ k, e ≤ k → k < e' → s1 (97 + k) = s (97 + k)) →
    (n = 0 ∧ e' = e ∧ v = true) ∨ (kfold f c1 n (h + 4) (nI 1) = nI (2 * 1 + v.toNat) ∧ mrun fac s1 (e' - e) e [] = some [nI v.toNat])
theorem lOne.cg {r : Nat} {code s code2 s2 : Nat → Int32} {h e h' e' : Nat} (g : lOne r code s h e h' e') (h1 : ∀ k, k < h' → code2 k = code k) (h2 : ∀ k, 65 + 4 * r ≤ k → k < 65 + 4 * r + 4 → s2 k = s k) (h3 : ∀ k, k < e' → s2 (97 + k) = s (97 + k)) : lOne r code2 s2 h e h' e' := by
  obtain ⟨g1, g2, n, kd, dz, fg, g3, g4, g5, g6, g7⟩ := g
  refine ⟨g1, g2, n, kd, dz, fg, g3, g4, ?_, ?_, fun f fac hF => ?_⟩
  · rw [h1 _ (by omega), h1 _ (by omega), h1 _ (by omega), h1 _ (by omega)]
    exact g5
  · rw [h2 _ (by omega) (by omega), h2 _ (by omega) (by omega), h2 _ (by omega) (by omega), h2 _ (by omega) (by omega)]
    exact g6
  · obtain ⟨v, hv⟩ := g7 f fac hF
    exact ⟨v, fun c1 s1 a1 a2 => hv c1 s1 (fun k b1 b2 => (a1 k b1 b2).trans (h1 k (by omega))) (fun k b1 b2 => (a2 k b1 b2).trans (h3 k b2))⟩
def lAc (R : Nat) (p : kQt) (q : kRt) (hs en : Nat → Nat) : Prop := hs 0 = 0 ∧ en 0 = 0 ∧ hs R = p.2.2.1 ∧ en R = q.2.2.2.2.2.1 ∧ q.2.2.2.2.2.2 1 = nI R ∧ ∀ r, r < R → lOne r p.2.2.2 q.2.2.2.2.2.2 (hs r) (en r) (hs (r + 1)) (en (r + 1)) ∧ hs (r + 1) ≤ p.2.2.1 ∧ en (r + 1) ≤ q.2.2.2.2.2.1
theorem lAc.next {R : Nat} (hR : R < 8) {p p' : kQt} {q q' : kRt} {hs en : Nat → Nat} (g : lAc R p q hs en) (h : lRl R p q p' q') (h203 : q'.2.2.2.2.2.1 ≤ 203) : lAc (R + 1) p' q' (fun r => if r ≤ R then hs r else p'.2.2.1) (fun r => if r ≤ R then en r else q'.2.2.2.2.2.1) := by
  obtain ⟨g1, g2, g3, g4, g5, g6⟩ := g
  obtain ⟨n, kd, dz, fg, l1, l2, l3, l4, l5, l6, l7, l8⟩ := h
  refine ⟨?_, ?_, ?_, ?_, l6.2.2.2.2, fun r hr => ?_⟩
  · show (if 0 ≤ R then hs 0 else _) = 0
    rw [if_pos (Nat.zero_le _)]; exact g1
  · show (if 0 ≤ R then en 0 else _) = 0
    rw [if_pos (Nat.zero_le _)]; exact g2
  · show (if R + 1 ≤ R then _ else _) = _
    rw [if_neg (by omega)]
  · show (if R + 1 ≤ R then _ else _) = _
    rw [if_neg (by omega)]
  · show lOne r _ _ (if r ≤ R then hs r else p'.2.2.1) (if r ≤ R then en r else q'.2.2.2.2.2.1) (if r + 1 ≤ R then hs (r + 1) else p'.2.2.1) (if r + 1 ≤ R then en (r + 1) else q'.2.2.2.2.2.1) ∧ (if r + 1 ≤ R then hs (r + 1) else p'.2.2.1) ≤ _ ∧ (if r + 1 ≤ R then en (r + 1) else q'.2.2.2.2.2.1) ≤ _
    rw [if_pos (show r ≤ R by omega), if_pos (show r ≤ R by omega)]
    by_cases c : r < R
    · rw [if_pos (show r + 1 ≤ R by omega), if_pos (show r + 1 ≤ R by omega)]
      obtain ⟨i1, i2, i3⟩ := g6 r c
      refine ⟨i1.cg (fun k hk => l5 k (by omega)) (fun k a1 a2 => l7 k (by omega) (by omega) (by omega)) (fun k hk => l7 (97 + k) (by omega) (by omega) (by omega)), by omega, by omega⟩
    · obtain rfl : r = R := by omega
      rw [if_neg (show ¬ r + 1 ≤ r by omega), if_neg (show ¬ r + 1 ≤ r by omega), g3, g4]
      exact ⟨⟨l2, h203, n, kd, dz, fg, l1, l3, l4, ⟨l6.1, l6.2.1, l6.2.2.1, l6.2.2.2.1⟩, l8⟩, Nat.le_refl _, Nat.le_refl _⟩
/-- success of the reference's run hangs on the length of the stack alone -/
theorem mstep_len {fac fac2 : Int32 → Int32} {st st1 st2 : List Int32} {x : Int32} (h : mstep fac st x = some st1) (hl : st2.length = st.length) : ∃ st3, mstep fac2 st2 x = some st3 ∧ st3.length = st1.length := by
  unfold mstep at h ⊢
  split at h
  · rename_i q
    rw [if_pos q]
    split at h
    · rename_i q2
      rw [if_pos (by rw [hl]; exact q2)]
      cases h
      exact ⟨_, rfl, by rw [List.length_cons, List.length_cons, hl]⟩
    · cases h
  · rename_i q
    rw [if_neg q]
    split at h
    · rename_i q2
      rw [if_pos q2]
      cases st with
      | nil => cases h
      | cons a t =>
        cases st2 with
        | nil => cases hl
        | cons a2 t2 =>
          cases h
          exact ⟨_, rfl, by rw [List.length_cons, List.length_cons] at hl ⊢; omega⟩
    · rename_i q2
      rw [if_neg q2]
      cases st with
      | nil => cases h
      | cons a t =>
        cases t with
        | nil => cases h
        | cons a1 t1 =>
          cases st2 with
          | nil => cases hl
          | cons a2 t2 =>
            cases t2 with
            | nil => simp at hl
            | cons a3 t3 =>
              cases h
              refine ⟨_, rfl, ?_⟩
              simp only [List.length_cons] at hl ⊢
              omega
theorem mrun_len {fac fac2 : Int32 → Int32} {s : Nat → Int32} : ∀ (k i : Nat) (st st1 st2 : List Int32), mrun fac s k i st = some st1 → st2.length = st.length → ∃ st3, mrun fac2 s k i st2 = some st3 ∧ st3.length = st1.length
  | 0, i, st, st1, st2, h, hl => ⟨st2, rfl, by rw [hl]; exact congrArg List.length (Option.some.inj h)⟩
  | k + 1, i, st, st1, st2, h, hl => by
    simp only [mrun] at h ⊢
    cases hm : mstep fac st (s (97 + i)) with
    | none => rw [hm] at h; cases h
    | some s2 =>
      rw [hm] at h
      obtain ⟨s3, e1, e2⟩ := mstep_len (fac2 := fac2) hm hl
      rw [e1]
      exact mrun_len k (i + 1) s2 st1 s3 h e2
theorem kFac_id : kFac (fun k => -1 - nI k) (fun x => x) := ⟨fun _ _ => rfl, fun _ _ => rfl⟩
theorem lOne.run {r : Nat} {code s : Nat → Int32} {h e h' e' : Nat} (g : lOne r code s h e h' e') (fac : Int32 → Int32) : ∃ st, mrun fac s (e' - e) e [] = some st ∧ (st = [] ∨ ∃ x, st = [x]) := by
  obtain ⟨g1, g2, n, kd, dz, fg, g3, g4, g5, g6, g7⟩ := g
  obtain ⟨v, hv⟩ := g7 _ _ kFac_id
  rcases hv code s (fun _ _ _ => rfl) (fun _ _ _ => rfl) with ⟨_, e1, _⟩ | ⟨_, e1⟩
  · rw [e1, Nat.sub_self]
    exact ⟨[], rfl, Or.inl rfl⟩
  · obtain ⟨s3, a1, a2⟩ := mrun_len (fac2 := fac) _ _ [] _ [] e1 rfl
    refine ⟨s3, a1, Or.inr ?_⟩
    cases s3 with
    | nil => cases a2
    | cons x t =>
      cases t with
      | nil => exact ⟨x, rfl⟩
      | cons y u => simp at a2
theorem lAc.mwf {R : Nat} {p : kQt} {q : kRt} {hs en : Nat → Nat} (g : lAc R p q hs en) : mWF q.2.2.2.2.2.2 R en := by
  refine ⟨g.2.1, fun r hr => ?_⟩
  obtain ⟨i1, _, _⟩ := g.2.2.2.2.2 r hr
  obtain ⟨n, kd, dz, fg, g3, g4, g5, g6, g7⟩ := i1.2.2
  exact ⟨g6.2.2.2, i1.1, i1.2.1, fun fac => i1.run fac⟩
theorem lAc.kwf {R : Nat} {p : kQt} {q : kRt} {hs en : Nat → Nat} (g : lAc R p q hs en) {f1 : Nat → Int32} (hf : ∀ j, j < p.2.2.1 → f1 j = p.2.2.2 j) : ∀ k r, r + k = R → kWF f1 p.2.2.1 k (hs r)
  | 0, r, _ => trivial
  | k + 1, r, hr => by
    obtain ⟨i1, i2, _⟩ := g.2.2.2.2.2 r (by omega)
    obtain ⟨n, kd, dz, fg, g3, g4, g5, g6, g7⟩ := i1.2.2
    refine ⟨n, ?_, by omega, ?_⟩
    · rw [hf _ (by omega)]; exact g5.2.2.2
    · rw [← g3]
      exact lAc.kwf g hf k (r + 1) (by omega)
