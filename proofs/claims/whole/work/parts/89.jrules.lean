/-! ===== call by call: rules ===== -/
theorem kRu.nw {E : kH} {R L : Nat} {f1 : Nat → Int32} : kRu (E ++ [.inr (6, [.int (nI R), .ref (102 + E.length + 1)]), .inl (0, L, .inl f1)]) (102 + E.length) R (102 + E.length + 1) L f1 := by
  intro c w m v
  have e0 : HP c w m v (E ++ [.inr (6, [.int (nI R), .ref (102 + E.length + 1)]), .inl (0, L, .inl f1)]) = HP c w m v E ++ [.inr (6, [.int (nI R), .ref (102 + E.length + 1)]), .inl (0, L, .inl f1)] := rfl
  have e1 : (HP c w m v E).length = 102 + E.length := hp_len _ _ _ _
  rw [e0]
  refine ⟨?_, ?_⟩
  · rw [List.getElem?_append_right (by omega), show 102 + E.length - (HP c w m v E).length = 0 from by omega]
    rfl
  · rw [List.getElem?_append_right (by omega), show 102 + E.length + 1 - (HP c w m v E).length = 1 from by omega]
    rfl
theorem kFac_m (s : Nat → Int32) (l : Nat) : kFac (kfac (s 4) (s 5) (s 6) (s (9 + 4 * l + 1)) l) (mfac s l) := by
  refine ⟨fun k hk => ?_, fun x hx => ?_⟩
  · obtain rfl | rfl | rfl | rfl | rfl : k = 0 ∨ k = 1 ∨ k = 2 ∨ k = 3 ∨ k = 4 := by omega
    · rfl
    · rfl
    · rfl
    · rfl
    · rfl
  · have hne : ∀ y : Int32, y.toInt < 0 → x ≠ y := fun y hy e => by rw [e] at hx; omega
    unfold mfac
    rw [if_neg (hne _ (by decide)), if_neg (hne _ (by decide)), if_neg (hne _ (by decide)), if_neg (hne _ (by decide)), if_neg (hne _ (by decide))]
theorem lAc.rlu {R : Nat} {p : kQt} {q : kRt} {hs en : Nat → Nat} (g : lAc R p q hs en) (hR : R ≤ 8) (hL : p.2.2.1 ≤ 232) {f1 : Nat → Int32} (hf : ∀ j, j < p.2.2.1 → f1 j = p.2.2.2 j) (E : kH) : RlU (E ++ [.inr (6, [.int (nI R), .ref (102 + E.length + 1)]), .inl (0, p.2.2.1, .inl f1)]) (102 + E.length) q.2.2.2.2.2.2 := by
  refine ⟨R, p.2.2.1, f1, en, kRu.nw, by omega, hR, ?_, g.2.2.2.2.1, g.mwf, fun s' hs' l kd => ?_⟩
  · have := g.kwf hf R 0 (by omega)
    rw [g.1] at this
    exact this
  · have := g.bent (by omega) hf hs' hR (kFac_m s' l) kd (s' (9 + 4 * l + 1)) R 0 (by omega)
    rw [g.1] at this
    exact this
theorem lStart {b t : Nat → Int32} {T : Nat} {W Z : Nat → Int32} (h : kTk b t T W Z) (c0 : Nat → Int32) (x : Int32) (s : Nat → Int32) : lOK b t T 0 (0, -1, 0, c0) (rtok t T (0, 0, false, x, 0, 0, s)) ∧ kRJ T 0 (rtok t T (0, 0, false, x, 0, 0, s)) := by
  have hb := rfr_b (t := t) (T := T) (e := 0) (Nat.zero_le _)
  have hb2 := rto_b (t := t) hb.2
  refine ⟨⟨rfl, ⟨rfl, ?_, rfl, Nat.zero_le _⟩, rfl⟩, ⟨hb2.1, hb2.2.1, hb2.2.2, fun _ => ?_⟩⟩
  · show rfr t T 0 = _
    rw [rfr_cg h.2.1]
    exact qP_0.symm
  · show ((0 : Nat) : Int) + 0 ≤ (rfr t T 0 : Nat)
    omega
theorem lAll {b t : Nat → Int32} {T : Nat} {W Z : Nat → Int32} (h : kTk b t T W Z) (c0 : Nat → Int32) (x : Int32) (s : Nat → Int32) :
    (∃ R' hs' en', R' ≤ 8 ∧ (qrs W Z 8 0 (0, -1, 0, c0)).1 = R' ∧ lAc R' (qtold W Z (qrs W Z 8 0 (0, -1, 0, c0)).2) (rrules t T s x) hs' en' ∧ (qtold W Z (qrs W Z 8 0 (0, -1, 0, c0)).2).2.1 = -1 ∧ (qtold W Z (qrs W Z 8 0 (0, -1, 0, c0)).2).2.2.1 ≤ 232 ∧ (rrules t T s x).2.2.1 = false ∧ ∀ i, i < 65 → i ≠ 1 → (rrules t T s x).2.2.2.2.2.2 i = s i) ∨ lBd (qtold W Z (qrs W Z 8 0 (0, -1, 0, c0)).2) (rrules t T s x) := by
  obtain ⟨h1, h2⟩ := lStart h c0 x (upd s 1 0)
  exact lLoop (s0 := s) h 8 0 192 (0, -1, 0, c0) (rtok t T (0, 0, false, x, 0, 0, upd s 1 0)) (fun _ => 0) (fun _ => 0) rfl ⟨rfl, rfl, rfl, rfl, show upd s 1 0 1 = 0 from upd_s _ _ _, fun r hr => absurd hr (Nat.not_lt_zero r)⟩ h1 ⟨Nat.zero_le _, Nat.zero_le 232, fun _ => by show ((0 : Nat) : Int) + -3 * ((0 : Nat) : Int) ≤ ((0 : Nat) : Int); omega⟩ h2 (fun k _ hk => upd_n _ _ hk)
theorem j_rules {X : kX} {d : Nat} (hd : 20 ≤ d) : kJn X d 2 234 Y_X9_rules Y_X10_rules [] := by
  sorry
