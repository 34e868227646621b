/-! ===== call by call: rules ===== -/
theorem kRu.nw {E : kH} {R L : Nat} {f1 : Nat → Int32} : kRu (E ++ [.inr (6, [.int (nI R), .ref (102 + E.length + 1)]), .inl (0, L, .inl f1)]) (102 + E.length) R (102 + E.length + 1) L f1 := by
  intro c w m v
  have e0 : HP c w m v (E ++ [.inr (6, [.int (nI R), .ref (102 + E.length + 1)]), .inl (0, L, .inl f1)]) = HP c w m v E ++ [.inr (6, [.int (nI R), .ref (102 + E.length + 1)]), .inl (0, L, .inl f1)] := rfl
  have e1 : (HP c w m v E).length = 102 + E.length := by simp only [HP, List.length_cons]; omega
  rw [e0]
  refine ⟨?_, ?_⟩
  · rw [List.getElem?_append_right (by omega), show 102 + E.length - (HP c w m v E).length = 0 from by omega]
    rfl
  · rw [List.getElem?_append_right (by omega), show 102 + E.length + 1 - (HP c w m v E).length = 1 from by omega]
    rfl
theorem kFac_m (s : Nat → Int32) (l : Nat) : kFac (kfac (s 4) (s 5) (s 6) (s (9 + 4 * l + 1)) l) (mfac s l) := by
  refine ⟨fun k hk => ?_, fun x hx => ?_⟩
  · obtain rfl | rfl | rfl | rfl | rfl : k = 0 ∨ k = 1 ∨ k = 2 ∨ k = 3 ∨ k = 4 := by omega
    · rfl
    · rfl
    · rfl
    · rfl
    · rfl
  · have hne : ∀ y : Int32, y.toInt < 0 → x ≠ y := fun y hy e => by rw [e] at hx; omega
    unfold mfac
    rw [if_neg (hne _ (by decide)), if_neg (hne _ (by decide)), if_neg (hne _ (by decide)), if_neg (hne _ (by decide)), if_neg (hne _ (by decide))]
theorem lAc.rlu {R : Nat} {p : kQt} {q : kRt} {hs en : Nat → Nat} (g : lAc R p q hs en) (hR : R ≤ 8) (hL : p.2.2.1 ≤ 232) {f1 : Nat → Int32} (hf : ∀ j, j < p.2.2.1 → f1 j = p.2.2.2 j) (E : kH) : RlU (E ++ [.inr (6, [.int (nI R), .ref (102 + E.length + 1)]), .inl (0, p.2.2.1, .inl f1)]) (102 + E.length) q.2.2.2.2.2.2 := by
  refine ⟨R, p.2.2.1, f1, en, kRu.nw, by omega, hR, ?_, g.2.2.2.2.1, g.mwf, fun s' hs' l kd => ?_⟩
  · have := g.kwf hf R 0 (by omega)
    rw [g.1] at this
    exact this
  · have := g.bent (by omega) hf hs' hR (kFac_m s' l) kd (s' (9 + 4 * l + 1)) R 0 (by omega)
    rw [g.1] at this
    exact this
theorem lStart {b t : Nat → Int32} {T : Nat} {W Z : Nat → Int32} (h : kTk b t T W Z) (c0 : Nat → Int32) (x : Int32) (s : Nat → Int32) : lOK b t T 0 (0, -1, 0, c0) (rtok t T (0, 0, false, x, 0, 0, s)) ∧ kRJ T 0 (rtok t T (0, 0, false, x, 0, 0, s)) := by
  have hb := rfr_b (t := t) (T := T) (e := 0) (Nat.zero_le _)
  have hb2 := rto_b (t := t) hb.2
  refine ⟨⟨rfl, ⟨rfl, ?_, rfl, Nat.zero_le _⟩, rfl⟩, ⟨hb2.1, hb2.2.1, hb2.2.2, fun _ => ?_⟩⟩
  · show rfr t T 0 = _
    rw [rfr_cg h.2.1]
    exact qP_0.symm
  · show ((0 : Nat) : Int) + 0 ≤ (rfr t T 0 : Nat)
    omega
theorem lAll {b t : Nat → Int32} {T : Nat} {W Z : Nat → Int32} (h : kTk b t T W Z) (c0 : Nat → Int32) (x : Int32) (s : Nat → Int32) :
    (∃ R' hs' en', R' ≤ 8 ∧ (qrs W Z 8 0 (0, -1, 0, c0)).1 = R' ∧ lAc R' (qtold W Z (qrs W Z 8 0 (0, -1, 0, c0)).2) (rrules t T s x) hs' en' ∧ (qtold W Z (qrs W Z 8 0 (0, -1, 0, c0)).2).2.1 = -1 ∧ (qtold W Z (qrs W Z 8 0 (0, -1, 0, c0)).2).2.2.1 ≤ 232 ∧ (rrules t T s x).2.2.1 = false ∧ ∀ i, i < 65 → i ≠ 1 → (rrules t T s x).2.2.2.2.2.2 i = s i) ∨ lBd (qtold W Z (qrs W Z 8 0 (0, -1, 0, c0)).2) (rrules t T s x) := by
  obtain ⟨h1, h2⟩ := lStart h c0 x (upd s 1 0)
  exact lLoop (s0 := s) h 8 0 192 (0, -1, 0, c0) (rtok t T (0, 0, false, x, 0, 0, upd s 1 0)) (fun _ => 0) (fun _ => 0) rfl ⟨rfl, rfl, rfl, rfl, show upd s 1 0 1 = 0 from upd_s _ _ _, fun r hr => absurd hr (Nat.not_lt_zero r)⟩ h1 ⟨Nat.zero_le _, Nat.zero_le 232, fun _ => by show ((0 : Nat) : Int) + -3 * ((0 : Nat) : Int) ≤ ((0 : Nat) : Int); omega⟩ h2 (fun k _ hk => upd_n _ _ hk)
theorem j_rules {X : kX} {d : Nat} (hd : 20 ≤ d) : kJn X d 2 234 Y_X9_rules Y_X10_rules [] := by
  intro c w m v E hRl
  obtain ⟨⟨n, p, r, hB⟩, hK, ⟨T, hT2, hT, hT', hby⟩, hW, hC, ⟨so, nn, ff, hH⟩, hF, hV⟩ := id hRl
  have hM : ∀ (c1 w1 : kZ) (E1 : kH), WP X d 0 0 Y_X10_rules 0 _ [] (HP c1 w1 m v E1) _ := fun c1 w1 E1 => wp_depth (by omega) (s_X10_rules (X := X) (d := 0) (c := c1) (w := w1) (m := m) (v := v) (E := E1) hT' hT2)
  refine wp_mono ?_ (wp_depth (by omega) (s_X9_rules (d := 0) hT hT2))
  rintro r1 t1 ⟨W, Z, hWd, hh⟩
  have hk : kTk (c.2.1 38) (m.2.1 94) T W Z := ⟨hT2, fun j hj => (hby j hj).1.symm, hWd⟩
  have hA := lAll hk (w.2.1 41) (v.1 8027) (m.2.1 81)
  have hVu : ∀ (pq : kQt) (u1 : kZ), kTx w W Z pq u1 → RlV u1 := fun pq u1 hx => ⟨kRay_0 hV.1 (fun k a1 a2 => by rw [hx.2.2.1 k (by omega) (by omega) (by omega)]), fun U hU => by rw [hx.2.2.1 72 (by decide) (by decide) (by decide)]; exact hV.2 U hU⟩
  rcases hh with ⟨f1, rfl, u1, rfl, hx⟩ | ⟨f1, rfl, u1, g1, rfl, hg, hx⟩
  · have hbd : lBd _ _ := hA.resolve_left (fun ⟨_, _, _, _, _, _, z, _⟩ => f1 z)
    refine ⟨_, setS c 3701 0, u1, E, rfl, rfl, wp_mono ?_ (hM _ _ _)⟩
    rintro r2 t2 ⟨rfl, y1, rfl⟩
    rw [if_pos hbd.2.1, if_pos hbd.2.1, hbd.2.2]
    refine ⟨rfl, _, y1, rfl, ?_⟩
    have hs : ∀ k, k < 300 → kov (rrules (m.2.1 94) T (m.2.1 81) (v.1 8027)).2.2.2.2.2.2 (m.2.1 81) 300 k = m.2.1 81 k := fun k hk => kov_lt _ _ hk
    generalize kov (rrules (m.2.1 94) T (m.2.1 81) (v.1 8027)).2.2.2.2.2.2 (m.2.1 81) 300 = Y at hs ⊢
    have hB2 : RlB 1 n p r (setS c 3701 0) E Y := ⟨hB.1.c (hs _ (by decide)) (hs _ (by decide)) (hs _ (by decide)) (hs _ (by decide)), hB.2.1.c hB.1.1.1 (fun k _ _ => hs k (by omega)), hB.2.2.1.c (fun k _ _ => hs k (by omega)), hB.2.2.2.1.c hB.1.1.2.1 (fun k _ _ => hs k (by omega)), hB.2.2.2.2.1.c hB.1.1.2.2 (fun k _ _ => hs k (by omega)), hB.2.2.2.2.2.c (hs _ (by decide)) (fun k _ _ => hs k (by omega))⟩
    exact ⟨⟨n, p, r, hB2⟩, hK, ⟨0, by decide, rfl, rfl, fun j hj => absurd hj (Nat.not_lt_zero j)⟩, hW, hC, ⟨so, nn, ff, hH⟩, hF, hVu _ _ hx⟩
  · rcases hA with ⟨R, hs, en, a1, a2, a3, a4, a5, a6, a7⟩ | hbd
    · refine ⟨_, _, u1, _, rfl, rfl, wp_mono ?_ (hM _ _ _)⟩
      rintro r2 t2 ⟨rfl, y1, rfl⟩
      have hne : ¬ (rrules (m.2.1 94) T (m.2.1 81) (v.1 8027)).2.2.1 = true := by rw [a6]; decide
      rw [if_neg hne, if_neg hne, a3.2.2.2.2.1, a2]
      refine ⟨rfl, _, y1, rfl, ?_⟩
      have hU := a3.rlu a1 a5 hg E
      generalize (rrules (m.2.1 94) T (m.2.1 81) (v.1 8027)).2.2.2.2.2.2 = Y at a7 hU ⊢
      generalize [Sum.inr (6, [Value.int (nI R), Value.ref (102 + E.length + 1)]), Sum.inl (0, (qtold W Z (qrs W Z 8 0 (0, -1, 0, w.2.1 41)).2).2.2.1, Sum.inl g1)] = F at hU ⊢
      have hB2 : RlB 1 n p r (setR (setS c 3701 0) 1 (102 + E.length)) (E ++ F) Y := ⟨hB.1.c (a7 _ (by decide) (by decide)) (a7 _ (by decide) (by decide)) (a7 _ (by decide) (by decide)) (a7 _ (by decide) (by decide)), hB.2.1.c hB.1.1.1 (fun k _ _ => a7 k (by omega) (by omega)), hB.2.2.1.c (fun k _ _ => a7 k (by omega) (by omega)), hB.2.2.2.1.c hB.1.1.2.1 (fun k _ _ => a7 k (by omega) (by omega)), hB.2.2.2.2.1.c hB.1.1.2.2 (fun k _ _ => a7 k (by omega) (by omega)), hU⟩
      exact ⟨⟨n, p, r, hB2⟩, hK.gr F, ⟨0, by decide, rfl, rfl, fun j hj => absurd hj (Nat.not_lt_zero j)⟩, hW, hC, ⟨so, nn, ff, ⟨fun j hj => ⟨(hH.1 j hj).1, (hH.1 j hj).2.1, (hH.1 j hj).2.2.imp (fun z => z) (fun ⟨a, b1, b2, b3⟩ => ⟨a, b1, b2.gr F, b3⟩)⟩, hH.2⟩⟩, hF.gr F, hVu _ _ hx⟩
    · exact absurd f1 hbd.1
