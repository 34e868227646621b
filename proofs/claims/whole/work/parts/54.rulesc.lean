theorem s_X9_rules {X : kX} {d : Nat} {c w m v : kZ} {E : kH} {T : Nat} (hT : c.1 3701 = nI T) (hT2 : T ≤ 200) : WP X (d + 16) 2 234 Y_X9_rules 0 [(0, .ref (0))] [] (HP c w m v E) (fun r1 h1 => ∃ W Z : Nat → Int32, kWd (c.2.1 38) T W Z ∧ (((qtold W Z (qrs W Z 8 0 (0, -1, 0, w.2.1 41)).2).2.1 ≠ -1 ∧ r1 = some (.int ((-100) - (qtold W Z (qrs W Z 8 0 (0, -1, 0, w.2.1 41)).2).2.1)) ∧ ∃ u1 : kZ, h1 = HP (setS c 3701 0) u1 m v E ∧ kTx w W Z (qtold W Z (qrs W Z 8 0 (0, -1, 0, w.2.1 41)).2) u1) ∨ ((qtold W Z (qrs W Z 8 0 (0, -1, 0, w.2.1 41)).2).2.1 = -1 ∧ r1 = some (.int (nI (qrs W Z 8 0 (0, -1, 0, w.2.1 41)).1)) ∧ ∃ (u1 : kZ) (f1 : Nat → Int32), h1 = HP (setR (setS c 3701 0) 1 (102 + E.length)) u1 m v (E ++ [.inr (6, [.int (nI (qrs W Z 8 0 (0, -1, 0, w.2.1 41)).1), .ref (102 + E.length + 1)]), .inl (0, (qtold W Z (qrs W Z 8 0 (0, -1, 0, w.2.1 41)).2).2.2.1, .inl f1)]) ∧ (∀ j, j < (qtold W Z (qrs W Z 8 0 (0, -1, 0, w.2.1 41)).2).2.2.1 → f1 j = (qtold W Z (qrs W Z 8 0 (0, -1, 0, w.2.1 41)).2).2.2.2 j) ∧ kTx w W Z (qtold W Z (qrs W Z 8 0 (0, -1, 0, w.2.1 41)).2) u1))) := by
  refine wp_aload_n 0 d_X9_rules_0 rfl rfl ?_
  refine wp_getfield (v := .ref (37)) d_X9_rules_1 gf_X9_25 (hp_0 _ _ _ _ _) rfl ?_
  refine wp_widen (mc' := 2 + 0) (ms' := 234 + 0) (by omega) (by omega) ?_
  refine wp_virtual (As := []) d_X9_rules_4 lk_X9_152 mv_X8_told in_X8_told se_X8_told (Nat.le_of_ble_eq_true rfl) (Nat.le_of_ble_eq_true rfl) (hp_37 _ _ _ _ _) rfl rfl (s_X8_told hT hT2) (fun v4 h4 q4 => ?_)
  obtain ⟨W, Z, hW, hq⟩ := q4
  rcases hq with ⟨hf, rfl, u1, rfl, hx1⟩ | ⟨hf, rfl, u1, f1, rfl, hff, hx1⟩
  · show WP _ _ _ _ _ 7 _ [.null] (HP c u1 m v E) _
    refine wp_astore_nN [(1, .null), (0, .ref (0))] d_X9_rules_7 rfl (Nat.le_of_ble_eq_true rfl) rfl ?_
    refine wp_aload_n 1 d_X9_rules_8 rfl rfl ?_
    refine wp_getfield (v := .ref (37)) d_X9_rules_9 gf_X9_25 (hp_0 _ _ _ _ _) rfl ?_
    refine wp_iconst (v0 := 0) d_X9_rules_12 rfl ?_
    refine wp_putfield (h' := HP (setS c 3701 (0)) u1 m v E) d_X9_rules_13 gp_X9_145 (kfit_i _) (hp_37 _ _ _ _ _) (Nat.le_of_ble_eq_true rfl) (hps_37_1 _ _ _ _ _ _) ?_
    refine wp_aload_nN 0 d_X9_rules_16 rfl rfl ?_
    refine wp_ifnonnullN d_X9_rules_17 ?_
    refine wp_bipush (v0 := -100) d_X9_rules_20 (by decide) ?_
    refine wp_aload_n 1 d_X9_rules_22 rfl rfl ?_
    refine wp_getfield (v := .ref (37)) d_X9_rules_23 gf_X9_25 (hp_0 _ _ _ _ _) rfl ?_
    refine wp_getfield (v := .int ((qtold W Z (qrs W Z 8 0 (0, -1, 0, w.2.1 41)).2).2.1)) d_X9_rules_26 gf_X9_156 (hp_37 _ _ _ _ _) (congrArg (fun z => some (Value.int z)) hx1.1.2.2.1) ?_
    refine wp_isub d_X9_rules_29 ?_
    refine wp_reti d_X9_rules_30 rfl ?_
    exact ⟨W, Z, hW, Or.inl ⟨hf, rfl, u1, rfl, hx1⟩⟩
  · show WP _ _ _ _ _ 7 _ [.ref (102 + E.length)] (HP c u1 m v (E ++ [.inr (6, [.int (nI (qrs W Z 8 0 (0, -1, 0, w.2.1 41)).1), .ref (102 + E.length + 1)]), .inl (0, (qtold W Z (qrs W Z 8 0 (0, -1, 0, w.2.1 41)).2).2.2.1, .inl f1)])) _
    refine wp_astore_n [(1, .ref (102 + E.length)), (0, .ref (0))] d_X9_rules_7 rfl (Nat.le_of_ble_eq_true rfl) rfl ?_
    refine wp_aload_n 1 d_X9_rules_8 rfl rfl ?_
    refine wp_getfield (v := .ref (37)) d_X9_rules_9 gf_X9_25 (hp_0 _ _ _ _ _) rfl ?_
    refine wp_iconst (v0 := 0) d_X9_rules_12 rfl ?_
    refine wp_putfield (h' := HP (setS c 3701 (0)) u1 m v (E ++ [.inr (6, [.int (nI (qrs W Z 8 0 (0, -1, 0, w.2.1 41)).1), .ref (102 + E.length + 1)]), .inl (0, (qtold W Z (qrs W Z 8 0 (0, -1, 0, w.2.1 41)).2).2.2.1, .inl f1)])) d_X9_rules_13 gp_X9_145 (kfit_i _) (hp_37 _ _ _ _ _) (Nat.le_of_ble_eq_true rfl) (hps_37_1 _ _ _ _ _ _) ?_
    refine wp_aload_n 0 d_X9_rules_16 rfl rfl ?_
    refine wp_ifnonnull 31 d_X9_rules_17 rfl ?_
    refine wp_aload_n 1 d_X9_rules_31 rfl rfl ?_
    refine wp_getfield (v := .ref (1)) d_X9_rules_32 gf_X9_12 (hp_0 _ _ _ _ _) rfl ?_
    refine wp_aload_n 0 d_X9_rules_35 rfl rfl ?_
    refine wp_putfield (h' := HP (setR (setS c 3701 (0)) 1 (102 + E.length)) u1 m v (E ++ [.inr (6, [.int (nI (qrs W Z 8 0 (0, -1, 0, w.2.1 41)).1), .ref (102 + E.length + 1)]), .inl (0, (qtold W Z (qrs W Z 8 0 (0, -1, 0, w.2.1 41)).2).2.2.1, .inl f1)])) d_X9_rules_36 gp_X9_159 (kfit_o _) (hp_1 _ _ _ _ _) (Nat.le_of_ble_eq_true rfl) (hpr_1_6 _ _ _ _ _ _) ?_
    refine wp_aload_n 0 d_X9_rules_39 rfl rfl ?_
    refine wp_getfield (v := .int (nI (qrs W Z 8 0 (0, -1, 0, w.2.1 41)).1)) d_X9_rules_40 gf_X9_163 (show _ = some (Sum.inr (6, [.int (nI (qrs W Z 8 0 (0, -1, 0, w.2.1 41)).1), .ref (102 + E.length + 1)])) from by rw [hp_X (by omega), show 102 + E.length - 102 = E.length by omega]; simp) rfl ?_
    refine wp_reti d_X9_rules_43 rfl ?_
    exact ⟨W, Z, hW, Or.inr ⟨hf, rfl, u1, f1, rfl, hff, hx1⟩⟩
