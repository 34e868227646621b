/-! ===== small calls, second half: both sides ===== -/
theorem s_X1_drawn {X : kX} {d : Nat} {c w m v : kZ} {E : kH} {p : Nat} (hp : c.1 107 = nI p) (hp4 : p ≤ 4) : WP X d 0 0 Y_X1_drawn 0 [(0, .ref (1))] [] (HP c w m v E) (fun r h1 => (p = 0 ∧ r = some (.int (-3)) ∧ h1 = HP c w m v E) ∨ (0 < p ∧ r = some (.int (nI (kz16 (c.1 113 * 1103515245 + 12345) % p))) ∧ h1 = HP (setA (setS c 113 (c.1 113 * 1103515245 + 12345)) 10 (upd (c.2.1 10) (kz16 (c.1 113 * 1103515245 + 12345) % p) (((c.2.1 10) (kz16 (c.1 113 * 1103515245 + 12345) % p)) + 1 - (((c.2.1 10) (kz16 (c.1 113 * 1103515245 + 12345) % p)) + 1) / 4 * 4))) w m v E)) := by
  refine wp_aload_n 0 d_X1_drawn_0 rfl rfl ?_
  refine wp_getfield (v := .int (nI (p))) d_X1_drawn_1 gf_X1_59 (hp_1 _ _ _ _ _) (congrArg (fun z => some (Value.int z)) hp) ?_
  refine wp_iconst (v0 := 1) d_X1_drawn_4 rfl ?_
  refine wp_ncmp_ge (a := p) (b := 1) 11 d_X1_drawn_5 rfl (by omega) (by omega) (fun c5 => ?_) (fun c5 => ?_)
  · refine wp_aload_n 0 d_X1_drawn_11 rfl rfl ?_
    refine wp_aload_n 0 d_X1_drawn_12 rfl rfl ?_
    refine wp_getfield (v := .int ((c.1 113))) d_X1_drawn_13 gf_X1_48 (hp_1 _ _ _ _ _) rfl ?_
    refine wp_ldc (v0 := 1103515245) d_X1_drawn_16 ci_X1_62 ?_
    refine wp_imul d_X1_drawn_18 ?_
    refine wp_sipush (v0 := 12345) d_X1_drawn_19 (by decide) ?_
    refine wp_iadd d_X1_drawn_22 ?_
    refine wp_putfield (h' := HP (setS c 113 ((((c.1 113)) * (1103515245)) + (12345))) w m v E) d_X1_drawn_23 gp_X1_48 (kfit_i _) (hp_1 _ _ _ _ _) (Nat.le_of_ble_eq_true rfl) (hps_1_13 _ _ _ _ _ _) ?_
    refine wp_aload_n 0 d_X1_drawn_26 rfl rfl ?_
    refine wp_getfield (v := .int (((((c.1 113)) * (1103515245)) + (12345)))) d_X1_drawn_27 gf_X1_48 (hp_1 _ _ _ _ _) rfl ?_
    refine wp_bipush (v0 := 16) d_X1_drawn_30 (by decide) ?_
    refine wp_iushr (v0 := nI (kz16 (((((c.1 113)) * (1103515245)) + (12345))))) d_X1_drawn_32 (kz16_eq _) ?_
    refine wp_aload_n 0 d_X1_drawn_33 rfl rfl ?_
    refine wp_getfield (v := .int (nI (p))) d_X1_drawn_34 gf_X1_59 (hp_1 _ _ _ _ _) (congrArg (fun z => some (Value.int z)) hp) ?_
    refine wp_irem d_X1_drawn_37 (nI_ne0 (by omega) (by omega)) ?_
    refine wp_v (v0 := nI ((kz16 (((((c.1 113)) * (1103515245)) + (12345)))) % (p))) (pk_rem (a := kz16 (((((c.1 113)) * (1103515245)) + (12345)))) (d := p) (by have := kz16_lt; first | omega | (have := kz16_lt (((((c.1 113)) * (1103515245)) + (12345))); omega)) (by omega) (by omega)) ?_
    refine wp_istore_n [(1, .int (nI ((kz16 (((((c.1 113)) * (1103515245)) + (12345)))) % (p)))), (0, .ref (1))] d_X1_drawn_38 rfl (Nat.le_of_ble_eq_true rfl) rfl ?_
    have hix := Nat.mod_lt (kz16 (c.1 113 * 1103515245 + 12345)) (show 0 < p by omega)
    refine wp_aload_n 1 d_X1_drawn_39 rfl rfl ?_
    refine wp_getfield (v := .ref (10)) d_X1_drawn_40 gf_X1_39 (hp_1 _ _ _ _ _) rfl ?_
    refine wp_iload_n 0 d_X1_drawn_43 rfl rfl ?_
    refine wp_aload_n 1 d_X1_drawn_44 rfl rfl ?_
    refine wp_getfield (v := .ref (10)) d_X1_drawn_45 gf_X1_39 (hp_1 _ _ _ _ _) rfl ?_
    refine wp_iload_n 0 d_X1_drawn_48 rfl rfl ?_
    refine wp_iaload (v := (c.2.1 10) ((kz16 (((((c.1 113)) * (1103515245)) + (12345)))) % (p))) d_X1_drawn_49 (hp_10 _ _ _ _ _) (vp_in_nI (by omega) (by omega)) (congrArg ((c.2.1 10)) (nI_clamp (by omega))) ?_
    refine wp_iconst (v0 := 1) d_X1_drawn_50 rfl ?_
    refine wp_iadd d_X1_drawn_51 ?_
    refine wp_iconst (v0 := 4) d_X1_drawn_52 rfl ?_
    refine wp_irem d_X1_drawn_53 (by decide) ?_
    refine wp_iastore (h' := HP (setA (setS c 113 ((((c.1 113)) * (1103515245)) + (12345))) 10 (upd (c.2.1 10) ((kz16 (((((c.1 113)) * (1103515245)) + (12345)))) % (p)) ((((c.2.1 10) ((kz16 (((((c.1 113)) * (1103515245)) + (12345)))) % (p))) + (1)) - (((c.2.1 10) ((kz16 (((((c.1 113)) * (1103515245)) + (12345)))) % (p))) + (1)) / (4) * (4)))) w m v E) d_X1_drawn_54 (hp_10 _ _ _ _ _) (vp_in_nI (by omega) (by omega)) (by rw [nI_clamp (by omega)]; exact (hpa_10 _ _ _ _ _ _)) ?_
    refine wp_iload_n 0 d_X1_drawn_55 rfl rfl ?_
    refine wp_reti d_X1_drawn_56 rfl ?_
    exact Or.inr ⟨by omega, rfl, rfl⟩
  · refine wp_bipush (v0 := -3) d_X1_drawn_8 (by decide) ?_
    refine wp_reti d_X1_drawn_10 rfl ?_
    exact Or.inl ⟨by omega, rfl, rfl⟩
theorem s_X1_drawn_w {X : kX} {d : Nat} {c w m v : kZ} {E : kH} {p : Nat} (hp : w.1 2507 = nI p) (hp4 : p ≤ 4) : WP X d 0 0 Y_X1_drawn 0 [(0, .ref (25))] [] (HP c w m v E) (fun r h1 => (p = 0 ∧ r = some (.int (-3)) ∧ h1 = HP c w m v E) ∨ (0 < p ∧ r = some (.int (nI (kz16 (w.1 2513 * 1103515245 + 12345) % p))) ∧ h1 = HP c (setA (setS w 2513 (w.1 2513 * 1103515245 + 12345)) 34 (upd (w.2.1 34) (kz16 (w.1 2513 * 1103515245 + 12345) % p) (((w.2.1 34) (kz16 (w.1 2513 * 1103515245 + 12345) % p)) + 1 - (((w.2.1 34) (kz16 (w.1 2513 * 1103515245 + 12345) % p)) + 1) / 4 * 4))) m v E)) := by
  refine wp_aload_n 0 d_X1_drawn_0 rfl rfl ?_
  refine wp_getfield (v := .int (nI (p))) d_X1_drawn_1 gf_X1_59 (hp_25 _ _ _ _ _) (congrArg (fun z => some (Value.int z)) hp) ?_
  refine wp_iconst (v0 := 1) d_X1_drawn_4 rfl ?_
  refine wp_ncmp_ge (a := p) (b := 1) 11 d_X1_drawn_5 rfl (by omega) (by omega) (fun c5 => ?_) (fun c5 => ?_)
  · refine wp_aload_n 0 d_X1_drawn_11 rfl rfl ?_
    refine wp_aload_n 0 d_X1_drawn_12 rfl rfl ?_
    refine wp_getfield (v := .int ((w.1 2513))) d_X1_drawn_13 gf_X1_48 (hp_25 _ _ _ _ _) rfl ?_
    refine wp_ldc (v0 := 1103515245) d_X1_drawn_16 ci_X1_62 ?_
    refine wp_imul d_X1_drawn_18 ?_
    refine wp_sipush (v0 := 12345) d_X1_drawn_19 (by decide) ?_
    refine wp_iadd d_X1_drawn_22 ?_
    refine wp_putfield (h' := HP c (setS w 2513 ((((w.1 2513)) * (1103515245)) + (12345))) m v E) d_X1_drawn_23 gp_X1_48 (kfit_i _) (hp_25 _ _ _ _ _) (Nat.le_of_ble_eq_true rfl) (hps_25_13 _ _ _ _ _ _) ?_
    refine wp_aload_n 0 d_X1_drawn_26 rfl rfl ?_
    refine wp_getfield (v := .int (((((w.1 2513)) * (1103515245)) + (12345)))) d_X1_drawn_27 gf_X1_48 (hp_25 _ _ _ _ _) rfl ?_
    refine wp_bipush (v0 := 16) d_X1_drawn_30 (by decide) ?_
    refine wp_iushr (v0 := nI (kz16 (((((w.1 2513)) * (1103515245)) + (12345))))) d_X1_drawn_32 (kz16_eq _) ?_
    refine wp_aload_n 0 d_X1_drawn_33 rfl rfl ?_
    refine wp_getfield (v := .int (nI (p))) d_X1_drawn_34 gf_X1_59 (hp_25 _ _ _ _ _) (congrArg (fun z => some (Value.int z)) hp) ?_
    refine wp_irem d_X1_drawn_37 (nI_ne0 (by omega) (by omega)) ?_
    refine wp_v (v0 := nI ((kz16 (((((w.1 2513)) * (1103515245)) + (12345)))) % (p))) (pk_rem (a := kz16 (((((w.1 2513)) * (1103515245)) + (12345)))) (d := p) (by have := kz16_lt; first | omega | (have := kz16_lt (((((w.1 2513)) * (1103515245)) + (12345))); omega)) (by omega) (by omega)) ?_
    refine wp_istore_n [(1, .int (nI ((kz16 (((((w.1 2513)) * (1103515245)) + (12345)))) % (p)))), (0, .ref (25))] d_X1_drawn_38 rfl (Nat.le_of_ble_eq_true rfl) rfl ?_
    have hix := Nat.mod_lt (kz16 (w.1 2513 * 1103515245 + 12345)) (show 0 < p by omega)
    refine wp_aload_n 1 d_X1_drawn_39 rfl rfl ?_
    refine wp_getfield (v := .ref (34)) d_X1_drawn_40 gf_X1_39 (hp_25 _ _ _ _ _) rfl ?_
    refine wp_iload_n 0 d_X1_drawn_43 rfl rfl ?_
    refine wp_aload_n 1 d_X1_drawn_44 rfl rfl ?_
    refine wp_getfield (v := .ref (34)) d_X1_drawn_45 gf_X1_39 (hp_25 _ _ _ _ _) rfl ?_
    refine wp_iload_n 0 d_X1_drawn_48 rfl rfl ?_
    refine wp_iaload (v := (w.2.1 34) ((kz16 (((((w.1 2513)) * (1103515245)) + (12345)))) % (p))) d_X1_drawn_49 (hp_34 _ _ _ _ _) (vp_in_nI (by omega) (by omega)) (congrArg ((w.2.1 34)) (nI_clamp (by omega))) ?_
    refine wp_iconst (v0 := 1) d_X1_drawn_50 rfl ?_
    refine wp_iadd d_X1_drawn_51 ?_
    refine wp_iconst (v0 := 4) d_X1_drawn_52 rfl ?_
    refine wp_irem d_X1_drawn_53 (by decide) ?_
    refine wp_iastore (h' := HP c (setA (setS w 2513 ((((w.1 2513)) * (1103515245)) + (12345))) 34 (upd (w.2.1 34) ((kz16 (((((w.1 2513)) * (1103515245)) + (12345)))) % (p)) ((((w.2.1 34) ((kz16 (((((w.1 2513)) * (1103515245)) + (12345)))) % (p))) + (1)) - (((w.2.1 34) ((kz16 (((((w.1 2513)) * (1103515245)) + (12345)))) % (p))) + (1)) / (4) * (4)))) m v E) d_X1_drawn_54 (hp_34 _ _ _ _ _) (vp_in_nI (by omega) (by omega)) (by rw [nI_clamp (by omega)]; exact (hpa_34 _ _ _ _ _ _)) ?_
    refine wp_iload_n 0 d_X1_drawn_55 rfl rfl ?_
    refine wp_reti d_X1_drawn_56 rfl ?_
    exact Or.inr ⟨by omega, rfl, rfl⟩
  · refine wp_bipush (v0 := -3) d_X1_drawn_8 (by decide) ?_
    refine wp_reti d_X1_drawn_10 rfl ?_
    exact Or.inl ⟨by omega, rfl, rfl⟩
theorem s_X9_draw {X : kX} {d : Nat} {c w m v : kZ} {E : kH} {p : Nat} (hp : c.1 107 = nI p) (hp4 : p ≤ 4) : WP X (d + 1) 0 0 Y_X9_draw 0 [(0, .ref 0)] [] (HP c w m v E) (fun r h1 => (p = 0 ∧ r = some (.int (-3)) ∧ h1 = HP c w m v E) ∨ (0 < p ∧ r = some (.int (nI (kz16 (c.1 113 * 1103515245 + 12345) % p))) ∧ h1 = HP (setA (setS c 113 (c.1 113 * 1103515245 + 12345)) 10 (upd (c.2.1 10) (kz16 (c.1 113 * 1103515245 + 12345) % p) (((c.2.1 10) (kz16 (c.1 113 * 1103515245 + 12345) % p)) + 1 - (((c.2.1 10) (kz16 (c.1 113 * 1103515245 + 12345) % p)) + 1) / 4 * 4))) w m v E)) := by
  refine wp_aload_n 0 d_X9_draw_0 rfl rfl ?_
  refine wp_getfield (v := .ref 1) d_X9_draw_1 gf_X9_12 (hp_0 _ _ _ _ _) rfl ?_
  refine wp_virtual0 (As := []) d_X9_draw_4 lk_X9_290 mv_X1_drawn in_X1_drawn se_X1_drawn (Nat.le_of_ble_eq_true rfl) (Nat.le_of_ble_eq_true rfl) (hp_1 _ _ _ _ _) rfl (s_X1_drawn hp hp4) (fun v1 h1 q1 => ?_)
  rcases q1 with ⟨a1, rfl, rfl⟩ | ⟨a1, rfl, rfl⟩
  · exact wp_reti d_X9_draw_7 rfl (Or.inl ⟨a1, rfl, rfl⟩)
  · exact wp_reti d_X9_draw_7 rfl (Or.inr ⟨a1, rfl, rfl⟩)
theorem s_X9_keep {X : kX} {d : Nat} {c w m v : kZ} {E : kH}  : WP X (d + 2) 0 0 Y_X9_keep 0 [(0, .ref (0))] [] (HP c w m v E) (fun r h1 => r = some (.int 1) ∧ ∃ c' : kZ, h1 = HP (setS c' 2 1) w m v E ∧ kBc c' 13 c 1 ∧ kBf c 13 c') := by
  refine wp_aload_n 0 d_X9_keep_0 rfl rfl ?_
  refine wp_getfield (v := .ref (13)) d_X9_keep_1 gf_X9_16 (hp_0 _ _ _ _ _) rfl ?_
  refine wp_aload_n 0 d_X9_keep_4 rfl rfl ?_
  refine wp_getfield (v := .ref (1)) d_X9_keep_5 gf_X9_12 (hp_0 _ _ _ _ _) rfl ?_
  refine wp_virtual0 (As := [.ref (1)]) d_X9_keep_8 lk_X9_207 mv_X1_become in_X1_become se_X1_become (Nat.le_of_ble_eq_true rfl) (Nat.le_of_ble_eq_true rfl) (hp_13 _ _ _ _ _) rfl s_X1_become_13_1 (fun v8 h8 q8 => ?_)
  obtain ⟨rfl, c', rfl, hbc, hbf⟩ := q8
  show WP _ _ _ _ _ 11 _ [] (HP c' w m v E) _
  refine wp_aload_n 0 d_X9_keep_11 rfl rfl ?_
  refine wp_iconst (v0 := 1) d_X9_keep_12 rfl ?_
  refine wp_putfield (h' := HP (setS c' 2 (1)) w m v E) d_X9_keep_13 gp_X9_371 kfit_z1 (hp_0 _ _ _ _ _) (Nat.le_of_ble_eq_true rfl) (hps_0_2 _ _ _ _ _ _) ?_
  refine wp_iconst (v0 := 1) d_X9_keep_16 rfl ?_
  refine wp_reti d_X9_keep_17 rfl ?_
  exact ⟨rfl, c', rfl, hbc, hbf⟩
theorem s_X9_again {X : kX} {d : Nat} {c w m v : kZ} {E : kH} (hk : c.1 2 = 0 ∨ c.1 2 = 1) : WP X (d + 2) 0 0 Y_X9_again 0 [(0, .ref (0))] [] (HP c w m v E) (fun r h1 => (c.1 2 = 0 ∧ r = some (.int (-3)) ∧ h1 = HP c w m v E) ∨ (c.1 2 = 1 ∧ ∃ c' : kZ, r = some (.int (c'.1 100)) ∧ h1 = HP c' w m v E ∧ kBc c' 1 c 13 ∧ kBf c 1 c')) := by
  refine wp_aload_n 0 d_X9_again_0 rfl rfl ?_
  refine wp_getfield (v := .int ((c.1 2))) d_X9_again_1 gf_X9_371 (hp_0 _ _ _ _ _) rfl ?_
  refine wp_if_ne 10 d_X9_again_4 rfl (fun c4 => ?_) (fun c4 => ?_)
  · refine wp_aload_n 0 d_X9_again_10 rfl rfl ?_
    refine wp_getfield (v := .ref (1)) d_X9_again_11 gf_X9_12 (hp_0 _ _ _ _ _) rfl ?_
    refine wp_aload_n 0 d_X9_again_14 rfl rfl ?_
    refine wp_getfield (v := .ref (13)) d_X9_again_15 gf_X9_16 (hp_0 _ _ _ _ _) rfl ?_
    refine wp_virtual0 (As := [.ref (13)]) d_X9_again_18 lk_X9_207 mv_X1_become in_X1_become se_X1_become (Nat.le_of_ble_eq_true rfl) (Nat.le_of_ble_eq_true rfl) (hp_1 _ _ _ _ _) rfl s_X1_become_1_13 (fun v18 h18 q18 => ?_)
    obtain ⟨rfl, c', rfl, hbc, hbf⟩ := q18
    show WP _ _ _ _ _ 21 _ [] (HP c' w m v E) _
    refine wp_aload_n 0 d_X9_again_21 rfl rfl ?_
    refine wp_getfield (v := .ref (1)) d_X9_again_22 gf_X9_12 (hp_0 _ _ _ _ _) rfl ?_
    refine wp_getfield (v := .int ((c'.1 100))) d_X9_again_25 gf_X9_102 (hp_1 _ _ _ _ _) rfl ?_
    refine wp_reti d_X9_again_28 rfl ?_
    exact Or.inr ⟨by rcases hk with e | e; exact absurd e c4; exact e, c', rfl, rfl, hbc, hbf⟩
  · refine wp_bipush (v0 := -3) d_X9_again_7 (by decide) ?_
    refine wp_reti d_X9_again_9 rfl ?_
    exact Or.inl ⟨c4, rfl, rfl⟩
theorem s_X10_changes {X : kX} {d : Nat} {c w m v : kZ} {E : kH} {a b : Nat} (ha : a < 4) (hb : b < 4) : WP X d 0 0 Y_X10_changes 0 [(0, .ref (80)), (1, .int (nI (a))), (2, .int (nI (b)))] [] (HP c w m v E) (kR none (HP c w (setA m 81 (upd (upd (upd (upd (m.2.1 81) (45 + 2 * a + 0) ((m.2.1 81) (45 + 2 * b + 0))) (45 + 2 * b + 0) ((m.2.1 81) (45 + 2 * a + 0))) (45 + 2 * a + 1) ((upd (upd (m.2.1 81) (45 + 2 * a + 0) ((m.2.1 81) (45 + 2 * b + 0))) (45 + 2 * b + 0) ((m.2.1 81) (45 + 2 * a + 0))) (45 + 2 * b + 1))) (45 + 2 * b + 1) ((upd (upd (m.2.1 81) (45 + 2 * a + 0) ((m.2.1 81) (45 + 2 * b + 0))) (45 + 2 * b + 0) ((m.2.1 81) (45 + 2 * a + 0))) (45 + 2 * a + 1)))) v E)) := by
  refine wp_iconst (v0 := 0) d_X10_changes_0 rfl ?_
  refine wp_istore_n [(3, .int (0)), (0, .ref (80)), (1, .int (nI (a))), (2, .int (nI (b)))] d_X10_changes_1 rfl (Nat.le_of_ble_eq_true rfl) rfl ?_
  refine wp_iload_n 0 d_X10_changes_2 rfl rfl ?_
  refine wp_iconst (v0 := 2) d_X10_changes_3 rfl ?_
  refine wp_icmp_ge 69 d_X10_changes_4 rfl (fun z => absurd z (by decide)) (fun _ => ?_)
  refine wp_aload_n 1 d_X10_changes_7 rfl rfl ?_
  refine wp_getfield (v := .ref (81)) d_X10_changes_8 gf_X10_7 (hp_80 _ _ _ _ _) rfl ?_
  refine wp_bipush (v0 := 45) d_X10_changes_11 (by decide) ?_
  refine wp_iconst (v0 := 2) d_X10_changes_13 rfl ?_
  refine wp_iload_n 2 d_X10_changes_14 rfl rfl ?_
  refine wp_imul d_X10_changes_15 ?_
  refine wp_v (v0 := nI ((2) * (a))) (pk_mul (2) (a)) ?_
  refine wp_iadd d_X10_changes_16 ?_
  refine wp_v (v0 := nI ((45) + ((2) * (a)))) (nI_add (45) ((2) * (a))) ?_
  refine wp_iload_n 0 d_X10_changes_17 rfl rfl ?_
  refine wp_iadd d_X10_changes_18 ?_
  refine wp_v (v0 := nI (((45) + ((2) * (a))) + (0))) (nI_add ((45) + ((2) * (a))) (0)) ?_
  refine wp_iaload (v := (m.2.1 81) (((45) + ((2) * (a))) + (0))) d_X10_changes_19 (hp_81 _ _ _ _ _) (vp_in_nI (by omega) (by omega)) (congrArg ((m.2.1 81)) (nI_clamp (by omega))) ?_
  refine wp_istore [(4, .int ((m.2.1 81) (((45) + ((2) * (a))) + (0)))), (3, .int (0)), (0, .ref (80)), (1, .int (nI (a))), (2, .int (nI (b)))] d_X10_changes_20 (Nat.le_of_ble_eq_true rfl) rfl ?_
  refine wp_aload_n 2 d_X10_changes_22 rfl rfl ?_
  refine wp_getfield (v := .ref (81)) d_X10_changes_23 gf_X10_7 (hp_80 _ _ _ _ _) rfl ?_
  refine wp_bipush (v0 := 45) d_X10_changes_26 (by decide) ?_
  refine wp_iconst (v0 := 2) d_X10_changes_28 rfl ?_
  refine wp_iload_n 3 d_X10_changes_29 rfl rfl ?_
  refine wp_imul d_X10_changes_30 ?_
  refine wp_v (v0 := nI ((2) * (a))) (pk_mul (2) (a)) ?_
  refine wp_iadd d_X10_changes_31 ?_
  refine wp_v (v0 := nI ((45) + ((2) * (a)))) (nI_add (45) ((2) * (a))) ?_
  refine wp_iload_n 1 d_X10_changes_32 rfl rfl ?_
  refine wp_iadd d_X10_changes_33 ?_
  refine wp_v (v0 := nI (((45) + ((2) * (a))) + (0))) (nI_add ((45) + ((2) * (a))) (0)) ?_
  refine wp_aload_n 2 d_X10_changes_34 rfl rfl ?_
  refine wp_getfield (v := .ref (81)) d_X10_changes_35 gf_X10_7 (hp_80 _ _ _ _ _) rfl ?_
  refine wp_bipush (v0 := 45) d_X10_changes_38 (by decide) ?_
  refine wp_iconst (v0 := 2) d_X10_changes_40 rfl ?_
  refine wp_iload_n 4 d_X10_changes_41 rfl rfl ?_
  refine wp_imul d_X10_changes_42 ?_
  refine wp_v (v0 := nI ((2) * (b))) (pk_mul (2) (b)) ?_
  refine wp_iadd d_X10_changes_43 ?_
  refine wp_v (v0 := nI ((45) + ((2) * (b)))) (nI_add (45) ((2) * (b))) ?_
  refine wp_iload_n 1 d_X10_changes_44 rfl rfl ?_
  refine wp_iadd d_X10_changes_45 ?_
  refine wp_v (v0 := nI (((45) + ((2) * (b))) + (0))) (nI_add ((45) + ((2) * (b))) (0)) ?_
  refine wp_iaload (v := (m.2.1 81) (((45) + ((2) * (b))) + (0))) d_X10_changes_46 (hp_81 _ _ _ _ _) (vp_in_nI (by omega) (by omega)) (congrArg ((m.2.1 81)) (nI_clamp (by omega))) ?_
  refine wp_iastore (h' := HP c w (setA m 81 (upd (m.2.1 81) (((45) + ((2) * (a))) + (0)) ((m.2.1 81) (((45) + ((2) * (b))) + (0))))) v E) d_X10_changes_47 (hp_81 _ _ _ _ _) (vp_in_nI (by omega) (by omega)) (by rw [nI_clamp (by omega)]; exact (hpa_81 _ _ _ _ _ _)) ?_
  refine wp_aload_n 2 d_X10_changes_48 rfl rfl ?_
  refine wp_getfield (v := .ref (81)) d_X10_changes_49 gf_X10_7 (hp_80 _ _ _ _ _) rfl ?_
  refine wp_bipush (v0 := 45) d_X10_changes_52 (by decide) ?_
  refine wp_iconst (v0 := 2) d_X10_changes_54 rfl ?_
  refine wp_iload_n 4 d_X10_changes_55 rfl rfl ?_
  refine wp_imul d_X10_changes_56 ?_
  refine wp_v (v0 := nI ((2) * (b))) (pk_mul (2) (b)) ?_
  refine wp_iadd d_X10_changes_57 ?_
  refine wp_v (v0 := nI ((45) + ((2) * (b)))) (nI_add (45) ((2) * (b))) ?_
  refine wp_iload_n 1 d_X10_changes_58 rfl rfl ?_
  refine wp_iadd d_X10_changes_59 ?_
  refine wp_v (v0 := nI (((45) + ((2) * (b))) + (0))) (nI_add ((45) + ((2) * (b))) (0)) ?_
  refine wp_iload 0 d_X10_changes_60 rfl ?_
  refine wp_iastore (h' := HP c w (setA (setA m 81 (upd (m.2.1 81) (((45) + ((2) * (a))) + (0)) ((m.2.1 81) (((45) + ((2) * (b))) + (0))))) 81 (upd (upd (m.2.1 81) (((45) + ((2) * (a))) + (0)) ((m.2.1 81) (((45) + ((2) * (b))) + (0)))) (((45) + ((2) * (b))) + (0)) ((m.2.1 81) (((45) + ((2) * (a))) + (0))))) v E) d_X10_changes_62 (hp_81 _ _ _ _ _) (vp_in_nI (by omega) (by omega)) (by rw [nI_clamp (by omega)]; exact (hpa_81 _ _ _ _ _ _)) ?_
  refine wp_iinc (v0 := 1) [(3, .int (1)), (4, .int ((m.2.1 81) (((45) + ((2) * (a))) + (0)))), (0, .ref (80)), (1, .int (nI (a))), (2, .int (nI (b)))] 1 d_X10_changes_63 rfl (by decide) (Nat.le_of_ble_eq_true rfl) rfl ?_
  refine wp_goto 2 d_X10_changes_66 rfl ?_
  refine wp_iload_n 0 d_X10_changes_2 rfl rfl ?_
  refine wp_iconst (v0 := 2) d_X10_changes_3 rfl ?_
  refine wp_icmp_ge 69 d_X10_changes_4 rfl (fun z => absurd z (by decide)) (fun _ => ?_)
  refine wp_aload_n 2 d_X10_changes_7 rfl rfl ?_
  refine wp_getfield (v := .ref (81)) d_X10_changes_8 gf_X10_7 (hp_80 _ _ _ _ _) rfl ?_
  refine wp_bipush (v0 := 45) d_X10_changes_11 (by decide) ?_
  refine wp_iconst (v0 := 2) d_X10_changes_13 rfl ?_
  refine wp_iload_n 3 d_X10_changes_14 rfl rfl ?_
  refine wp_imul d_X10_changes_15 ?_
  refine wp_v (v0 := nI ((2) * (a))) (pk_mul (2) (a)) ?_
  refine wp_iadd d_X10_changes_16 ?_
  refine wp_v (v0 := nI ((45) + ((2) * (a)))) (nI_add (45) ((2) * (a))) ?_
  refine wp_iload_n 0 d_X10_changes_17 rfl rfl ?_
  refine wp_iadd d_X10_changes_18 ?_
  refine wp_v (v0 := nI (((45) + ((2) * (a))) + (1))) (nI_add ((45) + ((2) * (a))) (1)) ?_
  refine wp_iaload (v := (upd (upd (m.2.1 81) (((45) + ((2) * (a))) + (0)) ((m.2.1 81) (((45) + ((2) * (b))) + (0)))) (((45) + ((2) * (b))) + (0)) ((m.2.1 81) (((45) + ((2) * (a))) + (0)))) (((45) + ((2) * (a))) + (1))) d_X10_changes_19 (hp_81 _ _ _ _ _) (vp_in_nI (by omega) (by omega)) (congrArg ((upd (upd (m.2.1 81) (((45) + ((2) * (a))) + (0)) ((m.2.1 81) (((45) + ((2) * (b))) + (0)))) (((45) + ((2) * (b))) + (0)) ((m.2.1 81) (((45) + ((2) * (a))) + (0))))) (nI_clamp (by omega))) ?_
  refine wp_istore [(4, .int ((upd (upd (m.2.1 81) (((45) + ((2) * (a))) + (0)) ((m.2.1 81) (((45) + ((2) * (b))) + (0)))) (((45) + ((2) * (b))) + (0)) ((m.2.1 81) (((45) + ((2) * (a))) + (0)))) (((45) + ((2) * (a))) + (1)))), (3, .int (1)), (0, .ref (80)), (1, .int (nI (a))), (2, .int (nI (b)))] d_X10_changes_20 (Nat.le_of_ble_eq_true rfl) rfl ?_
  refine wp_aload_n 2 d_X10_changes_22 rfl rfl ?_
  refine wp_getfield (v := .ref (81)) d_X10_changes_23 gf_X10_7 (hp_80 _ _ _ _ _) rfl ?_
  refine wp_bipush (v0 := 45) d_X10_changes_26 (by decide) ?_
  refine wp_iconst (v0 := 2) d_X10_changes_28 rfl ?_
  refine wp_iload_n 3 d_X10_changes_29 rfl rfl ?_
  refine wp_imul d_X10_changes_30 ?_
  refine wp_v (v0 := nI ((2) * (a))) (pk_mul (2) (a)) ?_
  refine wp_iadd d_X10_changes_31 ?_
  refine wp_v (v0 := nI ((45) + ((2) * (a)))) (nI_add (45) ((2) * (a))) ?_
  refine wp_iload_n 1 d_X10_changes_32 rfl rfl ?_
  refine wp_iadd d_X10_changes_33 ?_
  refine wp_v (v0 := nI (((45) + ((2) * (a))) + (1))) (nI_add ((45) + ((2) * (a))) (1)) ?_
  refine wp_aload_n 2 d_X10_changes_34 rfl rfl ?_
  refine wp_getfield (v := .ref (81)) d_X10_changes_35 gf_X10_7 (hp_80 _ _ _ _ _) rfl ?_
  refine wp_bipush (v0 := 45) d_X10_changes_38 (by decide) ?_
  refine wp_iconst (v0 := 2) d_X10_changes_40 rfl ?_
  refine wp_iload_n 4 d_X10_changes_41 rfl rfl ?_
  refine wp_imul d_X10_changes_42 ?_
  refine wp_v (v0 := nI ((2) * (b))) (pk_mul (2) (b)) ?_
  refine wp_iadd d_X10_changes_43 ?_
  refine wp_v (v0 := nI ((45) + ((2) * (b)))) (nI_add (45) ((2) * (b))) ?_
  refine wp_iload_n 1 d_X10_changes_44 rfl rfl ?_
  refine wp_iadd d_X10_changes_45 ?_
  refine wp_v (v0 := nI (((45) + ((2) * (b))) + (1))) (nI_add ((45) + ((2) * (b))) (1)) ?_
  refine wp_iaload (v := (upd (upd (m.2.1 81) (((45) + ((2) * (a))) + (0)) ((m.2.1 81) (((45) + ((2) * (b))) + (0)))) (((45) + ((2) * (b))) + (0)) ((m.2.1 81) (((45) + ((2) * (a))) + (0)))) (((45) + ((2) * (b))) + (1))) d_X10_changes_46 (hp_81 _ _ _ _ _) (vp_in_nI (by omega) (by omega)) (congrArg ((upd (upd (m.2.1 81) (((45) + ((2) * (a))) + (0)) ((m.2.1 81) (((45) + ((2) * (b))) + (0)))) (((45) + ((2) * (b))) + (0)) ((m.2.1 81) (((45) + ((2) * (a))) + (0))))) (nI_clamp (by omega))) ?_
  refine wp_iastore (h' := HP c w (setA (setA (setA m 81 (upd (m.2.1 81) (((45) + ((2) * (a))) + (0)) ((m.2.1 81) (((45) + ((2) * (b))) + (0))))) 81 (upd (upd (m.2.1 81) (((45) + ((2) * (a))) + (0)) ((m.2.1 81) (((45) + ((2) * (b))) + (0)))) (((45) + ((2) * (b))) + (0)) ((m.2.1 81) (((45) + ((2) * (a))) + (0))))) 81 (upd (upd (upd (m.2.1 81) (((45) + ((2) * (a))) + (0)) ((m.2.1 81) (((45) + ((2) * (b))) + (0)))) (((45) + ((2) * (b))) + (0)) ((m.2.1 81) (((45) + ((2) * (a))) + (0)))) (((45) + ((2) * (a))) + (1)) ((upd (upd (m.2.1 81) (((45) + ((2) * (a))) + (0)) ((m.2.1 81) (((45) + ((2) * (b))) + (0)))) (((45) + ((2) * (b))) + (0)) ((m.2.1 81) (((45) + ((2) * (a))) + (0)))) (((45) + ((2) * (b))) + (1))))) v E) d_X10_changes_47 (hp_81 _ _ _ _ _) (vp_in_nI (by omega) (by omega)) (by rw [nI_clamp (by omega)]; exact (hpa_81 _ _ _ _ _ _)) ?_
  refine wp_aload_n 2 d_X10_changes_48 rfl rfl ?_
  refine wp_getfield (v := .ref (81)) d_X10_changes_49 gf_X10_7 (hp_80 _ _ _ _ _) rfl ?_
  refine wp_bipush (v0 := 45) d_X10_changes_52 (by decide) ?_
  refine wp_iconst (v0 := 2) d_X10_changes_54 rfl ?_
  refine wp_iload_n 4 d_X10_changes_55 rfl rfl ?_
  refine wp_imul d_X10_changes_56 ?_
  refine wp_v (v0 := nI ((2) * (b))) (pk_mul (2) (b)) ?_
  refine wp_iadd d_X10_changes_57 ?_
  refine wp_v (v0 := nI ((45) + ((2) * (b)))) (nI_add (45) ((2) * (b))) ?_
  refine wp_iload_n 1 d_X10_changes_58 rfl rfl ?_
  refine wp_iadd d_X10_changes_59 ?_
  refine wp_v (v0 := nI (((45) + ((2) * (b))) + (1))) (nI_add ((45) + ((2) * (b))) (1)) ?_
  refine wp_iload 0 d_X10_changes_60 rfl ?_
  refine wp_iastore (h' := HP c w (setA (setA (setA (setA m 81 (upd (m.2.1 81) (((45) + ((2) * (a))) + (0)) ((m.2.1 81) (((45) + ((2) * (b))) + (0))))) 81 (upd (upd (m.2.1 81) (((45) + ((2) * (a))) + (0)) ((m.2.1 81) (((45) + ((2) * (b))) + (0)))) (((45) + ((2) * (b))) + (0)) ((m.2.1 81) (((45) + ((2) * (a))) + (0))))) 81 (upd (upd (upd (m.2.1 81) (((45) + ((2) * (a))) + (0)) ((m.2.1 81) (((45) + ((2) * (b))) + (0)))) (((45) + ((2) * (b))) + (0)) ((m.2.1 81) (((45) + ((2) * (a))) + (0)))) (((45) + ((2) * (a))) + (1)) ((upd (upd (m.2.1 81) (((45) + ((2) * (a))) + (0)) ((m.2.1 81) (((45) + ((2) * (b))) + (0)))) (((45) + ((2) * (b))) + (0)) ((m.2.1 81) (((45) + ((2) * (a))) + (0)))) (((45) + ((2) * (b))) + (1))))) 81 (upd (upd (upd (upd (m.2.1 81) (((45) + ((2) * (a))) + (0)) ((m.2.1 81) (((45) + ((2) * (b))) + (0)))) (((45) + ((2) * (b))) + (0)) ((m.2.1 81) (((45) + ((2) * (a))) + (0)))) (((45) + ((2) * (a))) + (1)) ((upd (upd (m.2.1 81) (((45) + ((2) * (a))) + (0)) ((m.2.1 81) (((45) + ((2) * (b))) + (0)))) (((45) + ((2) * (b))) + (0)) ((m.2.1 81) (((45) + ((2) * (a))) + (0)))) (((45) + ((2) * (b))) + (1)))) (((45) + ((2) * (b))) + (1)) ((upd (upd (m.2.1 81) (((45) + ((2) * (a))) + (0)) ((m.2.1 81) (((45) + ((2) * (b))) + (0)))) (((45) + ((2) * (b))) + (0)) ((m.2.1 81) (((45) + ((2) * (a))) + (0)))) (((45) + ((2) * (a))) + (1))))) v E) d_X10_changes_62 (hp_81 _ _ _ _ _) (vp_in_nI (by omega) (by omega)) (by rw [nI_clamp (by omega)]; exact (hpa_81 _ _ _ _ _ _)) ?_
  refine wp_iinc (v0 := 2) [(3, .int (2)), (4, .int ((upd (upd (m.2.1 81) (((45) + ((2) * (a))) + (0)) ((m.2.1 81) (((45) + ((2) * (b))) + (0)))) (((45) + ((2) * (b))) + (0)) ((m.2.1 81) (((45) + ((2) * (a))) + (0)))) (((45) + ((2) * (a))) + (1)))), (0, .ref (80)), (1, .int (nI (a))), (2, .int (nI (b)))] 1 d_X10_changes_63 rfl (by decide) (Nat.le_of_ble_eq_true rfl) rfl ?_
  refine wp_goto 2 d_X10_changes_66 rfl ?_
  refine wp_iload_n 0 d_X10_changes_2 rfl rfl ?_
  refine wp_iconst (v0 := 2) d_X10_changes_3 rfl ?_
  refine wp_icmp_ge 69 d_X10_changes_4 rfl (fun _ => ?_) (fun z => absurd z (by decide))
  refine wp_vret d_X10_changes_69 rfl ?_
  exact ⟨rfl, by rw [setA_idem, setA_idem, setA_idem]⟩
theorem s_X10_exchange {X : kX} {d : Nat} {c w m v : kZ} {E : kH} {p : Nat} (hp : m.2.1 81 2 = nI p) (hp4 : p ≤ 4) (q u : Int32) : WP X (d + 2) 0 0 Y_X10_exchange 0 [(0, .ref (80)), (1, .int (q)), (2, .int (u))] [] (HP c w m v E) (fun r h1 => (¬ ((0 ≤ q.toInt ∧ q.toInt < (p : Int)) ∧ (0 ≤ u.toInt ∧ u.toInt < (p : Int))) ∧ r = some (.int (-1)) ∧ h1 = HP c w m v E) ∨ ∃ a b : Nat, a < p ∧ b < p ∧ q = nI a ∧ u = nI b ∧ r = some (.int (kb (a ≠ b))) ∧ h1 = HP c w (setA m 81 (upd (upd (upd (upd (m.2.1 81) (45 + 2 * a + 0) ((m.2.1 81) (45 + 2 * b + 0))) (45 + 2 * b + 0) ((m.2.1 81) (45 + 2 * a + 0))) (45 + 2 * a + 1) ((upd (upd (m.2.1 81) (45 + 2 * a + 0) ((m.2.1 81) (45 + 2 * b + 0))) (45 + 2 * b + 0) ((m.2.1 81) (45 + 2 * a + 0))) (45 + 2 * b + 1))) (45 + 2 * b + 1) ((upd (upd (m.2.1 81) (45 + 2 * a + 0) ((m.2.1 81) (45 + 2 * b + 0))) (45 + 2 * b + 0) ((m.2.1 81) (45 + 2 * a + 0))) (45 + 2 * a + 1)))) v E) := by
  refine wp_aload_n 0 d_X10_exchange_0 rfl rfl ?_
  refine wp_iload_n 1 d_X10_exchange_1 rfl rfl ?_
  refine wp_vrt_i (As := [.int (q)]) (x0 := kb (0 ≤ ((q) : Int32).toInt ∧ ((q) : Int32).toInt < (p : Int))) (h1 := HP c w m v E) d_X10_exchange_2 lk_X10_179 mv_X10_isPlace in_X10_isPlace se_X10_isPlace (Nat.le_of_ble_eq_true rfl) (Nat.le_of_ble_eq_true rfl) (hp_80 _ _ _ _ _) rfl (s_X10_isPlace hp (by omega) (q)) ?_
  refine wp_ifb_eq 16 d_X10_exchange_5 rfl (fun c5 => ?_) (fun c5 => ?_)
  · refine wp_iconst (v0 := -1) d_X10_exchange_16 rfl ?_
    refine wp_reti d_X10_exchange_17 rfl ?_
    exact Or.inl ⟨by omega, rfl, rfl⟩
  · refine wp_aload_n 0 d_X10_exchange_8 rfl rfl ?_
    refine wp_iload_n 2 d_X10_exchange_9 rfl rfl ?_
    refine wp_vrt_i (As := [.int (u)]) (x0 := kb (0 ≤ ((u) : Int32).toInt ∧ ((u) : Int32).toInt < (p : Int))) (h1 := HP c w m v E) d_X10_exchange_10 lk_X10_179 mv_X10_isPlace in_X10_isPlace se_X10_isPlace (Nat.le_of_ble_eq_true rfl) (Nat.le_of_ble_eq_true rfl) (hp_80 _ _ _ _ _) rfl (s_X10_isPlace hp (by omega) (u)) ?_
    refine wp_ifb_ne 18 d_X10_exchange_13 rfl (fun c13 => ?_) (fun c13 => ?_)
    · obtain ⟨a, ha, rfl⟩ := k_nat c5
      obtain ⟨b, hb, rfl⟩ := k_nat c13
      refine wp_aload_n 0 d_X10_exchange_18 rfl rfl ?_
      refine wp_iload_n 1 d_X10_exchange_19 rfl rfl ?_
      refine wp_iload_n 2 d_X10_exchange_20 rfl rfl ?_
      refine wp_vrt_v (As := [.int (nI (a)), .int (nI (b))]) (h1 := HP c w (setA m 81 (upd (upd (upd (upd (m.2.1 81) (45 + 2 * (a) + 0) ((m.2.1 81) (45 + 2 * (b) + 0))) (45 + 2 * (b) + 0) ((m.2.1 81) (45 + 2 * (a) + 0))) (45 + 2 * (a) + 1) ((upd (upd (m.2.1 81) (45 + 2 * (a) + 0) ((m.2.1 81) (45 + 2 * (b) + 0))) (45 + 2 * (b) + 0) ((m.2.1 81) (45 + 2 * (a) + 0))) (45 + 2 * (b) + 1))) (45 + 2 * (b) + 1) ((upd (upd (m.2.1 81) (45 + 2 * (a) + 0) ((m.2.1 81) (45 + 2 * (b) + 0))) (45 + 2 * (b) + 0) ((m.2.1 81) (45 + 2 * (a) + 0))) (45 + 2 * (a) + 1)))) v E) d_X10_exchange_21 lk_X10_182 mv_X10_changes in_X10_changes se_X10_changes (Nat.le_of_ble_eq_true rfl) (Nat.le_of_ble_eq_true rfl) (hp_80 _ _ _ _ _) rfl (s_X10_changes (a := a) (b := b) (by omega) (by omega)) ?_
      refine wp_iload_n 1 d_X10_exchange_24 rfl rfl ?_
      refine wp_iload_n 2 d_X10_exchange_25 rfl rfl ?_
      refine wp_ncmp_ne (a := a) (b := b) 33 d_X10_exchange_26 rfl (by omega) (by omega) (fun c26 => ?_) (fun c26 => ?_)
      · refine wp_iconst (v0 := 1) d_X10_exchange_33 rfl ?_
        refine wp_reti d_X10_exchange_34 rfl ?_
        exact Or.inr ⟨a, b, ha, hb, rfl, rfl, congrArg (fun z => some (Value.int z)) (Eq.symm (kb_t c26)), rfl⟩
      · refine wp_iconst (v0 := 0) d_X10_exchange_29 rfl ?_
        refine wp_goto 34 d_X10_exchange_30 rfl ?_
        refine wp_reti d_X10_exchange_34 rfl ?_
        exact Or.inr ⟨a, b, ha, hb, rfl, rfl, congrArg (fun z => some (Value.int z)) (Eq.symm (kb_f (fun z9 => z9 c26))), rfl⟩
    · refine wp_iconst (v0 := -1) d_X10_exchange_16 rfl ?_
      refine wp_reti d_X10_exchange_17 rfl ?_
      exact Or.inl ⟨by omega, rfl, rfl⟩
theorem s_X10_take_l {X : kX} {d : Nat} {c w m v : kZ} {E : kH} {p : Nat} (hp : m.2.1 81 2 = nI p) (hp4 : p ≤ 4) {j : Nat} (hj : j < p) : ∀ (k : Nat) (i : Nat), (i + k = 45 + 2 * (p - 1)) → (45 + 2 * j ≤ i) → WP X d 0 0 Y_X10_take 39 [(3, .int (nI (i))), (2, .int ((m.2.1 81) (45 + 2 * j))), (0, .ref (80))] [] (HP c w (setA m 81 (ksh2 (upd (m.2.1 81) 2 (nI (p - 1))) (45 + 2 * j) i)) v E) (kR (some (.int ((m.2.1 81) (45 + 2 * j)))) (HP c w (setA m 81 (ksh2 (upd (m.2.1 81) 2 (nI (p - 1))) (45 + 2 * j) (45 + 2 * (p - 1)))) v E)) := by
  intro k
  induction k using Nat.strongRecOn with
  | ind k ih =>
    intro i hi hj1
    refine wp_iload_n 0 d_X10_take_39 rfl rfl ?_
    refine wp_bipush (v0 := 45) d_X10_take_40 (by decide) ?_
    refine wp_iconst (v0 := 2) d_X10_take_42 rfl ?_
    refine wp_aload_n 2 d_X10_take_43 rfl rfl ?_
    refine wp_getfield (v := .ref (81)) d_X10_take_44 gf_X10_7 (hp_80 _ _ _ _ _) rfl ?_
    refine wp_iconst (v0 := 2) d_X10_take_47 rfl ?_
    refine wp_iaload (v := nI (p - 1)) d_X10_take_48 (hp_81 _ _ _ _ _) (kin rfl) (show (ksh2 (upd (m.2.1 81) 2 (nI (p - 1))) (45 + 2 * j) i) (2) = nI (p - 1) from by rw [ksh2_lo _ _ _ (by omega), upd_s]) ?_
    refine wp_imul d_X10_take_49 ?_
    refine wp_v (v0 := nI ((2) * (p - 1))) (pk_mul (2) (p - 1)) ?_
    refine wp_iadd d_X10_take_50 ?_
    refine wp_v (v0 := nI ((45) + ((2) * (p - 1)))) (nI_add (45) ((2) * (p - 1))) ?_
    refine wp_ncmp_ge (a := i) (b := (45) + ((2) * (p - 1))) 74 d_X10_take_51 rfl (by omega) (by omega) (fun c51 => ?_) (fun c51 => ?_)
    · refine wp_iload_n 1 d_X10_take_74 rfl rfl ?_
      refine wp_reti d_X10_take_75 rfl ?_
      obtain rfl : i = 45 + 2 * (p - 1) := by omega
      exact kR_i rfl rfl
    · refine wp_aload_n 2 d_X10_take_54 rfl rfl ?_
      refine wp_getfield (v := .ref (81)) d_X10_take_55 gf_X10_7 (hp_80 _ _ _ _ _) rfl ?_
      refine wp_iload_n 0 d_X10_take_58 rfl rfl ?_
      refine wp_aload_n 2 d_X10_take_59 rfl rfl ?_
      refine wp_getfield (v := .ref (81)) d_X10_take_60 gf_X10_7 (hp_80 _ _ _ _ _) rfl ?_
      refine wp_iload_n 0 d_X10_take_63 rfl rfl ?_
      refine wp_iconst (v0 := 2) d_X10_take_64 rfl ?_
      refine wp_iadd d_X10_take_65 ?_
      refine wp_v (v0 := nI ((i) + (2))) (nI_add (i) (2)) ?_
      refine wp_iaload (v := (ksh2 (upd (m.2.1 81) 2 (nI (p - 1))) (45 + 2 * j) i) ((i) + (2))) d_X10_take_66 (hp_81 _ _ _ _ _) (vp_in_nI (by omega) (by omega)) (congrArg ((ksh2 (upd (m.2.1 81) 2 (nI (p - 1))) (45 + 2 * j) i)) (nI_clamp (by omega))) ?_
      refine wp_iastore (h' := HP c w (setA (setA m 81 (ksh2 (upd (m.2.1 81) 2 (nI (p - 1))) (45 + 2 * j) i)) 81 (upd (ksh2 (upd (m.2.1 81) 2 (nI (p - 1))) (45 + 2 * j) i) (i) ((ksh2 (upd (m.2.1 81) 2 (nI (p - 1))) (45 + 2 * j) i) ((i) + (2))))) v E) d_X10_take_67 (hp_81 _ _ _ _ _) (vp_in_nI (by omega) (by omega)) (by rw [nI_clamp (by omega)]; exact (hpa_81 _ _ _ _ _ _)) ?_
      refine wp_iinc (v0 := nI ((i) + 1)) [(3, .int (nI ((i) + 1))), (2, .int ((m.2.1 81) (45 + 2 * j))), (0, .ref (80))] 0 d_X10_take_68 rfl (nI_add (i) 1) (Nat.le_of_ble_eq_true rfl) rfl ?_
      refine wp_goto 39 d_X10_take_71 rfl ?_
      refine wp_h (h' := HP c w (setA m 81 (ksh2 (upd (m.2.1 81) 2 (nI (p - 1))) (45 + 2 * j) (i + 1))) v E) ?_ ?_
      · rw [setA_idem, ksh2_at _ _ _ (show i ≤ i + 2 by omega), ksh2_s _ hj1]
      refine wp_sub [(3, .int (nI (i + 1))), (2, .int ((m.2.1 81) (45 + 2 * j))), (0, .ref 80)] [0, 1, 2] rfl ?_
      exact ih (k - 1) (by omega) (i + 1) (by omega) (by omega)
theorem s_X10_take {X : kX} {d : Nat} {c w m v : kZ} {E : kH} {p : Nat} (hp : m.2.1 81 2 = nI p) (hp4 : p ≤ 4) (q : Int32) : WP X (d + 2) 0 0 Y_X10_take 0 [(0, .ref (80)), (1, .int (q))] [] (HP c w m v E) (fun r h1 => (¬ (0 ≤ q.toInt ∧ q.toInt < (p : Int)) ∧ r = some (.int (-1)) ∧ h1 = HP c w m v E) ∨ ∃ j : Nat, j < p ∧ q = nI j ∧ r = some (.int ((m.2.1 81) (45 + 2 * j))) ∧ h1 = HP c w (setA m 81 (ksh2 (upd (m.2.1 81) 2 (nI (p - 1))) (45 + 2 * j) (45 + 2 * (p - 1)))) v E) := by
  refine wp_aload_n 0 d_X10_take_0 rfl rfl ?_
  refine wp_iload_n 1 d_X10_take_1 rfl rfl ?_
  refine wp_vrt_i (As := [.int (q)]) (x0 := kb (0 ≤ ((q) : Int32).toInt ∧ ((q) : Int32).toInt < (p : Int))) (h1 := HP c w m v E) d_X10_take_2 lk_X10_179 mv_X10_isPlace in_X10_isPlace se_X10_isPlace (Nat.le_of_ble_eq_true rfl) (Nat.le_of_ble_eq_true rfl) (hp_80 _ _ _ _ _) rfl (s_X10_isPlace hp (by omega) (q)) ?_
  refine wp_ifb_ne 10 d_X10_take_5 rfl (fun c5 => ?_) (fun c5 => ?_)
  · obtain ⟨j, hj, rfl⟩ := k_nat c5
    refine wp_aload_n 0 d_X10_take_10 rfl rfl ?_
    refine wp_getfield (v := .ref (81)) d_X10_take_11 gf_X10_7 (hp_80 _ _ _ _ _) rfl ?_
    refine wp_bipush (v0 := 45) d_X10_take_14 (by decide) ?_
    refine wp_iconst (v0 := 2) d_X10_take_16 rfl ?_
    refine wp_iload_n 1 d_X10_take_17 rfl rfl ?_
    refine wp_imul d_X10_take_18 ?_
    refine wp_v (v0 := nI ((2) * (j))) (pk_mul (2) (j)) ?_
    refine wp_iadd d_X10_take_19 ?_
    refine wp_v (v0 := nI ((45) + ((2) * (j)))) (nI_add (45) ((2) * (j))) ?_
    refine wp_iaload (v := (m.2.1 81) ((45) + ((2) * (j)))) d_X10_take_20 (hp_81 _ _ _ _ _) (vp_in_nI (by omega) (by omega)) (congrArg ((m.2.1 81)) (nI_clamp (by omega))) ?_
    refine wp_istore_n [(2, .int ((m.2.1 81) ((45) + ((2) * (j))))), (0, .ref (80)), (1, .int (nI (j)))] d_X10_take_21 rfl (Nat.le_of_ble_eq_true rfl) rfl ?_
    refine wp_aload_n 1 d_X10_take_22 rfl rfl ?_
    refine wp_getfield (v := .ref (81)) d_X10_take_23 gf_X10_7 (hp_80 _ _ _ _ _) rfl ?_
    refine wp_iconst (v0 := 2) d_X10_take_26 rfl ?_
    refine wp_dup2 d_X10_take_27 rfl rfl ?_
    refine wp_iaload (v := nI (p)) d_X10_take_28 (hp_81 _ _ _ _ _) (kin rfl) hp ?_
    refine wp_iconst (v0 := 1) d_X10_take_29 rfl ?_
    refine wp_isub d_X10_take_30 ?_
    refine wp_v (v0 := nI ((p) - (1))) (pk_sub (a := p) (b := 1) (by omega)) ?_
    refine wp_iastore (h' := HP c w (setA m 81 (upd (m.2.1 81) 2 (nI ((p) - (1))))) v E) d_X10_take_31 (hp_81 _ _ _ _ _) (kin rfl) ((hpa_81 _ _ _ _ _ _)) ?_
    refine wp_bipush (v0 := 45) d_X10_take_32 (by decide) ?_
    refine wp_iconst (v0 := 2) d_X10_take_34 rfl ?_
    refine wp_iload_n 2 d_X10_take_35 rfl rfl ?_
    refine wp_imul d_X10_take_36 ?_
    refine wp_v (v0 := nI ((2) * (j))) (pk_mul (2) (j)) ?_
    refine wp_iadd d_X10_take_37 ?_
    refine wp_v (v0 := nI ((45) + ((2) * (j)))) (nI_add (45) ((2) * (j))) ?_
    refine wp_istore_n [(3, .int (nI ((45) + ((2) * (j))))), (2, .int ((m.2.1 81) ((45) + ((2) * (j))))), (0, .ref (80)), (1, .int (nI (j)))] d_X10_take_38 rfl (Nat.le_of_ble_eq_true rfl) rfl ?_
    refine wp_sub [(3, .int (nI (45 + 2 * j))), (2, .int ((m.2.1 81) (45 + 2 * j))), (0, .ref 80)] [0, 1, 2] rfl ?_
    have L := s_X10_take_l (X := X) (d := d + 2) (c := c) (w := w) (m := m) (v := v) (E := E) hp hp4 hj (45 + 2 * (p - 1) - (45 + 2 * j)) (45 + 2 * j) (by omega) (by omega)
    rw [ksh2_0] at L
    exact wp_mono (fun r h1 q9 => Or.inr ⟨j, hj, rfl, q9.1, q9.2⟩) L
  · refine wp_iconst (v0 := -1) d_X10_take_8 rfl ?_
    refine wp_reti d_X10_take_9 rfl ?_
    exact Or.inl ⟨by omega, rfl, rfl⟩
theorem s_X10_place {X : kX} {d : Nat} {c w m v : kZ} {E : kH} {p : Nat} (hp : m.2.1 81 2 = nI p) (hp4 : p ≤ 4) (q wh : Int32) : WP X (d + 2) 0 0 Y_X10_place 0 [(0, .ref (80)), (1, .int (q)), (2, .int (wh))] [] (HP c w m v E) (fun r h1 => h1 = HP c w m v E ∧ (¬ ((0 ≤ q.toInt ∧ q.toInt < (p : Int)) ∧ 0 ≤ wh.toInt ∧ wh.toInt ≤ 1) ∧ r = some (.int (-1)) ∨ ∃ j b : Nat, j < p ∧ b ≤ 1 ∧ q = nI j ∧ wh = nI b ∧ r = some (.int ((m.2.1 81) (45 + 2 * j + b))))) := by
  refine wp_aload_n 0 d_X10_place_0 rfl rfl ?_
  refine wp_iload_n 1 d_X10_place_1 rfl rfl ?_
  refine wp_vrt_i (As := [.int (q)]) (x0 := kb (0 ≤ ((q) : Int32).toInt ∧ ((q) : Int32).toInt < (p : Int))) (h1 := HP c w m v E) d_X10_place_2 lk_X10_179 mv_X10_isPlace in_X10_isPlace se_X10_isPlace (Nat.le_of_ble_eq_true rfl) (Nat.le_of_ble_eq_true rfl) (hp_80 _ _ _ _ _) rfl (s_X10_isPlace hp (by omega) (q)) ?_
  refine wp_ifb_eq 34 d_X10_place_5 rfl (fun c5 => ?_) (fun c5 => ?_)
  · refine wp_iconst (v0 := -1) d_X10_place_34 rfl ?_
    refine wp_reti d_X10_place_35 rfl ?_
    exact ⟨rfl, Or.inl ⟨by omega, rfl⟩⟩
  · refine wp_iload_n 2 d_X10_place_8 rfl rfl ?_
    refine wp_i2l d_X10_place_9 ?_
    refine wp_lconst (v0 := 0) d_X10_place_10 rfl ?_
    refine wp_lconst (v0 := 1) d_X10_place_11 rfl ?_
    refine wp_stc_i (As := [.long (Int32.toInt64 (wh)), .long (0), .long (1)]) (x0 := kb (0 ≤ (wh : Int32).toInt ∧ (wh : Int32).toInt ≤ 1)) (h1 := HP c w m v E) d_X10_place_12 lk_X10_74 mv_X10_in st_X10_in (Nat.le_of_ble_eq_true rfl) (Nat.le_of_ble_eq_true rfl) (s_X10_in_i _ (wh) (0) (1)) ?_
    refine wp_ifb_eq 34 d_X10_place_15 rfl (fun c15 => ?_) (fun c15 => ?_)
    · refine wp_iconst (v0 := -1) d_X10_place_34 rfl ?_
      refine wp_reti d_X10_place_35 rfl ?_
      exact ⟨rfl, Or.inl ⟨by omega, rfl⟩⟩
    · obtain ⟨j, hj, rfl⟩ := k_nat c5
      obtain ⟨b, hb, rfl⟩ := k_natle (n := 1) c15
      refine wp_aload_n 0 d_X10_place_18 rfl rfl ?_
      refine wp_getfield (v := .ref (81)) d_X10_place_19 gf_X10_7 (hp_80 _ _ _ _ _) rfl ?_
      refine wp_bipush (v0 := 45) d_X10_place_22 (by decide) ?_
      refine wp_iconst (v0 := 2) d_X10_place_24 rfl ?_
      refine wp_iload_n 1 d_X10_place_25 rfl rfl ?_
      refine wp_imul d_X10_place_26 ?_
      refine wp_v (v0 := nI ((2) * (j))) (pk_mul (2) (j)) ?_
      refine wp_iadd d_X10_place_27 ?_
      refine wp_v (v0 := nI ((45) + ((2) * (j)))) (nI_add (45) ((2) * (j))) ?_
      refine wp_iload_n 2 d_X10_place_28 rfl rfl ?_
      refine wp_iadd d_X10_place_29 ?_
      refine wp_v (v0 := nI (((45) + ((2) * (j))) + (b))) (nI_add ((45) + ((2) * (j))) (b)) ?_
      refine wp_iaload (v := (m.2.1 81) (((45) + ((2) * (j))) + (b))) d_X10_place_30 (hp_81 _ _ _ _ _) (vp_in_nI (by omega) (by omega)) (congrArg ((m.2.1 81)) (nI_clamp (by omega))) ?_
      refine wp_goto 35 d_X10_place_31 rfl ?_
      refine wp_reti d_X10_place_35 rfl ?_
      exact ⟨rfl, Or.inr ⟨j, b, hj, hb, rfl, rfl, rfl⟩⟩
theorem s_X10_turn {X : kX} {d : Nat} {c w m v : kZ} {E : kH} {p : Nat} (hp : m.2.1 81 2 = nI p) (hp4 : p ≤ 4) (q t : Int32) : WP X (d + 2) 0 0 Y_X10_turn 0 [(0, .ref (80)), (1, .int (q)), (2, .int (t))] [] (HP c w m v E) (fun r h1 => (¬ ((0 ≤ q.toInt ∧ q.toInt < (p : Int)) ∧ (0 ≤ t.toInt ∧ t.toInt ≤ 3)) ∧ r = some (.int (-1)) ∧ h1 = HP c w m v E) ∨ ∃ j : Nat, j < p ∧ q = nI j ∧ (0 ≤ t.toInt ∧ t.toInt ≤ 3) ∧ r = some (.int ((m.2.1 81) (45 + 2 * j + 1))) ∧ h1 = HP c w (setA m 81 (upd (m.2.1 81) (45 + 2 * j + 1) (t))) v E) := by
  refine wp_aload_n 0 d_X10_turn_0 rfl rfl ?_
  refine wp_iload_n 1 d_X10_turn_1 rfl rfl ?_
  refine wp_vrt_i (As := [.int (q)]) (x0 := kb (0 ≤ ((q) : Int32).toInt ∧ ((q) : Int32).toInt < (p : Int))) (h1 := HP c w m v E) d_X10_turn_2 lk_X10_179 mv_X10_isPlace in_X10_isPlace se_X10_isPlace (Nat.le_of_ble_eq_true rfl) (Nat.le_of_ble_eq_true rfl) (hp_80 _ _ _ _ _) rfl (s_X10_isPlace hp (by omega) (q)) ?_
  refine wp_ifb_eq 15 d_X10_turn_5 rfl (fun c5 => ?_) (fun c5 => ?_)
  · refine wp_iconst (v0 := -1) d_X10_turn_15 rfl ?_
    refine wp_reti d_X10_turn_16 rfl ?_
    exact Or.inl ⟨by omega, rfl, rfl⟩
  · refine wp_iload_n 2 d_X10_turn_8 rfl rfl ?_
    refine wp_stc_i (As := [.int (t)]) (x0 := kb (0 ≤ (t : Int32).toInt ∧ (t : Int32).toInt ≤ 3)) (h1 := HP c w m v E) d_X10_turn_9 lk_X10_173 mv_X10_isTurn st_X10_isTurn (Nat.le_of_ble_eq_true rfl) (Nat.le_of_ble_eq_true rfl) (s_X10_isTurn _ (t : Int32)) ?_
    refine wp_ifb_ne 17 d_X10_turn_12 rfl (fun c12 => ?_) (fun c12 => ?_)
    · obtain ⟨j, hj, rfl⟩ := k_nat c5
      refine wp_aload_n 0 d_X10_turn_17 rfl rfl ?_
      refine wp_getfield (v := .ref (81)) d_X10_turn_18 gf_X10_7 (hp_80 _ _ _ _ _) rfl ?_
      refine wp_bipush (v0 := 45) d_X10_turn_21 (by decide) ?_
      refine wp_iconst (v0 := 2) d_X10_turn_23 rfl ?_
      refine wp_iload_n 1 d_X10_turn_24 rfl rfl ?_
      refine wp_imul d_X10_turn_25 ?_
      refine wp_v (v0 := nI ((2) * (j))) (pk_mul (2) (j)) ?_
      refine wp_iadd d_X10_turn_26 ?_
      refine wp_v (v0 := nI ((45) + ((2) * (j)))) (nI_add (45) ((2) * (j))) ?_
      refine wp_iconst (v0 := 1) d_X10_turn_27 rfl ?_
      refine wp_iadd d_X10_turn_28 ?_
      refine wp_v (v0 := nI (((45) + ((2) * (j))) + (1))) (nI_add ((45) + ((2) * (j))) (1)) ?_
      refine wp_iaload (v := (m.2.1 81) (((45) + ((2) * (j))) + (1))) d_X10_turn_29 (hp_81 _ _ _ _ _) (vp_in_nI (by omega) (by omega)) (congrArg ((m.2.1 81)) (nI_clamp (by omega))) ?_
      refine wp_istore_n [(3, .int ((m.2.1 81) (((45) + ((2) * (j))) + (1)))), (0, .ref (80)), (1, .int (nI (j))), (2, .int (t))] d_X10_turn_30 rfl (Nat.le_of_ble_eq_true rfl) rfl ?_
      refine wp_aload_n 1 d_X10_turn_31 rfl rfl ?_
      refine wp_getfield (v := .ref (81)) d_X10_turn_32 gf_X10_7 (hp_80 _ _ _ _ _) rfl ?_
      refine wp_bipush (v0 := 45) d_X10_turn_35 (by decide) ?_
      refine wp_iconst (v0 := 2) d_X10_turn_37 rfl ?_
      refine wp_iload_n 2 d_X10_turn_38 rfl rfl ?_
      refine wp_imul d_X10_turn_39 ?_
      refine wp_v (v0 := nI ((2) * (j))) (pk_mul (2) (j)) ?_
      refine wp_iadd d_X10_turn_40 ?_
      refine wp_v (v0 := nI ((45) + ((2) * (j)))) (nI_add (45) ((2) * (j))) ?_
      refine wp_iconst (v0 := 1) d_X10_turn_41 rfl ?_
      refine wp_iadd d_X10_turn_42 ?_
      refine wp_v (v0 := nI (((45) + ((2) * (j))) + (1))) (nI_add ((45) + ((2) * (j))) (1)) ?_
      refine wp_iload_n 3 d_X10_turn_43 rfl rfl ?_
      refine wp_iastore (h' := HP c w (setA m 81 (upd (m.2.1 81) (((45) + ((2) * (j))) + (1)) (t))) v E) d_X10_turn_44 (hp_81 _ _ _ _ _) (vp_in_nI (by omega) (by omega)) (by rw [nI_clamp (by omega)]; exact (hpa_81 _ _ _ _ _ _)) ?_
      refine wp_iload_n 0 d_X10_turn_45 rfl rfl ?_
      refine wp_reti d_X10_turn_46 rfl ?_
      exact Or.inr ⟨j, hj, rfl, by omega, rfl, rfl⟩
    · refine wp_iconst (v0 := -1) d_X10_turn_15 rfl ?_
      refine wp_reti d_X10_turn_16 rfl ?_
      exact Or.inl ⟨by omega, rfl, rfl⟩
theorem s_X10_price_l {X : kX} {d : Nat} {c w m v : kZ} {E : kH} {p : Nat} (hp : m.2.1 81 2 = nI p) (hp4 : p ≤ 4) (ln : Nat → Nat) (hln : ∀ j, j < p → m.2.1 81 (45 + 2 * j) = nI (ln j) ∧ ln j < 9) : ∀ (k : Nat) (i : Nat) (z : Int32), (i + k = p) → WP X (d + 2) 0 0 Y_X10_price 4 [(2, .int (nI (i))), (1, .int (z)), (0, .ref (80))] [] (HP c w m v E) (kR (some (.int (kpri (mln (m.2.1 81)) (fun l => (m.2.1 81) (9 + 4 * l + 3)) k i z))) (HP c w m v E)) := by
  intro k
  induction k using Nat.strongRecOn with
  | ind k ih =>
    intro i z hi
    refine wp_iload_n 0 d_X10_price_4 rfl rfl ?_
    refine wp_aload_n 2 d_X10_price_5 rfl rfl ?_
    refine wp_getfield (v := .ref (81)) d_X10_price_6 gf_X10_7 (hp_80 _ _ _ _ _) rfl ?_
    refine wp_iconst (v0 := 2) d_X10_price_9 rfl ?_
    refine wp_iaload (v := nI (p)) d_X10_price_10 (hp_81 _ _ _ _ _) (kin rfl) hp ?_
    refine wp_ncmp_ge (a := i) (b := p) 39 d_X10_price_11 rfl (by omega) (by omega) (fun c11 => ?_) (fun c11 => ?_)
    · refine wp_iload_n 1 d_X10_price_39 rfl rfl ?_
      refine wp_reti d_X10_price_40 rfl ?_
      obtain rfl : k = 0 := by omega
      exact kR_i rfl rfl
    · have hl9 := (hln i (by omega)).2
      refine wp_iload_n 1 d_X10_price_14 rfl rfl ?_
      refine wp_aload_n 2 d_X10_price_15 rfl rfl ?_
      refine wp_aload_n 2 d_X10_price_16 rfl rfl ?_
      refine wp_getfield (v := .ref (81)) d_X10_price_17 gf_X10_7 (hp_80 _ _ _ _ _) rfl ?_
      refine wp_bipush (v0 := 45) d_X10_price_20 (by decide) ?_
      refine wp_iconst (v0 := 2) d_X10_price_22 rfl ?_
      refine wp_iload_n 0 d_X10_price_23 rfl rfl ?_
      refine wp_imul d_X10_price_24 ?_
      refine wp_v (v0 := nI ((2) * (i))) (pk_mul (2) (i)) ?_
      refine wp_iadd d_X10_price_25 ?_
      refine wp_v (v0 := nI ((45) + ((2) * (i)))) (nI_add (45) ((2) * (i))) ?_
      refine wp_iaload (v := nI (ln i)) d_X10_price_26 (hp_81 _ _ _ _ _) (vp_in_nI (by omega) (by omega)) ((congrArg ((m.2.1 81)) (nI_clamp (by omega))).trans (hln i (by omega)).1) ?_
      refine wp_iconst (v0 := 3) d_X10_price_27 rfl ?_
      refine wp_vrt_i (As := [.int (nI (ln i)), .int (3)]) (x0 := (m.2.1 81) (9 + 4 * (ln i) + (3))) (h1 := HP c w m v E) d_X10_price_28 lk_X10_98 mv_X10_its in_X10_its se_X10_its (Nat.le_of_ble_eq_true rfl) (Nat.le_of_ble_eq_true rfl) (hp_80 _ _ _ _ _) rfl (s_X10_its (j := ln i) (u := 3) (by omega) (by omega)) ?_
      refine wp_iadd d_X10_price_31 ?_
      refine wp_istore_n [(1, .int ((z) + ((m.2.1 81) (9 + 4 * (ln i) + (3))))), (2, .int (nI (i))), (0, .ref (80))] d_X10_price_32 rfl (Nat.le_of_ble_eq_true rfl) rfl ?_
      refine wp_iinc (v0 := nI ((i) + 1)) [(2, .int (nI ((i) + 1))), (1, .int ((z) + ((m.2.1 81) (9 + 4 * (ln i) + (3))))), (0, .ref (80))] 1 d_X10_price_33 rfl (nI_add (i) 1) (Nat.le_of_ble_eq_true rfl) rfl ?_
      refine wp_goto 4 d_X10_price_36 rfl ?_
      obtain ⟨k1, rfl⟩ : ∃ k1, k = k1 + 1 := ⟨k - 1, by omega⟩
      have e9 : (mln (m.2.1 81) i).toNatClampNeg = ln i := by rw [show mln (m.2.1 81) i = nI (ln i) from (hln i (by omega)).1, nI_clamp (by have := (hln i (by omega)).2; omega)]
      simp only [kpri, e9]
      exact ih k1 (by omega) (i + 1) _ (by omega)
theorem s_X10_price {X : kX} {d : Nat} {c w m v : kZ} {E : kH} {p : Nat} (hp : m.2.1 81 2 = nI p) (hp4 : p ≤ 4) (ln : Nat → Nat) (hln : ∀ j, j < p → m.2.1 81 (45 + 2 * j) = nI (ln j) ∧ ln j < 9) : WP X (d + 2) 0 0 Y_X10_price 0 [(0, .ref (80))] [] (HP c w m v E) (kR (some (.int (kpri (mln (m.2.1 81)) (fun l => (m.2.1 81) (9 + 4 * l + 3)) p 0 0))) (HP c w m v E)) := by
  refine wp_iconst (v0 := 0) d_X10_price_0 rfl ?_
  refine wp_istore_n [(1, .int (0)), (0, .ref (80))] d_X10_price_1 rfl (Nat.le_of_ble_eq_true rfl) rfl ?_
  refine wp_iconst (v0 := 0) d_X10_price_2 rfl ?_
  refine wp_istore_n [(2, .int (0)), (1, .int (0)), (0, .ref (80))] d_X10_price_3 rfl (Nat.le_of_ble_eq_true rfl) rfl ?_
  refine wp_sub [(2, .int (nI 0)), (1, .int 0), (0, .ref 80)] [0, 1, 2] rfl ?_
  exact s_X10_price_l hp hp4 ln hln p 0 0 (by omega)
theorem s_X10_report {X : kX} {d : Nat} {c w m v : kZ} {E : kH} {r0 : Nat} (hr : m.2.1 81 3 = nI r0) (hr6 : r0 ≤ 6) (q u : Int32) : WP X (d + 1) 0 0 Y_X10_report 0 [(0, .ref (80)), (1, .int (q)), (2, .int (u))] [] (HP c w m v E) (fun r h1 => (¬ ((0 ≤ q.toInt ∧ q.toInt ≤ 3) ∧ (0 ≤ u.toInt ∧ u.toInt ≤ 1)) ∧ r = some (.int (-1)) ∧ h1 = HP c w m v E) ∨ (((0 ≤ q.toInt ∧ q.toInt ≤ 3) ∧ (0 ≤ u.toInt ∧ u.toInt ≤ 1)) ∧ r0 = 6 ∧ r = some (.int (-2)) ∧ h1 = HP c w m v E) ∨ (((0 ≤ q.toInt ∧ q.toInt ≤ 3) ∧ (0 ≤ u.toInt ∧ u.toInt ≤ 1)) ∧ r0 < 6 ∧ r = some (.int (nI r0)) ∧ h1 = HP c w (setA m 81 (upd (upd (upd (m.2.1 81) (53 + 2 * r0) q) (53 + 2 * r0 + 1) u) 3 (nI (r0 + 1)))) v E)) := by
  refine wp_iload_n 1 d_X10_report_0 rfl rfl ?_
  refine wp_i2l d_X10_report_1 ?_
  refine wp_lconst (v0 := 0) d_X10_report_2 rfl ?_
  refine wp_ldc2 (v0 := 3) d_X10_report_3 cl_X10_127 ?_
  refine wp_stc_i (As := [.long (Int32.toInt64 (q)), .long (0), .long (3)]) (x0 := kb (0 ≤ (q : Int32).toInt ∧ (q : Int32).toInt ≤ 3)) (h1 := HP c w m v E) d_X10_report_6 lk_X10_74 mv_X10_in st_X10_in (Nat.le_of_ble_eq_true rfl) (Nat.le_of_ble_eq_true rfl) (s_X10_in_i _ (q) (0) (3)) ?_
  refine wp_ifb_eq 22 d_X10_report_9 rfl (fun c9 => ?_) (fun c9 => ?_)
  · refine wp_iconst (v0 := -1) d_X10_report_22 rfl ?_
    refine wp_reti d_X10_report_23 rfl ?_
    exact Or.inl ⟨by omega, rfl, rfl⟩
  · refine wp_iload_n 2 d_X10_report_12 rfl rfl ?_
    refine wp_i2l d_X10_report_13 ?_
    refine wp_lconst (v0 := 0) d_X10_report_14 rfl ?_
    refine wp_lconst (v0 := 1) d_X10_report_15 rfl ?_
    refine wp_stc_i (As := [.long (Int32.toInt64 (u)), .long (0), .long (1)]) (x0 := kb (0 ≤ (u : Int32).toInt ∧ (u : Int32).toInt ≤ 1)) (h1 := HP c w m v E) d_X10_report_16 lk_X10_74 mv_X10_in st_X10_in (Nat.le_of_ble_eq_true rfl) (Nat.le_of_ble_eq_true rfl) (s_X10_in_i _ (u) (0) (1)) ?_
    refine wp_ifb_ne 24 d_X10_report_19 rfl (fun c19 => ?_) (fun c19 => ?_)
    · refine wp_aload_n 0 d_X10_report_24 rfl rfl ?_
      refine wp_getfield (v := .ref (81)) d_X10_report_25 gf_X10_7 (hp_80 _ _ _ _ _) rfl ?_
      refine wp_iconst (v0 := 3) d_X10_report_28 rfl ?_
      refine wp_iaload (v := nI (r0)) d_X10_report_29 (hp_81 _ _ _ _ _) (kin rfl) hr ?_
      refine wp_bipush (v0 := 6) d_X10_report_30 (by decide) ?_
      refine wp_ncmp_ne (a := r0) (b := 6) 38 d_X10_report_32 rfl (by omega) (by omega) (fun c32 => ?_) (fun c32 => ?_)
      · have hr5 : r0 < 6 := by omega
        refine wp_aload_n 0 d_X10_report_38 rfl rfl ?_
        refine wp_getfield (v := .ref (81)) d_X10_report_39 gf_X10_7 (hp_80 _ _ _ _ _) rfl ?_
        refine wp_bipush (v0 := 53) d_X10_report_42 (by decide) ?_
        refine wp_iconst (v0 := 2) d_X10_report_44 rfl ?_
        refine wp_aload_n 0 d_X10_report_45 rfl rfl ?_
        refine wp_getfield (v := .ref (81)) d_X10_report_46 gf_X10_7 (hp_80 _ _ _ _ _) rfl ?_
        refine wp_iconst (v0 := 3) d_X10_report_49 rfl ?_
        refine wp_iaload (v := nI (r0)) d_X10_report_50 (hp_81 _ _ _ _ _) (kin rfl) hr ?_
        refine wp_imul d_X10_report_51 ?_
        refine wp_v (v0 := nI ((2) * (r0))) (pk_mul (2) (r0)) ?_
        refine wp_iadd d_X10_report_52 ?_
        refine wp_v (v0 := nI ((53) + ((2) * (r0)))) (nI_add (53) ((2) * (r0))) ?_
        refine wp_iload_n 1 d_X10_report_53 rfl rfl ?_
        refine wp_iastore (h' := HP c w (setA m 81 (upd (m.2.1 81) ((53) + ((2) * (r0))) (q))) v E) d_X10_report_54 (hp_81 _ _ _ _ _) (vp_in_nI (by omega) (by omega)) (by rw [nI_clamp (by omega)]; exact (hpa_81 _ _ _ _ _ _)) ?_
        refine wp_aload_n 0 d_X10_report_55 rfl rfl ?_
        refine wp_getfield (v := .ref (81)) d_X10_report_56 gf_X10_7 (hp_80 _ _ _ _ _) rfl ?_
        refine wp_bipush (v0 := 53) d_X10_report_59 (by decide) ?_
        refine wp_iconst (v0 := 2) d_X10_report_61 rfl ?_
        refine wp_aload_n 0 d_X10_report_62 rfl rfl ?_
        refine wp_getfield (v := .ref (81)) d_X10_report_63 gf_X10_7 (hp_80 _ _ _ _ _) rfl ?_
        refine wp_iconst (v0 := 3) d_X10_report_66 rfl ?_
        refine wp_iaload (v := nI (r0)) d_X10_report_67 (hp_81 _ _ _ _ _) (kin rfl) (show (upd (m.2.1 81) ((53) + ((2) * (r0))) (q)) (3) = nI r0 from by (repeat rw [upd_n _ _ (by omega)]); exact hr) ?_
        refine wp_imul d_X10_report_68 ?_
        refine wp_v (v0 := nI ((2) * (r0))) (pk_mul (2) (r0)) ?_
        refine wp_iadd d_X10_report_69 ?_
        refine wp_v (v0 := nI ((53) + ((2) * (r0)))) (nI_add (53) ((2) * (r0))) ?_
        refine wp_iconst (v0 := 1) d_X10_report_70 rfl ?_
        refine wp_iadd d_X10_report_71 ?_
        refine wp_v (v0 := nI (((53) + ((2) * (r0))) + (1))) (nI_add ((53) + ((2) * (r0))) (1)) ?_
        refine wp_iload_n 2 d_X10_report_72 rfl rfl ?_
        refine wp_iastore (h' := HP c w (setA (setA m 81 (upd (m.2.1 81) ((53) + ((2) * (r0))) (q))) 81 (upd (upd (m.2.1 81) ((53) + ((2) * (r0))) (q)) (((53) + ((2) * (r0))) + (1)) (u))) v E) d_X10_report_73 (hp_81 _ _ _ _ _) (vp_in_nI (by omega) (by omega)) (by rw [nI_clamp (by omega)]; exact (hpa_81 _ _ _ _ _ _)) ?_
        refine wp_aload_n 0 d_X10_report_74 rfl rfl ?_
        refine wp_getfield (v := .ref (81)) d_X10_report_75 gf_X10_7 (hp_80 _ _ _ _ _) rfl ?_
        refine wp_iconst (v0 := 3) d_X10_report_78 rfl ?_
        refine wp_dup2 d_X10_report_79 rfl rfl ?_
        refine wp_iaload (v := nI (r0)) d_X10_report_80 (hp_81 _ _ _ _ _) (kin rfl) (show (upd (upd (m.2.1 81) ((53) + ((2) * (r0))) (q)) (((53) + ((2) * (r0))) + (1)) (u)) (3) = nI r0 from by (repeat rw [upd_n _ _ (by omega)]); exact hr) ?_
        refine wp_iconst (v0 := 1) d_X10_report_81 rfl ?_
        refine wp_iadd d_X10_report_82 ?_
        refine wp_v (v0 := nI ((r0) + (1))) (nI_add (r0) (1)) ?_
        refine wp_iastore (h' := HP c w (setA (setA (setA m 81 (upd (m.2.1 81) ((53) + ((2) * (r0))) (q))) 81 (upd (upd (m.2.1 81) ((53) + ((2) * (r0))) (q)) (((53) + ((2) * (r0))) + (1)) (u))) 81 (upd (upd (upd (m.2.1 81) ((53) + ((2) * (r0))) (q)) (((53) + ((2) * (r0))) + (1)) (u)) 3 (nI ((r0) + (1))))) v E) d_X10_report_83 (hp_81 _ _ _ _ _) (kin rfl) ((hpa_81 _ _ _ _ _ _)) ?_
        refine wp_aload_n 0 d_X10_report_84 rfl rfl ?_
        refine wp_getfield (v := .ref (81)) d_X10_report_85 gf_X10_7 (hp_80 _ _ _ _ _) rfl ?_
        refine wp_iconst (v0 := 3) d_X10_report_88 rfl ?_
        refine wp_iaload (v := nI (r0 + 1)) d_X10_report_89 (hp_81 _ _ _ _ _) (kin rfl) (show (upd (upd (upd (m.2.1 81) ((53) + ((2) * (r0))) (q)) (((53) + ((2) * (r0))) + (1)) (u)) 3 (nI ((r0) + (1)))) (3) = nI (r0 + 1) from upd_s _ _ _) ?_
        refine wp_iconst (v0 := 1) d_X10_report_90 rfl ?_
        refine wp_isub d_X10_report_91 ?_
        refine wp_v (v0 := nI ((r0 + 1) - (1))) (pk_sub (a := r0 + 1) (b := 1) (by omega)) ?_
        refine wp_reti d_X10_report_92 rfl ?_
        exact Or.inr (Or.inr ⟨by omega, by omega, rfl, by rw [setA_idem, setA_idem]⟩)
      · refine wp_bipush (v0 := -2) d_X10_report_35 (by decide) ?_
        refine wp_reti d_X10_report_37 rfl ?_
        exact Or.inr (Or.inl ⟨by omega, by omega, rfl, rfl⟩)
    · refine wp_iconst (v0 := -1) d_X10_report_22 rfl ?_
      refine wp_reti d_X10_report_23 rfl ?_
      exact Or.inl ⟨by omega, rfl, rfl⟩
theorem s_X10_forget {X : kX} {d : Nat} {c w m v : kZ} {E : kH}  : WP X d 0 0 Y_X10_forget 0 [(0, .ref (80))] [] (HP c w m v E) (kR (some (.int ((m.2.1 81) 3))) (HP c w (setA m 81 (upd (m.2.1 81) 3 0)) v E)) := by
  refine wp_aload_n 0 d_X10_forget_0 rfl rfl ?_
  refine wp_getfield (v := .ref (81)) d_X10_forget_1 gf_X10_7 (hp_80 _ _ _ _ _) rfl ?_
  refine wp_iconst (v0 := 3) d_X10_forget_4 rfl ?_
  refine wp_iaload (v := (m.2.1 81) (3)) d_X10_forget_5 (hp_81 _ _ _ _ _) (kin rfl) rfl ?_
  refine wp_istore_n [(1, .int ((m.2.1 81) (3))), (0, .ref (80))] d_X10_forget_6 rfl (Nat.le_of_ble_eq_true rfl) rfl ?_
  refine wp_aload_n 1 d_X10_forget_7 rfl rfl ?_
  refine wp_getfield (v := .ref (81)) d_X10_forget_8 gf_X10_7 (hp_80 _ _ _ _ _) rfl ?_
  refine wp_iconst (v0 := 3) d_X10_forget_11 rfl ?_
  refine wp_iconst (v0 := 0) d_X10_forget_12 rfl ?_
  refine wp_iastore (h' := HP c w (setA m 81 (upd (m.2.1 81) 3 (0))) v E) d_X10_forget_13 (hp_81 _ _ _ _ _) (kin rfl) ((hpa_81 _ _ _ _ _ _)) ?_
  refine wp_iload_n 0 d_X10_forget_14 rfl rfl ?_
  refine wp_reti d_X10_forget_15 rfl ?_
  exact kR_i rfl rfl
theorem s_X10_seed {X : kX} {d : Nat} {c w m v : kZ} {E : kH} (x : Int32) : WP X d 0 0 Y_X10_seed 0 [(0, .ref (80)), (1, .int (x))] [] (HP c w m v E) (kR (some (.int ((m.2.1 81) 8))) (HP c w (setA m 81 (upd (m.2.1 81) 8 x)) v E)) := by
  refine wp_aload_n 0 d_X10_seed_0 rfl rfl ?_
  refine wp_getfield (v := .ref (81)) d_X10_seed_1 gf_X10_7 (hp_80 _ _ _ _ _) rfl ?_
  refine wp_bipush (v0 := 8) d_X10_seed_4 (by decide) ?_
  refine wp_iaload (v := (m.2.1 81) (8)) d_X10_seed_6 (hp_81 _ _ _ _ _) (kin rfl) rfl ?_
  refine wp_istore_n [(2, .int ((m.2.1 81) (8))), (0, .ref (80)), (1, .int (x))] d_X10_seed_7 rfl (Nat.le_of_ble_eq_true rfl) rfl ?_
  refine wp_aload_n 1 d_X10_seed_8 rfl rfl ?_
  refine wp_getfield (v := .ref (81)) d_X10_seed_9 gf_X10_7 (hp_80 _ _ _ _ _) rfl ?_
  refine wp_bipush (v0 := 8) d_X10_seed_12 (by decide) ?_
  refine wp_iload_n 2 d_X10_seed_14 rfl rfl ?_
  refine wp_iastore (h' := HP c w (setA m 81 (upd (m.2.1 81) 8 (x))) v E) d_X10_seed_15 (hp_81 _ _ _ _ _) (kin rfl) ((hpa_81 _ _ _ _ _ _)) ?_
  refine wp_iload_n 0 d_X10_seed_16 rfl rfl ?_
  refine wp_reti d_X10_seed_17 rfl ?_
  exact kR_i rfl rfl
theorem s_X10_draw {X : kX} {d : Nat} {c w m v : kZ} {E : kH} {p : Nat} (hp : m.2.1 81 2 = nI p) (hp4 : p ≤ 4) : WP X d 0 0 Y_X10_draw 0 [(0, .ref (80))] [] (HP c w m v E) (fun r h1 => (p = 0 ∧ r = some (.int (-3)) ∧ h1 = HP c w m v E) ∨ (0 < p ∧ r = some (.int (nI (kz16 ((m.2.1 81) 8 * 1103515245 + 12345) % p))) ∧ h1 = HP c w (setA m 81 (upd (upd (m.2.1 81) 8 ((m.2.1 81) 8 * 1103515245 + 12345)) (45 + 2 * (kz16 ((m.2.1 81) 8 * 1103515245 + 12345) % p) + 1) (((upd (m.2.1 81) 8 ((m.2.1 81) 8 * 1103515245 + 12345)) (45 + 2 * (kz16 ((m.2.1 81) 8 * 1103515245 + 12345) % p) + 1) + 1) &&& 3))) v E)) := by
  refine wp_aload_n 0 d_X10_draw_0 rfl rfl ?_
  refine wp_getfield (v := .ref (81)) d_X10_draw_1 gf_X10_7 (hp_80 _ _ _ _ _) rfl ?_
  refine wp_iconst (v0 := 2) d_X10_draw_4 rfl ?_
  refine wp_iaload (v := nI (p)) d_X10_draw_5 (hp_81 _ _ _ _ _) (kin rfl) hp ?_
  refine wp_if_ne 12 d_X10_draw_6 rfl (fun c6 => ?_) (fun c6 => ?_)
  · have hp0 : 0 < p := by
      rcases Nat.eq_zero_or_pos p with e | e
      · rw [e] at c6; exact absurd rfl c6
      · exact e
    refine wp_aload_n 0 d_X10_draw_12 rfl rfl ?_
    refine wp_getfield (v := .ref (81)) d_X10_draw_13 gf_X10_7 (hp_80 _ _ _ _ _) rfl ?_
    refine wp_bipush (v0 := 8) d_X10_draw_16 (by decide) ?_
    refine wp_aload_n 0 d_X10_draw_18 rfl rfl ?_
    refine wp_getfield (v := .ref (81)) d_X10_draw_19 gf_X10_7 (hp_80 _ _ _ _ _) rfl ?_
    refine wp_bipush (v0 := 8) d_X10_draw_22 (by decide) ?_
    refine wp_iaload (v := (m.2.1 81) (8)) d_X10_draw_24 (hp_81 _ _ _ _ _) (kin rfl) rfl ?_
    refine wp_ldc (v0 := 1103515245) d_X10_draw_25 ci_X10_252 ?_
    refine wp_imul d_X10_draw_27 ?_
    refine wp_sipush (v0 := 12345) d_X10_draw_28 (by decide) ?_
    refine wp_iadd d_X10_draw_31 ?_
    refine wp_topi (fun z1 hz1 => ?_)
    refine wp_iastore (h' := HP c w (setA m 81 (upd (m.2.1 81) 8 (z1))) v E) d_X10_draw_32 (hp_81 _ _ _ _ _) (kin rfl) ((hpa_81 _ _ _ _ _ _)) ?_
    refine wp_aload_n 0 d_X10_draw_33 rfl rfl ?_
    refine wp_getfield (v := .ref (81)) d_X10_draw_34 gf_X10_7 (hp_80 _ _ _ _ _) rfl ?_
    refine wp_bipush (v0 := 8) d_X10_draw_37 (by decide) ?_
    refine wp_iaload (v := z1) d_X10_draw_39 (hp_81 _ _ _ _ _) (kin rfl) (show (upd (m.2.1 81) 8 (z1)) (8) = z1 from upd_s _ _ _) ?_
    refine wp_bipush (v0 := 16) d_X10_draw_40 (by decide) ?_
    refine wp_iushr (v0 := nI (kz16 (z1))) d_X10_draw_42 (kz16_eq _) ?_
    refine wp_aload_n 0 d_X10_draw_43 rfl rfl ?_
    refine wp_getfield (v := .ref (81)) d_X10_draw_44 gf_X10_7 (hp_80 _ _ _ _ _) rfl ?_
    refine wp_iconst (v0 := 2) d_X10_draw_47 rfl ?_
    refine wp_iaload (v := nI (p)) d_X10_draw_48 (hp_81 _ _ _ _ _) (kin rfl) (show (upd (m.2.1 81) 8 (z1)) (2) = nI p from by (repeat rw [upd_n _ _ (by omega)]); exact hp) ?_
    refine wp_irem d_X10_draw_49 (nI_ne0 (by omega) (by omega)) ?_
    refine wp_v (v0 := nI ((kz16 (z1)) % (p))) (pk_rem (a := kz16 (z1)) (d := p) (by have := kz16_lt; first | omega | (have := kz16_lt (z1); omega)) (by omega) (by omega)) ?_
    refine wp_istore_n [(1, .int (nI ((kz16 (z1)) % (p)))), (0, .ref (80))] d_X10_draw_50 rfl (Nat.le_of_ble_eq_true rfl) rfl ?_
    have hix := Nat.mod_lt (kz16 z1) hp0
    refine wp_aload_n 1 d_X10_draw_51 rfl rfl ?_
    refine wp_getfield (v := .ref (81)) d_X10_draw_52 gf_X10_7 (hp_80 _ _ _ _ _) rfl ?_
    refine wp_bipush (v0 := 45) d_X10_draw_55 (by decide) ?_
    refine wp_iconst (v0 := 2) d_X10_draw_57 rfl ?_
    refine wp_iload_n 0 d_X10_draw_58 rfl rfl ?_
    refine wp_imul d_X10_draw_59 ?_
    refine wp_v (v0 := nI ((2) * ((kz16 (z1)) % (p)))) (pk_mul (2) ((kz16 (z1)) % (p))) ?_
    refine wp_iadd d_X10_draw_60 ?_
    refine wp_v (v0 := nI ((45) + ((2) * ((kz16 (z1)) % (p))))) (nI_add (45) ((2) * ((kz16 (z1)) % (p)))) ?_
    refine wp_iconst (v0 := 1) d_X10_draw_61 rfl ?_
    refine wp_iadd d_X10_draw_62 ?_
    refine wp_v (v0 := nI (((45) + ((2) * ((kz16 (z1)) % (p)))) + (1))) (nI_add ((45) + ((2) * ((kz16 (z1)) % (p)))) (1)) ?_
    refine wp_aload_n 1 d_X10_draw_63 rfl rfl ?_
    refine wp_getfield (v := .ref (81)) d_X10_draw_64 gf_X10_7 (hp_80 _ _ _ _ _) rfl ?_
    refine wp_bipush (v0 := 45) d_X10_draw_67 (by decide) ?_
    refine wp_iconst (v0 := 2) d_X10_draw_69 rfl ?_
    refine wp_iload_n 0 d_X10_draw_70 rfl rfl ?_
    refine wp_imul d_X10_draw_71 ?_
    refine wp_v (v0 := nI ((2) * ((kz16 (z1)) % (p)))) (pk_mul (2) ((kz16 (z1)) % (p))) ?_
    refine wp_iadd d_X10_draw_72 ?_
    refine wp_v (v0 := nI ((45) + ((2) * ((kz16 (z1)) % (p))))) (nI_add (45) ((2) * ((kz16 (z1)) % (p)))) ?_
    refine wp_iconst (v0 := 1) d_X10_draw_73 rfl ?_
    refine wp_iadd d_X10_draw_74 ?_
    refine wp_v (v0 := nI (((45) + ((2) * ((kz16 (z1)) % (p)))) + (1))) (nI_add ((45) + ((2) * ((kz16 (z1)) % (p)))) (1)) ?_
    refine wp_iaload (v := (upd (m.2.1 81) 8 (z1)) (((45) + ((2) * ((kz16 (z1)) % (p)))) + (1))) d_X10_draw_75 (hp_81 _ _ _ _ _) (vp_in_nI (by omega) (by omega)) (congrArg ((upd (m.2.1 81) 8 (z1))) (nI_clamp (by omega))) ?_
    refine wp_iconst (v0 := 1) d_X10_draw_76 rfl ?_
    refine wp_iadd d_X10_draw_77 ?_
    refine wp_iconst (v0 := 3) d_X10_draw_78 rfl ?_
    refine wp_iand d_X10_draw_79 ?_
    refine wp_iastore (h' := HP c w (setA (setA m 81 (upd (m.2.1 81) 8 (z1))) 81 (upd (upd (m.2.1 81) 8 (z1)) (((45) + ((2) * ((kz16 (z1)) % (p)))) + (1)) ((((upd (m.2.1 81) 8 (z1)) (((45) + ((2) * ((kz16 (z1)) % (p)))) + (1))) + (1)) &&& (3)))) v E) d_X10_draw_80 (hp_81 _ _ _ _ _) (vp_in_nI (by omega) (by omega)) (by rw [nI_clamp (by omega)]; exact (hpa_81 _ _ _ _ _ _)) ?_
    refine wp_iload_n 0 d_X10_draw_81 rfl rfl ?_
    refine wp_reti d_X10_draw_82 rfl ?_
    subst hz1
    exact Or.inr ⟨hp0, rfl, by rw [setA_idem]⟩
  · refine wp_bipush (v0 := -3) d_X10_draw_9 (by decide) ?_
    refine wp_reti d_X10_draw_11 rfl ?_
    exact Or.inl ⟨by rcases Nat.eq_zero_or_pos p with e | e; exact e; exact absurd c6 (nI_ne0 e (by omega)), rfl, rfl⟩
theorem s_X10_isRow {X : kX} {d : Nat} {c w m v : kZ} {E : kH} {rc : Nat} (hrc : m.1 8022 = nI rc) (hrc6 : rc ≤ 6) (q u : Int32) : WP X (d + 1) 0 0 Y_X10_isRow 0 [(0, .ref (80)), (1, .int (q)), (2, .int (u))] [] (HP c w m v E) (kR (some (.int (kb ((0 ≤ q.toInt ∧ q.toInt < (rc : Int)) ∧ (0 ≤ u.toInt ∧ u.toInt ≤ 2))))) (HP c w m v E)) := by
  refine wp_iload_n 1 d_X10_isRow_0 rfl rfl ?_
  refine wp_i2l d_X10_isRow_1 ?_
  refine wp_lconst (v0 := 0) d_X10_isRow_2 rfl ?_
  refine wp_aload_n 0 d_X10_isRow_3 rfl rfl ?_
  refine wp_getfield (v := .int (nI rc)) d_X10_isRow_4 gf_X10_264 (hp_80 _ _ _ _ _) (congrArg (fun z => some (Value.int z)) hrc) ?_
  refine wp_iconst (v0 := 1) d_X10_isRow_7 rfl ?_
  refine wp_isub d_X10_isRow_8 ?_
  refine wp_i2l d_X10_isRow_9 ?_
  refine wp_stc_i (As := [.long (Int32.toInt64 (q)), .long (0), .long (Int32.toInt64 ((nI rc) - (1)))]) (x0 := kb (0 ≤ (q : Int32).toInt ∧ (q : Int32).toInt ≤ ((nI rc) - (1) : Int32).toInt)) (h1 := HP c w m v E) d_X10_isRow_10 lk_X10_74 mv_X10_in st_X10_in (Nat.le_of_ble_eq_true rfl) (Nat.le_of_ble_eq_true rfl) (s_X10_in_j _ (q) (0) ((nI rc) - (1))) ?_
  refine wp_ifb_eq 32 d_X10_isRow_13 rfl (fun c13 => ?_) (fun c13 => ?_)
  · refine wp_iconst (v0 := 0) d_X10_isRow_32 rfl ?_
    refine wp_iret d_X10_isRow_33 rfl k_nar0 ?_
    refine kR_i (Eq.symm (kb_f ?_)) rfl
    simp only [kn_pred (show rc < 2 ^ 30 by omega)] at *; omega
  · refine wp_iload_n 2 d_X10_isRow_16 rfl rfl ?_
    refine wp_i2l d_X10_isRow_17 ?_
    refine wp_lconst (v0 := 0) d_X10_isRow_18 rfl ?_
    refine wp_ldc2 (v0 := 2) d_X10_isRow_19 cl_X10_247 ?_
    refine wp_stc_i (As := [.long (Int32.toInt64 (u)), .long (0), .long (2)]) (x0 := kb (0 ≤ (u : Int32).toInt ∧ (u : Int32).toInt ≤ 2)) (h1 := HP c w m v E) d_X10_isRow_22 lk_X10_74 mv_X10_in st_X10_in (Nat.le_of_ble_eq_true rfl) (Nat.le_of_ble_eq_true rfl) (s_X10_in_i _ (u) (0) (2)) ?_
    refine wp_ifb_eq 32 d_X10_isRow_25 rfl (fun c25 => ?_) (fun c25 => ?_)
    · refine wp_iconst (v0 := 0) d_X10_isRow_32 rfl ?_
      refine wp_iret d_X10_isRow_33 rfl k_nar0 ?_
      refine kR_i (Eq.symm (kb_f ?_)) rfl
      simp only [kn_pred (show rc < 2 ^ 30 by omega)] at *; omega
    · refine wp_iconst (v0 := 1) d_X10_isRow_28 rfl ?_
      refine wp_goto 33 d_X10_isRow_29 rfl ?_
      refine wp_iret d_X10_isRow_33 rfl k_nar1 ?_
      refine kR_i (Eq.symm (kb_t ?_)) rfl
      simp only [kn_pred (show rc < 2 ^ 30 by omega)] at *; omega
theorem s_X10_row {X : kX} {d : Nat} {c w m v : kZ} {E : kH} {rc : Nat} (hrc : m.1 8022 = nI rc) (hrc6 : rc ≤ 6) (q u : Int32) : WP X (d + 2) 0 0 Y_X10_row 0 [(0, .ref (80)), (1, .int (q)), (2, .int (u))] [] (HP c w m v E) (fun r h1 => h1 = HP c w m v E ∧ (¬ ((0 ≤ q.toInt ∧ q.toInt < (rc : Int)) ∧ (0 ≤ u.toInt ∧ u.toInt ≤ 2)) ∧ r = some (.int (-9)) ∨ ∃ a b : Nat, a < rc ∧ b ≤ 2 ∧ q = nI a ∧ u = nI b ∧ r = some (.int ((m.2.1 93) (3 * a + b))))) := by
  refine wp_aload_n 0 d_X10_row_0 rfl rfl ?_
  refine wp_iload_n 1 d_X10_row_1 rfl rfl ?_
  refine wp_iload_n 2 d_X10_row_2 rfl rfl ?_
  refine wp_vrt_i (As := [.int (q), .int (u)]) (x0 := kb ((0 ≤ ((q) : Int32).toInt ∧ ((q) : Int32).toInt < (rc : Int)) ∧ (0 ≤ ((u) : Int32).toInt ∧ ((u) : Int32).toInt ≤ 2))) (h1 := HP c w m v E) d_X10_row_3 lk_X10_270 mv_X10_isRow in_X10_isRow se_X10_isRow (Nat.le_of_ble_eq_true rfl) (Nat.le_of_ble_eq_true rfl) (hp_80 _ _ _ _ _) rfl (s_X10_isRow hrc hrc6 (q) (u)) ?_
  refine wp_ifb_eq 22 d_X10_row_6 rfl (fun c6 => ?_) (fun c6 => ?_)
  · refine wp_bipush (v0 := -9) d_X10_row_22 (by decide) ?_
    refine wp_reti d_X10_row_24 rfl ?_
    exact ⟨rfl, Or.inl ⟨c6, rfl⟩⟩
  · obtain ⟨a, ha, rfl⟩ := k_nat c6.1
    obtain ⟨b, hb, rfl⟩ := k_natle (n := 2) c6.2
    refine wp_aload_n 0 d_X10_row_9 rfl rfl ?_
    refine wp_getfield (v := .ref (93)) d_X10_row_10 gf_X10_47 (hp_80 _ _ _ _ _) rfl ?_
    refine wp_iconst (v0 := 3) d_X10_row_13 rfl ?_
    refine wp_iload_n 1 d_X10_row_14 rfl rfl ?_
    refine wp_imul d_X10_row_15 ?_
    refine wp_v (v0 := nI ((3) * (a))) (pk_mul (3) (a)) ?_
    refine wp_iload_n 2 d_X10_row_16 rfl rfl ?_
    refine wp_iadd d_X10_row_17 ?_
    refine wp_v (v0 := nI (((3) * (a)) + (b))) (nI_add ((3) * (a)) (b)) ?_
    refine wp_iaload (v := (m.2.1 93) (((3) * (a)) + (b))) d_X10_row_18 (hp_93 _ _ _ _ _) (vp_in_nI (by omega) (by omega)) (congrArg ((m.2.1 93)) (nI_clamp (by omega))) ?_
    refine wp_goto 24 d_X10_row_19 rfl ?_
    refine wp_reti d_X10_row_24 rfl ?_
    exact ⟨rfl, Or.inr ⟨a, b, ha, hb, rfl, rfl, rfl⟩⟩
theorem s_X10_alterRow {X : kX} {d : Nat} {c w m v : kZ} {E : kH} {rc : Nat} (hrc : m.1 8022 = nI rc) (hrc6 : rc ≤ 6) (q u x : Int32) : WP X (d + 2) 0 0 Y_X10_alterRow 0 [(0, .ref (80)), (1, .int (q)), (2, .int (u)), (3, .int (x))] [] (HP c w m v E) (fun r h1 => (¬ ((0 ≤ q.toInt ∧ q.toInt < (rc : Int)) ∧ (0 ≤ u.toInt ∧ u.toInt ≤ 2)) ∧ r = some (.int 0) ∧ h1 = HP c w m v E) ∨ ∃ a b : Nat, a < rc ∧ b ≤ 2 ∧ q = nI a ∧ u = nI b ∧ r = some (.int (if (m.2.1 93) (3 * a + b) ≠ x then 2 else 1)) ∧ h1 = HP c w (setA m 93 (upd (m.2.1 93) (3 * a + b) x)) v E) := by
  refine wp_aload_n 0 d_X10_alterRow_0 rfl rfl ?_
  refine wp_iload_n 1 d_X10_alterRow_1 rfl rfl ?_
  refine wp_iload_n 2 d_X10_alterRow_2 rfl rfl ?_
  refine wp_vrt_i (As := [.int (q), .int (u)]) (x0 := kb ((0 ≤ ((q) : Int32).toInt ∧ ((q) : Int32).toInt < (rc : Int)) ∧ (0 ≤ ((u) : Int32).toInt ∧ ((u) : Int32).toInt ≤ 2))) (h1 := HP c w m v E) d_X10_alterRow_3 lk_X10_270 mv_X10_isRow in_X10_isRow se_X10_isRow (Nat.le_of_ble_eq_true rfl) (Nat.le_of_ble_eq_true rfl) (hp_80 _ _ _ _ _) rfl (s_X10_isRow hrc hrc6 (q) (u)) ?_
  refine wp_ifb_ne 11 d_X10_alterRow_6 rfl (fun c6 => ?_) (fun c6 => ?_)
  · obtain ⟨a, ha, rfl⟩ := k_nat c6.1
    obtain ⟨b, hb, rfl⟩ := k_natle (n := 2) c6.2
    refine wp_aload_n 0 d_X10_alterRow_11 rfl rfl ?_
    refine wp_getfield (v := .ref (93)) d_X10_alterRow_12 gf_X10_47 (hp_80 _ _ _ _ _) rfl ?_
    refine wp_iconst (v0 := 3) d_X10_alterRow_15 rfl ?_
    refine wp_iload_n 1 d_X10_alterRow_16 rfl rfl ?_
    refine wp_imul d_X10_alterRow_17 ?_
    refine wp_v (v0 := nI ((3) * (a))) (pk_mul (3) (a)) ?_
    refine wp_iload_n 2 d_X10_alterRow_18 rfl rfl ?_
    refine wp_iadd d_X10_alterRow_19 ?_
    refine wp_v (v0 := nI (((3) * (a)) + (b))) (nI_add ((3) * (a)) (b)) ?_
    refine wp_iaload (v := (m.2.1 93) (((3) * (a)) + (b))) d_X10_alterRow_20 (hp_93 _ _ _ _ _) (vp_in_nI (by omega) (by omega)) (congrArg ((m.2.1 93)) (nI_clamp (by omega))) ?_
    refine wp_istore [(4, .int ((m.2.1 93) (((3) * (a)) + (b)))), (0, .ref (80)), (1, .int (nI (a))), (2, .int (nI (b))), (3, .int (x))] d_X10_alterRow_21 (Nat.le_of_ble_eq_true rfl) rfl ?_
    refine wp_aload_n 1 d_X10_alterRow_23 rfl rfl ?_
    refine wp_getfield (v := .ref (93)) d_X10_alterRow_24 gf_X10_47 (hp_80 _ _ _ _ _) rfl ?_
    refine wp_iconst (v0 := 3) d_X10_alterRow_27 rfl ?_
    refine wp_iload_n 2 d_X10_alterRow_28 rfl rfl ?_
    refine wp_imul d_X10_alterRow_29 ?_
    refine wp_v (v0 := nI ((3) * (a))) (pk_mul (3) (a)) ?_
    refine wp_iload_n 3 d_X10_alterRow_30 rfl rfl ?_
    refine wp_iadd d_X10_alterRow_31 ?_
    refine wp_v (v0 := nI (((3) * (a)) + (b))) (nI_add ((3) * (a)) (b)) ?_
    refine wp_iload_n 4 d_X10_alterRow_32 rfl rfl ?_
    refine wp_iastore (h' := HP c w (setA m 93 (upd (m.2.1 93) (((3) * (a)) + (b)) (x))) v E) d_X10_alterRow_33 (hp_93 _ _ _ _ _) (vp_in_nI (by omega) (by omega)) (by rw [nI_clamp (by omega)]; exact (hpa_93 _ _ _ _ _ _)) ?_
    refine wp_iload 0 d_X10_alterRow_34 rfl ?_
    refine wp_iload_n 4 d_X10_alterRow_36 rfl rfl ?_
    refine wp_icmp_ne 44 d_X10_alterRow_37 rfl (fun c37 => ?_) (fun c37 => ?_)
    · refine wp_iconst (v0 := 2) d_X10_alterRow_44 rfl ?_
      refine wp_reti d_X10_alterRow_45 rfl ?_
      exact Or.inr ⟨a, b, ha, hb, rfl, rfl, by rw [if_pos c37], rfl⟩
    · refine wp_iconst (v0 := 1) d_X10_alterRow_40 rfl ?_
      refine wp_goto 45 d_X10_alterRow_41 rfl ?_
      refine wp_reti d_X10_alterRow_45 rfl ?_
      exact Or.inr ⟨a, b, ha, hb, rfl, rfl, by rw [if_neg (fun z9 => z9 c37)], rfl⟩
  · refine wp_iconst (v0 := 0) d_X10_alterRow_9 rfl ?_
    refine wp_reti d_X10_alterRow_10 rfl ?_
    exact Or.inl ⟨c6, rfl, rfl⟩
theorem s_X10_traced {X : kX} {d : Nat} {c w m v : kZ} {E : kH} {bc : Nat} (hbc : m.1 8038 = nI bc) (hbcN : bc < 2 ^ 20) : WP X d 0 0 Y_X10_traced 0 [(0, .ref (80))] [] (HP c w m v E) (kR (some (.int (nI (min bc 30)))) (HP c w m v E)) := by
  refine wp_aload_n 0 d_X10_traced_0 rfl rfl ?_
  refine wp_getfield (v := .int (nI (bc))) d_X10_traced_1 gf_X10_427 (hp_80 _ _ _ _ _) (congrArg (fun z => some (Value.int z)) hbc) ?_
  refine wp_bipush (v0 := 30) d_X10_traced_4 (by decide) ?_
  refine wp_ncmp_ge (a := bc) (b := 30) 16 d_X10_traced_6 rfl (by omega) (by omega) (fun c6 => ?_) (fun c6 => ?_)
  · refine wp_bipush (v0 := 30) d_X10_traced_16 (by decide) ?_
    refine wp_reti d_X10_traced_18 rfl ?_
    exact kR_i (by rw [Nat.min_eq_right (by omega)]; rfl) rfl
  · refine wp_aload_n 0 d_X10_traced_9 rfl rfl ?_
    refine wp_getfield (v := .int (nI (bc))) d_X10_traced_10 gf_X10_427 (hp_80 _ _ _ _ _) (congrArg (fun z => some (Value.int z)) hbc) ?_
    refine wp_goto 18 d_X10_traced_13 rfl ?_
    refine wp_reti d_X10_traced_18 rfl ?_
    exact kR_i (by rw [Nat.min_eq_left (by omega)]) rfl
theorem s_X10_trace {X : kX} {d : Nat} {c w m v : kZ} {E : kH} {bc : Nat} (hbc : m.1 8038 = nI bc) (hbcN : bc < 2 ^ 20) (q : Int32) : WP X (d + 1) 0 0 Y_X10_trace 0 [(0, .ref (80)), (1, .int (q))] [] (HP c w m v E) (fun r h1 => h1 = HP c w m v E ∧ (¬ (0 ≤ q.toInt ∧ q.toInt < (min bc 30 : Nat)) ∧ r = some (.int (-3)) ∨ ∃ a : Nat, a < min bc 30 ∧ q = nI a ∧ r = some (.int ((m.2.1 101) (a))))) := by
  refine wp_iload_n 1 d_X10_trace_0 rfl rfl ?_
  refine wp_i2l d_X10_trace_1 ?_
  refine wp_lconst (v0 := 0) d_X10_trace_2 rfl ?_
  refine wp_aload_n 0 d_X10_trace_3 rfl rfl ?_
  refine wp_vrt_i (As := []) (x0 := nI (min bc 30)) (h1 := HP c w m v E) d_X10_trace_4 lk_X10_457 mv_X10_traced in_X10_traced se_X10_traced (Nat.le_of_ble_eq_true rfl) (Nat.le_of_ble_eq_true rfl) (hp_80 _ _ _ _ _) rfl (s_X10_traced hbc hbcN) ?_
  refine wp_iconst (v0 := 1) d_X10_trace_7 rfl ?_
  refine wp_isub d_X10_trace_8 ?_
  refine wp_i2l d_X10_trace_9 ?_
  refine wp_stc_i (As := [.long (Int32.toInt64 (q)), .long (0), .long (Int32.toInt64 ((nI (min bc 30)) - (1)))]) (x0 := kb (0 ≤ (q : Int32).toInt ∧ (q : Int32).toInt ≤ ((nI (min bc 30)) - (1) : Int32).toInt)) (h1 := HP c w m v E) d_X10_trace_10 lk_X10_74 mv_X10_in st_X10_in (Nat.le_of_ble_eq_true rfl) (Nat.le_of_ble_eq_true rfl) (s_X10_in_j _ (q) (0) ((nI (min bc 30)) - (1))) ?_
  refine wp_ifb_eq 25 d_X10_trace_13 rfl (fun c13 => ?_) (fun c13 => ?_)
  · refine wp_bipush (v0 := -3) d_X10_trace_25 (by decide) ?_
    refine wp_reti d_X10_trace_27 rfl ?_
    exact ⟨rfl, Or.inl ⟨by rw [kn_pred (by omega)] at c13; omega, rfl⟩⟩
  · rw [kn_pred (by omega)] at c13
    obtain ⟨a, ha, rfl⟩ := k_nat (n := min bc 30) ⟨c13.1, by omega⟩
    refine wp_aload_n 0 d_X10_trace_16 rfl rfl ?_
    refine wp_getfield (v := .ref (101)) d_X10_trace_17 gf_X10_71 (hp_80 _ _ _ _ _) rfl ?_
    refine wp_iload_n 1 d_X10_trace_20 rfl rfl ?_
    refine wp_iaload (v := (m.2.1 101) (a)) d_X10_trace_21 (hp_101 _ _ _ _ _) (vp_in_nI (by omega) (by omega)) (congrArg ((m.2.1 101)) (nI_clamp (by omega))) ?_
    refine wp_goto 27 d_X10_trace_22 rfl ?_
    refine wp_reti d_X10_trace_27 rfl ?_
    exact ⟨rfl, Or.inr ⟨a, ha, rfl, rfl⟩⟩
theorem s_X10_many {X : kX} {d : Nat} {c w m v : kZ} {E : kH} {bc : Nat} (hbc : m.1 8038 = nI bc) (hbcN : bc < 2 ^ 20) (wh : Int32) : WP X (d + 1) 0 0 Y_X10_many 0 [(0, .ref (80)), (1, .int (wh))] [] (HP c w m v E) (fun r h1 => h1 = HP c w m v E ∧ ((wh = 0 ∧ r = some (.int ((m.2.1 81) 0))) ∨ (wh = 1 ∧ r = some (.int ((m.2.1 81) 1))) ∨ (wh = 2 ∧ r = some (.int ((m.2.1 81) 2))) ∨ (wh = 3 ∧ r = some (.int ((m.2.1 81) 3))) ∨ (wh = 4 ∧ r = some (.int (m.1 8022))) ∨ (wh = 5 ∧ r = some (.int (m.1 8024))) ∨ (wh = 6 ∧ r = some (.int (nI (min bc 30)))) ∨ ((wh ≠ 0 ∧ wh ≠ 1 ∧ wh ≠ 2 ∧ wh ≠ 3 ∧ wh ≠ 4 ∧ wh ≠ 5 ∧ wh ≠ 6) ∧ r = some (.int (-1))))) := by
  refine wp_iload_n 1 d_X10_many_0 rfl rfl ?_
  refine wp_if (P := (wh) = 0) (fun c1 => ?_) (fun c1_0 => ?_)
  · refine wp_tableIn 44 d_X10_many_1 (by rw [c1] <;> decide) (by rw [c1] <;> decide) (by rw [c1] <;> rfl) rfl ?_
    refine wp_aload_n 0 d_X10_many_44 rfl rfl ?_
    refine wp_getfield (v := .ref (81)) d_X10_many_45 gf_X10_7 (hp_80 _ _ _ _ _) rfl ?_
    refine wp_iconst (v0 := 0) d_X10_many_48 rfl ?_
    refine wp_iaload (v := (m.2.1 81) (0)) d_X10_many_49 (hp_81 _ _ _ _ _) (kin rfl) rfl ?_
    refine wp_reti d_X10_many_50 rfl ?_
    exact ⟨rfl, Or.inl ⟨c1, rfl⟩⟩
  refine wp_if (P := (wh) = 1) (fun c1 => ?_) (fun c1_1 => ?_)
  · refine wp_tableIn 51 d_X10_many_1 (by rw [c1] <;> decide) (by rw [c1] <;> decide) (by rw [c1] <;> rfl) rfl ?_
    refine wp_aload_n 0 d_X10_many_51 rfl rfl ?_
    refine wp_getfield (v := .ref (81)) d_X10_many_52 gf_X10_7 (hp_80 _ _ _ _ _) rfl ?_
    refine wp_iconst (v0 := 1) d_X10_many_55 rfl ?_
    refine wp_iaload (v := (m.2.1 81) (1)) d_X10_many_56 (hp_81 _ _ _ _ _) (kin rfl) rfl ?_
    refine wp_reti d_X10_many_57 rfl ?_
    exact ⟨rfl, Or.inr (Or.inl ⟨c1, rfl⟩)⟩
  refine wp_if (P := (wh) = 2) (fun c1 => ?_) (fun c1_2 => ?_)
  · refine wp_tableIn 58 d_X10_many_1 (by rw [c1] <;> decide) (by rw [c1] <;> decide) (by rw [c1] <;> rfl) rfl ?_
    refine wp_aload_n 0 d_X10_many_58 rfl rfl ?_
    refine wp_getfield (v := .ref (81)) d_X10_many_59 gf_X10_7 (hp_80 _ _ _ _ _) rfl ?_
    refine wp_iconst (v0 := 2) d_X10_many_62 rfl ?_
    refine wp_iaload (v := (m.2.1 81) (2)) d_X10_many_63 (hp_81 _ _ _ _ _) (kin rfl) rfl ?_
    refine wp_reti d_X10_many_64 rfl ?_
    exact ⟨rfl, Or.inr (Or.inr (Or.inl ⟨c1, rfl⟩))⟩
  refine wp_if (P := (wh) = 3) (fun c1 => ?_) (fun c1_3 => ?_)
  · refine wp_tableIn 65 d_X10_many_1 (by rw [c1] <;> decide) (by rw [c1] <;> decide) (by rw [c1] <;> rfl) rfl ?_
    refine wp_aload_n 0 d_X10_many_65 rfl rfl ?_
    refine wp_getfield (v := .ref (81)) d_X10_many_66 gf_X10_7 (hp_80 _ _ _ _ _) rfl ?_
    refine wp_iconst (v0 := 3) d_X10_many_69 rfl ?_
    refine wp_iaload (v := (m.2.1 81) (3)) d_X10_many_70 (hp_81 _ _ _ _ _) (kin rfl) rfl ?_
    refine wp_reti d_X10_many_71 rfl ?_
    exact ⟨rfl, Or.inr (Or.inr (Or.inr (Or.inl ⟨c1, rfl⟩)))⟩
  refine wp_if (P := (wh) = 4) (fun c1 => ?_) (fun c1_4 => ?_)
  · refine wp_tableIn 72 d_X10_many_1 (by rw [c1] <;> decide) (by rw [c1] <;> decide) (by rw [c1] <;> rfl) rfl ?_
    refine wp_aload_n 0 d_X10_many_72 rfl rfl ?_
    refine wp_getfield (v := .int ((m.1 8022))) d_X10_many_73 gf_X10_264 (hp_80 _ _ _ _ _) rfl ?_
    refine wp_reti d_X10_many_76 rfl ?_
    exact ⟨rfl, Or.inr (Or.inr (Or.inr (Or.inr (Or.inl ⟨c1, rfl⟩))))⟩
  refine wp_if (P := (wh) = 5) (fun c1 => ?_) (fun c1_5 => ?_)
  · refine wp_tableIn 77 d_X10_many_1 (by rw [c1] <;> decide) (by rw [c1] <;> decide) (by rw [c1] <;> rfl) rfl ?_
    refine wp_aload_n 0 d_X10_many_77 rfl rfl ?_
    refine wp_getfield (v := .int ((m.1 8024))) d_X10_many_78 gf_X10_275 (hp_80 _ _ _ _ _) rfl ?_
    refine wp_reti d_X10_many_81 rfl ?_
    exact ⟨rfl, Or.inr (Or.inr (Or.inr (Or.inr (Or.inr (Or.inl ⟨c1, rfl⟩)))))⟩
  refine wp_if (P := (wh) = 6) (fun c1 => ?_) (fun c1_6 => ?_)
  · refine wp_tableIn 82 d_X10_many_1 (by rw [c1] <;> decide) (by rw [c1] <;> decide) (by rw [c1] <;> rfl) rfl ?_
    refine wp_aload_n 0 d_X10_many_82 rfl rfl ?_
    refine wp_vrt_i (As := []) (x0 := nI (min bc 30)) (h1 := HP c w m v E) d_X10_many_83 lk_X10_457 mv_X10_traced in_X10_traced se_X10_traced (Nat.le_of_ble_eq_true rfl) (Nat.le_of_ble_eq_true rfl) (hp_80 _ _ _ _ _) rfl (s_X10_traced hbc hbcN) ?_
    refine wp_reti d_X10_many_86 rfl ?_
    exact ⟨rfl, Or.inr (Or.inr (Or.inr (Or.inr (Or.inr (Or.inr (Or.inl ⟨c1, rfl⟩))))))⟩
  refine wp_swd_X10_many_1 c1_0 c1_1 c1_2 c1_3 c1_4 c1_5 c1_6 ?_
  refine wp_iconst (v0 := -1) d_X10_many_87 rfl ?_
  refine wp_reti d_X10_many_88 rfl ?_
  exact ⟨rfl, Or.inr (Or.inr (Or.inr (Or.inr (Or.inr (Or.inr (Or.inr (⟨⟨c1_0, c1_1, c1_2, c1_3, c1_4, c1_5, c1_6⟩, rfl⟩)))))))⟩
theorem s_X10_keep_l {X : kX} {d : Nat} {c w m v : kZ} {E : kH}  : ∀ (k : Nat) (i : Nat), (i + k = 300) → WP X d 0 0 Y_X10_keep 2 [(1, .int (nI (i))), (0, .ref (80))] [] (HP c w (setA m 82 (kov (m.2.1 82) (m.2.1 81) i)) v E) (kR (some (.int 1)) (HP c w (setS (setA m 82 (kov (m.2.1 82) (m.2.1 81) 300)) 8003 (1)) v E)) := by
  intro k
  induction k using Nat.strongRecOn with
  | ind k ih =>
    intro i hi
    refine wp_iload_n 0 d_X10_keep_2 rfl rfl ?_
    refine wp_sipush (v0 := 300) d_X10_keep_3 (by decide) ?_
    refine wp_ncmp_ge (a := i) (b := 300) 27 d_X10_keep_6 rfl (by omega) (by omega) (fun c6 => ?_) (fun c6 => ?_)
    · refine wp_aload_n 1 d_X10_keep_27 rfl rfl ?_
      refine wp_iconst (v0 := 1) d_X10_keep_28 rfl ?_
      refine wp_putfield (h' := HP c w (setS (setA m 82 (kov (m.2.1 82) (m.2.1 81) i)) 8003 (1)) v E) d_X10_keep_29 gp_X10_460 kfit_z1 (hp_80 _ _ _ _ _) (Nat.le_of_ble_eq_true rfl) (hps_80_3 _ _ _ _ _ _) ?_
      refine wp_iconst (v0 := 1) d_X10_keep_32 rfl ?_
      refine wp_reti d_X10_keep_33 rfl ?_
      obtain rfl : i = 300 := by omega
      exact kR_i rfl rfl
    · refine wp_aload_n 1 d_X10_keep_9 rfl rfl ?_
      refine wp_getfield (v := .ref (82)) d_X10_keep_10 gf_X10_13 (hp_80 _ _ _ _ _) rfl ?_
      refine wp_iload_n 0 d_X10_keep_13 rfl rfl ?_
      refine wp_aload_n 1 d_X10_keep_14 rfl rfl ?_
      refine wp_getfield (v := .ref (81)) d_X10_keep_15 gf_X10_7 (hp_80 _ _ _ _ _) rfl ?_
      refine wp_iload_n 0 d_X10_keep_18 rfl rfl ?_
      refine wp_iaload (v := (m.2.1 81) (i)) d_X10_keep_19 (hp_81 _ _ _ _ _) (vp_in_nI (by omega) (by omega)) (congrArg ((m.2.1 81)) (nI_clamp (by omega))) ?_
      refine wp_iastore (h' := HP c w (setA (setA m 82 (kov (m.2.1 82) (m.2.1 81) i)) 82 (upd (kov (m.2.1 82) (m.2.1 81) i) (i) ((m.2.1 81) (i)))) v E) d_X10_keep_20 (hp_82 _ _ _ _ _) (vp_in_nI (by omega) (by omega)) (by rw [nI_clamp (by omega)]; exact (hpa_82 _ _ _ _ _ _)) ?_
      refine wp_iinc (v0 := nI ((i) + 1)) [(1, .int (nI ((i) + 1))), (0, .ref (80))] 0 d_X10_keep_21 rfl (nI_add (i) 1) (Nat.le_of_ble_eq_true rfl) rfl ?_
      refine wp_goto 2 d_X10_keep_24 rfl ?_
      refine wp_h (h' := HP c w (setA m 82 (kov (m.2.1 82) (m.2.1 81) (i + 1))) v E) (by rw [setA_idem, kov_s]) ?_
      exact ih (k - 1) (by omega) (i + 1) (by omega)
theorem s_X10_keep {X : kX} {d : Nat} {c w m v : kZ} {E : kH}  : WP X d 0 0 Y_X10_keep 0 [(0, .ref (80))] [] (HP c w m v E) (kR (some (.int (1))) (HP c w (setS (setA m 82 (kov (m.2.1 82) (m.2.1 81) 300)) 8003 (1)) v E)) := by
  refine wp_iconst (v0 := 0) d_X10_keep_0 rfl ?_
  refine wp_istore_n [(1, .int (0)), (0, .ref (80))] d_X10_keep_1 rfl (Nat.le_of_ble_eq_true rfl) rfl ?_
  refine wp_sub [(1, .int (nI 0)), (0, .ref 80)] [0, 1] rfl ?_
  have L := s_X10_keep_l (X := X) (d := d) (c := c) (w := w) (m := m) (v := v) (E := E) 300 0 (by omega)
  rw [kov_0, setA_self] at L
  exact L
theorem s_X10_again_l {X : kX} {d : Nat} {c w m v : kZ} {E : kH}  : ∀ (k : Nat) (i : Nat), (i + k = 300) → WP X d 0 0 Y_X10_again 12 [(1, .int (nI (i))), (0, .ref (80))] [] (HP c w (setA m 81 (kov (m.2.1 81) (m.2.1 82) i)) v E) (kR (some (.int ((kov (m.2.1 81) (m.2.1 82) 300) 0))) (HP c w (setA m 81 (kov (m.2.1 81) (m.2.1 82) 300)) v E)) := by
  intro k
  induction k using Nat.strongRecOn with
  | ind k ih =>
    intro i hi
    refine wp_iload_n 0 d_X10_again_12 rfl rfl ?_
    refine wp_sipush (v0 := 300) d_X10_again_13 (by decide) ?_
    refine wp_ncmp_ge (a := i) (b := 300) 37 d_X10_again_16 rfl (by omega) (by omega) (fun c16 => ?_) (fun c16 => ?_)
    · refine wp_aload_n 1 d_X10_again_37 rfl rfl ?_
      refine wp_getfield (v := .ref (81)) d_X10_again_38 gf_X10_7 (hp_80 _ _ _ _ _) rfl ?_
      refine wp_iconst (v0 := 0) d_X10_again_41 rfl ?_
      refine wp_iaload (v := (kov (m.2.1 81) (m.2.1 82) i) (0)) d_X10_again_42 (hp_81 _ _ _ _ _) (kin rfl) rfl ?_
      refine wp_reti d_X10_again_43 rfl ?_
      obtain rfl : i = 300 := by omega
      exact kR_i rfl rfl
    · refine wp_aload_n 1 d_X10_again_19 rfl rfl ?_
      refine wp_getfield (v := .ref (81)) d_X10_again_20 gf_X10_7 (hp_80 _ _ _ _ _) rfl ?_
      refine wp_iload_n 0 d_X10_again_23 rfl rfl ?_
      refine wp_aload_n 1 d_X10_again_24 rfl rfl ?_
      refine wp_getfield (v := .ref (82)) d_X10_again_25 gf_X10_13 (hp_80 _ _ _ _ _) rfl ?_
      refine wp_iload_n 0 d_X10_again_28 rfl rfl ?_
      refine wp_iaload (v := (m.2.1 82) (i)) d_X10_again_29 (hp_82 _ _ _ _ _) (vp_in_nI (by omega) (by omega)) (congrArg ((m.2.1 82)) (nI_clamp (by omega))) ?_
      refine wp_iastore (h' := HP c w (setA (setA m 81 (kov (m.2.1 81) (m.2.1 82) i)) 81 (upd (kov (m.2.1 81) (m.2.1 82) i) (i) ((m.2.1 82) (i)))) v E) d_X10_again_30 (hp_81 _ _ _ _ _) (vp_in_nI (by omega) (by omega)) (by rw [nI_clamp (by omega)]; exact (hpa_81 _ _ _ _ _ _)) ?_
      refine wp_iinc (v0 := nI ((i) + 1)) [(1, .int (nI ((i) + 1))), (0, .ref (80))] 0 d_X10_again_31 rfl (nI_add (i) 1) (Nat.le_of_ble_eq_true rfl) rfl ?_
      refine wp_goto 12 d_X10_again_34 rfl ?_
      refine wp_h (h' := HP c w (setA m 81 (kov (m.2.1 81) (m.2.1 82) (i + 1))) v E) (by rw [setA_idem, kov_s]) ?_
      exact ih (k - 1) (by omega) (i + 1) (by omega)
theorem s_X10_puts_l {X : kX} {d : Nat} {c w m v : kZ} {E : kH}  : ∀ (k : Nat) (i : Nat), (i + k = 300) → WP X d 0 0 Y_X10_puts 2 [(1, .int (nI (i))), (0, .ref (80))] [] (HP c w m (setA v 83 (kov (v.2.1 83) (m.2.1 81) i)) E) (kR none (HP c w m (setA v 83 (kov (v.2.1 83) (m.2.1 81) 300)) E)) := by
  intro k
  induction k using Nat.strongRecOn with
  | ind k ih =>
    intro i hi
    refine wp_iload_n 0 d_X10_puts_2 rfl rfl ?_
    refine wp_sipush (v0 := 300) d_X10_puts_3 (by decide) ?_
    refine wp_ncmp_ge (a := i) (b := 300) 27 d_X10_puts_6 rfl (by omega) (by omega) (fun c6 => ?_) (fun c6 => ?_)
    · refine wp_vret d_X10_puts_27 rfl ?_
      obtain rfl : i = 300 := by omega
      exact ⟨rfl, rfl⟩
    · refine wp_aload_n 1 d_X10_puts_9 rfl rfl ?_
      refine wp_getfield (v := .ref (83)) d_X10_puts_10 gf_X10_16 (hp_80 _ _ _ _ _) rfl ?_
      refine wp_iload_n 0 d_X10_puts_13 rfl rfl ?_
      refine wp_aload_n 1 d_X10_puts_14 rfl rfl ?_
      refine wp_getfield (v := .ref (81)) d_X10_puts_15 gf_X10_7 (hp_80 _ _ _ _ _) rfl ?_
      refine wp_iload_n 0 d_X10_puts_18 rfl rfl ?_
      refine wp_iaload (v := (m.2.1 81) (i)) d_X10_puts_19 (hp_81 _ _ _ _ _) (vp_in_nI (by omega) (by omega)) (congrArg ((m.2.1 81)) (nI_clamp (by omega))) ?_
      refine wp_iastore (h' := HP c w m (setA (setA v 83 (kov (v.2.1 83) (m.2.1 81) i)) 83 (upd (kov (v.2.1 83) (m.2.1 81) i) (i) ((m.2.1 81) (i)))) E) d_X10_puts_20 (hp_83 _ _ _ _ _) (vp_in_nI (by omega) (by omega)) (by rw [nI_clamp (by omega)]; exact (hpa_83 _ _ _ _ _ _)) ?_
      refine wp_iinc (v0 := nI ((i) + 1)) [(1, .int (nI ((i) + 1))), (0, .ref (80))] 0 d_X10_puts_21 rfl (nI_add (i) 1) (Nat.le_of_ble_eq_true rfl) rfl ?_
      refine wp_goto 2 d_X10_puts_24 rfl ?_
      refine wp_h (h' := HP c w m (setA v 83 (kov (v.2.1 83) (m.2.1 81) (i + 1))) E) (by rw [setA_idem, kov_s]) ?_
      exact ih (k - 1) (by omega) (i + 1) (by omega)
theorem s_X10_puts {X : kX} {d : Nat} {c w m v : kZ} {E : kH}  : WP X d 0 0 Y_X10_puts 0 [(0, .ref (80))] [] (HP c w m v E) (kR none (HP c w m (setA v 83 (kov (v.2.1 83) (m.2.1 81) 300)) E)) := by
  refine wp_iconst (v0 := 0) d_X10_puts_0 rfl ?_
  refine wp_istore_n [(1, .int (0)), (0, .ref (80))] d_X10_puts_1 rfl (Nat.le_of_ble_eq_true rfl) rfl ?_
  refine wp_sub [(1, .int (nI 0)), (0, .ref 80)] [0, 1] rfl ?_
  have L := s_X10_puts_l (X := X) (d := d) (c := c) (w := w) (m := m) (v := v) (E := E) 300 0 (by omega)
  rw [kov_0, setA_self] at L
  exact L
theorem s_X10_putsBack_l {X : kX} {d : Nat} {c w m v : kZ} {E : kH}  : ∀ (k : Nat) (i : Nat), (i + k = 300) → WP X d 0 0 Y_X10_putsBack 2 [(1, .int (nI (i))), (0, .ref (80))] [] (HP c w (setA m 81 (kov (m.2.1 81) (v.2.1 83) i)) v E) (kR none (HP c w (setA m 81 (kov (m.2.1 81) (v.2.1 83) 300)) v E)) := by
  intro k
  induction k using Nat.strongRecOn with
  | ind k ih =>
    intro i hi
    refine wp_iload_n 0 d_X10_putsBack_2 rfl rfl ?_
    refine wp_sipush (v0 := 300) d_X10_putsBack_3 (by decide) ?_
    refine wp_ncmp_ge (a := i) (b := 300) 27 d_X10_putsBack_6 rfl (by omega) (by omega) (fun c6 => ?_) (fun c6 => ?_)
    · refine wp_vret d_X10_putsBack_27 rfl ?_
      obtain rfl : i = 300 := by omega
      exact ⟨rfl, rfl⟩
    · refine wp_aload_n 1 d_X10_putsBack_9 rfl rfl ?_
      refine wp_getfield (v := .ref (81)) d_X10_putsBack_10 gf_X10_7 (hp_80 _ _ _ _ _) rfl ?_
      refine wp_iload_n 0 d_X10_putsBack_13 rfl rfl ?_
      refine wp_aload_n 1 d_X10_putsBack_14 rfl rfl ?_
      refine wp_getfield (v := .ref (83)) d_X10_putsBack_15 gf_X10_16 (hp_80 _ _ _ _ _) rfl ?_
      refine wp_iload_n 0 d_X10_putsBack_18 rfl rfl ?_
      refine wp_iaload (v := (v.2.1 83) (i)) d_X10_putsBack_19 (hp_83 _ _ _ _ _) (vp_in_nI (by omega) (by omega)) (congrArg ((v.2.1 83)) (nI_clamp (by omega))) ?_
      refine wp_iastore (h' := HP c w (setA (setA m 81 (kov (m.2.1 81) (v.2.1 83) i)) 81 (upd (kov (m.2.1 81) (v.2.1 83) i) (i) ((v.2.1 83) (i)))) v E) d_X10_putsBack_20 (hp_81 _ _ _ _ _) (vp_in_nI (by omega) (by omega)) (by rw [nI_clamp (by omega)]; exact (hpa_81 _ _ _ _ _ _)) ?_
      refine wp_iinc (v0 := nI ((i) + 1)) [(1, .int (nI ((i) + 1))), (0, .ref (80))] 0 d_X10_putsBack_21 rfl (nI_add (i) 1) (Nat.le_of_ble_eq_true rfl) rfl ?_
      refine wp_goto 2 d_X10_putsBack_24 rfl ?_
      refine wp_h (h' := HP c w (setA m 81 (kov (m.2.1 81) (v.2.1 83) (i + 1))) v E) (by rw [setA_idem, kov_s]) ?_
      exact ih (k - 1) (by omega) (i + 1) (by omega)
theorem s_X10_putsBack {X : kX} {d : Nat} {c w m v : kZ} {E : kH}  : WP X d 0 0 Y_X10_putsBack 0 [(0, .ref (80))] [] (HP c w m v E) (kR none (HP c w (setA m 81 (kov (m.2.1 81) (v.2.1 83) 300)) v E)) := by
  refine wp_iconst (v0 := 0) d_X10_putsBack_0 rfl ?_
  refine wp_istore_n [(1, .int (0)), (0, .ref (80))] d_X10_putsBack_1 rfl (Nat.le_of_ble_eq_true rfl) rfl ?_
  refine wp_sub [(1, .int (nI 0)), (0, .ref 80)] [0, 1] rfl ?_
  have L := s_X10_putsBack_l (X := X) (d := d) (c := c) (w := w) (m := m) (v := v) (E := E) 300 0 (by omega)
  rw [kov_0, setA_self] at L
  exact L
theorem s_X10_again {X : kX} {d : Nat} {c w m v : kZ} {E : kH} (hk : m.1 8003 = 0 ∨ m.1 8003 = 1) : WP X d 0 0 Y_X10_again 0 [(0, .ref (80))] [] (HP c w m v E) (fun r h1 => (m.1 8003 = 0 ∧ r = some (.int (-3)) ∧ h1 = HP c w m v E) ∨ (m.1 8003 = 1 ∧ r = some (.int ((kov (m.2.1 81) (m.2.1 82) 300) 0)) ∧ h1 = HP c w (setA m 81 (kov (m.2.1 81) (m.2.1 82) 300)) v E)) := by
  refine wp_aload_n 0 d_X10_again_0 rfl rfl ?_
  refine wp_getfield (v := .int ((m.1 8003))) d_X10_again_1 gf_X10_460 (hp_80 _ _ _ _ _) rfl ?_
  refine wp_if_ne 10 d_X10_again_4 rfl (fun c4 => ?_) (fun c4 => ?_)
  · refine wp_iconst (v0 := 0) d_X10_again_10 rfl ?_
    refine wp_istore_n [(1, .int (0)), (0, .ref (80))] d_X10_again_11 rfl (Nat.le_of_ble_eq_true rfl) rfl ?_
    refine wp_sub [(1, .int (nI 0)), (0, .ref 80)] [0, 1] rfl ?_
    have L := s_X10_again_l (X := X) (d := d) (c := c) (w := w) (m := m) (v := v) (E := E) 300 0 (by omega)
    rw [kov_0, setA_self] at L
    exact wp_mono (fun r h1 q9 => Or.inr ⟨by rcases hk with e | e; exact absurd e c4; exact e, q9.1, q9.2⟩) L
  · refine wp_bipush (v0 := -3) d_X10_again_7 (by decide) ?_
    refine wp_reti d_X10_again_9 rfl ?_
    exact Or.inl ⟨c4, rfl, rfl⟩
