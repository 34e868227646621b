/-! ===== the reference: shelves, acts ===== -/
def kTm (m0 m : kZ) (L : List Int32) : Prop := (∀ k, k ≠ 8038 → m.1 k = m0.1 k) ∧ (∀ k, k ≠ 101 → m.2.1 k = m0.2.1 k) ∧ m.2.2 = m0.2.2 ∧ m.1 8038 = nI L.length ∧ ∀ i (h : i < L.length), m.2.1 101 i = L[i]
theorem kTm.put {m0 m : kZ} {L : List Int32} (h : kTm m0 m L) (b : Int32) : kTm m0 (setS (setA m 101 (upd (m.2.1 101) L.length b)) 8038 (nI (L.length + 1))) (L ++ [b]) := by
  obtain ⟨h1, h2, h3, h4, h5⟩ := h
  refine ⟨fun k hk => ?_, fun k hk => ?_, h3, ?_, fun i hi => ?_⟩
  · show upd m.1 8038 _ k = _
    rw [upd_n _ _ hk]; exact h1 k hk
  · show updA m.2.1 101 _ k = _
    rw [updA_n _ _ hk]; exact h2 k hk
  · rw [List.length_append]; rfl
  · show upd (m.2.1 101) L.length b i = _
    by_cases e : i = L.length
    · subst e; rw [upd_s]; simp
    · rw [upd_n _ _ e]
      rw [List.length_append] at hi
      simp only [List.length_cons, List.length_nil] at hi
      rw [List.getElem_append_left (by omega)]
      exact h5 i (by omega)
def kDm (v : kZ) (K n a : Int32) : Prop := v.1 8041 = K ∧ v.1 8039 = n ∧ v.1 8040 = a ∧ v.1 8042 = 0
theorem s_X10_runs {X : kX} {d : Nat} {c w m v : kZ} {E : kH} {z0 : kZ} {L : List Int32} (hT : kTm z0 m L) (hL : L.length ≤ 29) (hp0 : v.1 8042 = 0) (b : Int32) : WP X d 0 0 Y_X10_runs 0 [(0, .ref (80)), (1, .int (b))] [] (HP c w m v E) (fun r h1 => r = none ∧ ∃ zz : kZ, h1 = HP c w zz v E ∧ kTm z0 zz (L ++ [b])) := by
  refine wp_aload_n 0 d_X10_runs_0 rfl rfl ?_
  refine wp_getfield (v := .int (0)) d_X10_runs_1 gf_X10_424 (hp_80 _ _ _ _ _) (congrArg (fun z => some (Value.int z)) hp0) ?_
  refine wp_if_ne 36 d_X10_runs_4 rfl (fun z => absurd z (by decide)) (fun _ => ?_)
  refine wp_aload_n 0 d_X10_runs_7 rfl rfl ?_
  refine wp_getfield (v := .int (nI (L.length))) d_X10_runs_8 gf_X10_427 (hp_80 _ _ _ _ _) (congrArg (fun z => some (Value.int z)) hT.2.2.2.1) ?_
  refine wp_bipush (v0 := 30) d_X10_runs_11 (by decide) ?_
  refine wp_ncmp_ge (a := L.length) (b := 30) 26 d_X10_runs_13 rfl (by omega) (by omega) (fun zc13 => ?_) (fun zc13 => ?_)
  · refine wp_aload_n 0 d_X10_runs_26 rfl rfl ?_
    refine wp_dup d_X10_runs_27 rfl ?_
    refine wp_getfield (v := .int (nI (L.length))) d_X10_runs_28 gf_X10_427 (hp_80 _ _ _ _ _) (congrArg (fun z => some (Value.int z)) hT.2.2.2.1) ?_
    refine wp_iconst (v0 := 1) d_X10_runs_31 rfl ?_
    refine wp_iadd d_X10_runs_32 ?_
    refine wp_v (v0 := nI ((L.length) + (1))) (nI_add (L.length) (1)) ?_
    refine wp_putfield (h' := HP c w (setS m 8038 (nI ((L.length) + (1)))) v E) d_X10_runs_33 gp_X10_427 (kfit_i _) (hp_80 _ _ _ _ _) (Nat.le_of_ble_eq_true rfl) (hps_80_38 _ _ _ _ _ _) ?_
    refine wp_vret d_X10_runs_36 rfl ?_
    omega
  · refine wp_aload_n 0 d_X10_runs_16 rfl rfl ?_
    refine wp_getfield (v := .ref (101)) d_X10_runs_17 gf_X10_71 (hp_80 _ _ _ _ _) rfl ?_
    refine wp_aload_n 0 d_X10_runs_20 rfl rfl ?_
    refine wp_getfield (v := .int (nI (L.length))) d_X10_runs_21 gf_X10_427 (hp_80 _ _ _ _ _) (congrArg (fun z => some (Value.int z)) hT.2.2.2.1) ?_
    refine wp_iload_n 1 d_X10_runs_24 rfl rfl ?_
    refine wp_iastore (h' := HP c w (setA m 101 (upd (m.2.1 101) (L.length) (b))) v E) d_X10_runs_25 (hp_101 _ _ _ _ _) (vp_in_nI (by omega) (by omega)) (by rw [nI_clamp (by omega)]; exact (hpa_101 _ _ _ _ _ _)) ?_
    refine wp_aload_n 0 d_X10_runs_26 rfl rfl ?_
    refine wp_dup d_X10_runs_27 rfl ?_
    refine wp_getfield (v := .int (nI (L.length))) d_X10_runs_28 gf_X10_427 (hp_80 _ _ _ _ _) (congrArg (fun z => some (Value.int z)) hT.2.2.2.1) ?_
    refine wp_iconst (v0 := 1) d_X10_runs_31 rfl ?_
    refine wp_iadd d_X10_runs_32 ?_
    refine wp_v (v0 := nI ((L.length) + (1))) (nI_add (L.length) (1)) ?_
    refine wp_putfield (h' := HP c w (setS (setA m 101 (upd (m.2.1 101) (L.length) (b))) 8038 (nI ((L.length) + (1)))) v E) d_X10_runs_33 gp_X10_427 (kfit_i _) (hp_80 _ _ _ _ _) (Nat.le_of_ble_eq_true rfl) (hps_80_38 _ _ _ _ _ _) ?_
    refine wp_vret d_X10_runs_36 rfl ?_
    exact ⟨rfl, _, rfl, hT.put b⟩
theorem s_X10_plainParts {X : kX} {d : Nat} {c w m v : kZ} {E : kH} {z0 : kZ} {L : List Int32} (hT : kTm z0 m L) (hL : L.length ≤ 28) {K n a : Int32} (hD : kDm v K n a) (x : Int32)  : WP X (d + 1) 0 0 Y_X10_plainParts 0 [(0, .ref (80)), (1, .int (x))] [] (HP c w m v E) (fun r h1 => ∃ zz : kZ, (a ≠ n ∧ r = some (.int (x / (a - n))) ∧ h1 = HP c w zz v E ∧ kTm z0 zz (L ++ [12])) ∨ (a = n ∧ (∃ y : Int32, r = some (.int y)) ∧ h1 = HP c w zz (setS v 8042 1) E ∧ kTm z0 zz (L ++ [12]))) := by
  refine wp_aload_n 0 d_X10_plainParts_0 rfl rfl ?_
  refine wp_bipush (v0 := 12) d_X10_plainParts_1 (by decide) ?_
  refine wp_virtual0 (As := [.int (12)]) d_X10_plainParts_3 lk_X10_433 mv_X10_runs in_X10_runs se_X10_runs (Nat.le_of_ble_eq_true rfl) (Nat.le_of_ble_eq_true rfl) (hp_80 _ _ _ _ _) rfl (s_X10_runs (m := m) hT (by first | omega | (simp only [List.length_append, List.length_cons, List.length_nil]; omega)) hD.2.2.2 (12)) (fun v3 h3 q3 => ?_)
  obtain ⟨rfl, m3_, rfl, hT3⟩ := q3
  show WP _ _ _ _ _ 6 _ [] (HP c w m3_ v E) _
  refine wp_aload_n 0 d_X10_plainParts_6 rfl rfl ?_
  refine wp_getfield (v := .int (a)) d_X10_plainParts_7 gf_X10_436 (hp_80 _ _ _ _ _) (congrArg (fun z => some (Value.int z)) hD.2.2.1) ?_
  refine wp_aload_n 0 d_X10_plainParts_10 rfl rfl ?_
  refine wp_getfield (v := .int (n)) d_X10_plainParts_11 gf_X10_439 (hp_80 _ _ _ _ _) (congrArg (fun z => some (Value.int z)) hD.2.1) ?_
  refine wp_icmp_ne 24 d_X10_plainParts_14 rfl (fun zc14 => ?_) (fun zc14 => ?_)
  · have hne := zc14
    refine wp_iload_n 1 d_X10_plainParts_24 rfl rfl ?_
    refine wp_aload_n 0 d_X10_plainParts_25 rfl rfl ?_
    refine wp_getfield (v := .int (a)) d_X10_plainParts_26 gf_X10_436 (hp_80 _ _ _ _ _) (congrArg (fun z => some (Value.int z)) hD.2.2.1) ?_
    refine wp_aload_n 0 d_X10_plainParts_29 rfl rfl ?_
    refine wp_getfield (v := .int (n)) d_X10_plainParts_30 gf_X10_439 (hp_80 _ _ _ _ _) (congrArg (fun z => some (Value.int z)) hD.2.1) ?_
    refine wp_isub d_X10_plainParts_33 ?_
    refine wp_idiv d_X10_plainParts_34 (ksub0 hne) ?_
    refine wp_reti d_X10_plainParts_35 rfl ?_
    exact ⟨_, Or.inl ⟨hne, rfl, rfl, by simpa using hT3⟩⟩
  · have heq := zc14
    refine wp_aload_n 0 d_X10_plainParts_17 rfl rfl ?_
    refine wp_iconst (v0 := 1) d_X10_plainParts_18 rfl ?_
    refine wp_putfield (h' := HP c w m3_ (setS v 8042 (1)) E) d_X10_plainParts_19 gp_X10_424 kfit_z1 (hp_80 _ _ _ _ _) (Nat.le_of_ble_eq_true rfl) (hps_80_42 _ _ _ _ _ _) ?_
    refine wp_iconst (v0 := 0) d_X10_plainParts_22 rfl ?_
    refine wp_reti d_X10_plainParts_23 rfl ?_
    exact ⟨_, Or.inr ⟨heq, ⟨_, rfl⟩, rfl, by simpa using hT3⟩⟩
theorem s_X10_dims_1 {X : kX} {d : Nat} {c w m v : kZ} {E : kH} {z0 : kZ} {L : List Int32} (hT : kTm z0 m L) (hL : L.length ≤ 26) {n a : Int32} (hD : kDm v 1 n a) (x : Int32)  : WP X (d + 2) 0 0 Y_X10_dims 0 [(0, .ref (80)), (1, .int (x))] [] (HP c w m v E) (fun r h1 => r = some (.int (((x) + a) ^^^ n)) ∧ ∃ zz : kZ, h1 = HP c w zz v E ∧ kTm z0 zz (L ++ [20, 10])) := by
  refine wp_aload_n 0 d_X10_dims_0 rfl rfl ?_
  refine wp_getfield (v := .int (1)) d_X10_dims_1 gf_X10_430 (hp_80 _ _ _ _ _) (congrArg (fun z => some (Value.int z)) hD.1) ?_
  refine wp_iconst (v0 := 1) d_X10_dims_4 rfl ?_
  refine wp_icmp_ne 14 d_X10_dims_5 rfl (fun z => absurd z (by decide)) (fun _ => ?_)
  refine wp_aload_n 0 d_X10_dims_8 rfl rfl ?_
  refine wp_bipush (v0 := 20) d_X10_dims_9 (by decide) ?_
  refine wp_virtual0 (As := [.int (20)]) d_X10_dims_11 lk_X10_433 mv_X10_runs in_X10_runs se_X10_runs (Nat.le_of_ble_eq_true rfl) (Nat.le_of_ble_eq_true rfl) (hp_80 _ _ _ _ _) rfl (s_X10_runs (m := m) hT (by first | omega | (simp only [List.length_append, List.length_cons, List.length_nil]; omega)) hD.2.2.2 (20)) (fun v11 h11 q11 => ?_)
  obtain ⟨rfl, m11_, rfl, hT11⟩ := q11
  show WP _ _ _ _ _ 14 _ [] (HP c w m11_ v E) _
  refine wp_aload_n 0 d_X10_dims_14 rfl rfl ?_
  refine wp_getfield (v := .int (1)) d_X10_dims_15 gf_X10_430 (hp_80 _ _ _ _ _) (congrArg (fun z => some (Value.int z)) hD.1) ?_
  refine wp_iconst (v0 := 3) d_X10_dims_18 rfl ?_
  refine wp_icmp_ne 28 d_X10_dims_19 rfl (fun _ => ?_) (fun z => absurd z (by decide))
  refine wp_aload_n 0 d_X10_dims_28 rfl rfl ?_
  refine wp_bipush (v0 := 10) d_X10_dims_29 (by decide) ?_
  refine wp_virtual0 (As := [.int (10)]) d_X10_dims_31 lk_X10_433 mv_X10_runs in_X10_runs se_X10_runs (Nat.le_of_ble_eq_true rfl) (Nat.le_of_ble_eq_true rfl) (hp_80 _ _ _ _ _) rfl (s_X10_runs (m := m11_) hT11 (by first | omega | (simp only [List.length_append, List.length_cons, List.length_nil]; omega)) hD.2.2.2 (10)) (fun v31 h31 q31 => ?_)
  obtain ⟨rfl, m31_, rfl, hT31⟩ := q31
  show WP _ _ _ _ _ 34 _ [] (HP c w m31_ v E) _
  refine wp_iload_n 1 d_X10_dims_34 rfl rfl ?_
  refine wp_aload_n 0 d_X10_dims_35 rfl rfl ?_
  refine wp_getfield (v := .int (a)) d_X10_dims_36 gf_X10_436 (hp_80 _ _ _ _ _) (congrArg (fun z => some (Value.int z)) hD.2.2.1) ?_
  refine wp_iadd d_X10_dims_39 ?_
  refine wp_istore_n [(2, .int ((x) + (a))), (0, .ref (80)), (1, .int (x))] d_X10_dims_40 rfl (Nat.le_of_ble_eq_true rfl) rfl ?_
  refine wp_aload_n 1 d_X10_dims_41 rfl rfl ?_
  refine wp_getfield (v := .int (1)) d_X10_dims_42 gf_X10_430 (hp_80 _ _ _ _ _) (congrArg (fun z => some (Value.int z)) hD.1) ?_
  refine wp_iconst (v0 := 1) d_X10_dims_45 rfl ?_
  refine wp_icmp_ne 58 d_X10_dims_46 rfl (fun z => absurd z (by decide)) (fun _ => ?_)
  refine wp_iload_n 0 d_X10_dims_49 rfl rfl ?_
  refine wp_aload_n 1 d_X10_dims_50 rfl rfl ?_
  refine wp_getfield (v := .int (n)) d_X10_dims_51 gf_X10_439 (hp_80 _ _ _ _ _) (congrArg (fun z => some (Value.int z)) hD.2.1) ?_
  refine wp_ixor d_X10_dims_54 ?_
  refine wp_goto 73 d_X10_dims_55 rfl ?_
  refine wp_reti d_X10_dims_73 rfl ?_
  exact ⟨rfl, _, rfl, by simpa using hT31⟩
theorem s_X10_widens_1 {X : kX} {d : Nat} {c w m v : kZ} {E : kH} {z0 : kZ} {L : List Int32} (hT : kTm z0 m L) (hL : L.length ≤ 23) {n a : Int32} (hD : kDm v 1 n a) (x : Int32)  : WP X (d + 4) 0 0 Y_X10_widens 0 [(0, .ref (80)), (1, .int (x))] [] (HP c w m v E) (fun r h1 => r = some (.int ((((x) + a) ^^^ n) * 2)) ∧ ∃ zz : kZ, h1 = HP c w zz v E ∧ kTm z0 zz (L ++ [11, 20, 10])) := by
  refine wp_aload_n 0 d_X10_widens_0 rfl rfl ?_
  refine wp_getfield (v := .int (1)) d_X10_widens_1 gf_X10_430 (hp_80 _ _ _ _ _) (congrArg (fun z => some (Value.int z)) hD.1) ?_
  refine wp_iconst (v0 := 2) d_X10_widens_4 rfl ?_
  refine wp_icmp_eq 16 d_X10_widens_5 rfl (fun z => absurd z (by decide)) (fun _ => ?_)
  refine wp_aload_n 0 d_X10_widens_8 rfl rfl ?_
  refine wp_getfield (v := .int (1)) d_X10_widens_9 gf_X10_430 (hp_80 _ _ _ _ _) (congrArg (fun z => some (Value.int z)) hD.1) ?_
  refine wp_iconst (v0 := 3) d_X10_widens_12 rfl ?_
  refine wp_icmp_ne 20 d_X10_widens_13 rfl (fun _ => ?_) (fun z => absurd z (by decide))
  refine wp_iconst (v0 := 0) d_X10_widens_20 rfl ?_
  refine wp_istore_n [(2, .int (0)), (0, .ref (80)), (1, .int (x))] d_X10_widens_21 rfl (Nat.le_of_ble_eq_true rfl) rfl ?_
  refine wp_iload_n 0 d_X10_widens_22 rfl rfl ?_
  refine wp_if_eq 32 d_X10_widens_23 rfl (fun _ => ?_) (fun z => absurd z (by decide))
  refine wp_aload_n 1 d_X10_widens_32 rfl rfl ?_
  refine wp_getfield (v := .int (1)) d_X10_widens_33 gf_X10_430 (hp_80 _ _ _ _ _) (congrArg (fun z => some (Value.int z)) hD.1) ?_
  refine wp_iconst (v0 := 5) d_X10_widens_36 rfl ?_
  refine wp_icmp_ne 46 d_X10_widens_37 rfl (fun _ => ?_) (fun z => absurd z (by decide))
  refine wp_aload_n 1 d_X10_widens_46 rfl rfl ?_
  refine wp_bipush (v0 := 11) d_X10_widens_47 (by decide) ?_
  refine wp_virtual0 (As := [.int (11)]) d_X10_widens_49 lk_X10_433 mv_X10_runs in_X10_runs se_X10_runs (Nat.le_of_ble_eq_true rfl) (Nat.le_of_ble_eq_true rfl) (hp_80 _ _ _ _ _) rfl (s_X10_runs (m := m) hT (by first | omega | (simp only [List.length_append, List.length_cons, List.length_nil]; omega)) hD.2.2.2 (11)) (fun v49 h49 q49 => ?_)
  obtain ⟨rfl, m49_, rfl, hT49⟩ := q49
  show WP _ _ _ _ _ 52 _ [] (HP c w m49_ v E) _
  refine wp_aload_n 1 d_X10_widens_52 rfl rfl ?_
  refine wp_iload_n 2 d_X10_widens_53 rfl rfl ?_
  refine wp_virtual0 (As := [.int (x)]) d_X10_widens_54 lk_X10_442 mv_X10_dims in_X10_dims se_X10_dims (Nat.le_of_ble_eq_true rfl) (Nat.le_of_ble_eq_true rfl) (hp_80 _ _ _ _ _) rfl (s_X10_dims_1 (m := m49_) hT49 (by first | omega | (simp only [List.length_append, List.length_cons, List.length_nil]; omega)) hD (x)) (fun v54 h54 q54 => ?_)
  obtain ⟨rfl, m54_, rfl, hT54⟩ := q54
  show WP _ _ _ _ _ 57 _ [.int (((x) + a) ^^^ n)] (HP c w m54_ v E) _
  refine wp_iconst (v0 := 2) d_X10_widens_57 rfl ?_
  refine wp_imul d_X10_widens_58 ?_
  refine wp_istore_n [(3, .int ((((x) + a) ^^^ n) * (2))), (2, .int (0)), (0, .ref (80)), (1, .int (x))] d_X10_widens_59 rfl (Nat.le_of_ble_eq_true rfl) rfl ?_
  refine wp_iload_n 1 d_X10_widens_60 rfl rfl ?_
  refine wp_if_eq 73 d_X10_widens_61 rfl (fun _ => ?_) (fun z => absurd z (by decide))
  refine wp_aload_n 2 d_X10_widens_73 rfl rfl ?_
  refine wp_getfield (v := .int (1)) d_X10_widens_74 gf_X10_430 (hp_80 _ _ _ _ _) (congrArg (fun z => some (Value.int z)) hD.1) ?_
  refine wp_iconst (v0 := 5) d_X10_widens_77 rfl ?_
  refine wp_icmp_ne 87 d_X10_widens_78 rfl (fun _ => ?_) (fun z => absurd z (by decide))
  refine wp_iload_n 0 d_X10_widens_87 rfl rfl ?_
  refine wp_reti d_X10_widens_88 rfl ?_
  exact ⟨rfl, _, rfl, by simpa using hT54⟩
theorem s_X10_parts_1 {X : kX} {d : Nat} {c w m v : kZ} {E : kH} {z0 : kZ} {L : List Int32} (hT : kTm z0 m L) (hL : L.length ≤ 23) {n a : Int32} (hD : kDm v 1 n a) (x : Int32)  : WP X (d + 3) 0 0 Y_X10_parts 0 [(0, .ref (80)), (1, .int (x))] [] (HP c w m v E) (fun r h1 => ∃ zz : kZ, (a ≠ n ∧ r = some (.int (x / (a - n))) ∧ h1 = HP c w zz v E ∧ kTm z0 zz (L ++ [12])) ∨ (a = n ∧ (∃ y : Int32, r = some (.int y)) ∧ h1 = HP c w zz (setS v 8042 1) E ∧ kTm z0 zz (L ++ [12]))) := by
  refine wp_aload_n 0 d_X10_parts_0 rfl rfl ?_
  refine wp_getfield (v := .int (1)) d_X10_parts_1 gf_X10_430 (hp_80 _ _ _ _ _) (congrArg (fun z => some (Value.int z)) hD.1) ?_
  refine wp_iconst (v0 := 4) d_X10_parts_4 rfl ?_
  refine wp_icmp_ne 22 d_X10_parts_5 rfl (fun _ => ?_) (fun z => absurd z (by decide))
  refine wp_aload_n 0 d_X10_parts_22 rfl rfl ?_
  refine wp_getfield (v := .int (1)) d_X10_parts_23 gf_X10_430 (hp_80 _ _ _ _ _) (congrArg (fun z => some (Value.int z)) hD.1) ?_
  refine wp_iconst (v0 := 5) d_X10_parts_26 rfl ?_
  refine wp_icmp_ne 72 d_X10_parts_27 rfl (fun _ => ?_) (fun z => absurd z (by decide))
  refine wp_aload_n 0 d_X10_parts_72 rfl rfl ?_
  refine wp_iload_n 1 d_X10_parts_73 rfl rfl ?_
  refine wp_virtual0 (As := [.int (x)]) d_X10_parts_74 lk_X10_445 mv_X10_plainParts in_X10_plainParts se_X10_plainParts (Nat.le_of_ble_eq_true rfl) (Nat.le_of_ble_eq_true rfl) (hp_80 _ _ _ _ _) rfl (s_X10_plainParts (m := m) hT (by first | omega | (simp only [List.length_append, List.length_cons, List.length_nil]; omega)) hD (x)) (fun v74 h74 q74 => ?_)
  obtain ⟨m74_, ⟨hne, rfl, rfl, hT74⟩ | ⟨heq, ⟨y74, rfl⟩, rfl, hT74⟩⟩ := q74
  · show WP _ _ _ _ _ 77 _ [.int ((x) / (a - n))] (HP c w m74_ v E) _
    refine wp_reti d_X10_parts_77 rfl ?_
    exact ⟨_, Or.inl ⟨hne, rfl, rfl, by simpa using hT74⟩⟩
  · show WP _ _ _ _ _ 77 _ [.int (y74)] (HP c w m74_ (setS v 8042 (1)) E) _
    refine wp_reti d_X10_parts_77 rfl ?_
    exact ⟨_, Or.inr ⟨heq, ⟨_, rfl⟩, rfl, by simpa using hT74⟩⟩
theorem s_X10_tells_1 {X : kX} {d : Nat} {c w m v : kZ} {E : kH} {z0 : kZ} {L : List Int32} (hT : kTm z0 m L) (hL : L.length ≤ 12) {n a : Int32} (hD : kDm v 1 n a) (x : Int32)  : WP X (d + 6) 0 0 Y_X10_tells 0 [(0, .ref (80)), (1, .int (x))] [] (HP c w m v E) (fun r h1 => r = some (.int (((((x) + a) ^^^ n) * 2) ^^^ n)) ∧ ∃ zz : kZ, h1 = HP c w zz v E ∧ kTm z0 zz (L ++ [13, 11, 20, 10])) := by
  refine wp_aload_n 0 d_X10_tells_0 rfl rfl ?_
  refine wp_getfield (v := .int (1)) d_X10_tells_1 gf_X10_430 (hp_80 _ _ _ _ _) (congrArg (fun z => some (Value.int z)) hD.1) ?_
  refine wp_iconst (v0 := 3) d_X10_tells_4 rfl ?_
  refine wp_icmp_ne 14 d_X10_tells_5 rfl (fun _ => ?_) (fun z => absurd z (by decide))
  refine wp_aload_n 0 d_X10_tells_14 rfl rfl ?_
  refine wp_bipush (v0 := 13) d_X10_tells_15 (by decide) ?_
  refine wp_virtual0 (As := [.int (13)]) d_X10_tells_17 lk_X10_433 mv_X10_runs in_X10_runs se_X10_runs (Nat.le_of_ble_eq_true rfl) (Nat.le_of_ble_eq_true rfl) (hp_80 _ _ _ _ _) rfl (s_X10_runs (m := m) hT (by first | omega | (simp only [List.length_append, List.length_cons, List.length_nil]; omega)) hD.2.2.2 (13)) (fun v17 h17 q17 => ?_)
  obtain ⟨rfl, m17_, rfl, hT17⟩ := q17
  show WP _ _ _ _ _ 20 _ [] (HP c w m17_ v E) _
  refine wp_aload_n 0 d_X10_tells_20 rfl rfl ?_
  refine wp_iload_n 1 d_X10_tells_21 rfl rfl ?_
  refine wp_virtual0 (As := [.int (x)]) d_X10_tells_22 lk_X10_448 mv_X10_widens in_X10_widens se_X10_widens (Nat.le_of_ble_eq_true rfl) (Nat.le_of_ble_eq_true rfl) (hp_80 _ _ _ _ _) rfl (s_X10_widens_1 (m := m17_) hT17 (by first | omega | (simp only [List.length_append, List.length_cons, List.length_nil]; omega)) hD (x)) (fun v22 h22 q22 => ?_)
  obtain ⟨rfl, m22_, rfl, hT22⟩ := q22
  show WP _ _ _ _ _ 25 _ [.int ((((x) + a) ^^^ n) * 2)] (HP c w m22_ v E) _
  refine wp_aload_n 0 d_X10_tells_25 rfl rfl ?_
  refine wp_getfield (v := .int (n)) d_X10_tells_26 gf_X10_439 (hp_80 _ _ _ _ _) (congrArg (fun z => some (Value.int z)) hD.2.1) ?_
  refine wp_ixor d_X10_tells_29 ?_
  refine wp_istore_n [(2, .int (((((x) + a) ^^^ n) * 2) ^^^ (n))), (0, .ref (80)), (1, .int (x))] d_X10_tells_30 rfl (Nat.le_of_ble_eq_true rfl) rfl ?_
  refine wp_aload_n 1 d_X10_tells_31 rfl rfl ?_
  refine wp_getfield (v := .int (1)) d_X10_tells_32 gf_X10_430 (hp_80 _ _ _ _ _) (congrArg (fun z => some (Value.int z)) hD.1) ?_
  refine wp_iconst (v0 := 3) d_X10_tells_35 rfl ?_
  refine wp_icmp_ne 52 d_X10_tells_36 rfl (fun _ => ?_) (fun z => absurd z (by decide))
  refine wp_iload_n 0 d_X10_tells_52 rfl rfl ?_
  refine wp_reti d_X10_tells_53 rfl ?_
  exact ⟨rfl, _, rfl, by simpa using hT22⟩
theorem s_X10_dims_2 {X : kX} {d : Nat} {c w m v : kZ} {E : kH} {z0 : kZ} {L : List Int32} (hT : kTm z0 m L) (hL : L.length ≤ 26) {n a : Int32} (hD : kDm v 2 n a) (x : Int32)  : WP X (d + 2) 0 0 Y_X10_dims 0 [(0, .ref (80)), (1, .int (x))] [] (HP c w m v E) (fun r h1 => r = some (.int ((x) + a)) ∧ ∃ zz : kZ, h1 = HP c w zz v E ∧ kTm z0 zz (L ++ [10])) := by
  refine wp_aload_n 0 d_X10_dims_0 rfl rfl ?_
  refine wp_getfield (v := .int (2)) d_X10_dims_1 gf_X10_430 (hp_80 _ _ _ _ _) (congrArg (fun z => some (Value.int z)) hD.1) ?_
  refine wp_iconst (v0 := 1) d_X10_dims_4 rfl ?_
  refine wp_icmp_ne 14 d_X10_dims_5 rfl (fun _ => ?_) (fun z => absurd z (by decide))
  refine wp_aload_n 0 d_X10_dims_14 rfl rfl ?_
  refine wp_getfield (v := .int (2)) d_X10_dims_15 gf_X10_430 (hp_80 _ _ _ _ _) (congrArg (fun z => some (Value.int z)) hD.1) ?_
  refine wp_iconst (v0 := 3) d_X10_dims_18 rfl ?_
  refine wp_icmp_ne 28 d_X10_dims_19 rfl (fun _ => ?_) (fun z => absurd z (by decide))
  refine wp_aload_n 0 d_X10_dims_28 rfl rfl ?_
  refine wp_bipush (v0 := 10) d_X10_dims_29 (by decide) ?_
  refine wp_virtual0 (As := [.int (10)]) d_X10_dims_31 lk_X10_433 mv_X10_runs in_X10_runs se_X10_runs (Nat.le_of_ble_eq_true rfl) (Nat.le_of_ble_eq_true rfl) (hp_80 _ _ _ _ _) rfl (s_X10_runs (m := m) hT (by first | omega | (simp only [List.length_append, List.length_cons, List.length_nil]; omega)) hD.2.2.2 (10)) (fun v31 h31 q31 => ?_)
  obtain ⟨rfl, m31_, rfl, hT31⟩ := q31
  show WP _ _ _ _ _ 34 _ [] (HP c w m31_ v E) _
  refine wp_iload_n 1 d_X10_dims_34 rfl rfl ?_
  refine wp_aload_n 0 d_X10_dims_35 rfl rfl ?_
  refine wp_getfield (v := .int (a)) d_X10_dims_36 gf_X10_436 (hp_80 _ _ _ _ _) (congrArg (fun z => some (Value.int z)) hD.2.2.1) ?_
  refine wp_iadd d_X10_dims_39 ?_
  refine wp_istore_n [(2, .int ((x) + (a))), (0, .ref (80)), (1, .int (x))] d_X10_dims_40 rfl (Nat.le_of_ble_eq_true rfl) rfl ?_
  refine wp_aload_n 1 d_X10_dims_41 rfl rfl ?_
  refine wp_getfield (v := .int (2)) d_X10_dims_42 gf_X10_430 (hp_80 _ _ _ _ _) (congrArg (fun z => some (Value.int z)) hD.1) ?_
  refine wp_iconst (v0 := 1) d_X10_dims_45 rfl ?_
  refine wp_icmp_ne 58 d_X10_dims_46 rfl (fun _ => ?_) (fun z => absurd z (by decide))
  refine wp_aload_n 1 d_X10_dims_58 rfl rfl ?_
  refine wp_getfield (v := .int (2)) d_X10_dims_59 gf_X10_430 (hp_80 _ _ _ _ _) (congrArg (fun z => some (Value.int z)) hD.1) ?_
  refine wp_iconst (v0 := 3) d_X10_dims_62 rfl ?_
  refine wp_icmp_ne 72 d_X10_dims_63 rfl (fun _ => ?_) (fun z => absurd z (by decide))
  refine wp_iload_n 0 d_X10_dims_72 rfl rfl ?_
  refine wp_reti d_X10_dims_73 rfl ?_
  exact ⟨rfl, _, rfl, by simpa using hT31⟩
theorem s_X10_widens_2 {X : kX} {d : Nat} {c w m v : kZ} {E : kH} {z0 : kZ} {L : List Int32} (hT : kTm z0 m L) (hL : L.length ≤ 23) {n a : Int32} (hD : kDm v 2 n a) (x : Int32)  : WP X (d + 4) 0 0 Y_X10_widens 0 [(0, .ref (80)), (1, .int (x))] [] (HP c w m v E) (fun r h1 => r = some (.int (((x) + a) * 2 - a)) ∧ ∃ zz : kZ, h1 = HP c w zz v E ∧ kTm z0 zz (L ++ [30, 11, 10])) := by
  refine wp_aload_n 0 d_X10_widens_0 rfl rfl ?_
  refine wp_getfield (v := .int (2)) d_X10_widens_1 gf_X10_430 (hp_80 _ _ _ _ _) (congrArg (fun z => some (Value.int z)) hD.1) ?_
  refine wp_iconst (v0 := 2) d_X10_widens_4 rfl ?_
  refine wp_icmp_eq 16 d_X10_widens_5 rfl (fun _ => ?_) (fun z => absurd z (by decide))
  refine wp_iconst (v0 := 1) d_X10_widens_16 rfl ?_
  refine wp_goto 21 d_X10_widens_17 rfl ?_
  refine wp_istore_n [(2, .int (1)), (0, .ref (80)), (1, .int (x))] d_X10_widens_21 rfl (Nat.le_of_ble_eq_true rfl) rfl ?_
  refine wp_iload_n 0 d_X10_widens_22 rfl rfl ?_
  refine wp_if_eq 32 d_X10_widens_23 rfl (fun z => absurd z (by decide)) (fun _ => ?_)
  refine wp_aload_n 1 d_X10_widens_26 rfl rfl ?_
  refine wp_bipush (v0 := 30) d_X10_widens_27 (by decide) ?_
  refine wp_virtual0 (As := [.int (30)]) d_X10_widens_29 lk_X10_433 mv_X10_runs in_X10_runs se_X10_runs (Nat.le_of_ble_eq_true rfl) (Nat.le_of_ble_eq_true rfl) (hp_80 _ _ _ _ _) rfl (s_X10_runs (m := m) hT (by first | omega | (simp only [List.length_append, List.length_cons, List.length_nil]; omega)) hD.2.2.2 (30)) (fun v29 h29 q29 => ?_)
  obtain ⟨rfl, m29_, rfl, hT29⟩ := q29
  show WP _ _ _ _ _ 32 _ [] (HP c w m29_ v E) _
  refine wp_aload_n 1 d_X10_widens_32 rfl rfl ?_
  refine wp_getfield (v := .int (2)) d_X10_widens_33 gf_X10_430 (hp_80 _ _ _ _ _) (congrArg (fun z => some (Value.int z)) hD.1) ?_
  refine wp_iconst (v0 := 5) d_X10_widens_36 rfl ?_
  refine wp_icmp_ne 46 d_X10_widens_37 rfl (fun _ => ?_) (fun z => absurd z (by decide))
  refine wp_aload_n 1 d_X10_widens_46 rfl rfl ?_
  refine wp_bipush (v0 := 11) d_X10_widens_47 (by decide) ?_
  refine wp_virtual0 (As := [.int (11)]) d_X10_widens_49 lk_X10_433 mv_X10_runs in_X10_runs se_X10_runs (Nat.le_of_ble_eq_true rfl) (Nat.le_of_ble_eq_true rfl) (hp_80 _ _ _ _ _) rfl (s_X10_runs (m := m29_) hT29 (by first | omega | (simp only [List.length_append, List.length_cons, List.length_nil]; omega)) hD.2.2.2 (11)) (fun v49 h49 q49 => ?_)
  obtain ⟨rfl, m49_, rfl, hT49⟩ := q49
  show WP _ _ _ _ _ 52 _ [] (HP c w m49_ v E) _
  refine wp_aload_n 1 d_X10_widens_52 rfl rfl ?_
  refine wp_iload_n 2 d_X10_widens_53 rfl rfl ?_
  refine wp_virtual0 (As := [.int (x)]) d_X10_widens_54 lk_X10_442 mv_X10_dims in_X10_dims se_X10_dims (Nat.le_of_ble_eq_true rfl) (Nat.le_of_ble_eq_true rfl) (hp_80 _ _ _ _ _) rfl (s_X10_dims_2 (m := m49_) hT49 (by first | omega | (simp only [List.length_append, List.length_cons, List.length_nil]; omega)) hD (x)) (fun v54 h54 q54 => ?_)
  obtain ⟨rfl, m54_, rfl, hT54⟩ := q54
  show WP _ _ _ _ _ 57 _ [.int ((x) + a)] (HP c w m54_ v E) _
  refine wp_iconst (v0 := 2) d_X10_widens_57 rfl ?_
  refine wp_imul d_X10_widens_58 ?_
  refine wp_istore_n [(3, .int (((x) + a) * (2))), (2, .int (1)), (0, .ref (80)), (1, .int (x))] d_X10_widens_59 rfl (Nat.le_of_ble_eq_true rfl) rfl ?_
  refine wp_iload_n 1 d_X10_widens_60 rfl rfl ?_
  refine wp_if_eq 73 d_X10_widens_61 rfl (fun z => absurd z (by decide)) (fun _ => ?_)
  refine wp_iload_n 0 d_X10_widens_64 rfl rfl ?_
  refine wp_aload_n 2 d_X10_widens_65 rfl rfl ?_
  refine wp_getfield (v := .int (a)) d_X10_widens_66 gf_X10_436 (hp_80 _ _ _ _ _) (congrArg (fun z => some (Value.int z)) hD.2.2.1) ?_
  refine wp_isub d_X10_widens_69 ?_
  refine wp_goto 88 d_X10_widens_70 rfl ?_
  refine wp_reti d_X10_widens_88 rfl ?_
  exact ⟨rfl, _, rfl, by simpa using hT54⟩
theorem s_X10_parts_2 {X : kX} {d : Nat} {c w m v : kZ} {E : kH} {z0 : kZ} {L : List Int32} (hT : kTm z0 m L) (hL : L.length ≤ 23) {n a : Int32} (hD : kDm v 2 n a) (x : Int32)  : WP X (d + 3) 0 0 Y_X10_parts 0 [(0, .ref (80)), (1, .int (x))] [] (HP c w m v E) (fun r h1 => ∃ zz : kZ, (a ≠ n ∧ r = some (.int (x / (a - n))) ∧ h1 = HP c w zz v E ∧ kTm z0 zz (L ++ [12])) ∨ (a = n ∧ (∃ y : Int32, r = some (.int y)) ∧ h1 = HP c w zz (setS v 8042 1) E ∧ kTm z0 zz (L ++ [12]))) := by
  refine wp_aload_n 0 d_X10_parts_0 rfl rfl ?_
  refine wp_getfield (v := .int (2)) d_X10_parts_1 gf_X10_430 (hp_80 _ _ _ _ _) (congrArg (fun z => some (Value.int z)) hD.1) ?_
  refine wp_iconst (v0 := 4) d_X10_parts_4 rfl ?_
  refine wp_icmp_ne 22 d_X10_parts_5 rfl (fun _ => ?_) (fun z => absurd z (by decide))
  refine wp_aload_n 0 d_X10_parts_22 rfl rfl ?_
  refine wp_getfield (v := .int (2)) d_X10_parts_23 gf_X10_430 (hp_80 _ _ _ _ _) (congrArg (fun z => some (Value.int z)) hD.1) ?_
  refine wp_iconst (v0 := 5) d_X10_parts_26 rfl ?_
  refine wp_icmp_ne 72 d_X10_parts_27 rfl (fun _ => ?_) (fun z => absurd z (by decide))
  refine wp_aload_n 0 d_X10_parts_72 rfl rfl ?_
  refine wp_iload_n 1 d_X10_parts_73 rfl rfl ?_
  refine wp_virtual0 (As := [.int (x)]) d_X10_parts_74 lk_X10_445 mv_X10_plainParts in_X10_plainParts se_X10_plainParts (Nat.le_of_ble_eq_true rfl) (Nat.le_of_ble_eq_true rfl) (hp_80 _ _ _ _ _) rfl (s_X10_plainParts (m := m) hT (by first | omega | (simp only [List.length_append, List.length_cons, List.length_nil]; omega)) hD (x)) (fun v74 h74 q74 => ?_)
  obtain ⟨m74_, ⟨hne, rfl, rfl, hT74⟩ | ⟨heq, ⟨y74, rfl⟩, rfl, hT74⟩⟩ := q74
  · show WP _ _ _ _ _ 77 _ [.int ((x) / (a - n))] (HP c w m74_ v E) _
    refine wp_reti d_X10_parts_77 rfl ?_
    exact ⟨_, Or.inl ⟨hne, rfl, rfl, by simpa using hT74⟩⟩
  · show WP _ _ _ _ _ 77 _ [.int (y74)] (HP c w m74_ (setS v 8042 (1)) E) _
    refine wp_reti d_X10_parts_77 rfl ?_
    exact ⟨_, Or.inr ⟨heq, ⟨_, rfl⟩, rfl, by simpa using hT74⟩⟩
theorem s_X10_tells_2 {X : kX} {d : Nat} {c w m v : kZ} {E : kH} {z0 : kZ} {L : List Int32} (hT : kTm z0 m L) (hL : L.length ≤ 12) {n a : Int32} (hD : kDm v 2 n a) (x : Int32)  : WP X (d + 6) 0 0 Y_X10_tells 0 [(0, .ref (80)), (1, .int (x))] [] (HP c w m v E) (fun r h1 => r = some (.int ((((x) + a) * 2 - a) ^^^ n)) ∧ ∃ zz : kZ, h1 = HP c w zz v E ∧ kTm z0 zz (L ++ [13, 30, 11, 10])) := by
  refine wp_aload_n 0 d_X10_tells_0 rfl rfl ?_
  refine wp_getfield (v := .int (2)) d_X10_tells_1 gf_X10_430 (hp_80 _ _ _ _ _) (congrArg (fun z => some (Value.int z)) hD.1) ?_
  refine wp_iconst (v0 := 3) d_X10_tells_4 rfl ?_
  refine wp_icmp_ne 14 d_X10_tells_5 rfl (fun _ => ?_) (fun z => absurd z (by decide))
  refine wp_aload_n 0 d_X10_tells_14 rfl rfl ?_
  refine wp_bipush (v0 := 13) d_X10_tells_15 (by decide) ?_
  refine wp_virtual0 (As := [.int (13)]) d_X10_tells_17 lk_X10_433 mv_X10_runs in_X10_runs se_X10_runs (Nat.le_of_ble_eq_true rfl) (Nat.le_of_ble_eq_true rfl) (hp_80 _ _ _ _ _) rfl (s_X10_runs (m := m) hT (by first | omega | (simp only [List.length_append, List.length_cons, List.length_nil]; omega)) hD.2.2.2 (13)) (fun v17 h17 q17 => ?_)
  obtain ⟨rfl, m17_, rfl, hT17⟩ := q17
  show WP _ _ _ _ _ 20 _ [] (HP c w m17_ v E) _
  refine wp_aload_n 0 d_X10_tells_20 rfl rfl ?_
  refine wp_iload_n 1 d_X10_tells_21 rfl rfl ?_
  refine wp_virtual0 (As := [.int (x)]) d_X10_tells_22 lk_X10_448 mv_X10_widens in_X10_widens se_X10_widens (Nat.le_of_ble_eq_true rfl) (Nat.le_of_ble_eq_true rfl) (hp_80 _ _ _ _ _) rfl (s_X10_widens_2 (m := m17_) hT17 (by first | omega | (simp only [List.length_append, List.length_cons, List.length_nil]; omega)) hD (x)) (fun v22 h22 q22 => ?_)
  obtain ⟨rfl, m22_, rfl, hT22⟩ := q22
  show WP _ _ _ _ _ 25 _ [.int (((x) + a) * 2 - a)] (HP c w m22_ v E) _
  refine wp_aload_n 0 d_X10_tells_25 rfl rfl ?_
  refine wp_getfield (v := .int (n)) d_X10_tells_26 gf_X10_439 (hp_80 _ _ _ _ _) (congrArg (fun z => some (Value.int z)) hD.2.1) ?_
  refine wp_ixor d_X10_tells_29 ?_
  refine wp_istore_n [(2, .int ((((x) + a) * 2 - a) ^^^ (n))), (0, .ref (80)), (1, .int (x))] d_X10_tells_30 rfl (Nat.le_of_ble_eq_true rfl) rfl ?_
  refine wp_aload_n 1 d_X10_tells_31 rfl rfl ?_
  refine wp_getfield (v := .int (2)) d_X10_tells_32 gf_X10_430 (hp_80 _ _ _ _ _) (congrArg (fun z => some (Value.int z)) hD.1) ?_
  refine wp_iconst (v0 := 3) d_X10_tells_35 rfl ?_
  refine wp_icmp_ne 52 d_X10_tells_36 rfl (fun _ => ?_) (fun z => absurd z (by decide))
  refine wp_iload_n 0 d_X10_tells_52 rfl rfl ?_
  refine wp_reti d_X10_tells_53 rfl ?_
  exact ⟨rfl, _, rfl, by simpa using hT22⟩
theorem s_X10_dims_3 {X : kX} {d : Nat} {c w m v : kZ} {E : kH} {z0 : kZ} {L : List Int32} (hT : kTm z0 m L) (hL : L.length ≤ 26) {n a : Int32} (hD : kDm v 3 n a) (x : Int32)  : WP X (d + 2) 0 0 Y_X10_dims 0 [(0, .ref (80)), (1, .int (x))] [] (HP c w m v E) (fun r h1 => r = some (.int ((x) + a + 1)) ∧ ∃ zz : kZ, h1 = HP c w zz v E ∧ kTm z0 zz (L ++ [50, 10])) := by
  refine wp_aload_n 0 d_X10_dims_0 rfl rfl ?_
  refine wp_getfield (v := .int (3)) d_X10_dims_1 gf_X10_430 (hp_80 _ _ _ _ _) (congrArg (fun z => some (Value.int z)) hD.1) ?_
  refine wp_iconst (v0 := 1) d_X10_dims_4 rfl ?_
  refine wp_icmp_ne 14 d_X10_dims_5 rfl (fun _ => ?_) (fun z => absurd z (by decide))
  refine wp_aload_n 0 d_X10_dims_14 rfl rfl ?_
  refine wp_getfield (v := .int (3)) d_X10_dims_15 gf_X10_430 (hp_80 _ _ _ _ _) (congrArg (fun z => some (Value.int z)) hD.1) ?_
  refine wp_iconst (v0 := 3) d_X10_dims_18 rfl ?_
  refine wp_icmp_ne 28 d_X10_dims_19 rfl (fun z => absurd z (by decide)) (fun _ => ?_)
  refine wp_aload_n 0 d_X10_dims_22 rfl rfl ?_
  refine wp_bipush (v0 := 50) d_X10_dims_23 (by decide) ?_
  refine wp_virtual0 (As := [.int (50)]) d_X10_dims_25 lk_X10_433 mv_X10_runs in_X10_runs se_X10_runs (Nat.le_of_ble_eq_true rfl) (Nat.le_of_ble_eq_true rfl) (hp_80 _ _ _ _ _) rfl (s_X10_runs (m := m) hT (by first | omega | (simp only [List.length_append, List.length_cons, List.length_nil]; omega)) hD.2.2.2 (50)) (fun v25 h25 q25 => ?_)
  obtain ⟨rfl, m25_, rfl, hT25⟩ := q25
  show WP _ _ _ _ _ 28 _ [] (HP c w m25_ v E) _
  refine wp_aload_n 0 d_X10_dims_28 rfl rfl ?_
  refine wp_bipush (v0 := 10) d_X10_dims_29 (by decide) ?_
  refine wp_virtual0 (As := [.int (10)]) d_X10_dims_31 lk_X10_433 mv_X10_runs in_X10_runs se_X10_runs (Nat.le_of_ble_eq_true rfl) (Nat.le_of_ble_eq_true rfl) (hp_80 _ _ _ _ _) rfl (s_X10_runs (m := m25_) hT25 (by first | omega | (simp only [List.length_append, List.length_cons, List.length_nil]; omega)) hD.2.2.2 (10)) (fun v31 h31 q31 => ?_)
  obtain ⟨rfl, m31_, rfl, hT31⟩ := q31
  show WP _ _ _ _ _ 34 _ [] (HP c w m31_ v E) _
  refine wp_iload_n 1 d_X10_dims_34 rfl rfl ?_
  refine wp_aload_n 0 d_X10_dims_35 rfl rfl ?_
  refine wp_getfield (v := .int (a)) d_X10_dims_36 gf_X10_436 (hp_80 _ _ _ _ _) (congrArg (fun z => some (Value.int z)) hD.2.2.1) ?_
  refine wp_iadd d_X10_dims_39 ?_
  refine wp_istore_n [(2, .int ((x) + (a))), (0, .ref (80)), (1, .int (x))] d_X10_dims_40 rfl (Nat.le_of_ble_eq_true rfl) rfl ?_
  refine wp_aload_n 1 d_X10_dims_41 rfl rfl ?_
  refine wp_getfield (v := .int (3)) d_X10_dims_42 gf_X10_430 (hp_80 _ _ _ _ _) (congrArg (fun z => some (Value.int z)) hD.1) ?_
  refine wp_iconst (v0 := 1) d_X10_dims_45 rfl ?_
  refine wp_icmp_ne 58 d_X10_dims_46 rfl (fun _ => ?_) (fun z => absurd z (by decide))
  refine wp_aload_n 1 d_X10_dims_58 rfl rfl ?_
  refine wp_getfield (v := .int (3)) d_X10_dims_59 gf_X10_430 (hp_80 _ _ _ _ _) (congrArg (fun z => some (Value.int z)) hD.1) ?_
  refine wp_iconst (v0 := 3) d_X10_dims_62 rfl ?_
  refine wp_icmp_ne 72 d_X10_dims_63 rfl (fun z => absurd z (by decide)) (fun _ => ?_)
  refine wp_iload_n 0 d_X10_dims_66 rfl rfl ?_
  refine wp_iconst (v0 := 1) d_X10_dims_67 rfl ?_
  refine wp_iadd d_X10_dims_68 ?_
  refine wp_goto 73 d_X10_dims_69 rfl ?_
  refine wp_reti d_X10_dims_73 rfl ?_
  exact ⟨rfl, _, rfl, by simpa using hT31⟩
theorem s_X10_widens_3 {X : kX} {d : Nat} {c w m v : kZ} {E : kH} {z0 : kZ} {L : List Int32} (hT : kTm z0 m L) (hL : L.length ≤ 23) {n a : Int32} (hD : kDm v 3 n a) (x : Int32)  : WP X (d + 4) 0 0 Y_X10_widens 0 [(0, .ref (80)), (1, .int (x))] [] (HP c w m v E) (fun r h1 => r = some (.int (((x) + a + 1) * 2 - a)) ∧ ∃ zz : kZ, h1 = HP c w zz v E ∧ kTm z0 zz (L ++ [30, 11, 50, 10])) := by
  refine wp_aload_n 0 d_X10_widens_0 rfl rfl ?_
  refine wp_getfield (v := .int (3)) d_X10_widens_1 gf_X10_430 (hp_80 _ _ _ _ _) (congrArg (fun z => some (Value.int z)) hD.1) ?_
  refine wp_iconst (v0 := 2) d_X10_widens_4 rfl ?_
  refine wp_icmp_eq 16 d_X10_widens_5 rfl (fun z => absurd z (by decide)) (fun _ => ?_)
  refine wp_aload_n 0 d_X10_widens_8 rfl rfl ?_
  refine wp_getfield (v := .int (3)) d_X10_widens_9 gf_X10_430 (hp_80 _ _ _ _ _) (congrArg (fun z => some (Value.int z)) hD.1) ?_
  refine wp_iconst (v0 := 3) d_X10_widens_12 rfl ?_
  refine wp_icmp_ne 20 d_X10_widens_13 rfl (fun z => absurd z (by decide)) (fun _ => ?_)
  refine wp_iconst (v0 := 1) d_X10_widens_16 rfl ?_
  refine wp_goto 21 d_X10_widens_17 rfl ?_
  refine wp_istore_n [(2, .int (1)), (0, .ref (80)), (1, .int (x))] d_X10_widens_21 rfl (Nat.le_of_ble_eq_true rfl) rfl ?_
  refine wp_iload_n 0 d_X10_widens_22 rfl rfl ?_
  refine wp_if_eq 32 d_X10_widens_23 rfl (fun z => absurd z (by decide)) (fun _ => ?_)
  refine wp_aload_n 1 d_X10_widens_26 rfl rfl ?_
  refine wp_bipush (v0 := 30) d_X10_widens_27 (by decide) ?_
  refine wp_virtual0 (As := [.int (30)]) d_X10_widens_29 lk_X10_433 mv_X10_runs in_X10_runs se_X10_runs (Nat.le_of_ble_eq_true rfl) (Nat.le_of_ble_eq_true rfl) (hp_80 _ _ _ _ _) rfl (s_X10_runs (m := m) hT (by first | omega | (simp only [List.length_append, List.length_cons, List.length_nil]; omega)) hD.2.2.2 (30)) (fun v29 h29 q29 => ?_)
  obtain ⟨rfl, m29_, rfl, hT29⟩ := q29
  show WP _ _ _ _ _ 32 _ [] (HP c w m29_ v E) _
  refine wp_aload_n 1 d_X10_widens_32 rfl rfl ?_
  refine wp_getfield (v := .int (3)) d_X10_widens_33 gf_X10_430 (hp_80 _ _ _ _ _) (congrArg (fun z => some (Value.int z)) hD.1) ?_
  refine wp_iconst (v0 := 5) d_X10_widens_36 rfl ?_
  refine wp_icmp_ne 46 d_X10_widens_37 rfl (fun _ => ?_) (fun z => absurd z (by decide))
  refine wp_aload_n 1 d_X10_widens_46 rfl rfl ?_
  refine wp_bipush (v0 := 11) d_X10_widens_47 (by decide) ?_
  refine wp_virtual0 (As := [.int (11)]) d_X10_widens_49 lk_X10_433 mv_X10_runs in_X10_runs se_X10_runs (Nat.le_of_ble_eq_true rfl) (Nat.le_of_ble_eq_true rfl) (hp_80 _ _ _ _ _) rfl (s_X10_runs (m := m29_) hT29 (by first | omega | (simp only [List.length_append, List.length_cons, List.length_nil]; omega)) hD.2.2.2 (11)) (fun v49 h49 q49 => ?_)
  obtain ⟨rfl, m49_, rfl, hT49⟩ := q49
  show WP _ _ _ _ _ 52 _ [] (HP c w m49_ v E) _
  refine wp_aload_n 1 d_X10_widens_52 rfl rfl ?_
  refine wp_iload_n 2 d_X10_widens_53 rfl rfl ?_
  refine wp_virtual0 (As := [.int (x)]) d_X10_widens_54 lk_X10_442 mv_X10_dims in_X10_dims se_X10_dims (Nat.le_of_ble_eq_true rfl) (Nat.le_of_ble_eq_true rfl) (hp_80 _ _ _ _ _) rfl (s_X10_dims_3 (m := m49_) hT49 (by first | omega | (simp only [List.length_append, List.length_cons, List.length_nil]; omega)) hD (x)) (fun v54 h54 q54 => ?_)
  obtain ⟨rfl, m54_, rfl, hT54⟩ := q54
  show WP _ _ _ _ _ 57 _ [.int ((x) + a + 1)] (HP c w m54_ v E) _
  refine wp_iconst (v0 := 2) d_X10_widens_57 rfl ?_
  refine wp_imul d_X10_widens_58 ?_
  refine wp_istore_n [(3, .int (((x) + a + 1) * (2))), (2, .int (1)), (0, .ref (80)), (1, .int (x))] d_X10_widens_59 rfl (Nat.le_of_ble_eq_true rfl) rfl ?_
  refine wp_iload_n 1 d_X10_widens_60 rfl rfl ?_
  refine wp_if_eq 73 d_X10_widens_61 rfl (fun z => absurd z (by decide)) (fun _ => ?_)
  refine wp_iload_n 0 d_X10_widens_64 rfl rfl ?_
  refine wp_aload_n 2 d_X10_widens_65 rfl rfl ?_
  refine wp_getfield (v := .int (a)) d_X10_widens_66 gf_X10_436 (hp_80 _ _ _ _ _) (congrArg (fun z => some (Value.int z)) hD.2.2.1) ?_
  refine wp_isub d_X10_widens_69 ?_
  refine wp_goto 88 d_X10_widens_70 rfl ?_
  refine wp_reti d_X10_widens_88 rfl ?_
  exact ⟨rfl, _, rfl, by simpa using hT54⟩
theorem s_X10_parts_3 {X : kX} {d : Nat} {c w m v : kZ} {E : kH} {z0 : kZ} {L : List Int32} (hT : kTm z0 m L) (hL : L.length ≤ 23) {n a : Int32} (hD : kDm v 3 n a) (x : Int32)  : WP X (d + 3) 0 0 Y_X10_parts 0 [(0, .ref (80)), (1, .int (x))] [] (HP c w m v E) (fun r h1 => ∃ zz : kZ, (a ≠ n ∧ r = some (.int (x / (a - n))) ∧ h1 = HP c w zz v E ∧ kTm z0 zz (L ++ [12])) ∨ (a = n ∧ (∃ y : Int32, r = some (.int y)) ∧ h1 = HP c w zz (setS v 8042 1) E ∧ kTm z0 zz (L ++ [12]))) := by
  refine wp_aload_n 0 d_X10_parts_0 rfl rfl ?_
  refine wp_getfield (v := .int (3)) d_X10_parts_1 gf_X10_430 (hp_80 _ _ _ _ _) (congrArg (fun z => some (Value.int z)) hD.1) ?_
  refine wp_iconst (v0 := 4) d_X10_parts_4 rfl ?_
  refine wp_icmp_ne 22 d_X10_parts_5 rfl (fun _ => ?_) (fun z => absurd z (by decide))
  refine wp_aload_n 0 d_X10_parts_22 rfl rfl ?_
  refine wp_getfield (v := .int (3)) d_X10_parts_23 gf_X10_430 (hp_80 _ _ _ _ _) (congrArg (fun z => some (Value.int z)) hD.1) ?_
  refine wp_iconst (v0 := 5) d_X10_parts_26 rfl ?_
  refine wp_icmp_ne 72 d_X10_parts_27 rfl (fun _ => ?_) (fun z => absurd z (by decide))
  refine wp_aload_n 0 d_X10_parts_72 rfl rfl ?_
  refine wp_iload_n 1 d_X10_parts_73 rfl rfl ?_
  refine wp_virtual0 (As := [.int (x)]) d_X10_parts_74 lk_X10_445 mv_X10_plainParts in_X10_plainParts se_X10_plainParts (Nat.le_of_ble_eq_true rfl) (Nat.le_of_ble_eq_true rfl) (hp_80 _ _ _ _ _) rfl (s_X10_plainParts (m := m) hT (by first | omega | (simp only [List.length_append, List.length_cons, List.length_nil]; omega)) hD (x)) (fun v74 h74 q74 => ?_)
  obtain ⟨m74_, ⟨hne, rfl, rfl, hT74⟩ | ⟨heq, ⟨y74, rfl⟩, rfl, hT74⟩⟩ := q74
  · show WP _ _ _ _ _ 77 _ [.int ((x) / (a - n))] (HP c w m74_ v E) _
    refine wp_reti d_X10_parts_77 rfl ?_
    exact ⟨_, Or.inl ⟨hne, rfl, rfl, by simpa using hT74⟩⟩
  · show WP _ _ _ _ _ 77 _ [.int (y74)] (HP c w m74_ (setS v 8042 (1)) E) _
    refine wp_reti d_X10_parts_77 rfl ?_
    exact ⟨_, Or.inr ⟨heq, ⟨_, rfl⟩, rfl, by simpa using hT74⟩⟩
theorem s_X10_tells_3 {X : kX} {d : Nat} {c w m v : kZ} {E : kH} {z0 : kZ} {L : List Int32} (hT : kTm z0 m L) (hL : L.length ≤ 12) {n a : Int32} (hD : kDm v 3 n a) (x : Int32)  : WP X (d + 6) 0 0 Y_X10_tells 0 [(0, .ref (80)), (1, .int (x))] [] (HP c w m v E) (fun r h1 => ∃ zz : kZ, (a ≠ n ∧ r = some (.int (((((x) + a + 1) * 2 - a) ^^^ n) + n / (a - n))) ∧ h1 = HP c w zz v E ∧ kTm z0 zz (L ++ [51, 13, 30, 11, 50, 10, 12])) ∨ (a = n ∧ (∃ y : Int32, r = some (.int y)) ∧ h1 = HP c w zz (setS v 8042 1) E ∧ kTm z0 zz (L ++ [51, 13, 30, 11, 50, 10, 12]))) := by
  refine wp_aload_n 0 d_X10_tells_0 rfl rfl ?_
  refine wp_getfield (v := .int (3)) d_X10_tells_1 gf_X10_430 (hp_80 _ _ _ _ _) (congrArg (fun z => some (Value.int z)) hD.1) ?_
  refine wp_iconst (v0 := 3) d_X10_tells_4 rfl ?_
  refine wp_icmp_ne 14 d_X10_tells_5 rfl (fun z => absurd z (by decide)) (fun _ => ?_)
  refine wp_aload_n 0 d_X10_tells_8 rfl rfl ?_
  refine wp_bipush (v0 := 51) d_X10_tells_9 (by decide) ?_
  refine wp_virtual0 (As := [.int (51)]) d_X10_tells_11 lk_X10_433 mv_X10_runs in_X10_runs se_X10_runs (Nat.le_of_ble_eq_true rfl) (Nat.le_of_ble_eq_true rfl) (hp_80 _ _ _ _ _) rfl (s_X10_runs (m := m) hT (by first | omega | (simp only [List.length_append, List.length_cons, List.length_nil]; omega)) hD.2.2.2 (51)) (fun v11 h11 q11 => ?_)
  obtain ⟨rfl, m11_, rfl, hT11⟩ := q11
  show WP _ _ _ _ _ 14 _ [] (HP c w m11_ v E) _
  refine wp_aload_n 0 d_X10_tells_14 rfl rfl ?_
  refine wp_bipush (v0 := 13) d_X10_tells_15 (by decide) ?_
  refine wp_virtual0 (As := [.int (13)]) d_X10_tells_17 lk_X10_433 mv_X10_runs in_X10_runs se_X10_runs (Nat.le_of_ble_eq_true rfl) (Nat.le_of_ble_eq_true rfl) (hp_80 _ _ _ _ _) rfl (s_X10_runs (m := m11_) hT11 (by first | omega | (simp only [List.length_append, List.length_cons, List.length_nil]; omega)) hD.2.2.2 (13)) (fun v17 h17 q17 => ?_)
  obtain ⟨rfl, m17_, rfl, hT17⟩ := q17
  show WP _ _ _ _ _ 20 _ [] (HP c w m17_ v E) _
  refine wp_aload_n 0 d_X10_tells_20 rfl rfl ?_
  refine wp_iload_n 1 d_X10_tells_21 rfl rfl ?_
  refine wp_virtual0 (As := [.int (x)]) d_X10_tells_22 lk_X10_448 mv_X10_widens in_X10_widens se_X10_widens (Nat.le_of_ble_eq_true rfl) (Nat.le_of_ble_eq_true rfl) (hp_80 _ _ _ _ _) rfl (s_X10_widens_3 (m := m17_) hT17 (by first | omega | (simp only [List.length_append, List.length_cons, List.length_nil]; omega)) hD (x)) (fun v22 h22 q22 => ?_)
  obtain ⟨rfl, m22_, rfl, hT22⟩ := q22
  show WP _ _ _ _ _ 25 _ [.int (((x) + a + 1) * 2 - a)] (HP c w m22_ v E) _
  refine wp_aload_n 0 d_X10_tells_25 rfl rfl ?_
  refine wp_getfield (v := .int (n)) d_X10_tells_26 gf_X10_439 (hp_80 _ _ _ _ _) (congrArg (fun z => some (Value.int z)) hD.2.1) ?_
  refine wp_ixor d_X10_tells_29 ?_
  refine wp_istore_n [(2, .int ((((x) + a + 1) * 2 - a) ^^^ (n))), (0, .ref (80)), (1, .int (x))] d_X10_tells_30 rfl (Nat.le_of_ble_eq_true rfl) rfl ?_
  refine wp_aload_n 1 d_X10_tells_31 rfl rfl ?_
  refine wp_getfield (v := .int (3)) d_X10_tells_32 gf_X10_430 (hp_80 _ _ _ _ _) (congrArg (fun z => some (Value.int z)) hD.1) ?_
  refine wp_iconst (v0 := 3) d_X10_tells_35 rfl ?_
  refine wp_icmp_ne 52 d_X10_tells_36 rfl (fun z => absurd z (by decide)) (fun _ => ?_)
  refine wp_iload_n 0 d_X10_tells_39 rfl rfl ?_
  refine wp_aload_n 1 d_X10_tells_40 rfl rfl ?_
  refine wp_aload_n 1 d_X10_tells_41 rfl rfl ?_
  refine wp_getfield (v := .int (n)) d_X10_tells_42 gf_X10_439 (hp_80 _ _ _ _ _) (congrArg (fun z => some (Value.int z)) hD.2.1) ?_
  refine wp_virtual0 (As := [.int (n)]) d_X10_tells_45 lk_X10_451 mv_X10_parts in_X10_parts se_X10_parts (Nat.le_of_ble_eq_true rfl) (Nat.le_of_ble_eq_true rfl) (hp_80 _ _ _ _ _) rfl (s_X10_parts_3 (m := m22_) hT22 (by first | omega | (simp only [List.length_append, List.length_cons, List.length_nil]; omega)) hD (n)) (fun v45 h45 q45 => ?_)
  obtain ⟨m45_, ⟨hne, rfl, rfl, hT45⟩ | ⟨heq, ⟨y45, rfl⟩, rfl, hT45⟩⟩ := q45
  · show WP _ _ _ _ _ 48 _ [.int ((n) / (a - n)), .int ((((x) + a + 1) * 2 - a) ^^^ (n))] (HP c w m45_ v E) _
    refine wp_iadd d_X10_tells_48 ?_
    refine wp_goto 53 d_X10_tells_49 rfl ?_
    refine wp_reti d_X10_tells_53 rfl ?_
    exact ⟨_, Or.inl ⟨hne, rfl, rfl, by simpa using hT45⟩⟩
  · show WP _ _ _ _ _ 48 _ [.int (y45), .int ((((x) + a + 1) * 2 - a) ^^^ (n))] (HP c w m45_ (setS v 8042 (1)) E) _
    refine wp_iadd d_X10_tells_48 ?_
    refine wp_goto 53 d_X10_tells_49 rfl ?_
    refine wp_reti d_X10_tells_53 rfl ?_
    exact ⟨_, Or.inr ⟨heq, ⟨_, rfl⟩, rfl, by simpa using hT45⟩⟩
theorem s_X10_dims_4 {X : kX} {d : Nat} {c w m v : kZ} {E : kH} {z0 : kZ} {L : List Int32} (hT : kTm z0 m L) (hL : L.length ≤ 26) {n a : Int32} (hD : kDm v 4 n a) (x : Int32)  : WP X (d + 2) 0 0 Y_X10_dims 0 [(0, .ref (80)), (1, .int (x))] [] (HP c w m v E) (fun r h1 => r = some (.int ((x) + a)) ∧ ∃ zz : kZ, h1 = HP c w zz v E ∧ kTm z0 zz (L ++ [10])) := by
  refine wp_aload_n 0 d_X10_dims_0 rfl rfl ?_
  refine wp_getfield (v := .int (4)) d_X10_dims_1 gf_X10_430 (hp_80 _ _ _ _ _) (congrArg (fun z => some (Value.int z)) hD.1) ?_
  refine wp_iconst (v0 := 1) d_X10_dims_4 rfl ?_
  refine wp_icmp_ne 14 d_X10_dims_5 rfl (fun _ => ?_) (fun z => absurd z (by decide))
  refine wp_aload_n 0 d_X10_dims_14 rfl rfl ?_
  refine wp_getfield (v := .int (4)) d_X10_dims_15 gf_X10_430 (hp_80 _ _ _ _ _) (congrArg (fun z => some (Value.int z)) hD.1) ?_
  refine wp_iconst (v0 := 3) d_X10_dims_18 rfl ?_
  refine wp_icmp_ne 28 d_X10_dims_19 rfl (fun _ => ?_) (fun z => absurd z (by decide))
  refine wp_aload_n 0 d_X10_dims_28 rfl rfl ?_
  refine wp_bipush (v0 := 10) d_X10_dims_29 (by decide) ?_
  refine wp_virtual0 (As := [.int (10)]) d_X10_dims_31 lk_X10_433 mv_X10_runs in_X10_runs se_X10_runs (Nat.le_of_ble_eq_true rfl) (Nat.le_of_ble_eq_true rfl) (hp_80 _ _ _ _ _) rfl (s_X10_runs (m := m) hT (by first | omega | (simp only [List.length_append, List.length_cons, List.length_nil]; omega)) hD.2.2.2 (10)) (fun v31 h31 q31 => ?_)
  obtain ⟨rfl, m31_, rfl, hT31⟩ := q31
  show WP _ _ _ _ _ 34 _ [] (HP c w m31_ v E) _
  refine wp_iload_n 1 d_X10_dims_34 rfl rfl ?_
  refine wp_aload_n 0 d_X10_dims_35 rfl rfl ?_
  refine wp_getfield (v := .int (a)) d_X10_dims_36 gf_X10_436 (hp_80 _ _ _ _ _) (congrArg (fun z => some (Value.int z)) hD.2.2.1) ?_
  refine wp_iadd d_X10_dims_39 ?_
  refine wp_istore_n [(2, .int ((x) + (a))), (0, .ref (80)), (1, .int (x))] d_X10_dims_40 rfl (Nat.le_of_ble_eq_true rfl) rfl ?_
  refine wp_aload_n 1 d_X10_dims_41 rfl rfl ?_
  refine wp_getfield (v := .int (4)) d_X10_dims_42 gf_X10_430 (hp_80 _ _ _ _ _) (congrArg (fun z => some (Value.int z)) hD.1) ?_
  refine wp_iconst (v0 := 1) d_X10_dims_45 rfl ?_
  refine wp_icmp_ne 58 d_X10_dims_46 rfl (fun _ => ?_) (fun z => absurd z (by decide))
  refine wp_aload_n 1 d_X10_dims_58 rfl rfl ?_
  refine wp_getfield (v := .int (4)) d_X10_dims_59 gf_X10_430 (hp_80 _ _ _ _ _) (congrArg (fun z => some (Value.int z)) hD.1) ?_
  refine wp_iconst (v0 := 3) d_X10_dims_62 rfl ?_
  refine wp_icmp_ne 72 d_X10_dims_63 rfl (fun _ => ?_) (fun z => absurd z (by decide))
  refine wp_iload_n 0 d_X10_dims_72 rfl rfl ?_
  refine wp_reti d_X10_dims_73 rfl ?_
  exact ⟨rfl, _, rfl, by simpa using hT31⟩
theorem s_X10_widens_4 {X : kX} {d : Nat} {c w m v : kZ} {E : kH} {z0 : kZ} {L : List Int32} (hT : kTm z0 m L) (hL : L.length ≤ 23) {n a : Int32} (hD : kDm v 4 n a) (x : Int32)  : WP X (d + 4) 0 0 Y_X10_widens 0 [(0, .ref (80)), (1, .int (x))] [] (HP c w m v E) (fun r h1 => r = some (.int (((x) + a) * 2)) ∧ ∃ zz : kZ, h1 = HP c w zz v E ∧ kTm z0 zz (L ++ [11, 10])) := by
  refine wp_aload_n 0 d_X10_widens_0 rfl rfl ?_
  refine wp_getfield (v := .int (4)) d_X10_widens_1 gf_X10_430 (hp_80 _ _ _ _ _) (congrArg (fun z => some (Value.int z)) hD.1) ?_
  refine wp_iconst (v0 := 2) d_X10_widens_4 rfl ?_
  refine wp_icmp_eq 16 d_X10_widens_5 rfl (fun z => absurd z (by decide)) (fun _ => ?_)
  refine wp_aload_n 0 d_X10_widens_8 rfl rfl ?_
  refine wp_getfield (v := .int (4)) d_X10_widens_9 gf_X10_430 (hp_80 _ _ _ _ _) (congrArg (fun z => some (Value.int z)) hD.1) ?_
  refine wp_iconst (v0 := 3) d_X10_widens_12 rfl ?_
  refine wp_icmp_ne 20 d_X10_widens_13 rfl (fun _ => ?_) (fun z => absurd z (by decide))
  refine wp_iconst (v0 := 0) d_X10_widens_20 rfl ?_
  refine wp_istore_n [(2, .int (0)), (0, .ref (80)), (1, .int (x))] d_X10_widens_21 rfl (Nat.le_of_ble_eq_true rfl) rfl ?_
  refine wp_iload_n 0 d_X10_widens_22 rfl rfl ?_
  refine wp_if_eq 32 d_X10_widens_23 rfl (fun _ => ?_) (fun z => absurd z (by decide))
  refine wp_aload_n 1 d_X10_widens_32 rfl rfl ?_
  refine wp_getfield (v := .int (4)) d_X10_widens_33 gf_X10_430 (hp_80 _ _ _ _ _) (congrArg (fun z => some (Value.int z)) hD.1) ?_
  refine wp_iconst (v0 := 5) d_X10_widens_36 rfl ?_
  refine wp_icmp_ne 46 d_X10_widens_37 rfl (fun _ => ?_) (fun z => absurd z (by decide))
  refine wp_aload_n 1 d_X10_widens_46 rfl rfl ?_
  refine wp_bipush (v0 := 11) d_X10_widens_47 (by decide) ?_
  refine wp_virtual0 (As := [.int (11)]) d_X10_widens_49 lk_X10_433 mv_X10_runs in_X10_runs se_X10_runs (Nat.le_of_ble_eq_true rfl) (Nat.le_of_ble_eq_true rfl) (hp_80 _ _ _ _ _) rfl (s_X10_runs (m := m) hT (by first | omega | (simp only [List.length_append, List.length_cons, List.length_nil]; omega)) hD.2.2.2 (11)) (fun v49 h49 q49 => ?_)
  obtain ⟨rfl, m49_, rfl, hT49⟩ := q49
  show WP _ _ _ _ _ 52 _ [] (HP c w m49_ v E) _
  refine wp_aload_n 1 d_X10_widens_52 rfl rfl ?_
  refine wp_iload_n 2 d_X10_widens_53 rfl rfl ?_
  refine wp_virtual0 (As := [.int (x)]) d_X10_widens_54 lk_X10_442 mv_X10_dims in_X10_dims se_X10_dims (Nat.le_of_ble_eq_true rfl) (Nat.le_of_ble_eq_true rfl) (hp_80 _ _ _ _ _) rfl (s_X10_dims_4 (m := m49_) hT49 (by first | omega | (simp only [List.length_append, List.length_cons, List.length_nil]; omega)) hD (x)) (fun v54 h54 q54 => ?_)
  obtain ⟨rfl, m54_, rfl, hT54⟩ := q54
  show WP _ _ _ _ _ 57 _ [.int ((x) + a)] (HP c w m54_ v E) _
  refine wp_iconst (v0 := 2) d_X10_widens_57 rfl ?_
  refine wp_imul d_X10_widens_58 ?_
  refine wp_istore_n [(3, .int (((x) + a) * (2))), (2, .int (0)), (0, .ref (80)), (1, .int (x))] d_X10_widens_59 rfl (Nat.le_of_ble_eq_true rfl) rfl ?_
  refine wp_iload_n 1 d_X10_widens_60 rfl rfl ?_
  refine wp_if_eq 73 d_X10_widens_61 rfl (fun _ => ?_) (fun z => absurd z (by decide))
  refine wp_aload_n 2 d_X10_widens_73 rfl rfl ?_
  refine wp_getfield (v := .int (4)) d_X10_widens_74 gf_X10_430 (hp_80 _ _ _ _ _) (congrArg (fun z => some (Value.int z)) hD.1) ?_
  refine wp_iconst (v0 := 5) d_X10_widens_77 rfl ?_
  refine wp_icmp_ne 87 d_X10_widens_78 rfl (fun _ => ?_) (fun z => absurd z (by decide))
  refine wp_iload_n 0 d_X10_widens_87 rfl rfl ?_
  refine wp_reti d_X10_widens_88 rfl ?_
  exact ⟨rfl, _, rfl, by simpa using hT54⟩
theorem s_X10_parts_4 {X : kX} {d : Nat} {c w m v : kZ} {E : kH} {z0 : kZ} {L : List Int32} (hT : kTm z0 m L) (hL : L.length ≤ 23) {n a : Int32} (hD : kDm v 4 n a) (x : Int32)  : WP X (d + 3) 0 0 Y_X10_parts 0 [(0, .ref (80)), (1, .int (x))] [] (HP c w m v E) (fun r h1 => ∃ zz : kZ, (a ≠ n ∧ r = some (.int ((x) * (2) / (a - n))) ∧ h1 = HP c w zz v E ∧ kTm z0 zz (L ++ [40, 12])) ∨ (a = n ∧ (∃ y : Int32, r = some (.int y)) ∧ h1 = HP c w zz (setS v 8042 1) E ∧ kTm z0 zz (L ++ [40, 12]))) := by
  refine wp_aload_n 0 d_X10_parts_0 rfl rfl ?_
  refine wp_getfield (v := .int (4)) d_X10_parts_1 gf_X10_430 (hp_80 _ _ _ _ _) (congrArg (fun z => some (Value.int z)) hD.1) ?_
  refine wp_iconst (v0 := 4) d_X10_parts_4 rfl ?_
  refine wp_icmp_ne 22 d_X10_parts_5 rfl (fun z => absurd z (by decide)) (fun _ => ?_)
  refine wp_aload_n 0 d_X10_parts_8 rfl rfl ?_
  refine wp_bipush (v0 := 40) d_X10_parts_9 (by decide) ?_
  refine wp_virtual0 (As := [.int (40)]) d_X10_parts_11 lk_X10_433 mv_X10_runs in_X10_runs se_X10_runs (Nat.le_of_ble_eq_true rfl) (Nat.le_of_ble_eq_true rfl) (hp_80 _ _ _ _ _) rfl (s_X10_runs (m := m) hT (by first | omega | (simp only [List.length_append, List.length_cons, List.length_nil]; omega)) hD.2.2.2 (40)) (fun v11 h11 q11 => ?_)
  obtain ⟨rfl, m11_, rfl, hT11⟩ := q11
  show WP _ _ _ _ _ 14 _ [] (HP c w m11_ v E) _
  refine wp_aload_n 0 d_X10_parts_14 rfl rfl ?_
  refine wp_iload_n 1 d_X10_parts_15 rfl rfl ?_
  refine wp_iconst (v0 := 2) d_X10_parts_16 rfl ?_
  refine wp_imul d_X10_parts_17 ?_
  refine wp_virtual0 (As := [.int ((x) * (2))]) d_X10_parts_18 lk_X10_445 mv_X10_plainParts in_X10_plainParts se_X10_plainParts (Nat.le_of_ble_eq_true rfl) (Nat.le_of_ble_eq_true rfl) (hp_80 _ _ _ _ _) rfl (s_X10_plainParts (m := m11_) hT11 (by first | omega | (simp only [List.length_append, List.length_cons, List.length_nil]; omega)) hD ((x) * (2))) (fun v18 h18 q18 => ?_)
  obtain ⟨m18_, ⟨hne, rfl, rfl, hT18⟩ | ⟨heq, ⟨y18, rfl⟩, rfl, hT18⟩⟩ := q18
  · show WP _ _ _ _ _ 21 _ [.int (((x) * (2)) / (a - n))] (HP c w m18_ v E) _
    refine wp_reti d_X10_parts_21 rfl ?_
    exact ⟨_, Or.inl ⟨hne, rfl, rfl, by simpa using hT18⟩⟩
  · show WP _ _ _ _ _ 21 _ [.int (y18)] (HP c w m18_ (setS v 8042 (1)) E) _
    refine wp_reti d_X10_parts_21 rfl ?_
    exact ⟨_, Or.inr ⟨heq, ⟨_, rfl⟩, rfl, by simpa using hT18⟩⟩
theorem s_X10_tells_4 {X : kX} {d : Nat} {c w m v : kZ} {E : kH} {z0 : kZ} {L : List Int32} (hT : kTm z0 m L) (hL : L.length ≤ 12) {n a : Int32} (hD : kDm v 4 n a) (x : Int32)  : WP X (d + 6) 0 0 Y_X10_tells 0 [(0, .ref (80)), (1, .int (x))] [] (HP c w m v E) (fun r h1 => r = some (.int ((((x) + a) * 2) ^^^ n)) ∧ ∃ zz : kZ, h1 = HP c w zz v E ∧ kTm z0 zz (L ++ [13, 11, 10])) := by
  refine wp_aload_n 0 d_X10_tells_0 rfl rfl ?_
  refine wp_getfield (v := .int (4)) d_X10_tells_1 gf_X10_430 (hp_80 _ _ _ _ _) (congrArg (fun z => some (Value.int z)) hD.1) ?_
  refine wp_iconst (v0 := 3) d_X10_tells_4 rfl ?_
  refine wp_icmp_ne 14 d_X10_tells_5 rfl (fun _ => ?_) (fun z => absurd z (by decide))
  refine wp_aload_n 0 d_X10_tells_14 rfl rfl ?_
  refine wp_bipush (v0 := 13) d_X10_tells_15 (by decide) ?_
  refine wp_virtual0 (As := [.int (13)]) d_X10_tells_17 lk_X10_433 mv_X10_runs in_X10_runs se_X10_runs (Nat.le_of_ble_eq_true rfl) (Nat.le_of_ble_eq_true rfl) (hp_80 _ _ _ _ _) rfl (s_X10_runs (m := m) hT (by first | omega | (simp only [List.length_append, List.length_cons, List.length_nil]; omega)) hD.2.2.2 (13)) (fun v17 h17 q17 => ?_)
  obtain ⟨rfl, m17_, rfl, hT17⟩ := q17
  show WP _ _ _ _ _ 20 _ [] (HP c w m17_ v E) _
  refine wp_aload_n 0 d_X10_tells_20 rfl rfl ?_
  refine wp_iload_n 1 d_X10_tells_21 rfl rfl ?_
  refine wp_virtual0 (As := [.int (x)]) d_X10_tells_22 lk_X10_448 mv_X10_widens in_X10_widens se_X10_widens (Nat.le_of_ble_eq_true rfl) (Nat.le_of_ble_eq_true rfl) (hp_80 _ _ _ _ _) rfl (s_X10_widens_4 (m := m17_) hT17 (by first | omega | (simp only [List.length_append, List.length_cons, List.length_nil]; omega)) hD (x)) (fun v22 h22 q22 => ?_)
  obtain ⟨rfl, m22_, rfl, hT22⟩ := q22
  show WP _ _ _ _ _ 25 _ [.int (((x) + a) * 2)] (HP c w m22_ v E) _
  refine wp_aload_n 0 d_X10_tells_25 rfl rfl ?_
  refine wp_getfield (v := .int (n)) d_X10_tells_26 gf_X10_439 (hp_80 _ _ _ _ _) (congrArg (fun z => some (Value.int z)) hD.2.1) ?_
  refine wp_ixor d_X10_tells_29 ?_
  refine wp_istore_n [(2, .int ((((x) + a) * 2) ^^^ (n))), (0, .ref (80)), (1, .int (x))] d_X10_tells_30 rfl (Nat.le_of_ble_eq_true rfl) rfl ?_
  refine wp_aload_n 1 d_X10_tells_31 rfl rfl ?_
  refine wp_getfield (v := .int (4)) d_X10_tells_32 gf_X10_430 (hp_80 _ _ _ _ _) (congrArg (fun z => some (Value.int z)) hD.1) ?_
  refine wp_iconst (v0 := 3) d_X10_tells_35 rfl ?_
  refine wp_icmp_ne 52 d_X10_tells_36 rfl (fun _ => ?_) (fun z => absurd z (by decide))
  refine wp_iload_n 0 d_X10_tells_52 rfl rfl ?_
  refine wp_reti d_X10_tells_53 rfl ?_
  exact ⟨rfl, _, rfl, by simpa using hT22⟩
theorem s_X10_dims_5 {X : kX} {d : Nat} {c w m v : kZ} {E : kH} {z0 : kZ} {L : List Int32} (hT : kTm z0 m L) (hL : L.length ≤ 26) {n a : Int32} (hD : kDm v 5 n a) (x : Int32)  : WP X (d + 2) 0 0 Y_X10_dims 0 [(0, .ref (80)), (1, .int (x))] [] (HP c w m v E) (fun r h1 => r = some (.int ((x) + a)) ∧ ∃ zz : kZ, h1 = HP c w zz v E ∧ kTm z0 zz (L ++ [10])) := by
  refine wp_aload_n 0 d_X10_dims_0 rfl rfl ?_
  refine wp_getfield (v := .int (5)) d_X10_dims_1 gf_X10_430 (hp_80 _ _ _ _ _) (congrArg (fun z => some (Value.int z)) hD.1) ?_
  refine wp_iconst (v0 := 1) d_X10_dims_4 rfl ?_
  refine wp_icmp_ne 14 d_X10_dims_5 rfl (fun _ => ?_) (fun z => absurd z (by decide))
  refine wp_aload_n 0 d_X10_dims_14 rfl rfl ?_
  refine wp_getfield (v := .int (5)) d_X10_dims_15 gf_X10_430 (hp_80 _ _ _ _ _) (congrArg (fun z => some (Value.int z)) hD.1) ?_
  refine wp_iconst (v0 := 3) d_X10_dims_18 rfl ?_
  refine wp_icmp_ne 28 d_X10_dims_19 rfl (fun _ => ?_) (fun z => absurd z (by decide))
  refine wp_aload_n 0 d_X10_dims_28 rfl rfl ?_
  refine wp_bipush (v0 := 10) d_X10_dims_29 (by decide) ?_
  refine wp_virtual0 (As := [.int (10)]) d_X10_dims_31 lk_X10_433 mv_X10_runs in_X10_runs se_X10_runs (Nat.le_of_ble_eq_true rfl) (Nat.le_of_ble_eq_true rfl) (hp_80 _ _ _ _ _) rfl (s_X10_runs (m := m) hT (by first | omega | (simp only [List.length_append, List.length_cons, List.length_nil]; omega)) hD.2.2.2 (10)) (fun v31 h31 q31 => ?_)
  obtain ⟨rfl, m31_, rfl, hT31⟩ := q31
  show WP _ _ _ _ _ 34 _ [] (HP c w m31_ v E) _
  refine wp_iload_n 1 d_X10_dims_34 rfl rfl ?_
  refine wp_aload_n 0 d_X10_dims_35 rfl rfl ?_
  refine wp_getfield (v := .int (a)) d_X10_dims_36 gf_X10_436 (hp_80 _ _ _ _ _) (congrArg (fun z => some (Value.int z)) hD.2.2.1) ?_
  refine wp_iadd d_X10_dims_39 ?_
  refine wp_istore_n [(2, .int ((x) + (a))), (0, .ref (80)), (1, .int (x))] d_X10_dims_40 rfl (Nat.le_of_ble_eq_true rfl) rfl ?_
  refine wp_aload_n 1 d_X10_dims_41 rfl rfl ?_
  refine wp_getfield (v := .int (5)) d_X10_dims_42 gf_X10_430 (hp_80 _ _ _ _ _) (congrArg (fun z => some (Value.int z)) hD.1) ?_
  refine wp_iconst (v0 := 1) d_X10_dims_45 rfl ?_
  refine wp_icmp_ne 58 d_X10_dims_46 rfl (fun _ => ?_) (fun z => absurd z (by decide))
  refine wp_aload_n 1 d_X10_dims_58 rfl rfl ?_
  refine wp_getfield (v := .int (5)) d_X10_dims_59 gf_X10_430 (hp_80 _ _ _ _ _) (congrArg (fun z => some (Value.int z)) hD.1) ?_
  refine wp_iconst (v0 := 3) d_X10_dims_62 rfl ?_
  refine wp_icmp_ne 72 d_X10_dims_63 rfl (fun _ => ?_) (fun z => absurd z (by decide))
  refine wp_iload_n 0 d_X10_dims_72 rfl rfl ?_
  refine wp_reti d_X10_dims_73 rfl ?_
  exact ⟨rfl, _, rfl, by simpa using hT31⟩
theorem s_X10_widens_5 {X : kX} {d : Nat} {c w m v : kZ} {E : kH} {z0 : kZ} {L : List Int32} (hT : kTm z0 m L) (hL : L.length ≤ 23) {n a : Int32} (hD : kDm v 5 n a) (x : Int32)  : WP X (d + 4) 0 0 Y_X10_widens 0 [(0, .ref (80)), (1, .int (x))] [] (HP c w m v E) (fun r h1 => r = some (.int ((0) - (((x) + a) * 2))) ∧ ∃ zz : kZ, h1 = HP c w zz v E ∧ kTm z0 zz (L ++ [60, 11, 10])) := by
  refine wp_aload_n 0 d_X10_widens_0 rfl rfl ?_
  refine wp_getfield (v := .int (5)) d_X10_widens_1 gf_X10_430 (hp_80 _ _ _ _ _) (congrArg (fun z => some (Value.int z)) hD.1) ?_
  refine wp_iconst (v0 := 2) d_X10_widens_4 rfl ?_
  refine wp_icmp_eq 16 d_X10_widens_5 rfl (fun z => absurd z (by decide)) (fun _ => ?_)
  refine wp_aload_n 0 d_X10_widens_8 rfl rfl ?_
  refine wp_getfield (v := .int (5)) d_X10_widens_9 gf_X10_430 (hp_80 _ _ _ _ _) (congrArg (fun z => some (Value.int z)) hD.1) ?_
  refine wp_iconst (v0 := 3) d_X10_widens_12 rfl ?_
  refine wp_icmp_ne 20 d_X10_widens_13 rfl (fun _ => ?_) (fun z => absurd z (by decide))
  refine wp_iconst (v0 := 0) d_X10_widens_20 rfl ?_
  refine wp_istore_n [(2, .int (0)), (0, .ref (80)), (1, .int (x))] d_X10_widens_21 rfl (Nat.le_of_ble_eq_true rfl) rfl ?_
  refine wp_iload_n 0 d_X10_widens_22 rfl rfl ?_
  refine wp_if_eq 32 d_X10_widens_23 rfl (fun _ => ?_) (fun z => absurd z (by decide))
  refine wp_aload_n 1 d_X10_widens_32 rfl rfl ?_
  refine wp_getfield (v := .int (5)) d_X10_widens_33 gf_X10_430 (hp_80 _ _ _ _ _) (congrArg (fun z => some (Value.int z)) hD.1) ?_
  refine wp_iconst (v0 := 5) d_X10_widens_36 rfl ?_
  refine wp_icmp_ne 46 d_X10_widens_37 rfl (fun z => absurd z (by decide)) (fun _ => ?_)
  refine wp_aload_n 1 d_X10_widens_40 rfl rfl ?_
  refine wp_bipush (v0 := 60) d_X10_widens_41 (by decide) ?_
  refine wp_virtual0 (As := [.int (60)]) d_X10_widens_43 lk_X10_433 mv_X10_runs in_X10_runs se_X10_runs (Nat.le_of_ble_eq_true rfl) (Nat.le_of_ble_eq_true rfl) (hp_80 _ _ _ _ _) rfl (s_X10_runs (m := m) hT (by first | omega | (simp only [List.length_append, List.length_cons, List.length_nil]; omega)) hD.2.2.2 (60)) (fun v43 h43 q43 => ?_)
  obtain ⟨rfl, m43_, rfl, hT43⟩ := q43
  show WP _ _ _ _ _ 46 _ [] (HP c w m43_ v E) _
  refine wp_aload_n 1 d_X10_widens_46 rfl rfl ?_
  refine wp_bipush (v0 := 11) d_X10_widens_47 (by decide) ?_
  refine wp_virtual0 (As := [.int (11)]) d_X10_widens_49 lk_X10_433 mv_X10_runs in_X10_runs se_X10_runs (Nat.le_of_ble_eq_true rfl) (Nat.le_of_ble_eq_true rfl) (hp_80 _ _ _ _ _) rfl (s_X10_runs (m := m43_) hT43 (by first | omega | (simp only [List.length_append, List.length_cons, List.length_nil]; omega)) hD.2.2.2 (11)) (fun v49 h49 q49 => ?_)
  obtain ⟨rfl, m49_, rfl, hT49⟩ := q49
  show WP _ _ _ _ _ 52 _ [] (HP c w m49_ v E) _
  refine wp_aload_n 1 d_X10_widens_52 rfl rfl ?_
  refine wp_iload_n 2 d_X10_widens_53 rfl rfl ?_
  refine wp_virtual0 (As := [.int (x)]) d_X10_widens_54 lk_X10_442 mv_X10_dims in_X10_dims se_X10_dims (Nat.le_of_ble_eq_true rfl) (Nat.le_of_ble_eq_true rfl) (hp_80 _ _ _ _ _) rfl (s_X10_dims_5 (m := m49_) hT49 (by first | omega | (simp only [List.length_append, List.length_cons, List.length_nil]; omega)) hD (x)) (fun v54 h54 q54 => ?_)
  obtain ⟨rfl, m54_, rfl, hT54⟩ := q54
  show WP _ _ _ _ _ 57 _ [.int ((x) + a)] (HP c w m54_ v E) _
  refine wp_iconst (v0 := 2) d_X10_widens_57 rfl ?_
  refine wp_imul d_X10_widens_58 ?_
  refine wp_istore_n [(3, .int (((x) + a) * (2))), (2, .int (0)), (0, .ref (80)), (1, .int (x))] d_X10_widens_59 rfl (Nat.le_of_ble_eq_true rfl) rfl ?_
  refine wp_iload_n 1 d_X10_widens_60 rfl rfl ?_
  refine wp_if_eq 73 d_X10_widens_61 rfl (fun _ => ?_) (fun z => absurd z (by decide))
  refine wp_aload_n 2 d_X10_widens_73 rfl rfl ?_
  refine wp_getfield (v := .int (5)) d_X10_widens_74 gf_X10_430 (hp_80 _ _ _ _ _) (congrArg (fun z => some (Value.int z)) hD.1) ?_
  refine wp_iconst (v0 := 5) d_X10_widens_77 rfl ?_
  refine wp_icmp_ne 87 d_X10_widens_78 rfl (fun z => absurd z (by decide)) (fun _ => ?_)
  refine wp_iconst (v0 := 0) d_X10_widens_81 rfl ?_
  refine wp_iload_n 0 d_X10_widens_82 rfl rfl ?_
  refine wp_isub d_X10_widens_83 ?_
  refine wp_goto 88 d_X10_widens_84 rfl ?_
  refine wp_reti d_X10_widens_88 rfl ?_
  exact ⟨rfl, _, rfl, by simpa using hT54⟩
theorem s_X10_parts_5 {X : kX} {d : Nat} {c w m v : kZ} {E : kH} {z0 : kZ} {L : List Int32} (hT : kTm z0 m L) (hL : L.length ≤ 23) {n a : Int32} (hD : kDm v 5 n a) (x : Int32)  : WP X (d + 3) 0 0 Y_X10_parts 0 [(0, .ref (80)), (1, .int (x))] [] (HP c w m v E) (fun r h1 => ∃ zz : kZ, (a ≠ n ∧ r = some (.int ((x) * (2) / (a - n) - (n + a))) ∧ h1 = HP c w zz v E ∧ kTm z0 zz (L ++ [61, 40, 12, 10])) ∨ (a = n ∧ (∃ y : Int32, r = some (.int y)) ∧ h1 = HP c w zz (setS v 8042 1) E ∧ kTm z0 zz (L ++ [61, 40, 12]))) := by
  refine wp_aload_n 0 d_X10_parts_0 rfl rfl ?_
  refine wp_getfield (v := .int (5)) d_X10_parts_1 gf_X10_430 (hp_80 _ _ _ _ _) (congrArg (fun z => some (Value.int z)) hD.1) ?_
  refine wp_iconst (v0 := 4) d_X10_parts_4 rfl ?_
  refine wp_icmp_ne 22 d_X10_parts_5 rfl (fun _ => ?_) (fun z => absurd z (by decide))
  refine wp_aload_n 0 d_X10_parts_22 rfl rfl ?_
  refine wp_getfield (v := .int (5)) d_X10_parts_23 gf_X10_430 (hp_80 _ _ _ _ _) (congrArg (fun z => some (Value.int z)) hD.1) ?_
  refine wp_iconst (v0 := 5) d_X10_parts_26 rfl ?_
  refine wp_icmp_ne 72 d_X10_parts_27 rfl (fun z => absurd z (by decide)) (fun _ => ?_)
  refine wp_aload_n 0 d_X10_parts_30 rfl rfl ?_
  refine wp_bipush (v0 := 61) d_X10_parts_31 (by decide) ?_
  refine wp_virtual0 (As := [.int (61)]) d_X10_parts_33 lk_X10_433 mv_X10_runs in_X10_runs se_X10_runs (Nat.le_of_ble_eq_true rfl) (Nat.le_of_ble_eq_true rfl) (hp_80 _ _ _ _ _) rfl (s_X10_runs (m := m) hT (by first | omega | (simp only [List.length_append, List.length_cons, List.length_nil]; omega)) hD.2.2.2 (61)) (fun v33 h33 q33 => ?_)
  obtain ⟨rfl, m33_, rfl, hT33⟩ := q33
  show WP _ _ _ _ _ 36 _ [] (HP c w m33_ v E) _
  refine wp_aload_n 0 d_X10_parts_36 rfl rfl ?_
  refine wp_bipush (v0 := 40) d_X10_parts_37 (by decide) ?_
  refine wp_virtual0 (As := [.int (40)]) d_X10_parts_39 lk_X10_433 mv_X10_runs in_X10_runs se_X10_runs (Nat.le_of_ble_eq_true rfl) (Nat.le_of_ble_eq_true rfl) (hp_80 _ _ _ _ _) rfl (s_X10_runs (m := m33_) hT33 (by first | omega | (simp only [List.length_append, List.length_cons, List.length_nil]; omega)) hD.2.2.2 (40)) (fun v39 h39 q39 => ?_)
  obtain ⟨rfl, m39_, rfl, hT39⟩ := q39
  show WP _ _ _ _ _ 42 _ [] (HP c w m39_ v E) _
  refine wp_aload_n 0 d_X10_parts_42 rfl rfl ?_
  refine wp_iload_n 1 d_X10_parts_43 rfl rfl ?_
  refine wp_iconst (v0 := 2) d_X10_parts_44 rfl ?_
  refine wp_imul d_X10_parts_45 ?_
  refine wp_virtual0 (As := [.int ((x) * (2))]) d_X10_parts_46 lk_X10_445 mv_X10_plainParts in_X10_plainParts se_X10_plainParts (Nat.le_of_ble_eq_true rfl) (Nat.le_of_ble_eq_true rfl) (hp_80 _ _ _ _ _) rfl (s_X10_plainParts (m := m39_) hT39 (by first | omega | (simp only [List.length_append, List.length_cons, List.length_nil]; omega)) hD ((x) * (2))) (fun v46 h46 q46 => ?_)
  obtain ⟨m46_, ⟨hne, rfl, rfl, hT46⟩ | ⟨heq, ⟨y46, rfl⟩, rfl, hT46⟩⟩ := q46
  · show WP _ _ _ _ _ 49 _ [.int (((x) * (2)) / (a - n))] (HP c w m46_ v E) _
    refine wp_istore_n [(2, .int (((x) * (2)) / (a - n))), (0, .ref (80)), (1, .int (x))] d_X10_parts_49 rfl (Nat.le_of_ble_eq_true rfl) rfl ?_
    refine wp_aload_n 1 d_X10_parts_50 rfl rfl ?_
    refine wp_getfield (v := .int (0)) d_X10_parts_51 gf_X10_424 (hp_80 _ _ _ _ _) (congrArg (fun z => some (Value.int z)) hD.2.2.2) ?_
    refine wp_if_eq 61 d_X10_parts_54 rfl (fun _ => ?_) (fun z => absurd z (by decide))
    refine wp_iload_n 0 d_X10_parts_61 rfl rfl ?_
    refine wp_aload_n 1 d_X10_parts_62 rfl rfl ?_
    refine wp_aload_n 1 d_X10_parts_63 rfl rfl ?_
    refine wp_getfield (v := .int (n)) d_X10_parts_64 gf_X10_439 (hp_80 _ _ _ _ _) (congrArg (fun z => some (Value.int z)) hD.2.1) ?_
    refine wp_virtual0 (As := [.int (n)]) d_X10_parts_67 lk_X10_442 mv_X10_dims in_X10_dims se_X10_dims (Nat.le_of_ble_eq_true rfl) (Nat.le_of_ble_eq_true rfl) (hp_80 _ _ _ _ _) rfl (s_X10_dims_5 (m := m46_) hT46 (by first | omega | (simp only [List.length_append, List.length_cons, List.length_nil]; omega)) hD (n)) (fun v67 h67 q67 => ?_)
    obtain ⟨rfl, m67_, rfl, hT67⟩ := q67
    show WP _ _ _ _ _ 70 _ [.int ((n) + a), .int (((x) * (2)) / (a - n))] (HP c w m67_ v E) _
    refine wp_isub d_X10_parts_70 ?_
    refine wp_reti d_X10_parts_71 rfl ?_
    exact ⟨_, Or.inl ⟨hne, rfl, rfl, by simpa using hT67⟩⟩
  · show WP _ _ _ _ _ 49 _ [.int (y46)] (HP c w m46_ (setS v 8042 (1)) E) _
    refine wp_istore_n [(2, .int (y46)), (0, .ref (80)), (1, .int (x))] d_X10_parts_49 rfl (Nat.le_of_ble_eq_true rfl) rfl ?_
    refine wp_aload_n 1 d_X10_parts_50 rfl rfl ?_
    refine wp_getfield (v := .int (1)) d_X10_parts_51 gf_X10_424 (hp_80 _ _ _ _ _) rfl ?_
    refine wp_if_eq 61 d_X10_parts_54 rfl (fun z => absurd z (by decide)) (fun _ => ?_)
    refine wp_iconst (v0 := 0) d_X10_parts_57 rfl ?_
    refine wp_goto 71 d_X10_parts_58 rfl ?_
    refine wp_reti d_X10_parts_71 rfl ?_
    exact ⟨_, Or.inr ⟨heq, ⟨_, rfl⟩, rfl, by simpa using hT46⟩⟩
theorem s_X10_tells_5 {X : kX} {d : Nat} {c w m v : kZ} {E : kH} {z0 : kZ} {L : List Int32} (hT : kTm z0 m L) (hL : L.length ≤ 12) {n a : Int32} (hD : kDm v 5 n a) (x : Int32)  : WP X (d + 6) 0 0 Y_X10_tells 0 [(0, .ref (80)), (1, .int (x))] [] (HP c w m v E) (fun r h1 => r = some (.int (((0) - (((x) + a) * 2)) ^^^ n)) ∧ ∃ zz : kZ, h1 = HP c w zz v E ∧ kTm z0 zz (L ++ [13, 60, 11, 10])) := by
  refine wp_aload_n 0 d_X10_tells_0 rfl rfl ?_
  refine wp_getfield (v := .int (5)) d_X10_tells_1 gf_X10_430 (hp_80 _ _ _ _ _) (congrArg (fun z => some (Value.int z)) hD.1) ?_
  refine wp_iconst (v0 := 3) d_X10_tells_4 rfl ?_
  refine wp_icmp_ne 14 d_X10_tells_5 rfl (fun _ => ?_) (fun z => absurd z (by decide))
  refine wp_aload_n 0 d_X10_tells_14 rfl rfl ?_
  refine wp_bipush (v0 := 13) d_X10_tells_15 (by decide) ?_
  refine wp_virtual0 (As := [.int (13)]) d_X10_tells_17 lk_X10_433 mv_X10_runs in_X10_runs se_X10_runs (Nat.le_of_ble_eq_true rfl) (Nat.le_of_ble_eq_true rfl) (hp_80 _ _ _ _ _) rfl (s_X10_runs (m := m) hT (by first | omega | (simp only [List.length_append, List.length_cons, List.length_nil]; omega)) hD.2.2.2 (13)) (fun v17 h17 q17 => ?_)
  obtain ⟨rfl, m17_, rfl, hT17⟩ := q17
  show WP _ _ _ _ _ 20 _ [] (HP c w m17_ v E) _
  refine wp_aload_n 0 d_X10_tells_20 rfl rfl ?_
  refine wp_iload_n 1 d_X10_tells_21 rfl rfl ?_
  refine wp_virtual0 (As := [.int (x)]) d_X10_tells_22 lk_X10_448 mv_X10_widens in_X10_widens se_X10_widens (Nat.le_of_ble_eq_true rfl) (Nat.le_of_ble_eq_true rfl) (hp_80 _ _ _ _ _) rfl (s_X10_widens_5 (m := m17_) hT17 (by first | omega | (simp only [List.length_append, List.length_cons, List.length_nil]; omega)) hD (x)) (fun v22 h22 q22 => ?_)
  obtain ⟨rfl, m22_, rfl, hT22⟩ := q22
  show WP _ _ _ _ _ 25 _ [.int ((0) - (((x) + a) * 2))] (HP c w m22_ v E) _
  refine wp_aload_n 0 d_X10_tells_25 rfl rfl ?_
  refine wp_getfield (v := .int (n)) d_X10_tells_26 gf_X10_439 (hp_80 _ _ _ _ _) (congrArg (fun z => some (Value.int z)) hD.2.1) ?_
  refine wp_ixor d_X10_tells_29 ?_
  refine wp_istore_n [(2, .int (((0) - (((x) + a) * 2)) ^^^ (n))), (0, .ref (80)), (1, .int (x))] d_X10_tells_30 rfl (Nat.le_of_ble_eq_true rfl) rfl ?_
  refine wp_aload_n 1 d_X10_tells_31 rfl rfl ?_
  refine wp_getfield (v := .int (5)) d_X10_tells_32 gf_X10_430 (hp_80 _ _ _ _ _) (congrArg (fun z => some (Value.int z)) hD.1) ?_
  refine wp_iconst (v0 := 3) d_X10_tells_35 rfl ?_
  refine wp_icmp_ne 52 d_X10_tells_36 rfl (fun _ => ?_) (fun z => absurd z (by decide))
  refine wp_iload_n 0 d_X10_tells_52 rfl rfl ?_
  refine wp_reti d_X10_tells_53 rfl ?_
  exact ⟨rfl, _, rfl, by simpa using hT22⟩
theorem s_X10_dims {X : kX} {d : Nat} {c w m v : kZ} {E : kH} {z0 : kZ} {L : List Int32} (hT : kTm z0 m L) (hL : L.length ≤ 26) {K n a : Int32} (hK : 1 ≤ K.toInt ∧ K.toInt ≤ 5) (hD : kDm v K n a) (x : Int32) : WP X (d + 2) 0 0 Y_X10_dims 0 [(0, .ref 80), (1, .int x)] [] (HP c w m v E) (fun r h1 => ∃ zz : kZ, kTm z0 zz (L ++ kaB 0 K n a) ∧ ((¬ kaP 0 K n a ∧ r = some (.int (kaV 0 K n a x)) ∧ h1 = HP c w zz v E) ∨ (kaP 0 K n a ∧ (∃ y : Int32, r = some (.int y)) ∧ h1 = HP c w zz (setS v 8042 1) E))) := by
  revert hD
  refine kk5 (P := fun K => kDm v K n a → WP X (d + 2) 0 0 Y_X10_dims 0 [(0, .ref 80), (1, .int x)] [] (HP c w m v E) (fun r h1 => ∃ zz : kZ, kTm z0 zz (L ++ kaB 0 K n a) ∧ ((¬ kaP 0 K n a ∧ r = some (.int (kaV 0 K n a x)) ∧ h1 = HP c w zz v E) ∨ (kaP 0 K n a ∧ (∃ y : Int32, r = some (.int y)) ∧ h1 = HP c w zz (setS v 8042 1) E)))) ?_ ?_ ?_ ?_ ?_ K hK
  · intro hD
    refine wp_mono ?_ (s_X10_dims_1 hT hL hD x)
    rintro r h1 ⟨rfl, zz, rfl, hz⟩
    refine ⟨zz, ?_, Or.inl ⟨?_, ?_, rfl⟩⟩
    · simpa [kaB, kdmB, kwdB, kptB, ktlB] using hz
    · simp [kaP]
    · simp [kaV, kdmV, kwdV, kptV, ktlV]
  · intro hD
    refine wp_mono ?_ (s_X10_dims_2 hT hL hD x)
    rintro r h1 ⟨rfl, zz, rfl, hz⟩
    refine ⟨zz, ?_, Or.inl ⟨?_, ?_, rfl⟩⟩
    · simpa [kaB, kdmB, kwdB, kptB, ktlB] using hz
    · simp [kaP]
    · simp [kaV, kdmV, kwdV, kptV, ktlV]
  · intro hD
    refine wp_mono ?_ (s_X10_dims_3 hT hL hD x)
    rintro r h1 ⟨rfl, zz, rfl, hz⟩
    refine ⟨zz, ?_, Or.inl ⟨?_, ?_, rfl⟩⟩
    · simpa [kaB, kdmB, kwdB, kptB, ktlB] using hz
    · simp [kaP]
    · simp [kaV, kdmV, kwdV, kptV, ktlV]
  · intro hD
    refine wp_mono ?_ (s_X10_dims_4 hT hL hD x)
    rintro r h1 ⟨rfl, zz, rfl, hz⟩
    refine ⟨zz, ?_, Or.inl ⟨?_, ?_, rfl⟩⟩
    · simpa [kaB, kdmB, kwdB, kptB, ktlB] using hz
    · simp [kaP]
    · simp [kaV, kdmV, kwdV, kptV, ktlV]
  · intro hD
    refine wp_mono ?_ (s_X10_dims_5 hT hL hD x)
    rintro r h1 ⟨rfl, zz, rfl, hz⟩
    refine ⟨zz, ?_, Or.inl ⟨?_, ?_, rfl⟩⟩
    · simpa [kaB, kdmB, kwdB, kptB, ktlB] using hz
    · simp [kaP]
    · simp [kaV, kdmV, kwdV, kptV, ktlV]
theorem s_X10_widens {X : kX} {d : Nat} {c w m v : kZ} {E : kH} {z0 : kZ} {L : List Int32} (hT : kTm z0 m L) (hL : L.length ≤ 23) {K n a : Int32} (hK : 1 ≤ K.toInt ∧ K.toInt ≤ 5) (hD : kDm v K n a) (x : Int32) : WP X (d + 4) 0 0 Y_X10_widens 0 [(0, .ref 80), (1, .int x)] [] (HP c w m v E) (fun r h1 => ∃ zz : kZ, kTm z0 zz (L ++ kaB 1 K n a) ∧ ((¬ kaP 1 K n a ∧ r = some (.int (kaV 1 K n a x)) ∧ h1 = HP c w zz v E) ∨ (kaP 1 K n a ∧ (∃ y : Int32, r = some (.int y)) ∧ h1 = HP c w zz (setS v 8042 1) E))) := by
  revert hD
  refine kk5 (P := fun K => kDm v K n a → WP X (d + 4) 0 0 Y_X10_widens 0 [(0, .ref 80), (1, .int x)] [] (HP c w m v E) (fun r h1 => ∃ zz : kZ, kTm z0 zz (L ++ kaB 1 K n a) ∧ ((¬ kaP 1 K n a ∧ r = some (.int (kaV 1 K n a x)) ∧ h1 = HP c w zz v E) ∨ (kaP 1 K n a ∧ (∃ y : Int32, r = some (.int y)) ∧ h1 = HP c w zz (setS v 8042 1) E)))) ?_ ?_ ?_ ?_ ?_ K hK
  · intro hD
    refine wp_mono ?_ (s_X10_widens_1 hT hL hD x)
    rintro r h1 ⟨rfl, zz, rfl, hz⟩
    refine ⟨zz, ?_, Or.inl ⟨?_, ?_, rfl⟩⟩
    · simpa [kaB, kdmB, kwdB, kptB, ktlB] using hz
    · simp [kaP]
    · simp [kaV, kdmV, kwdV, kptV, ktlV]
  · intro hD
    refine wp_mono ?_ (s_X10_widens_2 hT hL hD x)
    rintro r h1 ⟨rfl, zz, rfl, hz⟩
    refine ⟨zz, ?_, Or.inl ⟨?_, ?_, rfl⟩⟩
    · simpa [kaB, kdmB, kwdB, kptB, ktlB] using hz
    · simp [kaP]
    · simp [kaV, kdmV, kwdV, kptV, ktlV]
  · intro hD
    refine wp_mono ?_ (s_X10_widens_3 hT hL hD x)
    rintro r h1 ⟨rfl, zz, rfl, hz⟩
    refine ⟨zz, ?_, Or.inl ⟨?_, ?_, rfl⟩⟩
    · simpa [kaB, kdmB, kwdB, kptB, ktlB] using hz
    · simp [kaP]
    · simp [kaV, kdmV, kwdV, kptV, ktlV]
  · intro hD
    refine wp_mono ?_ (s_X10_widens_4 hT hL hD x)
    rintro r h1 ⟨rfl, zz, rfl, hz⟩
    refine ⟨zz, ?_, Or.inl ⟨?_, ?_, rfl⟩⟩
    · simpa [kaB, kdmB, kwdB, kptB, ktlB] using hz
    · simp [kaP]
    · simp [kaV, kdmV, kwdV, kptV, ktlV]
  · intro hD
    refine wp_mono ?_ (s_X10_widens_5 hT hL hD x)
    rintro r h1 ⟨rfl, zz, rfl, hz⟩
    refine ⟨zz, ?_, Or.inl ⟨?_, ?_, rfl⟩⟩
    · simpa [kaB, kdmB, kwdB, kptB, ktlB] using hz
    · simp [kaP]
    · simp [kaV, kdmV, kwdV, kptV, ktlV]
theorem s_X10_parts {X : kX} {d : Nat} {c w m v : kZ} {E : kH} {z0 : kZ} {L : List Int32} (hT : kTm z0 m L) (hL : L.length ≤ 23) {K n a : Int32} (hK : 1 ≤ K.toInt ∧ K.toInt ≤ 5) (hD : kDm v K n a) (x : Int32) : WP X (d + 3) 0 0 Y_X10_parts 0 [(0, .ref 80), (1, .int x)] [] (HP c w m v E) (fun r h1 => ∃ zz : kZ, kTm z0 zz (L ++ kaB 2 K n a) ∧ ((¬ kaP 2 K n a ∧ r = some (.int (kaV 2 K n a x)) ∧ h1 = HP c w zz v E) ∨ (kaP 2 K n a ∧ (∃ y : Int32, r = some (.int y)) ∧ h1 = HP c w zz (setS v 8042 1) E))) := by
  revert hD
  refine kk5 (P := fun K => kDm v K n a → WP X (d + 3) 0 0 Y_X10_parts 0 [(0, .ref 80), (1, .int x)] [] (HP c w m v E) (fun r h1 => ∃ zz : kZ, kTm z0 zz (L ++ kaB 2 K n a) ∧ ((¬ kaP 2 K n a ∧ r = some (.int (kaV 2 K n a x)) ∧ h1 = HP c w zz v E) ∨ (kaP 2 K n a ∧ (∃ y : Int32, r = some (.int y)) ∧ h1 = HP c w zz (setS v 8042 1) E)))) ?_ ?_ ?_ ?_ ?_ K hK
  · intro hD
    refine wp_mono ?_ (s_X10_parts_1 hT hL hD x)
    rintro r h1 ⟨zz, ⟨hne, rfl, rfl, hz⟩ | ⟨heq, ⟨y, rfl⟩, rfl, hz⟩⟩
    · refine ⟨zz, ?_, Or.inl ⟨?_, ?_, rfl⟩⟩
      · simpa [kaB, kdmB, kwdB, kptB, ktlB, hne] using hz
      · simpa [kaP] using hne
      · simp [kaV, kdmV, kwdV, kptV, ktlV]
    · refine ⟨zz, ?_, Or.inr ⟨?_, ⟨y, rfl⟩, rfl⟩⟩
      · simpa [kaB, kdmB, kwdB, kptB, ktlB, heq] using hz
      · simpa [kaP] using heq
  · intro hD
    refine wp_mono ?_ (s_X10_parts_2 hT hL hD x)
    rintro r h1 ⟨zz, ⟨hne, rfl, rfl, hz⟩ | ⟨heq, ⟨y, rfl⟩, rfl, hz⟩⟩
    · refine ⟨zz, ?_, Or.inl ⟨?_, ?_, rfl⟩⟩
      · simpa [kaB, kdmB, kwdB, kptB, ktlB, hne] using hz
      · simpa [kaP] using hne
      · simp [kaV, kdmV, kwdV, kptV, ktlV]
    · refine ⟨zz, ?_, Or.inr ⟨?_, ⟨y, rfl⟩, rfl⟩⟩
      · simpa [kaB, kdmB, kwdB, kptB, ktlB, heq] using hz
      · simpa [kaP] using heq
  · intro hD
    refine wp_mono ?_ (s_X10_parts_3 hT hL hD x)
    rintro r h1 ⟨zz, ⟨hne, rfl, rfl, hz⟩ | ⟨heq, ⟨y, rfl⟩, rfl, hz⟩⟩
    · refine ⟨zz, ?_, Or.inl ⟨?_, ?_, rfl⟩⟩
      · simpa [kaB, kdmB, kwdB, kptB, ktlB, hne] using hz
      · simpa [kaP] using hne
      · simp [kaV, kdmV, kwdV, kptV, ktlV]
    · refine ⟨zz, ?_, Or.inr ⟨?_, ⟨y, rfl⟩, rfl⟩⟩
      · simpa [kaB, kdmB, kwdB, kptB, ktlB, heq] using hz
      · simpa [kaP] using heq
  · intro hD
    refine wp_mono ?_ (s_X10_parts_4 hT hL hD x)
    rintro r h1 ⟨zz, ⟨hne, rfl, rfl, hz⟩ | ⟨heq, ⟨y, rfl⟩, rfl, hz⟩⟩
    · refine ⟨zz, ?_, Or.inl ⟨?_, ?_, rfl⟩⟩
      · simpa [kaB, kdmB, kwdB, kptB, ktlB, hne] using hz
      · simpa [kaP] using hne
      · simp [kaV, kdmV, kwdV, kptV, ktlV]
    · refine ⟨zz, ?_, Or.inr ⟨?_, ⟨y, rfl⟩, rfl⟩⟩
      · simpa [kaB, kdmB, kwdB, kptB, ktlB, heq] using hz
      · simpa [kaP] using heq
  · intro hD
    refine wp_mono ?_ (s_X10_parts_5 hT hL hD x)
    rintro r h1 ⟨zz, ⟨hne, rfl, rfl, hz⟩ | ⟨heq, ⟨y, rfl⟩, rfl, hz⟩⟩
    · refine ⟨zz, ?_, Or.inl ⟨?_, ?_, rfl⟩⟩
      · simpa [kaB, kdmB, kwdB, kptB, ktlB, hne] using hz
      · simpa [kaP] using hne
      · simp [kaV, kdmV, kwdV, kptV, ktlV]
    · refine ⟨zz, ?_, Or.inr ⟨?_, ⟨y, rfl⟩, rfl⟩⟩
      · simpa [kaB, kdmB, kwdB, kptB, ktlB, heq] using hz
      · simpa [kaP] using heq
theorem s_X10_tells {X : kX} {d : Nat} {c w m v : kZ} {E : kH} {z0 : kZ} {L : List Int32} (hT : kTm z0 m L) (hL : L.length ≤ 12) {K n a : Int32} (hK : 1 ≤ K.toInt ∧ K.toInt ≤ 5) (hD : kDm v K n a) (x : Int32) : WP X (d + 6) 0 0 Y_X10_tells 0 [(0, .ref 80), (1, .int x)] [] (HP c w m v E) (fun r h1 => ∃ zz : kZ, kTm z0 zz (L ++ kaB 3 K n a) ∧ ((¬ kaP 3 K n a ∧ r = some (.int (kaV 3 K n a x)) ∧ h1 = HP c w zz v E) ∨ (kaP 3 K n a ∧ (∃ y : Int32, r = some (.int y)) ∧ h1 = HP c w zz (setS v 8042 1) E))) := by
  revert hD
  refine kk5 (P := fun K => kDm v K n a → WP X (d + 6) 0 0 Y_X10_tells 0 [(0, .ref 80), (1, .int x)] [] (HP c w m v E) (fun r h1 => ∃ zz : kZ, kTm z0 zz (L ++ kaB 3 K n a) ∧ ((¬ kaP 3 K n a ∧ r = some (.int (kaV 3 K n a x)) ∧ h1 = HP c w zz v E) ∨ (kaP 3 K n a ∧ (∃ y : Int32, r = some (.int y)) ∧ h1 = HP c w zz (setS v 8042 1) E)))) ?_ ?_ ?_ ?_ ?_ K hK
  · intro hD
    refine wp_mono ?_ (s_X10_tells_1 hT hL hD x)
    rintro r h1 ⟨rfl, zz, rfl, hz⟩
    refine ⟨zz, ?_, Or.inl ⟨?_, ?_, rfl⟩⟩
    · simpa [kaB, kdmB, kwdB, kptB, ktlB] using hz
    · simp [kaP]
    · simp [kaV, kdmV, kwdV, kptV, ktlV]
  · intro hD
    refine wp_mono ?_ (s_X10_tells_2 hT hL hD x)
    rintro r h1 ⟨rfl, zz, rfl, hz⟩
    refine ⟨zz, ?_, Or.inl ⟨?_, ?_, rfl⟩⟩
    · simpa [kaB, kdmB, kwdB, kptB, ktlB] using hz
    · simp [kaP]
    · simp [kaV, kdmV, kwdV, kptV, ktlV]
  · intro hD
    refine wp_mono ?_ (s_X10_tells_3 hT hL hD x)
    rintro r h1 ⟨zz, ⟨hne, rfl, rfl, hz⟩ | ⟨heq, ⟨y, rfl⟩, rfl, hz⟩⟩
    · refine ⟨zz, ?_, Or.inl ⟨?_, ?_, rfl⟩⟩
      · simpa [kaB, kdmB, kwdB, kptB, ktlB, hne] using hz
      · simpa [kaP] using hne
      · simp [kaV, kdmV, kwdV, kptV, ktlV]
    · refine ⟨zz, ?_, Or.inr ⟨?_, ⟨y, rfl⟩, rfl⟩⟩
      · simpa [kaB, kdmB, kwdB, kptB, ktlB, heq] using hz
      · simpa [kaP] using heq
  · intro hD
    refine wp_mono ?_ (s_X10_tells_4 hT hL hD x)
    rintro r h1 ⟨rfl, zz, rfl, hz⟩
    refine ⟨zz, ?_, Or.inl ⟨?_, ?_, rfl⟩⟩
    · simpa [kaB, kdmB, kwdB, kptB, ktlB] using hz
    · simp [kaP]
    · simp [kaV, kdmV, kwdV, kptV, ktlV]
  · intro hD
    refine wp_mono ?_ (s_X10_tells_5 hT hL hD x)
    rintro r h1 ⟨rfl, zz, rfl, hz⟩
    refine ⟨zz, ?_, Or.inl ⟨?_, ?_, rfl⟩⟩
    · simpa [kaB, kdmB, kwdB, kptB, ktlB] using hz
    · simp [kaP]
    · simp [kaV, kdmV, kwdV, kptV, ktlV]
theorem s_X10_onShelf {X : kX} {d : Nat} {c w m v : kZ} {E : kH} {n : Nat} (hn : m.2.1 81 0 = nI n) (hn9 : n ≤ 9) (s : Int32) : WP X (d + 2) 0 0 Y_X10_onShelf 0 [(0, .ref (80)), (1, .int (s))] [] (HP c w m v E) (fun r h1 => h1 = HP c w m v E ∧ ((¬ (0 ≤ s.toInt ∧ s.toInt ≤ 3) ∧ r = some (.int (-1))) ∨ ∃ j : Nat, j ≤ 3 ∧ s = nI j ∧ ((¬ (m.2.1 98 j = 1 ∧ 0 ≤ (m.2.1 99 j).toInt ∧ (m.2.1 99 j).toInt < (n : Int)) ∧ r = some (.int (-1))) ∨ ∃ l : Nat, m.2.1 98 j = 1 ∧ m.2.1 99 j = nI l ∧ l < n ∧ r = some (.int (nI l))))) := by
  refine wp_iload_n 1 d_X10_onShelf_0 rfl rfl ?_
  refine wp_stc_i (As := [.int (s)]) (x0 := kb (0 ≤ (s : Int32).toInt ∧ (s : Int32).toInt ≤ 3)) (h1 := HP c w m v E) d_X10_onShelf_1 lk_X10_397 mv_X10_isOne st_X10_isOne (Nat.le_of_ble_eq_true rfl) (Nat.le_of_ble_eq_true rfl) (s_X10_isOne _ (s : Int32)) ?_
  refine wp_ifb_eq 39 d_X10_onShelf_4 rfl (fun zc4 => ?_) (fun zc4 => ?_)
  · refine wp_iconst (v0 := -1) d_X10_onShelf_39 rfl ?_
    refine wp_reti d_X10_onShelf_40 rfl ?_
    refine ⟨rfl, ?_⟩
    first
    | exact Or.inl ⟨zc4, rfl⟩
    | exact Or.inr ⟨j, hj, rfl, Or.inl ⟨fun q9 => zc14 q9.1, rfl⟩⟩
    | exact Or.inr ⟨j, hj, rfl, Or.inl ⟨fun q9 => zc27 q9.2, rfl⟩⟩
  · obtain ⟨j, hj, rfl⟩ := k_natle (n := 3) zc4
    refine wp_aload_n 0 d_X10_onShelf_7 rfl rfl ?_
    refine wp_getfield (v := .ref (98)) d_X10_onShelf_8 gf_X10_62 (hp_80 _ _ _ _ _) rfl ?_
    refine wp_iload_n 1 d_X10_onShelf_11 rfl rfl ?_
    refine wp_iaload (v := (m.2.1 98) (j)) d_X10_onShelf_12 (hp_98 _ _ _ _ _) (vp_in_nI (by omega) (by omega)) (congrArg ((m.2.1 98)) (nI_clamp (by omega))) ?_
    refine wp_iconst (v0 := 1) d_X10_onShelf_13 rfl ?_
    refine wp_icmp_ne 39 d_X10_onShelf_14 rfl (fun zc14 => ?_) (fun zc14 => ?_)
    · refine wp_iconst (v0 := -1) d_X10_onShelf_39 rfl ?_
      refine wp_reti d_X10_onShelf_40 rfl ?_
      refine ⟨rfl, ?_⟩
      first
      | exact Or.inl ⟨zc4, rfl⟩
      | exact Or.inr ⟨j, hj, rfl, Or.inl ⟨fun q9 => zc14 q9.1, rfl⟩⟩
      | exact Or.inr ⟨j, hj, rfl, Or.inl ⟨fun q9 => zc27 q9.2, rfl⟩⟩
    · refine wp_aload_n 0 d_X10_onShelf_17 rfl rfl ?_
      refine wp_aload_n 0 d_X10_onShelf_18 rfl rfl ?_
      refine wp_getfield (v := .ref (99)) d_X10_onShelf_19 gf_X10_65 (hp_80 _ _ _ _ _) rfl ?_
      refine wp_iload_n 1 d_X10_onShelf_22 rfl rfl ?_
      refine wp_iaload (v := (m.2.1 99) (j)) d_X10_onShelf_23 (hp_99 _ _ _ _ _) (vp_in_nI (by omega) (by omega)) (congrArg ((m.2.1 99)) (nI_clamp (by omega))) ?_
      refine wp_vrt_i (As := [.int ((m.2.1 99) (j))]) (x0 := kb (0 ≤ (((m.2.1 99) (j)) : Int32).toInt ∧ (((m.2.1 99) (j)) : Int32).toInt < (n : Int))) (h1 := HP c w m v E) d_X10_onShelf_24 lk_X10_114 mv_X10_isLens in_X10_isLens se_X10_isLens (Nat.le_of_ble_eq_true rfl) (Nat.le_of_ble_eq_true rfl) (hp_80 _ _ _ _ _) rfl (s_X10_isLens hn (by omega) ((m.2.1 99) (j))) ?_
      refine wp_ifb_eq 39 d_X10_onShelf_27 rfl (fun zc27 => ?_) (fun zc27 => ?_)
      · refine wp_iconst (v0 := -1) d_X10_onShelf_39 rfl ?_
        refine wp_reti d_X10_onShelf_40 rfl ?_
        refine ⟨rfl, ?_⟩
        first
        | exact Or.inl ⟨zc4, rfl⟩
        | exact Or.inr ⟨j, hj, rfl, Or.inl ⟨fun q9 => zc14 q9.1, rfl⟩⟩
        | exact Or.inr ⟨j, hj, rfl, Or.inl ⟨fun q9 => zc27 q9.2, rfl⟩⟩
      · refine wp_aload_n 0 d_X10_onShelf_30 rfl rfl ?_
        refine wp_getfield (v := .ref (99)) d_X10_onShelf_31 gf_X10_65 (hp_80 _ _ _ _ _) rfl ?_
        refine wp_iload_n 1 d_X10_onShelf_34 rfl rfl ?_
        refine wp_iaload (v := (m.2.1 99) (j)) d_X10_onShelf_35 (hp_99 _ _ _ _ _) (vp_in_nI (by omega) (by omega)) (congrArg ((m.2.1 99)) (nI_clamp (by omega))) ?_
        refine wp_goto 40 d_X10_onShelf_36 rfl ?_
        refine wp_reti d_X10_onShelf_40 rfl ?_
        obtain ⟨l, hl, hl1⟩ := k_nat zc27
        exact ⟨rfl, Or.inr ⟨j, hj, rfl, Or.inr ⟨l, zc14, hl1, hl, congrArg (fun z => some (Value.int z)) hl1⟩⟩⟩
theorem s_X10_shelf {X : kX} {d : Nat} {c w m v : kZ} {E : kH} {n : Nat} (hn : m.2.1 81 0 = nI n) (hn9 : n ≤ 9) (s u x : Int32) : WP X (d + 3) 0 0 Y_X10_shelf 0 [(0, .ref (80)), (1, .int (s)), (2, .int (u)), (3, .int (x))] [] (HP c w m v E) (fun r h1 => (¬ ((0 ≤ s.toInt ∧ s.toInt ≤ 3) ∧ ((u = 0 ∧ 0 ≤ x.toInt ∧ x.toInt < (n : Int)) ∨ (u = 1 ∧ 0 ≤ x.toInt ∧ x.toInt ≤ 3) ∨ u = 2)) ∧ r = some (.int (-1)) ∧ h1 = HP c w m v E) ∨ ∃ j : Nat, j ≤ 3 ∧ s = nI j ∧ r = some (.int 1) ∧ ((u = 0 ∧ (0 ≤ x.toInt ∧ x.toInt < (n : Int)) ∧ h1 = HP c w (setA (setA (setA m 98 (upd (m.2.1 98) (j) (1))) 99 (upd (m.2.1 99) (j) (x))) 100 (upd (m.2.1 100) (j) (0))) v E) ∨ (u = 1 ∧ ∃ y : Nat, y ≤ 3 ∧ x = nI y ∧ h1 = HP c w (setA (setA (setA m 98 (upd (m.2.1 98) (j) (if 0 ≤ m.2.1 95 y then 2 else 0))) 99 (upd (m.2.1 99) (j) (m.2.1 96 y))) 100 (upd (m.2.1 100) (j) (m.2.1 95 y))) v E) ∨ (u = 2 ∧ h1 = HP c w (setA (setA (setA m 98 (upd (m.2.1 98) (j) (0))) 99 (upd (m.2.1 99) (j) (0))) 100 (upd (m.2.1 100) (j) (0))) v E))) := by
  refine wp_iload_n 1 d_X10_shelf_0 rfl rfl ?_
  refine wp_stc_i (As := [.int (s)]) (x0 := kb (0 ≤ (s : Int32).toInt ∧ (s : Int32).toInt ≤ 3)) (h1 := HP c w m v E) d_X10_shelf_1 lk_X10_397 mv_X10_isOne st_X10_isOne (Nat.le_of_ble_eq_true rfl) (Nat.le_of_ble_eq_true rfl) (s_X10_isOne _ (s : Int32)) ?_
  refine wp_ifb_eq 43 d_X10_shelf_4 rfl (fun zc4 => ?_) (fun zc4 => ?_)
  · refine wp_iconst (v0 := -1) d_X10_shelf_43 rfl ?_
    refine wp_reti d_X10_shelf_44 rfl ?_
    refine Or.inl ⟨?_, rfl, rfl⟩
    rintro ⟨q1, q2⟩
    rcases q2 with ⟨q2, q3⟩ | ⟨q2, q3⟩ | q2
    all_goals first
    | exact zc4 q1
    | (subst q2; exact zc16 (by decide))
    | exact zc28 q3
    | exact zc40 q3
    | exact absurd q2 zc20
    | exact absurd q2 zc33
    | exact absurd q2 (by decide)
  · refine wp_iload_n 2 d_X10_shelf_7 rfl rfl ?_
    refine wp_i2l d_X10_shelf_8 ?_
    refine wp_lconst (v0 := 0) d_X10_shelf_9 rfl ?_
    refine wp_ldc2 (v0 := 2) d_X10_shelf_10 cl_X10_247 ?_
    refine wp_stc_i (As := [.long (Int32.toInt64 (u)), .long (0), .long (2)]) (x0 := kb (0 ≤ (u : Int32).toInt ∧ (u : Int32).toInt ≤ 2)) (h1 := HP c w m v E) d_X10_shelf_13 lk_X10_74 mv_X10_in st_X10_in (Nat.le_of_ble_eq_true rfl) (Nat.le_of_ble_eq_true rfl) (s_X10_in_i _ (u) (0) (2)) ?_
    refine wp_ifb_eq 43 d_X10_shelf_16 rfl (fun zc16 => ?_) (fun zc16 => ?_)
    · refine wp_iconst (v0 := -1) d_X10_shelf_43 rfl ?_
      refine wp_reti d_X10_shelf_44 rfl ?_
      refine Or.inl ⟨?_, rfl, rfl⟩
      rintro ⟨q1, q2⟩
      rcases q2 with ⟨q2, q3⟩ | ⟨q2, q3⟩ | q2
      all_goals first
      | exact zc4 q1
      | (subst q2; exact zc16 (by decide))
      | exact zc28 q3
      | exact zc40 q3
      | exact absurd q2 zc20
      | exact absurd q2 zc33
      | exact absurd q2 (by decide)
    · refine wp_iload_n 2 d_X10_shelf_19 rfl rfl ?_
      refine wp_if_ne 31 d_X10_shelf_20 rfl (fun zc20 => ?_) (fun zc20 => ?_)
      · refine wp_iload_n 2 d_X10_shelf_31 rfl rfl ?_
        refine wp_iconst (v0 := 1) d_X10_shelf_32 rfl ?_
        refine wp_icmp_ne 45 d_X10_shelf_33 rfl (fun zc33 => ?_) (fun zc33 => ?_)
        · obtain rfl : u = 2 := by
            obtain ⟨y9, hy9, ey9⟩ := k_natle (n := 2) zc16
            subst ey9
            rcases (by omega : y9 = 0 ∨ y9 = 1 ∨ y9 = 2) with e | e | e <;> subst e
            · exact absurd rfl zc20
            · exact absurd rfl zc33
            · rfl
          obtain ⟨j, hj, rfl⟩ := k_natle (n := 3) zc4
          refine wp_aload_n 0 d_X10_shelf_45 rfl rfl ?_
          refine wp_getfield (v := .ref (98)) d_X10_shelf_46 gf_X10_62 (hp_80 _ _ _ _ _) rfl ?_
          refine wp_iload_n 1 d_X10_shelf_49 rfl rfl ?_
          refine wp_iload_n 2 d_X10_shelf_50 rfl rfl ?_
          refine wp_if_ne 58 d_X10_shelf_51 rfl (fun _ => ?_) (fun z => absurd z (by decide))
          refine wp_iload_n 2 d_X10_shelf_58 rfl rfl ?_
          refine wp_iconst (v0 := 1) d_X10_shelf_59 rfl ?_
          refine wp_icmp_ne 76 d_X10_shelf_60 rfl (fun _ => ?_) (fun z => absurd z (by decide))
          refine wp_iconst (v0 := 0) d_X10_shelf_76 rfl ?_
          refine wp_iastore (h' := HP c w (setA m 98 (upd (m.2.1 98) (j) (0))) v E) d_X10_shelf_77 (hp_98 _ _ _ _ _) (vp_in_nI (by omega) (by omega)) (by rw [nI_clamp (by omega)]; exact (hpa_98 _ _ _ _ _ _)) ?_
          refine wp_aload_n 0 d_X10_shelf_78 rfl rfl ?_
          refine wp_getfield (v := .ref (99)) d_X10_shelf_79 gf_X10_65 (hp_80 _ _ _ _ _) rfl ?_
          refine wp_iload_n 1 d_X10_shelf_82 rfl rfl ?_
          refine wp_iload_n 2 d_X10_shelf_83 rfl rfl ?_
          refine wp_if_ne 91 d_X10_shelf_84 rfl (fun _ => ?_) (fun z => absurd z (by decide))
          refine wp_iload_n 2 d_X10_shelf_91 rfl rfl ?_
          refine wp_iconst (v0 := 1) d_X10_shelf_92 rfl ?_
          refine wp_icmp_ne 105 d_X10_shelf_93 rfl (fun _ => ?_) (fun z => absurd z (by decide))
          refine wp_iconst (v0 := 0) d_X10_shelf_105 rfl ?_
          refine wp_iastore (h' := HP c w (setA (setA m 98 (upd (m.2.1 98) (j) (0))) 99 (upd (m.2.1 99) (j) (0))) v E) d_X10_shelf_106 (hp_99 _ _ _ _ _) (vp_in_nI (by omega) (by omega)) (by rw [nI_clamp (by omega)]; exact (hpa_99 _ _ _ _ _ _)) ?_
          refine wp_aload_n 0 d_X10_shelf_107 rfl rfl ?_
          refine wp_getfield (v := .ref (100)) d_X10_shelf_108 gf_X10_68 (hp_80 _ _ _ _ _) rfl ?_
          refine wp_iload_n 1 d_X10_shelf_111 rfl rfl ?_
          refine wp_iload_n 2 d_X10_shelf_112 rfl rfl ?_
          refine wp_iconst (v0 := 1) d_X10_shelf_113 rfl ?_
          refine wp_icmp_ne 126 d_X10_shelf_114 rfl (fun _ => ?_) (fun z => absurd z (by decide))
          refine wp_iconst (v0 := 0) d_X10_shelf_126 rfl ?_
          refine wp_iastore (h' := HP c w (setA (setA (setA m 98 (upd (m.2.1 98) (j) (0))) 99 (upd (m.2.1 99) (j) (0))) 100 (upd (m.2.1 100) (j) (0))) v E) d_X10_shelf_127 (hp_100 _ _ _ _ _) (vp_in_nI (by omega) (by omega)) (by rw [nI_clamp (by omega)]; exact (hpa_100 _ _ _ _ _ _)) ?_
          refine wp_iconst (v0 := 1) d_X10_shelf_128 rfl ?_
          refine wp_reti d_X10_shelf_129 rfl ?_
          exact Or.inr ⟨j, hj, rfl, rfl, Or.inr (Or.inr ⟨rfl, rfl⟩)⟩
        · obtain rfl : u = 1 := zc33
          refine wp_iload_n 3 d_X10_shelf_36 rfl rfl ?_
          refine wp_stc_i (As := [.int (x)]) (x0 := kb (0 ≤ (x : Int32).toInt ∧ (x : Int32).toInt ≤ 3)) (h1 := HP c w m v E) d_X10_shelf_37 lk_X10_397 mv_X10_isOne st_X10_isOne (Nat.le_of_ble_eq_true rfl) (Nat.le_of_ble_eq_true rfl) (s_X10_isOne _ (x : Int32)) ?_
          refine wp_ifb_ne 45 d_X10_shelf_40 rfl (fun zc40 => ?_) (fun zc40 => ?_)
          · obtain ⟨j, hj, rfl⟩ := k_natle (n := 3) zc4
            obtain ⟨y, hy, rfl⟩ := k_natle (n := 3) zc40
            refine wp_aload_n 0 d_X10_shelf_45 rfl rfl ?_
            refine wp_getfield (v := .ref (98)) d_X10_shelf_46 gf_X10_62 (hp_80 _ _ _ _ _) rfl ?_
            refine wp_iload_n 1 d_X10_shelf_49 rfl rfl ?_
            refine wp_iload_n 2 d_X10_shelf_50 rfl rfl ?_
            refine wp_if_ne 58 d_X10_shelf_51 rfl (fun _ => ?_) (fun z => absurd z (by decide))
            refine wp_iload_n 2 d_X10_shelf_58 rfl rfl ?_
            refine wp_iconst (v0 := 1) d_X10_shelf_59 rfl ?_
            refine wp_icmp_ne 76 d_X10_shelf_60 rfl (fun z => absurd z (by decide)) (fun _ => ?_)
            refine wp_aload_n 0 d_X10_shelf_63 rfl rfl ?_
            refine wp_getfield (v := .ref (95)) d_X10_shelf_64 gf_X10_53 (hp_80 _ _ _ _ _) rfl ?_
            refine wp_iload_n 3 d_X10_shelf_67 rfl rfl ?_
            refine wp_iaload (v := (m.2.1 95) (y)) d_X10_shelf_68 (hp_95 _ _ _ _ _) (vp_in_nI (by omega) (by omega)) (congrArg ((m.2.1 95)) (nI_clamp (by omega))) ?_
            refine wp_if_lt 76 d_X10_shelf_69 rfl (fun zc69 => ?_) (fun zc69 => ?_)
            · refine wp_iconst (v0 := 0) d_X10_shelf_76 rfl ?_
              refine wp_iastore (h' := HP c w (setA m 98 (upd (m.2.1 98) (j) (0))) v E) d_X10_shelf_77 (hp_98 _ _ _ _ _) (vp_in_nI (by omega) (by omega)) (by rw [nI_clamp (by omega)]; exact (hpa_98 _ _ _ _ _ _)) ?_
              refine wp_aload_n 0 d_X10_shelf_78 rfl rfl ?_
              refine wp_getfield (v := .ref (99)) d_X10_shelf_79 gf_X10_65 (hp_80 _ _ _ _ _) rfl ?_
              refine wp_iload_n 1 d_X10_shelf_82 rfl rfl ?_
              refine wp_iload_n 2 d_X10_shelf_83 rfl rfl ?_
              refine wp_if_ne 91 d_X10_shelf_84 rfl (fun _ => ?_) (fun z => absurd z (by decide))
              refine wp_iload_n 2 d_X10_shelf_91 rfl rfl ?_
              refine wp_iconst (v0 := 1) d_X10_shelf_92 rfl ?_
              refine wp_icmp_ne 105 d_X10_shelf_93 rfl (fun z => absurd z (by decide)) (fun _ => ?_)
              refine wp_aload_n 0 d_X10_shelf_96 rfl rfl ?_
              refine wp_getfield (v := .ref (96)) d_X10_shelf_97 gf_X10_56 (hp_80 _ _ _ _ _) rfl ?_
              refine wp_iload_n 3 d_X10_shelf_100 rfl rfl ?_
              refine wp_iaload (v := (m.2.1 96) (y)) d_X10_shelf_101 (hp_96 _ _ _ _ _) (vp_in_nI (by omega) (by omega)) (congrArg ((m.2.1 96)) (nI_clamp (by omega))) ?_
              refine wp_goto 106 d_X10_shelf_102 rfl ?_
              refine wp_iastore (h' := HP c w (setA (setA m 98 (upd (m.2.1 98) (j) (0))) 99 (upd (m.2.1 99) (j) ((m.2.1 96) (y)))) v E) d_X10_shelf_106 (hp_99 _ _ _ _ _) (vp_in_nI (by omega) (by omega)) (by rw [nI_clamp (by omega)]; exact (hpa_99 _ _ _ _ _ _)) ?_
              refine wp_aload_n 0 d_X10_shelf_107 rfl rfl ?_
              refine wp_getfield (v := .ref (100)) d_X10_shelf_108 gf_X10_68 (hp_80 _ _ _ _ _) rfl ?_
              refine wp_iload_n 1 d_X10_shelf_111 rfl rfl ?_
              refine wp_iload_n 2 d_X10_shelf_112 rfl rfl ?_
              refine wp_iconst (v0 := 1) d_X10_shelf_113 rfl ?_
              refine wp_icmp_ne 126 d_X10_shelf_114 rfl (fun z => absurd z (by decide)) (fun _ => ?_)
              refine wp_aload_n 0 d_X10_shelf_117 rfl rfl ?_
              refine wp_getfield (v := .ref (95)) d_X10_shelf_118 gf_X10_53 (hp_80 _ _ _ _ _) rfl ?_
              refine wp_iload_n 3 d_X10_shelf_121 rfl rfl ?_
              refine wp_iaload (v := (m.2.1 95) (y)) d_X10_shelf_122 (hp_95 _ _ _ _ _) (vp_in_nI (by omega) (by omega)) (congrArg ((m.2.1 95)) (nI_clamp (by omega))) ?_
              refine wp_goto 127 d_X10_shelf_123 rfl ?_
              refine wp_iastore (h' := HP c w (setA (setA (setA m 98 (upd (m.2.1 98) (j) (0))) 99 (upd (m.2.1 99) (j) ((m.2.1 96) (y)))) 100 (upd (m.2.1 100) (j) ((m.2.1 95) (y)))) v E) d_X10_shelf_127 (hp_100 _ _ _ _ _) (vp_in_nI (by omega) (by omega)) (by rw [nI_clamp (by omega)]; exact (hpa_100 _ _ _ _ _ _)) ?_
              refine wp_iconst (v0 := 1) d_X10_shelf_128 rfl ?_
              refine wp_reti d_X10_shelf_129 rfl ?_
              refine Or.inr ⟨j, hj, rfl, rfl, Or.inr (Or.inl ⟨rfl, y, hy, rfl, ?_⟩)⟩
              rw [if_neg (Int32.not_le.mpr zc69)]
            · refine wp_iconst (v0 := 2) d_X10_shelf_72 rfl ?_
              refine wp_goto 77 d_X10_shelf_73 rfl ?_
              refine wp_iastore (h' := HP c w (setA m 98 (upd (m.2.1 98) (j) (2))) v E) d_X10_shelf_77 (hp_98 _ _ _ _ _) (vp_in_nI (by omega) (by omega)) (by rw [nI_clamp (by omega)]; exact (hpa_98 _ _ _ _ _ _)) ?_
              refine wp_aload_n 0 d_X10_shelf_78 rfl rfl ?_
              refine wp_getfield (v := .ref (99)) d_X10_shelf_79 gf_X10_65 (hp_80 _ _ _ _ _) rfl ?_
              refine wp_iload_n 1 d_X10_shelf_82 rfl rfl ?_
              refine wp_iload_n 2 d_X10_shelf_83 rfl rfl ?_
              refine wp_if_ne 91 d_X10_shelf_84 rfl (fun _ => ?_) (fun z => absurd z (by decide))
              refine wp_iload_n 2 d_X10_shelf_91 rfl rfl ?_
              refine wp_iconst (v0 := 1) d_X10_shelf_92 rfl ?_
              refine wp_icmp_ne 105 d_X10_shelf_93 rfl (fun z => absurd z (by decide)) (fun _ => ?_)
              refine wp_aload_n 0 d_X10_shelf_96 rfl rfl ?_
              refine wp_getfield (v := .ref (96)) d_X10_shelf_97 gf_X10_56 (hp_80 _ _ _ _ _) rfl ?_
              refine wp_iload_n 3 d_X10_shelf_100 rfl rfl ?_
              refine wp_iaload (v := (m.2.1 96) (y)) d_X10_shelf_101 (hp_96 _ _ _ _ _) (vp_in_nI (by omega) (by omega)) (congrArg ((m.2.1 96)) (nI_clamp (by omega))) ?_
              refine wp_goto 106 d_X10_shelf_102 rfl ?_
              refine wp_iastore (h' := HP c w (setA (setA m 98 (upd (m.2.1 98) (j) (2))) 99 (upd (m.2.1 99) (j) ((m.2.1 96) (y)))) v E) d_X10_shelf_106 (hp_99 _ _ _ _ _) (vp_in_nI (by omega) (by omega)) (by rw [nI_clamp (by omega)]; exact (hpa_99 _ _ _ _ _ _)) ?_
              refine wp_aload_n 0 d_X10_shelf_107 rfl rfl ?_
              refine wp_getfield (v := .ref (100)) d_X10_shelf_108 gf_X10_68 (hp_80 _ _ _ _ _) rfl ?_
              refine wp_iload_n 1 d_X10_shelf_111 rfl rfl ?_
              refine wp_iload_n 2 d_X10_shelf_112 rfl rfl ?_
              refine wp_iconst (v0 := 1) d_X10_shelf_113 rfl ?_
              refine wp_icmp_ne 126 d_X10_shelf_114 rfl (fun z => absurd z (by decide)) (fun _ => ?_)
              refine wp_aload_n 0 d_X10_shelf_117 rfl rfl ?_
              refine wp_getfield (v := .ref (95)) d_X10_shelf_118 gf_X10_53 (hp_80 _ _ _ _ _) rfl ?_
              refine wp_iload_n 3 d_X10_shelf_121 rfl rfl ?_
              refine wp_iaload (v := (m.2.1 95) (y)) d_X10_shelf_122 (hp_95 _ _ _ _ _) (vp_in_nI (by omega) (by omega)) (congrArg ((m.2.1 95)) (nI_clamp (by omega))) ?_
              refine wp_goto 127 d_X10_shelf_123 rfl ?_
              refine wp_iastore (h' := HP c w (setA (setA (setA m 98 (upd (m.2.1 98) (j) (2))) 99 (upd (m.2.1 99) (j) ((m.2.1 96) (y)))) 100 (upd (m.2.1 100) (j) ((m.2.1 95) (y)))) v E) d_X10_shelf_127 (hp_100 _ _ _ _ _) (vp_in_nI (by omega) (by omega)) (by rw [nI_clamp (by omega)]; exact (hpa_100 _ _ _ _ _ _)) ?_
              refine wp_iconst (v0 := 1) d_X10_shelf_128 rfl ?_
              refine wp_reti d_X10_shelf_129 rfl ?_
              refine Or.inr ⟨j, hj, rfl, rfl, Or.inr (Or.inl ⟨rfl, y, hy, rfl, ?_⟩)⟩
              rw [if_pos (Int32.not_lt.mp zc69)]
          · refine wp_iconst (v0 := -1) d_X10_shelf_43 rfl ?_
            refine wp_reti d_X10_shelf_44 rfl ?_
            refine Or.inl ⟨?_, rfl, rfl⟩
            rintro ⟨q1, q2⟩
            rcases q2 with ⟨q2, q3⟩ | ⟨q2, q3⟩ | q2
            all_goals first
            | exact zc4 q1
            | (subst q2; exact zc16 (by decide))
            | exact zc28 q3
            | exact zc40 q3
            | exact absurd q2 zc20
            | exact absurd q2 zc33
            | exact absurd q2 (by decide)
      · obtain rfl : u = 0 := zc20
        refine wp_aload_n 0 d_X10_shelf_23 rfl rfl ?_
        refine wp_iload_n 3 d_X10_shelf_24 rfl rfl ?_
        refine wp_vrt_i (As := [.int (x)]) (x0 := kb (0 ≤ ((x) : Int32).toInt ∧ ((x) : Int32).toInt < (n : Int))) (h1 := HP c w m v E) d_X10_shelf_25 lk_X10_114 mv_X10_isLens in_X10_isLens se_X10_isLens (Nat.le_of_ble_eq_true rfl) (Nat.le_of_ble_eq_true rfl) (hp_80 _ _ _ _ _) rfl (s_X10_isLens hn (by omega) (x)) ?_
        refine wp_ifb_eq 43 d_X10_shelf_28 rfl (fun zc28 => ?_) (fun zc28 => ?_)
        · refine wp_iconst (v0 := -1) d_X10_shelf_43 rfl ?_
          refine wp_reti d_X10_shelf_44 rfl ?_
          refine Or.inl ⟨?_, rfl, rfl⟩
          rintro ⟨q1, q2⟩
          rcases q2 with ⟨q2, q3⟩ | ⟨q2, q3⟩ | q2
          all_goals first
          | exact zc4 q1
          | (subst q2; exact zc16 (by decide))
          | exact zc28 q3
          | exact zc40 q3
          | exact absurd q2 zc20
          | exact absurd q2 zc33
          | exact absurd q2 (by decide)
        · refine wp_iload_n 2 d_X10_shelf_31 rfl rfl ?_
          refine wp_iconst (v0 := 1) d_X10_shelf_32 rfl ?_
          refine wp_icmp_ne 45 d_X10_shelf_33 rfl (fun _ => ?_) (fun z => absurd z (by decide))
          obtain ⟨j, hj, rfl⟩ := k_natle (n := 3) zc4
          refine wp_aload_n 0 d_X10_shelf_45 rfl rfl ?_
          refine wp_getfield (v := .ref (98)) d_X10_shelf_46 gf_X10_62 (hp_80 _ _ _ _ _) rfl ?_
          refine wp_iload_n 1 d_X10_shelf_49 rfl rfl ?_
          refine wp_iload_n 2 d_X10_shelf_50 rfl rfl ?_
          refine wp_if_ne 58 d_X10_shelf_51 rfl (fun z => absurd z (by decide)) (fun _ => ?_)
          refine wp_iconst (v0 := 1) d_X10_shelf_54 rfl ?_
          refine wp_goto 77 d_X10_shelf_55 rfl ?_
          refine wp_iastore (h' := HP c w (setA m 98 (upd (m.2.1 98) (j) (1))) v E) d_X10_shelf_77 (hp_98 _ _ _ _ _) (vp_in_nI (by omega) (by omega)) (by rw [nI_clamp (by omega)]; exact (hpa_98 _ _ _ _ _ _)) ?_
          refine wp_aload_n 0 d_X10_shelf_78 rfl rfl ?_
          refine wp_getfield (v := .ref (99)) d_X10_shelf_79 gf_X10_65 (hp_80 _ _ _ _ _) rfl ?_
          refine wp_iload_n 1 d_X10_shelf_82 rfl rfl ?_
          refine wp_iload_n 2 d_X10_shelf_83 rfl rfl ?_
          refine wp_if_ne 91 d_X10_shelf_84 rfl (fun z => absurd z (by decide)) (fun _ => ?_)
          refine wp_iload_n 3 d_X10_shelf_87 rfl rfl ?_
          refine wp_goto 106 d_X10_shelf_88 rfl ?_
          refine wp_iastore (h' := HP c w (setA (setA m 98 (upd (m.2.1 98) (j) (1))) 99 (upd (m.2.1 99) (j) (x))) v E) d_X10_shelf_106 (hp_99 _ _ _ _ _) (vp_in_nI (by omega) (by omega)) (by rw [nI_clamp (by omega)]; exact (hpa_99 _ _ _ _ _ _)) ?_
          refine wp_aload_n 0 d_X10_shelf_107 rfl rfl ?_
          refine wp_getfield (v := .ref (100)) d_X10_shelf_108 gf_X10_68 (hp_80 _ _ _ _ _) rfl ?_
          refine wp_iload_n 1 d_X10_shelf_111 rfl rfl ?_
          refine wp_iload_n 2 d_X10_shelf_112 rfl rfl ?_
          refine wp_iconst (v0 := 1) d_X10_shelf_113 rfl ?_
          refine wp_icmp_ne 126 d_X10_shelf_114 rfl (fun _ => ?_) (fun z => absurd z (by decide))
          refine wp_iconst (v0 := 0) d_X10_shelf_126 rfl ?_
          refine wp_iastore (h' := HP c w (setA (setA (setA m 98 (upd (m.2.1 98) (j) (1))) 99 (upd (m.2.1 99) (j) (x))) 100 (upd (m.2.1 100) (j) (0))) v E) d_X10_shelf_127 (hp_100 _ _ _ _ _) (vp_in_nI (by omega) (by omega)) (by rw [nI_clamp (by omega)]; exact (hpa_100 _ _ _ _ _ _)) ?_
          refine wp_iconst (v0 := 1) d_X10_shelf_128 rfl ?_
          refine wp_reti d_X10_shelf_129 rfl ?_
          exact Or.inr ⟨j, hj, rfl, rfl, Or.inl ⟨rfl, zc28, rfl⟩⟩
theorem s_X10_taken {X : kX} {d : Nat} {c w m v : kZ} {E : kH} {n : Nat} (hn : m.2.1 81 0 = nI n) (hn9 : n ≤ 9) (s u : Int32) : WP X (d + 4) 0 0 Y_X10_taken 0 [(0, .ref (80)), (1, .int (s)), (2, .int (u))] [] (HP c w m v E) (fun r h1 => h1 = HP c w m v E ∧ ((¬ ((0 ≤ s.toInt ∧ s.toInt ≤ 3) ∧ ((0 ≤ u.toInt ∧ u.toInt ≤ 5) ∨ (10 ≤ u.toInt ∧ u.toInt ≤ 14))) ∧ r = some (.int (-1))) ∨ ∃ j : Nat, j ≤ 3 ∧ s = nI j ∧ ((0 ≤ u.toInt ∧ u.toInt ≤ 5) ∨ (10 ≤ u.toInt ∧ u.toInt ≤ 14)) ∧ ((¬ (m.2.1 98 j = 1 ∧ 0 ≤ (m.2.1 99 j).toInt ∧ (m.2.1 99 j).toInt < (n : Int)) ∧ m.2.1 98 j < 2 ∧ r = some (.int (-11))) ∨ (¬ (m.2.1 98 j = 1 ∧ 0 ≤ (m.2.1 99 j).toInt ∧ (m.2.1 99 j).toInt < (n : Int)) ∧ 2 ≤ m.2.1 98 j ∧ r = some (.int (if u - 10 = m.2.1 100 j then m.2.1 99 j else -13))) ∨ ∃ l : Nat, m.2.1 98 j = 1 ∧ m.2.1 99 j = nI l ∧ l < n ∧ r = some (.int (if u < 6 ∧ kUnder (m.2.1 81 (9 + 4 * l + 0)) u then nI l else -13))))) := by
  refine wp_iload_n 1 d_X10_taken_0 rfl rfl ?_
  refine wp_stc_i (As := [.int (s)]) (x0 := kb (0 ≤ (s : Int32).toInt ∧ (s : Int32).toInt ≤ 3)) (h1 := HP c w m v E) d_X10_taken_1 lk_X10_397 mv_X10_isOne st_X10_isOne (Nat.le_of_ble_eq_true rfl) (Nat.le_of_ble_eq_true rfl) (s_X10_isOne _ (s : Int32)) ?_
  refine wp_ifb_eq 33 d_X10_taken_4 rfl (fun zc4 => ?_) (fun zc4 => ?_)
  · refine wp_iconst (v0 := -1) d_X10_taken_33 rfl ?_
    refine wp_reti d_X10_taken_34 rfl ?_
    refine ⟨rfl, Or.inl ⟨?_, rfl⟩⟩
    rintro ⟨q1, q2⟩
    first | exact zc4 q1 | exact q2.elim zc16 zc30
  · refine wp_iload_n 2 d_X10_taken_7 rfl rfl ?_
    refine wp_i2l d_X10_taken_8 ?_
    refine wp_lconst (v0 := 0) d_X10_taken_9 rfl ?_
    refine wp_ldc2 (v0 := 5) d_X10_taken_10 cl_X10_82 ?_
    refine wp_stc_i (As := [.long (Int32.toInt64 (u)), .long (0), .long (5)]) (x0 := kb (0 ≤ (u : Int32).toInt ∧ (u : Int32).toInt ≤ 5)) (h1 := HP c w m v E) d_X10_taken_13 lk_X10_74 mv_X10_in st_X10_in (Nat.le_of_ble_eq_true rfl) (Nat.le_of_ble_eq_true rfl) (s_X10_in_i _ (u) (0) (5)) ?_
    refine wp_ifb_ne 35 d_X10_taken_16 rfl (fun zc16 => ?_) (fun zc16 => ?_)
    · obtain ⟨j, hj, rfl⟩ := k_natle (n := 3) zc4
      refine wp_aload_n 0 d_X10_taken_35 rfl rfl ?_
      refine wp_iload_n 1 d_X10_taken_36 rfl rfl ?_
      refine wp_virtual0 (As := [.int (nI (j))]) d_X10_taken_37 lk_X10_421 mv_X10_onShelf in_X10_onShelf se_X10_onShelf (Nat.le_of_ble_eq_true rfl) (Nat.le_of_ble_eq_true rfl) (hp_80 _ _ _ _ _) rfl (s_X10_onShelf hn hn9 (nI (j))) (fun v37 h37 q37 => ?_)
      obtain ⟨rfl, ⟨hb9, rfl⟩ | ⟨j9, hj9, ej9, ⟨hno, rfl⟩ | ⟨l, hs1, hl1, hl, rfl⟩⟩⟩ := q37
      · exact absurd zc4 hb9
      · obtain rfl : j = j9 := (nI_eq (by omega) (by omega)).mp ej9
        show WP _ _ _ _ _ 40 _ [.int ((-1))] (HP c w m v E) _
        refine wp_istore_n [(3, .int ((-1))), (0, .ref (80)), (1, .int (nI (j))), (2, .int (u))] d_X10_taken_40 rfl (Nat.le_of_ble_eq_true rfl) rfl ?_
        refine wp_iload_n 0 d_X10_taken_41 rfl rfl ?_
        refine wp_if_ge 58 d_X10_taken_42 rfl (fun z => absurd z (by decide)) (fun _ => ?_)
        refine wp_aload_n 1 d_X10_taken_45 rfl rfl ?_
        refine wp_getfield (v := .ref (98)) d_X10_taken_46 gf_X10_62 (hp_80 _ _ _ _ _) rfl ?_
        refine wp_iload_n 2 d_X10_taken_49 rfl rfl ?_
        refine wp_iaload (v := (m.2.1 98) (j)) d_X10_taken_50 (hp_98 _ _ _ _ _) (vp_in_nI (by omega) (by omega)) (congrArg ((m.2.1 98)) (nI_clamp (by omega))) ?_
        refine wp_iconst (v0 := 2) d_X10_taken_51 rfl ?_
        refine wp_icmp_ge 58 d_X10_taken_52 rfl (fun zc52 => ?_) (fun zc52 => ?_)
        · refine wp_iload_n 0 d_X10_taken_58 rfl rfl ?_
          refine wp_if_lt 89 d_X10_taken_59 rfl (fun _ => ?_) (fun z => absurd z (by decide))
          refine wp_iload_n 3 d_X10_taken_89 rfl rfl ?_
          refine wp_bipush (v0 := 10) d_X10_taken_90 (by decide) ?_
          refine wp_isub d_X10_taken_92 ?_
          refine wp_aload_n 1 d_X10_taken_93 rfl rfl ?_
          refine wp_getfield (v := .ref (100)) d_X10_taken_94 gf_X10_68 (hp_80 _ _ _ _ _) rfl ?_
          refine wp_iload_n 2 d_X10_taken_97 rfl rfl ?_
          refine wp_iaload (v := (m.2.1 100) (j)) d_X10_taken_98 (hp_100 _ _ _ _ _) (vp_in_nI (by omega) (by omega)) (congrArg ((m.2.1 100)) (nI_clamp (by omega))) ?_
          refine wp_icmp_ne 106 d_X10_taken_99 rfl (fun zc99 => ?_) (fun zc99 => ?_)
          · refine wp_iconst (v0 := 0) d_X10_taken_106 rfl ?_
            refine wp_istore [(4, .int (0)), (3, .int ((-1))), (0, .ref (80)), (1, .int (nI (j))), (2, .int (u))] d_X10_taken_107 (Nat.le_of_ble_eq_true rfl) rfl ?_
            refine wp_iload 0 d_X10_taken_109 rfl ?_
            refine wp_if_eq 123 d_X10_taken_111 rfl (fun _ => ?_) (fun z => absurd z (by decide))
            refine wp_bipush (v0 := -13) d_X10_taken_123 (by decide) ?_
            refine wp_reti d_X10_taken_125 rfl ?_
            refine ⟨rfl, Or.inr ⟨j, hj, rfl, ?_, ?_⟩⟩
            · first | exact Or.inl zc16 | exact Or.inr zc30
            · first
                | exact Or.inr (Or.inl ⟨hno, zc52, congrArg (fun z => some (Value.int z)) (Eq.symm (if_pos zc99))⟩)
                | exact Or.inr (Or.inl ⟨hno, zc52, congrArg (fun z => some (Value.int z)) (Eq.symm (if_neg zc99))⟩)
                | exact Or.inr (Or.inr ⟨l, hs1, hl1, hl, congrArg (fun z => some (Value.int z)) ((hl1).trans (Eq.symm (if_pos ⟨Int32.not_le.mp zc65, zc78⟩)))⟩)
                | exact Or.inr (Or.inr ⟨l, hs1, hl1, hl, congrArg (fun z => some (Value.int z)) (Eq.symm (if_neg (fun q9 => zc78 q9.2)))⟩)
                | exact Or.inr (Or.inr ⟨l, hs1, hl1, hl, congrArg (fun z => some (Value.int z)) (Eq.symm (if_neg (fun q9 => absurd zc65 (Int32.not_le.mpr q9.1))))⟩)
          · refine wp_iconst (v0 := 1) d_X10_taken_102 rfl ?_
            refine wp_goto 107 d_X10_taken_103 rfl ?_
            refine wp_istore [(4, .int (1)), (3, .int ((-1))), (0, .ref (80)), (1, .int (nI (j))), (2, .int (u))] d_X10_taken_107 (Nat.le_of_ble_eq_true rfl) rfl ?_
            refine wp_iload 0 d_X10_taken_109 rfl ?_
            refine wp_if_eq 123 d_X10_taken_111 rfl (fun z => absurd z (by decide)) (fun _ => ?_)
            refine wp_aload_n 2 d_X10_taken_114 rfl rfl ?_
            refine wp_getfield (v := .ref (99)) d_X10_taken_115 gf_X10_65 (hp_80 _ _ _ _ _) rfl ?_
            refine wp_iload_n 3 d_X10_taken_118 rfl rfl ?_
            refine wp_iaload (v := (m.2.1 99) (j)) d_X10_taken_119 (hp_99 _ _ _ _ _) (vp_in_nI (by omega) (by omega)) (congrArg ((m.2.1 99)) (nI_clamp (by omega))) ?_
            refine wp_goto 125 d_X10_taken_120 rfl ?_
            refine wp_reti d_X10_taken_125 rfl ?_
            refine ⟨rfl, Or.inr ⟨j, hj, rfl, ?_, ?_⟩⟩
            · first | exact Or.inl zc16 | exact Or.inr zc30
            · first
                | exact Or.inr (Or.inl ⟨hno, zc52, congrArg (fun z => some (Value.int z)) (Eq.symm (if_pos zc99))⟩)
                | exact Or.inr (Or.inl ⟨hno, zc52, congrArg (fun z => some (Value.int z)) (Eq.symm (if_neg zc99))⟩)
                | exact Or.inr (Or.inr ⟨l, hs1, hl1, hl, congrArg (fun z => some (Value.int z)) ((hl1).trans (Eq.symm (if_pos ⟨Int32.not_le.mp zc65, zc78⟩)))⟩)
                | exact Or.inr (Or.inr ⟨l, hs1, hl1, hl, congrArg (fun z => some (Value.int z)) (Eq.symm (if_neg (fun q9 => zc78 q9.2)))⟩)
                | exact Or.inr (Or.inr ⟨l, hs1, hl1, hl, congrArg (fun z => some (Value.int z)) (Eq.symm (if_neg (fun q9 => absurd zc65 (Int32.not_le.mpr q9.1))))⟩)
        · refine wp_bipush (v0 := -11) d_X10_taken_55 (by decide) ?_
          refine wp_reti d_X10_taken_57 rfl ?_
          refine ⟨rfl, Or.inr ⟨j, hj, rfl, ?_, ?_⟩⟩
          · first | exact Or.inl zc16 | exact Or.inr zc30
          · exact Or.inl ⟨hno, Int32.not_le.mp zc52, rfl⟩
      · obtain rfl : j = j9 := (nI_eq (by omega) (by omega)).mp ej9
        show WP _ _ _ _ _ 40 _ [.int (nI (l))] (HP c w m v E) _
        refine wp_istore_n [(3, .int (nI (l))), (0, .ref (80)), (1, .int (nI (j))), (2, .int (u))] d_X10_taken_40 rfl (Nat.le_of_ble_eq_true rfl) rfl ?_
        refine wp_iload_n 0 d_X10_taken_41 rfl rfl ?_
        refine wp_nif_ge (a := l) 58 d_X10_taken_42 rfl (by omega) ?_
        refine wp_iload_n 0 d_X10_taken_58 rfl rfl ?_
        refine wp_nif_lt (a := l) 89 d_X10_taken_59 rfl (by omega) ?_
        refine wp_iload_n 3 d_X10_taken_62 rfl rfl ?_
        refine wp_bipush (v0 := 6) d_X10_taken_63 (by decide) ?_
        refine wp_icmp_ge 85 d_X10_taken_65 rfl (fun zc65 => ?_) (fun zc65 => ?_)
        · refine wp_iconst (v0 := 0) d_X10_taken_85 rfl ?_
          refine wp_goto 107 d_X10_taken_86 rfl ?_
          refine wp_istore [(4, .int (0)), (3, .int (nI (l))), (0, .ref (80)), (1, .int (nI (j))), (2, .int (u))] d_X10_taken_107 (Nat.le_of_ble_eq_true rfl) rfl ?_
          refine wp_iload 0 d_X10_taken_109 rfl ?_
          refine wp_if_eq 123 d_X10_taken_111 rfl (fun _ => ?_) (fun z => absurd z (by decide))
          refine wp_bipush (v0 := -13) d_X10_taken_123 (by decide) ?_
          refine wp_reti d_X10_taken_125 rfl ?_
          refine ⟨rfl, Or.inr ⟨j, hj, rfl, ?_, ?_⟩⟩
          · first | exact Or.inl zc16 | exact Or.inr zc30
          · first
              | exact Or.inr (Or.inl ⟨hno, zc52, congrArg (fun z => some (Value.int z)) (Eq.symm (if_pos zc99))⟩)
              | exact Or.inr (Or.inl ⟨hno, zc52, congrArg (fun z => some (Value.int z)) (Eq.symm (if_neg zc99))⟩)
              | exact Or.inr (Or.inr ⟨l, hs1, hl1, hl, congrArg (fun z => some (Value.int z)) ((hl1).trans (Eq.symm (if_pos ⟨Int32.not_le.mp zc65, zc78⟩)))⟩)
              | exact Or.inr (Or.inr ⟨l, hs1, hl1, hl, congrArg (fun z => some (Value.int z)) (Eq.symm (if_neg (fun q9 => zc78 q9.2)))⟩)
              | exact Or.inr (Or.inr ⟨l, hs1, hl1, hl, congrArg (fun z => some (Value.int z)) (Eq.symm (if_neg (fun q9 => absurd zc65 (Int32.not_le.mpr q9.1))))⟩)
        · refine wp_aload_n 1 d_X10_taken_68 rfl rfl ?_
          refine wp_iload_n 0 d_X10_taken_69 rfl rfl ?_
          refine wp_iconst (v0 := 0) d_X10_taken_70 rfl ?_
          refine wp_vrt_i (As := [.int (nI (l)), .int (0)]) (x0 := (m.2.1 81) (9 + 4 * (l) + (0))) (h1 := HP c w m v E) d_X10_taken_71 lk_X10_98 mv_X10_its in_X10_its se_X10_its (Nat.le_of_ble_eq_true rfl) (Nat.le_of_ble_eq_true rfl) (hp_80 _ _ _ _ _) rfl (s_X10_its (j := l) (u := 0) (by omega) (by omega)) ?_
          refine wp_iload_n 3 d_X10_taken_74 rfl rfl ?_
          refine wp_stc_i (As := [.int ((m.2.1 81) (9 + 4 * (l) + (0))), .int (u)]) (x0 := kb (kUnder ((m.2.1 81) (9 + 4 * (l) + (0))) (u))) (h1 := HP c w m v E) d_X10_taken_75 lk_X10_108 mv_X10_isUnder st_X10_isUnder (Nat.le_of_ble_eq_true rfl) (Nat.le_of_ble_eq_true rfl) (s_X10_isUnder _ ((m.2.1 81) (9 + 4 * (l) + (0))) (u)) ?_
          refine wp_ifb_eq 85 d_X10_taken_78 rfl (fun zc78 => ?_) (fun zc78 => ?_)
          · refine wp_iconst (v0 := 0) d_X10_taken_85 rfl ?_
            refine wp_goto 107 d_X10_taken_86 rfl ?_
            refine wp_istore [(4, .int (0)), (3, .int (nI (l))), (0, .ref (80)), (1, .int (nI (j))), (2, .int (u))] d_X10_taken_107 (Nat.le_of_ble_eq_true rfl) rfl ?_
            refine wp_iload 0 d_X10_taken_109 rfl ?_
            refine wp_if_eq 123 d_X10_taken_111 rfl (fun _ => ?_) (fun z => absurd z (by decide))
            refine wp_bipush (v0 := -13) d_X10_taken_123 (by decide) ?_
            refine wp_reti d_X10_taken_125 rfl ?_
            refine ⟨rfl, Or.inr ⟨j, hj, rfl, ?_, ?_⟩⟩
            · first | exact Or.inl zc16 | exact Or.inr zc30
            · first
                | exact Or.inr (Or.inl ⟨hno, zc52, congrArg (fun z => some (Value.int z)) (Eq.symm (if_pos zc99))⟩)
                | exact Or.inr (Or.inl ⟨hno, zc52, congrArg (fun z => some (Value.int z)) (Eq.symm (if_neg zc99))⟩)
                | exact Or.inr (Or.inr ⟨l, hs1, hl1, hl, congrArg (fun z => some (Value.int z)) ((hl1).trans (Eq.symm (if_pos ⟨Int32.not_le.mp zc65, zc78⟩)))⟩)
                | exact Or.inr (Or.inr ⟨l, hs1, hl1, hl, congrArg (fun z => some (Value.int z)) (Eq.symm (if_neg (fun q9 => zc78 q9.2)))⟩)
                | exact Or.inr (Or.inr ⟨l, hs1, hl1, hl, congrArg (fun z => some (Value.int z)) (Eq.symm (if_neg (fun q9 => absurd zc65 (Int32.not_le.mpr q9.1))))⟩)
          · refine wp_iconst (v0 := 1) d_X10_taken_81 rfl ?_
            refine wp_goto 107 d_X10_taken_82 rfl ?_
            refine wp_istore [(4, .int (1)), (3, .int (nI (l))), (0, .ref (80)), (1, .int (nI (j))), (2, .int (u))] d_X10_taken_107 (Nat.le_of_ble_eq_true rfl) rfl ?_
            refine wp_iload 0 d_X10_taken_109 rfl ?_
            refine wp_if_eq 123 d_X10_taken_111 rfl (fun z => absurd z (by decide)) (fun _ => ?_)
            refine wp_aload_n 2 d_X10_taken_114 rfl rfl ?_
            refine wp_getfield (v := .ref (99)) d_X10_taken_115 gf_X10_65 (hp_80 _ _ _ _ _) rfl ?_
            refine wp_iload_n 3 d_X10_taken_118 rfl rfl ?_
            refine wp_iaload (v := (m.2.1 99) (j)) d_X10_taken_119 (hp_99 _ _ _ _ _) (vp_in_nI (by omega) (by omega)) (congrArg ((m.2.1 99)) (nI_clamp (by omega))) ?_
            refine wp_goto 125 d_X10_taken_120 rfl ?_
            refine wp_reti d_X10_taken_125 rfl ?_
            refine ⟨rfl, Or.inr ⟨j, hj, rfl, ?_, ?_⟩⟩
            · first | exact Or.inl zc16 | exact Or.inr zc30
            · first
                | exact Or.inr (Or.inl ⟨hno, zc52, congrArg (fun z => some (Value.int z)) (Eq.symm (if_pos zc99))⟩)
                | exact Or.inr (Or.inl ⟨hno, zc52, congrArg (fun z => some (Value.int z)) (Eq.symm (if_neg zc99))⟩)
                | exact Or.inr (Or.inr ⟨l, hs1, hl1, hl, congrArg (fun z => some (Value.int z)) ((hl1).trans (Eq.symm (if_pos ⟨Int32.not_le.mp zc65, zc78⟩)))⟩)
                | exact Or.inr (Or.inr ⟨l, hs1, hl1, hl, congrArg (fun z => some (Value.int z)) (Eq.symm (if_neg (fun q9 => zc78 q9.2)))⟩)
                | exact Or.inr (Or.inr ⟨l, hs1, hl1, hl, congrArg (fun z => some (Value.int z)) (Eq.symm (if_neg (fun q9 => absurd zc65 (Int32.not_le.mpr q9.1))))⟩)
    · refine wp_iload_n 2 d_X10_taken_19 rfl rfl ?_
      refine wp_i2l d_X10_taken_20 ?_
      refine wp_ldc2 (v0 := 10) d_X10_taken_21 cl_X10_417 ?_
      refine wp_ldc2 (v0 := 14) d_X10_taken_24 cl_X10_419 ?_
      refine wp_stc_i (As := [.long (Int32.toInt64 (u)), .long (10), .long (14)]) (x0 := kb (10 ≤ (u : Int32).toInt ∧ (u : Int32).toInt ≤ 14)) (h1 := HP c w m v E) d_X10_taken_27 lk_X10_74 mv_X10_in st_X10_in (Nat.le_of_ble_eq_true rfl) (Nat.le_of_ble_eq_true rfl) (s_X10_in_i _ (u) (10) (14)) ?_
      refine wp_ifb_ne 35 d_X10_taken_30 rfl (fun zc30 => ?_) (fun zc30 => ?_)
      · obtain ⟨j, hj, rfl⟩ := k_natle (n := 3) zc4
        refine wp_aload_n 0 d_X10_taken_35 rfl rfl ?_
        refine wp_iload_n 1 d_X10_taken_36 rfl rfl ?_
        refine wp_virtual0 (As := [.int (nI (j))]) d_X10_taken_37 lk_X10_421 mv_X10_onShelf in_X10_onShelf se_X10_onShelf (Nat.le_of_ble_eq_true rfl) (Nat.le_of_ble_eq_true rfl) (hp_80 _ _ _ _ _) rfl (s_X10_onShelf hn hn9 (nI (j))) (fun v37 h37 q37 => ?_)
        obtain ⟨rfl, ⟨hb9, rfl⟩ | ⟨j9, hj9, ej9, ⟨hno, rfl⟩ | ⟨l, hs1, hl1, hl, rfl⟩⟩⟩ := q37
        · exact absurd zc4 hb9
        · obtain rfl : j = j9 := (nI_eq (by omega) (by omega)).mp ej9
          show WP _ _ _ _ _ 40 _ [.int ((-1))] (HP c w m v E) _
          refine wp_istore_n [(3, .int ((-1))), (0, .ref (80)), (1, .int (nI (j))), (2, .int (u))] d_X10_taken_40 rfl (Nat.le_of_ble_eq_true rfl) rfl ?_
          refine wp_iload_n 0 d_X10_taken_41 rfl rfl ?_
          refine wp_if_ge 58 d_X10_taken_42 rfl (fun z => absurd z (by decide)) (fun _ => ?_)
          refine wp_aload_n 1 d_X10_taken_45 rfl rfl ?_
          refine wp_getfield (v := .ref (98)) d_X10_taken_46 gf_X10_62 (hp_80 _ _ _ _ _) rfl ?_
          refine wp_iload_n 2 d_X10_taken_49 rfl rfl ?_
          refine wp_iaload (v := (m.2.1 98) (j)) d_X10_taken_50 (hp_98 _ _ _ _ _) (vp_in_nI (by omega) (by omega)) (congrArg ((m.2.1 98)) (nI_clamp (by omega))) ?_
          refine wp_iconst (v0 := 2) d_X10_taken_51 rfl ?_
          refine wp_icmp_ge 58 d_X10_taken_52 rfl (fun zc52 => ?_) (fun zc52 => ?_)
          · refine wp_iload_n 0 d_X10_taken_58 rfl rfl ?_
            refine wp_if_lt 89 d_X10_taken_59 rfl (fun _ => ?_) (fun z => absurd z (by decide))
            refine wp_iload_n 3 d_X10_taken_89 rfl rfl ?_
            refine wp_bipush (v0 := 10) d_X10_taken_90 (by decide) ?_
            refine wp_isub d_X10_taken_92 ?_
            refine wp_aload_n 1 d_X10_taken_93 rfl rfl ?_
            refine wp_getfield (v := .ref (100)) d_X10_taken_94 gf_X10_68 (hp_80 _ _ _ _ _) rfl ?_
            refine wp_iload_n 2 d_X10_taken_97 rfl rfl ?_
            refine wp_iaload (v := (m.2.1 100) (j)) d_X10_taken_98 (hp_100 _ _ _ _ _) (vp_in_nI (by omega) (by omega)) (congrArg ((m.2.1 100)) (nI_clamp (by omega))) ?_
            refine wp_icmp_ne 106 d_X10_taken_99 rfl (fun zc99 => ?_) (fun zc99 => ?_)
            · refine wp_iconst (v0 := 0) d_X10_taken_106 rfl ?_
              refine wp_istore [(4, .int (0)), (3, .int ((-1))), (0, .ref (80)), (1, .int (nI (j))), (2, .int (u))] d_X10_taken_107 (Nat.le_of_ble_eq_true rfl) rfl ?_
              refine wp_iload 0 d_X10_taken_109 rfl ?_
              refine wp_if_eq 123 d_X10_taken_111 rfl (fun _ => ?_) (fun z => absurd z (by decide))
              refine wp_bipush (v0 := -13) d_X10_taken_123 (by decide) ?_
              refine wp_reti d_X10_taken_125 rfl ?_
              refine ⟨rfl, Or.inr ⟨j, hj, rfl, ?_, ?_⟩⟩
              · first | exact Or.inl zc16 | exact Or.inr zc30
              · first
                  | exact Or.inr (Or.inl ⟨hno, zc52, congrArg (fun z => some (Value.int z)) (Eq.symm (if_pos zc99))⟩)
                  | exact Or.inr (Or.inl ⟨hno, zc52, congrArg (fun z => some (Value.int z)) (Eq.symm (if_neg zc99))⟩)
                  | exact Or.inr (Or.inr ⟨l, hs1, hl1, hl, congrArg (fun z => some (Value.int z)) ((hl1).trans (Eq.symm (if_pos ⟨Int32.not_le.mp zc65, zc78⟩)))⟩)
                  | exact Or.inr (Or.inr ⟨l, hs1, hl1, hl, congrArg (fun z => some (Value.int z)) (Eq.symm (if_neg (fun q9 => zc78 q9.2)))⟩)
                  | exact Or.inr (Or.inr ⟨l, hs1, hl1, hl, congrArg (fun z => some (Value.int z)) (Eq.symm (if_neg (fun q9 => absurd zc65 (Int32.not_le.mpr q9.1))))⟩)
            · refine wp_iconst (v0 := 1) d_X10_taken_102 rfl ?_
              refine wp_goto 107 d_X10_taken_103 rfl ?_
              refine wp_istore [(4, .int (1)), (3, .int ((-1))), (0, .ref (80)), (1, .int (nI (j))), (2, .int (u))] d_X10_taken_107 (Nat.le_of_ble_eq_true rfl) rfl ?_
              refine wp_iload 0 d_X10_taken_109 rfl ?_
              refine wp_if_eq 123 d_X10_taken_111 rfl (fun z => absurd z (by decide)) (fun _ => ?_)
              refine wp_aload_n 2 d_X10_taken_114 rfl rfl ?_
              refine wp_getfield (v := .ref (99)) d_X10_taken_115 gf_X10_65 (hp_80 _ _ _ _ _) rfl ?_
              refine wp_iload_n 3 d_X10_taken_118 rfl rfl ?_
              refine wp_iaload (v := (m.2.1 99) (j)) d_X10_taken_119 (hp_99 _ _ _ _ _) (vp_in_nI (by omega) (by omega)) (congrArg ((m.2.1 99)) (nI_clamp (by omega))) ?_
              refine wp_goto 125 d_X10_taken_120 rfl ?_
              refine wp_reti d_X10_taken_125 rfl ?_
              refine ⟨rfl, Or.inr ⟨j, hj, rfl, ?_, ?_⟩⟩
              · first | exact Or.inl zc16 | exact Or.inr zc30
              · first
                  | exact Or.inr (Or.inl ⟨hno, zc52, congrArg (fun z => some (Value.int z)) (Eq.symm (if_pos zc99))⟩)
                  | exact Or.inr (Or.inl ⟨hno, zc52, congrArg (fun z => some (Value.int z)) (Eq.symm (if_neg zc99))⟩)
                  | exact Or.inr (Or.inr ⟨l, hs1, hl1, hl, congrArg (fun z => some (Value.int z)) ((hl1).trans (Eq.symm (if_pos ⟨Int32.not_le.mp zc65, zc78⟩)))⟩)
                  | exact Or.inr (Or.inr ⟨l, hs1, hl1, hl, congrArg (fun z => some (Value.int z)) (Eq.symm (if_neg (fun q9 => zc78 q9.2)))⟩)
                  | exact Or.inr (Or.inr ⟨l, hs1, hl1, hl, congrArg (fun z => some (Value.int z)) (Eq.symm (if_neg (fun q9 => absurd zc65 (Int32.not_le.mpr q9.1))))⟩)
          · refine wp_bipush (v0 := -11) d_X10_taken_55 (by decide) ?_
            refine wp_reti d_X10_taken_57 rfl ?_
            refine ⟨rfl, Or.inr ⟨j, hj, rfl, ?_, ?_⟩⟩
            · first | exact Or.inl zc16 | exact Or.inr zc30
            · exact Or.inl ⟨hno, Int32.not_le.mp zc52, rfl⟩
        · obtain rfl : j = j9 := (nI_eq (by omega) (by omega)).mp ej9
          show WP _ _ _ _ _ 40 _ [.int (nI (l))] (HP c w m v E) _
          refine wp_istore_n [(3, .int (nI (l))), (0, .ref (80)), (1, .int (nI (j))), (2, .int (u))] d_X10_taken_40 rfl (Nat.le_of_ble_eq_true rfl) rfl ?_
          refine wp_iload_n 0 d_X10_taken_41 rfl rfl ?_
          refine wp_nif_ge (a := l) 58 d_X10_taken_42 rfl (by omega) ?_
          refine wp_iload_n 0 d_X10_taken_58 rfl rfl ?_
          refine wp_nif_lt (a := l) 89 d_X10_taken_59 rfl (by omega) ?_
          refine wp_iload_n 3 d_X10_taken_62 rfl rfl ?_
          refine wp_bipush (v0 := 6) d_X10_taken_63 (by decide) ?_
          refine wp_icmp_ge 85 d_X10_taken_65 rfl (fun zc65 => ?_) (fun zc65 => ?_)
          · refine wp_iconst (v0 := 0) d_X10_taken_85 rfl ?_
            refine wp_goto 107 d_X10_taken_86 rfl ?_
            refine wp_istore [(4, .int (0)), (3, .int (nI (l))), (0, .ref (80)), (1, .int (nI (j))), (2, .int (u))] d_X10_taken_107 (Nat.le_of_ble_eq_true rfl) rfl ?_
            refine wp_iload 0 d_X10_taken_109 rfl ?_
            refine wp_if_eq 123 d_X10_taken_111 rfl (fun _ => ?_) (fun z => absurd z (by decide))
            refine wp_bipush (v0 := -13) d_X10_taken_123 (by decide) ?_
            refine wp_reti d_X10_taken_125 rfl ?_
            refine ⟨rfl, Or.inr ⟨j, hj, rfl, ?_, ?_⟩⟩
            · first | exact Or.inl zc16 | exact Or.inr zc30
            · first
                | exact Or.inr (Or.inl ⟨hno, zc52, congrArg (fun z => some (Value.int z)) (Eq.symm (if_pos zc99))⟩)
                | exact Or.inr (Or.inl ⟨hno, zc52, congrArg (fun z => some (Value.int z)) (Eq.symm (if_neg zc99))⟩)
                | exact Or.inr (Or.inr ⟨l, hs1, hl1, hl, congrArg (fun z => some (Value.int z)) ((hl1).trans (Eq.symm (if_pos ⟨Int32.not_le.mp zc65, zc78⟩)))⟩)
                | exact Or.inr (Or.inr ⟨l, hs1, hl1, hl, congrArg (fun z => some (Value.int z)) (Eq.symm (if_neg (fun q9 => zc78 q9.2)))⟩)
                | exact Or.inr (Or.inr ⟨l, hs1, hl1, hl, congrArg (fun z => some (Value.int z)) (Eq.symm (if_neg (fun q9 => absurd zc65 (Int32.not_le.mpr q9.1))))⟩)
          · refine wp_aload_n 1 d_X10_taken_68 rfl rfl ?_
            refine wp_iload_n 0 d_X10_taken_69 rfl rfl ?_
            refine wp_iconst (v0 := 0) d_X10_taken_70 rfl ?_
            refine wp_vrt_i (As := [.int (nI (l)), .int (0)]) (x0 := (m.2.1 81) (9 + 4 * (l) + (0))) (h1 := HP c w m v E) d_X10_taken_71 lk_X10_98 mv_X10_its in_X10_its se_X10_its (Nat.le_of_ble_eq_true rfl) (Nat.le_of_ble_eq_true rfl) (hp_80 _ _ _ _ _) rfl (s_X10_its (j := l) (u := 0) (by omega) (by omega)) ?_
            refine wp_iload_n 3 d_X10_taken_74 rfl rfl ?_
            refine wp_stc_i (As := [.int ((m.2.1 81) (9 + 4 * (l) + (0))), .int (u)]) (x0 := kb (kUnder ((m.2.1 81) (9 + 4 * (l) + (0))) (u))) (h1 := HP c w m v E) d_X10_taken_75 lk_X10_108 mv_X10_isUnder st_X10_isUnder (Nat.le_of_ble_eq_true rfl) (Nat.le_of_ble_eq_true rfl) (s_X10_isUnder _ ((m.2.1 81) (9 + 4 * (l) + (0))) (u)) ?_
            refine wp_ifb_eq 85 d_X10_taken_78 rfl (fun zc78 => ?_) (fun zc78 => ?_)
            · refine wp_iconst (v0 := 0) d_X10_taken_85 rfl ?_
              refine wp_goto 107 d_X10_taken_86 rfl ?_
              refine wp_istore [(4, .int (0)), (3, .int (nI (l))), (0, .ref (80)), (1, .int (nI (j))), (2, .int (u))] d_X10_taken_107 (Nat.le_of_ble_eq_true rfl) rfl ?_
              refine wp_iload 0 d_X10_taken_109 rfl ?_
              refine wp_if_eq 123 d_X10_taken_111 rfl (fun _ => ?_) (fun z => absurd z (by decide))
              refine wp_bipush (v0 := -13) d_X10_taken_123 (by decide) ?_
              refine wp_reti d_X10_taken_125 rfl ?_
              refine ⟨rfl, Or.inr ⟨j, hj, rfl, ?_, ?_⟩⟩
              · first | exact Or.inl zc16 | exact Or.inr zc30
              · first
                  | exact Or.inr (Or.inl ⟨hno, zc52, congrArg (fun z => some (Value.int z)) (Eq.symm (if_pos zc99))⟩)
                  | exact Or.inr (Or.inl ⟨hno, zc52, congrArg (fun z => some (Value.int z)) (Eq.symm (if_neg zc99))⟩)
                  | exact Or.inr (Or.inr ⟨l, hs1, hl1, hl, congrArg (fun z => some (Value.int z)) ((hl1).trans (Eq.symm (if_pos ⟨Int32.not_le.mp zc65, zc78⟩)))⟩)
                  | exact Or.inr (Or.inr ⟨l, hs1, hl1, hl, congrArg (fun z => some (Value.int z)) (Eq.symm (if_neg (fun q9 => zc78 q9.2)))⟩)
                  | exact Or.inr (Or.inr ⟨l, hs1, hl1, hl, congrArg (fun z => some (Value.int z)) (Eq.symm (if_neg (fun q9 => absurd zc65 (Int32.not_le.mpr q9.1))))⟩)
            · refine wp_iconst (v0 := 1) d_X10_taken_81 rfl ?_
              refine wp_goto 107 d_X10_taken_82 rfl ?_
              refine wp_istore [(4, .int (1)), (3, .int (nI (l))), (0, .ref (80)), (1, .int (nI (j))), (2, .int (u))] d_X10_taken_107 (Nat.le_of_ble_eq_true rfl) rfl ?_
              refine wp_iload 0 d_X10_taken_109 rfl ?_
              refine wp_if_eq 123 d_X10_taken_111 rfl (fun z => absurd z (by decide)) (fun _ => ?_)
              refine wp_aload_n 2 d_X10_taken_114 rfl rfl ?_
              refine wp_getfield (v := .ref (99)) d_X10_taken_115 gf_X10_65 (hp_80 _ _ _ _ _) rfl ?_
              refine wp_iload_n 3 d_X10_taken_118 rfl rfl ?_
              refine wp_iaload (v := (m.2.1 99) (j)) d_X10_taken_119 (hp_99 _ _ _ _ _) (vp_in_nI (by omega) (by omega)) (congrArg ((m.2.1 99)) (nI_clamp (by omega))) ?_
              refine wp_goto 125 d_X10_taken_120 rfl ?_
              refine wp_reti d_X10_taken_125 rfl ?_
              refine ⟨rfl, Or.inr ⟨j, hj, rfl, ?_, ?_⟩⟩
              · first | exact Or.inl zc16 | exact Or.inr zc30
              · first
                  | exact Or.inr (Or.inl ⟨hno, zc52, congrArg (fun z => some (Value.int z)) (Eq.symm (if_pos zc99))⟩)
                  | exact Or.inr (Or.inl ⟨hno, zc52, congrArg (fun z => some (Value.int z)) (Eq.symm (if_neg zc99))⟩)
                  | exact Or.inr (Or.inr ⟨l, hs1, hl1, hl, congrArg (fun z => some (Value.int z)) ((hl1).trans (Eq.symm (if_pos ⟨Int32.not_le.mp zc65, zc78⟩)))⟩)
                  | exact Or.inr (Or.inr ⟨l, hs1, hl1, hl, congrArg (fun z => some (Value.int z)) (Eq.symm (if_neg (fun q9 => zc78 q9.2)))⟩)
                  | exact Or.inr (Or.inr ⟨l, hs1, hl1, hl, congrArg (fun z => some (Value.int z)) (Eq.symm (if_neg (fun q9 => absurd zc65 (Int32.not_le.mpr q9.1))))⟩)
      · refine wp_iconst (v0 := -1) d_X10_taken_33 rfl ?_
        refine wp_reti d_X10_taken_34 rfl ?_
        refine ⟨rfl, Or.inl ⟨?_, rfl⟩⟩
        rintro ⟨q1, q2⟩
        first | exact zc4 q1 | exact q2.elim zc16 zc30
theorem s_X10_act {X : kX} {d : Nat} {c w m v : kZ} {E : kH} {n : Nat} (hn : m.2.1 81 0 = nI n) (hn9 : n ≤ 9) (hk : ∀ j, j < n → 1 ≤ (m.2.1 81 (9 + 4 * j + 0)).toInt ∧ (m.2.1 81 (9 + 4 * j + 0)).toInt ≤ 5) (s u x : Int32) : WP X (d + 8) 0 0 Y_X10_act 0 [(0, .ref (80)), (1, .int (s)), (2, .int (u)), (3, .int (x))] [] (HP c w m v E) (fun r h1 => (¬ ((0 ≤ s.toInt ∧ s.toInt ≤ 3) ∧ (0 ≤ u.toInt ∧ u.toInt ≤ 3) ∧ m.2.1 98 s.toNatClampNeg = 1 ∧ (0 ≤ (m.2.1 99 s.toNatClampNeg).toInt ∧ (m.2.1 99 s.toNatClampNeg).toInt < (n : Int))) ∧ r = some (.int 0) ∧ ∃ v1 : kZ, h1 = HP c w (setS m 8038 0) v1 E) ∨ ∃ j q l : Nat, j ≤ 3 ∧ s = nI j ∧ q ≤ 3 ∧ u = nI q ∧ m.2.1 98 j = 1 ∧ m.2.1 99 j = nI l ∧ l < n ∧ (∃ z, r = some (.int z) ∧ (kaP q (m.2.1 81 (9 + 4 * l + 0)) (nI l) (m.2.1 81 (9 + 4 * l + 1)) → z = -15) ∧ (¬ kaP q (m.2.1 81 (9 + 4 * l + 0)) (nI l) (m.2.1 81 (9 + 4 * l + 1)) → z = kaV q (m.2.1 81 (9 + 4 * l + 0)) (nI l) (m.2.1 81 (9 + 4 * l + 1)) x)) ∧ ∃ m1 v1 : kZ, h1 = HP c w m1 v1 E ∧ kTm m m1 (kaB q (m.2.1 81 (9 + 4 * l + 0)) (nI l) (m.2.1 81 (9 + 4 * l + 1)))) := by
  refine wp_aload_n 0 d_X10_act_0 rfl rfl ?_
  refine wp_iconst (v0 := 0) d_X10_act_1 rfl ?_
  refine wp_putfield (h' := HP c w (setS m 8038 (0)) v E) d_X10_act_2 gp_X10_427 (kfit_i _) (hp_80 _ _ _ _ _) (Nat.le_of_ble_eq_true rfl) (hps_80_38 _ _ _ _ _ _) ?_
  refine wp_aload_n 0 d_X10_act_5 rfl rfl ?_
  refine wp_iconst (v0 := 0) d_X10_act_6 rfl ?_
  refine wp_putfield (h' := HP c w (setS m 8038 (0)) (setS v 8042 (0)) E) d_X10_act_7 gp_X10_424 kfit_z0 (hp_80 _ _ _ _ _) (Nat.le_of_ble_eq_true rfl) (hps_80_42 _ _ _ _ _ _) ?_
  refine wp_aload_n 0 d_X10_act_10 rfl rfl ?_
  refine wp_aload_n 0 d_X10_act_11 rfl rfl ?_
  refine wp_iload_n 1 d_X10_act_12 rfl rfl ?_
  refine wp_virtual0 (As := [.int (s)]) d_X10_act_13 lk_X10_421 mv_X10_onShelf in_X10_onShelf se_X10_onShelf (Nat.le_of_ble_eq_true rfl) (Nat.le_of_ble_eq_true rfl) (hp_80 _ _ _ _ _) rfl (s_X10_onShelf (m := (setS m 8038 (0))) (n := n) hn hn9 (s)) (fun v13 h13 q13 => ?_)
  obtain ⟨rfl, ⟨hb9, rfl⟩ | ⟨j, hj, rfl, ⟨hno, rfl⟩ | ⟨l, hs1, hl1, hl, rfl⟩⟩⟩ := q13
  · show WP _ _ _ _ _ 16 _ [.int ((-1)), .ref (80)] (HP c w (setS m 8038 (0)) (setS v 8042 (0)) E) _
    refine wp_putfield (h' := HP c w (setS m 8038 (0)) (setS (setS v 8042 (0)) 8039 ((-1))) E) d_X10_act_16 gp_X10_439 (kfit_i _) (hp_80 _ _ _ _ _) (Nat.le_of_ble_eq_true rfl) (hps_80_39 _ _ _ _ _ _) ?_
    refine wp_aload_n 0 d_X10_act_19 rfl rfl ?_
    refine wp_getfield (v := .int ((-1))) d_X10_act_20 gf_X10_439 (hp_80 _ _ _ _ _) rfl ?_
    refine wp_if_lt 38 d_X10_act_23 rfl (fun _ => ?_) (fun z => absurd z (by decide))
    refine wp_iconst (v0 := 0) d_X10_act_38 rfl ?_
    refine wp_reti d_X10_act_39 rfl ?_
    refine Or.inl ⟨?_, rfl, _, rfl⟩
    rintro ⟨q1, q2, q3⟩
    first
    | exact hb9 q1
    | exact zc35 q2
    | exact hno (by rw [nI_clamp (by omega)] at q3; exact q3)
  · show WP _ _ _ _ _ 16 _ [.int ((-1)), .ref (80)] (HP c w (setS m 8038 (0)) (setS v 8042 (0)) E) _
    refine wp_putfield (h' := HP c w (setS m 8038 (0)) (setS (setS v 8042 (0)) 8039 ((-1))) E) d_X10_act_16 gp_X10_439 (kfit_i _) (hp_80 _ _ _ _ _) (Nat.le_of_ble_eq_true rfl) (hps_80_39 _ _ _ _ _ _) ?_
    refine wp_aload_n 0 d_X10_act_19 rfl rfl ?_
    refine wp_getfield (v := .int ((-1))) d_X10_act_20 gf_X10_439 (hp_80 _ _ _ _ _) rfl ?_
    refine wp_if_lt 38 d_X10_act_23 rfl (fun _ => ?_) (fun z => absurd z (by decide))
    refine wp_iconst (v0 := 0) d_X10_act_38 rfl ?_
    refine wp_reti d_X10_act_39 rfl ?_
    refine Or.inl ⟨?_, rfl, _, rfl⟩
    rintro ⟨q1, q2, q3⟩
    first
    | exact hb9 q1
    | exact zc35 q2
    | exact hno (by rw [nI_clamp (by omega)] at q3; exact q3)
  · show WP _ _ _ _ _ 16 _ [.int (nI (l)), .ref (80)] (HP c w (setS m 8038 (0)) (setS v 8042 (0)) E) _
    refine wp_putfield (h' := HP c w (setS m 8038 (0)) (setS (setS v 8042 (0)) 8039 (nI (l))) E) d_X10_act_16 gp_X10_439 (kfit_i _) (hp_80 _ _ _ _ _) (Nat.le_of_ble_eq_true rfl) (hps_80_39 _ _ _ _ _ _) ?_
    refine wp_aload_n 0 d_X10_act_19 rfl rfl ?_
    refine wp_getfield (v := .int ((nI (l)))) d_X10_act_20 gf_X10_439 (hp_80 _ _ _ _ _) rfl ?_
    refine wp_nif_lt (a := l) 38 d_X10_act_23 rfl (by omega) ?_
    refine wp_iload_n 2 d_X10_act_26 rfl rfl ?_
    refine wp_i2l d_X10_act_27 ?_
    refine wp_lconst (v0 := 0) d_X10_act_28 rfl ?_
    refine wp_ldc2 (v0 := 3) d_X10_act_29 cl_X10_127 ?_
    refine wp_stc_i (As := [.long (Int32.toInt64 (u)), .long (0), .long (3)]) (x0 := kb (0 ≤ (u : Int32).toInt ∧ (u : Int32).toInt ≤ 3)) (h1 := HP c w (setS m 8038 (0)) (setS (setS v 8042 (0)) 8039 (nI (l))) E) d_X10_act_32 lk_X10_74 mv_X10_in st_X10_in (Nat.le_of_ble_eq_true rfl) (Nat.le_of_ble_eq_true rfl) (s_X10_in_i _ (u) (0) (3)) ?_
    refine wp_ifb_ne 40 d_X10_act_35 rfl (fun zc35 => ?_) (fun zc35 => ?_)
    · refine wp_aload_n 0 d_X10_act_40 rfl rfl ?_
      refine wp_aload_n 0 d_X10_act_41 rfl rfl ?_
      refine wp_aload_n 0 d_X10_act_42 rfl rfl ?_
      refine wp_getfield (v := .int ((nI (l)))) d_X10_act_43 gf_X10_439 (hp_80 _ _ _ _ _) rfl ?_
      refine wp_iconst (v0 := 1) d_X10_act_46 rfl ?_
      refine wp_vrt_i (As := [.int ((nI (l))), .int (1)]) (x0 := (m.2.1 81) (9 + 4 * (l) + (1))) (h1 := HP c w (setS m 8038 (0)) (setS (setS v 8042 (0)) 8039 (nI (l))) E) d_X10_act_47 lk_X10_98 mv_X10_its in_X10_its se_X10_its (Nat.le_of_ble_eq_true rfl) (Nat.le_of_ble_eq_true rfl) (hp_80 _ _ _ _ _) rfl (s_X10_its (j := l) (u := 1) (by omega) (by omega)) ?_
      refine wp_putfield (h' := HP c w (setS m 8038 (0)) (setS (setS (setS v 8042 (0)) 8039 (nI (l))) 8040 ((m.2.1 81) (9 + 4 * (l) + (1)))) E) d_X10_act_50 gp_X10_436 (kfit_i _) (hp_80 _ _ _ _ _) (Nat.le_of_ble_eq_true rfl) (hps_80_40 _ _ _ _ _ _) ?_
      refine wp_aload_n 0 d_X10_act_53 rfl rfl ?_
      refine wp_aload_n 0 d_X10_act_54 rfl rfl ?_
      refine wp_aload_n 0 d_X10_act_55 rfl rfl ?_
      refine wp_getfield (v := .int ((nI (l)))) d_X10_act_56 gf_X10_439 (hp_80 _ _ _ _ _) rfl ?_
      refine wp_iconst (v0 := 0) d_X10_act_59 rfl ?_
      refine wp_vrt_i (As := [.int ((nI (l))), .int (0)]) (x0 := (m.2.1 81) (9 + 4 * (l) + (0))) (h1 := HP c w (setS m 8038 (0)) (setS (setS (setS v 8042 (0)) 8039 (nI (l))) 8040 ((m.2.1 81) (9 + 4 * (l) + (1)))) E) d_X10_act_60 lk_X10_98 mv_X10_its in_X10_its se_X10_its (Nat.le_of_ble_eq_true rfl) (Nat.le_of_ble_eq_true rfl) (hp_80 _ _ _ _ _) rfl (s_X10_its (j := l) (u := 0) (by omega) (by omega)) ?_
      refine wp_putfield (h' := HP c w (setS m 8038 (0)) (setS (setS (setS (setS v 8042 (0)) 8039 (nI (l))) 8040 ((m.2.1 81) (9 + 4 * (l) + (1)))) 8041 ((m.2.1 81) (9 + 4 * (l) + (0)))) E) d_X10_act_63 gp_X10_430 (kfit_i _) (hp_80 _ _ _ _ _) (Nat.le_of_ble_eq_true rfl) (hps_80_41 _ _ _ _ _ _) ?_
      refine wp_iload_n 2 d_X10_act_66 rfl rfl ?_
      refine wp_if_ne 78 d_X10_act_67 rfl (fun zc67 => ?_) (fun zc67 => ?_)
      · refine wp_iload_n 2 d_X10_act_78 rfl rfl ?_
        refine wp_iconst (v0 := 1) d_X10_act_79 rfl ?_
        refine wp_icmp_ne 91 d_X10_act_80 rfl (fun zc80 => ?_) (fun zc80 => ?_)
        · refine wp_iload_n 2 d_X10_act_91 rfl rfl ?_
          refine wp_iconst (v0 := 2) d_X10_act_92 rfl ?_
          refine wp_icmp_ne 104 d_X10_act_93 rfl (fun zc93 => ?_) (fun zc93 => ?_)
          · have hu3 : u = nI 3 := by
              obtain ⟨y9, hy9, ey9⟩ := k_natle (n := 3) zc35
              subst ey9
              rcases (by omega : y9 = 0 ∨ y9 = 1 ∨ y9 = 2 ∨ y9 = 3) with e | e | e | e <;> subst e
              · exact absurd rfl zc67
              · exact absurd rfl zc80
              · exact absurd rfl zc93
              · rfl
            refine wp_aload_n 0 d_X10_act_104 rfl rfl ?_
            refine wp_iload_n 3 d_X10_act_105 rfl rfl ?_
            have hT0 : kTm m (setS m 8038 0) [] := ⟨fun k9 h9 => upd_n _ _ h9, fun _ _ => rfl, rfl, rfl, fun i9 h9 => absurd h9 (by simp)⟩
            refine wp_virtual0 (As := [.int (x)]) d_X10_act_106 lk_X10_454 mv_X10_tells in_X10_tells se_X10_tells (Nat.le_of_ble_eq_true rfl) (Nat.le_of_ble_eq_true rfl) (hp_80 _ _ _ _ _) rfl (s_X10_tells (z0 := m) (L := []) (K := (m.2.1 81 (9 + 4 * l + 0))) (n := nI l) (a := (m.2.1 81 (9 + 4 * l + 1))) (m := (setS m 8038 (0))) (v := (setS (setS (setS (setS v 8042 (0)) 8039 (nI (l))) 8040 ((m.2.1 81) (9 + 4 * (l) + (1)))) 8041 ((m.2.1 81) (9 + 4 * (l) + (0))))) hT0 (by decide) (hk l hl) ⟨rfl, rfl, rfl, rfl⟩ (x)) (fun v106 h106 q106 => ?_)
            obtain ⟨zz, hz, ⟨hnp, rfl, rfl⟩ | ⟨hpp, ⟨yy, rfl⟩, rfl⟩⟩ := q106
            · show WP _ _ _ _ _ 109 _ [.int (kaV 3 (m.2.1 81 (9 + 4 * l + 0)) (nI l) (m.2.1 81 (9 + 4 * l + 1)) (x))] (HP c w zz (setS (setS (setS (setS v 8042 (0)) 8039 (nI (l))) 8040 ((m.2.1 81) (9 + 4 * (l) + (1)))) 8041 ((m.2.1 81) (9 + 4 * (l) + (0)))) E) _
              refine wp_istore [(4, .int (kaV 3 (m.2.1 81 (9 + 4 * l + 0)) (nI l) (m.2.1 81 (9 + 4 * l + 1)) (x))), (0, .ref (80)), (1, .int (nI (j))), (2, .int (u)), (3, .int (x))] d_X10_act_109 (Nat.le_of_ble_eq_true rfl) rfl ?_
              refine wp_aload_n 1 d_X10_act_111 rfl rfl ?_
              refine wp_getfield (v := .int (0)) d_X10_act_112 gf_X10_424 (hp_80 _ _ _ _ _) rfl ?_
              refine wp_if_eq 123 d_X10_act_115 rfl (fun _ => ?_) (fun z => absurd z (by decide))
              refine wp_iload 0 d_X10_act_123 rfl ?_
              refine wp_reti d_X10_act_125 rfl ?_
              exact Or.inr ⟨j, 3, l, hj, rfl, by decide, hu3, hs1, hl1, hl, ⟨_, rfl, fun q9 => absurd q9 hnp, fun _ => rfl⟩, _, _, rfl, by simpa using hz⟩
            · show WP _ _ _ _ _ 109 _ [.int (yy)] (HP c w zz (setS (setS (setS (setS (setS v 8042 (0)) 8039 (nI (l))) 8040 ((m.2.1 81) (9 + 4 * (l) + (1)))) 8041 ((m.2.1 81) (9 + 4 * (l) + (0)))) 8042 (1)) E) _
              refine wp_istore [(4, .int (yy)), (0, .ref (80)), (1, .int (nI (j))), (2, .int (u)), (3, .int (x))] d_X10_act_109 (Nat.le_of_ble_eq_true rfl) rfl ?_
              refine wp_aload_n 1 d_X10_act_111 rfl rfl ?_
              refine wp_getfield (v := .int (1)) d_X10_act_112 gf_X10_424 (hp_80 _ _ _ _ _) rfl ?_
              refine wp_if_eq 123 d_X10_act_115 rfl (fun z => absurd z (by decide)) (fun _ => ?_)
              refine wp_bipush (v0 := -15) d_X10_act_118 (by decide) ?_
              refine wp_goto 125 d_X10_act_120 rfl ?_
              refine wp_reti d_X10_act_125 rfl ?_
              exact Or.inr ⟨j, 3, l, hj, rfl, by decide, hu3, hs1, hl1, hl, ⟨_, rfl, fun _ => rfl, fun q9 => absurd hpp q9⟩, _, _, rfl, by simpa using hz⟩
          · refine wp_aload_n 0 d_X10_act_96 rfl rfl ?_
            refine wp_iload_n 3 d_X10_act_97 rfl rfl ?_
            have hT0 : kTm m (setS m 8038 0) [] := ⟨fun k9 h9 => upd_n _ _ h9, fun _ _ => rfl, rfl, rfl, fun i9 h9 => absurd h9 (by simp)⟩
            refine wp_virtual0 (As := [.int (x)]) d_X10_act_98 lk_X10_451 mv_X10_parts in_X10_parts se_X10_parts (Nat.le_of_ble_eq_true rfl) (Nat.le_of_ble_eq_true rfl) (hp_80 _ _ _ _ _) rfl (s_X10_parts (z0 := m) (L := []) (K := (m.2.1 81 (9 + 4 * l + 0))) (n := nI l) (a := (m.2.1 81 (9 + 4 * l + 1))) (m := (setS m 8038 (0))) (v := (setS (setS (setS (setS v 8042 (0)) 8039 (nI (l))) 8040 ((m.2.1 81) (9 + 4 * (l) + (1)))) 8041 ((m.2.1 81) (9 + 4 * (l) + (0))))) hT0 (by decide) (hk l hl) ⟨rfl, rfl, rfl, rfl⟩ (x)) (fun v98 h98 q98 => ?_)
            obtain ⟨zz, hz, ⟨hnp, rfl, rfl⟩ | ⟨hpp, ⟨yy, rfl⟩, rfl⟩⟩ := q98
            · show WP _ _ _ _ _ 101 _ [.int (kaV 2 (m.2.1 81 (9 + 4 * l + 0)) (nI l) (m.2.1 81 (9 + 4 * l + 1)) (x))] (HP c w zz (setS (setS (setS (setS v 8042 (0)) 8039 (nI (l))) 8040 ((m.2.1 81) (9 + 4 * (l) + (1)))) 8041 ((m.2.1 81) (9 + 4 * (l) + (0)))) E) _
              refine wp_goto 109 d_X10_act_101 rfl ?_
              refine wp_istore [(4, .int (kaV 2 (m.2.1 81 (9 + 4 * l + 0)) (nI l) (m.2.1 81 (9 + 4 * l + 1)) (x))), (0, .ref (80)), (1, .int (nI (j))), (2, .int (u)), (3, .int (x))] d_X10_act_109 (Nat.le_of_ble_eq_true rfl) rfl ?_
              refine wp_aload_n 1 d_X10_act_111 rfl rfl ?_
              refine wp_getfield (v := .int (0)) d_X10_act_112 gf_X10_424 (hp_80 _ _ _ _ _) rfl ?_
              refine wp_if_eq 123 d_X10_act_115 rfl (fun _ => ?_) (fun z => absurd z (by decide))
              refine wp_iload 0 d_X10_act_123 rfl ?_
              refine wp_reti d_X10_act_125 rfl ?_
              exact Or.inr ⟨j, 2, l, hj, rfl, by decide, zc93, hs1, hl1, hl, ⟨_, rfl, fun q9 => absurd q9 hnp, fun _ => rfl⟩, _, _, rfl, by simpa using hz⟩
            · show WP _ _ _ _ _ 101 _ [.int (yy)] (HP c w zz (setS (setS (setS (setS (setS v 8042 (0)) 8039 (nI (l))) 8040 ((m.2.1 81) (9 + 4 * (l) + (1)))) 8041 ((m.2.1 81) (9 + 4 * (l) + (0)))) 8042 (1)) E) _
              refine wp_goto 109 d_X10_act_101 rfl ?_
              refine wp_istore [(4, .int (yy)), (0, .ref (80)), (1, .int (nI (j))), (2, .int (u)), (3, .int (x))] d_X10_act_109 (Nat.le_of_ble_eq_true rfl) rfl ?_
              refine wp_aload_n 1 d_X10_act_111 rfl rfl ?_
              refine wp_getfield (v := .int (1)) d_X10_act_112 gf_X10_424 (hp_80 _ _ _ _ _) rfl ?_
              refine wp_if_eq 123 d_X10_act_115 rfl (fun z => absurd z (by decide)) (fun _ => ?_)
              refine wp_bipush (v0 := -15) d_X10_act_118 (by decide) ?_
              refine wp_goto 125 d_X10_act_120 rfl ?_
              refine wp_reti d_X10_act_125 rfl ?_
              exact Or.inr ⟨j, 2, l, hj, rfl, by decide, zc93, hs1, hl1, hl, ⟨_, rfl, fun _ => rfl, fun q9 => absurd hpp q9⟩, _, _, rfl, by simpa using hz⟩
        · refine wp_aload_n 0 d_X10_act_83 rfl rfl ?_
          refine wp_iload_n 3 d_X10_act_84 rfl rfl ?_
          have hT0 : kTm m (setS m 8038 0) [] := ⟨fun k9 h9 => upd_n _ _ h9, fun _ _ => rfl, rfl, rfl, fun i9 h9 => absurd h9 (by simp)⟩
          refine wp_virtual0 (As := [.int (x)]) d_X10_act_85 lk_X10_448 mv_X10_widens in_X10_widens se_X10_widens (Nat.le_of_ble_eq_true rfl) (Nat.le_of_ble_eq_true rfl) (hp_80 _ _ _ _ _) rfl (s_X10_widens (z0 := m) (L := []) (K := (m.2.1 81 (9 + 4 * l + 0))) (n := nI l) (a := (m.2.1 81 (9 + 4 * l + 1))) (m := (setS m 8038 (0))) (v := (setS (setS (setS (setS v 8042 (0)) 8039 (nI (l))) 8040 ((m.2.1 81) (9 + 4 * (l) + (1)))) 8041 ((m.2.1 81) (9 + 4 * (l) + (0))))) hT0 (by decide) (hk l hl) ⟨rfl, rfl, rfl, rfl⟩ (x)) (fun v85 h85 q85 => ?_)
          obtain ⟨zz, hz, ⟨hnp, rfl, rfl⟩ | ⟨hpp, ⟨yy, rfl⟩, rfl⟩⟩ := q85
          · show WP _ _ _ _ _ 88 _ [.int (kaV 1 (m.2.1 81 (9 + 4 * l + 0)) (nI l) (m.2.1 81 (9 + 4 * l + 1)) (x))] (HP c w zz (setS (setS (setS (setS v 8042 (0)) 8039 (nI (l))) 8040 ((m.2.1 81) (9 + 4 * (l) + (1)))) 8041 ((m.2.1 81) (9 + 4 * (l) + (0)))) E) _
            refine wp_goto 109 d_X10_act_88 rfl ?_
            refine wp_istore [(4, .int (kaV 1 (m.2.1 81 (9 + 4 * l + 0)) (nI l) (m.2.1 81 (9 + 4 * l + 1)) (x))), (0, .ref (80)), (1, .int (nI (j))), (2, .int (u)), (3, .int (x))] d_X10_act_109 (Nat.le_of_ble_eq_true rfl) rfl ?_
            refine wp_aload_n 1 d_X10_act_111 rfl rfl ?_
            refine wp_getfield (v := .int (0)) d_X10_act_112 gf_X10_424 (hp_80 _ _ _ _ _) rfl ?_
            refine wp_if_eq 123 d_X10_act_115 rfl (fun _ => ?_) (fun z => absurd z (by decide))
            refine wp_iload 0 d_X10_act_123 rfl ?_
            refine wp_reti d_X10_act_125 rfl ?_
            exact Or.inr ⟨j, 1, l, hj, rfl, by decide, zc80, hs1, hl1, hl, ⟨_, rfl, fun q9 => absurd q9 hnp, fun _ => rfl⟩, _, _, rfl, by simpa using hz⟩
          · show WP _ _ _ _ _ 88 _ [.int (yy)] (HP c w zz (setS (setS (setS (setS (setS v 8042 (0)) 8039 (nI (l))) 8040 ((m.2.1 81) (9 + 4 * (l) + (1)))) 8041 ((m.2.1 81) (9 + 4 * (l) + (0)))) 8042 (1)) E) _
            refine wp_goto 109 d_X10_act_88 rfl ?_
            refine wp_istore [(4, .int (yy)), (0, .ref (80)), (1, .int (nI (j))), (2, .int (u)), (3, .int (x))] d_X10_act_109 (Nat.le_of_ble_eq_true rfl) rfl ?_
            refine wp_aload_n 1 d_X10_act_111 rfl rfl ?_
            refine wp_getfield (v := .int (1)) d_X10_act_112 gf_X10_424 (hp_80 _ _ _ _ _) rfl ?_
            refine wp_if_eq 123 d_X10_act_115 rfl (fun z => absurd z (by decide)) (fun _ => ?_)
            refine wp_bipush (v0 := -15) d_X10_act_118 (by decide) ?_
            refine wp_goto 125 d_X10_act_120 rfl ?_
            refine wp_reti d_X10_act_125 rfl ?_
            exact Or.inr ⟨j, 1, l, hj, rfl, by decide, zc80, hs1, hl1, hl, ⟨_, rfl, fun _ => rfl, fun q9 => absurd hpp q9⟩, _, _, rfl, by simpa using hz⟩
      · refine wp_aload_n 0 d_X10_act_70 rfl rfl ?_
        refine wp_iload_n 3 d_X10_act_71 rfl rfl ?_
        have hT0 : kTm m (setS m 8038 0) [] := ⟨fun k9 h9 => upd_n _ _ h9, fun _ _ => rfl, rfl, rfl, fun i9 h9 => absurd h9 (by simp)⟩
        refine wp_virtual0 (As := [.int (x)]) d_X10_act_72 lk_X10_442 mv_X10_dims in_X10_dims se_X10_dims (Nat.le_of_ble_eq_true rfl) (Nat.le_of_ble_eq_true rfl) (hp_80 _ _ _ _ _) rfl (s_X10_dims (z0 := m) (L := []) (K := (m.2.1 81 (9 + 4 * l + 0))) (n := nI l) (a := (m.2.1 81 (9 + 4 * l + 1))) (m := (setS m 8038 (0))) (v := (setS (setS (setS (setS v 8042 (0)) 8039 (nI (l))) 8040 ((m.2.1 81) (9 + 4 * (l) + (1)))) 8041 ((m.2.1 81) (9 + 4 * (l) + (0))))) hT0 (by decide) (hk l hl) ⟨rfl, rfl, rfl, rfl⟩ (x)) (fun v72 h72 q72 => ?_)
        obtain ⟨zz, hz, ⟨hnp, rfl, rfl⟩ | ⟨hpp, ⟨yy, rfl⟩, rfl⟩⟩ := q72
        · show WP _ _ _ _ _ 75 _ [.int (kaV 0 (m.2.1 81 (9 + 4 * l + 0)) (nI l) (m.2.1 81 (9 + 4 * l + 1)) (x))] (HP c w zz (setS (setS (setS (setS v 8042 (0)) 8039 (nI (l))) 8040 ((m.2.1 81) (9 + 4 * (l) + (1)))) 8041 ((m.2.1 81) (9 + 4 * (l) + (0)))) E) _
          refine wp_goto 109 d_X10_act_75 rfl ?_
          refine wp_istore [(4, .int (kaV 0 (m.2.1 81 (9 + 4 * l + 0)) (nI l) (m.2.1 81 (9 + 4 * l + 1)) (x))), (0, .ref (80)), (1, .int (nI (j))), (2, .int (u)), (3, .int (x))] d_X10_act_109 (Nat.le_of_ble_eq_true rfl) rfl ?_
          refine wp_aload_n 1 d_X10_act_111 rfl rfl ?_
          refine wp_getfield (v := .int (0)) d_X10_act_112 gf_X10_424 (hp_80 _ _ _ _ _) rfl ?_
          refine wp_if_eq 123 d_X10_act_115 rfl (fun _ => ?_) (fun z => absurd z (by decide))
          refine wp_iload 0 d_X10_act_123 rfl ?_
          refine wp_reti d_X10_act_125 rfl ?_
          exact Or.inr ⟨j, 0, l, hj, rfl, by decide, zc67, hs1, hl1, hl, ⟨_, rfl, fun q9 => absurd q9 hnp, fun _ => rfl⟩, _, _, rfl, by simpa using hz⟩
        · show WP _ _ _ _ _ 75 _ [.int (yy)] (HP c w zz (setS (setS (setS (setS (setS v 8042 (0)) 8039 (nI (l))) 8040 ((m.2.1 81) (9 + 4 * (l) + (1)))) 8041 ((m.2.1 81) (9 + 4 * (l) + (0)))) 8042 (1)) E) _
          refine wp_goto 109 d_X10_act_75 rfl ?_
          refine wp_istore [(4, .int (yy)), (0, .ref (80)), (1, .int (nI (j))), (2, .int (u)), (3, .int (x))] d_X10_act_109 (Nat.le_of_ble_eq_true rfl) rfl ?_
          refine wp_aload_n 1 d_X10_act_111 rfl rfl ?_
          refine wp_getfield (v := .int (1)) d_X10_act_112 gf_X10_424 (hp_80 _ _ _ _ _) rfl ?_
          refine wp_if_eq 123 d_X10_act_115 rfl (fun z => absurd z (by decide)) (fun _ => ?_)
          refine wp_bipush (v0 := -15) d_X10_act_118 (by decide) ?_
          refine wp_goto 125 d_X10_act_120 rfl ?_
          refine wp_reti d_X10_act_125 rfl ?_
          exact Or.inr ⟨j, 0, l, hj, rfl, by decide, zc67, hs1, hl1, hl, ⟨_, rfl, fun _ => rfl, fun q9 => absurd hpp q9⟩, _, _, rfl, by simpa using hz⟩
    · refine wp_iconst (v0 := 0) d_X10_act_38 rfl ?_
      refine wp_reti d_X10_act_39 rfl ?_
      refine Or.inl ⟨?_, rfl, _, rfl⟩
      rintro ⟨q1, q2, q3⟩
      first
      | exact hb9 q1
      | exact zc35 q2
      | exact hno (by rw [nI_clamp (by omega)] at q3; exact q3)
