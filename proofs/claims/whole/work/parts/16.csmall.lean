/-! ===== the tube, reports, lots, rows, kept: small calls of the class ===== -/
theorem s_X9_fit {X : kX} {d : Nat} {c w m v : kZ} {E : kH} {n : Nat} (hn : c.1 100 = nI n) (hn9 : n ≤ 9) {p : Nat} (hp : c.1 107 = nI p) (hp4 : p ≤ 4) (l t : Int32) : WP X (d + 2) 0 0 Y_X9_fit 0 [(0, .ref (0)), (1, .int (l)), (2, .int (t))] [] (HP c w m v E) (fun r h1 => (¬ ((0 ≤ l.toInt ∧ l.toInt < (n : Int)) ∧ (0 ≤ t.toInt ∧ t.toInt ≤ 3)) ∧ r = some (.int (-1)) ∧ h1 = HP c w m v E) ∨ (((0 ≤ l.toInt ∧ l.toInt < (n : Int)) ∧ (0 ≤ t.toInt ∧ t.toInt ≤ 3)) ∧ p = 4 ∧ r = some (.int (-2)) ∧ h1 = HP c w m v E) ∨ (((0 ≤ l.toInt ∧ l.toInt < (n : Int)) ∧ (0 ≤ t.toInt ∧ t.toInt ≤ 3)) ∧ p < 4 ∧ kfi (c.2.1 9) l p 0 ≠ -9 ∧ r = some (.int (-4)) ∧ h1 = HP c w m v E) ∨ (((0 ≤ l.toInt ∧ l.toInt < (n : Int)) ∧ (0 ≤ t.toInt ∧ t.toInt ≤ 3)) ∧ p < 4 ∧ kfi (c.2.1 9) l p 0 = -9 ∧ r = some (.int (nI p)) ∧ h1 = HP (setS (setA (setA c 9 (upd (c.2.1 9) p l)) 10 (upd (c.2.1 10) p t)) 107 (nI (p + 1))) w m v E)) := by
  refine wp_aload_n 0 d_X9_fit_0 rfl rfl ?_
  refine wp_getfield (v := .ref (1)) d_X9_fit_1 gf_X9_12 (hp_0 _ _ _ _ _) rfl ?_
  refine wp_iload_n 1 d_X9_fit_4 rfl rfl ?_
  refine wp_vrt_i (As := [.int (l)]) (x0 := kb (0 ≤ ((l) : Int32).toInt ∧ ((l) : Int32).toInt < (n : Int))) (h1 := HP c w m v E) d_X9_fit_5 lk_X9_118 mv_X1_hasLens in_X1_hasLens se_X1_hasLens (Nat.le_of_ble_eq_true rfl) (Nat.le_of_ble_eq_true rfl) (hp_1 _ _ _ _ _) rfl (s_X1_hasLens hn (by omega) (l)) ?_
  refine wp_ifb_eq 18 d_X9_fit_8 rfl (fun c8 => ?_) (fun c8 => ?_)
  · refine wp_iconst (v0 := -1) d_X9_fit_18 rfl ?_
    refine wp_reti d_X9_fit_19 rfl ?_
    exact Or.inl ⟨by omega, rfl, rfl⟩
  · refine wp_iload_n 2 d_X9_fit_11 rfl rfl ?_
    refine wp_stc_i (As := [.int (t)]) (x0 := kb (0 ≤ (t : Int32).toInt ∧ (t : Int32).toInt ≤ 3)) (h1 := HP c w m v E) d_X9_fit_12 lk_X9_188 mv_X9_isTurn st_X9_isTurn (Nat.le_of_ble_eq_true rfl) (Nat.le_of_ble_eq_true rfl) (s_X9_isTurn _ (t : Int32)) ?_
    refine wp_ifb_ne 20 d_X9_fit_15 rfl (fun c15 => ?_) (fun c15 => ?_)
    · refine wp_aload_n 0 d_X9_fit_20 rfl rfl ?_
      refine wp_getfield (v := .ref (1)) d_X9_fit_21 gf_X9_12 (hp_0 _ _ _ _ _) rfl ?_
      refine wp_getfield (v := .int (nI (p))) d_X9_fit_24 gf_X9_191 (hp_1 _ _ _ _ _) (congrArg (fun z => some (Value.int z)) hp) ?_
      refine wp_iconst (v0 := 4) d_X9_fit_27 rfl ?_
      refine wp_ncmp_lt (a := p) (b := 4) 34 d_X9_fit_28 rfl (by omega) (by omega) (fun c28 => ?_) (fun c28 => ?_)
      · refine wp_aload_n 0 d_X9_fit_34 rfl rfl ?_
        refine wp_getfield (v := .ref (1)) d_X9_fit_35 gf_X9_12 (hp_0 _ _ _ _ _) rfl ?_
        refine wp_iload_n 1 d_X9_fit_38 rfl rfl ?_
        refine wp_vrt_i (As := [.int (l)]) (x0 := kfi (c.2.1 9) (l) p 0) (h1 := HP c w m v E) d_X9_fit_39 lk_X9_128 mv_X1_placeOf in_X1_placeOf se_X1_placeOf (Nat.le_of_ble_eq_true rfl) (Nat.le_of_ble_eq_true rfl) (hp_1 _ _ _ _ _) rfl (s_X1_placeOf hp (by omega) (l)) ?_
        refine wp_bipush (v0 := -9) d_X9_fit_42 (by decide) ?_
        refine wp_icmp_eq 50 d_X9_fit_44 rfl (fun c44 => ?_) (fun c44 => ?_)
        · refine wp_aload_n 0 d_X9_fit_50 rfl rfl ?_
          refine wp_getfield (v := .ref (1)) d_X9_fit_51 gf_X9_12 (hp_0 _ _ _ _ _) rfl ?_
          refine wp_getfield (v := .int (nI (p))) d_X9_fit_54 gf_X9_191 (hp_1 _ _ _ _ _) (congrArg (fun z => some (Value.int z)) hp) ?_
          refine wp_istore_n [(3, .int (nI (p))), (0, .ref (0)), (1, .int (l)), (2, .int (t))] d_X9_fit_57 rfl (Nat.le_of_ble_eq_true rfl) rfl ?_
          refine wp_aload_n 1 d_X9_fit_58 rfl rfl ?_
          refine wp_getfield (v := .ref (1)) d_X9_fit_59 gf_X9_12 (hp_0 _ _ _ _ _) rfl ?_
          refine wp_getfield (v := .ref (9)) d_X9_fit_62 gf_X9_194 (hp_1 _ _ _ _ _) rfl ?_
          refine wp_iload_n 0 d_X9_fit_65 rfl rfl ?_
          refine wp_iload_n 2 d_X9_fit_66 rfl rfl ?_
          refine wp_iastore (h' := HP (setA c 9 (upd (c.2.1 9) (p) (l))) w m v E) d_X9_fit_67 (hp_9 _ _ _ _ _) (vp_in_nI (by omega) (by omega)) (by rw [nI_clamp (by omega)]; exact (hpa_9 _ _ _ _ _ _)) ?_
          refine wp_aload_n 1 d_X9_fit_68 rfl rfl ?_
          refine wp_getfield (v := .ref (1)) d_X9_fit_69 gf_X9_12 (hp_0 _ _ _ _ _) rfl ?_
          refine wp_getfield (v := .ref (10)) d_X9_fit_72 gf_X9_197 (hp_1 _ _ _ _ _) rfl ?_
          refine wp_iload_n 0 d_X9_fit_75 rfl rfl ?_
          refine wp_iload_n 3 d_X9_fit_76 rfl rfl ?_
          refine wp_iastore (h' := HP (setA (setA c 9 (upd (c.2.1 9) (p) (l))) 10 (upd (c.2.1 10) (p) (t))) w m v E) d_X9_fit_77 (hp_10 _ _ _ _ _) (vp_in_nI (by omega) (by omega)) (by rw [nI_clamp (by omega)]; exact (hpa_10 _ _ _ _ _ _)) ?_
          refine wp_aload_n 1 d_X9_fit_78 rfl rfl ?_
          refine wp_getfield (v := .ref (1)) d_X9_fit_79 gf_X9_12 (hp_0 _ _ _ _ _) rfl ?_
          refine wp_dup d_X9_fit_82 rfl ?_
          refine wp_getfield (v := .int (nI (p))) d_X9_fit_83 gf_X9_191 (hp_1 _ _ _ _ _) (congrArg (fun z => some (Value.int z)) hp) ?_
          refine wp_iconst (v0 := 1) d_X9_fit_86 rfl ?_
          refine wp_iadd d_X9_fit_87 ?_
          refine wp_v (v0 := nI ((p) + (1))) (nI_add (p) (1)) ?_
          refine wp_putfield (h' := HP (setS (setA (setA c 9 (upd (c.2.1 9) (p) (l))) 10 (upd (c.2.1 10) (p) (t))) 107 (nI ((p) + (1)))) w m v E) d_X9_fit_88 gp_X9_191 (kfit_i _) (hp_1 _ _ _ _ _) (Nat.le_of_ble_eq_true rfl) (hps_1_7 _ _ _ _ _ _) ?_
          refine wp_iload_n 0 d_X9_fit_91 rfl rfl ?_
          refine wp_reti d_X9_fit_92 rfl ?_
          exact Or.inr (Or.inr (Or.inr ⟨by omega, by omega, c44, rfl, rfl⟩))
        · refine wp_bipush (v0 := -4) d_X9_fit_47 (by decide) ?_
          refine wp_reti d_X9_fit_49 rfl ?_
          exact Or.inr (Or.inr (Or.inl ⟨by omega, by omega, c44, rfl, rfl⟩))
      · refine wp_bipush (v0 := -2) d_X9_fit_31 (by decide) ?_
        refine wp_reti d_X9_fit_33 rfl ?_
        exact Or.inr (Or.inl ⟨by omega, by omega, rfl, rfl⟩)
    · refine wp_iconst (v0 := -1) d_X9_fit_18 rfl ?_
      refine wp_reti d_X9_fit_19 rfl ?_
      exact Or.inl ⟨by omega, rfl, rfl⟩
theorem s_X9_take_l {X : kX} {d : Nat} {c w m v : kZ} {E : kH} {p : Nat} (hp : c.1 107 = nI p) (hp4 : p ≤ 4) {j : Nat} (hj : j < p) : ∀ (k : Nat) (i : Nat), (i + k = p) → (j + 1 ≤ i) → WP X d 0 0 Y_X9_take 27 [(3, .int (nI (i))), (2, .int ((c.2.1 9) (j))), (0, .ref (0))] [] (HP (setA (setA c 9 (ksh (c.2.1 9) j i)) 10 (ksh (c.2.1 10) j i)) w m v E) (kR (some (.int ((c.2.1 9) (j)))) (HP (setS (setA (setA c 9 (ksh (c.2.1 9) j p)) 10 (ksh (c.2.1 10) j p)) 107 (nI (p - 1))) w m v E)) := by
  intro k
  induction k using Nat.strongRecOn with
  | ind k ih =>
    intro i hi hj1
    refine wp_iload_n 0 d_X9_take_27 rfl rfl ?_
    refine wp_aload_n 2 d_X9_take_28 rfl rfl ?_
    refine wp_getfield (v := .ref (1)) d_X9_take_29 gf_X9_12 (hp_0 _ _ _ _ _) rfl ?_
    refine wp_getfield (v := .int (nI (p))) d_X9_take_32 gf_X9_191 (hp_1 _ _ _ _ _) (congrArg (fun z => some (Value.int z)) hp) ?_
    refine wp_ncmp_ge (a := i) (b := p) 84 d_X9_take_35 rfl (by omega) (by omega) (fun c35 => ?_) (fun c35 => ?_)
    · refine wp_aload_n 2 d_X9_take_84 rfl rfl ?_
      refine wp_getfield (v := .ref (1)) d_X9_take_85 gf_X9_12 (hp_0 _ _ _ _ _) rfl ?_
      refine wp_dup d_X9_take_88 rfl ?_
      refine wp_getfield (v := .int (nI (p))) d_X9_take_89 gf_X9_191 (hp_1 _ _ _ _ _) (congrArg (fun z => some (Value.int z)) hp) ?_
      refine wp_iconst (v0 := 1) d_X9_take_92 rfl ?_
      refine wp_isub d_X9_take_93 ?_
      refine wp_v (v0 := nI ((p) - (1))) (pk_sub (a := p) (b := 1) (by omega)) ?_
      refine wp_putfield (h' := HP (setS (setA (setA c 9 (ksh (c.2.1 9) j i)) 10 (ksh (c.2.1 10) j i)) 107 (nI ((p) - (1)))) w m v E) d_X9_take_94 gp_X9_191 (kfit_i _) (hp_1 _ _ _ _ _) (Nat.le_of_ble_eq_true rfl) (hps_1_7 _ _ _ _ _ _) ?_
      refine wp_iload_n 1 d_X9_take_97 rfl rfl ?_
      refine wp_reti d_X9_take_98 rfl ?_
      obtain rfl : i = p := by omega
      exact kR_i rfl rfl
    · refine wp_aload_n 2 d_X9_take_38 rfl rfl ?_
      refine wp_getfield (v := .ref (1)) d_X9_take_39 gf_X9_12 (hp_0 _ _ _ _ _) rfl ?_
      refine wp_getfield (v := .ref (9)) d_X9_take_42 gf_X9_194 (hp_1 _ _ _ _ _) rfl ?_
      refine wp_iload_n 0 d_X9_take_45 rfl rfl ?_
      refine wp_iconst (v0 := 1) d_X9_take_46 rfl ?_
      refine wp_isub d_X9_take_47 ?_
      refine wp_v (v0 := nI ((i) - (1))) (pk_sub (a := i) (b := 1) (by omega)) ?_
      refine wp_aload_n 2 d_X9_take_48 rfl rfl ?_
      refine wp_getfield (v := .ref (1)) d_X9_take_49 gf_X9_12 (hp_0 _ _ _ _ _) rfl ?_
      refine wp_getfield (v := .ref (9)) d_X9_take_52 gf_X9_194 (hp_1 _ _ _ _ _) rfl ?_
      refine wp_iload_n 0 d_X9_take_55 rfl rfl ?_
      refine wp_iaload (v := (ksh (c.2.1 9) j i) (i)) d_X9_take_56 (hp_9 _ _ _ _ _) (vp_in_nI (by omega) (by omega)) (congrArg ((ksh (c.2.1 9) j i)) (nI_clamp (by omega))) ?_
      refine wp_iastore (h' := HP (setA (setA (setA c 9 (ksh (c.2.1 9) j i)) 10 (ksh (c.2.1 10) j i)) 9 (upd (ksh (c.2.1 9) j i) ((i) - (1)) ((ksh (c.2.1 9) j i) (i)))) w m v E) d_X9_take_57 (hp_9 _ _ _ _ _) (vp_in_nI (by omega) (by omega)) (by rw [nI_clamp (by omega)]; exact (hpa_9 _ _ _ _ _ _)) ?_
      refine wp_aload_n 2 d_X9_take_58 rfl rfl ?_
      refine wp_getfield (v := .ref (1)) d_X9_take_59 gf_X9_12 (hp_0 _ _ _ _ _) rfl ?_
      refine wp_getfield (v := .ref (10)) d_X9_take_62 gf_X9_197 (hp_1 _ _ _ _ _) rfl ?_
      refine wp_iload_n 0 d_X9_take_65 rfl rfl ?_
      refine wp_iconst (v0 := 1) d_X9_take_66 rfl ?_
      refine wp_isub d_X9_take_67 ?_
      refine wp_v (v0 := nI ((i) - (1))) (pk_sub (a := i) (b := 1) (by omega)) ?_
      refine wp_aload_n 2 d_X9_take_68 rfl rfl ?_
      refine wp_getfield (v := .ref (1)) d_X9_take_69 gf_X9_12 (hp_0 _ _ _ _ _) rfl ?_
      refine wp_getfield (v := .ref (10)) d_X9_take_72 gf_X9_197 (hp_1 _ _ _ _ _) rfl ?_
      refine wp_iload_n 0 d_X9_take_75 rfl rfl ?_
      refine wp_iaload (v := (ksh (c.2.1 10) j i) (i)) d_X9_take_76 (hp_10 _ _ _ _ _) (vp_in_nI (by omega) (by omega)) (congrArg ((ksh (c.2.1 10) j i)) (nI_clamp (by omega))) ?_
      refine wp_iastore (h' := HP (setA (setA (setA (setA c 9 (ksh (c.2.1 9) j i)) 10 (ksh (c.2.1 10) j i)) 9 (upd (ksh (c.2.1 9) j i) ((i) - (1)) ((ksh (c.2.1 9) j i) (i)))) 10 (upd (ksh (c.2.1 10) j i) ((i) - (1)) ((ksh (c.2.1 10) j i) (i)))) w m v E) d_X9_take_77 (hp_10 _ _ _ _ _) (vp_in_nI (by omega) (by omega)) (by rw [nI_clamp (by omega)]; exact (hpa_10 _ _ _ _ _ _)) ?_
      refine wp_iinc (v0 := nI ((i) + 1)) [(3, .int (nI ((i) + 1))), (2, .int ((c.2.1 9) (j))), (0, .ref (0))] 0 d_X9_take_78 rfl (nI_add (i) 1) (Nat.le_of_ble_eq_true rfl) rfl ?_
      refine wp_goto 27 d_X9_take_81 rfl ?_
      refine wp_h (h' := HP (setA (setA c 9 (ksh (c.2.1 9) j (i + 1))) 10 (ksh (c.2.1 10) j (i + 1))) w m v E) ?_ ?_
      · rw [setA_sw _ _ _ (show 9 < 10 by decide), setA_idem, setA_idem]
        simp only [ksh_at _ _ _ (Nat.le_succ i)]
        rw [ksh_s _ hj1 (by omega), ksh_s _ hj1 (by omega)]
      refine wp_sub [(3, .int (nI (i + 1))), (2, .int ((c.2.1 9) (j))), (0, .ref 0)] [0, 1, 2] rfl ?_
      exact ih (k - 1) (by omega) (i + 1) (by omega) (by omega)
theorem s_X9_take {X : kX} {d : Nat} {c w m v : kZ} {E : kH} {p : Nat} (hp : c.1 107 = nI p) (hp4 : p ≤ 4) (q : Int32) : WP X (d + 2) 0 0 Y_X9_take 0 [(0, .ref (0)), (1, .int (q))] [] (HP c w m v E) (fun r h1 => (¬ (0 ≤ q.toInt ∧ q.toInt < (p : Int)) ∧ r = some (.int (-1)) ∧ h1 = HP c w m v E) ∨ ∃ j : Nat, j < p ∧ q = nI j ∧ r = some (.int ((c.2.1 9) (j))) ∧ h1 = HP (setS (setA (setA c 9 (ksh (c.2.1 9) j p)) 10 (ksh (c.2.1 10) j p)) 107 (nI (p - 1))) w m v E) := by
  refine wp_aload_n 0 d_X9_take_0 rfl rfl ?_
  refine wp_getfield (v := .ref (1)) d_X9_take_1 gf_X9_12 (hp_0 _ _ _ _ _) rfl ?_
  refine wp_iload_n 1 d_X9_take_4 rfl rfl ?_
  refine wp_vrt_i (As := [.int (q)]) (x0 := kb (0 ≤ ((q) : Int32).toInt ∧ ((q) : Int32).toInt < (p : Int))) (h1 := HP c w m v E) d_X9_take_5 lk_X9_200 mv_X1_hasPlace in_X1_hasPlace se_X1_hasPlace (Nat.le_of_ble_eq_true rfl) (Nat.le_of_ble_eq_true rfl) (hp_1 _ _ _ _ _) rfl (s_X1_hasPlace hp (by omega) (q)) ?_
  refine wp_ifb_ne 13 d_X9_take_8 rfl (fun c8 => ?_) (fun c8 => ?_)
  · obtain ⟨j, hj, rfl⟩ := k_nat c8
    refine wp_aload_n 0 d_X9_take_13 rfl rfl ?_
    refine wp_getfield (v := .ref (1)) d_X9_take_14 gf_X9_12 (hp_0 _ _ _ _ _) rfl ?_
    refine wp_getfield (v := .ref (9)) d_X9_take_17 gf_X9_194 (hp_1 _ _ _ _ _) rfl ?_
    refine wp_iload_n 1 d_X9_take_20 rfl rfl ?_
    refine wp_iaload (v := (c.2.1 9) (j)) d_X9_take_21 (hp_9 _ _ _ _ _) (vp_in_nI (by omega) (by omega)) (congrArg ((c.2.1 9)) (nI_clamp (by omega))) ?_
    refine wp_istore_n [(2, .int ((c.2.1 9) (j))), (0, .ref (0)), (1, .int (nI (j)))] d_X9_take_22 rfl (Nat.le_of_ble_eq_true rfl) rfl ?_
    refine wp_iload_n 2 d_X9_take_23 rfl rfl ?_
    refine wp_iconst (v0 := 1) d_X9_take_24 rfl ?_
    refine wp_iadd d_X9_take_25 ?_
    refine wp_v (v0 := nI ((j) + (1))) (nI_add (j) (1)) ?_
    refine wp_istore_n [(3, .int (nI ((j) + (1)))), (2, .int ((c.2.1 9) (j))), (0, .ref (0)), (1, .int (nI (j)))] d_X9_take_26 rfl (Nat.le_of_ble_eq_true rfl) rfl ?_
    refine wp_sub [(3, .int (nI (j + 1))), (2, .int ((c.2.1 9) (j))), (0, .ref 0)] [0, 1, 2] rfl ?_
    have L := s_X9_take_l (X := X) (d := d + 2) (c := c) (w := w) (m := m) (v := v) (E := E) hp hp4 hj (p - (j + 1)) (j + 1) (by omega) (by omega)
    rw [ksh_0, ksh_0, setA_self, setA_self] at L
    exact wp_mono (fun r h1 q9 => Or.inr ⟨j, hj, rfl, q9.1, q9.2⟩) L
  · refine wp_iconst (v0 := -1) d_X9_take_11 rfl ?_
    refine wp_reti d_X9_take_12 rfl ?_
    exact Or.inl ⟨by omega, rfl, rfl⟩
theorem s_X9_place {X : kX} {d : Nat} {c w m v : kZ} {E : kH} {p : Nat} (hp : c.1 107 = nI p) (hp4 : p ≤ 4) (q wh : Int32) : WP X (d + 2) 0 0 Y_X9_place 0 [(0, .ref (0)), (1, .int (q)), (2, .int (wh))] [] (HP c w m v E) (fun r h1 => h1 = HP c w m v E ∧ ((¬ (0 ≤ q.toInt ∧ q.toInt < (p : Int)) ∨ (wh ≠ 0 ∧ wh ≠ 1)) ∧ r = some (.int (-1)) ∨ ∃ j : Nat, j < p ∧ q = nI j ∧ (wh = 0 ∧ r = some (.int ((c.2.1 9) (j))) ∨ wh = 1 ∧ r = some (.int ((c.2.1 10) (j)))))) := by
  refine wp_aload_n 0 d_X9_place_0 rfl rfl ?_
  refine wp_getfield (v := .ref (1)) d_X9_place_1 gf_X9_12 (hp_0 _ _ _ _ _) rfl ?_
  refine wp_iload_n 1 d_X9_place_4 rfl rfl ?_
  refine wp_vrt_i (As := [.int (q)]) (x0 := kb (0 ≤ ((q) : Int32).toInt ∧ ((q) : Int32).toInt < (p : Int))) (h1 := HP c w m v E) d_X9_place_5 lk_X9_200 mv_X1_hasPlace in_X1_hasPlace se_X1_hasPlace (Nat.le_of_ble_eq_true rfl) (Nat.le_of_ble_eq_true rfl) (hp_1 _ _ _ _ _) rfl (s_X1_hasPlace hp (by omega) (q)) ?_
  refine wp_ifb_ne 13 d_X9_place_8 rfl (fun c8 => ?_) (fun c8 => ?_)
  · obtain ⟨j, hj, rfl⟩ := k_nat c8
    refine wp_iload_n 2 d_X9_place_13 rfl rfl ?_
    refine wp_if (P := (wh) = 0) (fun c14 => ?_) (fun c14_0 => ?_)
    · refine wp_lookup 40 d_X9_place_14 rfl (by rw [c14] <;> rfl) rfl ?_
      refine wp_aload_n 0 d_X9_place_40 rfl rfl ?_
      refine wp_getfield (v := .ref (1)) d_X9_place_41 gf_X9_12 (hp_0 _ _ _ _ _) rfl ?_
      refine wp_getfield (v := .ref (9)) d_X9_place_44 gf_X9_194 (hp_1 _ _ _ _ _) rfl ?_
      refine wp_iload_n 1 d_X9_place_47 rfl rfl ?_
      refine wp_iaload (v := (c.2.1 9) (j)) d_X9_place_48 (hp_9 _ _ _ _ _) (vp_in_nI (by omega) (by omega)) (congrArg ((c.2.1 9)) (nI_clamp (by omega))) ?_
      refine wp_reti d_X9_place_49 rfl ?_
      exact ⟨rfl, Or.inr ⟨j, hj, rfl, Or.inl ⟨c14, rfl⟩⟩⟩
    refine wp_if (P := (wh) = 1) (fun c14 => ?_) (fun c14_1 => ?_)
    · refine wp_lookup 50 d_X9_place_14 rfl (by rw [c14] <;> rfl) rfl ?_
      refine wp_aload_n 0 d_X9_place_50 rfl rfl ?_
      refine wp_getfield (v := .ref (1)) d_X9_place_51 gf_X9_12 (hp_0 _ _ _ _ _) rfl ?_
      refine wp_getfield (v := .ref (10)) d_X9_place_54 gf_X9_197 (hp_1 _ _ _ _ _) rfl ?_
      refine wp_iload_n 1 d_X9_place_57 rfl rfl ?_
      refine wp_iaload (v := (c.2.1 10) (j)) d_X9_place_58 (hp_10 _ _ _ _ _) (vp_in_nI (by omega) (by omega)) (congrArg ((c.2.1 10)) (nI_clamp (by omega))) ?_
      refine wp_reti d_X9_place_59 rfl ?_
      exact ⟨rfl, Or.inr ⟨j, hj, rfl, Or.inr ⟨c14, rfl⟩⟩⟩
    refine wp_swd_X9_place_14 c14_0 c14_1 ?_
    refine wp_iconst (v0 := -1) d_X9_place_60 rfl ?_
    refine wp_reti d_X9_place_61 rfl ?_
    exact ⟨rfl, Or.inl ⟨Or.inr ⟨c14_0, c14_1⟩, rfl⟩⟩
  · refine wp_iconst (v0 := -1) d_X9_place_11 rfl ?_
    refine wp_reti d_X9_place_12 rfl ?_
    exact ⟨rfl, Or.inl ⟨Or.inl (by omega), rfl⟩⟩
theorem s_X9_turn {X : kX} {d : Nat} {c w m v : kZ} {E : kH} {p : Nat} (hp : c.1 107 = nI p) (hp4 : p ≤ 4) (q t : Int32) : WP X (d + 2) 0 0 Y_X9_turn 0 [(0, .ref (0)), (1, .int (q)), (2, .int (t))] [] (HP c w m v E) (fun r h1 => (¬ ((0 ≤ q.toInt ∧ q.toInt < (p : Int)) ∧ (0 ≤ t.toInt ∧ t.toInt ≤ 3)) ∧ r = some (.int (-1)) ∧ h1 = HP c w m v E) ∨ ∃ j : Nat, j < p ∧ q = nI j ∧ (0 ≤ t.toInt ∧ t.toInt ≤ 3) ∧ r = some (.int ((c.2.1 10) (j))) ∧ h1 = HP (setA c 10 (upd (c.2.1 10) (j) (t))) w m v E) := by
  refine wp_aload_n 0 d_X9_turn_0 rfl rfl ?_
  refine wp_getfield (v := .ref (1)) d_X9_turn_1 gf_X9_12 (hp_0 _ _ _ _ _) rfl ?_
  refine wp_iload_n 1 d_X9_turn_4 rfl rfl ?_
  refine wp_vrt_i (As := [.int (q)]) (x0 := kb (0 ≤ ((q) : Int32).toInt ∧ ((q) : Int32).toInt < (p : Int))) (h1 := HP c w m v E) d_X9_turn_5 lk_X9_200 mv_X1_hasPlace in_X1_hasPlace se_X1_hasPlace (Nat.le_of_ble_eq_true rfl) (Nat.le_of_ble_eq_true rfl) (hp_1 _ _ _ _ _) rfl (s_X1_hasPlace hp (by omega) (q)) ?_
  refine wp_ifb_eq 18 d_X9_turn_8 rfl (fun c8 => ?_) (fun c8 => ?_)
  · refine wp_iconst (v0 := -1) d_X9_turn_18 rfl ?_
    refine wp_reti d_X9_turn_19 rfl ?_
    exact Or.inl ⟨by omega, rfl, rfl⟩
  · refine wp_iload_n 2 d_X9_turn_11 rfl rfl ?_
    refine wp_stc_i (As := [.int (t)]) (x0 := kb (0 ≤ (t : Int32).toInt ∧ (t : Int32).toInt ≤ 3)) (h1 := HP c w m v E) d_X9_turn_12 lk_X9_188 mv_X9_isTurn st_X9_isTurn (Nat.le_of_ble_eq_true rfl) (Nat.le_of_ble_eq_true rfl) (s_X9_isTurn _ (t : Int32)) ?_
    refine wp_ifb_ne 20 d_X9_turn_15 rfl (fun c15 => ?_) (fun c15 => ?_)
    · obtain ⟨j, hj, rfl⟩ := k_nat c8
      refine wp_aload_n 0 d_X9_turn_20 rfl rfl ?_
      refine wp_getfield (v := .ref (1)) d_X9_turn_21 gf_X9_12 (hp_0 _ _ _ _ _) rfl ?_
      refine wp_getfield (v := .ref (10)) d_X9_turn_24 gf_X9_197 (hp_1 _ _ _ _ _) rfl ?_
      refine wp_iload_n 1 d_X9_turn_27 rfl rfl ?_
      refine wp_iaload (v := (c.2.1 10) (j)) d_X9_turn_28 (hp_10 _ _ _ _ _) (vp_in_nI (by omega) (by omega)) (congrArg ((c.2.1 10)) (nI_clamp (by omega))) ?_
      refine wp_istore_n [(3, .int ((c.2.1 10) (j))), (0, .ref (0)), (1, .int (nI (j))), (2, .int (t))] d_X9_turn_29 rfl (Nat.le_of_ble_eq_true rfl) rfl ?_
      refine wp_aload_n 1 d_X9_turn_30 rfl rfl ?_
      refine wp_getfield (v := .ref (1)) d_X9_turn_31 gf_X9_12 (hp_0 _ _ _ _ _) rfl ?_
      refine wp_getfield (v := .ref (10)) d_X9_turn_34 gf_X9_197 (hp_1 _ _ _ _ _) rfl ?_
      refine wp_iload_n 2 d_X9_turn_37 rfl rfl ?_
      refine wp_iload_n 3 d_X9_turn_38 rfl rfl ?_
      refine wp_iastore (h' := HP (setA c 10 (upd (c.2.1 10) (j) (t))) w m v E) d_X9_turn_39 (hp_10 _ _ _ _ _) (vp_in_nI (by omega) (by omega)) (by rw [nI_clamp (by omega)]; exact (hpa_10 _ _ _ _ _ _)) ?_
      refine wp_iload_n 0 d_X9_turn_40 rfl rfl ?_
      refine wp_reti d_X9_turn_41 rfl ?_
      exact Or.inr ⟨j, hj, rfl, by omega, rfl, rfl⟩
    · refine wp_iconst (v0 := -1) d_X9_turn_18 rfl ?_
      refine wp_reti d_X9_turn_19 rfl ?_
      exact Or.inl ⟨by omega, rfl, rfl⟩
theorem s_X1_swap {X : kX} {d : Nat} {c w m v : kZ} {E : kH} {a b : Nat} (ha : a < 4) (hb : b < 4) : WP X d 0 0 Y_X1_swap 0 [(0, .ref (1)), (1, .int (nI (a))), (2, .int (nI (b)))] [] (HP c w m v E) (kR none (HP (setA (setA c 9 (upd (upd (c.2.1 9) a ((c.2.1 9) (b))) b ((c.2.1 9) (a)))) 10 (upd (upd (c.2.1 10) a ((c.2.1 10) (b))) b ((c.2.1 10) (a)))) w m v E)) := by
  refine wp_aload_n 0 d_X1_swap_0 rfl rfl ?_
  refine wp_getfield (v := .ref (9)) d_X1_swap_1 gf_X1_36 (hp_1 _ _ _ _ _) rfl ?_
  refine wp_iload_n 1 d_X1_swap_4 rfl rfl ?_
  refine wp_iaload (v := (c.2.1 9) (a)) d_X1_swap_5 (hp_9 _ _ _ _ _) (vp_in_nI (by omega) (by omega)) (congrArg ((c.2.1 9)) (nI_clamp (by omega))) ?_
  refine wp_istore_n [(3, .int ((c.2.1 9) (a))), (0, .ref (1)), (1, .int (nI (a))), (2, .int (nI (b)))] d_X1_swap_6 rfl (Nat.le_of_ble_eq_true rfl) rfl ?_
  refine wp_aload_n 1 d_X1_swap_7 rfl rfl ?_
  refine wp_getfield (v := .ref (9)) d_X1_swap_8 gf_X1_36 (hp_1 _ _ _ _ _) rfl ?_
  refine wp_iload_n 2 d_X1_swap_11 rfl rfl ?_
  refine wp_aload_n 1 d_X1_swap_12 rfl rfl ?_
  refine wp_getfield (v := .ref (9)) d_X1_swap_13 gf_X1_36 (hp_1 _ _ _ _ _) rfl ?_
  refine wp_iload_n 3 d_X1_swap_16 rfl rfl ?_
  refine wp_iaload (v := (c.2.1 9) (b)) d_X1_swap_17 (hp_9 _ _ _ _ _) (vp_in_nI (by omega) (by omega)) (congrArg ((c.2.1 9)) (nI_clamp (by omega))) ?_
  refine wp_iastore (h' := HP (setA c 9 (upd (c.2.1 9) (a) ((c.2.1 9) (b)))) w m v E) d_X1_swap_18 (hp_9 _ _ _ _ _) (vp_in_nI (by omega) (by omega)) (by rw [nI_clamp (by omega)]; exact (hpa_9 _ _ _ _ _ _)) ?_
  refine wp_aload_n 1 d_X1_swap_19 rfl rfl ?_
  refine wp_getfield (v := .ref (9)) d_X1_swap_20 gf_X1_36 (hp_1 _ _ _ _ _) rfl ?_
  refine wp_iload_n 3 d_X1_swap_23 rfl rfl ?_
  refine wp_iload_n 0 d_X1_swap_24 rfl rfl ?_
  refine wp_iastore (h' := HP (setA (setA c 9 (upd (c.2.1 9) (a) ((c.2.1 9) (b)))) 9 (upd (upd (c.2.1 9) (a) ((c.2.1 9) (b))) (b) ((c.2.1 9) (a)))) w m v E) d_X1_swap_25 (hp_9 _ _ _ _ _) (vp_in_nI (by omega) (by omega)) (by rw [nI_clamp (by omega)]; exact (hpa_9 _ _ _ _ _ _)) ?_
  refine wp_aload_n 1 d_X1_swap_26 rfl rfl ?_
  refine wp_getfield (v := .ref (10)) d_X1_swap_27 gf_X1_39 (hp_1 _ _ _ _ _) rfl ?_
  refine wp_iload_n 2 d_X1_swap_30 rfl rfl ?_
  refine wp_iaload (v := (c.2.1 10) (a)) d_X1_swap_31 (hp_10 _ _ _ _ _) (vp_in_nI (by omega) (by omega)) (congrArg ((c.2.1 10)) (nI_clamp (by omega))) ?_
  refine wp_istore [(4, .int ((c.2.1 10) (a))), (3, .int ((c.2.1 9) (a))), (0, .ref (1)), (1, .int (nI (a))), (2, .int (nI (b)))] d_X1_swap_32 (Nat.le_of_ble_eq_true rfl) rfl ?_
  refine wp_aload_n 2 d_X1_swap_34 rfl rfl ?_
  refine wp_getfield (v := .ref (10)) d_X1_swap_35 gf_X1_39 (hp_1 _ _ _ _ _) rfl ?_
  refine wp_iload_n 3 d_X1_swap_38 rfl rfl ?_
  refine wp_aload_n 2 d_X1_swap_39 rfl rfl ?_
  refine wp_getfield (v := .ref (10)) d_X1_swap_40 gf_X1_39 (hp_1 _ _ _ _ _) rfl ?_
  refine wp_iload_n 4 d_X1_swap_43 rfl rfl ?_
  refine wp_iaload (v := (c.2.1 10) (b)) d_X1_swap_44 (hp_10 _ _ _ _ _) (vp_in_nI (by omega) (by omega)) (congrArg ((c.2.1 10)) (nI_clamp (by omega))) ?_
  refine wp_iastore (h' := HP (setA (setA (setA c 9 (upd (c.2.1 9) (a) ((c.2.1 9) (b)))) 9 (upd (upd (c.2.1 9) (a) ((c.2.1 9) (b))) (b) ((c.2.1 9) (a)))) 10 (upd (c.2.1 10) (a) ((c.2.1 10) (b)))) w m v E) d_X1_swap_45 (hp_10 _ _ _ _ _) (vp_in_nI (by omega) (by omega)) (by rw [nI_clamp (by omega)]; exact (hpa_10 _ _ _ _ _ _)) ?_
  refine wp_aload_n 2 d_X1_swap_46 rfl rfl ?_
  refine wp_getfield (v := .ref (10)) d_X1_swap_47 gf_X1_39 (hp_1 _ _ _ _ _) rfl ?_
  refine wp_iload_n 4 d_X1_swap_50 rfl rfl ?_
  refine wp_iload 0 d_X1_swap_51 rfl ?_
  refine wp_iastore (h' := HP (setA (setA (setA (setA c 9 (upd (c.2.1 9) (a) ((c.2.1 9) (b)))) 9 (upd (upd (c.2.1 9) (a) ((c.2.1 9) (b))) (b) ((c.2.1 9) (a)))) 10 (upd (c.2.1 10) (a) ((c.2.1 10) (b)))) 10 (upd (upd (c.2.1 10) (a) ((c.2.1 10) (b))) (b) ((c.2.1 10) (a)))) w m v E) d_X1_swap_53 (hp_10 _ _ _ _ _) (vp_in_nI (by omega) (by omega)) (by rw [nI_clamp (by omega)]; exact (hpa_10 _ _ _ _ _ _)) ?_
  refine wp_vret d_X1_swap_54 rfl ?_
  refine ⟨rfl, ?_⟩
  rw [setA_idem, setA_idem]
theorem s_X1_swap_w {X : kX} {d : Nat} {c w m v : kZ} {E : kH} {a b : Nat} (ha : a < 4) (hb : b < 4) : WP X d 0 0 Y_X1_swap 0 [(0, .ref (25)), (1, .int (nI (a))), (2, .int (nI (b)))] [] (HP c w m v E) (kR none (HP c (setA (setA w 33 (upd (upd (w.2.1 33) a ((w.2.1 33) (b))) b ((w.2.1 33) (a)))) 34 (upd (upd (w.2.1 34) a ((w.2.1 34) (b))) b ((w.2.1 34) (a)))) m v E)) := by
  refine wp_aload_n 0 d_X1_swap_0 rfl rfl ?_
  refine wp_getfield (v := .ref (33)) d_X1_swap_1 gf_X1_36 (hp_25 _ _ _ _ _) rfl ?_
  refine wp_iload_n 1 d_X1_swap_4 rfl rfl ?_
  refine wp_iaload (v := (w.2.1 33) (a)) d_X1_swap_5 (hp_33 _ _ _ _ _) (vp_in_nI (by omega) (by omega)) (congrArg ((w.2.1 33)) (nI_clamp (by omega))) ?_
  refine wp_istore_n [(3, .int ((w.2.1 33) (a))), (0, .ref (25)), (1, .int (nI (a))), (2, .int (nI (b)))] d_X1_swap_6 rfl (Nat.le_of_ble_eq_true rfl) rfl ?_
  refine wp_aload_n 1 d_X1_swap_7 rfl rfl ?_
  refine wp_getfield (v := .ref (33)) d_X1_swap_8 gf_X1_36 (hp_25 _ _ _ _ _) rfl ?_
  refine wp_iload_n 2 d_X1_swap_11 rfl rfl ?_
  refine wp_aload_n 1 d_X1_swap_12 rfl rfl ?_
  refine wp_getfield (v := .ref (33)) d_X1_swap_13 gf_X1_36 (hp_25 _ _ _ _ _) rfl ?_
  refine wp_iload_n 3 d_X1_swap_16 rfl rfl ?_
  refine wp_iaload (v := (w.2.1 33) (b)) d_X1_swap_17 (hp_33 _ _ _ _ _) (vp_in_nI (by omega) (by omega)) (congrArg ((w.2.1 33)) (nI_clamp (by omega))) ?_
  refine wp_iastore (h' := HP c (setA w 33 (upd (w.2.1 33) (a) ((w.2.1 33) (b)))) m v E) d_X1_swap_18 (hp_33 _ _ _ _ _) (vp_in_nI (by omega) (by omega)) (by rw [nI_clamp (by omega)]; exact (hpa_33 _ _ _ _ _ _)) ?_
  refine wp_aload_n 1 d_X1_swap_19 rfl rfl ?_
  refine wp_getfield (v := .ref (33)) d_X1_swap_20 gf_X1_36 (hp_25 _ _ _ _ _) rfl ?_
  refine wp_iload_n 3 d_X1_swap_23 rfl rfl ?_
  refine wp_iload_n 0 d_X1_swap_24 rfl rfl ?_
  refine wp_iastore (h' := HP c (setA (setA w 33 (upd (w.2.1 33) (a) ((w.2.1 33) (b)))) 33 (upd (upd (w.2.1 33) (a) ((w.2.1 33) (b))) (b) ((w.2.1 33) (a)))) m v E) d_X1_swap_25 (hp_33 _ _ _ _ _) (vp_in_nI (by omega) (by omega)) (by rw [nI_clamp (by omega)]; exact (hpa_33 _ _ _ _ _ _)) ?_
  refine wp_aload_n 1 d_X1_swap_26 rfl rfl ?_
  refine wp_getfield (v := .ref (34)) d_X1_swap_27 gf_X1_39 (hp_25 _ _ _ _ _) rfl ?_
  refine wp_iload_n 2 d_X1_swap_30 rfl rfl ?_
  refine wp_iaload (v := (w.2.1 34) (a)) d_X1_swap_31 (hp_34 _ _ _ _ _) (vp_in_nI (by omega) (by omega)) (congrArg ((w.2.1 34)) (nI_clamp (by omega))) ?_
  refine wp_istore [(4, .int ((w.2.1 34) (a))), (3, .int ((w.2.1 33) (a))), (0, .ref (25)), (1, .int (nI (a))), (2, .int (nI (b)))] d_X1_swap_32 (Nat.le_of_ble_eq_true rfl) rfl ?_
  refine wp_aload_n 2 d_X1_swap_34 rfl rfl ?_
  refine wp_getfield (v := .ref (34)) d_X1_swap_35 gf_X1_39 (hp_25 _ _ _ _ _) rfl ?_
  refine wp_iload_n 3 d_X1_swap_38 rfl rfl ?_
  refine wp_aload_n 2 d_X1_swap_39 rfl rfl ?_
  refine wp_getfield (v := .ref (34)) d_X1_swap_40 gf_X1_39 (hp_25 _ _ _ _ _) rfl ?_
  refine wp_iload_n 4 d_X1_swap_43 rfl rfl ?_
  refine wp_iaload (v := (w.2.1 34) (b)) d_X1_swap_44 (hp_34 _ _ _ _ _) (vp_in_nI (by omega) (by omega)) (congrArg ((w.2.1 34)) (nI_clamp (by omega))) ?_
  refine wp_iastore (h' := HP c (setA (setA (setA w 33 (upd (w.2.1 33) (a) ((w.2.1 33) (b)))) 33 (upd (upd (w.2.1 33) (a) ((w.2.1 33) (b))) (b) ((w.2.1 33) (a)))) 34 (upd (w.2.1 34) (a) ((w.2.1 34) (b)))) m v E) d_X1_swap_45 (hp_34 _ _ _ _ _) (vp_in_nI (by omega) (by omega)) (by rw [nI_clamp (by omega)]; exact (hpa_34 _ _ _ _ _ _)) ?_
  refine wp_aload_n 2 d_X1_swap_46 rfl rfl ?_
  refine wp_getfield (v := .ref (34)) d_X1_swap_47 gf_X1_39 (hp_25 _ _ _ _ _) rfl ?_
  refine wp_iload_n 4 d_X1_swap_50 rfl rfl ?_
  refine wp_iload 0 d_X1_swap_51 rfl ?_
  refine wp_iastore (h' := HP c (setA (setA (setA (setA w 33 (upd (w.2.1 33) (a) ((w.2.1 33) (b)))) 33 (upd (upd (w.2.1 33) (a) ((w.2.1 33) (b))) (b) ((w.2.1 33) (a)))) 34 (upd (w.2.1 34) (a) ((w.2.1 34) (b)))) 34 (upd (upd (w.2.1 34) (a) ((w.2.1 34) (b))) (b) ((w.2.1 34) (a)))) m v E) d_X1_swap_53 (hp_34 _ _ _ _ _) (vp_in_nI (by omega) (by omega)) (by rw [nI_clamp (by omega)]; exact (hpa_34 _ _ _ _ _ _)) ?_
  refine wp_vret d_X1_swap_54 rfl ?_
  refine ⟨rfl, ?_⟩
  rw [setA_idem, setA_idem]
theorem s_X9_exchange {X : kX} {d : Nat} {c w m v : kZ} {E : kH} {p : Nat} (hp : c.1 107 = nI p) (hp4 : p ≤ 4) (q u : Int32) : WP X (d + 2) 0 0 Y_X9_exchange 0 [(0, .ref (0)), (1, .int (q)), (2, .int (u))] [] (HP c w m v E) (fun r h1 => (¬ ((0 ≤ q.toInt ∧ q.toInt < (p : Int)) ∧ (0 ≤ u.toInt ∧ u.toInt < (p : Int))) ∧ r = some (.int (-1)) ∧ h1 = HP c w m v E) ∨ ∃ a b : Nat, a < p ∧ b < p ∧ q = nI a ∧ u = nI b ∧ r = some (.int (kb (a ≠ b))) ∧ h1 = HP (setA (setA c 9 (upd (upd (c.2.1 9) a ((c.2.1 9) (b))) b ((c.2.1 9) (a)))) 10 (upd (upd (c.2.1 10) a ((c.2.1 10) (b))) b ((c.2.1 10) (a)))) w m v E) := by
  refine wp_aload_n 0 d_X9_exchange_0 rfl rfl ?_
  refine wp_getfield (v := .ref (1)) d_X9_exchange_1 gf_X9_12 (hp_0 _ _ _ _ _) rfl ?_
  refine wp_iload_n 1 d_X9_exchange_4 rfl rfl ?_
  refine wp_vrt_i (As := [.int (q)]) (x0 := kb (0 ≤ ((q) : Int32).toInt ∧ ((q) : Int32).toInt < (p : Int))) (h1 := HP c w m v E) d_X9_exchange_5 lk_X9_200 mv_X1_hasPlace in_X1_hasPlace se_X1_hasPlace (Nat.le_of_ble_eq_true rfl) (Nat.le_of_ble_eq_true rfl) (hp_1 _ _ _ _ _) rfl (s_X1_hasPlace hp (by omega) (q)) ?_
  refine wp_ifb_eq 22 d_X9_exchange_8 rfl (fun c8 => ?_) (fun c8 => ?_)
  · refine wp_iconst (v0 := -1) d_X9_exchange_22 rfl ?_
    refine wp_reti d_X9_exchange_23 rfl ?_
    exact Or.inl ⟨by omega, rfl, rfl⟩
  · refine wp_aload_n 0 d_X9_exchange_11 rfl rfl ?_
    refine wp_getfield (v := .ref (1)) d_X9_exchange_12 gf_X9_12 (hp_0 _ _ _ _ _) rfl ?_
    refine wp_iload_n 2 d_X9_exchange_15 rfl rfl ?_
    refine wp_vrt_i (As := [.int (u)]) (x0 := kb (0 ≤ ((u) : Int32).toInt ∧ ((u) : Int32).toInt < (p : Int))) (h1 := HP c w m v E) d_X9_exchange_16 lk_X9_200 mv_X1_hasPlace in_X1_hasPlace se_X1_hasPlace (Nat.le_of_ble_eq_true rfl) (Nat.le_of_ble_eq_true rfl) (hp_1 _ _ _ _ _) rfl (s_X1_hasPlace hp (by omega) (u)) ?_
    refine wp_ifb_ne 24 d_X9_exchange_19 rfl (fun c19 => ?_) (fun c19 => ?_)
    · obtain ⟨a, ha, rfl⟩ := k_nat c8
      obtain ⟨b, hb, rfl⟩ := k_nat c19
      refine wp_aload_n 0 d_X9_exchange_24 rfl rfl ?_
      refine wp_getfield (v := .ref (1)) d_X9_exchange_25 gf_X9_12 (hp_0 _ _ _ _ _) rfl ?_
      refine wp_iload_n 1 d_X9_exchange_28 rfl rfl ?_
      refine wp_iload_n 2 d_X9_exchange_29 rfl rfl ?_
      refine wp_vrt_v (As := [.int (nI (a)), .int (nI (b))]) (h1 := HP (setA (setA c 9 (upd (upd (c.2.1 9) (a) ((c.2.1 9) (b))) (b) ((c.2.1 9) (a)))) 10 (upd (upd (c.2.1 10) (a) ((c.2.1 10) (b))) (b) ((c.2.1 10) (a)))) w m v E) d_X9_exchange_30 lk_X9_203 mv_X1_swap in_X1_swap se_X1_swap (Nat.le_of_ble_eq_true rfl) (Nat.le_of_ble_eq_true rfl) (hp_1 _ _ _ _ _) rfl (s_X1_swap (by omega) (by omega)) ?_
      refine wp_iload_n 1 d_X9_exchange_33 rfl rfl ?_
      refine wp_iload_n 2 d_X9_exchange_34 rfl rfl ?_
      refine wp_ncmp_ne (a := a) (b := b) 42 d_X9_exchange_35 rfl (by omega) (by omega) (fun c35 => ?_) (fun c35 => ?_)
      · refine wp_iconst (v0 := 1) d_X9_exchange_42 rfl ?_
        refine wp_reti d_X9_exchange_43 rfl ?_
        exact Or.inr ⟨a, b, ha, hb, rfl, rfl, congrArg (fun z => some (Value.int z)) (Eq.symm (kb_t c35)), rfl⟩
      · refine wp_iconst (v0 := 0) d_X9_exchange_38 rfl ?_
        refine wp_goto 43 d_X9_exchange_39 rfl ?_
        refine wp_reti d_X9_exchange_43 rfl ?_
        exact Or.inr ⟨a, b, ha, hb, rfl, rfl, congrArg (fun z => some (Value.int z)) (Eq.symm (kb_f (fun z9 => z9 c35))), rfl⟩
    · refine wp_iconst (v0 := -1) d_X9_exchange_22 rfl ?_
      refine wp_reti d_X9_exchange_23 rfl ?_
      exact Or.inl ⟨by omega, rfl, rfl⟩
/-- prices of the first k of the tube's lenses from i on, all together with z -/
def kpri (ln pr : Nat → Int32) : Nat → Nat → Int32 → Int32
  | 0, _, z => z
  | k + 1, i, z => kpri ln pr k (i + 1) (z + pr (ln i).toNatClampNeg)
theorem s_X9_price_l {X : kX} {d : Nat} {c w m v : kZ} {E : kH} {n : Nat} (hn : c.1 100 = nI n) (hn9 : n ≤ 9) {p : Nat} (hp : c.1 107 = nI p) (hp4 : p ≤ 4) (hln : ∀ j, j < p → vp_in (c.2.1 9 j) n) : ∀ (k : Nat) (i : Nat) (z : Int32), (i + k = p) → WP X d 0 0 Y_X9_price 4 [(2, .int (nI (i))), (1, .int (z)), (0, .ref (0))] [] (HP c w m v E) (kR (some (.int (kpri (c.2.1 9) (c.2.1 5) k i z))) (HP c w m v E)) := by
  intro k
  induction k using Nat.strongRecOn with
  | ind k ih =>
    intro i z hi
    refine wp_iload_n 0 d_X9_price_4 rfl rfl ?_
    refine wp_aload_n 2 d_X9_price_5 rfl rfl ?_
    refine wp_getfield (v := .ref (1)) d_X9_price_6 gf_X9_12 (hp_0 _ _ _ _ _) rfl ?_
    refine wp_getfield (v := .int (nI (p))) d_X9_price_9 gf_X9_191 (hp_1 _ _ _ _ _) (congrArg (fun z => some (Value.int z)) hp) ?_
    refine wp_ncmp_ge (a := i) (b := p) 41 d_X9_price_12 rfl (by omega) (by omega) (fun c12 => ?_) (fun c12 => ?_)
    · refine wp_iload_n 1 d_X9_price_41 rfl rfl ?_
      refine wp_reti d_X9_price_42 rfl ?_
      obtain rfl : k = 0 := by omega
      exact kR_i rfl rfl
    · refine wp_iload_n 1 d_X9_price_15 rfl rfl ?_
      refine wp_aload_n 2 d_X9_price_16 rfl rfl ?_
      refine wp_getfield (v := .ref (1)) d_X9_price_17 gf_X9_12 (hp_0 _ _ _ _ _) rfl ?_
      refine wp_getfield (v := .ref (5)) d_X9_price_20 gf_X9_115 (hp_1 _ _ _ _ _) rfl ?_
      refine wp_aload_n 2 d_X9_price_23 rfl rfl ?_
      refine wp_getfield (v := .ref (1)) d_X9_price_24 gf_X9_12 (hp_0 _ _ _ _ _) rfl ?_
      refine wp_getfield (v := .ref (9)) d_X9_price_27 gf_X9_194 (hp_1 _ _ _ _ _) rfl ?_
      refine wp_iload_n 0 d_X9_price_30 rfl rfl ?_
      refine wp_iaload (v := (c.2.1 9) (i)) d_X9_price_31 (hp_9 _ _ _ _ _) (vp_in_nI (by omega) (by omega)) (congrArg ((c.2.1 9)) (nI_clamp (by omega))) ?_
      refine wp_iaload (v := (c.2.1 5) (((c.2.1 9) (i)).toNatClampNeg)) d_X9_price_32 (hp_5 _ _ _ _ _) (vp_in_iff.mpr (by have := vp_in_iff.mp (hln i (by omega)); omega)) rfl ?_
      refine wp_iadd d_X9_price_33 ?_
      refine wp_istore_n [(1, .int ((z) + ((c.2.1 5) (((c.2.1 9) (i)).toNatClampNeg)))), (2, .int (nI (i))), (0, .ref (0))] d_X9_price_34 rfl (Nat.le_of_ble_eq_true rfl) rfl ?_
      refine wp_iinc (v0 := nI ((i) + 1)) [(2, .int (nI ((i) + 1))), (1, .int ((z) + ((c.2.1 5) (((c.2.1 9) (i)).toNatClampNeg)))), (0, .ref (0))] 1 d_X9_price_35 rfl (nI_add (i) 1) (Nat.le_of_ble_eq_true rfl) rfl ?_
      refine wp_goto 4 d_X9_price_38 rfl ?_
      obtain ⟨k1, rfl⟩ : ∃ k1, k = k1 + 1 := ⟨k - 1, by omega⟩
      exact ih k1 (by omega) (i + 1) _ (by omega)
theorem s_X9_price {X : kX} {d : Nat} {c w m v : kZ} {E : kH} {n : Nat} (hn : c.1 100 = nI n) (hn9 : n ≤ 9) {p : Nat} (hp : c.1 107 = nI p) (hp4 : p ≤ 4) (hln : ∀ j, j < p → vp_in (c.2.1 9 j) n) : WP X d 0 0 Y_X9_price 0 [(0, .ref (0))] [] (HP c w m v E) (kR (some (.int (kpri (c.2.1 9) (c.2.1 5) p 0 0))) (HP c w m v E)) := by
  refine wp_iconst (v0 := 0) d_X9_price_0 rfl ?_
  refine wp_istore_n [(1, .int (0)), (0, .ref (0))] d_X9_price_1 rfl (Nat.le_of_ble_eq_true rfl) rfl ?_
  refine wp_iconst (v0 := 0) d_X9_price_2 rfl ?_
  refine wp_istore_n [(2, .int (0)), (1, .int (0)), (0, .ref (0))] d_X9_price_3 rfl (Nat.le_of_ble_eq_true rfl) rfl ?_
  refine wp_sub [(2, .int (nI 0)), (1, .int 0), (0, .ref 0)] [0, 1, 2] rfl ?_
  exact s_X9_price_l hn hn9 hp hp4 hln p 0 0 (by omega)
theorem s_X9_report {X : kX} {d : Nat} {c w m v : kZ} {E : kH} {r0 : Nat} (hr : c.1 110 = nI r0) (hr6 : r0 ≤ 6) (q u : Int32) : WP X (d + 1) 0 0 Y_X9_report 0 [(0, .ref (0)), (1, .int (q)), (2, .int (u))] [] (HP c w m v E) (fun r h1 => (¬ ((0 ≤ q.toInt ∧ q.toInt ≤ 3) ∧ (0 ≤ u.toInt ∧ u.toInt ≤ 1)) ∧ r = some (.int (-1)) ∧ h1 = HP c w m v E) ∨ (((0 ≤ q.toInt ∧ q.toInt ≤ 3) ∧ (0 ≤ u.toInt ∧ u.toInt ≤ 1)) ∧ r0 = 6 ∧ r = some (.int (-2)) ∧ h1 = HP c w m v E) ∨ (((0 ≤ q.toInt ∧ q.toInt ≤ 3) ∧ (0 ≤ u.toInt ∧ u.toInt ≤ 1)) ∧ r0 < 6 ∧ r = some (.int (nI r0)) ∧ h1 = HP (setS (setA (setA c 11 (upd (c.2.1 11) r0 q)) 12 (upd (c.2.1 12) r0 u)) 110 (nI (r0 + 1))) w m v E)) := by
  refine wp_iload_n 1 d_X9_report_0 rfl rfl ?_
  refine wp_iconst (v0 := 0) d_X9_report_1 rfl ?_
  refine wp_iconst (v0 := 3) d_X9_report_2 rfl ?_
  refine wp_stc_i (As := [.int (q), .int (0), .int (3)]) (x0 := kb (0 ≤ (q : Int32).toInt ∧ (q : Int32).toInt ≤ 3)) (h1 := HP c w m v E) d_X9_report_3 lk_X9_98 mv_X9_isWithin st_X9_isWithin (Nat.le_of_ble_eq_true rfl) (Nat.le_of_ble_eq_true rfl) (s_X9_isWithin _ (q : Int32) (0 : Int32) (3 : Int32)) ?_
  refine wp_ifb_eq 18 d_X9_report_6 rfl (fun c6 => ?_) (fun c6 => ?_)
  · refine wp_iconst (v0 := -1) d_X9_report_18 rfl ?_
    refine wp_reti d_X9_report_19 rfl ?_
    exact Or.inl ⟨by omega, rfl, rfl⟩
  · refine wp_iload_n 2 d_X9_report_9 rfl rfl ?_
    refine wp_iconst (v0 := 0) d_X9_report_10 rfl ?_
    refine wp_iconst (v0 := 1) d_X9_report_11 rfl ?_
    refine wp_stc_i (As := [.int (u), .int (0), .int (1)]) (x0 := kb (0 ≤ (u : Int32).toInt ∧ (u : Int32).toInt ≤ 1)) (h1 := HP c w m v E) d_X9_report_12 lk_X9_98 mv_X9_isWithin st_X9_isWithin (Nat.le_of_ble_eq_true rfl) (Nat.le_of_ble_eq_true rfl) (s_X9_isWithin _ (u : Int32) (0 : Int32) (1 : Int32)) ?_
    refine wp_ifb_ne 20 d_X9_report_15 rfl (fun c15 => ?_) (fun c15 => ?_)
    · refine wp_aload_n 0 d_X9_report_20 rfl rfl ?_
      refine wp_getfield (v := .ref (1)) d_X9_report_21 gf_X9_12 (hp_0 _ _ _ _ _) rfl ?_
      refine wp_getfield (v := .int (nI (r0))) d_X9_report_24 gf_X9_261 (hp_1 _ _ _ _ _) (congrArg (fun z => some (Value.int z)) hr) ?_
      refine wp_bipush (v0 := 6) d_X9_report_27 (by decide) ?_
      refine wp_ncmp_lt (a := r0) (b := 6) 35 d_X9_report_29 rfl (by omega) (by omega) (fun c29 => ?_) (fun c29 => ?_)
      · refine wp_aload_n 0 d_X9_report_35 rfl rfl ?_
        refine wp_getfield (v := .ref (1)) d_X9_report_36 gf_X9_12 (hp_0 _ _ _ _ _) rfl ?_
        refine wp_getfield (v := .int (nI (r0))) d_X9_report_39 gf_X9_261 (hp_1 _ _ _ _ _) (congrArg (fun z => some (Value.int z)) hr) ?_
        refine wp_istore_n [(3, .int (nI (r0))), (0, .ref (0)), (1, .int (q)), (2, .int (u))] d_X9_report_42 rfl (Nat.le_of_ble_eq_true rfl) rfl ?_
        refine wp_aload_n 1 d_X9_report_43 rfl rfl ?_
        refine wp_getfield (v := .ref (1)) d_X9_report_44 gf_X9_12 (hp_0 _ _ _ _ _) rfl ?_
        refine wp_getfield (v := .ref (11)) d_X9_report_47 gf_X9_264 (hp_1 _ _ _ _ _) rfl ?_
        refine wp_iload_n 0 d_X9_report_50 rfl rfl ?_
        refine wp_iload_n 2 d_X9_report_51 rfl rfl ?_
        refine wp_iastore (h' := HP (setA c 11 (upd (c.2.1 11) (r0) (q))) w m v E) d_X9_report_52 (hp_11 _ _ _ _ _) (vp_in_nI (by omega) (by omega)) (by rw [nI_clamp (by omega)]; exact (hpa_11 _ _ _ _ _ _)) ?_
        refine wp_aload_n 1 d_X9_report_53 rfl rfl ?_
        refine wp_getfield (v := .ref (1)) d_X9_report_54 gf_X9_12 (hp_0 _ _ _ _ _) rfl ?_
        refine wp_getfield (v := .ref (12)) d_X9_report_57 gf_X9_267 (hp_1 _ _ _ _ _) rfl ?_
        refine wp_iload_n 0 d_X9_report_60 rfl rfl ?_
        refine wp_iload_n 3 d_X9_report_61 rfl rfl ?_
        refine wp_iastore (h' := HP (setA (setA c 11 (upd (c.2.1 11) (r0) (q))) 12 (upd (c.2.1 12) (r0) (u))) w m v E) d_X9_report_62 (hp_12 _ _ _ _ _) (vp_in_nI (by omega) (by omega)) (by rw [nI_clamp (by omega)]; exact (hpa_12 _ _ _ _ _ _)) ?_
        refine wp_aload_n 1 d_X9_report_63 rfl rfl ?_
        refine wp_getfield (v := .ref (1)) d_X9_report_64 gf_X9_12 (hp_0 _ _ _ _ _) rfl ?_
        refine wp_dup d_X9_report_67 rfl ?_
        refine wp_getfield (v := .int (nI (r0))) d_X9_report_68 gf_X9_261 (hp_1 _ _ _ _ _) (congrArg (fun z => some (Value.int z)) hr) ?_
        refine wp_iconst (v0 := 1) d_X9_report_71 rfl ?_
        refine wp_iadd d_X9_report_72 ?_
        refine wp_v (v0 := nI ((r0) + (1))) (nI_add (r0) (1)) ?_
        refine wp_putfield (h' := HP (setS (setA (setA c 11 (upd (c.2.1 11) (r0) (q))) 12 (upd (c.2.1 12) (r0) (u))) 110 (nI ((r0) + (1)))) w m v E) d_X9_report_73 gp_X9_261 (kfit_i _) (hp_1 _ _ _ _ _) (Nat.le_of_ble_eq_true rfl) (hps_1_10 _ _ _ _ _ _) ?_
        refine wp_iload_n 0 d_X9_report_76 rfl rfl ?_
        refine wp_reti d_X9_report_77 rfl ?_
        exact Or.inr (Or.inr ⟨by omega, by omega, rfl, rfl⟩)
      · refine wp_bipush (v0 := -2) d_X9_report_32 (by decide) ?_
        refine wp_reti d_X9_report_34 rfl ?_
        exact Or.inr (Or.inl ⟨by omega, by omega, rfl, rfl⟩)
    · refine wp_iconst (v0 := -1) d_X9_report_18 rfl ?_
      refine wp_reti d_X9_report_19 rfl ?_
      exact Or.inl ⟨by omega, rfl, rfl⟩
theorem s_X9_forget {X : kX} {d : Nat} {c w m v : kZ} {E : kH}  : WP X d 0 0 Y_X9_forget 0 [(0, .ref (0))] [] (HP c w m v E) (kR (some (.int (c.1 110))) (HP (setS c 110 (0)) w m v E)) := by
  refine wp_aload_n 0 d_X9_forget_0 rfl rfl ?_
  refine wp_getfield (v := .ref (1)) d_X9_forget_1 gf_X9_12 (hp_0 _ _ _ _ _) rfl ?_
  refine wp_getfield (v := .int ((c.1 110))) d_X9_forget_4 gf_X9_261 (hp_1 _ _ _ _ _) rfl ?_
  refine wp_istore_n [(1, .int ((c.1 110))), (0, .ref (0))] d_X9_forget_7 rfl (Nat.le_of_ble_eq_true rfl) rfl ?_
  refine wp_aload_n 1 d_X9_forget_8 rfl rfl ?_
  refine wp_getfield (v := .ref (1)) d_X9_forget_9 gf_X9_12 (hp_0 _ _ _ _ _) rfl ?_
  refine wp_iconst (v0 := 0) d_X9_forget_12 rfl ?_
  refine wp_putfield (h' := HP (setS c 110 (0)) w m v E) d_X9_forget_13 gp_X9_261 (kfit_i _) (hp_1 _ _ _ _ _) (Nat.le_of_ble_eq_true rfl) (hps_1_10 _ _ _ _ _ _) ?_
  refine wp_iload_n 0 d_X9_forget_16 rfl rfl ?_
  refine wp_reti d_X9_forget_17 rfl ?_
  exact kR_i rfl rfl
theorem s_X9_seed {X : kX} {d : Nat} {c w m v : kZ} {E : kH} (x : Int32) : WP X d 0 0 Y_X9_seed 0 [(0, .ref (0)), (1, .int (x))] [] (HP c w m v E) (kR (some (.int (c.1 113))) (HP (setS c 113 (x)) w m v E)) := by
  refine wp_aload_n 0 d_X9_seed_0 rfl rfl ?_
  refine wp_getfield (v := .ref (1)) d_X9_seed_1 gf_X9_12 (hp_0 _ _ _ _ _) rfl ?_
  refine wp_getfield (v := .int ((c.1 113))) d_X9_seed_4 gf_X9_287 (hp_1 _ _ _ _ _) rfl ?_
  refine wp_istore_n [(2, .int ((c.1 113))), (0, .ref (0)), (1, .int (x))] d_X9_seed_7 rfl (Nat.le_of_ble_eq_true rfl) rfl ?_
  refine wp_aload_n 1 d_X9_seed_8 rfl rfl ?_
  refine wp_getfield (v := .ref (1)) d_X9_seed_9 gf_X9_12 (hp_0 _ _ _ _ _) rfl ?_
  refine wp_iload_n 2 d_X9_seed_12 rfl rfl ?_
  refine wp_putfield (h' := HP (setS c 113 (x)) w m v E) d_X9_seed_13 gp_X9_287 (kfit_i _) (hp_1 _ _ _ _ _) (Nat.le_of_ble_eq_true rfl) (hps_1_13 _ _ _ _ _ _) ?_
  refine wp_iload_n 0 d_X9_seed_16 rfl rfl ?_
  refine wp_reti d_X9_seed_17 rfl ?_
  exact kR_i rfl rfl
theorem s_X9_isInRows {X : kX} {d : Nat} {c w m v : kZ} {E : kH} {rc : Nat} (hrc : c.1 11 = nI rc) (hrc6 : rc ≤ 6) (q u : Int32) : WP X (d + 1) 0 0 Y_X9_isInRows 0 [(0, .ref (0)), (1, .int (q)), (2, .int (u))] [] (HP c w m v E) (kR (some (.int (kb ((0 ≤ q.toInt ∧ q.toInt < (rc : Int)) ∧ (0 ≤ u.toInt ∧ u.toInt ≤ 2))))) (HP c w m v E)) := by
  refine wp_iload_n 1 d_X9_isInRows_0 rfl rfl ?_
  refine wp_iconst (v0 := 0) d_X9_isInRows_1 rfl ?_
  refine wp_aload_n 0 d_X9_isInRows_2 rfl rfl ?_
  refine wp_getfield (v := .int (nI rc)) d_X9_isInRows_3 gf_X9_293 (hp_0 _ _ _ _ _) (congrArg (fun z => some (Value.int z)) hrc) ?_
  refine wp_iconst (v0 := 1) d_X9_isInRows_6 rfl ?_
  refine wp_isub d_X9_isInRows_7 ?_
  refine wp_stc_i (As := [.int (q), .int (0), .int ((nI rc) - (1))]) (x0 := kb (0 ≤ (q : Int32).toInt ∧ (q : Int32).toInt ≤ ((nI rc) - (1) : Int32).toInt)) (h1 := HP c w m v E) d_X9_isInRows_8 lk_X9_98 mv_X9_isWithin st_X9_isWithin (Nat.le_of_ble_eq_true rfl) (Nat.le_of_ble_eq_true rfl) (s_X9_isWithin _ (q : Int32) (0 : Int32) ((nI rc) - (1) : Int32)) ?_
  refine wp_ifb_eq 27 d_X9_isInRows_11 rfl (fun c11 => ?_) (fun c11 => ?_)
  · refine wp_iconst (v0 := 0) d_X9_isInRows_27 rfl ?_
    refine wp_iret d_X9_isInRows_28 rfl k_nar0 ?_
    refine kR_i (Eq.symm (kb_f ?_)) rfl
    simp only [kn_pred (show rc < 2 ^ 30 by omega)] at *; omega
  · refine wp_iload_n 2 d_X9_isInRows_14 rfl rfl ?_
    refine wp_iconst (v0 := 0) d_X9_isInRows_15 rfl ?_
    refine wp_iconst (v0 := 2) d_X9_isInRows_16 rfl ?_
    refine wp_stc_i (As := [.int (u), .int (0), .int (2)]) (x0 := kb (0 ≤ (u : Int32).toInt ∧ (u : Int32).toInt ≤ 2)) (h1 := HP c w m v E) d_X9_isInRows_17 lk_X9_98 mv_X9_isWithin st_X9_isWithin (Nat.le_of_ble_eq_true rfl) (Nat.le_of_ble_eq_true rfl) (s_X9_isWithin _ (u : Int32) (0 : Int32) (2 : Int32)) ?_
    refine wp_ifb_eq 27 d_X9_isInRows_20 rfl (fun c20 => ?_) (fun c20 => ?_)
    · refine wp_iconst (v0 := 0) d_X9_isInRows_27 rfl ?_
      refine wp_iret d_X9_isInRows_28 rfl k_nar0 ?_
      refine kR_i (Eq.symm (kb_f ?_)) rfl
      simp only [kn_pred (show rc < 2 ^ 30 by omega)] at *; omega
    · refine wp_iconst (v0 := 1) d_X9_isInRows_23 rfl ?_
      refine wp_goto 28 d_X9_isInRows_24 rfl ?_
      refine wp_iret d_X9_isInRows_28 rfl k_nar1 ?_
      refine kR_i (Eq.symm (kb_t ?_)) rfl
      simp only [kn_pred (show rc < 2 ^ 30 by omega)] at *; omega
theorem s_X9_row {X : kX} {d : Nat} {c w m v : kZ} {E : kH} {rc : Nat} (hrc : c.1 11 = nI rc) (hrc6 : rc ≤ 6) (q u : Int32) : WP X (d + 2) 0 0 Y_X9_row 0 [(0, .ref (0)), (1, .int (q)), (2, .int (u))] [] (HP c w m v E) (fun r h1 => h1 = HP c w m v E ∧ (¬ ((0 ≤ q.toInt ∧ q.toInt < (rc : Int)) ∧ (0 ≤ u.toInt ∧ u.toInt ≤ 2)) ∧ r = some (.int (-9)) ∨ ∃ a b : Nat, a < rc ∧ b ≤ 2 ∧ q = nI a ∧ u = nI b ∧ r = some (.int ((c.2.1 74) (3 * a + b))))) := by
  refine wp_aload_n 0 d_X9_row_0 rfl rfl ?_
  refine wp_iload_n 1 d_X9_row_1 rfl rfl ?_
  refine wp_iload_n 2 d_X9_row_2 rfl rfl ?_
  refine wp_vrt_i (As := [.int (q), .int (u)]) (x0 := kb ((0 ≤ ((q) : Int32).toInt ∧ ((q) : Int32).toInt < (rc : Int)) ∧ (0 ≤ ((u) : Int32).toInt ∧ ((u) : Int32).toInt ≤ 2))) (h1 := HP c w m v E) d_X9_row_3 lk_X9_306 mv_X9_isInRows in_X9_isInRows se_X9_isInRows (Nat.le_of_ble_eq_true rfl) (Nat.le_of_ble_eq_true rfl) (hp_0 _ _ _ _ _) rfl (s_X9_isInRows hrc hrc6 (q) (u)) ?_
  refine wp_ifb_eq 22 d_X9_row_6 rfl (fun c6 => ?_) (fun c6 => ?_)
  · refine wp_bipush (v0 := -9) d_X9_row_22 (by decide) ?_
    refine wp_reti d_X9_row_24 rfl ?_
    exact ⟨rfl, Or.inl ⟨c6, rfl⟩⟩
  · obtain ⟨a, ha, rfl⟩ := k_nat c6.1
    obtain ⟨b, hb, rfl⟩ := k_natle (n := 2) c6.2
    refine wp_aload_n 0 d_X9_row_9 rfl rfl ?_
    refine wp_getfield (v := .ref (74)) d_X9_row_10 gf_X9_63 (hp_0 _ _ _ _ _) rfl ?_
    refine wp_iconst (v0 := 3) d_X9_row_13 rfl ?_
    refine wp_iload_n 1 d_X9_row_14 rfl rfl ?_
    refine wp_imul d_X9_row_15 ?_
    refine wp_v (v0 := nI ((3) * (a))) (pk_mul (3) (a)) ?_
    refine wp_iload_n 2 d_X9_row_16 rfl rfl ?_
    refine wp_iadd d_X9_row_17 ?_
    refine wp_v (v0 := nI (((3) * (a)) + (b))) (nI_add ((3) * (a)) (b)) ?_
    refine wp_iaload (v := (c.2.1 74) (((3) * (a)) + (b))) d_X9_row_18 (hp_74 _ _ _ _ _) (vp_in_nI (by omega) (by omega)) (congrArg ((c.2.1 74)) (nI_clamp (by omega))) ?_
    refine wp_goto 24 d_X9_row_19 rfl ?_
    refine wp_reti d_X9_row_24 rfl ?_
    exact ⟨rfl, Or.inr ⟨a, b, ha, hb, rfl, rfl, rfl⟩⟩
theorem s_X9_alterRow {X : kX} {d : Nat} {c w m v : kZ} {E : kH} {rc : Nat} (hrc : c.1 11 = nI rc) (hrc6 : rc ≤ 6) (q u x : Int32) : WP X (d + 2) 0 0 Y_X9_alterRow 0 [(0, .ref (0)), (1, .int (q)), (2, .int (u)), (3, .int (x))] [] (HP c w m v E) (fun r h1 => (¬ ((0 ≤ q.toInt ∧ q.toInt < (rc : Int)) ∧ (0 ≤ u.toInt ∧ u.toInt ≤ 2)) ∧ r = some (.int 0) ∧ h1 = HP c w m v E) ∨ ∃ a b : Nat, a < rc ∧ b ≤ 2 ∧ q = nI a ∧ u = nI b ∧ r = some (.int (1 + kb ((c.2.1 74) (3 * a + b) ≠ x))) ∧ h1 = HP (setA c 74 (upd (c.2.1 74) (3 * a + b) x)) w m v E) := by
  refine wp_aload_n 0 d_X9_alterRow_0 rfl rfl ?_
  refine wp_iload_n 1 d_X9_alterRow_1 rfl rfl ?_
  refine wp_iload_n 2 d_X9_alterRow_2 rfl rfl ?_
  refine wp_vrt_i (As := [.int (q), .int (u)]) (x0 := kb ((0 ≤ ((q) : Int32).toInt ∧ ((q) : Int32).toInt < (rc : Int)) ∧ (0 ≤ ((u) : Int32).toInt ∧ ((u) : Int32).toInt ≤ 2))) (h1 := HP c w m v E) d_X9_alterRow_3 lk_X9_306 mv_X9_isInRows in_X9_isInRows se_X9_isInRows (Nat.le_of_ble_eq_true rfl) (Nat.le_of_ble_eq_true rfl) (hp_0 _ _ _ _ _) rfl (s_X9_isInRows hrc hrc6 (q) (u)) ?_
  refine wp_ifb_eq 27 d_X9_alterRow_6 rfl (fun c6 => ?_) (fun c6 => ?_)
  · refine wp_iconst (v0 := 0) d_X9_alterRow_27 rfl ?_
    refine wp_reti d_X9_alterRow_28 rfl ?_
    exact Or.inl ⟨c6, rfl, rfl⟩
  · obtain ⟨a, ha, rfl⟩ := k_nat c6.1
    obtain ⟨b, hb, rfl⟩ := k_natle (n := 2) c6.2
    refine wp_iconst (v0 := 1) d_X9_alterRow_9 rfl ?_
    refine wp_aload_n 0 d_X9_alterRow_10 rfl rfl ?_
    refine wp_getfield (v := .ref (74)) d_X9_alterRow_11 gf_X9_63 (hp_0 _ _ _ _ _) rfl ?_
    refine wp_iconst (v0 := 3) d_X9_alterRow_14 rfl ?_
    refine wp_iload_n 1 d_X9_alterRow_15 rfl rfl ?_
    refine wp_imul d_X9_alterRow_16 ?_
    refine wp_v (v0 := nI ((3) * (a))) (pk_mul (3) (a)) ?_
    refine wp_iload_n 2 d_X9_alterRow_17 rfl rfl ?_
    refine wp_iadd d_X9_alterRow_18 ?_
    refine wp_v (v0 := nI (((3) * (a)) + (b))) (nI_add ((3) * (a)) (b)) ?_
    refine wp_iload_n 3 d_X9_alterRow_19 rfl rfl ?_
    refine wp_stc_i (As := [.ref (74), .int (nI (((3) * (a)) + (b))), .int (x)]) (x0 := kb ((c.2.1 74) (((3) * (a)) + (b)) ≠ (x))) (h1 := HP (setA c 74 (upd (c.2.1 74) (((3) * (a)) + (b)) (x))) w m v E) d_X9_alterRow_20 lk_X9_132 mv_X9_store st_X9_store (Nat.le_of_ble_eq_true rfl) (Nat.le_of_ble_eq_true rfl) (s_X9_store (nI (((3) * (a)) + (b))) (x) (((3) * (a)) + (b)) (nI_clamp (by omega)) (hp_74 _ _ _ _ _) (vp_in_nI (by omega) (by omega)) (hpa_74 _ _ _ _ _ _)) ?_
    refine wp_iadd d_X9_alterRow_23 ?_
    refine wp_goto 28 d_X9_alterRow_24 rfl ?_
    refine wp_reti d_X9_alterRow_28 rfl ?_
    exact Or.inr ⟨a, b, ha, hb, rfl, rfl, rfl, rfl⟩
theorem s_X9_trace {X : kX} {d : Nat} {c w m v : kZ} {E : kH} {tc : Nat} (htc : c.1 7805 = nI tc) (htc30 : tc ≤ 30) (q : Int32) : WP X (d + 1) 0 0 Y_X9_trace 0 [(0, .ref (0)), (1, .int (q))] [] (HP c w m v E) (fun r h1 => h1 = HP c w m v E ∧ (¬ (0 ≤ q.toInt ∧ q.toInt < (tc : Int)) ∧ r = some (.int (-3)) ∨ ∃ a : Nat, a < tc ∧ q = nI a ∧ r = some (.int ((c.2.1 79) (a))))) := by
  refine wp_iload_n 1 d_X9_trace_0 rfl rfl ?_
  refine wp_iconst (v0 := 0) d_X9_trace_1 rfl ?_
  refine wp_aload_n 0 d_X9_trace_2 rfl rfl ?_
  refine wp_getfield (v := .ref (78)) d_X9_trace_3 gf_X9_81 (hp_0 _ _ _ _ _) rfl ?_
  refine wp_getfield (v := .int (nI tc)) d_X9_trace_6 gf_X9_345 (hp_78 _ _ _ _ _) (congrArg (fun z => some (Value.int z)) htc) ?_
  refine wp_iconst (v0 := 1) d_X9_trace_9 rfl ?_
  refine wp_isub d_X9_trace_10 ?_
  refine wp_stc_i (As := [.int (q), .int (0), .int ((nI tc) - (1))]) (x0 := kb (0 ≤ (q : Int32).toInt ∧ (q : Int32).toInt ≤ ((nI tc) - (1) : Int32).toInt)) (h1 := HP c w m v E) d_X9_trace_11 lk_X9_98 mv_X9_isWithin st_X9_isWithin (Nat.le_of_ble_eq_true rfl) (Nat.le_of_ble_eq_true rfl) (s_X9_isWithin _ (q : Int32) (0 : Int32) ((nI tc) - (1) : Int32)) ?_
  refine wp_ifb_eq 29 d_X9_trace_14 rfl (fun c14 => ?_) (fun c14 => ?_)
  · refine wp_bipush (v0 := -3) d_X9_trace_29 (by decide) ?_
    refine wp_reti d_X9_trace_31 rfl ?_
    exact ⟨rfl, Or.inl ⟨by rw [kn_pred (by omega)] at c14; omega, rfl⟩⟩
  · rw [kn_pred (by omega)] at c14
    obtain ⟨a, ha, rfl⟩ := k_nat (n := tc) ⟨c14.1, by omega⟩
    refine wp_aload_n 0 d_X9_trace_17 rfl rfl ?_
    refine wp_getfield (v := .ref (78)) d_X9_trace_18 gf_X9_81 (hp_0 _ _ _ _ _) rfl ?_
    refine wp_getfield (v := .ref (79)) d_X9_trace_21 gf_X9_368 (hp_78 _ _ _ _ _) rfl ?_
    refine wp_iload_n 1 d_X9_trace_24 rfl rfl ?_
    refine wp_iaload (v := (c.2.1 79) (a)) d_X9_trace_25 (hp_79 _ _ _ _ _) (vp_in_nI (by omega) (by omega)) (congrArg ((c.2.1 79)) (nI_clamp (by omega))) ?_
    refine wp_goto 31 d_X9_trace_26 rfl ?_
    refine wp_reti d_X9_trace_31 rfl ?_
    exact ⟨rfl, Or.inr ⟨a, ha, rfl, rfl⟩⟩
theorem s_X9_many {X : kX} {d : Nat} {c w m v : kZ} {E : kH} {cnt : Int32} {code : Nat} (hru : (HP c w m v E)[c.2.2.1 1]? = some (.inr (6, [.int cnt, .ref code]))) (wh : Int32) : WP X d 0 0 Y_X9_many 0 [(0, .ref (0)), (1, .int (wh))] [] (HP c w m v E) (fun r h1 => h1 = HP c w m v E ∧ ((wh = 0 ∧ r = some (.int (c.1 100))) ∨ (wh = 1 ∧ r = some (.int cnt)) ∨ (wh = 2 ∧ r = some (.int (c.1 107))) ∨ (wh = 3 ∧ r = some (.int (c.1 110))) ∨ (wh = 4 ∧ r = some (.int (c.1 11))) ∨ (wh = 5 ∧ r = some (.int (c.1 3701))) ∨ (wh = 6 ∧ r = some (.int (c.1 7805))) ∨ ((wh ≠ 0 ∧ wh ≠ 1 ∧ wh ≠ 2 ∧ wh ≠ 3 ∧ wh ≠ 4 ∧ wh ≠ 5 ∧ wh ≠ 6) ∧ r = some (.int (-1))))) := by
  refine wp_iload_n 1 d_X9_many_0 rfl rfl ?_
  refine wp_if (P := (wh) = 0) (fun c1 => ?_) (fun c1_0 => ?_)
  · refine wp_tableIn 44 d_X9_many_1 (by rw [c1] <;> decide) (by rw [c1] <;> decide) (by rw [c1] <;> rfl) rfl ?_
    refine wp_aload_n 0 d_X9_many_44 rfl rfl ?_
    refine wp_getfield (v := .ref (1)) d_X9_many_45 gf_X9_12 (hp_0 _ _ _ _ _) rfl ?_
    refine wp_getfield (v := .int ((c.1 100))) d_X9_many_48 gf_X9_102 (hp_1 _ _ _ _ _) rfl ?_
    refine wp_reti d_X9_many_51 rfl ?_
    exact ⟨rfl, Or.inl ⟨c1, rfl⟩⟩
  refine wp_if (P := (wh) = 1) (fun c1 => ?_) (fun c1_1 => ?_)
  · refine wp_tableIn 52 d_X9_many_1 (by rw [c1] <;> decide) (by rw [c1] <;> decide) (by rw [c1] <;> rfl) rfl ?_
    refine wp_aload_n 0 d_X9_many_52 rfl rfl ?_
    refine wp_getfield (v := .ref (1)) d_X9_many_53 gf_X9_12 (hp_0 _ _ _ _ _) rfl ?_
    refine wp_getfield (v := .ref ((c.2.2.1 1))) d_X9_many_56 gf_X9_159 (hp_1 _ _ _ _ _) rfl ?_
    refine wp_getfield (v := .int (cnt)) d_X9_many_59 gf_X9_163 hru rfl ?_
    refine wp_reti d_X9_many_62 rfl ?_
    exact ⟨rfl, Or.inr (Or.inl ⟨c1, rfl⟩)⟩
  refine wp_if (P := (wh) = 2) (fun c1 => ?_) (fun c1_2 => ?_)
  · refine wp_tableIn 63 d_X9_many_1 (by rw [c1] <;> decide) (by rw [c1] <;> decide) (by rw [c1] <;> rfl) rfl ?_
    refine wp_aload_n 0 d_X9_many_63 rfl rfl ?_
    refine wp_getfield (v := .ref (1)) d_X9_many_64 gf_X9_12 (hp_0 _ _ _ _ _) rfl ?_
    refine wp_getfield (v := .int ((c.1 107))) d_X9_many_67 gf_X9_191 (hp_1 _ _ _ _ _) rfl ?_
    refine wp_reti d_X9_many_70 rfl ?_
    exact ⟨rfl, Or.inr (Or.inr (Or.inl ⟨c1, rfl⟩))⟩
  refine wp_if (P := (wh) = 3) (fun c1 => ?_) (fun c1_3 => ?_)
  · refine wp_tableIn 71 d_X9_many_1 (by rw [c1] <;> decide) (by rw [c1] <;> decide) (by rw [c1] <;> rfl) rfl ?_
    refine wp_aload_n 0 d_X9_many_71 rfl rfl ?_
    refine wp_getfield (v := .ref (1)) d_X9_many_72 gf_X9_12 (hp_0 _ _ _ _ _) rfl ?_
    refine wp_getfield (v := .int ((c.1 110))) d_X9_many_75 gf_X9_261 (hp_1 _ _ _ _ _) rfl ?_
    refine wp_reti d_X9_many_78 rfl ?_
    exact ⟨rfl, Or.inr (Or.inr (Or.inr (Or.inl ⟨c1, rfl⟩)))⟩
  refine wp_if (P := (wh) = 4) (fun c1 => ?_) (fun c1_4 => ?_)
  · refine wp_tableIn 79 d_X9_many_1 (by rw [c1] <;> decide) (by rw [c1] <;> decide) (by rw [c1] <;> rfl) rfl ?_
    refine wp_aload_n 0 d_X9_many_79 rfl rfl ?_
    refine wp_getfield (v := .int ((c.1 11))) d_X9_many_80 gf_X9_293 (hp_0 _ _ _ _ _) rfl ?_
    refine wp_reti d_X9_many_83 rfl ?_
    exact ⟨rfl, Or.inr (Or.inr (Or.inr (Or.inr (Or.inl ⟨c1, rfl⟩))))⟩
  refine wp_if (P := (wh) = 5) (fun c1 => ?_) (fun c1_5 => ?_)
  · refine wp_tableIn 84 d_X9_many_1 (by rw [c1] <;> decide) (by rw [c1] <;> decide) (by rw [c1] <;> rfl) rfl ?_
    refine wp_aload_n 0 d_X9_many_84 rfl rfl ?_
    refine wp_getfield (v := .ref (37)) d_X9_many_85 gf_X9_25 (hp_0 _ _ _ _ _) rfl ?_
    refine wp_getfield (v := .int ((c.1 3701))) d_X9_many_88 gf_X9_145 (hp_37 _ _ _ _ _) rfl ?_
    refine wp_reti d_X9_many_91 rfl ?_
    exact ⟨rfl, Or.inr (Or.inr (Or.inr (Or.inr (Or.inr (Or.inl ⟨c1, rfl⟩)))))⟩
  refine wp_if (P := (wh) = 6) (fun c1 => ?_) (fun c1_6 => ?_)
  · refine wp_tableIn 92 d_X9_many_1 (by rw [c1] <;> decide) (by rw [c1] <;> decide) (by rw [c1] <;> rfl) rfl ?_
    refine wp_aload_n 0 d_X9_many_92 rfl rfl ?_
    refine wp_getfield (v := .ref (78)) d_X9_many_93 gf_X9_81 (hp_0 _ _ _ _ _) rfl ?_
    refine wp_getfield (v := .int ((c.1 7805))) d_X9_many_96 gf_X9_345 (hp_78 _ _ _ _ _) rfl ?_
    refine wp_reti d_X9_many_99 rfl ?_
    exact ⟨rfl, Or.inr (Or.inr (Or.inr (Or.inr (Or.inr (Or.inr (Or.inl ⟨c1, rfl⟩))))))⟩
  refine wp_swd_X9_many_1 c1_0 c1_1 c1_2 c1_3 c1_4 c1_5 c1_6 ?_
  refine wp_iconst (v0 := -1) d_X9_many_100 rfl ?_
  refine wp_reti d_X9_many_101 rfl ?_
  exact ⟨rfl, Or.inr (Or.inr (Or.inr (Or.inr (Or.inr (Or.inr (Or.inr (⟨⟨c1_0, c1_1, c1_2, c1_3, c1_4, c1_5, c1_6⟩, rfl⟩)))))))⟩
/-- bench a of z is what bench b of y is -/
def kBc (z : kZ) (a : Nat) (y : kZ) (b : Nat) : Prop := (z.1 (100 * a) = y.1 (100 * b) ∧ z.1 (100 * a + 7) = y.1 (100 * b + 7) ∧ z.1 (100 * a + 10) = y.1 (100 * b + 10) ∧ z.1 (100 * a + 13) = y.1 (100 * b + 13)) ∧ (∀ j, j < 9 → z.2.1 (a + 1) j = y.2.1 (b + 1) j) ∧ (∀ j, j < 9 → z.2.1 (a + 2) j = y.2.1 (b + 2) j) ∧ (∀ j, j < 9 → z.2.1 (a + 3) j = y.2.1 (b + 3) j) ∧ (∀ j, j < 9 → z.2.1 (a + 4) j = y.2.1 (b + 4) j) ∧ (∀ j, j < 4 → z.2.1 (a + 5) j = y.2.1 (b + 5) j) ∧ (∀ j, j < 4 → z.2.1 (a + 8) j = y.2.1 (b + 8) j) ∧ (∀ j, j < 4 → z.2.1 (a + 9) j = y.2.1 (b + 9) j) ∧ (∀ j, j < 6 → z.2.1 (a + 10) j = y.2.1 (b + 10) j) ∧ (∀ j, j < 6 → z.2.1 (a + 11) j = y.2.1 (b + 11) j) ∧ z.2.2.1 a = y.2.2.1 b
/-- z' is z but for bench a -/
def kBf (z : kZ) (a : Nat) (z' : kZ) : Prop := (∀ k, k < 100 * a ∨ 100 * a + 14 ≤ k → z'.1 k = z.1 k) ∧ (∀ k, k ≤ a ∨ a + 12 ≤ k → z'.2.1 k = z.2.1 k) ∧ (∀ k, k ≠ a → z'.2.2.1 k = z.2.2.1 k) ∧ z'.2.2.2 = z.2.2.2
theorem k_cpy {f g : Nat → Int32} {n j : Nat} (h : j < n) : va_cpy f g 0 0 n j = f j := by rw [pk_cpy_in (Nat.zero_le _) (by omega)]; simp
theorem s_X1_become_13_1 {X : kX} {d : Nat} {c w m v : kZ} {E : kH}  : WP X (d + 1) 0 0 Y_X1_become 0 [(0, .ref (13)), (1, .ref (1))] [] (HP c w m v E) (fun r h1 => r = none ∧ ∃ c' : kZ, h1 = HP c' w m v E ∧ kBc c' 13 c 1 ∧ kBf c 13 c') := by
  refine wp_aload_n 0 d_X1_become_0 rfl rfl ?_
  refine wp_aload_n 1 d_X1_become_1 rfl rfl ?_
  refine wp_getfield (v := .int ((c.1 100))) d_X1_become_2 gf_X1_52 (hp_1 _ _ _ _ _) rfl ?_
  refine wp_putfield (h' := HP (setS c 1300 ((c.1 100))) w m v E) d_X1_become_5 gp_X1_52 (kfit_i _) (hp_13 _ _ _ _ _) (Nat.le_of_ble_eq_true rfl) (hps_13_0 _ _ _ _ _ _) ?_
  refine wp_aload_n 1 d_X1_become_8 rfl rfl ?_
  refine wp_getfield (v := .ref (2)) d_X1_become_9 gf_X1_9 (hp_1 _ _ _ _ _) rfl ?_
  refine wp_iconst (v0 := 0) d_X1_become_12 rfl ?_
  refine wp_aload_n 0 d_X1_become_13 rfl rfl ?_
  refine wp_getfield (v := .ref (14)) d_X1_become_14 gf_X1_9 (hp_13 _ _ _ _ _) rfl ?_
  refine wp_iconst (v0 := 0) d_X1_become_17 rfl ?_
  refine wp_bipush (v0 := 9) d_X1_become_18 (by decide) ?_
  refine wp_arraycopy (h' := HP (setA (setS c 1300 ((c.1 100))) 14 (va_cpy (c.2.1 2) (c.2.1 14) 0 0 9)) w m v E) d_X1_become_20 ar_X1_63 ar_na ar_st ini_J10 (hp_2 _ _ _ _ _) (hp_14 _ _ _ _ _) (by decide) (by decide) (by decide) (by decide) (by decide) (Nat.le_of_ble_eq_true rfl) (hpa_14 _ _ _ _ _ _) ?_
  refine wp_aload_n 1 d_X1_become_23 rfl rfl ?_
  refine wp_getfield (v := .ref (3)) d_X1_become_24 gf_X1_15 (hp_1 _ _ _ _ _) rfl ?_
  refine wp_iconst (v0 := 0) d_X1_become_27 rfl ?_
  refine wp_aload_n 0 d_X1_become_28 rfl rfl ?_
  refine wp_getfield (v := .ref (15)) d_X1_become_29 gf_X1_15 (hp_13 _ _ _ _ _) rfl ?_
  refine wp_iconst (v0 := 0) d_X1_become_32 rfl ?_
  refine wp_bipush (v0 := 9) d_X1_become_33 (by decide) ?_
  refine wp_arraycopy (h' := HP (setA (setA (setS c 1300 ((c.1 100))) 14 (va_cpy (c.2.1 2) (c.2.1 14) 0 0 9)) 15 (va_cpy (c.2.1 3) (c.2.1 15) 0 0 9)) w m v E) d_X1_become_35 ar_X1_63 ar_na ar_st ini_J10 (hp_3 _ _ _ _ _) (hp_15 _ _ _ _ _) (by decide) (by decide) (by decide) (by decide) (by decide) (Nat.le_of_ble_eq_true rfl) (hpa_15 _ _ _ _ _ _) ?_
  refine wp_aload_n 1 d_X1_become_38 rfl rfl ?_
  refine wp_getfield (v := .ref (4)) d_X1_become_39 gf_X1_18 (hp_1 _ _ _ _ _) rfl ?_
  refine wp_iconst (v0 := 0) d_X1_become_42 rfl ?_
  refine wp_aload_n 0 d_X1_become_43 rfl rfl ?_
  refine wp_getfield (v := .ref (16)) d_X1_become_44 gf_X1_18 (hp_13 _ _ _ _ _) rfl ?_
  refine wp_iconst (v0 := 0) d_X1_become_47 rfl ?_
  refine wp_bipush (v0 := 9) d_X1_become_48 (by decide) ?_
  refine wp_arraycopy (h' := HP (setA (setA (setA (setS c 1300 ((c.1 100))) 14 (va_cpy (c.2.1 2) (c.2.1 14) 0 0 9)) 15 (va_cpy (c.2.1 3) (c.2.1 15) 0 0 9)) 16 (va_cpy (c.2.1 4) (c.2.1 16) 0 0 9)) w m v E) d_X1_become_50 ar_X1_63 ar_na ar_st ini_J10 (hp_4 _ _ _ _ _) (hp_16 _ _ _ _ _) (by decide) (by decide) (by decide) (by decide) (by decide) (Nat.le_of_ble_eq_true rfl) (hpa_16 _ _ _ _ _ _) ?_
  refine wp_aload_n 1 d_X1_become_53 rfl rfl ?_
  refine wp_getfield (v := .ref (5)) d_X1_become_54 gf_X1_21 (hp_1 _ _ _ _ _) rfl ?_
  refine wp_iconst (v0 := 0) d_X1_become_57 rfl ?_
  refine wp_aload_n 0 d_X1_become_58 rfl rfl ?_
  refine wp_getfield (v := .ref (17)) d_X1_become_59 gf_X1_21 (hp_13 _ _ _ _ _) rfl ?_
  refine wp_iconst (v0 := 0) d_X1_become_62 rfl ?_
  refine wp_bipush (v0 := 9) d_X1_become_63 (by decide) ?_
  refine wp_arraycopy (h' := HP (setA (setA (setA (setA (setS c 1300 ((c.1 100))) 14 (va_cpy (c.2.1 2) (c.2.1 14) 0 0 9)) 15 (va_cpy (c.2.1 3) (c.2.1 15) 0 0 9)) 16 (va_cpy (c.2.1 4) (c.2.1 16) 0 0 9)) 17 (va_cpy (c.2.1 5) (c.2.1 17) 0 0 9)) w m v E) d_X1_become_65 ar_X1_63 ar_na ar_st ini_J10 (hp_5 _ _ _ _ _) (hp_17 _ _ _ _ _) (by decide) (by decide) (by decide) (by decide) (by decide) (Nat.le_of_ble_eq_true rfl) (hpa_17 _ _ _ _ _ _) ?_
  refine wp_aload_n 1 d_X1_become_68 rfl rfl ?_
  refine wp_getfield (v := .ref (6)) d_X1_become_69 gf_X1_24 (hp_1 _ _ _ _ _) rfl ?_
  refine wp_iconst (v0 := 0) d_X1_become_72 rfl ?_
  refine wp_aload_n 0 d_X1_become_73 rfl rfl ?_
  refine wp_getfield (v := .ref (18)) d_X1_become_74 gf_X1_24 (hp_13 _ _ _ _ _) rfl ?_
  refine wp_iconst (v0 := 0) d_X1_become_77 rfl ?_
  refine wp_iconst (v0 := 4) d_X1_become_78 rfl ?_
  refine wp_arraycopy (h' := HP (setA (setA (setA (setA (setA (setS c 1300 ((c.1 100))) 14 (va_cpy (c.2.1 2) (c.2.1 14) 0 0 9)) 15 (va_cpy (c.2.1 3) (c.2.1 15) 0 0 9)) 16 (va_cpy (c.2.1 4) (c.2.1 16) 0 0 9)) 17 (va_cpy (c.2.1 5) (c.2.1 17) 0 0 9)) 18 (va_cpy (c.2.1 6) (c.2.1 18) 0 0 4)) w m v E) d_X1_become_79 ar_X1_63 ar_na ar_st ini_J10 (hp_6 _ _ _ _ _) (hp_18 _ _ _ _ _) (by decide) (by decide) (by decide) (by decide) (by decide) (Nat.le_of_ble_eq_true rfl) (hpa_18 _ _ _ _ _ _) ?_
  refine wp_aload_n 0 d_X1_become_82 rfl rfl ?_
  refine wp_aload_n 1 d_X1_become_83 rfl rfl ?_
  refine wp_getfield (v := .ref ((c.2.2.1 1))) d_X1_become_84 gf_X1_32 (hp_1 _ _ _ _ _) rfl ?_
  refine wp_putfield (h' := HP (setR (setA (setA (setA (setA (setA (setS c 1300 ((c.1 100))) 14 (va_cpy (c.2.1 2) (c.2.1 14) 0 0 9)) 15 (va_cpy (c.2.1 3) (c.2.1 15) 0 0 9)) 16 (va_cpy (c.2.1 4) (c.2.1 16) 0 0 9)) 17 (va_cpy (c.2.1 5) (c.2.1 17) 0 0 9)) 18 (va_cpy (c.2.1 6) (c.2.1 18) 0 0 4)) 13 ((c.2.2.1 1))) w m v E) d_X1_become_87 gp_X1_32 (kfit_o _) (hp_13 _ _ _ _ _) (Nat.le_of_ble_eq_true rfl) (hpr_13_6 _ _ _ _ _ _) ?_
  refine wp_aload_n 0 d_X1_become_90 rfl rfl ?_
  refine wp_aload_n 1 d_X1_become_91 rfl rfl ?_
  refine wp_getfield (v := .int ((c.1 107))) d_X1_become_92 gf_X1_59 (hp_1 _ _ _ _ _) rfl ?_
  refine wp_putfield (h' := HP (setS (setR (setA (setA (setA (setA (setA (setS c 1300 ((c.1 100))) 14 (va_cpy (c.2.1 2) (c.2.1 14) 0 0 9)) 15 (va_cpy (c.2.1 3) (c.2.1 15) 0 0 9)) 16 (va_cpy (c.2.1 4) (c.2.1 16) 0 0 9)) 17 (va_cpy (c.2.1 5) (c.2.1 17) 0 0 9)) 18 (va_cpy (c.2.1 6) (c.2.1 18) 0 0 4)) 13 ((c.2.2.1 1))) 1307 ((c.1 107))) w m v E) d_X1_become_95 gp_X1_59 (kfit_i _) (hp_13 _ _ _ _ _) (Nat.le_of_ble_eq_true rfl) (hps_13_7 _ _ _ _ _ _) ?_
  refine wp_aload_n 1 d_X1_become_98 rfl rfl ?_
  refine wp_getfield (v := .ref (9)) d_X1_become_99 gf_X1_36 (hp_1 _ _ _ _ _) rfl ?_
  refine wp_iconst (v0 := 0) d_X1_become_102 rfl ?_
  refine wp_aload_n 0 d_X1_become_103 rfl rfl ?_
  refine wp_getfield (v := .ref (21)) d_X1_become_104 gf_X1_36 (hp_13 _ _ _ _ _) rfl ?_
  refine wp_iconst (v0 := 0) d_X1_become_107 rfl ?_
  refine wp_iconst (v0 := 4) d_X1_become_108 rfl ?_
  refine wp_arraycopy (h' := HP (setA (setS (setR (setA (setA (setA (setA (setA (setS c 1300 ((c.1 100))) 14 (va_cpy (c.2.1 2) (c.2.1 14) 0 0 9)) 15 (va_cpy (c.2.1 3) (c.2.1 15) 0 0 9)) 16 (va_cpy (c.2.1 4) (c.2.1 16) 0 0 9)) 17 (va_cpy (c.2.1 5) (c.2.1 17) 0 0 9)) 18 (va_cpy (c.2.1 6) (c.2.1 18) 0 0 4)) 13 ((c.2.2.1 1))) 1307 ((c.1 107))) 21 (va_cpy (c.2.1 9) (c.2.1 21) 0 0 4)) w m v E) d_X1_become_109 ar_X1_63 ar_na ar_st ini_J10 (hp_9 _ _ _ _ _) (hp_21 _ _ _ _ _) (by decide) (by decide) (by decide) (by decide) (by decide) (Nat.le_of_ble_eq_true rfl) (hpa_21 _ _ _ _ _ _) ?_
  refine wp_aload_n 1 d_X1_become_112 rfl rfl ?_
  refine wp_getfield (v := .ref (10)) d_X1_become_113 gf_X1_39 (hp_1 _ _ _ _ _) rfl ?_
  refine wp_iconst (v0 := 0) d_X1_become_116 rfl ?_
  refine wp_aload_n 0 d_X1_become_117 rfl rfl ?_
  refine wp_getfield (v := .ref (22)) d_X1_become_118 gf_X1_39 (hp_13 _ _ _ _ _) rfl ?_
  refine wp_iconst (v0 := 0) d_X1_become_121 rfl ?_
  refine wp_iconst (v0 := 4) d_X1_become_122 rfl ?_
  refine wp_arraycopy (h' := HP (setA (setA (setS (setR (setA (setA (setA (setA (setA (setS c 1300 ((c.1 100))) 14 (va_cpy (c.2.1 2) (c.2.1 14) 0 0 9)) 15 (va_cpy (c.2.1 3) (c.2.1 15) 0 0 9)) 16 (va_cpy (c.2.1 4) (c.2.1 16) 0 0 9)) 17 (va_cpy (c.2.1 5) (c.2.1 17) 0 0 9)) 18 (va_cpy (c.2.1 6) (c.2.1 18) 0 0 4)) 13 ((c.2.2.1 1))) 1307 ((c.1 107))) 21 (va_cpy (c.2.1 9) (c.2.1 21) 0 0 4)) 22 (va_cpy (c.2.1 10) (c.2.1 22) 0 0 4)) w m v E) d_X1_become_123 ar_X1_63 ar_na ar_st ini_J10 (hp_10 _ _ _ _ _) (hp_22 _ _ _ _ _) (by decide) (by decide) (by decide) (by decide) (by decide) (Nat.le_of_ble_eq_true rfl) (hpa_22 _ _ _ _ _ _) ?_
  refine wp_aload_n 0 d_X1_become_126 rfl rfl ?_
  refine wp_aload_n 1 d_X1_become_127 rfl rfl ?_
  refine wp_getfield (v := .int ((c.1 110))) d_X1_become_128 gf_X1_69 (hp_1 _ _ _ _ _) rfl ?_
  refine wp_putfield (h' := HP (setS (setA (setA (setS (setR (setA (setA (setA (setA (setA (setS c 1300 ((c.1 100))) 14 (va_cpy (c.2.1 2) (c.2.1 14) 0 0 9)) 15 (va_cpy (c.2.1 3) (c.2.1 15) 0 0 9)) 16 (va_cpy (c.2.1 4) (c.2.1 16) 0 0 9)) 17 (va_cpy (c.2.1 5) (c.2.1 17) 0 0 9)) 18 (va_cpy (c.2.1 6) (c.2.1 18) 0 0 4)) 13 ((c.2.2.1 1))) 1307 ((c.1 107))) 21 (va_cpy (c.2.1 9) (c.2.1 21) 0 0 4)) 22 (va_cpy (c.2.1 10) (c.2.1 22) 0 0 4)) 1310 ((c.1 110))) w m v E) d_X1_become_131 gp_X1_69 (kfit_i _) (hp_13 _ _ _ _ _) (Nat.le_of_ble_eq_true rfl) (hps_13_10 _ _ _ _ _ _) ?_
  refine wp_aload_n 1 d_X1_become_134 rfl rfl ?_
  refine wp_getfield (v := .ref (11)) d_X1_become_135 gf_X1_42 (hp_1 _ _ _ _ _) rfl ?_
  refine wp_iconst (v0 := 0) d_X1_become_138 rfl ?_
  refine wp_aload_n 0 d_X1_become_139 rfl rfl ?_
  refine wp_getfield (v := .ref (23)) d_X1_become_140 gf_X1_42 (hp_13 _ _ _ _ _) rfl ?_
  refine wp_iconst (v0 := 0) d_X1_become_143 rfl ?_
  refine wp_bipush (v0 := 6) d_X1_become_144 (by decide) ?_
  refine wp_arraycopy (h' := HP (setA (setS (setA (setA (setS (setR (setA (setA (setA (setA (setA (setS c 1300 ((c.1 100))) 14 (va_cpy (c.2.1 2) (c.2.1 14) 0 0 9)) 15 (va_cpy (c.2.1 3) (c.2.1 15) 0 0 9)) 16 (va_cpy (c.2.1 4) (c.2.1 16) 0 0 9)) 17 (va_cpy (c.2.1 5) (c.2.1 17) 0 0 9)) 18 (va_cpy (c.2.1 6) (c.2.1 18) 0 0 4)) 13 ((c.2.2.1 1))) 1307 ((c.1 107))) 21 (va_cpy (c.2.1 9) (c.2.1 21) 0 0 4)) 22 (va_cpy (c.2.1 10) (c.2.1 22) 0 0 4)) 1310 ((c.1 110))) 23 (va_cpy (c.2.1 11) (c.2.1 23) 0 0 6)) w m v E) d_X1_become_146 ar_X1_63 ar_na ar_st ini_J10 (hp_11 _ _ _ _ _) (hp_23 _ _ _ _ _) (by decide) (by decide) (by decide) (by decide) (by decide) (Nat.le_of_ble_eq_true rfl) (hpa_23 _ _ _ _ _ _) ?_
  refine wp_aload_n 1 d_X1_become_149 rfl rfl ?_
  refine wp_getfield (v := .ref (12)) d_X1_become_150 gf_X1_45 (hp_1 _ _ _ _ _) rfl ?_
  refine wp_iconst (v0 := 0) d_X1_become_153 rfl ?_
  refine wp_aload_n 0 d_X1_become_154 rfl rfl ?_
  refine wp_getfield (v := .ref (24)) d_X1_become_155 gf_X1_45 (hp_13 _ _ _ _ _) rfl ?_
  refine wp_iconst (v0 := 0) d_X1_become_158 rfl ?_
  refine wp_bipush (v0 := 6) d_X1_become_159 (by decide) ?_
  refine wp_arraycopy (h' := HP (setA (setA (setS (setA (setA (setS (setR (setA (setA (setA (setA (setA (setS c 1300 ((c.1 100))) 14 (va_cpy (c.2.1 2) (c.2.1 14) 0 0 9)) 15 (va_cpy (c.2.1 3) (c.2.1 15) 0 0 9)) 16 (va_cpy (c.2.1 4) (c.2.1 16) 0 0 9)) 17 (va_cpy (c.2.1 5) (c.2.1 17) 0 0 9)) 18 (va_cpy (c.2.1 6) (c.2.1 18) 0 0 4)) 13 ((c.2.2.1 1))) 1307 ((c.1 107))) 21 (va_cpy (c.2.1 9) (c.2.1 21) 0 0 4)) 22 (va_cpy (c.2.1 10) (c.2.1 22) 0 0 4)) 1310 ((c.1 110))) 23 (va_cpy (c.2.1 11) (c.2.1 23) 0 0 6)) 24 (va_cpy (c.2.1 12) (c.2.1 24) 0 0 6)) w m v E) d_X1_become_161 ar_X1_63 ar_na ar_st ini_J10 (hp_12 _ _ _ _ _) (hp_24 _ _ _ _ _) (by decide) (by decide) (by decide) (by decide) (by decide) (Nat.le_of_ble_eq_true rfl) (hpa_24 _ _ _ _ _ _) ?_
  refine wp_aload_n 0 d_X1_become_164 rfl rfl ?_
  refine wp_aload_n 1 d_X1_become_165 rfl rfl ?_
  refine wp_getfield (v := .int ((c.1 113))) d_X1_become_166 gf_X1_48 (hp_1 _ _ _ _ _) rfl ?_
  refine wp_putfield (h' := HP (setS (setA (setA (setS (setA (setA (setS (setR (setA (setA (setA (setA (setA (setS c 1300 ((c.1 100))) 14 (va_cpy (c.2.1 2) (c.2.1 14) 0 0 9)) 15 (va_cpy (c.2.1 3) (c.2.1 15) 0 0 9)) 16 (va_cpy (c.2.1 4) (c.2.1 16) 0 0 9)) 17 (va_cpy (c.2.1 5) (c.2.1 17) 0 0 9)) 18 (va_cpy (c.2.1 6) (c.2.1 18) 0 0 4)) 13 ((c.2.2.1 1))) 1307 ((c.1 107))) 21 (va_cpy (c.2.1 9) (c.2.1 21) 0 0 4)) 22 (va_cpy (c.2.1 10) (c.2.1 22) 0 0 4)) 1310 ((c.1 110))) 23 (va_cpy (c.2.1 11) (c.2.1 23) 0 0 6)) 24 (va_cpy (c.2.1 12) (c.2.1 24) 0 0 6)) 1313 ((c.1 113))) w m v E) d_X1_become_169 gp_X1_48 (kfit_i _) (hp_13 _ _ _ _ _) (Nat.le_of_ble_eq_true rfl) (hps_13_13 _ _ _ _ _ _) ?_
  refine wp_vret d_X1_become_172 rfl ?_
  refine ⟨rfl, _, rfl, ?_, ?_⟩
  · refine ⟨⟨rfl, rfl, rfl, rfl⟩, fun j h9 => k_cpy h9, fun j h9 => k_cpy h9, fun j h9 => k_cpy h9, fun j h9 => k_cpy h9, fun j h9 => k_cpy h9, fun j h9 => k_cpy h9, fun j h9 => k_cpy h9, fun j h9 => k_cpy h9, fun j h9 => k_cpy h9, rfl⟩
  · refine ⟨fun k h9 => ?_, fun k h9 => ?_, fun k h9 => ?_, rfl⟩
    · simp only [setS, setA, setR, upd]; repeat rw [if_neg (by omega)]
    · simp only [setS, setA, setR, updA]; repeat rw [if_neg (by omega)]
    · simp only [setS, setA, setR, updA]; repeat rw [if_neg h9]
theorem s_X1_become_1_13 {X : kX} {d : Nat} {c w m v : kZ} {E : kH}  : WP X (d + 1) 0 0 Y_X1_become 0 [(0, .ref (1)), (1, .ref (13))] [] (HP c w m v E) (fun r h1 => r = none ∧ ∃ c' : kZ, h1 = HP c' w m v E ∧ kBc c' 1 c 13 ∧ kBf c 1 c') := by
  refine wp_aload_n 0 d_X1_become_0 rfl rfl ?_
  refine wp_aload_n 1 d_X1_become_1 rfl rfl ?_
  refine wp_getfield (v := .int ((c.1 1300))) d_X1_become_2 gf_X1_52 (hp_13 _ _ _ _ _) rfl ?_
  refine wp_putfield (h' := HP (setS c 100 ((c.1 1300))) w m v E) d_X1_become_5 gp_X1_52 (kfit_i _) (hp_1 _ _ _ _ _) (Nat.le_of_ble_eq_true rfl) (hps_1_0 _ _ _ _ _ _) ?_
  refine wp_aload_n 1 d_X1_become_8 rfl rfl ?_
  refine wp_getfield (v := .ref (14)) d_X1_become_9 gf_X1_9 (hp_13 _ _ _ _ _) rfl ?_
  refine wp_iconst (v0 := 0) d_X1_become_12 rfl ?_
  refine wp_aload_n 0 d_X1_become_13 rfl rfl ?_
  refine wp_getfield (v := .ref (2)) d_X1_become_14 gf_X1_9 (hp_1 _ _ _ _ _) rfl ?_
  refine wp_iconst (v0 := 0) d_X1_become_17 rfl ?_
  refine wp_bipush (v0 := 9) d_X1_become_18 (by decide) ?_
  refine wp_arraycopy (h' := HP (setA (setS c 100 ((c.1 1300))) 2 (va_cpy (c.2.1 14) (c.2.1 2) 0 0 9)) w m v E) d_X1_become_20 ar_X1_63 ar_na ar_st ini_J10 (hp_14 _ _ _ _ _) (hp_2 _ _ _ _ _) (by decide) (by decide) (by decide) (by decide) (by decide) (Nat.le_of_ble_eq_true rfl) (hpa_2 _ _ _ _ _ _) ?_
  refine wp_aload_n 1 d_X1_become_23 rfl rfl ?_
  refine wp_getfield (v := .ref (15)) d_X1_become_24 gf_X1_15 (hp_13 _ _ _ _ _) rfl ?_
  refine wp_iconst (v0 := 0) d_X1_become_27 rfl ?_
  refine wp_aload_n 0 d_X1_become_28 rfl rfl ?_
  refine wp_getfield (v := .ref (3)) d_X1_become_29 gf_X1_15 (hp_1 _ _ _ _ _) rfl ?_
  refine wp_iconst (v0 := 0) d_X1_become_32 rfl ?_
  refine wp_bipush (v0 := 9) d_X1_become_33 (by decide) ?_
  refine wp_arraycopy (h' := HP (setA (setA (setS c 100 ((c.1 1300))) 2 (va_cpy (c.2.1 14) (c.2.1 2) 0 0 9)) 3 (va_cpy (c.2.1 15) (c.2.1 3) 0 0 9)) w m v E) d_X1_become_35 ar_X1_63 ar_na ar_st ini_J10 (hp_15 _ _ _ _ _) (hp_3 _ _ _ _ _) (by decide) (by decide) (by decide) (by decide) (by decide) (Nat.le_of_ble_eq_true rfl) (hpa_3 _ _ _ _ _ _) ?_
  refine wp_aload_n 1 d_X1_become_38 rfl rfl ?_
  refine wp_getfield (v := .ref (16)) d_X1_become_39 gf_X1_18 (hp_13 _ _ _ _ _) rfl ?_
  refine wp_iconst (v0 := 0) d_X1_become_42 rfl ?_
  refine wp_aload_n 0 d_X1_become_43 rfl rfl ?_
  refine wp_getfield (v := .ref (4)) d_X1_become_44 gf_X1_18 (hp_1 _ _ _ _ _) rfl ?_
  refine wp_iconst (v0 := 0) d_X1_become_47 rfl ?_
  refine wp_bipush (v0 := 9) d_X1_become_48 (by decide) ?_
  refine wp_arraycopy (h' := HP (setA (setA (setA (setS c 100 ((c.1 1300))) 2 (va_cpy (c.2.1 14) (c.2.1 2) 0 0 9)) 3 (va_cpy (c.2.1 15) (c.2.1 3) 0 0 9)) 4 (va_cpy (c.2.1 16) (c.2.1 4) 0 0 9)) w m v E) d_X1_become_50 ar_X1_63 ar_na ar_st ini_J10 (hp_16 _ _ _ _ _) (hp_4 _ _ _ _ _) (by decide) (by decide) (by decide) (by decide) (by decide) (Nat.le_of_ble_eq_true rfl) (hpa_4 _ _ _ _ _ _) ?_
  refine wp_aload_n 1 d_X1_become_53 rfl rfl ?_
  refine wp_getfield (v := .ref (17)) d_X1_become_54 gf_X1_21 (hp_13 _ _ _ _ _) rfl ?_
  refine wp_iconst (v0 := 0) d_X1_become_57 rfl ?_
  refine wp_aload_n 0 d_X1_become_58 rfl rfl ?_
  refine wp_getfield (v := .ref (5)) d_X1_become_59 gf_X1_21 (hp_1 _ _ _ _ _) rfl ?_
  refine wp_iconst (v0 := 0) d_X1_become_62 rfl ?_
  refine wp_bipush (v0 := 9) d_X1_become_63 (by decide) ?_
  refine wp_arraycopy (h' := HP (setA (setA (setA (setA (setS c 100 ((c.1 1300))) 2 (va_cpy (c.2.1 14) (c.2.1 2) 0 0 9)) 3 (va_cpy (c.2.1 15) (c.2.1 3) 0 0 9)) 4 (va_cpy (c.2.1 16) (c.2.1 4) 0 0 9)) 5 (va_cpy (c.2.1 17) (c.2.1 5) 0 0 9)) w m v E) d_X1_become_65 ar_X1_63 ar_na ar_st ini_J10 (hp_17 _ _ _ _ _) (hp_5 _ _ _ _ _) (by decide) (by decide) (by decide) (by decide) (by decide) (Nat.le_of_ble_eq_true rfl) (hpa_5 _ _ _ _ _ _) ?_
  refine wp_aload_n 1 d_X1_become_68 rfl rfl ?_
  refine wp_getfield (v := .ref (18)) d_X1_become_69 gf_X1_24 (hp_13 _ _ _ _ _) rfl ?_
  refine wp_iconst (v0 := 0) d_X1_become_72 rfl ?_
  refine wp_aload_n 0 d_X1_become_73 rfl rfl ?_
  refine wp_getfield (v := .ref (6)) d_X1_become_74 gf_X1_24 (hp_1 _ _ _ _ _) rfl ?_
  refine wp_iconst (v0 := 0) d_X1_become_77 rfl ?_
  refine wp_iconst (v0 := 4) d_X1_become_78 rfl ?_
  refine wp_arraycopy (h' := HP (setA (setA (setA (setA (setA (setS c 100 ((c.1 1300))) 2 (va_cpy (c.2.1 14) (c.2.1 2) 0 0 9)) 3 (va_cpy (c.2.1 15) (c.2.1 3) 0 0 9)) 4 (va_cpy (c.2.1 16) (c.2.1 4) 0 0 9)) 5 (va_cpy (c.2.1 17) (c.2.1 5) 0 0 9)) 6 (va_cpy (c.2.1 18) (c.2.1 6) 0 0 4)) w m v E) d_X1_become_79 ar_X1_63 ar_na ar_st ini_J10 (hp_18 _ _ _ _ _) (hp_6 _ _ _ _ _) (by decide) (by decide) (by decide) (by decide) (by decide) (Nat.le_of_ble_eq_true rfl) (hpa_6 _ _ _ _ _ _) ?_
  refine wp_aload_n 0 d_X1_become_82 rfl rfl ?_
  refine wp_aload_n 1 d_X1_become_83 rfl rfl ?_
  refine wp_getfield (v := .ref ((c.2.2.1 13))) d_X1_become_84 gf_X1_32 (hp_13 _ _ _ _ _) rfl ?_
  refine wp_putfield (h' := HP (setR (setA (setA (setA (setA (setA (setS c 100 ((c.1 1300))) 2 (va_cpy (c.2.1 14) (c.2.1 2) 0 0 9)) 3 (va_cpy (c.2.1 15) (c.2.1 3) 0 0 9)) 4 (va_cpy (c.2.1 16) (c.2.1 4) 0 0 9)) 5 (va_cpy (c.2.1 17) (c.2.1 5) 0 0 9)) 6 (va_cpy (c.2.1 18) (c.2.1 6) 0 0 4)) 1 ((c.2.2.1 13))) w m v E) d_X1_become_87 gp_X1_32 (kfit_o _) (hp_1 _ _ _ _ _) (Nat.le_of_ble_eq_true rfl) (hpr_1_6 _ _ _ _ _ _) ?_
  refine wp_aload_n 0 d_X1_become_90 rfl rfl ?_
  refine wp_aload_n 1 d_X1_become_91 rfl rfl ?_
  refine wp_getfield (v := .int ((c.1 1307))) d_X1_become_92 gf_X1_59 (hp_13 _ _ _ _ _) rfl ?_
  refine wp_putfield (h' := HP (setS (setR (setA (setA (setA (setA (setA (setS c 100 ((c.1 1300))) 2 (va_cpy (c.2.1 14) (c.2.1 2) 0 0 9)) 3 (va_cpy (c.2.1 15) (c.2.1 3) 0 0 9)) 4 (va_cpy (c.2.1 16) (c.2.1 4) 0 0 9)) 5 (va_cpy (c.2.1 17) (c.2.1 5) 0 0 9)) 6 (va_cpy (c.2.1 18) (c.2.1 6) 0 0 4)) 1 ((c.2.2.1 13))) 107 ((c.1 1307))) w m v E) d_X1_become_95 gp_X1_59 (kfit_i _) (hp_1 _ _ _ _ _) (Nat.le_of_ble_eq_true rfl) (hps_1_7 _ _ _ _ _ _) ?_
  refine wp_aload_n 1 d_X1_become_98 rfl rfl ?_
  refine wp_getfield (v := .ref (21)) d_X1_become_99 gf_X1_36 (hp_13 _ _ _ _ _) rfl ?_
  refine wp_iconst (v0 := 0) d_X1_become_102 rfl ?_
  refine wp_aload_n 0 d_X1_become_103 rfl rfl ?_
  refine wp_getfield (v := .ref (9)) d_X1_become_104 gf_X1_36 (hp_1 _ _ _ _ _) rfl ?_
  refine wp_iconst (v0 := 0) d_X1_become_107 rfl ?_
  refine wp_iconst (v0 := 4) d_X1_become_108 rfl ?_
  refine wp_arraycopy (h' := HP (setA (setS (setR (setA (setA (setA (setA (setA (setS c 100 ((c.1 1300))) 2 (va_cpy (c.2.1 14) (c.2.1 2) 0 0 9)) 3 (va_cpy (c.2.1 15) (c.2.1 3) 0 0 9)) 4 (va_cpy (c.2.1 16) (c.2.1 4) 0 0 9)) 5 (va_cpy (c.2.1 17) (c.2.1 5) 0 0 9)) 6 (va_cpy (c.2.1 18) (c.2.1 6) 0 0 4)) 1 ((c.2.2.1 13))) 107 ((c.1 1307))) 9 (va_cpy (c.2.1 21) (c.2.1 9) 0 0 4)) w m v E) d_X1_become_109 ar_X1_63 ar_na ar_st ini_J10 (hp_21 _ _ _ _ _) (hp_9 _ _ _ _ _) (by decide) (by decide) (by decide) (by decide) (by decide) (Nat.le_of_ble_eq_true rfl) (hpa_9 _ _ _ _ _ _) ?_
  refine wp_aload_n 1 d_X1_become_112 rfl rfl ?_
  refine wp_getfield (v := .ref (22)) d_X1_become_113 gf_X1_39 (hp_13 _ _ _ _ _) rfl ?_
  refine wp_iconst (v0 := 0) d_X1_become_116 rfl ?_
  refine wp_aload_n 0 d_X1_become_117 rfl rfl ?_
  refine wp_getfield (v := .ref (10)) d_X1_become_118 gf_X1_39 (hp_1 _ _ _ _ _) rfl ?_
  refine wp_iconst (v0 := 0) d_X1_become_121 rfl ?_
  refine wp_iconst (v0 := 4) d_X1_become_122 rfl ?_
  refine wp_arraycopy (h' := HP (setA (setA (setS (setR (setA (setA (setA (setA (setA (setS c 100 ((c.1 1300))) 2 (va_cpy (c.2.1 14) (c.2.1 2) 0 0 9)) 3 (va_cpy (c.2.1 15) (c.2.1 3) 0 0 9)) 4 (va_cpy (c.2.1 16) (c.2.1 4) 0 0 9)) 5 (va_cpy (c.2.1 17) (c.2.1 5) 0 0 9)) 6 (va_cpy (c.2.1 18) (c.2.1 6) 0 0 4)) 1 ((c.2.2.1 13))) 107 ((c.1 1307))) 9 (va_cpy (c.2.1 21) (c.2.1 9) 0 0 4)) 10 (va_cpy (c.2.1 22) (c.2.1 10) 0 0 4)) w m v E) d_X1_become_123 ar_X1_63 ar_na ar_st ini_J10 (hp_22 _ _ _ _ _) (hp_10 _ _ _ _ _) (by decide) (by decide) (by decide) (by decide) (by decide) (Nat.le_of_ble_eq_true rfl) (hpa_10 _ _ _ _ _ _) ?_
  refine wp_aload_n 0 d_X1_become_126 rfl rfl ?_
  refine wp_aload_n 1 d_X1_become_127 rfl rfl ?_
  refine wp_getfield (v := .int ((c.1 1310))) d_X1_become_128 gf_X1_69 (hp_13 _ _ _ _ _) rfl ?_
  refine wp_putfield (h' := HP (setS (setA (setA (setS (setR (setA (setA (setA (setA (setA (setS c 100 ((c.1 1300))) 2 (va_cpy (c.2.1 14) (c.2.1 2) 0 0 9)) 3 (va_cpy (c.2.1 15) (c.2.1 3) 0 0 9)) 4 (va_cpy (c.2.1 16) (c.2.1 4) 0 0 9)) 5 (va_cpy (c.2.1 17) (c.2.1 5) 0 0 9)) 6 (va_cpy (c.2.1 18) (c.2.1 6) 0 0 4)) 1 ((c.2.2.1 13))) 107 ((c.1 1307))) 9 (va_cpy (c.2.1 21) (c.2.1 9) 0 0 4)) 10 (va_cpy (c.2.1 22) (c.2.1 10) 0 0 4)) 110 ((c.1 1310))) w m v E) d_X1_become_131 gp_X1_69 (kfit_i _) (hp_1 _ _ _ _ _) (Nat.le_of_ble_eq_true rfl) (hps_1_10 _ _ _ _ _ _) ?_
  refine wp_aload_n 1 d_X1_become_134 rfl rfl ?_
  refine wp_getfield (v := .ref (23)) d_X1_become_135 gf_X1_42 (hp_13 _ _ _ _ _) rfl ?_
  refine wp_iconst (v0 := 0) d_X1_become_138 rfl ?_
  refine wp_aload_n 0 d_X1_become_139 rfl rfl ?_
  refine wp_getfield (v := .ref (11)) d_X1_become_140 gf_X1_42 (hp_1 _ _ _ _ _) rfl ?_
  refine wp_iconst (v0 := 0) d_X1_become_143 rfl ?_
  refine wp_bipush (v0 := 6) d_X1_become_144 (by decide) ?_
  refine wp_arraycopy (h' := HP (setA (setS (setA (setA (setS (setR (setA (setA (setA (setA (setA (setS c 100 ((c.1 1300))) 2 (va_cpy (c.2.1 14) (c.2.1 2) 0 0 9)) 3 (va_cpy (c.2.1 15) (c.2.1 3) 0 0 9)) 4 (va_cpy (c.2.1 16) (c.2.1 4) 0 0 9)) 5 (va_cpy (c.2.1 17) (c.2.1 5) 0 0 9)) 6 (va_cpy (c.2.1 18) (c.2.1 6) 0 0 4)) 1 ((c.2.2.1 13))) 107 ((c.1 1307))) 9 (va_cpy (c.2.1 21) (c.2.1 9) 0 0 4)) 10 (va_cpy (c.2.1 22) (c.2.1 10) 0 0 4)) 110 ((c.1 1310))) 11 (va_cpy (c.2.1 23) (c.2.1 11) 0 0 6)) w m v E) d_X1_become_146 ar_X1_63 ar_na ar_st ini_J10 (hp_23 _ _ _ _ _) (hp_11 _ _ _ _ _) (by decide) (by decide) (by decide) (by decide) (by decide) (Nat.le_of_ble_eq_true rfl) (hpa_11 _ _ _ _ _ _) ?_
  refine wp_aload_n 1 d_X1_become_149 rfl rfl ?_
  refine wp_getfield (v := .ref (24)) d_X1_become_150 gf_X1_45 (hp_13 _ _ _ _ _) rfl ?_
  refine wp_iconst (v0 := 0) d_X1_become_153 rfl ?_
  refine wp_aload_n 0 d_X1_become_154 rfl rfl ?_
  refine wp_getfield (v := .ref (12)) d_X1_become_155 gf_X1_45 (hp_1 _ _ _ _ _) rfl ?_
  refine wp_iconst (v0 := 0) d_X1_become_158 rfl ?_
  refine wp_bipush (v0 := 6) d_X1_become_159 (by decide) ?_
  refine wp_arraycopy (h' := HP (setA (setA (setS (setA (setA (setS (setR (setA (setA (setA (setA (setA (setS c 100 ((c.1 1300))) 2 (va_cpy (c.2.1 14) (c.2.1 2) 0 0 9)) 3 (va_cpy (c.2.1 15) (c.2.1 3) 0 0 9)) 4 (va_cpy (c.2.1 16) (c.2.1 4) 0 0 9)) 5 (va_cpy (c.2.1 17) (c.2.1 5) 0 0 9)) 6 (va_cpy (c.2.1 18) (c.2.1 6) 0 0 4)) 1 ((c.2.2.1 13))) 107 ((c.1 1307))) 9 (va_cpy (c.2.1 21) (c.2.1 9) 0 0 4)) 10 (va_cpy (c.2.1 22) (c.2.1 10) 0 0 4)) 110 ((c.1 1310))) 11 (va_cpy (c.2.1 23) (c.2.1 11) 0 0 6)) 12 (va_cpy (c.2.1 24) (c.2.1 12) 0 0 6)) w m v E) d_X1_become_161 ar_X1_63 ar_na ar_st ini_J10 (hp_24 _ _ _ _ _) (hp_12 _ _ _ _ _) (by decide) (by decide) (by decide) (by decide) (by decide) (Nat.le_of_ble_eq_true rfl) (hpa_12 _ _ _ _ _ _) ?_
  refine wp_aload_n 0 d_X1_become_164 rfl rfl ?_
  refine wp_aload_n 1 d_X1_become_165 rfl rfl ?_
  refine wp_getfield (v := .int ((c.1 1313))) d_X1_become_166 gf_X1_48 (hp_13 _ _ _ _ _) rfl ?_
  refine wp_putfield (h' := HP (setS (setA (setA (setS (setA (setA (setS (setR (setA (setA (setA (setA (setA (setS c 100 ((c.1 1300))) 2 (va_cpy (c.2.1 14) (c.2.1 2) 0 0 9)) 3 (va_cpy (c.2.1 15) (c.2.1 3) 0 0 9)) 4 (va_cpy (c.2.1 16) (c.2.1 4) 0 0 9)) 5 (va_cpy (c.2.1 17) (c.2.1 5) 0 0 9)) 6 (va_cpy (c.2.1 18) (c.2.1 6) 0 0 4)) 1 ((c.2.2.1 13))) 107 ((c.1 1307))) 9 (va_cpy (c.2.1 21) (c.2.1 9) 0 0 4)) 10 (va_cpy (c.2.1 22) (c.2.1 10) 0 0 4)) 110 ((c.1 1310))) 11 (va_cpy (c.2.1 23) (c.2.1 11) 0 0 6)) 12 (va_cpy (c.2.1 24) (c.2.1 12) 0 0 6)) 113 ((c.1 1313))) w m v E) d_X1_become_169 gp_X1_48 (kfit_i _) (hp_1 _ _ _ _ _) (Nat.le_of_ble_eq_true rfl) (hps_1_13 _ _ _ _ _ _) ?_
  refine wp_vret d_X1_become_172 rfl ?_
  refine ⟨rfl, _, rfl, ?_, ?_⟩
  · refine ⟨⟨rfl, rfl, rfl, rfl⟩, fun j h9 => k_cpy h9, fun j h9 => k_cpy h9, fun j h9 => k_cpy h9, fun j h9 => k_cpy h9, fun j h9 => k_cpy h9, fun j h9 => k_cpy h9, fun j h9 => k_cpy h9, fun j h9 => k_cpy h9, fun j h9 => k_cpy h9, rfl⟩
  · refine ⟨fun k h9 => ?_, fun k h9 => ?_, fun k h9 => ?_, rfl⟩
    · simp only [setS, setA, setR, upd]; repeat rw [if_neg (by omega)]
    · simp only [setS, setA, setR, updA]; repeat rw [if_neg (by omega)]
    · simp only [setS, setA, setR, updA]; repeat rw [if_neg h9]
theorem s_X1_become_25_1 {X : kX} {d : Nat} {c w m v : kZ} {E : kH}  : WP X (d + 1) 0 0 Y_X1_become 0 [(0, .ref (25)), (1, .ref (1))] [] (HP c w m v E) (fun r h1 => r = none ∧ ∃ w' : kZ, h1 = HP c w' m v E ∧ kBc w' 25 c 1 ∧ kBf w 25 w') := by
  refine wp_aload_n 0 d_X1_become_0 rfl rfl ?_
  refine wp_aload_n 1 d_X1_become_1 rfl rfl ?_
  refine wp_getfield (v := .int ((c.1 100))) d_X1_become_2 gf_X1_52 (hp_1 _ _ _ _ _) rfl ?_
  refine wp_putfield (h' := HP c (setS w 2500 ((c.1 100))) m v E) d_X1_become_5 gp_X1_52 (kfit_i _) (hp_25 _ _ _ _ _) (Nat.le_of_ble_eq_true rfl) (hps_25_0 _ _ _ _ _ _) ?_
  refine wp_aload_n 1 d_X1_become_8 rfl rfl ?_
  refine wp_getfield (v := .ref (2)) d_X1_become_9 gf_X1_9 (hp_1 _ _ _ _ _) rfl ?_
  refine wp_iconst (v0 := 0) d_X1_become_12 rfl ?_
  refine wp_aload_n 0 d_X1_become_13 rfl rfl ?_
  refine wp_getfield (v := .ref (26)) d_X1_become_14 gf_X1_9 (hp_25 _ _ _ _ _) rfl ?_
  refine wp_iconst (v0 := 0) d_X1_become_17 rfl ?_
  refine wp_bipush (v0 := 9) d_X1_become_18 (by decide) ?_
  refine wp_arraycopy (h' := HP c (setA (setS w 2500 ((c.1 100))) 26 (va_cpy (c.2.1 2) (w.2.1 26) 0 0 9)) m v E) d_X1_become_20 ar_X1_63 ar_na ar_st ini_J10 (hp_2 _ _ _ _ _) (hp_26 _ _ _ _ _) (by decide) (by decide) (by decide) (by decide) (by decide) (Nat.le_of_ble_eq_true rfl) (hpa_26 _ _ _ _ _ _) ?_
  refine wp_aload_n 1 d_X1_become_23 rfl rfl ?_
  refine wp_getfield (v := .ref (3)) d_X1_become_24 gf_X1_15 (hp_1 _ _ _ _ _) rfl ?_
  refine wp_iconst (v0 := 0) d_X1_become_27 rfl ?_
  refine wp_aload_n 0 d_X1_become_28 rfl rfl ?_
  refine wp_getfield (v := .ref (27)) d_X1_become_29 gf_X1_15 (hp_25 _ _ _ _ _) rfl ?_
  refine wp_iconst (v0 := 0) d_X1_become_32 rfl ?_
  refine wp_bipush (v0 := 9) d_X1_become_33 (by decide) ?_
  refine wp_arraycopy (h' := HP c (setA (setA (setS w 2500 ((c.1 100))) 26 (va_cpy (c.2.1 2) (w.2.1 26) 0 0 9)) 27 (va_cpy (c.2.1 3) (w.2.1 27) 0 0 9)) m v E) d_X1_become_35 ar_X1_63 ar_na ar_st ini_J10 (hp_3 _ _ _ _ _) (hp_27 _ _ _ _ _) (by decide) (by decide) (by decide) (by decide) (by decide) (Nat.le_of_ble_eq_true rfl) (hpa_27 _ _ _ _ _ _) ?_
  refine wp_aload_n 1 d_X1_become_38 rfl rfl ?_
  refine wp_getfield (v := .ref (4)) d_X1_become_39 gf_X1_18 (hp_1 _ _ _ _ _) rfl ?_
  refine wp_iconst (v0 := 0) d_X1_become_42 rfl ?_
  refine wp_aload_n 0 d_X1_become_43 rfl rfl ?_
  refine wp_getfield (v := .ref (28)) d_X1_become_44 gf_X1_18 (hp_25 _ _ _ _ _) rfl ?_
  refine wp_iconst (v0 := 0) d_X1_become_47 rfl ?_
  refine wp_bipush (v0 := 9) d_X1_become_48 (by decide) ?_
  refine wp_arraycopy (h' := HP c (setA (setA (setA (setS w 2500 ((c.1 100))) 26 (va_cpy (c.2.1 2) (w.2.1 26) 0 0 9)) 27 (va_cpy (c.2.1 3) (w.2.1 27) 0 0 9)) 28 (va_cpy (c.2.1 4) (w.2.1 28) 0 0 9)) m v E) d_X1_become_50 ar_X1_63 ar_na ar_st ini_J10 (hp_4 _ _ _ _ _) (hp_28 _ _ _ _ _) (by decide) (by decide) (by decide) (by decide) (by decide) (Nat.le_of_ble_eq_true rfl) (hpa_28 _ _ _ _ _ _) ?_
  refine wp_aload_n 1 d_X1_become_53 rfl rfl ?_
  refine wp_getfield (v := .ref (5)) d_X1_become_54 gf_X1_21 (hp_1 _ _ _ _ _) rfl ?_
  refine wp_iconst (v0 := 0) d_X1_become_57 rfl ?_
  refine wp_aload_n 0 d_X1_become_58 rfl rfl ?_
  refine wp_getfield (v := .ref (29)) d_X1_become_59 gf_X1_21 (hp_25 _ _ _ _ _) rfl ?_
  refine wp_iconst (v0 := 0) d_X1_become_62 rfl ?_
  refine wp_bipush (v0 := 9) d_X1_become_63 (by decide) ?_
  refine wp_arraycopy (h' := HP c (setA (setA (setA (setA (setS w 2500 ((c.1 100))) 26 (va_cpy (c.2.1 2) (w.2.1 26) 0 0 9)) 27 (va_cpy (c.2.1 3) (w.2.1 27) 0 0 9)) 28 (va_cpy (c.2.1 4) (w.2.1 28) 0 0 9)) 29 (va_cpy (c.2.1 5) (w.2.1 29) 0 0 9)) m v E) d_X1_become_65 ar_X1_63 ar_na ar_st ini_J10 (hp_5 _ _ _ _ _) (hp_29 _ _ _ _ _) (by decide) (by decide) (by decide) (by decide) (by decide) (Nat.le_of_ble_eq_true rfl) (hpa_29 _ _ _ _ _ _) ?_
  refine wp_aload_n 1 d_X1_become_68 rfl rfl ?_
  refine wp_getfield (v := .ref (6)) d_X1_become_69 gf_X1_24 (hp_1 _ _ _ _ _) rfl ?_
  refine wp_iconst (v0 := 0) d_X1_become_72 rfl ?_
  refine wp_aload_n 0 d_X1_become_73 rfl rfl ?_
  refine wp_getfield (v := .ref (30)) d_X1_become_74 gf_X1_24 (hp_25 _ _ _ _ _) rfl ?_
  refine wp_iconst (v0 := 0) d_X1_become_77 rfl ?_
  refine wp_iconst (v0 := 4) d_X1_become_78 rfl ?_
  refine wp_arraycopy (h' := HP c (setA (setA (setA (setA (setA (setS w 2500 ((c.1 100))) 26 (va_cpy (c.2.1 2) (w.2.1 26) 0 0 9)) 27 (va_cpy (c.2.1 3) (w.2.1 27) 0 0 9)) 28 (va_cpy (c.2.1 4) (w.2.1 28) 0 0 9)) 29 (va_cpy (c.2.1 5) (w.2.1 29) 0 0 9)) 30 (va_cpy (c.2.1 6) (w.2.1 30) 0 0 4)) m v E) d_X1_become_79 ar_X1_63 ar_na ar_st ini_J10 (hp_6 _ _ _ _ _) (hp_30 _ _ _ _ _) (by decide) (by decide) (by decide) (by decide) (by decide) (Nat.le_of_ble_eq_true rfl) (hpa_30 _ _ _ _ _ _) ?_
  refine wp_aload_n 0 d_X1_become_82 rfl rfl ?_
  refine wp_aload_n 1 d_X1_become_83 rfl rfl ?_
  refine wp_getfield (v := .ref ((c.2.2.1 1))) d_X1_become_84 gf_X1_32 (hp_1 _ _ _ _ _) rfl ?_
  refine wp_putfield (h' := HP c (setR (setA (setA (setA (setA (setA (setS w 2500 ((c.1 100))) 26 (va_cpy (c.2.1 2) (w.2.1 26) 0 0 9)) 27 (va_cpy (c.2.1 3) (w.2.1 27) 0 0 9)) 28 (va_cpy (c.2.1 4) (w.2.1 28) 0 0 9)) 29 (va_cpy (c.2.1 5) (w.2.1 29) 0 0 9)) 30 (va_cpy (c.2.1 6) (w.2.1 30) 0 0 4)) 25 ((c.2.2.1 1))) m v E) d_X1_become_87 gp_X1_32 (kfit_o _) (hp_25 _ _ _ _ _) (Nat.le_of_ble_eq_true rfl) (hpr_25_6 _ _ _ _ _ _) ?_
  refine wp_aload_n 0 d_X1_become_90 rfl rfl ?_
  refine wp_aload_n 1 d_X1_become_91 rfl rfl ?_
  refine wp_getfield (v := .int ((c.1 107))) d_X1_become_92 gf_X1_59 (hp_1 _ _ _ _ _) rfl ?_
  refine wp_putfield (h' := HP c (setS (setR (setA (setA (setA (setA (setA (setS w 2500 ((c.1 100))) 26 (va_cpy (c.2.1 2) (w.2.1 26) 0 0 9)) 27 (va_cpy (c.2.1 3) (w.2.1 27) 0 0 9)) 28 (va_cpy (c.2.1 4) (w.2.1 28) 0 0 9)) 29 (va_cpy (c.2.1 5) (w.2.1 29) 0 0 9)) 30 (va_cpy (c.2.1 6) (w.2.1 30) 0 0 4)) 25 ((c.2.2.1 1))) 2507 ((c.1 107))) m v E) d_X1_become_95 gp_X1_59 (kfit_i _) (hp_25 _ _ _ _ _) (Nat.le_of_ble_eq_true rfl) (hps_25_7 _ _ _ _ _ _) ?_
  refine wp_aload_n 1 d_X1_become_98 rfl rfl ?_
  refine wp_getfield (v := .ref (9)) d_X1_become_99 gf_X1_36 (hp_1 _ _ _ _ _) rfl ?_
  refine wp_iconst (v0 := 0) d_X1_become_102 rfl ?_
  refine wp_aload_n 0 d_X1_become_103 rfl rfl ?_
  refine wp_getfield (v := .ref (33)) d_X1_become_104 gf_X1_36 (hp_25 _ _ _ _ _) rfl ?_
  refine wp_iconst (v0 := 0) d_X1_become_107 rfl ?_
  refine wp_iconst (v0 := 4) d_X1_become_108 rfl ?_
  refine wp_arraycopy (h' := HP c (setA (setS (setR (setA (setA (setA (setA (setA (setS w 2500 ((c.1 100))) 26 (va_cpy (c.2.1 2) (w.2.1 26) 0 0 9)) 27 (va_cpy (c.2.1 3) (w.2.1 27) 0 0 9)) 28 (va_cpy (c.2.1 4) (w.2.1 28) 0 0 9)) 29 (va_cpy (c.2.1 5) (w.2.1 29) 0 0 9)) 30 (va_cpy (c.2.1 6) (w.2.1 30) 0 0 4)) 25 ((c.2.2.1 1))) 2507 ((c.1 107))) 33 (va_cpy (c.2.1 9) (w.2.1 33) 0 0 4)) m v E) d_X1_become_109 ar_X1_63 ar_na ar_st ini_J10 (hp_9 _ _ _ _ _) (hp_33 _ _ _ _ _) (by decide) (by decide) (by decide) (by decide) (by decide) (Nat.le_of_ble_eq_true rfl) (hpa_33 _ _ _ _ _ _) ?_
  refine wp_aload_n 1 d_X1_become_112 rfl rfl ?_
  refine wp_getfield (v := .ref (10)) d_X1_become_113 gf_X1_39 (hp_1 _ _ _ _ _) rfl ?_
  refine wp_iconst (v0 := 0) d_X1_become_116 rfl ?_
  refine wp_aload_n 0 d_X1_become_117 rfl rfl ?_
  refine wp_getfield (v := .ref (34)) d_X1_become_118 gf_X1_39 (hp_25 _ _ _ _ _) rfl ?_
  refine wp_iconst (v0 := 0) d_X1_become_121 rfl ?_
  refine wp_iconst (v0 := 4) d_X1_become_122 rfl ?_
  refine wp_arraycopy (h' := HP c (setA (setA (setS (setR (setA (setA (setA (setA (setA (setS w 2500 ((c.1 100))) 26 (va_cpy (c.2.1 2) (w.2.1 26) 0 0 9)) 27 (va_cpy (c.2.1 3) (w.2.1 27) 0 0 9)) 28 (va_cpy (c.2.1 4) (w.2.1 28) 0 0 9)) 29 (va_cpy (c.2.1 5) (w.2.1 29) 0 0 9)) 30 (va_cpy (c.2.1 6) (w.2.1 30) 0 0 4)) 25 ((c.2.2.1 1))) 2507 ((c.1 107))) 33 (va_cpy (c.2.1 9) (w.2.1 33) 0 0 4)) 34 (va_cpy (c.2.1 10) (w.2.1 34) 0 0 4)) m v E) d_X1_become_123 ar_X1_63 ar_na ar_st ini_J10 (hp_10 _ _ _ _ _) (hp_34 _ _ _ _ _) (by decide) (by decide) (by decide) (by decide) (by decide) (Nat.le_of_ble_eq_true rfl) (hpa_34 _ _ _ _ _ _) ?_
  refine wp_aload_n 0 d_X1_become_126 rfl rfl ?_
  refine wp_aload_n 1 d_X1_become_127 rfl rfl ?_
  refine wp_getfield (v := .int ((c.1 110))) d_X1_become_128 gf_X1_69 (hp_1 _ _ _ _ _) rfl ?_
  refine wp_putfield (h' := HP c (setS (setA (setA (setS (setR (setA (setA (setA (setA (setA (setS w 2500 ((c.1 100))) 26 (va_cpy (c.2.1 2) (w.2.1 26) 0 0 9)) 27 (va_cpy (c.2.1 3) (w.2.1 27) 0 0 9)) 28 (va_cpy (c.2.1 4) (w.2.1 28) 0 0 9)) 29 (va_cpy (c.2.1 5) (w.2.1 29) 0 0 9)) 30 (va_cpy (c.2.1 6) (w.2.1 30) 0 0 4)) 25 ((c.2.2.1 1))) 2507 ((c.1 107))) 33 (va_cpy (c.2.1 9) (w.2.1 33) 0 0 4)) 34 (va_cpy (c.2.1 10) (w.2.1 34) 0 0 4)) 2510 ((c.1 110))) m v E) d_X1_become_131 gp_X1_69 (kfit_i _) (hp_25 _ _ _ _ _) (Nat.le_of_ble_eq_true rfl) (hps_25_10 _ _ _ _ _ _) ?_
  refine wp_aload_n 1 d_X1_become_134 rfl rfl ?_
  refine wp_getfield (v := .ref (11)) d_X1_become_135 gf_X1_42 (hp_1 _ _ _ _ _) rfl ?_
  refine wp_iconst (v0 := 0) d_X1_become_138 rfl ?_
  refine wp_aload_n 0 d_X1_become_139 rfl rfl ?_
  refine wp_getfield (v := .ref (35)) d_X1_become_140 gf_X1_42 (hp_25 _ _ _ _ _) rfl ?_
  refine wp_iconst (v0 := 0) d_X1_become_143 rfl ?_
  refine wp_bipush (v0 := 6) d_X1_become_144 (by decide) ?_
  refine wp_arraycopy (h' := HP c (setA (setS (setA (setA (setS (setR (setA (setA (setA (setA (setA (setS w 2500 ((c.1 100))) 26 (va_cpy (c.2.1 2) (w.2.1 26) 0 0 9)) 27 (va_cpy (c.2.1 3) (w.2.1 27) 0 0 9)) 28 (va_cpy (c.2.1 4) (w.2.1 28) 0 0 9)) 29 (va_cpy (c.2.1 5) (w.2.1 29) 0 0 9)) 30 (va_cpy (c.2.1 6) (w.2.1 30) 0 0 4)) 25 ((c.2.2.1 1))) 2507 ((c.1 107))) 33 (va_cpy (c.2.1 9) (w.2.1 33) 0 0 4)) 34 (va_cpy (c.2.1 10) (w.2.1 34) 0 0 4)) 2510 ((c.1 110))) 35 (va_cpy (c.2.1 11) (w.2.1 35) 0 0 6)) m v E) d_X1_become_146 ar_X1_63 ar_na ar_st ini_J10 (hp_11 _ _ _ _ _) (hp_35 _ _ _ _ _) (by decide) (by decide) (by decide) (by decide) (by decide) (Nat.le_of_ble_eq_true rfl) (hpa_35 _ _ _ _ _ _) ?_
  refine wp_aload_n 1 d_X1_become_149 rfl rfl ?_
  refine wp_getfield (v := .ref (12)) d_X1_become_150 gf_X1_45 (hp_1 _ _ _ _ _) rfl ?_
  refine wp_iconst (v0 := 0) d_X1_become_153 rfl ?_
  refine wp_aload_n 0 d_X1_become_154 rfl rfl ?_
  refine wp_getfield (v := .ref (36)) d_X1_become_155 gf_X1_45 (hp_25 _ _ _ _ _) rfl ?_
  refine wp_iconst (v0 := 0) d_X1_become_158 rfl ?_
  refine wp_bipush (v0 := 6) d_X1_become_159 (by decide) ?_
  refine wp_arraycopy (h' := HP c (setA (setA (setS (setA (setA (setS (setR (setA (setA (setA (setA (setA (setS w 2500 ((c.1 100))) 26 (va_cpy (c.2.1 2) (w.2.1 26) 0 0 9)) 27 (va_cpy (c.2.1 3) (w.2.1 27) 0 0 9)) 28 (va_cpy (c.2.1 4) (w.2.1 28) 0 0 9)) 29 (va_cpy (c.2.1 5) (w.2.1 29) 0 0 9)) 30 (va_cpy (c.2.1 6) (w.2.1 30) 0 0 4)) 25 ((c.2.2.1 1))) 2507 ((c.1 107))) 33 (va_cpy (c.2.1 9) (w.2.1 33) 0 0 4)) 34 (va_cpy (c.2.1 10) (w.2.1 34) 0 0 4)) 2510 ((c.1 110))) 35 (va_cpy (c.2.1 11) (w.2.1 35) 0 0 6)) 36 (va_cpy (c.2.1 12) (w.2.1 36) 0 0 6)) m v E) d_X1_become_161 ar_X1_63 ar_na ar_st ini_J10 (hp_12 _ _ _ _ _) (hp_36 _ _ _ _ _) (by decide) (by decide) (by decide) (by decide) (by decide) (Nat.le_of_ble_eq_true rfl) (hpa_36 _ _ _ _ _ _) ?_
  refine wp_aload_n 0 d_X1_become_164 rfl rfl ?_
  refine wp_aload_n 1 d_X1_become_165 rfl rfl ?_
  refine wp_getfield (v := .int ((c.1 113))) d_X1_become_166 gf_X1_48 (hp_1 _ _ _ _ _) rfl ?_
  refine wp_putfield (h' := HP c (setS (setA (setA (setS (setA (setA (setS (setR (setA (setA (setA (setA (setA (setS w 2500 ((c.1 100))) 26 (va_cpy (c.2.1 2) (w.2.1 26) 0 0 9)) 27 (va_cpy (c.2.1 3) (w.2.1 27) 0 0 9)) 28 (va_cpy (c.2.1 4) (w.2.1 28) 0 0 9)) 29 (va_cpy (c.2.1 5) (w.2.1 29) 0 0 9)) 30 (va_cpy (c.2.1 6) (w.2.1 30) 0 0 4)) 25 ((c.2.2.1 1))) 2507 ((c.1 107))) 33 (va_cpy (c.2.1 9) (w.2.1 33) 0 0 4)) 34 (va_cpy (c.2.1 10) (w.2.1 34) 0 0 4)) 2510 ((c.1 110))) 35 (va_cpy (c.2.1 11) (w.2.1 35) 0 0 6)) 36 (va_cpy (c.2.1 12) (w.2.1 36) 0 0 6)) 2513 ((c.1 113))) m v E) d_X1_become_169 gp_X1_48 (kfit_i _) (hp_25 _ _ _ _ _) (Nat.le_of_ble_eq_true rfl) (hps_25_13 _ _ _ _ _ _) ?_
  refine wp_vret d_X1_become_172 rfl ?_
  refine ⟨rfl, _, rfl, ?_, ?_⟩
  · refine ⟨⟨rfl, rfl, rfl, rfl⟩, fun j h9 => k_cpy h9, fun j h9 => k_cpy h9, fun j h9 => k_cpy h9, fun j h9 => k_cpy h9, fun j h9 => k_cpy h9, fun j h9 => k_cpy h9, fun j h9 => k_cpy h9, fun j h9 => k_cpy h9, fun j h9 => k_cpy h9, rfl⟩
  · refine ⟨fun k h9 => ?_, fun k h9 => ?_, fun k h9 => ?_, rfl⟩
    · simp only [setS, setA, setR, upd]; repeat rw [if_neg (by omega)]
    · simp only [setS, setA, setR, updA]; repeat rw [if_neg (by omega)]
    · simp only [setS, setA, setR, updA]; repeat rw [if_neg h9]
theorem s_X1_become_60_1 {X : kX} {d : Nat} {c w m v : kZ} {E : kH}  : WP X (d + 1) 0 0 Y_X1_become 0 [(0, .ref (60)), (1, .ref (1))] [] (HP c w m v E) (fun r h1 => r = none ∧ ∃ w' : kZ, h1 = HP c w' m v E ∧ kBc w' 60 c 1 ∧ kBf w 60 w') := by
  refine wp_aload_n 0 d_X1_become_0 rfl rfl ?_
  refine wp_aload_n 1 d_X1_become_1 rfl rfl ?_
  refine wp_getfield (v := .int ((c.1 100))) d_X1_become_2 gf_X1_52 (hp_1 _ _ _ _ _) rfl ?_
  refine wp_putfield (h' := HP c (setS w 6000 ((c.1 100))) m v E) d_X1_become_5 gp_X1_52 (kfit_i _) (hp_60 _ _ _ _ _) (Nat.le_of_ble_eq_true rfl) (hps_60_0 _ _ _ _ _ _) ?_
  refine wp_aload_n 1 d_X1_become_8 rfl rfl ?_
  refine wp_getfield (v := .ref (2)) d_X1_become_9 gf_X1_9 (hp_1 _ _ _ _ _) rfl ?_
  refine wp_iconst (v0 := 0) d_X1_become_12 rfl ?_
  refine wp_aload_n 0 d_X1_become_13 rfl rfl ?_
  refine wp_getfield (v := .ref (61)) d_X1_become_14 gf_X1_9 (hp_60 _ _ _ _ _) rfl ?_
  refine wp_iconst (v0 := 0) d_X1_become_17 rfl ?_
  refine wp_bipush (v0 := 9) d_X1_become_18 (by decide) ?_
  refine wp_arraycopy (h' := HP c (setA (setS w 6000 ((c.1 100))) 61 (va_cpy (c.2.1 2) (w.2.1 61) 0 0 9)) m v E) d_X1_become_20 ar_X1_63 ar_na ar_st ini_J10 (hp_2 _ _ _ _ _) (hp_61 _ _ _ _ _) (by decide) (by decide) (by decide) (by decide) (by decide) (Nat.le_of_ble_eq_true rfl) (hpa_61 _ _ _ _ _ _) ?_
  refine wp_aload_n 1 d_X1_become_23 rfl rfl ?_
  refine wp_getfield (v := .ref (3)) d_X1_become_24 gf_X1_15 (hp_1 _ _ _ _ _) rfl ?_
  refine wp_iconst (v0 := 0) d_X1_become_27 rfl ?_
  refine wp_aload_n 0 d_X1_become_28 rfl rfl ?_
  refine wp_getfield (v := .ref (62)) d_X1_become_29 gf_X1_15 (hp_60 _ _ _ _ _) rfl ?_
  refine wp_iconst (v0 := 0) d_X1_become_32 rfl ?_
  refine wp_bipush (v0 := 9) d_X1_become_33 (by decide) ?_
  refine wp_arraycopy (h' := HP c (setA (setA (setS w 6000 ((c.1 100))) 61 (va_cpy (c.2.1 2) (w.2.1 61) 0 0 9)) 62 (va_cpy (c.2.1 3) (w.2.1 62) 0 0 9)) m v E) d_X1_become_35 ar_X1_63 ar_na ar_st ini_J10 (hp_3 _ _ _ _ _) (hp_62 _ _ _ _ _) (by decide) (by decide) (by decide) (by decide) (by decide) (Nat.le_of_ble_eq_true rfl) (hpa_62 _ _ _ _ _ _) ?_
  refine wp_aload_n 1 d_X1_become_38 rfl rfl ?_
  refine wp_getfield (v := .ref (4)) d_X1_become_39 gf_X1_18 (hp_1 _ _ _ _ _) rfl ?_
  refine wp_iconst (v0 := 0) d_X1_become_42 rfl ?_
  refine wp_aload_n 0 d_X1_become_43 rfl rfl ?_
  refine wp_getfield (v := .ref (63)) d_X1_become_44 gf_X1_18 (hp_60 _ _ _ _ _) rfl ?_
  refine wp_iconst (v0 := 0) d_X1_become_47 rfl ?_
  refine wp_bipush (v0 := 9) d_X1_become_48 (by decide) ?_
  refine wp_arraycopy (h' := HP c (setA (setA (setA (setS w 6000 ((c.1 100))) 61 (va_cpy (c.2.1 2) (w.2.1 61) 0 0 9)) 62 (va_cpy (c.2.1 3) (w.2.1 62) 0 0 9)) 63 (va_cpy (c.2.1 4) (w.2.1 63) 0 0 9)) m v E) d_X1_become_50 ar_X1_63 ar_na ar_st ini_J10 (hp_4 _ _ _ _ _) (hp_63 _ _ _ _ _) (by decide) (by decide) (by decide) (by decide) (by decide) (Nat.le_of_ble_eq_true rfl) (hpa_63 _ _ _ _ _ _) ?_
  refine wp_aload_n 1 d_X1_become_53 rfl rfl ?_
  refine wp_getfield (v := .ref (5)) d_X1_become_54 gf_X1_21 (hp_1 _ _ _ _ _) rfl ?_
  refine wp_iconst (v0 := 0) d_X1_become_57 rfl ?_
  refine wp_aload_n 0 d_X1_become_58 rfl rfl ?_
  refine wp_getfield (v := .ref (64)) d_X1_become_59 gf_X1_21 (hp_60 _ _ _ _ _) rfl ?_
  refine wp_iconst (v0 := 0) d_X1_become_62 rfl ?_
  refine wp_bipush (v0 := 9) d_X1_become_63 (by decide) ?_
  refine wp_arraycopy (h' := HP c (setA (setA (setA (setA (setS w 6000 ((c.1 100))) 61 (va_cpy (c.2.1 2) (w.2.1 61) 0 0 9)) 62 (va_cpy (c.2.1 3) (w.2.1 62) 0 0 9)) 63 (va_cpy (c.2.1 4) (w.2.1 63) 0 0 9)) 64 (va_cpy (c.2.1 5) (w.2.1 64) 0 0 9)) m v E) d_X1_become_65 ar_X1_63 ar_na ar_st ini_J10 (hp_5 _ _ _ _ _) (hp_64 _ _ _ _ _) (by decide) (by decide) (by decide) (by decide) (by decide) (Nat.le_of_ble_eq_true rfl) (hpa_64 _ _ _ _ _ _) ?_
  refine wp_aload_n 1 d_X1_become_68 rfl rfl ?_
  refine wp_getfield (v := .ref (6)) d_X1_become_69 gf_X1_24 (hp_1 _ _ _ _ _) rfl ?_
  refine wp_iconst (v0 := 0) d_X1_become_72 rfl ?_
  refine wp_aload_n 0 d_X1_become_73 rfl rfl ?_
  refine wp_getfield (v := .ref (65)) d_X1_become_74 gf_X1_24 (hp_60 _ _ _ _ _) rfl ?_
  refine wp_iconst (v0 := 0) d_X1_become_77 rfl ?_
  refine wp_iconst (v0 := 4) d_X1_become_78 rfl ?_
  refine wp_arraycopy (h' := HP c (setA (setA (setA (setA (setA (setS w 6000 ((c.1 100))) 61 (va_cpy (c.2.1 2) (w.2.1 61) 0 0 9)) 62 (va_cpy (c.2.1 3) (w.2.1 62) 0 0 9)) 63 (va_cpy (c.2.1 4) (w.2.1 63) 0 0 9)) 64 (va_cpy (c.2.1 5) (w.2.1 64) 0 0 9)) 65 (va_cpy (c.2.1 6) (w.2.1 65) 0 0 4)) m v E) d_X1_become_79 ar_X1_63 ar_na ar_st ini_J10 (hp_6 _ _ _ _ _) (hp_65 _ _ _ _ _) (by decide) (by decide) (by decide) (by decide) (by decide) (Nat.le_of_ble_eq_true rfl) (hpa_65 _ _ _ _ _ _) ?_
  refine wp_aload_n 0 d_X1_become_82 rfl rfl ?_
  refine wp_aload_n 1 d_X1_become_83 rfl rfl ?_
  refine wp_getfield (v := .ref ((c.2.2.1 1))) d_X1_become_84 gf_X1_32 (hp_1 _ _ _ _ _) rfl ?_
  refine wp_putfield (h' := HP c (setR (setA (setA (setA (setA (setA (setS w 6000 ((c.1 100))) 61 (va_cpy (c.2.1 2) (w.2.1 61) 0 0 9)) 62 (va_cpy (c.2.1 3) (w.2.1 62) 0 0 9)) 63 (va_cpy (c.2.1 4) (w.2.1 63) 0 0 9)) 64 (va_cpy (c.2.1 5) (w.2.1 64) 0 0 9)) 65 (va_cpy (c.2.1 6) (w.2.1 65) 0 0 4)) 60 ((c.2.2.1 1))) m v E) d_X1_become_87 gp_X1_32 (kfit_o _) (hp_60 _ _ _ _ _) (Nat.le_of_ble_eq_true rfl) (hpr_60_6 _ _ _ _ _ _) ?_
  refine wp_aload_n 0 d_X1_become_90 rfl rfl ?_
  refine wp_aload_n 1 d_X1_become_91 rfl rfl ?_
  refine wp_getfield (v := .int ((c.1 107))) d_X1_become_92 gf_X1_59 (hp_1 _ _ _ _ _) rfl ?_
  refine wp_putfield (h' := HP c (setS (setR (setA (setA (setA (setA (setA (setS w 6000 ((c.1 100))) 61 (va_cpy (c.2.1 2) (w.2.1 61) 0 0 9)) 62 (va_cpy (c.2.1 3) (w.2.1 62) 0 0 9)) 63 (va_cpy (c.2.1 4) (w.2.1 63) 0 0 9)) 64 (va_cpy (c.2.1 5) (w.2.1 64) 0 0 9)) 65 (va_cpy (c.2.1 6) (w.2.1 65) 0 0 4)) 60 ((c.2.2.1 1))) 6007 ((c.1 107))) m v E) d_X1_become_95 gp_X1_59 (kfit_i _) (hp_60 _ _ _ _ _) (Nat.le_of_ble_eq_true rfl) (hps_60_7 _ _ _ _ _ _) ?_
  refine wp_aload_n 1 d_X1_become_98 rfl rfl ?_
  refine wp_getfield (v := .ref (9)) d_X1_become_99 gf_X1_36 (hp_1 _ _ _ _ _) rfl ?_
  refine wp_iconst (v0 := 0) d_X1_become_102 rfl ?_
  refine wp_aload_n 0 d_X1_become_103 rfl rfl ?_
  refine wp_getfield (v := .ref (68)) d_X1_become_104 gf_X1_36 (hp_60 _ _ _ _ _) rfl ?_
  refine wp_iconst (v0 := 0) d_X1_become_107 rfl ?_
  refine wp_iconst (v0 := 4) d_X1_become_108 rfl ?_
  refine wp_arraycopy (h' := HP c (setA (setS (setR (setA (setA (setA (setA (setA (setS w 6000 ((c.1 100))) 61 (va_cpy (c.2.1 2) (w.2.1 61) 0 0 9)) 62 (va_cpy (c.2.1 3) (w.2.1 62) 0 0 9)) 63 (va_cpy (c.2.1 4) (w.2.1 63) 0 0 9)) 64 (va_cpy (c.2.1 5) (w.2.1 64) 0 0 9)) 65 (va_cpy (c.2.1 6) (w.2.1 65) 0 0 4)) 60 ((c.2.2.1 1))) 6007 ((c.1 107))) 68 (va_cpy (c.2.1 9) (w.2.1 68) 0 0 4)) m v E) d_X1_become_109 ar_X1_63 ar_na ar_st ini_J10 (hp_9 _ _ _ _ _) (hp_68 _ _ _ _ _) (by decide) (by decide) (by decide) (by decide) (by decide) (Nat.le_of_ble_eq_true rfl) (hpa_68 _ _ _ _ _ _) ?_
  refine wp_aload_n 1 d_X1_become_112 rfl rfl ?_
  refine wp_getfield (v := .ref (10)) d_X1_become_113 gf_X1_39 (hp_1 _ _ _ _ _) rfl ?_
  refine wp_iconst (v0 := 0) d_X1_become_116 rfl ?_
  refine wp_aload_n 0 d_X1_become_117 rfl rfl ?_
  refine wp_getfield (v := .ref (69)) d_X1_become_118 gf_X1_39 (hp_60 _ _ _ _ _) rfl ?_
  refine wp_iconst (v0 := 0) d_X1_become_121 rfl ?_
  refine wp_iconst (v0 := 4) d_X1_become_122 rfl ?_
  refine wp_arraycopy (h' := HP c (setA (setA (setS (setR (setA (setA (setA (setA (setA (setS w 6000 ((c.1 100))) 61 (va_cpy (c.2.1 2) (w.2.1 61) 0 0 9)) 62 (va_cpy (c.2.1 3) (w.2.1 62) 0 0 9)) 63 (va_cpy (c.2.1 4) (w.2.1 63) 0 0 9)) 64 (va_cpy (c.2.1 5) (w.2.1 64) 0 0 9)) 65 (va_cpy (c.2.1 6) (w.2.1 65) 0 0 4)) 60 ((c.2.2.1 1))) 6007 ((c.1 107))) 68 (va_cpy (c.2.1 9) (w.2.1 68) 0 0 4)) 69 (va_cpy (c.2.1 10) (w.2.1 69) 0 0 4)) m v E) d_X1_become_123 ar_X1_63 ar_na ar_st ini_J10 (hp_10 _ _ _ _ _) (hp_69 _ _ _ _ _) (by decide) (by decide) (by decide) (by decide) (by decide) (Nat.le_of_ble_eq_true rfl) (hpa_69 _ _ _ _ _ _) ?_
  refine wp_aload_n 0 d_X1_become_126 rfl rfl ?_
  refine wp_aload_n 1 d_X1_become_127 rfl rfl ?_
  refine wp_getfield (v := .int ((c.1 110))) d_X1_become_128 gf_X1_69 (hp_1 _ _ _ _ _) rfl ?_
  refine wp_putfield (h' := HP c (setS (setA (setA (setS (setR (setA (setA (setA (setA (setA (setS w 6000 ((c.1 100))) 61 (va_cpy (c.2.1 2) (w.2.1 61) 0 0 9)) 62 (va_cpy (c.2.1 3) (w.2.1 62) 0 0 9)) 63 (va_cpy (c.2.1 4) (w.2.1 63) 0 0 9)) 64 (va_cpy (c.2.1 5) (w.2.1 64) 0 0 9)) 65 (va_cpy (c.2.1 6) (w.2.1 65) 0 0 4)) 60 ((c.2.2.1 1))) 6007 ((c.1 107))) 68 (va_cpy (c.2.1 9) (w.2.1 68) 0 0 4)) 69 (va_cpy (c.2.1 10) (w.2.1 69) 0 0 4)) 6010 ((c.1 110))) m v E) d_X1_become_131 gp_X1_69 (kfit_i _) (hp_60 _ _ _ _ _) (Nat.le_of_ble_eq_true rfl) (hps_60_10 _ _ _ _ _ _) ?_
  refine wp_aload_n 1 d_X1_become_134 rfl rfl ?_
  refine wp_getfield (v := .ref (11)) d_X1_become_135 gf_X1_42 (hp_1 _ _ _ _ _) rfl ?_
  refine wp_iconst (v0 := 0) d_X1_become_138 rfl ?_
  refine wp_aload_n 0 d_X1_become_139 rfl rfl ?_
  refine wp_getfield (v := .ref (70)) d_X1_become_140 gf_X1_42 (hp_60 _ _ _ _ _) rfl ?_
  refine wp_iconst (v0 := 0) d_X1_become_143 rfl ?_
  refine wp_bipush (v0 := 6) d_X1_become_144 (by decide) ?_
  refine wp_arraycopy (h' := HP c (setA (setS (setA (setA (setS (setR (setA (setA (setA (setA (setA (setS w 6000 ((c.1 100))) 61 (va_cpy (c.2.1 2) (w.2.1 61) 0 0 9)) 62 (va_cpy (c.2.1 3) (w.2.1 62) 0 0 9)) 63 (va_cpy (c.2.1 4) (w.2.1 63) 0 0 9)) 64 (va_cpy (c.2.1 5) (w.2.1 64) 0 0 9)) 65 (va_cpy (c.2.1 6) (w.2.1 65) 0 0 4)) 60 ((c.2.2.1 1))) 6007 ((c.1 107))) 68 (va_cpy (c.2.1 9) (w.2.1 68) 0 0 4)) 69 (va_cpy (c.2.1 10) (w.2.1 69) 0 0 4)) 6010 ((c.1 110))) 70 (va_cpy (c.2.1 11) (w.2.1 70) 0 0 6)) m v E) d_X1_become_146 ar_X1_63 ar_na ar_st ini_J10 (hp_11 _ _ _ _ _) (hp_70 _ _ _ _ _) (by decide) (by decide) (by decide) (by decide) (by decide) (Nat.le_of_ble_eq_true rfl) (hpa_70 _ _ _ _ _ _) ?_
  refine wp_aload_n 1 d_X1_become_149 rfl rfl ?_
  refine wp_getfield (v := .ref (12)) d_X1_become_150 gf_X1_45 (hp_1 _ _ _ _ _) rfl ?_
  refine wp_iconst (v0 := 0) d_X1_become_153 rfl ?_
  refine wp_aload_n 0 d_X1_become_154 rfl rfl ?_
  refine wp_getfield (v := .ref (71)) d_X1_become_155 gf_X1_45 (hp_60 _ _ _ _ _) rfl ?_
  refine wp_iconst (v0 := 0) d_X1_become_158 rfl ?_
  refine wp_bipush (v0 := 6) d_X1_become_159 (by decide) ?_
  refine wp_arraycopy (h' := HP c (setA (setA (setS (setA (setA (setS (setR (setA (setA (setA (setA (setA (setS w 6000 ((c.1 100))) 61 (va_cpy (c.2.1 2) (w.2.1 61) 0 0 9)) 62 (va_cpy (c.2.1 3) (w.2.1 62) 0 0 9)) 63 (va_cpy (c.2.1 4) (w.2.1 63) 0 0 9)) 64 (va_cpy (c.2.1 5) (w.2.1 64) 0 0 9)) 65 (va_cpy (c.2.1 6) (w.2.1 65) 0 0 4)) 60 ((c.2.2.1 1))) 6007 ((c.1 107))) 68 (va_cpy (c.2.1 9) (w.2.1 68) 0 0 4)) 69 (va_cpy (c.2.1 10) (w.2.1 69) 0 0 4)) 6010 ((c.1 110))) 70 (va_cpy (c.2.1 11) (w.2.1 70) 0 0 6)) 71 (va_cpy (c.2.1 12) (w.2.1 71) 0 0 6)) m v E) d_X1_become_161 ar_X1_63 ar_na ar_st ini_J10 (hp_12 _ _ _ _ _) (hp_71 _ _ _ _ _) (by decide) (by decide) (by decide) (by decide) (by decide) (Nat.le_of_ble_eq_true rfl) (hpa_71 _ _ _ _ _ _) ?_
  refine wp_aload_n 0 d_X1_become_164 rfl rfl ?_
  refine wp_aload_n 1 d_X1_become_165 rfl rfl ?_
  refine wp_getfield (v := .int ((c.1 113))) d_X1_become_166 gf_X1_48 (hp_1 _ _ _ _ _) rfl ?_
  refine wp_putfield (h' := HP c (setS (setA (setA (setS (setA (setA (setS (setR (setA (setA (setA (setA (setA (setS w 6000 ((c.1 100))) 61 (va_cpy (c.2.1 2) (w.2.1 61) 0 0 9)) 62 (va_cpy (c.2.1 3) (w.2.1 62) 0 0 9)) 63 (va_cpy (c.2.1 4) (w.2.1 63) 0 0 9)) 64 (va_cpy (c.2.1 5) (w.2.1 64) 0 0 9)) 65 (va_cpy (c.2.1 6) (w.2.1 65) 0 0 4)) 60 ((c.2.2.1 1))) 6007 ((c.1 107))) 68 (va_cpy (c.2.1 9) (w.2.1 68) 0 0 4)) 69 (va_cpy (c.2.1 10) (w.2.1 69) 0 0 4)) 6010 ((c.1 110))) 70 (va_cpy (c.2.1 11) (w.2.1 70) 0 0 6)) 71 (va_cpy (c.2.1 12) (w.2.1 71) 0 0 6)) 6013 ((c.1 113))) m v E) d_X1_become_169 gp_X1_48 (kfit_i _) (hp_60 _ _ _ _ _) (Nat.le_of_ble_eq_true rfl) (hps_60_13 _ _ _ _ _ _) ?_
  refine wp_vret d_X1_become_172 rfl ?_
  refine ⟨rfl, _, rfl, ?_, ?_⟩
  · refine ⟨⟨rfl, rfl, rfl, rfl⟩, fun j h9 => k_cpy h9, fun j h9 => k_cpy h9, fun j h9 => k_cpy h9, fun j h9 => k_cpy h9, fun j h9 => k_cpy h9, fun j h9 => k_cpy h9, fun j h9 => k_cpy h9, fun j h9 => k_cpy h9, fun j h9 => k_cpy h9, rfl⟩
  · refine ⟨fun k h9 => ?_, fun k h9 => ?_, fun k h9 => ?_, rfl⟩
    · simp only [setS, setA, setR, upd]; repeat rw [if_neg (by omega)]
    · simp only [setS, setA, setR, updA]; repeat rw [if_neg (by omega)]
    · simp only [setS, setA, setR, updA]; repeat rw [if_neg h9]
