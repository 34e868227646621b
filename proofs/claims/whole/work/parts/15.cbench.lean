/-! ===== the bench that is now: small readings ===== -/
theorem s_X1_hasLens {X : kX} {d : Nat} {c w m v : kZ} {E : kH} {n : Nat} (hn : c.1 100 = nI n) (hn9 : n ≤ 9) (l : Int32) : WP X (d + 1) 0 0 Y_X1_hasLens 0 [(0, .ref (1)), (1, .int (l))] [] (HP c w m v E) (kR (some (.int (kb (0 ≤ l.toInt ∧ l.toInt < (n : Int))))) (HP c w m v E)) := by
  refine wp_iload_n 1 d_X1_hasLens_0 rfl rfl ?_
  refine wp_iconst (v0 := 0) d_X1_hasLens_1 rfl ?_
  refine wp_aload_n 0 d_X1_hasLens_2 rfl rfl ?_
  refine wp_getfield (v := .int (nI n)) d_X1_hasLens_3 gf_X1_52 (hp_1 _ _ _ _ _) (congrArg (fun z => some (Value.int z)) hn) ?_
  refine wp_iconst (v0 := 1) d_X1_hasLens_6 rfl ?_
  refine wp_isub d_X1_hasLens_7 ?_
  refine wp_stc_i (As := [.int (l), .int (0), .int ((nI n) - (1))]) (x0 := kb (0 ≤ (l : Int32).toInt ∧ (l : Int32).toInt ≤ ((nI n) - (1) : Int32).toInt)) (h1 := HP c w m v E) d_X1_hasLens_8 lk_X1_55 mv_X9_isWithin st_X9_isWithin (Nat.le_of_ble_eq_true rfl) (Nat.le_of_ble_eq_true rfl) (s_X9_isWithin _ (l : Int32) (0 : Int32) ((nI n) - (1) : Int32)) ?_
  refine wp_retb d_X1_hasLens_11 rfl ?_
  exact kR_i (kb_iff (by rw [kn_pred (by omega)]; constructor <;> intro q9 <;> exact ⟨by simpa using q9.1, by omega⟩)) rfl
theorem s_X1_hasPlace {X : kX} {d : Nat} {c w m v : kZ} {E : kH} {p : Nat} (hp : c.1 107 = nI p) (hp9 : p ≤ 9) (l : Int32) : WP X (d + 1) 0 0 Y_X1_hasPlace 0 [(0, .ref (1)), (1, .int (l))] [] (HP c w m v E) (kR (some (.int (kb (0 ≤ l.toInt ∧ l.toInt < (p : Int))))) (HP c w m v E)) := by
  refine wp_iload_n 1 d_X1_hasPlace_0 rfl rfl ?_
  refine wp_iconst (v0 := 0) d_X1_hasPlace_1 rfl ?_
  refine wp_aload_n 0 d_X1_hasPlace_2 rfl rfl ?_
  refine wp_getfield (v := .int (nI p)) d_X1_hasPlace_3 gf_X1_59 (hp_1 _ _ _ _ _) (congrArg (fun z => some (Value.int z)) hp) ?_
  refine wp_iconst (v0 := 1) d_X1_hasPlace_6 rfl ?_
  refine wp_isub d_X1_hasPlace_7 ?_
  refine wp_stc_i (As := [.int (l), .int (0), .int ((nI p) - (1))]) (x0 := kb (0 ≤ (l : Int32).toInt ∧ (l : Int32).toInt ≤ ((nI p) - (1) : Int32).toInt)) (h1 := HP c w m v E) d_X1_hasPlace_8 lk_X1_55 mv_X9_isWithin st_X9_isWithin (Nat.le_of_ble_eq_true rfl) (Nat.le_of_ble_eq_true rfl) (s_X9_isWithin _ (l : Int32) (0 : Int32) ((nI p) - (1) : Int32)) ?_
  refine wp_retb d_X1_hasPlace_11 rfl ?_
  exact kR_i (kb_iff (by rw [kn_pred (by omega)]; constructor <;> intro q9 <;> exact ⟨by simpa using q9.1, by omega⟩)) rfl
theorem s_X1_placeOf_l {X : kX} {d : Nat} {c w m v : kZ} {E : kH} {p : Nat} (hp : c.1 107 = nI p) (hp4 : p ≤ 4) (l : Int32) : ∀ k i, i + k = p → WP X d 0 0 Y_X1_placeOf 2 [(2, .int (nI (i))), (0, .ref 1), (1, .int l)] [] (HP c w m v E) (kR (some (.int (kfi (c.2.1 9) l k i))) (HP c w m v E)) := by
  intro k
  induction k with
  | zero =>
    intro i hi
    refine wp_iload_n 0 d_X1_placeOf_2 rfl rfl ?_
    refine wp_aload_n 1 d_X1_placeOf_3 rfl rfl ?_
    refine wp_getfield (v := .int (nI (p))) d_X1_placeOf_4 gf_X1_59 (hp_1 _ _ _ _ _) (congrArg (fun z => some (Value.int z)) hp) ?_
    refine wp_ncmp_ge (a := i) (b := p) 28 d_X1_placeOf_7 rfl (by omega) (by omega) (fun c7 => ?_) (fun c7 => absurd c7 (by omega))
    · refine wp_bipush (v0 := -9) d_X1_placeOf_28 (by decide) ?_
      refine wp_reti d_X1_placeOf_30 rfl ?_
      exact kR_i (by simp only [kfi]) rfl
  | succ k ih =>
    intro i hi
    refine wp_iload_n 0 d_X1_placeOf_2 rfl rfl ?_
    refine wp_aload_n 1 d_X1_placeOf_3 rfl rfl ?_
    refine wp_getfield (v := .int (nI (p))) d_X1_placeOf_4 gf_X1_59 (hp_1 _ _ _ _ _) (congrArg (fun z => some (Value.int z)) hp) ?_
    refine wp_ncmp_ge (a := i) (b := p) 28 d_X1_placeOf_7 rfl (by omega) (by omega) (fun c7 => absurd c7 (by omega)) (fun c7 => ?_)
    · refine wp_aload_n 1 d_X1_placeOf_10 rfl rfl ?_
      refine wp_getfield (v := .ref (9)) d_X1_placeOf_11 gf_X1_36 (hp_1 _ _ _ _ _) rfl ?_
      refine wp_iload_n 0 d_X1_placeOf_14 rfl rfl ?_
      refine wp_iaload (v := (c.2.1 9) (i)) d_X1_placeOf_15 (hp_9 _ _ _ _ _) (vp_in_nI (by omega) (by omega)) (congrArg ((c.2.1 9)) (nI_clamp (by omega))) ?_
      refine wp_iload_n 2 d_X1_placeOf_16 rfl rfl ?_
      refine wp_icmp_ne 22 d_X1_placeOf_17 rfl (fun c17 => ?_) (fun c17 => ?_)
      · refine wp_iinc (v0 := nI ((i) + 1)) [(2, .int (nI ((i) + 1))), (0, .ref (1)), (1, .int (l))] 0 d_X1_placeOf_22 rfl (nI_add (i) 1) (Nat.le_of_ble_eq_true rfl) rfl ?_
        refine wp_goto 2 d_X1_placeOf_25 rfl ?_
        simp only [kfi]; rw [if_neg c17]
        exact ih (i + 1) (by omega)
      · refine wp_iload_n 0 d_X1_placeOf_20 rfl rfl ?_
        refine wp_reti d_X1_placeOf_21 rfl ?_
        exact kR_i (by simp only [kfi]; rw [if_pos c17]) rfl
theorem s_X1_placeOf {X : kX} {d : Nat} {c w m v : kZ} {E : kH} {p : Nat} (hp : c.1 107 = nI p) (hp4 : p ≤ 4) (l : Int32) : WP X d 0 0 Y_X1_placeOf 0 [(0, .ref 1), (1, .int l)] [] (HP c w m v E) (kR (some (.int (kfi (c.2.1 9) l p 0))) (HP c w m v E)) := by
  refine wp_iconst (v0 := 0) d_X1_placeOf_0 rfl ?_
  refine wp_istore_n [(2, .int (0)), (0, .ref (1)), (1, .int (l))] d_X1_placeOf_1 rfl (Nat.le_of_ble_eq_true rfl) rfl ?_
  refine wp_sub [(2, .int (nI 0)), (0, .ref 1), (1, .int l)] [0, 1, 2] rfl ?_
  exact s_X1_placeOf_l hp hp4 l p 0 (by omega)
theorem s_X9_lens {X : kX} {d : Nat} {c w m v : kZ} {E : kH} {n : Nat} (hn : c.1 100 = nI n) (hn9 : n ≤ 9) (kd bd tl pr : Int32) : WP X (d + 2) 0 0 Y_X9_lens 0 [(0, .ref (0)), (1, .int (kd)), (2, .int (bd)), (3, .int (tl)), (4, .int (pr))] [] (HP c w m v E) (fun r h1 => ((¬ (1 ≤ kd.toInt ∧ kd.toInt ≤ 5 ∧ -9 ≤ bd.toInt ∧ bd.toInt ≤ 9 ∧ -9 ≤ tl.toInt ∧ tl.toInt ≤ 9 ∧ 1 ≤ pr.toInt ∧ pr.toInt ≤ 999)) ∧ r = some (.int (-1)) ∧ h1 = HP c w m v E) ∨ (((1 ≤ kd.toInt ∧ kd.toInt ≤ 5 ∧ -9 ≤ bd.toInt ∧ bd.toInt ≤ 9 ∧ -9 ≤ tl.toInt ∧ tl.toInt ≤ 9 ∧ 1 ≤ pr.toInt ∧ pr.toInt ≤ 999) ∧ n = 9) ∧ r = some (.int (-2)) ∧ h1 = HP c w m v E) ∨ (((1 ≤ kd.toInt ∧ kd.toInt ≤ 5 ∧ -9 ≤ bd.toInt ∧ bd.toInt ≤ 9 ∧ -9 ≤ tl.toInt ∧ tl.toInt ≤ 9 ∧ 1 ≤ pr.toInt ∧ pr.toInt ≤ 999) ∧ n < 9) ∧ r = some (.int (nI n)) ∧ h1 = HP (setS (setA (setA (setA (setA c 2 (upd (c.2.1 2) n kd)) 3 (upd (c.2.1 3) n bd)) 4 (upd (c.2.1 4) n tl)) 5 (upd (c.2.1 5) n pr)) 100 (nI (n + 1))) w m v E)) := by
  refine wp_iload_n 1 d_X9_lens_0 rfl rfl ?_
  refine wp_stc_i (As := [.int (kd)]) (x0 := kb (1 ≤ (kd : Int32).toInt ∧ (kd : Int32).toInt ≤ 5)) (h1 := HP c w m v E) d_X9_lens_1 lk_X9_91 mv_X9_isMadeKind st_X9_isMadeKind (Nat.le_of_ble_eq_true rfl) (Nat.le_of_ble_eq_true rfl) (s_X9_isMadeKind _ (kd : Int32)) ?_
  refine wp_ifb_eq 33 d_X9_lens_4 rfl (fun c4 => ?_) (fun c4 => ?_)
  · refine wp_iconst (v0 := -1) d_X9_lens_33 rfl ?_
    refine wp_reti d_X9_lens_34 rfl ?_
    exact Or.inl ⟨by omega, rfl, rfl⟩
  · refine wp_iload_n 2 d_X9_lens_7 rfl rfl ?_
    refine wp_stc_i (As := [.int (bd)]) (x0 := kb (-9 ≤ (bd : Int32).toInt ∧ (bd : Int32).toInt ≤ 9)) (h1 := HP c w m v E) d_X9_lens_8 lk_X9_95 mv_X9_isSmall st_X9_isSmall (Nat.le_of_ble_eq_true rfl) (Nat.le_of_ble_eq_true rfl) (s_X9_isSmall _ (bd : Int32)) ?_
    refine wp_ifb_eq 33 d_X9_lens_11 rfl (fun c11 => ?_) (fun c11 => ?_)
    · refine wp_iconst (v0 := -1) d_X9_lens_33 rfl ?_
      refine wp_reti d_X9_lens_34 rfl ?_
      exact Or.inl ⟨by omega, rfl, rfl⟩
    · refine wp_iload_n 3 d_X9_lens_14 rfl rfl ?_
      refine wp_stc_i (As := [.int (tl)]) (x0 := kb (-9 ≤ (tl : Int32).toInt ∧ (tl : Int32).toInt ≤ 9)) (h1 := HP c w m v E) d_X9_lens_15 lk_X9_95 mv_X9_isSmall st_X9_isSmall (Nat.le_of_ble_eq_true rfl) (Nat.le_of_ble_eq_true rfl) (s_X9_isSmall _ (tl : Int32)) ?_
      refine wp_ifb_eq 33 d_X9_lens_18 rfl (fun c18 => ?_) (fun c18 => ?_)
      · refine wp_iconst (v0 := -1) d_X9_lens_33 rfl ?_
        refine wp_reti d_X9_lens_34 rfl ?_
        exact Or.inl ⟨by omega, rfl, rfl⟩
      · refine wp_iload 4 d_X9_lens_21 rfl ?_
        refine wp_iconst (v0 := 1) d_X9_lens_23 rfl ?_
        refine wp_sipush (v0 := 999) d_X9_lens_24 (by decide) ?_
        refine wp_stc_i (As := [.int (pr), .int (1), .int (999)]) (x0 := kb (1 ≤ (pr : Int32).toInt ∧ (pr : Int32).toInt ≤ 999)) (h1 := HP c w m v E) d_X9_lens_27 lk_X9_98 mv_X9_isWithin st_X9_isWithin (Nat.le_of_ble_eq_true rfl) (Nat.le_of_ble_eq_true rfl) (s_X9_isWithin _ (pr : Int32) (1 : Int32) (999 : Int32)) ?_
        refine wp_ifb_ne 35 d_X9_lens_30 rfl (fun c30 => ?_) (fun c30 => ?_)
        · refine wp_aload_n 0 d_X9_lens_35 rfl rfl ?_
          refine wp_getfield (v := .ref (1)) d_X9_lens_36 gf_X9_12 (hp_0 _ _ _ _ _) rfl ?_
          refine wp_getfield (v := .int (nI (n))) d_X9_lens_39 gf_X9_102 (hp_1 _ _ _ _ _) (congrArg (fun z => some (Value.int z)) hn) ?_
          refine wp_bipush (v0 := 9) d_X9_lens_42 (by decide) ?_
          refine wp_ncmp_lt (a := n) (b := 9) 50 d_X9_lens_44 rfl (by omega) (by omega) (fun c44 => ?_) (fun c44 => ?_)
          · refine wp_aload_n 0 d_X9_lens_50 rfl rfl ?_
            refine wp_getfield (v := .ref (1)) d_X9_lens_51 gf_X9_12 (hp_0 _ _ _ _ _) rfl ?_
            refine wp_getfield (v := .int (nI (n))) d_X9_lens_54 gf_X9_102 (hp_1 _ _ _ _ _) (congrArg (fun z => some (Value.int z)) hn) ?_
            refine wp_istore [(5, .int (nI (n))), (0, .ref (0)), (1, .int (kd)), (2, .int (bd)), (3, .int (tl)), (4, .int (pr))] d_X9_lens_57 (Nat.le_of_ble_eq_true rfl) rfl ?_
            refine wp_aload_n 1 d_X9_lens_59 rfl rfl ?_
            refine wp_getfield (v := .ref (1)) d_X9_lens_60 gf_X9_12 (hp_0 _ _ _ _ _) rfl ?_
            refine wp_getfield (v := .ref (2)) d_X9_lens_63 gf_X9_106 (hp_1 _ _ _ _ _) rfl ?_
            refine wp_iload 0 d_X9_lens_66 rfl ?_
            refine wp_iload_n 2 d_X9_lens_68 rfl rfl ?_
            refine wp_iastore (h' := HP (setA c 2 (upd (c.2.1 2) (n) (kd))) w m v E) d_X9_lens_69 (hp_2 _ _ _ _ _) (vp_in_nI (by omega) (by omega)) (by rw [nI_clamp (by omega)]; exact (hpa_2 _ _ _ _ _ _)) ?_
            refine wp_aload_n 1 d_X9_lens_70 rfl rfl ?_
            refine wp_getfield (v := .ref (1)) d_X9_lens_71 gf_X9_12 (hp_0 _ _ _ _ _) rfl ?_
            refine wp_getfield (v := .ref (3)) d_X9_lens_74 gf_X9_109 (hp_1 _ _ _ _ _) rfl ?_
            refine wp_iload 0 d_X9_lens_77 rfl ?_
            refine wp_iload_n 3 d_X9_lens_79 rfl rfl ?_
            refine wp_iastore (h' := HP (setA (setA c 2 (upd (c.2.1 2) (n) (kd))) 3 (upd (c.2.1 3) (n) (bd))) w m v E) d_X9_lens_80 (hp_3 _ _ _ _ _) (vp_in_nI (by omega) (by omega)) (by rw [nI_clamp (by omega)]; exact (hpa_3 _ _ _ _ _ _)) ?_
            refine wp_aload_n 1 d_X9_lens_81 rfl rfl ?_
            refine wp_getfield (v := .ref (1)) d_X9_lens_82 gf_X9_12 (hp_0 _ _ _ _ _) rfl ?_
            refine wp_getfield (v := .ref (4)) d_X9_lens_85 gf_X9_112 (hp_1 _ _ _ _ _) rfl ?_
            refine wp_iload 0 d_X9_lens_88 rfl ?_
            refine wp_iload_n 4 d_X9_lens_90 rfl rfl ?_
            refine wp_iastore (h' := HP (setA (setA (setA c 2 (upd (c.2.1 2) (n) (kd))) 3 (upd (c.2.1 3) (n) (bd))) 4 (upd (c.2.1 4) (n) (tl))) w m v E) d_X9_lens_91 (hp_4 _ _ _ _ _) (vp_in_nI (by omega) (by omega)) (by rw [nI_clamp (by omega)]; exact (hpa_4 _ _ _ _ _ _)) ?_
            refine wp_aload_n 1 d_X9_lens_92 rfl rfl ?_
            refine wp_getfield (v := .ref (1)) d_X9_lens_93 gf_X9_12 (hp_0 _ _ _ _ _) rfl ?_
            refine wp_getfield (v := .ref (5)) d_X9_lens_96 gf_X9_115 (hp_1 _ _ _ _ _) rfl ?_
            refine wp_iload 0 d_X9_lens_99 rfl ?_
            refine wp_iload 5 d_X9_lens_101 rfl ?_
            refine wp_iastore (h' := HP (setA (setA (setA (setA c 2 (upd (c.2.1 2) (n) (kd))) 3 (upd (c.2.1 3) (n) (bd))) 4 (upd (c.2.1 4) (n) (tl))) 5 (upd (c.2.1 5) (n) (pr))) w m v E) d_X9_lens_103 (hp_5 _ _ _ _ _) (vp_in_nI (by omega) (by omega)) (by rw [nI_clamp (by omega)]; exact (hpa_5 _ _ _ _ _ _)) ?_
            refine wp_aload_n 1 d_X9_lens_104 rfl rfl ?_
            refine wp_getfield (v := .ref (1)) d_X9_lens_105 gf_X9_12 (hp_0 _ _ _ _ _) rfl ?_
            refine wp_dup d_X9_lens_108 rfl ?_
            refine wp_getfield (v := .int (nI (n))) d_X9_lens_109 gf_X9_102 (hp_1 _ _ _ _ _) (congrArg (fun z => some (Value.int z)) hn) ?_
            refine wp_iconst (v0 := 1) d_X9_lens_112 rfl ?_
            refine wp_iadd d_X9_lens_113 ?_
            refine wp_v (v0 := nI ((n) + (1))) (nI_add (n) (1)) ?_
            refine wp_putfield (h' := HP (setS (setA (setA (setA (setA c 2 (upd (c.2.1 2) (n) (kd))) 3 (upd (c.2.1 3) (n) (bd))) 4 (upd (c.2.1 4) (n) (tl))) 5 (upd (c.2.1 5) (n) (pr))) 100 (nI ((n) + (1)))) w m v E) d_X9_lens_114 gp_X9_102 (kfit_i _) (hp_1 _ _ _ _ _) (Nat.le_of_ble_eq_true rfl) (hps_1_0 _ _ _ _ _ _) ?_
            refine wp_iload 0 d_X9_lens_117 rfl ?_
            refine wp_reti d_X9_lens_119 rfl ?_
            exact Or.inr (Or.inr (⟨by omega, rfl, rfl⟩))
          · refine wp_bipush (v0 := -2) d_X9_lens_47 (by decide) ?_
            refine wp_reti d_X9_lens_49 rfl ?_
            exact Or.inr (Or.inl ⟨by omega, rfl, rfl⟩)
        · refine wp_iconst (v0 := -1) d_X9_lens_33 rfl ?_
          refine wp_reti d_X9_lens_34 rfl ?_
          exact Or.inl ⟨by omega, rfl, rfl⟩
theorem List_set_same {α : Type} : ∀ (l : List α) (a : Nat) (x : α), l[a]? = some x → l.set a x = l
  | [], _, _, h => by simp at h
  | y :: l, 0, x, h => by simp at h; simp [h]
  | y :: l, a + 1, x, h => by
    simp only [List.getElem?_cons_succ] at h
    simp only [List.set_cons_succ, List_set_same l a x h]
theorem s_X9_store {X : kX} {d : Nat} {h h' : kH} {a n : Nat} {f : Nat → Int32} (i x : Int32) (j : Nat) (hj : i.toNatClampNeg = j) (hc : h[a]? = some (.inl (0, n, .inl f))) (hi : vp_in i n) (hh : h.set a (.inl (0, n, .inl (upd f j x))) = h') : WP X d 0 0 Y_X9_store 0 [(0, .ref a), (1, .int i), (2, .int x)] [] h (kR (some (.int (kb (f j ≠ x)))) h') := by
  subst hj
  refine wp_aload_n 0 d_X9_store_0 rfl rfl ?_
  refine wp_iload_n 1 d_X9_store_1 rfl rfl ?_
  refine wp_iaload (v := f i.toNatClampNeg) d_X9_store_2 hc hi rfl ?_
  refine wp_iload_n 2 d_X9_store_3 rfl rfl ?_
  refine wp_icmp_ne 9 d_X9_store_4 rfl (fun c4 => ?_) (fun c4 => ?_)
  · refine wp_aload_n 0 d_X9_store_9 rfl rfl ?_
    refine wp_iload_n 1 d_X9_store_10 rfl rfl ?_
    refine wp_iload_n 2 d_X9_store_11 rfl rfl ?_
    refine wp_iastore (h' := h') d_X9_store_12 hc hi hh ?_
    refine wp_iconst (v0 := 1) d_X9_store_13 rfl ?_
    refine wp_reti d_X9_store_14 rfl ?_
    exact kR_i (Eq.symm (kb_t c4)) rfl
  · refine wp_iconst (v0 := 0) d_X9_store_7 rfl ?_
    refine wp_reti d_X9_store_8 rfl ?_
    refine kR_i (Eq.symm (kb_f (fun q => q c4))) ?_
    rw [← hh, ← c4, upd_self]
    exact (List_set_same _ _ _ hc).symm
theorem s_X9_grind {X : kX} {d : Nat} {c w m v : kZ} {E : kH} {n : Nat} (hn : c.1 100 = nI n) (hn9 : n ≤ 9) (l wh x : Int32) : WP X (d + 2) 0 0 Y_X9_grind 0 [(0, .ref (0)), (1, .int (l)), (2, .int (wh)), (3, .int (x))] [] (HP c w m v E) (fun r h1 => (¬ (0 ≤ l.toInt ∧ l.toInt < (n : Int)) ∨ ¬ ((wh = 1 ∧ -9 ≤ x.toInt ∧ x.toInt ≤ 9) ∨ (wh = 2 ∧ -9 ≤ x.toInt ∧ x.toInt ≤ 9) ∨ (wh = 3 ∧ 1 ≤ x.toInt ∧ x.toInt ≤ 999))) ∧ r = some (.int (-1)) ∧ h1 = HP c w m v E ∨ ∃ j : Nat, j < n ∧ l = nI j ∧ ((wh = 1 ∧ (-9 ≤ x.toInt ∧ x.toInt ≤ 9) ∧ r = some (.int (kb ((c.2.1 3) (j) ≠ (x)))) ∧ h1 = HP (setA c 3 (upd (c.2.1 3) (j) (x))) w m v E) ∨ (wh = 2 ∧ (-9 ≤ x.toInt ∧ x.toInt ≤ 9) ∧ r = some (.int (kb ((c.2.1 4) (j) ≠ (x)))) ∧ h1 = HP (setA c 4 (upd (c.2.1 4) (j) (x))) w m v E) ∨ (wh = 3 ∧ (1 ≤ x.toInt ∧ x.toInt ≤ 999) ∧ r = some (.int (kb ((c.2.1 5) (j) ≠ (x)))) ∧ h1 = HP (setA c 5 (upd (c.2.1 5) (j) (x))) w m v E))) := by
  refine wp_aload_n 0 d_X9_grind_0 rfl rfl ?_
  refine wp_getfield (v := .ref (1)) d_X9_grind_1 gf_X9_12 (hp_0 _ _ _ _ _) rfl ?_
  refine wp_iload_n 1 d_X9_grind_4 rfl rfl ?_
  refine wp_vrt_i (As := [.int (l)]) (x0 := kb (0 ≤ ((l) : Int32).toInt ∧ ((l) : Int32).toInt < (n : Int))) (h1 := HP c w m v E) d_X9_grind_5 lk_X9_118 mv_X1_hasLens in_X1_hasLens se_X1_hasLens (Nat.le_of_ble_eq_true rfl) (Nat.le_of_ble_eq_true rfl) (hp_1 _ _ _ _ _) rfl (s_X1_hasLens hn (by omega) (l)) ?_
  refine wp_ifb_ne 13 d_X9_grind_8 rfl (fun c8 => ?_) (fun c8 => ?_)
  · obtain ⟨j, hj, rfl⟩ := k_nat c8
    refine wp_iload_n 2 d_X9_grind_13 rfl rfl ?_
    refine wp_if (P := (wh) = 1) (fun c14 => ?_) (fun c14_1 => ?_)
    · refine wp_tableIn 40 d_X9_grind_14 (by rw [c14] <;> decide) (by rw [c14] <;> decide) (by rw [c14] <;> rfl) rfl ?_
      refine wp_iload_n 3 d_X9_grind_40 rfl rfl ?_
      refine wp_stc_i (As := [.int (x)]) (x0 := kb (-9 ≤ (x : Int32).toInt ∧ (x : Int32).toInt ≤ 9)) (h1 := HP c w m v E) d_X9_grind_41 lk_X9_95 mv_X9_isSmall st_X9_isSmall (Nat.le_of_ble_eq_true rfl) (Nat.le_of_ble_eq_true rfl) (s_X9_isSmall _ (x : Int32)) ?_
      refine wp_ifb_eq 62 d_X9_grind_44 rfl (fun c44 => ?_) (fun c44 => ?_)
      · refine wp_iconst (v0 := -1) d_X9_grind_62 rfl ?_
        refine wp_reti d_X9_grind_63 rfl ?_
        refine Or.inl ⟨?_, rfl, rfl⟩
        simp_all
        try omega
      · refine wp_aload_n 0 d_X9_grind_47 rfl rfl ?_
        refine wp_getfield (v := .ref (1)) d_X9_grind_48 gf_X9_12 (hp_0 _ _ _ _ _) rfl ?_
        refine wp_getfield (v := .ref (3)) d_X9_grind_51 gf_X9_109 (hp_1 _ _ _ _ _) rfl ?_
        refine wp_iload_n 1 d_X9_grind_54 rfl rfl ?_
        refine wp_iload_n 3 d_X9_grind_55 rfl rfl ?_
        refine wp_stc_i (As := [.ref (3), .int (nI (j)), .int (x)]) (x0 := kb ((c.2.1 3) (j) ≠ (x))) (h1 := HP (setA c 3 (upd (c.2.1 3) (j) (x))) w m v E) d_X9_grind_56 lk_X9_132 mv_X9_store st_X9_store (Nat.le_of_ble_eq_true rfl) (Nat.le_of_ble_eq_true rfl) (s_X9_store (nI (j)) (x) (j) (nI_clamp (by omega)) (hp_3 _ _ _ _ _) (vp_in_nI (by omega) (by omega)) (hpa_3 _ _ _ _ _ _)) ?_
        refine wp_goto 63 d_X9_grind_59 rfl ?_
        refine wp_reti d_X9_grind_63 rfl ?_
        exact Or.inr ⟨j, hj, rfl, Or.inl ⟨c14, by omega, rfl, rfl⟩⟩
    refine wp_if (P := (wh) = 2) (fun c14 => ?_) (fun c14_2 => ?_)
    · refine wp_tableIn 64 d_X9_grind_14 (by rw [c14] <;> decide) (by rw [c14] <;> decide) (by rw [c14] <;> rfl) rfl ?_
      refine wp_iload_n 3 d_X9_grind_64 rfl rfl ?_
      refine wp_stc_i (As := [.int (x)]) (x0 := kb (-9 ≤ (x : Int32).toInt ∧ (x : Int32).toInt ≤ 9)) (h1 := HP c w m v E) d_X9_grind_65 lk_X9_95 mv_X9_isSmall st_X9_isSmall (Nat.le_of_ble_eq_true rfl) (Nat.le_of_ble_eq_true rfl) (s_X9_isSmall _ (x : Int32)) ?_
      refine wp_ifb_eq 86 d_X9_grind_68 rfl (fun c68 => ?_) (fun c68 => ?_)
      · refine wp_iconst (v0 := -1) d_X9_grind_86 rfl ?_
        refine wp_reti d_X9_grind_87 rfl ?_
        refine Or.inl ⟨?_, rfl, rfl⟩
        simp_all
        try omega
      · refine wp_aload_n 0 d_X9_grind_71 rfl rfl ?_
        refine wp_getfield (v := .ref (1)) d_X9_grind_72 gf_X9_12 (hp_0 _ _ _ _ _) rfl ?_
        refine wp_getfield (v := .ref (4)) d_X9_grind_75 gf_X9_112 (hp_1 _ _ _ _ _) rfl ?_
        refine wp_iload_n 1 d_X9_grind_78 rfl rfl ?_
        refine wp_iload_n 3 d_X9_grind_79 rfl rfl ?_
        refine wp_stc_i (As := [.ref (4), .int (nI (j)), .int (x)]) (x0 := kb ((c.2.1 4) (j) ≠ (x))) (h1 := HP (setA c 4 (upd (c.2.1 4) (j) (x))) w m v E) d_X9_grind_80 lk_X9_132 mv_X9_store st_X9_store (Nat.le_of_ble_eq_true rfl) (Nat.le_of_ble_eq_true rfl) (s_X9_store (nI (j)) (x) (j) (nI_clamp (by omega)) (hp_4 _ _ _ _ _) (vp_in_nI (by omega) (by omega)) (hpa_4 _ _ _ _ _ _)) ?_
        refine wp_goto 87 d_X9_grind_83 rfl ?_
        refine wp_reti d_X9_grind_87 rfl ?_
        exact Or.inr ⟨j, hj, rfl, Or.inr (Or.inl ⟨c14, by omega, rfl, rfl⟩)⟩
    refine wp_if (P := (wh) = 3) (fun c14 => ?_) (fun c14_3 => ?_)
    · refine wp_tableIn 88 d_X9_grind_14 (by rw [c14] <;> decide) (by rw [c14] <;> decide) (by rw [c14] <;> rfl) rfl ?_
      refine wp_iload_n 3 d_X9_grind_88 rfl rfl ?_
      refine wp_iconst (v0 := 1) d_X9_grind_89 rfl ?_
      refine wp_sipush (v0 := 999) d_X9_grind_90 (by decide) ?_
      refine wp_stc_i (As := [.int (x), .int (1), .int (999)]) (x0 := kb (1 ≤ (x : Int32).toInt ∧ (x : Int32).toInt ≤ 999)) (h1 := HP c w m v E) d_X9_grind_93 lk_X9_98 mv_X9_isWithin st_X9_isWithin (Nat.le_of_ble_eq_true rfl) (Nat.le_of_ble_eq_true rfl) (s_X9_isWithin _ (x : Int32) (1 : Int32) (999 : Int32)) ?_
      refine wp_ifb_eq 114 d_X9_grind_96 rfl (fun c96 => ?_) (fun c96 => ?_)
      · refine wp_iconst (v0 := -1) d_X9_grind_114 rfl ?_
        refine wp_reti d_X9_grind_115 rfl ?_
        refine Or.inl ⟨?_, rfl, rfl⟩
        simp_all
        try omega
      · refine wp_aload_n 0 d_X9_grind_99 rfl rfl ?_
        refine wp_getfield (v := .ref (1)) d_X9_grind_100 gf_X9_12 (hp_0 _ _ _ _ _) rfl ?_
        refine wp_getfield (v := .ref (5)) d_X9_grind_103 gf_X9_115 (hp_1 _ _ _ _ _) rfl ?_
        refine wp_iload_n 1 d_X9_grind_106 rfl rfl ?_
        refine wp_iload_n 3 d_X9_grind_107 rfl rfl ?_
        refine wp_stc_i (As := [.ref (5), .int (nI (j)), .int (x)]) (x0 := kb ((c.2.1 5) (j) ≠ (x))) (h1 := HP (setA c 5 (upd (c.2.1 5) (j) (x))) w m v E) d_X9_grind_108 lk_X9_132 mv_X9_store st_X9_store (Nat.le_of_ble_eq_true rfl) (Nat.le_of_ble_eq_true rfl) (s_X9_store (nI (j)) (x) (j) (nI_clamp (by omega)) (hp_5 _ _ _ _ _) (vp_in_nI (by omega) (by omega)) (hpa_5 _ _ _ _ _ _)) ?_
        refine wp_goto 115 d_X9_grind_111 rfl ?_
        refine wp_reti d_X9_grind_115 rfl ?_
        exact Or.inr ⟨j, hj, rfl, Or.inr (Or.inr ⟨c14, by omega, rfl, rfl⟩)⟩
    refine wp_swd_X9_grind_14 c14_1 c14_2 c14_3 ?_
    refine wp_iconst (v0 := -1) d_X9_grind_116 rfl ?_
    refine wp_reti d_X9_grind_117 rfl ?_
    refine Or.inl ⟨Or.inr ?_, rfl, rfl⟩
    simp_all
  · refine wp_iconst (v0 := -1) d_X9_grind_11 rfl ?_
    refine wp_reti d_X9_grind_12 rfl ?_
    refine Or.inl ⟨Or.inl (by omega), rfl, rfl⟩
theorem s_X9_remake {X : kX} {d : Nat} {c w m v : kZ} {E : kH} {n : Nat} (hn : c.1 100 = nI n) (hn9 : n ≤ 9) (l kd : Int32) : WP X (d + 2) 0 0 Y_X9_remake 0 [(0, .ref (0)), (1, .int (l)), (2, .int (kd))] [] (HP c w m v E) (fun r h1 => (¬ ((0 ≤ l.toInt ∧ l.toInt < (n : Int)) ∧ (1 ≤ kd.toInt ∧ kd.toInt ≤ 5)) ∧ r = some (.int (-1)) ∧ h1 = HP c w m v E) ∨ ∃ j : Nat, j < n ∧ l = nI j ∧ (1 ≤ kd.toInt ∧ kd.toInt ≤ 5) ∧ r = some (.int ((c.2.1 2) (j))) ∧ h1 = HP (setA c 2 (upd (c.2.1 2) (j) (kd))) w m v E) := by
  refine wp_aload_n 0 d_X9_remake_0 rfl rfl ?_
  refine wp_getfield (v := .ref (1)) d_X9_remake_1 gf_X9_12 (hp_0 _ _ _ _ _) rfl ?_
  refine wp_iload_n 1 d_X9_remake_4 rfl rfl ?_
  refine wp_vrt_i (As := [.int (l)]) (x0 := kb (0 ≤ ((l) : Int32).toInt ∧ ((l) : Int32).toInt < (n : Int))) (h1 := HP c w m v E) d_X9_remake_5 lk_X9_118 mv_X1_hasLens in_X1_hasLens se_X1_hasLens (Nat.le_of_ble_eq_true rfl) (Nat.le_of_ble_eq_true rfl) (hp_1 _ _ _ _ _) rfl (s_X1_hasLens hn (by omega) (l)) ?_
  refine wp_ifb_eq 18 d_X9_remake_8 rfl (fun c8 => ?_) (fun c8 => ?_)
  · refine wp_iconst (v0 := -1) d_X9_remake_18 rfl ?_
    refine wp_reti d_X9_remake_19 rfl ?_
    exact Or.inl ⟨by omega, rfl, rfl⟩
  · refine wp_iload_n 2 d_X9_remake_11 rfl rfl ?_
    refine wp_stc_i (As := [.int (kd)]) (x0 := kb (1 ≤ (kd : Int32).toInt ∧ (kd : Int32).toInt ≤ 5)) (h1 := HP c w m v E) d_X9_remake_12 lk_X9_91 mv_X9_isMadeKind st_X9_isMadeKind (Nat.le_of_ble_eq_true rfl) (Nat.le_of_ble_eq_true rfl) (s_X9_isMadeKind _ (kd : Int32)) ?_
    refine wp_ifb_ne 20 d_X9_remake_15 rfl (fun c15 => ?_) (fun c15 => ?_)
    · obtain ⟨j, hj, rfl⟩ := k_nat c8
      refine wp_aload_n 0 d_X9_remake_20 rfl rfl ?_
      refine wp_getfield (v := .ref (1)) d_X9_remake_21 gf_X9_12 (hp_0 _ _ _ _ _) rfl ?_
      refine wp_getfield (v := .ref (2)) d_X9_remake_24 gf_X9_106 (hp_1 _ _ _ _ _) rfl ?_
      refine wp_iload_n 1 d_X9_remake_27 rfl rfl ?_
      refine wp_iaload (v := (c.2.1 2) (j)) d_X9_remake_28 (hp_2 _ _ _ _ _) (vp_in_nI (by omega) (by omega)) (congrArg ((c.2.1 2)) (nI_clamp (by omega))) ?_
      refine wp_istore_n [(3, .int ((c.2.1 2) (j))), (0, .ref (0)), (1, .int (nI (j))), (2, .int (kd))] d_X9_remake_29 rfl (Nat.le_of_ble_eq_true rfl) rfl ?_
      refine wp_aload_n 1 d_X9_remake_30 rfl rfl ?_
      refine wp_getfield (v := .ref (1)) d_X9_remake_31 gf_X9_12 (hp_0 _ _ _ _ _) rfl ?_
      refine wp_getfield (v := .ref (2)) d_X9_remake_34 gf_X9_106 (hp_1 _ _ _ _ _) rfl ?_
      refine wp_iload_n 2 d_X9_remake_37 rfl rfl ?_
      refine wp_iload_n 3 d_X9_remake_38 rfl rfl ?_
      refine wp_iastore (h' := HP (setA c 2 (upd (c.2.1 2) (j) (kd))) w m v E) d_X9_remake_39 (hp_2 _ _ _ _ _) (vp_in_nI (by omega) (by omega)) (by rw [nI_clamp (by omega)]; exact (hpa_2 _ _ _ _ _ _)) ?_
      refine wp_iload_n 0 d_X9_remake_40 rfl rfl ?_
      refine wp_reti d_X9_remake_41 rfl ?_
      exact Or.inr ⟨j, hj, rfl, by omega, rfl, rfl⟩
    · refine wp_iconst (v0 := -1) d_X9_remake_18 rfl ?_
      refine wp_reti d_X9_remake_19 rfl ?_
      exact Or.inl ⟨by omega, rfl, rfl⟩
theorem s_X9_setting {X : kX} {d : Nat} {c w m v : kZ} {E : kH} (wh : Int32) : WP X (d + 1) 0 0 Y_X9_setting 0 [(0, .ref (0)), (1, .int (wh))] [] (HP c w m v E) (fun r h1 => (¬ (0 ≤ wh.toInt ∧ wh.toInt ≤ 3) ∧ r = some (.int (-1)) ∧ h1 = HP c w m v E) ∨ ∃ j : Nat, j ≤ 3 ∧ wh = nI j ∧ r = some (.int ((c.2.1 6) (j))) ∧ h1 = HP c w m v E) := by
  refine wp_iload_n 1 d_X9_setting_0 rfl rfl ?_
  refine wp_iconst (v0 := 0) d_X9_setting_1 rfl ?_
  refine wp_iconst (v0 := 3) d_X9_setting_2 rfl ?_
  refine wp_stc_i (As := [.int (wh), .int (0), .int (3)]) (x0 := kb (0 ≤ (wh : Int32).toInt ∧ (wh : Int32).toInt ≤ 3)) (h1 := HP c w m v E) d_X9_setting_3 lk_X9_98 mv_X9_isWithin st_X9_isWithin (Nat.le_of_ble_eq_true rfl) (Nat.le_of_ble_eq_true rfl) (s_X9_isWithin _ (wh : Int32) (0 : Int32) (3 : Int32)) ?_
  refine wp_ifb_eq 21 d_X9_setting_6 rfl (fun c6 => ?_) (fun c6 => ?_)
  · refine wp_iconst (v0 := -1) d_X9_setting_21 rfl ?_
    refine wp_reti d_X9_setting_22 rfl ?_
    exact Or.inl ⟨by omega, rfl, rfl⟩
  · obtain ⟨j, hj, rfl⟩ := k_natle (n := 3) c6
    refine wp_aload_n 0 d_X9_setting_9 rfl rfl ?_
    refine wp_getfield (v := .ref (1)) d_X9_setting_10 gf_X9_12 (hp_0 _ _ _ _ _) rfl ?_
    refine wp_getfield (v := .ref (6)) d_X9_setting_13 gf_X9_136 (hp_1 _ _ _ _ _) rfl ?_
    refine wp_iload_n 1 d_X9_setting_16 rfl rfl ?_
    refine wp_iaload (v := (c.2.1 6) (j)) d_X9_setting_17 (hp_6 _ _ _ _ _) (vp_in_nI (by omega) (by omega)) (congrArg ((c.2.1 6)) (nI_clamp (by omega))) ?_
    refine wp_goto 22 d_X9_setting_18 rfl ?_
    refine wp_reti d_X9_setting_22 rfl ?_
    exact Or.inr ⟨j, hj, rfl, rfl, rfl⟩
theorem s_X9_let {X : kX} {d : Nat} {c w m v : kZ} {E : kH} (wh x : Int32) : WP X (d + 1) 0 0 Y_X9_let 0 [(0, .ref (0)), (1, .int (wh)), (2, .int (x))] [] (HP c w m v E) (fun r h1 => (¬ (0 ≤ wh.toInt ∧ wh.toInt ≤ 3) ∧ r = some (.int (-1)) ∧ h1 = HP c w m v E) ∨ ∃ j : Nat, j ≤ 3 ∧ wh = nI j ∧ ((¬ ((j = 0 ∧ 0 ≤ x.toInt ∧ x.toInt ≤ 9) ∨ (j = 1 ∧ 1 ≤ x.toInt ∧ x.toInt ≤ 3) ∨ (j = 2 ∧ -9 ≤ x.toInt ∧ x.toInt ≤ 9) ∨ (j = 3 ∧ 0 ≤ x.toInt ∧ x.toInt ≤ 999)) ∧ r = some (.int (-1)) ∧ h1 = HP c w m v E) ∨ (((j = 0 ∧ 0 ≤ x.toInt ∧ x.toInt ≤ 9) ∨ (j = 1 ∧ 1 ≤ x.toInt ∧ x.toInt ≤ 3) ∨ (j = 2 ∧ -9 ≤ x.toInt ∧ x.toInt ≤ 9) ∨ (j = 3 ∧ 0 ≤ x.toInt ∧ x.toInt ≤ 999)) ∧ r = some (.int (kb ((c.2.1 6) (j) ≠ (x)))) ∧ h1 = HP (setA c 6 (upd (c.2.1 6) (j) (x))) w m v E))) := by
  refine wp_iload_n 1 d_X9_let_0 rfl rfl ?_
  refine wp_iconst (v0 := 0) d_X9_let_1 rfl ?_
  refine wp_iconst (v0 := 3) d_X9_let_2 rfl ?_
  refine wp_stc_i (As := [.int (wh), .int (0), .int (3)]) (x0 := kb (0 ≤ (wh : Int32).toInt ∧ (wh : Int32).toInt ≤ 3)) (h1 := HP c w m v E) d_X9_let_3 lk_X9_98 mv_X9_isWithin st_X9_isWithin (Nat.le_of_ble_eq_true rfl) (Nat.le_of_ble_eq_true rfl) (s_X9_isWithin _ (wh : Int32) (0 : Int32) (3 : Int32)) ?_
  refine wp_ifb_ne 11 d_X9_let_6 rfl (fun c6 => ?_) (fun c6 => ?_)
  · obtain ⟨j, hj, rfl⟩ := k_natle (n := 3) c6
    refine wp_iload_n 2 d_X9_let_11 rfl rfl ?_
    refine wp_getstab 2 d_X9_let_12 (by decide) gs_X9_139 ?_
    refine wp_iload_n 1 d_X9_let_15 rfl rfl ?_
    refine wp_tabload (v := (kTAB 2).getD (j) 0) d_X9_let_16 (by decide) (show vp_in _ 4 from (vp_in_nI (by omega) (by omega))) (by rw [nI_clamp (by omega)]; rfl) ?_
    refine wp_getstab 3 d_X9_let_17 (by decide) gs_X9_142 ?_
    refine wp_iload_n 1 d_X9_let_20 rfl rfl ?_
    refine wp_tabload (v := (kTAB 3).getD (j) 0) d_X9_let_21 (by decide) (show vp_in _ 4 from (vp_in_nI (by omega) (by omega))) (by rw [nI_clamp (by omega)]; rfl) ?_
    refine wp_stc_i (As := [.int (x), .int ((kTAB 2).getD (j) 0), .int ((kTAB 3).getD (j) 0)]) (x0 := kb (((kTAB 2).getD (j) 0 : Int32).toInt ≤ (x : Int32).toInt ∧ (x : Int32).toInt ≤ ((kTAB 3).getD (j) 0 : Int32).toInt)) (h1 := HP c w m v E) d_X9_let_22 lk_X9_98 mv_X9_isWithin st_X9_isWithin (Nat.le_of_ble_eq_true rfl) (Nat.le_of_ble_eq_true rfl) (s_X9_isWithin _ (x : Int32) ((kTAB 2).getD (j) 0 : Int32) ((kTAB 3).getD (j) 0 : Int32)) ?_
    refine wp_ifb_ne 30 d_X9_let_25 rfl (fun c25 => ?_) (fun c25 => ?_)
    · refine wp_aload_n 0 d_X9_let_30 rfl rfl ?_
      refine wp_getfield (v := .ref (1)) d_X9_let_31 gf_X9_12 (hp_0 _ _ _ _ _) rfl ?_
      refine wp_getfield (v := .ref (6)) d_X9_let_34 gf_X9_136 (hp_1 _ _ _ _ _) rfl ?_
      refine wp_iload_n 1 d_X9_let_37 rfl rfl ?_
      refine wp_iload_n 2 d_X9_let_38 rfl rfl ?_
      refine wp_stc_i (As := [.ref (6), .int (nI (j)), .int (x)]) (x0 := kb ((c.2.1 6) (j) ≠ (x))) (h1 := HP (setA c 6 (upd (c.2.1 6) (j) (x))) w m v E) d_X9_let_39 lk_X9_132 mv_X9_store st_X9_store (Nat.le_of_ble_eq_true rfl) (Nat.le_of_ble_eq_true rfl) (s_X9_store (nI (j)) (x) (j) (nI_clamp (by omega)) (hp_6 _ _ _ _ _) (vp_in_nI (by omega) (by omega)) (hpa_6 _ _ _ _ _ _)) ?_
      refine wp_reti d_X9_let_42 rfl ?_
      refine Or.inr ⟨j, hj, rfl, Or.inr ⟨?_, rfl, rfl⟩⟩
      rcases (by omega : j = 0 ∨ j = 1 ∨ j = 2 ∨ j = 3) with e | e | e | e <;> subst e <;> simpa [kTAB] using c25
    · refine wp_iconst (v0 := -1) d_X9_let_28 rfl ?_
      refine wp_reti d_X9_let_29 rfl ?_
      refine Or.inr ⟨j, hj, rfl, Or.inl ⟨?_, rfl, rfl⟩⟩
      rcases (by omega : j = 0 ∨ j = 1 ∨ j = 2 ∨ j = 3) with e | e | e | e <;> subst e <;> simpa [kTAB] using c25
  · refine wp_iconst (v0 := -1) d_X9_let_9 rfl ?_
    refine wp_reti d_X9_let_10 rfl ?_
    exact Or.inl ⟨by omega, rfl, rfl⟩
