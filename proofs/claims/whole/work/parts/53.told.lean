/-! ===== class: the rules told ===== -/
theorem s_J7_copyOf {X : kX} {d : Nat} {h : kH} {a n : Nat} {f : Nat → Int32} (ha : h[a]? = some (.inl (0, 232, .inl f))) (hn : n < 232) : WP X (d + 1) 1 n Y_J7_copyOf_59c91 0 [(0, .ref a), (1, .int (nI n))] [] h (kR (some (.ref h.length)) (h ++ [.inl (0, n, .inl (va_cpy f (fun _ => 0) 0 0 n))])) := by
  have e0 : (h ++ [.inl (0, n, .inl (fun _ => 0))])[a]? = some (.inl (0, 232, .inl f) : kC) := by rw [List.getElem?_append_left (List.getElem?_eq_some_iff.mp ha).1]; exact ha
  have e1 : (h ++ [.inl (0, n, .inl (fun _ => 0))])[h.length]? = some (.inl (0, n, .inl (fun _ => 0)) : kC) := by simp
  refine wp_iload_n 1 d_J7_copyOf_59c91_0 rfl rfl ?_
  refine wp_aload_n 0 d_J7_copyOf_59c91_1 rfl rfl ?_
  refine wp_alen (v := nI 232) d_J7_copyOf_59c91_2 ha (Nat.le_of_ble_eq_true rfl) rfl ?_
  refine wp_ncmp_ne (a := n) (b := 232) 14 d_J7_copyOf_59c91_3 rfl (by omega) (by omega) (fun _ => ?_) (fun z => absurd z (by omega))
  refine wp_iload_n 1 d_J7_copyOf_59c91_14 rfl rfl ?_
  refine wp_widen (mc' := 0 + 1) (ms' := 0 + n) (by omega) (by omega) ?_
  refine wp_newarray d_J7_copyOf_59c91_15 ac_int (Int32.not_lt.mpr (nI_nn (by omega))) (nI_clamp (by omega)) (by omega) ?_
  refine wp_astore_n [(2, .ref h.length), (0, .ref a), (1, .int (nI n))] d_J7_copyOf_59c91_17 rfl (Nat.le_of_ble_eq_true rfl) rfl ?_
  refine wp_aload_n 1 d_J7_copyOf_59c91_18 rfl rfl ?_
  refine wp_iconst (v0 := 0) d_J7_copyOf_59c91_19 rfl ?_
  refine wp_aload_n 0 d_J7_copyOf_59c91_20 rfl rfl ?_
  refine wp_iconst (v0 := 0) d_J7_copyOf_59c91_21 rfl ?_
  refine wp_aload_n 1 d_J7_copyOf_59c91_22 rfl rfl ?_
  refine wp_alen (v := nI 232) d_J7_copyOf_59c91_23 e0 (Nat.le_of_ble_eq_true rfl) rfl ?_
  refine wp_iload_n 2 d_J7_copyOf_59c91_24 rfl rfl ?_
  refine wp_mmin d_J7_copyOf_59c91_25 mk_J7_304 mst_min ini_J9 mco_min (Nat.le_of_ble_eq_true rfl) ?_
  rw [show (if nI n < nI 232 then nI n else nI 232) = nI n from if_pos (by rw [Int32.lt_iff_toInt_lt, nI_toInt (by omega), nI_toInt (by omega)]; omega)]
  refine wp_arraycopy (h' := h ++ [.inl (0, n, .inl (va_cpy f (fun _ => 0) 0 0 n))]) d_J7_copyOf_59c91_28 ar_J7_150 ar_na ar_st ini_J10 e0 e1 (by decide) (by decide) (Int32.not_lt.mpr (nI_nn (by omega))) (by rw [nI_clamp (by omega), show (0 : Int32).toNatClampNeg = 0 from rfl]; omega) (by rw [nI_clamp (by omega), show (0 : Int32).toNatClampNeg = 0 from rfl]; omega) (Nat.le_of_ble_eq_true rfl) (by rw [nI_clamp (by omega), show (0 : Int32).toNatClampNeg = 0 from rfl]; simp [List.set_append]) ?_
  refine wp_aload_n 0 d_J7_copyOf_59c91_31 rfl rfl ?_
  exact wp_aret d_J7_copyOf_59c91_32 rfl (Or.inr ⟨_, rfl⟩) ⟨rfl, rfl⟩
theorem s_X6_init {X : kX} {d : Nat} {h : kH} {a b : Nat} {n : Int32} (ha : h[a]? = some (.inr (6, [.int 0, .null]))) : WP X (d + 1) 0 0 Y_X6_init 0 [(0, .ref a), (1, .int n), (2, .ref b)] [] h (kR none (h.set a (.inr (6, [.int n, .ref b])))) := by
  have hlt := (List.getElem?_eq_some_iff.mp ha).1
  refine wp_aload_n 0 d_X6_init_0 rfl rfl ?_
  refine wp_objinit d_X6_init_1 oi_X6_1 oi_in oi_co (Nat.le_of_ble_eq_true rfl) ?_
  refine wp_aload_n 0 d_X6_init_4 rfl rfl ?_
  refine wp_iload_n 1 d_X6_init_5 rfl rfl ?_
  refine wp_putfinal (h' := h.set a (.inr (6, [.int n, .null]))) d_X6_init_6 rfl gi_X6_7 (kfit_i _) ha (Nat.le_of_ble_eq_true rfl) rfl ?_
  refine wp_aload_n 0 d_X6_init_9 rfl rfl ?_
  refine wp_aload_n 2 d_X6_init_10 rfl rfl ?_
  refine wp_putfinal (h' := h.set a (.inr (6, [.int n, .ref b]))) d_X6_init_11 rfl gi_X6_13 (kfit_a _) (List.getElem?_set_self hlt) (Nat.le_of_ble_eq_true rfl) (List.set_set ..) ?_
  exact wp_vret d_X6_init_14 rfl ⟨rfl, rfl⟩
def kWd (b : Nat → Int32) (T : Nat) (W Z : Nat → Int32) : Prop := (∀ j (h : j < (qps b T 0).length), W j = qwd b (qps b T 0)[j] (qeow b T (qps b T 0)[j]) ∧ Z j = nI (qps b T 0)[j]) ∧ W (qps b T 0).length = 19 ∧ Z (qps b T 0).length = nI T
theorem s_X8_told_e {X : kX} {d : Nat} {c w m v : kZ} {E : kH} {W Z : Nat → Int32} {N : Nat} (hw : kW0 W Z N) {p : kQt} {u : kZ} (hx : kTx w W Z p u) {a : Int} (hj : kJ W N a p) (ha : -24 ≤ a) {r : Nat} (hr8 : r ≤ 8) : WP X (d + 15) 2 234 Y_X8_told 64 [(1, .int (nI (r))), (0, .ref (37))] [] (HP c u m v E) (fun r1 h1 => ((qtold W Z p).2.1 ≠ -1 ∧ r1 = some .null ∧ ∃ u1 : kZ, h1 = HP c u1 m v E ∧ kTx w W Z (qtold W Z p) u1) ∨ ((qtold W Z p).2.1 = -1 ∧ r1 = some (.ref (102 + E.length)) ∧ ∃ (u1 : kZ) (f : Nat → Int32), h1 = HP c u1 m v (E ++ [.inr (6, [.int (nI r), .ref (102 + E.length + 1)]), .inl (0, (qtold W Z p).2.2.1, .inl f)]) ∧ (∀ j, j < (qtold W Z p).2.2.1 → f j = (qtold W Z p).2.2.2 j) ∧ kTx w W Z (qtold W Z p) u1)) := by
  refine wp_aload_n 1 d_X8_told_64 rfl rfl ?_
  refine wp_getfield (v := .int (W (p).1)) d_X8_told_65 gf_X8_36 (hp_37 _ _ _ _ _) (congrArg (fun z => some (Value.int z)) hx.1.2.1) ?_
  refine wp_bipush (v0 := 19) d_X8_told_68 (by decide) ?_
  refine wp_icmp_eq 77 d_X8_told_70 rfl (fun zc70 => ?_) (fun zc70 => ?_)
  · refine wp_aload_n 1 d_X8_told_77 rfl rfl ?_
    refine wp_getfield (v := .int ((p).2.1)) d_X8_told_78 gf_X8_39 (hp_37 _ _ _ _ _) (congrArg (fun z => some (Value.int z)) hx.1.2.2.1) ?_
    refine wp_iconst (v0 := -1) d_X8_told_81 rfl ?_
    refine wp_icmp_ne 107 d_X8_told_82 rfl (fun zc82 => ?_) (fun zc82 => ?_)
    · refine wp_null d_X8_told_107 ?_
      refine wp_nret d_X8_told_108 rfl (by first | exact Or.inl ⟨_, rfl⟩ | exact Or.inr ⟨_, rfl⟩) ?_
      rw [show qtold W Z p = p from if_pos zc70]
      exact Or.inl ⟨zc82, rfl, u, rfl, hx⟩
    · rw [show qtold W Z p = p from if_pos zc70]
      have hn9 : (p).2.2.1 < 232 := by
        have t1 := hj.2.2 zc82
        have t2 := hj.1
        have t3 := hw.1
        omega
      refine wp_widen (mc' := 1 + 1) (ms' := 232 + 2) (by omega) (by omega) ?_
      refine wp_new (ci := 6) (r := (RX6, TX6, 2)) (fs := [.int 0, .null]) d_X8_told_85 rfl nw_X8_21 ins_X6 ini_X6 rfl (fun _ _ => rfl) ?_
      rw [hp_app, hp_len]
      show WP _ _ _ _ _ 88 _ [.ref (102 + E.length)] (HP c u m v (E ++ [.inr (6, [.int 0, .null])])) _
      refine wp_dup d_X8_told_88 rfl ?_
      refine wp_iload_n 0 d_X8_told_89 rfl rfl ?_
      refine wp_aload_n 1 d_X8_told_90 rfl rfl ?_
      refine wp_getfield (v := .ref (41)) d_X8_told_91 gf_X8_23 (hp_37 _ _ _ _ _) rfl ?_
      refine wp_aload_n 1 d_X8_told_94 rfl rfl ?_
      refine wp_getfield (v := .int (nI ((p).2.2.1))) d_X8_told_95 gf_X8_42 (hp_37 _ _ _ _ _) (congrArg (fun z => some (Value.int z)) hx.1.2.2.2.1) ?_
      refine wp_widen (mc' := 1 + 0) (ms' := (p).2.2.1 + 0) (by omega) (by omega) ?_
      refine wp_static (As := [.ref 41, .int (nI (p).2.2.1)]) d_X8_told_98 lk_X8_51 mv_J7_copyOf_59c91 st_J7_copyOf_59c91 (Nat.le_of_ble_eq_true rfl) (Nat.le_of_ble_eq_true rfl) (s_J7_copyOf (hp_41 _ _ _ _ _) hn9) (fun v98 h98 q98 => ?_)
      obtain ⟨rfl, rfl⟩ := q98
      rw [hp_app, hp_len, List.append_assoc, show (E ++ [.inr (6, [.int 0, .null])] : kH).length = E.length + 1 by simp, ← Nat.add_assoc]
      show WP _ _ _ _ _ 101 _ [.ref (102 + E.length + 1), .int (nI r), .ref (102 + E.length), .ref (102 + E.length)] (HP c u m v (E ++ [.inr (6, [.int 0, .null]), .inl (0, (p).2.2.1, .inl (va_cpy (u.2.1 41) (fun _ => 0) 0 0 ((p).2.2.1)))])) _
      refine wp_widen (mc' := 0 + 0) (ms' := 0 + 0) (by omega) (by omega) ?_
      refine wp_special (As := [.int (nI r), .ref (102 + E.length + 1)]) d_X8_told_101 lk_X8_57 mv_X6_init rfl rfl in_X6_init (Nat.le_of_ble_eq_true rfl) (Nat.le_of_ble_eq_true rfl) (s_X6_init (by rw [hp_X (by omega), show 102 + E.length - 102 = E.length by omega]; simp)) (fun v101 h101 q101 => ?_)
      obtain ⟨rfl, rfl⟩ := q101
      rw [show (HP c u m v (E ++ [.inr (6, [.int 0, .null]), .inl (0, (p).2.2.1, .inl (va_cpy (u.2.1 41) (fun _ => 0) 0 0 ((p).2.2.1)))])).set (102 + E.length) (.inr (6, [.int (nI r), .ref (102 + E.length + 1)])) = HP c u m v (E ++ [.inr (6, [.int (nI r), .ref (102 + E.length + 1)]), .inl (0, (p).2.2.1, .inl (va_cpy (u.2.1 41) (fun _ => 0) 0 0 ((p).2.2.1)))]) from by rw [hp_setX (by omega), show 102 + E.length - 102 = E.length by omega]; simp [List.set_append]]
      show WP _ _ _ _ _ 104 _ [.ref (102 + E.length)] _ _
      refine wp_goto 108 d_X8_told_104 rfl ?_
      refine wp_aret d_X8_told_108 rfl (Or.inl ⟨_, rfl⟩) ?_
      exact Or.inr ⟨zc82, rfl, u, _, rfl, fun j hj => (k_cpy hj).trans (congrFun hx.1.2.2.2.2.1 j), hx⟩
  · refine wp_aload_n 1 d_X8_told_73 rfl rfl ?_
    refine wp_virtual0 (As := []) d_X8_told_74 lk_X8_48 mv_X8_fail in_X8_fail se_X8_fail (Nat.le_of_ble_eq_true rfl) (Nat.le_of_ble_eq_true rfl) (hp_37 _ _ _ _ _) rfl (s_X8_fail hw hx hj.1) (fun v74 h74 q74 => ?_)
    obtain ⟨rfl, u74, rfl, hx74⟩ := q74
    have hj74 := hj.fail (a1 := a) hw
    show WP _ _ _ _ _ 77 _ [] (HP c u74 m v E) _
    refine wp_aload_n 1 d_X8_told_77 rfl rfl ?_
    refine wp_getfield (v := .int ((qfail Z (p)).2.1)) d_X8_told_78 gf_X8_39 (hp_37 _ _ _ _ _) (congrArg (fun z => some (Value.int z)) hx74.1.2.2.1) ?_
    refine wp_iconst (v0 := -1) d_X8_told_81 rfl ?_
    refine wp_icmp_ne 107 d_X8_told_82 rfl (fun zc82 => ?_) (fun zc82 => ?_)
    · refine wp_null d_X8_told_107 ?_
      refine wp_nret d_X8_told_108 rfl (by first | exact Or.inl ⟨_, rfl⟩ | exact Or.inr ⟨_, rfl⟩) ?_
      rw [show qtold W Z p = qfail Z (p) from if_neg zc70]
      exact Or.inl ⟨zc82, rfl, u74, rfl, hx74⟩
    · rw [show qtold W Z p = qfail Z (p) from if_neg zc70]
      have hn9 : (qfail Z (p)).2.2.1 < 232 := by
        have t1 := hj74.2.2 zc82
        have t2 := hj74.1
        have t3 := hw.1
        omega
      refine wp_widen (mc' := 1 + 1) (ms' := 232 + 2) (by omega) (by omega) ?_
      refine wp_new (ci := 6) (r := (RX6, TX6, 2)) (fs := [.int 0, .null]) d_X8_told_85 rfl nw_X8_21 ins_X6 ini_X6 rfl (fun _ _ => rfl) ?_
      rw [hp_app, hp_len]
      show WP _ _ _ _ _ 88 _ [.ref (102 + E.length)] (HP c u74 m v (E ++ [.inr (6, [.int 0, .null])])) _
      refine wp_dup d_X8_told_88 rfl ?_
      refine wp_iload_n 0 d_X8_told_89 rfl rfl ?_
      refine wp_aload_n 1 d_X8_told_90 rfl rfl ?_
      refine wp_getfield (v := .ref (41)) d_X8_told_91 gf_X8_23 (hp_37 _ _ _ _ _) rfl ?_
      refine wp_aload_n 1 d_X8_told_94 rfl rfl ?_
      refine wp_getfield (v := .int (nI ((qfail Z (p)).2.2.1))) d_X8_told_95 gf_X8_42 (hp_37 _ _ _ _ _) (congrArg (fun z => some (Value.int z)) hx74.1.2.2.2.1) ?_
      refine wp_widen (mc' := 1 + 0) (ms' := (qfail Z (p)).2.2.1 + 0) (by omega) (by omega) ?_
      refine wp_static (As := [.ref 41, .int (nI (qfail Z (p)).2.2.1)]) d_X8_told_98 lk_X8_51 mv_J7_copyOf_59c91 st_J7_copyOf_59c91 (Nat.le_of_ble_eq_true rfl) (Nat.le_of_ble_eq_true rfl) (s_J7_copyOf (hp_41 _ _ _ _ _) hn9) (fun v98 h98 q98 => ?_)
      obtain ⟨rfl, rfl⟩ := q98
      rw [hp_app, hp_len, List.append_assoc, show (E ++ [.inr (6, [.int 0, .null])] : kH).length = E.length + 1 by simp, ← Nat.add_assoc]
      show WP _ _ _ _ _ 101 _ [.ref (102 + E.length + 1), .int (nI r), .ref (102 + E.length), .ref (102 + E.length)] (HP c u74 m v (E ++ [.inr (6, [.int 0, .null]), .inl (0, (qfail Z (p)).2.2.1, .inl (va_cpy (u74.2.1 41) (fun _ => 0) 0 0 ((qfail Z (p)).2.2.1)))])) _
      refine wp_widen (mc' := 0 + 0) (ms' := 0 + 0) (by omega) (by omega) ?_
      refine wp_special (As := [.int (nI r), .ref (102 + E.length + 1)]) d_X8_told_101 lk_X8_57 mv_X6_init rfl rfl in_X6_init (Nat.le_of_ble_eq_true rfl) (Nat.le_of_ble_eq_true rfl) (s_X6_init (by rw [hp_X (by omega), show 102 + E.length - 102 = E.length by omega]; simp)) (fun v101 h101 q101 => ?_)
      obtain ⟨rfl, rfl⟩ := q101
      rw [show (HP c u74 m v (E ++ [.inr (6, [.int 0, .null]), .inl (0, (qfail Z (p)).2.2.1, .inl (va_cpy (u74.2.1 41) (fun _ => 0) 0 0 ((qfail Z (p)).2.2.1)))])).set (102 + E.length) (.inr (6, [.int (nI r), .ref (102 + E.length + 1)])) = HP c u74 m v (E ++ [.inr (6, [.int (nI r), .ref (102 + E.length + 1)]), .inl (0, (qfail Z (p)).2.2.1, .inl (va_cpy (u74.2.1 41) (fun _ => 0) 0 0 ((qfail Z (p)).2.2.1)))]) from by rw [hp_setX (by omega), show 102 + E.length - 102 = E.length by omega]; simp [List.set_append]]
      show WP _ _ _ _ _ 104 _ [.ref (102 + E.length)] _ _
      refine wp_goto 108 d_X8_told_104 rfl ?_
      refine wp_aret d_X8_told_108 rfl (Or.inl ⟨_, rfl⟩) ?_
      exact Or.inr ⟨zc82, rfl, u74, _, rfl, fun j hj => (k_cpy hj).trans (congrFun hx74.1.2.2.2.2.1 j), hx74⟩
theorem s_X8_told_l {X : kX} {d : Nat} {c w m v : kZ} {E : kH} {W Z : Nat → Int32} {N : Nat} (hw : kW0 W Z N) {r9 : Nat} {p9 : kQt} : ∀ (k : Nat) (r : Nat) (p : kQt) (u : kZ), (r + k = 8) → (kTx w W Z p u) → (kJ W N (-(3 * (r : Int))) p) → (qrs W Z k r p = (r9, p9)) → WP X (d + 15) 2 234 Y_X8_told 31 [(1, .int (nI (r))), (0, .ref (37))] [] (HP c u m v E) (fun r1 h1 => ((qtold W Z p9).2.1 ≠ -1 ∧ r1 = some .null ∧ ∃ u1 : kZ, h1 = HP c u1 m v E ∧ kTx w W Z (qtold W Z p9) u1) ∨ ((qtold W Z p9).2.1 = -1 ∧ r1 = some (.ref (102 + E.length)) ∧ ∃ (u1 : kZ) (f : Nat → Int32), h1 = HP c u1 m v (E ++ [.inr (6, [.int (nI r9), .ref (102 + E.length + 1)]), .inl (0, (qtold W Z p9).2.2.1, .inl f)]) ∧ (∀ j, j < (qtold W Z p9).2.2.1 → f j = (qtold W Z p9).2.2.2 j) ∧ kTx w W Z (qtold W Z p9) u1)) := by
  intro k
  induction k using Nat.strongRecOn with
  | ind k ih =>
    intro r p u hi hx hj hr
    refine wp_iload_n 0 d_X8_told_31 rfl rfl ?_
    refine wp_bipush (v0 := 8) d_X8_told_32 (by decide) ?_
    refine wp_ncmp_ge (a := r) (b := 8) 64 d_X8_told_34 rfl (by omega) (by omega) (fun zc34 => ?_) (fun zc34 => ?_)
    · obtain rfl : k = 0 := by omega
      simp only [qrs] at hr
      injection hr with e1 e2
      subst e1 e2
      refine wp_sub [(1, .int (nI (r))), (0, .ref (37))] [0, 1] rfl ?_
      exact s_X8_told_e hw hx hj (by omega) (by omega)
    · refine wp_aload_n 1 d_X8_told_37 rfl rfl ?_
      refine wp_getfield (v := .int (W (p).1)) d_X8_told_38 gf_X8_36 (hp_37 _ _ _ _ _) (congrArg (fun z => some (Value.int z)) hx.1.2.1) ?_
      refine wp_bipush (v0 := 19) d_X8_told_41 (by decide) ?_
      refine wp_icmp_eq 64 d_X8_told_43 rfl (fun zc43 => ?_) (fun zc43 => ?_)
      · obtain ⟨k1, rfl⟩ : ∃ k1, k = k1 + 1 := ⟨k - 1, by omega⟩
        simp only [qrs] at hr
        rw [if_neg (fun z => z.1 zc43)] at hr
        injection hr with e1 e2
        subst e1 e2
        refine wp_sub [(1, .int (nI (r))), (0, .ref (37))] [0, 1] rfl ?_
        exact s_X8_told_e hw hx hj (by omega) (by omega)
      · refine wp_aload_n 1 d_X8_told_46 rfl rfl ?_
        refine wp_getfield (v := .int ((p).2.1)) d_X8_told_47 gf_X8_39 (hp_37 _ _ _ _ _) (congrArg (fun z => some (Value.int z)) hx.1.2.2.1) ?_
        refine wp_iconst (v0 := -1) d_X8_told_50 rfl ?_
        refine wp_icmp_ne 64 d_X8_told_51 rfl (fun zc51 => ?_) (fun zc51 => ?_)
        · obtain ⟨k1, rfl⟩ : ∃ k1, k = k1 + 1 := ⟨k - 1, by omega⟩
          simp only [qrs] at hr
          rw [if_neg (fun z => zc51 z.2)] at hr
          injection hr with e1 e2
          subst e1 e2
          refine wp_sub [(1, .int (nI (r))), (0, .ref (37))] [0, 1] rfl ?_
          exact s_X8_told_e hw hx hj (by omega) (by omega)
        · refine wp_aload_n 1 d_X8_told_54 rfl rfl ?_
          refine wp_virtual0 (As := []) d_X8_told_55 lk_X8_45 mv_X8_readRule in_X8_readRule se_X8_readRule (Nat.le_of_ble_eq_true rfl) (Nat.le_of_ble_eq_true rfl) (hp_37 _ _ _ _ _) rfl (s_X8_readRule hw hx hj (by have t1 := hj.2.2 zc51; have t2 := hj.1; have t3 := hw.1; omega)) (fun v55 h55 q55 => ?_)
          obtain ⟨rfl, u55, rfl, hx55⟩ := q55
          have hj55 := hj.rule1 hw
          show WP _ _ _ _ _ 58 _ [] (HP c u55 m v E) _
          refine wp_iinc (v0 := nI ((r) + 1)) [(1, .int (nI ((r) + 1))), (0, .ref (37))] 0 d_X8_told_58 rfl (nI_add (r) 1) (Nat.le_of_ble_eq_true rfl) rfl ?_
          refine wp_goto 31 d_X8_told_61 rfl ?_
          obtain ⟨k1, rfl⟩ : ∃ k1, k = k1 + 1 := ⟨k - 1, by omega⟩
          simp only [qrs] at hr
          rw [if_pos ⟨zc43, zc51⟩] at hr
          refine wp_sub [(1, .int (nI ((r) + 1))), (0, .ref (37))] [0, 1] rfl ?_
          exact ih k1 (by omega) (r + 1) _ u55 (by omega) hx55 (hj55.mono (by omega)) hr
theorem s_X8_told {X : kX} {d : Nat} {c w m v : kZ} {E : kH} {T : Nat} (hT : c.1 3701 = nI T) (hT2 : T ≤ 200) : WP X (d + 15) 2 234 Y_X8_told 0 [(0, .ref (37))] [] (HP c w m v E) (fun r1 h1 => ∃ W Z : Nat → Int32, kWd (c.2.1 38) T W Z ∧ (fun r1 h1 => ((qtold W Z (qrs W Z 8 0 (0, -1, 0, w.2.1 41)).2).2.1 ≠ -1 ∧ r1 = some .null ∧ ∃ u1 : kZ, h1 = HP c u1 m v E ∧ kTx w W Z (qtold W Z (qrs W Z 8 0 (0, -1, 0, w.2.1 41)).2) u1) ∨ ((qtold W Z (qrs W Z 8 0 (0, -1, 0, w.2.1 41)).2).2.1 = -1 ∧ r1 = some (.ref (102 + E.length)) ∧ ∃ (u1 : kZ) (f : Nat → Int32), h1 = HP c u1 m v (E ++ [.inr (6, [.int (nI (qrs W Z 8 0 (0, -1, 0, w.2.1 41)).1), .ref (102 + E.length + 1)]), .inl (0, (qtold W Z (qrs W Z 8 0 (0, -1, 0, w.2.1 41)).2).2.2.1, .inl f)]) ∧ (∀ j, j < (qtold W Z (qrs W Z 8 0 (0, -1, 0, w.2.1 41)).2).2.2.1 → f j = (qtold W Z (qrs W Z 8 0 (0, -1, 0, w.2.1 41)).2).2.2.2 j) ∧ kTx w W Z (qtold W Z (qrs W Z 8 0 (0, -1, 0, w.2.1 41)).2) u1)) r1 h1) := by
  refine wp_aload_n 0 d_X8_told_0 rfl rfl ?_
  refine wp_virtual0 (As := []) d_X8_told_1 lk_X8_30 mv_X8_split in_X8_split se_X8_split (Nat.le_of_ble_eq_true rfl) (Nat.le_of_ble_eq_true rfl) (hp_37 _ _ _ _ _) rfl (s_X8_split hT hT2) (fun v1 h1 q1 => ?_)
  obtain ⟨rfl, u1, rfl, hf, hs, hl1, hl2⟩ := q1
  have hw0 := hs.w0 hT2 hl1 hl2
  show WP _ _ _ _ _ 4 _ [] (HP c u1 m v E) _
  refine wp_aload_n 0 d_X8_told_4 rfl rfl ?_
  refine wp_iconst (v0 := 0) d_X8_told_5 rfl ?_
  refine wp_putfield (h' := HP c (setS u1 3704 (0)) m v E) d_X8_told_6 gp_X8_33 (kfit_i _) (hp_37 _ _ _ _ _) (Nat.le_of_ble_eq_true rfl) (hps_37_4 _ _ _ _ _ _) ?_
  refine wp_aload_n 0 d_X8_told_9 rfl rfl ?_
  refine wp_aload_n 0 d_X8_told_10 rfl rfl ?_
  refine wp_getfield (v := .ref (39)) d_X8_told_11 gf_X8_15 (hp_37 _ _ _ _ _) rfl ?_
  refine wp_iconst (v0 := 0) d_X8_told_14 rfl ?_
  refine wp_iaload (v := (u1.2.1 39) (0)) d_X8_told_15 (hp_39 _ _ _ _ _) (kin rfl) rfl ?_
  refine wp_putfield (h' := HP c (setS (setS u1 3704 (0)) 3705 ((u1.2.1 39) (0))) m v E) d_X8_told_16 gp_X8_36 (kfit_i _) (hp_37 _ _ _ _ _) (Nat.le_of_ble_eq_true rfl) (hps_37_5 _ _ _ _ _ _) ?_
  refine wp_aload_n 0 d_X8_told_19 rfl rfl ?_
  refine wp_iconst (v0 := -1) d_X8_told_20 rfl ?_
  refine wp_putfield (h' := HP c (setS (setS (setS u1 3704 (0)) 3705 ((u1.2.1 39) (0))) 3706 ((-1))) m v E) d_X8_told_21 gp_X8_39 (kfit_i _) (hp_37 _ _ _ _ _) (Nat.le_of_ble_eq_true rfl) (hps_37_6 _ _ _ _ _ _) ?_
  refine wp_aload_n 0 d_X8_told_24 rfl rfl ?_
  refine wp_iconst (v0 := 0) d_X8_told_25 rfl ?_
  refine wp_putfield (h' := HP c (setS (setS (setS (setS u1 3704 (0)) 3705 ((u1.2.1 39) (0))) 3706 ((-1))) 3708 (0)) m v E) d_X8_told_26 gp_X8_42 (kfit_i _) (hp_37 _ _ _ _ _) (Nat.le_of_ble_eq_true rfl) (hps_37_8 _ _ _ _ _ _) ?_
  refine wp_iconst (v0 := 0) d_X8_told_29 rfl ?_
  refine wp_istore_n [(1, .int (0)), (0, .ref (37))] d_X8_told_30 rfl (Nat.le_of_ble_eq_true rfl) rfl ?_
  refine wp_sub [(1, .int (0)), (0, .ref (37))] [0, 1] rfl ?_
  have hx9 : kTx w (u1.2.1 39) (u1.2.1 40) (0, -1, 0, w.2.1 41) (setS (setS (setS (setS u1 3704 (0)) 3705 ((u1.2.1 39) (0))) 3706 ((-1))) 3708 (0)) := by
    refine ⟨⟨rfl, rfl, rfl, rfl, hf.2.1 41 (by decide) (by decide), rfl, rfl⟩, fun k e1 e2 e3 e4 => ?_, fun k e1 e2 _ => hf.2.1 k e1 e2, hf.2.2⟩
    show upd (upd (upd (upd u1.1 3704 _) 3705 _) 3706 _) 3708 _ k = _
    rw [upd_n _ _ e4, upd_n _ _ e3, upd_n _ _ e2, upd_n _ _ e1, hf.1]
  generalize (setS (setS (setS (setS u1 3704 (0)) 3705 ((u1.2.1 39) (0))) 3706 ((-1))) 3708 (0)) = u9 at hx9 ⊢
  cases h9 : qrs (u1.2.1 39) (u1.2.1 40) 8 0 (0, -1, 0, w.2.1 41) with
  | mk r9 p9 =>
    refine wp_mono ?_ (s_X8_told_l hw0 8 0 _ u9 (by omega) hx9 ⟨by show 0 ≤ _; omega, by show 0 ≤ 232; omega, fun _ => by show ((0 : Nat) : Int) + _ ≤ ((0 : Nat) : Int); omega⟩ h9)
    intro r1 h1 hq
    exact ⟨u1.2.1 39, u1.2.1 40, ⟨hs, hl1, hl2⟩, by rw [h9]; exact hq⟩
