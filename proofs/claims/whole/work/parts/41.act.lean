/-! ===== acts: what is told by both ===== -/
def kdmV (K n a x : Int32) : Int32 := if K = 1 then (x + a) ^^^ n else if K = 3 then x + a + 1 else x + a
def kdmB (K : Int32) : List Int32 := if K = 1 then [20, 10] else if K = 3 then [50, 10] else [10]
def kwdV (K n a x : Int32) : Int32 := if K = 2 ∨ K = 3 then kdmV K n a x * 2 - a else if K = 5 then -(kdmV K n a x * 2) else kdmV K n a x * 2
def kwdB (K : Int32) : List Int32 := if K = 1 then [11, 20, 10] else if K = 2 then [30, 11, 10] else if K = 3 then [30, 11, 50, 10] else if K = 5 then [60, 11, 10] else [11, 10]
def kptV (K n a x : Int32) : Int32 := if K = 4 then (x * 2) / (a - n) else if K = 5 then (x * 2) / (a - n) - (n + a) else x / (a - n)
def kptB (K n a : Int32) : List Int32 := if K = 4 then [40, 12] else if K = 5 then (if a = n then [61, 40, 12] else [61, 40, 12, 10]) else [12]
def ktlV (K n a x : Int32) : Int32 := if K = 3 then (kwdV K n a x ^^^ n) + n / (a - n) else kwdV K n a x ^^^ n
def ktlB (K : Int32) : List Int32 := if K = 3 then [51, 13, 30, 11, 50, 10, 12] else 13 :: kwdB K
theorem ksub0 {a n : Int32} (h : ¬ a = n) : ¬ a - n = 0 := fun q => h (by have := Int32.sub_add_cancel a n; rw [q, Int32.zero_add] at this; exact this.symm)
def kaV (q : Nat) (K n a x : Int32) : Int32 := match q with | 0 => kdmV K n a x | 1 => kwdV K n a x | 2 => kptV K n a x | _ => ktlV K n a x
def kaB (q : Nat) (K n a : Int32) : List Int32 := match q with | 0 => kdmB K | 1 => kwdB K | 2 => kptB K n a | _ => ktlB K
def kaP (q : Nat) (K n a : Int32) : Prop := match q with | 0 => False | 1 => False | 2 => a = n | _ => K = 3 ∧ a = n
/-! the class -/
def kTc (zc0 c : kZ) (L : List Int32) : Prop := (∀ k, k ≠ 7805 → c.1 k = zc0.1 k) ∧ (∀ k, k ≠ 79 → c.2.1 k = zc0.2.1 k) ∧ c.2.2 = zc0.2.2 ∧ c.1 7805 = nI L.length ∧ ∀ i (h : i < L.length), c.2.1 79 i = L[i]
theorem kTc.put {zc0 c : kZ} {L : List Int32} (h : kTc zc0 c L) (b : Int32) : kTc zc0 (setS (setA c 79 (upd (c.2.1 79) L.length b)) 7805 (nI (L.length + 1))) (L ++ [b]) := by
  obtain ⟨h1, h2, h3, h4, h5⟩ := h
  refine ⟨fun k hk => ?_, fun k hk => ?_, h3, ?_, fun i hi => ?_⟩
  · show upd c.1 7805 _ k = _
    rw [upd_n _ _ hk]; exact h1 k hk
  · show updA c.2.1 79 _ k = _
    rw [updA_n _ _ hk]; exact h2 k hk
  · rw [List.length_append]; rfl
  · show upd (c.2.1 79) L.length b i = _
    by_cases e : i = L.length
    · subst e; rw [upd_s]; simp
    · rw [upd_n _ _ e]
      rw [List.length_append] at hi
      simp only [List.length_cons, List.length_nil] at hi
      rw [List.getElem_append_left (by omega)]
      exact h5 i (by omega)
def kD (w : kZ) (K n a : Int32) : Prop := w.1 7800 = K ∧ w.1 7801 = n ∧ w.1 7802 = a ∧ w.1 7803 = 0
theorem s_X3_begin {X : kX} {d : Nat} {c w m v : kZ} {E : kH} {zc0 : kZ} {L : List Int32} (hT : kTc zc0 c L) (hL : L.length ≤ 29) (hp0 : w.1 7803 = 0) (b : Int32) : WP X d 0 0 Y_X3_begin 0 [(0, .ref (78)), (1, .int (b))] [] (HP c w m v E) (fun r h1 => r = none ∧ ∃ zc1 : kZ, h1 = HP zc1 w m v E ∧ kTc zc0 zc1 (L ++ [b])) := by
  refine wp_aload_n 0 d_X3_begin_0 rfl rfl ?_
  refine wp_getfield (v := .int (0)) d_X3_begin_1 gf_X3_25 (hp_78 _ _ _ _ _) (congrArg (fun z => some (Value.int z)) hp0) ?_
  refine wp_if_ne 16 d_X3_begin_4 rfl (fun z => absurd z (by decide)) (fun _ => ?_)
  refine wp_aload_n 0 d_X3_begin_7 rfl rfl ?_
  refine wp_getfield (v := .int (nI (L.length))) d_X3_begin_8 gf_X3_29 (hp_78 _ _ _ _ _) (congrArg (fun z => some (Value.int z)) hT.2.2.2.1) ?_
  refine wp_bipush (v0 := 30) d_X3_begin_11 (by decide) ?_
  refine wp_ncmp_lt (a := L.length) (b := 30) 17 d_X3_begin_13 rfl (by omega) (by omega) (fun zc13 => ?_) (fun zc13 => ?_)
  · refine wp_aload_n 0 d_X3_begin_17 rfl rfl ?_
    refine wp_getfield (v := .ref (79)) d_X3_begin_18 gf_X3_9 (hp_78 _ _ _ _ _) rfl ?_
    refine wp_aload_n 0 d_X3_begin_21 rfl rfl ?_
    refine wp_getfield (v := .int (nI (L.length))) d_X3_begin_22 gf_X3_29 (hp_78 _ _ _ _ _) (congrArg (fun z => some (Value.int z)) hT.2.2.2.1) ?_
    refine wp_iload_n 1 d_X3_begin_25 rfl rfl ?_
    refine wp_iastore (h' := HP (setA c 79 (upd (c.2.1 79) (L.length) (b))) w m v E) d_X3_begin_26 (hp_79 _ _ _ _ _) (vp_in_nI (by omega) (by omega)) (by rw [nI_clamp (by omega)]; exact (hpa_79 _ _ _ _ _ _)) ?_
    refine wp_aload_n 0 d_X3_begin_27 rfl rfl ?_
    refine wp_dup d_X3_begin_28 rfl ?_
    refine wp_getfield (v := .int (nI (L.length))) d_X3_begin_29 gf_X3_29 (hp_78 _ _ _ _ _) (congrArg (fun z => some (Value.int z)) hT.2.2.2.1) ?_
    refine wp_iconst (v0 := 1) d_X3_begin_32 rfl ?_
    refine wp_iadd d_X3_begin_33 ?_
    refine wp_v (v0 := nI ((L.length) + (1))) (nI_add (L.length) (1)) ?_
    refine wp_putfield (h' := HP (setS (setA c 79 (upd (c.2.1 79) (L.length) (b))) 7805 (nI ((L.length) + (1)))) w m v E) d_X3_begin_34 gp_X3_29 (kfit_i _) (hp_78 _ _ _ _ _) (Nat.le_of_ble_eq_true rfl) (hps_78_5 _ _ _ _ _ _) ?_
    refine wp_vret d_X3_begin_37 rfl ?_
    exact ⟨rfl, _, rfl, hT.put b⟩
  · refine wp_vret d_X3_begin_16 rfl ?_
    omega
theorem s_X3_begin_p {X : kX} {d : Nat} {c w m v : kZ} {E : kH} (hp1 : w.1 7803 = 1) (b : Int32) : WP X d 0 0 Y_X3_begin 0 [(0, .ref (78)), (1, .int (b))] [] (HP c w m v E) (kR none (HP c w m v E)) := by
  refine wp_aload_n 0 d_X3_begin_0 rfl rfl ?_
  refine wp_getfield (v := .int (1)) d_X3_begin_1 gf_X3_25 (hp_78 _ _ _ _ _) (congrArg (fun z => some (Value.int z)) hp1) ?_
  refine wp_if_ne 16 d_X3_begin_4 rfl (fun _ => ?_) (fun z => absurd z (by decide))
  refine wp_vret d_X3_begin_16 rfl ?_
  exact ⟨rfl, rfl⟩
def kD1 (w : kZ) (K n a : Int32) : Prop := w.1 7800 = K ∧ w.1 7801 = n ∧ w.1 7802 = a ∧ w.1 7803 = 1
theorem s_X3_lensDims {X : kX} {d : Nat} {c w m v : kZ} {E : kH} {z0 : kZ} {L : List Int32} (hT : kTc z0 c L) (hL : L.length ≤ 28) {K n a : Int32} (hD : kD w K n a) (x : Int32)  : WP X (d + 1) 0 0 Y_X3_lensDims 0 [(0, .ref (78)), (1, .int (x))] [] (HP c w m v E) (fun r h1 => r = some (.int ((x) + a)) ∧ ∃ zz : kZ, h1 = HP zz w m v E ∧ kTc z0 zz (L ++ [10])) := by
  refine wp_aload_n 0 d_X3_lensDims_0 rfl rfl ?_
  refine wp_bipush (v0 := 10) d_X3_lensDims_1 (by decide) ?_
  refine wp_virtual0 (As := [.int (10)]) d_X3_lensDims_3 lk_X3_32 mv_X3_begin in_X3_begin se_X3_begin (Nat.le_of_ble_eq_true rfl) (Nat.le_of_ble_eq_true rfl) (hp_78 _ _ _ _ _) rfl (s_X3_begin (c := c) hT (by first | omega | (simp only [List.length_append, List.length_cons, List.length_nil]; omega)) hD.2.2.2 (10)) (fun v3 h3 q3 => ?_)
  obtain ⟨rfl, c3_, rfl, hT3⟩ := q3
  show WP _ _ _ _ _ 6 _ [] (HP c3_ w m v E) _
  refine wp_iload_n 1 d_X3_lensDims_6 rfl rfl ?_
  refine wp_aload_n 0 d_X3_lensDims_7 rfl rfl ?_
  refine wp_getfield (v := .int (a)) d_X3_lensDims_8 gf_X3_22 (hp_78 _ _ _ _ _) (congrArg (fun z => some (Value.int z)) hD.2.2.1) ?_
  refine wp_iadd d_X3_lensDims_11 ?_
  refine wp_reti d_X3_lensDims_12 rfl ?_
  exact ⟨rfl, _, rfl, by simpa using hT3⟩
theorem s_X3_lensDims_p {X : kX} {d : Nat} {c w m v : kZ} {E : kH} {K n a : Int32} (hD : kD1 w K n a) (x : Int32) : WP X (d + 1) 0 0 Y_X3_lensDims 0 [(0, .ref (78)), (1, .int (x))] [] (HP c w m v E) (kR (some (.int ((x) + a))) (HP c w m v E)) := by
  refine wp_aload_n 0 d_X3_lensDims_0 rfl rfl ?_
  refine wp_bipush (v0 := 10) d_X3_lensDims_1 (by decide) ?_
  refine wp_vrt_v (As := [.int (10)]) (h1 := HP c w m v E) d_X3_lensDims_3 lk_X3_32 mv_X3_begin in_X3_begin se_X3_begin (Nat.le_of_ble_eq_true rfl) (Nat.le_of_ble_eq_true rfl) (hp_78 _ _ _ _ _) rfl (s_X3_begin_p hD.2.2.2 (10)) ?_
  refine wp_iload_n 1 d_X3_lensDims_6 rfl rfl ?_
  refine wp_aload_n 0 d_X3_lensDims_7 rfl rfl ?_
  refine wp_getfield (v := .int (a)) d_X3_lensDims_8 gf_X3_22 (hp_78 _ _ _ _ _) (congrArg (fun z => some (Value.int z)) hD.2.2.1) ?_
  refine wp_iadd d_X3_lensDims_11 ?_
  refine wp_reti d_X3_lensDims_12 rfl ?_
  exact ⟨rfl, rfl⟩
theorem s_X3_dims_p {X : kX} {d : Nat} {c w m v : kZ} {E : kH} {n a : Int32} (hD : kD1 w 5 n a) (x : Int32) : WP X (d + 2) 0 0 Y_X3_dims 0 [(0, .ref (78)), (1, .int (x))] [] (HP c w m v E) (kR (some (.int ((x) + a))) (HP c w m v E)) := by
  refine wp_aload_n 0 d_X3_dims_0 rfl rfl ?_
  refine wp_getfield (v := .int (5)) d_X3_dims_1 gf_X3_15 (hp_78 _ _ _ _ _) (congrArg (fun z => some (Value.int z)) hD.1) ?_
  refine wp_swd_X3_dims_4 (by decide) (by decide) ?_
  refine wp_aload_n 0 d_X3_dims_63 rfl rfl ?_
  refine wp_iload_n 1 d_X3_dims_64 rfl rfl ?_
  refine wp_vrt_i (As := [.int (x)]) (x0 := (x) + a) (h1 := HP c w m v E) d_X3_dims_65 lk_X3_36 mv_X3_lensDims in_X3_lensDims se_X3_lensDims (Nat.le_of_ble_eq_true rfl) (Nat.le_of_ble_eq_true rfl) (hp_78 _ _ _ _ _) rfl (s_X3_lensDims_p hD (x)) ?_
  refine wp_reti d_X3_dims_68 rfl ?_
  exact ⟨rfl, rfl⟩
theorem s_X3_dims_1 {X : kX} {d : Nat} {c w m v : kZ} {E : kH} {z0 : kZ} {L : List Int32} (hT : kTc z0 c L) (hL : L.length ≤ 26) {n a : Int32} (hD : kD w 1 n a) (x : Int32)  : WP X (d + 2) 0 0 Y_X3_dims 0 [(0, .ref (78)), (1, .int (x))] [] (HP c w m v E) (fun r h1 => r = some (.int (((x) + a) ^^^ n)) ∧ ∃ zz : kZ, h1 = HP zz w m v E ∧ kTc z0 zz (L ++ [20, 10])) := by
  refine wp_aload_n 0 d_X3_dims_0 rfl rfl ?_
  refine wp_getfield (v := .int (1)) d_X3_dims_1 gf_X3_15 (hp_78 _ _ _ _ _) (congrArg (fun z => some (Value.int z)) hD.1) ?_
  refine wp_lookup 32 d_X3_dims_4 rfl rfl rfl ?_
  refine wp_aload_n 0 d_X3_dims_32 rfl rfl ?_
  refine wp_bipush (v0 := 20) d_X3_dims_33 (by decide) ?_
  refine wp_virtual0 (As := [.int (20)]) d_X3_dims_35 lk_X3_32 mv_X3_begin in_X3_begin se_X3_begin (Nat.le_of_ble_eq_true rfl) (Nat.le_of_ble_eq_true rfl) (hp_78 _ _ _ _ _) rfl (s_X3_begin (c := c) hT (by first | omega | (simp only [List.length_append, List.length_cons, List.length_nil]; omega)) hD.2.2.2 (20)) (fun v35 h35 q35 => ?_)
  obtain ⟨rfl, c35_, rfl, hT35⟩ := q35
  show WP _ _ _ _ _ 38 _ [] (HP c35_ w m v E) _
  refine wp_aload_n 0 d_X3_dims_38 rfl rfl ?_
  refine wp_iload_n 1 d_X3_dims_39 rfl rfl ?_
  refine wp_virtual0 (As := [.int (x)]) d_X3_dims_40 lk_X3_36 mv_X3_lensDims in_X3_lensDims se_X3_lensDims (Nat.le_of_ble_eq_true rfl) (Nat.le_of_ble_eq_true rfl) (hp_78 _ _ _ _ _) rfl (s_X3_lensDims (c := c35_) hT35 (by first | omega | (simp only [List.length_append, List.length_cons, List.length_nil]; omega)) hD (x)) (fun v40 h40 q40 => ?_)
  obtain ⟨rfl, c40_, rfl, hT40⟩ := q40
  show WP _ _ _ _ _ 43 _ [.int ((x) + a)] (HP c40_ w m v E) _
  refine wp_aload_n 0 d_X3_dims_43 rfl rfl ?_
  refine wp_getfield (v := .int (n)) d_X3_dims_44 gf_X3_19 (hp_78 _ _ _ _ _) (congrArg (fun z => some (Value.int z)) hD.2.1) ?_
  refine wp_ixor d_X3_dims_47 ?_
  refine wp_reti d_X3_dims_48 rfl ?_
  exact ⟨rfl, _, rfl, by simpa using hT40⟩
theorem s_X3_lensWidens_1 {X : kX} {d : Nat} {c w m v : kZ} {E : kH} {z0 : kZ} {L : List Int32} (hT : kTc z0 c L) (hL : L.length ≤ 25) {n a : Int32} (hD : kD w 1 n a) (x : Int32)  : WP X (d + 3) 0 0 Y_X3_lensWidens 0 [(0, .ref (78)), (1, .int (x))] [] (HP c w m v E) (fun r h1 => r = some (.int ((((x) + a) ^^^ n) * 2)) ∧ ∃ zz : kZ, h1 = HP zz w m v E ∧ kTc z0 zz (L ++ [11, 20, 10])) := by
  refine wp_aload_n 0 d_X3_lensWidens_0 rfl rfl ?_
  refine wp_bipush (v0 := 11) d_X3_lensWidens_1 (by decide) ?_
  refine wp_virtual0 (As := [.int (11)]) d_X3_lensWidens_3 lk_X3_32 mv_X3_begin in_X3_begin se_X3_begin (Nat.le_of_ble_eq_true rfl) (Nat.le_of_ble_eq_true rfl) (hp_78 _ _ _ _ _) rfl (s_X3_begin (c := c) hT (by first | omega | (simp only [List.length_append, List.length_cons, List.length_nil]; omega)) hD.2.2.2 (11)) (fun v3 h3 q3 => ?_)
  obtain ⟨rfl, c3_, rfl, hT3⟩ := q3
  show WP _ _ _ _ _ 6 _ [] (HP c3_ w m v E) _
  refine wp_aload_n 0 d_X3_lensWidens_6 rfl rfl ?_
  refine wp_iload_n 1 d_X3_lensWidens_7 rfl rfl ?_
  refine wp_virtual0 (As := [.int (x)]) d_X3_lensWidens_8 lk_X3_43 mv_X3_dims in_X3_dims se_X3_dims (Nat.le_of_ble_eq_true rfl) (Nat.le_of_ble_eq_true rfl) (hp_78 _ _ _ _ _) rfl (s_X3_dims_1 (c := c3_) hT3 (by first | omega | (simp only [List.length_append, List.length_cons, List.length_nil]; omega)) hD (x)) (fun v8 h8 q8 => ?_)
  obtain ⟨rfl, c8_, rfl, hT8⟩ := q8
  show WP _ _ _ _ _ 11 _ [.int (((x) + a) ^^^ n)] (HP c8_ w m v E) _
  refine wp_iconst (v0 := 2) d_X3_lensWidens_11 rfl ?_
  refine wp_imul d_X3_lensWidens_12 ?_
  refine wp_reti d_X3_lensWidens_13 rfl ?_
  exact ⟨rfl, _, rfl, by simpa using hT8⟩
theorem s_X3_widens_1 {X : kX} {d : Nat} {c w m v : kZ} {E : kH} {z0 : kZ} {L : List Int32} (hT : kTc z0 c L) (hL : L.length ≤ 23) {n a : Int32} (hD : kD w 1 n a) (x : Int32)  : WP X (d + 4) 0 0 Y_X3_widens 0 [(0, .ref (78)), (1, .int (x))] [] (HP c w m v E) (fun r h1 => r = some (.int ((((x) + a) ^^^ n) * 2)) ∧ ∃ zz : kZ, h1 = HP zz w m v E ∧ kTc z0 zz (L ++ [11, 20, 10])) := by
  refine wp_aload_n 0 d_X3_widens_0 rfl rfl ?_
  refine wp_getfield (v := .int (1)) d_X3_widens_1 gf_X3_15 (hp_78 _ _ _ _ _) (congrArg (fun z => some (Value.int z)) hD.1) ?_
  refine wp_swd_X3_widens_4 (by decide) (by decide) (by decide) ?_
  refine wp_aload_n 0 d_X3_widens_66 rfl rfl ?_
  refine wp_iload_n 1 d_X3_widens_67 rfl rfl ?_
  refine wp_virtual0 (As := [.int (x)]) d_X3_widens_68 lk_X3_40 mv_X3_lensWidens in_X3_lensWidens se_X3_lensWidens (Nat.le_of_ble_eq_true rfl) (Nat.le_of_ble_eq_true rfl) (hp_78 _ _ _ _ _) rfl (s_X3_lensWidens_1 (c := c) hT (by first | omega | (simp only [List.length_append, List.length_cons, List.length_nil]; omega)) hD (x)) (fun v68 h68 q68 => ?_)
  obtain ⟨rfl, c68_, rfl, hT68⟩ := q68
  show WP _ _ _ _ _ 71 _ [.int ((((x) + a) ^^^ n) * 2)] (HP c68_ w m v E) _
  refine wp_reti d_X3_widens_71 rfl ?_
  exact ⟨rfl, _, rfl, by simpa using hT68⟩
theorem s_X3_lensTells_1 {X : kX} {d : Nat} {c w m v : kZ} {E : kH} {z0 : kZ} {L : List Int32} (hT : kTc z0 c L) (hL : L.length ≤ 22) {n a : Int32} (hD : kD w 1 n a) (x : Int32)  : WP X (d + 5) 0 0 Y_X3_lensTells 0 [(0, .ref (78)), (1, .int (x))] [] (HP c w m v E) (fun r h1 => r = some (.int (((((x) + a) ^^^ n) * 2) ^^^ n)) ∧ ∃ zz : kZ, h1 = HP zz w m v E ∧ kTc z0 zz (L ++ [13, 11, 20, 10])) := by
  refine wp_aload_n 0 d_X3_lensTells_0 rfl rfl ?_
  refine wp_bipush (v0 := 13) d_X3_lensTells_1 (by decide) ?_
  refine wp_virtual0 (As := [.int (13)]) d_X3_lensTells_3 lk_X3_32 mv_X3_begin in_X3_begin se_X3_begin (Nat.le_of_ble_eq_true rfl) (Nat.le_of_ble_eq_true rfl) (hp_78 _ _ _ _ _) rfl (s_X3_begin (c := c) hT (by first | omega | (simp only [List.length_append, List.length_cons, List.length_nil]; omega)) hD.2.2.2 (13)) (fun v3 h3 q3 => ?_)
  obtain ⟨rfl, c3_, rfl, hT3⟩ := q3
  show WP _ _ _ _ _ 6 _ [] (HP c3_ w m v E) _
  refine wp_aload_n 0 d_X3_lensTells_6 rfl rfl ?_
  refine wp_iload_n 1 d_X3_lensTells_7 rfl rfl ?_
  refine wp_virtual0 (As := [.int (x)]) d_X3_lensTells_8 lk_X3_58 mv_X3_widens in_X3_widens se_X3_widens (Nat.le_of_ble_eq_true rfl) (Nat.le_of_ble_eq_true rfl) (hp_78 _ _ _ _ _) rfl (s_X3_widens_1 (c := c3_) hT3 (by first | omega | (simp only [List.length_append, List.length_cons, List.length_nil]; omega)) hD (x)) (fun v8 h8 q8 => ?_)
  obtain ⟨rfl, c8_, rfl, hT8⟩ := q8
  show WP _ _ _ _ _ 11 _ [.int ((((x) + a) ^^^ n) * 2)] (HP c8_ w m v E) _
  refine wp_aload_n 0 d_X3_lensTells_11 rfl rfl ?_
  refine wp_getfield (v := .int (n)) d_X3_lensTells_12 gf_X3_19 (hp_78 _ _ _ _ _) (congrArg (fun z => some (Value.int z)) hD.2.1) ?_
  refine wp_ixor d_X3_lensTells_15 ?_
  refine wp_reti d_X3_lensTells_16 rfl ?_
  exact ⟨rfl, _, rfl, by simpa using hT8⟩
theorem s_X3_lensParts {X : kX} {d : Nat} {c w m v : kZ} {E : kH} {z0 : kZ} {L : List Int32} (hT : kTc z0 c L) (hL : L.length ≤ 28) {K n a : Int32} (hD : kD w K n a) (x : Int32)  : WP X (d + 1) 0 0 Y_X3_lensParts 0 [(0, .ref (78)), (1, .int (x))] [] (HP c w m v E) (fun r h1 => ∃ zz : kZ, (a ≠ n ∧ r = some (.int (x / (a - n))) ∧ h1 = HP zz w m v E ∧ kTc z0 zz (L ++ [12])) ∨ (a = n ∧ (∃ y : Int32, r = some (.int y)) ∧ h1 = HP zz (setS w 7803 1) m v E ∧ kTc z0 zz (L ++ [12]))) := by
  refine wp_aload_n 0 d_X3_lensParts_0 rfl rfl ?_
  refine wp_bipush (v0 := 12) d_X3_lensParts_1 (by decide) ?_
  refine wp_virtual0 (As := [.int (12)]) d_X3_lensParts_3 lk_X3_32 mv_X3_begin in_X3_begin se_X3_begin (Nat.le_of_ble_eq_true rfl) (Nat.le_of_ble_eq_true rfl) (hp_78 _ _ _ _ _) rfl (s_X3_begin (c := c) hT (by first | omega | (simp only [List.length_append, List.length_cons, List.length_nil]; omega)) hD.2.2.2 (12)) (fun v3 h3 q3 => ?_)
  obtain ⟨rfl, c3_, rfl, hT3⟩ := q3
  show WP _ _ _ _ _ 6 _ [] (HP c3_ w m v E) _
  refine wp_aload_n 0 d_X3_lensParts_6 rfl rfl ?_
  refine wp_getfield (v := .int (a)) d_X3_lensParts_7 gf_X3_22 (hp_78 _ _ _ _ _) (congrArg (fun z => some (Value.int z)) hD.2.2.1) ?_
  refine wp_aload_n 0 d_X3_lensParts_10 rfl rfl ?_
  refine wp_getfield (v := .int (n)) d_X3_lensParts_11 gf_X3_19 (hp_78 _ _ _ _ _) (congrArg (fun z => some (Value.int z)) hD.2.1) ?_
  refine wp_icmp_ne 24 d_X3_lensParts_14 rfl (fun zc14 => ?_) (fun zc14 => ?_)
  · have hne := zc14
    refine wp_iload_n 1 d_X3_lensParts_24 rfl rfl ?_
    refine wp_aload_n 0 d_X3_lensParts_25 rfl rfl ?_
    refine wp_getfield (v := .int (a)) d_X3_lensParts_26 gf_X3_22 (hp_78 _ _ _ _ _) (congrArg (fun z => some (Value.int z)) hD.2.2.1) ?_
    refine wp_aload_n 0 d_X3_lensParts_29 rfl rfl ?_
    refine wp_getfield (v := .int (n)) d_X3_lensParts_30 gf_X3_19 (hp_78 _ _ _ _ _) (congrArg (fun z => some (Value.int z)) hD.2.1) ?_
    refine wp_isub d_X3_lensParts_33 ?_
    refine wp_idiv d_X3_lensParts_34 (ksub0 hne) ?_
    refine wp_reti d_X3_lensParts_35 rfl ?_
    exact ⟨_, Or.inl ⟨hne, rfl, rfl, by simpa using hT3⟩⟩
  · have heq := zc14
    refine wp_aload_n 0 d_X3_lensParts_17 rfl rfl ?_
    refine wp_iconst (v0 := 1) d_X3_lensParts_18 rfl ?_
    refine wp_putfield (h' := HP c3_ (setS w 7803 (1)) m v E) d_X3_lensParts_19 gp_X3_25 kfit_z1 (hp_78 _ _ _ _ _) (Nat.le_of_ble_eq_true rfl) (hps_78_3 _ _ _ _ _ _) ?_
    refine wp_iconst (v0 := 0) d_X3_lensParts_22 rfl ?_
    refine wp_reti d_X3_lensParts_23 rfl ?_
    exact ⟨_, Or.inr ⟨heq, ⟨_, rfl⟩, rfl, by simpa using hT3⟩⟩
theorem s_X3_twinParts {X : kX} {d : Nat} {c w m v : kZ} {E : kH} {z0 : kZ} {L : List Int32} (hT : kTc z0 c L) (hL : L.length ≤ 27) {K n a : Int32} (hD : kD w K n a) (x : Int32)  : WP X (d + 2) 0 0 Y_X3_twinParts 0 [(0, .ref (78)), (1, .int (x))] [] (HP c w m v E) (fun r h1 => ∃ zz : kZ, (a ≠ n ∧ r = some (.int ((x) * (2) / (a - n))) ∧ h1 = HP zz w m v E ∧ kTc z0 zz (L ++ [40, 12])) ∨ (a = n ∧ (∃ y : Int32, r = some (.int y)) ∧ h1 = HP zz (setS w 7803 1) m v E ∧ kTc z0 zz (L ++ [40, 12]))) := by
  refine wp_aload_n 0 d_X3_twinParts_0 rfl rfl ?_
  refine wp_bipush (v0 := 40) d_X3_twinParts_1 (by decide) ?_
  refine wp_virtual0 (As := [.int (40)]) d_X3_twinParts_3 lk_X3_32 mv_X3_begin in_X3_begin se_X3_begin (Nat.le_of_ble_eq_true rfl) (Nat.le_of_ble_eq_true rfl) (hp_78 _ _ _ _ _) rfl (s_X3_begin (c := c) hT (by first | omega | (simp only [List.length_append, List.length_cons, List.length_nil]; omega)) hD.2.2.2 (40)) (fun v3 h3 q3 => ?_)
  obtain ⟨rfl, c3_, rfl, hT3⟩ := q3
  show WP _ _ _ _ _ 6 _ [] (HP c3_ w m v E) _
  refine wp_aload_n 0 d_X3_twinParts_6 rfl rfl ?_
  refine wp_iload_n 1 d_X3_twinParts_7 rfl rfl ?_
  refine wp_iconst (v0 := 2) d_X3_twinParts_8 rfl ?_
  refine wp_imul d_X3_twinParts_9 ?_
  refine wp_virtual0 (As := [.int ((x) * (2))]) d_X3_twinParts_10 lk_X3_49 mv_X3_lensParts in_X3_lensParts se_X3_lensParts (Nat.le_of_ble_eq_true rfl) (Nat.le_of_ble_eq_true rfl) (hp_78 _ _ _ _ _) rfl (s_X3_lensParts (c := c3_) hT3 (by first | omega | (simp only [List.length_append, List.length_cons, List.length_nil]; omega)) hD ((x) * (2))) (fun v10 h10 q10 => ?_)
  obtain ⟨c10_, ⟨hne, rfl, rfl, hT10⟩ | ⟨heq, ⟨y10, rfl⟩, rfl, hT10⟩⟩ := q10
  · show WP _ _ _ _ _ 13 _ [.int (((x) * (2)) / (a - n))] (HP c10_ w m v E) _
    refine wp_reti d_X3_twinParts_13 rfl ?_
    exact ⟨_, Or.inl ⟨hne, rfl, rfl, by simpa using hT10⟩⟩
  · show WP _ _ _ _ _ 13 _ [.int (y10)] (HP c10_ (setS w 7803 (1)) m v E) _
    refine wp_reti d_X3_twinParts_13 rfl ?_
    exact ⟨_, Or.inr ⟨heq, ⟨_, rfl⟩, rfl, by simpa using hT10⟩⟩
theorem s_X3_parts_1 {X : kX} {d : Nat} {c w m v : kZ} {E : kH} {z0 : kZ} {L : List Int32} (hT : kTc z0 c L) (hL : L.length ≤ 23) {n a : Int32} (hD : kD w 1 n a) (x : Int32)  : WP X (d + 3) 0 0 Y_X3_parts 0 [(0, .ref (78)), (1, .int (x))] [] (HP c w m v E) (fun r h1 => ∃ zz : kZ, (a ≠ n ∧ r = some (.int (x / (a - n))) ∧ h1 = HP zz w m v E ∧ kTc z0 zz (L ++ [12])) ∨ (a = n ∧ (∃ y : Int32, r = some (.int y)) ∧ h1 = HP zz (setS w 7803 1) m v E ∧ kTc z0 zz (L ++ [12]))) := by
  refine wp_aload_n 0 d_X3_parts_0 rfl rfl ?_
  refine wp_getfield (v := .int (1)) d_X3_parts_1 gf_X3_15 (hp_78 _ _ _ _ _) (congrArg (fun z => some (Value.int z)) hD.1) ?_
  refine wp_swd_X3_parts_4 (by decide) (by decide) ?_
  refine wp_aload_n 0 d_X3_parts_59 rfl rfl ?_
  refine wp_iload_n 1 d_X3_parts_60 rfl rfl ?_
  refine wp_virtual0 (As := [.int (x)]) d_X3_parts_61 lk_X3_49 mv_X3_lensParts in_X3_lensParts se_X3_lensParts (Nat.le_of_ble_eq_true rfl) (Nat.le_of_ble_eq_true rfl) (hp_78 _ _ _ _ _) rfl (s_X3_lensParts (c := c) hT (by first | omega | (simp only [List.length_append, List.length_cons, List.length_nil]; omega)) hD (x)) (fun v61 h61 q61 => ?_)
  obtain ⟨c61_, ⟨hne, rfl, rfl, hT61⟩ | ⟨heq, ⟨y61, rfl⟩, rfl, hT61⟩⟩ := q61
  · show WP _ _ _ _ _ 64 _ [.int ((x) / (a - n))] (HP c61_ w m v E) _
    refine wp_reti d_X3_parts_64 rfl ?_
    exact ⟨_, Or.inl ⟨hne, rfl, rfl, by simpa using hT61⟩⟩
  · show WP _ _ _ _ _ 64 _ [.int (y61)] (HP c61_ (setS w 7803 (1)) m v E) _
    refine wp_reti d_X3_parts_64 rfl ?_
    exact ⟨_, Or.inr ⟨heq, ⟨_, rfl⟩, rfl, by simpa using hT61⟩⟩
theorem s_X3_tells_1 {X : kX} {d : Nat} {c w m v : kZ} {E : kH} {z0 : kZ} {L : List Int32} (hT : kTc z0 c L) (hL : L.length ≤ 12) {n a : Int32} (hD : kD w 1 n a) (x : Int32)  : WP X (d + 6) 0 0 Y_X3_tells 0 [(0, .ref (78)), (1, .int (x))] [] (HP c w m v E) (fun r h1 => r = some (.int (((((x) + a) ^^^ n) * 2) ^^^ n)) ∧ ∃ zz : kZ, h1 = HP zz w m v E ∧ kTc z0 zz (L ++ [13, 11, 20, 10])) := by
  refine wp_aload_n 0 d_X3_tells_0 rfl rfl ?_
  refine wp_getfield (v := .int (1)) d_X3_tells_1 gf_X3_15 (hp_78 _ _ _ _ _) (congrArg (fun z => some (Value.int z)) hD.1) ?_
  refine wp_iconst (v0 := 3) d_X3_tells_4 rfl ?_
  refine wp_icmp_eq 14 d_X3_tells_5 rfl (fun z => absurd z (by decide)) (fun _ => ?_)
  refine wp_aload_n 0 d_X3_tells_8 rfl rfl ?_
  refine wp_iload_n 1 d_X3_tells_9 rfl rfl ?_
  refine wp_virtual0 (As := [.int (x)]) d_X3_tells_10 lk_X3_52 mv_X3_lensTells in_X3_lensTells se_X3_lensTells (Nat.le_of_ble_eq_true rfl) (Nat.le_of_ble_eq_true rfl) (hp_78 _ _ _ _ _) rfl (s_X3_lensTells_1 (c := c) hT (by first | omega | (simp only [List.length_append, List.length_cons, List.length_nil]; omega)) hD (x)) (fun v10 h10 q10 => ?_)
  obtain ⟨rfl, c10_, rfl, hT10⟩ := q10
  show WP _ _ _ _ _ 13 _ [.int (((((x) + a) ^^^ n) * 2) ^^^ n)] (HP c10_ w m v E) _
  refine wp_reti d_X3_tells_13 rfl ?_
  exact ⟨rfl, _, rfl, by simpa using hT10⟩
theorem s_X3_dims_2 {X : kX} {d : Nat} {c w m v : kZ} {E : kH} {z0 : kZ} {L : List Int32} (hT : kTc z0 c L) (hL : L.length ≤ 26) {n a : Int32} (hD : kD w 2 n a) (x : Int32)  : WP X (d + 2) 0 0 Y_X3_dims 0 [(0, .ref (78)), (1, .int (x))] [] (HP c w m v E) (fun r h1 => r = some (.int ((x) + a)) ∧ ∃ zz : kZ, h1 = HP zz w m v E ∧ kTc z0 zz (L ++ [10])) := by
  refine wp_aload_n 0 d_X3_dims_0 rfl rfl ?_
  refine wp_getfield (v := .int (2)) d_X3_dims_1 gf_X3_15 (hp_78 _ _ _ _ _) (congrArg (fun z => some (Value.int z)) hD.1) ?_
  refine wp_swd_X3_dims_4 (by decide) (by decide) ?_
  refine wp_aload_n 0 d_X3_dims_63 rfl rfl ?_
  refine wp_iload_n 1 d_X3_dims_64 rfl rfl ?_
  refine wp_virtual0 (As := [.int (x)]) d_X3_dims_65 lk_X3_36 mv_X3_lensDims in_X3_lensDims se_X3_lensDims (Nat.le_of_ble_eq_true rfl) (Nat.le_of_ble_eq_true rfl) (hp_78 _ _ _ _ _) rfl (s_X3_lensDims (c := c) hT (by first | omega | (simp only [List.length_append, List.length_cons, List.length_nil]; omega)) hD (x)) (fun v65 h65 q65 => ?_)
  obtain ⟨rfl, c65_, rfl, hT65⟩ := q65
  show WP _ _ _ _ _ 68 _ [.int ((x) + a)] (HP c65_ w m v E) _
  refine wp_reti d_X3_dims_68 rfl ?_
  exact ⟨rfl, _, rfl, by simpa using hT65⟩
theorem s_X3_lensWidens_2 {X : kX} {d : Nat} {c w m v : kZ} {E : kH} {z0 : kZ} {L : List Int32} (hT : kTc z0 c L) (hL : L.length ≤ 25) {n a : Int32} (hD : kD w 2 n a) (x : Int32)  : WP X (d + 3) 0 0 Y_X3_lensWidens 0 [(0, .ref (78)), (1, .int (x))] [] (HP c w m v E) (fun r h1 => r = some (.int (((x) + a) * 2)) ∧ ∃ zz : kZ, h1 = HP zz w m v E ∧ kTc z0 zz (L ++ [11, 10])) := by
  refine wp_aload_n 0 d_X3_lensWidens_0 rfl rfl ?_
  refine wp_bipush (v0 := 11) d_X3_lensWidens_1 (by decide) ?_
  refine wp_virtual0 (As := [.int (11)]) d_X3_lensWidens_3 lk_X3_32 mv_X3_begin in_X3_begin se_X3_begin (Nat.le_of_ble_eq_true rfl) (Nat.le_of_ble_eq_true rfl) (hp_78 _ _ _ _ _) rfl (s_X3_begin (c := c) hT (by first | omega | (simp only [List.length_append, List.length_cons, List.length_nil]; omega)) hD.2.2.2 (11)) (fun v3 h3 q3 => ?_)
  obtain ⟨rfl, c3_, rfl, hT3⟩ := q3
  show WP _ _ _ _ _ 6 _ [] (HP c3_ w m v E) _
  refine wp_aload_n 0 d_X3_lensWidens_6 rfl rfl ?_
  refine wp_iload_n 1 d_X3_lensWidens_7 rfl rfl ?_
  refine wp_virtual0 (As := [.int (x)]) d_X3_lensWidens_8 lk_X3_43 mv_X3_dims in_X3_dims se_X3_dims (Nat.le_of_ble_eq_true rfl) (Nat.le_of_ble_eq_true rfl) (hp_78 _ _ _ _ _) rfl (s_X3_dims_2 (c := c3_) hT3 (by first | omega | (simp only [List.length_append, List.length_cons, List.length_nil]; omega)) hD (x)) (fun v8 h8 q8 => ?_)
  obtain ⟨rfl, c8_, rfl, hT8⟩ := q8
  show WP _ _ _ _ _ 11 _ [.int ((x) + a)] (HP c8_ w m v E) _
  refine wp_iconst (v0 := 2) d_X3_lensWidens_11 rfl ?_
  refine wp_imul d_X3_lensWidens_12 ?_
  refine wp_reti d_X3_lensWidens_13 rfl ?_
  exact ⟨rfl, _, rfl, by simpa using hT8⟩
theorem s_X3_widens_2 {X : kX} {d : Nat} {c w m v : kZ} {E : kH} {z0 : kZ} {L : List Int32} (hT : kTc z0 c L) (hL : L.length ≤ 23) {n a : Int32} (hD : kD w 2 n a) (x : Int32)  : WP X (d + 4) 0 0 Y_X3_widens 0 [(0, .ref (78)), (1, .int (x))] [] (HP c w m v E) (fun r h1 => r = some (.int (((x) + a) * 2 - a)) ∧ ∃ zz : kZ, h1 = HP zz w m v E ∧ kTc z0 zz (L ++ [30, 11, 10])) := by
  refine wp_aload_n 0 d_X3_widens_0 rfl rfl ?_
  refine wp_getfield (v := .int (2)) d_X3_widens_1 gf_X3_15 (hp_78 _ _ _ _ _) (congrArg (fun z => some (Value.int z)) hD.1) ?_
  refine wp_tableIn 36 d_X3_widens_4 (by decide) (by decide) rfl rfl ?_
  refine wp_aload_n 0 d_X3_widens_36 rfl rfl ?_
  refine wp_bipush (v0 := 30) d_X3_widens_37 (by decide) ?_
  refine wp_virtual0 (As := [.int (30)]) d_X3_widens_39 lk_X3_32 mv_X3_begin in_X3_begin se_X3_begin (Nat.le_of_ble_eq_true rfl) (Nat.le_of_ble_eq_true rfl) (hp_78 _ _ _ _ _) rfl (s_X3_begin (c := c) hT (by first | omega | (simp only [List.length_append, List.length_cons, List.length_nil]; omega)) hD.2.2.2 (30)) (fun v39 h39 q39 => ?_)
  obtain ⟨rfl, c39_, rfl, hT39⟩ := q39
  show WP _ _ _ _ _ 42 _ [] (HP c39_ w m v E) _
  refine wp_aload_n 0 d_X3_widens_42 rfl rfl ?_
  refine wp_iload_n 1 d_X3_widens_43 rfl rfl ?_
  refine wp_virtual0 (As := [.int (x)]) d_X3_widens_44 lk_X3_40 mv_X3_lensWidens in_X3_lensWidens se_X3_lensWidens (Nat.le_of_ble_eq_true rfl) (Nat.le_of_ble_eq_true rfl) (hp_78 _ _ _ _ _) rfl (s_X3_lensWidens_2 (c := c39_) hT39 (by first | omega | (simp only [List.length_append, List.length_cons, List.length_nil]; omega)) hD (x)) (fun v44 h44 q44 => ?_)
  obtain ⟨rfl, c44_, rfl, hT44⟩ := q44
  show WP _ _ _ _ _ 47 _ [.int (((x) + a) * 2)] (HP c44_ w m v E) _
  refine wp_aload_n 0 d_X3_widens_47 rfl rfl ?_
  refine wp_getfield (v := .int (a)) d_X3_widens_48 gf_X3_22 (hp_78 _ _ _ _ _) (congrArg (fun z => some (Value.int z)) hD.2.2.1) ?_
  refine wp_isub d_X3_widens_51 ?_
  refine wp_reti d_X3_widens_52 rfl ?_
  exact ⟨rfl, _, rfl, by simpa using hT44⟩
theorem s_X3_lensTells_2 {X : kX} {d : Nat} {c w m v : kZ} {E : kH} {z0 : kZ} {L : List Int32} (hT : kTc z0 c L) (hL : L.length ≤ 22) {n a : Int32} (hD : kD w 2 n a) (x : Int32)  : WP X (d + 5) 0 0 Y_X3_lensTells 0 [(0, .ref (78)), (1, .int (x))] [] (HP c w m v E) (fun r h1 => r = some (.int ((((x) + a) * 2 - a) ^^^ n)) ∧ ∃ zz : kZ, h1 = HP zz w m v E ∧ kTc z0 zz (L ++ [13, 30, 11, 10])) := by
  refine wp_aload_n 0 d_X3_lensTells_0 rfl rfl ?_
  refine wp_bipush (v0 := 13) d_X3_lensTells_1 (by decide) ?_
  refine wp_virtual0 (As := [.int (13)]) d_X3_lensTells_3 lk_X3_32 mv_X3_begin in_X3_begin se_X3_begin (Nat.le_of_ble_eq_true rfl) (Nat.le_of_ble_eq_true rfl) (hp_78 _ _ _ _ _) rfl (s_X3_begin (c := c) hT (by first | omega | (simp only [List.length_append, List.length_cons, List.length_nil]; omega)) hD.2.2.2 (13)) (fun v3 h3 q3 => ?_)
  obtain ⟨rfl, c3_, rfl, hT3⟩ := q3
  show WP _ _ _ _ _ 6 _ [] (HP c3_ w m v E) _
  refine wp_aload_n 0 d_X3_lensTells_6 rfl rfl ?_
  refine wp_iload_n 1 d_X3_lensTells_7 rfl rfl ?_
  refine wp_virtual0 (As := [.int (x)]) d_X3_lensTells_8 lk_X3_58 mv_X3_widens in_X3_widens se_X3_widens (Nat.le_of_ble_eq_true rfl) (Nat.le_of_ble_eq_true rfl) (hp_78 _ _ _ _ _) rfl (s_X3_widens_2 (c := c3_) hT3 (by first | omega | (simp only [List.length_append, List.length_cons, List.length_nil]; omega)) hD (x)) (fun v8 h8 q8 => ?_)
  obtain ⟨rfl, c8_, rfl, hT8⟩ := q8
  show WP _ _ _ _ _ 11 _ [.int (((x) + a) * 2 - a)] (HP c8_ w m v E) _
  refine wp_aload_n 0 d_X3_lensTells_11 rfl rfl ?_
  refine wp_getfield (v := .int (n)) d_X3_lensTells_12 gf_X3_19 (hp_78 _ _ _ _ _) (congrArg (fun z => some (Value.int z)) hD.2.1) ?_
  refine wp_ixor d_X3_lensTells_15 ?_
  refine wp_reti d_X3_lensTells_16 rfl ?_
  exact ⟨rfl, _, rfl, by simpa using hT8⟩
theorem s_X3_parts_2 {X : kX} {d : Nat} {c w m v : kZ} {E : kH} {z0 : kZ} {L : List Int32} (hT : kTc z0 c L) (hL : L.length ≤ 23) {n a : Int32} (hD : kD w 2 n a) (x : Int32)  : WP X (d + 3) 0 0 Y_X3_parts 0 [(0, .ref (78)), (1, .int (x))] [] (HP c w m v E) (fun r h1 => ∃ zz : kZ, (a ≠ n ∧ r = some (.int (x / (a - n))) ∧ h1 = HP zz w m v E ∧ kTc z0 zz (L ++ [12])) ∨ (a = n ∧ (∃ y : Int32, r = some (.int y)) ∧ h1 = HP zz (setS w 7803 1) m v E ∧ kTc z0 zz (L ++ [12]))) := by
  refine wp_aload_n 0 d_X3_parts_0 rfl rfl ?_
  refine wp_getfield (v := .int (2)) d_X3_parts_1 gf_X3_15 (hp_78 _ _ _ _ _) (congrArg (fun z => some (Value.int z)) hD.1) ?_
  refine wp_swd_X3_parts_4 (by decide) (by decide) ?_
  refine wp_aload_n 0 d_X3_parts_59 rfl rfl ?_
  refine wp_iload_n 1 d_X3_parts_60 rfl rfl ?_
  refine wp_virtual0 (As := [.int (x)]) d_X3_parts_61 lk_X3_49 mv_X3_lensParts in_X3_lensParts se_X3_lensParts (Nat.le_of_ble_eq_true rfl) (Nat.le_of_ble_eq_true rfl) (hp_78 _ _ _ _ _) rfl (s_X3_lensParts (c := c) hT (by first | omega | (simp only [List.length_append, List.length_cons, List.length_nil]; omega)) hD (x)) (fun v61 h61 q61 => ?_)
  obtain ⟨c61_, ⟨hne, rfl, rfl, hT61⟩ | ⟨heq, ⟨y61, rfl⟩, rfl, hT61⟩⟩ := q61
  · show WP _ _ _ _ _ 64 _ [.int ((x) / (a - n))] (HP c61_ w m v E) _
    refine wp_reti d_X3_parts_64 rfl ?_
    exact ⟨_, Or.inl ⟨hne, rfl, rfl, by simpa using hT61⟩⟩
  · show WP _ _ _ _ _ 64 _ [.int (y61)] (HP c61_ (setS w 7803 (1)) m v E) _
    refine wp_reti d_X3_parts_64 rfl ?_
    exact ⟨_, Or.inr ⟨heq, ⟨_, rfl⟩, rfl, by simpa using hT61⟩⟩
theorem s_X3_tells_2 {X : kX} {d : Nat} {c w m v : kZ} {E : kH} {z0 : kZ} {L : List Int32} (hT : kTc z0 c L) (hL : L.length ≤ 12) {n a : Int32} (hD : kD w 2 n a) (x : Int32)  : WP X (d + 6) 0 0 Y_X3_tells 0 [(0, .ref (78)), (1, .int (x))] [] (HP c w m v E) (fun r h1 => r = some (.int ((((x) + a) * 2 - a) ^^^ n)) ∧ ∃ zz : kZ, h1 = HP zz w m v E ∧ kTc z0 zz (L ++ [13, 30, 11, 10])) := by
  refine wp_aload_n 0 d_X3_tells_0 rfl rfl ?_
  refine wp_getfield (v := .int (2)) d_X3_tells_1 gf_X3_15 (hp_78 _ _ _ _ _) (congrArg (fun z => some (Value.int z)) hD.1) ?_
  refine wp_iconst (v0 := 3) d_X3_tells_4 rfl ?_
  refine wp_icmp_eq 14 d_X3_tells_5 rfl (fun z => absurd z (by decide)) (fun _ => ?_)
  refine wp_aload_n 0 d_X3_tells_8 rfl rfl ?_
  refine wp_iload_n 1 d_X3_tells_9 rfl rfl ?_
  refine wp_virtual0 (As := [.int (x)]) d_X3_tells_10 lk_X3_52 mv_X3_lensTells in_X3_lensTells se_X3_lensTells (Nat.le_of_ble_eq_true rfl) (Nat.le_of_ble_eq_true rfl) (hp_78 _ _ _ _ _) rfl (s_X3_lensTells_2 (c := c) hT (by first | omega | (simp only [List.length_append, List.length_cons, List.length_nil]; omega)) hD (x)) (fun v10 h10 q10 => ?_)
  obtain ⟨rfl, c10_, rfl, hT10⟩ := q10
  show WP _ _ _ _ _ 13 _ [.int ((((x) + a) * 2 - a) ^^^ n)] (HP c10_ w m v E) _
  refine wp_reti d_X3_tells_13 rfl ?_
  exact ⟨rfl, _, rfl, by simpa using hT10⟩
theorem s_X3_dims_3 {X : kX} {d : Nat} {c w m v : kZ} {E : kH} {z0 : kZ} {L : List Int32} (hT : kTc z0 c L) (hL : L.length ≤ 26) {n a : Int32} (hD : kD w 3 n a) (x : Int32)  : WP X (d + 2) 0 0 Y_X3_dims 0 [(0, .ref (78)), (1, .int (x))] [] (HP c w m v E) (fun r h1 => r = some (.int ((x) + a + 1)) ∧ ∃ zz : kZ, h1 = HP zz w m v E ∧ kTc z0 zz (L ++ [50, 10])) := by
  refine wp_aload_n 0 d_X3_dims_0 rfl rfl ?_
  refine wp_getfield (v := .int (3)) d_X3_dims_1 gf_X3_15 (hp_78 _ _ _ _ _) (congrArg (fun z => some (Value.int z)) hD.1) ?_
  refine wp_lookup 49 d_X3_dims_4 rfl rfl rfl ?_
  refine wp_aload_n 0 d_X3_dims_49 rfl rfl ?_
  refine wp_bipush (v0 := 50) d_X3_dims_50 (by decide) ?_
  refine wp_virtual0 (As := [.int (50)]) d_X3_dims_52 lk_X3_32 mv_X3_begin in_X3_begin se_X3_begin (Nat.le_of_ble_eq_true rfl) (Nat.le_of_ble_eq_true rfl) (hp_78 _ _ _ _ _) rfl (s_X3_begin (c := c) hT (by first | omega | (simp only [List.length_append, List.length_cons, List.length_nil]; omega)) hD.2.2.2 (50)) (fun v52 h52 q52 => ?_)
  obtain ⟨rfl, c52_, rfl, hT52⟩ := q52
  show WP _ _ _ _ _ 55 _ [] (HP c52_ w m v E) _
  refine wp_aload_n 0 d_X3_dims_55 rfl rfl ?_
  refine wp_iload_n 1 d_X3_dims_56 rfl rfl ?_
  refine wp_virtual0 (As := [.int (x)]) d_X3_dims_57 lk_X3_36 mv_X3_lensDims in_X3_lensDims se_X3_lensDims (Nat.le_of_ble_eq_true rfl) (Nat.le_of_ble_eq_true rfl) (hp_78 _ _ _ _ _) rfl (s_X3_lensDims (c := c52_) hT52 (by first | omega | (simp only [List.length_append, List.length_cons, List.length_nil]; omega)) hD (x)) (fun v57 h57 q57 => ?_)
  obtain ⟨rfl, c57_, rfl, hT57⟩ := q57
  show WP _ _ _ _ _ 60 _ [.int ((x) + a)] (HP c57_ w m v E) _
  refine wp_iconst (v0 := 1) d_X3_dims_60 rfl ?_
  refine wp_iadd d_X3_dims_61 ?_
  refine wp_reti d_X3_dims_62 rfl ?_
  exact ⟨rfl, _, rfl, by simpa using hT57⟩
theorem s_X3_lensWidens_3 {X : kX} {d : Nat} {c w m v : kZ} {E : kH} {z0 : kZ} {L : List Int32} (hT : kTc z0 c L) (hL : L.length ≤ 25) {n a : Int32} (hD : kD w 3 n a) (x : Int32)  : WP X (d + 3) 0 0 Y_X3_lensWidens 0 [(0, .ref (78)), (1, .int (x))] [] (HP c w m v E) (fun r h1 => r = some (.int (((x) + a + 1) * 2)) ∧ ∃ zz : kZ, h1 = HP zz w m v E ∧ kTc z0 zz (L ++ [11, 50, 10])) := by
  refine wp_aload_n 0 d_X3_lensWidens_0 rfl rfl ?_
  refine wp_bipush (v0 := 11) d_X3_lensWidens_1 (by decide) ?_
  refine wp_virtual0 (As := [.int (11)]) d_X3_lensWidens_3 lk_X3_32 mv_X3_begin in_X3_begin se_X3_begin (Nat.le_of_ble_eq_true rfl) (Nat.le_of_ble_eq_true rfl) (hp_78 _ _ _ _ _) rfl (s_X3_begin (c := c) hT (by first | omega | (simp only [List.length_append, List.length_cons, List.length_nil]; omega)) hD.2.2.2 (11)) (fun v3 h3 q3 => ?_)
  obtain ⟨rfl, c3_, rfl, hT3⟩ := q3
  show WP _ _ _ _ _ 6 _ [] (HP c3_ w m v E) _
  refine wp_aload_n 0 d_X3_lensWidens_6 rfl rfl ?_
  refine wp_iload_n 1 d_X3_lensWidens_7 rfl rfl ?_
  refine wp_virtual0 (As := [.int (x)]) d_X3_lensWidens_8 lk_X3_43 mv_X3_dims in_X3_dims se_X3_dims (Nat.le_of_ble_eq_true rfl) (Nat.le_of_ble_eq_true rfl) (hp_78 _ _ _ _ _) rfl (s_X3_dims_3 (c := c3_) hT3 (by first | omega | (simp only [List.length_append, List.length_cons, List.length_nil]; omega)) hD (x)) (fun v8 h8 q8 => ?_)
  obtain ⟨rfl, c8_, rfl, hT8⟩ := q8
  show WP _ _ _ _ _ 11 _ [.int ((x) + a + 1)] (HP c8_ w m v E) _
  refine wp_iconst (v0 := 2) d_X3_lensWidens_11 rfl ?_
  refine wp_imul d_X3_lensWidens_12 ?_
  refine wp_reti d_X3_lensWidens_13 rfl ?_
  exact ⟨rfl, _, rfl, by simpa using hT8⟩
theorem s_X3_widens_3 {X : kX} {d : Nat} {c w m v : kZ} {E : kH} {z0 : kZ} {L : List Int32} (hT : kTc z0 c L) (hL : L.length ≤ 23) {n a : Int32} (hD : kD w 3 n a) (x : Int32)  : WP X (d + 4) 0 0 Y_X3_widens 0 [(0, .ref (78)), (1, .int (x))] [] (HP c w m v E) (fun r h1 => r = some (.int (((x) + a + 1) * 2 - a)) ∧ ∃ zz : kZ, h1 = HP zz w m v E ∧ kTc z0 zz (L ++ [30, 11, 50, 10])) := by
  refine wp_aload_n 0 d_X3_widens_0 rfl rfl ?_
  refine wp_getfield (v := .int (3)) d_X3_widens_1 gf_X3_15 (hp_78 _ _ _ _ _) (congrArg (fun z => some (Value.int z)) hD.1) ?_
  refine wp_tableIn 36 d_X3_widens_4 (by decide) (by decide) rfl rfl ?_
  refine wp_aload_n 0 d_X3_widens_36 rfl rfl ?_
  refine wp_bipush (v0 := 30) d_X3_widens_37 (by decide) ?_
  refine wp_virtual0 (As := [.int (30)]) d_X3_widens_39 lk_X3_32 mv_X3_begin in_X3_begin se_X3_begin (Nat.le_of_ble_eq_true rfl) (Nat.le_of_ble_eq_true rfl) (hp_78 _ _ _ _ _) rfl (s_X3_begin (c := c) hT (by first | omega | (simp only [List.length_append, List.length_cons, List.length_nil]; omega)) hD.2.2.2 (30)) (fun v39 h39 q39 => ?_)
  obtain ⟨rfl, c39_, rfl, hT39⟩ := q39
  show WP _ _ _ _ _ 42 _ [] (HP c39_ w m v E) _
  refine wp_aload_n 0 d_X3_widens_42 rfl rfl ?_
  refine wp_iload_n 1 d_X3_widens_43 rfl rfl ?_
  refine wp_virtual0 (As := [.int (x)]) d_X3_widens_44 lk_X3_40 mv_X3_lensWidens in_X3_lensWidens se_X3_lensWidens (Nat.le_of_ble_eq_true rfl) (Nat.le_of_ble_eq_true rfl) (hp_78 _ _ _ _ _) rfl (s_X3_lensWidens_3 (c := c39_) hT39 (by first | omega | (simp only [List.length_append, List.length_cons, List.length_nil]; omega)) hD (x)) (fun v44 h44 q44 => ?_)
  obtain ⟨rfl, c44_, rfl, hT44⟩ := q44
  show WP _ _ _ _ _ 47 _ [.int (((x) + a + 1) * 2)] (HP c44_ w m v E) _
  refine wp_aload_n 0 d_X3_widens_47 rfl rfl ?_
  refine wp_getfield (v := .int (a)) d_X3_widens_48 gf_X3_22 (hp_78 _ _ _ _ _) (congrArg (fun z => some (Value.int z)) hD.2.2.1) ?_
  refine wp_isub d_X3_widens_51 ?_
  refine wp_reti d_X3_widens_52 rfl ?_
  exact ⟨rfl, _, rfl, by simpa using hT44⟩
theorem s_X3_lensTells_3 {X : kX} {d : Nat} {c w m v : kZ} {E : kH} {z0 : kZ} {L : List Int32} (hT : kTc z0 c L) (hL : L.length ≤ 22) {n a : Int32} (hD : kD w 3 n a) (x : Int32)  : WP X (d + 5) 0 0 Y_X3_lensTells 0 [(0, .ref (78)), (1, .int (x))] [] (HP c w m v E) (fun r h1 => r = some (.int ((((x) + a + 1) * 2 - a) ^^^ n)) ∧ ∃ zz : kZ, h1 = HP zz w m v E ∧ kTc z0 zz (L ++ [13, 30, 11, 50, 10])) := by
  refine wp_aload_n 0 d_X3_lensTells_0 rfl rfl ?_
  refine wp_bipush (v0 := 13) d_X3_lensTells_1 (by decide) ?_
  refine wp_virtual0 (As := [.int (13)]) d_X3_lensTells_3 lk_X3_32 mv_X3_begin in_X3_begin se_X3_begin (Nat.le_of_ble_eq_true rfl) (Nat.le_of_ble_eq_true rfl) (hp_78 _ _ _ _ _) rfl (s_X3_begin (c := c) hT (by first | omega | (simp only [List.length_append, List.length_cons, List.length_nil]; omega)) hD.2.2.2 (13)) (fun v3 h3 q3 => ?_)
  obtain ⟨rfl, c3_, rfl, hT3⟩ := q3
  show WP _ _ _ _ _ 6 _ [] (HP c3_ w m v E) _
  refine wp_aload_n 0 d_X3_lensTells_6 rfl rfl ?_
  refine wp_iload_n 1 d_X3_lensTells_7 rfl rfl ?_
  refine wp_virtual0 (As := [.int (x)]) d_X3_lensTells_8 lk_X3_58 mv_X3_widens in_X3_widens se_X3_widens (Nat.le_of_ble_eq_true rfl) (Nat.le_of_ble_eq_true rfl) (hp_78 _ _ _ _ _) rfl (s_X3_widens_3 (c := c3_) hT3 (by first | omega | (simp only [List.length_append, List.length_cons, List.length_nil]; omega)) hD (x)) (fun v8 h8 q8 => ?_)
  obtain ⟨rfl, c8_, rfl, hT8⟩ := q8
  show WP _ _ _ _ _ 11 _ [.int (((x) + a + 1) * 2 - a)] (HP c8_ w m v E) _
  refine wp_aload_n 0 d_X3_lensTells_11 rfl rfl ?_
  refine wp_getfield (v := .int (n)) d_X3_lensTells_12 gf_X3_19 (hp_78 _ _ _ _ _) (congrArg (fun z => some (Value.int z)) hD.2.1) ?_
  refine wp_ixor d_X3_lensTells_15 ?_
  refine wp_reti d_X3_lensTells_16 rfl ?_
  exact ⟨rfl, _, rfl, by simpa using hT8⟩
theorem s_X3_parts_3 {X : kX} {d : Nat} {c w m v : kZ} {E : kH} {z0 : kZ} {L : List Int32} (hT : kTc z0 c L) (hL : L.length ≤ 23) {n a : Int32} (hD : kD w 3 n a) (x : Int32)  : WP X (d + 3) 0 0 Y_X3_parts 0 [(0, .ref (78)), (1, .int (x))] [] (HP c w m v E) (fun r h1 => ∃ zz : kZ, (a ≠ n ∧ r = some (.int (x / (a - n))) ∧ h1 = HP zz w m v E ∧ kTc z0 zz (L ++ [12])) ∨ (a = n ∧ (∃ y : Int32, r = some (.int y)) ∧ h1 = HP zz (setS w 7803 1) m v E ∧ kTc z0 zz (L ++ [12]))) := by
  refine wp_aload_n 0 d_X3_parts_0 rfl rfl ?_
  refine wp_getfield (v := .int (3)) d_X3_parts_1 gf_X3_15 (hp_78 _ _ _ _ _) (congrArg (fun z => some (Value.int z)) hD.1) ?_
  refine wp_swd_X3_parts_4 (by decide) (by decide) ?_
  refine wp_aload_n 0 d_X3_parts_59 rfl rfl ?_
  refine wp_iload_n 1 d_X3_parts_60 rfl rfl ?_
  refine wp_virtual0 (As := [.int (x)]) d_X3_parts_61 lk_X3_49 mv_X3_lensParts in_X3_lensParts se_X3_lensParts (Nat.le_of_ble_eq_true rfl) (Nat.le_of_ble_eq_true rfl) (hp_78 _ _ _ _ _) rfl (s_X3_lensParts (c := c) hT (by first | omega | (simp only [List.length_append, List.length_cons, List.length_nil]; omega)) hD (x)) (fun v61 h61 q61 => ?_)
  obtain ⟨c61_, ⟨hne, rfl, rfl, hT61⟩ | ⟨heq, ⟨y61, rfl⟩, rfl, hT61⟩⟩ := q61
  · show WP _ _ _ _ _ 64 _ [.int ((x) / (a - n))] (HP c61_ w m v E) _
    refine wp_reti d_X3_parts_64 rfl ?_
    exact ⟨_, Or.inl ⟨hne, rfl, rfl, by simpa using hT61⟩⟩
  · show WP _ _ _ _ _ 64 _ [.int (y61)] (HP c61_ (setS w 7803 (1)) m v E) _
    refine wp_reti d_X3_parts_64 rfl ?_
    exact ⟨_, Or.inr ⟨heq, ⟨_, rfl⟩, rfl, by simpa using hT61⟩⟩
theorem s_X3_tells_3 {X : kX} {d : Nat} {c w m v : kZ} {E : kH} {z0 : kZ} {L : List Int32} (hT : kTc z0 c L) (hL : L.length ≤ 12) {n a : Int32} (hD : kD w 3 n a) (x : Int32)  : WP X (d + 6) 0 0 Y_X3_tells 0 [(0, .ref (78)), (1, .int (x))] [] (HP c w m v E) (fun r h1 => ∃ zz : kZ, (a ≠ n ∧ r = some (.int (((((x) + a + 1) * 2 - a) ^^^ n) + n / (a - n))) ∧ h1 = HP zz w m v E ∧ kTc z0 zz (L ++ [51, 13, 30, 11, 50, 10, 12])) ∨ (a = n ∧ (∃ y : Int32, r = some (.int y)) ∧ h1 = HP zz (setS w 7803 1) m v E ∧ kTc z0 zz (L ++ [51, 13, 30, 11, 50, 10, 12]))) := by
  refine wp_aload_n 0 d_X3_tells_0 rfl rfl ?_
  refine wp_getfield (v := .int (3)) d_X3_tells_1 gf_X3_15 (hp_78 _ _ _ _ _) (congrArg (fun z => some (Value.int z)) hD.1) ?_
  refine wp_iconst (v0 := 3) d_X3_tells_4 rfl ?_
  refine wp_icmp_eq 14 d_X3_tells_5 rfl (fun _ => ?_) (fun z => absurd z (by decide))
  refine wp_aload_n 0 d_X3_tells_14 rfl rfl ?_
  refine wp_bipush (v0 := 51) d_X3_tells_15 (by decide) ?_
  refine wp_virtual0 (As := [.int (51)]) d_X3_tells_17 lk_X3_32 mv_X3_begin in_X3_begin se_X3_begin (Nat.le_of_ble_eq_true rfl) (Nat.le_of_ble_eq_true rfl) (hp_78 _ _ _ _ _) rfl (s_X3_begin (c := c) hT (by first | omega | (simp only [List.length_append, List.length_cons, List.length_nil]; omega)) hD.2.2.2 (51)) (fun v17 h17 q17 => ?_)
  obtain ⟨rfl, c17_, rfl, hT17⟩ := q17
  show WP _ _ _ _ _ 20 _ [] (HP c17_ w m v E) _
  refine wp_aload_n 0 d_X3_tells_20 rfl rfl ?_
  refine wp_iload_n 1 d_X3_tells_21 rfl rfl ?_
  refine wp_virtual0 (As := [.int (x)]) d_X3_tells_22 lk_X3_52 mv_X3_lensTells in_X3_lensTells se_X3_lensTells (Nat.le_of_ble_eq_true rfl) (Nat.le_of_ble_eq_true rfl) (hp_78 _ _ _ _ _) rfl (s_X3_lensTells_3 (c := c17_) hT17 (by first | omega | (simp only [List.length_append, List.length_cons, List.length_nil]; omega)) hD (x)) (fun v22 h22 q22 => ?_)
  obtain ⟨rfl, c22_, rfl, hT22⟩ := q22
  show WP _ _ _ _ _ 25 _ [.int ((((x) + a + 1) * 2 - a) ^^^ n)] (HP c22_ w m v E) _
  refine wp_aload_n 0 d_X3_tells_25 rfl rfl ?_
  refine wp_aload_n 0 d_X3_tells_26 rfl rfl ?_
  refine wp_getfield (v := .int (n)) d_X3_tells_27 gf_X3_19 (hp_78 _ _ _ _ _) (congrArg (fun z => some (Value.int z)) hD.2.1) ?_
  refine wp_virtual0 (As := [.int (n)]) d_X3_tells_30 lk_X3_55 mv_X3_parts in_X3_parts se_X3_parts (Nat.le_of_ble_eq_true rfl) (Nat.le_of_ble_eq_true rfl) (hp_78 _ _ _ _ _) rfl (s_X3_parts_3 (c := c22_) hT22 (by first | omega | (simp only [List.length_append, List.length_cons, List.length_nil]; omega)) hD (n)) (fun v30 h30 q30 => ?_)
  obtain ⟨c30_, ⟨hne, rfl, rfl, hT30⟩ | ⟨heq, ⟨y30, rfl⟩, rfl, hT30⟩⟩ := q30
  · show WP _ _ _ _ _ 33 _ [.int ((n) / (a - n)), .int ((((x) + a + 1) * 2 - a) ^^^ n)] (HP c30_ w m v E) _
    refine wp_iadd d_X3_tells_33 ?_
    refine wp_reti d_X3_tells_34 rfl ?_
    exact ⟨_, Or.inl ⟨hne, rfl, rfl, by simpa using hT30⟩⟩
  · show WP _ _ _ _ _ 33 _ [.int (y30), .int ((((x) + a + 1) * 2 - a) ^^^ n)] (HP c30_ (setS w 7803 (1)) m v E) _
    refine wp_iadd d_X3_tells_33 ?_
    refine wp_reti d_X3_tells_34 rfl ?_
    exact ⟨_, Or.inr ⟨heq, ⟨_, rfl⟩, rfl, by simpa using hT30⟩⟩
theorem s_X3_dims_4 {X : kX} {d : Nat} {c w m v : kZ} {E : kH} {z0 : kZ} {L : List Int32} (hT : kTc z0 c L) (hL : L.length ≤ 26) {n a : Int32} (hD : kD w 4 n a) (x : Int32)  : WP X (d + 2) 0 0 Y_X3_dims 0 [(0, .ref (78)), (1, .int (x))] [] (HP c w m v E) (fun r h1 => r = some (.int ((x) + a)) ∧ ∃ zz : kZ, h1 = HP zz w m v E ∧ kTc z0 zz (L ++ [10])) := by
  refine wp_aload_n 0 d_X3_dims_0 rfl rfl ?_
  refine wp_getfield (v := .int (4)) d_X3_dims_1 gf_X3_15 (hp_78 _ _ _ _ _) (congrArg (fun z => some (Value.int z)) hD.1) ?_
  refine wp_swd_X3_dims_4 (by decide) (by decide) ?_
  refine wp_aload_n 0 d_X3_dims_63 rfl rfl ?_
  refine wp_iload_n 1 d_X3_dims_64 rfl rfl ?_
  refine wp_virtual0 (As := [.int (x)]) d_X3_dims_65 lk_X3_36 mv_X3_lensDims in_X3_lensDims se_X3_lensDims (Nat.le_of_ble_eq_true rfl) (Nat.le_of_ble_eq_true rfl) (hp_78 _ _ _ _ _) rfl (s_X3_lensDims (c := c) hT (by first | omega | (simp only [List.length_append, List.length_cons, List.length_nil]; omega)) hD (x)) (fun v65 h65 q65 => ?_)
  obtain ⟨rfl, c65_, rfl, hT65⟩ := q65
  show WP _ _ _ _ _ 68 _ [.int ((x) + a)] (HP c65_ w m v E) _
  refine wp_reti d_X3_dims_68 rfl ?_
  exact ⟨rfl, _, rfl, by simpa using hT65⟩
theorem s_X3_lensWidens_4 {X : kX} {d : Nat} {c w m v : kZ} {E : kH} {z0 : kZ} {L : List Int32} (hT : kTc z0 c L) (hL : L.length ≤ 25) {n a : Int32} (hD : kD w 4 n a) (x : Int32)  : WP X (d + 3) 0 0 Y_X3_lensWidens 0 [(0, .ref (78)), (1, .int (x))] [] (HP c w m v E) (fun r h1 => r = some (.int (((x) + a) * 2)) ∧ ∃ zz : kZ, h1 = HP zz w m v E ∧ kTc z0 zz (L ++ [11, 10])) := by
  refine wp_aload_n 0 d_X3_lensWidens_0 rfl rfl ?_
  refine wp_bipush (v0 := 11) d_X3_lensWidens_1 (by decide) ?_
  refine wp_virtual0 (As := [.int (11)]) d_X3_lensWidens_3 lk_X3_32 mv_X3_begin in_X3_begin se_X3_begin (Nat.le_of_ble_eq_true rfl) (Nat.le_of_ble_eq_true rfl) (hp_78 _ _ _ _ _) rfl (s_X3_begin (c := c) hT (by first | omega | (simp only [List.length_append, List.length_cons, List.length_nil]; omega)) hD.2.2.2 (11)) (fun v3 h3 q3 => ?_)
  obtain ⟨rfl, c3_, rfl, hT3⟩ := q3
  show WP _ _ _ _ _ 6 _ [] (HP c3_ w m v E) _
  refine wp_aload_n 0 d_X3_lensWidens_6 rfl rfl ?_
  refine wp_iload_n 1 d_X3_lensWidens_7 rfl rfl ?_
  refine wp_virtual0 (As := [.int (x)]) d_X3_lensWidens_8 lk_X3_43 mv_X3_dims in_X3_dims se_X3_dims (Nat.le_of_ble_eq_true rfl) (Nat.le_of_ble_eq_true rfl) (hp_78 _ _ _ _ _) rfl (s_X3_dims_4 (c := c3_) hT3 (by first | omega | (simp only [List.length_append, List.length_cons, List.length_nil]; omega)) hD (x)) (fun v8 h8 q8 => ?_)
  obtain ⟨rfl, c8_, rfl, hT8⟩ := q8
  show WP _ _ _ _ _ 11 _ [.int ((x) + a)] (HP c8_ w m v E) _
  refine wp_iconst (v0 := 2) d_X3_lensWidens_11 rfl ?_
  refine wp_imul d_X3_lensWidens_12 ?_
  refine wp_reti d_X3_lensWidens_13 rfl ?_
  exact ⟨rfl, _, rfl, by simpa using hT8⟩
theorem s_X3_widens_4 {X : kX} {d : Nat} {c w m v : kZ} {E : kH} {z0 : kZ} {L : List Int32} (hT : kTc z0 c L) (hL : L.length ≤ 23) {n a : Int32} (hD : kD w 4 n a) (x : Int32)  : WP X (d + 4) 0 0 Y_X3_widens 0 [(0, .ref (78)), (1, .int (x))] [] (HP c w m v E) (fun r h1 => r = some (.int (((x) + a) * 2)) ∧ ∃ zz : kZ, h1 = HP zz w m v E ∧ kTc z0 zz (L ++ [11, 10])) := by
  refine wp_aload_n 0 d_X3_widens_0 rfl rfl ?_
  refine wp_getfield (v := .int (4)) d_X3_widens_1 gf_X3_15 (hp_78 _ _ _ _ _) (congrArg (fun z => some (Value.int z)) hD.1) ?_
  refine wp_swd_X3_widens_4 (by decide) (by decide) (by decide) ?_
  refine wp_aload_n 0 d_X3_widens_66 rfl rfl ?_
  refine wp_iload_n 1 d_X3_widens_67 rfl rfl ?_
  refine wp_virtual0 (As := [.int (x)]) d_X3_widens_68 lk_X3_40 mv_X3_lensWidens in_X3_lensWidens se_X3_lensWidens (Nat.le_of_ble_eq_true rfl) (Nat.le_of_ble_eq_true rfl) (hp_78 _ _ _ _ _) rfl (s_X3_lensWidens_4 (c := c) hT (by first | omega | (simp only [List.length_append, List.length_cons, List.length_nil]; omega)) hD (x)) (fun v68 h68 q68 => ?_)
  obtain ⟨rfl, c68_, rfl, hT68⟩ := q68
  show WP _ _ _ _ _ 71 _ [.int (((x) + a) * 2)] (HP c68_ w m v E) _
  refine wp_reti d_X3_widens_71 rfl ?_
  exact ⟨rfl, _, rfl, by simpa using hT68⟩
theorem s_X3_lensTells_4 {X : kX} {d : Nat} {c w m v : kZ} {E : kH} {z0 : kZ} {L : List Int32} (hT : kTc z0 c L) (hL : L.length ≤ 22) {n a : Int32} (hD : kD w 4 n a) (x : Int32)  : WP X (d + 5) 0 0 Y_X3_lensTells 0 [(0, .ref (78)), (1, .int (x))] [] (HP c w m v E) (fun r h1 => r = some (.int ((((x) + a) * 2) ^^^ n)) ∧ ∃ zz : kZ, h1 = HP zz w m v E ∧ kTc z0 zz (L ++ [13, 11, 10])) := by
  refine wp_aload_n 0 d_X3_lensTells_0 rfl rfl ?_
  refine wp_bipush (v0 := 13) d_X3_lensTells_1 (by decide) ?_
  refine wp_virtual0 (As := [.int (13)]) d_X3_lensTells_3 lk_X3_32 mv_X3_begin in_X3_begin se_X3_begin (Nat.le_of_ble_eq_true rfl) (Nat.le_of_ble_eq_true rfl) (hp_78 _ _ _ _ _) rfl (s_X3_begin (c := c) hT (by first | omega | (simp only [List.length_append, List.length_cons, List.length_nil]; omega)) hD.2.2.2 (13)) (fun v3 h3 q3 => ?_)
  obtain ⟨rfl, c3_, rfl, hT3⟩ := q3
  show WP _ _ _ _ _ 6 _ [] (HP c3_ w m v E) _
  refine wp_aload_n 0 d_X3_lensTells_6 rfl rfl ?_
  refine wp_iload_n 1 d_X3_lensTells_7 rfl rfl ?_
  refine wp_virtual0 (As := [.int (x)]) d_X3_lensTells_8 lk_X3_58 mv_X3_widens in_X3_widens se_X3_widens (Nat.le_of_ble_eq_true rfl) (Nat.le_of_ble_eq_true rfl) (hp_78 _ _ _ _ _) rfl (s_X3_widens_4 (c := c3_) hT3 (by first | omega | (simp only [List.length_append, List.length_cons, List.length_nil]; omega)) hD (x)) (fun v8 h8 q8 => ?_)
  obtain ⟨rfl, c8_, rfl, hT8⟩ := q8
  show WP _ _ _ _ _ 11 _ [.int (((x) + a) * 2)] (HP c8_ w m v E) _
  refine wp_aload_n 0 d_X3_lensTells_11 rfl rfl ?_
  refine wp_getfield (v := .int (n)) d_X3_lensTells_12 gf_X3_19 (hp_78 _ _ _ _ _) (congrArg (fun z => some (Value.int z)) hD.2.1) ?_
  refine wp_ixor d_X3_lensTells_15 ?_
  refine wp_reti d_X3_lensTells_16 rfl ?_
  exact ⟨rfl, _, rfl, by simpa using hT8⟩
theorem s_X3_parts_4 {X : kX} {d : Nat} {c w m v : kZ} {E : kH} {z0 : kZ} {L : List Int32} (hT : kTc z0 c L) (hL : L.length ≤ 23) {n a : Int32} (hD : kD w 4 n a) (x : Int32)  : WP X (d + 3) 0 0 Y_X3_parts 0 [(0, .ref (78)), (1, .int (x))] [] (HP c w m v E) (fun r h1 => ∃ zz : kZ, (a ≠ n ∧ r = some (.int ((x) * (2) / (a - n))) ∧ h1 = HP zz w m v E ∧ kTc z0 zz (L ++ [40, 12])) ∨ (a = n ∧ (∃ y : Int32, r = some (.int y)) ∧ h1 = HP zz (setS w 7803 1) m v E ∧ kTc z0 zz (L ++ [40, 12]))) := by
  refine wp_aload_n 0 d_X3_parts_0 rfl rfl ?_
  refine wp_getfield (v := .int (4)) d_X3_parts_1 gf_X3_15 (hp_78 _ _ _ _ _) (congrArg (fun z => some (Value.int z)) hD.1) ?_
  refine wp_lookup 32 d_X3_parts_4 rfl rfl rfl ?_
  refine wp_aload_n 0 d_X3_parts_32 rfl rfl ?_
  refine wp_iload_n 1 d_X3_parts_33 rfl rfl ?_
  refine wp_virtual0 (As := [.int (x)]) d_X3_parts_34 lk_X3_46 mv_X3_twinParts in_X3_twinParts se_X3_twinParts (Nat.le_of_ble_eq_true rfl) (Nat.le_of_ble_eq_true rfl) (hp_78 _ _ _ _ _) rfl (s_X3_twinParts (c := c) hT (by first | omega | (simp only [List.length_append, List.length_cons, List.length_nil]; omega)) hD (x)) (fun v34 h34 q34 => ?_)
  obtain ⟨c34_, ⟨hne, rfl, rfl, hT34⟩ | ⟨heq, ⟨y34, rfl⟩, rfl, hT34⟩⟩ := q34
  · show WP _ _ _ _ _ 37 _ [.int ((x) * (2) / (a - n))] (HP c34_ w m v E) _
    refine wp_reti d_X3_parts_37 rfl ?_
    exact ⟨_, Or.inl ⟨hne, rfl, rfl, by simpa using hT34⟩⟩
  · show WP _ _ _ _ _ 37 _ [.int (y34)] (HP c34_ (setS w 7803 (1)) m v E) _
    refine wp_reti d_X3_parts_37 rfl ?_
    exact ⟨_, Or.inr ⟨heq, ⟨_, rfl⟩, rfl, by simpa using hT34⟩⟩
theorem s_X3_tells_4 {X : kX} {d : Nat} {c w m v : kZ} {E : kH} {z0 : kZ} {L : List Int32} (hT : kTc z0 c L) (hL : L.length ≤ 12) {n a : Int32} (hD : kD w 4 n a) (x : Int32)  : WP X (d + 6) 0 0 Y_X3_tells 0 [(0, .ref (78)), (1, .int (x))] [] (HP c w m v E) (fun r h1 => r = some (.int ((((x) + a) * 2) ^^^ n)) ∧ ∃ zz : kZ, h1 = HP zz w m v E ∧ kTc z0 zz (L ++ [13, 11, 10])) := by
  refine wp_aload_n 0 d_X3_tells_0 rfl rfl ?_
  refine wp_getfield (v := .int (4)) d_X3_tells_1 gf_X3_15 (hp_78 _ _ _ _ _) (congrArg (fun z => some (Value.int z)) hD.1) ?_
  refine wp_iconst (v0 := 3) d_X3_tells_4 rfl ?_
  refine wp_icmp_eq 14 d_X3_tells_5 rfl (fun z => absurd z (by decide)) (fun _ => ?_)
  refine wp_aload_n 0 d_X3_tells_8 rfl rfl ?_
  refine wp_iload_n 1 d_X3_tells_9 rfl rfl ?_
  refine wp_virtual0 (As := [.int (x)]) d_X3_tells_10 lk_X3_52 mv_X3_lensTells in_X3_lensTells se_X3_lensTells (Nat.le_of_ble_eq_true rfl) (Nat.le_of_ble_eq_true rfl) (hp_78 _ _ _ _ _) rfl (s_X3_lensTells_4 (c := c) hT (by first | omega | (simp only [List.length_append, List.length_cons, List.length_nil]; omega)) hD (x)) (fun v10 h10 q10 => ?_)
  obtain ⟨rfl, c10_, rfl, hT10⟩ := q10
  show WP _ _ _ _ _ 13 _ [.int ((((x) + a) * 2) ^^^ n)] (HP c10_ w m v E) _
  refine wp_reti d_X3_tells_13 rfl ?_
  exact ⟨rfl, _, rfl, by simpa using hT10⟩
theorem s_X3_dims_5 {X : kX} {d : Nat} {c w m v : kZ} {E : kH} {z0 : kZ} {L : List Int32} (hT : kTc z0 c L) (hL : L.length ≤ 26) {n a : Int32} (hD : kD w 5 n a) (x : Int32)  : WP X (d + 2) 0 0 Y_X3_dims 0 [(0, .ref (78)), (1, .int (x))] [] (HP c w m v E) (fun r h1 => r = some (.int ((x) + a)) ∧ ∃ zz : kZ, h1 = HP zz w m v E ∧ kTc z0 zz (L ++ [10])) := by
  refine wp_aload_n 0 d_X3_dims_0 rfl rfl ?_
  refine wp_getfield (v := .int (5)) d_X3_dims_1 gf_X3_15 (hp_78 _ _ _ _ _) (congrArg (fun z => some (Value.int z)) hD.1) ?_
  refine wp_swd_X3_dims_4 (by decide) (by decide) ?_
  refine wp_aload_n 0 d_X3_dims_63 rfl rfl ?_
  refine wp_iload_n 1 d_X3_dims_64 rfl rfl ?_
  refine wp_virtual0 (As := [.int (x)]) d_X3_dims_65 lk_X3_36 mv_X3_lensDims in_X3_lensDims se_X3_lensDims (Nat.le_of_ble_eq_true rfl) (Nat.le_of_ble_eq_true rfl) (hp_78 _ _ _ _ _) rfl (s_X3_lensDims (c := c) hT (by first | omega | (simp only [List.length_append, List.length_cons, List.length_nil]; omega)) hD (x)) (fun v65 h65 q65 => ?_)
  obtain ⟨rfl, c65_, rfl, hT65⟩ := q65
  show WP _ _ _ _ _ 68 _ [.int ((x) + a)] (HP c65_ w m v E) _
  refine wp_reti d_X3_dims_68 rfl ?_
  exact ⟨rfl, _, rfl, by simpa using hT65⟩
theorem s_X3_lensWidens_5 {X : kX} {d : Nat} {c w m v : kZ} {E : kH} {z0 : kZ} {L : List Int32} (hT : kTc z0 c L) (hL : L.length ≤ 25) {n a : Int32} (hD : kD w 5 n a) (x : Int32)  : WP X (d + 3) 0 0 Y_X3_lensWidens 0 [(0, .ref (78)), (1, .int (x))] [] (HP c w m v E) (fun r h1 => r = some (.int (((x) + a) * 2)) ∧ ∃ zz : kZ, h1 = HP zz w m v E ∧ kTc z0 zz (L ++ [11, 10])) := by
  refine wp_aload_n 0 d_X3_lensWidens_0 rfl rfl ?_
  refine wp_bipush (v0 := 11) d_X3_lensWidens_1 (by decide) ?_
  refine wp_virtual0 (As := [.int (11)]) d_X3_lensWidens_3 lk_X3_32 mv_X3_begin in_X3_begin se_X3_begin (Nat.le_of_ble_eq_true rfl) (Nat.le_of_ble_eq_true rfl) (hp_78 _ _ _ _ _) rfl (s_X3_begin (c := c) hT (by first | omega | (simp only [List.length_append, List.length_cons, List.length_nil]; omega)) hD.2.2.2 (11)) (fun v3 h3 q3 => ?_)
  obtain ⟨rfl, c3_, rfl, hT3⟩ := q3
  show WP _ _ _ _ _ 6 _ [] (HP c3_ w m v E) _
  refine wp_aload_n 0 d_X3_lensWidens_6 rfl rfl ?_
  refine wp_iload_n 1 d_X3_lensWidens_7 rfl rfl ?_
  refine wp_virtual0 (As := [.int (x)]) d_X3_lensWidens_8 lk_X3_43 mv_X3_dims in_X3_dims se_X3_dims (Nat.le_of_ble_eq_true rfl) (Nat.le_of_ble_eq_true rfl) (hp_78 _ _ _ _ _) rfl (s_X3_dims_5 (c := c3_) hT3 (by first | omega | (simp only [List.length_append, List.length_cons, List.length_nil]; omega)) hD (x)) (fun v8 h8 q8 => ?_)
  obtain ⟨rfl, c8_, rfl, hT8⟩ := q8
  show WP _ _ _ _ _ 11 _ [.int ((x) + a)] (HP c8_ w m v E) _
  refine wp_iconst (v0 := 2) d_X3_lensWidens_11 rfl ?_
  refine wp_imul d_X3_lensWidens_12 ?_
  refine wp_reti d_X3_lensWidens_13 rfl ?_
  exact ⟨rfl, _, rfl, by simpa using hT8⟩
theorem s_X3_widens_5 {X : kX} {d : Nat} {c w m v : kZ} {E : kH} {z0 : kZ} {L : List Int32} (hT : kTc z0 c L) (hL : L.length ≤ 23) {n a : Int32} (hD : kD w 5 n a) (x : Int32)  : WP X (d + 4) 0 0 Y_X3_widens 0 [(0, .ref (78)), (1, .int (x))] [] (HP c w m v E) (fun r h1 => r = some (.int (-(((x) + a) * 2))) ∧ ∃ zz : kZ, h1 = HP zz w m v E ∧ kTc z0 zz (L ++ [60, 11, 10])) := by
  refine wp_aload_n 0 d_X3_widens_0 rfl rfl ?_
  refine wp_getfield (v := .int (5)) d_X3_widens_1 gf_X3_15 (hp_78 _ _ _ _ _) (congrArg (fun z => some (Value.int z)) hD.1) ?_
  refine wp_tableIn 53 d_X3_widens_4 (by decide) (by decide) rfl rfl ?_
  refine wp_aload_n 0 d_X3_widens_53 rfl rfl ?_
  refine wp_bipush (v0 := 60) d_X3_widens_54 (by decide) ?_
  refine wp_virtual0 (As := [.int (60)]) d_X3_widens_56 lk_X3_32 mv_X3_begin in_X3_begin se_X3_begin (Nat.le_of_ble_eq_true rfl) (Nat.le_of_ble_eq_true rfl) (hp_78 _ _ _ _ _) rfl (s_X3_begin (c := c) hT (by first | omega | (simp only [List.length_append, List.length_cons, List.length_nil]; omega)) hD.2.2.2 (60)) (fun v56 h56 q56 => ?_)
  obtain ⟨rfl, c56_, rfl, hT56⟩ := q56
  show WP _ _ _ _ _ 59 _ [] (HP c56_ w m v E) _
  refine wp_aload_n 0 d_X3_widens_59 rfl rfl ?_
  refine wp_iload_n 1 d_X3_widens_60 rfl rfl ?_
  refine wp_virtual0 (As := [.int (x)]) d_X3_widens_61 lk_X3_40 mv_X3_lensWidens in_X3_lensWidens se_X3_lensWidens (Nat.le_of_ble_eq_true rfl) (Nat.le_of_ble_eq_true rfl) (hp_78 _ _ _ _ _) rfl (s_X3_lensWidens_5 (c := c56_) hT56 (by first | omega | (simp only [List.length_append, List.length_cons, List.length_nil]; omega)) hD (x)) (fun v61 h61 q61 => ?_)
  obtain ⟨rfl, c61_, rfl, hT61⟩ := q61
  show WP _ _ _ _ _ 64 _ [.int (((x) + a) * 2)] (HP c61_ w m v E) _
  refine wp_ineg d_X3_widens_64 ?_
  refine wp_reti d_X3_widens_65 rfl ?_
  exact ⟨rfl, _, rfl, by simpa using hT61⟩
theorem s_X3_lensTells_5 {X : kX} {d : Nat} {c w m v : kZ} {E : kH} {z0 : kZ} {L : List Int32} (hT : kTc z0 c L) (hL : L.length ≤ 22) {n a : Int32} (hD : kD w 5 n a) (x : Int32)  : WP X (d + 5) 0 0 Y_X3_lensTells 0 [(0, .ref (78)), (1, .int (x))] [] (HP c w m v E) (fun r h1 => r = some (.int ((-(((x) + a) * 2)) ^^^ n)) ∧ ∃ zz : kZ, h1 = HP zz w m v E ∧ kTc z0 zz (L ++ [13, 60, 11, 10])) := by
  refine wp_aload_n 0 d_X3_lensTells_0 rfl rfl ?_
  refine wp_bipush (v0 := 13) d_X3_lensTells_1 (by decide) ?_
  refine wp_virtual0 (As := [.int (13)]) d_X3_lensTells_3 lk_X3_32 mv_X3_begin in_X3_begin se_X3_begin (Nat.le_of_ble_eq_true rfl) (Nat.le_of_ble_eq_true rfl) (hp_78 _ _ _ _ _) rfl (s_X3_begin (c := c) hT (by first | omega | (simp only [List.length_append, List.length_cons, List.length_nil]; omega)) hD.2.2.2 (13)) (fun v3 h3 q3 => ?_)
  obtain ⟨rfl, c3_, rfl, hT3⟩ := q3
  show WP _ _ _ _ _ 6 _ [] (HP c3_ w m v E) _
  refine wp_aload_n 0 d_X3_lensTells_6 rfl rfl ?_
  refine wp_iload_n 1 d_X3_lensTells_7 rfl rfl ?_
  refine wp_virtual0 (As := [.int (x)]) d_X3_lensTells_8 lk_X3_58 mv_X3_widens in_X3_widens se_X3_widens (Nat.le_of_ble_eq_true rfl) (Nat.le_of_ble_eq_true rfl) (hp_78 _ _ _ _ _) rfl (s_X3_widens_5 (c := c3_) hT3 (by first | omega | (simp only [List.length_append, List.length_cons, List.length_nil]; omega)) hD (x)) (fun v8 h8 q8 => ?_)
  obtain ⟨rfl, c8_, rfl, hT8⟩ := q8
  show WP _ _ _ _ _ 11 _ [.int (-(((x) + a) * 2))] (HP c8_ w m v E) _
  refine wp_aload_n 0 d_X3_lensTells_11 rfl rfl ?_
  refine wp_getfield (v := .int (n)) d_X3_lensTells_12 gf_X3_19 (hp_78 _ _ _ _ _) (congrArg (fun z => some (Value.int z)) hD.2.1) ?_
  refine wp_ixor d_X3_lensTells_15 ?_
  refine wp_reti d_X3_lensTells_16 rfl ?_
  exact ⟨rfl, _, rfl, by simpa using hT8⟩
theorem s_X3_parts_5 {X : kX} {d : Nat} {c w m v : kZ} {E : kH} {z0 : kZ} {L : List Int32} (hT : kTc z0 c L) (hL : L.length ≤ 23) {n a : Int32} (hD : kD w 5 n a) (x : Int32)  : WP X (d + 3) 0 0 Y_X3_parts 0 [(0, .ref (78)), (1, .int (x))] [] (HP c w m v E) (fun r h1 => ∃ zz : kZ, (a ≠ n ∧ r = some (.int ((x) * (2) / (a - n) - (n + a))) ∧ h1 = HP zz w m v E ∧ kTc z0 zz (L ++ [61, 40, 12, 10])) ∨ (a = n ∧ (∃ y : Int32, r = some (.int y)) ∧ h1 = HP zz (setS w 7803 1) m v E ∧ kTc z0 zz (L ++ [61, 40, 12]))) := by
  refine wp_aload_n 0 d_X3_parts_0 rfl rfl ?_
  refine wp_getfield (v := .int (5)) d_X3_parts_1 gf_X3_15 (hp_78 _ _ _ _ _) (congrArg (fun z => some (Value.int z)) hD.1) ?_
  refine wp_lookup 38 d_X3_parts_4 rfl rfl rfl ?_
  refine wp_aload_n 0 d_X3_parts_38 rfl rfl ?_
  refine wp_bipush (v0 := 61) d_X3_parts_39 (by decide) ?_
  refine wp_virtual0 (As := [.int (61)]) d_X3_parts_41 lk_X3_32 mv_X3_begin in_X3_begin se_X3_begin (Nat.le_of_ble_eq_true rfl) (Nat.le_of_ble_eq_true rfl) (hp_78 _ _ _ _ _) rfl (s_X3_begin (c := c) hT (by first | omega | (simp only [List.length_append, List.length_cons, List.length_nil]; omega)) hD.2.2.2 (61)) (fun v41 h41 q41 => ?_)
  obtain ⟨rfl, c41_, rfl, hT41⟩ := q41
  show WP _ _ _ _ _ 44 _ [] (HP c41_ w m v E) _
  refine wp_aload_n 0 d_X3_parts_44 rfl rfl ?_
  refine wp_iload_n 1 d_X3_parts_45 rfl rfl ?_
  refine wp_virtual0 (As := [.int (x)]) d_X3_parts_46 lk_X3_46 mv_X3_twinParts in_X3_twinParts se_X3_twinParts (Nat.le_of_ble_eq_true rfl) (Nat.le_of_ble_eq_true rfl) (hp_78 _ _ _ _ _) rfl (s_X3_twinParts (c := c41_) hT41 (by first | omega | (simp only [List.length_append, List.length_cons, List.length_nil]; omega)) hD (x)) (fun v46 h46 q46 => ?_)
  obtain ⟨c46_, ⟨hne, rfl, rfl, hT46⟩ | ⟨heq, ⟨y46, rfl⟩, rfl, hT46⟩⟩ := q46
  · show WP _ _ _ _ _ 49 _ [.int ((x) * (2) / (a - n))] (HP c46_ w m v E) _
    refine wp_aload_n 0 d_X3_parts_49 rfl rfl ?_
    refine wp_aload_n 0 d_X3_parts_50 rfl rfl ?_
    refine wp_getfield (v := .int (n)) d_X3_parts_51 gf_X3_19 (hp_78 _ _ _ _ _) (congrArg (fun z => some (Value.int z)) hD.2.1) ?_
    refine wp_virtual0 (As := [.int (n)]) d_X3_parts_54 lk_X3_43 mv_X3_dims in_X3_dims se_X3_dims (Nat.le_of_ble_eq_true rfl) (Nat.le_of_ble_eq_true rfl) (hp_78 _ _ _ _ _) rfl (s_X3_dims_5 (c := c46_) hT46 (by first | omega | (simp only [List.length_append, List.length_cons, List.length_nil]; omega)) hD (n)) (fun v54 h54 q54 => ?_)
    obtain ⟨rfl, c54_, rfl, hT54⟩ := q54
    show WP _ _ _ _ _ 57 _ [.int ((n) + a), .int ((x) * (2) / (a - n))] (HP c54_ w m v E) _
    refine wp_isub d_X3_parts_57 ?_
    refine wp_reti d_X3_parts_58 rfl ?_
    exact ⟨_, Or.inl ⟨hne, rfl, rfl, by simpa using hT54⟩⟩
  · show WP _ _ _ _ _ 49 _ [.int (y46)] (HP c46_ (setS w 7803 (1)) m v E) _
    refine wp_aload_n 0 d_X3_parts_49 rfl rfl ?_
    refine wp_aload_n 0 d_X3_parts_50 rfl rfl ?_
    refine wp_getfield (v := .int (n)) d_X3_parts_51 gf_X3_19 (hp_78 _ _ _ _ _) (congrArg (fun z => some (Value.int z)) hD.2.1) ?_
    refine wp_vrt_i (As := [.int (n)]) (x0 := (n) + a) (h1 := HP c46_ (setS w 7803 (1)) m v E) d_X3_parts_54 lk_X3_43 mv_X3_dims in_X3_dims se_X3_dims (Nat.le_of_ble_eq_true rfl) (Nat.le_of_ble_eq_true rfl) (hp_78 _ _ _ _ _) rfl (s_X3_dims_p (w := (setS w 7803 (1))) ⟨hD.1, hD.2.1, hD.2.2.1, rfl⟩ (n)) ?_
    refine wp_isub d_X3_parts_57 ?_
    refine wp_reti d_X3_parts_58 rfl ?_
    exact ⟨_, Or.inr ⟨heq, ⟨_, rfl⟩, rfl, by simpa using hT46⟩⟩
theorem s_X3_tells_5 {X : kX} {d : Nat} {c w m v : kZ} {E : kH} {z0 : kZ} {L : List Int32} (hT : kTc z0 c L) (hL : L.length ≤ 12) {n a : Int32} (hD : kD w 5 n a) (x : Int32)  : WP X (d + 6) 0 0 Y_X3_tells 0 [(0, .ref (78)), (1, .int (x))] [] (HP c w m v E) (fun r h1 => r = some (.int ((-(((x) + a) * 2)) ^^^ n)) ∧ ∃ zz : kZ, h1 = HP zz w m v E ∧ kTc z0 zz (L ++ [13, 60, 11, 10])) := by
  refine wp_aload_n 0 d_X3_tells_0 rfl rfl ?_
  refine wp_getfield (v := .int (5)) d_X3_tells_1 gf_X3_15 (hp_78 _ _ _ _ _) (congrArg (fun z => some (Value.int z)) hD.1) ?_
  refine wp_iconst (v0 := 3) d_X3_tells_4 rfl ?_
  refine wp_icmp_eq 14 d_X3_tells_5 rfl (fun z => absurd z (by decide)) (fun _ => ?_)
  refine wp_aload_n 0 d_X3_tells_8 rfl rfl ?_
  refine wp_iload_n 1 d_X3_tells_9 rfl rfl ?_
  refine wp_virtual0 (As := [.int (x)]) d_X3_tells_10 lk_X3_52 mv_X3_lensTells in_X3_lensTells se_X3_lensTells (Nat.le_of_ble_eq_true rfl) (Nat.le_of_ble_eq_true rfl) (hp_78 _ _ _ _ _) rfl (s_X3_lensTells_5 (c := c) hT (by first | omega | (simp only [List.length_append, List.length_cons, List.length_nil]; omega)) hD (x)) (fun v10 h10 q10 => ?_)
  obtain ⟨rfl, c10_, rfl, hT10⟩ := q10
  show WP _ _ _ _ _ 13 _ [.int ((-(((x) + a) * 2)) ^^^ n)] (HP c10_ w m v E) _
  refine wp_reti d_X3_tells_13 rfl ?_
  exact ⟨rfl, _, rfl, by simpa using hT10⟩
theorem kk5 {P : Int32 → Prop} (h1 : P 1) (h2 : P 2) (h3 : P 3) (h4 : P 4) (h5 : P 5) (t : Int32) (a : 1 ≤ t.toInt ∧ t.toInt ≤ 5) : P t := by
  obtain ⟨j, hj, rfl⟩ := k_natle (n := 5) (x := t) ⟨by omega, a.2⟩
  have a1 := a.1
  rw [nI_toInt (by omega)] at a1
  rcases (by omega : j = 1 ∨ j = 2 ∨ j = 3 ∨ j = 4 ∨ j = 5) with e | e | e | e | e <;> subst e
  · exact h1
  · exact h2
  · exact h3
  · exact h4
  · exact h5
theorem s_X3_dims {X : kX} {d : Nat} {c w m v : kZ} {E : kH} {z0 : kZ} {L : List Int32} (hT : kTc z0 c L) (hL : L.length ≤ 26) {K n a : Int32} (hK : 1 ≤ K.toInt ∧ K.toInt ≤ 5) (hD : kD w K n a) (x : Int32) : WP X (d + 2) 0 0 Y_X3_dims 0 [(0, .ref 78), (1, .int x)] [] (HP c w m v E) (fun r h1 => ∃ zz : kZ, kTc z0 zz (L ++ kaB 0 K n a) ∧ ((¬ kaP 0 K n a ∧ r = some (.int (kaV 0 K n a x)) ∧ h1 = HP zz w m v E) ∨ (kaP 0 K n a ∧ (∃ y : Int32, r = some (.int y)) ∧ h1 = HP zz (setS w 7803 1) m v E))) := by
  revert hD
  refine kk5 (P := fun K => kD w K n a → WP X (d + 2) 0 0 Y_X3_dims 0 [(0, .ref 78), (1, .int x)] [] (HP c w m v E) (fun r h1 => ∃ zz : kZ, kTc z0 zz (L ++ kaB 0 K n a) ∧ ((¬ kaP 0 K n a ∧ r = some (.int (kaV 0 K n a x)) ∧ h1 = HP zz w m v E) ∨ (kaP 0 K n a ∧ (∃ y : Int32, r = some (.int y)) ∧ h1 = HP zz (setS w 7803 1) m v E)))) ?_ ?_ ?_ ?_ ?_ K hK
  · intro hD
    refine wp_mono ?_ (s_X3_dims_1 hT hL hD x)
    rintro r h1 ⟨rfl, zz, rfl, hz⟩
    refine ⟨zz, ?_, Or.inl ⟨?_, ?_, rfl⟩⟩
    · simpa [kaB, kdmB, kwdB, kptB, ktlB] using hz
    · simp [kaP]
    · simp [kaV, kdmV, kwdV, kptV, ktlV]
  · intro hD
    refine wp_mono ?_ (s_X3_dims_2 hT hL hD x)
    rintro r h1 ⟨rfl, zz, rfl, hz⟩
    refine ⟨zz, ?_, Or.inl ⟨?_, ?_, rfl⟩⟩
    · simpa [kaB, kdmB, kwdB, kptB, ktlB] using hz
    · simp [kaP]
    · simp [kaV, kdmV, kwdV, kptV, ktlV]
  · intro hD
    refine wp_mono ?_ (s_X3_dims_3 hT hL hD x)
    rintro r h1 ⟨rfl, zz, rfl, hz⟩
    refine ⟨zz, ?_, Or.inl ⟨?_, ?_, rfl⟩⟩
    · simpa [kaB, kdmB, kwdB, kptB, ktlB] using hz
    · simp [kaP]
    · simp [kaV, kdmV, kwdV, kptV, ktlV]
  · intro hD
    refine wp_mono ?_ (s_X3_dims_4 hT hL hD x)
    rintro r h1 ⟨rfl, zz, rfl, hz⟩
    refine ⟨zz, ?_, Or.inl ⟨?_, ?_, rfl⟩⟩
    · simpa [kaB, kdmB, kwdB, kptB, ktlB] using hz
    · simp [kaP]
    · simp [kaV, kdmV, kwdV, kptV, ktlV]
  · intro hD
    refine wp_mono ?_ (s_X3_dims_5 hT hL hD x)
    rintro r h1 ⟨rfl, zz, rfl, hz⟩
    refine ⟨zz, ?_, Or.inl ⟨?_, ?_, rfl⟩⟩
    · simpa [kaB, kdmB, kwdB, kptB, ktlB] using hz
    · simp [kaP]
    · simp [kaV, kdmV, kwdV, kptV, ktlV]
theorem s_X3_widens {X : kX} {d : Nat} {c w m v : kZ} {E : kH} {z0 : kZ} {L : List Int32} (hT : kTc z0 c L) (hL : L.length ≤ 23) {K n a : Int32} (hK : 1 ≤ K.toInt ∧ K.toInt ≤ 5) (hD : kD w K n a) (x : Int32) : WP X (d + 4) 0 0 Y_X3_widens 0 [(0, .ref 78), (1, .int x)] [] (HP c w m v E) (fun r h1 => ∃ zz : kZ, kTc z0 zz (L ++ kaB 1 K n a) ∧ ((¬ kaP 1 K n a ∧ r = some (.int (kaV 1 K n a x)) ∧ h1 = HP zz w m v E) ∨ (kaP 1 K n a ∧ (∃ y : Int32, r = some (.int y)) ∧ h1 = HP zz (setS w 7803 1) m v E))) := by
  revert hD
  refine kk5 (P := fun K => kD w K n a → WP X (d + 4) 0 0 Y_X3_widens 0 [(0, .ref 78), (1, .int x)] [] (HP c w m v E) (fun r h1 => ∃ zz : kZ, kTc z0 zz (L ++ kaB 1 K n a) ∧ ((¬ kaP 1 K n a ∧ r = some (.int (kaV 1 K n a x)) ∧ h1 = HP zz w m v E) ∨ (kaP 1 K n a ∧ (∃ y : Int32, r = some (.int y)) ∧ h1 = HP zz (setS w 7803 1) m v E)))) ?_ ?_ ?_ ?_ ?_ K hK
  · intro hD
    refine wp_mono ?_ (s_X3_widens_1 hT hL hD x)
    rintro r h1 ⟨rfl, zz, rfl, hz⟩
    refine ⟨zz, ?_, Or.inl ⟨?_, ?_, rfl⟩⟩
    · simpa [kaB, kdmB, kwdB, kptB, ktlB] using hz
    · simp [kaP]
    · simp [kaV, kdmV, kwdV, kptV, ktlV]
  · intro hD
    refine wp_mono ?_ (s_X3_widens_2 hT hL hD x)
    rintro r h1 ⟨rfl, zz, rfl, hz⟩
    refine ⟨zz, ?_, Or.inl ⟨?_, ?_, rfl⟩⟩
    · simpa [kaB, kdmB, kwdB, kptB, ktlB] using hz
    · simp [kaP]
    · simp [kaV, kdmV, kwdV, kptV, ktlV]
  · intro hD
    refine wp_mono ?_ (s_X3_widens_3 hT hL hD x)
    rintro r h1 ⟨rfl, zz, rfl, hz⟩
    refine ⟨zz, ?_, Or.inl ⟨?_, ?_, rfl⟩⟩
    · simpa [kaB, kdmB, kwdB, kptB, ktlB] using hz
    · simp [kaP]
    · simp [kaV, kdmV, kwdV, kptV, ktlV]
  · intro hD
    refine wp_mono ?_ (s_X3_widens_4 hT hL hD x)
    rintro r h1 ⟨rfl, zz, rfl, hz⟩
    refine ⟨zz, ?_, Or.inl ⟨?_, ?_, rfl⟩⟩
    · simpa [kaB, kdmB, kwdB, kptB, ktlB] using hz
    · simp [kaP]
    · simp [kaV, kdmV, kwdV, kptV, ktlV]
  · intro hD
    refine wp_mono ?_ (s_X3_widens_5 hT hL hD x)
    rintro r h1 ⟨rfl, zz, rfl, hz⟩
    refine ⟨zz, ?_, Or.inl ⟨?_, ?_, rfl⟩⟩
    · simpa [kaB, kdmB, kwdB, kptB, ktlB] using hz
    · simp [kaP]
    · simp [kaV, kdmV, kwdV, kptV, ktlV]
theorem s_X3_parts {X : kX} {d : Nat} {c w m v : kZ} {E : kH} {z0 : kZ} {L : List Int32} (hT : kTc z0 c L) (hL : L.length ≤ 23) {K n a : Int32} (hK : 1 ≤ K.toInt ∧ K.toInt ≤ 5) (hD : kD w K n a) (x : Int32) : WP X (d + 3) 0 0 Y_X3_parts 0 [(0, .ref 78), (1, .int x)] [] (HP c w m v E) (fun r h1 => ∃ zz : kZ, kTc z0 zz (L ++ kaB 2 K n a) ∧ ((¬ kaP 2 K n a ∧ r = some (.int (kaV 2 K n a x)) ∧ h1 = HP zz w m v E) ∨ (kaP 2 K n a ∧ (∃ y : Int32, r = some (.int y)) ∧ h1 = HP zz (setS w 7803 1) m v E))) := by
  revert hD
  refine kk5 (P := fun K => kD w K n a → WP X (d + 3) 0 0 Y_X3_parts 0 [(0, .ref 78), (1, .int x)] [] (HP c w m v E) (fun r h1 => ∃ zz : kZ, kTc z0 zz (L ++ kaB 2 K n a) ∧ ((¬ kaP 2 K n a ∧ r = some (.int (kaV 2 K n a x)) ∧ h1 = HP zz w m v E) ∨ (kaP 2 K n a ∧ (∃ y : Int32, r = some (.int y)) ∧ h1 = HP zz (setS w 7803 1) m v E)))) ?_ ?_ ?_ ?_ ?_ K hK
  · intro hD
    refine wp_mono ?_ (s_X3_parts_1 hT hL hD x)
    rintro r h1 ⟨zz, ⟨hne, rfl, rfl, hz⟩ | ⟨heq, ⟨y, rfl⟩, rfl, hz⟩⟩
    · refine ⟨zz, ?_, Or.inl ⟨?_, ?_, rfl⟩⟩
      · simpa [kaB, kdmB, kwdB, kptB, ktlB, hne] using hz
      · simpa [kaP] using hne
      · simp [kaV, kdmV, kwdV, kptV, ktlV]
    · refine ⟨zz, ?_, Or.inr ⟨?_, ⟨y, rfl⟩, rfl⟩⟩
      · simpa [kaB, kdmB, kwdB, kptB, ktlB, heq] using hz
      · simpa [kaP] using heq
  · intro hD
    refine wp_mono ?_ (s_X3_parts_2 hT hL hD x)
    rintro r h1 ⟨zz, ⟨hne, rfl, rfl, hz⟩ | ⟨heq, ⟨y, rfl⟩, rfl, hz⟩⟩
    · refine ⟨zz, ?_, Or.inl ⟨?_, ?_, rfl⟩⟩
      · simpa [kaB, kdmB, kwdB, kptB, ktlB, hne] using hz
      · simpa [kaP] using hne
      · simp [kaV, kdmV, kwdV, kptV, ktlV]
    · refine ⟨zz, ?_, Or.inr ⟨?_, ⟨y, rfl⟩, rfl⟩⟩
      · simpa [kaB, kdmB, kwdB, kptB, ktlB, heq] using hz
      · simpa [kaP] using heq
  · intro hD
    refine wp_mono ?_ (s_X3_parts_3 hT hL hD x)
    rintro r h1 ⟨zz, ⟨hne, rfl, rfl, hz⟩ | ⟨heq, ⟨y, rfl⟩, rfl, hz⟩⟩
    · refine ⟨zz, ?_, Or.inl ⟨?_, ?_, rfl⟩⟩
      · simpa [kaB, kdmB, kwdB, kptB, ktlB, hne] using hz
      · simpa [kaP] using hne
      · simp [kaV, kdmV, kwdV, kptV, ktlV]
    · refine ⟨zz, ?_, Or.inr ⟨?_, ⟨y, rfl⟩, rfl⟩⟩
      · simpa [kaB, kdmB, kwdB, kptB, ktlB, heq] using hz
      · simpa [kaP] using heq
  · intro hD
    refine wp_mono ?_ (s_X3_parts_4 hT hL hD x)
    rintro r h1 ⟨zz, ⟨hne, rfl, rfl, hz⟩ | ⟨heq, ⟨y, rfl⟩, rfl, hz⟩⟩
    · refine ⟨zz, ?_, Or.inl ⟨?_, ?_, rfl⟩⟩
      · simpa [kaB, kdmB, kwdB, kptB, ktlB, hne] using hz
      · simpa [kaP] using hne
      · simp [kaV, kdmV, kwdV, kptV, ktlV]
    · refine ⟨zz, ?_, Or.inr ⟨?_, ⟨y, rfl⟩, rfl⟩⟩
      · simpa [kaB, kdmB, kwdB, kptB, ktlB, heq] using hz
      · simpa [kaP] using heq
  · intro hD
    refine wp_mono ?_ (s_X3_parts_5 hT hL hD x)
    rintro r h1 ⟨zz, ⟨hne, rfl, rfl, hz⟩ | ⟨heq, ⟨y, rfl⟩, rfl, hz⟩⟩
    · refine ⟨zz, ?_, Or.inl ⟨?_, ?_, rfl⟩⟩
      · simpa [kaB, kdmB, kwdB, kptB, ktlB, hne] using hz
      · simpa [kaP] using hne
      · simp [kaV, kdmV, kwdV, kptV, ktlV]
    · refine ⟨zz, ?_, Or.inr ⟨?_, ⟨y, rfl⟩, rfl⟩⟩
      · simpa [kaB, kdmB, kwdB, kptB, ktlB, heq] using hz
      · simpa [kaP] using heq
theorem s_X3_tells {X : kX} {d : Nat} {c w m v : kZ} {E : kH} {z0 : kZ} {L : List Int32} (hT : kTc z0 c L) (hL : L.length ≤ 12) {K n a : Int32} (hK : 1 ≤ K.toInt ∧ K.toInt ≤ 5) (hD : kD w K n a) (x : Int32) : WP X (d + 6) 0 0 Y_X3_tells 0 [(0, .ref 78), (1, .int x)] [] (HP c w m v E) (fun r h1 => ∃ zz : kZ, kTc z0 zz (L ++ kaB 3 K n a) ∧ ((¬ kaP 3 K n a ∧ r = some (.int (kaV 3 K n a x)) ∧ h1 = HP zz w m v E) ∨ (kaP 3 K n a ∧ (∃ y : Int32, r = some (.int y)) ∧ h1 = HP zz (setS w 7803 1) m v E))) := by
  revert hD
  refine kk5 (P := fun K => kD w K n a → WP X (d + 6) 0 0 Y_X3_tells 0 [(0, .ref 78), (1, .int x)] [] (HP c w m v E) (fun r h1 => ∃ zz : kZ, kTc z0 zz (L ++ kaB 3 K n a) ∧ ((¬ kaP 3 K n a ∧ r = some (.int (kaV 3 K n a x)) ∧ h1 = HP zz w m v E) ∨ (kaP 3 K n a ∧ (∃ y : Int32, r = some (.int y)) ∧ h1 = HP zz (setS w 7803 1) m v E)))) ?_ ?_ ?_ ?_ ?_ K hK
  · intro hD
    refine wp_mono ?_ (s_X3_tells_1 hT hL hD x)
    rintro r h1 ⟨rfl, zz, rfl, hz⟩
    refine ⟨zz, ?_, Or.inl ⟨?_, ?_, rfl⟩⟩
    · simpa [kaB, kdmB, kwdB, kptB, ktlB] using hz
    · simp [kaP]
    · simp [kaV, kdmV, kwdV, kptV, ktlV]
  · intro hD
    refine wp_mono ?_ (s_X3_tells_2 hT hL hD x)
    rintro r h1 ⟨rfl, zz, rfl, hz⟩
    refine ⟨zz, ?_, Or.inl ⟨?_, ?_, rfl⟩⟩
    · simpa [kaB, kdmB, kwdB, kptB, ktlB] using hz
    · simp [kaP]
    · simp [kaV, kdmV, kwdV, kptV, ktlV]
  · intro hD
    refine wp_mono ?_ (s_X3_tells_3 hT hL hD x)
    rintro r h1 ⟨zz, ⟨hne, rfl, rfl, hz⟩ | ⟨heq, ⟨y, rfl⟩, rfl, hz⟩⟩
    · refine ⟨zz, ?_, Or.inl ⟨?_, ?_, rfl⟩⟩
      · simpa [kaB, kdmB, kwdB, kptB, ktlB, hne] using hz
      · simpa [kaP] using hne
      · simp [kaV, kdmV, kwdV, kptV, ktlV]
    · refine ⟨zz, ?_, Or.inr ⟨?_, ⟨y, rfl⟩, rfl⟩⟩
      · simpa [kaB, kdmB, kwdB, kptB, ktlB, heq] using hz
      · simpa [kaP] using heq
  · intro hD
    refine wp_mono ?_ (s_X3_tells_4 hT hL hD x)
    rintro r h1 ⟨rfl, zz, rfl, hz⟩
    refine ⟨zz, ?_, Or.inl ⟨?_, ?_, rfl⟩⟩
    · simpa [kaB, kdmB, kwdB, kptB, ktlB] using hz
    · simp [kaP]
    · simp [kaV, kdmV, kwdV, kptV, ktlV]
  · intro hD
    refine wp_mono ?_ (s_X3_tells_5 hT hL hD x)
    rintro r h1 ⟨rfl, zz, rfl, hz⟩
    refine ⟨zz, ?_, Or.inl ⟨?_, ?_, rfl⟩⟩
    · simpa [kaB, kdmB, kwdB, kptB, ktlB] using hz
    · simp [kaP]
    · simp [kaV, kdmV, kwdV, kptV, ktlV]
theorem s_X3_hold {X : kX} {d : Nat} {c w m v : kZ} {E : kH} (k l b : Int32) : WP X d 0 0 Y_X3_hold 0 [(0, .ref (78)), (1, .int (k)), (2, .int (l)), (3, .int (b))] [] (HP c w m v E) (kR none (HP c (setS (setS (setS (setS w 7800 (k)) 7801 (l)) 7802 (b)) 7803 (0)) m v E)) := by
  refine wp_aload_n 0 d_X3_hold_0 rfl rfl ?_
  refine wp_iload_n 1 d_X3_hold_1 rfl rfl ?_
  refine wp_putfield (h' := HP c (setS w 7800 (k)) m v E) d_X3_hold_2 gp_X3_15 (kfit_i _) (hp_78 _ _ _ _ _) (Nat.le_of_ble_eq_true rfl) (hps_78_0 _ _ _ _ _ _) ?_
  refine wp_aload_n 0 d_X3_hold_5 rfl rfl ?_
  refine wp_iload_n 2 d_X3_hold_6 rfl rfl ?_
  refine wp_putfield (h' := HP c (setS (setS w 7800 (k)) 7801 (l)) m v E) d_X3_hold_7 gp_X3_19 (kfit_i _) (hp_78 _ _ _ _ _) (Nat.le_of_ble_eq_true rfl) (hps_78_1 _ _ _ _ _ _) ?_
  refine wp_aload_n 0 d_X3_hold_10 rfl rfl ?_
  refine wp_iload_n 3 d_X3_hold_11 rfl rfl ?_
  refine wp_putfield (h' := HP c (setS (setS (setS w 7800 (k)) 7801 (l)) 7802 (b)) m v E) d_X3_hold_12 gp_X3_22 (kfit_i _) (hp_78 _ _ _ _ _) (Nat.le_of_ble_eq_true rfl) (hps_78_2 _ _ _ _ _ _) ?_
  refine wp_aload_n 0 d_X3_hold_15 rfl rfl ?_
  refine wp_iconst (v0 := 0) d_X3_hold_16 rfl ?_
  refine wp_putfield (h' := HP c (setS (setS (setS (setS w 7800 (k)) 7801 (l)) 7802 (b)) 7803 (0)) m v E) d_X3_hold_17 gp_X3_25 kfit_z0 (hp_78 _ _ _ _ _) (Nat.le_of_ble_eq_true rfl) (hps_78_3 _ _ _ _ _ _) ?_
  refine wp_vret d_X3_hold_20 rfl ?_
  exact ⟨rfl, rfl⟩
def kDf (w w1 : kZ) : Prop := (∀ k, k < 7800 → w1.1 k = w.1 k) ∧ w1.2 = w.2
theorem s_X9_act {X : kX} {d : Nat} {c w m v : kZ} {E : kH} {n : Nat} (hn : c.1 100 = nI n) (hn9 : n ≤ 9) (hk : ∀ j, j < n → 1 ≤ (c.2.1 2 j).toInt ∧ (c.2.1 2 j).toInt ≤ 5) (s u x : Int32) : WP X (d + 8) 0 0 Y_X9_act 0 [(0, .ref (0)), (1, .int (s)), (2, .int (u)), (3, .int (x))] [] (HP c w m v E) (fun r h1 => (¬ ((0 ≤ s.toInt ∧ s.toInt ≤ 3) ∧ (0 ≤ u.toInt ∧ u.toInt ≤ 3) ∧ (0 ≤ (c.2.1 77 s.toNatClampNeg).toInt ∧ (c.2.1 77 s.toNatClampNeg).toInt < (n : Int))) ∧ r = some (.int 0) ∧ h1 = HP (setS c 7805 0) w m v E) ∨ ∃ j q l : Nat, j ≤ 3 ∧ s = nI j ∧ q ≤ 3 ∧ u = nI q ∧ c.2.1 77 j = nI l ∧ l < n ∧ (∃ z, r = some (.int z) ∧ (kaP q (c.2.1 2 l) (nI l) (c.2.1 3 l) → z = -15) ∧ (¬ kaP q (c.2.1 2 l) (nI l) (c.2.1 3 l) → z = kaV q (c.2.1 2 l) (nI l) (c.2.1 3 l) x)) ∧ ∃ zc1 w1 : kZ, h1 = HP zc1 w1 m v E ∧ kTc c zc1 (kaB q (c.2.1 2 l) (nI l) (c.2.1 3 l)) ∧ kDf w w1) := by
  refine wp_aload_n 0 d_X9_act_0 rfl rfl ?_
  refine wp_getfield (v := .ref (78)) d_X9_act_1 gf_X9_81 (hp_0 _ _ _ _ _) rfl ?_
  refine wp_iconst (v0 := 0) d_X9_act_4 rfl ?_
  refine wp_putfield (h' := HP (setS c 7805 (0)) w m v E) d_X9_act_5 gp_X9_345 (kfit_i _) (hp_78 _ _ _ _ _) (Nat.le_of_ble_eq_true rfl) (hps_78_5 _ _ _ _ _ _) ?_
  refine wp_iload_n 1 d_X9_act_8 rfl rfl ?_
  refine wp_stc_i (As := [.int (s)]) (x0 := kb (0 ≤ (s : Int32).toInt ∧ (s : Int32).toInt ≤ 3)) (h1 := HP (setS c 7805 (0)) w m v E) d_X9_act_9 lk_X9_335 mv_X9_isShelf st_X9_isShelf (Nat.le_of_ble_eq_true rfl) (Nat.le_of_ble_eq_true rfl) (s_X9_isShelf _ (s : Int32)) ?_
  refine wp_ifb_eq 40 d_X9_act_12 rfl (fun zc12 => ?_) (fun zc12 => ?_)
  · refine wp_iconst (v0 := 0) d_X9_act_40 rfl ?_
    refine wp_reti d_X9_act_41 rfl ?_
    refine Or.inl ⟨?_, rfl, rfl⟩
    rintro ⟨q1, q2, q3⟩
    first
    | exact zc12 q1
    | exact zc21 q2
    | exact zc37 (by rw [nI_clamp (by omega)] at q3; exact q3)
  · refine wp_iload_n 2 d_X9_act_15 rfl rfl ?_
    refine wp_iconst (v0 := 0) d_X9_act_16 rfl ?_
    refine wp_iconst (v0 := 3) d_X9_act_17 rfl ?_
    refine wp_stc_i (As := [.int (u), .int (0), .int (3)]) (x0 := kb (0 ≤ (u : Int32).toInt ∧ (u : Int32).toInt ≤ 3)) (h1 := HP (setS c 7805 (0)) w m v E) d_X9_act_18 lk_X9_98 mv_X9_isWithin st_X9_isWithin (Nat.le_of_ble_eq_true rfl) (Nat.le_of_ble_eq_true rfl) (s_X9_isWithin _ (u : Int32) (0 : Int32) (3 : Int32)) ?_
    refine wp_ifb_eq 40 d_X9_act_21 rfl (fun zc21 => ?_) (fun zc21 => ?_)
    · refine wp_iconst (v0 := 0) d_X9_act_40 rfl ?_
      refine wp_reti d_X9_act_41 rfl ?_
      refine Or.inl ⟨?_, rfl, rfl⟩
      rintro ⟨q1, q2, q3⟩
      first
      | exact zc12 q1
      | exact zc21 q2
      | exact zc37 (by rw [nI_clamp (by omega)] at q3; exact q3)
    · obtain ⟨j, hj, rfl⟩ := k_natle (n := 3) zc12
      refine wp_aload_n 0 d_X9_act_24 rfl rfl ?_
      refine wp_getfield (v := .ref (1)) d_X9_act_25 gf_X9_12 (hp_0 _ _ _ _ _) rfl ?_
      refine wp_aload_n 0 d_X9_act_28 rfl rfl ?_
      refine wp_getfield (v := .ref (77)) d_X9_act_29 gf_X9_75 (hp_0 _ _ _ _ _) rfl ?_
      refine wp_iload_n 1 d_X9_act_32 rfl rfl ?_
      refine wp_iaload (v := (c.2.1 77) (j)) d_X9_act_33 (hp_77 _ _ _ _ _) (vp_in_nI (by omega) (by omega)) (congrArg ((c.2.1 77)) (nI_clamp (by omega))) ?_
      refine wp_vrt_i (As := [.int ((c.2.1 77) (j))]) (x0 := kb (0 ≤ (((c.2.1 77) (j)) : Int32).toInt ∧ (((c.2.1 77) (j)) : Int32).toInt < (n : Int))) (h1 := HP (setS c 7805 (0)) w m v E) d_X9_act_34 lk_X9_118 mv_X1_hasLens in_X1_hasLens se_X1_hasLens (Nat.le_of_ble_eq_true rfl) (Nat.le_of_ble_eq_true rfl) (hp_1 _ _ _ _ _) rfl (s_X1_hasLens (c := (setS c 7805 (0))) (n := n) (show (setS c 7805 (0)).1 100 = nI n from hn) hn9 ((c.2.1 77) (j))) ?_
      refine wp_ifb_ne 42 d_X9_act_37 rfl (fun zc37 => ?_) (fun zc37 => ?_)
      · obtain ⟨l, hl, hl1⟩ := k_nat zc37
        have hT0 : kTc c (setS c 7805 0) [] := ⟨fun k9 h9 => upd_n _ _ h9, fun _ _ => rfl, rfl, rfl, fun i9 h9 => absurd h9 (by simp)⟩
        refine wp_aload_n 0 d_X9_act_42 rfl rfl ?_
        refine wp_getfield (v := .ref (77)) d_X9_act_43 gf_X9_75 (hp_0 _ _ _ _ _) rfl ?_
        refine wp_iload_n 1 d_X9_act_46 rfl rfl ?_
        refine wp_iaload (v := nI (l)) d_X9_act_47 (hp_77 _ _ _ _ _) (vp_in_nI (by omega) (by omega)) ((congrArg ((c.2.1 77)) (nI_clamp (by omega))).trans hl1) ?_
        refine wp_istore [(4, .int (nI (l))), (0, .ref (0)), (1, .int (nI (j))), (2, .int (u)), (3, .int (x))] d_X9_act_48 (Nat.le_of_ble_eq_true rfl) rfl ?_
        refine wp_aload_n 1 d_X9_act_50 rfl rfl ?_
        refine wp_getfield (v := .ref (78)) d_X9_act_51 gf_X9_81 (hp_0 _ _ _ _ _) rfl ?_
        refine wp_aload_n 1 d_X9_act_54 rfl rfl ?_
        refine wp_getfield (v := .ref (1)) d_X9_act_55 gf_X9_12 (hp_0 _ _ _ _ _) rfl ?_
        refine wp_getfield (v := .ref (2)) d_X9_act_58 gf_X9_106 (hp_1 _ _ _ _ _) rfl ?_
        refine wp_iload 0 d_X9_act_61 rfl ?_
        refine wp_iaload (v := (c.2.1 2) (l)) d_X9_act_63 (hp_2 _ _ _ _ _) (vp_in_nI (by omega) (by omega)) (congrArg ((c.2.1 2)) (nI_clamp (by omega))) ?_
        refine wp_iload 0 d_X9_act_64 rfl ?_
        refine wp_aload_n 1 d_X9_act_66 rfl rfl ?_
        refine wp_getfield (v := .ref (1)) d_X9_act_67 gf_X9_12 (hp_0 _ _ _ _ _) rfl ?_
        refine wp_getfield (v := .ref (3)) d_X9_act_70 gf_X9_109 (hp_1 _ _ _ _ _) rfl ?_
        refine wp_iload 0 d_X9_act_73 rfl ?_
        refine wp_iaload (v := (c.2.1 3) (l)) d_X9_act_75 (hp_3 _ _ _ _ _) (vp_in_nI (by omega) (by omega)) (congrArg ((c.2.1 3)) (nI_clamp (by omega))) ?_
        refine wp_vrt_v (As := [.int ((c.2.1 2) (l)), .int (nI (l)), .int ((c.2.1 3) (l))]) (h1 := HP (setS c 7805 (0)) (setS (setS (setS (setS w 7800 ((c.2.1 2) (l))) 7801 (nI (l))) 7802 ((c.2.1 3) (l))) 7803 (0)) m v E) d_X9_act_76 lk_X9_348 mv_X3_hold in_X3_hold se_X3_hold (Nat.le_of_ble_eq_true rfl) (Nat.le_of_ble_eq_true rfl) (hp_78 _ _ _ _ _) rfl (s_X3_hold ((c.2.1 2) (l)) (nI (l)) ((c.2.1 3) (l))) ?_
        refine wp_iload_n 3 d_X9_act_79 rfl rfl ?_
        refine wp_if (P := (u) = 0) (fun zc80 => ?_) (fun zc80_0 => ?_)
        · refine wp_tableIn 108 d_X9_act_80 (by rw [zc80] <;> decide) (by rw [zc80] <;> decide) (by rw [zc80] <;> rfl) rfl ?_
          refine wp_aload_n 1 d_X9_act_108 rfl rfl ?_
          refine wp_getfield (v := .ref (78)) d_X9_act_109 gf_X9_81 (hp_0 _ _ _ _ _) rfl ?_
          refine wp_iload_n 4 d_X9_act_112 rfl rfl ?_
          refine wp_virtual0 (As := [.int (x)]) d_X9_act_113 lk_X9_352 mv_X3_dims in_X3_dims se_X3_dims (Nat.le_of_ble_eq_true rfl) (Nat.le_of_ble_eq_true rfl) (hp_78 _ _ _ _ _) rfl (s_X3_dims (z0 := c) (L := []) (K := c.2.1 2 l) (n := nI l) (a := c.2.1 3 l) (c := (setS c 7805 (0))) (w := (setS (setS (setS (setS w 7800 ((c.2.1 2) (l))) 7801 (nI (l))) 7802 ((c.2.1 3) (l))) 7803 (0))) hT0 (by decide) (hk l hl) ⟨rfl, rfl, rfl, rfl⟩ (x)) (fun v113 h113 q113 => ?_)
          obtain ⟨zz, hz, ⟨hnp, rfl, rfl⟩ | ⟨hpp, ⟨yy, rfl⟩, rfl⟩⟩ := q113
          · show WP _ _ _ _ _ 116 _ [.int (kaV 0 (c.2.1 2 l) (nI l) (c.2.1 3 l) (x))] (HP zz (setS (setS (setS (setS w 7800 ((c.2.1 2) (l))) 7801 (nI (l))) 7802 ((c.2.1 3) (l))) 7803 (0)) m v E) _
            refine wp_istore [(5, .int (kaV 0 (c.2.1 2 l) (nI l) (c.2.1 3 l) (x))), (4, .int (nI (l))), (0, .ref (0)), (1, .int (nI (j))), (2, .int (u)), (3, .int (x))] d_X9_act_116 (Nat.le_of_ble_eq_true rfl) rfl ?_
            refine wp_goto 157 d_X9_act_118 rfl ?_
            refine wp_aload_n 2 d_X9_act_157 rfl rfl ?_
            refine wp_getfield (v := .ref (78)) d_X9_act_158 gf_X9_81 (hp_0 _ _ _ _ _) rfl ?_
            refine wp_getfield (v := .int (0)) d_X9_act_161 gf_X9_364 (hp_78 _ _ _ _ _) rfl ?_
            refine wp_if_eq 172 d_X9_act_164 rfl (fun _ => ?_) (fun z => absurd z (by decide))
            refine wp_iload 0 d_X9_act_172 rfl ?_
            refine wp_reti d_X9_act_174 rfl ?_
            skip
            exact Or.inr ⟨j, 0, l, hj, rfl, by decide, zc80, hl1, hl, ⟨_, rfl, fun q9 => absurd q9 hnp, fun _ => rfl⟩, _, _, rfl, by simpa using hz, ⟨fun k9 h9 => by simp only [setS]; repeat rw [upd_n _ _ (by omega)], rfl⟩⟩
          · show WP _ _ _ _ _ 116 _ [.int (yy)] (HP zz (setS (setS (setS (setS (setS w 7800 ((c.2.1 2) (l))) 7801 (nI (l))) 7802 ((c.2.1 3) (l))) 7803 (0)) 7803 (1)) m v E) _
            refine wp_istore [(5, .int (yy)), (4, .int (nI (l))), (0, .ref (0)), (1, .int (nI (j))), (2, .int (u)), (3, .int (x))] d_X9_act_116 (Nat.le_of_ble_eq_true rfl) rfl ?_
            refine wp_goto 157 d_X9_act_118 rfl ?_
            refine wp_aload_n 2 d_X9_act_157 rfl rfl ?_
            refine wp_getfield (v := .ref (78)) d_X9_act_158 gf_X9_81 (hp_0 _ _ _ _ _) rfl ?_
            refine wp_getfield (v := .int (1)) d_X9_act_161 gf_X9_364 (hp_78 _ _ _ _ _) rfl ?_
            refine wp_if_eq 172 d_X9_act_164 rfl (fun z => absurd z (by decide)) (fun _ => ?_)
            refine wp_bipush (v0 := -15) d_X9_act_167 (by decide) ?_
            refine wp_goto 174 d_X9_act_169 rfl ?_
            refine wp_reti d_X9_act_174 rfl ?_
            skip
            exact Or.inr ⟨j, 0, l, hj, rfl, by decide, zc80, hl1, hl, ⟨_, rfl, fun _ => rfl, fun q9 => absurd hpp q9⟩, _, _, rfl, by simpa using hz, ⟨fun k9 h9 => by simp only [setS]; repeat rw [upd_n _ _ (by omega)], rfl⟩⟩
        refine wp_if (P := (u) = 1) (fun zc80 => ?_) (fun zc80_1 => ?_)
        · refine wp_tableIn 121 d_X9_act_80 (by rw [zc80] <;> decide) (by rw [zc80] <;> decide) (by rw [zc80] <;> rfl) rfl ?_
          refine wp_aload_n 1 d_X9_act_121 rfl rfl ?_
          refine wp_getfield (v := .ref (78)) d_X9_act_122 gf_X9_81 (hp_0 _ _ _ _ _) rfl ?_
          refine wp_iload_n 4 d_X9_act_125 rfl rfl ?_
          refine wp_virtual0 (As := [.int (x)]) d_X9_act_126 lk_X9_355 mv_X3_widens in_X3_widens se_X3_widens (Nat.le_of_ble_eq_true rfl) (Nat.le_of_ble_eq_true rfl) (hp_78 _ _ _ _ _) rfl (s_X3_widens (z0 := c) (L := []) (K := c.2.1 2 l) (n := nI l) (a := c.2.1 3 l) (c := (setS c 7805 (0))) (w := (setS (setS (setS (setS w 7800 ((c.2.1 2) (l))) 7801 (nI (l))) 7802 ((c.2.1 3) (l))) 7803 (0))) hT0 (by decide) (hk l hl) ⟨rfl, rfl, rfl, rfl⟩ (x)) (fun v126 h126 q126 => ?_)
          obtain ⟨zz, hz, ⟨hnp, rfl, rfl⟩ | ⟨hpp, ⟨yy, rfl⟩, rfl⟩⟩ := q126
          · show WP _ _ _ _ _ 129 _ [.int (kaV 1 (c.2.1 2 l) (nI l) (c.2.1 3 l) (x))] (HP zz (setS (setS (setS (setS w 7800 ((c.2.1 2) (l))) 7801 (nI (l))) 7802 ((c.2.1 3) (l))) 7803 (0)) m v E) _
            refine wp_istore [(5, .int (kaV 1 (c.2.1 2 l) (nI l) (c.2.1 3 l) (x))), (4, .int (nI (l))), (0, .ref (0)), (1, .int (nI (j))), (2, .int (u)), (3, .int (x))] d_X9_act_129 (Nat.le_of_ble_eq_true rfl) rfl ?_
            refine wp_goto 157 d_X9_act_131 rfl ?_
            refine wp_aload_n 2 d_X9_act_157 rfl rfl ?_
            refine wp_getfield (v := .ref (78)) d_X9_act_158 gf_X9_81 (hp_0 _ _ _ _ _) rfl ?_
            refine wp_getfield (v := .int (0)) d_X9_act_161 gf_X9_364 (hp_78 _ _ _ _ _) rfl ?_
            refine wp_if_eq 172 d_X9_act_164 rfl (fun _ => ?_) (fun z => absurd z (by decide))
            refine wp_iload 0 d_X9_act_172 rfl ?_
            refine wp_reti d_X9_act_174 rfl ?_
            skip
            exact Or.inr ⟨j, 1, l, hj, rfl, by decide, zc80, hl1, hl, ⟨_, rfl, fun q9 => absurd q9 hnp, fun _ => rfl⟩, _, _, rfl, by simpa using hz, ⟨fun k9 h9 => by simp only [setS]; repeat rw [upd_n _ _ (by omega)], rfl⟩⟩
          · show WP _ _ _ _ _ 129 _ [.int (yy)] (HP zz (setS (setS (setS (setS (setS w 7800 ((c.2.1 2) (l))) 7801 (nI (l))) 7802 ((c.2.1 3) (l))) 7803 (0)) 7803 (1)) m v E) _
            refine wp_istore [(5, .int (yy)), (4, .int (nI (l))), (0, .ref (0)), (1, .int (nI (j))), (2, .int (u)), (3, .int (x))] d_X9_act_129 (Nat.le_of_ble_eq_true rfl) rfl ?_
            refine wp_goto 157 d_X9_act_131 rfl ?_
            refine wp_aload_n 2 d_X9_act_157 rfl rfl ?_
            refine wp_getfield (v := .ref (78)) d_X9_act_158 gf_X9_81 (hp_0 _ _ _ _ _) rfl ?_
            refine wp_getfield (v := .int (1)) d_X9_act_161 gf_X9_364 (hp_78 _ _ _ _ _) rfl ?_
            refine wp_if_eq 172 d_X9_act_164 rfl (fun z => absurd z (by decide)) (fun _ => ?_)
            refine wp_bipush (v0 := -15) d_X9_act_167 (by decide) ?_
            refine wp_goto 174 d_X9_act_169 rfl ?_
            refine wp_reti d_X9_act_174 rfl ?_
            skip
            exact Or.inr ⟨j, 1, l, hj, rfl, by decide, zc80, hl1, hl, ⟨_, rfl, fun _ => rfl, fun q9 => absurd hpp q9⟩, _, _, rfl, by simpa using hz, ⟨fun k9 h9 => by simp only [setS]; repeat rw [upd_n _ _ (by omega)], rfl⟩⟩
        refine wp_if (P := (u) = 2) (fun zc80 => ?_) (fun zc80_2 => ?_)
        · refine wp_tableIn 134 d_X9_act_80 (by rw [zc80] <;> decide) (by rw [zc80] <;> decide) (by rw [zc80] <;> rfl) rfl ?_
          refine wp_aload_n 1 d_X9_act_134 rfl rfl ?_
          refine wp_getfield (v := .ref (78)) d_X9_act_135 gf_X9_81 (hp_0 _ _ _ _ _) rfl ?_
          refine wp_iload_n 4 d_X9_act_138 rfl rfl ?_
          refine wp_virtual0 (As := [.int (x)]) d_X9_act_139 lk_X9_358 mv_X3_parts in_X3_parts se_X3_parts (Nat.le_of_ble_eq_true rfl) (Nat.le_of_ble_eq_true rfl) (hp_78 _ _ _ _ _) rfl (s_X3_parts (z0 := c) (L := []) (K := c.2.1 2 l) (n := nI l) (a := c.2.1 3 l) (c := (setS c 7805 (0))) (w := (setS (setS (setS (setS w 7800 ((c.2.1 2) (l))) 7801 (nI (l))) 7802 ((c.2.1 3) (l))) 7803 (0))) hT0 (by decide) (hk l hl) ⟨rfl, rfl, rfl, rfl⟩ (x)) (fun v139 h139 q139 => ?_)
          obtain ⟨zz, hz, ⟨hnp, rfl, rfl⟩ | ⟨hpp, ⟨yy, rfl⟩, rfl⟩⟩ := q139
          · show WP _ _ _ _ _ 142 _ [.int (kaV 2 (c.2.1 2 l) (nI l) (c.2.1 3 l) (x))] (HP zz (setS (setS (setS (setS w 7800 ((c.2.1 2) (l))) 7801 (nI (l))) 7802 ((c.2.1 3) (l))) 7803 (0)) m v E) _
            refine wp_istore [(5, .int (kaV 2 (c.2.1 2 l) (nI l) (c.2.1 3 l) (x))), (4, .int (nI (l))), (0, .ref (0)), (1, .int (nI (j))), (2, .int (u)), (3, .int (x))] d_X9_act_142 (Nat.le_of_ble_eq_true rfl) rfl ?_
            refine wp_goto 157 d_X9_act_144 rfl ?_
            refine wp_aload_n 2 d_X9_act_157 rfl rfl ?_
            refine wp_getfield (v := .ref (78)) d_X9_act_158 gf_X9_81 (hp_0 _ _ _ _ _) rfl ?_
            refine wp_getfield (v := .int (0)) d_X9_act_161 gf_X9_364 (hp_78 _ _ _ _ _) rfl ?_
            refine wp_if_eq 172 d_X9_act_164 rfl (fun _ => ?_) (fun z => absurd z (by decide))
            refine wp_iload 0 d_X9_act_172 rfl ?_
            refine wp_reti d_X9_act_174 rfl ?_
            skip
            exact Or.inr ⟨j, 2, l, hj, rfl, by decide, zc80, hl1, hl, ⟨_, rfl, fun q9 => absurd q9 hnp, fun _ => rfl⟩, _, _, rfl, by simpa using hz, ⟨fun k9 h9 => by simp only [setS]; repeat rw [upd_n _ _ (by omega)], rfl⟩⟩
          · show WP _ _ _ _ _ 142 _ [.int (yy)] (HP zz (setS (setS (setS (setS (setS w 7800 ((c.2.1 2) (l))) 7801 (nI (l))) 7802 ((c.2.1 3) (l))) 7803 (0)) 7803 (1)) m v E) _
            refine wp_istore [(5, .int (yy)), (4, .int (nI (l))), (0, .ref (0)), (1, .int (nI (j))), (2, .int (u)), (3, .int (x))] d_X9_act_142 (Nat.le_of_ble_eq_true rfl) rfl ?_
            refine wp_goto 157 d_X9_act_144 rfl ?_
            refine wp_aload_n 2 d_X9_act_157 rfl rfl ?_
            refine wp_getfield (v := .ref (78)) d_X9_act_158 gf_X9_81 (hp_0 _ _ _ _ _) rfl ?_
            refine wp_getfield (v := .int (1)) d_X9_act_161 gf_X9_364 (hp_78 _ _ _ _ _) rfl ?_
            refine wp_if_eq 172 d_X9_act_164 rfl (fun z => absurd z (by decide)) (fun _ => ?_)
            refine wp_bipush (v0 := -15) d_X9_act_167 (by decide) ?_
            refine wp_goto 174 d_X9_act_169 rfl ?_
            refine wp_reti d_X9_act_174 rfl ?_
            skip
            exact Or.inr ⟨j, 2, l, hj, rfl, by decide, zc80, hl1, hl, ⟨_, rfl, fun _ => rfl, fun q9 => absurd hpp q9⟩, _, _, rfl, by simpa using hz, ⟨fun k9 h9 => by simp only [setS]; repeat rw [upd_n _ _ (by omega)], rfl⟩⟩
        have hu3 : u = nI 3 := by
          obtain ⟨y9, hy9, ey9⟩ := k_natle (n := 3) zc21
          subst ey9
          rcases (by omega : y9 = 0 ∨ y9 = 1 ∨ y9 = 2 ∨ y9 = 3) with e | e | e | e <;> subst e
          · exact absurd rfl zc80_0
          · exact absurd rfl zc80_1
          · exact absurd rfl zc80_2
          · rfl
        refine wp_swd_X9_act_80 zc80_0 zc80_1 zc80_2 ?_
        refine wp_aload_n 1 d_X9_act_147 rfl rfl ?_
        refine wp_getfield (v := .ref (78)) d_X9_act_148 gf_X9_81 (hp_0 _ _ _ _ _) rfl ?_
        refine wp_iload_n 4 d_X9_act_151 rfl rfl ?_
        refine wp_virtual0 (As := [.int (x)]) d_X9_act_152 lk_X9_361 mv_X3_tells in_X3_tells se_X3_tells (Nat.le_of_ble_eq_true rfl) (Nat.le_of_ble_eq_true rfl) (hp_78 _ _ _ _ _) rfl (s_X3_tells (z0 := c) (L := []) (K := c.2.1 2 l) (n := nI l) (a := c.2.1 3 l) (c := (setS c 7805 (0))) (w := (setS (setS (setS (setS w 7800 ((c.2.1 2) (l))) 7801 (nI (l))) 7802 ((c.2.1 3) (l))) 7803 (0))) hT0 (by decide) (hk l hl) ⟨rfl, rfl, rfl, rfl⟩ (x)) (fun v152 h152 q152 => ?_)
        obtain ⟨zz, hz, ⟨hnp, rfl, rfl⟩ | ⟨hpp, ⟨yy, rfl⟩, rfl⟩⟩ := q152
        · show WP _ _ _ _ _ 155 _ [.int (kaV 3 (c.2.1 2 l) (nI l) (c.2.1 3 l) (x))] (HP zz (setS (setS (setS (setS w 7800 ((c.2.1 2) (l))) 7801 (nI (l))) 7802 ((c.2.1 3) (l))) 7803 (0)) m v E) _
          refine wp_istore [(5, .int (kaV 3 (c.2.1 2 l) (nI l) (c.2.1 3 l) (x))), (4, .int (nI (l))), (0, .ref (0)), (1, .int (nI (j))), (2, .int (u)), (3, .int (x))] d_X9_act_155 (Nat.le_of_ble_eq_true rfl) rfl ?_
          refine wp_aload_n 2 d_X9_act_157 rfl rfl ?_
          refine wp_getfield (v := .ref (78)) d_X9_act_158 gf_X9_81 (hp_0 _ _ _ _ _) rfl ?_
          refine wp_getfield (v := .int (0)) d_X9_act_161 gf_X9_364 (hp_78 _ _ _ _ _) rfl ?_
          refine wp_if_eq 172 d_X9_act_164 rfl (fun _ => ?_) (fun z => absurd z (by decide))
          refine wp_iload 0 d_X9_act_172 rfl ?_
          refine wp_reti d_X9_act_174 rfl ?_
          skip
          exact Or.inr ⟨j, 3, l, hj, rfl, by decide, hu3, hl1, hl, ⟨_, rfl, fun q9 => absurd q9 hnp, fun _ => rfl⟩, _, _, rfl, by simpa using hz, ⟨fun k9 h9 => by simp only [setS]; repeat rw [upd_n _ _ (by omega)], rfl⟩⟩
        · show WP _ _ _ _ _ 155 _ [.int (yy)] (HP zz (setS (setS (setS (setS (setS w 7800 ((c.2.1 2) (l))) 7801 (nI (l))) 7802 ((c.2.1 3) (l))) 7803 (0)) 7803 (1)) m v E) _
          refine wp_istore [(5, .int (yy)), (4, .int (nI (l))), (0, .ref (0)), (1, .int (nI (j))), (2, .int (u)), (3, .int (x))] d_X9_act_155 (Nat.le_of_ble_eq_true rfl) rfl ?_
          refine wp_aload_n 2 d_X9_act_157 rfl rfl ?_
          refine wp_getfield (v := .ref (78)) d_X9_act_158 gf_X9_81 (hp_0 _ _ _ _ _) rfl ?_
          refine wp_getfield (v := .int (1)) d_X9_act_161 gf_X9_364 (hp_78 _ _ _ _ _) rfl ?_
          refine wp_if_eq 172 d_X9_act_164 rfl (fun z => absurd z (by decide)) (fun _ => ?_)
          refine wp_bipush (v0 := -15) d_X9_act_167 (by decide) ?_
          refine wp_goto 174 d_X9_act_169 rfl ?_
          refine wp_reti d_X9_act_174 rfl ?_
          skip
          exact Or.inr ⟨j, 3, l, hj, rfl, by decide, hu3, hl1, hl, ⟨_, rfl, fun _ => rfl, fun q9 => absurd hpp q9⟩, _, _, rfl, by simpa using hz, ⟨fun k9 h9 => by simp only [setS]; repeat rw [upd_n _ _ (by omega)], rfl⟩⟩
      · refine wp_iconst (v0 := 0) d_X9_act_40 rfl ?_
        refine wp_reti d_X9_act_41 rfl ?_
        refine Or.inl ⟨?_, rfl, rfl⟩
        rintro ⟨q1, q2, q3⟩
        first
        | exact zc12 q1
        | exact zc21 q2
        | exact zc37 (by rw [nI_clamp (by omega)] at q3; exact q3)
