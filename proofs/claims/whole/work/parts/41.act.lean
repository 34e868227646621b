/-! ===== acts: what is told by both ===== -/
def kdmV (K n a x : Int32) : Int32 := if K = 1 then (x + a) ^^^ n else if K = 3 then x + a + 1 else x + a
def kdmB (K : Int32) : List Int32 := if K = 1 then [20, 10] else if K = 3 then [50, 10] else [10]
def kwdV (K n a x : Int32) : Int32 := if K = 2 ∨ K = 3 then kdmV K n a x * 2 - a else if K = 5 then -(kdmV K n a x * 2) else kdmV K n a x * 2
def kwdB (K : Int32) : List Int32 := if K = 1 then [11, 20, 10] else if K = 2 then [30, 11, 10] else if K = 3 then [30, 11, 50, 10] else if K = 5 then [60, 11, 10] else [11, 10]
def kptV (K n a x : Int32) : Int32 := if K = 4 then (x * 2) / (a - n) else if K = 5 then (x * 2) / (a - n) - (n + a) else x / (a - n)
def kptB (K n a : Int32) : List Int32 := if K = 4 then [40, 12] else if K = 5 then (if a = n then [61, 40, 12] else [61, 40, 12, 10]) else [12]
def ktlV (K n a x : Int32) : Int32 := if K = 3 then (kwdV K n a x ^^^ n) + n / (a - n) else kwdV K n a x ^^^ n
def ktlB (K : Int32) : List Int32 := if K = 3 then [51, 13, 30, 11, 50, 10, 12] else 13 :: kwdB K
theorem ksub0 {a n : Int32} (h : ¬ a = n) : ¬ a - n = 0 := fun q => h (by have := Int32.sub_add_cancel a n; rw [q, Int32.zero_add] at this; exact this.symm)
def kaV (q : Nat) (K n a x : Int32) : Int32 := match q with | 0 => kdmV K n a x | 1 => kwdV K n a x | 2 => kptV K n a x | _ => ktlV K n a x
def kaB (q : Nat) (K n a : Int32) : List Int32 := match q with | 0 => kdmB K | 1 => kwdB K | 2 => kptB K n a | _ => ktlB K
def kaP (q : Nat) (K n a : Int32) : Prop := match q with | 0 => False | 1 => False | 2 => a = n | _ => K = 3 ∧ a = n
/-! the class -/
def kTc (zc0 c : kZ) (L : List Int32) : Prop := (∀ k, k ≠ 7805 → c.1 k = zc0.1 k) ∧ (∀ k, k ≠ 79 → c.2.1 k = zc0.2.1 k) ∧ c.2.2 = zc0.2.2 ∧ c.1 7805 = nI L.length ∧ ∀ i (h : i < L.length), c.2.1 79 i = L[i]
theorem kTc.put {zc0 c : kZ} {L : List Int32} (h : kTc zc0 c L) (b : Int32) : kTc zc0 (setS (setA c 79 (upd (c.2.1 79) L.length b)) 7805 (nI (L.length + 1))) (L ++ [b]) := by
  obtain ⟨h1, h2, h3, h4, h5⟩ := h
  refine ⟨fun k hk => ?_, fun k hk => ?_, h3, ?_, fun i hi => ?_⟩
  · show upd c.1 7805 _ k = _
    rw [upd_n _ _ hk]; exact h1 k hk
  · show updA c.2.1 79 _ k = _
    rw [updA_n _ _ hk]; exact h2 k hk
  · rw [List.length_append]; rfl
  · show upd (c.2.1 79) L.length b i = _
    by_cases e : i = L.length
    · subst e; rw [upd_s]; simp
    · rw [upd_n _ _ e]
      rw [List.length_append] at hi
      simp only [List.length_cons, List.length_nil] at hi
      rw [List.getElem_append_left (by omega)]
      exact h5 i (by omega)
def kD (w : kZ) (K n a : Int32) : Prop := w.1 7800 = K ∧ w.1 7801 = n ∧ w.1 7802 = a ∧ w.1 7803 = 0
theorem s_X3_begin {X : kX} {d : Nat} {c w m v : kZ} {E : kH} {zc0 : kZ} {L : List Int32} (hT : kTc zc0 c L) (hL : L.length ≤ 29) (hp0 : w.1 7803 = 0) (b : Int32) : WP X d 0 0 Y_X3_begin 0 [(0, .ref (78)), (1, .int (b))] [] (HP c w m v E) (fun r h1 => r = none ∧ ∃ zc1 : kZ, h1 = HP zc1 w m v E ∧ kTc zc0 zc1 (L ++ [b])) := by
  refine wp_aload_n 0 d_X3_begin_0 rfl rfl ?_
  refine wp_getfield (v := .int (0)) d_X3_begin_1 gf_X3_25 (hp_78 _ _ _ _ _) (congrArg (fun z => some (Value.int z)) hp0) ?_
  refine wp_if_ne 16 d_X3_begin_4 rfl (fun z => absurd z (by decide)) (fun _ => ?_)
  refine wp_aload_n 0 d_X3_begin_7 rfl rfl ?_
  refine wp_getfield (v := .int (nI (L.length))) d_X3_begin_8 gf_X3_29 (hp_78 _ _ _ _ _) (congrArg (fun z => some (Value.int z)) hT.2.2.2.1) ?_
  refine wp_bipush (v0 := 30) d_X3_begin_11 (by decide) ?_
  refine wp_ncmp_lt (a := L.length) (b := 30) 17 d_X3_begin_13 rfl (by omega) (by omega) (fun zc13 => ?_) (fun zc13 => ?_)
  · refine wp_aload_n 0 d_X3_begin_17 rfl rfl ?_
    refine wp_getfield (v := .ref (79)) d_X3_begin_18 gf_X3_9 (hp_78 _ _ _ _ _) rfl ?_
    refine wp_aload_n 0 d_X3_begin_21 rfl rfl ?_
    refine wp_getfield (v := .int (nI (L.length))) d_X3_begin_22 gf_X3_29 (hp_78 _ _ _ _ _) (congrArg (fun z => some (Value.int z)) hT.2.2.2.1) ?_
    refine wp_iload_n 1 d_X3_begin_25 rfl rfl ?_
    refine wp_iastore (h' := HP (setA c 79 (upd (c.2.1 79) (L.length) (b))) w m v E) d_X3_begin_26 (hp_79 _ _ _ _ _) (vp_in_nI (by omega) (by omega)) (by rw [nI_clamp (by omega)]; exact (hpa_79 _ _ _ _ _ _)) ?_
    refine wp_aload_n 0 d_X3_begin_27 rfl rfl ?_
    refine wp_dup d_X3_begin_28 rfl ?_
    refine wp_getfield (v := .int (nI (L.length))) d_X3_begin_29 gf_X3_29 (hp_78 _ _ _ _ _) (congrArg (fun z => some (Value.int z)) hT.2.2.2.1) ?_
    refine wp_iconst (v0 := 1) d_X3_begin_32 rfl ?_
    refine wp_iadd d_X3_begin_33 ?_
    refine wp_v (v0 := nI ((L.length) + (1))) (nI_add (L.length) (1)) ?_
    refine wp_putfield (h' := HP (setS (setA c 79 (upd (c.2.1 79) (L.length) (b))) 7805 (nI ((L.length) + (1)))) w m v E) d_X3_begin_34 gp_X3_29 (kfit_i _) (hp_78 _ _ _ _ _) (Nat.le_of_ble_eq_true rfl) (hps_78_5 _ _ _ _ _ _) ?_
    refine wp_vret d_X3_begin_37 rfl ?_
    exact ⟨rfl, _, rfl, hT.put b⟩
  · refine wp_vret d_X3_begin_16 rfl ?_
    omega
theorem s_X3_begin_p {X : kX} {d : Nat} {c w m v : kZ} {E : kH} (hp1 : w.1 7803 = 1) (b : Int32) : WP X d 0 0 Y_X3_begin 0 [(0, .ref (78)), (1, .int (b))] [] (HP c w m v E) (kR none (HP c w m v E)) := by
  refine wp_aload_n 0 d_X3_begin_0 rfl rfl ?_
  refine wp_getfield (v := .int (1)) d_X3_begin_1 gf_X3_25 (hp_78 _ _ _ _ _) (congrArg (fun z => some (Value.int z)) hp1) ?_
  refine wp_if_ne 16 d_X3_begin_4 rfl (fun _ => ?_) (fun z => absurd z (by decide))
  refine wp_vret d_X3_begin_16 rfl ?_
  exact ⟨rfl, rfl⟩
def kD1 (w : kZ) (K n a : Int32) : Prop := w.1 7800 = K ∧ w.1 7801 = n ∧ w.1 7802 = a ∧ w.1 7803 = 1
theorem s_X3_lensDims {X : kX} {d : Nat} {c w m v : kZ} {E : kH} {z0 : kZ} {L : List Int32} (hT : kTc z0 c L) (hL : L.length ≤ 28) {K n a : Int32} (hD : kD w K n a) (x : Int32)  : WP X (d + 1) 0 0 Y_X3_lensDims 0 [(0, .ref (78)), (1, .int (x))] [] (HP c w m v E) (fun r h1 => r = some (.int ((x) + a)) ∧ ∃ zz : kZ, h1 = HP zz w m v E ∧ kTc z0 zz (L ++ [10])) := by
  refine wp_aload_n 0 d_X3_lensDims_0 rfl rfl ?_
  refine wp_bipush (v0 := 10) d_X3_lensDims_1 (by decide) ?_
  refine wp_virtual0 (As := [.int (10)]) d_X3_lensDims_3 lk_X3_32 mv_X3_begin in_X3_begin se_X3_begin (Nat.le_of_ble_eq_true rfl) (Nat.le_of_ble_eq_true rfl) (hp_78 _ _ _ _ _) rfl (s_X3_begin (c := c) hT (by first | omega | (simp only [List.length_append, List.length_cons, List.length_nil]; omega)) hD.2.2.2 (10)) (fun v3 h3 q3 => ?_)
  obtain ⟨rfl, c3_, rfl, hT3⟩ := q3
  show WP _ _ _ _ _ 6 _ [] (HP c3_ w m v E) _
  refine wp_iload_n 1 d_X3_lensDims_6 rfl rfl ?_
  refine wp_aload_n 0 d_X3_lensDims_7 rfl rfl ?_
  refine wp_getfield (v := .int (a)) d_X3_lensDims_8 gf_X3_22 (hp_78 _ _ _ _ _) (congrArg (fun z => some (Value.int z)) hD.2.2.1) ?_
  refine wp_iadd d_X3_lensDims_11 ?_
  refine wp_reti d_X3_lensDims_12 rfl ?_
  exact ⟨rfl, _, rfl, by simpa using hT3⟩
theorem s_X3_lensDims_p {X : kX} {d : Nat} {c w m v : kZ} {E : kH} {K n a : Int32} (hD : kD1 w K n a) (x : Int32) : WP X (d + 1) 0 0 Y_X3_lensDims 0 [(0, .ref (78)), (1, .int (x))] [] (HP c w m v E) (kR (some (.int ((x) + a))) (HP c w m v E)) := by
  refine wp_aload_n 0 d_X3_lensDims_0 rfl rfl ?_
  refine wp_bipush (v0 := 10) d_X3_lensDims_1 (by decide) ?_
  refine wp_vrt_v (As := [.int (10)]) (h1 := HP c w m v E) d_X3_lensDims_3 lk_X3_32 mv_X3_begin in_X3_begin se_X3_begin (Nat.le_of_ble_eq_true rfl) (Nat.le_of_ble_eq_true rfl) (hp_78 _ _ _ _ _) rfl (s_X3_begin_p hD.2.2.2 (10)) ?_
  refine wp_iload_n 1 d_X3_lensDims_6 rfl rfl ?_
  refine wp_aload_n 0 d_X3_lensDims_7 rfl rfl ?_
  refine wp_getfield (v := .int (a)) d_X3_lensDims_8 gf_X3_22 (hp_78 _ _ _ _ _) (congrArg (fun z => some (Value.int z)) hD.2.2.1) ?_
  refine wp_iadd d_X3_lensDims_11 ?_
  refine wp_reti d_X3_lensDims_12 rfl ?_
  exact ⟨rfl, rfl⟩
theorem s_X3_dims_p {X : kX} {d : Nat} {c w m v : kZ} {E : kH} {n a : Int32} (hD : kD1 w 5 n a) (x : Int32) : WP X (d + 2) 0 0 Y_X3_dims 0 [(0, .ref (78)), (1, .int (x))] [] (HP c w m v E) (kR (some (.int ((x) + a))) (HP c w m v E)) := by
  refine wp_aload_n 0 d_X3_dims_0 rfl rfl ?_
  refine wp_getfield (v := .int (5)) d_X3_dims_1 gf_X3_15 (hp_78 _ _ _ _ _) (congrArg (fun z => some (Value.int z)) hD.1) ?_
  refine wp_swd_X3_dims_4 (by decide) (by decide) ?_
  refine wp_aload_n 0 d_X3_dims_63 rfl rfl ?_
  refine wp_iload_n 1 d_X3_dims_64 rfl rfl ?_
  refine wp_vrt_i (As := [.int (x)]) (x0 := (x) + a) (h1 := HP c w m v E) d_X3_dims_65 lk_X3_36 mv_X3_lensDims in_X3_lensDims se_X3_lensDims (Nat.le_of_ble_eq_true rfl) (Nat.le_of_ble_eq_true rfl) (hp_78 _ _ _ _ _) rfl (s_X3_lensDims_p hD (x)) ?_
  refine wp_reti d_X3_dims_68 rfl ?_
  exact ⟨rfl, rfl⟩
theorem s_X3_dims_1 {X : kX} {d : Nat} {c w m v : kZ} {E : kH} {z0 : kZ} {L : List Int32} (hT : kTc z0 c L) (hL : L.length ≤ 26) {n a : Int32} (hD : kD w 1 n a) (x : Int32)  : WP X (d + 2) 0 0 Y_X3_dims 0 [(0, .ref (78)), (1, .int (x))] [] (HP c w m v E) (fun r h1 => r = some (.int (((x) + a) ^^^ n)) ∧ ∃ zz : kZ, h1 = HP zz w m v E ∧ kTc z0 zz (L ++ [20, 10])) := by
  refine wp_aload_n 0 d_X3_dims_0 rfl rfl ?_
  refine wp_getfield (v := .int (1)) d_X3_dims_1 gf_X3_15 (hp_78 _ _ _ _ _) (congrArg (fun z => some (Value.int z)) hD.1) ?_
  refine wp_lookup 32 d_X3_dims_4 rfl rfl rfl ?_
  refine wp_aload_n 0 d_X3_dims_32 rfl rfl ?_
  refine wp_bipush (v0 := 20) d_X3_dims_33 (by decide) ?_
  refine wp_virtual0 (As := [.int (20)]) d_X3_dims_35 lk_X3_32 mv_X3_begin in_X3_begin se_X3_begin (Nat.le_of_ble_eq_true rfl) (Nat.le_of_ble_eq_true rfl) (hp_78 _ _ _ _ _) rfl (s_X3_begin (c := c) hT (by first | omega | (simp only [List.length_append, List.length_cons, List.length_nil]; omega)) hD.2.2.2 (20)) (fun v35 h35 q35 => ?_)
  obtain ⟨rfl, c35_, rfl, hT35⟩ := q35
  show WP _ _ _ _ _ 38 _ [] (HP c35_ w m v E) _
  refine wp_aload_n 0 d_X3_dims_38 rfl rfl ?_
  refine wp_iload_n 1 d_X3_dims_39 rfl rfl ?_
  refine wp_virtual0 (As := [.int (x)]) d_X3_dims_40 lk_X3_36 mv_X3_lensDims in_X3_lensDims se_X3_lensDims (Nat.le_of_ble_eq_true rfl) (Nat.le_of_ble_eq_true rfl) (hp_78 _ _ _ _ _) rfl (s_X3_lensDims (c := c35_) hT35 (by first | omega | (simp only [List.length_append, List.length_cons, List.length_nil]; omega)) hD (x)) (fun v40 h40 q40 => ?_)
  obtain ⟨rfl, c40_, rfl, hT40⟩ := q40
  show WP _ _ _ _ _ 43 _ [.int ((x) + a)] (HP c40_ w m v E) _
  refine wp_aload_n 0 d_X3_dims_43 rfl rfl ?_
  refine wp_getfield (v := .int (n)) d_X3_dims_44 gf_X3_19 (hp_78 _ _ _ _ _) (congrArg (fun z => some (Value.int z)) hD.2.1) ?_
  refine wp_ixor d_X3_dims_47 ?_
  refine wp_reti d_X3_dims_48 rfl ?_
  exact ⟨rfl, _, rfl, by simpa using hT40⟩
theorem s_X3_lensWidens_1 {X : kX} {d : Nat} {c w m v : kZ} {E : kH} {z0 : kZ} {L : List Int32} (hT : kTc z0 c L) (hL : L.length ≤ 25) {n a : Int32} (hD : kD w 1 n a) (x : Int32)  : WP X (d + 3) 0 0 Y_X3_lensWidens 0 [(0, .ref (78)), (1, .int (x))] [] (HP c w m v E) (fun r h1 => r = some (.int ((((x) + a) ^^^ n) * 2)) ∧ ∃ zz : kZ, h1 = HP zz w m v E ∧ kTc z0 zz (L ++ [11, 20, 10])) := by
  refine wp_aload_n 0 d_X3_lensWidens_0 rfl rfl ?_
  refine wp_bipush (v0 := 11) d_X3_lensWidens_1 (by decide) ?_
  refine wp_virtual0 (As := [.int (11)]) d_X3_lensWidens_3 lk_X3_32 mv_X3_begin in_X3_begin se_X3_begin (Nat.le_of_ble_eq_true rfl) (Nat.le_of_ble_eq_true rfl) (hp_78 _ _ _ _ _) rfl (s_X3_begin (c := c) hT (by first | omega | (simp only [List.length_append, List.length_cons, List.length_nil]; omega)) hD.2.2.2 (11)) (fun v3 h3 q3 => ?_)
  obtain ⟨rfl, c3_, rfl, hT3⟩ := q3
  show WP _ _ _ _ _ 6 _ [] (HP c3_ w m v E) _
  refine wp_aload_n 0 d_X3_lensWidens_6 rfl rfl ?_
  refine wp_iload_n 1 d_X3_lensWidens_7 rfl rfl ?_
  refine wp_virtual0 (As := [.int (x)]) d_X3_lensWidens_8 lk_X3_43 mv_X3_dims in_X3_dims se_X3_dims (Nat.le_of_ble_eq_true rfl) (Nat.le_of_ble_eq_true rfl) (hp_78 _ _ _ _ _) rfl (s_X3_dims_1 (c := c3_) hT3 (by first | omega | (simp only [List.length_append, List.length_cons, List.length_nil]; omega)) hD (x)) (fun v8 h8 q8 => ?_)
  obtain ⟨rfl, c8_, rfl, hT8⟩ := q8
  show WP _ _ _ _ _ 11 _ [.int (((x) + a) ^^^ n)] (HP c8_ w m v E) _
  refine wp_iconst (v0 := 2) d_X3_lensWidens_11 rfl ?_
  refine wp_imul d_X3_lensWidens_12 ?_
  refine wp_reti d_X3_lensWidens_13 rfl ?_
  exact ⟨rfl, _, rfl, by simpa using hT8⟩
theorem s_X3_widens_1 {X : kX} {d : Nat} {c w m v : kZ} {E : kH} {z0 : kZ} {L : List Int32} (hT : kTc z0 c L) (hL : L.length ≤ 23) {n a : Int32} (hD : kD w 1 n a) (x : Int32)  : WP X (d + 4) 0 0 Y_X3_widens 0 [(0, .ref (78)), (1, .int (x))] [] (HP c w m v E) (fun r h1 => r = some (.int ((((x) + a) ^^^ n) * 2)) ∧ ∃ zz : kZ, h1 = HP zz w m v E ∧ kTc z0 zz (L ++ [11, 20, 10])) := by
  refine wp_aload_n 0 d_X3_widens_0 rfl rfl ?_
  refine wp_getfield (v := .int (1)) d_X3_widens_1 gf_X3_15 (hp_78 _ _ _ _ _) (congrArg (fun z => some (Value.int z)) hD.1) ?_
  refine wp_swd_X3_widens_4 (by decide) (by decide) (by decide) ?_
  refine wp_aload_n 0 d_X3_widens_66 rfl rfl ?_
  refine wp_iload_n 1 d_X3_widens_67 rfl rfl ?_
  refine wp_virtual0 (As := [.int (x)]) d_X3_widens_68 lk_X3_40 mv_X3_lensWidens in_X3_lensWidens se_X3_lensWidens (Nat.le_of_ble_eq_true rfl) (Nat.le_of_ble_eq_true rfl) (hp_78 _ _ _ _ _) rfl (s_X3_lensWidens_1 (c := c) hT (by first | omega | (simp only [List.length_append, List.length_cons, List.length_nil]; omega)) hD (x)) (fun v68 h68 q68 => ?_)
  obtain ⟨rfl, c68_, rfl, hT68⟩ := q68
  show WP _ _ _ _ _ 71 _ [.int ((((x) + a) ^^^ n) * 2)] (HP c68_ w m v E) _
  refine wp_reti d_X3_widens_71 rfl ?_
  exact ⟨rfl, _, rfl, by simpa using hT68⟩
theorem s_X3_lensTells_1 {X : kX} {d : Nat} {c w m v : kZ} {E : kH} {z0 : kZ} {L : List Int32} (hT : kTc z0 c L) (hL : L.length ≤ 22) {n a : Int32} (hD : kD w 1 n a) (x : Int32)  : WP X (d + 5) 0 0 Y_X3_lensTells 0 [(0, .ref (78)), (1, .int (x))] [] (HP c w m v E) (fun r h1 => r = some (.int (((((x) + a) ^^^ n) * 2) ^^^ n)) ∧ ∃ zz : kZ, h1 = HP zz w m v E ∧ kTc z0 zz (L ++ [13, 11, 20, 10])) := by
  refine wp_aload_n 0 d_X3_lensTells_0 rfl rfl ?_
  refine wp_bipush (v0 := 13) d_X3_lensTells_1 (by decide) ?_
  refine wp_virtual0 (As := [.int (13)]) d_X3_lensTells_3 lk_X3_32 mv_X3_begin in_X3_begin se_X3_begin (Nat.le_of_ble_eq_true rfl) (Nat.le_of_ble_eq_true rfl) (hp_78 _ _ _ _ _) rfl (s_X3_begin (c := c) hT (by first | omega | (simp only [List.length_append, List.length_cons, List.length_nil]; omega)) hD.2.2.2 (13)) (fun v3 h3 q3 => ?_)
  obtain ⟨rfl, c3_, rfl, hT3⟩ := q3
  show WP _ _ _ _ _ 6 _ [] (HP c3_ w m v E) _
  refine wp_aload_n 0 d_X3_lensTells_6 rfl rfl ?_
  refine wp_iload_n 1 d_X3_lensTells_7 rfl rfl ?_
  refine wp_virtual0 (As := [.int (x)]) d_X3_lensTells_8 lk_X3_58 mv_X3_widens in_X3_widens se_X3_widens (Nat.le_of_ble_eq_true rfl) (Nat.le_of_ble_eq_true rfl) (hp_78 _ _ _ _ _) rfl (s_X3_widens_1 (c := c3_) hT3 (by first | omega | (simp only [List.length_append, List.length_cons, List.length_nil]; omega)) hD (x)) (fun v8 h8 q8 => ?_)
  obtain ⟨rfl, c8_, rfl, hT8⟩ := q8
  show WP _ _ _ _ _ 11 _ [.int ((((x) + a) ^^^ n) * 2)] (HP c8_ w m v E) _
  refine wp_aload_n 0 d_X3_lensTells_11 rfl rfl ?_
  refine wp_getfield (v := .int (n)) d_X3_lensTells_12 gf_X3_19 (hp_78 _ _ _ _ _) (congrArg (fun z => some (Value.int z)) hD.2.1) ?_
  refine wp_ixor d_X3_lensTells_15 ?_
  refine wp_reti d_X3_lensTells_16 rfl ?_
  exact ⟨rfl, _, rfl, by simpa using hT8⟩
theorem s_X3_lensParts {X : kX} {d : Nat} {c w m v : kZ} {E : kH} {z0 : kZ} {L : List Int32} (hT : kTc z0 c L) (hL : L.length ≤ 28) {K n a : Int32} (hD : kD w K n a) (x : Int32)  : WP X (d + 1) 0 0 Y_X3_lensParts 0 [(0, .ref (78)), (1, .int (x))] [] (HP c w m v E) (fun r h1 => ∃ zz : kZ, (a ≠ n ∧ r = some (.int (x / (a - n))) ∧ h1 = HP zz w m v E ∧ kTc z0 zz (L ++ [12])) ∨ (a = n ∧ (∃ y : Int32, r = some (.int y)) ∧ h1 = HP zz (setS w 7803 1) m v E ∧ kTc z0 zz (L ++ [12]))) := by
  refine wp_aload_n 0 d_X3_lensParts_0 rfl rfl ?_
  refine wp_bipush (v0 := 12) d_X3_lensParts_1 (by decide) ?_
  refine wp_virtual0 (As := [.int (12)]) d_X3_lensParts_3 lk_X3_32 mv_X3_begin in_X3_begin se_X3_begin (Nat.le_of_ble_eq_true rfl) (Nat.le_of_ble_eq_true rfl) (hp_78 _ _ _ _ _) rfl (s_X3_begin (c := c) hT (by first | omega | (simp only [List.length_append, List.length_cons, List.length_nil]; omega)) hD.2.2.2 (12)) (fun v3 h3 q3 => ?_)
  obtain ⟨rfl, c3_, rfl, hT3⟩ := q3
  show WP _ _ _ _ _ 6 _ [] (HP c3_ w m v E) _
  refine wp_aload_n 0 d_X3_lensParts_6 rfl rfl ?_
  refine wp_getfield (v := .int (a)) d_X3_lensParts_7 gf_X3_22 (hp_78 _ _ _ _ _) (congrArg (fun z => some (Value.int z)) hD.2.2.1) ?_
  refine wp_aload_n 0 d_X3_lensParts_10 rfl rfl ?_
  refine wp_getfield (v := .int (n)) d_X3_lensParts_11 gf_X3_19 (hp_78 _ _ _ _ _) (congrArg (fun z => some (Value.int z)) hD.2.1) ?_
  refine wp_icmp_ne 24 d_X3_lensParts_14 rfl (fun zc14 => ?_) (fun zc14 => ?_)
  · have hne := zc14
    refine wp_iload_n 1 d_X3_lensParts_24 rfl rfl ?_
    refine wp_aload_n 0 d_X3_lensParts_25 rfl rfl ?_
    refine wp_getfield (v := .int (a)) d_X3_lensParts_26 gf_X3_22 (hp_78 _ _ _ _ _) (congrArg (fun z => some (Value.int z)) hD.2.2.1) ?_
    refine wp_aload_n 0 d_X3_lensParts_29 rfl rfl ?_
    refine wp_getfield (v := .int (n)) d_X3_lensParts_30 gf_X3_19 (hp_78 _ _ _ _ _) (congrArg (fun z => some (Value.int z)) hD.2.1) ?_
    refine wp_isub d_X3_lensParts_33 ?_
    refine wp_idiv d_X3_lensParts_34 (ksub0 hne) ?_
    refine wp_reti d_X3_lensParts_35 rfl ?_
    exact ⟨_, Or.inl ⟨hne, rfl, rfl, by simpa using hT3⟩⟩
  · have heq := zc14
    refine wp_aload_n 0 d_X3_lensParts_17 rfl rfl ?_
    refine wp_iconst (v0 := 1) d_X3_lensParts_18 rfl ?_
    refine wp_putfield (h' := HP c3_ (setS w 7803 (1)) m v E) d_X3_lensParts_19 gp_X3_25 kfit_z1 (hp_78 _ _ _ _ _) (Nat.le_of_ble_eq_true rfl) (hps_78_3 _ _ _ _ _ _) ?_
    refine wp_iconst (v0 := 0) d_X3_lensParts_22 rfl ?_
    refine wp_reti d_X3_lensParts_23 rfl ?_
    exact ⟨_, Or.inr ⟨heq, ⟨_, rfl⟩, rfl, by simpa using hT3⟩⟩
theorem s_X3_twinParts {X : kX} {d : Nat} {c w m v : kZ} {E : kH} {z0 : kZ} {L : List Int32} (hT : kTc z0 c L) (hL : L.length ≤ 27) {K n a : Int32} (hD : kD w K n a) (x : Int32)  : WP X (d + 2) 0 0 Y_X3_twinParts 0 [(0, .ref (78)), (1, .int (x))] [] (HP c w m v E) (fun r h1 => ∃ zz : kZ, (a ≠ n ∧ r = some (.int ((x) * (2) / (a - n))) ∧ h1 = HP zz w m v E ∧ kTc z0 zz (L ++ [40, 12])) ∨ (a = n ∧ (∃ y : Int32, r = some (.int y)) ∧ h1 = HP zz (setS w 7803 1) m v E ∧ kTc z0 zz (L ++ [40, 12]))) := by
  refine wp_aload_n 0 d_X3_twinParts_0 rfl rfl ?_
  refine wp_bipush (v0 := 40) d_X3_twinParts_1 (by decide) ?_
  refine wp_virtual0 (As := [.int (40)]) d_X3_twinParts_3 lk_X3_32 mv_X3_begin in_X3_begin se_X3_begin (Nat.le_of_ble_eq_true rfl) (Nat.le_of_ble_eq_true rfl) (hp_78 _ _ _ _ _) rfl (s_X3_begin (c := c) hT (by first | omega | (simp only [List.length_append, List.length_cons, List.length_nil]; omega)) hD.2.2.2 (40)) (fun v3 h3 q3 => ?_)
  obtain ⟨rfl, c3_, rfl, hT3⟩ := q3
  show WP _ _ _ _ _ 6 _ [] (HP c3_ w m v E) _
  refine wp_aload_n 0 d_X3_twinParts_6 rfl rfl ?_
  refine wp_iload_n 1 d_X3_twinParts_7 rfl rfl ?_
  refine wp_iconst (v0 := 2) d_X3_twinParts_8 rfl ?_
  refine wp_imul d_X3_twinParts_9 ?_
  refine wp_virtual0 (As := [.int ((x) * (2))]) d_X3_twinParts_10 lk_X3_49 mv_X3_lensParts in_X3_lensParts se_X3_lensParts (Nat.le_of_ble_eq_true rfl) (Nat.le_of_ble_eq_true rfl) (hp_78 _ _ _ _ _) rfl (s_X3_lensParts (c := c3_) hT3 (by first | omega | (simp only [List.length_append, List.length_cons, List.length_nil]; omega)) hD ((x) * (2))) (fun v10 h10 q10 => ?_)
  obtain ⟨c10_, ⟨hne, rfl, rfl, hT10⟩ | ⟨heq, ⟨y10, rfl⟩, rfl, hT10⟩⟩ := q10
  · show WP _ _ _ _ _ 13 _ [.int (((x) * (2)) / (a - n))] (HP c10_ w m v E) _
    refine wp_reti d_X3_twinParts_13 rfl ?_
    exact ⟨_, Or.inl ⟨hne, rfl, rfl, by simpa using hT10⟩⟩
  · show WP _ _ _ _ _ 13 _ [.int (y10)] (HP c10_ (setS w 7803 (1)) m v E) _
    refine wp_reti d_X3_twinParts_13 rfl ?_
    exact ⟨_, Or.inr ⟨heq, ⟨_, rfl⟩, rfl, by simpa using hT10⟩⟩
theorem s_X3_parts_1 {X : kX} {d : Nat} {c w m v : kZ} {E : kH} {z0 : kZ} {L : List Int32} (hT : kTc z0 c L) (hL : L.length ≤ 23) {n a : Int32} (hD : kD w 1 n a) (x : Int32)  : WP X (d + 3) 0 0 Y_X3_parts 0 [(0, .ref (78)), (1, .int (x))] [] (HP c w m v E) (fun r h1 => ∃ zz : kZ, (a ≠ n ∧ r = some (.int (x / (a - n))) ∧ h1 = HP zz w m v E ∧ kTc z0 zz (L ++ [12])) ∨ (a = n ∧ (∃ y : Int32, r = some (.int y)) ∧ h1 = HP zz (setS w 7803 1) m v E ∧ kTc z0 zz (L ++ [12]))) := by
  refine wp_aload_n 0 d_X3_parts_0 rfl rfl ?_
  refine wp_getfield (v := .int (1)) d_X3_parts_1 gf_X3_15 (hp_78 _ _ _ _ _) (congrArg (fun z => some (Value.int z)) hD.1) ?_
  refine wp_swd_X3_parts_4 (by decide) (by decide) ?_
  refine wp_aload_n 0 d_X3_parts_59 rfl rfl ?_
  refine wp_iload_n 1 d_X3_parts_60 rfl rfl ?_
  refine wp_virtual0 (As := [.int (x)]) d_X3_parts_61 lk_X3_49 mv_X3_lensParts in_X3_lensParts se_X3_lensParts (Nat.le_of_ble_eq_true rfl) (Nat.le_of_ble_eq_true rfl) (hp_78 _ _ _ _ _) rfl (s_X3_lensParts (c := c) hT (by first | omega | (simp only [List.length_append, List.length_cons, List.length_nil]; omega)) hD (x)) (fun v61 h61 q61 => ?_)
  obtain ⟨c61_, ⟨hne, rfl, rfl, hT61⟩ | ⟨heq, ⟨y61, rfl⟩, rfl, hT61⟩⟩ := q61
  · show WP _ _ _ _ _ 64 _ [.int ((x) / (a - n))] (HP c61_ w m v E) _
    refine wp_reti d_X3_parts_64 rfl ?_
    exact ⟨_, Or.inl ⟨hne, rfl, rfl, by simpa using hT61⟩⟩
  · show WP _ _ _ _ _ 64 _ [.int (y61)] (HP c61_ (setS w 7803 (1)) m v E) _
    refine wp_reti d_X3_parts_64 rfl ?_
    exact ⟨_, Or.inr ⟨heq, ⟨_, rfl⟩, rfl, by simpa using hT61⟩⟩
theorem s_X3_tells_1 {X : kX} {d : Nat} {c w m v : kZ} {E : kH} {z0 : kZ} {L : List Int32} (hT : kTc z0 c L) (hL : L.length ≤ 12) {n a : Int32} (hD : kD w 1 n a) (x : Int32)  : WP X (d + 6) 0 0 Y_X3_tells 0 [(0, .ref (78)), (1, .int (x))] [] (HP c w m v E) (fun r h1 => r = some (.int (((((x) + a) ^^^ n) * 2) ^^^ n)) ∧ ∃ zz : kZ, h1 = HP zz w m v E ∧ kTc z0 zz (L ++ [13, 11, 20, 10])) := by
  refine wp_aload_n 0 d_X3_tells_0 rfl rfl ?_
  refine wp_getfield (v := .int (1)) d_X3_tells_1 gf_X3_15 (hp_78 _ _ _ _ _) (congrArg (fun z => some (Value.int z)) hD.1) ?_
  refine wp_iconst (v0 := 3) d_X3_tells_4 rfl ?_
  refine wp_icmp_eq 14 d_X3_tells_5 rfl (fun z => absurd z (by decide)) (fun _ => ?_)
  refine wp_aload_n 0 d_X3_tells_8 rfl rfl ?_
  refine wp_iload_n 1 d_X3_tells_9 rfl rfl ?_
  refine wp_virtual0 (As := [.int (x)]) d_X3_tells_10 lk_X3_52 mv_X3_lensTells in_X3_lensTells se_X3_lensTells (Nat.le_of_ble_eq_true rfl) (Nat.le_of_ble_eq_true rfl) (hp_78 _ _ _ _ _) rfl (s_X3_lensTells_1 (c := c) hT (by first | omega | (simp only [List.length_append, List.length_cons, List.length_nil]; omega)) hD (x)) (fun v10 h10 q10 => ?_)
  obtain ⟨rfl, c10_, rfl, hT10⟩ := q10
  show WP _ _ _ _ _ 13 _ [.int (((((x) + a) ^^^ n) * 2) ^^^ n)] (HP c10_ w m v E) _
  refine wp_reti d_X3_tells_13 rfl ?_
  exact ⟨rfl, _, rfl, by simpa using hT10⟩
theorem s_X3_dims_2 {X : kX} {d : Nat} {c w m v : kZ} {E : kH} {z0 : kZ} {L : List Int32} (hT : kTc z0 c L) (hL : L.length ≤ 26) {n a : Int32} (hD : kD w 2 n a) (x : Int32)  : WP X (d + 2) 0 0 Y_X3_dims 0 [(0, .ref (78)), (1, .int (x))] [] (HP c w m v E) (fun r h1 => r = some (.int ((x) + a)) ∧ ∃ zz : kZ, h1 = HP zz w m v E ∧ kTc z0 zz (L ++ [10])) := by
  refine wp_aload_n 0 d_X3_dims_0 rfl rfl ?_
  refine wp_getfield (v := .int (2)) d_X3_dims_1 gf_X3_15 (hp_78 _ _ _ _ _) (congrArg (fun z => some (Value.int z)) hD.1) ?_
  refine wp_swd_X3_dims_4 (by decide) (by decide) ?_
  refine wp_aload_n 0 d_X3_dims_63 rfl rfl ?_
  refine wp_iload_n 1 d_X3_dims_64 rfl rfl ?_
  refine wp_virtual0 (As := [.int (x)]) d_X3_dims_65 lk_X3_36 mv_X3_lensDims in_X3_lensDims se_X3_lensDims (Nat.le_of_ble_eq_true rfl) (Nat.le_of_ble_eq_true rfl) (hp_78 _ _ _ _ _) rfl (s_X3_lensDims (c := c) hT (by first | omega | (simp only [List.length_append, List.length_cons, List.length_nil]; omega)) hD (x)) (fun v65 h65 q65 => ?_)
  obtain ⟨rfl, c65_, rfl, hT65⟩ := q65
  show WP _ _ _ _ _ 68 _ [.int ((x) + a)] (HP c65_ w m v E) _
  refine wp_reti d_X3_dims_68 rfl ?_
  exact ⟨rfl, _, rfl, by simpa using hT65⟩
theorem s_X3_lensWidens_2 {X : kX} {d : Nat} {c w m v : kZ} {E : kH} {z0 : kZ} {L : List Int32} (hT : kTc z0 c L) (hL : L.length ≤ 25) {n a : Int32} (hD : kD w 2 n a) (x : Int32)  : WP X (d + 3) 0 0 Y_X3_lensWidens 0 [(0, .ref (78)), (1, .int (x))] [] (HP c w m v E) (fun r h1 => r = some (.int (((x) + a) * 2)) ∧ ∃ zz : kZ, h1 = HP zz w m v E ∧ kTc z0 zz (L ++ [11, 10])) := by
  refine wp_aload_n 0 d_X3_lensWidens_0 rfl rfl ?_
  refine wp_bipush (v0 := 11) d_X3_lensWidens_1 (by decide) ?_
  refine wp_virtual0 (As := [.int (11)]) d_X3_lensWidens_3 lk_X3_32 mv_X3_begin in_X3_begin se_X3_begin (Nat.le_of_ble_eq_true rfl) (Nat.le_of_ble_eq_true rfl) (hp_78 _ _ _ _ _) rfl (s_X3_begin (c := c) hT (by first | omega | (simp only [List.length_append, List.length_cons, List.length_nil]; omega)) hD.2.2.2 (11)) (fun v3 h3 q3 => ?_)
  obtain ⟨rfl, c3_, rfl, hT3⟩ := q3
  show WP _ _ _ _ _ 6 _ [] (HP c3_ w m v E) _
  refine wp_aload_n 0 d_X3_lensWidens_6 rfl rfl ?_
  refine wp_iload_n 1 d_X3_lensWidens_7 rfl rfl ?_
  refine wp_virtual0 (As := [.int (x)]) d_X3_lensWidens_8 lk_X3_43 mv_X3_dims in_X3_dims se_X3_dims (Nat.le_of_ble_eq_true rfl) (Nat.le_of_ble_eq_true rfl) (hp_78 _ _ _ _ _) rfl (s_X3_dims_2 (c := c3_) hT3 (by first | omega | (simp only [List.length_append, List.length_cons, List.length_nil]; omega)) hD (x)) (fun v8 h8 q8 => ?_)
  obtain ⟨rfl, c8_, rfl, hT8⟩ := q8
  show WP _ _ _ _ _ 11 _ [.int ((x) + a)] (HP c8_ w m v E) _
  refine wp_iconst (v0 := 2) d_X3_lensWidens_11 rfl ?_
  refine wp_imul d_X3_lensWidens_12 ?_
  refine wp_reti d_X3_lensWidens_13 rfl ?_
  exact ⟨rfl, _, rfl, by simpa using hT8⟩
theorem s_X3_widens_2 {X : kX} {d : Nat} {c w m v : kZ} {E : kH} {z0 : kZ} {L : List Int32} (hT : kTc z0 c L) (hL : L.length ≤ 23) {n a : Int32} (hD : kD w 2 n a) (x : Int32)  : WP X (d + 4) 0 0 Y_X3_widens 0 [(0, .ref (78)), (1, .int (x))] [] (HP c w m v E) (fun r h1 => r = some (.int (((x) + a) * 2 - a)) ∧ ∃ zz : kZ, h1 = HP zz w m v E ∧ kTc z0 zz (L ++ [30, 11, 10])) := by
  refine wp_aload_n 0 d_X3_widens_0 rfl rfl ?_
  refine wp_getfield (v := .int (2)) d_X3_widens_1 gf_X3_15 (hp_78 _ _ _ _ _) (congrArg (fun z => some (Value.int z)) hD.1) ?_
  refine wp_tableIn 36 d_X3_widens_4 (by decide) (by decide) rfl rfl ?_
  refine wp_aload_n 0 d_X3_widens_36 rfl rfl ?_
  refine wp_bipush (v0 := 30) d_X3_widens_37 (by decide) ?_
  refine wp_virtual0 (As := [.int (30)]) d_X3_widens_39 lk_X3_32 mv_X3_begin in_X3_begin se_X3_begin (Nat.le_of_ble_eq_true rfl) (Nat.le_of_ble_eq_true rfl) (hp_78 _ _ _ _ _) rfl (s_X3_begin (c := c) hT (by first | omega | (simp only [List.length_append, List.length_cons, List.length_nil]; omega)) hD.2.2.2 (30)) (fun v39 h39 q39 => ?_)
  obtain ⟨rfl, c39_, rfl, hT39⟩ := q39
  show WP _ _ _ _ _ 42 _ [] (HP c39_ w m v E) _
  refine wp_aload_n 0 d_X3_widens_42 rfl rfl ?_
  refine wp_iload_n 1 d_X3_widens_43 rfl rfl ?_
  refine wp_virtual0 (As := [.int (x)]) d_X3_widens_44 lk_X3_40 mv_X3_lensWidens in_X3_lensWidens se_X3_lensWidens (Nat.le_of_ble_eq_true rfl) (Nat.le_of_ble_eq_true rfl) (hp_78 _ _ _ _ _) rfl (s_X3_lensWidens_2 (c := c39_) hT39 (by first | omega | (simp only [List.length_append, List.length_cons, List.length_nil]; omega)) hD (x)) (fun v44 h44 q44 => ?_)
  obtain ⟨rfl, c44_, rfl, hT44⟩ := q44
  show WP _ _ _ _ _ 47 _ [.int (((x) + a) * 2)] (HP c44_ w m v E) _
  refine wp_aload_n 0 d_X3_widens_47 rfl rfl ?_
  refine wp_getfield (v := .int (a)) d_X3_widens_48 gf_X3_22 (hp_78 _ _ _ _ _) (congrArg (fun z => some (Value.int z)) hD.2.2.1) ?_
  refine wp_isub d_X3_widens_51 ?_
  refine wp_reti d_X3_widens_52 rfl ?_
  exact ⟨rfl, _, rfl, by simpa using hT44⟩
theorem s_X3_lensTells_2 {X : kX} {d : Nat} {c w m v : kZ} {E : kH} {z0 : kZ} {L : List Int32} (hT : kTc z0 c L) (hL : L.length ≤ 22) {n a : Int32} (hD : kD w 2 n a) (x : Int32)  : WP X (d + 5) 0 0 Y_X3_lensTells 0 [(0, .ref (78)), (1, .int (x))] [] (HP c w m v E) (fun r h1 => r = some (.int ((((x) + a) * 2 - a) ^^^ n)) ∧ ∃ zz : kZ, h1 = HP zz w m v E ∧ kTc z0 zz (L ++ [13, 30, 11, 10])) := by
  refine wp_aload_n 0 d_X3_lensTells_0 rfl rfl ?_
  refine wp_bipush (v0 := 13) d_X3_lensTells_1 (by decide) ?_
  refine wp_virtual0 (As := [.int (13)]) d_X3_lensTells_3 lk_X3_32 mv_X3_begin in_X3_begin se_X3_begin (Nat.le_of_ble_eq_true rfl) (Nat.le_of_ble_eq_true rfl) (hp_78 _ _ _ _ _) rfl (s_X3_begin (c := c) hT (by first | omega | (simp only [List.length_append, List.length_cons, List.length_nil]; omega)) hD.2.2.2 (13)) (fun v3 h3 q3 => ?_)
  obtain ⟨rfl, c3_, rfl, hT3⟩ := q3
  show WP _ _ _ _ _ 6 _ [] (HP c3_ w m v E) _
  refine wp_aload_n 0 d_X3_lensTells_6 rfl rfl ?_
  refine wp_iload_n 1 d_X3_lensTells_7 rfl rfl ?_
  refine wp_virtual0 (As := [.int (x)]) d_X3_lensTells_8 lk_X3_58 mv_X3_widens in_X3_widens se_X3_widens (Nat.le_of_ble_eq_true rfl) (Nat.le_of_ble_eq_true rfl) (hp_78 _ _ _ _ _) rfl (s_X3_widens_2 (c := c3_) hT3 (by first | omega | (simp only [List.length_append, List.length_cons, List.length_nil]; omega)) hD (x)) (fun v8 h8 q8 => ?_)
  obtain ⟨rfl, c8_, rfl, hT8⟩ := q8
  show WP _ _ _ _ _ 11 _ [.int (((x) + a) * 2 - a)] (HP c8_ w m v E) _
  refine wp_aload_n 0 d_X3_lensTells_11 rfl rfl ?_
  refine wp_getfield (v := .int (n)) d_X3_lensTells_12 gf_X3_19 (hp_78 _ _ _ _ _) (congrArg (fun z => some (Value.int z)) hD.2.1) ?_
  refine wp_ixor d_X3_lensTells_15 ?_
  refine wp_reti d_X3_lensTells_16 rfl ?_
  exact ⟨rfl, _, rfl, by simpa using hT8⟩
theorem s_X3_parts_2 {X : kX} {d : Nat} {c w m v : kZ} {E : kH} {z0 : kZ} {L : List Int32} (hT : kTc z0 c L) (hL : L.length ≤ 23) {n a : Int32} (hD : kD w 2 n a) (x : Int32)  : WP X (d + 3) 0 0 Y_X3_parts 0 [(0, .ref (78)), (1, .int (x))] [] (HP c w m v E) (fun r h1 => ∃ zz : kZ, (a ≠ n ∧ r = some (.int (x / (a - n))) ∧ h1 = HP zz w m v E ∧ kTc z0 zz (L ++ [12])) ∨ (a = n ∧ (∃ y : Int32, r = some (.int y)) ∧ h1 = HP zz (setS w 7803 1) m v E ∧ kTc z0 zz (L ++ [12]))) := by
  refine wp_aload_n 0 d_X3_parts_0 rfl rfl ?_
  refine wp_getfield (v := .int (2)) d_X3_parts_1 gf_X3_15 (hp_78 _ _ _ _ _) (congrArg (fun z => some (Value.int z)) hD.1) ?_
  refine wp_swd_X3_parts_4 (by decide) (by decide) ?_
  refine wp_aload_n 0 d_X3_parts_59 rfl rfl ?_
  refine wp_iload_n 1 d_X3_parts_60 rfl rfl ?_
  refine wp_virtual0 (As := [.int (x)]) d_X3_parts_61 lk_X3_49 mv_X3_lensParts in_X3_lensParts se_X3_lensParts (Nat.le_of_ble_eq_true rfl) (Nat.le_of_ble_eq_true rfl) (hp_78 _ _ _ _ _) rfl (s_X3_lensParts (c := c) hT (by first | omega | (simp only [List.length_append, List.length_cons, List.length_nil]; omega)) hD (x)) (fun v61 h61 q61 => ?_)
  obtain ⟨c61_, ⟨hne, rfl, rfl, hT61⟩ | ⟨heq, ⟨y61, rfl⟩, rfl, hT61⟩⟩ := q61
  · show WP _ _ _ _ _ 64 _ [.int ((x) / (a - n))] (HP c61_ w m v E) _
    refine wp_reti d_X3_parts_64 rfl ?_
    exact ⟨_, Or.inl ⟨hne, rfl, rfl, by simpa using hT61⟩⟩
  · show WP _ _ _ _ _ 64 _ [.int (y61)] (HP c61_ (setS w 7803 (1)) m v E) _
    refine wp_reti d_X3_parts_64 rfl ?_
    exact ⟨_, Or.inr ⟨heq, ⟨_, rfl⟩, rfl, by simpa using hT61⟩⟩
theorem s_X3_tells_2 {X : kX} {d : Nat} {c w m v : kZ} {E : kH} {z0 : kZ} {L : List Int32} (hT : kTc z0 c L) (hL : L.length ≤ 12) {n a : Int32} (hD : kD w 2 n a) (x : Int32)  : WP X (d + 6) 0 0 Y_X3_tells 0 [(0, .ref (78)), (1, .int (x))] [] (HP c w m v E) (fun r h1 => r = some (.int ((((x) + a) * 2 - a) ^^^ n)) ∧ ∃ zz : kZ, h1 = HP zz w m v E ∧ kTc z0 zz (L ++ [13, 30, 11, 10])) := by
  refine wp_aload_n 0 d_X3_tells_0 rfl rfl ?_
  refine wp_getfield (v := .int (2)) d_X3_tells_1 gf_X3_15 (hp_78 _ _ _ _ _) (congrArg (fun z => some (Value.int z)) hD.1) ?_
  refine wp_iconst (v0 := 3) d_X3_tells_4 rfl ?_
  refine wp_icmp_eq 14 d_X3_tells_5 rfl (fun z => absurd z (by decide)) (fun _ => ?_)
  refine wp_aload_n 0 d_X3_tells_8 rfl rfl ?_
  refine wp_iload_n 1 d_X3_tells_9 rfl rfl ?_
  refine wp_virtual0 (As := [.int (x)]) d_X3_tells_10 lk_X3_52 mv_X3_lensTells in_X3_lensTells se_X3_lensTells (Nat.le_of_ble_eq_true rfl) (Nat.le_of_ble_eq_true rfl) (hp_78 _ _ _ _ _) rfl (s_X3_lensTells_2 (c := c) hT (by first | omega | (simp only [List.length_append, List.length_cons, List.length_nil]; omega)) hD (x)) (fun v10 h10 q10 => ?_)
  obtain ⟨rfl, c10_, rfl, hT10⟩ := q10
  show WP _ _ _ _ _ 13 _ [.int ((((x) + a) * 2 - a) ^^^ n)] (HP c10_ w m v E) _
  refine wp_reti d_X3_tells_13 rfl ?_
  exact ⟨rfl, _, rfl, by simpa using hT10⟩
theorem s_X3_dims_3 {X : kX} {d : Nat} {c w m v : kZ} {E : kH} {z0 : kZ} {L : List Int32} (hT : kTc z0 c L) (hL : L.length ≤ 26) {n a : Int32} (hD : kD w 3 n a) (x : Int32)  : WP X (d + 2) 0 0 Y_X3_dims 0 [(0, .ref (78)), (1, .int (x))] [] (HP c w m v E) (fun r h1 => r = some (.int ((x) + a + 1)) ∧ ∃ zz : kZ, h1 = HP zz w m v E ∧ kTc z0 zz (L ++ [50, 10])) := by
  refine wp_aload_n 0 d_X3_dims_0 rfl rfl ?_
  refine wp_getfield (v := .int (3)) d_X3_dims_1 gf_X3_15 (hp_78 _ _ _ _ _) (congrArg (fun z => some (Value.int z)) hD.1) ?_
  refine wp_lookup 49 d_X3_dims_4 rfl rfl rfl ?_
  refine wp_aload_n 0 d_X3_dims_49 rfl rfl ?_
  refine wp_bipush (v0 := 50) d_X3_dims_50 (by decide) ?_
  refine wp_virtual0 (As := [.int (50)]) d_X3_dims_52 lk_X3_32 mv_X3_begin in_X3_begin se_X3_begin (Nat.le_of_ble_eq_true rfl) (Nat.le_of_ble_eq_true rfl) (hp_78 _ _ _ _ _) rfl (s_X3_begin (c := c) hT (by first | omega | (simp only [List.length_append, List.length_cons, List.length_nil]; omega)) hD.2.2.2 (50)) (fun v52 h52 q52 => ?_)
  obtain ⟨rfl, c52_, rfl, hT52⟩ := q52
  show WP _ _ _ _ _ 55 _ [] (HP c52_ w m v E) _
  refine wp_aload_n 0 d_X3_dims_55 rfl rfl ?_
  refine wp_iload_n 1 d_X3_dims_56 rfl rfl ?_
  refine wp_virtual0 (As := [.int (x)]) d_X3_dims_57 lk_X3_36 mv_X3_lensDims in_X3_lensDims se_X3_lensDims (Nat.le_of_ble_eq_true rfl) (Nat.le_of_ble_eq_true rfl) (hp_78 _ _ _ _ _) rfl (s_X3_lensDims (c := c52_) hT52 (by first | omega | (simp only [List.length_append, List.length_cons, List.length_nil]; omega)) hD (x)) (fun v57 h57 q57 => ?_)
  obtain ⟨rfl, c57_, rfl, hT57⟩ := q57
  show WP _ _ _ _ _ 60 _ [.int ((x) + a)] (HP c57_ w m v E) _
  refine wp_iconst (v0 := 1) d_X3_dims_60 rfl ?_
  refine wp_iadd d_X3_dims_61 ?_
  refine wp_reti d_X3_dims_62 rfl ?_
  exact ⟨rfl, _, rfl, by simpa using hT57⟩
theorem s_X3_lensWidens_3 {X : kX} {d : Nat} {c w m v : kZ} {E : kH} {z0 : kZ} {L : List Int32} (hT : kTc z0 c L) (hL : L.length ≤ 25) {n a : Int32} (hD : kD w 3 n a) (x : Int32)  : WP X (d + 3) 0 0 Y_X3_lensWidens 0 [(0, .ref (78)), (1, .int (x))] [] (HP c w m v E) (fun r h1 => r = some (.int (((x) + a + 1) * 2)) ∧ ∃ zz : kZ, h1 = HP zz w m v E ∧ kTc z0 zz (L ++ [11, 50, 10])) := by
  refine wp_aload_n 0 d_X3_lensWidens_0 rfl rfl ?_
  refine wp_bipush (v0 := 11) d_X3_lensWidens_1 (by decide) ?_
  refine wp_virtual0 (As := [.int (11)]) d_X3_lensWidens_3 lk_X3_32 mv_X3_begin in_X3_begin se_X3_begin (Nat.le_of_ble_eq_true rfl) (Nat.le_of_ble_eq_true rfl) (hp_78 _ _ _ _ _) rfl (s_X3_begin (c := c) hT (by first | omega | (simp only [List.length_append, List.length_cons, List.length_nil]; omega)) hD.2.2.2 (11)) (fun v3 h3 q3 => ?_)
  obtain ⟨rfl, c3_, rfl, hT3⟩ := q3
  show WP _ _ _ _ _ 6 _ [] (HP c3_ w m v E) _
  refine wp_aload_n 0 d_X3_lensWidens_6 rfl rfl ?_
  refine wp_iload_n 1 d_X3_lensWidens_7 rfl rfl ?_
  refine wp_virtual0 (As := [.int (x)]) d_X3_lensWidens_8 lk_X3_43 mv_X3_dims in_X3_dims se_X3_dims (Nat.le_of_ble_eq_true rfl) (Nat.le_of_ble_eq_true rfl) (hp_78 _ _ _ _ _) rfl (s_X3_dims_3 (c := c3_) hT3 (by first | omega | (simp only [List.length_append, List.length_cons, List.length_nil]; omega)) hD (x)) (fun v8 h8 q8 => ?_)
  obtain ⟨rfl, c8_, rfl, hT8⟩ := q8
  show WP _ _ _ _ _ 11 _ [.int ((x) + a + 1)] (HP c8_ w m v E) _
  refine wp_iconst (v0 := 2) d_X3_lensWidens_11 rfl ?_
  refine wp_imul d_X3_lensWidens_12 ?_
  refine wp_reti d_X3_lensWidens_13 rfl ?_
  exact ⟨rfl, _, rfl, by simpa using hT8⟩
theorem s_X3_widens_3 {X : kX} {d : Nat} {c w m v : kZ} {E : kH} {z0 : kZ} {L : List Int32} (hT : kTc z0 c L) (hL : L.length ≤ 23) {n a : Int32} (hD : kD w 3 n a) (x : Int32)  : WP X (d + 4) 0 0 Y_X3_widens 0 [(0, .ref (78)), (1, .int (x))] [] (HP c w m v E) (fun r h1 => r = some (.int (((x) + a + 1) * 2 - a)) ∧ ∃ zz : kZ, h1 = HP zz w m v E ∧ kTc z0 zz (L ++ [30, 11, 50, 10])) := by
  refine wp_aload_n 0 d_X3_widens_0 rfl rfl ?_
  refine wp_getfield (v := .int (3)) d_X3_widens_1 gf_X3_15 (hp_78 _ _ _ _ _) (congrArg (fun z => some (Value.int z)) hD.1) ?_
  refine wp_tableIn 36 d_X3_widens_4 (by decide) (by decide) rfl rfl ?_
  refine wp_aload_n 0 d_X3_widens_36 rfl rfl ?_
  refine wp_bipush (v0 := 30) d_X3_widens_37 (by decide) ?_
  refine wp_virtual0 (As := [.int (30)]) d_X3_widens_39 lk_X3_32 mv_X3_begin in_X3_begin se_X3_begin (Nat.le_of_ble_eq_true rfl) (Nat.le_of_ble_eq_true rfl) (hp_78 _ _ _ _ _) rfl (s_X3_begin (c := c) hT (by first | omega | (simp only [List.length_append, List.length_cons, List.length_nil]; omega)) hD.2.2.2 (30)) (fun v39 h39 q39 => ?_)
  obtain ⟨rfl, c39_, rfl, hT39⟩ := q39
  show WP _ _ _ _ _ 42 _ [] (HP c39_ w m v E) _
  refine wp_aload_n 0 d_X3_widens_42 rfl rfl ?_
  refine wp_iload_n 1 d_X3_widens_43 rfl rfl ?_
  refine wp_virtual0 (As := [.int (x)]) d_X3_widens_44 lk_X3_40 mv_X3_lensWidens in_X3_lensWidens se_X3_lensWidens (Nat.le_of_ble_eq_true rfl) (Nat.le_of_ble_eq_true rfl) (hp_78 _ _ _ _ _) rfl (s_X3_lensWidens_3 (c := c39_) hT39 (by first | omega | (simp only [List.length_append, List.length_cons, List.length_nil]; omega)) hD (x)) (fun v44 h44 q44 => ?_)
  obtain ⟨rfl, c44_, rfl, hT44⟩ := q44
  show WP _ _ _ _ _ 47 _ [.int (((x) + a + 1) * 2)] (HP c44_ w m v E) _
  refine wp_aload_n 0 d_X3_widens_47 rfl rfl ?_
  refine wp_getfield (v := .int (a)) d_X3_widens_48 gf_X3_22 (hp_78 _ _ _ _ _) (congrArg (fun z => some (Value.int z)) hD.2.2.1) ?_
  refine wp_isub d_X3_widens_51 ?_
  refine wp_reti d_X3_widens_52 rfl ?_
  exact ⟨rfl, _, rfl, by simpa using hT44⟩
theorem s_X3_lensTells_3 {X : kX} {d : Nat} {c w m v : kZ} {E : kH} {z0 : kZ} {L : List Int32} (hT : kTc z0 c L) (hL : L.length ≤ 22) {n a : Int32} (hD : kD w 3 n a) (x : Int32)  : WP X (d + 5) 0 0 Y_X3_lensTells 0 [(0, .ref (78)), (1, .int (x))] [] (HP c w m v E) (fun r h1 => r = some (.int ((((x) + a + 1) * 2 - a) ^^^ n)) ∧ ∃ zz : kZ, h1 = HP zz w m v E ∧ kTc z0 zz (L ++ [13, 30, 11, 50, 10])) := by
  refine wp_aload_n 0 d_X3_lensTells_0 rfl rfl ?_
  refine wp_bipush (v0 := 13) d_X3_lensTells_1 (by decide) ?_
  refine wp_virtual0 (As := [.int (13)]) d_X3_lensTells_3 lk_X3_32 mv_X3_begin in_X3_begin se_X3_begin (Nat.le_of_ble_eq_true rfl) (Nat.le_of_ble_eq_true rfl) (hp_78 _ _ _ _ _) rfl (s_X3_begin (c := c) hT (by first | omega | (simp only [List.length_append, List.length_cons, List.length_nil]; omega)) hD.2.2.2 (13)) (fun v3 h3 q3 => ?_)
  obtain ⟨rfl, c3_, rfl, hT3⟩ := q3
  show WP _ _ _ _ _ 6 _ [] (HP c3_ w m v E) _
  refine wp_aload_n 0 d_X3_lensTells_6 rfl rfl ?_
  refine wp_iload_n 1 d_X3_lensTells_7 rfl rfl ?_
  refine wp_virtual0 (As := [.int (x)]) d_X3_lensTells_8 lk_X3_58 mv_X3_widens in_X3_widens se_X3_widens (Nat.le_of_ble_eq_true rfl) (Nat.le_of_ble_eq_true rfl) (hp_78 _ _ _ _ _) rfl (s_X3_widens_3 (c := c3_) hT3 (by first | omega | (simp only [List.length_append, List.length_cons, List.length_nil]; omega)) hD (x)) (fun v8 h8 q8 => ?_)
  obtain ⟨rfl, c8_, rfl, hT8⟩ := q8
  show WP _ _ _ _ _ 11 _ [.int (((x) + a + 1) * 2 - a)] (HP c8_ w m v E) _
  refine wp_aload_n 0 d_X3_lensTells_11 rfl rfl ?_
  refine wp_getfield (v := .int (n)) d_X3_lensTells_12 gf_X3_19 (hp_78 _ _ _ _ _) (congrArg (fun z => some (Value.int z)) hD.2.1) ?_
  refine wp_ixor d_X3_lensTells_15 ?_
  refine wp_reti d_X3_lensTells_16 rfl ?_
  exact ⟨rfl, _, rfl, by simpa using hT8⟩
theorem s_X3_parts_3 {X : kX} {d : Nat} {c w m v : kZ} {E : kH} {z0 : kZ} {L : List Int32} (hT : kTc z0 c L) (hL : L.length ≤ 23) {n a : Int32} (hD : kD w 3 n a) (x : Int32)  : WP X (d + 3) 0 0 Y_X3_parts 0 [(0, .ref (78)), (1, .int (x))] [] (HP c w m v E) (fun r h1 => ∃ zz : kZ, (a ≠ n ∧ r = some (.int (x / (a - n))) ∧ h1 = HP zz w m v E ∧ kTc z0 zz (L ++ [12])) ∨ (a = n ∧ (∃ y : Int32, r = some (.int y)) ∧ h1 = HP zz (setS w 7803 1) m v E ∧ kTc z0 zz (L ++ [12]))) := by
  refine wp_aload_n 0 d_X3_parts_0 rfl rfl ?_
  refine wp_getfield (v := .int (3)) d_X3_parts_1 gf_X3_15 (hp_78 _ _ _ _ _) (congrArg (fun z => some (Value.int z)) hD.1) ?_
  refine wp_swd_X3_parts_4 (by decide) (by decide) ?_
  refine wp_aload_n 0 d_X3_parts_59 rfl rfl ?_
  refine wp_iload_n 1 d_X3_parts_60 rfl rfl ?_
  refine wp_virtual0 (As := [.int (x)]) d_X3_parts_61 lk_X3_49 mv_X3_lensParts in_X3_lensParts se_X3_lensParts (Nat.le_of_ble_eq_true rfl) (Nat.le_of_ble_eq_true rfl) (hp_78 _ _ _ _ _) rfl (s_X3_lensParts (c := c) hT (by first | omega | (simp only [List.length_append, List.length_cons, List.length_nil]; omega)) hD (x)) (fun v61 h61 q61 => ?_)
  obtain ⟨c61_, ⟨hne, rfl, rfl, hT61⟩ | ⟨heq, ⟨y61, rfl⟩, rfl, hT61⟩⟩ := q61
  · show WP _ _ _ _ _ 64 _ [.int ((x) / (a - n))] (HP c61_ w m v E) _
    refine wp_reti d_X3_parts_64 rfl ?_
    exact ⟨_, Or.inl ⟨hne, rfl, rfl, by simpa using hT61⟩⟩
  · show WP _ _ _ _ _ 64 _ [.int (y61)] (HP c61_ (setS w 7803 (1)) m v E) _
    refine wp_reti d_X3_parts_64 rfl ?_
    exact ⟨_, Or.inr ⟨heq, ⟨_, rfl⟩, rfl, by simpa using hT61⟩⟩
theorem s_X3_tells_3 {X : kX} {d : Nat} {c w m v : kZ} {E : kH} {z0 : kZ} {L : List Int32} (hT : kTc z0 c L) (hL : L.length ≤ 12) {n a : Int32} (hD : kD w 3 n a) (x : Int32)  : WP X (d + 6) 0 0 Y_X3_tells 0 [(0, .ref (78)), (1, .int (x))] [] (HP c w m v E) (fun r h1 => ∃ zz : kZ, (a ≠ n ∧ r = some (.int (((((x) + a + 1) * 2 - a) ^^^ n) + n / (a - n))) ∧ h1 = HP zz w m v E ∧ kTc z0 zz (L ++ [51, 13, 30, 11, 50, 10, 12])) ∨ (a = n ∧ (∃ y : Int32, r = some (.int y)) ∧ h1 = HP zz (setS w 7803 1) m v E ∧ kTc z0 zz (L ++ [51, 13, 30, 11, 50, 10, 12]))) := by
  refine wp_aload_n 0 d_X3_tells_0 rfl rfl ?_
  refine wp_getfield (v := .int (3)) d_X3_tells_1 gf_X3_15 (hp_78 _ _ _ _ _) (congrArg (fun z => some (Value.int z)) hD.1) ?_
  refine wp_iconst (v0 := 3) d_X3_tells_4 rfl ?_
  refine wp_icmp_eq 14 d_X3_tells_5 rfl (fun _ => ?_) (fun z => absurd z (by decide))
  refine wp_aload_n 0 d_X3_tells_14 rfl rfl ?_
  refine wp_bipush (v0 := 51) d_X3_tells_15 (by decide) ?_
  refine wp_virtual0 (As := [.int (51)]) d_X3_tells_17 lk_X3_32 mv_X3_begin in_X3_begin se_X3_begin (Nat.le_of_ble_eq_true rfl) (Nat.le_of_ble_eq_true rfl) (hp_78 _ _ _ _ _) rfl (s_X3_begin (c := c) hT (by first | omega | (simp only [List.length_append, List.length_cons, List.length_nil]; omega)) hD.2.2.2 (51)) (fun v17 h17 q17 => ?_)
  obtain ⟨rfl, c17_, rfl, hT17⟩ := q17
  show WP _ _ _ _ _ 20 _ [] (HP c17_ w m v E) _
  refine wp_aload_n 0 d_X3_tells_20 rfl rfl ?_
  refine wp_iload_n 1 d_X3_tells_21 rfl rfl ?_
  refine wp_virtual0 (As := [.int (x)]) d_X3_tells_22 lk_X3_52 mv_X3_lensTells in_X3_lensTells se_X3_lensTells (Nat.le_of_ble_eq_true rfl) (Nat.le_of_ble_eq_true rfl) (hp_78 _ _ _ _ _) rfl (s_X3_lensTells_3 (c := c17_) hT17 (by first | omega | (simp only [List.length_append, List.length_cons, List.length_nil]; omega)) hD (x)) (fun v22 h22 q22 => ?_)
  obtain ⟨rfl, c22_, rfl, hT22⟩ := q22
  show WP _ _ _ _ _ 25 _ [.int ((((x) + a + 1) * 2 - a) ^^^ n)] (HP c22_ w m v E) _
  refine wp_aload_n 0 d_X3_tells_25 rfl rfl ?_
  refine wp_aload_n 0 d_X3_tells_26 rfl rfl ?_
  refine wp_getfield (v := .int (n)) d_X3_tells_27 gf_X3_19 (hp_78 _ _ _ _ _) (congrArg (fun z => some (Value.int z)) hD.2.1) ?_
  refine wp_virtual0 (As := [.int (n)]) d_X3_tells_30 lk_X3_55 mv_X3_parts in_X3_parts se_X3_parts (Nat.le_of_ble_eq_true rfl) (Nat.le_of_ble_eq_true rfl) (hp_78 _ _ _ _ _) rfl (s_X3_parts_3 (c := c22_) hT22 (by first | omega | (simp only [List.length_append, List.length_cons, List.length_nil]; omega)) hD (n)) (fun v30 h30 q30 => ?_)
  obtain ⟨c30_, ⟨hne, rfl, rfl, hT30⟩ | ⟨heq, ⟨y30, rfl⟩, rfl, hT30⟩⟩ := q30
  · show WP _ _ _ _ _ 33 _ [.int ((n) / (a - n)), .int ((((x) + a + 1) * 2 - a) ^^^ n)] (HP c30_ w m v E) _
    refine wp_iadd d_X3_tells_33 ?_
    refine wp_reti d_X3_tells_34 rfl ?_
    exact ⟨_, Or.inl ⟨hne, rfl, rfl, by simpa using hT30⟩⟩
  · show WP _ _ _ _ _ 33 _ [.int (y30), .int ((((x) + a + 1) * 2 - a) ^^^ n)] (HP c30_ (setS w 7803 (1)) m v E) _
    refine wp_iadd d_X3_tells_33 ?_
    refine wp_reti d_X3_tells_34 rfl ?_
    exact ⟨_, Or.inr ⟨heq, ⟨_, rfl⟩, rfl, by simpa using hT30⟩⟩
theorem s_X3_dims_4 {X : kX} {d : Nat} {c w m v : kZ} {E : kH} {z0 : kZ} {L : List Int32} (hT : kTc z0 c L) (hL : L.length ≤ 26) {n a : Int32} (hD : kD w 4 n a) (x : Int32)  : WP X (d + 2) 0 0 Y_X3_dims 0 [(0, .ref (78)), (1, .int (x))] [] (HP c w m v E) (fun r h1 => r = some (.int ((x) + a)) ∧ ∃ zz : kZ, h1 = HP zz w m v E ∧ kTc z0 zz (L ++ [10])) := by
  refine wp_aload_n 0 d_X3_dims_0 rfl rfl ?_
  refine wp_getfield (v := .int (4)) d_X3_dims_1 gf_X3_15 (hp_78 _ _ _ _ _) (congrArg (fun z => some (Value.int z)) hD.1) ?_
  refine wp_swd_X3_dims_4 (by decide) (by decide) ?_
  refine wp_aload_n 0 d_X3_dims_63 rfl rfl ?_
  refine wp_iload_n 1 d_X3_dims_64 rfl rfl ?_
  refine wp_virtual0 (As := [.int (x)]) d_X3_dims_65 lk_X3_36 mv_X3_lensDims in_X3_lensDims se_X3_lensDims (Nat.le_of_ble_eq_true rfl) (Nat.le_of_ble_eq_true rfl) (hp_78 _ _ _ _ _) rfl (s_X3_lensDims (c := c) hT (by first | omega | (simp only [List.length_append, List.length_cons, List.length_nil]; omega)) hD (x)) (fun v65 h65 q65 => ?_)
  obtain ⟨rfl, c65_, rfl, hT65⟩ := q65
  show WP _ _ _ _ _ 68 _ [.int ((x) + a)] (HP c65_ w m v E) _
  refine wp_reti d_X3_dims_68 rfl ?_
  exact ⟨rfl, _, rfl, by simpa using hT65⟩
theorem s_X3_lensWidens_4 {X : kX} {d : Nat} {c w m v : kZ} {E : kH} {z0 : kZ} {L : List Int32} (hT : kTc z0 c L) (hL : L.length ≤ 25) {n a : Int32} (hD : kD w 4 n a) (x : Int32)  : WP X (d + 3) 0 0 Y_X3_lensWidens 0 [(0, .ref (78)), (1, .int (x))] [] (HP c w m v E) (fun r h1 => r = some (.int (((x) + a) * 2)) ∧ ∃ zz : kZ, h1 = HP zz w m v E ∧ kTc z0 zz (L ++ [11, 10])) := by
  refine wp_aload_n 0 d_X3_lensWidens_0 rfl rfl ?_
  refine wp_bipush (v0 := 11) d_X3_lensWidens_1 (by decide) ?_
  refine wp_virtual0 (As := [.int (11)]) d_X3_lensWidens_3 lk_X3_32 mv_X3_begin in_X3_begin se_X3_begin (Nat.le_of_ble_eq_true rfl) (Nat.le_of_ble_eq_true rfl) (hp_78 _ _ _ _ _) rfl (s_X3_begin (c := c) hT (by first | omega | (simp only [List.length_append, List.length_cons, List.length_nil]; omega)) hD.2.2.2 (11)) (fun v3 h3 q3 => ?_)
  obtain ⟨rfl, c3_, rfl, hT3⟩ := q3
  show WP _ _ _ _ _ 6 _ [] (HP c3_ w m v E) _
  refine wp_aload_n 0 d_X3_lensWidens_6 rfl rfl ?_
  refine wp_iload_n 1 d_X3_lensWidens_7 rfl rfl ?_
  refine wp_virtual0 (As := [.int (x)]) d_X3_lensWidens_8 lk_X3_43 mv_X3_dims in_X3_dims se_X3_dims (Nat.le_of_ble_eq_true rfl) (Nat.le_of_ble_eq_true rfl) (hp_78 _ _ _ _ _) rfl (s_X3_dims_4 (c := c3_) hT3 (by first | omega | (simp only [List.length_append, List.length_cons, List.length_nil]; omega)) hD (x)) (fun v8 h8 q8 => ?_)
  obtain ⟨rfl, c8_, rfl, hT8⟩ := q8
  show WP _ _ _ _ _ 11 _ [.int ((x) + a)] (HP c8_ w m v E) _
  refine wp_iconst (v0 := 2) d_X3_lensWidens_11 rfl ?_
  refine wp_imul d_X3_lensWidens_12 ?_
  refine wp_reti d_X3_lensWidens_13 rfl ?_
  exact ⟨rfl, _, rfl, by simpa using hT8⟩
theorem s_X3_widens_4 {X : kX} {d : Nat} {c w m v : kZ} {E : kH} {z0 : kZ} {L : List Int32} (hT : kTc z0 c L) (hL : L.length ≤ 23) {n a : Int32} (hD : kD w 4 n a) (x : Int32)  : WP X (d + 4) 0 0 Y_X3_widens 0 [(0, .ref (78)), (1, .int (x))] [] (HP c w m v E) (fun r h1 => r = some (.int (((x) + a) * 2)) ∧ ∃ zz : kZ, h1 = HP zz w m v E ∧ kTc z0 zz (L ++ [11, 10])) := by
  refine wp_aload_n 0 d_X3_widens_0 rfl rfl ?_
  refine wp_getfield (v := .int (4)) d_X3_widens_1 gf_X3_15 (hp_78 _ _ _ _ _) (congrArg (fun z => some (Value.int z)) hD.1) ?_
  refine wp_swd_X3_widens_4 (by decide) (by decide) (by decide) ?_
  refine wp_aload_n 0 d_X3_widens_66 rfl rfl ?_
  refine wp_iload_n 1 d_X3_widens_67 rfl rfl ?_
  refine wp_virtual0 (As := [.int (x)]) d_X3_widens_68 lk_X3_40 mv_X3_lensWidens in_X3_lensWidens se_X3_lensWidens (Nat.le_of_ble_eq_true rfl) (Nat.le_of_ble_eq_true rfl) (hp_78 _ _ _ _ _) rfl (s_X3_lensWidens_4 (c := c) hT (by first | omega | (simp only [List.length_append, List.length_cons, List.length_nil]; omega)) hD (x)) (fun v68 h68 q68 => ?_)
  obtain ⟨rfl, c68_, rfl, hT68⟩ := q68
  show WP _ _ _ _ _ 71 _ [.int (((x) + a) * 2)] (HP c68_ w m v E) _
  refine wp_reti d_X3_widens_71 rfl ?_
  exact ⟨rfl, _, rfl, by simpa using hT68⟩
theorem s_X3_lensTells_4 {X : kX} {d : Nat} {c w m v : kZ} {E : kH} {z0 : kZ} {L : List Int32} (hT : kTc z0 c L) (hL : L.length ≤ 22) {n a : Int32} (hD : kD w 4 n a) (x : Int32)  : WP X (d + 5) 0 0 Y_X3_lensTells 0 [(0, .ref (78)), (1, .int (x))] [] (HP c w m v E) (fun r h1 => r = some (.int ((((x) + a) * 2) ^^^ n)) ∧ ∃ zz : kZ, h1 = HP zz w m v E ∧ kTc z0 zz (L ++ [13, 11, 10])) := by
  refine wp_aload_n 0 d_X3_lensTells_0 rfl rfl ?_
  refine wp_bipush (v0 := 13) d_X3_lensTells_1 (by decide) ?_
  refine wp_virtual0 (As := [.int (13)]) d_X3_lensTells_3 lk_X3_32 mv_X3_begin in_X3_begin se_X3_begin (Nat.le_of_ble_eq_true rfl) (Nat.le_of_ble_eq_true rfl) (hp_78 _ _ _ _ _) rfl (s_X3_begin (c := c) hT (by first | omega | (simp only [List.length_append, List.length_cons, List.length_nil]; omega)) hD.2.2.2 (13)) (fun v3 h3 q3 => ?_)
  obtain ⟨rfl, c3_, rfl, hT3⟩ := q3
  show WP _ _ _ _ _ 6 _ [] (HP c3_ w m v E) _
  refine wp_aload_n 0 d_X3_lensTells_6 rfl rfl ?_
  refine wp_iload_n 1 d_X3_lensTells_7 rfl rfl ?_
  refine wp_virtual0 (As := [.int (x)]) d_X3_lensTells_8 lk_X3_58 mv_X3_widens in_X3_widens se_X3_widens (Nat.le_of_ble_eq_true rfl) (Nat.le_of_ble_eq_true rfl) (hp_78 _ _ _ _ _) rfl (s_X3_widens_4 (c := c3_) hT3 (by first | omega | (simp only [List.length_append, List.length_cons, List.length_nil]; omega)) hD (x)) (fun v8 h8 q8 => ?_)
  obtain ⟨rfl, c8_, rfl, hT8⟩ := q8
  show WP _ _ _ _ _ 11 _ [.int (((x) + a) * 2)] (HP c8_ w m v E) _
  refine wp_aload_n 0 d_X3_lensTells_11 rfl rfl ?_
  refine wp_getfield (v := .int (n)) d_X3_lensTells_12 gf_X3_19 (hp_78 _ _ _ _ _) (congrArg (fun z => some (Value.int z)) hD.2.1) ?_
  refine wp_ixor d_X3_lensTells_15 ?_
  refine wp_reti d_X3_lensTells_16 rfl ?_
  exact ⟨rfl, _, rfl, by simpa using hT8⟩
theorem s_X3_parts_4 {X : kX} {d : Nat} {c w m v : kZ} {E : kH} {z0 : kZ} {L : List Int32} (hT : kTc z0 c L) (hL : L.length ≤ 23) {n a : Int32} (hD : kD w 4 n a) (x : Int32)  : WP X (d + 3) 0 0 Y_X3_parts 0 [(0, .ref (78)), (1, .int (x))] [] (HP c w m v E) (fun r h1 => ∃ zz : kZ, (a ≠ n ∧ r = some (.int ((x) * (2) / (a - n))) ∧ h1 = HP zz w m v E ∧ kTc z0 zz (L ++ [40, 12])) ∨ (a = n ∧ (∃ y : Int32, r = some (.int y)) ∧ h1 = HP zz (setS w 7803 1) m v E ∧ kTc z0 zz (L ++ [40, 12]))) := by
  refine wp_aload_n 0 d_X3_parts_0 rfl rfl ?_
  refine wp_getfield (v := .int (4)) d_X3_parts_1 gf_X3_15 (hp_78 _ _ _ _ _) (congrArg (fun z => some (Value.int z)) hD.1) ?_
  refine wp_lookup 32 d_X3_parts_4 rfl rfl rfl ?_
  refine wp_aload_n 0 d_X3_parts_32 rfl rfl ?_
  refine wp_iload_n 1 d_X3_parts_33 rfl rfl ?_
  refine wp_virtual0 (As := [.int (x)]) d_X3_parts_34 lk_X3_46 mv_X3_twinParts in_X3_twinParts se_X3_twinParts (Nat.le_of_ble_eq_true rfl) (Nat.le_of_ble_eq_true rfl) (hp_78 _ _ _ _ _) rfl (s_X3_twinParts (c := c) hT (by first | omega | (simp only [List.length_append, List.length_cons, List.length_nil]; omega)) hD (x)) (fun v34 h34 q34 => ?_)
  obtain ⟨c34_, ⟨hne, rfl, rfl, hT34⟩ | ⟨heq, ⟨y34, rfl⟩, rfl, hT34⟩⟩ := q34
  · show WP _ _ _ _ _ 37 _ [.int ((x) * (2) / (a - n))] (HP c34_ w m v E) _
    refine wp_reti d_X3_parts_37 rfl ?_
    exact ⟨_, Or.inl ⟨hne, rfl, rfl, by simpa using hT34⟩⟩
  · show WP _ _ _ _ _ 37 _ [.int (y34)] (HP c34_ (setS w 7803 (1)) m v E) _
    refine wp_reti d_X3_parts_37 rfl ?_
    exact ⟨_, Or.inr ⟨heq, ⟨_, rfl⟩, rfl, by simpa using hT34⟩⟩
theorem s_X3_tells_4 {X : kX} {d : Nat} {c w m v : kZ} {E : kH} {z0 : kZ} {L : List Int32} (hT : kTc z0 c L) (hL : L.length ≤ 12) {n a : Int32} (hD : kD w 4 n a) (x : Int32)  : WP X (d + 6) 0 0 Y_X3_tells 0 [(0, .ref (78)), (1, .int (x))] [] (HP c w m v E) (fun r h1 => r = some (.int ((((x) + a) * 2) ^^^ n)) ∧ ∃ zz : kZ, h1 = HP zz w m v E ∧ kTc z0 zz (L ++ [13, 11, 10])) := by
  refine wp_aload_n 0 d_X3_tells_0 rfl rfl ?_
  refine wp_getfield (v := .int (4)) d_X3_tells_1 gf_X3_15 (hp_78 _ _ _ _ _) (congrArg (fun z => some (Value.int z)) hD.1) ?_
  refine wp_iconst (v0 := 3) d_X3_tells_4 rfl ?_
  refine wp_icmp_eq 14 d_X3_tells_5 rfl (fun z => absurd z (by decide)) (fun _ => ?_)
  refine wp_aload_n 0 d_X3_tells_8 rfl rfl ?_
  refine wp_iload_n 1 d_X3_tells_9 rfl rfl ?_
  refine wp_virtual0 (As := [.int (x)]) d_X3_tells_10 lk_X3_52 mv_X3_lensTells in_X3_lensTells se_X3_lensTells (Nat.le_of_ble_eq_true rfl) (Nat.le_of_ble_eq_true rfl) (hp_78 _ _ _ _ _) rfl (s_X3_lensTells_4 (c := c) hT (by first | omega | (simp only [List.length_append, List.length_cons, List.length_nil]; omega)) hD (x)) (fun v10 h10 q10 => ?_)
  obtain ⟨rfl, c10_, rfl, hT10⟩ := q10
  show WP _ _ _ _ _ 13 _ [.int ((((x) + a) * 2) ^^^ n)] (HP c10_ w m v E) _
  refine wp_reti d_X3_tells_13 rfl ?_
  exact ⟨rfl, _, rfl, by simpa using hT10⟩
theorem s_X3_dims_5 {X : kX} {d : Nat} {c w m v : kZ} {E : kH} {z0 : kZ} {L : List Int32} (hT : kTc z0 c L) (hL : L.length ≤ 26) {n a : Int32} (hD : kD w 5 n a) (x : Int32)  : WP X (d + 2) 0 0 Y_X3_dims 0 [(0, .ref (78)), (1, .int (x))] [] (HP c w m v E) (fun r h1 => r = some (.int ((x) + a)) ∧ ∃ zz : kZ, h1 = HP zz w m v E ∧ kTc z0 zz (L ++ [10])) := by
  refine wp_aload_n 0 d_X3_dims_0 rfl rfl ?_
  refine wp_getfield (v := .int (5)) d_X3_dims_1 gf_X3_15 (hp_78 _ _ _ _ _) (congrArg (fun z => some (Value.int z)) hD.1) ?_
  refine wp_swd_X3_dims_4 (by decide) (by decide) ?_
  refine wp_aload_n 0 d_X3_dims_63 rfl rfl ?_
  refine wp_iload_n 1 d_X3_dims_64 rfl rfl ?_
  refine wp_virtual0 (As := [.int (x)]) d_X3_dims_65 lk_X3_36 mv_X3_lensDims in_X3_lensDims se_X3_lensDims (Nat.le_of_ble_eq_true rfl) (Nat.le_of_ble_eq_true rfl) (hp_78 _ _ _ _ _) rfl (s_X3_lensDims (c := c) hT (by first | omega | (simp only [List.length_append, List.length_cons, List.length_nil]; omega)) hD (x)) (fun v65 h65 q65 => ?_)
  obtain ⟨rfl, c65_, rfl, hT65⟩ := q65
  show WP _ _ _ _ _ 68 _ [.int ((x) + a)] (HP c65_ w m v E) _
  refine wp_reti d_X3_dims_68 rfl ?_
  exact ⟨rfl, _, rfl, by simpa using hT65⟩
theorem s_X3_lensWidens_5 {X : kX} {d : Nat} {c w m v : kZ} {E : kH} {z0 : kZ} {L : List Int32} (hT : kTc z0 c L) (hL : L.length ≤ 25) {n a : Int32} (hD : kD w 5 n a) (x : Int32)  : WP X (d + 3) 0 0 Y_X3_lensWidens 0 [(0, .ref (78)), (1, .int (x))] [] (HP c w m v E) (fun r h1 => r = some (.int (((x) + a) * 2)) ∧ ∃ zz : kZ, h1 = HP zz w m v E ∧ kTc z0 zz (L ++ [11, 10])) := by
  refine wp_aload_n 0 d_X3_lensWidens_0 rfl rfl ?_
  refine wp_bipush (v0 := 11) d_X3_lensWidens_1 (by decide) ?_
  refine wp_virtual0 (As := [.int (11)]) d_X3_lensWidens_3 lk_X3_32 mv_X3_begin in_X3_begin se_X3_begin (Nat.le_of_ble_eq_true rfl) (Nat.le_of_ble_eq_true rfl) (hp_78 _ _ _ _ _) rfl (s_X3_begin (c := c) hT (by first | omega | (simp only [List.length_append, List.length_cons, List.length_nil]; omega)) hD.2.2.2 (11)) (fun v3 h3 q3 => ?_)
  obtain ⟨rfl, c3_, rfl, hT3⟩ := q3
  show WP _ _ _ _ _ 6 _ [] (HP c3_ w m v E) _
  refine wp_aload_n 0 d_X3_lensWidens_6 rfl rfl ?_
  refine wp_iload_n 1 d_X3_lensWidens_7 rfl rfl ?_
  refine wp_virtual0 (As := [.int (x)]) d_X3_lensWidens_8 lk_X3_43 mv_X3_dims in_X3_dims se_X3_dims (Nat.le_of_ble_eq_true rfl) (Nat.le_of_ble_eq_true rfl) (hp_78 _ _ _ _ _) rfl (s_X3_dims_5 (c := c3_) hT3 (by first | omega | (simp only [List.length_append, List.length_cons, List.length_nil]; omega)) hD (x)) (fun v8 h8 q8 => ?_)
  obtain ⟨rfl, c8_, rfl, hT8⟩ := q8
  show WP _ _ _ _ _ 11 _ [.int ((x) + a)] (HP c8_ w m v E) _
  refine wp_iconst (v0 := 2) d_X3_lensWidens_11 rfl ?_
  refine wp_imul d_X3_lensWidens_12 ?_
  refine wp_reti d_X3_lensWidens_13 rfl ?_
  exact ⟨rfl, _, rfl, by simpa using hT8⟩
theorem s_X3_widens_5 {X : kX} {d : Nat} {c w m v : kZ} {E : kH} {z0 : kZ} {L : List Int32} (hT : kTc z0 c L) (hL : L.length ≤ 23) {n a : Int32} (hD : kD w 5 n a) (x : Int32)  : WP X (d + 4) 0 0 Y_X3_widens 0 [(0, .ref (78)), (1, .int (x))] [] (HP c w m v E) (fun r h1 => r = some (.int (-(((x) + a) * 2))) ∧ ∃ zz : kZ, h1 = HP zz w m v E ∧ kTc z0 zz (L ++ [60, 11, 10])) := by
  refine wp_aload_n 0 d_X3_widens_0 rfl rfl ?_
  refine wp_getfield (v := .int (5)) d_X3_widens_1 gf_X3_15 (hp_78 _ _ _ _ _) (congrArg (fun z => some (Value.int z)) hD.1) ?_
  refine wp_tableIn 53 d_X3_widens_4 (by decide) (by decide) rfl rfl ?_
  refine wp_aload_n 0 d_X3_widens_53 rfl rfl ?_
  refine wp_bipush (v0 := 60) d_X3_widens_54 (by decide) ?_
  refine wp_virtual0 (As := [.int (60)]) d_X3_widens_56 lk_X3_32 mv_X3_begin in_X3_begin se_X3_begin (Nat.le_of_ble_eq_true rfl) (Nat.le_of_ble_eq_true rfl) (hp_78 _ _ _ _ _) rfl (s_X3_begin (c := c) hT (by first | omega | (simp only [List.length_append, List.length_cons, List.length_nil]; omega)) hD.2.2.2 (60)) (fun v56 h56 q56 => ?_)
  obtain ⟨rfl, c56_, rfl, hT56⟩ := q56
  show WP _ _ _ _ _ 59 _ [] (HP c56_ w m v E) _
  refine wp_aload_n 0 d_X3_widens_59 rfl rfl ?_
  refine wp_iload_n 1 d_X3_widens_60 rfl rfl ?_
  refine wp_virtual0 (As := [.int (x)]) d_X3_widens_61 lk_X3_40 mv_X3_lensWidens in_X3_lensWidens se_X3_lensWidens (Nat.le_of_ble_eq_true rfl) (Nat.le_of_ble_eq_true rfl) (hp_78 _ _ _ _ _) rfl (s_X3_lensWidens_5 (c := c56_) hT56 (by first | omega | (simp only [List.length_append, List.length_cons, List.length_nil]; omega)) hD (x)) (fun v61 h61 q61 => ?_)
  obtain ⟨rfl, c61_, rfl, hT61⟩ := q61
  show WP _ _ _ _ _ 64 _ [.int (((x) + a) * 2)] (HP c61_ w m v E) _
  refine wp_ineg d_X3_widens_64 ?_
  refine wp_reti d_X3_widens_65 rfl ?_
  exact ⟨rfl, _, rfl, by simpa using hT61⟩
theorem s_X3_lensTells_5 {X : kX} {d : Nat} {c w m v : kZ} {E : kH} {z0 : kZ} {L : List Int32} (hT : kTc z0 c L) (hL : L.length ≤ 22) {n a : Int32} (hD : kD w 5 n a) (x : Int32)  : WP X (d + 5) 0 0 Y_X3_lensTells 0 [(0, .ref (78)), (1, .int (x))] [] (HP c w m v E) (fun r h1 => r = some (.int ((-(((x) + a) * 2)) ^^^ n)) ∧ ∃ zz : kZ, h1 = HP zz w m v E ∧ kTc z0 zz (L ++ [13, 60, 11, 10])) := by
  refine wp_aload_n 0 d_X3_lensTells_0 rfl rfl ?_
  refine wp_bipush (v0 := 13) d_X3_lensTells_1 (by decide) ?_
  refine wp_virtual0 (As := [.int (13)]) d_X3_lensTells_3 lk_X3_32 mv_X3_begin in_X3_begin se_X3_begin (Nat.le_of_ble_eq_true rfl) (Nat.le_of_ble_eq_true rfl) (hp_78 _ _ _ _ _) rfl (s_X3_begin (c := c) hT (by first | omega | (simp only [List.length_append, List.length_cons, List.length_nil]; omega)) hD.2.2.2 (13)) (fun v3 h3 q3 => ?_)
  obtain ⟨rfl, c3_, rfl, hT3⟩ := q3
  show WP _ _ _ _ _ 6 _ [] (HP c3_ w m v E) _
  refine wp_aload_n 0 d_X3_lensTells_6 rfl rfl ?_
  refine wp_iload_n 1 d_X3_lensTells_7 rfl rfl ?_
  refine wp_virtual0 (As := [.int (x)]) d_X3_lensTells_8 lk_X3_58 mv_X3_widens in_X3_widens se_X3_widens (Nat.le_of_ble_eq_true rfl) (Nat.le_of_ble_eq_true rfl) (hp_78 _ _ _ _ _) rfl (s_X3_widens_5 (c := c3_) hT3 (by first | omega | (simp only [List.length_append, List.length_cons, List.length_nil]; omega)) hD (x)) (fun v8 h8 q8 => ?_)
  obtain ⟨rfl, c8_, rfl, hT8⟩ := q8
  show WP _ _ _ _ _ 11 _ [.int (-(((x) + a) * 2))] (HP c8_ w m v E) _
  refine wp_aload_n 0 d_X3_lensTells_11 rfl rfl ?_
  refine wp_getfield (v := .int (n)) d_X3_lensTells_12 gf_X3_19 (hp_78 _ _ _ _ _) (congrArg (fun z => some (Value.int z)) hD.2.1) ?_
  refine wp_ixor d_X3_lensTells_15 ?_
  refine wp_reti d_X3_lensTells_16 rfl ?_
  exact ⟨rfl, _, rfl, by simpa using hT8⟩
theorem s_X3_parts_5 {X : kX} {d : Nat} {c w m v : kZ} {E : kH} {z0 : kZ} {L : List Int32} (hT : kTc z0 c L) (hL : L.length ≤ 23) {n a : Int32} (hD : kD w 5 n a) (x : Int32)  : WP X (d + 3) 0 0 Y_X3_parts 0 [(0, .ref (78)), (1, .int (x))] [] (HP c w m v E) (fun r h1 => ∃ zz : kZ, (a ≠ n ∧ r = some (.int ((x) * (2) / (a - n) - (n + a))) ∧ h1 = HP zz w m v E ∧ kTc z0 zz (L ++ [61, 40, 12, 10])) ∨ (a = n ∧ (∃ y : Int32, r = some (.int y)) ∧ h1 = HP zz (setS w 7803 1) m v E ∧ kTc z0 zz (L ++ [61, 40, 12]))) := by
  refine wp_aload_n 0 d_X3_parts_0 rfl rfl ?_
  refine wp_getfield (v := .int (5)) d_X3_parts_1 gf_X3_15 (hp_78 _ _ _ _ _) (congrArg (fun z => some (Value.int z)) hD.1) ?_
  refine wp_lookup 38 d_X3_parts_4 rfl rfl rfl ?_
  refine wp_aload_n 0 d_X3_parts_38 rfl rfl ?_
  refine wp_bipush (v0 := 61) d_X3_parts_39 (by decide) ?_
  refine wp_virtual0 (As := [.int (61)]) d_X3_parts_41 lk_X3_32 mv_X3_begin in_X3_begin se_X3_begin (Nat.le_of_ble_eq_true rfl) (Nat.le_of_ble_eq_true rfl) (hp_78 _ _ _ _ _) rfl (s_X3_begin (c := c) hT (by first | omega | (simp only [List.length_append, List.length_cons, List.length_nil]; omega)) hD.2.2.2 (61)) (fun v41 h41 q41 => ?_)
  obtain ⟨rfl, c41_, rfl, hT41⟩ := q41
  show WP _ _ _ _ _ 44 _ [] (HP c41_ w m v E) _
  refine wp_aload_n 0 d_X3_parts_44 rfl rfl ?_
  refine wp_iload_n 1 d_X3_parts_45 rfl rfl ?_
  refine wp_virtual0 (As := [.int (x)]) d_X3_parts_46 lk_X3_46 mv_X3_twinParts in_X3_twinParts se_X3_twinParts (Nat.le_of_ble_eq_true rfl) (Nat.le_of_ble_eq_true rfl) (hp_78 _ _ _ _ _) rfl (s_X3_twinParts (c := c41_) hT41 (by first | omega | (simp only [List.length_append, List.length_cons, List.length_nil]; omega)) hD (x)) (fun v46 h46 q46 => ?_)
  obtain ⟨c46_, ⟨hne, rfl, rfl, hT46⟩ | ⟨heq, ⟨y46, rfl⟩, rfl, hT46⟩⟩ := q46
  · show WP _ _ _ _ _ 49 _ [.int ((x) * (2) / (a - n))] (HP c46_ w m v E) _
    refine wp_aload_n 0 d_X3_parts_49 rfl rfl ?_
    refine wp_aload_n 0 d_X3_parts_50 rfl rfl ?_
    refine wp_getfield (v := .int (n)) d_X3_parts_51 gf_X3_19 (hp_78 _ _ _ _ _) (congrArg (fun z => some (Value.int z)) hD.2.1) ?_
    refine wp_virtual0 (As := [.int (n)]) d_X3_parts_54 lk_X3_43 mv_X3_dims in_X3_dims se_X3_dims (Nat.le_of_ble_eq_true rfl) (Nat.le_of_ble_eq_true rfl) (hp_78 _ _ _ _ _) rfl (s_X3_dims_5 (c := c46_) hT46 (by first | omega | (simp only [List.length_append, List.length_cons, List.length_nil]; omega)) hD (n)) (fun v54 h54 q54 => ?_)
    obtain ⟨rfl, c54_, rfl, hT54⟩ := q54
    show WP _ _ _ _ _ 57 _ [.int ((n) + a), .int ((x) * (2) / (a - n))] (HP c54_ w m v E) _
    refine wp_isub d_X3_parts_57 ?_
    refine wp_reti d_X3_parts_58 rfl ?_
    exact ⟨_, Or.inl ⟨hne, rfl, rfl, by simpa using hT54⟩⟩
  · show WP _ _ _ _ _ 49 _ [.int (y46)] (HP c46_ (setS w 7803 (1)) m v E) _
    refine wp_aload_n 0 d_X3_parts_49 rfl rfl ?_
    refine wp_aload_n 0 d_X3_parts_50 rfl rfl ?_
    refine wp_getfield (v := .int (n)) d_X3_parts_51 gf_X3_19 (hp_78 _ _ _ _ _) (congrArg (fun z => some (Value.int z)) hD.2.1) ?_
    refine wp_vrt_i (As := [.int (n)]) (x0 := (n) + a) (h1 := HP c46_ (setS w 7803 (1)) m v E) d_X3_parts_54 lk_X3_43 mv_X3_dims in_X3_dims se_X3_dims (Nat.le_of_ble_eq_true rfl) (Nat.le_of_ble_eq_true rfl) (hp_78 _ _ _ _ _) rfl (s_X3_dims_p (w := (setS w 7803 (1))) ⟨hD.1, hD.2.1, hD.2.2.1, rfl⟩ (n)) ?_
    refine wp_isub d_X3_parts_57 ?_
    refine wp_reti d_X3_parts_58 rfl ?_
    exact ⟨_, Or.inr ⟨heq, ⟨_, rfl⟩, rfl, by simpa using hT46⟩⟩
theorem s_X3_tells_5 {X : kX} {d : Nat} {c w m v : kZ} {E : kH} {z0 : kZ} {L : List Int32} (hT : kTc z0 c L) (hL : L.length ≤ 12) {n a : Int32} (hD : kD w 5 n a) (x : Int32)  : WP X (d + 6) 0 0 Y_X3_tells 0 [(0, .ref (78)), (1, .int (x))] [] (HP c w m v E) (fun r h1 => r = some (.int ((-(((x) + a) * 2)) ^^^ n)) ∧ ∃ zz : kZ, h1 = HP zz w m v E ∧ kTc z0 zz (L ++ [13, 60, 11, 10])) := by
  refine wp_aload_n 0 d_X3_tells_0 rfl rfl ?_
  refine wp_getfield (v := .int (5)) d_X3_tells_1 gf_X3_15 (hp_78 _ _ _ _ _) (congrArg (fun z => some (Value.int z)) hD.1) ?_
  refine wp_iconst (v0 := 3) d_X3_tells_4 rfl ?_
  refine wp_icmp_eq 14 d_X3_tells_5 rfl (fun z => absurd z (by decide)) (fun _ => ?_)
  refine wp_aload_n 0 d_X3_tells_8 rfl rfl ?_
  refine wp_iload_n 1 d_X3_tells_9 rfl rfl ?_
  refine wp_virtual0 (As := [.int (x)]) d_X3_tells_10 lk_X3_52 mv_X3_lensTells in_X3_lensTells se_X3_lensTells (Nat.le_of_ble_eq_true rfl) (Nat.le_of_ble_eq_true rfl) (hp_78 _ _ _ _ _) rfl (s_X3_lensTells_5 (c := c) hT (by first | omega | (simp only [List.length_append, List.length_cons, List.length_nil]; omega)) hD (x)) (fun v10 h10 q10 => ?_)
  obtain ⟨rfl, c10_, rfl, hT10⟩ := q10
  show WP _ _ _ _ _ 13 _ [.int ((-(((x) + a) * 2)) ^^^ n)] (HP c10_ w m v E) _
  refine wp_reti d_X3_tells_13 rfl ?_
  exact ⟨rfl, _, rfl, by simpa using hT10⟩
