/-! ===== the class: rules as told ===== -/
def kval (f : Nat → Int32) (x : Int32) : Int32 := if 0 ≤ x - 10000 ∧ x - 10000 < 5 then f (x - 10000).toNatClampNeg else x
def kcmp (f : Nat → Int32) (x : Int32) : Bool := if x &&& 3 = 0 then decide (kval f (x >>> ((16 : Int32) &&& 31)) < kval f ((x >>> ((2 : Int32) &&& 31)) &&& 16383)) else if x &&& 3 = 1 then decide (kval f (x >>> ((16 : Int32) &&& 31)) = kval f ((x >>> ((2 : Int32) &&& 31)) &&& 16383)) else decide (kval f ((x >>> ((2 : Int32) &&& 31)) &&& 16383) < kval f (x >>> ((16 : Int32) &&& 31)))
def kush (s : Int32) : Int32 := (s.toUInt32 >>> ((1 : Int32).toUInt32 &&& Int32.toUInt32 31)).toInt32
def kstk (f : Nat → Int32) (s x : Int32) : Int32 := if x = -3 then kush s ||| (s &&& 1) else if x = -2 then (if s &&& 1 = 1 then kush s else kush s &&& (-2)) else if x = -1 then s ^^^ 1 else (s <<< ((1 : Int32) &&& 31)) ||| kb (kcmp f x = true)
def kfold (f code : Nat → Int32) : Nat → Nat → Int32 → Int32
  | 0, _, s => s
  | k + 1, i, s => kfold f code k (i + 1) (kstk f s (code i))
def kchg (b d n : Int32) : Int32 := if d = 0 then b + n else if d = 1 then b - n else 0
/-- rules k of them from at on are laid well in a code of L -/
def kWF (code : Nat → Int32) (L : Nat) : Nat → Nat → Prop
  | 0, _ => True
  | k + 1, i => ∃ n : Nat, code (i + 3) = nI n ∧ i + 4 + n ≤ L ∧ kWF code L k (i + 4 + n)
def kbent (f code : Nat → Int32) (kd b : Int32) : Nat → Nat → Int32
  | 0, _ => b
  | k + 1, i => if kUnder kd (code i) ∧ kfold f code (code (i + 3)).toNatClampNeg (i + 4) 1 &&& 1 = 1 then kchg b (code (i + 1)) (code (i + 2)) else kbent f code kd b k (i + 4 + (code (i + 3)).toNatClampNeg)
/-- behind the fixed cells, or among them: a Rules at rho with its code at ka -/
def kRu (E : kH) (rho : Nat) (cnt : Nat) (ka L : Nat) (code : Nat → Int32) : Prop := ∀ c w m v : kZ, (HP c w m v E)[rho]? = some (.inr (6, [.int (nI cnt), .ref ka])) ∧ (HP c w m v E)[ka]? = some (.inl (0, L, .inl code))
theorem s_X9_isUnder_1 {X : kX} {d : Nat} (h : kH) (a : Int32) : WP X (d + 1) 0 0 Y_X9_isUnder 0 [(0, .int 1), (1, .int a)] [] h (kR (some (.int (kb (kUnder 1 a)))) h) := by
  refine wp_iload_n 0 d_X9_isUnder_0 rfl rfl ?_
  refine wp_istore_n [(2, .int (1)), (0, .int (1)), (1, .int (a))] d_X9_isUnder_1 rfl (Nat.le_of_ble_eq_true rfl) rfl ?_
  refine wp_iconst (v0 := 0) d_X9_isUnder_2 rfl ?_
  refine wp_istore_n [(3, .int (0)), (2, .int (1)), (0, .int (1)), (1, .int (a))] d_X9_isUnder_3 rfl (Nat.le_of_ble_eq_true rfl) rfl ?_
  refine wp_iload_n 0 d_X9_isUnder_4 rfl rfl ?_
  refine wp_getstab 1 d_X9_isUnder_5 (by decide) gs_X9_374 ?_
  refine wp_tablen (v := 6) d_X9_isUnder_8 (by decide) rfl ?_
  refine wp_icmp_ge 40 d_X9_isUnder_9 rfl (fun z => absurd z (by decide)) (fun _ => ?_)
  refine wp_iload_n 1 d_X9_isUnder_12 rfl rfl ?_
  refine wp_iconst (v0 := 0) d_X9_isUnder_13 rfl ?_
  refine wp_iconst (v0 := 5) d_X9_isUnder_14 rfl ?_
  refine wp_stc_i (As := [.int (1), .int (0), .int (5)]) (x0 := kb (0 ≤ 1 ∧ 1 ≤ 5)) (h1 := h) d_X9_isUnder_15 lk_X9_98 mv_X9_isWithin st_X9_isWithin (Nat.le_of_ble_eq_true rfl) (Nat.le_of_ble_eq_true rfl) (s_X9_isWithin _ (1 : Int32) (0 : Int32) (5 : Int32)) ?_
  refine wp_ifb_eq 40 d_X9_isUnder_18 rfl (fun z => absurd (by decide) z) (fun z => ?_)
  refine wp_iload_n 1 d_X9_isUnder_21 rfl rfl ?_
  refine wp_iload_n 3 d_X9_isUnder_22 rfl rfl ?_
  refine wp_icmp_ne 28 d_X9_isUnder_23 rfl (fun c23 => ?_) (fun c23 => ?_)
  · refine wp_getstab 1 d_X9_isUnder_28 (by decide) gs_X9_374 ?_
    refine wp_iload_n 1 d_X9_isUnder_31 rfl rfl ?_
    refine wp_tabload (v := 0) d_X9_isUnder_32 (by decide) (show vp_in _ 6 from kin rfl) rfl ?_
    refine wp_istore_n [(2, .int (0)), (3, .int (0)), (0, .int (1)), (1, .int (a))] d_X9_isUnder_33 rfl (Nat.le_of_ble_eq_true rfl) rfl ?_
    refine wp_iinc (v0 := 1) [(3, .int (1)), (2, .int (0)), (0, .int (1)), (1, .int (a))] 1 d_X9_isUnder_34 rfl (by decide) (Nat.le_of_ble_eq_true rfl) rfl ?_
    refine wp_goto 4 d_X9_isUnder_37 rfl ?_
    refine wp_iload_n 0 d_X9_isUnder_4 rfl rfl ?_
    refine wp_getstab 1 d_X9_isUnder_5 (by decide) gs_X9_374 ?_
    refine wp_tablen (v := 6) d_X9_isUnder_8 (by decide) rfl ?_
    refine wp_icmp_ge 40 d_X9_isUnder_9 rfl (fun z => absurd z (by decide)) (fun _ => ?_)
    refine wp_iload_n 1 d_X9_isUnder_12 rfl rfl ?_
    refine wp_iconst (v0 := 0) d_X9_isUnder_13 rfl ?_
    refine wp_iconst (v0 := 5) d_X9_isUnder_14 rfl ?_
    refine wp_stc_i (As := [.int (0), .int (0), .int (5)]) (x0 := kb (0 ≤ 0 ∧ 0 ≤ 5)) (h1 := h) d_X9_isUnder_15 lk_X9_98 mv_X9_isWithin st_X9_isWithin (Nat.le_of_ble_eq_true rfl) (Nat.le_of_ble_eq_true rfl) (s_X9_isWithin _ (0 : Int32) (0 : Int32) (5 : Int32)) ?_
    refine wp_ifb_eq 40 d_X9_isUnder_18 rfl (fun z => absurd (by decide) z) (fun z => ?_)
    refine wp_iload_n 1 d_X9_isUnder_21 rfl rfl ?_
    refine wp_iload_n 3 d_X9_isUnder_22 rfl rfl ?_
    refine wp_icmp_ne 28 d_X9_isUnder_23 rfl (fun c23 => ?_) (fun c23 => ?_)
    · refine wp_getstab 1 d_X9_isUnder_28 (by decide) gs_X9_374 ?_
      refine wp_iload_n 1 d_X9_isUnder_31 rfl rfl ?_
      refine wp_tabload (v := (-1)) d_X9_isUnder_32 (by decide) (show vp_in _ 6 from kin rfl) rfl ?_
      refine wp_istore_n [(2, .int ((-1))), (3, .int (1)), (0, .int (1)), (1, .int (a))] d_X9_isUnder_33 rfl (Nat.le_of_ble_eq_true rfl) rfl ?_
      refine wp_iinc (v0 := 2) [(3, .int (2)), (2, .int ((-1))), (0, .int (1)), (1, .int (a))] 1 d_X9_isUnder_34 rfl (by decide) (Nat.le_of_ble_eq_true rfl) rfl ?_
      refine wp_goto 4 d_X9_isUnder_37 rfl ?_
      refine wp_iload_n 0 d_X9_isUnder_4 rfl rfl ?_
      refine wp_getstab 1 d_X9_isUnder_5 (by decide) gs_X9_374 ?_
      refine wp_tablen (v := 6) d_X9_isUnder_8 (by decide) rfl ?_
      refine wp_icmp_ge 40 d_X9_isUnder_9 rfl (fun z => absurd z (by decide)) (fun _ => ?_)
      refine wp_iload_n 1 d_X9_isUnder_12 rfl rfl ?_
      refine wp_iconst (v0 := 0) d_X9_isUnder_13 rfl ?_
      refine wp_iconst (v0 := 5) d_X9_isUnder_14 rfl ?_
      refine wp_stc_i (As := [.int ((-1)), .int (0), .int (5)]) (x0 := kb (0 ≤ (-1) ∧ (-1) ≤ 5)) (h1 := h) d_X9_isUnder_15 lk_X9_98 mv_X9_isWithin st_X9_isWithin (Nat.le_of_ble_eq_true rfl) (Nat.le_of_ble_eq_true rfl) (s_X9_isWithin _ ((-1) : Int32) (0 : Int32) (5 : Int32)) ?_
      refine wp_ifb_eq 40 d_X9_isUnder_18 rfl (fun z => ?_) (fun z => absurd z (by decide))
      refine wp_iconst (v0 := 0) d_X9_isUnder_40 rfl ?_
      refine wp_iret d_X9_isUnder_41 rfl k_nar0 ?_
      refine kR_i (Eq.symm (kb_f ?_)) rfl
      rintro (q | q | ⟨q, q2⟩ | ⟨q, q2⟩) <;> first | exact absurd q2 (by decide) | exact absurd q (by assumption) | exact absurd q.symm (by assumption)
    · refine wp_iconst (v0 := 1) d_X9_isUnder_26 rfl ?_
      refine wp_iret d_X9_isUnder_27 rfl k_nar1 ?_
      refine kR_i (Eq.symm (kb_t ?_)) rfl
      simp_all [kUnder]
  · refine wp_iconst (v0 := 1) d_X9_isUnder_26 rfl ?_
    refine wp_iret d_X9_isUnder_27 rfl k_nar1 ?_
    refine kR_i (Eq.symm (kb_t ?_)) rfl
    simp_all [kUnder]
theorem s_X9_isUnder_2 {X : kX} {d : Nat} (h : kH) (a : Int32) : WP X (d + 1) 0 0 Y_X9_isUnder 0 [(0, .int 2), (1, .int a)] [] h (kR (some (.int (kb (kUnder 2 a)))) h) := by
  refine wp_iload_n 0 d_X9_isUnder_0 rfl rfl ?_
  refine wp_istore_n [(2, .int (2)), (0, .int (2)), (1, .int (a))] d_X9_isUnder_1 rfl (Nat.le_of_ble_eq_true rfl) rfl ?_
  refine wp_iconst (v0 := 0) d_X9_isUnder_2 rfl ?_
  refine wp_istore_n [(3, .int (0)), (2, .int (2)), (0, .int (2)), (1, .int (a))] d_X9_isUnder_3 rfl (Nat.le_of_ble_eq_true rfl) rfl ?_
  refine wp_iload_n 0 d_X9_isUnder_4 rfl rfl ?_
  refine wp_getstab 1 d_X9_isUnder_5 (by decide) gs_X9_374 ?_
  refine wp_tablen (v := 6) d_X9_isUnder_8 (by decide) rfl ?_
  refine wp_icmp_ge 40 d_X9_isUnder_9 rfl (fun z => absurd z (by decide)) (fun _ => ?_)
  refine wp_iload_n 1 d_X9_isUnder_12 rfl rfl ?_
  refine wp_iconst (v0 := 0) d_X9_isUnder_13 rfl ?_
  refine wp_iconst (v0 := 5) d_X9_isUnder_14 rfl ?_
  refine wp_stc_i (As := [.int (2), .int (0), .int (5)]) (x0 := kb (0 ≤ 2 ∧ 2 ≤ 5)) (h1 := h) d_X9_isUnder_15 lk_X9_98 mv_X9_isWithin st_X9_isWithin (Nat.le_of_ble_eq_true rfl) (Nat.le_of_ble_eq_true rfl) (s_X9_isWithin _ (2 : Int32) (0 : Int32) (5 : Int32)) ?_
  refine wp_ifb_eq 40 d_X9_isUnder_18 rfl (fun z => absurd (by decide) z) (fun z => ?_)
  refine wp_iload_n 1 d_X9_isUnder_21 rfl rfl ?_
  refine wp_iload_n 3 d_X9_isUnder_22 rfl rfl ?_
  refine wp_icmp_ne 28 d_X9_isUnder_23 rfl (fun c23 => ?_) (fun c23 => ?_)
  · refine wp_getstab 1 d_X9_isUnder_28 (by decide) gs_X9_374 ?_
    refine wp_iload_n 1 d_X9_isUnder_31 rfl rfl ?_
    refine wp_tabload (v := 0) d_X9_isUnder_32 (by decide) (show vp_in _ 6 from kin rfl) rfl ?_
    refine wp_istore_n [(2, .int (0)), (3, .int (0)), (0, .int (2)), (1, .int (a))] d_X9_isUnder_33 rfl (Nat.le_of_ble_eq_true rfl) rfl ?_
    refine wp_iinc (v0 := 1) [(3, .int (1)), (2, .int (0)), (0, .int (2)), (1, .int (a))] 1 d_X9_isUnder_34 rfl (by decide) (Nat.le_of_ble_eq_true rfl) rfl ?_
    refine wp_goto 4 d_X9_isUnder_37 rfl ?_
    refine wp_iload_n 0 d_X9_isUnder_4 rfl rfl ?_
    refine wp_getstab 1 d_X9_isUnder_5 (by decide) gs_X9_374 ?_
    refine wp_tablen (v := 6) d_X9_isUnder_8 (by decide) rfl ?_
    refine wp_icmp_ge 40 d_X9_isUnder_9 rfl (fun z => absurd z (by decide)) (fun _ => ?_)
    refine wp_iload_n 1 d_X9_isUnder_12 rfl rfl ?_
    refine wp_iconst (v0 := 0) d_X9_isUnder_13 rfl ?_
    refine wp_iconst (v0 := 5) d_X9_isUnder_14 rfl ?_
    refine wp_stc_i (As := [.int (0), .int (0), .int (5)]) (x0 := kb (0 ≤ 0 ∧ 0 ≤ 5)) (h1 := h) d_X9_isUnder_15 lk_X9_98 mv_X9_isWithin st_X9_isWithin (Nat.le_of_ble_eq_true rfl) (Nat.le_of_ble_eq_true rfl) (s_X9_isWithin _ (0 : Int32) (0 : Int32) (5 : Int32)) ?_
    refine wp_ifb_eq 40 d_X9_isUnder_18 rfl (fun z => absurd (by decide) z) (fun z => ?_)
    refine wp_iload_n 1 d_X9_isUnder_21 rfl rfl ?_
    refine wp_iload_n 3 d_X9_isUnder_22 rfl rfl ?_
    refine wp_icmp_ne 28 d_X9_isUnder_23 rfl (fun c23 => ?_) (fun c23 => ?_)
    · refine wp_getstab 1 d_X9_isUnder_28 (by decide) gs_X9_374 ?_
      refine wp_iload_n 1 d_X9_isUnder_31 rfl rfl ?_
      refine wp_tabload (v := (-1)) d_X9_isUnder_32 (by decide) (show vp_in _ 6 from kin rfl) rfl ?_
      refine wp_istore_n [(2, .int ((-1))), (3, .int (1)), (0, .int (2)), (1, .int (a))] d_X9_isUnder_33 rfl (Nat.le_of_ble_eq_true rfl) rfl ?_
      refine wp_iinc (v0 := 2) [(3, .int (2)), (2, .int ((-1))), (0, .int (2)), (1, .int (a))] 1 d_X9_isUnder_34 rfl (by decide) (Nat.le_of_ble_eq_true rfl) rfl ?_
      refine wp_goto 4 d_X9_isUnder_37 rfl ?_
      refine wp_iload_n 0 d_X9_isUnder_4 rfl rfl ?_
      refine wp_getstab 1 d_X9_isUnder_5 (by decide) gs_X9_374 ?_
      refine wp_tablen (v := 6) d_X9_isUnder_8 (by decide) rfl ?_
      refine wp_icmp_ge 40 d_X9_isUnder_9 rfl (fun z => absurd z (by decide)) (fun _ => ?_)
      refine wp_iload_n 1 d_X9_isUnder_12 rfl rfl ?_
      refine wp_iconst (v0 := 0) d_X9_isUnder_13 rfl ?_
      refine wp_iconst (v0 := 5) d_X9_isUnder_14 rfl ?_
      refine wp_stc_i (As := [.int ((-1)), .int (0), .int (5)]) (x0 := kb (0 ≤ (-1) ∧ (-1) ≤ 5)) (h1 := h) d_X9_isUnder_15 lk_X9_98 mv_X9_isWithin st_X9_isWithin (Nat.le_of_ble_eq_true rfl) (Nat.le_of_ble_eq_true rfl) (s_X9_isWithin _ ((-1) : Int32) (0 : Int32) (5 : Int32)) ?_
      refine wp_ifb_eq 40 d_X9_isUnder_18 rfl (fun z => ?_) (fun z => absurd z (by decide))
      refine wp_iconst (v0 := 0) d_X9_isUnder_40 rfl ?_
      refine wp_iret d_X9_isUnder_41 rfl k_nar0 ?_
      refine kR_i (Eq.symm (kb_f ?_)) rfl
      rintro (q | q | ⟨q, q2⟩ | ⟨q, q2⟩) <;> first | exact absurd q2 (by decide) | exact absurd q (by assumption) | exact absurd q.symm (by assumption)
    · refine wp_iconst (v0 := 1) d_X9_isUnder_26 rfl ?_
      refine wp_iret d_X9_isUnder_27 rfl k_nar1 ?_
      refine kR_i (Eq.symm (kb_t ?_)) rfl
      simp_all [kUnder]
  · refine wp_iconst (v0 := 1) d_X9_isUnder_26 rfl ?_
    refine wp_iret d_X9_isUnder_27 rfl k_nar1 ?_
    refine kR_i (Eq.symm (kb_t ?_)) rfl
    simp_all [kUnder]
theorem s_X9_isUnder_3 {X : kX} {d : Nat} (h : kH) (a : Int32) : WP X (d + 1) 0 0 Y_X9_isUnder 0 [(0, .int 3), (1, .int a)] [] h (kR (some (.int (kb (kUnder 3 a)))) h) := by
  refine wp_iload_n 0 d_X9_isUnder_0 rfl rfl ?_
  refine wp_istore_n [(2, .int (3)), (0, .int (3)), (1, .int (a))] d_X9_isUnder_1 rfl (Nat.le_of_ble_eq_true rfl) rfl ?_
  refine wp_iconst (v0 := 0) d_X9_isUnder_2 rfl ?_
  refine wp_istore_n [(3, .int (0)), (2, .int (3)), (0, .int (3)), (1, .int (a))] d_X9_isUnder_3 rfl (Nat.le_of_ble_eq_true rfl) rfl ?_
  refine wp_iload_n 0 d_X9_isUnder_4 rfl rfl ?_
  refine wp_getstab 1 d_X9_isUnder_5 (by decide) gs_X9_374 ?_
  refine wp_tablen (v := 6) d_X9_isUnder_8 (by decide) rfl ?_
  refine wp_icmp_ge 40 d_X9_isUnder_9 rfl (fun z => absurd z (by decide)) (fun _ => ?_)
  refine wp_iload_n 1 d_X9_isUnder_12 rfl rfl ?_
  refine wp_iconst (v0 := 0) d_X9_isUnder_13 rfl ?_
  refine wp_iconst (v0 := 5) d_X9_isUnder_14 rfl ?_
  refine wp_stc_i (As := [.int (3), .int (0), .int (5)]) (x0 := kb (0 ≤ 3 ∧ 3 ≤ 5)) (h1 := h) d_X9_isUnder_15 lk_X9_98 mv_X9_isWithin st_X9_isWithin (Nat.le_of_ble_eq_true rfl) (Nat.le_of_ble_eq_true rfl) (s_X9_isWithin _ (3 : Int32) (0 : Int32) (5 : Int32)) ?_
  refine wp_ifb_eq 40 d_X9_isUnder_18 rfl (fun z => absurd (by decide) z) (fun z => ?_)
  refine wp_iload_n 1 d_X9_isUnder_21 rfl rfl ?_
  refine wp_iload_n 3 d_X9_isUnder_22 rfl rfl ?_
  refine wp_icmp_ne 28 d_X9_isUnder_23 rfl (fun c23 => ?_) (fun c23 => ?_)
  · refine wp_getstab 1 d_X9_isUnder_28 (by decide) gs_X9_374 ?_
    refine wp_iload_n 1 d_X9_isUnder_31 rfl rfl ?_
    refine wp_tabload (v := 2) d_X9_isUnder_32 (by decide) (show vp_in _ 6 from kin rfl) rfl ?_
    refine wp_istore_n [(2, .int (2)), (3, .int (0)), (0, .int (3)), (1, .int (a))] d_X9_isUnder_33 rfl (Nat.le_of_ble_eq_true rfl) rfl ?_
    refine wp_iinc (v0 := 1) [(3, .int (1)), (2, .int (2)), (0, .int (3)), (1, .int (a))] 1 d_X9_isUnder_34 rfl (by decide) (Nat.le_of_ble_eq_true rfl) rfl ?_
    refine wp_goto 4 d_X9_isUnder_37 rfl ?_
    refine wp_iload_n 0 d_X9_isUnder_4 rfl rfl ?_
    refine wp_getstab 1 d_X9_isUnder_5 (by decide) gs_X9_374 ?_
    refine wp_tablen (v := 6) d_X9_isUnder_8 (by decide) rfl ?_
    refine wp_icmp_ge 40 d_X9_isUnder_9 rfl (fun z => absurd z (by decide)) (fun _ => ?_)
    refine wp_iload_n 1 d_X9_isUnder_12 rfl rfl ?_
    refine wp_iconst (v0 := 0) d_X9_isUnder_13 rfl ?_
    refine wp_iconst (v0 := 5) d_X9_isUnder_14 rfl ?_
    refine wp_stc_i (As := [.int (2), .int (0), .int (5)]) (x0 := kb (0 ≤ 2 ∧ 2 ≤ 5)) (h1 := h) d_X9_isUnder_15 lk_X9_98 mv_X9_isWithin st_X9_isWithin (Nat.le_of_ble_eq_true rfl) (Nat.le_of_ble_eq_true rfl) (s_X9_isWithin _ (2 : Int32) (0 : Int32) (5 : Int32)) ?_
    refine wp_ifb_eq 40 d_X9_isUnder_18 rfl (fun z => absurd (by decide) z) (fun z => ?_)
    refine wp_iload_n 1 d_X9_isUnder_21 rfl rfl ?_
    refine wp_iload_n 3 d_X9_isUnder_22 rfl rfl ?_
    refine wp_icmp_ne 28 d_X9_isUnder_23 rfl (fun c23 => ?_) (fun c23 => ?_)
    · refine wp_getstab 1 d_X9_isUnder_28 (by decide) gs_X9_374 ?_
      refine wp_iload_n 1 d_X9_isUnder_31 rfl rfl ?_
      refine wp_tabload (v := 0) d_X9_isUnder_32 (by decide) (show vp_in _ 6 from kin rfl) rfl ?_
      refine wp_istore_n [(2, .int (0)), (3, .int (1)), (0, .int (3)), (1, .int (a))] d_X9_isUnder_33 rfl (Nat.le_of_ble_eq_true rfl) rfl ?_
      refine wp_iinc (v0 := 2) [(3, .int (2)), (2, .int (0)), (0, .int (3)), (1, .int (a))] 1 d_X9_isUnder_34 rfl (by decide) (Nat.le_of_ble_eq_true rfl) rfl ?_
      refine wp_goto 4 d_X9_isUnder_37 rfl ?_
      refine wp_iload_n 0 d_X9_isUnder_4 rfl rfl ?_
      refine wp_getstab 1 d_X9_isUnder_5 (by decide) gs_X9_374 ?_
      refine wp_tablen (v := 6) d_X9_isUnder_8 (by decide) rfl ?_
      refine wp_icmp_ge 40 d_X9_isUnder_9 rfl (fun z => absurd z (by decide)) (fun _ => ?_)
      refine wp_iload_n 1 d_X9_isUnder_12 rfl rfl ?_
      refine wp_iconst (v0 := 0) d_X9_isUnder_13 rfl ?_
      refine wp_iconst (v0 := 5) d_X9_isUnder_14 rfl ?_
      refine wp_stc_i (As := [.int (0), .int (0), .int (5)]) (x0 := kb (0 ≤ 0 ∧ 0 ≤ 5)) (h1 := h) d_X9_isUnder_15 lk_X9_98 mv_X9_isWithin st_X9_isWithin (Nat.le_of_ble_eq_true rfl) (Nat.le_of_ble_eq_true rfl) (s_X9_isWithin _ (0 : Int32) (0 : Int32) (5 : Int32)) ?_
      refine wp_ifb_eq 40 d_X9_isUnder_18 rfl (fun z => absurd (by decide) z) (fun z => ?_)
      refine wp_iload_n 1 d_X9_isUnder_21 rfl rfl ?_
      refine wp_iload_n 3 d_X9_isUnder_22 rfl rfl ?_
      refine wp_icmp_ne 28 d_X9_isUnder_23 rfl (fun c23 => ?_) (fun c23 => ?_)
      · refine wp_getstab 1 d_X9_isUnder_28 (by decide) gs_X9_374 ?_
        refine wp_iload_n 1 d_X9_isUnder_31 rfl rfl ?_
        refine wp_tabload (v := (-1)) d_X9_isUnder_32 (by decide) (show vp_in _ 6 from kin rfl) rfl ?_
        refine wp_istore_n [(2, .int ((-1))), (3, .int (2)), (0, .int (3)), (1, .int (a))] d_X9_isUnder_33 rfl (Nat.le_of_ble_eq_true rfl) rfl ?_
        refine wp_iinc (v0 := 3) [(3, .int (3)), (2, .int ((-1))), (0, .int (3)), (1, .int (a))] 1 d_X9_isUnder_34 rfl (by decide) (Nat.le_of_ble_eq_true rfl) rfl ?_
        refine wp_goto 4 d_X9_isUnder_37 rfl ?_
        refine wp_iload_n 0 d_X9_isUnder_4 rfl rfl ?_
        refine wp_getstab 1 d_X9_isUnder_5 (by decide) gs_X9_374 ?_
        refine wp_tablen (v := 6) d_X9_isUnder_8 (by decide) rfl ?_
        refine wp_icmp_ge 40 d_X9_isUnder_9 rfl (fun z => absurd z (by decide)) (fun _ => ?_)
        refine wp_iload_n 1 d_X9_isUnder_12 rfl rfl ?_
        refine wp_iconst (v0 := 0) d_X9_isUnder_13 rfl ?_
        refine wp_iconst (v0 := 5) d_X9_isUnder_14 rfl ?_
        refine wp_stc_i (As := [.int ((-1)), .int (0), .int (5)]) (x0 := kb (0 ≤ (-1) ∧ (-1) ≤ 5)) (h1 := h) d_X9_isUnder_15 lk_X9_98 mv_X9_isWithin st_X9_isWithin (Nat.le_of_ble_eq_true rfl) (Nat.le_of_ble_eq_true rfl) (s_X9_isWithin _ ((-1) : Int32) (0 : Int32) (5 : Int32)) ?_
        refine wp_ifb_eq 40 d_X9_isUnder_18 rfl (fun z => ?_) (fun z => absurd z (by decide))
        refine wp_iconst (v0 := 0) d_X9_isUnder_40 rfl ?_
        refine wp_iret d_X9_isUnder_41 rfl k_nar0 ?_
        refine kR_i (Eq.symm (kb_f ?_)) rfl
        rintro (q | q | ⟨q, q2⟩ | ⟨q, q2⟩) <;> first | exact absurd q2 (by decide) | exact absurd q (by assumption) | exact absurd q.symm (by assumption)
      · refine wp_iconst (v0 := 1) d_X9_isUnder_26 rfl ?_
        refine wp_iret d_X9_isUnder_27 rfl k_nar1 ?_
        refine kR_i (Eq.symm (kb_t ?_)) rfl
        simp_all [kUnder]
    · refine wp_iconst (v0 := 1) d_X9_isUnder_26 rfl ?_
      refine wp_iret d_X9_isUnder_27 rfl k_nar1 ?_
      refine kR_i (Eq.symm (kb_t ?_)) rfl
      simp_all [kUnder]
  · refine wp_iconst (v0 := 1) d_X9_isUnder_26 rfl ?_
    refine wp_iret d_X9_isUnder_27 rfl k_nar1 ?_
    refine kR_i (Eq.symm (kb_t ?_)) rfl
    simp_all [kUnder]
theorem s_X9_isUnder_4 {X : kX} {d : Nat} (h : kH) (a : Int32) : WP X (d + 1) 0 0 Y_X9_isUnder 0 [(0, .int 4), (1, .int a)] [] h (kR (some (.int (kb (kUnder 4 a)))) h) := by
  refine wp_iload_n 0 d_X9_isUnder_0 rfl rfl ?_
  refine wp_istore_n [(2, .int (4)), (0, .int (4)), (1, .int (a))] d_X9_isUnder_1 rfl (Nat.le_of_ble_eq_true rfl) rfl ?_
  refine wp_iconst (v0 := 0) d_X9_isUnder_2 rfl ?_
  refine wp_istore_n [(3, .int (0)), (2, .int (4)), (0, .int (4)), (1, .int (a))] d_X9_isUnder_3 rfl (Nat.le_of_ble_eq_true rfl) rfl ?_
  refine wp_iload_n 0 d_X9_isUnder_4 rfl rfl ?_
  refine wp_getstab 1 d_X9_isUnder_5 (by decide) gs_X9_374 ?_
  refine wp_tablen (v := 6) d_X9_isUnder_8 (by decide) rfl ?_
  refine wp_icmp_ge 40 d_X9_isUnder_9 rfl (fun z => absurd z (by decide)) (fun _ => ?_)
  refine wp_iload_n 1 d_X9_isUnder_12 rfl rfl ?_
  refine wp_iconst (v0 := 0) d_X9_isUnder_13 rfl ?_
  refine wp_iconst (v0 := 5) d_X9_isUnder_14 rfl ?_
  refine wp_stc_i (As := [.int (4), .int (0), .int (5)]) (x0 := kb (0 ≤ 4 ∧ 4 ≤ 5)) (h1 := h) d_X9_isUnder_15 lk_X9_98 mv_X9_isWithin st_X9_isWithin (Nat.le_of_ble_eq_true rfl) (Nat.le_of_ble_eq_true rfl) (s_X9_isWithin _ (4 : Int32) (0 : Int32) (5 : Int32)) ?_
  refine wp_ifb_eq 40 d_X9_isUnder_18 rfl (fun z => absurd (by decide) z) (fun z => ?_)
  refine wp_iload_n 1 d_X9_isUnder_21 rfl rfl ?_
  refine wp_iload_n 3 d_X9_isUnder_22 rfl rfl ?_
  refine wp_icmp_ne 28 d_X9_isUnder_23 rfl (fun c23 => ?_) (fun c23 => ?_)
  · refine wp_getstab 1 d_X9_isUnder_28 (by decide) gs_X9_374 ?_
    refine wp_iload_n 1 d_X9_isUnder_31 rfl rfl ?_
    refine wp_tabload (v := 0) d_X9_isUnder_32 (by decide) (show vp_in _ 6 from kin rfl) rfl ?_
    refine wp_istore_n [(2, .int (0)), (3, .int (0)), (0, .int (4)), (1, .int (a))] d_X9_isUnder_33 rfl (Nat.le_of_ble_eq_true rfl) rfl ?_
    refine wp_iinc (v0 := 1) [(3, .int (1)), (2, .int (0)), (0, .int (4)), (1, .int (a))] 1 d_X9_isUnder_34 rfl (by decide) (Nat.le_of_ble_eq_true rfl) rfl ?_
    refine wp_goto 4 d_X9_isUnder_37 rfl ?_
    refine wp_iload_n 0 d_X9_isUnder_4 rfl rfl ?_
    refine wp_getstab 1 d_X9_isUnder_5 (by decide) gs_X9_374 ?_
    refine wp_tablen (v := 6) d_X9_isUnder_8 (by decide) rfl ?_
    refine wp_icmp_ge 40 d_X9_isUnder_9 rfl (fun z => absurd z (by decide)) (fun _ => ?_)
    refine wp_iload_n 1 d_X9_isUnder_12 rfl rfl ?_
    refine wp_iconst (v0 := 0) d_X9_isUnder_13 rfl ?_
    refine wp_iconst (v0 := 5) d_X9_isUnder_14 rfl ?_
    refine wp_stc_i (As := [.int (0), .int (0), .int (5)]) (x0 := kb (0 ≤ 0 ∧ 0 ≤ 5)) (h1 := h) d_X9_isUnder_15 lk_X9_98 mv_X9_isWithin st_X9_isWithin (Nat.le_of_ble_eq_true rfl) (Nat.le_of_ble_eq_true rfl) (s_X9_isWithin _ (0 : Int32) (0 : Int32) (5 : Int32)) ?_
    refine wp_ifb_eq 40 d_X9_isUnder_18 rfl (fun z => absurd (by decide) z) (fun z => ?_)
    refine wp_iload_n 1 d_X9_isUnder_21 rfl rfl ?_
    refine wp_iload_n 3 d_X9_isUnder_22 rfl rfl ?_
    refine wp_icmp_ne 28 d_X9_isUnder_23 rfl (fun c23 => ?_) (fun c23 => ?_)
    · refine wp_getstab 1 d_X9_isUnder_28 (by decide) gs_X9_374 ?_
      refine wp_iload_n 1 d_X9_isUnder_31 rfl rfl ?_
      refine wp_tabload (v := (-1)) d_X9_isUnder_32 (by decide) (show vp_in _ 6 from kin rfl) rfl ?_
      refine wp_istore_n [(2, .int ((-1))), (3, .int (1)), (0, .int (4)), (1, .int (a))] d_X9_isUnder_33 rfl (Nat.le_of_ble_eq_true rfl) rfl ?_
      refine wp_iinc (v0 := 2) [(3, .int (2)), (2, .int ((-1))), (0, .int (4)), (1, .int (a))] 1 d_X9_isUnder_34 rfl (by decide) (Nat.le_of_ble_eq_true rfl) rfl ?_
      refine wp_goto 4 d_X9_isUnder_37 rfl ?_
      refine wp_iload_n 0 d_X9_isUnder_4 rfl rfl ?_
      refine wp_getstab 1 d_X9_isUnder_5 (by decide) gs_X9_374 ?_
      refine wp_tablen (v := 6) d_X9_isUnder_8 (by decide) rfl ?_
      refine wp_icmp_ge 40 d_X9_isUnder_9 rfl (fun z => absurd z (by decide)) (fun _ => ?_)
      refine wp_iload_n 1 d_X9_isUnder_12 rfl rfl ?_
      refine wp_iconst (v0 := 0) d_X9_isUnder_13 rfl ?_
      refine wp_iconst (v0 := 5) d_X9_isUnder_14 rfl ?_
      refine wp_stc_i (As := [.int ((-1)), .int (0), .int (5)]) (x0 := kb (0 ≤ (-1) ∧ (-1) ≤ 5)) (h1 := h) d_X9_isUnder_15 lk_X9_98 mv_X9_isWithin st_X9_isWithin (Nat.le_of_ble_eq_true rfl) (Nat.le_of_ble_eq_true rfl) (s_X9_isWithin _ ((-1) : Int32) (0 : Int32) (5 : Int32)) ?_
      refine wp_ifb_eq 40 d_X9_isUnder_18 rfl (fun z => ?_) (fun z => absurd z (by decide))
      refine wp_iconst (v0 := 0) d_X9_isUnder_40 rfl ?_
      refine wp_iret d_X9_isUnder_41 rfl k_nar0 ?_
      refine kR_i (Eq.symm (kb_f ?_)) rfl
      rintro (q | q | ⟨q, q2⟩ | ⟨q, q2⟩) <;> first | exact absurd q2 (by decide) | exact absurd q (by assumption) | exact absurd q.symm (by assumption)
    · refine wp_iconst (v0 := 1) d_X9_isUnder_26 rfl ?_
      refine wp_iret d_X9_isUnder_27 rfl k_nar1 ?_
      refine kR_i (Eq.symm (kb_t ?_)) rfl
      simp_all [kUnder]
  · refine wp_iconst (v0 := 1) d_X9_isUnder_26 rfl ?_
    refine wp_iret d_X9_isUnder_27 rfl k_nar1 ?_
    refine kR_i (Eq.symm (kb_t ?_)) rfl
    simp_all [kUnder]
theorem s_X9_isUnder_5 {X : kX} {d : Nat} (h : kH) (a : Int32) : WP X (d + 1) 0 0 Y_X9_isUnder 0 [(0, .int 5), (1, .int a)] [] h (kR (some (.int (kb (kUnder 5 a)))) h) := by
  refine wp_iload_n 0 d_X9_isUnder_0 rfl rfl ?_
  refine wp_istore_n [(2, .int (5)), (0, .int (5)), (1, .int (a))] d_X9_isUnder_1 rfl (Nat.le_of_ble_eq_true rfl) rfl ?_
  refine wp_iconst (v0 := 0) d_X9_isUnder_2 rfl ?_
  refine wp_istore_n [(3, .int (0)), (2, .int (5)), (0, .int (5)), (1, .int (a))] d_X9_isUnder_3 rfl (Nat.le_of_ble_eq_true rfl) rfl ?_
  refine wp_iload_n 0 d_X9_isUnder_4 rfl rfl ?_
  refine wp_getstab 1 d_X9_isUnder_5 (by decide) gs_X9_374 ?_
  refine wp_tablen (v := 6) d_X9_isUnder_8 (by decide) rfl ?_
  refine wp_icmp_ge 40 d_X9_isUnder_9 rfl (fun z => absurd z (by decide)) (fun _ => ?_)
  refine wp_iload_n 1 d_X9_isUnder_12 rfl rfl ?_
  refine wp_iconst (v0 := 0) d_X9_isUnder_13 rfl ?_
  refine wp_iconst (v0 := 5) d_X9_isUnder_14 rfl ?_
  refine wp_stc_i (As := [.int (5), .int (0), .int (5)]) (x0 := kb (0 ≤ 5 ∧ 5 ≤ 5)) (h1 := h) d_X9_isUnder_15 lk_X9_98 mv_X9_isWithin st_X9_isWithin (Nat.le_of_ble_eq_true rfl) (Nat.le_of_ble_eq_true rfl) (s_X9_isWithin _ (5 : Int32) (0 : Int32) (5 : Int32)) ?_
  refine wp_ifb_eq 40 d_X9_isUnder_18 rfl (fun z => absurd (by decide) z) (fun z => ?_)
  refine wp_iload_n 1 d_X9_isUnder_21 rfl rfl ?_
  refine wp_iload_n 3 d_X9_isUnder_22 rfl rfl ?_
  refine wp_icmp_ne 28 d_X9_isUnder_23 rfl (fun c23 => ?_) (fun c23 => ?_)
  · refine wp_getstab 1 d_X9_isUnder_28 (by decide) gs_X9_374 ?_
    refine wp_iload_n 1 d_X9_isUnder_31 rfl rfl ?_
    refine wp_tabload (v := 4) d_X9_isUnder_32 (by decide) (show vp_in _ 6 from kin rfl) rfl ?_
    refine wp_istore_n [(2, .int (4)), (3, .int (0)), (0, .int (5)), (1, .int (a))] d_X9_isUnder_33 rfl (Nat.le_of_ble_eq_true rfl) rfl ?_
    refine wp_iinc (v0 := 1) [(3, .int (1)), (2, .int (4)), (0, .int (5)), (1, .int (a))] 1 d_X9_isUnder_34 rfl (by decide) (Nat.le_of_ble_eq_true rfl) rfl ?_
    refine wp_goto 4 d_X9_isUnder_37 rfl ?_
    refine wp_iload_n 0 d_X9_isUnder_4 rfl rfl ?_
    refine wp_getstab 1 d_X9_isUnder_5 (by decide) gs_X9_374 ?_
    refine wp_tablen (v := 6) d_X9_isUnder_8 (by decide) rfl ?_
    refine wp_icmp_ge 40 d_X9_isUnder_9 rfl (fun z => absurd z (by decide)) (fun _ => ?_)
    refine wp_iload_n 1 d_X9_isUnder_12 rfl rfl ?_
    refine wp_iconst (v0 := 0) d_X9_isUnder_13 rfl ?_
    refine wp_iconst (v0 := 5) d_X9_isUnder_14 rfl ?_
    refine wp_stc_i (As := [.int (4), .int (0), .int (5)]) (x0 := kb (0 ≤ 4 ∧ 4 ≤ 5)) (h1 := h) d_X9_isUnder_15 lk_X9_98 mv_X9_isWithin st_X9_isWithin (Nat.le_of_ble_eq_true rfl) (Nat.le_of_ble_eq_true rfl) (s_X9_isWithin _ (4 : Int32) (0 : Int32) (5 : Int32)) ?_
    refine wp_ifb_eq 40 d_X9_isUnder_18 rfl (fun z => absurd (by decide) z) (fun z => ?_)
    refine wp_iload_n 1 d_X9_isUnder_21 rfl rfl ?_
    refine wp_iload_n 3 d_X9_isUnder_22 rfl rfl ?_
    refine wp_icmp_ne 28 d_X9_isUnder_23 rfl (fun c23 => ?_) (fun c23 => ?_)
    · refine wp_getstab 1 d_X9_isUnder_28 (by decide) gs_X9_374 ?_
      refine wp_iload_n 1 d_X9_isUnder_31 rfl rfl ?_
      refine wp_tabload (v := 0) d_X9_isUnder_32 (by decide) (show vp_in _ 6 from kin rfl) rfl ?_
      refine wp_istore_n [(2, .int (0)), (3, .int (1)), (0, .int (5)), (1, .int (a))] d_X9_isUnder_33 rfl (Nat.le_of_ble_eq_true rfl) rfl ?_
      refine wp_iinc (v0 := 2) [(3, .int (2)), (2, .int (0)), (0, .int (5)), (1, .int (a))] 1 d_X9_isUnder_34 rfl (by decide) (Nat.le_of_ble_eq_true rfl) rfl ?_
      refine wp_goto 4 d_X9_isUnder_37 rfl ?_
      refine wp_iload_n 0 d_X9_isUnder_4 rfl rfl ?_
      refine wp_getstab 1 d_X9_isUnder_5 (by decide) gs_X9_374 ?_
      refine wp_tablen (v := 6) d_X9_isUnder_8 (by decide) rfl ?_
      refine wp_icmp_ge 40 d_X9_isUnder_9 rfl (fun z => absurd z (by decide)) (fun _ => ?_)
      refine wp_iload_n 1 d_X9_isUnder_12 rfl rfl ?_
      refine wp_iconst (v0 := 0) d_X9_isUnder_13 rfl ?_
      refine wp_iconst (v0 := 5) d_X9_isUnder_14 rfl ?_
      refine wp_stc_i (As := [.int (0), .int (0), .int (5)]) (x0 := kb (0 ≤ 0 ∧ 0 ≤ 5)) (h1 := h) d_X9_isUnder_15 lk_X9_98 mv_X9_isWithin st_X9_isWithin (Nat.le_of_ble_eq_true rfl) (Nat.le_of_ble_eq_true rfl) (s_X9_isWithin _ (0 : Int32) (0 : Int32) (5 : Int32)) ?_
      refine wp_ifb_eq 40 d_X9_isUnder_18 rfl (fun z => absurd (by decide) z) (fun z => ?_)
      refine wp_iload_n 1 d_X9_isUnder_21 rfl rfl ?_
      refine wp_iload_n 3 d_X9_isUnder_22 rfl rfl ?_
      refine wp_icmp_ne 28 d_X9_isUnder_23 rfl (fun c23 => ?_) (fun c23 => ?_)
      · refine wp_getstab 1 d_X9_isUnder_28 (by decide) gs_X9_374 ?_
        refine wp_iload_n 1 d_X9_isUnder_31 rfl rfl ?_
        refine wp_tabload (v := (-1)) d_X9_isUnder_32 (by decide) (show vp_in _ 6 from kin rfl) rfl ?_
        refine wp_istore_n [(2, .int ((-1))), (3, .int (2)), (0, .int (5)), (1, .int (a))] d_X9_isUnder_33 rfl (Nat.le_of_ble_eq_true rfl) rfl ?_
        refine wp_iinc (v0 := 3) [(3, .int (3)), (2, .int ((-1))), (0, .int (5)), (1, .int (a))] 1 d_X9_isUnder_34 rfl (by decide) (Nat.le_of_ble_eq_true rfl) rfl ?_
        refine wp_goto 4 d_X9_isUnder_37 rfl ?_
        refine wp_iload_n 0 d_X9_isUnder_4 rfl rfl ?_
        refine wp_getstab 1 d_X9_isUnder_5 (by decide) gs_X9_374 ?_
        refine wp_tablen (v := 6) d_X9_isUnder_8 (by decide) rfl ?_
        refine wp_icmp_ge 40 d_X9_isUnder_9 rfl (fun z => absurd z (by decide)) (fun _ => ?_)
        refine wp_iload_n 1 d_X9_isUnder_12 rfl rfl ?_
        refine wp_iconst (v0 := 0) d_X9_isUnder_13 rfl ?_
        refine wp_iconst (v0 := 5) d_X9_isUnder_14 rfl ?_
        refine wp_stc_i (As := [.int ((-1)), .int (0), .int (5)]) (x0 := kb (0 ≤ (-1) ∧ (-1) ≤ 5)) (h1 := h) d_X9_isUnder_15 lk_X9_98 mv_X9_isWithin st_X9_isWithin (Nat.le_of_ble_eq_true rfl) (Nat.le_of_ble_eq_true rfl) (s_X9_isWithin _ ((-1) : Int32) (0 : Int32) (5 : Int32)) ?_
        refine wp_ifb_eq 40 d_X9_isUnder_18 rfl (fun z => ?_) (fun z => absurd z (by decide))
        refine wp_iconst (v0 := 0) d_X9_isUnder_40 rfl ?_
        refine wp_iret d_X9_isUnder_41 rfl k_nar0 ?_
        refine kR_i (Eq.symm (kb_f ?_)) rfl
        rintro (q | q | ⟨q, q2⟩ | ⟨q, q2⟩) <;> first | exact absurd q2 (by decide) | exact absurd q (by assumption) | exact absurd q.symm (by assumption)
      · refine wp_iconst (v0 := 1) d_X9_isUnder_26 rfl ?_
        refine wp_iret d_X9_isUnder_27 rfl k_nar1 ?_
        refine kR_i (Eq.symm (kb_t ?_)) rfl
        simp_all [kUnder]
    · refine wp_iconst (v0 := 1) d_X9_isUnder_26 rfl ?_
      refine wp_iret d_X9_isUnder_27 rfl k_nar1 ?_
      refine kR_i (Eq.symm (kb_t ?_)) rfl
      simp_all [kUnder]
  · refine wp_iconst (v0 := 1) d_X9_isUnder_26 rfl ?_
    refine wp_iret d_X9_isUnder_27 rfl k_nar1 ?_
    refine kR_i (Eq.symm (kb_t ?_)) rfl
    simp_all [kUnder]
theorem s_X9_isUnder {X : kX} {d : Nat} (h : kH) (kd a : Int32) (hk : 1 ≤ kd.toInt ∧ kd.toInt ≤ 5) : WP X (d + 1) 0 0 Y_X9_isUnder 0 [(0, .int kd), (1, .int a)] [] h (kR (some (.int (kb (kUnder kd a)))) h) := by
  rcases (by omega : kd.toInt = 1 ∨ kd.toInt = 2 ∨ kd.toInt = 3 ∨ kd.toInt = 4 ∨ kd.toInt = 5) with e | e | e | e | e
  · obtain rfl : kd = 1 := Int32.toInt_inj.mp (e.trans (by decide))
    exact s_X9_isUnder_1 h a
  · obtain rfl : kd = 2 := Int32.toInt_inj.mp (e.trans (by decide))
    exact s_X9_isUnder_2 h a
  · obtain rfl : kd = 3 := Int32.toInt_inj.mp (e.trans (by decide))
    exact s_X9_isUnder_3 h a
  · obtain rfl : kd = 4 := Int32.toInt_inj.mp (e.trans (by decide))
    exact s_X9_isUnder_4 h a
  · obtain rfl : kd = 5 := Int32.toInt_inj.mp (e.trans (by decide))
    exact s_X9_isUnder_5 h a
theorem s_X6_valueOf {X : kX} {d : Nat} {c w m v : kZ} {E : kH} (x : Int32) : WP X d 0 0 Y_X6_valueOf 0 [(0, .int (x)), (1, .ref (43))] [] (HP c w m v E) (kR (some (.int (kval (w.2.1 43) x))) (HP c w m v E)) := by
  refine wp_iload_n 0 d_X6_valueOf_0 rfl rfl ?_
  refine wp_sipush (v0 := 10000) d_X6_valueOf_1 (by decide) ?_
  refine wp_isub d_X6_valueOf_4 ?_
  refine wp_istore_n [(2, .int ((x) - (10000))), (0, .int (x)), (1, .ref (43))] d_X6_valueOf_5 rfl (Nat.le_of_ble_eq_true rfl) rfl ?_
  refine wp_iload_n 0 d_X6_valueOf_6 rfl rfl ?_
  refine wp_if_lt 21 d_X6_valueOf_7 rfl (fun c7 => ?_) (fun c7 => ?_)
  · refine wp_iload_n 1 d_X6_valueOf_21 rfl rfl ?_
    refine wp_reti d_X6_valueOf_22 rfl ?_
    refine kR_i ?_ rfl
    unfold kval
    rw [if_neg]
    rintro ⟨q1, q2⟩
    first | exact absurd c7 (Int32.not_lt.mpr q1) | exact absurd c12 (Int32.not_le.mpr q2)
  · refine wp_iload_n 0 d_X6_valueOf_10 rfl rfl ?_
    refine wp_iconst (v0 := 5) d_X6_valueOf_11 rfl ?_
    refine wp_icmp_ge 21 d_X6_valueOf_12 rfl (fun c12 => ?_) (fun c12 => ?_)
    · refine wp_iload_n 1 d_X6_valueOf_21 rfl rfl ?_
      refine wp_reti d_X6_valueOf_22 rfl ?_
      refine kR_i ?_ rfl
      unfold kval
      rw [if_neg]
      rintro ⟨q1, q2⟩
      first | exact absurd c7 (Int32.not_lt.mpr q1) | exact absurd c12 (Int32.not_le.mpr q2)
    · refine wp_aload_n 2 d_X6_valueOf_15 rfl rfl ?_
      refine wp_iload_n 0 d_X6_valueOf_16 rfl rfl ?_
      refine wp_iaload (v := (w.2.1 43) (((x) - (10000)).toNatClampNeg)) d_X6_valueOf_17 (hp_43 _ _ _ _ _) (vp_in_iff.mpr (by simp only [Int32.lt_iff_toInt_lt, Int32.le_iff_toInt_le] at c7 c12; exact ⟨by simpa using c7, by simpa using c12⟩)) rfl ?_
      refine wp_goto 22 d_X6_valueOf_18 rfl ?_
      refine wp_reti d_X6_valueOf_22 rfl ?_
      refine kR_i ?_ rfl
      unfold kval
      rw [if_pos ⟨Int32.not_lt.mp c7, Int32.not_le.mp c12⟩]
theorem s_X6_compares {X : kX} {d : Nat} {c w m v : kZ} {E : kH} (x : Int32) : WP X (d + 1) 0 0 Y_X6_compares 0 [(0, .int (x)), (1, .ref (43))] [] (HP c w m v E) (kR (some (.int (kb (kcmp (w.2.1 43) x = true)))) (HP c w m v E)) := by
  refine wp_iload_n 0 d_X6_compares_0 rfl rfl ?_
  refine wp_bipush (v0 := 16) d_X6_compares_1 (by decide) ?_
  refine wp_ishr d_X6_compares_3 ?_
  refine wp_aload_n 1 d_X6_compares_4 rfl rfl ?_
  refine wp_stc_i (As := [.int ((x) >>> ((16) &&& 31)), .ref (43)]) (x0 := kval (w.2.1 43) ((x) >>> ((16) &&& 31))) (h1 := HP c w m v E) d_X6_compares_5 lk_X6_35 mv_X6_valueOf st_X6_valueOf (Nat.le_of_ble_eq_true rfl) (Nat.le_of_ble_eq_true rfl) (s_X6_valueOf ((x) >>> ((16) &&& 31))) ?_
  refine wp_istore_n [(2, .int (kval (w.2.1 43) ((x) >>> ((16) &&& 31)))), (0, .int (x)), (1, .ref (43))] d_X6_compares_8 rfl (Nat.le_of_ble_eq_true rfl) rfl ?_
  refine wp_iload_n 1 d_X6_compares_9 rfl rfl ?_
  refine wp_iconst (v0 := 2) d_X6_compares_10 rfl ?_
  refine wp_ishr d_X6_compares_11 ?_
  refine wp_sipush (v0 := 16383) d_X6_compares_12 (by decide) ?_
  refine wp_iand d_X6_compares_15 ?_
  refine wp_aload_n 2 d_X6_compares_16 rfl rfl ?_
  refine wp_stc_i (As := [.int (((x) >>> ((2) &&& 31)) &&& (16383)), .ref (43)]) (x0 := kval (w.2.1 43) (((x) >>> ((2) &&& 31)) &&& (16383))) (h1 := HP c w m v E) d_X6_compares_17 lk_X6_35 mv_X6_valueOf st_X6_valueOf (Nat.le_of_ble_eq_true rfl) (Nat.le_of_ble_eq_true rfl) (s_X6_valueOf (((x) >>> ((2) &&& 31)) &&& (16383))) ?_
  refine wp_istore_n [(3, .int (kval (w.2.1 43) (((x) >>> ((2) &&& 31)) &&& (16383)))), (2, .int (kval (w.2.1 43) ((x) >>> ((16) &&& 31)))), (0, .int (x)), (1, .ref (43))] d_X6_compares_20 rfl (Nat.le_of_ble_eq_true rfl) rfl ?_
  refine wp_iload_n 2 d_X6_compares_21 rfl rfl ?_
  refine wp_iconst (v0 := 3) d_X6_compares_22 rfl ?_
  refine wp_iand d_X6_compares_23 ?_
  refine wp_if (P := ((x) &&& (3)) = 0) (fun c24 => ?_) (fun c24_0 => ?_)
  · refine wp_lookup 52 d_X6_compares_24 rfl (by rw [c24] <;> rfl) rfl ?_
    refine wp_iload_n 1 d_X6_compares_52 rfl rfl ?_
    refine wp_iload_n 0 d_X6_compares_53 rfl rfl ?_
    refine wp_icmp_ge 61 d_X6_compares_54 rfl (fun c54 => ?_) (fun c54 => ?_)
    · refine wp_iconst (v0 := 0) d_X6_compares_61 rfl ?_
      refine wp_iret d_X6_compares_62 rfl k_nar0 ?_
      refine kR_i (Eq.symm (kb_f ?_)) rfl
      simp_all [kcmp]
    · refine wp_iconst (v0 := 1) d_X6_compares_57 rfl ?_
      refine wp_goto 62 d_X6_compares_58 rfl ?_
      refine wp_iret d_X6_compares_62 rfl k_nar1 ?_
      refine kR_i (Eq.symm (kb_t ?_)) rfl
      simp_all [kcmp]
  refine wp_if (P := ((x) &&& (3)) = 1) (fun c24 => ?_) (fun c24_1 => ?_)
  · refine wp_lookup 63 d_X6_compares_24 rfl (by rw [c24] <;> rfl) rfl ?_
    refine wp_iload_n 1 d_X6_compares_63 rfl rfl ?_
    refine wp_iload_n 0 d_X6_compares_64 rfl rfl ?_
    refine wp_icmp_ne 72 d_X6_compares_65 rfl (fun c65 => ?_) (fun c65 => ?_)
    · refine wp_iconst (v0 := 0) d_X6_compares_72 rfl ?_
      refine wp_iret d_X6_compares_73 rfl k_nar0 ?_
      refine kR_i (Eq.symm (kb_f ?_)) rfl
      simp_all [kcmp]
    · refine wp_iconst (v0 := 1) d_X6_compares_68 rfl ?_
      refine wp_goto 73 d_X6_compares_69 rfl ?_
      refine wp_iret d_X6_compares_73 rfl k_nar1 ?_
      refine kR_i (Eq.symm (kb_t ?_)) rfl
      simp_all [kcmp]
  refine wp_swd_X6_compares_24 c24_0 c24_1 ?_
  refine wp_iload_n 1 d_X6_compares_74 rfl rfl ?_
  refine wp_iload_n 0 d_X6_compares_75 rfl rfl ?_
  refine wp_icmp_le 83 d_X6_compares_76 rfl (fun c76 => ?_) (fun c76 => ?_)
  · refine wp_iconst (v0 := 0) d_X6_compares_83 rfl ?_
    refine wp_iret d_X6_compares_84 rfl k_nar0 ?_
    refine kR_i (Eq.symm (kb_f ?_)) rfl
    simp_all [kcmp]
  · refine wp_iconst (v0 := 1) d_X6_compares_79 rfl ?_
    refine wp_goto 84 d_X6_compares_80 rfl ?_
    refine wp_iret d_X6_compares_84 rfl k_nar1 ?_
    refine kR_i (Eq.symm (kb_t ?_)) rfl
    simp_all [kcmp]
theorem s_X6_holds_l {X : kX} {d : Nat} {c w m v : kZ} {E : kH} {rho cnt ka L : Nat} {code : Nat → Int32} (hR : kRu E rho cnt ka L code) (hL : L < 2 ^ 20) {a e : Nat} (he : e ≤ L) : ∀ (k : Nat) (i : Nat) (z : Int32), (i + k = e) → WP X (d + 2) 0 0 Y_X6_holds 6 [(5, .int (nI (i))), (4, .int (z)), (0, .ref (rho)), (1, .int (nI (a))), (2, .int (nI (e))), (3, .ref (43))] [] (HP c w m v E) (kR (some (.int (kb (kfold (w.2.1 43) code k i z &&& 1 = 1)))) (HP c w m v E)) := by
  intro k
  induction k using Nat.strongRecOn with
  | ind k ih =>
    intro i z hi
    refine wp_iload 0 d_X6_holds_6 rfl ?_
    refine wp_iload_n 4 d_X6_holds_8 rfl rfl ?_
    refine wp_ncmp_ge (a := i) (b := e) 130 d_X6_holds_9 rfl (by omega) (by omega) (fun c9 => ?_) (fun c9 => ?_)
    · refine wp_iload 1 d_X6_holds_130 rfl ?_
      refine wp_iconst (v0 := 1) d_X6_holds_132 rfl ?_
      refine wp_iand d_X6_holds_133 ?_
      refine wp_iconst (v0 := 1) d_X6_holds_134 rfl ?_
      refine wp_icmp_ne 142 d_X6_holds_135 rfl (fun c135 => ?_) (fun c135 => ?_)
      · refine wp_iconst (v0 := 0) d_X6_holds_142 rfl ?_
        refine wp_iret d_X6_holds_143 rfl k_nar0 ?_
        obtain rfl : k = 0 := by omega
        exact kR_i (Eq.symm (kb_f c135)) rfl
      · refine wp_iconst (v0 := 1) d_X6_holds_138 rfl ?_
        refine wp_goto 143 d_X6_holds_139 rfl ?_
        refine wp_iret d_X6_holds_143 rfl k_nar1 ?_
        obtain rfl : k = 0 := by omega
        exact kR_i (Eq.symm (kb_t c135)) rfl
    · refine wp_iload 1 d_X6_holds_12 rfl ?_
      refine wp_iconst (v0 := 1) d_X6_holds_14 rfl ?_
      refine wp_iand d_X6_holds_15 ?_
      refine wp_istore [(6, .int ((z) &&& (1))), (5, .int (nI (i))), (4, .int (z)), (0, .ref (rho)), (1, .int (nI (a))), (2, .int (nI (e))), (3, .ref (43))] d_X6_holds_16 (Nat.le_of_ble_eq_true rfl) rfl ?_
      refine wp_aload_n 3 d_X6_holds_18 rfl rfl ?_
      refine wp_getfield (v := .ref (ka)) d_X6_holds_19 gf_X6_13 (hR _ _ _ _).1 rfl ?_
      refine wp_iload 1 d_X6_holds_22 rfl ?_
      refine wp_iaload (v := code (i)) d_X6_holds_24 (hR _ _ _ _).2 (vp_in_nI (by omega) (by omega)) (congrArg (code) (nI_clamp (by omega))) ?_
      refine wp_if (P := (code (i)) = (-3)) (fun c25 => ?_) (fun c25_m3 => ?_)
      · refine wp_tableIn 86 d_X6_holds_25 (by rw [c25] <;> decide) (by rw [c25] <;> decide) (by rw [c25] <;> rfl) rfl ?_
        refine wp_iload 2 d_X6_holds_86 rfl ?_
        refine wp_iconst (v0 := 1) d_X6_holds_88 rfl ?_
        refine wp_iushr (v0 := ((z).toUInt32 >>> ((1 : Int32).toUInt32 &&& Int32.toUInt32 31)).toInt32) d_X6_holds_89 rfl ?_
        refine wp_iload 0 d_X6_holds_90 rfl ?_
        refine wp_ior d_X6_holds_92 ?_
        refine wp_istore [(4, .int ((((z).toUInt32 >>> ((1 : Int32).toUInt32 &&& Int32.toUInt32 31)).toInt32) ||| ((z) &&& (1)))), (6, .int ((z) &&& (1))), (5, .int (nI (i))), (0, .ref (rho)), (1, .int (nI (a))), (2, .int (nI (e))), (3, .ref (43))] d_X6_holds_93 (Nat.le_of_ble_eq_true rfl) rfl ?_
        refine wp_goto 124 d_X6_holds_95 rfl ?_
        refine wp_iinc (v0 := nI ((i) + 1)) [(5, .int (nI ((i) + 1))), (4, .int ((((z).toUInt32 >>> ((1 : Int32).toUInt32 &&& Int32.toUInt32 31)).toInt32) ||| ((z) &&& (1)))), (6, .int ((z) &&& (1))), (0, .ref (rho)), (1, .int (nI (a))), (2, .int (nI (e))), (3, .ref (43))] 2 d_X6_holds_124 rfl (nI_add (i) 1) (Nat.le_of_ble_eq_true rfl) rfl ?_
        refine wp_goto 6 d_X6_holds_127 rfl ?_
        obtain ⟨k1, rfl⟩ : ∃ k1, k = k1 + 1 := ⟨k - 1, by omega⟩
        have e9 : kstk (w.2.1 43) z (code i) = (((z).toUInt32 >>> ((1 : Int32).toUInt32 &&& Int32.toUInt32 31)).toInt32) ||| ((z) &&& (1)) := by simp_all [kstk, kush, kb]
        rw [kb_iff (show (kfold (w.2.1 43) code (k1 + 1) i z &&& 1 = 1) ↔ (kfold (w.2.1 43) code k1 (i + 1) ((((z).toUInt32 >>> ((1 : Int32).toUInt32 &&& Int32.toUInt32 31)).toInt32) ||| ((z) &&& (1))) &&& 1 = 1) by simp only [kfold]; rw [e9])]
        refine wp_sub [(5, .int (nI ((i) + 1))), (4, .int ((((z).toUInt32 >>> ((1 : Int32).toUInt32 &&& Int32.toUInt32 31)).toInt32) ||| ((z) &&& (1)))), (0, .ref (rho)), (1, .int (nI (a))), (2, .int (nI (e))), (3, .ref (43))] [0, 1, 3, 4, 5, 6] rfl ?_
        exact ih k1 (by omega) (i + 1) _ (by omega)
      refine wp_if (P := (code (i)) = (-2)) (fun c25 => ?_) (fun c25_m2 => ?_)
      · refine wp_tableIn 61 d_X6_holds_25 (by rw [c25] <;> decide) (by rw [c25] <;> decide) (by rw [c25] <;> rfl) rfl ?_
        refine wp_iload 0 d_X6_holds_61 rfl ?_
        refine wp_iconst (v0 := 1) d_X6_holds_63 rfl ?_
        refine wp_icmp_ne 74 d_X6_holds_64 rfl (fun c64 => ?_) (fun c64 => ?_)
        · refine wp_iload 2 d_X6_holds_74 rfl ?_
          refine wp_iconst (v0 := 1) d_X6_holds_76 rfl ?_
          refine wp_iushr (v0 := ((z).toUInt32 >>> ((1 : Int32).toUInt32 &&& Int32.toUInt32 31)).toInt32) d_X6_holds_77 rfl ?_
          refine wp_bipush (v0 := -2) d_X6_holds_78 (by decide) ?_
          refine wp_iand d_X6_holds_80 ?_
          refine wp_istore [(4, .int ((((z).toUInt32 >>> ((1 : Int32).toUInt32 &&& Int32.toUInt32 31)).toInt32) &&& ((-2)))), (6, .int ((z) &&& (1))), (5, .int (nI (i))), (0, .ref (rho)), (1, .int (nI (a))), (2, .int (nI (e))), (3, .ref (43))] d_X6_holds_81 (Nat.le_of_ble_eq_true rfl) rfl ?_
          refine wp_goto 124 d_X6_holds_83 rfl ?_
          refine wp_iinc (v0 := nI ((i) + 1)) [(5, .int (nI ((i) + 1))), (4, .int ((((z).toUInt32 >>> ((1 : Int32).toUInt32 &&& Int32.toUInt32 31)).toInt32) &&& ((-2)))), (6, .int ((z) &&& (1))), (0, .ref (rho)), (1, .int (nI (a))), (2, .int (nI (e))), (3, .ref (43))] 2 d_X6_holds_124 rfl (nI_add (i) 1) (Nat.le_of_ble_eq_true rfl) rfl ?_
          refine wp_goto 6 d_X6_holds_127 rfl ?_
          obtain ⟨k1, rfl⟩ : ∃ k1, k = k1 + 1 := ⟨k - 1, by omega⟩
          have e9 : kstk (w.2.1 43) z (code i) = (((z).toUInt32 >>> ((1 : Int32).toUInt32 &&& Int32.toUInt32 31)).toInt32) &&& ((-2)) := by simp_all [kstk, kush, kb]
          rw [kb_iff (show (kfold (w.2.1 43) code (k1 + 1) i z &&& 1 = 1) ↔ (kfold (w.2.1 43) code k1 (i + 1) ((((z).toUInt32 >>> ((1 : Int32).toUInt32 &&& Int32.toUInt32 31)).toInt32) &&& ((-2))) &&& 1 = 1) by simp only [kfold]; rw [e9])]
          refine wp_sub [(5, .int (nI ((i) + 1))), (4, .int ((((z).toUInt32 >>> ((1 : Int32).toUInt32 &&& Int32.toUInt32 31)).toInt32) &&& ((-2)))), (0, .ref (rho)), (1, .int (nI (a))), (2, .int (nI (e))), (3, .ref (43))] [0, 1, 3, 4, 5, 6] rfl ?_
          exact ih k1 (by omega) (i + 1) _ (by omega)
        · refine wp_iload 2 d_X6_holds_67 rfl ?_
          refine wp_iconst (v0 := 1) d_X6_holds_69 rfl ?_
          refine wp_iushr (v0 := ((z).toUInt32 >>> ((1 : Int32).toUInt32 &&& Int32.toUInt32 31)).toInt32) d_X6_holds_70 rfl ?_
          refine wp_goto 81 d_X6_holds_71 rfl ?_
          refine wp_istore [(4, .int (((z).toUInt32 >>> ((1 : Int32).toUInt32 &&& Int32.toUInt32 31)).toInt32)), (6, .int ((z) &&& (1))), (5, .int (nI (i))), (0, .ref (rho)), (1, .int (nI (a))), (2, .int (nI (e))), (3, .ref (43))] d_X6_holds_81 (Nat.le_of_ble_eq_true rfl) rfl ?_
          refine wp_goto 124 d_X6_holds_83 rfl ?_
          refine wp_iinc (v0 := nI ((i) + 1)) [(5, .int (nI ((i) + 1))), (4, .int (((z).toUInt32 >>> ((1 : Int32).toUInt32 &&& Int32.toUInt32 31)).toInt32)), (6, .int ((z) &&& (1))), (0, .ref (rho)), (1, .int (nI (a))), (2, .int (nI (e))), (3, .ref (43))] 2 d_X6_holds_124 rfl (nI_add (i) 1) (Nat.le_of_ble_eq_true rfl) rfl ?_
          refine wp_goto 6 d_X6_holds_127 rfl ?_
          obtain ⟨k1, rfl⟩ : ∃ k1, k = k1 + 1 := ⟨k - 1, by omega⟩
          have e9 : kstk (w.2.1 43) z (code i) = ((z).toUInt32 >>> ((1 : Int32).toUInt32 &&& Int32.toUInt32 31)).toInt32 := by simp_all [kstk, kush, kb]
          rw [kb_iff (show (kfold (w.2.1 43) code (k1 + 1) i z &&& 1 = 1) ↔ (kfold (w.2.1 43) code k1 (i + 1) (((z).toUInt32 >>> ((1 : Int32).toUInt32 &&& Int32.toUInt32 31)).toInt32) &&& 1 = 1) by simp only [kfold]; rw [e9])]
          refine wp_sub [(5, .int (nI ((i) + 1))), (4, .int (((z).toUInt32 >>> ((1 : Int32).toUInt32 &&& Int32.toUInt32 31)).toInt32)), (0, .ref (rho)), (1, .int (nI (a))), (2, .int (nI (e))), (3, .ref (43))] [0, 1, 3, 4, 5, 6] rfl ?_
          exact ih k1 (by omega) (i + 1) _ (by omega)
      refine wp_if (P := (code (i)) = (-1)) (fun c25 => ?_) (fun c25_m1 => ?_)
      · refine wp_tableIn 52 d_X6_holds_25 (by rw [c25] <;> decide) (by rw [c25] <;> decide) (by rw [c25] <;> rfl) rfl ?_
        refine wp_iload 2 d_X6_holds_52 rfl ?_
        refine wp_iconst (v0 := 1) d_X6_holds_54 rfl ?_
        refine wp_ixor d_X6_holds_55 ?_
        refine wp_istore [(4, .int ((z) ^^^ (1))), (6, .int ((z) &&& (1))), (5, .int (nI (i))), (0, .ref (rho)), (1, .int (nI (a))), (2, .int (nI (e))), (3, .ref (43))] d_X6_holds_56 (Nat.le_of_ble_eq_true rfl) rfl ?_
        refine wp_goto 124 d_X6_holds_58 rfl ?_
        refine wp_iinc (v0 := nI ((i) + 1)) [(5, .int (nI ((i) + 1))), (4, .int ((z) ^^^ (1))), (6, .int ((z) &&& (1))), (0, .ref (rho)), (1, .int (nI (a))), (2, .int (nI (e))), (3, .ref (43))] 2 d_X6_holds_124 rfl (nI_add (i) 1) (Nat.le_of_ble_eq_true rfl) rfl ?_
        refine wp_goto 6 d_X6_holds_127 rfl ?_
        obtain ⟨k1, rfl⟩ : ∃ k1, k = k1 + 1 := ⟨k - 1, by omega⟩
        have e9 : kstk (w.2.1 43) z (code i) = (z) ^^^ (1) := by simp_all [kstk, kush, kb]
        rw [kb_iff (show (kfold (w.2.1 43) code (k1 + 1) i z &&& 1 = 1) ↔ (kfold (w.2.1 43) code k1 (i + 1) ((z) ^^^ (1)) &&& 1 = 1) by simp only [kfold]; rw [e9])]
        refine wp_sub [(5, .int (nI ((i) + 1))), (4, .int ((z) ^^^ (1))), (0, .ref (rho)), (1, .int (nI (a))), (2, .int (nI (e))), (3, .ref (43))] [0, 1, 3, 4, 5, 6] rfl ?_
        exact ih k1 (by omega) (i + 1) _ (by omega)
      refine wp_swd_X6_holds_25 c25_m3 c25_m2 c25_m1 ?_
      refine wp_iload 2 d_X6_holds_98 rfl ?_
      refine wp_iconst (v0 := 1) d_X6_holds_100 rfl ?_
      refine wp_ishl d_X6_holds_101 ?_
      refine wp_aload_n 3 d_X6_holds_102 rfl rfl ?_
      refine wp_getfield (v := .ref (ka)) d_X6_holds_103 gf_X6_13 (hR _ _ _ _).1 rfl ?_
      refine wp_iload 1 d_X6_holds_106 rfl ?_
      refine wp_iaload (v := code (i)) d_X6_holds_108 (hR _ _ _ _).2 (vp_in_nI (by omega) (by omega)) (congrArg (code) (nI_clamp (by omega))) ?_
      refine wp_aload_n 6 d_X6_holds_109 rfl rfl ?_
      refine wp_stc_i (As := [.int (code (i)), .ref (43)]) (x0 := kb (kcmp (w.2.1 43) (code (i)) = true)) (h1 := HP c w m v E) d_X6_holds_110 lk_X6_31 mv_X6_compares st_X6_compares (Nat.le_of_ble_eq_true rfl) (Nat.le_of_ble_eq_true rfl) (s_X6_compares (code (i))) ?_
      refine wp_ifb_eq 120 d_X6_holds_113 rfl (fun c113 => ?_) (fun c113 => ?_)
      · refine wp_iconst (v0 := 0) d_X6_holds_120 rfl ?_
        refine wp_ior d_X6_holds_121 ?_
        refine wp_istore [(4, .int (((z) <<< ((1) &&& 31)) ||| (0))), (6, .int ((z) &&& (1))), (5, .int (nI (i))), (0, .ref (rho)), (1, .int (nI (a))), (2, .int (nI (e))), (3, .ref (43))] d_X6_holds_122 (Nat.le_of_ble_eq_true rfl) rfl ?_
        refine wp_iinc (v0 := nI ((i) + 1)) [(5, .int (nI ((i) + 1))), (4, .int (((z) <<< ((1) &&& 31)) ||| (0))), (6, .int ((z) &&& (1))), (0, .ref (rho)), (1, .int (nI (a))), (2, .int (nI (e))), (3, .ref (43))] 2 d_X6_holds_124 rfl (nI_add (i) 1) (Nat.le_of_ble_eq_true rfl) rfl ?_
        refine wp_goto 6 d_X6_holds_127 rfl ?_
        obtain ⟨k1, rfl⟩ : ∃ k1, k = k1 + 1 := ⟨k - 1, by omega⟩
        have e9 : kstk (w.2.1 43) z (code i) = ((z) <<< ((1) &&& 31)) ||| (0) := by simp_all [kstk, kush, kb]
        rw [kb_iff (show (kfold (w.2.1 43) code (k1 + 1) i z &&& 1 = 1) ↔ (kfold (w.2.1 43) code k1 (i + 1) (((z) <<< ((1) &&& 31)) ||| (0)) &&& 1 = 1) by simp only [kfold]; rw [e9])]
        refine wp_sub [(5, .int (nI ((i) + 1))), (4, .int (((z) <<< ((1) &&& 31)) ||| (0))), (0, .ref (rho)), (1, .int (nI (a))), (2, .int (nI (e))), (3, .ref (43))] [0, 1, 3, 4, 5, 6] rfl ?_
        exact ih k1 (by omega) (i + 1) _ (by omega)
      · refine wp_iconst (v0 := 1) d_X6_holds_116 rfl ?_
        refine wp_goto 121 d_X6_holds_117 rfl ?_
        refine wp_ior d_X6_holds_121 ?_
        refine wp_istore [(4, .int (((z) <<< ((1) &&& 31)) ||| (1))), (6, .int ((z) &&& (1))), (5, .int (nI (i))), (0, .ref (rho)), (1, .int (nI (a))), (2, .int (nI (e))), (3, .ref (43))] d_X6_holds_122 (Nat.le_of_ble_eq_true rfl) rfl ?_
        refine wp_iinc (v0 := nI ((i) + 1)) [(5, .int (nI ((i) + 1))), (4, .int (((z) <<< ((1) &&& 31)) ||| (1))), (6, .int ((z) &&& (1))), (0, .ref (rho)), (1, .int (nI (a))), (2, .int (nI (e))), (3, .ref (43))] 2 d_X6_holds_124 rfl (nI_add (i) 1) (Nat.le_of_ble_eq_true rfl) rfl ?_
        refine wp_goto 6 d_X6_holds_127 rfl ?_
        obtain ⟨k1, rfl⟩ : ∃ k1, k = k1 + 1 := ⟨k - 1, by omega⟩
        have e9 : kstk (w.2.1 43) z (code i) = ((z) <<< ((1) &&& 31)) ||| (1) := by simp_all [kstk, kush, kb]
        rw [kb_iff (show (kfold (w.2.1 43) code (k1 + 1) i z &&& 1 = 1) ↔ (kfold (w.2.1 43) code k1 (i + 1) (((z) <<< ((1) &&& 31)) ||| (1)) &&& 1 = 1) by simp only [kfold]; rw [e9])]
        refine wp_sub [(5, .int (nI ((i) + 1))), (4, .int (((z) <<< ((1) &&& 31)) ||| (1))), (0, .ref (rho)), (1, .int (nI (a))), (2, .int (nI (e))), (3, .ref (43))] [0, 1, 3, 4, 5, 6] rfl ?_
        exact ih k1 (by omega) (i + 1) _ (by omega)
theorem s_X6_holds {X : kX} {d : Nat} {c w m v : kZ} {E : kH} {rho cnt ka L : Nat} {code : Nat → Int32} (hR : kRu E rho cnt ka L code) (hL : L < 2 ^ 20) {a e : Nat} (hae : a ≤ e) (he : e ≤ L) : WP X (d + 2) 0 0 Y_X6_holds 0 [(0, .ref (rho)), (1, .int (nI (a))), (2, .int (nI (e))), (3, .ref (43))] [] (HP c w m v E) (kR (some (.int (kb (kfold (w.2.1 43) code (e - a) a 1 &&& 1 = 1)))) (HP c w m v E)) := by
  refine wp_iconst (v0 := 1) d_X6_holds_0 rfl ?_
  refine wp_istore [(4, .int (1)), (0, .ref (rho)), (1, .int (nI (a))), (2, .int (nI (e))), (3, .ref (43))] d_X6_holds_1 (Nat.le_of_ble_eq_true rfl) rfl ?_
  refine wp_iload_n 2 d_X6_holds_3 rfl rfl ?_
  refine wp_istore [(5, .int (nI (a))), (4, .int (1)), (0, .ref (rho)), (1, .int (nI (a))), (2, .int (nI (e))), (3, .ref (43))] d_X6_holds_4 (Nat.le_of_ble_eq_true rfl) rfl ?_
  refine wp_sub [(5, .int (nI (a))), (4, .int (1)), (0, .ref (rho)), (1, .int (nI (a))), (2, .int (nI (e))), (3, .ref (43))] [0, 1, 2, 3, 4, 5] rfl ?_
  exact s_X6_holds_l hR hL he (e - a) a 1 (by omega)
theorem s_X6_changed {X : kX} {d : Nat} (h : kH) (b e n : Int32) : WP X d 0 0 Y_X6_changed 0 [(0, .int b), (1, .int e), (2, .int n)] [] h (kR (some (.int (kchg b e n))) h) := by
  refine wp_iload_n 1 d_X6_changed_0 rfl rfl ?_
  refine wp_if (P := (e) = 0) (fun c1 => ?_) (fun c1_0 => ?_)
  · refine wp_lookup 28 d_X6_changed_1 rfl (by rw [c1] <;> rfl) rfl ?_
    refine wp_iload_n 0 d_X6_changed_28 rfl rfl ?_
    refine wp_iload_n 2 d_X6_changed_29 rfl rfl ?_
    refine wp_iadd d_X6_changed_30 ?_
    refine wp_reti d_X6_changed_31 rfl ?_
    exact kR_i (by simp_all [kchg]) rfl
  refine wp_if (P := (e) = 1) (fun c1 => ?_) (fun c1_1 => ?_)
  · refine wp_lookup 32 d_X6_changed_1 rfl (by rw [c1] <;> rfl) rfl ?_
    refine wp_iload_n 0 d_X6_changed_32 rfl rfl ?_
    refine wp_iload_n 2 d_X6_changed_33 rfl rfl ?_
    refine wp_isub d_X6_changed_34 ?_
    refine wp_reti d_X6_changed_35 rfl ?_
    exact kR_i (by simp_all [kchg]) rfl
  refine wp_swd_X6_changed_1 c1_0 c1_1 ?_
  refine wp_iconst (v0 := 0) d_X6_changed_36 rfl ?_
  refine wp_reti d_X6_changed_37 rfl ?_
  exact kR_i (by simp_all [kchg]) rfl
theorem s_X6_bent_l {X : kX} {d : Nat} {c w m v : kZ} {E : kH} {rho cnt ka L : Nat} {code : Nat → Int32} (hR : kRu E rho cnt ka L code) (hL : L < 2 ^ 20) (hc8 : cnt ≤ 8) (kd b : Int32) (hk : 1 ≤ kd.toInt ∧ kd.toInt ≤ 5) : ∀ (k : Nat) (r : Nat) (i : Nat), (r + k = cnt) → (kWF code L k i) → (i ≤ L) → WP X (d + 3) 0 0 Y_X6_bent 10 [(5, .int (nI (r))), (4, .int (nI (i))), (3, .int (b)), (0, .ref (rho)), (1, .int (kd)), (2, .ref (43))] [] (HP c w m v E) (kR (some (.int (kbent (w.2.1 43) code kd b k i))) (HP c w m v E)) := by
  intro k
  induction k using Nat.strongRecOn with
  | ind k ih =>
    intro r i hi hwf hiL
    refine wp_iload 0 d_X6_bent_10 rfl ?_
    refine wp_aload_n 3 d_X6_bent_12 rfl rfl ?_
    refine wp_getfield (v := .int (nI (cnt))) d_X6_bent_13 gf_X6_7 (hR _ _ _ _).1 rfl ?_
    refine wp_ncmp_ge (a := r) (b := cnt) 96 d_X6_bent_16 rfl (by omega) (by omega) (fun c16 => ?_) (fun c16 => ?_)
    · refine wp_iload_n 2 d_X6_bent_96 rfl rfl ?_
      refine wp_reti d_X6_bent_97 rfl ?_
      obtain rfl : k = 0 := by omega
      exact kR_i rfl rfl
    · obtain ⟨k1, rfl⟩ : ∃ k1, k = k1 + 1 := ⟨k - 1, by omega⟩
      obtain ⟨n, hn3, hn4, hwf1⟩ := hwf
      have e3 : (code (i + 3)).toNatClampNeg = n := by rw [hn3, nI_clamp (by omega)]
      have e4 : (i + 4 + n) - (i + 4) = n := by omega
      refine wp_iload 1 d_X6_bent_19 rfl ?_
      refine wp_iconst (v0 := 4) d_X6_bent_21 rfl ?_
      refine wp_iadd d_X6_bent_22 ?_
      refine wp_v (v0 := nI ((i) + (4))) (nI_add (i) (4)) ?_
      refine wp_aload_n 3 d_X6_bent_23 rfl rfl ?_
      refine wp_getfield (v := .ref (ka)) d_X6_bent_24 gf_X6_13 (hR _ _ _ _).1 rfl ?_
      refine wp_iload 1 d_X6_bent_27 rfl ?_
      refine wp_iconst (v0 := 3) d_X6_bent_29 rfl ?_
      refine wp_iadd d_X6_bent_30 ?_
      refine wp_v (v0 := nI ((i) + (3))) (nI_add (i) (3)) ?_
      refine wp_iaload (v := nI (n)) d_X6_bent_31 (hR _ _ _ _).2 (vp_in_nI (by omega) (by omega)) ((congrArg (code) (nI_clamp (by omega))).trans hn3) ?_
      refine wp_iadd d_X6_bent_32 ?_
      refine wp_v (v0 := nI (((i) + (4)) + (n))) (nI_add ((i) + (4)) (n)) ?_
      refine wp_istore [(6, .int (nI (((i) + (4)) + (n)))), (5, .int (nI (r))), (4, .int (nI (i))), (3, .int (b)), (0, .ref (rho)), (1, .int (kd)), (2, .ref (43))] d_X6_bent_33 (Nat.le_of_ble_eq_true rfl) rfl ?_
      refine wp_iload_n 5 d_X6_bent_35 rfl rfl ?_
      refine wp_aload_n 4 d_X6_bent_36 rfl rfl ?_
      refine wp_getfield (v := .ref (ka)) d_X6_bent_37 gf_X6_13 (hR _ _ _ _).1 rfl ?_
      refine wp_iload 2 d_X6_bent_40 rfl ?_
      refine wp_iaload (v := code (i)) d_X6_bent_42 (hR _ _ _ _).2 (vp_in_nI (by omega) (by omega)) (congrArg (code) (nI_clamp (by omega))) ?_
      refine wp_stc_i (As := [.int (kd), .int (code (i))]) (x0 := kb (kUnder (kd) (code (i)))) (h1 := HP c w m v E) d_X6_bent_43 lk_X6_17 mv_X9_isUnder st_X9_isUnder (Nat.le_of_ble_eq_true rfl) (Nat.le_of_ble_eq_true rfl) (s_X9_isUnder _ (kd) (code (i)) hk) ?_
      refine wp_ifb_eq 86 d_X6_bent_46 rfl (fun c46 => ?_) (fun c46 => ?_)
      · refine wp_iload 0 d_X6_bent_86 rfl ?_
        refine wp_istore [(4, .int (nI (((i) + (4)) + (n)))), (6, .int (nI (((i) + (4)) + (n)))), (5, .int (nI (r))), (3, .int (b)), (0, .ref (rho)), (1, .int (kd)), (2, .ref (43))] d_X6_bent_88 (Nat.le_of_ble_eq_true rfl) rfl ?_
        refine wp_iinc (v0 := nI ((r) + 1)) [(5, .int (nI ((r) + 1))), (4, .int (nI (((i) + (4)) + (n)))), (6, .int (nI (((i) + (4)) + (n)))), (3, .int (b)), (0, .ref (rho)), (1, .int (kd)), (2, .ref (43))] 2 d_X6_bent_90 rfl (nI_add (r) 1) (Nat.le_of_ble_eq_true rfl) rfl ?_
        refine wp_goto 10 d_X6_bent_93 rfl ?_
        simp only [kbent, e3]
        rw [if_neg (by rintro ⟨q1, q2⟩; first | exact absurd q1 c46 | (rw [e4] at c60; exact absurd q2 c60))]
        refine wp_sub [(5, .int (nI ((r) + 1))), (4, .int (nI (((i) + (4)) + (n)))), (3, .int (b)), (0, .ref (rho)), (1, .int (kd)), (2, .ref (43))] [0, 1, 3, 4, 5, 6] rfl ?_
        exact ih k1 (by omega) (r + 1) (i + 4 + n) (by omega) hwf1 (by omega)
      · refine wp_aload_n 4 d_X6_bent_49 rfl rfl ?_
        refine wp_iload 2 d_X6_bent_50 rfl ?_
        refine wp_iconst (v0 := 4) d_X6_bent_52 rfl ?_
        refine wp_iadd d_X6_bent_53 ?_
        refine wp_v (v0 := nI ((i) + (4))) (nI_add (i) (4)) ?_
        refine wp_iload 0 d_X6_bent_54 rfl ?_
        refine wp_aload_n 6 d_X6_bent_56 rfl rfl ?_
        refine wp_vrt_i (As := [.int (nI ((i) + (4))), .int (nI (((i) + (4)) + (n))), .ref (43)]) (x0 := kb (kfold (w.2.1 43) code ((((i) + (4)) + (n)) - ((i) + (4))) ((i) + (4)) 1 &&& 1 = 1)) (h1 := HP c w m v E) d_X6_bent_57 lk_X6_23 mv_X6_holds in_X6_holds se_X6_holds (Nat.le_of_ble_eq_true rfl) (Nat.le_of_ble_eq_true rfl) (hR _ _ _ _).1 rfl (s_X6_holds (a := (i) + (4)) (e := ((i) + (4)) + (n)) hR hL (by omega) (by omega)) ?_
        refine wp_ifb_eq 86 d_X6_bent_60 rfl (fun c60 => ?_) (fun c60 => ?_)
        · refine wp_iload 0 d_X6_bent_86 rfl ?_
          refine wp_istore [(4, .int (nI (((i) + (4)) + (n)))), (6, .int (nI (((i) + (4)) + (n)))), (5, .int (nI (r))), (3, .int (b)), (0, .ref (rho)), (1, .int (kd)), (2, .ref (43))] d_X6_bent_88 (Nat.le_of_ble_eq_true rfl) rfl ?_
          refine wp_iinc (v0 := nI ((r) + 1)) [(5, .int (nI ((r) + 1))), (4, .int (nI (((i) + (4)) + (n)))), (6, .int (nI (((i) + (4)) + (n)))), (3, .int (b)), (0, .ref (rho)), (1, .int (kd)), (2, .ref (43))] 2 d_X6_bent_90 rfl (nI_add (r) 1) (Nat.le_of_ble_eq_true rfl) rfl ?_
          refine wp_goto 10 d_X6_bent_93 rfl ?_
          simp only [kbent, e3]
          rw [if_neg (by rintro ⟨q1, q2⟩; first | exact absurd q1 c46 | (rw [e4] at c60; exact absurd q2 c60))]
          refine wp_sub [(5, .int (nI ((r) + 1))), (4, .int (nI (((i) + (4)) + (n)))), (3, .int (b)), (0, .ref (rho)), (1, .int (kd)), (2, .ref (43))] [0, 1, 3, 4, 5, 6] rfl ?_
          exact ih k1 (by omega) (r + 1) (i + 4 + n) (by omega) hwf1 (by omega)
        · refine wp_iload_n 3 d_X6_bent_63 rfl rfl ?_
          refine wp_aload_n 4 d_X6_bent_64 rfl rfl ?_
          refine wp_getfield (v := .ref (ka)) d_X6_bent_65 gf_X6_13 (hR _ _ _ _).1 rfl ?_
          refine wp_iload 2 d_X6_bent_68 rfl ?_
          refine wp_iconst (v0 := 1) d_X6_bent_70 rfl ?_
          refine wp_iadd d_X6_bent_71 ?_
          refine wp_v (v0 := nI ((i) + (1))) (nI_add (i) (1)) ?_
          refine wp_iaload (v := code ((i) + (1))) d_X6_bent_72 (hR _ _ _ _).2 (vp_in_nI (by omega) (by omega)) (congrArg (code) (nI_clamp (by omega))) ?_
          refine wp_aload_n 4 d_X6_bent_73 rfl rfl ?_
          refine wp_getfield (v := .ref (ka)) d_X6_bent_74 gf_X6_13 (hR _ _ _ _).1 rfl ?_
          refine wp_iload 2 d_X6_bent_77 rfl ?_
          refine wp_iconst (v0 := 2) d_X6_bent_79 rfl ?_
          refine wp_iadd d_X6_bent_80 ?_
          refine wp_v (v0 := nI ((i) + (2))) (nI_add (i) (2)) ?_
          refine wp_iaload (v := code ((i) + (2))) d_X6_bent_81 (hR _ _ _ _).2 (vp_in_nI (by omega) (by omega)) (congrArg (code) (nI_clamp (by omega))) ?_
          refine wp_stc_i (As := [.int (b), .int (code ((i) + (1))), .int (code ((i) + (2)))]) (x0 := kchg (b) (code ((i) + (1))) (code ((i) + (2)))) (h1 := HP c w m v E) d_X6_bent_82 lk_X6_27 mv_X6_changed st_X6_changed (Nat.le_of_ble_eq_true rfl) (Nat.le_of_ble_eq_true rfl) (s_X6_changed _ (b) (code ((i) + (1))) (code ((i) + (2)))) ?_
          refine wp_reti d_X6_bent_85 rfl ?_
          refine kR_i ?_ rfl
          simp only [kbent, e3]
          rw [if_pos ⟨c46, by rw [e4] at c60; exact c60⟩]
theorem s_X6_bent {X : kX} {d : Nat} {c w m v : kZ} {E : kH} {rho cnt ka L : Nat} {code : Nat → Int32} (hR : kRu E rho cnt ka L code) (hL : L < 2 ^ 20) (hc8 : cnt ≤ 8) (hwf : kWF code L cnt 0) (kd : Int32) (hk : 1 ≤ kd.toInt ∧ kd.toInt ≤ 5) : WP X (d + 3) 0 0 Y_X6_bent 0 [(0, .ref (rho)), (1, .int (kd)), (2, .ref (43))] [] (HP c w m v E) (kR (some (.int (kbent (w.2.1 43) code kd ((w.2.1 43) 3) cnt 0))) (HP c w m v E)) := by
  refine wp_aload_n 2 d_X6_bent_0 rfl rfl ?_
  refine wp_iconst (v0 := 3) d_X6_bent_1 rfl ?_
  refine wp_iaload (v := (w.2.1 43) (3)) d_X6_bent_2 (hp_43 _ _ _ _ _) (kin rfl) rfl ?_
  refine wp_istore_n [(3, .int ((w.2.1 43) (3))), (0, .ref (rho)), (1, .int (kd)), (2, .ref (43))] d_X6_bent_3 rfl (Nat.le_of_ble_eq_true rfl) rfl ?_
  refine wp_iconst (v0 := 0) d_X6_bent_4 rfl ?_
  refine wp_istore [(4, .int (0)), (3, .int ((w.2.1 43) (3))), (0, .ref (rho)), (1, .int (kd)), (2, .ref (43))] d_X6_bent_5 (Nat.le_of_ble_eq_true rfl) rfl ?_
  refine wp_iconst (v0 := 0) d_X6_bent_7 rfl ?_
  refine wp_istore [(5, .int (0)), (4, .int (0)), (3, .int ((w.2.1 43) (3))), (0, .ref (rho)), (1, .int (kd)), (2, .ref (43))] d_X6_bent_8 (Nat.le_of_ble_eq_true rfl) rfl ?_
  refine wp_sub [(5, .int (0)), (4, .int (0)), (3, .int ((w.2.1 43) (3))), (0, .ref (rho)), (1, .int (kd)), (2, .ref (43))] [0, 1, 2, 3, 4, 5] rfl ?_
  exact s_X6_bent_l hR hL hc8 kd _ hk cnt 0 0 (by omega) hwf (by omega)
def kclip (u : Int32) : Int32 := if -9 < (if u < 9 then u else 9) then (if u < 9 then u else 9) else -9
def kunc (kd b heat : Int32) : Int32 := if kd = 1 then b / 2 else if kd = 2 then b + heat else if kd = 3 then b + heat - 1 else if kd = 4 then 2 * b else -2 * b
theorem s_X5_strengthOf {X : kX} {d : Nat} (h : kH) (kd b e : Int32) : WP X (d + 1) 0 0 Y_X5_strengthOf 0 [(0, .int kd), (1, .int b), (2, .int e)] [] h (kR (some (.int (kclip (kunc kd b e)))) h) := by
  refine wp_iload_n 0 d_X5_strengthOf_0 rfl rfl ?_
  refine wp_if (P := (kd) = 1) (fun c1 => ?_) (fun c1_1 => ?_)
  · refine wp_tableIn 32 d_X5_strengthOf_1 (by rw [c1] <;> decide) (by rw [c1] <;> decide) (by rw [c1] <;> rfl) rfl ?_
    refine wp_iload_n 1 d_X5_strengthOf_32 rfl rfl ?_
    refine wp_iconst (v0 := 2) d_X5_strengthOf_33 rfl ?_
    refine wp_idiv d_X5_strengthOf_34 (by decide) ?_
    refine wp_istore_n [(3, .int ((b) / (2))), (0, .int (kd)), (1, .int (b)), (2, .int (e))] d_X5_strengthOf_35 rfl (Nat.le_of_ble_eq_true rfl) rfl ?_
    refine wp_goto 67 d_X5_strengthOf_36 rfl ?_
    refine wp_bipush (v0 := -9) d_X5_strengthOf_67 (by decide) ?_
    refine wp_bipush (v0 := 9) d_X5_strengthOf_69 (by decide) ?_
    refine wp_iload_n 0 d_X5_strengthOf_71 rfl rfl ?_
    refine wp_mmin d_X5_strengthOf_72 mk_X5_78 mst_min ini_J9 mco_min (Nat.le_of_ble_eq_true rfl) ?_
    refine wp_mmax d_X5_strengthOf_75 mk_X5_84 mst_max ini_J9 mco_max (Nat.le_of_ble_eq_true rfl) ?_
    refine wp_reti d_X5_strengthOf_78 rfl ?_
    refine kR_i ?_ rfl
    simp_all [kunc, kclip]
  refine wp_if (P := (kd) = 2) (fun c1 => ?_) (fun c1_2 => ?_)
  · refine wp_tableIn 39 d_X5_strengthOf_1 (by rw [c1] <;> decide) (by rw [c1] <;> decide) (by rw [c1] <;> rfl) rfl ?_
    refine wp_iload_n 1 d_X5_strengthOf_39 rfl rfl ?_
    refine wp_iload_n 2 d_X5_strengthOf_40 rfl rfl ?_
    refine wp_iadd d_X5_strengthOf_41 ?_
    refine wp_istore_n [(3, .int ((b) + (e))), (0, .int (kd)), (1, .int (b)), (2, .int (e))] d_X5_strengthOf_42 rfl (Nat.le_of_ble_eq_true rfl) rfl ?_
    refine wp_goto 67 d_X5_strengthOf_43 rfl ?_
    refine wp_bipush (v0 := -9) d_X5_strengthOf_67 (by decide) ?_
    refine wp_bipush (v0 := 9) d_X5_strengthOf_69 (by decide) ?_
    refine wp_iload_n 0 d_X5_strengthOf_71 rfl rfl ?_
    refine wp_mmin d_X5_strengthOf_72 mk_X5_78 mst_min ini_J9 mco_min (Nat.le_of_ble_eq_true rfl) ?_
    refine wp_mmax d_X5_strengthOf_75 mk_X5_84 mst_max ini_J9 mco_max (Nat.le_of_ble_eq_true rfl) ?_
    refine wp_reti d_X5_strengthOf_78 rfl ?_
    refine kR_i ?_ rfl
    simp_all [kunc, kclip]
  refine wp_if (P := (kd) = 3) (fun c1 => ?_) (fun c1_3 => ?_)
  · refine wp_tableIn 46 d_X5_strengthOf_1 (by rw [c1] <;> decide) (by rw [c1] <;> decide) (by rw [c1] <;> rfl) rfl ?_
    refine wp_iload_n 1 d_X5_strengthOf_46 rfl rfl ?_
    refine wp_iload_n 2 d_X5_strengthOf_47 rfl rfl ?_
    refine wp_iadd d_X5_strengthOf_48 ?_
    refine wp_iconst (v0 := 1) d_X5_strengthOf_49 rfl ?_
    refine wp_isub d_X5_strengthOf_50 ?_
    refine wp_istore_n [(3, .int (((b) + (e)) - (1))), (0, .int (kd)), (1, .int (b)), (2, .int (e))] d_X5_strengthOf_51 rfl (Nat.le_of_ble_eq_true rfl) rfl ?_
    refine wp_goto 67 d_X5_strengthOf_52 rfl ?_
    refine wp_bipush (v0 := -9) d_X5_strengthOf_67 (by decide) ?_
    refine wp_bipush (v0 := 9) d_X5_strengthOf_69 (by decide) ?_
    refine wp_iload_n 0 d_X5_strengthOf_71 rfl rfl ?_
    refine wp_mmin d_X5_strengthOf_72 mk_X5_78 mst_min ini_J9 mco_min (Nat.le_of_ble_eq_true rfl) ?_
    refine wp_mmax d_X5_strengthOf_75 mk_X5_84 mst_max ini_J9 mco_max (Nat.le_of_ble_eq_true rfl) ?_
    refine wp_reti d_X5_strengthOf_78 rfl ?_
    refine kR_i ?_ rfl
    simp_all [kunc, kclip]
  refine wp_if (P := (kd) = 4) (fun c1 => ?_) (fun c1_4 => ?_)
  · refine wp_tableIn 55 d_X5_strengthOf_1 (by rw [c1] <;> decide) (by rw [c1] <;> decide) (by rw [c1] <;> rfl) rfl ?_
    refine wp_iconst (v0 := 2) d_X5_strengthOf_55 rfl ?_
    refine wp_iload_n 1 d_X5_strengthOf_56 rfl rfl ?_
    refine wp_imul d_X5_strengthOf_57 ?_
    refine wp_istore_n [(3, .int ((2) * (b))), (0, .int (kd)), (1, .int (b)), (2, .int (e))] d_X5_strengthOf_58 rfl (Nat.le_of_ble_eq_true rfl) rfl ?_
    refine wp_goto 67 d_X5_strengthOf_59 rfl ?_
    refine wp_bipush (v0 := -9) d_X5_strengthOf_67 (by decide) ?_
    refine wp_bipush (v0 := 9) d_X5_strengthOf_69 (by decide) ?_
    refine wp_iload_n 0 d_X5_strengthOf_71 rfl rfl ?_
    refine wp_mmin d_X5_strengthOf_72 mk_X5_78 mst_min ini_J9 mco_min (Nat.le_of_ble_eq_true rfl) ?_
    refine wp_mmax d_X5_strengthOf_75 mk_X5_84 mst_max ini_J9 mco_max (Nat.le_of_ble_eq_true rfl) ?_
    refine wp_reti d_X5_strengthOf_78 rfl ?_
    refine kR_i ?_ rfl
    simp_all [kunc, kclip]
  refine wp_swd_X5_strengthOf_1 c1_1 c1_2 c1_3 c1_4 ?_
  refine wp_bipush (v0 := -2) d_X5_strengthOf_62 (by decide) ?_
  refine wp_iload_n 1 d_X5_strengthOf_64 rfl rfl ?_
  refine wp_imul d_X5_strengthOf_65 ?_
  refine wp_istore_n [(3, .int (((-2)) * (b))), (0, .int (kd)), (1, .int (b)), (2, .int (e))] d_X5_strengthOf_66 rfl (Nat.le_of_ble_eq_true rfl) rfl ?_
  refine wp_bipush (v0 := -9) d_X5_strengthOf_67 (by decide) ?_
  refine wp_bipush (v0 := 9) d_X5_strengthOf_69 (by decide) ?_
  refine wp_iload_n 0 d_X5_strengthOf_71 rfl rfl ?_
  refine wp_mmin d_X5_strengthOf_72 mk_X5_78 mst_min ini_J9 mco_min (Nat.le_of_ble_eq_true rfl) ?_
  refine wp_mmax d_X5_strengthOf_75 mk_X5_84 mst_max ini_J9 mco_max (Nat.le_of_ble_eq_true rfl) ?_
  refine wp_reti d_X5_strengthOf_78 rfl ?_
  refine kR_i ?_ rfl
  simp_all [kunc, kclip]
