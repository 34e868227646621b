/-! ===== class: the text's small methods ===== -/
abbrev qLt (b : Int32) : Prop := 97 ≤ b.toInt ∧ b.toInt ≤ 122
abbrev qDg (b : Int32) : Prop := 48 ≤ b.toInt ∧ b.toInt ≤ 57
abbrev qSg (b : Int32) : Prop := b = 59 ∨ b = 40 ∨ b = 41 ∨ b = 60 ∨ b = 61 ∨ b = 62
def qend (P : Int32 → Bool) (b : Nat → Int32) : Nat → Nat → Nat
  | 0, e => e
  | k + 1, e => if P (b e) then qend P b k (e + 1) else e
def qnum (b : Nat → Int32) (fr : Nat) : Nat → Int32
  | 0 => 0
  | k + 1 => 10 * qnum b fr k + b (fr + k) - 48
def qnm (b : Nat → Int32) (fr ls : Nat) : List Int32 → Nat → Nat → Bool → Int32
  | [], _, _, _ => 18
  | x :: xs, nm, lt, sm => if x = 32 then (if sm = true ∧ lt = ls then nI nm else qnm b fr ls xs (nm + 1) 0 true) else qnm b fr ls xs nm (lt + 1) (sm && decide (lt < ls) && decide (b (fr + lt) = x))
theorem kBYT_ch : ∀ i : Fin 92, ((Int32.toUInt32 ((kBYT.getD i.val 0) &&& 255)) % 65536).toInt32 = kBYT.getD i.val 0 := by decide +kernel
theorem kBYT_nar : ∀ i : Fin 92, narrow .char (.int (kBYT.getD i.val 0)) = .int (kBYT.getD i.val 0) := by decide +kernel
theorem wp_vrS_i {X : kX} {d mc ms : Nat} {y y' : kM} {pc : Nat} {ls : List (Nat × Value)} {st As : List Value} {h h1 : kH} {Q : Option Value → kH → Prop} {x0 : Int32} {idx : Nat} (hd : decode y.2.1 pc = .ok (.invokevirtual idx, 3)) (hk : Cond.methodLink y.1.cls idx y'.1 ∈ kTB) (hm : kMV y' As.length) (hin : Cond.instanceMethod y'.1 ∈ kTB) (hse : Cond.selects y'.1.cls y'.1 y'.1 ∈ kTB) (hlen : (lg_sl (.float 4 :: As)).length ≤ y'.2.2.1) (hcat : (st.map fun v => v.category).sum ≤ 8) (hrc : "java/lang/String" = y'.1.cls) (callee : WP X d 0 0 y' 0 (lv_args 0 (.float 4 :: As)) [] h (kR (some (.int x0)) h1)) (kk : WP X (d + 1) mc ms y (pc + 3) ls (.int x0 :: st) h1 Q) : WP X (d + 1) mc ms y pc ls (As.reverse ++ .float 4 :: st) h Q := by
  have K := wp_virtualS (ls := ls) (st := st) (Q := Q) (mc := mc) (ms := ms) hd hk hm hin hse hlen hcat hrc callee (fun v h2 q => by
    obtain ⟨rfl, rfl⟩ := q
    exact kk)
  rwa [Nat.zero_add, Nat.zero_add] at K
theorem ls_X8_89 : Cond.methodLink "MendedTube$Text" 89 Y_J0_length_8abf5.1 ∈ kTB := km3 27 rfl rfl
theorem ls_J0_335 : Cond.methodLink "java/lang/String" 335 Y_J0_coder_7d493.1 ∈ kTB := km3 31 rfl rfl
theorem ls_X8_94 : Cond.methodLink "MendedTube$Text" 94 Y_J0_charAt_5068e.1 ∈ kTB := km3 37 rfl rfl
theorem ls_J0_492 : Cond.methodLink "java/lang/String" 492 Y_J0_isLatin1_aae02.1 ∈ kTB := km3 41 rfl rfl
theorem nI_nneg {n : Nat} (h : n < 200) : ¬ nI n < 0 := Int32.not_lt.mpr (nI_nn (by omega))
theorem s_X8_isLetter {X : kX} {d : Nat} (h : kH) (v0 : Int32) : WP X d 0 0 Y_X8_isLetter 0 [(0, .int (v0))] [] h (kR (some (.int (kb (97 ≤ v0.toInt ∧ v0.toInt ≤ 122)))) h) := by
  refine wp_iload_n 0 d_X8_isLetter_0 rfl rfl ?_
  refine wp_bipush (v0 := 97) d_X8_isLetter_1 (by decide) ?_
  refine wp_icmp_lt 16 d_X8_isLetter_3 rfl (fun zc3 => ?_) (fun zc3 => ?_)
  · refine wp_iconst (v0 := 0) d_X8_isLetter_16 rfl ?_
    refine wp_iret d_X8_isLetter_17 rfl k_nar0 ?_
    refine kR_i (Eq.symm (kb_f ?_)) rfl
    simp only [Int32.lt_iff_toInt_lt, Int32.le_iff_toInt_le, show (97 : Int32).toInt = 97 from rfl, show (122 : Int32).toInt = 122 from rfl] at *; omega
  · refine wp_iload_n 0 d_X8_isLetter_6 rfl rfl ?_
    refine wp_bipush (v0 := 122) d_X8_isLetter_7 (by decide) ?_
    refine wp_icmp_gt 16 d_X8_isLetter_9 rfl (fun zc9 => ?_) (fun zc9 => ?_)
    · refine wp_iconst (v0 := 0) d_X8_isLetter_16 rfl ?_
      refine wp_iret d_X8_isLetter_17 rfl k_nar0 ?_
      refine kR_i (Eq.symm (kb_f ?_)) rfl
      simp only [Int32.lt_iff_toInt_lt, Int32.le_iff_toInt_le, show (97 : Int32).toInt = 97 from rfl, show (122 : Int32).toInt = 122 from rfl] at *; omega
    · refine wp_iconst (v0 := 1) d_X8_isLetter_12 rfl ?_
      refine wp_goto 17 d_X8_isLetter_13 rfl ?_
      refine wp_iret d_X8_isLetter_17 rfl k_nar1 ?_
      refine kR_i (Eq.symm (kb_t ?_)) rfl
      simp only [Int32.lt_iff_toInt_lt, Int32.le_iff_toInt_le, show (97 : Int32).toInt = 97 from rfl, show (122 : Int32).toInt = 122 from rfl] at *; omega
theorem s_X8_isDigit {X : kX} {d : Nat} (h : kH) (v0 : Int32) : WP X d 0 0 Y_X8_isDigit 0 [(0, .int (v0))] [] h (kR (some (.int (kb (48 ≤ v0.toInt ∧ v0.toInt ≤ 57)))) h) := by
  refine wp_iload_n 0 d_X8_isDigit_0 rfl rfl ?_
  refine wp_bipush (v0 := 48) d_X8_isDigit_1 (by decide) ?_
  refine wp_icmp_lt 16 d_X8_isDigit_3 rfl (fun zc3 => ?_) (fun zc3 => ?_)
  · refine wp_iconst (v0 := 0) d_X8_isDigit_16 rfl ?_
    refine wp_iret d_X8_isDigit_17 rfl k_nar0 ?_
    refine kR_i (Eq.symm (kb_f ?_)) rfl
    simp only [Int32.lt_iff_toInt_lt, Int32.le_iff_toInt_le, show (48 : Int32).toInt = 48 from rfl, show (57 : Int32).toInt = 57 from rfl] at *; omega
  · refine wp_iload_n 0 d_X8_isDigit_6 rfl rfl ?_
    refine wp_bipush (v0 := 57) d_X8_isDigit_7 (by decide) ?_
    refine wp_icmp_gt 16 d_X8_isDigit_9 rfl (fun zc9 => ?_) (fun zc9 => ?_)
    · refine wp_iconst (v0 := 0) d_X8_isDigit_16 rfl ?_
      refine wp_iret d_X8_isDigit_17 rfl k_nar0 ?_
      refine kR_i (Eq.symm (kb_f ?_)) rfl
      simp only [Int32.lt_iff_toInt_lt, Int32.le_iff_toInt_le, show (48 : Int32).toInt = 48 from rfl, show (57 : Int32).toInt = 57 from rfl] at *; omega
    · refine wp_iconst (v0 := 1) d_X8_isDigit_12 rfl ?_
      refine wp_goto 17 d_X8_isDigit_13 rfl ?_
      refine wp_iret d_X8_isDigit_17 rfl k_nar1 ?_
      refine kR_i (Eq.symm (kb_t ?_)) rfl
      simp only [Int32.lt_iff_toInt_lt, Int32.le_iff_toInt_le, show (48 : Int32).toInt = 48 from rfl, show (57 : Int32).toInt = 57 from rfl] at *; omega
theorem s_X8_isSign {X : kX} {d : Nat} (h : kH) (v0 : Int32) : WP X d 0 0 Y_X8_isSign 0 [(0, .int (v0))] [] h (kR (some (.int (kb (v0 = 59 ∨ v0 = 40 ∨ v0 = 41 ∨ v0 = 60 ∨ v0 = 61 ∨ v0 = 62)))) h) := by
  refine wp_iload_n 0 d_X8_isSign_0 rfl rfl ?_
  refine wp_bipush (v0 := 59) d_X8_isSign_1 (by decide) ?_
  refine wp_icmp_eq 36 d_X8_isSign_3 rfl (fun zc3 => ?_) (fun zc3 => ?_)
  · refine wp_iconst (v0 := 1) d_X8_isSign_36 rfl ?_
    refine wp_goto 41 d_X8_isSign_37 rfl ?_
    refine wp_iret d_X8_isSign_41 rfl k_nar1 ?_
    refine kR_i (Eq.symm (kb_t ?_)) rfl
    simp_all
  · refine wp_iload_n 0 d_X8_isSign_6 rfl rfl ?_
    refine wp_bipush (v0 := 40) d_X8_isSign_7 (by decide) ?_
    refine wp_icmp_eq 36 d_X8_isSign_9 rfl (fun zc9 => ?_) (fun zc9 => ?_)
    · refine wp_iconst (v0 := 1) d_X8_isSign_36 rfl ?_
      refine wp_goto 41 d_X8_isSign_37 rfl ?_
      refine wp_iret d_X8_isSign_41 rfl k_nar1 ?_
      refine kR_i (Eq.symm (kb_t ?_)) rfl
      simp_all
    · refine wp_iload_n 0 d_X8_isSign_12 rfl rfl ?_
      refine wp_bipush (v0 := 41) d_X8_isSign_13 (by decide) ?_
      refine wp_icmp_eq 36 d_X8_isSign_15 rfl (fun zc15 => ?_) (fun zc15 => ?_)
      · refine wp_iconst (v0 := 1) d_X8_isSign_36 rfl ?_
        refine wp_goto 41 d_X8_isSign_37 rfl ?_
        refine wp_iret d_X8_isSign_41 rfl k_nar1 ?_
        refine kR_i (Eq.symm (kb_t ?_)) rfl
        simp_all
      · refine wp_iload_n 0 d_X8_isSign_18 rfl rfl ?_
        refine wp_bipush (v0 := 60) d_X8_isSign_19 (by decide) ?_
        refine wp_icmp_eq 36 d_X8_isSign_21 rfl (fun zc21 => ?_) (fun zc21 => ?_)
        · refine wp_iconst (v0 := 1) d_X8_isSign_36 rfl ?_
          refine wp_goto 41 d_X8_isSign_37 rfl ?_
          refine wp_iret d_X8_isSign_41 rfl k_nar1 ?_
          refine kR_i (Eq.symm (kb_t ?_)) rfl
          simp_all
        · refine wp_iload_n 0 d_X8_isSign_24 rfl rfl ?_
          refine wp_bipush (v0 := 61) d_X8_isSign_25 (by decide) ?_
          refine wp_icmp_eq 36 d_X8_isSign_27 rfl (fun zc27 => ?_) (fun zc27 => ?_)
          · refine wp_iconst (v0 := 1) d_X8_isSign_36 rfl ?_
            refine wp_goto 41 d_X8_isSign_37 rfl ?_
            refine wp_iret d_X8_isSign_41 rfl k_nar1 ?_
            refine kR_i (Eq.symm (kb_t ?_)) rfl
            simp_all
          · refine wp_iload_n 0 d_X8_isSign_30 rfl rfl ?_
            refine wp_bipush (v0 := 62) d_X8_isSign_31 (by decide) ?_
            refine wp_icmp_ne 40 d_X8_isSign_33 rfl (fun zc33 => ?_) (fun zc33 => ?_)
            · refine wp_iconst (v0 := 0) d_X8_isSign_40 rfl ?_
              refine wp_iret d_X8_isSign_41 rfl k_nar0 ?_
              refine kR_i (Eq.symm (kb_f ?_)) rfl
              simp_all
            · refine wp_iconst (v0 := 1) d_X8_isSign_36 rfl ?_
              refine wp_goto 41 d_X8_isSign_37 rfl ?_
              refine wp_iret d_X8_isSign_41 rfl k_nar1 ?_
              refine kR_i (Eq.symm (kb_t ?_)) rfl
              simp_all
theorem s_X8_isInWord {X : kX} {d : Nat} {c w m v : kZ} {E : kH} {i : Nat} (hi : i < 200) : WP X (d + 1) 0 0 Y_X8_isInWord 0 [(0, .ref (37)), (1, .int (nI (i)))] [] (HP c w m v E) (kR (some (.int (kb (1 ≤ i ∧ ((qLt (c.2.1 38 (i - 1)) ∧ qLt (c.2.1 38 i)) ∨ (qDg (c.2.1 38 (i - 1)) ∧ qDg (c.2.1 38 i))))))) (HP c w m v E)) := by
  refine wp_iload_n 1 d_X8_isInWord_0 rfl rfl ?_
  refine wp_iconst (v0 := 1) d_X8_isInWord_1 rfl ?_
  refine wp_ncmp_ge (a := i) (b := 1) 7 d_X8_isInWord_2 rfl (by omega) (by omega) (fun zc2 => ?_) (fun zc2 => ?_)
  · refine wp_aload_n 0 d_X8_isInWord_7 rfl rfl ?_
    refine wp_getfield (v := .ref (38)) d_X8_isInWord_8 gf_X8_9 (hp_37 _ _ _ _ _) rfl ?_
    refine wp_iload_n 1 d_X8_isInWord_11 rfl rfl ?_
    refine wp_iconst (v0 := 1) d_X8_isInWord_12 rfl ?_
    refine wp_isub d_X8_isInWord_13 ?_
    refine wp_v (v0 := nI ((i) - (1))) (pk_sub (a := i) (b := 1) (by omega)) ?_
    refine wp_iaload (v := (c.2.1 38) ((i) - (1))) d_X8_isInWord_14 (hp_38 _ _ _ _ _) (vp_in_nI (by omega) (by omega)) (congrArg ((c.2.1 38)) (nI_clamp (by omega))) ?_
    refine wp_stc_i (As := [.int ((c.2.1 38) ((i) - (1)))]) (x0 := kb (97 ≤ ((c.2.1 38) ((i) - (1)) : Int32).toInt ∧ ((c.2.1 38) ((i) - (1)) : Int32).toInt ≤ 122)) (h1 := HP c w m v E) d_X8_isInWord_15 lk_X8_72 mv_X8_isLetter st_X8_isLetter (Nat.le_of_ble_eq_true rfl) (Nat.le_of_ble_eq_true rfl) (s_X8_isLetter _ ((c.2.1 38) ((i) - (1)) : Int32)) ?_
    refine wp_ifb_eq 33 d_X8_isInWord_18 rfl (fun zc18 => ?_) (fun zc18 => ?_)
    · refine wp_aload_n 0 d_X8_isInWord_33 rfl rfl ?_
      refine wp_getfield (v := .ref (38)) d_X8_isInWord_34 gf_X8_9 (hp_37 _ _ _ _ _) rfl ?_
      refine wp_iload_n 1 d_X8_isInWord_37 rfl rfl ?_
      refine wp_iconst (v0 := 1) d_X8_isInWord_38 rfl ?_
      refine wp_isub d_X8_isInWord_39 ?_
      refine wp_v (v0 := nI ((i) - (1))) (pk_sub (a := i) (b := 1) (by omega)) ?_
      refine wp_iaload (v := (c.2.1 38) ((i) - (1))) d_X8_isInWord_40 (hp_38 _ _ _ _ _) (vp_in_nI (by omega) (by omega)) (congrArg ((c.2.1 38)) (nI_clamp (by omega))) ?_
      refine wp_stc_i (As := [.int ((c.2.1 38) ((i) - (1)))]) (x0 := kb (48 ≤ ((c.2.1 38) ((i) - (1)) : Int32).toInt ∧ ((c.2.1 38) ((i) - (1)) : Int32).toInt ≤ 57)) (h1 := HP c w m v E) d_X8_isInWord_41 lk_X8_75 mv_X8_isDigit st_X8_isDigit (Nat.le_of_ble_eq_true rfl) (Nat.le_of_ble_eq_true rfl) (s_X8_isDigit _ ((c.2.1 38) ((i) - (1)) : Int32)) ?_
      refine wp_ifb_eq 63 d_X8_isInWord_44 rfl (fun zc44 => ?_) (fun zc44 => ?_)
      · refine wp_iconst (v0 := 0) d_X8_isInWord_63 rfl ?_
        refine wp_iret d_X8_isInWord_64 rfl k_nar0 ?_
        exact kR_i (Eq.symm (kb_f (by omega))) rfl
      · refine wp_aload_n 0 d_X8_isInWord_47 rfl rfl ?_
        refine wp_getfield (v := .ref (38)) d_X8_isInWord_48 gf_X8_9 (hp_37 _ _ _ _ _) rfl ?_
        refine wp_iload_n 1 d_X8_isInWord_51 rfl rfl ?_
        refine wp_iaload (v := (c.2.1 38) (i)) d_X8_isInWord_52 (hp_38 _ _ _ _ _) (vp_in_nI (by omega) (by omega)) (congrArg ((c.2.1 38)) (nI_clamp (by omega))) ?_
        refine wp_stc_i (As := [.int ((c.2.1 38) (i))]) (x0 := kb (48 ≤ ((c.2.1 38) (i) : Int32).toInt ∧ ((c.2.1 38) (i) : Int32).toInt ≤ 57)) (h1 := HP c w m v E) d_X8_isInWord_53 lk_X8_75 mv_X8_isDigit st_X8_isDigit (Nat.le_of_ble_eq_true rfl) (Nat.le_of_ble_eq_true rfl) (s_X8_isDigit _ ((c.2.1 38) (i) : Int32)) ?_
        refine wp_ifb_eq 63 d_X8_isInWord_56 rfl (fun zc56 => ?_) (fun zc56 => ?_)
        · refine wp_iconst (v0 := 0) d_X8_isInWord_63 rfl ?_
          refine wp_iret d_X8_isInWord_64 rfl k_nar0 ?_
          exact kR_i (Eq.symm (kb_f (by omega))) rfl
        · refine wp_iconst (v0 := 1) d_X8_isInWord_59 rfl ?_
          refine wp_goto 64 d_X8_isInWord_60 rfl ?_
          refine wp_iret d_X8_isInWord_64 rfl k_nar1 ?_
          exact kR_i (Eq.symm (kb_t (by omega))) rfl
    · refine wp_aload_n 0 d_X8_isInWord_21 rfl rfl ?_
      refine wp_getfield (v := .ref (38)) d_X8_isInWord_22 gf_X8_9 (hp_37 _ _ _ _ _) rfl ?_
      refine wp_iload_n 1 d_X8_isInWord_25 rfl rfl ?_
      refine wp_iaload (v := (c.2.1 38) (i)) d_X8_isInWord_26 (hp_38 _ _ _ _ _) (vp_in_nI (by omega) (by omega)) (congrArg ((c.2.1 38)) (nI_clamp (by omega))) ?_
      refine wp_stc_i (As := [.int ((c.2.1 38) (i))]) (x0 := kb (97 ≤ ((c.2.1 38) (i) : Int32).toInt ∧ ((c.2.1 38) (i) : Int32).toInt ≤ 122)) (h1 := HP c w m v E) d_X8_isInWord_27 lk_X8_72 mv_X8_isLetter st_X8_isLetter (Nat.le_of_ble_eq_true rfl) (Nat.le_of_ble_eq_true rfl) (s_X8_isLetter _ ((c.2.1 38) (i) : Int32)) ?_
      refine wp_ifb_ne 59 d_X8_isInWord_30 rfl (fun zc30 => ?_) (fun zc30 => ?_)
      · refine wp_iconst (v0 := 1) d_X8_isInWord_59 rfl ?_
        refine wp_goto 64 d_X8_isInWord_60 rfl ?_
        refine wp_iret d_X8_isInWord_64 rfl k_nar1 ?_
        exact kR_i (Eq.symm (kb_t (by omega))) rfl
      · refine wp_aload_n 0 d_X8_isInWord_33 rfl rfl ?_
        refine wp_getfield (v := .ref (38)) d_X8_isInWord_34 gf_X8_9 (hp_37 _ _ _ _ _) rfl ?_
        refine wp_iload_n 1 d_X8_isInWord_37 rfl rfl ?_
        refine wp_iconst (v0 := 1) d_X8_isInWord_38 rfl ?_
        refine wp_isub d_X8_isInWord_39 ?_
        refine wp_v (v0 := nI ((i) - (1))) (pk_sub (a := i) (b := 1) (by omega)) ?_
        refine wp_iaload (v := (c.2.1 38) ((i) - (1))) d_X8_isInWord_40 (hp_38 _ _ _ _ _) (vp_in_nI (by omega) (by omega)) (congrArg ((c.2.1 38)) (nI_clamp (by omega))) ?_
        refine wp_stc_i (As := [.int ((c.2.1 38) ((i) - (1)))]) (x0 := kb (48 ≤ ((c.2.1 38) ((i) - (1)) : Int32).toInt ∧ ((c.2.1 38) ((i) - (1)) : Int32).toInt ≤ 57)) (h1 := HP c w m v E) d_X8_isInWord_41 lk_X8_75 mv_X8_isDigit st_X8_isDigit (Nat.le_of_ble_eq_true rfl) (Nat.le_of_ble_eq_true rfl) (s_X8_isDigit _ ((c.2.1 38) ((i) - (1)) : Int32)) ?_
        refine wp_ifb_eq 63 d_X8_isInWord_44 rfl (fun zc44 => ?_) (fun zc44 => ?_)
        · refine wp_iconst (v0 := 0) d_X8_isInWord_63 rfl ?_
          refine wp_iret d_X8_isInWord_64 rfl k_nar0 ?_
          exact kR_i (Eq.symm (kb_f (by omega))) rfl
        · refine wp_aload_n 0 d_X8_isInWord_47 rfl rfl ?_
          refine wp_getfield (v := .ref (38)) d_X8_isInWord_48 gf_X8_9 (hp_37 _ _ _ _ _) rfl ?_
          refine wp_iload_n 1 d_X8_isInWord_51 rfl rfl ?_
          refine wp_iaload (v := (c.2.1 38) (i)) d_X8_isInWord_52 (hp_38 _ _ _ _ _) (vp_in_nI (by omega) (by omega)) (congrArg ((c.2.1 38)) (nI_clamp (by omega))) ?_
          refine wp_stc_i (As := [.int ((c.2.1 38) (i))]) (x0 := kb (48 ≤ ((c.2.1 38) (i) : Int32).toInt ∧ ((c.2.1 38) (i) : Int32).toInt ≤ 57)) (h1 := HP c w m v E) d_X8_isInWord_53 lk_X8_75 mv_X8_isDigit st_X8_isDigit (Nat.le_of_ble_eq_true rfl) (Nat.le_of_ble_eq_true rfl) (s_X8_isDigit _ ((c.2.1 38) (i) : Int32)) ?_
          refine wp_ifb_eq 63 d_X8_isInWord_56 rfl (fun zc56 => ?_) (fun zc56 => ?_)
          · refine wp_iconst (v0 := 0) d_X8_isInWord_63 rfl ?_
            refine wp_iret d_X8_isInWord_64 rfl k_nar0 ?_
            exact kR_i (Eq.symm (kb_f (by omega))) rfl
          · refine wp_iconst (v0 := 1) d_X8_isInWord_59 rfl ?_
            refine wp_goto 64 d_X8_isInWord_60 rfl ?_
            refine wp_iret d_X8_isInWord_64 rfl k_nar1 ?_
            exact kR_i (Eq.symm (kb_t (by omega))) rfl
  · refine wp_iconst (v0 := 0) d_X8_isInWord_5 rfl ?_
    refine wp_iret d_X8_isInWord_6 rfl k_nar0 ?_
    exact kR_i (Eq.symm (kb_f (by omega))) rfl
theorem s_X8_endOfWord_a {X : kX} {d : Nat} {c w m v : kZ} {E : kH} {T : Nat} (hT : c.1 3701 = nI T) (hT2 : T ≤ 200) {i r : Nat} : ∀ (k : Nat) (e : Nat), (e + k = T) → (qend (fun x => decide (qLt x)) (c.2.1 38) k e = r) → WP X (d + 1) 0 0 Y_X8_endOfWord 16 [(2, .int (nI (e))), (0, .ref (37)), (1, .int (nI (i)))] [] (HP c w m v E) (kR (some (.int (nI r))) (HP c w m v E)) := by
  intro k
  induction k using Nat.strongRecOn with
  | ind k ih =>
    intro e he hr
    refine wp_iload_n 0 d_X8_endOfWord_16 rfl rfl ?_
    refine wp_aload_n 1 d_X8_endOfWord_17 rfl rfl ?_
    refine wp_getfield (v := .int (nI (T))) d_X8_endOfWord_18 gf_X8_26 (hp_37 _ _ _ _ _) (congrArg (fun z => some (Value.int z)) hT) ?_
    refine wp_ncmp_ge (a := e) (b := T) 80 d_X8_endOfWord_21 rfl (by omega) (by omega) (fun zc21 => ?_) (fun zc21 => ?_)
    · refine wp_iload_n 0 d_X8_endOfWord_80 rfl rfl ?_
      refine wp_reti d_X8_endOfWord_81 rfl ?_
      obtain rfl : k = 0 := by omega
      simp only [qend] at hr
      exact kR_i (congrArg nI hr) rfl
    · refine wp_aload_n 1 d_X8_endOfWord_24 rfl rfl ?_
      refine wp_getfield (v := .ref (38)) d_X8_endOfWord_25 gf_X8_9 (hp_37 _ _ _ _ _) rfl ?_
      refine wp_iload_n 0 d_X8_endOfWord_28 rfl rfl ?_
      refine wp_iaload (v := (c.2.1 38) (e)) d_X8_endOfWord_29 (hp_38 _ _ _ _ _) (vp_in_nI (by omega) (by omega)) (congrArg ((c.2.1 38)) (nI_clamp (by omega))) ?_
      refine wp_stc_i (As := [.int ((c.2.1 38) (e))]) (x0 := kb (97 ≤ ((c.2.1 38) (e) : Int32).toInt ∧ ((c.2.1 38) (e) : Int32).toInt ≤ 122)) (h1 := HP c w m v E) d_X8_endOfWord_30 lk_X8_72 mv_X8_isLetter st_X8_isLetter (Nat.le_of_ble_eq_true rfl) (Nat.le_of_ble_eq_true rfl) (s_X8_isLetter _ ((c.2.1 38) (e) : Int32)) ?_
      refine wp_ifb_eq 80 d_X8_endOfWord_33 rfl (fun zc33 => ?_) (fun zc33 => ?_)
      · refine wp_iload_n 0 d_X8_endOfWord_80 rfl rfl ?_
        refine wp_reti d_X8_endOfWord_81 rfl ?_
        obtain ⟨k1, rfl⟩ : ∃ k1, k = k1 + 1 := ⟨k - 1, by omega⟩
        simp only [qend] at hr
        rw [if_neg (fun z => zc33 (of_decide_eq_true z))] at hr
        exact kR_i (congrArg nI hr) rfl
      · refine wp_iinc (v0 := nI ((e) + 1)) [(2, .int (nI ((e) + 1))), (0, .ref (37)), (1, .int (nI (i)))] 0 d_X8_endOfWord_36 rfl (nI_add (e) 1) (Nat.le_of_ble_eq_true rfl) rfl ?_
        refine wp_goto 16 d_X8_endOfWord_39 rfl ?_
        obtain ⟨k1, rfl⟩ : ∃ k1, k = k1 + 1 := ⟨k - 1, by omega⟩
        refine wp_sub [(2, .int (nI ((e) + 1))), (0, .ref (37)), (1, .int (nI (i)))] [0, 1, 2] rfl ?_
        simp only [qend] at hr
        rw [if_pos (decide_eq_true zc33)] at hr
        exact ih k1 (by omega) (e + 1) (by omega) hr
theorem s_X8_endOfWord_b {X : kX} {d : Nat} {c w m v : kZ} {E : kH} {T : Nat} (hT : c.1 3701 = nI T) (hT2 : T ≤ 200) {i r : Nat} : ∀ (k : Nat) (e : Nat), (e + k = T) → (qend (fun x => decide (qDg x)) (c.2.1 38) k e = r) → WP X (d + 1) 0 0 Y_X8_endOfWord 54 [(2, .int (nI (e))), (0, .ref (37)), (1, .int (nI (i)))] [] (HP c w m v E) (kR (some (.int (nI r))) (HP c w m v E)) := by
  intro k
  induction k using Nat.strongRecOn with
  | ind k ih =>
    intro e he hr
    refine wp_iload_n 0 d_X8_endOfWord_54 rfl rfl ?_
    refine wp_aload_n 1 d_X8_endOfWord_55 rfl rfl ?_
    refine wp_getfield (v := .int (nI (T))) d_X8_endOfWord_56 gf_X8_26 (hp_37 _ _ _ _ _) (congrArg (fun z => some (Value.int z)) hT) ?_
    refine wp_ncmp_ge (a := e) (b := T) 80 d_X8_endOfWord_59 rfl (by omega) (by omega) (fun zc59 => ?_) (fun zc59 => ?_)
    · refine wp_iload_n 0 d_X8_endOfWord_80 rfl rfl ?_
      refine wp_reti d_X8_endOfWord_81 rfl ?_
      obtain rfl : k = 0 := by omega
      simp only [qend] at hr
      exact kR_i (congrArg nI hr) rfl
    · refine wp_aload_n 1 d_X8_endOfWord_62 rfl rfl ?_
      refine wp_getfield (v := .ref (38)) d_X8_endOfWord_63 gf_X8_9 (hp_37 _ _ _ _ _) rfl ?_
      refine wp_iload_n 0 d_X8_endOfWord_66 rfl rfl ?_
      refine wp_iaload (v := (c.2.1 38) (e)) d_X8_endOfWord_67 (hp_38 _ _ _ _ _) (vp_in_nI (by omega) (by omega)) (congrArg ((c.2.1 38)) (nI_clamp (by omega))) ?_
      refine wp_stc_i (As := [.int ((c.2.1 38) (e))]) (x0 := kb (48 ≤ ((c.2.1 38) (e) : Int32).toInt ∧ ((c.2.1 38) (e) : Int32).toInt ≤ 57)) (h1 := HP c w m v E) d_X8_endOfWord_68 lk_X8_75 mv_X8_isDigit st_X8_isDigit (Nat.le_of_ble_eq_true rfl) (Nat.le_of_ble_eq_true rfl) (s_X8_isDigit _ ((c.2.1 38) (e) : Int32)) ?_
      refine wp_ifb_eq 80 d_X8_endOfWord_71 rfl (fun zc71 => ?_) (fun zc71 => ?_)
      · refine wp_iload_n 0 d_X8_endOfWord_80 rfl rfl ?_
        refine wp_reti d_X8_endOfWord_81 rfl ?_
        obtain ⟨k1, rfl⟩ : ∃ k1, k = k1 + 1 := ⟨k - 1, by omega⟩
        simp only [qend] at hr
        rw [if_neg (fun z => zc71 (of_decide_eq_true z))] at hr
        exact kR_i (congrArg nI hr) rfl
      · refine wp_iinc (v0 := nI ((e) + 1)) [(2, .int (nI ((e) + 1))), (0, .ref (37)), (1, .int (nI (i)))] 0 d_X8_endOfWord_74 rfl (nI_add (e) 1) (Nat.le_of_ble_eq_true rfl) rfl ?_
        refine wp_goto 54 d_X8_endOfWord_77 rfl ?_
        obtain ⟨k1, rfl⟩ : ∃ k1, k = k1 + 1 := ⟨k - 1, by omega⟩
        refine wp_sub [(2, .int (nI ((e) + 1))), (0, .ref (37)), (1, .int (nI (i)))] [0, 1, 2] rfl ?_
        simp only [qend] at hr
        rw [if_pos (decide_eq_true zc71)] at hr
        exact ih k1 (by omega) (e + 1) (by omega) hr
theorem s_X8_endOfWord {X : kX} {d : Nat} {c w m v : kZ} {E : kH} {T : Nat} (hT : c.1 3701 = nI T) (hT2 : T ≤ 200) {i : Nat} (hi : i < T) : WP X (d + 1) 0 0 Y_X8_endOfWord 0 [(0, .ref (37)), (1, .int (nI (i)))] [] (HP c w m v E) (kR (some (.int (nI (if qLt (c.2.1 38 i) then qend (fun x => decide (qLt x)) (c.2.1 38) (T - (i + 1)) (i + 1) else if qDg (c.2.1 38 i) then qend (fun x => decide (qDg x)) (c.2.1 38) (T - (i + 1)) (i + 1) else i + 1)))) (HP c w m v E)) := by
  refine wp_iload_n 1 d_X8_endOfWord_0 rfl rfl ?_
  refine wp_iconst (v0 := 1) d_X8_endOfWord_1 rfl ?_
  refine wp_iadd d_X8_endOfWord_2 ?_
  refine wp_v (v0 := nI ((i) + (1))) (nI_add (i) (1)) ?_
  refine wp_istore_n [(2, .int (nI ((i) + (1)))), (0, .ref (37)), (1, .int (nI (i)))] d_X8_endOfWord_3 rfl (Nat.le_of_ble_eq_true rfl) rfl ?_
  refine wp_aload_n 1 d_X8_endOfWord_4 rfl rfl ?_
  refine wp_getfield (v := .ref (38)) d_X8_endOfWord_5 gf_X8_9 (hp_37 _ _ _ _ _) rfl ?_
  refine wp_iload_n 2 d_X8_endOfWord_8 rfl rfl ?_
  refine wp_iaload (v := (c.2.1 38) (i)) d_X8_endOfWord_9 (hp_38 _ _ _ _ _) (vp_in_nI (by omega) (by omega)) (congrArg ((c.2.1 38)) (nI_clamp (by omega))) ?_
  refine wp_stc_i (As := [.int ((c.2.1 38) (i))]) (x0 := kb (97 ≤ ((c.2.1 38) (i) : Int32).toInt ∧ ((c.2.1 38) (i) : Int32).toInt ≤ 122)) (h1 := HP c w m v E) d_X8_endOfWord_10 lk_X8_72 mv_X8_isLetter st_X8_isLetter (Nat.le_of_ble_eq_true rfl) (Nat.le_of_ble_eq_true rfl) (s_X8_isLetter _ ((c.2.1 38) (i) : Int32)) ?_
  refine wp_ifb_eq 42 d_X8_endOfWord_13 rfl (fun zc13 => ?_) (fun zc13 => ?_)
  · refine wp_aload_n 1 d_X8_endOfWord_42 rfl rfl ?_
    refine wp_getfield (v := .ref (38)) d_X8_endOfWord_43 gf_X8_9 (hp_37 _ _ _ _ _) rfl ?_
    refine wp_iload_n 2 d_X8_endOfWord_46 rfl rfl ?_
    refine wp_iaload (v := (c.2.1 38) (i)) d_X8_endOfWord_47 (hp_38 _ _ _ _ _) (vp_in_nI (by omega) (by omega)) (congrArg ((c.2.1 38)) (nI_clamp (by omega))) ?_
    refine wp_stc_i (As := [.int ((c.2.1 38) (i))]) (x0 := kb (48 ≤ ((c.2.1 38) (i) : Int32).toInt ∧ ((c.2.1 38) (i) : Int32).toInt ≤ 57)) (h1 := HP c w m v E) d_X8_endOfWord_48 lk_X8_75 mv_X8_isDigit st_X8_isDigit (Nat.le_of_ble_eq_true rfl) (Nat.le_of_ble_eq_true rfl) (s_X8_isDigit _ ((c.2.1 38) (i) : Int32)) ?_
    refine wp_ifb_eq 80 d_X8_endOfWord_51 rfl (fun zc51 => ?_) (fun zc51 => ?_)
    · refine wp_iload_n 0 d_X8_endOfWord_80 rfl rfl ?_
      refine wp_reti d_X8_endOfWord_81 rfl ?_
      rw [if_neg zc13, if_neg zc51]
      exact kR_i rfl rfl
    · refine wp_sub [(2, .int (nI ((i) + (1)))), (0, .ref (37)), (1, .int (nI (i)))] [0, 1, 2] rfl ?_
      rw [if_neg zc13, if_pos zc51]
      exact s_X8_endOfWord_b hT hT2 (T - (i + 1)) (i + 1) (by omega) rfl
  · refine wp_sub [(2, .int (nI ((i) + (1)))), (0, .ref (37)), (1, .int (nI (i)))] [0, 1, 2] rfl ?_
    rw [if_pos zc13]
    exact s_X8_endOfWord_a hT hT2 (T - (i + 1)) (i + 1) (by omega) rfl
theorem s_X8_numberAt_l {X : kX} {d : Nat} {c w m v : kZ} {E : kH} {i n : Nat} (hin : i + n ≤ 200) (hn4 : n ≤ 4) : ∀ (k : Nat) (j : Nat), (j + k = n) → WP X d 0 0 Y_X8_numberAt 13 [(4, .int (nI (j))), (3, .int (qnum (c.2.1 38) i j)), (0, .ref (37)), (1, .int (nI (i))), (2, .int (nI (n)))] [] (HP c w m v E) (kR (some (.int (1000 + qnum (c.2.1 38) i n))) (HP c w m v E)) := by
  intro k
  induction k using Nat.strongRecOn with
  | ind k ih =>
    intro j hj
    refine wp_iload 0 d_X8_numberAt_13 rfl ?_
    refine wp_iload_n 4 d_X8_numberAt_15 rfl rfl ?_
    refine wp_ncmp_ge (a := j) (b := n) 43 d_X8_numberAt_16 rfl (by omega) (by omega) (fun zc16 => ?_) (fun zc16 => ?_)
    · refine wp_sipush (v0 := 1000) d_X8_numberAt_43 (by decide) ?_
      refine wp_iload_n 1 d_X8_numberAt_46 rfl rfl ?_
      refine wp_iadd d_X8_numberAt_47 ?_
      refine wp_reti d_X8_numberAt_48 rfl ?_
      obtain rfl : k = 0 := by omega
      obtain rfl : j = n := by omega
      exact kR_i rfl rfl
    · refine wp_bipush (v0 := 10) d_X8_numberAt_19 (by decide) ?_
      refine wp_iload_n 1 d_X8_numberAt_21 rfl rfl ?_
      refine wp_imul d_X8_numberAt_22 ?_
      refine wp_aload_n 2 d_X8_numberAt_23 rfl rfl ?_
      refine wp_getfield (v := .ref (38)) d_X8_numberAt_24 gf_X8_9 (hp_37 _ _ _ _ _) rfl ?_
      refine wp_iload_n 3 d_X8_numberAt_27 rfl rfl ?_
      refine wp_iload 0 d_X8_numberAt_28 rfl ?_
      refine wp_iadd d_X8_numberAt_30 ?_
      refine wp_v (v0 := nI ((i) + (j))) (nI_add (i) (j)) ?_
      refine wp_iaload (v := (c.2.1 38) ((i) + (j))) d_X8_numberAt_31 (hp_38 _ _ _ _ _) (vp_in_nI (by omega) (by omega)) (congrArg ((c.2.1 38)) (nI_clamp (by omega))) ?_
      refine wp_iadd d_X8_numberAt_32 ?_
      refine wp_bipush (v0 := 48) d_X8_numberAt_33 (by decide) ?_
      refine wp_isub d_X8_numberAt_35 ?_
      refine wp_istore_n [(3, .int ((((10) * (qnum (c.2.1 38) i j)) + ((c.2.1 38) ((i) + (j)))) - (48))), (4, .int (nI (j))), (0, .ref (37)), (1, .int (nI (i))), (2, .int (nI (n)))] d_X8_numberAt_36 rfl (Nat.le_of_ble_eq_true rfl) rfl ?_
      refine wp_iinc (v0 := nI ((j) + 1)) [(4, .int (nI ((j) + 1))), (3, .int ((((10) * (qnum (c.2.1 38) i j)) + ((c.2.1 38) ((i) + (j)))) - (48))), (0, .ref (37)), (1, .int (nI (i))), (2, .int (nI (n)))] 1 d_X8_numberAt_37 rfl (nI_add (j) 1) (Nat.le_of_ble_eq_true rfl) rfl ?_
      refine wp_goto 13 d_X8_numberAt_40 rfl ?_
      obtain ⟨k1, rfl⟩ : ∃ k1, k = k1 + 1 := ⟨k - 1, by omega⟩
      refine wp_sub [(4, .int (nI ((j) + 1))), (3, .int ((((10) * (qnum (c.2.1 38) i j)) + ((c.2.1 38) ((i) + (j)))) - (48))), (0, .ref (37)), (1, .int (nI (i))), (2, .int (nI (n)))] [0, 1, 2, 3, 4] rfl ?_
      exact ih k1 (by omega) (j + 1) (by omega)
theorem s_X8_numberAt {X : kX} {d : Nat} {c w m v : kZ} {E : kH} {i n : Nat} (hin : i + n ≤ 200) : WP X d 0 0 Y_X8_numberAt 0 [(0, .ref (37)), (1, .int (nI (i))), (2, .int (nI (n)))] [] (HP c w m v E) (kR (some (.int ((if n ≤ 4 then 1000 + qnum (c.2.1 38) i n else 18)))) (HP c w m v E)) := by
  refine wp_iload_n 2 d_X8_numberAt_0 rfl rfl ?_
  refine wp_iconst (v0 := 4) d_X8_numberAt_1 rfl ?_
  refine wp_ncmp_le (a := n) (b := 4) 8 d_X8_numberAt_2 rfl (by omega) (by omega) (fun zc2 => ?_) (fun zc2 => ?_)
  · refine wp_iconst (v0 := 0) d_X8_numberAt_8 rfl ?_
    refine wp_istore_n [(3, .int (0)), (0, .ref (37)), (1, .int (nI (i))), (2, .int (nI (n)))] d_X8_numberAt_9 rfl (Nat.le_of_ble_eq_true rfl) rfl ?_
    refine wp_iconst (v0 := 0) d_X8_numberAt_10 rfl ?_
    refine wp_istore [(4, .int (0)), (3, .int (0)), (0, .ref (37)), (1, .int (nI (i))), (2, .int (nI (n)))] d_X8_numberAt_11 (Nat.le_of_ble_eq_true rfl) rfl ?_
    refine wp_sub [(4, .int (0)), (3, .int (0)), (0, .ref (37)), (1, .int (nI (i))), (2, .int (nI (n)))] [0, 1, 2, 3, 4] rfl ?_
    rw [if_pos (by omega)]
    exact s_X8_numberAt_l hin (by omega) n 0 (by omega)
  · refine wp_bipush (v0 := 18) d_X8_numberAt_5 (by decide) ?_
    refine wp_reti d_X8_numberAt_7 rfl ?_
    rw [if_neg (by omega)]
    exact kR_i rfl rfl
theorem s_J3_check {X : kX} {d : Nat} {c w m v : kZ} {E : kH} {i n : Nat} (hi : i < n) (hn : n < 200) : WP X d 0 0 Y_J3_checkIndex_8e157 0 [(0, .int (nI (i))), (1, .int (nI (n))), (2, .float 6)] [] (HP c w m v E) (kR (some (.int (nI i))) (HP c w m v E)) := by
  refine wp_iload_n 0 d_J3_checkIndex_8e157_0 rfl rfl ?_
  refine wp_if_lt 9 d_J3_checkIndex_8e157_1 rfl (fun zc1 => ?_) (fun zc1 => ?_)
  · exact absurd zc1 (nI_nneg (by omega))
  · refine wp_iload_n 0 d_J3_checkIndex_8e157_4 rfl rfl ?_
    refine wp_iload_n 1 d_J3_checkIndex_8e157_5 rfl rfl ?_
    refine wp_ncmp_lt (a := i) (b := n) 16 d_J3_checkIndex_8e157_6 rfl (by omega) (by omega) (fun zc6 => ?_) (fun zc6 => ?_)
    · refine wp_iload_n 0 d_J3_checkIndex_8e157_16 rfl rfl ?_
      refine wp_reti d_J3_checkIndex_8e157_17 rfl ?_
      exact kR_i rfl rfl
    · omega
theorem s_J0_check {X : kX} {d : Nat} {c w m v : kZ} {E : kH} {i n : Nat} (hi : i < n) (hn : n < 200) : WP X (d + 1) 0 0 Y_J0_checkIndex_df160 0 [(0, .int (nI (i))), (1, .int (nI (n)))] [] (HP c w m v E) (kR none (HP c w m v E)) := by
  refine wp_iload_n 0 d_J0_checkIndex_df160_0 rfl rfl ?_
  refine wp_iload_n 1 d_J0_checkIndex_df160_1 rfl rfl ?_
  refine wp_getsf d_J0_checkIndex_df160_2 gj_J0_1053 ?_
  refine wp_stc_i (As := [.int (nI (i)), .int (nI (n)), .float 6]) (x0 := nI (i)) (h1 := HP c w m v E) d_J0_checkIndex_df160_5 lk_J0_1059 mv_J3_checkIndex_8e157 st_J3_checkIndex_8e157 (Nat.le_of_ble_eq_true rfl) (Nat.le_of_ble_eq_true rfl) (s_J3_check hi hn) ?_
  refine wp_pop d_J0_checkIndex_df160_8 rfl ?_
  refine wp_vret d_J0_checkIndex_df160_9 rfl ?_
  exact ⟨rfl, rfl⟩
theorem s_J1_charAt {X : kX} {d : Nat} {c w m v : kZ} {E : kH} {i : Nat} (hi : i < 92) : WP X (d + 2) 0 0 Y_J1_charAt_3b067 0 [(0, .float 5), (1, .int (nI (i)))] [] (HP c w m v E) (kR (some (.int (kBYT.getD i 0))) (HP c w m v E)) := by
  refine wp_iload_n 1 d_J1_charAt_3b067_0 rfl rfl ?_
  refine wp_aload_nF 0 d_J1_charAt_3b067_1 rfl rfl ?_
  refine wp_bytlen (v := 92) d_J1_charAt_3b067_2 rfl ?_
  refine wp_stc_v (As := [.int (nI (i)), .int (92)]) (h1 := HP c w m v E) d_J1_charAt_3b067_3 lk_J1_9 mv_J0_checkIndex_df160 st_J0_checkIndex_df160 (Nat.le_of_ble_eq_true rfl) (Nat.le_of_ble_eq_true rfl) (s_J0_check (i := i) (n := 92) hi (by omega)) ?_
  refine wp_aload_nF 0 d_J1_charAt_3b067_6 rfl rfl ?_
  refine wp_iload_n 1 d_J1_charAt_3b067_7 rfl rfl ?_
  refine wp_bytload (v := kBYT.getD (i) 0) d_J1_charAt_3b067_8 (show vp_in _ 92 from (vp_in_nI (by omega) (by omega))) (by rw [nI_clamp (by omega)]) ?_
  refine wp_sipush (v0 := 255) d_J1_charAt_3b067_9 (by decide) ?_
  refine wp_iand d_J1_charAt_3b067_12 ?_
  refine wp_i2c d_J1_charAt_3b067_13 ?_
  refine wp_iret d_J1_charAt_3b067_14 rfl ((kBYT_ch ⟨i, hi⟩).symm ▸ kBYT_nar ⟨i, hi⟩) ?_
  exact kR_i (kBYT_ch ⟨i, hi⟩) rfl
theorem s_J0_lat {X : kX} {d : Nat} {c w m v : kZ} {E : kH}  : WP X d 0 0 Y_J0_isLatin1_aae02 0 [(0, .float 4)] [] (HP c w m v E) (kR (some (.int (1))) (HP c w m v E)) := by
  refine wp_getcs d_J0_isLatin1_aae02_0 gj_J0_38 ?_
  refine wp_if_eq 17 d_J0_isLatin1_aae02_3 rfl (fun z => absurd z (by decide)) (fun _ => ?_)
  refine wp_aload_nF 0 d_J0_isLatin1_aae02_6 rfl rfl ?_
  refine wp_strcod d_J0_isLatin1_aae02_7 gj_J0_15 ?_
  refine wp_if_ne 17 d_J0_isLatin1_aae02_10 rfl (fun z => absurd z (by decide)) (fun _ => ?_)
  refine wp_iconst (v0 := 1) d_J0_isLatin1_aae02_13 rfl ?_
  refine wp_goto 18 d_J0_isLatin1_aae02_14 rfl ?_
  refine wp_iret d_J0_isLatin1_aae02_18 rfl k_nar1 ?_
  exact kR_i rfl rfl
theorem s_J0_coder {X : kX} {d : Nat} {c w m v : kZ} {E : kH}  : WP X d 0 0 Y_J0_coder_7d493 0 [(0, .float 4)] [] (HP c w m v E) (kR (some (.int (0))) (HP c w m v E)) := by
  refine wp_getcs d_J0_coder_7d493_0 gj_J0_38 ?_
  refine wp_if_eq 13 d_J0_coder_7d493_3 rfl (fun z => absurd z (by decide)) (fun _ => ?_)
  refine wp_aload_nF 0 d_J0_coder_7d493_6 rfl rfl ?_
  refine wp_strcod d_J0_coder_7d493_7 gj_J0_15 ?_
  refine wp_goto 14 d_J0_coder_7d493_10 rfl ?_
  refine wp_iret d_J0_coder_7d493_14 rfl rfl ?_
  exact kR_i rfl rfl
theorem s_J0_length {X : kX} {d : Nat} {c w m v : kZ} {E : kH}  : WP X (d + 1) 0 0 Y_J0_length_8abf5 0 [(0, .float 4)] [] (HP c w m v E) (kR (some (.int (92))) (HP c w m v E)) := by
  refine wp_aload_nF 0 d_J0_length_8abf5_0 rfl rfl ?_
  refine wp_strval d_J0_length_8abf5_1 gj_J0_9 ?_
  refine wp_bytlen (v := 92) d_J0_length_8abf5_4 rfl ?_
  refine wp_aload_nF 0 d_J0_length_8abf5_5 rfl rfl ?_
  refine wp_vrS_i (As := []) (x0 := 0) (h1 := HP c w m v E) d_J0_length_8abf5_6 ls_J0_335 mv_J0_coder_7d493 in_J0_coder_7d493 se_J0_coder_7d493 (Nat.le_of_ble_eq_true rfl) (Nat.le_of_ble_eq_true rfl) rfl s_J0_coder ?_
  refine wp_ishr d_J0_length_8abf5_9 ?_
  refine wp_reti d_J0_length_8abf5_10 rfl ?_
  exact kR_i (by decide) rfl
theorem s_J0_charAt {X : kX} {d : Nat} {c w m v : kZ} {E : kH} {i : Nat} (hi : i < 92) : WP X (d + 3) 0 0 Y_J0_charAt_5068e 0 [(0, .float 4), (1, .int (nI (i)))] [] (HP c w m v E) (kR (some (.int (kBYT.getD i 0))) (HP c w m v E)) := by
  refine wp_aload_nF 0 d_J0_charAt_5068e_0 rfl rfl ?_
  refine wp_vrS_i (As := []) (x0 := 1) (h1 := HP c w m v E) d_J0_charAt_5068e_1 ls_J0_492 mv_J0_isLatin1_aae02 in_J0_isLatin1_aae02 se_J0_isLatin1_aae02 (Nat.le_of_ble_eq_true rfl) (Nat.le_of_ble_eq_true rfl) rfl s_J0_lat ?_
  refine wp_if_eq 16 d_J0_charAt_5068e_4 rfl (fun z => absurd z (by decide)) (fun _ => ?_)
  refine wp_aload_nF 0 d_J0_charAt_5068e_7 rfl rfl ?_
  refine wp_strval d_J0_charAt_5068e_8 gj_J0_9 ?_
  refine wp_iload_n 1 d_J0_charAt_5068e_11 rfl rfl ?_
  refine wp_stc_i (As := [.float 5, .int (nI (i))]) (x0 := kBYT.getD i 0) (h1 := HP c w m v E) d_J0_charAt_5068e_12 lk_J0_495 mv_J1_charAt_3b067 st_J1_charAt_3b067 (Nat.le_of_ble_eq_true rfl) (Nat.le_of_ble_eq_true rfl) (s_J1_charAt hi) ?_
  refine wp_iret d_J0_charAt_5068e_15 rfl (kBYT_nar ⟨i, hi⟩) ?_
  exact kR_i rfl rfl
theorem kBYT_dr {q : Nat} (h : q < 92) : kBYT.drop q = kBYT.getD q 0 :: kBYT.drop (q + 1) := (by decide +kernel : ∀ q : Fin 92, kBYT.drop q.val = kBYT.getD q.val 0 :: kBYT.drop (q.val + 1)) ⟨q, h⟩
theorem s_X8_nameAt_l {X : kX} {d : Nat} {c w m v : kZ} {E : kH} {i n : Nat} (hin : i + n ≤ 200) {r : Int32} : ∀ (k : Nat) (q : Nat) (nm : Nat) (lt : Nat) (sm : Bool), (q + k = 92) → (nm ≤ q) → (lt ≤ q) → (qnm (c.2.1 38) i n (kBYT.drop q) nm lt sm = r) → WP X (d + 4) 0 0 Y_X8_nameAt 11 [(6, .int (nI (q))), (5, .int (kb (sm = true))), (4, .int (nI (lt))), (3, .int (nI (nm))), (0, .ref (37)), (1, .int (nI (i))), (2, .int (nI (n)))] [] (HP c w m v E) (kR (some (.int r)) (HP c w m v E)) := by
  intro k
  induction k using Nat.strongRecOn with
  | ind k ih =>
    intro q nm lt sm hq h1 h2 hr
    refine wp_iload 0 d_X8_nameAt_11 rfl ?_
    refine wp_ldcS d_X8_nameAt_13 rfl ?_
    refine wp_vrS_i (As := []) (x0 := 92) (h1 := HP c w m v E) d_X8_nameAt_15 ls_X8_89 mv_J0_length_8abf5 in_J0_length_8abf5 se_J0_length_8abf5 (Nat.le_of_ble_eq_true rfl) (Nat.le_of_ble_eq_true rfl) rfl s_J0_length ?_
    refine wp_ncmp_ge (a := q) (b := 92) 103 d_X8_nameAt_18 rfl (by omega) (by omega) (fun zc18 => ?_) (fun zc18 => ?_)
    · refine wp_bipush (v0 := 18) d_X8_nameAt_103 (by decide) ?_
      refine wp_reti d_X8_nameAt_105 rfl ?_
      obtain rfl : k = 0 := by omega
      obtain rfl : q = 92 := by omega
      exact kR_i hr rfl
    · refine wp_ldcS d_X8_nameAt_21 rfl ?_
      refine wp_iload 0 d_X8_nameAt_23 rfl ?_
      refine wp_vrS_i (As := [.int (nI (q))]) (x0 := kBYT.getD (q) 0) (h1 := HP c w m v E) d_X8_nameAt_25 ls_X8_94 mv_J0_charAt_5068e in_J0_charAt_5068e se_J0_charAt_5068e (Nat.le_of_ble_eq_true rfl) (Nat.le_of_ble_eq_true rfl) rfl (s_J0_charAt (i := q) (by omega)) ?_
      refine wp_istore [(7, .int (kBYT.getD (q) 0)), (6, .int (nI (q))), (5, .int (kb (sm = true))), (4, .int (nI (lt))), (3, .int (nI (nm))), (0, .ref (37)), (1, .int (nI (i))), (2, .int (nI (n)))] d_X8_nameAt_28 (Nat.le_of_ble_eq_true rfl) rfl ?_
      refine wp_iload 0 d_X8_nameAt_30 rfl ?_
      refine wp_bipush (v0 := 32) d_X8_nameAt_32 (by decide) ?_
      refine wp_icmp_eq 75 d_X8_nameAt_34 rfl (fun zc34 => ?_) (fun zc34 => ?_)
      · refine wp_iload 2 d_X8_nameAt_75 rfl ?_
        refine wp_ifb_eq 88 d_X8_nameAt_77 rfl (fun zc77 => ?_) (fun zc77 => ?_)
        · refine wp_iinc (v0 := nI ((nm) + 1)) [(3, .int (nI ((nm) + 1))), (7, .int (kBYT.getD (q) 0)), (6, .int (nI (q))), (5, .int (kb (sm = true))), (4, .int (nI (lt))), (0, .ref (37)), (1, .int (nI (i))), (2, .int (nI (n)))] 4 d_X8_nameAt_88 rfl (nI_add (nm) 1) (Nat.le_of_ble_eq_true rfl) rfl ?_
          refine wp_iconst (v0 := 0) d_X8_nameAt_91 rfl ?_
          refine wp_istore [(4, .int (0)), (3, .int (nI ((nm) + 1))), (7, .int (kBYT.getD (q) 0)), (6, .int (nI (q))), (5, .int (kb (sm = true))), (0, .ref (37)), (1, .int (nI (i))), (2, .int (nI (n)))] d_X8_nameAt_92 (Nat.le_of_ble_eq_true rfl) rfl ?_
          refine wp_iconst (v0 := 1) d_X8_nameAt_94 rfl ?_
          refine wp_istore [(5, .int (1)), (4, .int (0)), (3, .int (nI ((nm) + 1))), (7, .int (kBYT.getD (q) 0)), (6, .int (nI (q))), (0, .ref (37)), (1, .int (nI (i))), (2, .int (nI (n)))] d_X8_nameAt_95 (Nat.le_of_ble_eq_true rfl) rfl ?_
          refine wp_iinc (v0 := nI ((q) + 1)) [(6, .int (nI ((q) + 1))), (5, .int (1)), (4, .int (0)), (3, .int (nI ((nm) + 1))), (7, .int (kBYT.getD (q) 0)), (0, .ref (37)), (1, .int (nI (i))), (2, .int (nI (n)))] 4 d_X8_nameAt_97 rfl (nI_add (q) 1) (Nat.le_of_ble_eq_true rfl) rfl ?_
          refine wp_goto 11 d_X8_nameAt_100 rfl ?_
          obtain ⟨k1, rfl⟩ : ∃ k1, k = k1 + 1 := ⟨k - 1, by omega⟩
          rw [kBYT_dr (by omega)] at hr
          simp only [qnm] at hr
          rw [if_pos zc34, if_neg (fun z => zc77 z.1)] at hr
          refine wp_sub [(6, .int (nI (q + 1))), (5, .int (kb (true = true))), (4, .int (nI (0))), (3, .int (nI (nm + 1))), (0, .ref 37), (1, .int (nI i)), (2, .int (nI n))] [0, 1, 2, 3, 5, 6, 7] rfl ?_
          exact ih k1 (by omega) (q + 1) (nm + 1) 0 true (by omega) (by omega) (by omega) hr
        · refine wp_iload 3 d_X8_nameAt_80 rfl ?_
          refine wp_iload_n 7 d_X8_nameAt_82 rfl rfl ?_
          refine wp_ncmp_ne (a := lt) (b := n) 88 d_X8_nameAt_83 rfl (by omega) (by omega) (fun zc83 => ?_) (fun zc83 => ?_)
          · refine wp_iinc (v0 := nI ((nm) + 1)) [(3, .int (nI ((nm) + 1))), (7, .int (kBYT.getD (q) 0)), (6, .int (nI (q))), (5, .int (kb (sm = true))), (4, .int (nI (lt))), (0, .ref (37)), (1, .int (nI (i))), (2, .int (nI (n)))] 4 d_X8_nameAt_88 rfl (nI_add (nm) 1) (Nat.le_of_ble_eq_true rfl) rfl ?_
            refine wp_iconst (v0 := 0) d_X8_nameAt_91 rfl ?_
            refine wp_istore [(4, .int (0)), (3, .int (nI ((nm) + 1))), (7, .int (kBYT.getD (q) 0)), (6, .int (nI (q))), (5, .int (kb (sm = true))), (0, .ref (37)), (1, .int (nI (i))), (2, .int (nI (n)))] d_X8_nameAt_92 (Nat.le_of_ble_eq_true rfl) rfl ?_
            refine wp_iconst (v0 := 1) d_X8_nameAt_94 rfl ?_
            refine wp_istore [(5, .int (1)), (4, .int (0)), (3, .int (nI ((nm) + 1))), (7, .int (kBYT.getD (q) 0)), (6, .int (nI (q))), (0, .ref (37)), (1, .int (nI (i))), (2, .int (nI (n)))] d_X8_nameAt_95 (Nat.le_of_ble_eq_true rfl) rfl ?_
            refine wp_iinc (v0 := nI ((q) + 1)) [(6, .int (nI ((q) + 1))), (5, .int (1)), (4, .int (0)), (3, .int (nI ((nm) + 1))), (7, .int (kBYT.getD (q) 0)), (0, .ref (37)), (1, .int (nI (i))), (2, .int (nI (n)))] 4 d_X8_nameAt_97 rfl (nI_add (q) 1) (Nat.le_of_ble_eq_true rfl) rfl ?_
            refine wp_goto 11 d_X8_nameAt_100 rfl ?_
            obtain ⟨k1, rfl⟩ : ∃ k1, k = k1 + 1 := ⟨k - 1, by omega⟩
            rw [kBYT_dr (by omega)] at hr
            simp only [qnm] at hr
            rw [if_pos zc34, if_neg (fun z => zc83 (by omega))] at hr
            refine wp_sub [(6, .int (nI (q + 1))), (5, .int (kb (true = true))), (4, .int (nI (0))), (3, .int (nI (nm + 1))), (0, .ref 37), (1, .int (nI i)), (2, .int (nI n))] [0, 1, 2, 3, 5, 6, 7] rfl ?_
            exact ih k1 (by omega) (q + 1) (nm + 1) 0 true (by omega) (by omega) (by omega) hr
          · refine wp_iload_n 4 d_X8_nameAt_86 rfl rfl ?_
            refine wp_reti d_X8_nameAt_87 rfl ?_
            rw [kBYT_dr (by omega)] at hr
            simp only [qnm] at hr
            rw [if_pos zc34, if_pos ⟨zc77, by omega⟩] at hr
            exact kR_i hr rfl
      · refine wp_iload 2 d_X8_nameAt_37 rfl ?_
        refine wp_ifb_eq 66 d_X8_nameAt_39 rfl (fun zc39 => ?_) (fun zc39 => ?_)
        · refine wp_iconst (v0 := 0) d_X8_nameAt_66 rfl ?_
          refine wp_istore [(5, .int (0)), (7, .int (kBYT.getD (q) 0)), (6, .int (nI (q))), (4, .int (nI (lt))), (3, .int (nI (nm))), (0, .ref (37)), (1, .int (nI (i))), (2, .int (nI (n)))] d_X8_nameAt_67 (Nat.le_of_ble_eq_true rfl) rfl ?_
          refine wp_iinc (v0 := nI ((lt) + 1)) [(4, .int (nI ((lt) + 1))), (5, .int (0)), (7, .int (kBYT.getD (q) 0)), (6, .int (nI (q))), (3, .int (nI (nm))), (0, .ref (37)), (1, .int (nI (i))), (2, .int (nI (n)))] 3 d_X8_nameAt_69 rfl (nI_add (lt) 1) (Nat.le_of_ble_eq_true rfl) rfl ?_
          refine wp_goto 97 d_X8_nameAt_72 rfl ?_
          refine wp_iinc (v0 := nI ((q) + 1)) [(6, .int (nI ((q) + 1))), (4, .int (nI ((lt) + 1))), (5, .int (0)), (7, .int (kBYT.getD (q) 0)), (3, .int (nI (nm))), (0, .ref (37)), (1, .int (nI (i))), (2, .int (nI (n)))] 3 d_X8_nameAt_97 rfl (nI_add (q) 1) (Nat.le_of_ble_eq_true rfl) rfl ?_
          refine wp_goto 11 d_X8_nameAt_100 rfl ?_
          obtain ⟨k1, rfl⟩ : ∃ k1, k = k1 + 1 := ⟨k - 1, by omega⟩
          rw [kBYT_dr (by omega)] at hr
          simp only [qnm] at hr
          rw [if_neg zc34] at hr
          have hv5 : kb ((sm && decide (lt < n) && decide (c.2.1 38 (i + lt) = kBYT.getD q 0)) = true) = 0 := kb_f (fun z => zc39 (by simp only [Bool.and_eq_true] at z; exact z.1.1))
          refine wp_sub [(6, .int (nI (q + 1))), (5, .int (kb ((sm && decide (lt < n) && decide (c.2.1 38 (i + lt) = kBYT.getD q 0)) = true))), (4, .int (nI (lt + 1))), (3, .int (nI (nm))), (0, .ref 37), (1, .int (nI i)), (2, .int (nI n))] [0, 2, 1, 4, 5, 6, 7] (by rw [hv5]; rfl) ?_
          exact ih k1 (by omega) (q + 1) nm (lt + 1) _ (by omega) (by omega) (by omega) hr
        · refine wp_iload 3 d_X8_nameAt_42 rfl ?_
          refine wp_iload_n 7 d_X8_nameAt_44 rfl rfl ?_
          refine wp_ncmp_ge (a := lt) (b := n) 66 d_X8_nameAt_45 rfl (by omega) (by omega) (fun zc45 => ?_) (fun zc45 => ?_)
          · refine wp_iconst (v0 := 0) d_X8_nameAt_66 rfl ?_
            refine wp_istore [(5, .int (0)), (7, .int (kBYT.getD (q) 0)), (6, .int (nI (q))), (4, .int (nI (lt))), (3, .int (nI (nm))), (0, .ref (37)), (1, .int (nI (i))), (2, .int (nI (n)))] d_X8_nameAt_67 (Nat.le_of_ble_eq_true rfl) rfl ?_
            refine wp_iinc (v0 := nI ((lt) + 1)) [(4, .int (nI ((lt) + 1))), (5, .int (0)), (7, .int (kBYT.getD (q) 0)), (6, .int (nI (q))), (3, .int (nI (nm))), (0, .ref (37)), (1, .int (nI (i))), (2, .int (nI (n)))] 3 d_X8_nameAt_69 rfl (nI_add (lt) 1) (Nat.le_of_ble_eq_true rfl) rfl ?_
            refine wp_goto 97 d_X8_nameAt_72 rfl ?_
            refine wp_iinc (v0 := nI ((q) + 1)) [(6, .int (nI ((q) + 1))), (4, .int (nI ((lt) + 1))), (5, .int (0)), (7, .int (kBYT.getD (q) 0)), (3, .int (nI (nm))), (0, .ref (37)), (1, .int (nI (i))), (2, .int (nI (n)))] 3 d_X8_nameAt_97 rfl (nI_add (q) 1) (Nat.le_of_ble_eq_true rfl) rfl ?_
            refine wp_goto 11 d_X8_nameAt_100 rfl ?_
            obtain ⟨k1, rfl⟩ : ∃ k1, k = k1 + 1 := ⟨k - 1, by omega⟩
            rw [kBYT_dr (by omega)] at hr
            simp only [qnm] at hr
            rw [if_neg zc34] at hr
            have hv5 : kb ((sm && decide (lt < n) && decide (c.2.1 38 (i + lt) = kBYT.getD q 0)) = true) = 0 := kb_f (fun z => by simp only [Bool.and_eq_true, decide_eq_true_eq] at z; omega)
            refine wp_sub [(6, .int (nI (q + 1))), (5, .int (kb ((sm && decide (lt < n) && decide (c.2.1 38 (i + lt) = kBYT.getD q 0)) = true))), (4, .int (nI (lt + 1))), (3, .int (nI (nm))), (0, .ref 37), (1, .int (nI i)), (2, .int (nI n))] [0, 2, 1, 4, 5, 6, 7] (by rw [hv5]; rfl) ?_
            exact ih k1 (by omega) (q + 1) nm (lt + 1) _ (by omega) (by omega) (by omega) hr
          · refine wp_aload_n 5 d_X8_nameAt_48 rfl rfl ?_
            refine wp_getfield (v := .ref (38)) d_X8_nameAt_49 gf_X8_9 (hp_37 _ _ _ _ _) rfl ?_
            refine wp_iload_n 6 d_X8_nameAt_52 rfl rfl ?_
            refine wp_iload 3 d_X8_nameAt_53 rfl ?_
            refine wp_iadd d_X8_nameAt_55 ?_
            refine wp_v (v0 := nI ((i) + (lt))) (nI_add (i) (lt)) ?_
            refine wp_iaload (v := (c.2.1 38) ((i) + (lt))) d_X8_nameAt_56 (hp_38 _ _ _ _ _) (vp_in_nI (by omega) (by omega)) (congrArg ((c.2.1 38)) (nI_clamp (by omega))) ?_
            refine wp_iload 0 d_X8_nameAt_57 rfl ?_
            refine wp_icmp_ne 66 d_X8_nameAt_59 rfl (fun zc59 => ?_) (fun zc59 => ?_)
            · refine wp_iconst (v0 := 0) d_X8_nameAt_66 rfl ?_
              refine wp_istore [(5, .int (0)), (7, .int (kBYT.getD (q) 0)), (6, .int (nI (q))), (4, .int (nI (lt))), (3, .int (nI (nm))), (0, .ref (37)), (1, .int (nI (i))), (2, .int (nI (n)))] d_X8_nameAt_67 (Nat.le_of_ble_eq_true rfl) rfl ?_
              refine wp_iinc (v0 := nI ((lt) + 1)) [(4, .int (nI ((lt) + 1))), (5, .int (0)), (7, .int (kBYT.getD (q) 0)), (6, .int (nI (q))), (3, .int (nI (nm))), (0, .ref (37)), (1, .int (nI (i))), (2, .int (nI (n)))] 3 d_X8_nameAt_69 rfl (nI_add (lt) 1) (Nat.le_of_ble_eq_true rfl) rfl ?_
              refine wp_goto 97 d_X8_nameAt_72 rfl ?_
              refine wp_iinc (v0 := nI ((q) + 1)) [(6, .int (nI ((q) + 1))), (4, .int (nI ((lt) + 1))), (5, .int (0)), (7, .int (kBYT.getD (q) 0)), (3, .int (nI (nm))), (0, .ref (37)), (1, .int (nI (i))), (2, .int (nI (n)))] 3 d_X8_nameAt_97 rfl (nI_add (q) 1) (Nat.le_of_ble_eq_true rfl) rfl ?_
              refine wp_goto 11 d_X8_nameAt_100 rfl ?_
              obtain ⟨k1, rfl⟩ : ∃ k1, k = k1 + 1 := ⟨k - 1, by omega⟩
              rw [kBYT_dr (by omega)] at hr
              simp only [qnm] at hr
              rw [if_neg zc34] at hr
              have hv5 : kb ((sm && decide (lt < n) && decide (c.2.1 38 (i + lt) = kBYT.getD q 0)) = true) = 0 := kb_f (fun z => zc59 (by simp only [Bool.and_eq_true, decide_eq_true_eq] at z; exact z.2))
              refine wp_sub [(6, .int (nI (q + 1))), (5, .int (kb ((sm && decide (lt < n) && decide (c.2.1 38 (i + lt) = kBYT.getD q 0)) = true))), (4, .int (nI (lt + 1))), (3, .int (nI (nm))), (0, .ref 37), (1, .int (nI i)), (2, .int (nI n))] [0, 2, 1, 4, 5, 6, 7] (by rw [hv5]; rfl) ?_
              exact ih k1 (by omega) (q + 1) nm (lt + 1) _ (by omega) (by omega) (by omega) hr
            · refine wp_iconst (v0 := 1) d_X8_nameAt_62 rfl ?_
              refine wp_goto 67 d_X8_nameAt_63 rfl ?_
              refine wp_istore [(5, .int (1)), (7, .int (kBYT.getD (q) 0)), (6, .int (nI (q))), (4, .int (nI (lt))), (3, .int (nI (nm))), (0, .ref (37)), (1, .int (nI (i))), (2, .int (nI (n)))] d_X8_nameAt_67 (Nat.le_of_ble_eq_true rfl) rfl ?_
              refine wp_iinc (v0 := nI ((lt) + 1)) [(4, .int (nI ((lt) + 1))), (5, .int (1)), (7, .int (kBYT.getD (q) 0)), (6, .int (nI (q))), (3, .int (nI (nm))), (0, .ref (37)), (1, .int (nI (i))), (2, .int (nI (n)))] 3 d_X8_nameAt_69 rfl (nI_add (lt) 1) (Nat.le_of_ble_eq_true rfl) rfl ?_
              refine wp_goto 97 d_X8_nameAt_72 rfl ?_
              refine wp_iinc (v0 := nI ((q) + 1)) [(6, .int (nI ((q) + 1))), (4, .int (nI ((lt) + 1))), (5, .int (1)), (7, .int (kBYT.getD (q) 0)), (3, .int (nI (nm))), (0, .ref (37)), (1, .int (nI (i))), (2, .int (nI (n)))] 3 d_X8_nameAt_97 rfl (nI_add (q) 1) (Nat.le_of_ble_eq_true rfl) rfl ?_
              refine wp_goto 11 d_X8_nameAt_100 rfl ?_
              obtain ⟨k1, rfl⟩ : ∃ k1, k = k1 + 1 := ⟨k - 1, by omega⟩
              rw [kBYT_dr (by omega)] at hr
              simp only [qnm] at hr
              rw [if_neg zc34] at hr
              have hv5 : kb ((sm && decide (lt < n) && decide (c.2.1 38 (i + lt) = kBYT.getD q 0)) = true) = 1 := kb_t (by rw [decide_eq_true zc59, decide_eq_true (show lt < n by omega), zc39]; rfl)
              refine wp_sub [(6, .int (nI (q + 1))), (5, .int (kb ((sm && decide (lt < n) && decide (c.2.1 38 (i + lt) = kBYT.getD q 0)) = true))), (4, .int (nI (lt + 1))), (3, .int (nI (nm))), (0, .ref 37), (1, .int (nI i)), (2, .int (nI n))] [0, 2, 1, 4, 5, 6, 7] (by rw [hv5]; rfl) ?_
              exact ih k1 (by omega) (q + 1) nm (lt + 1) _ (by omega) (by omega) (by omega) hr
theorem s_X8_nameAt {X : kX} {d : Nat} {c w m v : kZ} {E : kH} {i n : Nat} (hin : i + n ≤ 200) : WP X (d + 4) 0 0 Y_X8_nameAt 0 [(0, .ref (37)), (1, .int (nI (i))), (2, .int (nI (n)))] [] (HP c w m v E) (kR (some (.int (qnm (c.2.1 38) i n kBYT 0 0 true))) (HP c w m v E)) := by
  refine wp_iconst (v0 := 0) d_X8_nameAt_0 rfl ?_
  refine wp_istore_n [(3, .int (0)), (0, .ref (37)), (1, .int (nI (i))), (2, .int (nI (n)))] d_X8_nameAt_1 rfl (Nat.le_of_ble_eq_true rfl) rfl ?_
  refine wp_iconst (v0 := 0) d_X8_nameAt_2 rfl ?_
  refine wp_istore [(4, .int (0)), (3, .int (0)), (0, .ref (37)), (1, .int (nI (i))), (2, .int (nI (n)))] d_X8_nameAt_3 (Nat.le_of_ble_eq_true rfl) rfl ?_
  refine wp_iconst (v0 := 1) d_X8_nameAt_5 rfl ?_
  refine wp_istore [(5, .int (1)), (4, .int (0)), (3, .int (0)), (0, .ref (37)), (1, .int (nI (i))), (2, .int (nI (n)))] d_X8_nameAt_6 (Nat.le_of_ble_eq_true rfl) rfl ?_
  refine wp_iconst (v0 := 0) d_X8_nameAt_8 rfl ?_
  refine wp_istore [(6, .int (0)), (5, .int (1)), (4, .int (0)), (3, .int (0)), (0, .ref (37)), (1, .int (nI (i))), (2, .int (nI (n)))] d_X8_nameAt_9 (Nat.le_of_ble_eq_true rfl) rfl ?_
  refine wp_sub [(6, .int (nI 0)), (5, .int (kb (true = true))), (4, .int (nI 0)), (3, .int (nI 0)), (0, .ref 37), (1, .int (nI i)), (2, .int (nI n))] [0, 1, 2, 3, 4, 5, 6] rfl ?_
  exact s_X8_nameAt_l hin 92 0 0 0 true rfl (by omega) (by omega) rfl
theorem s_X8_wordAt {X : kX} {d : Nat} {c w m v : kZ} {E : kH} {i e : Nat} (hie : i < e) (he : e ≤ 200) : WP X (d + 5) 0 0 Y_X8_wordAt 0 [(0, .ref (37)), (1, .int (nI (i))), (2, .int (nI (e)))] [] (HP c w m v E) (kR (some (.int ((if qLt (c.2.1 38 i) then qnm (c.2.1 38) i (e - i) kBYT 0 0 true else if qDg (c.2.1 38 i) then (if e - i ≤ 4 then 1000 + qnum (c.2.1 38) i (e - i) else 18) else if qSg (c.2.1 38 i) then c.2.1 38 i else 18)))) (HP c w m v E)) := by
  refine wp_aload_n 0 d_X8_wordAt_0 rfl rfl ?_
  refine wp_getfield (v := .ref (38)) d_X8_wordAt_1 gf_X8_9 (hp_37 _ _ _ _ _) rfl ?_
  refine wp_iload_n 1 d_X8_wordAt_4 rfl rfl ?_
  refine wp_iaload (v := (c.2.1 38) (i)) d_X8_wordAt_5 (hp_38 _ _ _ _ _) (vp_in_nI (by omega) (by omega)) (congrArg ((c.2.1 38)) (nI_clamp (by omega))) ?_
  refine wp_stc_i (As := [.int ((c.2.1 38) (i))]) (x0 := kb (97 ≤ ((c.2.1 38) (i) : Int32).toInt ∧ ((c.2.1 38) (i) : Int32).toInt ≤ 122)) (h1 := HP c w m v E) d_X8_wordAt_6 lk_X8_72 mv_X8_isLetter st_X8_isLetter (Nat.le_of_ble_eq_true rfl) (Nat.le_of_ble_eq_true rfl) (s_X8_isLetter _ ((c.2.1 38) (i) : Int32)) ?_
  refine wp_ifb_eq 21 d_X8_wordAt_9 rfl (fun zc9 => ?_) (fun zc9 => ?_)
  · refine wp_aload_n 0 d_X8_wordAt_21 rfl rfl ?_
    refine wp_getfield (v := .ref (38)) d_X8_wordAt_22 gf_X8_9 (hp_37 _ _ _ _ _) rfl ?_
    refine wp_iload_n 1 d_X8_wordAt_25 rfl rfl ?_
    refine wp_iaload (v := (c.2.1 38) (i)) d_X8_wordAt_26 (hp_38 _ _ _ _ _) (vp_in_nI (by omega) (by omega)) (congrArg ((c.2.1 38)) (nI_clamp (by omega))) ?_
    refine wp_stc_i (As := [.int ((c.2.1 38) (i))]) (x0 := kb (48 ≤ ((c.2.1 38) (i) : Int32).toInt ∧ ((c.2.1 38) (i) : Int32).toInt ≤ 57)) (h1 := HP c w m v E) d_X8_wordAt_27 lk_X8_75 mv_X8_isDigit st_X8_isDigit (Nat.le_of_ble_eq_true rfl) (Nat.le_of_ble_eq_true rfl) (s_X8_isDigit _ ((c.2.1 38) (i) : Int32)) ?_
    refine wp_ifb_eq 42 d_X8_wordAt_30 rfl (fun zc30 => ?_) (fun zc30 => ?_)
    · refine wp_aload_n 0 d_X8_wordAt_42 rfl rfl ?_
      refine wp_getfield (v := .ref (38)) d_X8_wordAt_43 gf_X8_9 (hp_37 _ _ _ _ _) rfl ?_
      refine wp_iload_n 1 d_X8_wordAt_46 rfl rfl ?_
      refine wp_iaload (v := (c.2.1 38) (i)) d_X8_wordAt_47 (hp_38 _ _ _ _ _) (vp_in_nI (by omega) (by omega)) (congrArg ((c.2.1 38)) (nI_clamp (by omega))) ?_
      refine wp_stc_i (As := [.int ((c.2.1 38) (i))]) (x0 := kb (((c.2.1 38) (i) : Int32) = 59 ∨ ((c.2.1 38) (i) : Int32) = 40 ∨ ((c.2.1 38) (i) : Int32) = 41 ∨ ((c.2.1 38) (i) : Int32) = 60 ∨ ((c.2.1 38) (i) : Int32) = 61 ∨ ((c.2.1 38) (i) : Int32) = 62)) (h1 := HP c w m v E) d_X8_wordAt_48 lk_X8_84 mv_X8_isSign st_X8_isSign (Nat.le_of_ble_eq_true rfl) (Nat.le_of_ble_eq_true rfl) (s_X8_isSign _ ((c.2.1 38) (i) : Int32)) ?_
      refine wp_ifb_eq 63 d_X8_wordAt_51 rfl (fun zc51 => ?_) (fun zc51 => ?_)
      · refine wp_bipush (v0 := 18) d_X8_wordAt_63 (by decide) ?_
        refine wp_reti d_X8_wordAt_65 rfl ?_
        refine kR_i ?_ rfl
        rw [if_neg zc9, if_neg zc30, if_neg zc51]
      · refine wp_aload_n 0 d_X8_wordAt_54 rfl rfl ?_
        refine wp_getfield (v := .ref (38)) d_X8_wordAt_55 gf_X8_9 (hp_37 _ _ _ _ _) rfl ?_
        refine wp_iload_n 1 d_X8_wordAt_58 rfl rfl ?_
        refine wp_iaload (v := (c.2.1 38) (i)) d_X8_wordAt_59 (hp_38 _ _ _ _ _) (vp_in_nI (by omega) (by omega)) (congrArg ((c.2.1 38)) (nI_clamp (by omega))) ?_
        refine wp_goto 65 d_X8_wordAt_60 rfl ?_
        refine wp_reti d_X8_wordAt_65 rfl ?_
        refine kR_i ?_ rfl
        rw [if_neg zc9, if_neg zc30, if_pos zc51]
    · refine wp_aload_n 0 d_X8_wordAt_33 rfl rfl ?_
      refine wp_iload_n 1 d_X8_wordAt_34 rfl rfl ?_
      refine wp_iload_n 2 d_X8_wordAt_35 rfl rfl ?_
      refine wp_iload_n 1 d_X8_wordAt_36 rfl rfl ?_
      refine wp_isub d_X8_wordAt_37 ?_
      refine wp_v (v0 := nI ((e) - (i))) (pk_sub (a := e) (b := i) (by omega)) ?_
      refine wp_vrt_i (As := [.int (nI (i)), .int (nI ((e) - (i)))]) (x0 := if e - i ≤ 4 then 1000 + qnum (c.2.1 38) i (e - i) else 18) (h1 := HP c w m v E) d_X8_wordAt_38 lk_X8_81 mv_X8_numberAt in_X8_numberAt se_X8_numberAt (Nat.le_of_ble_eq_true rfl) (Nat.le_of_ble_eq_true rfl) (hp_37 _ _ _ _ _) rfl (s_X8_numberAt (i := i) (n := e - i) (by omega)) ?_
      refine wp_reti d_X8_wordAt_41 rfl ?_
      refine kR_i ?_ rfl
      rw [if_neg zc9, if_pos zc30]
  · refine wp_aload_n 0 d_X8_wordAt_12 rfl rfl ?_
    refine wp_iload_n 1 d_X8_wordAt_13 rfl rfl ?_
    refine wp_iload_n 2 d_X8_wordAt_14 rfl rfl ?_
    refine wp_iload_n 1 d_X8_wordAt_15 rfl rfl ?_
    refine wp_isub d_X8_wordAt_16 ?_
    refine wp_v (v0 := nI ((e) - (i))) (pk_sub (a := e) (b := i) (by omega)) ?_
    refine wp_vrt_i (As := [.int (nI (i)), .int (nI ((e) - (i)))]) (x0 := qnm (c.2.1 38) i (e - i) kBYT 0 0 true) (h1 := HP c w m v E) d_X8_wordAt_17 lk_X8_78 mv_X8_nameAt in_X8_nameAt se_X8_nameAt (Nat.le_of_ble_eq_true rfl) (Nat.le_of_ble_eq_true rfl) (hp_37 _ _ _ _ _) rfl (s_X8_nameAt (i := i) (n := e - i) (by omega)) ?_
    refine wp_reti d_X8_wordAt_20 rfl ?_
    refine kR_i ?_ rfl
    rw [if_pos zc9]
abbrev kQt := Nat × Int32 × Nat × (Nat → Int32)
def kTx (b : kZ) (W Z : Nat → Int32) (p : kQt) (u : kZ) : Prop := (u.1 3704 = nI p.1 ∧ u.1 3705 = W p.1 ∧ u.1 3706 = p.2.1 ∧ u.1 3708 = nI p.2.2.1 ∧ u.2.1 41 = p.2.2.2 ∧ u.2.1 39 = W ∧ u.2.1 40 = Z) ∧ (∀ k, k ≠ 3704 → k ≠ 3705 → k ≠ 3706 → k ≠ 3708 → u.1 k = b.1 k) ∧ (∀ k, k ≠ 39 → k ≠ 40 → k ≠ 41 → u.2.1 k = b.2.1 k) ∧ u.2.2 = b.2.2
def kJ (W : Nat → Int32) (N : Nat) (a : Int) (p : kQt) : Prop := p.1 ≤ N ∧ p.2.2.1 ≤ 232 ∧ (p.2.1 = -1 → (p.2.2.1 : Int) + a ≤ p.1)
def kW0 (W Z : Nat → Int32) (N : Nat) : Prop := N ≤ 200 ∧ W N = 19 ∧ (∀ i, i < N → W i ≠ 19) ∧ ∀ i, i ≤ N → Z i ≠ -1
def qstep (W : Nat → Int32) (p : kQt) : kQt := if W p.1 = 19 then p else (p.1 + 1, p.2)
def qfail (Z : Nat → Int32) (p : kQt) : kQt := if p.2.1 = -1 then (p.1, Z p.1, p.2.2) else p
def qexp (W Z : Nat → Int32) (x : Int32) (p : kQt) : kQt := qstep W (if W p.1 = x then p else qfail Z p)
def qemit (x : Int32) (p : kQt) : kQt := if p.2.2.1 < 232 then (p.1, p.2.1, p.2.2.1 + 1, upd p.2.2.2 p.2.2.1 x) else p
theorem kTx.step {b u : kZ} {W Z : Nat → Int32} {p : kQt} (h : kTx b W Z p u) : kTx b W Z (p.1 + 1, p.2) (setS (setS u 3704 (nI (p.1 + 1))) 3705 (W (p.1 + 1))) := by
  obtain ⟨⟨h1, h2, h3, h4, h5, h6, h7⟩, h8, h9, h10⟩ := h
  refine ⟨⟨rfl, rfl, h3, h4, h5, h6, h7⟩, fun k e1 e2 e3 e4 => ?_, h9, h10⟩
  show upd (upd u.1 3704 _) 3705 _ k = _
  rw [upd_n _ _ e2, upd_n _ _ e1]
  exact h8 k e1 e2 e3 e4
theorem kTx.fail {b u : kZ} {W Z : Nat → Int32} {p : kQt} {x : Int32} (h : kTx b W Z p u) : kTx b W Z (p.1, x, p.2.2) (setS u 3706 x) := by
  obtain ⟨⟨h1, h2, h3, h4, h5, h6, h7⟩, h8, h9, h10⟩ := h
  refine ⟨⟨h1, h2, rfl, h4, h5, h6, h7⟩, fun k e1 e2 e3 e4 => ?_, h9, h10⟩
  show upd u.1 3706 _ k = _
  rw [upd_n _ _ e3]
  exact h8 k e1 e2 e3 e4
theorem kTx.code {b u : kZ} {W Z : Nat → Int32} {p : kQt} {o1 : Nat → Int32} (h : kTx b W Z p u) : kTx b W Z (p.1, p.2.1, p.2.2.1, o1) (setA u 41 o1) := by
  obtain ⟨⟨h1, h2, h3, h4, h5, h6, h7⟩, h8, h9, h10⟩ := h
  refine ⟨⟨h1, h2, h3, h4, rfl, h6, h7⟩, h8, fun k e1 e2 e3 => ?_, h10⟩
  show updA u.2.1 41 _ k = _
  exact (updA_n u.2.1 o1 e3).trans (h9 k e1 e2 e3)
theorem kTx.size {b u : kZ} {W Z : Nat → Int32} {p : kQt} {n1 : Nat} (h : kTx b W Z p u) : kTx b W Z (p.1, p.2.1, n1, p.2.2.2) (setS u 3708 (nI n1)) := by
  obtain ⟨⟨h1, h2, h3, h4, h5, h6, h7⟩, h8, h9, h10⟩ := h
  refine ⟨⟨h1, h2, h3, rfl, h5, h6, h7⟩, fun k e1 e2 e3 e4 => ?_, h9, h10⟩
  show upd u.1 3708 _ k = _
  rw [upd_n _ _ e4]
  exact h8 k e1 e2 e3 e4
theorem kJ.step {W : Nat → Int32} {Z : Nat → Int32} {N : Nat} {a : Int} {p : kQt} (hw : kW0 W Z N) (h : kJ W N a p) : kJ W N a (qstep W p) := by
  unfold qstep
  split
  · exact h
  · rename_i q
    obtain ⟨h1, h2, h3⟩ := h
    have : p.1 ≠ N := fun e => q (by rw [e]; exact hw.2.1)
    exact ⟨by show p.1 + 1 ≤ N; omega, h2, fun e => by have := h3 e; show (p.2.2.1 : Int) + a ≤ ((p.1 + 1 : Nat) : Int); omega⟩
theorem kJ.step1 {W : Nat → Int32} {Z : Nat → Int32} {N : Nat} {a : Int} {p : kQt} (hw : kW0 W Z N) (q : W p.1 ≠ 19) (h : kJ W N a p) : kJ W N (a + 1) (qstep W p) := by
  unfold qstep
  rw [if_neg q]
  obtain ⟨h1, h2, h3⟩ := h
  have : p.1 ≠ N := fun e => q (by rw [e]; exact hw.2.1)
  exact ⟨by show p.1 + 1 ≤ N; omega, h2, fun e => by have := h3 e; show (p.2.2.1 : Int) + (a + 1) ≤ ((p.1 + 1 : Nat) : Int); omega⟩
theorem kJ.fail {W : Nat → Int32} {Z : Nat → Int32} {N : Nat} {a a1 : Int} {p : kQt} (hw : kW0 W Z N) (h : kJ W N a p) : kJ W N a1 (qfail Z p) := by
  unfold qfail
  split
  · exact ⟨h.1, h.2.1, fun e => absurd e (hw.2.2.2 _ h.1)⟩
  · rename_i q
    exact ⟨h.1, h.2.1, fun e => absurd e q⟩
theorem kJ.emit {W : Nat → Int32} {N : Nat} {a : Int} {p : kQt} {x : Int32} (h : kJ W N (a + 1) p) : kJ W N a (qemit x p) := by
  unfold qemit
  split
  · rename_i q
    exact ⟨h.1, q, fun e => by have := h.2.2 e; show ((p.2.2.1 + 1 : Nat) : Int) + a ≤ p.1; omega⟩
  · exact ⟨h.1, h.2.1, fun e => by have := h.2.2 e; omega⟩
theorem s_X8_step {X : kX} {d : Nat} {c w m v : kZ} {E : kH} {W Z : Nat → Int32} {N : Nat} (hw : kW0 W Z N) {p : kQt} {u : kZ} (hx : kTx w W Z p u) (hL : p.1 ≤ N) : WP X d 0 0 Y_X8_step 0 [(0, .ref (37))] [] (HP c u m v E) (fun r1 h1 => r1 = none ∧ ∃ u1 : kZ, h1 = HP c u1 m v E ∧ kTx w W Z (qstep W p) u1) := by
  refine wp_aload_n 0 d_X8_step_0 rfl rfl ?_
  refine wp_getfield (v := .int (W (p).1)) d_X8_step_1 gf_X8_36 (hp_37 _ _ _ _ _) (congrArg (fun z => some (Value.int z)) hx.1.2.1) ?_
  refine wp_bipush (v0 := 19) d_X8_step_4 (by decide) ?_
  refine wp_icmp_ne 10 d_X8_step_6 rfl (fun zc6 => ?_) (fun zc6 => ?_)
  · have hL1 : p.1 + 1 ≤ 200 := by
      have : p.1 ≠ N := fun e => zc6 (by rw [e]; exact hw.2.1)
      have := hw.1
      omega
    refine wp_aload_n 0 d_X8_step_10 rfl rfl ?_
    refine wp_dup d_X8_step_11 rfl ?_
    refine wp_getfield (v := .int (nI ((p).1))) d_X8_step_12 gf_X8_33 (hp_37 _ _ _ _ _) (congrArg (fun z => some (Value.int z)) hx.1.1) ?_
    refine wp_iconst (v0 := 1) d_X8_step_15 rfl ?_
    refine wp_iadd d_X8_step_16 ?_
    refine wp_v (v0 := nI (((p).1) + (1))) (nI_add ((p).1) (1)) ?_
    refine wp_putfield (h' := HP c (setS u 3704 (nI (((p).1) + (1)))) m v E) d_X8_step_17 gp_X8_33 (kfit_i _) (hp_37 _ _ _ _ _) (Nat.le_of_ble_eq_true rfl) (hps_37_4 _ _ _ _ _ _) ?_
    refine wp_aload_n 0 d_X8_step_20 rfl rfl ?_
    refine wp_aload_n 0 d_X8_step_21 rfl rfl ?_
    refine wp_getfield (v := .ref (39)) d_X8_step_22 gf_X8_15 (hp_37 _ _ _ _ _) rfl ?_
    refine wp_aload_n 0 d_X8_step_25 rfl rfl ?_
    refine wp_getfield (v := .int ((nI (((p).1) + (1))))) d_X8_step_26 gf_X8_33 (hp_37 _ _ _ _ _) rfl ?_
    refine wp_iaload (v := W (((p).1) + (1))) d_X8_step_29 (hp_39 _ _ _ _ _) (vp_in_nI (by omega) (by omega)) ((congrArg ((u.2.1 39)) (nI_clamp (by omega))).trans (congrFun hx.1.2.2.2.2.2.1 (((p).1) + (1)))) ?_
    refine wp_putfield (h' := HP c (setS (setS u 3704 (nI (((p).1) + (1)))) 3705 (W (((p).1) + (1)))) m v E) d_X8_step_30 gp_X8_36 (kfit_i _) (hp_37 _ _ _ _ _) (Nat.le_of_ble_eq_true rfl) (hps_37_5 _ _ _ _ _ _) ?_
    refine wp_vret d_X8_step_33 rfl ?_
    exact ⟨rfl, _, rfl, by rw [show qstep W p = _ from if_neg zc6]; exact hx.step⟩
  · refine wp_vret d_X8_step_9 rfl ?_
    exact ⟨rfl, u, rfl, by rw [show qstep W p = p from if_pos zc6]; exact hx⟩
theorem s_X8_fail {X : kX} {d : Nat} {c w m v : kZ} {E : kH} {W Z : Nat → Int32} {N : Nat} (hw : kW0 W Z N) {p : kQt} {u : kZ} (hx : kTx w W Z p u) (hL : p.1 ≤ N) : WP X d 0 0 Y_X8_fail 0 [(0, .ref (37))] [] (HP c u m v E) (fun r1 h1 => r1 = none ∧ ∃ u1 : kZ, h1 = HP c u1 m v E ∧ kTx w W Z (qfail Z p) u1) := by
  refine wp_aload_n 0 d_X8_fail_0 rfl rfl ?_
  refine wp_getfield (v := .int ((p).2.1)) d_X8_fail_1 gf_X8_39 (hp_37 _ _ _ _ _) (congrArg (fun z => some (Value.int z)) hx.1.2.2.1) ?_
  refine wp_iconst (v0 := -1) d_X8_fail_4 rfl ?_
  refine wp_icmp_ne 21 d_X8_fail_5 rfl (fun zc5 => ?_) (fun zc5 => ?_)
  · refine wp_vret d_X8_fail_21 rfl ?_
    exact ⟨rfl, u, rfl, by rw [show qfail Z p = p from if_neg zc5]; exact hx⟩
  · have hL1 : p.1 ≤ 200 := Nat.le_trans hL hw.1
    refine wp_aload_n 0 d_X8_fail_8 rfl rfl ?_
    refine wp_aload_n 0 d_X8_fail_9 rfl rfl ?_
    refine wp_getfield (v := .ref (40)) d_X8_fail_10 gf_X8_18 (hp_37 _ _ _ _ _) rfl ?_
    refine wp_aload_n 0 d_X8_fail_13 rfl rfl ?_
    refine wp_getfield (v := .int (nI ((p).1))) d_X8_fail_14 gf_X8_33 (hp_37 _ _ _ _ _) (congrArg (fun z => some (Value.int z)) hx.1.1) ?_
    refine wp_iaload (v := Z ((p).1)) d_X8_fail_17 (hp_40 _ _ _ _ _) (vp_in_nI (by omega) (by omega)) ((congrArg ((u.2.1 40)) (nI_clamp (by omega))).trans (congrFun hx.1.2.2.2.2.2.2 ((p).1))) ?_
    refine wp_putfield (h' := HP c (setS u 3706 (Z ((p).1))) m v E) d_X8_fail_18 gp_X8_39 (kfit_i _) (hp_37 _ _ _ _ _) (Nat.le_of_ble_eq_true rfl) (hps_37_6 _ _ _ _ _ _) ?_
    refine wp_vret d_X8_fail_21 rfl ?_
    exact ⟨rfl, _, rfl, by rw [show qfail Z p = _ from if_pos zc5]; exact hx.fail⟩
theorem s_X8_emit {X : kX} {d : Nat} {c w m v : kZ} {E : kH} {W Z : Nat → Int32} {p : kQt} {u : kZ} (hx : kTx w W Z p u) (hn : p.2.2.1 ≤ 232) (x : Int32) : WP X d 0 0 Y_X8_emit 0 [(0, .ref (37)), (1, .int (x))] [] (HP c u m v E) (fun r1 h1 => r1 = none ∧ ∃ u1 : kZ, h1 = HP c u1 m v E ∧ kTx w W Z (qemit x p) u1) := by
  refine wp_aload_n 0 d_X8_emit_0 rfl rfl ?_
  refine wp_getfield (v := .int (nI ((p).2.2.1))) d_X8_emit_1 gf_X8_42 (hp_37 _ _ _ _ _) (congrArg (fun z => some (Value.int z)) hx.1.2.2.2.1) ?_
  refine wp_aload_n 0 d_X8_emit_4 rfl rfl ?_
  refine wp_getfield (v := .ref (41)) d_X8_emit_5 gf_X8_23 (hp_37 _ _ _ _ _) rfl ?_
  refine wp_alen (v := 232) d_X8_emit_8 (hp_41 _ _ _ _ _) (Nat.le_of_ble_eq_true rfl) rfl ?_
  refine wp_ncmp_lt (a := (p).2.2.1) (b := 232) 13 d_X8_emit_9 rfl (by omega) (by omega) (fun zc9 => ?_) (fun zc9 => ?_)
  · refine wp_aload_n 0 d_X8_emit_13 rfl rfl ?_
    refine wp_getfield (v := .ref (41)) d_X8_emit_14 gf_X8_23 (hp_37 _ _ _ _ _) rfl ?_
    refine wp_aload_n 0 d_X8_emit_17 rfl rfl ?_
    refine wp_getfield (v := .int (nI ((p).2.2.1))) d_X8_emit_18 gf_X8_42 (hp_37 _ _ _ _ _) (congrArg (fun z => some (Value.int z)) hx.1.2.2.2.1) ?_
    refine wp_iload_n 1 d_X8_emit_21 rfl rfl ?_
    refine wp_iastore (h' := HP c (setA u 41 (upd (u.2.1 41) ((p).2.2.1) (x))) m v E) d_X8_emit_22 (hp_41 _ _ _ _ _) (vp_in_nI (by omega) (by omega)) (by rw [nI_clamp (by omega)]; exact (hpa_41 _ _ _ _ _ _)) ?_
    refine wp_aload_n 0 d_X8_emit_23 rfl rfl ?_
    refine wp_dup d_X8_emit_24 rfl ?_
    refine wp_getfield (v := .int (nI ((p).2.2.1))) d_X8_emit_25 gf_X8_42 (hp_37 _ _ _ _ _) (congrArg (fun z => some (Value.int z)) hx.1.2.2.2.1) ?_
    refine wp_iconst (v0 := 1) d_X8_emit_28 rfl ?_
    refine wp_iadd d_X8_emit_29 ?_
    refine wp_v (v0 := nI (((p).2.2.1) + (1))) (nI_add ((p).2.2.1) (1)) ?_
    refine wp_putfield (h' := HP c (setS (setA u 41 (upd (u.2.1 41) ((p).2.2.1) (x))) 3708 (nI (((p).2.2.1) + (1)))) m v E) d_X8_emit_30 gp_X8_42 (kfit_i _) (hp_37 _ _ _ _ _) (Nat.le_of_ble_eq_true rfl) (hps_37_8 _ _ _ _ _ _) ?_
    refine wp_vret d_X8_emit_33 rfl ?_
    refine ⟨rfl, _, rfl, ?_⟩
    rw [show qemit x p = _ from if_pos (by omega), ← hx.1.2.2.2.2.1]
    exact (hx.code).size
  · refine wp_vret d_X8_emit_12 rfl ?_
    exact ⟨rfl, u, rfl, by rw [show qemit x p = p from if_neg (by omega)]; exact hx⟩
