/-! ===== the law: the loop, the start, the claim ===== -/
theorem law_loop {X : kX} (hX : X.1 ≤ 2560) : ∀ (k i : Nat) (c w m v : kZ) (E : kH), X.1 < i + 5 * k + 5 → i ≤ 3000 → Rel c w m E → WP X 31 (2 * k) (234 * k) yLaw 18 [(3, .int (nI (i))), (2, .ref (80)), (1, .ref (0)), (0, .float 0)] [] (HP c w m v E) (fun v _ => v = some (.int 1)) := by
  intro k
  induction k with
  | zero =>
    intro i c w m v E hk h3 hR
    refine wp_iload_n 0 d_L_law_18 rfl rfl ?_
    refine wp_aload_nF 3 d_L_law_19 rfl rfl ?_
    refine wp_slen d_L_law_20 rfl ?_
    refine wp_iconst (v0 := 5) d_L_law_21 rfl ?_
    refine wp_isub d_L_law_22 ?_
    refine wp_icmp_gt 1719 d_L_law_23 rfl (fun _ => ?_) (fun q => ?_)
    · refine wp_iconst (v0 := 1) d_L_law_1719 rfl ?_
      exact wp_iret d_L_law_1720 rfl k_nar1 rfl
    · refine absurd (Int32.lt_iff_toInt_lt.mpr ?_) q
      have e : (Int32.ofNat X.1 - 5).toInt = (X.1 : Int) - (5 : Nat) := pk_sub_toInt (a := X.1) (b := 5) (by omega) (by omega)
      rw [e, nI_toInt (by omega)]
      omega
  | succ k ih =>
    intro i c w m v E hk h3 hR
    refine wp_iload_n 0 d_L_law_18 rfl rfl ?_
    refine wp_aload_nF 3 d_L_law_19 rfl rfl ?_
    refine wp_slen d_L_law_20 rfl ?_
    refine wp_iconst (v0 := 5) d_L_law_21 rfl ?_
    refine wp_isub d_L_law_22 ?_
    have e : (Int32.ofNat X.1 - 5).toInt = (X.1 : Int) - (5 : Nat) := pk_sub_toInt (a := X.1) (b := 5) (by omega) (by omega)
    have e2 : (nI i).toInt = (i : Int) := nI_toInt (by omega)
    refine wp_icmp_gt 1719 d_L_law_23 rfl (fun _ => ?_) (fun q => ?_)
    · refine wp_iconst (v0 := 1) d_L_law_1719 rfl ?_
      exact wp_iret d_L_law_1720 rfl k_nar1 rfl
    · have hi5 : i + 5 ≤ X.1 := Decidable.byContradiction (fun z => q (Int32.lt_iff_toInt_lt.mpr (by omega)))
      have K : ∀ (c w m v : kZ) (E : kH), Rel c w m E → WP X 31 (2 * k) (234 * k) yLaw 1713 [(3, .int (nI (i))), (2, .ref (80)), (1, .ref (0)), (0, .float 0)] [] (HP c w m v E) (fun v _ => v = some (.int 1)) := fun c w m v E hR => by
        refine wp_iinc (v0 := nI (i + 5)) [(3, .int (nI (i + 5))), (2, .ref 80), (1, .ref 0), (0, .float 0)] 0 d_L_law_1713 rfl (nI_add i 5) (Nat.le_of_ble_eq_true rfl) rfl ?_
        refine wp_goto 18 d_L_law_1716 rfl ?_
        exact ih (i + 5) c w m v E (by omega) (by omega) hR
      refine wp_widen (mc' := 2 + 2 * k) (ms' := 234 + 234 * k) (by omega) (by omega) ?_
      refine wp_aload_nF 3 d_L_law_26 rfl rfl ?_
      refine wp_iload_n 0 d_L_law_27 rfl rfl ?_
      refine wp_sload (v := X.2 i) d_L_law_28 (vp_in_nI (by omega) (by omega)) (congrArg X.2 (nI_clamp (by omega))) ?_
      refine wp_bipush (v0 := 63) d_L_law_29 (by decide) ?_
      refine wp_iand d_L_law_31 ?_
      generalize X.2 i &&& 63 = x9
      refine wp_if (P := x9 = 0) (fun q0 => ?_) (fun q0 => ?_)
      · refine wp_tableIn 268 d_L_law_32 (by rw [q0]; decide) (by rw [q0]; decide) (by rw [q0]; rfl) rfl ?_
        exact law_lens hX hi5 K c w m v E hR
      refine wp_if (P := x9 = 1) (fun q1 => ?_) (fun q1 => ?_)
      · refine wp_tableIn 321 d_L_law_32 (by rw [q1]; decide) (by rw [q1]; decide) (by rw [q1]; rfl) rfl ?_
        exact law_lensOf hX hi5 K c w m v E hR
      refine wp_if (P := x9 = 2) (fun q2 => ?_) (fun q2 => ?_)
      · refine wp_tableIn 354 d_L_law_32 (by rw [q2]; decide) (by rw [q2]; decide) (by rw [q2]; rfl) rfl ?_
        exact law_grind hX hi5 K c w m v E hR
      refine wp_if (P := x9 = 3) (fun q3 => ?_) (fun q3 => ?_)
      · refine wp_tableIn 397 d_L_law_32 (by rw [q3]; decide) (by rw [q3]; decide) (by rw [q3]; rfl) rfl ?_
        exact law_remake hX hi5 K c w m v E hR
      refine wp_if (P := x9 = 4) (fun q4 => ?_) (fun q4 => ?_)
      · refine wp_tableIn 430 d_L_law_32 (by rw [q4]; decide) (by rw [q4]; decide) (by rw [q4]; rfl) rfl ?_
        exact law_setting hX hi5 K c w m v E hR
      refine wp_if (P := x9 = 5) (fun q5 => ?_) (fun q5 => ?_)
      · refine wp_tableIn 453 d_L_law_32 (by rw [q5]; decide) (by rw [q5]; decide) (by rw [q5]; rfl) rfl ?_
        exact law_let hX hi5 K c w m v E hR
      refine wp_if (P := x9 = 6) (fun q6 => ?_) (fun q6 => ?_)
      · refine wp_tableIn 486 d_L_law_32 (by rw [q6]; decide) (by rw [q6]; decide) (by rw [q6]; rfl) rfl ?_
        exact law_feed hX hi5 K c w m v E hR
      refine wp_if (P := x9 = 7) (fun q7 => ?_) (fun q7 => ?_)
      · refine wp_tableIn 549 d_L_law_32 (by rw [q7]; decide) (by rw [q7]; decide) (by rw [q7]; rfl) rfl ?_
        exact law_rules hX hi5 K c w m v E hR
      refine wp_if (P := x9 = 8) (fun q8 => ?_) (fun q8 => ?_)
      · refine wp_tableIn 562 d_L_law_32 (by rw [q8]; decide) (by rw [q8]; decide) (by rw [q8]; rfl) rfl ?_
        exact law_seen hX hi5 K c w m v E hR
      refine wp_if (P := x9 = 9) (fun q9 => ?_) (fun q9 => ?_)
      · refine wp_tableIn 585 d_L_law_32 (by rw [q9]; decide) (by rw [q9]; decide) (by rw [q9]; rfl) rfl ?_
        exact law_shift hX hi5 K c w m v E hR
      refine wp_if (P := x9 = 10) (fun q10 => ?_) (fun q10 => ?_)
      · refine wp_tableIn 598 d_L_law_32 (by rw [q10]; decide) (by rw [q10]; decide) (by rw [q10]; rfl) rfl ?_
        exact law_blur hX hi5 K c w m v E hR
      refine wp_if (P := x9 = 11) (fun q11 => ?_) (fun q11 => ?_)
      · refine wp_tableIn 611 d_L_law_32 (by rw [q11]; decide) (by rw [q11]; decide) (by rw [q11]; rfl) rfl ?_
        exact law_wrong hX hi5 K c w m v E hR
      refine wp_if (P := x9 = 12) (fun q12 => ?_) (fun q12 => ?_)
      · refine wp_tableIn 624 d_L_law_32 (by rw [q12]; decide) (by rw [q12]; decide) (by rw [q12]; rfl) rfl ?_
        exact law_mended hX hi5 K c w m v E hR
      refine wp_if (P := x9 = 13) (fun q13 => ?_) (fun q13 => ?_)
      · refine wp_tableIn 637 d_L_law_32 (by rw [q13]; decide) (by rw [q13]; decide) (by rw [q13]; rfl) rfl ?_
        exact law_fit hX hi5 K c w m v E hR
      refine wp_if (P := x9 = 14) (fun q14 => ?_) (fun q14 => ?_)
      · refine wp_tableIn 670 d_L_law_32 (by rw [q14]; decide) (by rw [q14]; decide) (by rw [q14]; rfl) rfl ?_
        exact law_take hX hi5 K c w m v E hR
      refine wp_if (P := x9 = 15) (fun q15 => ?_) (fun q15 => ?_)
      · refine wp_tableIn 693 d_L_law_32 (by rw [q15]; decide) (by rw [q15]; decide) (by rw [q15]; rfl) rfl ?_
        exact law_place hX hi5 K c w m v E hR
      refine wp_if (P := x9 = 16) (fun q16 => ?_) (fun q16 => ?_)
      · refine wp_tableIn 726 d_L_law_32 (by rw [q16]; decide) (by rw [q16]; decide) (by rw [q16]; rfl) rfl ?_
        exact law_turn hX hi5 K c w m v E hR
      refine wp_if (P := x9 = 17) (fun q17 => ?_) (fun q17 => ?_)
      · refine wp_tableIn 759 d_L_law_32 (by rw [q17]; decide) (by rw [q17]; decide) (by rw [q17]; rfl) rfl ?_
        exact law_exchange hX hi5 K c w m v E hR
      refine wp_if (P := x9 = 18) (fun q18 => ?_) (fun q18 => ?_)
      · refine wp_tableIn 792 d_L_law_32 (by rw [q18]; decide) (by rw [q18]; decide) (by rw [q18]; rfl) rfl ?_
        exact law_price hX hi5 K c w m v E hR
      refine wp_if (P := x9 = 19) (fun q19 => ?_) (fun q19 => ?_)
      · refine wp_tableIn 805 d_L_law_32 (by rw [q19]; decide) (by rw [q19]; decide) (by rw [q19]; rfl) rfl ?_
        exact law_fix hX hi5 K c w m v E hR
      refine wp_if (P := x9 = 20) (fun q20 => ?_) (fun q20 => ?_)
      · refine wp_tableIn 818 d_L_law_32 (by rw [q20]; decide) (by rw [q20]; decide) (by rw [q20]; rfl) rfl ?_
        exact law_change hX hi5 K c w m v E hR
      refine wp_if (P := x9 = 21) (fun q21 => ?_) (fun q21 => ?_)
      · refine wp_tableIn 831 d_L_law_32 (by rw [q21]; decide) (by rw [q21]; decide) (by rw [q21]; rfl) rfl ?_
        exact law_heatFor hX hi5 K c w m v E hR
      refine wp_if (P := x9 = 22) (fun q22 => ?_) (fun q22 => ?_)
      · refine wp_tableIn 844 d_L_law_32 (by rw [q22]; decide) (by rw [q22]; decide) (by rw [q22]; rfl) rfl ?_
        exact law_eyes hX hi5 K c w m v E hR
      refine wp_if (P := x9 = 23) (fun q23 => ?_) (fun q23 => ?_)
      · refine wp_tableIn 857 d_L_law_32 (by rw [q23]; decide) (by rw [q23]; decide) (by rw [q23]; rfl) rfl ?_
        exact law_least hX hi5 K c w m v E hR
      refine wp_if (P := x9 = 24) (fun q24 => ?_) (fun q24 => ?_)
      · refine wp_tableIn 880 d_L_law_32 (by rw [q24]; decide) (by rw [q24]; decide) (by rw [q24]; rfl) rfl ?_
        exact law_pick hX hi5 K c w m v E hR
      refine wp_if (P := x9 = 25) (fun q25 => ?_) (fun q25 => ?_)
      · refine wp_tableIn 913 d_L_law_32 (by rw [q25]; decide) (by rw [q25]; decide) (by rw [q25]; rfl) rfl ?_
        exact law_good hX hi5 K c w m v E hR
      refine wp_if (P := x9 = 26) (fun q26 => ?_) (fun q26 => ?_)
      · refine wp_tableIn 936 d_L_law_32 (by rw [q26]; decide) (by rw [q26]; decide) (by rw [q26]; rfl) rfl ?_
        exact law_pairs hX hi5 K c w m v E hR
      refine wp_if (P := x9 = 27) (fun q27 => ?_) (fun q27 => ?_)
      · refine wp_tableIn 949 d_L_law_32 (by rw [q27]; decide) (by rw [q27]; decide) (by rw [q27]; rfl) rfl ?_
        exact law_mate hX hi5 K c w m v E hR
      refine wp_if (P := x9 = 28) (fun q28 => ?_) (fun q28 => ?_)
      · refine wp_tableIn 972 d_L_law_32 (by rw [q28]; decide) (by rw [q28]; decide) (by rw [q28]; rfl) rfl ?_
        exact law_years hX hi5 K c w m v E hR
      refine wp_if (P := x9 = 29) (fun q29 => ?_) (fun q29 => ?_)
      · refine wp_tableIn 985 d_L_law_32 (by rw [q29]; decide) (by rw [q29]; decide) (by rw [q29]; rfl) rfl ?_
        exact law_turned hX hi5 K c w m v E hR
      refine wp_if (P := x9 = 30) (fun q30 => ?_) (fun q30 => ?_)
      · refine wp_tableIn 1008 d_L_law_32 (by rw [q30]; decide) (by rw [q30]; decide) (by rw [q30]; rfl) rfl ?_
        exact law_game hX hi5 K c w m v E hR
      refine wp_if (P := x9 = 31) (fun q31 => ?_) (fun q31 => ?_)
      · refine wp_tableIn 1031 d_L_law_32 (by rw [q31]; decide) (by rw [q31]; decide) (by rw [q31]; rfl) rfl ?_
        exact law_play hX hi5 K c w m v E hR
      refine wp_if (P := x9 = 32) (fun q32 => ?_) (fun q32 => ?_)
      · refine wp_tableIn 1054 d_L_law_32 (by rw [q32]; decide) (by rw [q32]; decide) (by rw [q32]; rfl) rfl ?_
        exact law_report hX hi5 K c w m v E hR
      refine wp_if (P := x9 = 33) (fun q33 => ?_) (fun q33 => ?_)
      · refine wp_tableIn 1087 d_L_law_32 (by rw [q33]; decide) (by rw [q33]; decide) (by rw [q33]; rfl) rfl ?_
        exact law_forget hX hi5 K c w m v E hR
      refine wp_if (P := x9 = 34) (fun q34 => ?_) (fun q34 => ?_)
      · refine wp_tableIn 1100 d_L_law_32 (by rw [q34]; decide) (by rw [q34]; decide) (by rw [q34]; rfl) rfl ?_
        exact law_span hX hi5 K c w m v E hR
      refine wp_if (P := x9 = 35) (fun q35 => ?_) (fun q35 => ?_)
      · refine wp_tableIn 1123 d_L_law_32 (by rw [q35]; decide) (by rw [q35]; decide) (by rw [q35]; rfl) rfl ?_
        exact law_liar hX hi5 K c w m v E hR
      refine wp_if (P := x9 = 36) (fun q36 => ?_) (fun q36 => ?_)
      · refine wp_tableIn 1136 d_L_law_32 (by rw [q36]; decide) (by rw [q36]; decide) (by rw [q36]; rfl) rfl ?_
        exact law_seed hX hi5 K c w m v E hR
      refine wp_if (P := x9 = 37) (fun q37 => ?_) (fun q37 => ?_)
      · refine wp_tableIn 1159 d_L_law_32 (by rw [q37]; decide) (by rw [q37]; decide) (by rw [q37]; rfl) rfl ?_
        exact law_draw hX hi5 K c w m v E hR
      refine wp_if (P := x9 = 38) (fun q38 => ?_) (fun q38 => ?_)
      · refine wp_tableIn 1172 d_L_law_32 (by rw [q38]; decide) (by rw [q38]; decide) (by rw [q38]; rfl) rfl ?_
        exact law_often hX hi5 K c w m v E hR
      refine wp_if (P := x9 = 39) (fun q39 => ?_) (fun q39 => ?_)
      · refine wp_tableIn 1195 d_L_law_32 (by rw [q39]; decide) (by rw [q39]; decide) (by rw [q39]; rfl) rfl ?_
        exact law_prove hX hi5 K c w m v E hR
      refine wp_if (P := x9 = 40) (fun q40 => ?_) (fun q40 => ?_)
      · refine wp_tableIn 1218 d_L_law_32 (by rw [q40]; decide) (by rw [q40]; decide) (by rw [q40]; rfl) rfl ?_
        exact law_row hX hi5 K c w m v E hR
      refine wp_if (P := x9 = 41) (fun q41 => ?_) (fun q41 => ?_)
      · refine wp_tableIn 1251 d_L_law_32 (by rw [q41]; decide) (by rw [q41]; decide) (by rw [q41]; rfl) rfl ?_
        exact law_alterRow hX hi5 K c w m v E hR
      refine wp_if (P := x9 = 42) (fun q42 => ?_) (fun q42 => ?_)
      · refine wp_tableIn 1294 d_L_law_32 (by rw [q42]; decide) (by rw [q42]; decide) (by rw [q42]; rfl) rfl ?_
        exact law_judge hX hi5 K c w m v E hR
      refine wp_if (P := x9 = 43) (fun q43 => ?_) (fun q43 => ?_)
      · refine wp_tableIn 1307 d_L_law_32 (by rw [q43]; decide) (by rw [q43]; decide) (by rw [q43]; rfl) rfl ?_
        exact law_sheet hX hi5 K c w m v E hR
      refine wp_if (P := x9 = 44) (fun q44 => ?_) (fun q44 => ?_)
      · refine wp_tableIn 1350 d_L_law_32 (by rw [q44]; decide) (by rw [q44]; decide) (by rw [q44]; rfl) rfl ?_
        exact law_write hX hi5 K c w m v E hR
      refine wp_if (P := x9 = 45) (fun q45 => ?_) (fun q45 => ?_)
      · refine wp_tableIn 1393 d_L_law_32 (by rw [q45]; decide) (by rw [q45]; decide) (by rw [q45]; rfl) rfl ?_
        exact law_item hX hi5 K c w m v E hR
      refine wp_if (P := x9 = 46) (fun q46 => ?_) (fun q46 => ?_)
      · refine wp_tableIn 1436 d_L_law_32 (by rw [q46]; decide) (by rw [q46]; decide) (by rw [q46]; rfl) rfl ?_
        exact law_fits hX hi5 K c w m v E hR
      refine wp_if (P := x9 = 47) (fun q47 => ?_) (fun q47 => ?_)
      · refine wp_tableIn 1479 d_L_law_32 (by rw [q47]; decide) (by rw [q47]; decide) (by rw [q47]; rfl) rfl ?_
        exact law_spread hX hi5 K c w m v E hR
      refine wp_if (P := x9 = 48) (fun q48 => ?_) (fun q48 => ?_)
      · refine wp_tableIn 1522 d_L_law_32 (by rw [q48]; decide) (by rw [q48]; decide) (by rw [q48]; rfl) rfl ?_
        exact law_shelf hX hi5 K c w m v E hR
      refine wp_if (P := x9 = 49) (fun q49 => ?_) (fun q49 => ?_)
      · refine wp_tableIn 1565 d_L_law_32 (by rw [q49]; decide) (by rw [q49]; decide) (by rw [q49]; rfl) rfl ?_
        exact law_taken hX hi5 K c w m v E hR
      refine wp_if (P := x9 = 50) (fun q50 => ?_) (fun q50 => ?_)
      · refine wp_tableIn 1598 d_L_law_32 (by rw [q50]; decide) (by rw [q50]; decide) (by rw [q50]; rfl) rfl ?_
        exact law_act hX hi5 K c w m v E hR
      refine wp_if (P := x9 = 51) (fun q51 => ?_) (fun q51 => ?_)
      · refine wp_tableIn 1641 d_L_law_32 (by rw [q51]; decide) (by rw [q51]; decide) (by rw [q51]; rfl) rfl ?_
        exact law_trace hX hi5 K c w m v E hR
      refine wp_if (P := x9 = 52) (fun q52 => ?_) (fun q52 => ?_)
      · refine wp_tableIn 1664 d_L_law_32 (by rw [q52]; decide) (by rw [q52]; decide) (by rw [q52]; rfl) rfl ?_
        exact law_many hX hi5 K c w m v E hR
      refine wp_if (P := x9 = 53) (fun q53 => ?_) (fun q53 => ?_)
      · refine wp_tableIn 1687 d_L_law_32 (by rw [q53]; decide) (by rw [q53]; decide) (by rw [q53]; rfl) rfl ?_
        exact law_keep hX hi5 K c w m v E hR
      refine wp_if (P := x9 = 54) (fun q54 => ?_) (fun q54 => ?_)
      · refine wp_tableIn 1700 d_L_law_32 (by rw [q54]; decide) (by rw [q54]; decide) (by rw [q54]; rfl) rfl ?_
        exact law_again hX hi5 K c w m v E hR
      refine wp_swd_L_law_32 q0 q1 q2 q3 q4 q5 q6 q7 q8 q9 q10 q11 q12 q13 q14 q15 q16 q17 q18 q19 q20 q21 q22 q23 q24 q25 q26 q27 q28 q29 q30 q31 q32 q33 q34 q35 q36 q37 q38 q39 q40 q41 q42 q43 q44 q45 q46 q47 q48 q49 q50 q51 q52 q53 q54 ?_
      exact wp_widen (by omega) (by omega) (K c w m v E hR)
def cI (g9 : Nat → Int32) : kZ := (fun k => if k = 113 ∨ k = 1313 then 1 else 0, fun k => if k = 6 then upd (upd (upd (upd (fun _ => 0) 0 0) 1 1) 2 0) 3 0 else if k = 18 then upd (upd (upd (upd (fun _ => 0) 0 0) 1 1) 2 0) 3 0 else if k = 77 then g9 else fun _ => 0, fun k => if k = 1 then 7 else 19, fun _ _ => none)
def wI : kZ := (fun k => if k = 2513 ∨ k = 6013 then 1 else 0, fun k => if k = 30 then upd (upd (upd (upd (fun _ => 0) 0 0) 1 1) 2 0) 3 0 else if k = 65 then upd (upd (upd (upd (fun _ => 0) 0 0) 1 1) 2 0) 3 0 else if k = 48 then upd (fun _ => 0) 0 1 else fun _ => 0, fun k => if k = 25 then 31 else 66, fun _ _ => none)
def mI : kZ := (fun _ => 0, fun k => if k = 81 then upd (upd (fun _ => 0) 5 1) 8 1 else if k = 95 then upd (upd (upd (upd (fun _ => 0) 0 (-1)) 1 (-1)) 2 (-1)) 3 (-1) else fun _ => 0, fun _ => 0, fun _ _ => none)
def vI : kZ := (fun _ => 0, fun _ _ => 0, fun _ => 0, fun _ _ => none)
set_option maxRecDepth 100000 in
theorem start_HP (g9 : Nat → Int32) : kO9 g9 ++ kO10 80 = HP (cI g9) wI mI vI [] := rfl
theorem start_Rel (g9 : Nat → Int32) (h : ∀ j, j < 4 → g9 j = -1) : Rel (cI g9) wI mI [] := by
  have hU : RlU [] 7 (upd (upd (fun _ => 0) 5 1) 8 1) := by
    refine ⟨0, 0, fun _ => 0, fun _ => 0, fun c w m v => ⟨hp_7 c w m v [], hp_8 c w m v []⟩, by decide, by decide, trivial, rfl, ⟨rfl, fun r hr => absurd hr (by omega)⟩, fun s' _ l kd => rfl⟩
  refine ⟨⟨0, 0, 0, ⟨⟨by decide, by decide, by decide⟩, ⟨rfl, rfl⟩, ⟨rfl, rfl⟩, ⟨rfl, rfl⟩, rfl⟩, fun l hl => absurd hl (by omega), ?_, ⟨fun j hj => absurd hj (by omega), fun i j hi => absurd hi (by omega)⟩, fun j hj => absurd hj (by omega), hU⟩, ⟨Or.inl rfl, rfl, fun z => absurd (show (0 : Int32) = 1 from z) (by decide)⟩, ⟨0, by decide, rfl, rfl, fun j hj => absurd hj (by omega)⟩, ⟨0, by decide, by decide, rfl, rfl, fun j hj => absurd hj (by omega)⟩, ⟨0, by decide, rfl, rfl, fun j hj => absurd hj (by omega)⟩, ⟨fun _ => 0, fun _ => 0, fun _ _ => 0, ⟨fun j hj => ⟨rfl, Nat.zero_le _, Or.inl ⟨rfl, ?_⟩⟩, fun i j a _ _ z => by cases z⟩⟩, fun j hj => Or.inr (Or.inr ⟨h j hj, rfl, rfl⟩), ⟨?_, fun T _ => rfl⟩⟩
  · show ((0 : Int32) = 0 ∧ 0 ≤ (0 : Int32).toInt ∧ (0 : Int32).toInt ≤ 9) ∧ ((1 : Int32) = 1 ∧ 1 ≤ (1 : Int32).toInt ∧ (1 : Int32).toInt ≤ 3) ∧ ((0 : Int32) = 0 ∧ -9 ≤ (0 : Int32).toInt ∧ (0 : Int32).toInt ≤ 9) ∧ ((0 : Int32) = 0 ∧ 0 ≤ (0 : Int32).toInt ∧ (0 : Int32).toInt ≤ 999)
    decide
  · obtain rfl | rfl | rfl | rfl : j = 0 ∨ j = 1 ∨ j = 2 ∨ j = 3 := by omega
    · rfl
    · rfl
    · rfl
    · rfl
  · intro k hk
    have hk : k = 0 := by
      have : ([] : List (Int32 × Int32)).length = 0 := rfl
      omega
    subst hk
    rfl
set_option maxRecDepth 100000 in
theorem law_start {X : kX} (hX : X.1 ≤ 2560) : WP X 31 600000 7302250 yLaw 0 [(0, .float 0)] [] [] (fun v _ => v = some (.int 1)) := by
  refine wp_widen (mc' := (79 + ((21 + 2 * 512) + 1)) + 1) (ms' := (6970 + ((7778 + 234 * 512) + 43)) + 16) (by decide) (by decide) ?_
  refine wp_new (ci := 9) (r := (RX9, TX9, 16)) (fs := [.null, .null, .int 0, .null, .null, .null, .null, .null, .null, .null, .null, .int 0, .null, .null, .null, .null]) d_L_law_0 rfl nw_L_7 ins_X9 ini_X9 rfl (fun _ _ => rfl) ?_
  refine wp_dup d_L_law_3 rfl ?_
  refine wp_special (As := []) (mc1 := 79) (ms1 := 6970) (mc := ((21 + 2 * 512) + 1)) (ms := ((7778 + 234 * 512) + 43)) (st := [.ref 0]) (a := 0) d_L_law_4 lk_L_9 mv_X9_init rfl rfl in_X9_init (Nat.le_of_ble_eq_true rfl) (Nat.le_of_ble_eq_true rfl) (s_X9_init (X := X) (d := 26)) (fun v4 h4 q4 => ?_)
  obtain ⟨rfl, g9, rfl, hg9⟩ := q4
  show WP _ _ _ _ _ 7 _ [.ref 0] _ _
  refine wp_astore_n [(1, .ref 0), (0, .float 0)] d_L_law_7 rfl (Nat.le_of_ble_eq_true rfl) rfl ?_
  refine wp_new (ci := 10) (r := (RX10, TX10, 43)) (fs := [.null, .null, .null, .int 0, .null, .null, .null, .null, .int 0, .int 0, .int 0, .null, .null, .int 0, .int 0, .null, .null, .null, .int 0, .int 0, .int 0, .null, .int 0, .null, .int 0, .int 0, .int 0, .int 0, .int 0, .int 0, .int 0, .null, .null, .null, .null, .null, .null, .null, .int 0, .int 0, .int 0, .int 0, .int 0]) d_L_law_8 rfl nw_L_10 ins_X10 ini_X10 rfl (fun _ _ => rfl) ?_
  have h80 : (kO9 g9).length = 80 := rfl
  rw [h80]
  refine wp_dup d_L_law_11 rfl ?_
  refine wp_special (As := []) (mc1 := 21) (ms1 := 7778) (mc := 2 * 512) (ms := 234 * 512) (st := [.ref 80]) (a := 80) d_L_law_12 lk_L_12 mv_X10_init rfl rfl in_X10_init (Nat.le_of_ble_eq_true rfl) (Nat.le_of_ble_eq_true rfl) (s_X10_init (X := X) (d := 29) h80) (fun v12 h12 q12 => ?_)
  obtain ⟨rfl, rfl⟩ := q12
  show WP _ _ _ _ _ 15 _ [.ref 80] _ _
  refine wp_astore_n [(2, .ref 80), (1, .ref 0), (0, .float 0)] d_L_law_15 rfl (Nat.le_of_ble_eq_true rfl) rfl ?_
  refine wp_iconst (v0 := 0) d_L_law_16 rfl ?_
  refine wp_istore_n [(3, .int 0), (2, .ref 80), (1, .ref 0), (0, .float 0)] d_L_law_17 rfl (Nat.le_of_ble_eq_true rfl) rfl ?_
  refine wp_h (start_HP g9) ?_
  exact law_loop hX 512 0 (cI g9) wI mI vI [] (by omega) (by omega) (start_Rel g9 hg9)
theorem whole_start {p : Program} {e : Env} {s : State} {m : MethodId} {below : List Frame} {meth : Method} {c : Code} (l : Launch) (hflags : l.flags = flags0) {b L : Nat} {xs : Nat → Int32} (hL : L ≤ 2560) (C0 : lw_At p s m meth c b L xs) : W p l e room_1 s m #[Value.ref b] below meth c s.heap [] 0 0 (lw_Z below #[Value.ref b] s) (entryFrame m ([Value.ref b] : List Value).toArray 4) := k_start (d := 31) (by decide) (fun X hX => law_start hX) l hL C0
