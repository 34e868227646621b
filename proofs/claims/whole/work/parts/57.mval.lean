/-! ===== reference: values ===== -/
theorem lg_eq9 {x y : Int64} : lg_cmp x y = 0 ↔ x = y := by
  have h1 := lg_cmp_lt x y
  have h2 := lg_cmp_gt x y
  rw [← Int32.toInt_inj, ← Int64.toInt_inj]
  rw [Int32.lt_iff_toInt_lt, Int64.lt_iff_toInt_lt] at h1 h2
  have h3 : (0 : Int32).toInt = 0 := rfl
  omega
def rkd (x : Int64) : Int32 := if x = 398803 then 0 else if x = 21013182128292 then 1 else if x = 755277 then 2 else if x = 4902553 then 3 else if x = 679214 then 4 else if x = 680939684 then 5 else -1
def rfc (x : Int64) : Int32 := if x = 267316 then -1 else if x = 7216 then -2 else if x = 5925 then -3 else if x = 71108 then -4 else if x = 492210354 then -5 else 0
def rvh (t : Nat → Int32) (T : Nat) (q : kRt) : kRt := if rfc (rword t T q) < 0 then rwri (rfc (rword t T q)) (rwant t T true q) else if q.2.2.1 = true then q else rwri (rnum t T 9999 q).2.2.2.1 (rnum t T 9999 q)
def kRJ (T : Nat) (a : Int) (q : kRt) : Prop := q.1 ≤ q.2.1 ∧ q.2.1 ≤ T ∧ (q.1 < T → q.1 < q.2.1) ∧ (q.2.2.1 = false → (q.2.2.2.2.2.1 : Int) + a ≤ q.1)
theorem rwant_s (t : Nat → Int32) (T : Nat) (b : Bool) (q : kRt) : (rwant t T b q).2.2.2.2.2.2 = q.2.2.2.2.2.2 := by
  unfold rwant
  split <;> rfl
theorem rnum_s (t : Nat → Int32) (T : Nat) (x : Int32) (q : kRt) : (rnum t T x q).2.2.2.2.2.2 = q.2.2.2.2.2.2 := by
  unfold rnum
  split <;> exact rwant_s ..
theorem kRJ.want {t : Nat → Int32} {T : Nat} {a : Int} {b : Bool} {q : kRt} (hb : b = true → q.1 < T) (h : kRJ T a q) : kRJ T (a + 1) (rwant t T b q) := by
  obtain ⟨h1, h2, h3, h4⟩ := h
  unfold rwant
  split
  · exact ⟨h1, h2, h3, fun e => by cases e⟩
  · rename_i z
    have z1 : q.2.2.1 = false := Bool.not_eq_true _ |>.mp (fun e => z (Or.inl e))
    have z2 : b = true := Decidable.byContradiction (fun e => z (Or.inr e))
    have e1 := rfr_b (t := t) h2
    have e2 := rto_b (t := t) e1.2
    have e3 := h3 (hb z2)
    have e4 := h4 z1
    exact ⟨e2.1, e2.2.1, e2.2.2, fun _ => by show (q.2.2.2.2.2.1 : Int) + (a + 1) ≤ (rfr t T q.2.1 : Nat); omega⟩
theorem kRJ.want0 {t : Nat → Int32} {T : Nat} {a : Int} {b : Bool} {q : kRt} (h : kRJ T a q) : kRJ T a (rwant t T b q) := by
  obtain ⟨h1, h2, h3, h4⟩ := h
  unfold rwant
  split
  · exact ⟨h1, h2, h3, fun e => by cases e⟩
  · rename_i z
    have z1 : q.2.2.1 = false := Bool.not_eq_true _ |>.mp (fun e => z (Or.inl e))
    have e1 := rfr_b (t := t) h2
    have e2 := rto_b (t := t) e1.2
    have e4 := h4 z1
    exact ⟨e2.1, e2.2.1, e2.2.2, fun _ => by show (q.2.2.2.2.2.1 : Int) + a ≤ (rfr t T q.2.1 : Nat); omega⟩
theorem kRJ.wri {T : Nat} {a : Int} {x : Int32} {q : kRt} (h : kRJ T (a + 1) q) : kRJ T a (rwri x q) := by
  obtain ⟨h1, h2, h3, h4⟩ := h
  unfold rwri
  split
  · rename_i z
    exact ⟨h1, h2, h3, fun e => by rw [z] at e; cases e⟩
  · exact ⟨h1, h2, h3, fun e => by have := h4 e; show ((q.2.2.2.2.2.1 + 1 : Nat) : Int) + a ≤ _; omega⟩
theorem qby_lt {t : Nat → Int32} {T k : Nat} (h : ¬ qby t T k = -1) : k < T := Decidable.byContradiction (fun e => h (if_neg e))
theorem kRJ.num {t : Nat → Int32} {T : Nat} {a : Int} {x : Int32} {q : kRt} (h : kRJ T a q) : kRJ T (a + 1) (rnum t T x q) := by
  unfold rnum
  split
  · rename_i z
    exact kRJ.want (fun _ => qby_lt (fun e => by have := z.1; rw [e] at this; revert this; decide)) (show kRJ T a (q.1, q.2.1, q.2.2.1, _, q.2.2.2.2) from h)
  · exact kRJ.want (fun e => by cases e) (show kRJ T a (q.1, q.2.1, q.2.2.1, _, q.2.2.2.2) from h)
theorem rword_lt {t : Nat → Int32} {T : Nat} {q : kRt} (h : rword t T q ≠ 0) : q.1 < T := by
  refine qby_lt (t := t) (fun e => h (if_pos (Or.inr (fun z => ?_))))
  rw [e] at z
  revert z
  decide
theorem kRJ.vh {t : Nat → Int32} {T : Nat} {a : Int} {q : kRt} (h : kRJ T a q) : kRJ T a (rvh t T q) := by
  unfold rvh
  split
  · rename_i z
    exact (h.want (fun _ => rword_lt (t := t) (fun e => by rw [e] at z; revert z; decide))).wri
  · split
    · exact h
    · exact (h.num).wri
theorem kRJ.cb {T : Nat} {a : Int} {q : kRt} (hT : T ≤ 200) (ha : 0 ≤ a) (h : kRJ T a q) : q.2.2.1 = false → q.2.2.2.2.2.1 < 203 := fun e => by
  have := h.2.2.2 e
  have := h.1
  have := h.2.1
  omega
theorem s_X10_kindHere {X : kX} {d : Nat} {c w m v : kZ} {E : kH} {T : Nat} (hT : m.1 8024 = nI T) (hT2 : T ≤ 200) {q : kRt} {y : kZ} (hx : kMx v q y) {s1 : Nat → Int32} (hfr : q.1 ≤ q.2.1) (hto : q.2.1 ≤ T) : WP X (d + 3) 0 0 Y_X10_kindHere 0 [(0, .ref (80))] [] (HP c w (setA m 81 (s1)) y E) (kR (some (.int (rkd (rword (m.2.1 94) T q)))) (HP c w (setA m 81 (s1)) y E)) := by
  refine wp_aload_n 0 d_X10_kindHere_0 rfl rfl ?_
  refine wp_vrt_l (As := []) (x0 := rword (m.2.1 94) T q) (h1 := HP c w (setA m 81 (s1)) y E) d_X10_kindHere_1 lk_X10_321 mv_X10_word in_X10_word se_X10_word (Nat.le_of_ble_eq_true rfl) (Nat.le_of_ble_eq_true rfl) (hp_80 _ _ _ _ _) rfl (s_X10_word hT hT2 hx hfr hto) ?_
  refine wp_lstore_n [(1, .long (rword (m.2.1 94) T q)), (0, .ref (80))] d_X10_kindHere_4 rfl (Nat.le_of_ble_eq_true rfl) rfl ?_
  refine wp_lload_n 0 d_X10_kindHere_5 rfl rfl ?_
  refine wp_ldc2 (v0 := 398803) d_X10_kindHere_6 cl_X10_325 ?_
  refine wp_lcmp d_X10_kindHere_9 ?_
  refine wp_if_ne 17 d_X10_kindHere_10 rfl (fun zc10 => ?_) (fun zc10 => ?_)
  · refine wp_lload_n 0 d_X10_kindHere_17 rfl rfl ?_
    refine wp_ldc2 (v0 := 21013182128292) d_X10_kindHere_18 cl_X10_327 ?_
    refine wp_lcmp d_X10_kindHere_21 ?_
    refine wp_if_ne 29 d_X10_kindHere_22 rfl (fun zc22 => ?_) (fun zc22 => ?_)
    · refine wp_lload_n 0 d_X10_kindHere_29 rfl rfl ?_
      refine wp_ldc2 (v0 := 755277) d_X10_kindHere_30 cl_X10_329 ?_
      refine wp_lcmp d_X10_kindHere_33 ?_
      refine wp_if_ne 41 d_X10_kindHere_34 rfl (fun zc34 => ?_) (fun zc34 => ?_)
      · refine wp_lload_n 0 d_X10_kindHere_41 rfl rfl ?_
        refine wp_ldc2 (v0 := 4902553) d_X10_kindHere_42 cl_X10_331 ?_
        refine wp_lcmp d_X10_kindHere_45 ?_
        refine wp_if_ne 53 d_X10_kindHere_46 rfl (fun zc46 => ?_) (fun zc46 => ?_)
        · refine wp_lload_n 0 d_X10_kindHere_53 rfl rfl ?_
          refine wp_ldc2 (v0 := 679214) d_X10_kindHere_54 cl_X10_333 ?_
          refine wp_lcmp d_X10_kindHere_57 ?_
          refine wp_if_ne 65 d_X10_kindHere_58 rfl (fun zc58 => ?_) (fun zc58 => ?_)
          · refine wp_lload_n 0 d_X10_kindHere_65 rfl rfl ?_
            refine wp_ldc2 (v0 := 680939684) d_X10_kindHere_66 cl_X10_335 ?_
            refine wp_lcmp d_X10_kindHere_69 ?_
            refine wp_if_ne 77 d_X10_kindHere_70 rfl (fun zc70 => ?_) (fun zc70 => ?_)
            · refine wp_iconst (v0 := -1) d_X10_kindHere_77 rfl ?_
              refine wp_reti d_X10_kindHere_78 rfl ?_
              refine kR_i (Eq.symm ?_) rfl
              unfold rkd
              rw [if_neg (fun z => zc10 (lg_eq9.mpr z)), if_neg (fun z => zc22 (lg_eq9.mpr z)), if_neg (fun z => zc34 (lg_eq9.mpr z)), if_neg (fun z => zc46 (lg_eq9.mpr z)), if_neg (fun z => zc58 (lg_eq9.mpr z)), if_neg (fun z => zc70 (lg_eq9.mpr z))]
            · refine wp_iconst (v0 := 5) d_X10_kindHere_73 rfl ?_
              refine wp_goto 78 d_X10_kindHere_74 rfl ?_
              refine wp_reti d_X10_kindHere_78 rfl ?_
              refine kR_i (Eq.symm ?_) rfl
              unfold rkd
              rw [if_neg (fun z => zc10 (lg_eq9.mpr z)), if_neg (fun z => zc22 (lg_eq9.mpr z)), if_neg (fun z => zc34 (lg_eq9.mpr z)), if_neg (fun z => zc46 (lg_eq9.mpr z)), if_neg (fun z => zc58 (lg_eq9.mpr z)), if_pos (lg_eq9.mp zc70)]
          · refine wp_iconst (v0 := 4) d_X10_kindHere_61 rfl ?_
            refine wp_goto 78 d_X10_kindHere_62 rfl ?_
            refine wp_reti d_X10_kindHere_78 rfl ?_
            refine kR_i (Eq.symm ?_) rfl
            unfold rkd
            rw [if_neg (fun z => zc10 (lg_eq9.mpr z)), if_neg (fun z => zc22 (lg_eq9.mpr z)), if_neg (fun z => zc34 (lg_eq9.mpr z)), if_neg (fun z => zc46 (lg_eq9.mpr z)), if_pos (lg_eq9.mp zc58)]
        · refine wp_iconst (v0 := 3) d_X10_kindHere_49 rfl ?_
          refine wp_goto 78 d_X10_kindHere_50 rfl ?_
          refine wp_reti d_X10_kindHere_78 rfl ?_
          refine kR_i (Eq.symm ?_) rfl
          unfold rkd
          rw [if_neg (fun z => zc10 (lg_eq9.mpr z)), if_neg (fun z => zc22 (lg_eq9.mpr z)), if_neg (fun z => zc34 (lg_eq9.mpr z)), if_pos (lg_eq9.mp zc46)]
      · refine wp_iconst (v0 := 2) d_X10_kindHere_37 rfl ?_
        refine wp_goto 78 d_X10_kindHere_38 rfl ?_
        refine wp_reti d_X10_kindHere_78 rfl ?_
        refine kR_i (Eq.symm ?_) rfl
        unfold rkd
        rw [if_neg (fun z => zc10 (lg_eq9.mpr z)), if_neg (fun z => zc22 (lg_eq9.mpr z)), if_pos (lg_eq9.mp zc34)]
    · refine wp_iconst (v0 := 1) d_X10_kindHere_25 rfl ?_
      refine wp_goto 78 d_X10_kindHere_26 rfl ?_
      refine wp_reti d_X10_kindHere_78 rfl ?_
      refine kR_i (Eq.symm ?_) rfl
      unfold rkd
      rw [if_neg (fun z => zc10 (lg_eq9.mpr z)), if_pos (lg_eq9.mp zc22)]
  · refine wp_iconst (v0 := 0) d_X10_kindHere_13 rfl ?_
    refine wp_goto 78 d_X10_kindHere_14 rfl ?_
    refine wp_reti d_X10_kindHere_78 rfl ?_
    refine kR_i (Eq.symm ?_) rfl
    unfold rkd
    rw [if_pos (lg_eq9.mp zc10)]
theorem s_X10_factHere {X : kX} {d : Nat} {c w m v : kZ} {E : kH} {T : Nat} (hT : m.1 8024 = nI T) (hT2 : T ≤ 200) {q : kRt} {y : kZ} (hx : kMx v q y) {s1 : Nat → Int32} (hfr : q.1 ≤ q.2.1) (hto : q.2.1 ≤ T) : WP X (d + 3) 0 0 Y_X10_factHere 0 [(0, .ref (80))] [] (HP c w (setA m 81 (s1)) y E) (kR (some (.int (rfc (rword (m.2.1 94) T q)))) (HP c w (setA m 81 (s1)) y E)) := by
  refine wp_aload_n 0 d_X10_factHere_0 rfl rfl ?_
  refine wp_vrt_l (As := []) (x0 := rword (m.2.1 94) T q) (h1 := HP c w (setA m 81 (s1)) y E) d_X10_factHere_1 lk_X10_321 mv_X10_word in_X10_word se_X10_word (Nat.le_of_ble_eq_true rfl) (Nat.le_of_ble_eq_true rfl) (hp_80 _ _ _ _ _) rfl (s_X10_word hT hT2 hx hfr hto) ?_
  refine wp_lstore_n [(1, .long (rword (m.2.1 94) T q)), (0, .ref (80))] d_X10_factHere_4 rfl (Nat.le_of_ble_eq_true rfl) rfl ?_
  refine wp_lload_n 0 d_X10_factHere_5 rfl rfl ?_
  refine wp_ldc2 (v0 := 267316) d_X10_factHere_6 cl_X10_337 ?_
  refine wp_lcmp d_X10_factHere_9 ?_
  refine wp_if_ne 17 d_X10_factHere_10 rfl (fun zc10 => ?_) (fun zc10 => ?_)
  · refine wp_lload_n 0 d_X10_factHere_17 rfl rfl ?_
    refine wp_ldc2 (v0 := 7216) d_X10_factHere_18 cl_X10_339 ?_
    refine wp_lcmp d_X10_factHere_21 ?_
    refine wp_if_ne 30 d_X10_factHere_22 rfl (fun zc22 => ?_) (fun zc22 => ?_)
    · refine wp_lload_n 0 d_X10_factHere_30 rfl rfl ?_
      refine wp_ldc2 (v0 := 5925) d_X10_factHere_31 cl_X10_341 ?_
      refine wp_lcmp d_X10_factHere_34 ?_
      refine wp_if_ne 43 d_X10_factHere_35 rfl (fun zc35 => ?_) (fun zc35 => ?_)
      · refine wp_lload_n 0 d_X10_factHere_43 rfl rfl ?_
        refine wp_ldc2 (v0 := 71108) d_X10_factHere_44 cl_X10_343 ?_
        refine wp_lcmp d_X10_factHere_47 ?_
        refine wp_if_ne 56 d_X10_factHere_48 rfl (fun zc48 => ?_) (fun zc48 => ?_)
        · refine wp_lload_n 0 d_X10_factHere_56 rfl rfl ?_
          refine wp_ldc2 (v0 := 492210354) d_X10_factHere_57 cl_X10_345 ?_
          refine wp_lcmp d_X10_factHere_60 ?_
          refine wp_if_ne 69 d_X10_factHere_61 rfl (fun zc61 => ?_) (fun zc61 => ?_)
          · refine wp_iconst (v0 := 0) d_X10_factHere_69 rfl ?_
            refine wp_reti d_X10_factHere_70 rfl ?_
            refine kR_i (Eq.symm ?_) rfl
            unfold rfc
            rw [if_neg (fun z => zc10 (lg_eq9.mpr z)), if_neg (fun z => zc22 (lg_eq9.mpr z)), if_neg (fun z => zc35 (lg_eq9.mpr z)), if_neg (fun z => zc48 (lg_eq9.mpr z)), if_neg (fun z => zc61 (lg_eq9.mpr z))]
          · refine wp_bipush (v0 := -5) d_X10_factHere_64 (by decide) ?_
            refine wp_goto 70 d_X10_factHere_66 rfl ?_
            refine wp_reti d_X10_factHere_70 rfl ?_
            refine kR_i (Eq.symm ?_) rfl
            unfold rfc
            rw [if_neg (fun z => zc10 (lg_eq9.mpr z)), if_neg (fun z => zc22 (lg_eq9.mpr z)), if_neg (fun z => zc35 (lg_eq9.mpr z)), if_neg (fun z => zc48 (lg_eq9.mpr z)), if_pos (lg_eq9.mp zc61)]
        · refine wp_bipush (v0 := -4) d_X10_factHere_51 (by decide) ?_
          refine wp_goto 70 d_X10_factHere_53 rfl ?_
          refine wp_reti d_X10_factHere_70 rfl ?_
          refine kR_i (Eq.symm ?_) rfl
          unfold rfc
          rw [if_neg (fun z => zc10 (lg_eq9.mpr z)), if_neg (fun z => zc22 (lg_eq9.mpr z)), if_neg (fun z => zc35 (lg_eq9.mpr z)), if_pos (lg_eq9.mp zc48)]
      · refine wp_bipush (v0 := -3) d_X10_factHere_38 (by decide) ?_
        refine wp_goto 70 d_X10_factHere_40 rfl ?_
        refine wp_reti d_X10_factHere_70 rfl ?_
        refine kR_i (Eq.symm ?_) rfl
        unfold rfc
        rw [if_neg (fun z => zc10 (lg_eq9.mpr z)), if_neg (fun z => zc22 (lg_eq9.mpr z)), if_pos (lg_eq9.mp zc35)]
    · refine wp_bipush (v0 := -2) d_X10_factHere_25 (by decide) ?_
      refine wp_goto 70 d_X10_factHere_27 rfl ?_
      refine wp_reti d_X10_factHere_70 rfl ?_
      refine kR_i (Eq.symm ?_) rfl
      unfold rfc
      rw [if_neg (fun z => zc10 (lg_eq9.mpr z)), if_pos (lg_eq9.mp zc22)]
  · refine wp_iconst (v0 := -1) d_X10_factHere_13 rfl ?_
    refine wp_goto 70 d_X10_factHere_14 rfl ?_
    refine wp_reti d_X10_factHere_70 rfl ?_
    refine kR_i (Eq.symm ?_) rfl
    unfold rfc
    rw [if_pos (lg_eq9.mp zc10)]
theorem s_X10_wantsS {X : kX} {d : Nat} {c w m v : kZ} {E : kH} {T : Nat} (hT : m.1 8024 = nI T) (hT2 : T ≤ 200) {q : kRt} {y : kZ} (hx : kMx v q y) (hto : q.2.1 ≤ T) (b9 : Bool) : WP X (d + 3) 0 0 Y_X10_wants 0 [(0, .ref 80), (1, .int (kb (b9 = true)))] [] (HP c w (setA m 81 (q.2.2.2.2.2.2)) y E) (fun r1 h1 => r1 = none ∧ ∃ y1 : kZ, h1 = HP c w (setA m 81 ((rwant (m.2.1 94) T b9 q).2.2.2.2.2.2)) y1 E ∧ kMx v (rwant (m.2.1 94) T b9 q) y1) := by
  refine wp_mono ?_ (s_X10_wants hT hT2 hx hto b9)
  rintro r1 h1 ⟨rfl, y1, rfl, h2⟩
  exact ⟨rfl, y1, by rw [rwant_s], h2⟩
theorem s_X10_numberS {X : kX} {d : Nat} {c w m v : kZ} {E : kH} {T : Nat} (hT : m.1 8024 = nI T) (hT2 : T ≤ 200) {q : kRt} {y : kZ} (hx : kMx v q y) (hfr : q.1 ≤ q.2.1) (hto : q.2.1 ≤ T) (x : Int32) : WP X (d + 4) 0 0 Y_X10_number 0 [(0, .ref 80), (1, .int x)] [] (HP c w (setA m 81 (q.2.2.2.2.2.2)) y E) (fun r1 h1 => r1 = none ∧ ∃ y1 : kZ, h1 = HP c w (setA m 81 ((rnum (m.2.1 94) T x q).2.2.2.2.2.2)) y1 E ∧ kMx v (rnum (m.2.1 94) T x q) y1) := by
  refine wp_mono ?_ (s_X10_number hT hT2 hx hfr hto x)
  rintro r1 h1 ⟨rfl, y1, rfl, h2⟩
  exact ⟨rfl, y1, by rw [rnum_s], h2⟩
theorem s_X10_valueHere {X : kX} {d : Nat} {c w m v : kZ} {E : kH} {T : Nat} (hT : m.1 8024 = nI T) (hT2 : T ≤ 200) {q : kRt} {y : kZ} (hx : kMx v q y) {a : Int} (ha : 0 ≤ a) (hj : kRJ T a q) : WP X (d + 5) 0 0 Y_X10_valueHere 0 [(0, .ref (80))] [] (HP c w (setA m 81 ((q).2.2.2.2.2.2)) y E) (fun r1 h1 => r1 = none ∧ ∃ y1 : kZ, h1 = HP c w (setA m 81 ((rvh (m.2.1 94) T q).2.2.2.2.2.2)) y1 E ∧ kMx v (rvh (m.2.1 94) T q) y1) := by
  refine wp_aload_n 0 d_X10_valueHere_0 rfl rfl ?_
  refine wp_vrt_i (As := []) (x0 := rfc (rword (m.2.1 94) T (q))) (h1 := HP c w (setA m 81 ((q).2.2.2.2.2.2)) y E) d_X10_valueHere_1 lk_X10_350 mv_X10_factHere in_X10_factHere se_X10_factHere (Nat.le_of_ble_eq_true rfl) (Nat.le_of_ble_eq_true rfl) (hp_80 _ _ _ _ _) rfl (s_X10_factHere hT hT2 hx hj.1 hj.2.1) ?_
  refine wp_istore_n [(1, .int (rfc (rword (m.2.1 94) T (q)))), (0, .ref (80))] d_X10_valueHere_4 rfl (Nat.le_of_ble_eq_true rfl) rfl ?_
  refine wp_iload_n 0 d_X10_valueHere_5 rfl rfl ?_
  refine wp_if_ge 22 d_X10_valueHere_6 rfl (fun zc6 => ?_) (fun zc6 => ?_)
  · refine wp_aload_n 1 d_X10_valueHere_22 rfl rfl ?_
    refine wp_getfield (v := .int (kb ((q).2.2.1 = true))) d_X10_valueHere_23 gf_X10_303 (hp_80 _ _ _ _ _) (congrArg (fun z => some (Value.int z)) hx.2.2.1) ?_
    refine wp_ifb_ne 44 d_X10_valueHere_26 rfl (fun zc26 => ?_) (fun zc26 => ?_)
    · refine wp_vret d_X10_valueHere_44 rfl ?_
      exact ⟨rfl, y, by rw [show rvh (m.2.1 94) T q = q from by unfold rvh; rw [if_neg (Int32.not_lt.mpr zc6), if_pos zc26]], by rw [show rvh (m.2.1 94) T q = q from by unfold rvh; rw [if_neg (Int32.not_lt.mpr zc6), if_pos zc26]]; exact hx⟩
    · refine wp_aload_n 1 d_X10_valueHere_29 rfl rfl ?_
      refine wp_sipush (v0 := 9999) d_X10_valueHere_30 (by decide) ?_
      refine wp_virtual0 (As := [.int (9999)]) d_X10_valueHere_33 lk_X10_356 mv_X10_number in_X10_number se_X10_number (Nat.le_of_ble_eq_true rfl) (Nat.le_of_ble_eq_true rfl) (hp_80 _ _ _ _ _) rfl (s_X10_numberS hT hT2 hx hj.1 hj.2.1 (9999)) (fun v33 h33 q33 => ?_)
      obtain ⟨rfl, y33, rfl, hx33⟩ := q33
      have hj33 := hj.num (t := (m.2.1 94)) (x := 9999)
      show WP _ _ _ _ _ 36 _ [] (HP c w (setA m 81 ((rnum (m.2.1 94) T (9999) (q)).2.2.2.2.2.2)) y33 E) _
      refine wp_aload_n 1 d_X10_valueHere_36 rfl rfl ?_
      refine wp_aload_n 1 d_X10_valueHere_37 rfl rfl ?_
      refine wp_getfield (v := .int ((rnum (m.2.1 94) T (9999) (q)).2.2.2.1)) d_X10_valueHere_38 gf_X10_314 (hp_80 _ _ _ _ _) (congrArg (fun z => some (Value.int z)) hx33.2.2.2.1) ?_
      refine wp_virtual0 (As := [.int ((rnum (m.2.1 94) T (9999) (q)).2.2.2.1)]) d_X10_valueHere_41 lk_X10_353 mv_X10_writes in_X10_writes se_X10_writes (Nat.le_of_ble_eq_true rfl) (Nat.le_of_ble_eq_true rfl) (hp_80 _ _ _ _ _) rfl (s_X10_writes hx33 (hj33.cb hT2 (by omega)) ((rnum (m.2.1 94) T (9999) (q)).2.2.2.1)) (fun v41 h41 q41 => ?_)
      obtain ⟨rfl, y41, rfl, hx41⟩ := q41
      have hj41 := hj33.wri (x := (rnum (m.2.1 94) T (9999) (q)).2.2.2.1)
      show WP _ _ _ _ _ 44 _ [] (HP c w (setA m 81 ((rwri ((rnum (m.2.1 94) T (9999) (q)).2.2.2.1) (rnum (m.2.1 94) T (9999) (q))).2.2.2.2.2.2)) y41 E) _
      refine wp_vret d_X10_valueHere_44 rfl ?_
      exact ⟨rfl, y41, by rw [show rvh (m.2.1 94) T q = rwri ((rnum (m.2.1 94) T (9999) (q)).2.2.2.1) (rnum (m.2.1 94) T (9999) (q)) from by unfold rvh; rw [if_neg (Int32.not_lt.mpr zc6), if_neg zc26]], by rw [show rvh (m.2.1 94) T q = rwri ((rnum (m.2.1 94) T (9999) (q)).2.2.2.1) (rnum (m.2.1 94) T (9999) (q)) from by unfold rvh; rw [if_neg (Int32.not_lt.mpr zc6), if_neg zc26]]; exact hx41⟩
  · refine wp_aload_n 1 d_X10_valueHere_9 rfl rfl ?_
    refine wp_iconst (v0 := 1) d_X10_valueHere_10 rfl ?_
    refine wp_virtual0 (As := [.int (1)]) d_X10_valueHere_11 lk_X10_317 mv_X10_wants in_X10_wants se_X10_wants (Nat.le_of_ble_eq_true rfl) (Nat.le_of_ble_eq_true rfl) (hp_80 _ _ _ _ _) rfl (s_X10_wantsS hT hT2 hx hj.2.1 (true)) (fun v11 h11 q11 => ?_)
    obtain ⟨rfl, y11, rfl, hx11⟩ := q11
    have hj11 := hj.want (t := (m.2.1 94)) (b := true) (fun _ => rword_lt (t := (m.2.1 94)) (fun e => by have z := Int32.not_le.mp zc6; rw [e] at z; revert z; decide))
    show WP _ _ _ _ _ 14 _ [] (HP c w (setA m 81 ((rwant (m.2.1 94) T (true) (q)).2.2.2.2.2.2)) y11 E) _
    refine wp_aload_n 1 d_X10_valueHere_14 rfl rfl ?_
    refine wp_iload_n 0 d_X10_valueHere_15 rfl rfl ?_
    refine wp_virtual0 (As := [.int (rfc (rword (m.2.1 94) T (q)))]) d_X10_valueHere_16 lk_X10_353 mv_X10_writes in_X10_writes se_X10_writes (Nat.le_of_ble_eq_true rfl) (Nat.le_of_ble_eq_true rfl) (hp_80 _ _ _ _ _) rfl (s_X10_writes hx11 (hj11.cb hT2 (by omega)) (rfc (rword (m.2.1 94) T (q)))) (fun v16 h16 q16 => ?_)
    obtain ⟨rfl, y16, rfl, hx16⟩ := q16
    have hj16 := hj11.wri (x := rfc (rword (m.2.1 94) T (q)))
    show WP _ _ _ _ _ 19 _ [] (HP c w (setA m 81 ((rwri (rfc (rword (m.2.1 94) T (q))) (rwant (m.2.1 94) T (true) (q))).2.2.2.2.2.2)) y16 E) _
    refine wp_goto 44 d_X10_valueHere_19 rfl ?_
    refine wp_vret d_X10_valueHere_44 rfl ?_
    exact ⟨rfl, y16, by rw [show rvh (m.2.1 94) T q = rwri (rfc (rword (m.2.1 94) T (q))) (rwant (m.2.1 94) T (true) (q)) from if_pos (Int32.not_le.mp zc6)], by rw [show rvh (m.2.1 94) T q = rwri (rfc (rword (m.2.1 94) T (q))) (rwant (m.2.1 94) T (true) (q)) from if_pos (Int32.not_le.mp zc6)]; exact hx16⟩
