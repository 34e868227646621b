/-! ===== reference: one ===== -/
def rnots (t : Nat → Int32) (T : Nat) : Nat → kRt → Bool → kRt × Bool
  | 0, q, b => (q, b)
  | k + 1, q, b => if rword t T q = 14836 then rnots t T k (rwant t T true q) (!b) else (q, b)
def rope (q : kRt) (n : Nat) : kRt := (q.1, q.2.1, q.2.2.1, q.2.2.2.1, n, q.2.2.2.2.2)
def rmid (t : Nat → Int32) (T : Nat) (C : kRt → kRt) (q : kRt) : kRt :=
  if q.2.2.1 = false ∧ qby t T q.1 = 40 then
    rwant t T (decide (rcb t T (rope (C (rope (rwant t T (decide (q.2.2.2.2.1 < 3)) q) (q.2.2.2.2.1 + 1))) q.2.2.2.2.1) = 41)) (rope (C (rope (rwant t T (decide (q.2.2.2.2.1 < 3)) q) (q.2.2.2.2.1 + 1))) q.2.2.2.2.1)
  else rcmp t T q
def rone (t : Nat → Int32) (T : Nat) (C : kRt → kRt) (q : kRt) : kRt := if (rnots t T 201 q false).2 = true then rwri (-20) (rmid t T C (rnots t T 201 q false).1) else rmid t T C (rnots t T 201 q false).1
theorem rwant_fr {t : Nat → Int32} {T : Nat} {a : Int} {q : kRt} (hw : rword t T q ≠ 0) (h : kRJ T a q) : q.1 < (rwant t T true q).1 := by
  have h1 : ¬ q.2.2.1 = true := fun e => hw (if_pos (Or.inl e))
  have h2 := h.2.2.1 (rword_lt hw)
  have h3 := rfr_b (t := t) h.2.1
  rw [show rwant t T true q = _ from if_neg (fun z => z.elim h1 (fun z => z rfl))]
  show q.1 < rfr t T q.2.1
  omega
theorem rw_ne {x c : Int64} (h : x = c) (hc : c ≠ 0) : x ≠ 0 := fun e => hc (h ▸ e)
theorem kRJ.nots {t : Nat → Int32} {T : Nat} : ∀ (k : Nat) {a : Int} {q : kRt} {b : Bool}, kRJ T (if b then a + 1 else a) q → kRJ T (if (rnots t T k q b).2 then a + 1 else a) (rnots t T k q b).1
  | 0, a, q, b, h => h
  | k + 1, a, q, b, h => by
    simp only [rnots]
    split
    · rename_i z
      refine kRJ.nots k ?_
      have h1 := h.want (t := t) (b := true) (fun _ => rword_lt (rw_ne z (by decide)))
      cases b
      · exact h1
      · exact ⟨h1.1, h1.2.1, h1.2.2.1, fun e => by have := h1.2.2.2 e; simp only [if_true] at this; simp; omega⟩
    · exact h
theorem s_X10_one_n {X : kX} {d : Nat} {c w m v : kZ} {E : kH} {T : Nat} (hT : m.1 8024 = nI T) (hT2 : T ≤ 200) {e : Nat} {a : Int} {p9 : kRt} {b9 : Bool} {Q9 : Option Value → kH → Prop} (K : ∀ y2 : kZ, kMx v p9 y2 → WP X (d + e + 7) 0 0 Y_X10_one 31 [(1, .int (kb (b9 = true))), (0, .ref 80)] [] (HP c w (setA m 81 (p9.2.2.2.2.2.2)) y2 E) Q9) : ∀ (k : Nat) (q : kRt) (y : kZ) (b : Bool), (T + 1 ≤ q.1 + k) → (kMx v q y) → (kRJ T a q) → (rnots (m.2.1 94) T k q b = (p9, b9)) → WP X (d + e + 7) 0 0 Y_X10_one 2 [(1, .int (kb (b = true))), (0, .ref (80))] [] (HP c w (setA m 81 ((q).2.2.2.2.2.2)) y E) Q9 := by
  intro k
  induction k using Nat.strongRecOn with
  | ind k ih =>
    intro q y b hi hx hj hr
    refine wp_aload_n 1 d_X10_one_2 rfl rfl ?_
    refine wp_vrt_l (As := []) (x0 := rword (m.2.1 94) T (q)) (h1 := HP c w (setA m 81 ((q).2.2.2.2.2.2)) y E) d_X10_one_3 lk_X10_321 mv_X10_word in_X10_word se_X10_word (Nat.le_of_ble_eq_true rfl) (Nat.le_of_ble_eq_true rfl) (hp_80 _ _ _ _ _) rfl (s_X10_word hT hT2 hx hj.1 hj.2.1) ?_
    refine wp_ldc2 (v0 := 14836) d_X10_one_6 cl_X10_362 ?_
    refine wp_lcmp d_X10_one_9 ?_
    refine wp_if_ne 31 d_X10_one_10 rfl (fun zc10 => ?_) (fun zc10 => ?_)
    · have hk0 : k ≠ 0 := fun e => by have := hj.1; have := hj.2.1; omega
      obtain ⟨k1, rfl⟩ : ∃ k1, k = k1 + 1 := ⟨k - 1, by omega⟩
      simp only [rnots] at hr
      rw [if_neg (fun z => zc10 (lg_eq9.mpr z))] at hr
      injection hr with e1 e2
      subst e1 e2
      refine wp_sub [(1, .int (kb (b = true))), (0, .ref (80))] [0, 1] rfl ?_
      exact K y hx
    · refine wp_iload_n 0 d_X10_one_13 rfl rfl ?_
      refine wp_ifb_ne 21 d_X10_one_14 rfl (fun zc14 => ?_) (fun zc14 => ?_)
      · refine wp_iconst (v0 := 0) d_X10_one_21 rfl ?_
        refine wp_istore_n [(1, .int (0)), (0, .ref (80))] d_X10_one_22 rfl (Nat.le_of_ble_eq_true rfl) rfl ?_
        refine wp_aload_n 1 d_X10_one_23 rfl rfl ?_
        refine wp_iconst (v0 := 1) d_X10_one_24 rfl ?_
        refine wp_virtual0 (As := [.int (1)]) d_X10_one_25 lk_X10_317 mv_X10_wants in_X10_wants se_X10_wants (Nat.le_of_ble_eq_true rfl) (Nat.le_of_ble_eq_true rfl) (hp_80 _ _ _ _ _) rfl (s_X10_wantsS hT hT2 hx hj.2.1 (true)) (fun v25 h25 q25 => ?_)
        obtain ⟨rfl, y25, rfl, hx25⟩ := q25
        have hj25 := hj.want0 (t := (m.2.1 94)) (b := true)
        show WP _ _ _ _ _ 28 _ [] (HP c w (setA m 81 ((rwant (m.2.1 94) T (true) (q)).2.2.2.2.2.2)) y25 E) _
        refine wp_goto 2 d_X10_one_28 rfl ?_
        have hz : rword (m.2.1 94) T q = 14836 := lg_eq9.mp zc10
        have hfr9 := rwant_fr (rw_ne hz (by decide)) hj
        have hk0 : k ≠ 0 := fun e => by have := hj.1; have := hj.2.1; omega
        obtain ⟨k1, rfl⟩ : ∃ k1, k = k1 + 1 := ⟨k - 1, by omega⟩
        simp only [rnots] at hr
        rw [if_pos hz] at hr
        have hv5 : kb ((!b) = true) = 0 := by rw [show b = true from zc14]; rfl
        refine wp_sub [(1, .int (kb ((!b) = true))), (0, .ref 80)] [0, 1] (by rw [hv5]; rfl) ?_
        exact ih k1 (by omega) _ y25 _ (by omega) hx25 hj25 hr
      · refine wp_iconst (v0 := 1) d_X10_one_17 rfl ?_
        refine wp_goto 22 d_X10_one_18 rfl ?_
        refine wp_istore_n [(1, .int (1)), (0, .ref (80))] d_X10_one_22 rfl (Nat.le_of_ble_eq_true rfl) rfl ?_
        refine wp_aload_n 1 d_X10_one_23 rfl rfl ?_
        refine wp_iconst (v0 := 1) d_X10_one_24 rfl ?_
        refine wp_virtual0 (As := [.int (1)]) d_X10_one_25 lk_X10_317 mv_X10_wants in_X10_wants se_X10_wants (Nat.le_of_ble_eq_true rfl) (Nat.le_of_ble_eq_true rfl) (hp_80 _ _ _ _ _) rfl (s_X10_wantsS hT hT2 hx hj.2.1 (true)) (fun v25 h25 q25 => ?_)
        obtain ⟨rfl, y25, rfl, hx25⟩ := q25
        have hj25 := hj.want0 (t := (m.2.1 94)) (b := true)
        show WP _ _ _ _ _ 28 _ [] (HP c w (setA m 81 ((rwant (m.2.1 94) T (true) (q)).2.2.2.2.2.2)) y25 E) _
        refine wp_goto 2 d_X10_one_28 rfl ?_
        have hz : rword (m.2.1 94) T q = 14836 := lg_eq9.mp zc10
        have hfr9 := rwant_fr (rw_ne hz (by decide)) hj
        have hk0 : k ≠ 0 := fun e => by have := hj.1; have := hj.2.1; omega
        obtain ⟨k1, rfl⟩ : ∃ k1, k = k1 + 1 := ⟨k - 1, by omega⟩
        simp only [rnots] at hr
        rw [if_pos hz] at hr
        have hv5 : kb ((!b) = true) = 1 := by rw [show b = false from Bool.not_eq_true _ |>.mp zc14]; rfl
        refine wp_sub [(1, .int (kb ((!b) = true))), (0, .ref 80)] [0, 1] (by rw [hv5]; rfl) ?_
        exact ih k1 (by omega) _ y25 _ (by omega) hx25 hj25 hr
theorem rwant_o (t : Nat → Int32) (T : Nat) (b : Bool) (q : kRt) : (rwant t T b q).2.2.2.2.1 = q.2.2.2.2.1 := by
  unfold rwant
  split <;> rfl
theorem rnots_o (t : Nat → Int32) (T : Nat) : ∀ (k : Nat) (q : kRt) (b : Bool), (rnots t T k q b).1.2.2.2.2.1 = q.2.2.2.2.1
  | 0, q, b => rfl
  | k + 1, q, b => by
    simp only [rnots]
    split
    · rw [rnots_o t T k, rwant_o]
    · rfl
theorem kRJ.rope {T : Nat} {a : Int} {q : kRt} (n : Nat) (h : kRJ T a q) : kRJ T a (rope q n) := ⟨h.1, h.2.1, h.2.2.1, h.2.2.2⟩
theorem kRJ.wrim {T : Nat} {a : Int} {x : Int32} {q : kRt} (h : kRJ T a q) : kRJ T (a - 1) (rwri x q) := kRJ.wri (show kRJ T (a - 1 + 1) q by rw [Int.sub_add_cancel]; exact h)
theorem rcb_w {t : Nat → Int32} {T : Nat} {q : kRt} (h : q.2.2.1 = true) : ¬ rcb t T q = 41 := by
  rw [show rcb t T q = -1 from if_pos h]
  decide
theorem s_X10_one {X : kX} {d : Nat} {c w m v : kZ} {E : kH} {T : Nat} (hT : m.1 8024 = nI T) (hT2 : T ≤ 200) {q : kRt} {y : kZ} (hx : kMx v q y) {a : Int} (ha : 0 ≤ a) (hj : kRJ T a q) {e kk : Nat} {C : kRt → kRt} (gC : ∀ (a : Int) (q : kRt), kRJ T a q → kRJ T a (C q) ∧ (C q).2.2.2.2.1 = q.2.2.2.2.1) (HC : ∀ (a : Int) (q : kRt) (y : kZ), 0 ≤ a → kMx v q y → kRJ T a q → (q.2.2.1 = true ∨ q.2.2.2.2.1 + kk = 4 ∧ q.2.2.2.2.1 ≤ 3) → WP X (d + e + 6) 0 0 Y_X10_condition 0 [(0, .ref 80)] [] (HP c w (setA m 81 (q.2.2.2.2.2.2)) y E) (fun r1 h1 => r1 = none ∧ ∃ y1 : kZ, h1 = HP c w (setA m 81 ((C q).2.2.2.2.2.2)) y1 E ∧ kMx v (C q) y1)) (hkk : q.2.2.2.2.1 + kk = 3) : WP X (d + e + 7) 0 0 Y_X10_one 0 [(0, .ref (80))] [] (HP c w (setA m 81 ((q).2.2.2.2.2.2)) y E) (fun r1 h1 => r1 = none ∧ ∃ y1 : kZ, h1 = HP c w (setA m 81 ((rone (m.2.1 94) T C q).2.2.2.2.2.2)) y1 E ∧ kMx v (rone (m.2.1 94) T C q) y1) := by
  refine wp_iconst (v0 := 0) d_X10_one_0 rfl ?_
  refine wp_istore_n [(1, .int (0)), (0, .ref (80))] d_X10_one_1 rfl (Nat.le_of_ble_eq_true rfl) rfl ?_
  have ho9 := rnots_o (m.2.1 94) T 201 q false
  have hj9 := kRJ.nots (t := (m.2.1 94)) (b := false) 201 hj
  cases h9 : rnots (m.2.1 94) T 201 q false with
  | mk p9 b9 =>
    rw [h9] at ho9 hj9
    have ho9 : p9.2.2.2.2.1 = q.2.2.2.2.1 := ho9
    have hj9 : kRJ T (if b9 then a + 1 else a) p9 := hj9
    have ha9 : 0 ≤ (if b9 then a + 1 else a) := by split <;> omega
    generalize (if b9 then a + 1 else a) = a9 at hj9 ha9
    refine wp_sub [(1, .int (kb (false = true))), (0, .ref 80)] [0, 1] rfl ?_
    refine s_X10_one_n hT hT2 (fun y2 hx2 => ?_) 201 q y false (by omega) hx hj h9
    refine wp_aload_n 1 d_X10_one_31 rfl rfl ?_
    refine wp_getfield (v := .int (kb ((p9).2.2.1 = true))) d_X10_one_32 gf_X10_303 (hp_80 _ _ _ _ _) (congrArg (fun z => some (Value.int z)) hx2.2.2.1) ?_
    refine wp_ifb_ne 124 d_X10_one_35 rfl (fun zc35 => ?_) (fun zc35 => ?_)
    · refine wp_aload_n 1 d_X10_one_124 rfl rfl ?_
      refine wp_virtual0 (As := []) d_X10_one_125 lk_X10_370 mv_X10_comparison in_X10_comparison se_X10_comparison (Nat.le_of_ble_eq_true rfl) (Nat.le_of_ble_eq_true rfl) (hp_80 _ _ _ _ _) rfl (s_X10_comparison hT hT2 hx2 ha9 hj9) (fun v125 h125 q125 => ?_)
      obtain ⟨rfl, y125, rfl, hx125⟩ := q125
      have hj125 := hj9.cmp (t := (m.2.1 94))
      show WP _ _ _ _ _ 128 _ [] (HP c w (setA m 81 ((rcmp (m.2.1 94) T (p9)).2.2.2.2.2.2)) y125 E) _
      have hm9 : rmid (m.2.1 94) T C p9 = rcmp (m.2.1 94) T (p9) := if_neg (fun z => absurd zc35 (by rw [z.1]; decide))
      refine wp_iload_n 0 d_X10_one_128 rfl rfl ?_
      refine wp_ifb_eq 138 d_X10_one_129 rfl (fun zc129 => ?_) (fun zc129 => ?_)
      · refine wp_vret d_X10_one_138 rfl ?_
        have hq9 : rone (m.2.1 94) T C q = rcmp (m.2.1 94) T (p9) := by
          unfold rone
          rw [h9]
          show (if b9 = true then rwri (-20) (rmid (m.2.1 94) T C p9) else rmid (m.2.1 94) T C p9) = _
          rw [if_neg zc129, hm9]
        exact ⟨rfl, y125, by rw [hq9], by rw [hq9]; exact hx125⟩
      · refine wp_aload_n 1 d_X10_one_132 rfl rfl ?_
        refine wp_bipush (v0 := -20) d_X10_one_133 (by decide) ?_
        refine wp_virtual0 (As := [.int ((-20))]) d_X10_one_135 lk_X10_353 mv_X10_writes in_X10_writes se_X10_writes (Nat.le_of_ble_eq_true rfl) (Nat.le_of_ble_eq_true rfl) (hp_80 _ _ _ _ _) rfl (s_X10_writes hx125 (hj125.cb hT2 ha9) ((-20))) (fun v135 h135 q135 => ?_)
        obtain ⟨rfl, y135, rfl, hx135⟩ := q135
        have hj135 := hj125.wrim (x := (-20))
        show WP _ _ _ _ _ 138 _ [] (HP c w (setA m 81 ((rwri ((-20)) (rcmp (m.2.1 94) T (p9))).2.2.2.2.2.2)) y135 E) _
        refine wp_vret d_X10_one_138 rfl ?_
        have hq9 : rone (m.2.1 94) T C q = rwri ((-20)) (rcmp (m.2.1 94) T (p9)) := by
          unfold rone
          rw [h9]
          show (if b9 = true then rwri (-20) (rmid (m.2.1 94) T C p9) else rmid (m.2.1 94) T C p9) = _
          rw [if_pos zc129, hm9]
        exact ⟨rfl, y135, by rw [hq9], by rw [hq9]; exact hx135⟩
    · refine wp_aload_n 1 d_X10_one_38 rfl rfl ?_
      refine wp_aload_n 1 d_X10_one_39 rfl rfl ?_
      refine wp_getfield (v := .int (nI ((p9).1))) d_X10_one_40 gf_X10_291 (hp_80 _ _ _ _ _) (congrArg (fun z => some (Value.int z)) hx2.1) ?_
      refine wp_vrt_i (As := [.int (nI ((p9).1))]) (x0 := qby (m.2.1 94) T ((p9).1)) (h1 := HP c w (setA m 81 ((p9).2.2.2.2.2.2)) y2 E) d_X10_one_43 lk_X10_294 mv_X10_byteAt in_X10_byteAt se_X10_byteAt (Nat.le_of_ble_eq_true rfl) (Nat.le_of_ble_eq_true rfl) (hp_80 _ _ _ _ _) rfl (s_X10_byteAt hT hT2 (k := (p9).1) (Nat.le_trans hj9.1 (Nat.le_trans hj9.2.1 hT2))) ?_
      refine wp_bipush (v0 := 40) d_X10_one_46 (by decide) ?_
      refine wp_icmp_ne 124 d_X10_one_48 rfl (fun zc48 => ?_) (fun zc48 => ?_)
      · refine wp_aload_n 1 d_X10_one_124 rfl rfl ?_
        refine wp_virtual0 (As := []) d_X10_one_125 lk_X10_370 mv_X10_comparison in_X10_comparison se_X10_comparison (Nat.le_of_ble_eq_true rfl) (Nat.le_of_ble_eq_true rfl) (hp_80 _ _ _ _ _) rfl (s_X10_comparison hT hT2 hx2 ha9 hj9) (fun v125 h125 q125 => ?_)
        obtain ⟨rfl, y125, rfl, hx125⟩ := q125
        have hj125 := hj9.cmp (t := (m.2.1 94))
        show WP _ _ _ _ _ 128 _ [] (HP c w (setA m 81 ((rcmp (m.2.1 94) T (p9)).2.2.2.2.2.2)) y125 E) _
        have hm9 : rmid (m.2.1 94) T C p9 = rcmp (m.2.1 94) T (p9) := if_neg (fun z => zc48 z.2)
        refine wp_iload_n 0 d_X10_one_128 rfl rfl ?_
        refine wp_ifb_eq 138 d_X10_one_129 rfl (fun zc129 => ?_) (fun zc129 => ?_)
        · refine wp_vret d_X10_one_138 rfl ?_
          have hq9 : rone (m.2.1 94) T C q = rcmp (m.2.1 94) T (p9) := by
            unfold rone
            rw [h9]
            show (if b9 = true then rwri (-20) (rmid (m.2.1 94) T C p9) else rmid (m.2.1 94) T C p9) = _
            rw [if_neg zc129, hm9]
          exact ⟨rfl, y125, by rw [hq9], by rw [hq9]; exact hx125⟩
        · refine wp_aload_n 1 d_X10_one_132 rfl rfl ?_
          refine wp_bipush (v0 := -20) d_X10_one_133 (by decide) ?_
          refine wp_virtual0 (As := [.int ((-20))]) d_X10_one_135 lk_X10_353 mv_X10_writes in_X10_writes se_X10_writes (Nat.le_of_ble_eq_true rfl) (Nat.le_of_ble_eq_true rfl) (hp_80 _ _ _ _ _) rfl (s_X10_writes hx125 (hj125.cb hT2 ha9) ((-20))) (fun v135 h135 q135 => ?_)
          obtain ⟨rfl, y135, rfl, hx135⟩ := q135
          have hj135 := hj125.wrim (x := (-20))
          show WP _ _ _ _ _ 138 _ [] (HP c w (setA m 81 ((rwri ((-20)) (rcmp (m.2.1 94) T (p9))).2.2.2.2.2.2)) y135 E) _
          refine wp_vret d_X10_one_138 rfl ?_
          have hq9 : rone (m.2.1 94) T C q = rwri ((-20)) (rcmp (m.2.1 94) T (p9)) := by
            unfold rone
            rw [h9]
            show (if b9 = true then rwri (-20) (rmid (m.2.1 94) T C p9) else rmid (m.2.1 94) T C p9) = _
            rw [if_pos zc129, hm9]
          exact ⟨rfl, y135, by rw [hq9], by rw [hq9]; exact hx135⟩
      · refine wp_aload_n 1 d_X10_one_51 rfl rfl ?_
        refine wp_aload_n 1 d_X10_one_52 rfl rfl ?_
        refine wp_getfield (v := .int (nI ((p9).2.2.2.2.1))) d_X10_one_53 gf_X10_364 (hp_80 _ _ _ _ _) (congrArg (fun z => some (Value.int z)) hx2.2.2.2.2.1) ?_
        refine wp_iconst (v0 := 3) d_X10_one_56 rfl ?_
        refine wp_ncmp_ge (a := (p9).2.2.2.2.1) (b := 3) 64 d_X10_one_57 rfl (by omega) (by omega) (fun zc57 => ?_) (fun zc57 => ?_)
        · refine wp_iconst (v0 := 0) d_X10_one_64 rfl ?_
          refine wp_virtual0 (As := [.int (0)]) d_X10_one_65 lk_X10_317 mv_X10_wants in_X10_wants se_X10_wants (Nat.le_of_ble_eq_true rfl) (Nat.le_of_ble_eq_true rfl) (hp_80 _ _ _ _ _) rfl (s_X10_wantsS hT hT2 hx2 hj9.2.1 (false)) (fun v65 h65 q65 => ?_)
          obtain ⟨rfl, y65, rfl, hx65⟩ := q65
          have hj65 := hj9.want0 (t := (m.2.1 94)) (b := false)
          show WP _ _ _ _ _ 68 _ [] (HP c w (setA m 81 ((rwant (m.2.1 94) T (false) (p9)).2.2.2.2.2.2)) y65 E) _
          refine wp_aload_n 1 d_X10_one_68 rfl rfl ?_
          refine wp_dup d_X10_one_69 rfl ?_
          refine wp_getfield (v := .int (nI ((rwant (m.2.1 94) T (false) (p9)).2.2.2.2.1))) d_X10_one_70 gf_X10_364 (hp_80 _ _ _ _ _) (congrArg (fun z => some (Value.int z)) hx65.2.2.2.2.1) ?_
          refine wp_iconst (v0 := 1) d_X10_one_73 rfl ?_
          refine wp_iadd d_X10_one_74 ?_
          refine wp_v (v0 := nI (((rwant (m.2.1 94) T (false) (p9)).2.2.2.2.1) + (1))) (nI_add ((rwant (m.2.1 94) T (false) (p9)).2.2.2.2.1) (1)) ?_
          refine wp_putfield (h' := HP c w (setA m 81 ((rwant (m.2.1 94) T (false) (p9)).2.2.2.2.2.2)) (setS y65 8028 (nI (((rwant (m.2.1 94) T (false) (p9)).2.2.2.2.1) + (1)))) E) d_X10_one_75 gp_X10_364 (kfit_i _) (hp_80 _ _ _ _ _) (Nat.le_of_ble_eq_true rfl) (hps_80_28 _ _ _ _ _ _) ?_
          have hn78 : ((rwant (m.2.1 94) T (false) (p9)).2.2.2.2.1) + (1) = p9.2.2.2.2.1 + 1 := by
            rw [rwant_o]
          have hxy78 : kMx v (rope (rwant (m.2.1 94) T (false) (p9)) (p9.2.2.2.2.1 + 1)) (setS y65 8028 (nI (((rwant (m.2.1 94) T (false) (p9)).2.2.2.2.1) + (1)))) := (congrArg (fun n9 => kMx v (rope (rwant (m.2.1 94) T (false) (p9)) n9) (setS y65 8028 (nI (((rwant (m.2.1 94) T (false) (p9)).2.2.2.2.1) + (1))))) hn78).mp (hx65.op _)
          have hjy78 := hj65.rope (p9.2.2.2.2.1 + 1)
          generalize (setS y65 8028 (nI (((rwant (m.2.1 94) T (false) (p9)).2.2.2.2.1) + (1)))) = y78 at hxy78 ⊢
          show WP _ _ _ _ _ 78 _ [] (HP c w (setA m 81 ((rope (rwant (m.2.1 94) T (false) (p9)) (p9.2.2.2.2.1 + 1)).2.2.2.2.2.2)) y78 E) _
          refine wp_aload_n 1 d_X10_one_78 rfl rfl ?_
          refine wp_virtual0 (As := []) d_X10_one_79 lk_X10_367 mv_X10_condition in_X10_condition se_X10_condition (Nat.le_of_ble_eq_true rfl) (Nat.le_of_ble_eq_true rfl) (hp_80 _ _ _ _ _) rfl (HC _ _ _ ha9 hxy78 hjy78 (Or.inl (show (rwant (m.2.1 94) T (false) (p9)).2.2.1 = true by rw [show rwant (m.2.1 94) T false p9 = _ from if_pos (Or.inr (by decide))]))) (fun v79 h79 q79 => ?_)
          obtain ⟨rfl, y79, rfl, hx79⟩ := q79
          have hj79 := (gC _ _ hjy78).1
          have ho79 : (C (rope (rwant (m.2.1 94) T (false) (p9)) (p9.2.2.2.2.1 + 1))).2.2.2.2.1 = p9.2.2.2.2.1 + 1 := (gC _ _ hjy78).2
          show WP _ _ _ _ _ 82 _ [] (HP c w (setA m 81 ((C (rope (rwant (m.2.1 94) T (false) (p9)) (p9.2.2.2.2.1 + 1))).2.2.2.2.2.2)) y79 E) _
          refine wp_aload_n 1 d_X10_one_82 rfl rfl ?_
          refine wp_dup d_X10_one_83 rfl ?_
          refine wp_getfield (v := .int (nI ((C (rope (rwant (m.2.1 94) T (false) (p9)) (p9.2.2.2.2.1 + 1))).2.2.2.2.1))) d_X10_one_84 gf_X10_364 (hp_80 _ _ _ _ _) (congrArg (fun z => some (Value.int z)) hx79.2.2.2.2.1) ?_
          refine wp_iconst (v0 := 1) d_X10_one_87 rfl ?_
          refine wp_isub d_X10_one_88 ?_
          refine wp_v (v0 := nI (((C (rope (rwant (m.2.1 94) T (false) (p9)) (p9.2.2.2.2.1 + 1))).2.2.2.2.1) - (1))) (pk_sub (a := (C (rope (rwant (m.2.1 94) T (false) (p9)) (p9.2.2.2.2.1 + 1))).2.2.2.2.1) (b := 1) (by omega)) ?_
          refine wp_putfield (h' := HP c w (setA m 81 ((C (rope (rwant (m.2.1 94) T (false) (p9)) (p9.2.2.2.2.1 + 1))).2.2.2.2.2.2)) (setS y79 8028 (nI (((C (rope (rwant (m.2.1 94) T (false) (p9)) (p9.2.2.2.2.1 + 1))).2.2.2.2.1) - (1)))) E) d_X10_one_89 gp_X10_364 (kfit_i _) (hp_80 _ _ _ _ _) (Nat.le_of_ble_eq_true rfl) (hps_80_28 _ _ _ _ _ _) ?_
          have hn92 : ((C (rope (rwant (m.2.1 94) T (false) (p9)) (p9.2.2.2.2.1 + 1))).2.2.2.2.1) - (1) = p9.2.2.2.2.1 := by
            omega
          have hxy92 : kMx v (rope (C (rope (rwant (m.2.1 94) T (false) (p9)) (p9.2.2.2.2.1 + 1))) (p9.2.2.2.2.1)) (setS y79 8028 (nI (((C (rope (rwant (m.2.1 94) T (false) (p9)) (p9.2.2.2.2.1 + 1))).2.2.2.2.1) - (1)))) := (congrArg (fun n9 => kMx v (rope (C (rope (rwant (m.2.1 94) T (false) (p9)) (p9.2.2.2.2.1 + 1))) n9) (setS y79 8028 (nI (((C (rope (rwant (m.2.1 94) T (false) (p9)) (p9.2.2.2.2.1 + 1))).2.2.2.2.1) - (1))))) hn92).mp (hx79.op _)
          have hjy92 := hj79.rope (p9.2.2.2.2.1)
          generalize (setS y79 8028 (nI (((C (rope (rwant (m.2.1 94) T (false) (p9)) (p9.2.2.2.2.1 + 1))).2.2.2.2.1) - (1)))) = y92 at hxy92 ⊢
          show WP _ _ _ _ _ 92 _ [] (HP c w (setA m 81 ((rope (C (rope (rwant (m.2.1 94) T (false) (p9)) (p9.2.2.2.2.1 + 1))) (p9.2.2.2.2.1)).2.2.2.2.2.2)) y92 E) _
          refine wp_aload_n 1 d_X10_one_92 rfl rfl ?_
          refine wp_aload_n 1 d_X10_one_93 rfl rfl ?_
          refine wp_getfield (v := .int (kb ((rope (C (rope (rwant (m.2.1 94) T (false) (p9)) (p9.2.2.2.2.1 + 1))) (p9.2.2.2.2.1)).2.2.1 = true))) d_X10_one_94 gf_X10_303 (hp_80 _ _ _ _ _) (congrArg (fun z => some (Value.int z)) hxy92.2.2.1) ?_
          refine wp_ifb_ne 117 d_X10_one_97 rfl (fun zc97 => ?_) (fun zc97 => ?_)
          · refine wp_iconst (v0 := 0) d_X10_one_117 rfl ?_
            refine wp_virtual0 (As := [.int (0)]) d_X10_one_118 lk_X10_317 mv_X10_wants in_X10_wants se_X10_wants (Nat.le_of_ble_eq_true rfl) (Nat.le_of_ble_eq_true rfl) (hp_80 _ _ _ _ _) rfl (s_X10_wantsS hT hT2 hxy92 hjy92.2.1 (false)) (fun v118 h118 q118 => ?_)
            obtain ⟨rfl, y118, rfl, hx118⟩ := q118
            have hj118 := hjy92.want0 (t := (m.2.1 94)) (b := false)
            show WP _ _ _ _ _ 121 _ [] (HP c w (setA m 81 ((rwant (m.2.1 94) T (false) (rope (C (rope (rwant (m.2.1 94) T (false) (p9)) (p9.2.2.2.2.1 + 1))) (p9.2.2.2.2.1))).2.2.2.2.2.2)) y118 E) _
            refine wp_goto 128 d_X10_one_121 rfl ?_
            have hm9 : rmid (m.2.1 94) T C p9 = rwant (m.2.1 94) T (false) (rope (C (rope (rwant (m.2.1 94) T (false) (p9)) (p9.2.2.2.2.1 + 1))) (p9.2.2.2.2.1)) := by
              unfold rmid
              rw [if_pos ⟨Bool.not_eq_true _ |>.mp zc35, zc48⟩]
              rw [show decide (p9.2.2.2.2.1 < 3) = false from decide_eq_false (by omega)]
              rw [show decide (rcb (m.2.1 94) T (rope (C (rope (rwant (m.2.1 94) T (false) (p9)) (p9.2.2.2.2.1 + 1))) (p9.2.2.2.2.1)) = 41) = false from decide_eq_false (rcb_w zc97)]
            refine wp_iload_n 0 d_X10_one_128 rfl rfl ?_
            refine wp_ifb_eq 138 d_X10_one_129 rfl (fun zc129 => ?_) (fun zc129 => ?_)
            · refine wp_vret d_X10_one_138 rfl ?_
              have hq9 : rone (m.2.1 94) T C q = rwant (m.2.1 94) T (false) (rope (C (rope (rwant (m.2.1 94) T (false) (p9)) (p9.2.2.2.2.1 + 1))) (p9.2.2.2.2.1)) := by
                unfold rone
                rw [h9]
                show (if b9 = true then rwri (-20) (rmid (m.2.1 94) T C p9) else rmid (m.2.1 94) T C p9) = _
                rw [if_neg zc129, hm9]
              exact ⟨rfl, y118, by rw [hq9], by rw [hq9]; exact hx118⟩
            · refine wp_aload_n 1 d_X10_one_132 rfl rfl ?_
              refine wp_bipush (v0 := -20) d_X10_one_133 (by decide) ?_
              refine wp_virtual0 (As := [.int ((-20))]) d_X10_one_135 lk_X10_353 mv_X10_writes in_X10_writes se_X10_writes (Nat.le_of_ble_eq_true rfl) (Nat.le_of_ble_eq_true rfl) (hp_80 _ _ _ _ _) rfl (s_X10_writes hx118 (hj118.cb hT2 ha9) ((-20))) (fun v135 h135 q135 => ?_)
              obtain ⟨rfl, y135, rfl, hx135⟩ := q135
              have hj135 := hj118.wrim (x := (-20))
              show WP _ _ _ _ _ 138 _ [] (HP c w (setA m 81 ((rwri ((-20)) (rwant (m.2.1 94) T (false) (rope (C (rope (rwant (m.2.1 94) T (false) (p9)) (p9.2.2.2.2.1 + 1))) (p9.2.2.2.2.1)))).2.2.2.2.2.2)) y135 E) _
              refine wp_vret d_X10_one_138 rfl ?_
              have hq9 : rone (m.2.1 94) T C q = rwri ((-20)) (rwant (m.2.1 94) T (false) (rope (C (rope (rwant (m.2.1 94) T (false) (p9)) (p9.2.2.2.2.1 + 1))) (p9.2.2.2.2.1))) := by
                unfold rone
                rw [h9]
                show (if b9 = true then rwri (-20) (rmid (m.2.1 94) T C p9) else rmid (m.2.1 94) T C p9) = _
                rw [if_pos zc129, hm9]
              exact ⟨rfl, y135, by rw [hq9], by rw [hq9]; exact hx135⟩
          · refine wp_aload_n 1 d_X10_one_100 rfl rfl ?_
            refine wp_aload_n 1 d_X10_one_101 rfl rfl ?_
            refine wp_getfield (v := .int (nI ((rope (C (rope (rwant (m.2.1 94) T (false) (p9)) (p9.2.2.2.2.1 + 1))) (p9.2.2.2.2.1)).1))) d_X10_one_102 gf_X10_291 (hp_80 _ _ _ _ _) (congrArg (fun z => some (Value.int z)) hxy92.1) ?_
            refine wp_vrt_i (As := [.int (nI ((rope (C (rope (rwant (m.2.1 94) T (false) (p9)) (p9.2.2.2.2.1 + 1))) (p9.2.2.2.2.1)).1))]) (x0 := qby (m.2.1 94) T ((rope (C (rope (rwant (m.2.1 94) T (false) (p9)) (p9.2.2.2.2.1 + 1))) (p9.2.2.2.2.1)).1)) (h1 := HP c w (setA m 81 ((rope (C (rope (rwant (m.2.1 94) T (false) (p9)) (p9.2.2.2.2.1 + 1))) (p9.2.2.2.2.1)).2.2.2.2.2.2)) y92 E) d_X10_one_105 lk_X10_294 mv_X10_byteAt in_X10_byteAt se_X10_byteAt (Nat.le_of_ble_eq_true rfl) (Nat.le_of_ble_eq_true rfl) (hp_80 _ _ _ _ _) rfl (s_X10_byteAt hT hT2 (k := (rope (C (rope (rwant (m.2.1 94) T (false) (p9)) (p9.2.2.2.2.1 + 1))) (p9.2.2.2.2.1)).1) (Nat.le_trans hjy92.1 (Nat.le_trans hjy92.2.1 hT2))) ?_
            refine wp_bipush (v0 := 41) d_X10_one_108 (by decide) ?_
            refine wp_icmp_ne 117 d_X10_one_110 rfl (fun zc110 => ?_) (fun zc110 => ?_)
            · refine wp_iconst (v0 := 0) d_X10_one_117 rfl ?_
              refine wp_virtual0 (As := [.int (0)]) d_X10_one_118 lk_X10_317 mv_X10_wants in_X10_wants se_X10_wants (Nat.le_of_ble_eq_true rfl) (Nat.le_of_ble_eq_true rfl) (hp_80 _ _ _ _ _) rfl (s_X10_wantsS hT hT2 hxy92 hjy92.2.1 (false)) (fun v118 h118 q118 => ?_)
              obtain ⟨rfl, y118, rfl, hx118⟩ := q118
              have hj118 := hjy92.want0 (t := (m.2.1 94)) (b := false)
              show WP _ _ _ _ _ 121 _ [] (HP c w (setA m 81 ((rwant (m.2.1 94) T (false) (rope (C (rope (rwant (m.2.1 94) T (false) (p9)) (p9.2.2.2.2.1 + 1))) (p9.2.2.2.2.1))).2.2.2.2.2.2)) y118 E) _
              refine wp_goto 128 d_X10_one_121 rfl ?_
              have hm9 : rmid (m.2.1 94) T C p9 = rwant (m.2.1 94) T (false) (rope (C (rope (rwant (m.2.1 94) T (false) (p9)) (p9.2.2.2.2.1 + 1))) (p9.2.2.2.2.1)) := by
                unfold rmid
                rw [if_pos ⟨Bool.not_eq_true _ |>.mp zc35, zc48⟩]
                rw [show decide (p9.2.2.2.2.1 < 3) = false from decide_eq_false (by omega)]
                rw [show decide (rcb (m.2.1 94) T (rope (C (rope (rwant (m.2.1 94) T (false) (p9)) (p9.2.2.2.2.1 + 1))) (p9.2.2.2.2.1)) = 41) = false from decide_eq_false (by rw [show rcb (m.2.1 94) T (rope (C (rope (rwant (m.2.1 94) T (false) (p9)) (p9.2.2.2.2.1 + 1))) (p9.2.2.2.2.1)) = _ from if_neg zc97]; exact zc110)]
              refine wp_iload_n 0 d_X10_one_128 rfl rfl ?_
              refine wp_ifb_eq 138 d_X10_one_129 rfl (fun zc129 => ?_) (fun zc129 => ?_)
              · refine wp_vret d_X10_one_138 rfl ?_
                have hq9 : rone (m.2.1 94) T C q = rwant (m.2.1 94) T (false) (rope (C (rope (rwant (m.2.1 94) T (false) (p9)) (p9.2.2.2.2.1 + 1))) (p9.2.2.2.2.1)) := by
                  unfold rone
                  rw [h9]
                  show (if b9 = true then rwri (-20) (rmid (m.2.1 94) T C p9) else rmid (m.2.1 94) T C p9) = _
                  rw [if_neg zc129, hm9]
                exact ⟨rfl, y118, by rw [hq9], by rw [hq9]; exact hx118⟩
              · refine wp_aload_n 1 d_X10_one_132 rfl rfl ?_
                refine wp_bipush (v0 := -20) d_X10_one_133 (by decide) ?_
                refine wp_virtual0 (As := [.int ((-20))]) d_X10_one_135 lk_X10_353 mv_X10_writes in_X10_writes se_X10_writes (Nat.le_of_ble_eq_true rfl) (Nat.le_of_ble_eq_true rfl) (hp_80 _ _ _ _ _) rfl (s_X10_writes hx118 (hj118.cb hT2 ha9) ((-20))) (fun v135 h135 q135 => ?_)
                obtain ⟨rfl, y135, rfl, hx135⟩ := q135
                have hj135 := hj118.wrim (x := (-20))
                show WP _ _ _ _ _ 138 _ [] (HP c w (setA m 81 ((rwri ((-20)) (rwant (m.2.1 94) T (false) (rope (C (rope (rwant (m.2.1 94) T (false) (p9)) (p9.2.2.2.2.1 + 1))) (p9.2.2.2.2.1)))).2.2.2.2.2.2)) y135 E) _
                refine wp_vret d_X10_one_138 rfl ?_
                have hq9 : rone (m.2.1 94) T C q = rwri ((-20)) (rwant (m.2.1 94) T (false) (rope (C (rope (rwant (m.2.1 94) T (false) (p9)) (p9.2.2.2.2.1 + 1))) (p9.2.2.2.2.1))) := by
                  unfold rone
                  rw [h9]
                  show (if b9 = true then rwri (-20) (rmid (m.2.1 94) T C p9) else rmid (m.2.1 94) T C p9) = _
                  rw [if_pos zc129, hm9]
                exact ⟨rfl, y135, by rw [hq9], by rw [hq9]; exact hx135⟩
            · refine wp_iconst (v0 := 1) d_X10_one_113 rfl ?_
              refine wp_goto 118 d_X10_one_114 rfl ?_
              refine wp_virtual0 (As := [.int (1)]) d_X10_one_118 lk_X10_317 mv_X10_wants in_X10_wants se_X10_wants (Nat.le_of_ble_eq_true rfl) (Nat.le_of_ble_eq_true rfl) (hp_80 _ _ _ _ _) rfl (s_X10_wantsS hT hT2 hxy92 hjy92.2.1 (true)) (fun v118 h118 q118 => ?_)
              obtain ⟨rfl, y118, rfl, hx118⟩ := q118
              have hj118 := hjy92.want0 (t := (m.2.1 94)) (b := true)
              show WP _ _ _ _ _ 121 _ [] (HP c w (setA m 81 ((rwant (m.2.1 94) T (true) (rope (C (rope (rwant (m.2.1 94) T (false) (p9)) (p9.2.2.2.2.1 + 1))) (p9.2.2.2.2.1))).2.2.2.2.2.2)) y118 E) _
              refine wp_goto 128 d_X10_one_121 rfl ?_
              have hm9 : rmid (m.2.1 94) T C p9 = rwant (m.2.1 94) T (true) (rope (C (rope (rwant (m.2.1 94) T (false) (p9)) (p9.2.2.2.2.1 + 1))) (p9.2.2.2.2.1)) := by
                unfold rmid
                rw [if_pos ⟨Bool.not_eq_true _ |>.mp zc35, zc48⟩]
                rw [show decide (p9.2.2.2.2.1 < 3) = false from decide_eq_false (by omega)]
                rw [show decide (rcb (m.2.1 94) T (rope (C (rope (rwant (m.2.1 94) T (false) (p9)) (p9.2.2.2.2.1 + 1))) (p9.2.2.2.2.1)) = 41) = true from decide_eq_true (by rw [show rcb (m.2.1 94) T (rope (C (rope (rwant (m.2.1 94) T (false) (p9)) (p9.2.2.2.2.1 + 1))) (p9.2.2.2.2.1)) = _ from if_neg zc97]; exact zc110)]
              refine wp_iload_n 0 d_X10_one_128 rfl rfl ?_
              refine wp_ifb_eq 138 d_X10_one_129 rfl (fun zc129 => ?_) (fun zc129 => ?_)
              · refine wp_vret d_X10_one_138 rfl ?_
                have hq9 : rone (m.2.1 94) T C q = rwant (m.2.1 94) T (true) (rope (C (rope (rwant (m.2.1 94) T (false) (p9)) (p9.2.2.2.2.1 + 1))) (p9.2.2.2.2.1)) := by
                  unfold rone
                  rw [h9]
                  show (if b9 = true then rwri (-20) (rmid (m.2.1 94) T C p9) else rmid (m.2.1 94) T C p9) = _
                  rw [if_neg zc129, hm9]
                exact ⟨rfl, y118, by rw [hq9], by rw [hq9]; exact hx118⟩
              · refine wp_aload_n 1 d_X10_one_132 rfl rfl ?_
                refine wp_bipush (v0 := -20) d_X10_one_133 (by decide) ?_
                refine wp_virtual0 (As := [.int ((-20))]) d_X10_one_135 lk_X10_353 mv_X10_writes in_X10_writes se_X10_writes (Nat.le_of_ble_eq_true rfl) (Nat.le_of_ble_eq_true rfl) (hp_80 _ _ _ _ _) rfl (s_X10_writes hx118 (hj118.cb hT2 ha9) ((-20))) (fun v135 h135 q135 => ?_)
                obtain ⟨rfl, y135, rfl, hx135⟩ := q135
                have hj135 := hj118.wrim (x := (-20))
                show WP _ _ _ _ _ 138 _ [] (HP c w (setA m 81 ((rwri ((-20)) (rwant (m.2.1 94) T (true) (rope (C (rope (rwant (m.2.1 94) T (false) (p9)) (p9.2.2.2.2.1 + 1))) (p9.2.2.2.2.1)))).2.2.2.2.2.2)) y135 E) _
                refine wp_vret d_X10_one_138 rfl ?_
                have hq9 : rone (m.2.1 94) T C q = rwri ((-20)) (rwant (m.2.1 94) T (true) (rope (C (rope (rwant (m.2.1 94) T (false) (p9)) (p9.2.2.2.2.1 + 1))) (p9.2.2.2.2.1))) := by
                  unfold rone
                  rw [h9]
                  show (if b9 = true then rwri (-20) (rmid (m.2.1 94) T C p9) else rmid (m.2.1 94) T C p9) = _
                  rw [if_pos zc129, hm9]
                exact ⟨rfl, y135, by rw [hq9], by rw [hq9]; exact hx135⟩
        · refine wp_iconst (v0 := 1) d_X10_one_60 rfl ?_
          refine wp_goto 65 d_X10_one_61 rfl ?_
          refine wp_virtual0 (As := [.int (1)]) d_X10_one_65 lk_X10_317 mv_X10_wants in_X10_wants se_X10_wants (Nat.le_of_ble_eq_true rfl) (Nat.le_of_ble_eq_true rfl) (hp_80 _ _ _ _ _) rfl (s_X10_wantsS hT hT2 hx2 hj9.2.1 (true)) (fun v65 h65 q65 => ?_)
          obtain ⟨rfl, y65, rfl, hx65⟩ := q65
          have hj65 := hj9.want0 (t := (m.2.1 94)) (b := true)
          show WP _ _ _ _ _ 68 _ [] (HP c w (setA m 81 ((rwant (m.2.1 94) T (true) (p9)).2.2.2.2.2.2)) y65 E) _
          refine wp_aload_n 1 d_X10_one_68 rfl rfl ?_
          refine wp_dup d_X10_one_69 rfl ?_
          refine wp_getfield (v := .int (nI ((rwant (m.2.1 94) T (true) (p9)).2.2.2.2.1))) d_X10_one_70 gf_X10_364 (hp_80 _ _ _ _ _) (congrArg (fun z => some (Value.int z)) hx65.2.2.2.2.1) ?_
          refine wp_iconst (v0 := 1) d_X10_one_73 rfl ?_
          refine wp_iadd d_X10_one_74 ?_
          refine wp_v (v0 := nI (((rwant (m.2.1 94) T (true) (p9)).2.2.2.2.1) + (1))) (nI_add ((rwant (m.2.1 94) T (true) (p9)).2.2.2.2.1) (1)) ?_
          refine wp_putfield (h' := HP c w (setA m 81 ((rwant (m.2.1 94) T (true) (p9)).2.2.2.2.2.2)) (setS y65 8028 (nI (((rwant (m.2.1 94) T (true) (p9)).2.2.2.2.1) + (1)))) E) d_X10_one_75 gp_X10_364 (kfit_i _) (hp_80 _ _ _ _ _) (Nat.le_of_ble_eq_true rfl) (hps_80_28 _ _ _ _ _ _) ?_
          have hn78 : ((rwant (m.2.1 94) T (true) (p9)).2.2.2.2.1) + (1) = p9.2.2.2.2.1 + 1 := by
            rw [rwant_o]
          have hxy78 : kMx v (rope (rwant (m.2.1 94) T (true) (p9)) (p9.2.2.2.2.1 + 1)) (setS y65 8028 (nI (((rwant (m.2.1 94) T (true) (p9)).2.2.2.2.1) + (1)))) := (congrArg (fun n9 => kMx v (rope (rwant (m.2.1 94) T (true) (p9)) n9) (setS y65 8028 (nI (((rwant (m.2.1 94) T (true) (p9)).2.2.2.2.1) + (1))))) hn78).mp (hx65.op _)
          have hjy78 := hj65.rope (p9.2.2.2.2.1 + 1)
          generalize (setS y65 8028 (nI (((rwant (m.2.1 94) T (true) (p9)).2.2.2.2.1) + (1)))) = y78 at hxy78 ⊢
          show WP _ _ _ _ _ 78 _ [] (HP c w (setA m 81 ((rope (rwant (m.2.1 94) T (true) (p9)) (p9.2.2.2.2.1 + 1)).2.2.2.2.2.2)) y78 E) _
          refine wp_aload_n 1 d_X10_one_78 rfl rfl ?_
          refine wp_virtual0 (As := []) d_X10_one_79 lk_X10_367 mv_X10_condition in_X10_condition se_X10_condition (Nat.le_of_ble_eq_true rfl) (Nat.le_of_ble_eq_true rfl) (hp_80 _ _ _ _ _) rfl (HC _ _ _ ha9 hxy78 hjy78 (Or.inr ⟨by show p9.2.2.2.2.1 + 1 + kk = 4; omega, by show p9.2.2.2.2.1 + 1 ≤ 3; omega⟩)) (fun v79 h79 q79 => ?_)
          obtain ⟨rfl, y79, rfl, hx79⟩ := q79
          have hj79 := (gC _ _ hjy78).1
          have ho79 : (C (rope (rwant (m.2.1 94) T (true) (p9)) (p9.2.2.2.2.1 + 1))).2.2.2.2.1 = p9.2.2.2.2.1 + 1 := (gC _ _ hjy78).2
          show WP _ _ _ _ _ 82 _ [] (HP c w (setA m 81 ((C (rope (rwant (m.2.1 94) T (true) (p9)) (p9.2.2.2.2.1 + 1))).2.2.2.2.2.2)) y79 E) _
          refine wp_aload_n 1 d_X10_one_82 rfl rfl ?_
          refine wp_dup d_X10_one_83 rfl ?_
          refine wp_getfield (v := .int (nI ((C (rope (rwant (m.2.1 94) T (true) (p9)) (p9.2.2.2.2.1 + 1))).2.2.2.2.1))) d_X10_one_84 gf_X10_364 (hp_80 _ _ _ _ _) (congrArg (fun z => some (Value.int z)) hx79.2.2.2.2.1) ?_
          refine wp_iconst (v0 := 1) d_X10_one_87 rfl ?_
          refine wp_isub d_X10_one_88 ?_
          refine wp_v (v0 := nI (((C (rope (rwant (m.2.1 94) T (true) (p9)) (p9.2.2.2.2.1 + 1))).2.2.2.2.1) - (1))) (pk_sub (a := (C (rope (rwant (m.2.1 94) T (true) (p9)) (p9.2.2.2.2.1 + 1))).2.2.2.2.1) (b := 1) (by omega)) ?_
          refine wp_putfield (h' := HP c w (setA m 81 ((C (rope (rwant (m.2.1 94) T (true) (p9)) (p9.2.2.2.2.1 + 1))).2.2.2.2.2.2)) (setS y79 8028 (nI (((C (rope (rwant (m.2.1 94) T (true) (p9)) (p9.2.2.2.2.1 + 1))).2.2.2.2.1) - (1)))) E) d_X10_one_89 gp_X10_364 (kfit_i _) (hp_80 _ _ _ _ _) (Nat.le_of_ble_eq_true rfl) (hps_80_28 _ _ _ _ _ _) ?_
          have hn92 : ((C (rope (rwant (m.2.1 94) T (true) (p9)) (p9.2.2.2.2.1 + 1))).2.2.2.2.1) - (1) = p9.2.2.2.2.1 := by
            omega
          have hxy92 : kMx v (rope (C (rope (rwant (m.2.1 94) T (true) (p9)) (p9.2.2.2.2.1 + 1))) (p9.2.2.2.2.1)) (setS y79 8028 (nI (((C (rope (rwant (m.2.1 94) T (true) (p9)) (p9.2.2.2.2.1 + 1))).2.2.2.2.1) - (1)))) := (congrArg (fun n9 => kMx v (rope (C (rope (rwant (m.2.1 94) T (true) (p9)) (p9.2.2.2.2.1 + 1))) n9) (setS y79 8028 (nI (((C (rope (rwant (m.2.1 94) T (true) (p9)) (p9.2.2.2.2.1 + 1))).2.2.2.2.1) - (1))))) hn92).mp (hx79.op _)
          have hjy92 := hj79.rope (p9.2.2.2.2.1)
          generalize (setS y79 8028 (nI (((C (rope (rwant (m.2.1 94) T (true) (p9)) (p9.2.2.2.2.1 + 1))).2.2.2.2.1) - (1)))) = y92 at hxy92 ⊢
          show WP _ _ _ _ _ 92 _ [] (HP c w (setA m 81 ((rope (C (rope (rwant (m.2.1 94) T (true) (p9)) (p9.2.2.2.2.1 + 1))) (p9.2.2.2.2.1)).2.2.2.2.2.2)) y92 E) _
          refine wp_aload_n 1 d_X10_one_92 rfl rfl ?_
          refine wp_aload_n 1 d_X10_one_93 rfl rfl ?_
          refine wp_getfield (v := .int (kb ((rope (C (rope (rwant (m.2.1 94) T (true) (p9)) (p9.2.2.2.2.1 + 1))) (p9.2.2.2.2.1)).2.2.1 = true))) d_X10_one_94 gf_X10_303 (hp_80 _ _ _ _ _) (congrArg (fun z => some (Value.int z)) hxy92.2.2.1) ?_
          refine wp_ifb_ne 117 d_X10_one_97 rfl (fun zc97 => ?_) (fun zc97 => ?_)
          · refine wp_iconst (v0 := 0) d_X10_one_117 rfl ?_
            refine wp_virtual0 (As := [.int (0)]) d_X10_one_118 lk_X10_317 mv_X10_wants in_X10_wants se_X10_wants (Nat.le_of_ble_eq_true rfl) (Nat.le_of_ble_eq_true rfl) (hp_80 _ _ _ _ _) rfl (s_X10_wantsS hT hT2 hxy92 hjy92.2.1 (false)) (fun v118 h118 q118 => ?_)
            obtain ⟨rfl, y118, rfl, hx118⟩ := q118
            have hj118 := hjy92.want0 (t := (m.2.1 94)) (b := false)
            show WP _ _ _ _ _ 121 _ [] (HP c w (setA m 81 ((rwant (m.2.1 94) T (false) (rope (C (rope (rwant (m.2.1 94) T (true) (p9)) (p9.2.2.2.2.1 + 1))) (p9.2.2.2.2.1))).2.2.2.2.2.2)) y118 E) _
            refine wp_goto 128 d_X10_one_121 rfl ?_
            have hm9 : rmid (m.2.1 94) T C p9 = rwant (m.2.1 94) T (false) (rope (C (rope (rwant (m.2.1 94) T (true) (p9)) (p9.2.2.2.2.1 + 1))) (p9.2.2.2.2.1)) := by
              unfold rmid
              rw [if_pos ⟨Bool.not_eq_true _ |>.mp zc35, zc48⟩]
              rw [show decide (p9.2.2.2.2.1 < 3) = true from decide_eq_true (by omega)]
              rw [show decide (rcb (m.2.1 94) T (rope (C (rope (rwant (m.2.1 94) T (true) (p9)) (p9.2.2.2.2.1 + 1))) (p9.2.2.2.2.1)) = 41) = false from decide_eq_false (rcb_w zc97)]
            refine wp_iload_n 0 d_X10_one_128 rfl rfl ?_
            refine wp_ifb_eq 138 d_X10_one_129 rfl (fun zc129 => ?_) (fun zc129 => ?_)
            · refine wp_vret d_X10_one_138 rfl ?_
              have hq9 : rone (m.2.1 94) T C q = rwant (m.2.1 94) T (false) (rope (C (rope (rwant (m.2.1 94) T (true) (p9)) (p9.2.2.2.2.1 + 1))) (p9.2.2.2.2.1)) := by
                unfold rone
                rw [h9]
                show (if b9 = true then rwri (-20) (rmid (m.2.1 94) T C p9) else rmid (m.2.1 94) T C p9) = _
                rw [if_neg zc129, hm9]
              exact ⟨rfl, y118, by rw [hq9], by rw [hq9]; exact hx118⟩
            · refine wp_aload_n 1 d_X10_one_132 rfl rfl ?_
              refine wp_bipush (v0 := -20) d_X10_one_133 (by decide) ?_
              refine wp_virtual0 (As := [.int ((-20))]) d_X10_one_135 lk_X10_353 mv_X10_writes in_X10_writes se_X10_writes (Nat.le_of_ble_eq_true rfl) (Nat.le_of_ble_eq_true rfl) (hp_80 _ _ _ _ _) rfl (s_X10_writes hx118 (hj118.cb hT2 ha9) ((-20))) (fun v135 h135 q135 => ?_)
              obtain ⟨rfl, y135, rfl, hx135⟩ := q135
              have hj135 := hj118.wrim (x := (-20))
              show WP _ _ _ _ _ 138 _ [] (HP c w (setA m 81 ((rwri ((-20)) (rwant (m.2.1 94) T (false) (rope (C (rope (rwant (m.2.1 94) T (true) (p9)) (p9.2.2.2.2.1 + 1))) (p9.2.2.2.2.1)))).2.2.2.2.2.2)) y135 E) _
              refine wp_vret d_X10_one_138 rfl ?_
              have hq9 : rone (m.2.1 94) T C q = rwri ((-20)) (rwant (m.2.1 94) T (false) (rope (C (rope (rwant (m.2.1 94) T (true) (p9)) (p9.2.2.2.2.1 + 1))) (p9.2.2.2.2.1))) := by
                unfold rone
                rw [h9]
                show (if b9 = true then rwri (-20) (rmid (m.2.1 94) T C p9) else rmid (m.2.1 94) T C p9) = _
                rw [if_pos zc129, hm9]
              exact ⟨rfl, y135, by rw [hq9], by rw [hq9]; exact hx135⟩
          · refine wp_aload_n 1 d_X10_one_100 rfl rfl ?_
            refine wp_aload_n 1 d_X10_one_101 rfl rfl ?_
            refine wp_getfield (v := .int (nI ((rope (C (rope (rwant (m.2.1 94) T (true) (p9)) (p9.2.2.2.2.1 + 1))) (p9.2.2.2.2.1)).1))) d_X10_one_102 gf_X10_291 (hp_80 _ _ _ _ _) (congrArg (fun z => some (Value.int z)) hxy92.1) ?_
            refine wp_vrt_i (As := [.int (nI ((rope (C (rope (rwant (m.2.1 94) T (true) (p9)) (p9.2.2.2.2.1 + 1))) (p9.2.2.2.2.1)).1))]) (x0 := qby (m.2.1 94) T ((rope (C (rope (rwant (m.2.1 94) T (true) (p9)) (p9.2.2.2.2.1 + 1))) (p9.2.2.2.2.1)).1)) (h1 := HP c w (setA m 81 ((rope (C (rope (rwant (m.2.1 94) T (true) (p9)) (p9.2.2.2.2.1 + 1))) (p9.2.2.2.2.1)).2.2.2.2.2.2)) y92 E) d_X10_one_105 lk_X10_294 mv_X10_byteAt in_X10_byteAt se_X10_byteAt (Nat.le_of_ble_eq_true rfl) (Nat.le_of_ble_eq_true rfl) (hp_80 _ _ _ _ _) rfl (s_X10_byteAt hT hT2 (k := (rope (C (rope (rwant (m.2.1 94) T (true) (p9)) (p9.2.2.2.2.1 + 1))) (p9.2.2.2.2.1)).1) (Nat.le_trans hjy92.1 (Nat.le_trans hjy92.2.1 hT2))) ?_
            refine wp_bipush (v0 := 41) d_X10_one_108 (by decide) ?_
            refine wp_icmp_ne 117 d_X10_one_110 rfl (fun zc110 => ?_) (fun zc110 => ?_)
            · refine wp_iconst (v0 := 0) d_X10_one_117 rfl ?_
              refine wp_virtual0 (As := [.int (0)]) d_X10_one_118 lk_X10_317 mv_X10_wants in_X10_wants se_X10_wants (Nat.le_of_ble_eq_true rfl) (Nat.le_of_ble_eq_true rfl) (hp_80 _ _ _ _ _) rfl (s_X10_wantsS hT hT2 hxy92 hjy92.2.1 (false)) (fun v118 h118 q118 => ?_)
              obtain ⟨rfl, y118, rfl, hx118⟩ := q118
              have hj118 := hjy92.want0 (t := (m.2.1 94)) (b := false)
              show WP _ _ _ _ _ 121 _ [] (HP c w (setA m 81 ((rwant (m.2.1 94) T (false) (rope (C (rope (rwant (m.2.1 94) T (true) (p9)) (p9.2.2.2.2.1 + 1))) (p9.2.2.2.2.1))).2.2.2.2.2.2)) y118 E) _
              refine wp_goto 128 d_X10_one_121 rfl ?_
              have hm9 : rmid (m.2.1 94) T C p9 = rwant (m.2.1 94) T (false) (rope (C (rope (rwant (m.2.1 94) T (true) (p9)) (p9.2.2.2.2.1 + 1))) (p9.2.2.2.2.1)) := by
                unfold rmid
                rw [if_pos ⟨Bool.not_eq_true _ |>.mp zc35, zc48⟩]
                rw [show decide (p9.2.2.2.2.1 < 3) = true from decide_eq_true (by omega)]
                rw [show decide (rcb (m.2.1 94) T (rope (C (rope (rwant (m.2.1 94) T (true) (p9)) (p9.2.2.2.2.1 + 1))) (p9.2.2.2.2.1)) = 41) = false from decide_eq_false (by rw [show rcb (m.2.1 94) T (rope (C (rope (rwant (m.2.1 94) T (true) (p9)) (p9.2.2.2.2.1 + 1))) (p9.2.2.2.2.1)) = _ from if_neg zc97]; exact zc110)]
              refine wp_iload_n 0 d_X10_one_128 rfl rfl ?_
              refine wp_ifb_eq 138 d_X10_one_129 rfl (fun zc129 => ?_) (fun zc129 => ?_)
              · refine wp_vret d_X10_one_138 rfl ?_
                have hq9 : rone (m.2.1 94) T C q = rwant (m.2.1 94) T (false) (rope (C (rope (rwant (m.2.1 94) T (true) (p9)) (p9.2.2.2.2.1 + 1))) (p9.2.2.2.2.1)) := by
                  unfold rone
                  rw [h9]
                  show (if b9 = true then rwri (-20) (rmid (m.2.1 94) T C p9) else rmid (m.2.1 94) T C p9) = _
                  rw [if_neg zc129, hm9]
                exact ⟨rfl, y118, by rw [hq9], by rw [hq9]; exact hx118⟩
              · refine wp_aload_n 1 d_X10_one_132 rfl rfl ?_
                refine wp_bipush (v0 := -20) d_X10_one_133 (by decide) ?_
                refine wp_virtual0 (As := [.int ((-20))]) d_X10_one_135 lk_X10_353 mv_X10_writes in_X10_writes se_X10_writes (Nat.le_of_ble_eq_true rfl) (Nat.le_of_ble_eq_true rfl) (hp_80 _ _ _ _ _) rfl (s_X10_writes hx118 (hj118.cb hT2 ha9) ((-20))) (fun v135 h135 q135 => ?_)
                obtain ⟨rfl, y135, rfl, hx135⟩ := q135
                have hj135 := hj118.wrim (x := (-20))
                show WP _ _ _ _ _ 138 _ [] (HP c w (setA m 81 ((rwri ((-20)) (rwant (m.2.1 94) T (false) (rope (C (rope (rwant (m.2.1 94) T (true) (p9)) (p9.2.2.2.2.1 + 1))) (p9.2.2.2.2.1)))).2.2.2.2.2.2)) y135 E) _
                refine wp_vret d_X10_one_138 rfl ?_
                have hq9 : rone (m.2.1 94) T C q = rwri ((-20)) (rwant (m.2.1 94) T (false) (rope (C (rope (rwant (m.2.1 94) T (true) (p9)) (p9.2.2.2.2.1 + 1))) (p9.2.2.2.2.1))) := by
                  unfold rone
                  rw [h9]
                  show (if b9 = true then rwri (-20) (rmid (m.2.1 94) T C p9) else rmid (m.2.1 94) T C p9) = _
                  rw [if_pos zc129, hm9]
                exact ⟨rfl, y135, by rw [hq9], by rw [hq9]; exact hx135⟩
            · refine wp_iconst (v0 := 1) d_X10_one_113 rfl ?_
              refine wp_goto 118 d_X10_one_114 rfl ?_
              refine wp_virtual0 (As := [.int (1)]) d_X10_one_118 lk_X10_317 mv_X10_wants in_X10_wants se_X10_wants (Nat.le_of_ble_eq_true rfl) (Nat.le_of_ble_eq_true rfl) (hp_80 _ _ _ _ _) rfl (s_X10_wantsS hT hT2 hxy92 hjy92.2.1 (true)) (fun v118 h118 q118 => ?_)
              obtain ⟨rfl, y118, rfl, hx118⟩ := q118
              have hj118 := hjy92.want0 (t := (m.2.1 94)) (b := true)
              show WP _ _ _ _ _ 121 _ [] (HP c w (setA m 81 ((rwant (m.2.1 94) T (true) (rope (C (rope (rwant (m.2.1 94) T (true) (p9)) (p9.2.2.2.2.1 + 1))) (p9.2.2.2.2.1))).2.2.2.2.2.2)) y118 E) _
              refine wp_goto 128 d_X10_one_121 rfl ?_
              have hm9 : rmid (m.2.1 94) T C p9 = rwant (m.2.1 94) T (true) (rope (C (rope (rwant (m.2.1 94) T (true) (p9)) (p9.2.2.2.2.1 + 1))) (p9.2.2.2.2.1)) := by
                unfold rmid
                rw [if_pos ⟨Bool.not_eq_true _ |>.mp zc35, zc48⟩]
                rw [show decide (p9.2.2.2.2.1 < 3) = true from decide_eq_true (by omega)]
                rw [show decide (rcb (m.2.1 94) T (rope (C (rope (rwant (m.2.1 94) T (true) (p9)) (p9.2.2.2.2.1 + 1))) (p9.2.2.2.2.1)) = 41) = true from decide_eq_true (by rw [show rcb (m.2.1 94) T (rope (C (rope (rwant (m.2.1 94) T (true) (p9)) (p9.2.2.2.2.1 + 1))) (p9.2.2.2.2.1)) = _ from if_neg zc97]; exact zc110)]
              refine wp_iload_n 0 d_X10_one_128 rfl rfl ?_
              refine wp_ifb_eq 138 d_X10_one_129 rfl (fun zc129 => ?_) (fun zc129 => ?_)
              · refine wp_vret d_X10_one_138 rfl ?_
                have hq9 : rone (m.2.1 94) T C q = rwant (m.2.1 94) T (true) (rope (C (rope (rwant (m.2.1 94) T (true) (p9)) (p9.2.2.2.2.1 + 1))) (p9.2.2.2.2.1)) := by
                  unfold rone
                  rw [h9]
                  show (if b9 = true then rwri (-20) (rmid (m.2.1 94) T C p9) else rmid (m.2.1 94) T C p9) = _
                  rw [if_neg zc129, hm9]
                exact ⟨rfl, y118, by rw [hq9], by rw [hq9]; exact hx118⟩
              · refine wp_aload_n 1 d_X10_one_132 rfl rfl ?_
                refine wp_bipush (v0 := -20) d_X10_one_133 (by decide) ?_
                refine wp_virtual0 (As := [.int ((-20))]) d_X10_one_135 lk_X10_353 mv_X10_writes in_X10_writes se_X10_writes (Nat.le_of_ble_eq_true rfl) (Nat.le_of_ble_eq_true rfl) (hp_80 _ _ _ _ _) rfl (s_X10_writes hx118 (hj118.cb hT2 ha9) ((-20))) (fun v135 h135 q135 => ?_)
                obtain ⟨rfl, y135, rfl, hx135⟩ := q135
                have hj135 := hj118.wrim (x := (-20))
                show WP _ _ _ _ _ 138 _ [] (HP c w (setA m 81 ((rwri ((-20)) (rwant (m.2.1 94) T (true) (rope (C (rope (rwant (m.2.1 94) T (true) (p9)) (p9.2.2.2.2.1 + 1))) (p9.2.2.2.2.1)))).2.2.2.2.2.2)) y135 E) _
                refine wp_vret d_X10_one_138 rfl ?_
                have hq9 : rone (m.2.1 94) T C q = rwri ((-20)) (rwant (m.2.1 94) T (true) (rope (C (rope (rwant (m.2.1 94) T (true) (p9)) (p9.2.2.2.2.1 + 1))) (p9.2.2.2.2.1))) := by
                  unfold rone
                  rw [h9]
                  show (if b9 = true then rwri (-20) (rmid (m.2.1 94) T C p9) else rmid (m.2.1 94) T C p9) = _
                  rw [if_pos zc129, hm9]
                exact ⟨rfl, y135, by rw [hq9], by rw [hq9]; exact hx135⟩
