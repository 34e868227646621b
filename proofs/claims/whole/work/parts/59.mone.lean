/-! ===== reference: one ===== -/
def rnots (t : Nat → Int32) (T : Nat) : Nat → kRt → Bool → kRt × Bool
  | 0, q, b => (q, b)
  | k + 1, q, b => if rword t T q = 14836 then rnots t T k (rwant t T true q) (!b) else (q, b)
def rope (q : kRt) (n : Nat) : kRt := (q.1, q.2.1, q.2.2.1, q.2.2.2.1, n, q.2.2.2.2.2)
def rmid (t : Nat → Int32) (T : Nat) (C : kRt → kRt) (q : kRt) : kRt :=
  if q.2.2.1 = false ∧ qby t T q.1 = 40 then
    rwant t T (decide (rcb t T (rope (C (rope (rwant t T (decide (q.2.2.2.2.1 < 3)) q) (q.2.2.2.2.1 + 1))) q.2.2.2.2.1) = 41)) (rope (C (rope (rwant t T (decide (q.2.2.2.2.1 < 3)) q) (q.2.2.2.2.1 + 1))) q.2.2.2.2.1)
  else rcmp t T q
def rone (t : Nat → Int32) (T : Nat) (C : kRt → kRt) (q : kRt) : kRt := if (rnots t T 201 q false).2 = true then rwri (-20) (rmid t T C (rnots t T 201 q false).1) else rmid t T C (rnots t T 201 q false).1
theorem rwant_fr {t : Nat → Int32} {T : Nat} {a : Int} {q : kRt} (hw : rword t T q ≠ 0) (h : kRJ T a q) : q.1 < (rwant t T true q).1 := by
  have h1 : ¬ q.2.2.1 = true := fun e => hw (if_pos (Or.inl e))
  have h2 := h.2.2.1 (rword_lt hw)
  have h3 := rfr_b (t := t) h.2.1
  rw [show rwant t T true q = _ from if_neg (fun z => z.elim h1 (fun z => z rfl))]
  show q.1 < rfr t T q.2.1
  omega
theorem rw_ne {x c : Int64} (h : x = c) (hc : c ≠ 0) : x ≠ 0 := fun e => hc (h ▸ e)
theorem kRJ.nots {t : Nat → Int32} {T : Nat} : ∀ (k : Nat) {a : Int} {q : kRt} {b : Bool}, kRJ T (if b then a + 1 else a) q → kRJ T (if (rnots t T k q b).2 then a + 1 else a) (rnots t T k q b).1
  | 0, a, q, b, h => h
  | k + 1, a, q, b, h => by
    simp only [rnots]
    split
    · rename_i z
      refine kRJ.nots k ?_
      have h1 := h.want (t := t) (b := true) (fun _ => rword_lt (rw_ne z (by decide)))
      cases b
      · exact h1
      · exact ⟨h1.1, h1.2.1, h1.2.2.1, fun e => by have := h1.2.2.2 e; simp only [if_true] at this; simp; omega⟩
    · exact h
theorem s_X10_one_n {X : kX} {d : Nat} {c w m v : kZ} {E : kH} {T : Nat} (hT : m.1 8024 = nI T) (hT2 : T ≤ 200) {e : Nat} {a : Int} {p9 : kRt} {b9 : Bool} {Q9 : Option Value → kH → Prop} (K : ∀ y2 : kZ, kMx v p9 y2 → WP X (d + e + 7) 0 0 Y_X10_one 31 [(1, .int (kb (b9 = true))), (0, .ref 80)] [] (HP c w (setA m 81 (p9.2.2.2.2.2.2)) y2 E) Q9) : ∀ (k : Nat) (q : kRt) (y : kZ) (b : Bool), (T + 1 ≤ q.1 + k) → (kMx v q y) → (kRJ T a q) → (rnots (m.2.1 94) T k q b = (p9, b9)) → WP X (d + e + 7) 0 0 Y_X10_one 2 [(1, .int (kb (b = true))), (0, .ref (80))] [] (HP c w (setA m 81 ((q).2.2.2.2.2.2)) y E) Q9 := by
  intro k
  induction k using Nat.strongRecOn with
  | ind k ih =>
    intro q y b hi hx hj hr
    refine wp_aload_n 1 d_X10_one_2 rfl rfl ?_
    refine wp_vrt_l (As := []) (x0 := rword (m.2.1 94) T (q)) (h1 := HP c w (setA m 81 ((q).2.2.2.2.2.2)) y E) d_X10_one_3 lk_X10_321 mv_X10_word in_X10_word se_X10_word (Nat.le_of_ble_eq_true rfl) (Nat.le_of_ble_eq_true rfl) (hp_80 _ _ _ _ _) rfl (s_X10_word hT hT2 hx hj.1 hj.2.1) ?_
    refine wp_ldc2 (v0 := 14836) d_X10_one_6 cl_X10_362 ?_
    refine wp_lcmp d_X10_one_9 ?_
    refine wp_if_ne 31 d_X10_one_10 rfl (fun zc10 => ?_) (fun zc10 => ?_)
    · have hk0 : k ≠ 0 := fun e => by have := hj.1; have := hj.2.1; omega
      obtain ⟨k1, rfl⟩ : ∃ k1, k = k1 + 1 := ⟨k - 1, by omega⟩
      simp only [rnots] at hr
      rw [if_neg (fun z => zc10 (lg_eq9.mpr z))] at hr
      injection hr with e1 e2
      subst e1 e2
      refine wp_sub [(1, .int (kb (b = true))), (0, .ref (80))] [0, 1] rfl ?_
      exact K y hx
    · refine wp_iload_n 0 d_X10_one_13 rfl rfl ?_
      refine wp_ifb_ne 21 d_X10_one_14 rfl (fun zc14 => ?_) (fun zc14 => ?_)
      · refine wp_iconst (v0 := 0) d_X10_one_21 rfl ?_
        refine wp_istore_n [(1, .int (0)), (0, .ref (80))] d_X10_one_22 rfl (Nat.le_of_ble_eq_true rfl) rfl ?_
        refine wp_aload_n 1 d_X10_one_23 rfl rfl ?_
        refine wp_iconst (v0 := 1) d_X10_one_24 rfl ?_
        refine wp_virtual0 (As := [.int (1)]) d_X10_one_25 lk_X10_317 mv_X10_wants in_X10_wants se_X10_wants (Nat.le_of_ble_eq_true rfl) (Nat.le_of_ble_eq_true rfl) (hp_80 _ _ _ _ _) rfl (s_X10_wantsS hT hT2 hx hj.2.1 (true)) (fun v25 h25 q25 => ?_)
        obtain ⟨rfl, y25, rfl, hx25⟩ := q25
        have hj25 := hj.want0 (t := (m.2.1 94)) (b := true)
        show WP _ _ _ _ _ 28 _ [] (HP c w (setA m 81 ((rwant (m.2.1 94) T (true) (q)).2.2.2.2.2.2)) y25 E) _
        refine wp_goto 2 d_X10_one_28 rfl ?_
        have hz : rword (m.2.1 94) T q = 14836 := lg_eq9.mp zc10
        have hfr9 := rwant_fr (rw_ne hz (by decide)) hj
        have hk0 : k ≠ 0 := fun e => by have := hj.1; have := hj.2.1; omega
        obtain ⟨k1, rfl⟩ : ∃ k1, k = k1 + 1 := ⟨k - 1, by omega⟩
        simp only [rnots] at hr
        rw [if_pos hz] at hr
        have hv5 : kb ((!b) = true) = 0 := by rw [show b = true from zc14]; rfl
        refine wp_sub [(1, .int (kb ((!b) = true))), (0, .ref 80)] [0, 1] (by rw [hv5]; rfl) ?_
        exact ih k1 (by omega) _ y25 _ (by omega) hx25 hj25 hr
      · refine wp_iconst (v0 := 1) d_X10_one_17 rfl ?_
        refine wp_goto 22 d_X10_one_18 rfl ?_
        refine wp_istore_n [(1, .int (1)), (0, .ref (80))] d_X10_one_22 rfl (Nat.le_of_ble_eq_true rfl) rfl ?_
        refine wp_aload_n 1 d_X10_one_23 rfl rfl ?_
        refine wp_iconst (v0 := 1) d_X10_one_24 rfl ?_
        refine wp_virtual0 (As := [.int (1)]) d_X10_one_25 lk_X10_317 mv_X10_wants in_X10_wants se_X10_wants (Nat.le_of_ble_eq_true rfl) (Nat.le_of_ble_eq_true rfl) (hp_80 _ _ _ _ _) rfl (s_X10_wantsS hT hT2 hx hj.2.1 (true)) (fun v25 h25 q25 => ?_)
        obtain ⟨rfl, y25, rfl, hx25⟩ := q25
        have hj25 := hj.want0 (t := (m.2.1 94)) (b := true)
        show WP _ _ _ _ _ 28 _ [] (HP c w (setA m 81 ((rwant (m.2.1 94) T (true) (q)).2.2.2.2.2.2)) y25 E) _
        refine wp_goto 2 d_X10_one_28 rfl ?_
        have hz : rword (m.2.1 94) T q = 14836 := lg_eq9.mp zc10
        have hfr9 := rwant_fr (rw_ne hz (by decide)) hj
        have hk0 : k ≠ 0 := fun e => by have := hj.1; have := hj.2.1; omega
        obtain ⟨k1, rfl⟩ : ∃ k1, k = k1 + 1 := ⟨k - 1, by omega⟩
        simp only [rnots] at hr
        rw [if_pos hz] at hr
        have hv5 : kb ((!b) = true) = 1 := by rw [show b = false from Bool.not_eq_true _ |>.mp zc14]; rfl
        refine wp_sub [(1, .int (kb ((!b) = true))), (0, .ref 80)] [0, 1] (by rw [hv5]; rfl) ?_
        exact ih k1 (by omega) _ y25 _ (by omega) hx25 hj25 hr
