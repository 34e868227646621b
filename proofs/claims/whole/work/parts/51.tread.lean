/-! ===== class: reading a rule ===== -/
def qsgn (W Z : Nat → Int32) (p : kQt) : kQt := qstep W (if W p.1 = 61 ∨ W p.1 = 62 ∨ W p.1 = 60 then p else qfail Z p)
def qsgv (x : Int32) : Int32 := if x = 61 then 1 else if x = 62 then 2 else 0
abbrev qNu (x : Int32) : Prop := 1000 ≤ x.toInt ∧ x.toInt ≤ 10999
abbrev qFa (x : Int32) : Prop := 13 ≤ x.toInt ∧ x.toInt ≤ 17
def qval (W Z : Nat → Int32) (p : kQt) : kQt := qstep W (if qNu (W p.1) ∨ qFa (W p.1) then p else qfail Z p)
def qvl (x : Int32) : Int32 := if qNu x then x - 1000 else if qFa x then 10000 + x - 13 else 0
def qcmp (l g r : Int32) : Int32 := l <<< (16 : Int32) ||| r <<< (2 : Int32) ||| g
def qnots (W : Nat → Int32) : Nat → kQt → Bool → kQt × Bool
  | 0, p, b => (p, b)
  | k + 1, p, b => if W p.1 = 12 then qnots W k (qstep W p) (!b) else (p, b)
def qcq (W Z : Nat → Int32) (p : kQt) : kQt := qemit (qcmp (qvl (W p.1)) (qsgv (W (qval W Z p).1)) (qvl (W (qsgn W Z (qval W Z p)).1))) (qval W Z (qsgn W Z (qval W Z p)))
def qmid (W Z : Nat → Int32) (C : kQt → kQt) (op : Bool) (p : kQt) : kQt := if W p.1 = 40 then (if op = true then qexp W Z 41 (C (qstep W p)) else qfail Z p) else qcq W Z p
def qone (W Z : Nat → Int32) (C : kQt → kQt) (op : Bool) (p : kQt) : kQt := if (qnots W 200 p false).2 = true then qemit (-1) (qmid W Z C op (qnots W 200 p false).1) else qmid W Z C op (qnots W 200 p false).1
def qjs (W : Nat → Int32) (t x : Int32) (O : kQt → kQt) : Nat → kQt → kQt
  | 0, p => p
  | k + 1, p => if W p.1 = t ∧ p.2.1 = -1 then qjs W t x O k (qemit x (O (qstep W p))) else p
def qcond (W Z : Nat → Int32) : Nat → kQt → kQt
  | 0, p => qjs W 10 (-3) (fun p => qjs W 11 (-2) (qone W Z id false) 200 (qone W Z id false p)) 200 (qjs W 11 (-2) (qone W Z id false) 200 (qone W Z id false p))
  | k + 1, p => qjs W 10 (-3) (fun p => qjs W 11 (-2) (qone W Z (qcond W Z k) true) 200 (qone W Z (qcond W Z k) true p)) 200 (qjs W 11 (-2) (qone W Z (qcond W Z k) true) 200 (qone W Z (qcond W Z k) true p))
def kGd (W : Nat → Int32) (N : Nat) (F : kQt → kQt) : Prop := ∀ (a : Int) (p : kQt), kJ W N a p → kJ W N a (F p)
theorem kJ.exp {W Z : Nat → Int32} {N : Nat} {a : Int} {p : kQt} {x : Int32} (hw : kW0 W Z N) (h : kJ W N a p) : kJ W N a (qexp W Z x p) := by
  unfold qexp
  split
  · exact h.step hw
  · exact (h.fail hw).step hw
theorem kJ.some {W Z : Nat → Int32} {N : Nat} {a : Int} {p : kQt} (hw : kW0 W Z N) {P : Prop} [Decidable P] (hP : P → W p.1 ≠ 19) (h : kJ W N a p) : kJ W N (a + 1) (qstep W (if P then p else qfail Z p)) := by
  split
  · rename_i q
    exact h.step1 hw (hP q)
  · exact (h.fail hw).step hw
theorem kJ.sgn {W Z : Nat → Int32} {N : Nat} {a : Int} {p : kQt} (hw : kW0 W Z N) (h : kJ W N a p) : kJ W N (a + 1) (qsgn W Z p) := h.some hw (fun q e => by rw [e] at q; revert q; decide)
theorem kJ.val {W Z : Nat → Int32} {N : Nat} {a : Int} {p : kQt} (hw : kW0 W Z N) (h : kJ W N a p) : kJ W N (a + 1) (qval W Z p) := h.some hw (fun q e => by rw [e] at q; revert q; decide)
theorem kJ.mono {W : Nat → Int32} {N : Nat} {a b : Int} {p : kQt} (hab : b ≤ a) (h : kJ W N a p) : kJ W N b p := ⟨h.1, h.2.1, fun e => by have := h.2.2 e; omega⟩
theorem kJ.emitm {W : Nat → Int32} {N : Nat} {a : Int} {p : kQt} {x : Int32} (h : kJ W N a p) : kJ W N (a - 1) (qemit x p) := (h.mono (b := a - 1 + 1) (by omega)).emit
theorem kJ.cq {W Z : Nat → Int32} {N : Nat} {a : Int} {p : kQt} (hw : kW0 W Z N) (h : kJ W N a p) : kJ W N a (qcq W Z p) := ((((h.val hw).sgn hw).val hw).mono (b := a + 1) (by omega)).emit
theorem kJ.nots {W Z : Nat → Int32} {N : Nat} (hw : kW0 W Z N) : ∀ (k : Nat) {a : Int} {p : kQt} {b : Bool}, kJ W N (if b then a + 1 else a) p → kJ W N (if (qnots W k p b).2 then a + 1 else a) (qnots W k p b).1
  | 0, a, p, b, h => h
  | k + 1, a, p, b, h => by
    simp only [qnots]
    split
    · rename_i q
      refine kJ.nots hw k ?_
      have h1 := h.step1 hw (by rw [q]; decide)
      cases b
      · exact h1
      · exact h1.mono (by simp; omega)
    · exact h
theorem kGd.one {W Z : Nat → Int32} {N : Nat} (hw : kW0 W Z N) {C : kQt → kQt} (hC : kGd W N C) (op : Bool) : kGd W N (qone W Z C op) := by
  intro a p h
  have h1 := kJ.nots hw 200 (a := a) (b := false) h
  have h2 : ∀ (a1 : Int) (p : kQt), kJ W N a1 p → kJ W N a1 (qmid W Z C op p) := by
    intro a1 p h
    unfold qmid
    split
    · split
      · exact (hC _ _ (h.step hw)).exp hw
      · exact h.fail hw
    · exact h.cq hw
  unfold qone
  split
  · rename_i q
    rw [if_pos q] at h1
    exact (h2 _ _ h1).emit
  · rename_i q
    rw [if_neg q] at h1
    exact h2 _ _ h1
theorem kGd.js {W Z : Nat → Int32} {N : Nat} (hw : kW0 W Z N) {O : kQt → kQt} (hO : kGd W N O) {t x : Int32} (ht : t ≠ 19) : ∀ k : Nat, kGd W N (qjs W t x O k)
  | 0, _, _, h => h
  | k + 1, a, p, h => by
    simp only [qjs]
    split
    · rename_i q
      exact kGd.js hw hO ht k _ _ (hO _ _ (h.step1 hw (by rw [q.1]; exact ht))).emit
    · exact h
theorem kGd.cond {W Z : Nat → Int32} {N : Nat} (hw : kW0 W Z N) : ∀ k : Nat, kGd W N (qcond W Z k)
  | 0, a, p, h => by
    have g1 := kGd.one hw (C := id) (fun _ _ h => h) false
    have g2 : kGd W N (fun p => qjs W 11 (-2) (qone W Z id false) 200 (qone W Z id false p)) := fun a p h => kGd.js hw g1 (by decide) 200 _ _ (g1 _ _ h)
    exact kGd.js hw g2 (by decide) 200 _ _ (g2 _ _ h)
  | k + 1, a, p, h => by
    have g1 := kGd.one hw (kGd.cond hw k) true
    have g2 : kGd W N (fun p => qjs W 11 (-2) (qone W Z (qcond W Z k) true) 200 (qone W Z (qcond W Z k) true p)) := fun a p h => kGd.js hw g1 (by decide) 200 _ _ (g1 _ _ h)
    exact kGd.js hw g2 (by decide) 200 _ _ (g2 _ _ h)
theorem s_X8_expect {X : kX} {d : Nat} {c w m v : kZ} {E : kH} {W Z : Nat → Int32} {N : Nat} (hw : kW0 W Z N) {p : kQt} {u : kZ} (hx : kTx w W Z p u) {a : Int} (hj : kJ W N a p) (x : Int32) : WP X (d + 1) 0 0 Y_X8_expect 0 [(0, .ref (37)), (1, .int (x))] [] (HP c u m v E) (fun r1 h1 => r1 = none ∧ ∃ u1 : kZ, h1 = HP c u1 m v E ∧ kTx w W Z (qexp W Z x p) u1) := by
  refine wp_aload_n 0 d_X8_expect_0 rfl rfl ?_
  refine wp_getfield (v := .int (W (p).1)) d_X8_expect_1 gf_X8_36 (hp_37 _ _ _ _ _) (congrArg (fun z => some (Value.int z)) hx.1.2.1) ?_
  refine wp_iload_n 1 d_X8_expect_4 rfl rfl ?_
  refine wp_icmp_eq 12 d_X8_expect_5 rfl (fun zc5 => ?_) (fun zc5 => ?_)
  · refine wp_aload_n 0 d_X8_expect_12 rfl rfl ?_
    refine wp_virtual0 (As := []) d_X8_expect_13 lk_X8_98 mv_X8_step in_X8_step se_X8_step (Nat.le_of_ble_eq_true rfl) (Nat.le_of_ble_eq_true rfl) (hp_37 _ _ _ _ _) rfl (s_X8_step hw hx hj.1) (fun v13 h13 q13 => ?_)
    obtain ⟨rfl, u13, rfl, hx13⟩ := q13
    have hj13 := hj.step hw
    show WP _ _ _ _ _ 16 _ [] (HP c u13 m v E) _
    refine wp_vret d_X8_expect_16 rfl ?_
    refine ⟨rfl, _, rfl, ?_⟩
    rw [show qexp W Z x p = _ from congrArg (qstep W) (if_pos zc5)]
    exact hx13
  · refine wp_aload_n 0 d_X8_expect_8 rfl rfl ?_
    refine wp_virtual0 (As := []) d_X8_expect_9 lk_X8_48 mv_X8_fail in_X8_fail se_X8_fail (Nat.le_of_ble_eq_true rfl) (Nat.le_of_ble_eq_true rfl) (hp_37 _ _ _ _ _) rfl (s_X8_fail hw hx hj.1) (fun v9 h9 q9 => ?_)
    obtain ⟨rfl, u9, rfl, hx9⟩ := q9
    have hj9 := hj.fail (a1 := a) hw
    show WP _ _ _ _ _ 12 _ [] (HP c u9 m v E) _
    refine wp_aload_n 0 d_X8_expect_12 rfl rfl ?_
    refine wp_virtual0 (As := []) d_X8_expect_13 lk_X8_98 mv_X8_step in_X8_step se_X8_step (Nat.le_of_ble_eq_true rfl) (Nat.le_of_ble_eq_true rfl) (hp_37 _ _ _ _ _) rfl (s_X8_step hw hx9 hj9.1) (fun v13 h13 q13 => ?_)
    obtain ⟨rfl, u13, rfl, hx13⟩ := q13
    have hj13 := hj9.step hw
    show WP _ _ _ _ _ 16 _ [] (HP c u13 m v E) _
    refine wp_vret d_X8_expect_16 rfl ?_
    refine ⟨rfl, _, rfl, ?_⟩
    rw [show qexp W Z x p = _ from congrArg (qstep W) (if_neg zc5)]
    exact hx13
theorem s_X8_readSign {X : kX} {d : Nat} {c w m v : kZ} {E : kH} {W Z : Nat → Int32} {N : Nat} (hw : kW0 W Z N) {p : kQt} {u : kZ} (hx : kTx w W Z p u) {a : Int} (hj : kJ W N a p) : WP X (d + 1) 0 0 Y_X8_readSign 0 [(0, .ref (37))] [] (HP c u m v E) (fun r1 h1 => r1 = some (.int (qsgv (W p.1))) ∧ ∃ u1 : kZ, h1 = HP c u1 m v E ∧ kTx w W Z (qsgn W Z p) u1) := by
  refine wp_iconst (v0 := 0) d_X8_readSign_0 rfl ?_
  refine wp_istore_n [(1, .int (0)), (0, .ref (37))] d_X8_readSign_1 rfl (Nat.le_of_ble_eq_true rfl) rfl ?_
  refine wp_aload_n 1 d_X8_readSign_2 rfl rfl ?_
  refine wp_getfield (v := .int (W (p).1)) d_X8_readSign_3 gf_X8_36 (hp_37 _ _ _ _ _) (congrArg (fun z => some (Value.int z)) hx.1.2.1) ?_
  refine wp_bipush (v0 := 61) d_X8_readSign_6 (by decide) ?_
  refine wp_icmp_ne 16 d_X8_readSign_8 rfl (fun zc8 => ?_) (fun zc8 => ?_)
  · refine wp_aload_n 1 d_X8_readSign_16 rfl rfl ?_
    refine wp_getfield (v := .int (W (p).1)) d_X8_readSign_17 gf_X8_36 (hp_37 _ _ _ _ _) (congrArg (fun z => some (Value.int z)) hx.1.2.1) ?_
    refine wp_bipush (v0 := 62) d_X8_readSign_20 (by decide) ?_
    refine wp_icmp_ne 30 d_X8_readSign_22 rfl (fun zc22 => ?_) (fun zc22 => ?_)
    · refine wp_aload_n 1 d_X8_readSign_30 rfl rfl ?_
      refine wp_getfield (v := .int (W (p).1)) d_X8_readSign_31 gf_X8_36 (hp_37 _ _ _ _ _) (congrArg (fun z => some (Value.int z)) hx.1.2.1) ?_
      refine wp_bipush (v0 := 60) d_X8_readSign_34 (by decide) ?_
      refine wp_icmp_eq 43 d_X8_readSign_36 rfl (fun zc36 => ?_) (fun zc36 => ?_)
      · refine wp_aload_n 1 d_X8_readSign_43 rfl rfl ?_
        refine wp_virtual0 (As := []) d_X8_readSign_44 lk_X8_98 mv_X8_step in_X8_step se_X8_step (Nat.le_of_ble_eq_true rfl) (Nat.le_of_ble_eq_true rfl) (hp_37 _ _ _ _ _) rfl (s_X8_step hw hx hj.1) (fun v44 h44 q44 => ?_)
        obtain ⟨rfl, u44, rfl, hx44⟩ := q44
        have hj44 := hj.step hw
        show WP _ _ _ _ _ 47 _ [] (HP c u44 m v E) _
        refine wp_iload_n 0 d_X8_readSign_47 rfl rfl ?_
        refine wp_reti d_X8_readSign_48 rfl ?_
        refine ⟨congrArg (fun z => some (Value.int z)) ?_, _, rfl, ?_⟩
        · unfold qsgv; rw [if_neg zc8, if_neg zc22]
        · rw [show qsgn W Z p = _ from congrArg (qstep W) (if_pos (Or.inr (Or.inr zc36)))]; exact hx44
      · refine wp_aload_n 1 d_X8_readSign_39 rfl rfl ?_
        refine wp_virtual0 (As := []) d_X8_readSign_40 lk_X8_48 mv_X8_fail in_X8_fail se_X8_fail (Nat.le_of_ble_eq_true rfl) (Nat.le_of_ble_eq_true rfl) (hp_37 _ _ _ _ _) rfl (s_X8_fail hw hx hj.1) (fun v40 h40 q40 => ?_)
        obtain ⟨rfl, u40, rfl, hx40⟩ := q40
        have hj40 := hj.fail (a1 := a) hw
        show WP _ _ _ _ _ 43 _ [] (HP c u40 m v E) _
        refine wp_aload_n 1 d_X8_readSign_43 rfl rfl ?_
        refine wp_virtual0 (As := []) d_X8_readSign_44 lk_X8_98 mv_X8_step in_X8_step se_X8_step (Nat.le_of_ble_eq_true rfl) (Nat.le_of_ble_eq_true rfl) (hp_37 _ _ _ _ _) rfl (s_X8_step hw hx40 hj40.1) (fun v44 h44 q44 => ?_)
        obtain ⟨rfl, u44, rfl, hx44⟩ := q44
        have hj44 := hj40.step hw
        show WP _ _ _ _ _ 47 _ [] (HP c u44 m v E) _
        refine wp_iload_n 0 d_X8_readSign_47 rfl rfl ?_
        refine wp_reti d_X8_readSign_48 rfl ?_
        refine ⟨congrArg (fun z => some (Value.int z)) ?_, _, rfl, ?_⟩
        · unfold qsgv; rw [if_neg zc8, if_neg zc22]
        · rw [show qsgn W Z p = _ from congrArg (qstep W) (if_neg (fun z => z.elim (fun z => zc8 z) (fun z => z.elim (fun z => zc22 z) (fun z => zc36 z))))]; exact hx44
    · refine wp_iconst (v0 := 2) d_X8_readSign_25 rfl ?_
      refine wp_istore_n [(1, .int (2)), (0, .ref (37))] d_X8_readSign_26 rfl (Nat.le_of_ble_eq_true rfl) rfl ?_
      refine wp_goto 43 d_X8_readSign_27 rfl ?_
      refine wp_aload_n 1 d_X8_readSign_43 rfl rfl ?_
      refine wp_virtual0 (As := []) d_X8_readSign_44 lk_X8_98 mv_X8_step in_X8_step se_X8_step (Nat.le_of_ble_eq_true rfl) (Nat.le_of_ble_eq_true rfl) (hp_37 _ _ _ _ _) rfl (s_X8_step hw hx hj.1) (fun v44 h44 q44 => ?_)
      obtain ⟨rfl, u44, rfl, hx44⟩ := q44
      have hj44 := hj.step hw
      show WP _ _ _ _ _ 47 _ [] (HP c u44 m v E) _
      refine wp_iload_n 0 d_X8_readSign_47 rfl rfl ?_
      refine wp_reti d_X8_readSign_48 rfl ?_
      refine ⟨congrArg (fun z => some (Value.int z)) ?_, _, rfl, ?_⟩
      · unfold qsgv; rw [if_neg zc8, if_pos zc22]
      · rw [show qsgn W Z p = _ from congrArg (qstep W) (if_pos (Or.inr (Or.inl zc22)))]; exact hx44
  · refine wp_iconst (v0 := 1) d_X8_readSign_11 rfl ?_
    refine wp_istore_n [(1, .int (1)), (0, .ref (37))] d_X8_readSign_12 rfl (Nat.le_of_ble_eq_true rfl) rfl ?_
    refine wp_goto 43 d_X8_readSign_13 rfl ?_
    refine wp_aload_n 1 d_X8_readSign_43 rfl rfl ?_
    refine wp_virtual0 (As := []) d_X8_readSign_44 lk_X8_98 mv_X8_step in_X8_step se_X8_step (Nat.le_of_ble_eq_true rfl) (Nat.le_of_ble_eq_true rfl) (hp_37 _ _ _ _ _) rfl (s_X8_step hw hx hj.1) (fun v44 h44 q44 => ?_)
    obtain ⟨rfl, u44, rfl, hx44⟩ := q44
    have hj44 := hj.step hw
    show WP _ _ _ _ _ 47 _ [] (HP c u44 m v E) _
    refine wp_iload_n 0 d_X8_readSign_47 rfl rfl ?_
    refine wp_reti d_X8_readSign_48 rfl ?_
    refine ⟨congrArg (fun z => some (Value.int z)) ?_, _, rfl, ?_⟩
    · unfold qsgv; rw [if_pos zc8]
    · rw [show qsgn W Z p = _ from congrArg (qstep W) (if_pos (Or.inl zc8))]; exact hx44
theorem s_X8_readValue {X : kX} {d : Nat} {c w m v : kZ} {E : kH} {W Z : Nat → Int32} {N : Nat} (hw : kW0 W Z N) {p : kQt} {u : kZ} (hx : kTx w W Z p u) {a : Int} (hj : kJ W N a p) : WP X (d + 1) 0 0 Y_X8_readValue 0 [(0, .ref (37))] [] (HP c u m v E) (fun r1 h1 => r1 = some (.int (qvl (W p.1))) ∧ ∃ u1 : kZ, h1 = HP c u1 m v E ∧ kTx w W Z (qval W Z p) u1) := by
  refine wp_iconst (v0 := 0) d_X8_readValue_0 rfl ?_
  refine wp_istore_n [(1, .int (0)), (0, .ref (37))] d_X8_readValue_1 rfl (Nat.le_of_ble_eq_true rfl) rfl ?_
  refine wp_aload_n 1 d_X8_readValue_2 rfl rfl ?_
  refine wp_getfield (v := .int (W (p).1)) d_X8_readValue_3 gf_X8_36 (hp_37 _ _ _ _ _) (congrArg (fun z => some (Value.int z)) hx.1.2.1) ?_
  refine wp_sipush (v0 := 1000) d_X8_readValue_6 (by decide) ?_
  refine wp_sipush (v0 := 10999) d_X8_readValue_9 (by decide) ?_
  refine wp_stc_i (As := [.int (W (p).1), .int (1000), .int (10999)]) (x0 := kb (1000 ≤ (W (p).1 : Int32).toInt ∧ (W (p).1 : Int32).toInt ≤ 10999)) (h1 := HP c u m v E) d_X8_readValue_12 lk_X8_105 mv_X9_isWithin st_X9_isWithin (Nat.le_of_ble_eq_true rfl) (Nat.le_of_ble_eq_true rfl) (s_X9_isWithin _ (W (p).1 : Int32) (1000 : Int32) (10999 : Int32)) ?_
  refine wp_ifb_eq 30 d_X8_readValue_15 rfl (fun zc15 => ?_) (fun zc15 => ?_)
  · refine wp_aload_n 1 d_X8_readValue_30 rfl rfl ?_
    refine wp_getfield (v := .int (W (p).1)) d_X8_readValue_31 gf_X8_36 (hp_37 _ _ _ _ _) (congrArg (fun z => some (Value.int z)) hx.1.2.1) ?_
    refine wp_bipush (v0 := 13) d_X8_readValue_34 (by decide) ?_
    refine wp_bipush (v0 := 17) d_X8_readValue_36 (by decide) ?_
    refine wp_stc_i (As := [.int (W (p).1), .int (13), .int (17)]) (x0 := kb (13 ≤ (W (p).1 : Int32).toInt ∧ (W (p).1 : Int32).toInt ≤ 17)) (h1 := HP c u m v E) d_X8_readValue_38 lk_X8_105 mv_X9_isWithin st_X9_isWithin (Nat.le_of_ble_eq_true rfl) (Nat.le_of_ble_eq_true rfl) (s_X9_isWithin _ (W (p).1 : Int32) (13 : Int32) (17 : Int32)) ?_
    refine wp_ifb_eq 59 d_X8_readValue_41 rfl (fun zc41 => ?_) (fun zc41 => ?_)
    · refine wp_aload_n 1 d_X8_readValue_59 rfl rfl ?_
      refine wp_virtual0 (As := []) d_X8_readValue_60 lk_X8_48 mv_X8_fail in_X8_fail se_X8_fail (Nat.le_of_ble_eq_true rfl) (Nat.le_of_ble_eq_true rfl) (hp_37 _ _ _ _ _) rfl (s_X8_fail hw hx hj.1) (fun v60 h60 q60 => ?_)
      obtain ⟨rfl, u60, rfl, hx60⟩ := q60
      have hj60 := hj.fail (a1 := a) hw
      show WP _ _ _ _ _ 63 _ [] (HP c u60 m v E) _
      refine wp_aload_n 1 d_X8_readValue_63 rfl rfl ?_
      refine wp_virtual0 (As := []) d_X8_readValue_64 lk_X8_98 mv_X8_step in_X8_step se_X8_step (Nat.le_of_ble_eq_true rfl) (Nat.le_of_ble_eq_true rfl) (hp_37 _ _ _ _ _) rfl (s_X8_step hw hx60 hj60.1) (fun v64 h64 q64 => ?_)
      obtain ⟨rfl, u64, rfl, hx64⟩ := q64
      have hj64 := hj60.step hw
      show WP _ _ _ _ _ 67 _ [] (HP c u64 m v E) _
      refine wp_iload_n 0 d_X8_readValue_67 rfl rfl ?_
      refine wp_reti d_X8_readValue_68 rfl ?_
      refine ⟨congrArg (fun z => some (Value.int z)) ?_, _, rfl, ?_⟩
      · unfold qvl; rw [if_neg zc15, if_neg zc41]
      · rw [show qval W Z p = _ from congrArg (qstep W) (if_neg (fun z => z.elim zc15 zc41))]; exact hx64
    · refine wp_sipush (v0 := 10000) d_X8_readValue_44 (by decide) ?_
      refine wp_aload_n 1 d_X8_readValue_47 rfl rfl ?_
      refine wp_getfield (v := .int (W (p).1)) d_X8_readValue_48 gf_X8_36 (hp_37 _ _ _ _ _) (congrArg (fun z => some (Value.int z)) hx.1.2.1) ?_
      refine wp_iadd d_X8_readValue_51 ?_
      refine wp_bipush (v0 := 13) d_X8_readValue_52 (by decide) ?_
      refine wp_isub d_X8_readValue_54 ?_
      refine wp_istore_n [(1, .int (((10000) + (W (p).1)) - (13))), (0, .ref (37))] d_X8_readValue_55 rfl (Nat.le_of_ble_eq_true rfl) rfl ?_
      refine wp_goto 63 d_X8_readValue_56 rfl ?_
      refine wp_aload_n 1 d_X8_readValue_63 rfl rfl ?_
      refine wp_virtual0 (As := []) d_X8_readValue_64 lk_X8_98 mv_X8_step in_X8_step se_X8_step (Nat.le_of_ble_eq_true rfl) (Nat.le_of_ble_eq_true rfl) (hp_37 _ _ _ _ _) rfl (s_X8_step hw hx hj.1) (fun v64 h64 q64 => ?_)
      obtain ⟨rfl, u64, rfl, hx64⟩ := q64
      have hj64 := hj.step hw
      show WP _ _ _ _ _ 67 _ [] (HP c u64 m v E) _
      refine wp_iload_n 0 d_X8_readValue_67 rfl rfl ?_
      refine wp_reti d_X8_readValue_68 rfl ?_
      refine ⟨congrArg (fun z => some (Value.int z)) ?_, _, rfl, ?_⟩
      · unfold qvl; rw [if_neg zc15, if_pos zc41]
      · rw [show qval W Z p = _ from congrArg (qstep W) (if_pos (Or.inr zc41))]; exact hx64
  · refine wp_aload_n 1 d_X8_readValue_18 rfl rfl ?_
    refine wp_getfield (v := .int (W (p).1)) d_X8_readValue_19 gf_X8_36 (hp_37 _ _ _ _ _) (congrArg (fun z => some (Value.int z)) hx.1.2.1) ?_
    refine wp_sipush (v0 := 1000) d_X8_readValue_22 (by decide) ?_
    refine wp_isub d_X8_readValue_25 ?_
    refine wp_istore_n [(1, .int ((W (p).1) - (1000))), (0, .ref (37))] d_X8_readValue_26 rfl (Nat.le_of_ble_eq_true rfl) rfl ?_
    refine wp_goto 63 d_X8_readValue_27 rfl ?_
    refine wp_aload_n 1 d_X8_readValue_63 rfl rfl ?_
    refine wp_virtual0 (As := []) d_X8_readValue_64 lk_X8_98 mv_X8_step in_X8_step se_X8_step (Nat.le_of_ble_eq_true rfl) (Nat.le_of_ble_eq_true rfl) (hp_37 _ _ _ _ _) rfl (s_X8_step hw hx hj.1) (fun v64 h64 q64 => ?_)
    obtain ⟨rfl, u64, rfl, hx64⟩ := q64
    have hj64 := hj.step hw
    show WP _ _ _ _ _ 67 _ [] (HP c u64 m v E) _
    refine wp_iload_n 0 d_X8_readValue_67 rfl rfl ?_
    refine wp_reti d_X8_readValue_68 rfl ?_
    refine ⟨congrArg (fun z => some (Value.int z)) ?_, _, rfl, ?_⟩
    · unfold qvl; rw [if_pos zc15]
    · rw [show qval W Z p = _ from congrArg (qstep W) (if_pos (Or.inl zc15))]; exact hx64
theorem s_X6_comparison {X : kX} {d : Nat} {c w m v : kZ} {E : kH} (x g9 y : Int32) : WP X d 0 0 Y_X6_comparison 0 [(0, .int (x)), (1, .int (g9)), (2, .int (y))] [] (HP c w m v E) (kR (some (.int (qcmp x g9 y))) (HP c w m v E)) := by
  refine wp_iload_n 0 d_X6_comparison_0 rfl rfl ?_
  refine wp_bipush (v0 := 16) d_X6_comparison_1 (by decide) ?_
  refine wp_ishl d_X6_comparison_3 ?_
  refine wp_iload_n 2 d_X6_comparison_4 rfl rfl ?_
  refine wp_iconst (v0 := 2) d_X6_comparison_5 rfl ?_
  refine wp_ishl d_X6_comparison_6 ?_
  refine wp_ior d_X6_comparison_7 ?_
  refine wp_iload_n 1 d_X6_comparison_8 rfl rfl ?_
  refine wp_ior d_X6_comparison_9 ?_
  refine wp_reti d_X6_comparison_10 rfl ?_
  exact kR_i rfl rfl
theorem s_X8_readOne_n {X : kX} {d : Nat} {c w m v : kZ} {E : kH} {W Z : Nat → Int32} {N e : Nat} (hw : kW0 W Z N) {o : Nat} (ho : o ≤ 3) {a : Int} {p9 : kQt} {b9 : Bool} {Q9 : Option Value → kH → Prop} (K : ∀ u2 : kZ, kTx w W Z p9 u2 → kJ W N a p9 → WP X (d + e + 2) 0 0 Y_X8_readOne 40 [(2, .int (kb (b9 = true))), (0, .ref 37), (1, .int (nI o))] [] (HP c u2 m v E) Q9) : ∀ (k : Nat) (i : Nat) (p : kQt) (u : kZ) (b : Bool), (i + k = 200) → (kTx w W Z p u) → (kJ W N a p) → (qnots W k p b = (p9, b9)) → WP X (d + e + 2) 0 0 Y_X8_readOne 4 [(3, .int (nI (i))), (2, .int (kb (b = true))), (0, .ref (37)), (1, .int (nI (o)))] [] (HP c u m v E) Q9 := by
  intro k
  induction k using Nat.strongRecOn with
  | ind k ih =>
    intro i p u b hi hx hj hr
    refine wp_iload_n 0 d_X8_readOne_4 rfl rfl ?_
    refine wp_sipush (v0 := 200) d_X8_readOne_5 (by decide) ?_
    refine wp_ncmp_ge (a := i) (b := 200) 40 d_X8_readOne_8 rfl (by omega) (by omega) (fun zc8 => ?_) (fun zc8 => ?_)
    · obtain rfl : k = 0 := by omega
      simp only [qnots] at hr
      injection hr with e1 e2
      subst e1 e2
      refine wp_sub [(2, .int (kb (b = true))), (0, .ref (37)), (1, .int (nI (o)))] [1, 2, 3] rfl ?_
      exact K u hx hj
    · refine wp_aload_n 2 d_X8_readOne_11 rfl rfl ?_
      refine wp_getfield (v := .int (W (p).1)) d_X8_readOne_12 gf_X8_36 (hp_37 _ _ _ _ _) (congrArg (fun z => some (Value.int z)) hx.1.2.1) ?_
      refine wp_bipush (v0 := 12) d_X8_readOne_15 (by decide) ?_
      refine wp_icmp_ne 40 d_X8_readOne_17 rfl (fun zc17 => ?_) (fun zc17 => ?_)
      · obtain ⟨k1, rfl⟩ : ∃ k1, k = k1 + 1 := ⟨k - 1, by omega⟩
        simp only [qnots] at hr
        rw [if_neg zc17] at hr
        injection hr with e1 e2
        subst e1 e2
        refine wp_sub [(2, .int (kb (b = true))), (0, .ref (37)), (1, .int (nI (o)))] [1, 2, 3] rfl ?_
        exact K u hx hj
      · refine wp_iload_n 1 d_X8_readOne_20 rfl rfl ?_
        refine wp_ifb_ne 28 d_X8_readOne_21 rfl (fun zc21 => ?_) (fun zc21 => ?_)
        · refine wp_iconst (v0 := 0) d_X8_readOne_28 rfl ?_
          refine wp_istore_n [(2, .int (0)), (3, .int (nI (i))), (0, .ref (37)), (1, .int (nI (o)))] d_X8_readOne_29 rfl (Nat.le_of_ble_eq_true rfl) rfl ?_
          refine wp_aload_n 2 d_X8_readOne_30 rfl rfl ?_
          refine wp_virtual0 (As := []) d_X8_readOne_31 lk_X8_98 mv_X8_step in_X8_step se_X8_step (Nat.le_of_ble_eq_true rfl) (Nat.le_of_ble_eq_true rfl) (hp_37 _ _ _ _ _) rfl (s_X8_step hw hx hj.1) (fun v31 h31 q31 => ?_)
          obtain ⟨rfl, u31, rfl, hx31⟩ := q31
          have hj31 := hj.step hw
          show WP _ _ _ _ _ 34 _ [] (HP c u31 m v E) _
          refine wp_iinc (v0 := nI ((i) + 1)) [(3, .int (nI ((i) + 1))), (2, .int (0)), (0, .ref (37)), (1, .int (nI (o)))] 1 d_X8_readOne_34 rfl (nI_add (i) 1) (Nat.le_of_ble_eq_true rfl) rfl ?_
          refine wp_goto 4 d_X8_readOne_37 rfl ?_
          obtain ⟨k1, rfl⟩ : ∃ k1, k = k1 + 1 := ⟨k - 1, by omega⟩
          simp only [qnots] at hr
          rw [if_pos zc17] at hr
          have hv5 : kb ((!b) = true) = 0 := by rw [show b = true from zc21]; rfl
          refine wp_sub [(3, .int (nI (i + 1))), (2, .int (kb ((!b) = true))), (0, .ref 37), (1, .int (nI o))] [0, 1, 2, 3] (by rw [hv5]; rfl) ?_
          exact ih k1 (by omega) (i + 1) _ u31 _ (by omega) hx31 hj31 hr
        · refine wp_iconst (v0 := 1) d_X8_readOne_24 rfl ?_
          refine wp_goto 29 d_X8_readOne_25 rfl ?_
          refine wp_istore_n [(2, .int (1)), (3, .int (nI (i))), (0, .ref (37)), (1, .int (nI (o)))] d_X8_readOne_29 rfl (Nat.le_of_ble_eq_true rfl) rfl ?_
          refine wp_aload_n 2 d_X8_readOne_30 rfl rfl ?_
          refine wp_virtual0 (As := []) d_X8_readOne_31 lk_X8_98 mv_X8_step in_X8_step se_X8_step (Nat.le_of_ble_eq_true rfl) (Nat.le_of_ble_eq_true rfl) (hp_37 _ _ _ _ _) rfl (s_X8_step hw hx hj.1) (fun v31 h31 q31 => ?_)
          obtain ⟨rfl, u31, rfl, hx31⟩ := q31
          have hj31 := hj.step hw
          show WP _ _ _ _ _ 34 _ [] (HP c u31 m v E) _
          refine wp_iinc (v0 := nI ((i) + 1)) [(3, .int (nI ((i) + 1))), (2, .int (1)), (0, .ref (37)), (1, .int (nI (o)))] 1 d_X8_readOne_34 rfl (nI_add (i) 1) (Nat.le_of_ble_eq_true rfl) rfl ?_
          refine wp_goto 4 d_X8_readOne_37 rfl ?_
          obtain ⟨k1, rfl⟩ : ∃ k1, k = k1 + 1 := ⟨k - 1, by omega⟩
          simp only [qnots] at hr
          rw [if_pos zc17] at hr
          have hv5 : kb ((!b) = true) = 1 := by rw [show b = false from Bool.not_eq_true _ |>.mp zc21]; rfl
          refine wp_sub [(3, .int (nI (i + 1))), (2, .int (kb ((!b) = true))), (0, .ref 37), (1, .int (nI o))] [0, 1, 2, 3] (by rw [hv5]; rfl) ?_
          exact ih k1 (by omega) (i + 1) _ u31 _ (by omega) hx31 hj31 hr
theorem s_X8_readOne {X : kX} {d : Nat} {c w m v : kZ} {E : kH} {W Z : Nat → Int32} {N e : Nat} (hw : kW0 W Z N) {o : Nat} (ho : o ≤ 3) {C : kQt → kQt} (gC : kGd W N C) (HC : o < 3 → ∀ (a : Int) (p : kQt) (u : kZ), kTx w W Z p u → kJ W N a p → WP X (d + e + 1) 0 0 Y_X8_readCondition 0 [(0, .ref 37), (1, .int (nI (o + 1)))] [] (HP c u m v E) (fun r1 h1 => r1 = none ∧ ∃ u1 : kZ, h1 = HP c u1 m v E ∧ kTx w W Z (C p) u1)) {p : kQt} {u : kZ} (hx : kTx w W Z p u) {a : Int} (hj : kJ W N a p) : WP X (d + e + 2) 0 0 Y_X8_readOne 0 [(0, .ref (37)), (1, .int (nI (o)))] [] (HP c u m v E) (fun r1 h1 => r1 = none ∧ ∃ u1 : kZ, h1 = HP c u1 m v E ∧ kTx w W Z (qone W Z C (decide (o < 3)) p) u1) := by
  refine wp_iconst (v0 := 0) d_X8_readOne_0 rfl ?_
  refine wp_istore_n [(2, .int (0)), (0, .ref (37)), (1, .int (nI (o)))] d_X8_readOne_1 rfl (Nat.le_of_ble_eq_true rfl) rfl ?_
  refine wp_iconst (v0 := 0) d_X8_readOne_2 rfl ?_
  refine wp_istore_n [(3, .int (0)), (2, .int (0)), (0, .ref (37)), (1, .int (nI (o)))] d_X8_readOne_3 rfl (Nat.le_of_ble_eq_true rfl) rfl ?_
  cases h9 : qnots W 200 p false with
  | mk p9 b9 =>
    refine wp_sub [(3, .int (nI 0)), (2, .int (kb (false = true))), (0, .ref 37), (1, .int (nI o))] [0, 1, 2, 3] rfl ?_
    refine s_X8_readOne_n hw ho (fun u2 hx2 hj2 => ?_) 200 0 p u false (by omega) hx hj h9
    refine wp_aload_n 1 d_X8_readOne_40 rfl rfl ?_
    refine wp_getfield (v := .int (W (p9).1)) d_X8_readOne_41 gf_X8_36 (hp_37 _ _ _ _ _) (congrArg (fun z => some (Value.int z)) hx2.1.2.1) ?_
    refine wp_bipush (v0 := 40) d_X8_readOne_44 (by decide) ?_
    refine wp_icmp_eq 77 d_X8_readOne_46 rfl (fun zc46 => ?_) (fun zc46 => ?_)
    · refine wp_iload_n 2 d_X8_readOne_77 rfl rfl ?_
      refine wp_iconst (v0 := 3) d_X8_readOne_78 rfl ?_
      refine wp_ncmp_ge (a := o) (b := 3) 102 d_X8_readOne_79 rfl (by omega) (by omega) (fun zc79 => ?_) (fun zc79 => ?_)
      · refine wp_aload_n 1 d_X8_readOne_102 rfl rfl ?_
        refine wp_virtual0 (As := []) d_X8_readOne_103 lk_X8_48 mv_X8_fail in_X8_fail se_X8_fail (Nat.le_of_ble_eq_true rfl) (Nat.le_of_ble_eq_true rfl) (hp_37 _ _ _ _ _) rfl (s_X8_fail hw hx2 hj2.1) (fun v103 h103 q103 => ?_)
        obtain ⟨rfl, u103, rfl, hx103⟩ := q103
        have hj103 := hj2.fail (a1 := a) hw
        show WP _ _ _ _ _ 106 _ [] (HP c u103 m v E) _
        refine wp_iload_n 0 d_X8_readOne_106 rfl rfl ?_
        refine wp_ifb_eq 115 d_X8_readOne_107 rfl (fun zc107 => ?_) (fun zc107 => ?_)
        · refine wp_vret d_X8_readOne_115 rfl ?_
          refine ⟨rfl, u103, rfl, ?_⟩
          rw [show qone W Z C (decide (o < 3)) p = qfail Z (p9) from ?_]
          · exact hx103
          unfold qone
          rw [h9]
          show (if b9 = true then qemit (-1) (qmid W Z C (decide (o < 3)) p9) else qmid W Z C (decide (o < 3)) p9) = _
          rw [if_neg zc107]
          unfold qmid
          rw [if_pos zc46, if_neg (by rw [decide_eq_true_eq]; omega)]
        · refine wp_aload_n 1 d_X8_readOne_110 rfl rfl ?_
          refine wp_iconst (v0 := -1) d_X8_readOne_111 rfl ?_
          refine wp_virtual0 (As := [.int ((-1))]) d_X8_readOne_112 lk_X8_101 mv_X8_emit in_X8_emit se_X8_emit (Nat.le_of_ble_eq_true rfl) (Nat.le_of_ble_eq_true rfl) (hp_37 _ _ _ _ _) rfl (s_X8_emit hx103 hj103.2.1 ((-1))) (fun v112 h112 q112 => ?_)
          obtain ⟨rfl, u112, rfl, hx112⟩ := q112
          have hj112 := hj103.emitm (x := (-1))
          show WP _ _ _ _ _ 115 _ [] (HP c u112 m v E) _
          refine wp_vret d_X8_readOne_115 rfl ?_
          refine ⟨rfl, u112, rfl, ?_⟩
          rw [show qone W Z C (decide (o < 3)) p = qemit ((-1)) (qfail Z (p9)) from ?_]
          · exact hx112
          unfold qone
          rw [h9]
          show (if b9 = true then qemit (-1) (qmid W Z C (decide (o < 3)) p9) else qmid W Z C (decide (o < 3)) p9) = _
          rw [if_pos zc107]
          unfold qmid
          rw [if_pos zc46, if_neg (by rw [decide_eq_true_eq]; omega)]
      · refine wp_aload_n 1 d_X8_readOne_82 rfl rfl ?_
        refine wp_virtual0 (As := []) d_X8_readOne_83 lk_X8_98 mv_X8_step in_X8_step se_X8_step (Nat.le_of_ble_eq_true rfl) (Nat.le_of_ble_eq_true rfl) (hp_37 _ _ _ _ _) rfl (s_X8_step hw hx2 hj2.1) (fun v83 h83 q83 => ?_)
        obtain ⟨rfl, u83, rfl, hx83⟩ := q83
        have hj83 := hj2.step hw
        show WP _ _ _ _ _ 86 _ [] (HP c u83 m v E) _
        refine wp_aload_n 1 d_X8_readOne_86 rfl rfl ?_
        refine wp_iload_n 2 d_X8_readOne_87 rfl rfl ?_
        refine wp_iconst (v0 := 1) d_X8_readOne_88 rfl ?_
        refine wp_iadd d_X8_readOne_89 ?_
        refine wp_v (v0 := nI ((o) + (1))) (nI_add (o) (1)) ?_
        refine wp_virtual0 (As := [.int (nI ((o) + (1)))]) d_X8_readOne_90 lk_X8_109 mv_X8_readCondition in_X8_readCondition se_X8_readCondition (Nat.le_of_ble_eq_true rfl) (Nat.le_of_ble_eq_true rfl) (hp_37 _ _ _ _ _) rfl (HC (by omega) _ _ _ hx83 hj83) (fun v90 h90 q90 => ?_)
        obtain ⟨rfl, u90, rfl, hx90⟩ := q90
        have hj90 := gC _ _ hj83
        show WP _ _ _ _ _ 93 _ [] (HP c u90 m v E) _
        refine wp_aload_n 1 d_X8_readOne_93 rfl rfl ?_
        refine wp_bipush (v0 := 41) d_X8_readOne_94 (by decide) ?_
        refine wp_virtual0 (As := [.int (41)]) d_X8_readOne_96 lk_X8_115 mv_X8_expect in_X8_expect se_X8_expect (Nat.le_of_ble_eq_true rfl) (Nat.le_of_ble_eq_true rfl) (hp_37 _ _ _ _ _) rfl (s_X8_expect hw hx90 hj90 (41)) (fun v96 h96 q96 => ?_)
        obtain ⟨rfl, u96, rfl, hx96⟩ := q96
        have hj96 := hj90.exp (x := 41) hw
        show WP _ _ _ _ _ 99 _ [] (HP c u96 m v E) _
        refine wp_goto 106 d_X8_readOne_99 rfl ?_
        refine wp_iload_n 0 d_X8_readOne_106 rfl rfl ?_
        refine wp_ifb_eq 115 d_X8_readOne_107 rfl (fun zc107 => ?_) (fun zc107 => ?_)
        · refine wp_vret d_X8_readOne_115 rfl ?_
          refine ⟨rfl, u96, rfl, ?_⟩
          rw [show qone W Z C (decide (o < 3)) p = qexp W Z (41) (C (qstep W (p9))) from ?_]
          · exact hx96
          unfold qone
          rw [h9]
          show (if b9 = true then qemit (-1) (qmid W Z C (decide (o < 3)) p9) else qmid W Z C (decide (o < 3)) p9) = _
          rw [if_neg zc107]
          unfold qmid
          rw [if_pos zc46, if_pos (decide_eq_true (show o < 3 by omega))]
        · refine wp_aload_n 1 d_X8_readOne_110 rfl rfl ?_
          refine wp_iconst (v0 := -1) d_X8_readOne_111 rfl ?_
          refine wp_virtual0 (As := [.int ((-1))]) d_X8_readOne_112 lk_X8_101 mv_X8_emit in_X8_emit se_X8_emit (Nat.le_of_ble_eq_true rfl) (Nat.le_of_ble_eq_true rfl) (hp_37 _ _ _ _ _) rfl (s_X8_emit hx96 hj96.2.1 ((-1))) (fun v112 h112 q112 => ?_)
          obtain ⟨rfl, u112, rfl, hx112⟩ := q112
          have hj112 := hj96.emitm (x := (-1))
          show WP _ _ _ _ _ 115 _ [] (HP c u112 m v E) _
          refine wp_vret d_X8_readOne_115 rfl ?_
          refine ⟨rfl, u112, rfl, ?_⟩
          rw [show qone W Z C (decide (o < 3)) p = qemit ((-1)) (qexp W Z (41) (C (qstep W (p9)))) from ?_]
          · exact hx112
          unfold qone
          rw [h9]
          show (if b9 = true then qemit (-1) (qmid W Z C (decide (o < 3)) p9) else qmid W Z C (decide (o < 3)) p9) = _
          rw [if_pos zc107]
          unfold qmid
          rw [if_pos zc46, if_pos (decide_eq_true (show o < 3 by omega))]
    · refine wp_aload_n 1 d_X8_readOne_49 rfl rfl ?_
      refine wp_virtual0 (As := []) d_X8_readOne_50 lk_X8_124 mv_X8_readValue in_X8_readValue se_X8_readValue (Nat.le_of_ble_eq_true rfl) (Nat.le_of_ble_eq_true rfl) (hp_37 _ _ _ _ _) rfl (s_X8_readValue hw hx2 hj2) (fun v50 h50 q50 => ?_)
      obtain ⟨rfl, u50, rfl, hx50⟩ := q50
      have hj50 := hj2.val hw
      show WP _ _ _ _ _ 53 _ [.int (qvl (W (p9).1))] (HP c u50 m v E) _
      refine wp_istore_n [(3, .int (qvl (W (p9).1))), (2, .int (kb (b9 = true))), (0, .ref (37)), (1, .int (nI (o)))] d_X8_readOne_53 rfl (Nat.le_of_ble_eq_true rfl) rfl ?_
      refine wp_aload_n 2 d_X8_readOne_54 rfl rfl ?_
      refine wp_virtual0 (As := []) d_X8_readOne_55 lk_X8_127 mv_X8_readSign in_X8_readSign se_X8_readSign (Nat.le_of_ble_eq_true rfl) (Nat.le_of_ble_eq_true rfl) (hp_37 _ _ _ _ _) rfl (s_X8_readSign hw hx50 hj50) (fun v55 h55 q55 => ?_)
      obtain ⟨rfl, u55, rfl, hx55⟩ := q55
      have hj55 := hj50.sgn hw
      show WP _ _ _ _ _ 58 _ [.int (qsgv (W (qval W Z (p9)).1))] (HP c u55 m v E) _
      refine wp_istore [(4, .int (qsgv (W (qval W Z (p9)).1))), (3, .int (qvl (W (p9).1))), (2, .int (kb (b9 = true))), (0, .ref (37)), (1, .int (nI (o)))] d_X8_readOne_58 (Nat.le_of_ble_eq_true rfl) rfl ?_
      refine wp_aload_n 3 d_X8_readOne_60 rfl rfl ?_
      refine wp_iload_n 1 d_X8_readOne_61 rfl rfl ?_
      refine wp_iload 0 d_X8_readOne_62 rfl ?_
      refine wp_aload_n 3 d_X8_readOne_64 rfl rfl ?_
      refine wp_virtual0 (As := []) d_X8_readOne_65 lk_X8_124 mv_X8_readValue in_X8_readValue se_X8_readValue (Nat.le_of_ble_eq_true rfl) (Nat.le_of_ble_eq_true rfl) (hp_37 _ _ _ _ _) rfl (s_X8_readValue hw hx55 hj55) (fun v65 h65 q65 => ?_)
      obtain ⟨rfl, u65, rfl, hx65⟩ := q65
      have hj65 := hj55.val hw
      show WP _ _ _ _ _ 68 _ [.int (qvl (W (qsgn W Z (qval W Z (p9))).1)), .int (qsgv (W (qval W Z (p9)).1)), .int (qvl (W (p9).1)), .ref (37)] (HP c u65 m v E) _
      refine wp_stc_i (As := [.int (qvl (W (p9).1)), .int (qsgv (W (qval W Z (p9)).1)), .int (qvl (W (qsgn W Z (qval W Z (p9))).1))]) (x0 := qcmp (qvl (W (p9).1)) (qsgv (W (qval W Z (p9)).1)) (qvl (W (qsgn W Z (qval W Z (p9))).1))) (h1 := HP c u65 m v E) d_X8_readOne_68 lk_X8_130 mv_X6_comparison st_X6_comparison (Nat.le_of_ble_eq_true rfl) (Nat.le_of_ble_eq_true rfl) (s_X6_comparison (qvl (W (p9).1)) (qsgv (W (qval W Z (p9)).1)) (qvl (W (qsgn W Z (qval W Z (p9))).1))) ?_
      refine wp_virtual0 (As := [.int (qcmp (qvl (W (p9).1)) (qsgv (W (qval W Z (p9)).1)) (qvl (W (qsgn W Z (qval W Z (p9))).1)))]) d_X8_readOne_71 lk_X8_101 mv_X8_emit in_X8_emit se_X8_emit (Nat.le_of_ble_eq_true rfl) (Nat.le_of_ble_eq_true rfl) (hp_37 _ _ _ _ _) rfl (s_X8_emit hx65 hj65.2.1 (qcmp (qvl (W (p9).1)) (qsgv (W (qval W Z (p9)).1)) (qvl (W (qsgn W Z (qval W Z (p9))).1)))) (fun v71 h71 q71 => ?_)
      obtain ⟨rfl, u71, rfl, hx71⟩ := q71
      have hj71 := hj65.emitm (x := qcmp (qvl (W (p9).1)) (qsgv (W (qval W Z (p9)).1)) (qvl (W (qsgn W Z (qval W Z (p9))).1)))
      show WP _ _ _ _ _ 74 _ [] (HP c u71 m v E) _
      refine wp_goto 106 d_X8_readOne_74 rfl ?_
      refine wp_iload_n 2 d_X8_readOne_106 rfl rfl ?_
      refine wp_ifb_eq 115 d_X8_readOne_107 rfl (fun zc107 => ?_) (fun zc107 => ?_)
      · refine wp_vret d_X8_readOne_115 rfl ?_
        refine ⟨rfl, u71, rfl, ?_⟩
        rw [show qone W Z C (decide (o < 3)) p = qemit (qcmp (qvl (W (p9).1)) (qsgv (W (qval W Z (p9)).1)) (qvl (W (qsgn W Z (qval W Z (p9))).1))) (qval W Z (qsgn W Z (qval W Z (p9)))) from ?_]
        · exact hx71
        unfold qone
        rw [h9]
        show (if b9 = true then qemit (-1) (qmid W Z C (decide (o < 3)) p9) else qmid W Z C (decide (o < 3)) p9) = _
        rw [if_neg zc107]
        unfold qmid
        rw [if_neg zc46]
        rfl
      · refine wp_aload_n 3 d_X8_readOne_110 rfl rfl ?_
        refine wp_iconst (v0 := -1) d_X8_readOne_111 rfl ?_
        refine wp_virtual0 (As := [.int ((-1))]) d_X8_readOne_112 lk_X8_101 mv_X8_emit in_X8_emit se_X8_emit (Nat.le_of_ble_eq_true rfl) (Nat.le_of_ble_eq_true rfl) (hp_37 _ _ _ _ _) rfl (s_X8_emit hx71 hj71.2.1 ((-1))) (fun v112 h112 q112 => ?_)
        obtain ⟨rfl, u112, rfl, hx112⟩ := q112
        have hj112 := hj71.emitm (x := (-1))
        show WP _ _ _ _ _ 115 _ [] (HP c u112 m v E) _
        refine wp_vret d_X8_readOne_115 rfl ?_
        refine ⟨rfl, u112, rfl, ?_⟩
        rw [show qone W Z C (decide (o < 3)) p = qemit ((-1)) (qemit (qcmp (qvl (W (p9).1)) (qsgv (W (qval W Z (p9)).1)) (qvl (W (qsgn W Z (qval W Z (p9))).1))) (qval W Z (qsgn W Z (qval W Z (p9))))) from ?_]
        · exact hx112
        unfold qone
        rw [h9]
        show (if b9 = true then qemit (-1) (qmid W Z C (decide (o < 3)) p9) else qmid W Z C (decide (o < 3)) p9) = _
        rw [if_pos zc107]
        unfold qmid
        rw [if_neg zc46]
        rfl
theorem s_X8_readAll_l {X : kX} {d : Nat} {c w m v : kZ} {E : kH} {W Z : Nat → Int32} {N e : Nat} (hw : kW0 W Z N) {o : Nat} {O : kQt → kQt} (gO : kGd W N O) (HO : ∀ (a : Int) (p : kQt) (u : kZ), kTx w W Z p u → kJ W N a p → WP X (d + e + 2) 0 0 Y_X8_readOne 0 [(0, .ref 37), (1, .int (nI o))] [] (HP c u m v E) (fun r1 h1 => r1 = none ∧ ∃ u1 : kZ, h1 = HP c u1 m v E ∧ kTx w W Z (O p) u1)) {a : Int} {pe : kQt} : ∀ (k : Nat) (i : Nat) (p : kQt) (u : kZ), (i + k = 200) → (kTx w W Z p u) → (kJ W N a p) → (qjs W 11 (-2) O k p = pe) → WP X (d + e + 3) 0 0 Y_X8_readAll 7 [(2, .int (nI (i))), (0, .ref (37)), (1, .int (nI (o)))] [] (HP c u m v E) (fun r1 h1 => r1 = none ∧ ∃ u1 : kZ, h1 = HP c u1 m v E ∧ kTx w W Z (pe) u1) := by
  intro k
  induction k using Nat.strongRecOn with
  | ind k ih =>
    intro i p u hi hx hj hr
    refine wp_iload_n 0 d_X8_readAll_7 rfl rfl ?_
    refine wp_sipush (v0 := 200) d_X8_readAll_8 (by decide) ?_
    refine wp_ncmp_ge (a := i) (b := 200) 52 d_X8_readAll_11 rfl (by omega) (by omega) (fun zc11 => ?_) (fun zc11 => ?_)
    · refine wp_vret d_X8_readAll_52 rfl ?_
      obtain rfl : k = 0 := by omega
      simp only [qjs] at hr
      subst hr
      exact ⟨rfl, u, rfl, hx⟩
    · refine wp_aload_n 1 d_X8_readAll_14 rfl rfl ?_
      refine wp_getfield (v := .int (W (p).1)) d_X8_readAll_15 gf_X8_36 (hp_37 _ _ _ _ _) (congrArg (fun z => some (Value.int z)) hx.1.2.1) ?_
      refine wp_bipush (v0 := 11) d_X8_readAll_18 (by decide) ?_
      refine wp_icmp_ne 52 d_X8_readAll_20 rfl (fun zc20 => ?_) (fun zc20 => ?_)
      · refine wp_vret d_X8_readAll_52 rfl ?_
        obtain ⟨k1, rfl⟩ : ∃ k1, k = k1 + 1 := ⟨k - 1, by omega⟩
        simp only [qjs] at hr
        rw [if_neg (fun z => zc20 z.1)] at hr
        subst hr
        exact ⟨rfl, u, rfl, hx⟩
      · refine wp_aload_n 1 d_X8_readAll_23 rfl rfl ?_
        refine wp_getfield (v := .int ((p).2.1)) d_X8_readAll_24 gf_X8_39 (hp_37 _ _ _ _ _) (congrArg (fun z => some (Value.int z)) hx.1.2.2.1) ?_
        refine wp_iconst (v0 := -1) d_X8_readAll_27 rfl ?_
        refine wp_icmp_ne 52 d_X8_readAll_28 rfl (fun zc28 => ?_) (fun zc28 => ?_)
        · refine wp_vret d_X8_readAll_52 rfl ?_
          obtain ⟨k1, rfl⟩ : ∃ k1, k = k1 + 1 := ⟨k - 1, by omega⟩
          simp only [qjs] at hr
          rw [if_neg (fun z => zc28 z.2)] at hr
          subst hr
          exact ⟨rfl, u, rfl, hx⟩
        · refine wp_aload_n 1 d_X8_readAll_31 rfl rfl ?_
          refine wp_virtual0 (As := []) d_X8_readAll_32 lk_X8_98 mv_X8_step in_X8_step se_X8_step (Nat.le_of_ble_eq_true rfl) (Nat.le_of_ble_eq_true rfl) (hp_37 _ _ _ _ _) rfl (s_X8_step hw hx hj.1) (fun v32 h32 q32 => ?_)
          obtain ⟨rfl, u32, rfl, hx32⟩ := q32
          have hj32 := hj.step1 hw (by rw [zc20]; decide)
          show WP _ _ _ _ _ 35 _ [] (HP c u32 m v E) _
          refine wp_aload_n 1 d_X8_readAll_35 rfl rfl ?_
          refine wp_iload_n 2 d_X8_readAll_36 rfl rfl ?_
          refine wp_virtual0 (As := [.int (nI (o))]) d_X8_readAll_37 lk_X8_121 mv_X8_readOne in_X8_readOne se_X8_readOne (Nat.le_of_ble_eq_true rfl) (Nat.le_of_ble_eq_true rfl) (hp_37 _ _ _ _ _) rfl (HO _ _ _ hx32 hj32) (fun v37 h37 q37 => ?_)
          obtain ⟨rfl, u37, rfl, hx37⟩ := q37
          have hj37 := gO _ _ hj32
          show WP _ _ _ _ _ 40 _ [] (HP c u37 m v E) _
          refine wp_aload_n 1 d_X8_readAll_40 rfl rfl ?_
          refine wp_bipush (v0 := -2) d_X8_readAll_41 (by decide) ?_
          refine wp_virtual0 (As := [.int ((-2))]) d_X8_readAll_43 lk_X8_101 mv_X8_emit in_X8_emit se_X8_emit (Nat.le_of_ble_eq_true rfl) (Nat.le_of_ble_eq_true rfl) (hp_37 _ _ _ _ _) rfl (s_X8_emit hx37 hj37.2.1 ((-2))) (fun v43 h43 q43 => ?_)
          obtain ⟨rfl, u43, rfl, hx43⟩ := q43
          have hj43 := hj37.emit (x := (-2))
          show WP _ _ _ _ _ 46 _ [] (HP c u43 m v E) _
          refine wp_iinc (v0 := nI ((i) + 1)) [(2, .int (nI ((i) + 1))), (0, .ref (37)), (1, .int (nI (o)))] 0 d_X8_readAll_46 rfl (nI_add (i) 1) (Nat.le_of_ble_eq_true rfl) rfl ?_
          refine wp_goto 7 d_X8_readAll_49 rfl ?_
          obtain ⟨k1, rfl⟩ : ∃ k1, k = k1 + 1 := ⟨k - 1, by omega⟩
          simp only [qjs] at hr
          rw [if_pos ⟨zc20, zc28⟩] at hr
          refine wp_sub [(2, .int (nI ((i) + 1))), (0, .ref (37)), (1, .int (nI (o)))] [0, 1, 2] rfl ?_
          exact ih k1 (by omega) (i + 1) _ u43 (by omega) hx43 hj43 hr
theorem s_X8_readAll {X : kX} {d : Nat} {c w m v : kZ} {E : kH} {W Z : Nat → Int32} {N e : Nat} (hw : kW0 W Z N) {o : Nat} {O : kQt → kQt} (gO : kGd W N O) (HO : ∀ (a : Int) (p : kQt) (u : kZ), kTx w W Z p u → kJ W N a p → WP X (d + e + 2) 0 0 Y_X8_readOne 0 [(0, .ref 37), (1, .int (nI o))] [] (HP c u m v E) (fun r1 h1 => r1 = none ∧ ∃ u1 : kZ, h1 = HP c u1 m v E ∧ kTx w W Z (O p) u1)) {a : Int} {p : kQt} {u : kZ} (hx : kTx w W Z p u) (hj : kJ W N a p) : WP X (d + e + 3) 0 0 Y_X8_readAll 0 [(0, .ref (37)), (1, .int (nI (o)))] [] (HP c u m v E) (fun r1 h1 => r1 = none ∧ ∃ u1 : kZ, h1 = HP c u1 m v E ∧ kTx w W Z (qjs W 11 (-2) O 200 (O p)) u1) := by
  refine wp_aload_n 0 d_X8_readAll_0 rfl rfl ?_
  refine wp_iload_n 1 d_X8_readAll_1 rfl rfl ?_
  refine wp_virtual0 (As := [.int (nI (o))]) d_X8_readAll_2 lk_X8_121 mv_X8_readOne in_X8_readOne se_X8_readOne (Nat.le_of_ble_eq_true rfl) (Nat.le_of_ble_eq_true rfl) (hp_37 _ _ _ _ _) rfl (HO _ _ _ hx hj) (fun v2 h2 q2 => ?_)
  obtain ⟨rfl, u2, rfl, hx2⟩ := q2
  have hj2 := gO _ _ hj
  show WP _ _ _ _ _ 5 _ [] (HP c u2 m v E) _
  refine wp_iconst (v0 := 0) d_X8_readAll_5 rfl ?_
  refine wp_istore_n [(2, .int (0)), (0, .ref (37)), (1, .int (nI (o)))] d_X8_readAll_6 rfl (Nat.le_of_ble_eq_true rfl) rfl ?_
  refine wp_sub [(2, .int (0)), (0, .ref (37)), (1, .int (nI (o)))] [0, 1, 2] rfl ?_
  exact s_X8_readAll_l hw gO HO 200 0 _ u2 (by omega) hx2 hj2 rfl
theorem s_X8_readCond_l {X : kX} {d : Nat} {c w m v : kZ} {E : kH} {W Z : Nat → Int32} {N e : Nat} (hw : kW0 W Z N) {o : Nat} {O : kQt → kQt} (gO : kGd W N O) (HO : ∀ (a : Int) (p : kQt) (u : kZ), kTx w W Z p u → kJ W N a p → WP X (d + e + 3) 0 0 Y_X8_readAll 0 [(0, .ref 37), (1, .int (nI o))] [] (HP c u m v E) (fun r1 h1 => r1 = none ∧ ∃ u1 : kZ, h1 = HP c u1 m v E ∧ kTx w W Z (O p) u1)) {a : Int} {pe : kQt} : ∀ (k : Nat) (i : Nat) (p : kQt) (u : kZ), (i + k = 200) → (kTx w W Z p u) → (kJ W N a p) → (qjs W 10 (-3) O k p = pe) → WP X (d + e + 4) 0 0 Y_X8_readCondition 7 [(2, .int (nI (i))), (0, .ref (37)), (1, .int (nI (o)))] [] (HP c u m v E) (fun r1 h1 => r1 = none ∧ ∃ u1 : kZ, h1 = HP c u1 m v E ∧ kTx w W Z (pe) u1) := by
  intro k
  induction k using Nat.strongRecOn with
  | ind k ih =>
    intro i p u hi hx hj hr
    refine wp_iload_n 0 d_X8_readCondition_7 rfl rfl ?_
    refine wp_sipush (v0 := 200) d_X8_readCondition_8 (by decide) ?_
    refine wp_ncmp_ge (a := i) (b := 200) 52 d_X8_readCondition_11 rfl (by omega) (by omega) (fun zc11 => ?_) (fun zc11 => ?_)
    · refine wp_vret d_X8_readCondition_52 rfl ?_
      obtain rfl : k = 0 := by omega
      simp only [qjs] at hr
      subst hr
      exact ⟨rfl, u, rfl, hx⟩
    · refine wp_aload_n 1 d_X8_readCondition_14 rfl rfl ?_
      refine wp_getfield (v := .int (W (p).1)) d_X8_readCondition_15 gf_X8_36 (hp_37 _ _ _ _ _) (congrArg (fun z => some (Value.int z)) hx.1.2.1) ?_
      refine wp_bipush (v0 := 10) d_X8_readCondition_18 (by decide) ?_
      refine wp_icmp_ne 52 d_X8_readCondition_20 rfl (fun zc20 => ?_) (fun zc20 => ?_)
      · refine wp_vret d_X8_readCondition_52 rfl ?_
        obtain ⟨k1, rfl⟩ : ∃ k1, k = k1 + 1 := ⟨k - 1, by omega⟩
        simp only [qjs] at hr
        rw [if_neg (fun z => zc20 z.1)] at hr
        subst hr
        exact ⟨rfl, u, rfl, hx⟩
      · refine wp_aload_n 1 d_X8_readCondition_23 rfl rfl ?_
        refine wp_getfield (v := .int ((p).2.1)) d_X8_readCondition_24 gf_X8_39 (hp_37 _ _ _ _ _) (congrArg (fun z => some (Value.int z)) hx.1.2.2.1) ?_
        refine wp_iconst (v0 := -1) d_X8_readCondition_27 rfl ?_
        refine wp_icmp_ne 52 d_X8_readCondition_28 rfl (fun zc28 => ?_) (fun zc28 => ?_)
        · refine wp_vret d_X8_readCondition_52 rfl ?_
          obtain ⟨k1, rfl⟩ : ∃ k1, k = k1 + 1 := ⟨k - 1, by omega⟩
          simp only [qjs] at hr
          rw [if_neg (fun z => zc28 z.2)] at hr
          subst hr
          exact ⟨rfl, u, rfl, hx⟩
        · refine wp_aload_n 1 d_X8_readCondition_31 rfl rfl ?_
          refine wp_virtual0 (As := []) d_X8_readCondition_32 lk_X8_98 mv_X8_step in_X8_step se_X8_step (Nat.le_of_ble_eq_true rfl) (Nat.le_of_ble_eq_true rfl) (hp_37 _ _ _ _ _) rfl (s_X8_step hw hx hj.1) (fun v32 h32 q32 => ?_)
          obtain ⟨rfl, u32, rfl, hx32⟩ := q32
          have hj32 := hj.step1 hw (by rw [zc20]; decide)
          show WP _ _ _ _ _ 35 _ [] (HP c u32 m v E) _
          refine wp_aload_n 1 d_X8_readCondition_35 rfl rfl ?_
          refine wp_iload_n 2 d_X8_readCondition_36 rfl rfl ?_
          refine wp_virtual0 (As := [.int (nI (o))]) d_X8_readCondition_37 lk_X8_118 mv_X8_readAll in_X8_readAll se_X8_readAll (Nat.le_of_ble_eq_true rfl) (Nat.le_of_ble_eq_true rfl) (hp_37 _ _ _ _ _) rfl (HO _ _ _ hx32 hj32) (fun v37 h37 q37 => ?_)
          obtain ⟨rfl, u37, rfl, hx37⟩ := q37
          have hj37 := gO _ _ hj32
          show WP _ _ _ _ _ 40 _ [] (HP c u37 m v E) _
          refine wp_aload_n 1 d_X8_readCondition_40 rfl rfl ?_
          refine wp_bipush (v0 := -3) d_X8_readCondition_41 (by decide) ?_
          refine wp_virtual0 (As := [.int ((-3))]) d_X8_readCondition_43 lk_X8_101 mv_X8_emit in_X8_emit se_X8_emit (Nat.le_of_ble_eq_true rfl) (Nat.le_of_ble_eq_true rfl) (hp_37 _ _ _ _ _) rfl (s_X8_emit hx37 hj37.2.1 ((-3))) (fun v43 h43 q43 => ?_)
          obtain ⟨rfl, u43, rfl, hx43⟩ := q43
          have hj43 := hj37.emit (x := (-3))
          show WP _ _ _ _ _ 46 _ [] (HP c u43 m v E) _
          refine wp_iinc (v0 := nI ((i) + 1)) [(2, .int (nI ((i) + 1))), (0, .ref (37)), (1, .int (nI (o)))] 0 d_X8_readCondition_46 rfl (nI_add (i) 1) (Nat.le_of_ble_eq_true rfl) rfl ?_
          refine wp_goto 7 d_X8_readCondition_49 rfl ?_
          obtain ⟨k1, rfl⟩ : ∃ k1, k = k1 + 1 := ⟨k - 1, by omega⟩
          simp only [qjs] at hr
          rw [if_pos ⟨zc20, zc28⟩] at hr
          refine wp_sub [(2, .int (nI ((i) + 1))), (0, .ref (37)), (1, .int (nI (o)))] [0, 1, 2] rfl ?_
          exact ih k1 (by omega) (i + 1) _ u43 (by omega) hx43 hj43 hr
theorem s_X8_readCond {X : kX} {d : Nat} {c w m v : kZ} {E : kH} {W Z : Nat → Int32} {N e : Nat} (hw : kW0 W Z N) {o : Nat} {O : kQt → kQt} (gO : kGd W N O) (HO : ∀ (a : Int) (p : kQt) (u : kZ), kTx w W Z p u → kJ W N a p → WP X (d + e + 3) 0 0 Y_X8_readAll 0 [(0, .ref 37), (1, .int (nI o))] [] (HP c u m v E) (fun r1 h1 => r1 = none ∧ ∃ u1 : kZ, h1 = HP c u1 m v E ∧ kTx w W Z (O p) u1)) {a : Int} {p : kQt} {u : kZ} (hx : kTx w W Z p u) (hj : kJ W N a p) : WP X (d + e + 4) 0 0 Y_X8_readCondition 0 [(0, .ref (37)), (1, .int (nI (o)))] [] (HP c u m v E) (fun r1 h1 => r1 = none ∧ ∃ u1 : kZ, h1 = HP c u1 m v E ∧ kTx w W Z (qjs W 10 (-3) O 200 (O p)) u1) := by
  refine wp_aload_n 0 d_X8_readCondition_0 rfl rfl ?_
  refine wp_iload_n 1 d_X8_readCondition_1 rfl rfl ?_
  refine wp_virtual0 (As := [.int (nI (o))]) d_X8_readCondition_2 lk_X8_118 mv_X8_readAll in_X8_readAll se_X8_readAll (Nat.le_of_ble_eq_true rfl) (Nat.le_of_ble_eq_true rfl) (hp_37 _ _ _ _ _) rfl (HO _ _ _ hx hj) (fun v2 h2 q2 => ?_)
  obtain ⟨rfl, u2, rfl, hx2⟩ := q2
  have hj2 := gO _ _ hj
  show WP _ _ _ _ _ 5 _ [] (HP c u2 m v E) _
  refine wp_iconst (v0 := 0) d_X8_readCondition_5 rfl ?_
  refine wp_istore_n [(2, .int (0)), (0, .ref (37)), (1, .int (nI (o)))] d_X8_readCondition_6 rfl (Nat.le_of_ble_eq_true rfl) rfl ?_
  refine wp_sub [(2, .int (0)), (0, .ref (37)), (1, .int (nI (o)))] [0, 1, 2] rfl ?_
  exact s_X8_readCond_l hw gO HO 200 0 _ u2 (by omega) hx2 hj2 rfl
theorem s_X8_cond {X : kX} {d : Nat} {c w m v : kZ} {E : kH} {W Z : Nat → Int32} {N : Nat} (hw : kW0 W Z N) : ∀ (k o : Nat), o + k = 3 → ∀ (a : Int) (p : kQt) (u : kZ), kTx w W Z p u → kJ W N a p → WP X (d + 3 * k + 4) 0 0 Y_X8_readCondition 0 [(0, .ref 37), (1, .int (nI o))] [] (HP c u m v E) (fun r1 h1 => r1 = none ∧ ∃ u1 : kZ, h1 = HP c u1 m v E ∧ kTx w W Z (qcond W Z k p) u1)
  | 0, o, ho, a, p, u, hx, hj => by
    obtain rfl : o = 3 := by omega
    have gi : kGd W N id := fun _ _ h => h
    have g1 := kGd.one hw gi false
    have g2 : kGd W N (fun p => qjs W 11 (-2) (qone W Z id false) 200 (qone W Z id false p)) := fun a p h => kGd.js hw g1 (by decide) 200 _ _ (g1 _ _ h)
    refine s_X8_readCond (e := 3 * 0) hw g2 (fun a p u hx hj => ?_) hx hj
    refine s_X8_readAll (e := 3 * 0) hw g1 (fun a p u hx hj => ?_) hx hj
    exact s_X8_readOne (e := 3 * 0) (o := 3) hw (by omega) gi (fun h => absurd h (by omega)) hx hj
  | k + 1, o, ho, a, p, u, hx, hj => by
    have gi := kGd.cond hw k
    have g1 := kGd.one hw gi true
    have g2 : kGd W N (fun p => qjs W 11 (-2) (qone W Z (qcond W Z k) true) 200 (qone W Z (qcond W Z k) true p)) := fun a p h => kGd.js hw g1 (by decide) 200 _ _ (g1 _ _ h)
    refine s_X8_readCond (e := 3 * (k + 1)) hw g2 (fun a p u hx hj => ?_) hx hj
    refine s_X8_readAll (e := 3 * (k + 1)) hw g1 (fun a p u hx hj => ?_) hx hj
    have h := s_X8_readOne (X := X) (d := d) (c := c) (m := m) (v := v) (E := E) (e := 3 * (k + 1)) (o := o) hw (by omega) gi (fun _ a p u hx hj => wp_depth (by omega) (s_X8_cond (d := d) hw k (o + 1) (by omega) a p u hx hj)) hx hj
    rw [decide_eq_true (show o < 3 by omega)] at h
    exact h
def qdn (W : Nat → Int32) (hd : Nat) (p : kQt) : kQt := qstep W (p.1, p.2.1, p.2.2.1, upd p.2.2.2 (hd + 2) (W p.1 - 1000))
def qdm (W Z : Nat → Int32) (hd : Nat) (p : kQt) : kQt := qdn W hd (if 1000 ≤ (W p.1).toInt ∧ (W p.1).toInt ≤ 1099 then p else qfail Z p)
def qds (W Z : Nat → Int32) (hd : Nat) (p : kQt) : kQt := if W p.1 = 7 then (p.1, p.2.1, p.2.2.1, upd p.2.2.2 (hd + 1) 0) else if W p.1 = 8 then (p.1, p.2.1, p.2.2.1, upd p.2.2.2 (hd + 1) 1) else qfail Z p
def qdo (W Z : Nat → Int32) (hd : Nat) (p : kQt) : kQt := if W p.1 = 9 then qstep W (p.1, p.2.1, p.2.2.1, upd p.2.2.2 (hd + 1) 2) else qdm W Z hd (qstep W (qds W Z hd p))
theorem qfail_L (Z : Nat → Int32) (p : kQt) : (qfail Z p).1 = p.1 := by
  unfold qfail
  split <;> rfl
theorem kJ.code {W : Nat → Int32} {N : Nat} {a : Int} {p : kQt} (o1 : Nat → Int32) (h : kJ W N a p) : kJ W N a (p.1, p.2.1, p.2.2.1, o1) := ⟨h.1, h.2.1, h.2.2⟩
theorem kJ.dow {W Z : Nat → Int32} {N : Nat} {a : Int} {hd : Nat} {p : kQt} (hw : kW0 W Z N) (h : kJ W N a p) : kJ W N a (qdo W Z hd p) := by
  have h2 : ∀ p, kJ W N a p → kJ W N a (qdm W Z hd p) := by
    intro p h
    unfold qdm qdn
    split
    · exact (h.code _).step hw
    · exact (kJ.code _ (kJ.fail (a1 := a) hw h)).step hw
  unfold qdo
  split
  · exact (h.code _).step hw
  · refine h2 _ (kJ.step hw ?_)
    unfold qds
    split
    · exact h.code _
    · split
      · exact h.code _
      · exact h.fail hw
theorem s_X8_readDoing {X : kX} {d : Nat} {c w m v : kZ} {E : kH} {W Z : Nat → Int32} {N : Nat} (hw : kW0 W Z N) {p : kQt} {u : kZ} (hx : kTx w W Z p u) {a : Int} (hj : kJ W N a p) {hd : Nat} (hh : hd + 4 ≤ 232) : WP X (d + 1) 0 0 Y_X8_readDoing 0 [(0, .ref (37)), (1, .int (nI (hd)))] [] (HP c u m v E) (fun r1 h1 => r1 = none ∧ ∃ u1 : kZ, h1 = HP c u1 m v E ∧ kTx w W Z (qdo W Z hd p) u1) := by
  refine wp_aload_n 0 d_X8_readDoing_0 rfl rfl ?_
  refine wp_getfield (v := .int (W (p).1)) d_X8_readDoing_1 gf_X8_36 (hp_37 _ _ _ _ _) (congrArg (fun z => some (Value.int z)) hx.1.2.1) ?_
  refine wp_if (P := (W (p).1) = 7) (fun zc4 => ?_) (fun zc4_7 => ?_)
  · refine wp_tableIn 32 d_X8_readDoing_4 (by rw [zc4] <;> decide) (by rw [zc4] <;> decide) (by rw [zc4] <;> rfl) rfl ?_
    refine wp_aload_n 0 d_X8_readDoing_32 rfl rfl ?_
    refine wp_getfield (v := .ref (41)) d_X8_readDoing_33 gf_X8_23 (hp_37 _ _ _ _ _) rfl ?_
    refine wp_iload_n 1 d_X8_readDoing_36 rfl rfl ?_
    refine wp_iconst (v0 := 1) d_X8_readDoing_37 rfl ?_
    refine wp_iadd d_X8_readDoing_38 ?_
    refine wp_v (v0 := nI ((hd) + (1))) (nI_add (hd) (1)) ?_
    refine wp_iconst (v0 := 0) d_X8_readDoing_39 rfl ?_
    refine wp_iastore (h' := HP c (setA u 41 (upd (u.2.1 41) ((hd) + (1)) (0))) m v E) d_X8_readDoing_40 (hp_41 _ _ _ _ _) (vp_in_nI (by omega) (by omega)) (by rw [nI_clamp (by omega)]; exact (hpa_41 _ _ _ _ _ _)) ?_
    refine wp_goto 72 d_X8_readDoing_41 rfl ?_
    have hxy72 : kTx w W Z ((p).1, (p).2.1, (p).2.2.1, upd (p).2.2.2 ((hd) + (1)) (0)) (setA u 41 (upd (u.2.1 41) ((hd) + (1)) (0))) := by rw [show (p).2.2.2 = u.2.1 41 from hx.1.2.2.2.2.1.symm]; exact hx.code
    have hjy72 := hj.code (upd (p).2.2.2 ((hd) + (1)) (0))
    generalize (setA u 41 (upd (u.2.1 41) ((hd) + (1)) (0))) = y72 at hxy72 ⊢
    refine wp_aload_n 0 d_X8_readDoing_72 rfl rfl ?_
    refine wp_getfield (v := .int (W (((p).1, (p).2.1, (p).2.2.1, upd (p).2.2.2 ((hd) + (1)) (0))).1)) d_X8_readDoing_73 gf_X8_36 (hp_37 _ _ _ _ _) (congrArg (fun z => some (Value.int z)) hxy72.1.2.1) ?_
    refine wp_bipush (v0 := 9) d_X8_readDoing_76 (by decide) ?_
    refine wp_icmp_eq 85 d_X8_readDoing_78 rfl (fun zc78 => ?_) (fun zc78 => ?_)
    · exact absurd (zc4.symm.trans zc78) (by decide)
    · refine wp_iconst (v0 := 1) d_X8_readDoing_81 rfl ?_
      refine wp_goto 86 d_X8_readDoing_82 rfl ?_
      refine wp_istore_n [(2, .int (1)), (0, .ref (37)), (1, .int (nI (hd)))] d_X8_readDoing_86 rfl (Nat.le_of_ble_eq_true rfl) rfl ?_
      refine wp_aload_n 1 d_X8_readDoing_87 rfl rfl ?_
      refine wp_virtual0 (As := []) d_X8_readDoing_88 lk_X8_98 mv_X8_step in_X8_step se_X8_step (Nat.le_of_ble_eq_true rfl) (Nat.le_of_ble_eq_true rfl) (hp_37 _ _ _ _ _) rfl (s_X8_step hw hxy72 hjy72.1) (fun v88 h88 q88 => ?_)
      obtain ⟨rfl, u88, rfl, hx88⟩ := q88
      have hj88 := hjy72.step hw
      show WP _ _ _ _ _ 91 _ [] (HP c u88 m v E) _
      refine wp_iload_n 0 d_X8_readDoing_91 rfl rfl ?_
      refine wp_if_ne 96 d_X8_readDoing_92 rfl (fun _ => ?_) (fun z => absurd z (by decide))
      refine wp_aload_n 1 d_X8_readDoing_96 rfl rfl ?_
      refine wp_getfield (v := .int (W (qstep W (((p).1, (p).2.1, (p).2.2.1, upd (p).2.2.2 ((hd) + (1)) (0)))).1)) d_X8_readDoing_97 gf_X8_36 (hp_37 _ _ _ _ _) (congrArg (fun z => some (Value.int z)) hx88.1.2.1) ?_
      refine wp_sipush (v0 := 1000) d_X8_readDoing_100 (by decide) ?_
      refine wp_sipush (v0 := 1099) d_X8_readDoing_103 (by decide) ?_
      refine wp_stc_i (As := [.int (W (qstep W (((p).1, (p).2.1, (p).2.2.1, upd (p).2.2.2 ((hd) + (1)) (0)))).1), .int (1000), .int (1099)]) (x0 := kb (1000 ≤ (W (qstep W (((p).1, (p).2.1, (p).2.2.1, upd (p).2.2.2 ((hd) + (1)) (0)))).1 : Int32).toInt ∧ (W (qstep W (((p).1, (p).2.1, (p).2.2.1, upd (p).2.2.2 ((hd) + (1)) (0)))).1 : Int32).toInt ≤ 1099)) (h1 := HP c u88 m v E) d_X8_readDoing_106 lk_X8_105 mv_X9_isWithin st_X9_isWithin (Nat.le_of_ble_eq_true rfl) (Nat.le_of_ble_eq_true rfl) (s_X9_isWithin _ (W (qstep W (((p).1, (p).2.1, (p).2.2.1, upd (p).2.2.2 ((hd) + (1)) (0)))).1 : Int32) (1000 : Int32) (1099 : Int32)) ?_
      refine wp_ifb_ne 116 d_X8_readDoing_109 rfl (fun zc109 => ?_) (fun zc109 => ?_)
      · refine wp_aload_n 1 d_X8_readDoing_116 rfl rfl ?_
        refine wp_getfield (v := .ref (41)) d_X8_readDoing_117 gf_X8_23 (hp_37 _ _ _ _ _) rfl ?_
        refine wp_iload_n 2 d_X8_readDoing_120 rfl rfl ?_
        refine wp_iconst (v0 := 2) d_X8_readDoing_121 rfl ?_
        refine wp_iadd d_X8_readDoing_122 ?_
        refine wp_v (v0 := nI ((hd) + (2))) (nI_add (hd) (2)) ?_
        refine wp_aload_n 1 d_X8_readDoing_123 rfl rfl ?_
        refine wp_getfield (v := .int (W (qstep W (((p).1, (p).2.1, (p).2.2.1, upd (p).2.2.2 ((hd) + (1)) (0)))).1)) d_X8_readDoing_124 gf_X8_36 (hp_37 _ _ _ _ _) (congrArg (fun z => some (Value.int z)) hx88.1.2.1) ?_
        refine wp_sipush (v0 := 1000) d_X8_readDoing_127 (by decide) ?_
        refine wp_isub d_X8_readDoing_130 ?_
        refine wp_iastore (h' := HP c (setA u88 41 (upd (u88.2.1 41) ((hd) + (2)) ((W (qstep W (((p).1, (p).2.1, (p).2.2.1, upd (p).2.2.2 ((hd) + (1)) (0)))).1) - (1000)))) m v E) d_X8_readDoing_131 (hp_41 _ _ _ _ _) (vp_in_nI (by omega) (by omega)) (by rw [nI_clamp (by omega)]; exact (hpa_41 _ _ _ _ _ _)) ?_
        have hxy132 : kTx w W Z ((qstep W (((p).1, (p).2.1, (p).2.2.1, upd (p).2.2.2 ((hd) + (1)) (0)))).1, (qstep W (((p).1, (p).2.1, (p).2.2.1, upd (p).2.2.2 ((hd) + (1)) (0)))).2.1, (qstep W (((p).1, (p).2.1, (p).2.2.1, upd (p).2.2.2 ((hd) + (1)) (0)))).2.2.1, upd (qstep W (((p).1, (p).2.1, (p).2.2.1, upd (p).2.2.2 ((hd) + (1)) (0)))).2.2.2 ((hd) + (2)) ((W (qstep W (((p).1, (p).2.1, (p).2.2.1, upd (p).2.2.2 ((hd) + (1)) (0)))).1) - (1000))) (setA u88 41 (upd (u88.2.1 41) ((hd) + (2)) ((W (qstep W (((p).1, (p).2.1, (p).2.2.1, upd (p).2.2.2 ((hd) + (1)) (0)))).1) - (1000)))) := by rw [show (qstep W (((p).1, (p).2.1, (p).2.2.1, upd (p).2.2.2 ((hd) + (1)) (0)))).2.2.2 = u88.2.1 41 from hx88.1.2.2.2.2.1.symm]; exact hx88.code
        have hjy132 := hj88.code (upd (qstep W (((p).1, (p).2.1, (p).2.2.1, upd (p).2.2.2 ((hd) + (1)) (0)))).2.2.2 ((hd) + (2)) ((W (qstep W (((p).1, (p).2.1, (p).2.2.1, upd (p).2.2.2 ((hd) + (1)) (0)))).1) - (1000)))
        generalize (setA u88 41 (upd (u88.2.1 41) ((hd) + (2)) ((W (qstep W (((p).1, (p).2.1, (p).2.2.1, upd (p).2.2.2 ((hd) + (1)) (0)))).1) - (1000)))) = y132 at hxy132 ⊢
        refine wp_aload_n 1 d_X8_readDoing_132 rfl rfl ?_
        refine wp_virtual0 (As := []) d_X8_readDoing_133 lk_X8_98 mv_X8_step in_X8_step se_X8_step (Nat.le_of_ble_eq_true rfl) (Nat.le_of_ble_eq_true rfl) (hp_37 _ _ _ _ _) rfl (s_X8_step hw hxy132 hjy132.1) (fun v133 h133 q133 => ?_)
        obtain ⟨rfl, u133, rfl, hx133⟩ := q133
        have hj133 := hjy132.step hw
        show WP _ _ _ _ _ 136 _ [] (HP c u133 m v E) _
        refine wp_vret d_X8_readDoing_136 rfl ?_
        refine ⟨rfl, u133, rfl, ?_⟩
        rw [show qdo W Z hd p = qstep W (((qstep W (((p).1, (p).2.1, (p).2.2.1, upd (p).2.2.2 ((hd) + (1)) (0)))).1, (qstep W (((p).1, (p).2.1, (p).2.2.1, upd (p).2.2.2 ((hd) + (1)) (0)))).2.1, (qstep W (((p).1, (p).2.1, (p).2.2.1, upd (p).2.2.2 ((hd) + (1)) (0)))).2.2.1, upd (qstep W (((p).1, (p).2.1, (p).2.2.1, upd (p).2.2.2 ((hd) + (1)) (0)))).2.2.2 ((hd) + (2)) ((W (qstep W (((p).1, (p).2.1, (p).2.2.1, upd (p).2.2.2 ((hd) + (1)) (0)))).1) - (1000)))) from ?_]
        · exact hx133
        unfold qdo
        rw [if_neg (show ¬ W p.1 = 9 by rw [zc4]; decide)]
        rw [show qds W Z hd p = _ from by unfold qds; rw [if_pos zc4]]
        unfold qdm
        rw [if_pos zc109]
        rfl
      · refine wp_aload_n 1 d_X8_readDoing_112 rfl rfl ?_
        refine wp_virtual0 (As := []) d_X8_readDoing_113 lk_X8_48 mv_X8_fail in_X8_fail se_X8_fail (Nat.le_of_ble_eq_true rfl) (Nat.le_of_ble_eq_true rfl) (hp_37 _ _ _ _ _) rfl (s_X8_fail hw hx88 hj88.1) (fun v113 h113 q113 => ?_)
        obtain ⟨rfl, u113, rfl, hx113⟩ := q113
        have hj113 := hj88.fail (a1 := a) hw
        show WP _ _ _ _ _ 116 _ [] (HP c u113 m v E) _
        refine wp_aload_n 1 d_X8_readDoing_116 rfl rfl ?_
        refine wp_getfield (v := .ref (41)) d_X8_readDoing_117 gf_X8_23 (hp_37 _ _ _ _ _) rfl ?_
        refine wp_iload_n 2 d_X8_readDoing_120 rfl rfl ?_
        refine wp_iconst (v0 := 2) d_X8_readDoing_121 rfl ?_
        refine wp_iadd d_X8_readDoing_122 ?_
        refine wp_v (v0 := nI ((hd) + (2))) (nI_add (hd) (2)) ?_
        refine wp_aload_n 1 d_X8_readDoing_123 rfl rfl ?_
        refine wp_getfield (v := .int (W (qfail Z (qstep W (((p).1, (p).2.1, (p).2.2.1, upd (p).2.2.2 ((hd) + (1)) (0))))).1)) d_X8_readDoing_124 gf_X8_36 (hp_37 _ _ _ _ _) (congrArg (fun z => some (Value.int z)) hx113.1.2.1) ?_
        refine wp_sipush (v0 := 1000) d_X8_readDoing_127 (by decide) ?_
        refine wp_isub d_X8_readDoing_130 ?_
        refine wp_iastore (h' := HP c (setA u113 41 (upd (u113.2.1 41) ((hd) + (2)) ((W (qfail Z (qstep W (((p).1, (p).2.1, (p).2.2.1, upd (p).2.2.2 ((hd) + (1)) (0))))).1) - (1000)))) m v E) d_X8_readDoing_131 (hp_41 _ _ _ _ _) (vp_in_nI (by omega) (by omega)) (by rw [nI_clamp (by omega)]; exact (hpa_41 _ _ _ _ _ _)) ?_
        have hxy132 : kTx w W Z ((qfail Z (qstep W (((p).1, (p).2.1, (p).2.2.1, upd (p).2.2.2 ((hd) + (1)) (0))))).1, (qfail Z (qstep W (((p).1, (p).2.1, (p).2.2.1, upd (p).2.2.2 ((hd) + (1)) (0))))).2.1, (qfail Z (qstep W (((p).1, (p).2.1, (p).2.2.1, upd (p).2.2.2 ((hd) + (1)) (0))))).2.2.1, upd (qfail Z (qstep W (((p).1, (p).2.1, (p).2.2.1, upd (p).2.2.2 ((hd) + (1)) (0))))).2.2.2 ((hd) + (2)) ((W (qfail Z (qstep W (((p).1, (p).2.1, (p).2.2.1, upd (p).2.2.2 ((hd) + (1)) (0))))).1) - (1000))) (setA u113 41 (upd (u113.2.1 41) ((hd) + (2)) ((W (qfail Z (qstep W (((p).1, (p).2.1, (p).2.2.1, upd (p).2.2.2 ((hd) + (1)) (0))))).1) - (1000)))) := by rw [show (qfail Z (qstep W (((p).1, (p).2.1, (p).2.2.1, upd (p).2.2.2 ((hd) + (1)) (0))))).2.2.2 = u113.2.1 41 from hx113.1.2.2.2.2.1.symm]; exact hx113.code
        have hjy132 := hj113.code (upd (qfail Z (qstep W (((p).1, (p).2.1, (p).2.2.1, upd (p).2.2.2 ((hd) + (1)) (0))))).2.2.2 ((hd) + (2)) ((W (qfail Z (qstep W (((p).1, (p).2.1, (p).2.2.1, upd (p).2.2.2 ((hd) + (1)) (0))))).1) - (1000)))
        generalize (setA u113 41 (upd (u113.2.1 41) ((hd) + (2)) ((W (qfail Z (qstep W (((p).1, (p).2.1, (p).2.2.1, upd (p).2.2.2 ((hd) + (1)) (0))))).1) - (1000)))) = y132 at hxy132 ⊢
        refine wp_aload_n 1 d_X8_readDoing_132 rfl rfl ?_
        refine wp_virtual0 (As := []) d_X8_readDoing_133 lk_X8_98 mv_X8_step in_X8_step se_X8_step (Nat.le_of_ble_eq_true rfl) (Nat.le_of_ble_eq_true rfl) (hp_37 _ _ _ _ _) rfl (s_X8_step hw hxy132 hjy132.1) (fun v133 h133 q133 => ?_)
        obtain ⟨rfl, u133, rfl, hx133⟩ := q133
        have hj133 := hjy132.step hw
        show WP _ _ _ _ _ 136 _ [] (HP c u133 m v E) _
        refine wp_vret d_X8_readDoing_136 rfl ?_
        refine ⟨rfl, u133, rfl, ?_⟩
        rw [show qdo W Z hd p = qstep W (((qfail Z (qstep W (((p).1, (p).2.1, (p).2.2.1, upd (p).2.2.2 ((hd) + (1)) (0))))).1, (qfail Z (qstep W (((p).1, (p).2.1, (p).2.2.1, upd (p).2.2.2 ((hd) + (1)) (0))))).2.1, (qfail Z (qstep W (((p).1, (p).2.1, (p).2.2.1, upd (p).2.2.2 ((hd) + (1)) (0))))).2.2.1, upd (qfail Z (qstep W (((p).1, (p).2.1, (p).2.2.1, upd (p).2.2.2 ((hd) + (1)) (0))))).2.2.2 ((hd) + (2)) ((W (qfail Z (qstep W (((p).1, (p).2.1, (p).2.2.1, upd (p).2.2.2 ((hd) + (1)) (0))))).1) - (1000)))) from ?_]
        · exact hx133
        unfold qdo
        rw [if_neg (show ¬ W p.1 = 9 by rw [zc4]; decide)]
        rw [show qds W Z hd p = _ from by unfold qds; rw [if_pos zc4]]
        unfold qdm
        rw [if_neg zc109]
        rfl
  refine wp_if (P := (W (p).1) = 8) (fun zc4 => ?_) (fun zc4_8 => ?_)
  · refine wp_tableIn 44 d_X8_readDoing_4 (by rw [zc4] <;> decide) (by rw [zc4] <;> decide) (by rw [zc4] <;> rfl) rfl ?_
    refine wp_aload_n 0 d_X8_readDoing_44 rfl rfl ?_
    refine wp_getfield (v := .ref (41)) d_X8_readDoing_45 gf_X8_23 (hp_37 _ _ _ _ _) rfl ?_
    refine wp_iload_n 1 d_X8_readDoing_48 rfl rfl ?_
    refine wp_iconst (v0 := 1) d_X8_readDoing_49 rfl ?_
    refine wp_iadd d_X8_readDoing_50 ?_
    refine wp_v (v0 := nI ((hd) + (1))) (nI_add (hd) (1)) ?_
    refine wp_iconst (v0 := 1) d_X8_readDoing_51 rfl ?_
    refine wp_iastore (h' := HP c (setA u 41 (upd (u.2.1 41) ((hd) + (1)) (1))) m v E) d_X8_readDoing_52 (hp_41 _ _ _ _ _) (vp_in_nI (by omega) (by omega)) (by rw [nI_clamp (by omega)]; exact (hpa_41 _ _ _ _ _ _)) ?_
    refine wp_goto 72 d_X8_readDoing_53 rfl ?_
    have hxy72 : kTx w W Z ((p).1, (p).2.1, (p).2.2.1, upd (p).2.2.2 ((hd) + (1)) (1)) (setA u 41 (upd (u.2.1 41) ((hd) + (1)) (1))) := by rw [show (p).2.2.2 = u.2.1 41 from hx.1.2.2.2.2.1.symm]; exact hx.code
    have hjy72 := hj.code (upd (p).2.2.2 ((hd) + (1)) (1))
    generalize (setA u 41 (upd (u.2.1 41) ((hd) + (1)) (1))) = y72 at hxy72 ⊢
    refine wp_aload_n 0 d_X8_readDoing_72 rfl rfl ?_
    refine wp_getfield (v := .int (W (((p).1, (p).2.1, (p).2.2.1, upd (p).2.2.2 ((hd) + (1)) (1))).1)) d_X8_readDoing_73 gf_X8_36 (hp_37 _ _ _ _ _) (congrArg (fun z => some (Value.int z)) hxy72.1.2.1) ?_
    refine wp_bipush (v0 := 9) d_X8_readDoing_76 (by decide) ?_
    refine wp_icmp_eq 85 d_X8_readDoing_78 rfl (fun zc78 => ?_) (fun zc78 => ?_)
    · exact absurd (zc4.symm.trans zc78) (by decide)
    · refine wp_iconst (v0 := 1) d_X8_readDoing_81 rfl ?_
      refine wp_goto 86 d_X8_readDoing_82 rfl ?_
      refine wp_istore_n [(2, .int (1)), (0, .ref (37)), (1, .int (nI (hd)))] d_X8_readDoing_86 rfl (Nat.le_of_ble_eq_true rfl) rfl ?_
      refine wp_aload_n 1 d_X8_readDoing_87 rfl rfl ?_
      refine wp_virtual0 (As := []) d_X8_readDoing_88 lk_X8_98 mv_X8_step in_X8_step se_X8_step (Nat.le_of_ble_eq_true rfl) (Nat.le_of_ble_eq_true rfl) (hp_37 _ _ _ _ _) rfl (s_X8_step hw hxy72 hjy72.1) (fun v88 h88 q88 => ?_)
      obtain ⟨rfl, u88, rfl, hx88⟩ := q88
      have hj88 := hjy72.step hw
      show WP _ _ _ _ _ 91 _ [] (HP c u88 m v E) _
      refine wp_iload_n 0 d_X8_readDoing_91 rfl rfl ?_
      refine wp_if_ne 96 d_X8_readDoing_92 rfl (fun _ => ?_) (fun z => absurd z (by decide))
      refine wp_aload_n 1 d_X8_readDoing_96 rfl rfl ?_
      refine wp_getfield (v := .int (W (qstep W (((p).1, (p).2.1, (p).2.2.1, upd (p).2.2.2 ((hd) + (1)) (1)))).1)) d_X8_readDoing_97 gf_X8_36 (hp_37 _ _ _ _ _) (congrArg (fun z => some (Value.int z)) hx88.1.2.1) ?_
      refine wp_sipush (v0 := 1000) d_X8_readDoing_100 (by decide) ?_
      refine wp_sipush (v0 := 1099) d_X8_readDoing_103 (by decide) ?_
      refine wp_stc_i (As := [.int (W (qstep W (((p).1, (p).2.1, (p).2.2.1, upd (p).2.2.2 ((hd) + (1)) (1)))).1), .int (1000), .int (1099)]) (x0 := kb (1000 ≤ (W (qstep W (((p).1, (p).2.1, (p).2.2.1, upd (p).2.2.2 ((hd) + (1)) (1)))).1 : Int32).toInt ∧ (W (qstep W (((p).1, (p).2.1, (p).2.2.1, upd (p).2.2.2 ((hd) + (1)) (1)))).1 : Int32).toInt ≤ 1099)) (h1 := HP c u88 m v E) d_X8_readDoing_106 lk_X8_105 mv_X9_isWithin st_X9_isWithin (Nat.le_of_ble_eq_true rfl) (Nat.le_of_ble_eq_true rfl) (s_X9_isWithin _ (W (qstep W (((p).1, (p).2.1, (p).2.2.1, upd (p).2.2.2 ((hd) + (1)) (1)))).1 : Int32) (1000 : Int32) (1099 : Int32)) ?_
      refine wp_ifb_ne 116 d_X8_readDoing_109 rfl (fun zc109 => ?_) (fun zc109 => ?_)
      · refine wp_aload_n 1 d_X8_readDoing_116 rfl rfl ?_
        refine wp_getfield (v := .ref (41)) d_X8_readDoing_117 gf_X8_23 (hp_37 _ _ _ _ _) rfl ?_
        refine wp_iload_n 2 d_X8_readDoing_120 rfl rfl ?_
        refine wp_iconst (v0 := 2) d_X8_readDoing_121 rfl ?_
        refine wp_iadd d_X8_readDoing_122 ?_
        refine wp_v (v0 := nI ((hd) + (2))) (nI_add (hd) (2)) ?_
        refine wp_aload_n 1 d_X8_readDoing_123 rfl rfl ?_
        refine wp_getfield (v := .int (W (qstep W (((p).1, (p).2.1, (p).2.2.1, upd (p).2.2.2 ((hd) + (1)) (1)))).1)) d_X8_readDoing_124 gf_X8_36 (hp_37 _ _ _ _ _) (congrArg (fun z => some (Value.int z)) hx88.1.2.1) ?_
        refine wp_sipush (v0 := 1000) d_X8_readDoing_127 (by decide) ?_
        refine wp_isub d_X8_readDoing_130 ?_
        refine wp_iastore (h' := HP c (setA u88 41 (upd (u88.2.1 41) ((hd) + (2)) ((W (qstep W (((p).1, (p).2.1, (p).2.2.1, upd (p).2.2.2 ((hd) + (1)) (1)))).1) - (1000)))) m v E) d_X8_readDoing_131 (hp_41 _ _ _ _ _) (vp_in_nI (by omega) (by omega)) (by rw [nI_clamp (by omega)]; exact (hpa_41 _ _ _ _ _ _)) ?_
        have hxy132 : kTx w W Z ((qstep W (((p).1, (p).2.1, (p).2.2.1, upd (p).2.2.2 ((hd) + (1)) (1)))).1, (qstep W (((p).1, (p).2.1, (p).2.2.1, upd (p).2.2.2 ((hd) + (1)) (1)))).2.1, (qstep W (((p).1, (p).2.1, (p).2.2.1, upd (p).2.2.2 ((hd) + (1)) (1)))).2.2.1, upd (qstep W (((p).1, (p).2.1, (p).2.2.1, upd (p).2.2.2 ((hd) + (1)) (1)))).2.2.2 ((hd) + (2)) ((W (qstep W (((p).1, (p).2.1, (p).2.2.1, upd (p).2.2.2 ((hd) + (1)) (1)))).1) - (1000))) (setA u88 41 (upd (u88.2.1 41) ((hd) + (2)) ((W (qstep W (((p).1, (p).2.1, (p).2.2.1, upd (p).2.2.2 ((hd) + (1)) (1)))).1) - (1000)))) := by rw [show (qstep W (((p).1, (p).2.1, (p).2.2.1, upd (p).2.2.2 ((hd) + (1)) (1)))).2.2.2 = u88.2.1 41 from hx88.1.2.2.2.2.1.symm]; exact hx88.code
        have hjy132 := hj88.code (upd (qstep W (((p).1, (p).2.1, (p).2.2.1, upd (p).2.2.2 ((hd) + (1)) (1)))).2.2.2 ((hd) + (2)) ((W (qstep W (((p).1, (p).2.1, (p).2.2.1, upd (p).2.2.2 ((hd) + (1)) (1)))).1) - (1000)))
        generalize (setA u88 41 (upd (u88.2.1 41) ((hd) + (2)) ((W (qstep W (((p).1, (p).2.1, (p).2.2.1, upd (p).2.2.2 ((hd) + (1)) (1)))).1) - (1000)))) = y132 at hxy132 ⊢
        refine wp_aload_n 1 d_X8_readDoing_132 rfl rfl ?_
        refine wp_virtual0 (As := []) d_X8_readDoing_133 lk_X8_98 mv_X8_step in_X8_step se_X8_step (Nat.le_of_ble_eq_true rfl) (Nat.le_of_ble_eq_true rfl) (hp_37 _ _ _ _ _) rfl (s_X8_step hw hxy132 hjy132.1) (fun v133 h133 q133 => ?_)
        obtain ⟨rfl, u133, rfl, hx133⟩ := q133
        have hj133 := hjy132.step hw
        show WP _ _ _ _ _ 136 _ [] (HP c u133 m v E) _
        refine wp_vret d_X8_readDoing_136 rfl ?_
        refine ⟨rfl, u133, rfl, ?_⟩
        rw [show qdo W Z hd p = qstep W (((qstep W (((p).1, (p).2.1, (p).2.2.1, upd (p).2.2.2 ((hd) + (1)) (1)))).1, (qstep W (((p).1, (p).2.1, (p).2.2.1, upd (p).2.2.2 ((hd) + (1)) (1)))).2.1, (qstep W (((p).1, (p).2.1, (p).2.2.1, upd (p).2.2.2 ((hd) + (1)) (1)))).2.2.1, upd (qstep W (((p).1, (p).2.1, (p).2.2.1, upd (p).2.2.2 ((hd) + (1)) (1)))).2.2.2 ((hd) + (2)) ((W (qstep W (((p).1, (p).2.1, (p).2.2.1, upd (p).2.2.2 ((hd) + (1)) (1)))).1) - (1000)))) from ?_]
        · exact hx133
        unfold qdo
        rw [if_neg (show ¬ W p.1 = 9 by rw [zc4]; decide)]
        rw [show qds W Z hd p = _ from by unfold qds; rw [if_neg zc4_7, if_pos zc4]]
        unfold qdm
        rw [if_pos zc109]
        rfl
      · refine wp_aload_n 1 d_X8_readDoing_112 rfl rfl ?_
        refine wp_virtual0 (As := []) d_X8_readDoing_113 lk_X8_48 mv_X8_fail in_X8_fail se_X8_fail (Nat.le_of_ble_eq_true rfl) (Nat.le_of_ble_eq_true rfl) (hp_37 _ _ _ _ _) rfl (s_X8_fail hw hx88 hj88.1) (fun v113 h113 q113 => ?_)
        obtain ⟨rfl, u113, rfl, hx113⟩ := q113
        have hj113 := hj88.fail (a1 := a) hw
        show WP _ _ _ _ _ 116 _ [] (HP c u113 m v E) _
        refine wp_aload_n 1 d_X8_readDoing_116 rfl rfl ?_
        refine wp_getfield (v := .ref (41)) d_X8_readDoing_117 gf_X8_23 (hp_37 _ _ _ _ _) rfl ?_
        refine wp_iload_n 2 d_X8_readDoing_120 rfl rfl ?_
        refine wp_iconst (v0 := 2) d_X8_readDoing_121 rfl ?_
        refine wp_iadd d_X8_readDoing_122 ?_
        refine wp_v (v0 := nI ((hd) + (2))) (nI_add (hd) (2)) ?_
        refine wp_aload_n 1 d_X8_readDoing_123 rfl rfl ?_
        refine wp_getfield (v := .int (W (qfail Z (qstep W (((p).1, (p).2.1, (p).2.2.1, upd (p).2.2.2 ((hd) + (1)) (1))))).1)) d_X8_readDoing_124 gf_X8_36 (hp_37 _ _ _ _ _) (congrArg (fun z => some (Value.int z)) hx113.1.2.1) ?_
        refine wp_sipush (v0 := 1000) d_X8_readDoing_127 (by decide) ?_
        refine wp_isub d_X8_readDoing_130 ?_
        refine wp_iastore (h' := HP c (setA u113 41 (upd (u113.2.1 41) ((hd) + (2)) ((W (qfail Z (qstep W (((p).1, (p).2.1, (p).2.2.1, upd (p).2.2.2 ((hd) + (1)) (1))))).1) - (1000)))) m v E) d_X8_readDoing_131 (hp_41 _ _ _ _ _) (vp_in_nI (by omega) (by omega)) (by rw [nI_clamp (by omega)]; exact (hpa_41 _ _ _ _ _ _)) ?_
        have hxy132 : kTx w W Z ((qfail Z (qstep W (((p).1, (p).2.1, (p).2.2.1, upd (p).2.2.2 ((hd) + (1)) (1))))).1, (qfail Z (qstep W (((p).1, (p).2.1, (p).2.2.1, upd (p).2.2.2 ((hd) + (1)) (1))))).2.1, (qfail Z (qstep W (((p).1, (p).2.1, (p).2.2.1, upd (p).2.2.2 ((hd) + (1)) (1))))).2.2.1, upd (qfail Z (qstep W (((p).1, (p).2.1, (p).2.2.1, upd (p).2.2.2 ((hd) + (1)) (1))))).2.2.2 ((hd) + (2)) ((W (qfail Z (qstep W (((p).1, (p).2.1, (p).2.2.1, upd (p).2.2.2 ((hd) + (1)) (1))))).1) - (1000))) (setA u113 41 (upd (u113.2.1 41) ((hd) + (2)) ((W (qfail Z (qstep W (((p).1, (p).2.1, (p).2.2.1, upd (p).2.2.2 ((hd) + (1)) (1))))).1) - (1000)))) := by rw [show (qfail Z (qstep W (((p).1, (p).2.1, (p).2.2.1, upd (p).2.2.2 ((hd) + (1)) (1))))).2.2.2 = u113.2.1 41 from hx113.1.2.2.2.2.1.symm]; exact hx113.code
        have hjy132 := hj113.code (upd (qfail Z (qstep W (((p).1, (p).2.1, (p).2.2.1, upd (p).2.2.2 ((hd) + (1)) (1))))).2.2.2 ((hd) + (2)) ((W (qfail Z (qstep W (((p).1, (p).2.1, (p).2.2.1, upd (p).2.2.2 ((hd) + (1)) (1))))).1) - (1000)))
        generalize (setA u113 41 (upd (u113.2.1 41) ((hd) + (2)) ((W (qfail Z (qstep W (((p).1, (p).2.1, (p).2.2.1, upd (p).2.2.2 ((hd) + (1)) (1))))).1) - (1000)))) = y132 at hxy132 ⊢
        refine wp_aload_n 1 d_X8_readDoing_132 rfl rfl ?_
        refine wp_virtual0 (As := []) d_X8_readDoing_133 lk_X8_98 mv_X8_step in_X8_step se_X8_step (Nat.le_of_ble_eq_true rfl) (Nat.le_of_ble_eq_true rfl) (hp_37 _ _ _ _ _) rfl (s_X8_step hw hxy132 hjy132.1) (fun v133 h133 q133 => ?_)
        obtain ⟨rfl, u133, rfl, hx133⟩ := q133
        have hj133 := hjy132.step hw
        show WP _ _ _ _ _ 136 _ [] (HP c u133 m v E) _
        refine wp_vret d_X8_readDoing_136 rfl ?_
        refine ⟨rfl, u133, rfl, ?_⟩
        rw [show qdo W Z hd p = qstep W (((qfail Z (qstep W (((p).1, (p).2.1, (p).2.2.1, upd (p).2.2.2 ((hd) + (1)) (1))))).1, (qfail Z (qstep W (((p).1, (p).2.1, (p).2.2.1, upd (p).2.2.2 ((hd) + (1)) (1))))).2.1, (qfail Z (qstep W (((p).1, (p).2.1, (p).2.2.1, upd (p).2.2.2 ((hd) + (1)) (1))))).2.2.1, upd (qfail Z (qstep W (((p).1, (p).2.1, (p).2.2.1, upd (p).2.2.2 ((hd) + (1)) (1))))).2.2.2 ((hd) + (2)) ((W (qfail Z (qstep W (((p).1, (p).2.1, (p).2.2.1, upd (p).2.2.2 ((hd) + (1)) (1))))).1) - (1000)))) from ?_]
        · exact hx133
        unfold qdo
        rw [if_neg (show ¬ W p.1 = 9 by rw [zc4]; decide)]
        rw [show qds W Z hd p = _ from by unfold qds; rw [if_neg zc4_7, if_pos zc4]]
        unfold qdm
        rw [if_neg zc109]
        rfl
  refine wp_if (P := (W (p).1) = 9) (fun zc4 => ?_) (fun zc4_9 => ?_)
  · refine wp_tableIn 56 d_X8_readDoing_4 (by rw [zc4] <;> decide) (by rw [zc4] <;> decide) (by rw [zc4] <;> rfl) rfl ?_
    refine wp_aload_n 0 d_X8_readDoing_56 rfl rfl ?_
    refine wp_getfield (v := .ref (41)) d_X8_readDoing_57 gf_X8_23 (hp_37 _ _ _ _ _) rfl ?_
    refine wp_iload_n 1 d_X8_readDoing_60 rfl rfl ?_
    refine wp_iconst (v0 := 1) d_X8_readDoing_61 rfl ?_
    refine wp_iadd d_X8_readDoing_62 ?_
    refine wp_v (v0 := nI ((hd) + (1))) (nI_add (hd) (1)) ?_
    refine wp_iconst (v0 := 2) d_X8_readDoing_63 rfl ?_
    refine wp_iastore (h' := HP c (setA u 41 (upd (u.2.1 41) ((hd) + (1)) (2))) m v E) d_X8_readDoing_64 (hp_41 _ _ _ _ _) (vp_in_nI (by omega) (by omega)) (by rw [nI_clamp (by omega)]; exact (hpa_41 _ _ _ _ _ _)) ?_
    refine wp_goto 72 d_X8_readDoing_65 rfl ?_
    have hxy72 : kTx w W Z ((p).1, (p).2.1, (p).2.2.1, upd (p).2.2.2 ((hd) + (1)) (2)) (setA u 41 (upd (u.2.1 41) ((hd) + (1)) (2))) := by rw [show (p).2.2.2 = u.2.1 41 from hx.1.2.2.2.2.1.symm]; exact hx.code
    have hjy72 := hj.code (upd (p).2.2.2 ((hd) + (1)) (2))
    generalize (setA u 41 (upd (u.2.1 41) ((hd) + (1)) (2))) = y72 at hxy72 ⊢
    refine wp_aload_n 0 d_X8_readDoing_72 rfl rfl ?_
    refine wp_getfield (v := .int (W (((p).1, (p).2.1, (p).2.2.1, upd (p).2.2.2 ((hd) + (1)) (2))).1)) d_X8_readDoing_73 gf_X8_36 (hp_37 _ _ _ _ _) (congrArg (fun z => some (Value.int z)) hxy72.1.2.1) ?_
    refine wp_bipush (v0 := 9) d_X8_readDoing_76 (by decide) ?_
    refine wp_icmp_eq 85 d_X8_readDoing_78 rfl (fun zc78 => ?_) (fun zc78 => ?_)
    · refine wp_iconst (v0 := 0) d_X8_readDoing_85 rfl ?_
      refine wp_istore_n [(2, .int (0)), (0, .ref (37)), (1, .int (nI (hd)))] d_X8_readDoing_86 rfl (Nat.le_of_ble_eq_true rfl) rfl ?_
      refine wp_aload_n 1 d_X8_readDoing_87 rfl rfl ?_
      refine wp_virtual0 (As := []) d_X8_readDoing_88 lk_X8_98 mv_X8_step in_X8_step se_X8_step (Nat.le_of_ble_eq_true rfl) (Nat.le_of_ble_eq_true rfl) (hp_37 _ _ _ _ _) rfl (s_X8_step hw hxy72 hjy72.1) (fun v88 h88 q88 => ?_)
      obtain ⟨rfl, u88, rfl, hx88⟩ := q88
      have hj88 := hjy72.step hw
      show WP _ _ _ _ _ 91 _ [] (HP c u88 m v E) _
      refine wp_iload_n 0 d_X8_readDoing_91 rfl rfl ?_
      refine wp_if_ne 96 d_X8_readDoing_92 rfl (fun z => absurd z (by decide)) (fun _ => ?_)
      refine wp_vret d_X8_readDoing_95 rfl ?_
      refine ⟨rfl, u88, rfl, ?_⟩
      rw [show qdo W Z hd p = qstep W (((p).1, (p).2.1, (p).2.2.1, upd (p).2.2.2 ((hd) + (1)) (2))) from ?_]
      · exact hx88
      unfold qdo
      rw [if_pos zc4]
    · exact absurd zc4 zc78
  refine wp_swd_X8_readDoing_4 zc4_7 zc4_8 zc4_9 ?_
  refine wp_aload_n 0 d_X8_readDoing_68 rfl rfl ?_
  refine wp_virtual0 (As := []) d_X8_readDoing_69 lk_X8_48 mv_X8_fail in_X8_fail se_X8_fail (Nat.le_of_ble_eq_true rfl) (Nat.le_of_ble_eq_true rfl) (hp_37 _ _ _ _ _) rfl (s_X8_fail hw hx hj.1) (fun v69 h69 q69 => ?_)
  obtain ⟨rfl, u69, rfl, hx69⟩ := q69
  have hj69 := hj.fail (a1 := a) hw
  show WP _ _ _ _ _ 72 _ [] (HP c u69 m v E) _
  refine wp_aload_n 0 d_X8_readDoing_72 rfl rfl ?_
  refine wp_getfield (v := .int (W (qfail Z (p)).1)) d_X8_readDoing_73 gf_X8_36 (hp_37 _ _ _ _ _) (congrArg (fun z => some (Value.int z)) hx69.1.2.1) ?_
  refine wp_bipush (v0 := 9) d_X8_readDoing_76 (by decide) ?_
  refine wp_icmp_eq 85 d_X8_readDoing_78 rfl (fun zc78 => ?_) (fun zc78 => ?_)
  · exact absurd ((congrArg W (qfail_L Z p)).symm.trans zc78) zc4_9
  · refine wp_iconst (v0 := 1) d_X8_readDoing_81 rfl ?_
    refine wp_goto 86 d_X8_readDoing_82 rfl ?_
    refine wp_istore_n [(2, .int (1)), (0, .ref (37)), (1, .int (nI (hd)))] d_X8_readDoing_86 rfl (Nat.le_of_ble_eq_true rfl) rfl ?_
    refine wp_aload_n 1 d_X8_readDoing_87 rfl rfl ?_
    refine wp_virtual0 (As := []) d_X8_readDoing_88 lk_X8_98 mv_X8_step in_X8_step se_X8_step (Nat.le_of_ble_eq_true rfl) (Nat.le_of_ble_eq_true rfl) (hp_37 _ _ _ _ _) rfl (s_X8_step hw hx69 hj69.1) (fun v88 h88 q88 => ?_)
    obtain ⟨rfl, u88, rfl, hx88⟩ := q88
    have hj88 := hj69.step hw
    show WP _ _ _ _ _ 91 _ [] (HP c u88 m v E) _
    refine wp_iload_n 0 d_X8_readDoing_91 rfl rfl ?_
    refine wp_if_ne 96 d_X8_readDoing_92 rfl (fun _ => ?_) (fun z => absurd z (by decide))
    refine wp_aload_n 1 d_X8_readDoing_96 rfl rfl ?_
    refine wp_getfield (v := .int (W (qstep W (qfail Z (p))).1)) d_X8_readDoing_97 gf_X8_36 (hp_37 _ _ _ _ _) (congrArg (fun z => some (Value.int z)) hx88.1.2.1) ?_
    refine wp_sipush (v0 := 1000) d_X8_readDoing_100 (by decide) ?_
    refine wp_sipush (v0 := 1099) d_X8_readDoing_103 (by decide) ?_
    refine wp_stc_i (As := [.int (W (qstep W (qfail Z (p))).1), .int (1000), .int (1099)]) (x0 := kb (1000 ≤ (W (qstep W (qfail Z (p))).1 : Int32).toInt ∧ (W (qstep W (qfail Z (p))).1 : Int32).toInt ≤ 1099)) (h1 := HP c u88 m v E) d_X8_readDoing_106 lk_X8_105 mv_X9_isWithin st_X9_isWithin (Nat.le_of_ble_eq_true rfl) (Nat.le_of_ble_eq_true rfl) (s_X9_isWithin _ (W (qstep W (qfail Z (p))).1 : Int32) (1000 : Int32) (1099 : Int32)) ?_
    refine wp_ifb_ne 116 d_X8_readDoing_109 rfl (fun zc109 => ?_) (fun zc109 => ?_)
    · refine wp_aload_n 1 d_X8_readDoing_116 rfl rfl ?_
      refine wp_getfield (v := .ref (41)) d_X8_readDoing_117 gf_X8_23 (hp_37 _ _ _ _ _) rfl ?_
      refine wp_iload_n 2 d_X8_readDoing_120 rfl rfl ?_
      refine wp_iconst (v0 := 2) d_X8_readDoing_121 rfl ?_
      refine wp_iadd d_X8_readDoing_122 ?_
      refine wp_v (v0 := nI ((hd) + (2))) (nI_add (hd) (2)) ?_
      refine wp_aload_n 1 d_X8_readDoing_123 rfl rfl ?_
      refine wp_getfield (v := .int (W (qstep W (qfail Z (p))).1)) d_X8_readDoing_124 gf_X8_36 (hp_37 _ _ _ _ _) (congrArg (fun z => some (Value.int z)) hx88.1.2.1) ?_
      refine wp_sipush (v0 := 1000) d_X8_readDoing_127 (by decide) ?_
      refine wp_isub d_X8_readDoing_130 ?_
      refine wp_iastore (h' := HP c (setA u88 41 (upd (u88.2.1 41) ((hd) + (2)) ((W (qstep W (qfail Z (p))).1) - (1000)))) m v E) d_X8_readDoing_131 (hp_41 _ _ _ _ _) (vp_in_nI (by omega) (by omega)) (by rw [nI_clamp (by omega)]; exact (hpa_41 _ _ _ _ _ _)) ?_
      have hxy132 : kTx w W Z ((qstep W (qfail Z (p))).1, (qstep W (qfail Z (p))).2.1, (qstep W (qfail Z (p))).2.2.1, upd (qstep W (qfail Z (p))).2.2.2 ((hd) + (2)) ((W (qstep W (qfail Z (p))).1) - (1000))) (setA u88 41 (upd (u88.2.1 41) ((hd) + (2)) ((W (qstep W (qfail Z (p))).1) - (1000)))) := by rw [show (qstep W (qfail Z (p))).2.2.2 = u88.2.1 41 from hx88.1.2.2.2.2.1.symm]; exact hx88.code
      have hjy132 := hj88.code (upd (qstep W (qfail Z (p))).2.2.2 ((hd) + (2)) ((W (qstep W (qfail Z (p))).1) - (1000)))
      generalize (setA u88 41 (upd (u88.2.1 41) ((hd) + (2)) ((W (qstep W (qfail Z (p))).1) - (1000)))) = y132 at hxy132 ⊢
      refine wp_aload_n 1 d_X8_readDoing_132 rfl rfl ?_
      refine wp_virtual0 (As := []) d_X8_readDoing_133 lk_X8_98 mv_X8_step in_X8_step se_X8_step (Nat.le_of_ble_eq_true rfl) (Nat.le_of_ble_eq_true rfl) (hp_37 _ _ _ _ _) rfl (s_X8_step hw hxy132 hjy132.1) (fun v133 h133 q133 => ?_)
      obtain ⟨rfl, u133, rfl, hx133⟩ := q133
      have hj133 := hjy132.step hw
      show WP _ _ _ _ _ 136 _ [] (HP c u133 m v E) _
      refine wp_vret d_X8_readDoing_136 rfl ?_
      refine ⟨rfl, u133, rfl, ?_⟩
      rw [show qdo W Z hd p = qstep W (((qstep W (qfail Z (p))).1, (qstep W (qfail Z (p))).2.1, (qstep W (qfail Z (p))).2.2.1, upd (qstep W (qfail Z (p))).2.2.2 ((hd) + (2)) ((W (qstep W (qfail Z (p))).1) - (1000)))) from ?_]
      · exact hx133
      unfold qdo
      rw [if_neg zc4_9]
      rw [show qds W Z hd p = _ from by unfold qds; rw [if_neg zc4_7, if_neg zc4_8]]
      unfold qdm
      rw [if_pos zc109]
      rfl
    · refine wp_aload_n 1 d_X8_readDoing_112 rfl rfl ?_
      refine wp_virtual0 (As := []) d_X8_readDoing_113 lk_X8_48 mv_X8_fail in_X8_fail se_X8_fail (Nat.le_of_ble_eq_true rfl) (Nat.le_of_ble_eq_true rfl) (hp_37 _ _ _ _ _) rfl (s_X8_fail hw hx88 hj88.1) (fun v113 h113 q113 => ?_)
      obtain ⟨rfl, u113, rfl, hx113⟩ := q113
      have hj113 := hj88.fail (a1 := a) hw
      show WP _ _ _ _ _ 116 _ [] (HP c u113 m v E) _
      refine wp_aload_n 1 d_X8_readDoing_116 rfl rfl ?_
      refine wp_getfield (v := .ref (41)) d_X8_readDoing_117 gf_X8_23 (hp_37 _ _ _ _ _) rfl ?_
      refine wp_iload_n 2 d_X8_readDoing_120 rfl rfl ?_
      refine wp_iconst (v0 := 2) d_X8_readDoing_121 rfl ?_
      refine wp_iadd d_X8_readDoing_122 ?_
      refine wp_v (v0 := nI ((hd) + (2))) (nI_add (hd) (2)) ?_
      refine wp_aload_n 1 d_X8_readDoing_123 rfl rfl ?_
      refine wp_getfield (v := .int (W (qfail Z (qstep W (qfail Z (p)))).1)) d_X8_readDoing_124 gf_X8_36 (hp_37 _ _ _ _ _) (congrArg (fun z => some (Value.int z)) hx113.1.2.1) ?_
      refine wp_sipush (v0 := 1000) d_X8_readDoing_127 (by decide) ?_
      refine wp_isub d_X8_readDoing_130 ?_
      refine wp_iastore (h' := HP c (setA u113 41 (upd (u113.2.1 41) ((hd) + (2)) ((W (qfail Z (qstep W (qfail Z (p)))).1) - (1000)))) m v E) d_X8_readDoing_131 (hp_41 _ _ _ _ _) (vp_in_nI (by omega) (by omega)) (by rw [nI_clamp (by omega)]; exact (hpa_41 _ _ _ _ _ _)) ?_
      have hxy132 : kTx w W Z ((qfail Z (qstep W (qfail Z (p)))).1, (qfail Z (qstep W (qfail Z (p)))).2.1, (qfail Z (qstep W (qfail Z (p)))).2.2.1, upd (qfail Z (qstep W (qfail Z (p)))).2.2.2 ((hd) + (2)) ((W (qfail Z (qstep W (qfail Z (p)))).1) - (1000))) (setA u113 41 (upd (u113.2.1 41) ((hd) + (2)) ((W (qfail Z (qstep W (qfail Z (p)))).1) - (1000)))) := by rw [show (qfail Z (qstep W (qfail Z (p)))).2.2.2 = u113.2.1 41 from hx113.1.2.2.2.2.1.symm]; exact hx113.code
      have hjy132 := hj113.code (upd (qfail Z (qstep W (qfail Z (p)))).2.2.2 ((hd) + (2)) ((W (qfail Z (qstep W (qfail Z (p)))).1) - (1000)))
      generalize (setA u113 41 (upd (u113.2.1 41) ((hd) + (2)) ((W (qfail Z (qstep W (qfail Z (p)))).1) - (1000)))) = y132 at hxy132 ⊢
      refine wp_aload_n 1 d_X8_readDoing_132 rfl rfl ?_
      refine wp_virtual0 (As := []) d_X8_readDoing_133 lk_X8_98 mv_X8_step in_X8_step se_X8_step (Nat.le_of_ble_eq_true rfl) (Nat.le_of_ble_eq_true rfl) (hp_37 _ _ _ _ _) rfl (s_X8_step hw hxy132 hjy132.1) (fun v133 h133 q133 => ?_)
      obtain ⟨rfl, u133, rfl, hx133⟩ := q133
      have hj133 := hjy132.step hw
      show WP _ _ _ _ _ 136 _ [] (HP c u133 m v E) _
      refine wp_vret d_X8_readDoing_136 rfl ?_
      refine ⟨rfl, u133, rfl, ?_⟩
      rw [show qdo W Z hd p = qstep W (((qfail Z (qstep W (qfail Z (p)))).1, (qfail Z (qstep W (qfail Z (p)))).2.1, (qfail Z (qstep W (qfail Z (p)))).2.2.1, upd (qfail Z (qstep W (qfail Z (p)))).2.2.2 ((hd) + (2)) ((W (qfail Z (qstep W (qfail Z (p)))).1) - (1000)))) from ?_]
      · exact hx133
      unfold qdo
      rw [if_neg zc4_9]
      rw [show qds W Z hd p = _ from by unfold qds; rw [if_neg zc4_7, if_neg zc4_8]]
      unfold qdm
      rw [if_neg zc109]
      rfl
def q4 (p : kQt) : kQt := qemit 0 (qemit 0 (qemit 0 (qemit 0 p)))
def qcd (h : Nat) (x : Int32) (p : kQt) : kQt := (p.1, p.2.1, p.2.2.1, upd p.2.2.2 h x)
def qrk (W Z : Nat → Int32) (p : kQt) : kQt := if 0 ≤ (W p.1).toInt ∧ (W p.1).toInt ≤ 5 then p else qfail Z p
def qrc (W Z : Nat → Int32) (p : kQt) : kQt := if W p.1 = 6 then qcond W Z 3 (qstep W p) else p
def qr1 (W Z : Nat → Int32) (h : Nat) (p : kQt) : kQt := qrc W Z (qstep W (qcd h (W (qrk W Z (q4 p)).1) (qrk W Z (q4 p))))
def qrule (W Z : Nat → Int32) (p : kQt) : kQt := qexp W Z 59 (qdo W Z p.2.2.1 (qcd (p.2.2.1 + 3) (nI (qr1 W Z p.2.2.1 p).2.2.1 - nI p.2.2.1 - 4) (qr1 W Z p.2.2.1 p)))
theorem kJ.rule {W Z : Nat → Int32} {N : Nat} {a : Int} {p : kQt} (hw : kW0 W Z N) (h : kJ W N a p) : kJ W N (a - 4) (qrule W Z p) := by
  have h1 : kJ W N (a - 4) (q4 p) := (((h.emitm.emitm).emitm).emitm).mono (by omega)
  have h2 : kJ W N (a - 4) (qrk W Z (q4 p)) := by
    unfold qrk
    split
    · exact h1
    · exact h1.fail hw
  have h3 : kJ W N (a - 4) (qr1 W Z p.2.2.1 p) := by
    unfold qr1 qrc
    split
    · exact kGd.cond hw 3 _ _ (kJ.step hw (kJ.step hw (kJ.code _ h2)))
    · exact kJ.step hw (kJ.code _ h2)
  exact kJ.exp hw (kJ.dow hw (kJ.code _ h3))
theorem s_X8_readRule {X : kX} {d : Nat} {c w m v : kZ} {E : kH} {W Z : Nat → Int32} {N : Nat} (hw : kW0 W Z N) {p : kQt} {u : kZ} (hx : kTx w W Z p u) {a : Int} (hj : kJ W N a p) (hh : p.2.2.1 + 4 ≤ 232) : WP X (d + 14) 0 0 Y_X8_readRule 0 [(0, .ref (37))] [] (HP c u m v E) (fun r1 h1 => r1 = none ∧ ∃ u1 : kZ, h1 = HP c u1 m v E ∧ kTx w W Z (qrule W Z p) u1) := by
  refine wp_aload_n 0 d_X8_readRule_0 rfl rfl ?_
  refine wp_getfield (v := .int (nI ((p).2.2.1))) d_X8_readRule_1 gf_X8_42 (hp_37 _ _ _ _ _) (congrArg (fun z => some (Value.int z)) hx.1.2.2.2.1) ?_
  refine wp_istore_n [(1, .int (nI ((p).2.2.1))), (0, .ref (37))] d_X8_readRule_4 rfl (Nat.le_of_ble_eq_true rfl) rfl ?_
  refine wp_iconst (v0 := 0) d_X8_readRule_5 rfl ?_
  refine wp_istore_n [(2, .int (0)), (1, .int (nI ((p).2.2.1))), (0, .ref (37))] d_X8_readRule_6 rfl (Nat.le_of_ble_eq_true rfl) rfl ?_
  refine wp_iload_n 0 d_X8_readRule_7 rfl rfl ?_
  refine wp_iconst (v0 := 4) d_X8_readRule_8 rfl ?_
  refine wp_icmp_ge 23 d_X8_readRule_9 rfl (fun z => absurd z (by decide)) (fun _ => ?_)
  refine wp_aload_n 2 d_X8_readRule_12 rfl rfl ?_
  refine wp_iconst (v0 := 0) d_X8_readRule_13 rfl ?_
  refine wp_virtual0 (As := [.int (0)]) d_X8_readRule_14 lk_X8_101 mv_X8_emit in_X8_emit se_X8_emit (Nat.le_of_ble_eq_true rfl) (Nat.le_of_ble_eq_true rfl) (hp_37 _ _ _ _ _) rfl (s_X8_emit hx hj.2.1 (0)) (fun v14 h14 q14 => ?_)
  obtain ⟨rfl, u14, rfl, hx14⟩ := q14
  have hj14 := hj.emitm (x := 0)
  show WP _ _ _ _ _ 17 _ [] (HP c u14 m v E) _
  refine wp_iinc (v0 := 1) [(2, .int (1)), (1, .int (nI ((p).2.2.1))), (0, .ref (37))] 0 d_X8_readRule_17 rfl (by decide) (Nat.le_of_ble_eq_true rfl) rfl ?_
  refine wp_goto 7 d_X8_readRule_20 rfl ?_
  refine wp_iload_n 0 d_X8_readRule_7 rfl rfl ?_
  refine wp_iconst (v0 := 4) d_X8_readRule_8 rfl ?_
  refine wp_icmp_ge 23 d_X8_readRule_9 rfl (fun z => absurd z (by decide)) (fun _ => ?_)
  refine wp_aload_n 2 d_X8_readRule_12 rfl rfl ?_
  refine wp_iconst (v0 := 0) d_X8_readRule_13 rfl ?_
  refine wp_virtual0 (As := [.int (0)]) d_X8_readRule_14 lk_X8_101 mv_X8_emit in_X8_emit se_X8_emit (Nat.le_of_ble_eq_true rfl) (Nat.le_of_ble_eq_true rfl) (hp_37 _ _ _ _ _) rfl (s_X8_emit hx14 hj14.2.1 (0)) (fun v14 h14 q14 => ?_)
  obtain ⟨rfl, u14, rfl, hx14⟩ := q14
  have hj14 := hj14.emitm (x := 0)
  show WP _ _ _ _ _ 17 _ [] (HP c u14 m v E) _
  refine wp_iinc (v0 := 2) [(2, .int (2)), (1, .int (nI ((p).2.2.1))), (0, .ref (37))] 0 d_X8_readRule_17 rfl (by decide) (Nat.le_of_ble_eq_true rfl) rfl ?_
  refine wp_goto 7 d_X8_readRule_20 rfl ?_
  refine wp_iload_n 0 d_X8_readRule_7 rfl rfl ?_
  refine wp_iconst (v0 := 4) d_X8_readRule_8 rfl ?_
  refine wp_icmp_ge 23 d_X8_readRule_9 rfl (fun z => absurd z (by decide)) (fun _ => ?_)
  refine wp_aload_n 2 d_X8_readRule_12 rfl rfl ?_
  refine wp_iconst (v0 := 0) d_X8_readRule_13 rfl ?_
  refine wp_virtual0 (As := [.int (0)]) d_X8_readRule_14 lk_X8_101 mv_X8_emit in_X8_emit se_X8_emit (Nat.le_of_ble_eq_true rfl) (Nat.le_of_ble_eq_true rfl) (hp_37 _ _ _ _ _) rfl (s_X8_emit hx14 hj14.2.1 (0)) (fun v14 h14 q14 => ?_)
  obtain ⟨rfl, u14, rfl, hx14⟩ := q14
  have hj14 := hj14.emitm (x := 0)
  show WP _ _ _ _ _ 17 _ [] (HP c u14 m v E) _
  refine wp_iinc (v0 := 3) [(2, .int (3)), (1, .int (nI ((p).2.2.1))), (0, .ref (37))] 0 d_X8_readRule_17 rfl (by decide) (Nat.le_of_ble_eq_true rfl) rfl ?_
  refine wp_goto 7 d_X8_readRule_20 rfl ?_
  refine wp_iload_n 0 d_X8_readRule_7 rfl rfl ?_
  refine wp_iconst (v0 := 4) d_X8_readRule_8 rfl ?_
  refine wp_icmp_ge 23 d_X8_readRule_9 rfl (fun z => absurd z (by decide)) (fun _ => ?_)
  refine wp_aload_n 2 d_X8_readRule_12 rfl rfl ?_
  refine wp_iconst (v0 := 0) d_X8_readRule_13 rfl ?_
  refine wp_virtual0 (As := [.int (0)]) d_X8_readRule_14 lk_X8_101 mv_X8_emit in_X8_emit se_X8_emit (Nat.le_of_ble_eq_true rfl) (Nat.le_of_ble_eq_true rfl) (hp_37 _ _ _ _ _) rfl (s_X8_emit hx14 hj14.2.1 (0)) (fun v14 h14 q14 => ?_)
  obtain ⟨rfl, u14, rfl, hx14⟩ := q14
  have hj14 := hj14.emitm (x := 0)
  show WP _ _ _ _ _ 17 _ [] (HP c u14 m v E) _
  refine wp_iinc (v0 := 4) [(2, .int (4)), (1, .int (nI ((p).2.2.1))), (0, .ref (37))] 0 d_X8_readRule_17 rfl (by decide) (Nat.le_of_ble_eq_true rfl) rfl ?_
  refine wp_goto 7 d_X8_readRule_20 rfl ?_
  refine wp_iload_n 0 d_X8_readRule_7 rfl rfl ?_
  refine wp_iconst (v0 := 4) d_X8_readRule_8 rfl ?_
  refine wp_icmp_ge 23 d_X8_readRule_9 rfl (fun _ => ?_) (fun z => absurd z (by decide))
  refine wp_aload_n 2 d_X8_readRule_23 rfl rfl ?_
  refine wp_getfield (v := .int (W (qemit (0) (qemit (0) (qemit (0) (qemit (0) (p))))).1)) d_X8_readRule_24 gf_X8_36 (hp_37 _ _ _ _ _) (congrArg (fun z => some (Value.int z)) hx14.1.2.1) ?_
  refine wp_iconst (v0 := 0) d_X8_readRule_27 rfl ?_
  refine wp_iconst (v0 := 5) d_X8_readRule_28 rfl ?_
  refine wp_stc_i (As := [.int (W (qemit (0) (qemit (0) (qemit (0) (qemit (0) (p))))).1), .int (0), .int (5)]) (x0 := kb (0 ≤ (W (qemit (0) (qemit (0) (qemit (0) (qemit (0) (p))))).1 : Int32).toInt ∧ (W (qemit (0) (qemit (0) (qemit (0) (qemit (0) (p))))).1 : Int32).toInt ≤ 5)) (h1 := HP c u14 m v E) d_X8_readRule_29 lk_X8_105 mv_X9_isWithin st_X9_isWithin (Nat.le_of_ble_eq_true rfl) (Nat.le_of_ble_eq_true rfl) (s_X9_isWithin _ (W (qemit (0) (qemit (0) (qemit (0) (qemit (0) (p))))).1 : Int32) (0 : Int32) (5 : Int32)) ?_
  refine wp_ifb_ne 39 d_X8_readRule_32 rfl (fun zc32 => ?_) (fun zc32 => ?_)
  · refine wp_aload_n 2 d_X8_readRule_39 rfl rfl ?_
    refine wp_getfield (v := .ref (41)) d_X8_readRule_40 gf_X8_23 (hp_37 _ _ _ _ _) rfl ?_
    refine wp_iload_n 1 d_X8_readRule_43 rfl rfl ?_
    refine wp_aload_n 2 d_X8_readRule_44 rfl rfl ?_
    refine wp_getfield (v := .int (W (qemit (0) (qemit (0) (qemit (0) (qemit (0) (p))))).1)) d_X8_readRule_45 gf_X8_36 (hp_37 _ _ _ _ _) (congrArg (fun z => some (Value.int z)) hx14.1.2.1) ?_
    refine wp_iastore (h' := HP c (setA u14 41 (upd (u14.2.1 41) ((p).2.2.1) (W (qemit (0) (qemit (0) (qemit (0) (qemit (0) (p))))).1))) m v E) d_X8_readRule_48 (hp_41 _ _ _ _ _) (vp_in_nI (by omega) (by omega)) (by rw [nI_clamp (by omega)]; exact (hpa_41 _ _ _ _ _ _)) ?_
    have hxy49 : kTx w W Z ((qemit (0) (qemit (0) (qemit (0) (qemit (0) (p))))).1, (qemit (0) (qemit (0) (qemit (0) (qemit (0) (p))))).2.1, (qemit (0) (qemit (0) (qemit (0) (qemit (0) (p))))).2.2.1, upd (qemit (0) (qemit (0) (qemit (0) (qemit (0) (p))))).2.2.2 ((p).2.2.1) (W (qemit (0) (qemit (0) (qemit (0) (qemit (0) (p))))).1)) (setA u14 41 (upd (u14.2.1 41) ((p).2.2.1) (W (qemit (0) (qemit (0) (qemit (0) (qemit (0) (p))))).1))) := by rw [show (qemit (0) (qemit (0) (qemit (0) (qemit (0) (p))))).2.2.2 = u14.2.1 41 from hx14.1.2.2.2.2.1.symm]; exact hx14.code
    have hjy49 := hj14.code (upd (qemit (0) (qemit (0) (qemit (0) (qemit (0) (p))))).2.2.2 ((p).2.2.1) (W (qemit (0) (qemit (0) (qemit (0) (qemit (0) (p))))).1))
    generalize (setA u14 41 (upd (u14.2.1 41) ((p).2.2.1) (W (qemit (0) (qemit (0) (qemit (0) (qemit (0) (p))))).1))) = y49 at hxy49 ⊢
    refine wp_aload_n 2 d_X8_readRule_49 rfl rfl ?_
    refine wp_virtual0 (As := []) d_X8_readRule_50 lk_X8_98 mv_X8_step in_X8_step se_X8_step (Nat.le_of_ble_eq_true rfl) (Nat.le_of_ble_eq_true rfl) (hp_37 _ _ _ _ _) rfl (s_X8_step hw hxy49 hjy49.1) (fun v50 h50 q50 => ?_)
    obtain ⟨rfl, u50, rfl, hx50⟩ := q50
    have hj50 := hjy49.step hw
    show WP _ _ _ _ _ 53 _ [] (HP c u50 m v E) _
    refine wp_aload_n 2 d_X8_readRule_53 rfl rfl ?_
    refine wp_getfield (v := .int (W (qstep W (((qemit (0) (qemit (0) (qemit (0) (qemit (0) (p))))).1, (qemit (0) (qemit (0) (qemit (0) (qemit (0) (p))))).2.1, (qemit (0) (qemit (0) (qemit (0) (qemit (0) (p))))).2.2.1, upd (qemit (0) (qemit (0) (qemit (0) (qemit (0) (p))))).2.2.2 ((p).2.2.1) (W (qemit (0) (qemit (0) (qemit (0) (qemit (0) (p))))).1)))).1)) d_X8_readRule_54 gf_X8_36 (hp_37 _ _ _ _ _) (congrArg (fun z => some (Value.int z)) hx50.1.2.1) ?_
    refine wp_bipush (v0 := 6) d_X8_readRule_57 (by decide) ?_
    refine wp_icmp_ne 71 d_X8_readRule_59 rfl (fun zc59 => ?_) (fun zc59 => ?_)
    · refine wp_aload_n 2 d_X8_readRule_71 rfl rfl ?_
      refine wp_getfield (v := .ref (41)) d_X8_readRule_72 gf_X8_23 (hp_37 _ _ _ _ _) rfl ?_
      refine wp_iload_n 1 d_X8_readRule_75 rfl rfl ?_
      refine wp_iconst (v0 := 3) d_X8_readRule_76 rfl ?_
      refine wp_iadd d_X8_readRule_77 ?_
      refine wp_v (v0 := nI (((p).2.2.1) + (3))) (nI_add ((p).2.2.1) (3)) ?_
      refine wp_aload_n 2 d_X8_readRule_78 rfl rfl ?_
      refine wp_getfield (v := .int (nI (qstep W (((qemit (0) (qemit (0) (qemit (0) (qemit (0) (p))))).1, (qemit (0) (qemit (0) (qemit (0) (qemit (0) (p))))).2.1, (qemit (0) (qemit (0) (qemit (0) (qemit (0) (p))))).2.2.1, upd (qemit (0) (qemit (0) (qemit (0) (qemit (0) (p))))).2.2.2 ((p).2.2.1) (W (qemit (0) (qemit (0) (qemit (0) (qemit (0) (p))))).1)))).2.2.1)) d_X8_readRule_79 gf_X8_42 (hp_37 _ _ _ _ _) (congrArg (fun z => some (Value.int z)) hx50.1.2.2.2.1) ?_
      refine wp_iload_n 1 d_X8_readRule_82 rfl rfl ?_
      refine wp_isub d_X8_readRule_83 ?_
      refine wp_iconst (v0 := 4) d_X8_readRule_84 rfl ?_
      refine wp_isub d_X8_readRule_85 ?_
      refine wp_iastore (h' := HP c (setA u50 41 (upd (u50.2.1 41) (((p).2.2.1) + (3)) (((nI (qstep W (((qemit (0) (qemit (0) (qemit (0) (qemit (0) (p))))).1, (qemit (0) (qemit (0) (qemit (0) (qemit (0) (p))))).2.1, (qemit (0) (qemit (0) (qemit (0) (qemit (0) (p))))).2.2.1, upd (qemit (0) (qemit (0) (qemit (0) (qemit (0) (p))))).2.2.2 ((p).2.2.1) (W (qemit (0) (qemit (0) (qemit (0) (qemit (0) (p))))).1)))).2.2.1) - (nI ((p).2.2.1))) - (4)))) m v E) d_X8_readRule_86 (hp_41 _ _ _ _ _) (vp_in_nI (by omega) (by omega)) (by rw [nI_clamp (by omega)]; exact (hpa_41 _ _ _ _ _ _)) ?_
      have hxy87 : kTx w W Z ((qstep W (((qemit (0) (qemit (0) (qemit (0) (qemit (0) (p))))).1, (qemit (0) (qemit (0) (qemit (0) (qemit (0) (p))))).2.1, (qemit (0) (qemit (0) (qemit (0) (qemit (0) (p))))).2.2.1, upd (qemit (0) (qemit (0) (qemit (0) (qemit (0) (p))))).2.2.2 ((p).2.2.1) (W (qemit (0) (qemit (0) (qemit (0) (qemit (0) (p))))).1)))).1, (qstep W (((qemit (0) (qemit (0) (qemit (0) (qemit (0) (p))))).1, (qemit (0) (qemit (0) (qemit (0) (qemit (0) (p))))).2.1, (qemit (0) (qemit (0) (qemit (0) (qemit (0) (p))))).2.2.1, upd (qemit (0) (qemit (0) (qemit (0) (qemit (0) (p))))).2.2.2 ((p).2.2.1) (W (qemit (0) (qemit (0) (qemit (0) (qemit (0) (p))))).1)))).2.1, (qstep W (((qemit (0) (qemit (0) (qemit (0) (qemit (0) (p))))).1, (qemit (0) (qemit (0) (qemit (0) (qemit (0) (p))))).2.1, (qemit (0) (qemit (0) (qemit (0) (qemit (0) (p))))).2.2.1, upd (qemit (0) (qemit (0) (qemit (0) (qemit (0) (p))))).2.2.2 ((p).2.2.1) (W (qemit (0) (qemit (0) (qemit (0) (qemit (0) (p))))).1)))).2.2.1, upd (qstep W (((qemit (0) (qemit (0) (qemit (0) (qemit (0) (p))))).1, (qemit (0) (qemit (0) (qemit (0) (qemit (0) (p))))).2.1, (qemit (0) (qemit (0) (qemit (0) (qemit (0) (p))))).2.2.1, upd (qemit (0) (qemit (0) (qemit (0) (qemit (0) (p))))).2.2.2 ((p).2.2.1) (W (qemit (0) (qemit (0) (qemit (0) (qemit (0) (p))))).1)))).2.2.2 (((p).2.2.1) + (3)) (((nI (qstep W (((qemit (0) (qemit (0) (qemit (0) (qemit (0) (p))))).1, (qemit (0) (qemit (0) (qemit (0) (qemit (0) (p))))).2.1, (qemit (0) (qemit (0) (qemit (0) (qemit (0) (p))))).2.2.1, upd (qemit (0) (qemit (0) (qemit (0) (qemit (0) (p))))).2.2.2 ((p).2.2.1) (W (qemit (0) (qemit (0) (qemit (0) (qemit (0) (p))))).1)))).2.2.1) - (nI ((p).2.2.1))) - (4))) (setA u50 41 (upd (u50.2.1 41) (((p).2.2.1) + (3)) (((nI (qstep W (((qemit (0) (qemit (0) (qemit (0) (qemit (0) (p))))).1, (qemit (0) (qemit (0) (qemit (0) (qemit (0) (p))))).2.1, (qemit (0) (qemit (0) (qemit (0) (qemit (0) (p))))).2.2.1, upd (qemit (0) (qemit (0) (qemit (0) (qemit (0) (p))))).2.2.2 ((p).2.2.1) (W (qemit (0) (qemit (0) (qemit (0) (qemit (0) (p))))).1)))).2.2.1) - (nI ((p).2.2.1))) - (4)))) := by rw [show (qstep W (((qemit (0) (qemit (0) (qemit (0) (qemit (0) (p))))).1, (qemit (0) (qemit (0) (qemit (0) (qemit (0) (p))))).2.1, (qemit (0) (qemit (0) (qemit (0) (qemit (0) (p))))).2.2.1, upd (qemit (0) (qemit (0) (qemit (0) (qemit (0) (p))))).2.2.2 ((p).2.2.1) (W (qemit (0) (qemit (0) (qemit (0) (qemit (0) (p))))).1)))).2.2.2 = u50.2.1 41 from hx50.1.2.2.2.2.1.symm]; exact hx50.code
      have hjy87 := hj50.code (upd (qstep W (((qemit (0) (qemit (0) (qemit (0) (qemit (0) (p))))).1, (qemit (0) (qemit (0) (qemit (0) (qemit (0) (p))))).2.1, (qemit (0) (qemit (0) (qemit (0) (qemit (0) (p))))).2.2.1, upd (qemit (0) (qemit (0) (qemit (0) (qemit (0) (p))))).2.2.2 ((p).2.2.1) (W (qemit (0) (qemit (0) (qemit (0) (qemit (0) (p))))).1)))).2.2.2 (((p).2.2.1) + (3)) (((nI (qstep W (((qemit (0) (qemit (0) (qemit (0) (qemit (0) (p))))).1, (qemit (0) (qemit (0) (qemit (0) (qemit (0) (p))))).2.1, (qemit (0) (qemit (0) (qemit (0) (qemit (0) (p))))).2.2.1, upd (qemit (0) (qemit (0) (qemit (0) (qemit (0) (p))))).2.2.2 ((p).2.2.1) (W (qemit (0) (qemit (0) (qemit (0) (qemit (0) (p))))).1)))).2.2.1) - (nI ((p).2.2.1))) - (4)))
      generalize (setA u50 41 (upd (u50.2.1 41) (((p).2.2.1) + (3)) (((nI (qstep W (((qemit (0) (qemit (0) (qemit (0) (qemit (0) (p))))).1, (qemit (0) (qemit (0) (qemit (0) (qemit (0) (p))))).2.1, (qemit (0) (qemit (0) (qemit (0) (qemit (0) (p))))).2.2.1, upd (qemit (0) (qemit (0) (qemit (0) (qemit (0) (p))))).2.2.2 ((p).2.2.1) (W (qemit (0) (qemit (0) (qemit (0) (qemit (0) (p))))).1)))).2.2.1) - (nI ((p).2.2.1))) - (4)))) = y87 at hxy87 ⊢
      refine wp_aload_n 2 d_X8_readRule_87 rfl rfl ?_
      refine wp_iload_n 1 d_X8_readRule_88 rfl rfl ?_
      refine wp_virtual0 (As := [.int (nI ((p).2.2.1))]) d_X8_readRule_89 lk_X8_112 mv_X8_readDoing in_X8_readDoing se_X8_readDoing (Nat.le_of_ble_eq_true rfl) (Nat.le_of_ble_eq_true rfl) (hp_37 _ _ _ _ _) rfl (s_X8_readDoing hw hxy87 hjy87 hh) (fun v89 h89 q89 => ?_)
      obtain ⟨rfl, u89, rfl, hx89⟩ := q89
      have hj89 := hjy87.dow (hd := p.2.2.1) hw
      show WP _ _ _ _ _ 92 _ [] (HP c u89 m v E) _
      refine wp_aload_n 2 d_X8_readRule_92 rfl rfl ?_
      refine wp_bipush (v0 := 59) d_X8_readRule_93 (by decide) ?_
      refine wp_virtual0 (As := [.int (59)]) d_X8_readRule_95 lk_X8_115 mv_X8_expect in_X8_expect se_X8_expect (Nat.le_of_ble_eq_true rfl) (Nat.le_of_ble_eq_true rfl) (hp_37 _ _ _ _ _) rfl (s_X8_expect hw hx89 hj89 (59)) (fun v95 h95 q95 => ?_)
      obtain ⟨rfl, u95, rfl, hx95⟩ := q95
      have hj95 := hj89.exp (x := 59) hw
      show WP _ _ _ _ _ 98 _ [] (HP c u95 m v E) _
      refine wp_vret d_X8_readRule_98 rfl ?_
      refine ⟨rfl, u95, rfl, ?_⟩
      rw [show qrule W Z p = qexp W Z (59) (qdo W Z p.2.2.1 (((qstep W (((qemit (0) (qemit (0) (qemit (0) (qemit (0) (p))))).1, (qemit (0) (qemit (0) (qemit (0) (qemit (0) (p))))).2.1, (qemit (0) (qemit (0) (qemit (0) (qemit (0) (p))))).2.2.1, upd (qemit (0) (qemit (0) (qemit (0) (qemit (0) (p))))).2.2.2 ((p).2.2.1) (W (qemit (0) (qemit (0) (qemit (0) (qemit (0) (p))))).1)))).1, (qstep W (((qemit (0) (qemit (0) (qemit (0) (qemit (0) (p))))).1, (qemit (0) (qemit (0) (qemit (0) (qemit (0) (p))))).2.1, (qemit (0) (qemit (0) (qemit (0) (qemit (0) (p))))).2.2.1, upd (qemit (0) (qemit (0) (qemit (0) (qemit (0) (p))))).2.2.2 ((p).2.2.1) (W (qemit (0) (qemit (0) (qemit (0) (qemit (0) (p))))).1)))).2.1, (qstep W (((qemit (0) (qemit (0) (qemit (0) (qemit (0) (p))))).1, (qemit (0) (qemit (0) (qemit (0) (qemit (0) (p))))).2.1, (qemit (0) (qemit (0) (qemit (0) (qemit (0) (p))))).2.2.1, upd (qemit (0) (qemit (0) (qemit (0) (qemit (0) (p))))).2.2.2 ((p).2.2.1) (W (qemit (0) (qemit (0) (qemit (0) (qemit (0) (p))))).1)))).2.2.1, upd (qstep W (((qemit (0) (qemit (0) (qemit (0) (qemit (0) (p))))).1, (qemit (0) (qemit (0) (qemit (0) (qemit (0) (p))))).2.1, (qemit (0) (qemit (0) (qemit (0) (qemit (0) (p))))).2.2.1, upd (qemit (0) (qemit (0) (qemit (0) (qemit (0) (p))))).2.2.2 ((p).2.2.1) (W (qemit (0) (qemit (0) (qemit (0) (qemit (0) (p))))).1)))).2.2.2 (((p).2.2.1) + (3)) (((nI (qstep W (((qemit (0) (qemit (0) (qemit (0) (qemit (0) (p))))).1, (qemit (0) (qemit (0) (qemit (0) (qemit (0) (p))))).2.1, (qemit (0) (qemit (0) (qemit (0) (qemit (0) (p))))).2.2.1, upd (qemit (0) (qemit (0) (qemit (0) (qemit (0) (p))))).2.2.2 ((p).2.2.1) (W (qemit (0) (qemit (0) (qemit (0) (qemit (0) (p))))).1)))).2.2.1) - (nI ((p).2.2.1))) - (4))))) from ?_]
      · exact hx95
      have e1 : qrk W Z (q4 p) = _ := if_pos zc32
      have e2 : qr1 W Z p.2.2.1 p = qstep W (((qemit (0) (qemit (0) (qemit (0) (qemit (0) (p))))).1, (qemit (0) (qemit (0) (qemit (0) (qemit (0) (p))))).2.1, (qemit (0) (qemit (0) (qemit (0) (qemit (0) (p))))).2.2.1, upd (qemit (0) (qemit (0) (qemit (0) (qemit (0) (p))))).2.2.2 ((p).2.2.1) (W (qemit (0) (qemit (0) (qemit (0) (qemit (0) (p))))).1))) := by
        unfold qr1
        rw [e1]
        exact if_neg zc59
      unfold qrule
      rw [e2]
      rfl
    · refine wp_aload_n 2 d_X8_readRule_62 rfl rfl ?_
      refine wp_virtual0 (As := []) d_X8_readRule_63 lk_X8_98 mv_X8_step in_X8_step se_X8_step (Nat.le_of_ble_eq_true rfl) (Nat.le_of_ble_eq_true rfl) (hp_37 _ _ _ _ _) rfl (s_X8_step hw hx50 hj50.1) (fun v63 h63 q63 => ?_)
      obtain ⟨rfl, u63, rfl, hx63⟩ := q63
      have hj63 := hj50.step hw
      show WP _ _ _ _ _ 66 _ [] (HP c u63 m v E) _
      refine wp_aload_n 2 d_X8_readRule_66 rfl rfl ?_
      refine wp_iconst (v0 := 0) d_X8_readRule_67 rfl ?_
      refine wp_virtual0 (As := [.int (0)]) d_X8_readRule_68 lk_X8_109 mv_X8_readCondition in_X8_readCondition se_X8_readCondition (Nat.le_of_ble_eq_true rfl) (Nat.le_of_ble_eq_true rfl) (hp_37 _ _ _ _ _) rfl (s_X8_cond (d := d) hw 3 0 (by omega) _ _ _ hx63 hj63) (fun v68 h68 q68 => ?_)
      obtain ⟨rfl, u68, rfl, hx68⟩ := q68
      have hj68 := kGd.cond hw 3 _ _ hj63
      show WP _ _ _ _ _ 71 _ [] (HP c u68 m v E) _
      refine wp_aload_n 2 d_X8_readRule_71 rfl rfl ?_
      refine wp_getfield (v := .ref (41)) d_X8_readRule_72 gf_X8_23 (hp_37 _ _ _ _ _) rfl ?_
      refine wp_iload_n 1 d_X8_readRule_75 rfl rfl ?_
      refine wp_iconst (v0 := 3) d_X8_readRule_76 rfl ?_
      refine wp_iadd d_X8_readRule_77 ?_
      refine wp_v (v0 := nI (((p).2.2.1) + (3))) (nI_add ((p).2.2.1) (3)) ?_
      refine wp_aload_n 2 d_X8_readRule_78 rfl rfl ?_
      refine wp_getfield (v := .int (nI (qcond W Z 3 (qstep W (qstep W (((qemit (0) (qemit (0) (qemit (0) (qemit (0) (p))))).1, (qemit (0) (qemit (0) (qemit (0) (qemit (0) (p))))).2.1, (qemit (0) (qemit (0) (qemit (0) (qemit (0) (p))))).2.2.1, upd (qemit (0) (qemit (0) (qemit (0) (qemit (0) (p))))).2.2.2 ((p).2.2.1) (W (qemit (0) (qemit (0) (qemit (0) (qemit (0) (p))))).1)))))).2.2.1)) d_X8_readRule_79 gf_X8_42 (hp_37 _ _ _ _ _) (congrArg (fun z => some (Value.int z)) hx68.1.2.2.2.1) ?_
      refine wp_iload_n 1 d_X8_readRule_82 rfl rfl ?_
      refine wp_isub d_X8_readRule_83 ?_
      refine wp_iconst (v0 := 4) d_X8_readRule_84 rfl ?_
      refine wp_isub d_X8_readRule_85 ?_
      refine wp_iastore (h' := HP c (setA u68 41 (upd (u68.2.1 41) (((p).2.2.1) + (3)) (((nI (qcond W Z 3 (qstep W (qstep W (((qemit (0) (qemit (0) (qemit (0) (qemit (0) (p))))).1, (qemit (0) (qemit (0) (qemit (0) (qemit (0) (p))))).2.1, (qemit (0) (qemit (0) (qemit (0) (qemit (0) (p))))).2.2.1, upd (qemit (0) (qemit (0) (qemit (0) (qemit (0) (p))))).2.2.2 ((p).2.2.1) (W (qemit (0) (qemit (0) (qemit (0) (qemit (0) (p))))).1)))))).2.2.1) - (nI ((p).2.2.1))) - (4)))) m v E) d_X8_readRule_86 (hp_41 _ _ _ _ _) (vp_in_nI (by omega) (by omega)) (by rw [nI_clamp (by omega)]; exact (hpa_41 _ _ _ _ _ _)) ?_
      have hxy87 : kTx w W Z ((qcond W Z 3 (qstep W (qstep W (((qemit (0) (qemit (0) (qemit (0) (qemit (0) (p))))).1, (qemit (0) (qemit (0) (qemit (0) (qemit (0) (p))))).2.1, (qemit (0) (qemit (0) (qemit (0) (qemit (0) (p))))).2.2.1, upd (qemit (0) (qemit (0) (qemit (0) (qemit (0) (p))))).2.2.2 ((p).2.2.1) (W (qemit (0) (qemit (0) (qemit (0) (qemit (0) (p))))).1)))))).1, (qcond W Z 3 (qstep W (qstep W (((qemit (0) (qemit (0) (qemit (0) (qemit (0) (p))))).1, (qemit (0) (qemit (0) (qemit (0) (qemit (0) (p))))).2.1, (qemit (0) (qemit (0) (qemit (0) (qemit (0) (p))))).2.2.1, upd (qemit (0) (qemit (0) (qemit (0) (qemit (0) (p))))).2.2.2 ((p).2.2.1) (W (qemit (0) (qemit (0) (qemit (0) (qemit (0) (p))))).1)))))).2.1, (qcond W Z 3 (qstep W (qstep W (((qemit (0) (qemit (0) (qemit (0) (qemit (0) (p))))).1, (qemit (0) (qemit (0) (qemit (0) (qemit (0) (p))))).2.1, (qemit (0) (qemit (0) (qemit (0) (qemit (0) (p))))).2.2.1, upd (qemit (0) (qemit (0) (qemit (0) (qemit (0) (p))))).2.2.2 ((p).2.2.1) (W (qemit (0) (qemit (0) (qemit (0) (qemit (0) (p))))).1)))))).2.2.1, upd (qcond W Z 3 (qstep W (qstep W (((qemit (0) (qemit (0) (qemit (0) (qemit (0) (p))))).1, (qemit (0) (qemit (0) (qemit (0) (qemit (0) (p))))).2.1, (qemit (0) (qemit (0) (qemit (0) (qemit (0) (p))))).2.2.1, upd (qemit (0) (qemit (0) (qemit (0) (qemit (0) (p))))).2.2.2 ((p).2.2.1) (W (qemit (0) (qemit (0) (qemit (0) (qemit (0) (p))))).1)))))).2.2.2 (((p).2.2.1) + (3)) (((nI (qcond W Z 3 (qstep W (qstep W (((qemit (0) (qemit (0) (qemit (0) (qemit (0) (p))))).1, (qemit (0) (qemit (0) (qemit (0) (qemit (0) (p))))).2.1, (qemit (0) (qemit (0) (qemit (0) (qemit (0) (p))))).2.2.1, upd (qemit (0) (qemit (0) (qemit (0) (qemit (0) (p))))).2.2.2 ((p).2.2.1) (W (qemit (0) (qemit (0) (qemit (0) (qemit (0) (p))))).1)))))).2.2.1) - (nI ((p).2.2.1))) - (4))) (setA u68 41 (upd (u68.2.1 41) (((p).2.2.1) + (3)) (((nI (qcond W Z 3 (qstep W (qstep W (((qemit (0) (qemit (0) (qemit (0) (qemit (0) (p))))).1, (qemit (0) (qemit (0) (qemit (0) (qemit (0) (p))))).2.1, (qemit (0) (qemit (0) (qemit (0) (qemit (0) (p))))).2.2.1, upd (qemit (0) (qemit (0) (qemit (0) (qemit (0) (p))))).2.2.2 ((p).2.2.1) (W (qemit (0) (qemit (0) (qemit (0) (qemit (0) (p))))).1)))))).2.2.1) - (nI ((p).2.2.1))) - (4)))) := by rw [show (qcond W Z 3 (qstep W (qstep W (((qemit (0) (qemit (0) (qemit (0) (qemit (0) (p))))).1, (qemit (0) (qemit (0) (qemit (0) (qemit (0) (p))))).2.1, (qemit (0) (qemit (0) (qemit (0) (qemit (0) (p))))).2.2.1, upd (qemit (0) (qemit (0) (qemit (0) (qemit (0) (p))))).2.2.2 ((p).2.2.1) (W (qemit (0) (qemit (0) (qemit (0) (qemit (0) (p))))).1)))))).2.2.2 = u68.2.1 41 from hx68.1.2.2.2.2.1.symm]; exact hx68.code
      have hjy87 := hj68.code (upd (qcond W Z 3 (qstep W (qstep W (((qemit (0) (qemit (0) (qemit (0) (qemit (0) (p))))).1, (qemit (0) (qemit (0) (qemit (0) (qemit (0) (p))))).2.1, (qemit (0) (qemit (0) (qemit (0) (qemit (0) (p))))).2.2.1, upd (qemit (0) (qemit (0) (qemit (0) (qemit (0) (p))))).2.2.2 ((p).2.2.1) (W (qemit (0) (qemit (0) (qemit (0) (qemit (0) (p))))).1)))))).2.2.2 (((p).2.2.1) + (3)) (((nI (qcond W Z 3 (qstep W (qstep W (((qemit (0) (qemit (0) (qemit (0) (qemit (0) (p))))).1, (qemit (0) (qemit (0) (qemit (0) (qemit (0) (p))))).2.1, (qemit (0) (qemit (0) (qemit (0) (qemit (0) (p))))).2.2.1, upd (qemit (0) (qemit (0) (qemit (0) (qemit (0) (p))))).2.2.2 ((p).2.2.1) (W (qemit (0) (qemit (0) (qemit (0) (qemit (0) (p))))).1)))))).2.2.1) - (nI ((p).2.2.1))) - (4)))
      generalize (setA u68 41 (upd (u68.2.1 41) (((p).2.2.1) + (3)) (((nI (qcond W Z 3 (qstep W (qstep W (((qemit (0) (qemit (0) (qemit (0) (qemit (0) (p))))).1, (qemit (0) (qemit (0) (qemit (0) (qemit (0) (p))))).2.1, (qemit (0) (qemit (0) (qemit (0) (qemit (0) (p))))).2.2.1, upd (qemit (0) (qemit (0) (qemit (0) (qemit (0) (p))))).2.2.2 ((p).2.2.1) (W (qemit (0) (qemit (0) (qemit (0) (qemit (0) (p))))).1)))))).2.2.1) - (nI ((p).2.2.1))) - (4)))) = y87 at hxy87 ⊢
      refine wp_aload_n 2 d_X8_readRule_87 rfl rfl ?_
      refine wp_iload_n 1 d_X8_readRule_88 rfl rfl ?_
      refine wp_virtual0 (As := [.int (nI ((p).2.2.1))]) d_X8_readRule_89 lk_X8_112 mv_X8_readDoing in_X8_readDoing se_X8_readDoing (Nat.le_of_ble_eq_true rfl) (Nat.le_of_ble_eq_true rfl) (hp_37 _ _ _ _ _) rfl (s_X8_readDoing hw hxy87 hjy87 hh) (fun v89 h89 q89 => ?_)
      obtain ⟨rfl, u89, rfl, hx89⟩ := q89
      have hj89 := hjy87.dow (hd := p.2.2.1) hw
      show WP _ _ _ _ _ 92 _ [] (HP c u89 m v E) _
      refine wp_aload_n 2 d_X8_readRule_92 rfl rfl ?_
      refine wp_bipush (v0 := 59) d_X8_readRule_93 (by decide) ?_
      refine wp_virtual0 (As := [.int (59)]) d_X8_readRule_95 lk_X8_115 mv_X8_expect in_X8_expect se_X8_expect (Nat.le_of_ble_eq_true rfl) (Nat.le_of_ble_eq_true rfl) (hp_37 _ _ _ _ _) rfl (s_X8_expect hw hx89 hj89 (59)) (fun v95 h95 q95 => ?_)
      obtain ⟨rfl, u95, rfl, hx95⟩ := q95
      have hj95 := hj89.exp (x := 59) hw
      show WP _ _ _ _ _ 98 _ [] (HP c u95 m v E) _
      refine wp_vret d_X8_readRule_98 rfl ?_
      refine ⟨rfl, u95, rfl, ?_⟩
      rw [show qrule W Z p = qexp W Z (59) (qdo W Z p.2.2.1 (((qcond W Z 3 (qstep W (qstep W (((qemit (0) (qemit (0) (qemit (0) (qemit (0) (p))))).1, (qemit (0) (qemit (0) (qemit (0) (qemit (0) (p))))).2.1, (qemit (0) (qemit (0) (qemit (0) (qemit (0) (p))))).2.2.1, upd (qemit (0) (qemit (0) (qemit (0) (qemit (0) (p))))).2.2.2 ((p).2.2.1) (W (qemit (0) (qemit (0) (qemit (0) (qemit (0) (p))))).1)))))).1, (qcond W Z 3 (qstep W (qstep W (((qemit (0) (qemit (0) (qemit (0) (qemit (0) (p))))).1, (qemit (0) (qemit (0) (qemit (0) (qemit (0) (p))))).2.1, (qemit (0) (qemit (0) (qemit (0) (qemit (0) (p))))).2.2.1, upd (qemit (0) (qemit (0) (qemit (0) (qemit (0) (p))))).2.2.2 ((p).2.2.1) (W (qemit (0) (qemit (0) (qemit (0) (qemit (0) (p))))).1)))))).2.1, (qcond W Z 3 (qstep W (qstep W (((qemit (0) (qemit (0) (qemit (0) (qemit (0) (p))))).1, (qemit (0) (qemit (0) (qemit (0) (qemit (0) (p))))).2.1, (qemit (0) (qemit (0) (qemit (0) (qemit (0) (p))))).2.2.1, upd (qemit (0) (qemit (0) (qemit (0) (qemit (0) (p))))).2.2.2 ((p).2.2.1) (W (qemit (0) (qemit (0) (qemit (0) (qemit (0) (p))))).1)))))).2.2.1, upd (qcond W Z 3 (qstep W (qstep W (((qemit (0) (qemit (0) (qemit (0) (qemit (0) (p))))).1, (qemit (0) (qemit (0) (qemit (0) (qemit (0) (p))))).2.1, (qemit (0) (qemit (0) (qemit (0) (qemit (0) (p))))).2.2.1, upd (qemit (0) (qemit (0) (qemit (0) (qemit (0) (p))))).2.2.2 ((p).2.2.1) (W (qemit (0) (qemit (0) (qemit (0) (qemit (0) (p))))).1)))))).2.2.2 (((p).2.2.1) + (3)) (((nI (qcond W Z 3 (qstep W (qstep W (((qemit (0) (qemit (0) (qemit (0) (qemit (0) (p))))).1, (qemit (0) (qemit (0) (qemit (0) (qemit (0) (p))))).2.1, (qemit (0) (qemit (0) (qemit (0) (qemit (0) (p))))).2.2.1, upd (qemit (0) (qemit (0) (qemit (0) (qemit (0) (p))))).2.2.2 ((p).2.2.1) (W (qemit (0) (qemit (0) (qemit (0) (qemit (0) (p))))).1)))))).2.2.1) - (nI ((p).2.2.1))) - (4))))) from ?_]
      · exact hx95
      have e1 : qrk W Z (q4 p) = _ := if_pos zc32
      have e2 : qr1 W Z p.2.2.1 p = qcond W Z 3 (qstep W (qstep W (((qemit (0) (qemit (0) (qemit (0) (qemit (0) (p))))).1, (qemit (0) (qemit (0) (qemit (0) (qemit (0) (p))))).2.1, (qemit (0) (qemit (0) (qemit (0) (qemit (0) (p))))).2.2.1, upd (qemit (0) (qemit (0) (qemit (0) (qemit (0) (p))))).2.2.2 ((p).2.2.1) (W (qemit (0) (qemit (0) (qemit (0) (qemit (0) (p))))).1))))) := by
        unfold qr1
        rw [e1]
        exact if_pos zc59
      unfold qrule
      rw [e2]
      rfl
  · refine wp_aload_n 2 d_X8_readRule_35 rfl rfl ?_
    refine wp_virtual0 (As := []) d_X8_readRule_36 lk_X8_48 mv_X8_fail in_X8_fail se_X8_fail (Nat.le_of_ble_eq_true rfl) (Nat.le_of_ble_eq_true rfl) (hp_37 _ _ _ _ _) rfl (s_X8_fail hw hx14 hj14.1) (fun v36 h36 q36 => ?_)
    obtain ⟨rfl, u36, rfl, hx36⟩ := q36
    have hj36 := hj14.fail (a1 := a) hw
    show WP _ _ _ _ _ 39 _ [] (HP c u36 m v E) _
    refine wp_aload_n 2 d_X8_readRule_39 rfl rfl ?_
    refine wp_getfield (v := .ref (41)) d_X8_readRule_40 gf_X8_23 (hp_37 _ _ _ _ _) rfl ?_
    refine wp_iload_n 1 d_X8_readRule_43 rfl rfl ?_
    refine wp_aload_n 2 d_X8_readRule_44 rfl rfl ?_
    refine wp_getfield (v := .int (W (qfail Z (qemit (0) (qemit (0) (qemit (0) (qemit (0) (p)))))).1)) d_X8_readRule_45 gf_X8_36 (hp_37 _ _ _ _ _) (congrArg (fun z => some (Value.int z)) hx36.1.2.1) ?_
    refine wp_iastore (h' := HP c (setA u36 41 (upd (u36.2.1 41) ((p).2.2.1) (W (qfail Z (qemit (0) (qemit (0) (qemit (0) (qemit (0) (p)))))).1))) m v E) d_X8_readRule_48 (hp_41 _ _ _ _ _) (vp_in_nI (by omega) (by omega)) (by rw [nI_clamp (by omega)]; exact (hpa_41 _ _ _ _ _ _)) ?_
    have hxy49 : kTx w W Z ((qfail Z (qemit (0) (qemit (0) (qemit (0) (qemit (0) (p)))))).1, (qfail Z (qemit (0) (qemit (0) (qemit (0) (qemit (0) (p)))))).2.1, (qfail Z (qemit (0) (qemit (0) (qemit (0) (qemit (0) (p)))))).2.2.1, upd (qfail Z (qemit (0) (qemit (0) (qemit (0) (qemit (0) (p)))))).2.2.2 ((p).2.2.1) (W (qfail Z (qemit (0) (qemit (0) (qemit (0) (qemit (0) (p)))))).1)) (setA u36 41 (upd (u36.2.1 41) ((p).2.2.1) (W (qfail Z (qemit (0) (qemit (0) (qemit (0) (qemit (0) (p)))))).1))) := by rw [show (qfail Z (qemit (0) (qemit (0) (qemit (0) (qemit (0) (p)))))).2.2.2 = u36.2.1 41 from hx36.1.2.2.2.2.1.symm]; exact hx36.code
    have hjy49 := hj36.code (upd (qfail Z (qemit (0) (qemit (0) (qemit (0) (qemit (0) (p)))))).2.2.2 ((p).2.2.1) (W (qfail Z (qemit (0) (qemit (0) (qemit (0) (qemit (0) (p)))))).1))
    generalize (setA u36 41 (upd (u36.2.1 41) ((p).2.2.1) (W (qfail Z (qemit (0) (qemit (0) (qemit (0) (qemit (0) (p)))))).1))) = y49 at hxy49 ⊢
    refine wp_aload_n 2 d_X8_readRule_49 rfl rfl ?_
    refine wp_virtual0 (As := []) d_X8_readRule_50 lk_X8_98 mv_X8_step in_X8_step se_X8_step (Nat.le_of_ble_eq_true rfl) (Nat.le_of_ble_eq_true rfl) (hp_37 _ _ _ _ _) rfl (s_X8_step hw hxy49 hjy49.1) (fun v50 h50 q50 => ?_)
    obtain ⟨rfl, u50, rfl, hx50⟩ := q50
    have hj50 := hjy49.step hw
    show WP _ _ _ _ _ 53 _ [] (HP c u50 m v E) _
    refine wp_aload_n 2 d_X8_readRule_53 rfl rfl ?_
    refine wp_getfield (v := .int (W (qstep W (((qfail Z (qemit (0) (qemit (0) (qemit (0) (qemit (0) (p)))))).1, (qfail Z (qemit (0) (qemit (0) (qemit (0) (qemit (0) (p)))))).2.1, (qfail Z (qemit (0) (qemit (0) (qemit (0) (qemit (0) (p)))))).2.2.1, upd (qfail Z (qemit (0) (qemit (0) (qemit (0) (qemit (0) (p)))))).2.2.2 ((p).2.2.1) (W (qfail Z (qemit (0) (qemit (0) (qemit (0) (qemit (0) (p)))))).1)))).1)) d_X8_readRule_54 gf_X8_36 (hp_37 _ _ _ _ _) (congrArg (fun z => some (Value.int z)) hx50.1.2.1) ?_
    refine wp_bipush (v0 := 6) d_X8_readRule_57 (by decide) ?_
    refine wp_icmp_ne 71 d_X8_readRule_59 rfl (fun zc59 => ?_) (fun zc59 => ?_)
    · refine wp_aload_n 2 d_X8_readRule_71 rfl rfl ?_
      refine wp_getfield (v := .ref (41)) d_X8_readRule_72 gf_X8_23 (hp_37 _ _ _ _ _) rfl ?_
      refine wp_iload_n 1 d_X8_readRule_75 rfl rfl ?_
      refine wp_iconst (v0 := 3) d_X8_readRule_76 rfl ?_
      refine wp_iadd d_X8_readRule_77 ?_
      refine wp_v (v0 := nI (((p).2.2.1) + (3))) (nI_add ((p).2.2.1) (3)) ?_
      refine wp_aload_n 2 d_X8_readRule_78 rfl rfl ?_
      refine wp_getfield (v := .int (nI (qstep W (((qfail Z (qemit (0) (qemit (0) (qemit (0) (qemit (0) (p)))))).1, (qfail Z (qemit (0) (qemit (0) (qemit (0) (qemit (0) (p)))))).2.1, (qfail Z (qemit (0) (qemit (0) (qemit (0) (qemit (0) (p)))))).2.2.1, upd (qfail Z (qemit (0) (qemit (0) (qemit (0) (qemit (0) (p)))))).2.2.2 ((p).2.2.1) (W (qfail Z (qemit (0) (qemit (0) (qemit (0) (qemit (0) (p)))))).1)))).2.2.1)) d_X8_readRule_79 gf_X8_42 (hp_37 _ _ _ _ _) (congrArg (fun z => some (Value.int z)) hx50.1.2.2.2.1) ?_
      refine wp_iload_n 1 d_X8_readRule_82 rfl rfl ?_
      refine wp_isub d_X8_readRule_83 ?_
      refine wp_iconst (v0 := 4) d_X8_readRule_84 rfl ?_
      refine wp_isub d_X8_readRule_85 ?_
      refine wp_iastore (h' := HP c (setA u50 41 (upd (u50.2.1 41) (((p).2.2.1) + (3)) (((nI (qstep W (((qfail Z (qemit (0) (qemit (0) (qemit (0) (qemit (0) (p)))))).1, (qfail Z (qemit (0) (qemit (0) (qemit (0) (qemit (0) (p)))))).2.1, (qfail Z (qemit (0) (qemit (0) (qemit (0) (qemit (0) (p)))))).2.2.1, upd (qfail Z (qemit (0) (qemit (0) (qemit (0) (qemit (0) (p)))))).2.2.2 ((p).2.2.1) (W (qfail Z (qemit (0) (qemit (0) (qemit (0) (qemit (0) (p)))))).1)))).2.2.1) - (nI ((p).2.2.1))) - (4)))) m v E) d_X8_readRule_86 (hp_41 _ _ _ _ _) (vp_in_nI (by omega) (by omega)) (by rw [nI_clamp (by omega)]; exact (hpa_41 _ _ _ _ _ _)) ?_
      have hxy87 : kTx w W Z ((qstep W (((qfail Z (qemit (0) (qemit (0) (qemit (0) (qemit (0) (p)))))).1, (qfail Z (qemit (0) (qemit (0) (qemit (0) (qemit (0) (p)))))).2.1, (qfail Z (qemit (0) (qemit (0) (qemit (0) (qemit (0) (p)))))).2.2.1, upd (qfail Z (qemit (0) (qemit (0) (qemit (0) (qemit (0) (p)))))).2.2.2 ((p).2.2.1) (W (qfail Z (qemit (0) (qemit (0) (qemit (0) (qemit (0) (p)))))).1)))).1, (qstep W (((qfail Z (qemit (0) (qemit (0) (qemit (0) (qemit (0) (p)))))).1, (qfail Z (qemit (0) (qemit (0) (qemit (0) (qemit (0) (p)))))).2.1, (qfail Z (qemit (0) (qemit (0) (qemit (0) (qemit (0) (p)))))).2.2.1, upd (qfail Z (qemit (0) (qemit (0) (qemit (0) (qemit (0) (p)))))).2.2.2 ((p).2.2.1) (W (qfail Z (qemit (0) (qemit (0) (qemit (0) (qemit (0) (p)))))).1)))).2.1, (qstep W (((qfail Z (qemit (0) (qemit (0) (qemit (0) (qemit (0) (p)))))).1, (qfail Z (qemit (0) (qemit (0) (qemit (0) (qemit (0) (p)))))).2.1, (qfail Z (qemit (0) (qemit (0) (qemit (0) (qemit (0) (p)))))).2.2.1, upd (qfail Z (qemit (0) (qemit (0) (qemit (0) (qemit (0) (p)))))).2.2.2 ((p).2.2.1) (W (qfail Z (qemit (0) (qemit (0) (qemit (0) (qemit (0) (p)))))).1)))).2.2.1, upd (qstep W (((qfail Z (qemit (0) (qemit (0) (qemit (0) (qemit (0) (p)))))).1, (qfail Z (qemit (0) (qemit (0) (qemit (0) (qemit (0) (p)))))).2.1, (qfail Z (qemit (0) (qemit (0) (qemit (0) (qemit (0) (p)))))).2.2.1, upd (qfail Z (qemit (0) (qemit (0) (qemit (0) (qemit (0) (p)))))).2.2.2 ((p).2.2.1) (W (qfail Z (qemit (0) (qemit (0) (qemit (0) (qemit (0) (p)))))).1)))).2.2.2 (((p).2.2.1) + (3)) (((nI (qstep W (((qfail Z (qemit (0) (qemit (0) (qemit (0) (qemit (0) (p)))))).1, (qfail Z (qemit (0) (qemit (0) (qemit (0) (qemit (0) (p)))))).2.1, (qfail Z (qemit (0) (qemit (0) (qemit (0) (qemit (0) (p)))))).2.2.1, upd (qfail Z (qemit (0) (qemit (0) (qemit (0) (qemit (0) (p)))))).2.2.2 ((p).2.2.1) (W (qfail Z (qemit (0) (qemit (0) (qemit (0) (qemit (0) (p)))))).1)))).2.2.1) - (nI ((p).2.2.1))) - (4))) (setA u50 41 (upd (u50.2.1 41) (((p).2.2.1) + (3)) (((nI (qstep W (((qfail Z (qemit (0) (qemit (0) (qemit (0) (qemit (0) (p)))))).1, (qfail Z (qemit (0) (qemit (0) (qemit (0) (qemit (0) (p)))))).2.1, (qfail Z (qemit (0) (qemit (0) (qemit (0) (qemit (0) (p)))))).2.2.1, upd (qfail Z (qemit (0) (qemit (0) (qemit (0) (qemit (0) (p)))))).2.2.2 ((p).2.2.1) (W (qfail Z (qemit (0) (qemit (0) (qemit (0) (qemit (0) (p)))))).1)))).2.2.1) - (nI ((p).2.2.1))) - (4)))) := by rw [show (qstep W (((qfail Z (qemit (0) (qemit (0) (qemit (0) (qemit (0) (p)))))).1, (qfail Z (qemit (0) (qemit (0) (qemit (0) (qemit (0) (p)))))).2.1, (qfail Z (qemit (0) (qemit (0) (qemit (0) (qemit (0) (p)))))).2.2.1, upd (qfail Z (qemit (0) (qemit (0) (qemit (0) (qemit (0) (p)))))).2.2.2 ((p).2.2.1) (W (qfail Z (qemit (0) (qemit (0) (qemit (0) (qemit (0) (p)))))).1)))).2.2.2 = u50.2.1 41 from hx50.1.2.2.2.2.1.symm]; exact hx50.code
      have hjy87 := hj50.code (upd (qstep W (((qfail Z (qemit (0) (qemit (0) (qemit (0) (qemit (0) (p)))))).1, (qfail Z (qemit (0) (qemit (0) (qemit (0) (qemit (0) (p)))))).2.1, (qfail Z (qemit (0) (qemit (0) (qemit (0) (qemit (0) (p)))))).2.2.1, upd (qfail Z (qemit (0) (qemit (0) (qemit (0) (qemit (0) (p)))))).2.2.2 ((p).2.2.1) (W (qfail Z (qemit (0) (qemit (0) (qemit (0) (qemit (0) (p)))))).1)))).2.2.2 (((p).2.2.1) + (3)) (((nI (qstep W (((qfail Z (qemit (0) (qemit (0) (qemit (0) (qemit (0) (p)))))).1, (qfail Z (qemit (0) (qemit (0) (qemit (0) (qemit (0) (p)))))).2.1, (qfail Z (qemit (0) (qemit (0) (qemit (0) (qemit (0) (p)))))).2.2.1, upd (qfail Z (qemit (0) (qemit (0) (qemit (0) (qemit (0) (p)))))).2.2.2 ((p).2.2.1) (W (qfail Z (qemit (0) (qemit (0) (qemit (0) (qemit (0) (p)))))).1)))).2.2.1) - (nI ((p).2.2.1))) - (4)))
      generalize (setA u50 41 (upd (u50.2.1 41) (((p).2.2.1) + (3)) (((nI (qstep W (((qfail Z (qemit (0) (qemit (0) (qemit (0) (qemit (0) (p)))))).1, (qfail Z (qemit (0) (qemit (0) (qemit (0) (qemit (0) (p)))))).2.1, (qfail Z (qemit (0) (qemit (0) (qemit (0) (qemit (0) (p)))))).2.2.1, upd (qfail Z (qemit (0) (qemit (0) (qemit (0) (qemit (0) (p)))))).2.2.2 ((p).2.2.1) (W (qfail Z (qemit (0) (qemit (0) (qemit (0) (qemit (0) (p)))))).1)))).2.2.1) - (nI ((p).2.2.1))) - (4)))) = y87 at hxy87 ⊢
      refine wp_aload_n 2 d_X8_readRule_87 rfl rfl ?_
      refine wp_iload_n 1 d_X8_readRule_88 rfl rfl ?_
      refine wp_virtual0 (As := [.int (nI ((p).2.2.1))]) d_X8_readRule_89 lk_X8_112 mv_X8_readDoing in_X8_readDoing se_X8_readDoing (Nat.le_of_ble_eq_true rfl) (Nat.le_of_ble_eq_true rfl) (hp_37 _ _ _ _ _) rfl (s_X8_readDoing hw hxy87 hjy87 hh) (fun v89 h89 q89 => ?_)
      obtain ⟨rfl, u89, rfl, hx89⟩ := q89
      have hj89 := hjy87.dow (hd := p.2.2.1) hw
      show WP _ _ _ _ _ 92 _ [] (HP c u89 m v E) _
      refine wp_aload_n 2 d_X8_readRule_92 rfl rfl ?_
      refine wp_bipush (v0 := 59) d_X8_readRule_93 (by decide) ?_
      refine wp_virtual0 (As := [.int (59)]) d_X8_readRule_95 lk_X8_115 mv_X8_expect in_X8_expect se_X8_expect (Nat.le_of_ble_eq_true rfl) (Nat.le_of_ble_eq_true rfl) (hp_37 _ _ _ _ _) rfl (s_X8_expect hw hx89 hj89 (59)) (fun v95 h95 q95 => ?_)
      obtain ⟨rfl, u95, rfl, hx95⟩ := q95
      have hj95 := hj89.exp (x := 59) hw
      show WP _ _ _ _ _ 98 _ [] (HP c u95 m v E) _
      refine wp_vret d_X8_readRule_98 rfl ?_
      refine ⟨rfl, u95, rfl, ?_⟩
      rw [show qrule W Z p = qexp W Z (59) (qdo W Z p.2.2.1 (((qstep W (((qfail Z (qemit (0) (qemit (0) (qemit (0) (qemit (0) (p)))))).1, (qfail Z (qemit (0) (qemit (0) (qemit (0) (qemit (0) (p)))))).2.1, (qfail Z (qemit (0) (qemit (0) (qemit (0) (qemit (0) (p)))))).2.2.1, upd (qfail Z (qemit (0) (qemit (0) (qemit (0) (qemit (0) (p)))))).2.2.2 ((p).2.2.1) (W (qfail Z (qemit (0) (qemit (0) (qemit (0) (qemit (0) (p)))))).1)))).1, (qstep W (((qfail Z (qemit (0) (qemit (0) (qemit (0) (qemit (0) (p)))))).1, (qfail Z (qemit (0) (qemit (0) (qemit (0) (qemit (0) (p)))))).2.1, (qfail Z (qemit (0) (qemit (0) (qemit (0) (qemit (0) (p)))))).2.2.1, upd (qfail Z (qemit (0) (qemit (0) (qemit (0) (qemit (0) (p)))))).2.2.2 ((p).2.2.1) (W (qfail Z (qemit (0) (qemit (0) (qemit (0) (qemit (0) (p)))))).1)))).2.1, (qstep W (((qfail Z (qemit (0) (qemit (0) (qemit (0) (qemit (0) (p)))))).1, (qfail Z (qemit (0) (qemit (0) (qemit (0) (qemit (0) (p)))))).2.1, (qfail Z (qemit (0) (qemit (0) (qemit (0) (qemit (0) (p)))))).2.2.1, upd (qfail Z (qemit (0) (qemit (0) (qemit (0) (qemit (0) (p)))))).2.2.2 ((p).2.2.1) (W (qfail Z (qemit (0) (qemit (0) (qemit (0) (qemit (0) (p)))))).1)))).2.2.1, upd (qstep W (((qfail Z (qemit (0) (qemit (0) (qemit (0) (qemit (0) (p)))))).1, (qfail Z (qemit (0) (qemit (0) (qemit (0) (qemit (0) (p)))))).2.1, (qfail Z (qemit (0) (qemit (0) (qemit (0) (qemit (0) (p)))))).2.2.1, upd (qfail Z (qemit (0) (qemit (0) (qemit (0) (qemit (0) (p)))))).2.2.2 ((p).2.2.1) (W (qfail Z (qemit (0) (qemit (0) (qemit (0) (qemit (0) (p)))))).1)))).2.2.2 (((p).2.2.1) + (3)) (((nI (qstep W (((qfail Z (qemit (0) (qemit (0) (qemit (0) (qemit (0) (p)))))).1, (qfail Z (qemit (0) (qemit (0) (qemit (0) (qemit (0) (p)))))).2.1, (qfail Z (qemit (0) (qemit (0) (qemit (0) (qemit (0) (p)))))).2.2.1, upd (qfail Z (qemit (0) (qemit (0) (qemit (0) (qemit (0) (p)))))).2.2.2 ((p).2.2.1) (W (qfail Z (qemit (0) (qemit (0) (qemit (0) (qemit (0) (p)))))).1)))).2.2.1) - (nI ((p).2.2.1))) - (4))))) from ?_]
      · exact hx95
      have e1 : qrk W Z (q4 p) = _ := if_neg zc32
      have e2 : qr1 W Z p.2.2.1 p = qstep W (((qfail Z (qemit (0) (qemit (0) (qemit (0) (qemit (0) (p)))))).1, (qfail Z (qemit (0) (qemit (0) (qemit (0) (qemit (0) (p)))))).2.1, (qfail Z (qemit (0) (qemit (0) (qemit (0) (qemit (0) (p)))))).2.2.1, upd (qfail Z (qemit (0) (qemit (0) (qemit (0) (qemit (0) (p)))))).2.2.2 ((p).2.2.1) (W (qfail Z (qemit (0) (qemit (0) (qemit (0) (qemit (0) (p)))))).1))) := by
        unfold qr1
        rw [e1]
        exact if_neg zc59
      unfold qrule
      rw [e2]
      rfl
    · refine wp_aload_n 2 d_X8_readRule_62 rfl rfl ?_
      refine wp_virtual0 (As := []) d_X8_readRule_63 lk_X8_98 mv_X8_step in_X8_step se_X8_step (Nat.le_of_ble_eq_true rfl) (Nat.le_of_ble_eq_true rfl) (hp_37 _ _ _ _ _) rfl (s_X8_step hw hx50 hj50.1) (fun v63 h63 q63 => ?_)
      obtain ⟨rfl, u63, rfl, hx63⟩ := q63
      have hj63 := hj50.step hw
      show WP _ _ _ _ _ 66 _ [] (HP c u63 m v E) _
      refine wp_aload_n 2 d_X8_readRule_66 rfl rfl ?_
      refine wp_iconst (v0 := 0) d_X8_readRule_67 rfl ?_
      refine wp_virtual0 (As := [.int (0)]) d_X8_readRule_68 lk_X8_109 mv_X8_readCondition in_X8_readCondition se_X8_readCondition (Nat.le_of_ble_eq_true rfl) (Nat.le_of_ble_eq_true rfl) (hp_37 _ _ _ _ _) rfl (s_X8_cond (d := d) hw 3 0 (by omega) _ _ _ hx63 hj63) (fun v68 h68 q68 => ?_)
      obtain ⟨rfl, u68, rfl, hx68⟩ := q68
      have hj68 := kGd.cond hw 3 _ _ hj63
      show WP _ _ _ _ _ 71 _ [] (HP c u68 m v E) _
      refine wp_aload_n 2 d_X8_readRule_71 rfl rfl ?_
      refine wp_getfield (v := .ref (41)) d_X8_readRule_72 gf_X8_23 (hp_37 _ _ _ _ _) rfl ?_
      refine wp_iload_n 1 d_X8_readRule_75 rfl rfl ?_
      refine wp_iconst (v0 := 3) d_X8_readRule_76 rfl ?_
      refine wp_iadd d_X8_readRule_77 ?_
      refine wp_v (v0 := nI (((p).2.2.1) + (3))) (nI_add ((p).2.2.1) (3)) ?_
      refine wp_aload_n 2 d_X8_readRule_78 rfl rfl ?_
      refine wp_getfield (v := .int (nI (qcond W Z 3 (qstep W (qstep W (((qfail Z (qemit (0) (qemit (0) (qemit (0) (qemit (0) (p)))))).1, (qfail Z (qemit (0) (qemit (0) (qemit (0) (qemit (0) (p)))))).2.1, (qfail Z (qemit (0) (qemit (0) (qemit (0) (qemit (0) (p)))))).2.2.1, upd (qfail Z (qemit (0) (qemit (0) (qemit (0) (qemit (0) (p)))))).2.2.2 ((p).2.2.1) (W (qfail Z (qemit (0) (qemit (0) (qemit (0) (qemit (0) (p)))))).1)))))).2.2.1)) d_X8_readRule_79 gf_X8_42 (hp_37 _ _ _ _ _) (congrArg (fun z => some (Value.int z)) hx68.1.2.2.2.1) ?_
      refine wp_iload_n 1 d_X8_readRule_82 rfl rfl ?_
      refine wp_isub d_X8_readRule_83 ?_
      refine wp_iconst (v0 := 4) d_X8_readRule_84 rfl ?_
      refine wp_isub d_X8_readRule_85 ?_
      refine wp_iastore (h' := HP c (setA u68 41 (upd (u68.2.1 41) (((p).2.2.1) + (3)) (((nI (qcond W Z 3 (qstep W (qstep W (((qfail Z (qemit (0) (qemit (0) (qemit (0) (qemit (0) (p)))))).1, (qfail Z (qemit (0) (qemit (0) (qemit (0) (qemit (0) (p)))))).2.1, (qfail Z (qemit (0) (qemit (0) (qemit (0) (qemit (0) (p)))))).2.2.1, upd (qfail Z (qemit (0) (qemit (0) (qemit (0) (qemit (0) (p)))))).2.2.2 ((p).2.2.1) (W (qfail Z (qemit (0) (qemit (0) (qemit (0) (qemit (0) (p)))))).1)))))).2.2.1) - (nI ((p).2.2.1))) - (4)))) m v E) d_X8_readRule_86 (hp_41 _ _ _ _ _) (vp_in_nI (by omega) (by omega)) (by rw [nI_clamp (by omega)]; exact (hpa_41 _ _ _ _ _ _)) ?_
      have hxy87 : kTx w W Z ((qcond W Z 3 (qstep W (qstep W (((qfail Z (qemit (0) (qemit (0) (qemit (0) (qemit (0) (p)))))).1, (qfail Z (qemit (0) (qemit (0) (qemit (0) (qemit (0) (p)))))).2.1, (qfail Z (qemit (0) (qemit (0) (qemit (0) (qemit (0) (p)))))).2.2.1, upd (qfail Z (qemit (0) (qemit (0) (qemit (0) (qemit (0) (p)))))).2.2.2 ((p).2.2.1) (W (qfail Z (qemit (0) (qemit (0) (qemit (0) (qemit (0) (p)))))).1)))))).1, (qcond W Z 3 (qstep W (qstep W (((qfail Z (qemit (0) (qemit (0) (qemit (0) (qemit (0) (p)))))).1, (qfail Z (qemit (0) (qemit (0) (qemit (0) (qemit (0) (p)))))).2.1, (qfail Z (qemit (0) (qemit (0) (qemit (0) (qemit (0) (p)))))).2.2.1, upd (qfail Z (qemit (0) (qemit (0) (qemit (0) (qemit (0) (p)))))).2.2.2 ((p).2.2.1) (W (qfail Z (qemit (0) (qemit (0) (qemit (0) (qemit (0) (p)))))).1)))))).2.1, (qcond W Z 3 (qstep W (qstep W (((qfail Z (qemit (0) (qemit (0) (qemit (0) (qemit (0) (p)))))).1, (qfail Z (qemit (0) (qemit (0) (qemit (0) (qemit (0) (p)))))).2.1, (qfail Z (qemit (0) (qemit (0) (qemit (0) (qemit (0) (p)))))).2.2.1, upd (qfail Z (qemit (0) (qemit (0) (qemit (0) (qemit (0) (p)))))).2.2.2 ((p).2.2.1) (W (qfail Z (qemit (0) (qemit (0) (qemit (0) (qemit (0) (p)))))).1)))))).2.2.1, upd (qcond W Z 3 (qstep W (qstep W (((qfail Z (qemit (0) (qemit (0) (qemit (0) (qemit (0) (p)))))).1, (qfail Z (qemit (0) (qemit (0) (qemit (0) (qemit (0) (p)))))).2.1, (qfail Z (qemit (0) (qemit (0) (qemit (0) (qemit (0) (p)))))).2.2.1, upd (qfail Z (qemit (0) (qemit (0) (qemit (0) (qemit (0) (p)))))).2.2.2 ((p).2.2.1) (W (qfail Z (qemit (0) (qemit (0) (qemit (0) (qemit (0) (p)))))).1)))))).2.2.2 (((p).2.2.1) + (3)) (((nI (qcond W Z 3 (qstep W (qstep W (((qfail Z (qemit (0) (qemit (0) (qemit (0) (qemit (0) (p)))))).1, (qfail Z (qemit (0) (qemit (0) (qemit (0) (qemit (0) (p)))))).2.1, (qfail Z (qemit (0) (qemit (0) (qemit (0) (qemit (0) (p)))))).2.2.1, upd (qfail Z (qemit (0) (qemit (0) (qemit (0) (qemit (0) (p)))))).2.2.2 ((p).2.2.1) (W (qfail Z (qemit (0) (qemit (0) (qemit (0) (qemit (0) (p)))))).1)))))).2.2.1) - (nI ((p).2.2.1))) - (4))) (setA u68 41 (upd (u68.2.1 41) (((p).2.2.1) + (3)) (((nI (qcond W Z 3 (qstep W (qstep W (((qfail Z (qemit (0) (qemit (0) (qemit (0) (qemit (0) (p)))))).1, (qfail Z (qemit (0) (qemit (0) (qemit (0) (qemit (0) (p)))))).2.1, (qfail Z (qemit (0) (qemit (0) (qemit (0) (qemit (0) (p)))))).2.2.1, upd (qfail Z (qemit (0) (qemit (0) (qemit (0) (qemit (0) (p)))))).2.2.2 ((p).2.2.1) (W (qfail Z (qemit (0) (qemit (0) (qemit (0) (qemit (0) (p)))))).1)))))).2.2.1) - (nI ((p).2.2.1))) - (4)))) := by rw [show (qcond W Z 3 (qstep W (qstep W (((qfail Z (qemit (0) (qemit (0) (qemit (0) (qemit (0) (p)))))).1, (qfail Z (qemit (0) (qemit (0) (qemit (0) (qemit (0) (p)))))).2.1, (qfail Z (qemit (0) (qemit (0) (qemit (0) (qemit (0) (p)))))).2.2.1, upd (qfail Z (qemit (0) (qemit (0) (qemit (0) (qemit (0) (p)))))).2.2.2 ((p).2.2.1) (W (qfail Z (qemit (0) (qemit (0) (qemit (0) (qemit (0) (p)))))).1)))))).2.2.2 = u68.2.1 41 from hx68.1.2.2.2.2.1.symm]; exact hx68.code
      have hjy87 := hj68.code (upd (qcond W Z 3 (qstep W (qstep W (((qfail Z (qemit (0) (qemit (0) (qemit (0) (qemit (0) (p)))))).1, (qfail Z (qemit (0) (qemit (0) (qemit (0) (qemit (0) (p)))))).2.1, (qfail Z (qemit (0) (qemit (0) (qemit (0) (qemit (0) (p)))))).2.2.1, upd (qfail Z (qemit (0) (qemit (0) (qemit (0) (qemit (0) (p)))))).2.2.2 ((p).2.2.1) (W (qfail Z (qemit (0) (qemit (0) (qemit (0) (qemit (0) (p)))))).1)))))).2.2.2 (((p).2.2.1) + (3)) (((nI (qcond W Z 3 (qstep W (qstep W (((qfail Z (qemit (0) (qemit (0) (qemit (0) (qemit (0) (p)))))).1, (qfail Z (qemit (0) (qemit (0) (qemit (0) (qemit (0) (p)))))).2.1, (qfail Z (qemit (0) (qemit (0) (qemit (0) (qemit (0) (p)))))).2.2.1, upd (qfail Z (qemit (0) (qemit (0) (qemit (0) (qemit (0) (p)))))).2.2.2 ((p).2.2.1) (W (qfail Z (qemit (0) (qemit (0) (qemit (0) (qemit (0) (p)))))).1)))))).2.2.1) - (nI ((p).2.2.1))) - (4)))
      generalize (setA u68 41 (upd (u68.2.1 41) (((p).2.2.1) + (3)) (((nI (qcond W Z 3 (qstep W (qstep W (((qfail Z (qemit (0) (qemit (0) (qemit (0) (qemit (0) (p)))))).1, (qfail Z (qemit (0) (qemit (0) (qemit (0) (qemit (0) (p)))))).2.1, (qfail Z (qemit (0) (qemit (0) (qemit (0) (qemit (0) (p)))))).2.2.1, upd (qfail Z (qemit (0) (qemit (0) (qemit (0) (qemit (0) (p)))))).2.2.2 ((p).2.2.1) (W (qfail Z (qemit (0) (qemit (0) (qemit (0) (qemit (0) (p)))))).1)))))).2.2.1) - (nI ((p).2.2.1))) - (4)))) = y87 at hxy87 ⊢
      refine wp_aload_n 2 d_X8_readRule_87 rfl rfl ?_
      refine wp_iload_n 1 d_X8_readRule_88 rfl rfl ?_
      refine wp_virtual0 (As := [.int (nI ((p).2.2.1))]) d_X8_readRule_89 lk_X8_112 mv_X8_readDoing in_X8_readDoing se_X8_readDoing (Nat.le_of_ble_eq_true rfl) (Nat.le_of_ble_eq_true rfl) (hp_37 _ _ _ _ _) rfl (s_X8_readDoing hw hxy87 hjy87 hh) (fun v89 h89 q89 => ?_)
      obtain ⟨rfl, u89, rfl, hx89⟩ := q89
      have hj89 := hjy87.dow (hd := p.2.2.1) hw
      show WP _ _ _ _ _ 92 _ [] (HP c u89 m v E) _
      refine wp_aload_n 2 d_X8_readRule_92 rfl rfl ?_
      refine wp_bipush (v0 := 59) d_X8_readRule_93 (by decide) ?_
      refine wp_virtual0 (As := [.int (59)]) d_X8_readRule_95 lk_X8_115 mv_X8_expect in_X8_expect se_X8_expect (Nat.le_of_ble_eq_true rfl) (Nat.le_of_ble_eq_true rfl) (hp_37 _ _ _ _ _) rfl (s_X8_expect hw hx89 hj89 (59)) (fun v95 h95 q95 => ?_)
      obtain ⟨rfl, u95, rfl, hx95⟩ := q95
      have hj95 := hj89.exp (x := 59) hw
      show WP _ _ _ _ _ 98 _ [] (HP c u95 m v E) _
      refine wp_vret d_X8_readRule_98 rfl ?_
      refine ⟨rfl, u95, rfl, ?_⟩
      rw [show qrule W Z p = qexp W Z (59) (qdo W Z p.2.2.1 (((qcond W Z 3 (qstep W (qstep W (((qfail Z (qemit (0) (qemit (0) (qemit (0) (qemit (0) (p)))))).1, (qfail Z (qemit (0) (qemit (0) (qemit (0) (qemit (0) (p)))))).2.1, (qfail Z (qemit (0) (qemit (0) (qemit (0) (qemit (0) (p)))))).2.2.1, upd (qfail Z (qemit (0) (qemit (0) (qemit (0) (qemit (0) (p)))))).2.2.2 ((p).2.2.1) (W (qfail Z (qemit (0) (qemit (0) (qemit (0) (qemit (0) (p)))))).1)))))).1, (qcond W Z 3 (qstep W (qstep W (((qfail Z (qemit (0) (qemit (0) (qemit (0) (qemit (0) (p)))))).1, (qfail Z (qemit (0) (qemit (0) (qemit (0) (qemit (0) (p)))))).2.1, (qfail Z (qemit (0) (qemit (0) (qemit (0) (qemit (0) (p)))))).2.2.1, upd (qfail Z (qemit (0) (qemit (0) (qemit (0) (qemit (0) (p)))))).2.2.2 ((p).2.2.1) (W (qfail Z (qemit (0) (qemit (0) (qemit (0) (qemit (0) (p)))))).1)))))).2.1, (qcond W Z 3 (qstep W (qstep W (((qfail Z (qemit (0) (qemit (0) (qemit (0) (qemit (0) (p)))))).1, (qfail Z (qemit (0) (qemit (0) (qemit (0) (qemit (0) (p)))))).2.1, (qfail Z (qemit (0) (qemit (0) (qemit (0) (qemit (0) (p)))))).2.2.1, upd (qfail Z (qemit (0) (qemit (0) (qemit (0) (qemit (0) (p)))))).2.2.2 ((p).2.2.1) (W (qfail Z (qemit (0) (qemit (0) (qemit (0) (qemit (0) (p)))))).1)))))).2.2.1, upd (qcond W Z 3 (qstep W (qstep W (((qfail Z (qemit (0) (qemit (0) (qemit (0) (qemit (0) (p)))))).1, (qfail Z (qemit (0) (qemit (0) (qemit (0) (qemit (0) (p)))))).2.1, (qfail Z (qemit (0) (qemit (0) (qemit (0) (qemit (0) (p)))))).2.2.1, upd (qfail Z (qemit (0) (qemit (0) (qemit (0) (qemit (0) (p)))))).2.2.2 ((p).2.2.1) (W (qfail Z (qemit (0) (qemit (0) (qemit (0) (qemit (0) (p)))))).1)))))).2.2.2 (((p).2.2.1) + (3)) (((nI (qcond W Z 3 (qstep W (qstep W (((qfail Z (qemit (0) (qemit (0) (qemit (0) (qemit (0) (p)))))).1, (qfail Z (qemit (0) (qemit (0) (qemit (0) (qemit (0) (p)))))).2.1, (qfail Z (qemit (0) (qemit (0) (qemit (0) (qemit (0) (p)))))).2.2.1, upd (qfail Z (qemit (0) (qemit (0) (qemit (0) (qemit (0) (p)))))).2.2.2 ((p).2.2.1) (W (qfail Z (qemit (0) (qemit (0) (qemit (0) (qemit (0) (p)))))).1)))))).2.2.1) - (nI ((p).2.2.1))) - (4))))) from ?_]
      · exact hx95
      have e1 : qrk W Z (q4 p) = _ := if_neg zc32
      have e2 : qr1 W Z p.2.2.1 p = qcond W Z 3 (qstep W (qstep W (((qfail Z (qemit (0) (qemit (0) (qemit (0) (qemit (0) (p)))))).1, (qfail Z (qemit (0) (qemit (0) (qemit (0) (qemit (0) (p)))))).2.1, (qfail Z (qemit (0) (qemit (0) (qemit (0) (qemit (0) (p)))))).2.2.1, upd (qfail Z (qemit (0) (qemit (0) (qemit (0) (qemit (0) (p)))))).2.2.2 ((p).2.2.1) (W (qfail Z (qemit (0) (qemit (0) (qemit (0) (qemit (0) (p)))))).1))))) := by
        unfold qr1
        rw [e1]
        exact if_pos zc59
      unfold qrule
      rw [e2]
      rfl
