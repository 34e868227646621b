/-! ===== reference: the reader ===== -/
/-- from, to, wrong, value, open, coded, s -/
abbrev kRt := Nat × Nat × Bool × Int32 × Nat × Nat × (Nat → Int32)
def kMx (v : kZ) (q : kRt) (y : kZ) : Prop := y.1 8025 = nI q.1 ∧ y.1 8026 = nI q.2.1 ∧ y.1 8030 = kb (q.2.2.1 = true) ∧ y.1 8027 = q.2.2.2.1 ∧ y.1 8028 = nI q.2.2.2.2.1 ∧ y.1 8029 = nI q.2.2.2.2.2.1 ∧ y.2.1 83 = v.2.1 83
abbrev qby (t : Nat → Int32) (T k : Nat) : Int32 := if k < T then t k else -1
def rfr (t : Nat → Int32) (T e : Nat) : Nat := qend (fun x => decide (x = 32)) t (T - e) e
def rto (t : Nat → Int32) (T f : Nat) : Nat := if f < T then qend (fun x => decide ((qLt (t f) ∧ qLt x) ∨ (qDg (t f) ∧ qDg x))) t (T - (f + 1)) (f + 1) else f
def rtok (t : Nat → Int32) (T : Nat) (q : kRt) : kRt := (rfr t T q.2.1, rto t T (rfr t T q.2.1), q.2.2)
theorem kMx.fr {v y : kZ} {q : kRt} (i : Nat) (h : kMx v q y) : kMx v (i, q.2) (setS y 8025 (nI i)) := ⟨rfl, h.2.1, h.2.2.1, h.2.2.2.1, h.2.2.2.2.1, h.2.2.2.2.2.1, h.2.2.2.2.2.2⟩
theorem kMx.to {v y : kZ} {q : kRt} (i : Nat) (h : kMx v q y) : kMx v (q.1, i, q.2.2) (setS y 8026 (nI i)) := ⟨h.1, rfl, h.2.2.1, h.2.2.2.1, h.2.2.2.2.1, h.2.2.2.2.2.1, h.2.2.2.2.2.2⟩
theorem kMx.wr {v y : kZ} {q : kRt} (b : Bool) {x : Int32} (hb : x = kb (b = true)) (h : kMx v q y) : kMx v (q.1, q.2.1, b, q.2.2.2) (setS y 8030 x) := ⟨h.1, h.2.1, hb, h.2.2.2.1, h.2.2.2.2.1, h.2.2.2.2.2.1, h.2.2.2.2.2.2⟩
theorem kMx.val {v y : kZ} {q : kRt} (x : Int32) (h : kMx v q y) : kMx v (q.1, q.2.1, q.2.2.1, x, q.2.2.2.2) (setS y 8027 x) := ⟨h.1, h.2.1, h.2.2.1, rfl, h.2.2.2.2.1, h.2.2.2.2.2.1, h.2.2.2.2.2.2⟩
theorem kMx.op {v y : kZ} {q : kRt} (i : Nat) (h : kMx v q y) : kMx v (q.1, q.2.1, q.2.2.1, q.2.2.2.1, i, q.2.2.2.2.2) (setS y 8028 (nI i)) := ⟨h.1, h.2.1, h.2.2.1, h.2.2.2.1, rfl, h.2.2.2.2.2.1, h.2.2.2.2.2.2⟩
theorem kMx.cod {v y : kZ} {q : kRt} (i : Nat) (s : Nat → Int32) (h : kMx v q y) : kMx v (q.1, q.2.1, q.2.2.1, q.2.2.2.1, q.2.2.2.2.1, i, s) (setS y 8029 (nI i)) := ⟨h.1, h.2.1, h.2.2.1, h.2.2.2.1, h.2.2.2.2.1, rfl, h.2.2.2.2.2.2⟩
theorem rfr_b {t : Nat → Int32} {T e : Nat} (h : e ≤ T) : e ≤ rfr t T e ∧ rfr t T e ≤ T := by
  have := qend_b (fun x => decide (x = 32)) t (T - e) e
  unfold rfr
  omega
theorem rto_b {t : Nat → Int32} {T f : Nat} (h : f ≤ T) : f ≤ rto t T f ∧ rto t T f ≤ T ∧ (f < T → f < rto t T f) := by
  unfold rto
  split
  · have := qend_b (fun x => decide ((qLt (t f) ∧ qLt x) ∨ (qDg (t f) ∧ qDg x))) t (T - (f + 1)) (f + 1)
    omega
  · omega
theorem s_X10_byteAt {X : kX} {d : Nat} {c w m v : kZ} {E : kH} {T : Nat} (hT : m.1 8024 = nI T) (hT2 : T ≤ 200) {s1 : Nat → Int32} {k : Nat} (hk : k ≤ 200) : WP X d 0 0 Y_X10_byteAt 0 [(0, .ref (80)), (1, .int (nI (k)))] [] (HP c w (setA m 81 (s1)) v E) (kR (some (.int (qby (m.2.1 94) T k))) (HP c w (setA m 81 (s1)) v E)) := by
  refine wp_iload_n 1 d_X10_byteAt_0 rfl rfl ?_
  refine wp_aload_n 0 d_X10_byteAt_1 rfl rfl ?_
  refine wp_getfield (v := .int (nI (T))) d_X10_byteAt_2 gf_X10_275 (hp_80 _ _ _ _ _) (congrArg (fun z => some (Value.int z)) hT) ?_
  refine wp_ncmp_ge (a := k) (b := T) 17 d_X10_byteAt_5 rfl (by omega) (by omega) (fun zc5 => ?_) (fun zc5 => ?_)
  · refine wp_iconst (v0 := -1) d_X10_byteAt_17 rfl ?_
    refine wp_reti d_X10_byteAt_18 rfl ?_
    exact kR_i (Eq.symm (if_neg (by omega))) rfl
  · refine wp_aload_n 0 d_X10_byteAt_8 rfl rfl ?_
    refine wp_getfield (v := .ref (94)) d_X10_byteAt_9 gf_X10_50 (hp_80 _ _ _ _ _) rfl ?_
    refine wp_iload_n 1 d_X10_byteAt_12 rfl rfl ?_
    refine wp_iaload (v := (m.2.1 94) (k)) d_X10_byteAt_13 (hp_94 _ _ _ _ _) (vp_in_nI (by omega) (by omega)) (congrArg ((m.2.1 94)) (nI_clamp (by omega))) ?_
    refine wp_goto 18 d_X10_byteAt_14 rfl ?_
    refine wp_reti d_X10_byteAt_18 rfl ?_
    exact kR_i (Eq.symm (if_pos (by omega))) rfl
abbrev rP (A x : Int32) : Prop := (qLt A ∧ qLt x) ∨ (qDg A ∧ qDg x)
theorem rt_go {A : Int32} {t : Nat → Int32} {T k i e : Nat} (hi : i + k = T) (hr : qend (fun x => decide (rP A x)) t k i = e) (h : rP A (qby t T i)) : ∃ k1, k = k1 + 1 ∧ qend (fun x => decide (rP A x)) t k1 (i + 1) = e := by
  cases k with
  | zero =>
    rw [show qby t T i = -1 from if_neg (by omega)] at h
    rcases h with h | h
    · exact absurd h.2 (by decide)
    · exact absurd h.2 (by decide)
  | succ k1 =>
    rw [show qby t T i = t i from if_pos (by omega)] at h
    simp only [qend] at hr
    rw [if_pos (decide_eq_true h)] at hr
    exact ⟨k1, rfl, hr⟩
theorem rt_st {A : Int32} {t : Nat → Int32} {T k i e : Nat} (hi : i + k = T) (hr : qend (fun x => decide (rP A x)) t k i = e) (h : ¬ rP A (qby t T i)) : e = i := by
  cases k with
  | zero => exact hr.symm
  | succ k1 =>
    rw [show qby t T i = t i from if_pos (by omega)] at h
    simp only [qend] at hr
    rw [if_neg (fun z => h (of_decide_eq_true z))] at hr
    exact hr.symm
theorem s_X10_token_2 {X : kX} {d : Nat} {c w m v : kZ} {E : kH} {T : Nat} (hT : m.1 8024 = nI T) (hT2 : T ≤ 200) {s1 : Nat → Int32} {q : kRt} {A : Int32} {e9 : Nat} : ∀ (k : Nat) (i : Nat) (y : kZ), (i + k = T) → (kMx v (q.1, i, q.2.2) y) → (qend (fun x => decide (rP A x)) (m.2.1 94) k i = e9) → WP X (d + 2) 0 0 Y_X10_token 86 [(2, .int (kb (qDg A))), (1, .int (kb (qLt A))), (0, .ref (80))] [] (HP c w (setA m 81 (s1)) y E) (fun r1 h1 => r1 = none ∧ ∃ y1 : kZ, h1 = HP c w (setA m 81 (s1)) y1 E ∧ kMx v (q.1, e9, q.2.2) y1) := by
  intro k
  induction k using Nat.strongRecOn with
  | ind k ih =>
    intro i y hi hx hr
    refine wp_iload_n 1 d_X10_token_86 rfl rfl ?_
    refine wp_ifb_eq 104 d_X10_token_87 rfl (fun zc87 => ?_) (fun zc87 => ?_)
    · refine wp_iload_n 0 d_X10_token_104 rfl rfl ?_
      refine wp_ifb_eq 135 d_X10_token_105 rfl (fun zc105 => ?_) (fun zc105 => ?_)
      · refine wp_vret d_X10_token_135 rfl ?_
        obtain rfl := rt_st hi hr (fun z => z.elim (fun z => zc87 z.1) (fun z => zc105 z.1))
        exact ⟨rfl, y, rfl, hx⟩
      · refine wp_aload_n 2 d_X10_token_108 rfl rfl ?_
        refine wp_aload_n 2 d_X10_token_109 rfl rfl ?_
        refine wp_getfield (v := .int (nI (i))) d_X10_token_110 gf_X10_288 (hp_80 _ _ _ _ _) (congrArg (fun z => some (Value.int z)) hx.2.1) ?_
        refine wp_vrt_i (As := [.int (nI (i))]) (x0 := qby (m.2.1 94) T (i)) (h1 := HP c w (setA m 81 (s1)) y E) d_X10_token_113 lk_X10_294 mv_X10_byteAt in_X10_byteAt se_X10_byteAt (Nat.le_of_ble_eq_true rfl) (Nat.le_of_ble_eq_true rfl) (hp_80 _ _ _ _ _) rfl (s_X10_byteAt hT hT2 (k := i) (by omega)) ?_
        refine wp_stc_i (As := [.int (qby (m.2.1 94) T (i))]) (x0 := kb (48 ≤ (qby (m.2.1 94) T (i) : Int32).toInt ∧ (qby (m.2.1 94) T (i) : Int32).toInt ≤ 57)) (h1 := HP c w (setA m 81 (s1)) y E) d_X10_token_116 lk_X10_300 mv_X10_isDigit st_X10_isDigit (Nat.le_of_ble_eq_true rfl) (Nat.le_of_ble_eq_true rfl) (s_X10_isDigit _ (qby (m.2.1 94) T (i) : Int32)) ?_
        refine wp_ifb_eq 135 d_X10_token_119 rfl (fun zc119 => ?_) (fun zc119 => ?_)
        · refine wp_vret d_X10_token_135 rfl ?_
          obtain rfl := rt_st hi hr (fun z => z.elim (fun z => zc87 z.1) (fun z => zc119 z.2))
          exact ⟨rfl, y, rfl, hx⟩
        · refine wp_aload_n 2 d_X10_token_122 rfl rfl ?_
          refine wp_dup d_X10_token_123 rfl ?_
          refine wp_getfield (v := .int (nI (i))) d_X10_token_124 gf_X10_288 (hp_80 _ _ _ _ _) (congrArg (fun z => some (Value.int z)) hx.2.1) ?_
          refine wp_iconst (v0 := 1) d_X10_token_127 rfl ?_
          refine wp_iadd d_X10_token_128 ?_
          refine wp_v (v0 := nI ((i) + (1))) (nI_add (i) (1)) ?_
          refine wp_putfield (h' := HP c w (setA m 81 (s1)) (setS y 8026 (nI ((i) + (1)))) E) d_X10_token_129 gp_X10_288 (kfit_i _) (hp_80 _ _ _ _ _) (Nat.le_of_ble_eq_true rfl) (hps_80_26 _ _ _ _ _ _) ?_
          refine wp_goto 86 d_X10_token_132 rfl ?_
          obtain ⟨k1, rfl, hr1⟩ := rt_go hi hr (Or.inr ⟨zc105, zc119⟩)
          refine wp_sub [(2, .int (kb (qDg A))), (1, .int (kb (qLt A))), (0, .ref (80))] [0, 1, 2] rfl ?_
          exact ih k1 (by omega) (i + 1) _ (by omega) (hx.to (i + 1)) hr1
    · refine wp_aload_n 2 d_X10_token_90 rfl rfl ?_
      refine wp_aload_n 2 d_X10_token_91 rfl rfl ?_
      refine wp_getfield (v := .int (nI (i))) d_X10_token_92 gf_X10_288 (hp_80 _ _ _ _ _) (congrArg (fun z => some (Value.int z)) hx.2.1) ?_
      refine wp_vrt_i (As := [.int (nI (i))]) (x0 := qby (m.2.1 94) T (i)) (h1 := HP c w (setA m 81 (s1)) y E) d_X10_token_95 lk_X10_294 mv_X10_byteAt in_X10_byteAt se_X10_byteAt (Nat.le_of_ble_eq_true rfl) (Nat.le_of_ble_eq_true rfl) (hp_80 _ _ _ _ _) rfl (s_X10_byteAt hT hT2 (k := i) (by omega)) ?_
      refine wp_stc_i (As := [.int (qby (m.2.1 94) T (i))]) (x0 := kb (97 ≤ (qby (m.2.1 94) T (i) : Int32).toInt ∧ (qby (m.2.1 94) T (i) : Int32).toInt ≤ 122)) (h1 := HP c w (setA m 81 (s1)) y E) d_X10_token_98 lk_X10_297 mv_X10_isLetter st_X10_isLetter (Nat.le_of_ble_eq_true rfl) (Nat.le_of_ble_eq_true rfl) (s_X10_isLetter _ (qby (m.2.1 94) T (i) : Int32)) ?_
      refine wp_ifb_ne 122 d_X10_token_101 rfl (fun zc101 => ?_) (fun zc101 => ?_)
      · refine wp_aload_n 2 d_X10_token_122 rfl rfl ?_
        refine wp_dup d_X10_token_123 rfl ?_
        refine wp_getfield (v := .int (nI (i))) d_X10_token_124 gf_X10_288 (hp_80 _ _ _ _ _) (congrArg (fun z => some (Value.int z)) hx.2.1) ?_
        refine wp_iconst (v0 := 1) d_X10_token_127 rfl ?_
        refine wp_iadd d_X10_token_128 ?_
        refine wp_v (v0 := nI ((i) + (1))) (nI_add (i) (1)) ?_
        refine wp_putfield (h' := HP c w (setA m 81 (s1)) (setS y 8026 (nI ((i) + (1)))) E) d_X10_token_129 gp_X10_288 (kfit_i _) (hp_80 _ _ _ _ _) (Nat.le_of_ble_eq_true rfl) (hps_80_26 _ _ _ _ _ _) ?_
        refine wp_goto 86 d_X10_token_132 rfl ?_
        obtain ⟨k1, rfl, hr1⟩ := rt_go hi hr (Or.inl ⟨zc87, zc101⟩)
        refine wp_sub [(2, .int (kb (qDg A))), (1, .int (kb (qLt A))), (0, .ref (80))] [0, 1, 2] rfl ?_
        exact ih k1 (by omega) (i + 1) _ (by omega) (hx.to (i + 1)) hr1
      · refine wp_iload_n 0 d_X10_token_104 rfl rfl ?_
        refine wp_ifb_eq 135 d_X10_token_105 rfl (fun zc105 => ?_) (fun zc105 => ?_)
        · refine wp_vret d_X10_token_135 rfl ?_
          obtain rfl := rt_st hi hr (fun z => z.elim (fun z => zc101 z.2) (fun z => zc105 z.1))
          exact ⟨rfl, y, rfl, hx⟩
        · refine wp_aload_n 2 d_X10_token_108 rfl rfl ?_
          refine wp_aload_n 2 d_X10_token_109 rfl rfl ?_
          refine wp_getfield (v := .int (nI (i))) d_X10_token_110 gf_X10_288 (hp_80 _ _ _ _ _) (congrArg (fun z => some (Value.int z)) hx.2.1) ?_
          refine wp_vrt_i (As := [.int (nI (i))]) (x0 := qby (m.2.1 94) T (i)) (h1 := HP c w (setA m 81 (s1)) y E) d_X10_token_113 lk_X10_294 mv_X10_byteAt in_X10_byteAt se_X10_byteAt (Nat.le_of_ble_eq_true rfl) (Nat.le_of_ble_eq_true rfl) (hp_80 _ _ _ _ _) rfl (s_X10_byteAt hT hT2 (k := i) (by omega)) ?_
          refine wp_stc_i (As := [.int (qby (m.2.1 94) T (i))]) (x0 := kb (48 ≤ (qby (m.2.1 94) T (i) : Int32).toInt ∧ (qby (m.2.1 94) T (i) : Int32).toInt ≤ 57)) (h1 := HP c w (setA m 81 (s1)) y E) d_X10_token_116 lk_X10_300 mv_X10_isDigit st_X10_isDigit (Nat.le_of_ble_eq_true rfl) (Nat.le_of_ble_eq_true rfl) (s_X10_isDigit _ (qby (m.2.1 94) T (i) : Int32)) ?_
          refine wp_ifb_eq 135 d_X10_token_119 rfl (fun zc119 => ?_) (fun zc119 => ?_)
          · refine wp_vret d_X10_token_135 rfl ?_
            obtain rfl := rt_st hi hr (fun z => z.elim (fun z => zc101 z.2) (fun z => zc119 z.2))
            exact ⟨rfl, y, rfl, hx⟩
          · refine wp_aload_n 2 d_X10_token_122 rfl rfl ?_
            refine wp_dup d_X10_token_123 rfl ?_
            refine wp_getfield (v := .int (nI (i))) d_X10_token_124 gf_X10_288 (hp_80 _ _ _ _ _) (congrArg (fun z => some (Value.int z)) hx.2.1) ?_
            refine wp_iconst (v0 := 1) d_X10_token_127 rfl ?_
            refine wp_iadd d_X10_token_128 ?_
            refine wp_v (v0 := nI ((i) + (1))) (nI_add (i) (1)) ?_
            refine wp_putfield (h' := HP c w (setA m 81 (s1)) (setS y 8026 (nI ((i) + (1)))) E) d_X10_token_129 gp_X10_288 (kfit_i _) (hp_80 _ _ _ _ _) (Nat.le_of_ble_eq_true rfl) (hps_80_26 _ _ _ _ _ _) ?_
            refine wp_goto 86 d_X10_token_132 rfl ?_
            obtain ⟨k1, rfl, hr1⟩ := rt_go hi hr (Or.inr ⟨zc105, zc119⟩)
            refine wp_sub [(2, .int (kb (qDg A))), (1, .int (kb (qLt A))), (0, .ref (80))] [0, 1, 2] rfl ?_
            exact ih k1 (by omega) (i + 1) _ (by omega) (hx.to (i + 1)) hr1
theorem s_X10_token_1 {X : kX} {d : Nat} {c w m v : kZ} {E : kH} {T : Nat} (hT : m.1 8024 = nI T) (hT2 : T ≤ 200) {s1 : Nat → Int32} {q : kRt} {e9 : Nat} : ∀ (k : Nat) (i : Nat) (y : kZ), (i + k = T) → (kMx v (i, q.2) y) → (qend (fun x => decide (x = 32)) (m.2.1 94) k i = e9) → WP X (d + 2) 0 0 Y_X10_token 8 [(0, .ref (80))] [] (HP c w (setA m 81 (s1)) y E) (fun r1 h1 => r1 = none ∧ ∃ y1 : kZ, h1 = HP c w (setA m 81 (s1)) y1 E ∧ kMx v (e9, rto (m.2.1 94) T e9, q.2.2) y1) := by
  intro k
  induction k using Nat.strongRecOn with
  | ind k ih =>
    intro i y hi hx hr
    refine wp_aload_n 0 d_X10_token_8 rfl rfl ?_
    refine wp_aload_n 0 d_X10_token_9 rfl rfl ?_
    refine wp_getfield (v := .int (nI (i))) d_X10_token_10 gf_X10_291 (hp_80 _ _ _ _ _) (congrArg (fun z => some (Value.int z)) hx.1) ?_
    refine wp_vrt_i (As := [.int (nI (i))]) (x0 := qby (m.2.1 94) T (i)) (h1 := HP c w (setA m 81 (s1)) y E) d_X10_token_13 lk_X10_294 mv_X10_byteAt in_X10_byteAt se_X10_byteAt (Nat.le_of_ble_eq_true rfl) (Nat.le_of_ble_eq_true rfl) (hp_80 _ _ _ _ _) rfl (s_X10_byteAt hT hT2 (k := i) (by omega)) ?_
    refine wp_bipush (v0 := 32) d_X10_token_16 (by decide) ?_
    refine wp_icmp_ne 34 d_X10_token_18 rfl (fun zc18 => ?_) (fun zc18 => ?_)
    · have hei : e9 = i := by
        cases k with
        | zero => exact hr.symm
        | succ k1 =>
          rw [show qby (m.2.1 94) T i = (m.2.1 94) i from if_pos (by omega)] at zc18
          simp only [qend] at hr
          rw [if_neg (fun z => zc18 (of_decide_eq_true z))] at hr
          exact hr.symm
      subst hei
      refine wp_aload_n 0 d_X10_token_34 rfl rfl ?_
      refine wp_aload_n 0 d_X10_token_35 rfl rfl ?_
      refine wp_getfield (v := .int (nI (e9))) d_X10_token_36 gf_X10_291 (hp_80 _ _ _ _ _) (congrArg (fun z => some (Value.int z)) hx.1) ?_
      refine wp_vrt_i (As := [.int (nI (e9))]) (x0 := qby (m.2.1 94) T (e9)) (h1 := HP c w (setA m 81 (s1)) y E) d_X10_token_39 lk_X10_294 mv_X10_byteAt in_X10_byteAt se_X10_byteAt (Nat.le_of_ble_eq_true rfl) (Nat.le_of_ble_eq_true rfl) (hp_80 _ _ _ _ _) rfl (s_X10_byteAt hT hT2 (k := e9) (by omega)) ?_
      refine wp_stc_i (As := [.int (qby (m.2.1 94) T (e9))]) (x0 := kb (97 ≤ (qby (m.2.1 94) T (e9) : Int32).toInt ∧ (qby (m.2.1 94) T (e9) : Int32).toInt ≤ 122)) (h1 := HP c w (setA m 81 (s1)) y E) d_X10_token_42 lk_X10_297 mv_X10_isLetter st_X10_isLetter (Nat.le_of_ble_eq_true rfl) (Nat.le_of_ble_eq_true rfl) (s_X10_isLetter _ (qby (m.2.1 94) T (e9) : Int32)) ?_
      refine wp_istore_n [(1, .int (kb (97 ≤ (qby (m.2.1 94) T (e9) : Int32).toInt ∧ (qby (m.2.1 94) T (e9) : Int32).toInt ≤ 122))), (0, .ref (80))] d_X10_token_45 rfl (Nat.le_of_ble_eq_true rfl) rfl ?_
      refine wp_aload_n 1 d_X10_token_46 rfl rfl ?_
      refine wp_aload_n 1 d_X10_token_47 rfl rfl ?_
      refine wp_getfield (v := .int (nI (e9))) d_X10_token_48 gf_X10_291 (hp_80 _ _ _ _ _) (congrArg (fun z => some (Value.int z)) hx.1) ?_
      refine wp_vrt_i (As := [.int (nI (e9))]) (x0 := qby (m.2.1 94) T (e9)) (h1 := HP c w (setA m 81 (s1)) y E) d_X10_token_51 lk_X10_294 mv_X10_byteAt in_X10_byteAt se_X10_byteAt (Nat.le_of_ble_eq_true rfl) (Nat.le_of_ble_eq_true rfl) (hp_80 _ _ _ _ _) rfl (s_X10_byteAt hT hT2 (k := e9) (by omega)) ?_
      refine wp_stc_i (As := [.int (qby (m.2.1 94) T (e9))]) (x0 := kb (48 ≤ (qby (m.2.1 94) T (e9) : Int32).toInt ∧ (qby (m.2.1 94) T (e9) : Int32).toInt ≤ 57)) (h1 := HP c w (setA m 81 (s1)) y E) d_X10_token_54 lk_X10_300 mv_X10_isDigit st_X10_isDigit (Nat.le_of_ble_eq_true rfl) (Nat.le_of_ble_eq_true rfl) (s_X10_isDigit _ (qby (m.2.1 94) T (e9) : Int32)) ?_
      refine wp_istore_n [(2, .int (kb (48 ≤ (qby (m.2.1 94) T (e9) : Int32).toInt ∧ (qby (m.2.1 94) T (e9) : Int32).toInt ≤ 57))), (1, .int (kb (97 ≤ (qby (m.2.1 94) T (e9) : Int32).toInt ∧ (qby (m.2.1 94) T (e9) : Int32).toInt ≤ 122))), (0, .ref (80))] d_X10_token_57 rfl (Nat.le_of_ble_eq_true rfl) rfl ?_
      refine wp_aload_n 2 d_X10_token_58 rfl rfl ?_
      refine wp_aload_n 2 d_X10_token_59 rfl rfl ?_
      refine wp_getfield (v := .int (nI (e9))) d_X10_token_60 gf_X10_291 (hp_80 _ _ _ _ _) (congrArg (fun z => some (Value.int z)) hx.1) ?_
      refine wp_aload_n 2 d_X10_token_63 rfl rfl ?_
      refine wp_getfield (v := .int (nI (T))) d_X10_token_64 gf_X10_275 (hp_80 _ _ _ _ _) (congrArg (fun z => some (Value.int z)) hT) ?_
      refine wp_ncmp_ge (a := e9) (b := T) 79 d_X10_token_67 rfl (by omega) (by omega) (fun zc67 => ?_) (fun zc67 => ?_)
      · refine wp_aload_n 2 d_X10_token_79 rfl rfl ?_
        refine wp_getfield (v := .int (nI (e9))) d_X10_token_80 gf_X10_291 (hp_80 _ _ _ _ _) (congrArg (fun z => some (Value.int z)) hx.1) ?_
        refine wp_putfield (h' := HP c w (setA m 81 (s1)) (setS y 8026 (nI (e9))) E) d_X10_token_83 gp_X10_288 (kfit_i _) (hp_80 _ _ _ _ _) (Nat.le_of_ble_eq_true rfl) (hps_80_26 _ _ _ _ _ _) ?_
        refine wp_sub [(2, .int (kb (48 ≤ (qby (m.2.1 94) T (e9) : Int32).toInt ∧ (qby (m.2.1 94) T (e9) : Int32).toInt ≤ 57))), (1, .int (kb (97 ≤ (qby (m.2.1 94) T (e9) : Int32).toInt ∧ (qby (m.2.1 94) T (e9) : Int32).toInt ≤ 122))), (0, .ref (80))] [0, 1, 2] rfl ?_
        refine wp_mono ?_ (s_X10_token_2 (A := (qby (m.2.1 94) T e9)) (q := (e9, q.2)) hT hT2 0 e9 _ (by omega) (hx.to e9) rfl)
        rintro r1 h1 ⟨rfl, y1, rfl, h2⟩
        exact ⟨rfl, y1, rfl, by rw [show rto (m.2.1 94) T e9 = e9 from if_neg (by omega)]; exact h2⟩
      · refine wp_aload_n 2 d_X10_token_70 rfl rfl ?_
        refine wp_getfield (v := .int (nI (e9))) d_X10_token_71 gf_X10_291 (hp_80 _ _ _ _ _) (congrArg (fun z => some (Value.int z)) hx.1) ?_
        refine wp_iconst (v0 := 1) d_X10_token_74 rfl ?_
        refine wp_iadd d_X10_token_75 ?_
        refine wp_v (v0 := nI ((e9) + (1))) (nI_add (e9) (1)) ?_
        refine wp_goto 83 d_X10_token_76 rfl ?_
        refine wp_putfield (h' := HP c w (setA m 81 (s1)) (setS y 8026 (nI ((e9) + (1)))) E) d_X10_token_83 gp_X10_288 (kfit_i _) (hp_80 _ _ _ _ _) (Nat.le_of_ble_eq_true rfl) (hps_80_26 _ _ _ _ _ _) ?_
        refine wp_sub [(2, .int (kb (48 ≤ (qby (m.2.1 94) T (e9) : Int32).toInt ∧ (qby (m.2.1 94) T (e9) : Int32).toInt ≤ 57))), (1, .int (kb (97 ≤ (qby (m.2.1 94) T (e9) : Int32).toInt ∧ (qby (m.2.1 94) T (e9) : Int32).toInt ≤ 122))), (0, .ref (80))] [0, 1, 2] rfl ?_
        refine wp_mono ?_ (s_X10_token_2 (A := (qby (m.2.1 94) T e9)) (q := (e9, q.2)) hT hT2 (T - (e9 + 1)) (e9 + 1) _ (by omega) (hx.to (e9 + 1)) rfl)
        rintro r1 h1 ⟨rfl, y1, rfl, h2⟩
        refine ⟨rfl, y1, rfl, ?_⟩
        rw [show rto (m.2.1 94) T e9 = _ from if_pos (by omega)]
        rw [show (qby (m.2.1 94) T e9) = (m.2.1 94) e9 from if_pos (by omega)] at h2
        exact h2
    · refine wp_aload_n 0 d_X10_token_21 rfl rfl ?_
      refine wp_dup d_X10_token_22 rfl ?_
      refine wp_getfield (v := .int (nI (i))) d_X10_token_23 gf_X10_291 (hp_80 _ _ _ _ _) (congrArg (fun z => some (Value.int z)) hx.1) ?_
      refine wp_iconst (v0 := 1) d_X10_token_26 rfl ?_
      refine wp_iadd d_X10_token_27 ?_
      refine wp_v (v0 := nI ((i) + (1))) (nI_add (i) (1)) ?_
      refine wp_putfield (h' := HP c w (setA m 81 (s1)) (setS y 8025 (nI ((i) + (1)))) E) d_X10_token_28 gp_X10_291 (kfit_i _) (hp_80 _ _ _ _ _) (Nat.le_of_ble_eq_true rfl) (hps_80_25 _ _ _ _ _ _) ?_
      refine wp_goto 8 d_X10_token_31 rfl ?_
      have hk : k ≠ 0 := fun e => by
        rw [show qby (m.2.1 94) T i = -1 from if_neg (by omega)] at zc18
        exact absurd zc18 (by decide)
      obtain ⟨k1, rfl⟩ : ∃ k1, k = k1 + 1 := ⟨k - 1, by omega⟩
      rw [show qby (m.2.1 94) T i = (m.2.1 94) i from if_pos (by omega)] at zc18
      simp only [qend] at hr
      rw [if_pos (decide_eq_true zc18)] at hr
      exact ih k1 (by omega) (i + 1) _ (by omega) (hx.fr (i + 1)) hr
theorem s_X10_token {X : kX} {d : Nat} {c w m v : kZ} {E : kH} {T : Nat} (hT : m.1 8024 = nI T) (hT2 : T ≤ 200) {s1 : Nat → Int32} {q : kRt} {y : kZ} (hx : kMx v q y) (hto : q.2.1 ≤ T) : WP X (d + 2) 0 0 Y_X10_token 0 [(0, .ref (80))] [] (HP c w (setA m 81 (s1)) y E) (fun r1 h1 => r1 = none ∧ ∃ y1 : kZ, h1 = HP c w (setA m 81 (s1)) y1 E ∧ kMx v (rtok (m.2.1 94) T q) y1) := by
  refine wp_aload_n 0 d_X10_token_0 rfl rfl ?_
  refine wp_aload_n 0 d_X10_token_1 rfl rfl ?_
  refine wp_getfield (v := .int (nI ((q).2.1))) d_X10_token_2 gf_X10_288 (hp_80 _ _ _ _ _) (congrArg (fun z => some (Value.int z)) hx.2.1) ?_
  refine wp_putfield (h' := HP c w (setA m 81 (s1)) (setS y 8025 (nI ((q).2.1))) E) d_X10_token_5 gp_X10_291 (kfit_i _) (hp_80 _ _ _ _ _) (Nat.le_of_ble_eq_true rfl) (hps_80_25 _ _ _ _ _ _) ?_
  exact s_X10_token_1 (q := q) hT hT2 (T - q.2.1) q.2.1 _ (by omega) (hx.fr q.2.1) rfl
