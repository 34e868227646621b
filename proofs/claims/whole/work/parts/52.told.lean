/-! ===== class: the text told ===== -/
abbrev qeow (b : Nat → Int32) (T i : Nat) : Nat := (if qLt (b i) then qend (fun x => decide (qLt x)) b (T - (i + 1)) (i + 1) else if qDg (b i) then qend (fun x => decide (qDg x)) b (T - (i + 1)) (i + 1) else i + 1)
abbrev qwd (b : Nat → Int32) (i e : Nat) : Int32 := (if qLt (b i) then qnm b i (e - i) kBYT 0 0 true else if qDg (b i) then (if e - i ≤ 4 then 1000 + qnum b i (e - i) else 18) else if qSg (b i) then b i else 18)
abbrev qinw (b : Nat → Int32) (i : Nat) : Prop := (1 ≤ i ∧ ((qLt (b (i - 1)) ∧ qLt (b i)) ∨ (qDg (b (i - 1)) ∧ qDg (b i))))
def qps (b : Nat → Int32) : Nat → Nat → List Nat
  | 0, _ => []
  | k + 1, i => if ¬ b i = 32 ∧ ¬ qinw b i then i :: qps b k (i + 1) else qps b k (i + 1)
theorem qend_b (P : Int32 → Bool) (b : Nat → Int32) : ∀ k e, e ≤ qend P b k e ∧ qend P b k e ≤ e + k
  | 0, e => ⟨Nat.le_refl _, Nat.le_refl _⟩
  | k + 1, e => by
    simp only [qend]
    have := qend_b P b k (e + 1)
    split <;> omega
theorem qeow_b {b : Nat → Int32} {T i : Nat} (h : i < T) : i < qeow b T i ∧ qeow b T i ≤ T := by
  have h1 := qend_b (fun x => decide (qLt x)) b (T - (i + 1)) (i + 1)
  have h2 := qend_b (fun x => decide (qDg x)) b (T - (i + 1)) (i + 1)
  unfold qeow
  split
  · omega
  · split <;> omega
theorem qps_len (b : Nat → Int32) : ∀ k i, (qps b k i).length ≤ k
  | 0, i => Nat.le_refl _
  | k + 1, i => by
    have := qps_len b k (i + 1)
    simp only [qps]
    split
    · rw [List.length_cons]; omega
    · omega
/-- the words laid in w: places l -/
def kSpl (b : Nat → Int32) (T : Nat) (l : List Nat) (u : kZ) : Prop := ∀ j (h : j < l.length), u.2.1 39 j = qwd b l[j] (qeow b T l[j]) ∧ u.2.1 40 j = nI l[j]
def kF39 (w u : kZ) : Prop := u.1 = w.1 ∧ (∀ k, k ≠ 39 → k ≠ 40 → u.2.1 k = w.2.1 k) ∧ u.2.2 = w.2.2
theorem kF39.up {w u : kZ} (h : kF39 w u) (F G : Nat → Int32) : kF39 w (setA (setA u 39 F) 40 G) := ⟨h.1, fun k e1 e2 => ((updA_n (updA u.2.1 39 F) G e2).trans (updA_n u.2.1 F e1)).trans (h.2.1 k e1 e2), h.2.2⟩
theorem kSpl.push {b : Nat → Int32} {T : Nat} {l : List Nat} {u : kZ} {i : Nat} (h : kSpl b T l u) : kSpl b T (l ++ [i]) (setA (setA u 39 (upd (u.2.1 39) l.length (qwd b i (qeow b T i)))) 40 (upd (u.2.1 40) l.length (nI i))) := by
  intro j hj
  show upd (u.2.1 39) l.length _ j = _ ∧ upd (u.2.1 40) l.length _ j = _
  by_cases q : j = l.length
  · subst q
    have e9 : (l ++ [i])[l.length] = i := by simp
    rw [upd_s, upd_s, e9]
    exact ⟨rfl, rfl⟩
  · rw [List.length_append] at hj
    simp only [List.length_cons, List.length_nil] at hj
    rw [upd_n _ _ q, upd_n _ _ q, List.getElem_append_left (by omega)]
    exact h j (by omega)
theorem kSpl.last {b : Nat → Int32} {T : Nat} {l : List Nat} {u : kZ} {x y : Int32} (h : kSpl b T l u) : kSpl b T l (setA (setA u 39 (upd (u.2.1 39) l.length x)) 40 (upd (u.2.1 40) l.length y)) ∧ (setA (setA u 39 (upd (u.2.1 39) l.length x)) 40 (upd (u.2.1 40) l.length y)).2.1 39 l.length = x ∧ (setA (setA u 39 (upd (u.2.1 39) l.length x)) 40 (upd (u.2.1 40) l.length y)).2.1 40 l.length = y := by
  refine ⟨fun j hj => ?_, upd_s (u.2.1 39) _ _, upd_s (u.2.1 40) _ _⟩
  show upd (u.2.1 39) l.length _ j = _ ∧ upd (u.2.1 40) l.length _ j = _
  rw [upd_n _ _ (by omega), upd_n _ _ (by omega)]
  exact h j hj
theorem s_X8_split_l {X : kX} {d : Nat} {c w m v : kZ} {E : kH} {T : Nat} (hT : c.1 3701 = nI T) (hT2 : T ≤ 200) {l : List Nat} : ∀ (k : Nat) (i : Nat) (pre : List Nat) (u : kZ), (i + k = T) → (pre.length ≤ i) → (kF39 w u) → (kSpl (c.2.1 38) T pre u) → (pre ++ qps (c.2.1 38) k i = l) → WP X (d + 6) 0 0 Y_X8_split 4 [(2, .int (nI (i))), (1, .int (nI (pre.length))), (0, .ref (37))] [] (HP c u m v E) (fun r1 h1 => r1 = none ∧ ∃ u1 : kZ, h1 = HP c u1 m v E ∧ kF39 w u1 ∧ kSpl (c.2.1 38) T l u1 ∧ u1.2.1 39 l.length = 19 ∧ u1.2.1 40 l.length = nI T) := by
  intro k
  induction k using Nat.strongRecOn with
  | ind k ih =>
    intro i pre u hi hp hf hs hl
    refine wp_iload_n 0 d_X8_split_4 rfl rfl ?_
    refine wp_aload_n 2 d_X8_split_5 rfl rfl ?_
    refine wp_getfield (v := .int (nI (T))) d_X8_split_6 gf_X8_26 (hp_37 _ _ _ _ _) (congrArg (fun z => some (Value.int z)) hT) ?_
    refine wp_ncmp_ge (a := i) (b := T) 66 d_X8_split_9 rfl (by omega) (by omega) (fun zc9 => ?_) (fun zc9 => ?_)
    · refine wp_aload_n 2 d_X8_split_66 rfl rfl ?_
      refine wp_getfield (v := .ref (39)) d_X8_split_67 gf_X8_15 (hp_37 _ _ _ _ _) rfl ?_
      refine wp_iload_n 1 d_X8_split_70 rfl rfl ?_
      refine wp_bipush (v0 := 19) d_X8_split_71 (by decide) ?_
      refine wp_iastore (h' := HP c (setA u 39 (upd (u.2.1 39) (pre.length) (19))) m v E) d_X8_split_73 (hp_39 _ _ _ _ _) (vp_in_nI (by omega) (by omega)) (by rw [nI_clamp (by omega)]; exact (hpa_39 _ _ _ _ _ _)) ?_
      refine wp_aload_n 2 d_X8_split_74 rfl rfl ?_
      refine wp_getfield (v := .ref (40)) d_X8_split_75 gf_X8_18 (hp_37 _ _ _ _ _) rfl ?_
      refine wp_iload_n 1 d_X8_split_78 rfl rfl ?_
      refine wp_aload_n 2 d_X8_split_79 rfl rfl ?_
      refine wp_getfield (v := .int (nI (T))) d_X8_split_80 gf_X8_26 (hp_37 _ _ _ _ _) (congrArg (fun z => some (Value.int z)) hT) ?_
      refine wp_iastore (h' := HP c (setA (setA u 39 (upd (u.2.1 39) (pre.length) (19))) 40 (upd (u.2.1 40) (pre.length) (nI (T)))) m v E) d_X8_split_83 (hp_40 _ _ _ _ _) (vp_in_nI (by omega) (by omega)) (by rw [nI_clamp (by omega)]; exact (hpa_40 _ _ _ _ _ _)) ?_
      refine wp_vret d_X8_split_84 rfl ?_
      obtain rfl : k = 0 := by omega
      simp only [qps, List.append_nil] at hl
      subst hl
      exact ⟨rfl, _, rfl, hf.up _ _, hs.last⟩
    · refine wp_aload_n 2 d_X8_split_12 rfl rfl ?_
      refine wp_getfield (v := .ref (38)) d_X8_split_13 gf_X8_9 (hp_37 _ _ _ _ _) rfl ?_
      refine wp_iload_n 0 d_X8_split_16 rfl rfl ?_
      refine wp_iaload (v := (c.2.1 38) (i)) d_X8_split_17 (hp_38 _ _ _ _ _) (vp_in_nI (by omega) (by omega)) (congrArg ((c.2.1 38)) (nI_clamp (by omega))) ?_
      refine wp_bipush (v0 := 32) d_X8_split_18 (by decide) ?_
      refine wp_icmp_eq 60 d_X8_split_20 rfl (fun zc20 => ?_) (fun zc20 => ?_)
      · refine wp_iinc (v0 := nI ((i) + 1)) [(2, .int (nI ((i) + 1))), (1, .int (nI (pre.length))), (0, .ref (37))] 0 d_X8_split_60 rfl (nI_add (i) 1) (Nat.le_of_ble_eq_true rfl) rfl ?_
        refine wp_goto 4 d_X8_split_63 rfl ?_
        obtain ⟨k1, rfl⟩ : ∃ k1, k = k1 + 1 := ⟨k - 1, by omega⟩
        simp only [qps] at hl
        rw [if_neg (fun z => z.1 zc20)] at hl
        refine wp_sub [(2, .int (nI ((i) + 1))), (1, .int (nI (pre.length))), (0, .ref (37))] [0, 1, 2] rfl ?_
        exact ih k1 (by omega) (i + 1) pre u (by omega) (by omega) hf hs hl
      · refine wp_aload_n 2 d_X8_split_23 rfl rfl ?_
        refine wp_iload_n 0 d_X8_split_24 rfl rfl ?_
        refine wp_vrt_i (As := [.int (nI (i))]) (x0 := kb (qinw (c.2.1 38) i)) (h1 := HP c u m v E) d_X8_split_25 lk_X8_60 mv_X8_isInWord in_X8_isInWord se_X8_isInWord (Nat.le_of_ble_eq_true rfl) (Nat.le_of_ble_eq_true rfl) (hp_37 _ _ _ _ _) rfl (s_X8_isInWord (i := i) (by omega)) ?_
        refine wp_ifb_eq 34 d_X8_split_28 rfl (fun zc28 => ?_) (fun zc28 => ?_)
        · have heo : i < qeow (c.2.1 38) T i ∧ qeow (c.2.1 38) T i ≤ T := qeow_b (by omega)
          refine wp_aload_n 2 d_X8_split_34 rfl rfl ?_
          refine wp_getfield (v := .ref (39)) d_X8_split_35 gf_X8_15 (hp_37 _ _ _ _ _) rfl ?_
          refine wp_iload_n 1 d_X8_split_38 rfl rfl ?_
          refine wp_aload_n 2 d_X8_split_39 rfl rfl ?_
          refine wp_iload_n 0 d_X8_split_40 rfl rfl ?_
          refine wp_aload_n 2 d_X8_split_41 rfl rfl ?_
          refine wp_iload_n 0 d_X8_split_42 rfl rfl ?_
          refine wp_vrt_i (As := [.int (nI (i))]) (x0 := nI (qeow (c.2.1 38) T i)) (h1 := HP c u m v E) d_X8_split_43 lk_X8_64 mv_X8_endOfWord in_X8_endOfWord se_X8_endOfWord (Nat.le_of_ble_eq_true rfl) (Nat.le_of_ble_eq_true rfl) (hp_37 _ _ _ _ _) rfl (s_X8_endOfWord hT hT2 (i := i) (by omega)) ?_
          refine wp_vrt_i (As := [.int (nI (i)), .int (nI (qeow (c.2.1 38) T i))]) (x0 := qwd (c.2.1 38) i (qeow (c.2.1 38) T i)) (h1 := HP c u m v E) d_X8_split_46 lk_X8_68 mv_X8_wordAt in_X8_wordAt se_X8_wordAt (Nat.le_of_ble_eq_true rfl) (Nat.le_of_ble_eq_true rfl) (hp_37 _ _ _ _ _) rfl (s_X8_wordAt (i := i) (e := qeow (c.2.1 38) T i) heo.1 (Nat.le_trans heo.2 hT2)) ?_
          refine wp_iastore (h' := HP c (setA u 39 (upd (u.2.1 39) (pre.length) (qwd (c.2.1 38) i (qeow (c.2.1 38) T i)))) m v E) d_X8_split_49 (hp_39 _ _ _ _ _) (vp_in_nI (by omega) (by omega)) (by rw [nI_clamp (by omega)]; exact (hpa_39 _ _ _ _ _ _)) ?_
          refine wp_aload_n 2 d_X8_split_50 rfl rfl ?_
          refine wp_getfield (v := .ref (40)) d_X8_split_51 gf_X8_18 (hp_37 _ _ _ _ _) rfl ?_
          refine wp_iload_n 1 d_X8_split_54 rfl rfl ?_
          refine wp_iload_n 0 d_X8_split_55 rfl rfl ?_
          refine wp_iastore (h' := HP c (setA (setA u 39 (upd (u.2.1 39) (pre.length) (qwd (c.2.1 38) i (qeow (c.2.1 38) T i)))) 40 (upd (u.2.1 40) (pre.length) (nI (i)))) m v E) d_X8_split_56 (hp_40 _ _ _ _ _) (vp_in_nI (by omega) (by omega)) (by rw [nI_clamp (by omega)]; exact (hpa_40 _ _ _ _ _ _)) ?_
          refine wp_iinc (v0 := nI ((pre.length) + 1)) [(1, .int (nI ((pre.length) + 1))), (2, .int (nI (i))), (0, .ref (37))] 1 d_X8_split_57 rfl (nI_add (pre.length) 1) (Nat.le_of_ble_eq_true rfl) rfl ?_
          refine wp_iinc (v0 := nI ((i) + 1)) [(2, .int (nI ((i) + 1))), (1, .int (nI ((pre.length) + 1))), (0, .ref (37))] 1 d_X8_split_60 rfl (nI_add (i) 1) (Nat.le_of_ble_eq_true rfl) rfl ?_
          refine wp_goto 4 d_X8_split_63 rfl ?_
          obtain ⟨k1, rfl⟩ : ∃ k1, k = k1 + 1 := ⟨k - 1, by omega⟩
          simp only [qps] at hl
          rw [if_pos ⟨zc20, zc28⟩] at hl
          refine wp_sub [(2, .int (nI (i + 1))), (1, .int (nI (pre ++ [i]).length)), (0, .ref 37)] [0, 1, 2] (by rw [List.length_append]; rfl) ?_
          exact ih k1 (by omega) (i + 1) (pre ++ [i]) _ (by omega) (by rw [List.length_append]; simp only [List.length_cons, List.length_nil]; omega) (hf.up _ _) hs.push (by rw [List.append_assoc]; exact hl)
        · refine wp_goto 60 d_X8_split_31 rfl ?_
          refine wp_iinc (v0 := nI ((i) + 1)) [(2, .int (nI ((i) + 1))), (1, .int (nI (pre.length))), (0, .ref (37))] 0 d_X8_split_60 rfl (nI_add (i) 1) (Nat.le_of_ble_eq_true rfl) rfl ?_
          refine wp_goto 4 d_X8_split_63 rfl ?_
          obtain ⟨k1, rfl⟩ : ∃ k1, k = k1 + 1 := ⟨k - 1, by omega⟩
          simp only [qps] at hl
          rw [if_neg (fun z => z.2 zc28)] at hl
          refine wp_sub [(2, .int (nI ((i) + 1))), (1, .int (nI (pre.length))), (0, .ref (37))] [0, 1, 2] rfl ?_
          exact ih k1 (by omega) (i + 1) pre u (by omega) (by omega) hf hs hl
theorem s_X8_split {X : kX} {d : Nat} {c w m v : kZ} {E : kH} {T : Nat} (hT : c.1 3701 = nI T) (hT2 : T ≤ 200) : WP X (d + 6) 0 0 Y_X8_split 0 [(0, .ref (37))] [] (HP c w m v E) (fun r1 h1 => r1 = none ∧ ∃ u1 : kZ, h1 = HP c u1 m v E ∧ kF39 w u1 ∧ kSpl (c.2.1 38) T (qps (c.2.1 38) T 0) u1 ∧ u1.2.1 39 (qps (c.2.1 38) T 0).length = 19 ∧ u1.2.1 40 (qps (c.2.1 38) T 0).length = nI T) := by
  refine wp_iconst (v0 := 0) d_X8_split_0 rfl ?_
  refine wp_istore_n [(1, .int (0)), (0, .ref (37))] d_X8_split_1 rfl (Nat.le_of_ble_eq_true rfl) rfl ?_
  refine wp_iconst (v0 := 0) d_X8_split_2 rfl ?_
  refine wp_istore_n [(2, .int (0)), (1, .int (0)), (0, .ref (37))] d_X8_split_3 rfl (Nat.le_of_ble_eq_true rfl) rfl ?_
  refine wp_sub [(2, .int (nI 0)), (1, .int (nI ([] : List Nat).length)), (0, .ref 37)] [0, 1, 2] rfl ?_
  exact s_X8_split_l hT hT2 T 0 [] w (by omega) (by simp) ⟨rfl, fun _ _ _ => rfl, rfl⟩ (fun j hj => absurd hj (by simp)) rfl
theorem qend_all (P : Int32 → Bool) (b : Nat → Int32) : ∀ k e j, e ≤ j → j < qend P b k e → P (b j) = true
  | 0, e, j, h1, h2 => absurd h2 (by simp only [qend]; omega)
  | k + 1, e, j, h1, h2 => by
    simp only [qend] at h2
    split at h2
    · rename_i q
      rcases Nat.eq_or_lt_of_le h1 with rfl | h3
      · exact q
      · exact qend_all P b k (e + 1) j h3 h2
    · omega
theorem qdig_n {x : Int32} (h : qDg x) : ∃ dd : Nat, dd < 10 ∧ x = nI (48 + dd) := by
  refine ⟨x.toInt.toNat - 48, by omega, Int32.toInt_inj.mp ?_⟩
  rw [nI_toInt (by omega)]
  omega
theorem qnum_r (b : Nat → Int32) (fr : Nat) : ∀ k, (∀ j, j < k → qDg (b (fr + j))) → k ≤ 4 → ∃ n : Nat, n < 10 ^ k ∧ qnum b fr k = nI n
  | 0, _, _ => ⟨0, by decide, rfl⟩
  | k + 1, h, hk => by
    obtain ⟨n, h1, h2⟩ := qnum_r b fr k (fun j hj => h j (by omega)) (by omega)
    obtain ⟨dd, h3, h4⟩ := qdig_n (h k (by omega))
    refine ⟨10 * n + dd, by rw [Nat.pow_succ]; omega, ?_⟩
    simp only [qnum]
    rw [h2, h4]
    show 10 * Int32.ofNat n + Int32.ofNat (48 + dd) - 48 = Int32.ofNat (10 * n + dd)
    rw [Int32.ofNat_add, Int32.ofNat_add, Int32.ofNat_mul]
    grind
theorem qnm_n19 (b : Nat → Int32) (fr ls : Nat) : ∀ (xs : List Int32) (nm lt : Nat) (sm : Bool), nm + xs.count 32 ≤ 18 → qnm b fr ls xs nm lt sm ≠ 19
  | [], nm, lt, sm, h => by simp only [qnm]; decide
  | x :: xs, nm, lt, sm, h => by
    simp only [qnm]
    split
    · rename_i q
      rw [q, List.count_cons_self] at h
      split
      · intro e
        have := congrArg Int32.toInt e
        rw [nI_toInt (by omega), show (19 : Int32).toInt = 19 from rfl] at this
        omega
      · exact qnm_n19 b fr ls xs (nm + 1) 0 true (by omega)
    · rename_i q
      rw [List.count_cons_of_ne (by simpa using q)] at h
      exact qnm_n19 b fr ls xs nm (lt + 1) _ h
theorem qwd_n19 (b : Nat → Int32) {T i : Nat} (hi : i < T) : qwd b i (qeow b T i) ≠ 19 := by
  obtain ⟨e9, he⟩ : ∃ e, e = qeow b T i := ⟨_, rfl⟩
  rw [← he]
  unfold qwd
  split
  · exact qnm_n19 b i _ kBYT 0 0 true (by decide)
  · rename_i q0
    split
    · rename_i q
      have e1 : e9 = qend (fun x => decide (qDg x)) b (T - (i + 1)) (i + 1) := by rw [he]; unfold qeow; rw [if_neg q0, if_pos q]
      have e2 := qend_b (fun x => decide (qDg x)) b (T - (i + 1)) (i + 1)
      split
      · rename_i q4
        obtain ⟨n, h1, h2⟩ := qnum_r b i (e9 - i) (fun j hj => by
          rcases Nat.eq_zero_or_pos j with rfl | hj0
          · exact q
          · have := qend_all (fun x => decide (qDg x)) b (T - (i + 1)) (i + 1) (i + j) (by omega) (by omega)
            exact of_decide_eq_true this) q4
        rw [h2]
        have h3 : n < 10000 := Nat.lt_of_lt_of_le h1 (Nat.pow_le_pow_right (by decide) q4)
        intro e
        rw [show (1000 : Int32) + nI n = nI (1000 + n) from (Int32.ofNat_add 1000 n).symm] at e
        have := congrArg Int32.toInt e
        rw [nI_toInt (by omega), show (19 : Int32).toInt = 19 from rfl] at this
        omega
      · decide
    · split
      · rename_i q
        intro e
        rw [e] at q
        revert q
        decide
      · decide
theorem qps_mem (b : Nat → Int32) : ∀ k i x, x ∈ qps b k i → i ≤ x ∧ x < i + k
  | 0, i, x, h => by simp [qps] at h
  | k + 1, i, x, h => by
    simp only [qps] at h
    split at h
    · rcases List.mem_cons.mp h with rfl | h
      · omega
      · have := qps_mem b k (i + 1) x h; omega
    · have := qps_mem b k (i + 1) x h; omega
theorem kSpl.w0 {b : Nat → Int32} {T : Nat} {u : kZ} (hT2 : T ≤ 200) (h : kSpl b T (qps b T 0) u) (h1 : u.2.1 39 (qps b T 0).length = 19) (h2 : u.2.1 40 (qps b T 0).length = nI T) : kW0 (u.2.1 39) (u.2.1 40) (qps b T 0).length := by
  have hl := qps_len b T 0
  have nn : ∀ x : Nat, x ≤ 200 → nI x ≠ -1 := fun x hx e => by
    have := congrArg Int32.toInt e
    rw [nI_toInt (by omega), show (-1 : Int32).toInt = -1 from rfl] at this
    omega
  refine ⟨by omega, h1, fun i hi => ?_, fun i hi => ?_⟩
  · rw [(h i hi).1]
    have := qps_mem b T 0 _ (List.getElem_mem hi)
    exact qwd_n19 b (by omega)
  · rcases Nat.eq_or_lt_of_le hi with rfl | hi
    · rw [h2]; exact nn T hT2
    · rw [(h i hi).2]
      have := qps_mem b T 0 _ (List.getElem_mem hi)
      exact nn _ (by omega)
theorem kJ.exp1 {W Z : Nat → Int32} {N : Nat} {a : Int} {p : kQt} {x : Int32} (hw : kW0 W Z N) (hx : x ≠ 19) (h : kJ W N a p) : kJ W N (a + 1) (qexp W Z x p) := by
  unfold qexp
  split
  · rename_i q
    exact h.step1 hw (by rw [q]; exact hx)
  · exact (h.fail hw).step hw
theorem kJ.rule1 {W Z : Nat → Int32} {N : Nat} {a : Int} {p : kQt} (hw : kW0 W Z N) (h : kJ W N a p) : kJ W N (a - 3) (qrule W Z p) := by
  have h1 : kJ W N (a - 4) (q4 p) := (((h.emitm.emitm).emitm).emitm).mono (by omega)
  have h2 : kJ W N (a - 4) (qrk W Z (q4 p)) := by
    unfold qrk
    split
    · exact h1
    · exact h1.fail hw
  have h3 : kJ W N (a - 4) (qr1 W Z p.2.2.1 p) := by
    unfold qr1 qrc
    split
    · exact kGd.cond hw 3 _ _ (kJ.step hw (kJ.step hw (kJ.code _ h2)))
    · exact kJ.step hw (kJ.code _ h2)
  have h4 : kJ W N (a - 4 + 1) (qrule W Z p) := kJ.exp1 hw (by decide) (kJ.dow hw (kJ.code _ h3))
  exact h4.mono (by omega)
def qrs (W Z : Nat → Int32) : Nat → Nat → kQt → Nat × kQt
  | 0, r, p => (r, p)
  | k + 1, r, p => if ¬ W p.1 = 19 ∧ p.2.1 = -1 then qrs W Z k (r + 1) (qrule W Z p) else (r, p)
def qtold (W Z : Nat → Int32) (p : kQt) : kQt := if W p.1 = 19 then p else qfail Z p
