/-! ===== a game: the class ===== -/
def kan (F : Nat → Bool) : Nat → Nat → Bool
  | 0, _ => false
  | k + 1, l => F l || kan F k (l + 1)
def kgw (W : kTb → Bool) (nl : Nat) : Nat → Nat → kTb → Int32 → Bool
  | 0, _, pre, _ => W pre
  | r + 1, put, pre, u => if kan (fun l => decide (u >>> (nI l &&& 31) &&& 1 = 0) && kan (fun t => kgw W nl r (put + 1) (pre ++ [(l, t)]) (u ||| kbit l) == (put % 2 == 0)) 3 0) nl 0 = true then (put % 2 == 0) else !(put % 2 == 0)
def kGf (w w' : kZ) : Prop := (∀ k, k < 4200 ∨ 4299 < k ∧ k < 5801 ∨ 5804 < k → w'.1 k = w.1 k) ∧ (∀ k, k < 43 ∨ 49 < k → w'.2.1 k = w.2.1 k) ∧ w'.2.2 = w.2.2
theorem kGf.rf (w : kZ) : kGf w w := ⟨fun _ _ => rfl, fun _ _ => rfl, rfl⟩
theorem kGf.tr {a b c : kZ} (h : kGf a b) (g : kGf b c) : kGf a c := ⟨fun k hk => (g.1 k hk).trans (h.1 k hk), fun k hk => (g.2.1 k hk).trans (h.2.1 k hk), g.2.2.trans h.2.2⟩
theorem kLa.gf {a b : kZ} (h : kLa a b) : kGf a b := ⟨fun k hk => h.1 k (by omega), h.2.1, h.2.2⟩
def kGi (w0 : kZ) (g e lim : Int32) (st tl : Nat → Int32) (nl P mv : Nat) (pre : kTb) (u : Int32) (w : kZ) : Prop := (w.1 5801 = nI nl ∧ w.1 5802 = u ∧ w.1 5803 = nI P ∧ w.1 5804 = nI mv) ∧ kLd w g e lim st tl nl ∧ kRay w (pre.map (kent2 st tl)) ∧ kGf w0 w
theorem kGi.lf {w0 : kZ} {g e lim : Int32} {st tl : Nat → Int32} {nl P mv : Nat} {pre pre' : kTb} {u : Int32} {w w2 : kZ} (h : kGi w0 g e lim st tl nl P mv pre u w) (f : kLf w w2) (hr : kRay w2 (pre'.map (kent2 st tl))) : kGi w0 g e lim st tl nl P mv pre' u w2 := ⟨⟨(f.1 _ (by decide)).trans h.1.1, (f.1 _ (by decide)).trans h.1.2.1, (f.1 _ (by decide)).trans h.1.2.2.1, (f.1 _ (by decide)).trans h.1.2.2.2⟩, h.2.1.f f, hr, h.2.2.2.tr f.a.gf⟩
theorem kGi.us {w0 : kZ} {g e lim : Int32} {st tl : Nat → Int32} {nl P mv : Nat} {pre : kTb} {u : Int32} {w : kZ} (h : kGi w0 g e lim st tl nl P mv pre u w) (u' : Int32) : kGi w0 g e lim st tl nl P mv pre u' (setS w 5802 u') := ⟨⟨h.1.1, rfl, h.1.2.2.1, h.1.2.2.2⟩, h.2.1, h.2.2.1, h.2.2.2.tr ⟨fun k9 h9 => upd_n _ _ (by omega), fun _ _ => rfl, rfl⟩⟩
theorem kGi.pop {w0 : kZ} {g e lim : Int32} {st tl : Nat → Int32} {nl P mv : Nat} {pre : kTb} {x : Nat × Nat} {u : Int32} {w : kZ} (h : kGi w0 g e lim st tl nl P mv (pre ++ [x]) u w) : kGi w0 g e lim st tl nl P mv pre u w := by
  refine ⟨h.1, h.2.1, ?_, h.2.2.2⟩
  have r := h.2.2.1
  rw [List.map_append] at r
  have := r.len (j := pre.length)
  rw [List.take_append_of_le_length (by simp), List.take_of_length_le (by simp)] at this
  exact this
theorem kbne {A B : Bool} : (¬ kb (A = true) = kb (B = true)) ↔ (A == B) = false := by cases A <;> cases B <;> decide
theorem kbeq {A B : Bool} : (kb (A = true) = kb (B = true)) ↔ (A == B) = true := by cases A <;> cases B <;> decide
theorem s_X2_behind {X : kX} {d : Nat} {c w m v : kZ} {E : kH} {w0 : kZ} {g e lim : Int32} {st tl : Nat → Int32} {nl P mv : Nat} (hnl : nl ≤ 9) (hPm : P + mv ≤ 4) {rr : Nat} (IH : ∀ (put : Nat) (pre : kTb) (u : Int32) (w' : kZ), put + rr = mv → pre.length = P + put → kGi w0 g e lim st tl nl P mv pre u w' → WP X (d + 2 * rr + 5) 0 0 Y_X2_firstWins 0 [(0, .ref 58), (1, .int (nI put))] [] (HP c w' m v E) (fun r h1 => r = some (.int (kb (kgw (fun q => decide (kW2 g e st tl q ≤ lim)) nl rr put pre u = true))) ∧ ∃ w1 : kZ, h1 = HP c w1 m v E ∧ kGi w0 g e lim st tl nl P mv pre u w1)) {put : Nat} {pre : kTb} {u : Int32} (hput : put + (rr + 1) = mv) (hlen : pre.length = P + put) {l t : Nat} (hl : l < nl) (hu : ¬ (u >>> (nI l &&& 31) &&& 1 = 1)) (hI : kGi w0 g e lim st tl nl P mv pre u w) : WP X (d + 2 * rr + 6) 0 0 Y_X2_firstWinsBehind 0 [(0, .ref (58)), (1, .int (nI (put))), (2, .int (nI (l))), (3, .int (nI (t)))] [] (HP c w m v E) (fun r h1 => r = some (.int (kb (kgw (fun q => decide (kW2 g e st tl q ≤ lim)) nl rr (put + 1) (pre ++ [(l, t)]) (u ||| kbit l) = true))) ∧ ∃ w1 : kZ, h1 = HP c w1 m v E ∧ kGi w0 g e lim st tl nl P mv pre u w1) := by
  refine wp_aload_n 0 d_X2_firstWinsBehind_0 rfl rfl ?_
  refine wp_getfield (v := .ref (42)) d_X2_firstWinsBehind_1 gf_X2_9 (hp_58 _ _ _ _ _) rfl ?_
  refine wp_aload_n 0 d_X2_firstWinsBehind_4 rfl rfl ?_
  refine wp_getfield (v := .int (nI (P))) d_X2_firstWinsBehind_5 gf_X2_34 (hp_58 _ _ _ _ _) (congrArg (fun z => some (Value.int z)) hI.1.2.2.1) ?_
  refine wp_iload_n 1 d_X2_firstWinsBehind_8 rfl rfl ?_
  refine wp_iadd d_X2_firstWinsBehind_9 ?_
  refine wp_v (v0 := nI ((P) + (put))) (nI_add (P) (put)) ?_
  refine wp_iload_n 2 d_X2_firstWinsBehind_10 rfl rfl ?_
  refine wp_iload_n 3 d_X2_firstWinsBehind_11 rfl rfl ?_
  refine wp_vrt_v (As := [.int (nI ((P) + (put))), .int (nI (l)), .int (nI (t))]) (h1 := HP c (kpass w (P + put) (w.2.1 44 l) (kpush (w.2.1 45 l) (nI (t)))) m v E) d_X2_firstWinsBehind_12 lk_X2_63 mv_X5_put in_X5_put se_X5_put (Nat.le_of_ble_eq_true rfl) (Nat.le_of_ble_eq_true rfl) (hp_42 _ _ _ _ _) rfl (s_X5_put (p := P + put) (l := l) (by omega) (by omega) (nI (t))) ?_
  refine wp_aload_n 0 d_X2_firstWinsBehind_15 rfl rfl ?_
  refine wp_dup d_X2_firstWinsBehind_16 rfl ?_
  refine wp_getfield (v := .int (u)) d_X2_firstWinsBehind_17 gf_X2_35 (hp_58 _ _ _ _ _) (congrArg (fun z => some (Value.int z)) hI.1.2.1) ?_
  refine wp_iconst (v0 := 1) d_X2_firstWinsBehind_20 rfl ?_
  refine wp_iload_n 2 d_X2_firstWinsBehind_21 rfl rfl ?_
  refine wp_ishl d_X2_firstWinsBehind_22 ?_
  refine wp_ior d_X2_firstWinsBehind_23 ?_
  refine wp_putfield (h' := HP c (setS (kpass w (P + put) (w.2.1 44 l) (kpush (w.2.1 45 l) (nI (t)))) 5802 ((u) ||| ((1) <<< ((nI (l)) &&& 31)))) m v E) d_X2_firstWinsBehind_24 gp_X2_35 (kfit_i _) (hp_58 _ _ _ _ _) (Nat.le_of_ble_eq_true rfl) (hps_58_2 _ _ _ _ _ _) ?_
  have hE : kGi w0 g e lim st tl nl P mv (pre ++ [(l, t)]) (u ||| kbit l) (setS (kpass w (P + put) (w.2.1 44 l) (kpush (w.2.1 45 l) (nI (t)))) 5802 ((u) ||| ((1) <<< ((nI (l)) &&& 31)))) := by
    refine (hI.lf (kpass_f _ _ _ _) ?_).us _
    rw [List.map_append, ← hlen, hI.2.1.2.2.2.1 l hl, hI.2.1.2.2.2.2 l (by omega)]
    exact hI.2.2.1.pass (by rw [List.length_map]) _ _
  refine wp_aload_n 0 d_X2_firstWinsBehind_27 rfl rfl ?_
  refine wp_iload_n 1 d_X2_firstWinsBehind_28 rfl rfl ?_
  refine wp_iconst (v0 := 1) d_X2_firstWinsBehind_29 rfl ?_
  refine wp_iadd d_X2_firstWinsBehind_30 ?_
  refine wp_v (v0 := nI ((put) + (1))) (nI_add (put) (1)) ?_
  refine wp_virtual0 (As := [.int (nI ((put) + (1)))]) d_X2_firstWinsBehind_31 lk_X2_67 mv_X2_firstWins in_X2_firstWins se_X2_firstWins (Nat.le_of_ble_eq_true rfl) (Nat.le_of_ble_eq_true rfl) (hp_58 _ _ _ _ _) rfl (IH (put + 1) (pre ++ [(l, t)]) (u ||| kbit l) _ (by omega) (by rw [List.length_append, hlen]; simp only [List.length_cons, List.length_nil]; omega) hE) (fun v31 h31 q31 => ?_)
  obtain ⟨rfl, w2, rfl, hI2⟩ := q31
  show WP _ _ _ _ _ 34 _ [.int (kb (kgw (fun q => decide (kW2 g e st tl q ≤ lim)) nl rr (put + 1) (pre ++ [(l, t)]) (u ||| kbit l) = true))] (HP c w2 m v E) _
  refine wp_istore [(4, .int (kb (kgw (fun q => decide (kW2 g e st tl q ≤ lim)) nl rr (put + 1) (pre ++ [(l, t)]) (u ||| kbit l) = true))), (0, .ref (58)), (1, .int (nI (put))), (2, .int (nI (l))), (3, .int (nI (t)))] d_X2_firstWinsBehind_34 (Nat.le_of_ble_eq_true rfl) rfl ?_
  refine wp_aload_n 1 d_X2_firstWinsBehind_36 rfl rfl ?_
  refine wp_dup d_X2_firstWinsBehind_37 rfl ?_
  refine wp_getfield (v := .int (u ||| kbit l)) d_X2_firstWinsBehind_38 gf_X2_35 (hp_58 _ _ _ _ _) (congrArg (fun z => some (Value.int z)) hI2.1.2.1) ?_
  refine wp_iconst (v0 := 1) d_X2_firstWinsBehind_41 rfl ?_
  refine wp_iload_n 3 d_X2_firstWinsBehind_42 rfl rfl ?_
  refine wp_ishl d_X2_firstWinsBehind_43 ?_
  refine wp_iconst (v0 := -1) d_X2_firstWinsBehind_44 rfl ?_
  refine wp_ixor d_X2_firstWinsBehind_45 ?_
  refine wp_iand d_X2_firstWinsBehind_46 ?_
  refine wp_putfield (h' := HP c (setS w2 5802 ((u ||| kbit l) &&& (((1) <<< ((nI (l)) &&& 31)) ^^^ ((-1))))) m v E) d_X2_firstWinsBehind_47 gp_X2_35 (kfit_i _) (hp_58 _ _ _ _ _) (Nat.le_of_ble_eq_true rfl) (hps_58_2 _ _ _ _ _ _) ?_
  refine wp_iload 0 d_X2_firstWinsBehind_50 rfl ?_
  refine wp_retb d_X2_firstWinsBehind_52 rfl ?_
  have eu : ((u ||| kbit l) &&& (((1) <<< ((nI (l)) &&& 31)) ^^^ ((-1)))) = u := kub u (by omega) hu
  rw [eu]
  exact ⟨rfl, _, rfl, hI2.pop.us u⟩
theorem s_X2_firstWins_t {X : kX} {d : Nat} {c w m v : kZ} {E : kH} {w0 : kZ} {g e lim : Int32} {st tl : Nat → Int32} {nl P mv : Nat} (hnl : nl ≤ 9) (hPm : P + mv ≤ 4) {rr : Nat} (IH : ∀ (put : Nat) (pre : kTb) (u : Int32) (w' : kZ), put + rr = mv → pre.length = P + put → kGi w0 g e lim st tl nl P mv pre u w' → WP X (d + 2 * rr + 5) 0 0 Y_X2_firstWins 0 [(0, .ref 58), (1, .int (nI put))] [] (HP c w' m v E) (fun r h1 => r = some (.int (kb (kgw (fun q => decide (kW2 g e st tl q ≤ lim)) nl rr put pre u = true))) ∧ ∃ w1 : kZ, h1 = HP c w1 m v E ∧ kGi w0 g e lim st tl nl P mv pre u w1)) {put : Nat} {pre : kTb} {u : Int32} (hput : put + (rr + 1) = mv) (hlen : pre.length = P + put) {A : Bool} {l : Nat} (hl : l < nl) (hu : ¬ (u >>> (nI l &&& 31) &&& 1 = 1)) {B9 : Bool} (K : ∀ w2 : kZ, B9 = A → kGi w0 g e lim st tl nl P mv pre u w2 → WP X (d + 2 * rr + 7) 0 0 Y_X2_firstWins 91 [(3, .int (nI l)), (2, .int (kb ((put % 2 == 0) = true))), (0, .ref 58), (1, .int (nI put))] [] (HP c w2 m v E) (fun r h1 => r = some (.int (kb ((if A = true then (put % 2 == 0) else !(put % 2 == 0)) = true))) ∧ ∃ w1 : kZ, h1 = HP c w1 m v E ∧ kGi w0 g e lim st tl nl P mv pre u w1)) : ∀ (k : Nat) (t : Nat) (w' : kZ), (t + k = 3) → (kGi w0 g e lim st tl nl P mv pre u w') → ((kan (fun t => kgw (fun q => decide (kW2 g e st tl q ≤ lim)) nl rr (put + 1) (pre ++ [(l, t)]) (u ||| kbit l) == (put % 2 == 0)) k t || B9) = A) → WP X (d + 2 * rr + 7) 0 0 Y_X2_firstWins 54 [(4, .int (nI (t))), (3, .int (nI (l))), (2, .int (kb ((put % 2 == 0) = true))), (0, .ref (58)), (1, .int (nI (put)))] [] (HP c w' m v E) (fun r h1 => r = some (.int (kb ((if A = true then (put % 2 == 0) else !(put % 2 == 0)) = true))) ∧ ∃ w1 : kZ, h1 = HP c w1 m v E ∧ kGi w0 g e lim st tl nl P mv pre u w1) := by
  intro k
  induction k using Nat.strongRecOn with
  | ind k ih =>
    intro t w' htk hI hA
    refine wp_iload 0 d_X2_firstWins_54 rfl ?_
    refine wp_iconst (v0 := 3) d_X2_firstWins_56 rfl ?_
    refine wp_ncmp_ge (a := t) (b := 3) 91 d_X2_firstWins_57 rfl (by omega) (by omega) (fun zc57 => ?_) (fun zc57 => ?_)
    · obtain rfl : k = 0 := by omega
      refine wp_sub [(3, .int (nI l)), (2, .int (kb ((put % 2 == 0) = true))), (0, .ref 58), (1, .int (nI put))] [1, 2, 3, 4] rfl ?_
      exact K w' (by simpa [kan] using hA) hI
    · refine wp_aload_n 3 d_X2_firstWins_60 rfl rfl ?_
      refine wp_getfield (v := .int (u)) d_X2_firstWins_61 gf_X2_35 (hp_58 _ _ _ _ _) (congrArg (fun z => some (Value.int z)) hI.1.2.1) ?_
      refine wp_iload_n 1 d_X2_firstWins_64 rfl rfl ?_
      refine wp_ishr d_X2_firstWins_65 ?_
      refine wp_iconst (v0 := 1) d_X2_firstWins_66 rfl ?_
      refine wp_iand d_X2_firstWins_67 ?_
      refine wp_if_ne 91 d_X2_firstWins_68 rfl (fun zc68 => ?_) (fun zc68 => ?_)
      · exact absurd (by rcases kand1 (u >>> (nI l &&& 31)) with q | q; exact q; exact absurd q hu) zc68
      · refine wp_aload_n 3 d_X2_firstWins_71 rfl rfl ?_
        refine wp_iload_n 4 d_X2_firstWins_72 rfl rfl ?_
        refine wp_iload_n 1 d_X2_firstWins_73 rfl rfl ?_
        refine wp_iload 0 d_X2_firstWins_74 rfl ?_
        refine wp_virtual0 (As := [.int (nI (put)), .int (nI (l)), .int (nI (t))]) d_X2_firstWins_76 lk_X2_59 mv_X2_firstWinsBehind in_X2_firstWinsBehind se_X2_firstWinsBehind (Nat.le_of_ble_eq_true rfl) (Nat.le_of_ble_eq_true rfl) (hp_58 _ _ _ _ _) rfl (s_X2_behind (w := w') hnl hPm IH hput hlen (l := l) (t := t) (by omega) hu hI) (fun v76 h76 q76 => ?_)
        obtain ⟨rfl, w2, rfl, hI2⟩ := q76
        show WP _ _ _ _ _ 79 _ [.int (kb (kgw (fun q => decide (kW2 g e st tl q ≤ lim)) nl rr (put + 1) (pre ++ [(l, t)]) (u ||| kbit l) = true))] (HP c w2 m v E) _
        refine wp_iload_n 2 d_X2_firstWins_79 rfl rfl ?_
        refine wp_icmp_ne 85 d_X2_firstWins_80 rfl (fun zc80 => ?_) (fun zc80 => ?_)
        · refine wp_iinc (v0 := nI ((t) + 1)) [(4, .int (nI ((t) + 1))), (3, .int (nI (l))), (2, .int (kb ((put % 2 == 0) = true))), (0, .ref (58)), (1, .int (nI (put)))] 0 d_X2_firstWins_85 rfl (nI_add (t) 1) (Nat.le_of_ble_eq_true rfl) rfl ?_
          refine wp_goto 54 d_X2_firstWins_88 rfl ?_
          obtain ⟨k1, rfl⟩ : ∃ k1, k = k1 + 1 := ⟨k - 1, by omega⟩
          refine wp_sub [(4, .int (nI ((t) + 1))), (3, .int (nI (l))), (2, .int (kb ((put % 2 == 0) = true))), (0, .ref (58)), (1, .int (nI (put)))] [0, 1, 2, 3, 4] rfl ?_
          have h80 := kbne.mp zc80
          refine ih k1 (by omega) (t + 1) w2 (by omega) hI2 ?_
          rw [← hA]
          simp only [kan]
          rw [h80, Bool.false_or]
        · refine wp_iload_n 2 d_X2_firstWins_83 rfl rfl ?_
          refine wp_retb d_X2_firstWins_84 rfl ?_
          obtain ⟨k1, rfl⟩ : ∃ k1, k = k1 + 1 := ⟨k - 1, by omega⟩
          have h80 := kbeq.mp zc80
          have hAt : A = true := by
            rw [← hA]
            simp only [kan]
            rw [h80, Bool.true_or, Bool.true_or]
          refine ⟨congrArg (fun z => some (Value.int z)) ?_, w2, rfl, hI2⟩
          rw [hAt, if_pos rfl]
theorem s_X2_firstWins_l {X : kX} {d : Nat} {c w m v : kZ} {E : kH} {w0 : kZ} {g e lim : Int32} {st tl : Nat → Int32} {nl P mv : Nat} (hnl : nl ≤ 9) (hPm : P + mv ≤ 4) {rr : Nat} (IH : ∀ (put : Nat) (pre : kTb) (u : Int32) (w' : kZ), put + rr = mv → pre.length = P + put → kGi w0 g e lim st tl nl P mv pre u w' → WP X (d + 2 * rr + 5) 0 0 Y_X2_firstWins 0 [(0, .ref 58), (1, .int (nI put))] [] (HP c w' m v E) (fun r h1 => r = some (.int (kb (kgw (fun q => decide (kW2 g e st tl q ≤ lim)) nl rr put pre u = true))) ∧ ∃ w1 : kZ, h1 = HP c w1 m v E ∧ kGi w0 g e lim st tl nl P mv pre u w1)) {put : Nat} {pre : kTb} {u : Int32} (hput : put + (rr + 1) = mv) (hlen : pre.length = P + put) {A : Bool} : ∀ (k : Nat) (l : Nat) (w' : kZ), (l + k = nl) → (kGi w0 g e lim st tl nl P mv pre u w') → (kan (fun l => decide (u >>> (nI l &&& 31) &&& 1 = 0) && kan (fun t => kgw (fun q => decide (kW2 g e st tl q ≤ lim)) nl rr (put + 1) (pre ++ [(l, t)]) (u ||| kbit l) == (put % 2 == 0)) 3 0) k l = A) → WP X (d + 2 * rr + 7) 0 0 Y_X2_firstWins 43 [(3, .int (nI (l))), (2, .int (kb ((put % 2 == 0) = true))), (0, .ref (58)), (1, .int (nI (put)))] [] (HP c w' m v E) (fun r h1 => r = some (.int (kb ((if A = true then (put % 2 == 0) else !(put % 2 == 0)) = true))) ∧ ∃ w1 : kZ, h1 = HP c w1 m v E ∧ kGi w0 g e lim st tl nl P mv pre u w1) := by
  intro k
  induction k using Nat.strongRecOn with
  | ind k ih =>
    intro l w' hlk hI hA
    refine wp_iload_n 0 d_X2_firstWins_43 rfl rfl ?_
    refine wp_aload_n 2 d_X2_firstWins_44 rfl rfl ?_
    refine wp_getfield (v := .int (nI (nl))) d_X2_firstWins_45 gf_X2_30 (hp_58 _ _ _ _ _) (congrArg (fun z => some (Value.int z)) hI.1.1) ?_
    refine wp_ncmp_ge (a := l) (b := nl) 97 d_X2_firstWins_48 rfl (by omega) (by omega) (fun zc48 => ?_) (fun zc48 => ?_)
    · refine wp_iload_n 1 d_X2_firstWins_97 rfl rfl ?_
      refine wp_ifb_ne 105 d_X2_firstWins_98 rfl (fun zc98 => ?_) (fun zc98 => ?_)
      · refine wp_iconst (v0 := 0) d_X2_firstWins_105 rfl ?_
        refine wp_iret d_X2_firstWins_106 rfl k_nar0 ?_
        obtain rfl : k = 0 := by omega
        obtain rfl : A = false := hA.symm
        refine ⟨congrArg (fun z => some (Value.int z)) ?_, w', rfl, hI⟩
        rw [if_neg (by decide)]
        rw [zc98]; rfl
      · refine wp_iconst (v0 := 1) d_X2_firstWins_101 rfl ?_
        refine wp_goto 106 d_X2_firstWins_102 rfl ?_
        refine wp_iret d_X2_firstWins_106 rfl k_nar1 ?_
        obtain rfl : k = 0 := by omega
        obtain rfl : A = false := hA.symm
        refine ⟨congrArg (fun z => some (Value.int z)) ?_, w', rfl, hI⟩
        rw [if_neg (by decide)]
        rw [Bool.not_eq_true _ |>.mp zc98]; rfl
    · refine wp_iconst (v0 := 0) d_X2_firstWins_51 rfl ?_
      refine wp_istore [(4, .int (0)), (3, .int (nI (l))), (2, .int (kb ((put % 2 == 0) = true))), (0, .ref (58)), (1, .int (nI (put)))] d_X2_firstWins_52 (Nat.le_of_ble_eq_true rfl) rfl ?_
      obtain ⟨k1, rfl⟩ : ∃ k1, k = k1 + 1 := ⟨k - 1, by omega⟩
      have hA2 := hA
      simp only [kan] at hA2
      rcases kand1 (u >>> (nI l &&& 31)) with hb0 | hb1
      · rw [decide_eq_true hb0, Bool.true_and] at hA2
        refine wp_sub [(4, .int (0)), (3, .int (nI (l))), (2, .int (kb ((put % 2 == 0) = true))), (0, .ref (58)), (1, .int (nI (put)))] [0, 1, 2, 3, 4] rfl ?_
        refine s_X2_firstWins_t (w := w) hnl hPm IH hput hlen (l := l) (by omega) (by rw [hb0]; decide) (fun w2 hB hI2 => ?_) 3 0 w' (by omega) hI hA2
        refine wp_iinc (v0 := nI ((l) + 1)) [(3, .int (nI ((l) + 1))), (2, .int (kb ((put % 2 == 0) = true))), (0, .ref (58)), (1, .int (nI (put)))] 0 d_X2_firstWins_91 rfl (nI_add (l) 1) (Nat.le_of_ble_eq_true rfl) rfl ?_
        refine wp_goto 43 d_X2_firstWins_94 rfl ?_
        refine wp_sub [(3, .int (nI ((l) + 1))), (2, .int (kb ((put % 2 == 0) = true))), (0, .ref (58)), (1, .int (nI (put)))] [0, 1, 2, 3] rfl ?_
        exact ih k1 (by omega) (l + 1) w2 (by omega) hI2 hB
      · rw [decide_eq_false (by rw [hb1]; decide), Bool.false_and, Bool.false_or] at hA2
        refine wp_iload 0 d_X2_firstWins_54 rfl ?_
        refine wp_iconst (v0 := 3) d_X2_firstWins_56 rfl ?_
        refine wp_icmp_ge 91 d_X2_firstWins_57 rfl (fun z => absurd z (by decide)) (fun _ => ?_)
        refine wp_aload_n 3 d_X2_firstWins_60 rfl rfl ?_
        refine wp_getfield (v := .int (u)) d_X2_firstWins_61 gf_X2_35 (hp_58 _ _ _ _ _) (congrArg (fun z => some (Value.int z)) hI.1.2.1) ?_
        refine wp_iload_n 1 d_X2_firstWins_64 rfl rfl ?_
        refine wp_ishr d_X2_firstWins_65 ?_
        refine wp_iconst (v0 := 1) d_X2_firstWins_66 rfl ?_
        refine wp_iand d_X2_firstWins_67 ?_
        refine wp_if_ne 91 d_X2_firstWins_68 rfl (fun zc68 => ?_) (fun zc68 => ?_)
        · refine wp_iinc (v0 := nI ((l) + 1)) [(3, .int (nI ((l) + 1))), (4, .int (0)), (2, .int (kb ((put % 2 == 0) = true))), (0, .ref (58)), (1, .int (nI (put)))] 1 d_X2_firstWins_91 rfl (nI_add (l) 1) (Nat.le_of_ble_eq_true rfl) rfl ?_
          refine wp_goto 43 d_X2_firstWins_94 rfl ?_
          refine wp_sub [(3, .int (nI ((l) + 1))), (2, .int (kb ((put % 2 == 0) = true))), (0, .ref (58)), (1, .int (nI (put)))] [0, 2, 3, 4] rfl ?_
          exact ih k1 (by omega) (l + 1) w' (by omega) hI hA2
        · rw [hb1] at zc68
          exact absurd zc68 (by decide)
theorem s_X2_see {X : kX} {d : Nat} {c w m v : kZ} {E : kH} {w0 : kZ} {g e lim : Int32} {st tl : Nat → Int32} {nl P mv N : Nat} (hN : N ≤ 4) {pre : kTb} {u : Int32} (hlen : pre.length = N) (hI : kGi w0 g e lim st tl nl P mv pre u w) : WP X (d + 1) 0 0 Y_X5_see 0 [(0, .ref (42)), (1, .int (nI N))] [] (HP c w m v E) (fun r h1 => r = none ∧ ∃ w2 : kZ, h1 = HP c w2 m v E ∧ kGi w0 g e lim st tl nl P mv pre u w2 ∧ w2.1 4210 = nI (N + 1) ∧ kabs (w2.2.1 46 (N + 1)) + kabs (w2.2.1 48 (N + 1)) = kW2 g e st tl pre ∧ w2.1 4205 = lim) := by
  refine wp_mono ?_ (s_X5_see (p := N) (by omega))
  rintro r h1 ⟨rfl, rfl⟩
  have hd := hI.2.1
  have hr := hI.2.2.1.pass (p := N) (by rw [List.length_map]; exact hlen.symm) (w.1 4204) 0
  have hr2 : kRay (setS (kpass w N (w.1 4204) 0) 4210 (nI (N + 1))) (pre.map (kent2 st tl) ++ [(e, 0)]) := by
    have := hr.f (w' := setS (kpass w N (w.1 4204) 0) 4210 (nI (N + 1))) rfl (fun _ _ => ⟨rfl, rfl, rfl, rfl⟩)
    rw [hd.2.1] at this ⊢
    exact this
  have hf : kLf w (setS (kpass w N (w.1 4204) 0) 4210 (nI (N + 1))) := (kpass_f w N _ _).tr ⟨fun k9 h9 => upd_n _ _ h9, fun _ _ => rfl, rfl⟩
  have hs : kSeen (setS (kpass w N (w.1 4204) 0) 4210 (nI (N + 1))) g e lim (pre.map (kent2 st tl)) := ⟨(hd.f hf).1, (hd.f hf).2.2.1, hr2, by rw [List.length_map, hlen]; rfl⟩
  refine ⟨rfl, _, rfl, hI.lf hf ?_, rfl, ?_, (hd.f hf).2.2.1⟩
  · have h9 := hr2.len (j := N)
    rw [List.take_append_of_le_length (by rw [List.length_map]; omega), List.take_of_length_le (by rw [List.length_map]; omega)] at h9
    exact h9
  · have hA := hs.a
    have hB := hs.b
    rw [List.length_map, hlen] at hA hB
    rw [hA, hB]
    rfl
theorem s_X2_firstWins {X : kX} {d : Nat} {c w m v : kZ} {E : kH} {w0 : kZ} {g e lim : Int32} {st tl : Nat → Int32} {nl P mv : Nat} (hnl : nl ≤ 9) (hPm : P + mv ≤ 4) : ∀ (rr put : Nat) (pre : kTb) (u : Int32) (w' : kZ), put + rr = mv → pre.length = P + put → kGi w0 g e lim st tl nl P mv pre u w' → WP X (d + 2 * rr + 5) 0 0 Y_X2_firstWins 0 [(0, .ref 58), (1, .int (nI put))] [] (HP c w' m v E) (fun r h1 => r = some (.int (kb (kgw (fun q => decide (kW2 g e st tl q ≤ lim)) nl rr put pre u = true))) ∧ ∃ w1 : kZ, h1 = HP c w1 m v E ∧ kGi w0 g e lim st tl nl P mv pre u w1) := by
  intro rr
  induction rr with
  | zero =>
    intro put pre u w' hput hlen hI
    refine wp_iload_n 1 d_X2_firstWins_0 rfl rfl ?_
    refine wp_aload_n 0 d_X2_firstWins_1 rfl rfl ?_
    refine wp_getfield (v := .int (nI (mv))) d_X2_firstWins_2 gf_X2_48 (hp_58 _ _ _ _ _) (congrArg (fun z => some (Value.int z)) hI.1.2.2.2) ?_
    refine wp_ncmp_lt (a := put) (b := mv) 29 d_X2_firstWins_5 rfl (by omega) (by omega) (fun zc5 => ?_) (fun zc5 => ?_)
    · exact absurd zc5 (by omega)
    · refine wp_aload_n 0 d_X2_firstWins_8 rfl rfl ?_
      refine wp_getfield (v := .ref (42)) d_X2_firstWins_9 gf_X2_9 (hp_58 _ _ _ _ _) rfl ?_
      refine wp_aload_n 0 d_X2_firstWins_12 rfl rfl ?_
      refine wp_getfield (v := .int (nI (P))) d_X2_firstWins_13 gf_X2_34 (hp_58 _ _ _ _ _) (congrArg (fun z => some (Value.int z)) hI.1.2.2.1) ?_
      refine wp_iload_n 1 d_X2_firstWins_16 rfl rfl ?_
      refine wp_iadd d_X2_firstWins_17 ?_
      refine wp_v (v0 := nI ((P) + (put))) (nI_add (P) (put)) ?_
      refine wp_virtual0 (As := [.int (nI ((P) + (put)))]) d_X2_firstWins_18 lk_X2_51 mv_X5_see in_X5_see se_X5_see (Nat.le_of_ble_eq_true rfl) (Nat.le_of_ble_eq_true rfl) (hp_42 _ _ _ _ _) rfl (s_X2_see (w := w') (N := P + put) (by omega) hlen hI) (fun v18 h18 q18 => ?_)
      obtain ⟨rfl, w2, rfl, hI2, he2, hW2, hL2⟩ := q18
      show WP _ _ _ _ _ 21 _ [] (HP c w2 m v E) _
      refine wp_aload_n 0 d_X2_firstWins_21 rfl rfl ?_
      refine wp_getfield (v := .ref (42)) d_X2_firstWins_22 gf_X2_9 (hp_58 _ _ _ _ _) rfl ?_
      refine wp_vrt_i (As := []) (x0 := kb (kabs (w2.2.1 46 (P + put + 1)) + kabs (w2.2.1 48 (P + put + 1)) ≤ w2.1 4205)) (h1 := HP c w2 m v E) d_X2_firstWins_25 lk_X2_55 mv_X5_isMended in_X5_isMended se_X5_isMended (Nat.le_of_ble_eq_true rfl) (Nat.le_of_ble_eq_true rfl) (hp_42 _ _ _ _ _) rfl (s_X5_isMended (w := w2) he2 (by omega)) ?_
      refine wp_retb d_X2_firstWins_28 rfl ?_
      refine ⟨congrArg (fun z => some (Value.int z)) (kb_iff ?_), w2, rfl, hI2⟩
      rw [hW2, hL2]
      simp only [kgw]
      exact (decide_eq_true_iff).symm
  | succ rr IH =>
    intro put pre u w' hput hlen hI
    refine wp_iload_n 1 d_X2_firstWins_0 rfl rfl ?_
    refine wp_aload_n 0 d_X2_firstWins_1 rfl rfl ?_
    refine wp_getfield (v := .int (nI (mv))) d_X2_firstWins_2 gf_X2_48 (hp_58 _ _ _ _ _) (congrArg (fun z => some (Value.int z)) hI.1.2.2.2) ?_
    refine wp_ncmp_lt (a := put) (b := mv) 29 d_X2_firstWins_5 rfl (by omega) (by omega) (fun zc5 => ?_) (fun zc5 => ?_)
    · refine wp_iload_n 1 d_X2_firstWins_29 rfl rfl ?_
      refine wp_iconst (v0 := 2) d_X2_firstWins_30 rfl ?_
      refine wp_irem d_X2_firstWins_31 (by decide) ?_
      refine wp_v (v0 := nI ((put) % (2))) (pk_rem (a := put) (d := 2) (by have := kz16_lt; first | omega | (have := kz16_lt (0); omega)) (by omega) (by omega)) ?_
      refine wp_nif_ne (a := (put) % (2)) 39 d_X2_firstWins_32 rfl (by omega) (fun zc32 => ?_) (fun zc32 => ?_)
      · refine wp_iconst (v0 := 0) d_X2_firstWins_39 rfl ?_
        refine wp_istore_n [(2, .int (0)), (0, .ref (58)), (1, .int (nI (put)))] d_X2_firstWins_40 rfl (Nat.le_of_ble_eq_true rfl) rfl ?_
        refine wp_iconst (v0 := 0) d_X2_firstWins_41 rfl ?_
        refine wp_istore_n [(3, .int (0)), (2, .int (0)), (0, .ref (58)), (1, .int (nI (put)))] d_X2_firstWins_42 rfl (Nat.le_of_ble_eq_true rfl) rfl ?_
        have hfv : kb ((put % 2 == 0) = true) = 0 := by rw [show (put % 2 == 0) = false by simp; omega]; rfl
        refine wp_sub [(3, .int (nI 0)), (2, .int (kb ((put % 2 == 0) = true))), (0, .ref 58), (1, .int (nI put))] [0, 1, 2, 3] (by rw [hfv]; rfl) ?_
        refine wp_mono ?_ (s_X2_firstWins_l (w := w) hnl hPm IH hput hlen nl 0 w' (by omega) hI rfl)
        rintro r h1 ⟨rfl, h2⟩
        exact ⟨rfl, h2⟩
      · refine wp_iconst (v0 := 1) d_X2_firstWins_35 rfl ?_
        refine wp_goto 40 d_X2_firstWins_36 rfl ?_
        refine wp_istore_n [(2, .int (1)), (0, .ref (58)), (1, .int (nI (put)))] d_X2_firstWins_40 rfl (Nat.le_of_ble_eq_true rfl) rfl ?_
        refine wp_iconst (v0 := 0) d_X2_firstWins_41 rfl ?_
        refine wp_istore_n [(3, .int (0)), (2, .int (1)), (0, .ref (58)), (1, .int (nI (put)))] d_X2_firstWins_42 rfl (Nat.le_of_ble_eq_true rfl) rfl ?_
        have hfv : kb ((put % 2 == 0) = true) = 1 := by rw [show (put % 2 == 0) = true by simp; omega]; rfl
        refine wp_sub [(3, .int (nI 0)), (2, .int (kb ((put % 2 == 0) = true))), (0, .ref 58), (1, .int (nI put))] [0, 1, 2, 3] (by rw [hfv]; rfl) ?_
        refine wp_mono ?_ (s_X2_firstWins_l (w := w) hnl hPm IH hput hlen nl 0 w' (by omega) hI rfl)
        rintro r h1 ⟨rfl, h2⟩
        exact ⟨rfl, h2⟩
    · exact absurd zc5 (by omega)
def kmi (G : Nat → Bool) (l : Nat) : Nat → Nat → Option Int32
  | 0, _ => none
  | k + 1, t => if G t = true then some (nI (10 * l + t)) else kmi G l k (t + 1)
def kmo (bit : Nat → Bool) (G : Nat → Nat → Bool) (T : Nat) : Nat → Nat → Int32
  | 0, _ => -3
  | k + 1, l => if bit l = true then (match kmi (G l) l T 0 with | some x => x | none => kmo bit G T k (l + 1)) else kmo bit G T k (l + 1)
def kp0 (a b : Nat → Int32) (p : Nat) : kTb := (List.range p).map fun j => ((a j).toNatClampNeg, (b j).toNatClampNeg)
def kuo (a : Nat → Int32) : Nat → Int32
  | 0 => 0
  | p + 1 => kuo a p ||| kbit (a p).toNatClampNeg
theorem kp0_len (a b : Nat → Int32) (p : Nat) : (kp0 a b p).length = p := by simp [kp0]
theorem kp0_tub {a b st tl : Nat → Int32} {p : Nat} (hp : p ≤ 4) (hb : ∀ j, j < p → ∃ t : Nat, t < 4 ∧ b j = nI t) : (kp0 a b p).map (kent2 st tl) = ktub (-9) 0 st tl a b p := by
  unfold kp0 ktub
  rw [List.map_map]
  apply List.map_congr_left
  intro j hj
  rw [List.mem_range] at hj
  obtain ⟨t, ht, e⟩ := hb j hj
  show kent2 st tl ((a j).toNatClampNeg, (b j).toNatClampNeg) = kent (-9) 0 st tl a b j
  unfold kent kent2
  rw [if_neg (nI_n9 _ (by omega)), e, nI_clamp (by omega)]
theorem nI_min {a b : Nat} (ha : a < 2 ^ 31) (hb : b < 2 ^ 31) : (if nI b < nI a then nI b else nI a) = nI (min a b) := by
  by_cases h : b < a
  · rw [if_pos ((nI_ltI hb ha).mpr h), Nat.min_eq_right (by omega)]
  · rw [if_neg (fun q => h ((nI_ltI hb ha).mp q)), Nat.min_eq_left (by omega)]
theorem s_X2_firstMove_t {X : kX} {d : Nat} {c w m v : kZ} {E : kH} {w0 : kZ} {g e lim : Int32} {st tl : Nat → Int32} {nl P mv : Nat} (hnl : nl ≤ 9) (hPm : P + mv ≤ 4) {rr : Nat} (hmv : mv = rr + 1) {pre : kTb} {u : Int32} (hlen : pre.length = P) {A : Int32} {l : Nat} (hl : l < nl) (hu : ¬ (u >>> (nI l &&& 31) &&& 1 = 1)) {R9 : Option Int32} (hAx : ∀ x, R9 = some x → x = A) (K : ∀ w2 : kZ, R9 = none → kGi w0 g e lim st tl nl P mv pre u w2 → WP X (d + 2 * rr + 7) 0 0 Y_X2_firstMove 69 [(2, .int (nI l)), (1, .int (kb (kgw (fun q => decide (kW2 g e st tl q ≤ lim)) nl (rr + 1) 0 pre u = true))), (0, .ref 58)] [] (HP c w2 m v E) (fun r h1 => r = some (.int A) ∧ ∃ w1 : kZ, h1 = HP c w1 m v E ∧ kGi w0 g e lim st tl nl P mv pre u w1)) : ∀ (k : Nat) (t : Nat) (w' : kZ), (t + k = 3) → (kGi w0 g e lim st tl nl P mv pre u w') → (kmi ((fun l t => kgw (fun q => decide (kW2 g e st tl q ≤ lim)) nl rr 1 (pre ++ [(l, t)]) (u ||| kbit l) == kgw (fun q => decide (kW2 g e st tl q ≤ lim)) nl (rr + 1) 0 pre u) l) l k t = R9) → WP X (d + 2 * rr + 7) 0 0 Y_X2_firstMove 29 [(3, .int (nI (t))), (2, .int (nI (l))), (1, .int (kb (kgw (fun q => decide (kW2 g e st tl q ≤ lim)) nl (rr + 1) 0 pre u = true))), (0, .ref (58))] [] (HP c w' m v E) (fun r h1 => r = some (.int A) ∧ ∃ w1 : kZ, h1 = HP c w1 m v E ∧ kGi w0 g e lim st tl nl P mv pre u w1) := by
  intro k
  induction k using Nat.strongRecOn with
  | ind k ih =>
    intro t w' htk hI hq
    refine wp_iload_n 0 d_X2_firstMove_29 rfl rfl ?_
    refine wp_iconst (v0 := 3) d_X2_firstMove_30 rfl ?_
    refine wp_ncmp_ge (a := t) (b := 3) 69 d_X2_firstMove_31 rfl (by omega) (by omega) (fun zc31 => ?_) (fun zc31 => ?_)
    · obtain rfl : k = 0 := by omega
      refine wp_sub [(2, .int (nI l)), (1, .int (kb (kgw (fun q => decide (kW2 g e st tl q ≤ lim)) nl (rr + 1) 0 pre u = true))), (0, .ref 58)] [1, 2, 3] rfl ?_
      exact K w' hq.symm hI
    · refine wp_aload_n 3 d_X2_firstMove_34 rfl rfl ?_
      refine wp_getfield (v := .int (u)) d_X2_firstMove_35 gf_X2_35 (hp_58 _ _ _ _ _) (congrArg (fun z => some (Value.int z)) hI.1.2.1) ?_
      refine wp_iload_n 1 d_X2_firstMove_38 rfl rfl ?_
      refine wp_ishr d_X2_firstMove_39 ?_
      refine wp_iconst (v0 := 1) d_X2_firstMove_40 rfl ?_
      refine wp_iand d_X2_firstMove_41 ?_
      refine wp_if_ne 69 d_X2_firstMove_42 rfl (fun zc42 => ?_) (fun zc42 => ?_)
      · exact absurd (by rcases kand1 (u >>> (nI l &&& 31)) with q | q; exact q; exact absurd q hu) zc42
      · refine wp_aload_n 3 d_X2_firstMove_45 rfl rfl ?_
        refine wp_iconst (v0 := 0) d_X2_firstMove_46 rfl ?_
        refine wp_iload_n 1 d_X2_firstMove_47 rfl rfl ?_
        refine wp_iload_n 0 d_X2_firstMove_48 rfl rfl ?_
        refine wp_virtual0 (As := [.int (0), .int (nI (l)), .int (nI (t))]) d_X2_firstMove_49 lk_X2_59 mv_X2_firstWinsBehind in_X2_firstWinsBehind se_X2_firstWinsBehind (Nat.le_of_ble_eq_true rfl) (Nat.le_of_ble_eq_true rfl) (hp_58 _ _ _ _ _) rfl (s_X2_behind (d := d) (w := w') (w0 := w0) hnl hPm (rr := rr) (fun put pre u w9 h1 h2 h3 => s_X2_firstWins (w := w) hnl hPm rr put pre u w9 h1 h2 h3) (put := 0) (by omega) hlen (l := l) (t := t) (by omega) hu hI) (fun v49 h49 q49 => ?_)
        obtain ⟨rfl, w2, rfl, hI2⟩ := q49
        show WP _ _ _ _ _ 52 _ [.int (kb (kgw (fun q => decide (kW2 g e st tl q ≤ lim)) nl rr (0 + 1) (pre ++ [(l, t)]) (u ||| kbit l) = true))] (HP c w2 m v E) _
        refine wp_iload_n 2 d_X2_firstMove_52 rfl rfl ?_
        refine wp_icmp_ne 63 d_X2_firstMove_53 rfl (fun zc53 => ?_) (fun zc53 => ?_)
        · refine wp_iinc (v0 := nI ((t) + 1)) [(3, .int (nI ((t) + 1))), (2, .int (nI (l))), (1, .int (kb (kgw (fun q => decide (kW2 g e st tl q ≤ lim)) nl (rr + 1) 0 pre u = true))), (0, .ref (58))] 0 d_X2_firstMove_63 rfl (nI_add (t) 1) (Nat.le_of_ble_eq_true rfl) rfl ?_
          refine wp_goto 29 d_X2_firstMove_66 rfl ?_
          obtain ⟨k1, rfl⟩ : ∃ k1, k = k1 + 1 := ⟨k - 1, by omega⟩
          refine wp_sub [(3, .int (nI ((t) + 1))), (2, .int (nI (l))), (1, .int (kb (kgw (fun q => decide (kW2 g e st tl q ≤ lim)) nl (rr + 1) 0 pre u = true))), (0, .ref (58))] [0, 1, 2, 3] rfl ?_
          have h80 := kbne.mp zc53
          simp only [kmi] at hq
          rw [if_neg (by rw [h80]; decide)] at hq
          exact ih k1 (by omega) (t + 1) w2 (by omega) hI2 hq
        · refine wp_bipush (v0 := 10) d_X2_firstMove_56 (by decide) ?_
          refine wp_iload_n 1 d_X2_firstMove_58 rfl rfl ?_
          refine wp_imul d_X2_firstMove_59 ?_
          refine wp_v (v0 := nI ((10) * (l))) (pk_mul (10) (l)) ?_
          refine wp_iload_n 0 d_X2_firstMove_60 rfl rfl ?_
          refine wp_iadd d_X2_firstMove_61 ?_
          refine wp_v (v0 := nI (((10) * (l)) + (t))) (nI_add ((10) * (l)) (t)) ?_
          refine wp_reti d_X2_firstMove_62 rfl ?_
          obtain ⟨k1, rfl⟩ : ∃ k1, k = k1 + 1 := ⟨k - 1, by omega⟩
          have h80 := kbeq.mp zc53
          simp only [kmi] at hq
          rw [if_pos h80] at hq
          refine ⟨congrArg (fun z => some (Value.int z)) ?_, w2, rfl, hI2⟩
          exact hAx _ hq.symm
theorem s_X2_firstMove_l {X : kX} {d : Nat} {c w m v : kZ} {E : kH} {w0 : kZ} {g e lim : Int32} {st tl : Nat → Int32} {nl P mv : Nat} (hnl : nl ≤ 9) (hPm : P + mv ≤ 4) {rr : Nat} (hmv : mv = rr + 1) {pre : kTb} {u : Int32} (hlen : pre.length = P) {A : Int32} : ∀ (k : Nat) (l : Nat) (w' : kZ), (l + k = nl) → (kGi w0 g e lim st tl nl P mv pre u w') → (kmo (fun l => decide (u >>> (nI l &&& 31) &&& 1 = 0)) (fun l t => kgw (fun q => decide (kW2 g e st tl q ≤ lim)) nl rr 1 (pre ++ [(l, t)]) (u ||| kbit l) == kgw (fun q => decide (kW2 g e st tl q ≤ lim)) nl (rr + 1) 0 pre u) 3 k l = A) → WP X (d + 2 * rr + 7) 0 0 Y_X2_firstMove 19 [(2, .int (nI (l))), (1, .int (kb (kgw (fun q => decide (kW2 g e st tl q ≤ lim)) nl (rr + 1) 0 pre u = true))), (0, .ref (58))] [] (HP c w' m v E) (fun r h1 => r = some (.int A) ∧ ∃ w1 : kZ, h1 = HP c w1 m v E ∧ kGi w0 g e lim st tl nl P mv pre u w1) := by
  intro k
  induction k using Nat.strongRecOn with
  | ind k ih =>
    intro l w' hlk hI hA
    refine wp_iload_n 0 d_X2_firstMove_19 rfl rfl ?_
    refine wp_aload_n 2 d_X2_firstMove_20 rfl rfl ?_
    refine wp_getfield (v := .int (nI (nl))) d_X2_firstMove_21 gf_X2_30 (hp_58 _ _ _ _ _) (congrArg (fun z => some (Value.int z)) hI.1.1) ?_
    refine wp_ncmp_ge (a := l) (b := nl) 75 d_X2_firstMove_24 rfl (by omega) (by omega) (fun zc24 => ?_) (fun zc24 => ?_)
    · refine wp_bipush (v0 := -3) d_X2_firstMove_75 (by decide) ?_
      refine wp_reti d_X2_firstMove_77 rfl ?_
      obtain rfl : k = 0 := by omega
      exact ⟨congrArg (fun z => some (Value.int z)) hA, w', rfl, hI⟩
    · refine wp_iconst (v0 := 0) d_X2_firstMove_27 rfl ?_
      refine wp_istore_n [(3, .int (0)), (2, .int (nI (l))), (1, .int (kb (kgw (fun q => decide (kW2 g e st tl q ≤ lim)) nl (rr + 1) 0 pre u = true))), (0, .ref (58))] d_X2_firstMove_28 rfl (Nat.le_of_ble_eq_true rfl) rfl ?_
      obtain ⟨k1, rfl⟩ : ∃ k1, k = k1 + 1 := ⟨k - 1, by omega⟩
      have hA2 := hA
      simp only [kmo] at hA2
      rcases kand1 (u >>> (nI l &&& 31)) with hb0 | hb1
      · rw [if_pos (decide_eq_true hb0)] at hA2
        refine wp_sub [(3, .int (0)), (2, .int (nI (l))), (1, .int (kb (kgw (fun q => decide (kW2 g e st tl q ≤ lim)) nl (rr + 1) 0 pre u = true))), (0, .ref (58))] [0, 1, 2, 3] rfl ?_
        refine s_X2_firstMove_t (w := w) hnl hPm hmv hlen (l := l) (A := A) (by omega) (by rw [hb0]; decide) (fun x hx => by rw [hx] at hA2; exact hA2) (fun w2 hB hI2 => ?_) 3 0 w' (by omega) hI rfl
        rw [hB] at hA2
        refine wp_iinc (v0 := nI ((l) + 1)) [(2, .int (nI ((l) + 1))), (1, .int (kb (kgw (fun q => decide (kW2 g e st tl q ≤ lim)) nl (rr + 1) 0 pre u = true))), (0, .ref (58))] 0 d_X2_firstMove_69 rfl (nI_add (l) 1) (Nat.le_of_ble_eq_true rfl) rfl ?_
        refine wp_goto 19 d_X2_firstMove_72 rfl ?_
        refine wp_sub [(2, .int (nI ((l) + 1))), (1, .int (kb (kgw (fun q => decide (kW2 g e st tl q ≤ lim)) nl (rr + 1) 0 pre u = true))), (0, .ref (58))] [0, 1, 2] rfl ?_
        exact ih k1 (by omega) (l + 1) w2 (by omega) hI2 hA2
      · rw [if_neg (by rw [decide_eq_false (by rw [hb1]; decide)]; decide)] at hA2
        refine wp_iload_n 0 d_X2_firstMove_29 rfl rfl ?_
        refine wp_iconst (v0 := 3) d_X2_firstMove_30 rfl ?_
        refine wp_icmp_ge 69 d_X2_firstMove_31 rfl (fun z => absurd z (by decide)) (fun _ => ?_)
        refine wp_aload_n 3 d_X2_firstMove_34 rfl rfl ?_
        refine wp_getfield (v := .int (u)) d_X2_firstMove_35 gf_X2_35 (hp_58 _ _ _ _ _) (congrArg (fun z => some (Value.int z)) hI.1.2.1) ?_
        refine wp_iload_n 1 d_X2_firstMove_38 rfl rfl ?_
        refine wp_ishr d_X2_firstMove_39 ?_
        refine wp_iconst (v0 := 1) d_X2_firstMove_40 rfl ?_
        refine wp_iand d_X2_firstMove_41 ?_
        refine wp_if_ne 69 d_X2_firstMove_42 rfl (fun zc42 => ?_) (fun zc42 => ?_)
        · refine wp_iinc (v0 := nI ((l) + 1)) [(2, .int (nI ((l) + 1))), (3, .int (0)), (1, .int (kb (kgw (fun q => decide (kW2 g e st tl q ≤ lim)) nl (rr + 1) 0 pre u = true))), (0, .ref (58))] 1 d_X2_firstMove_69 rfl (nI_add (l) 1) (Nat.le_of_ble_eq_true rfl) rfl ?_
          refine wp_goto 19 d_X2_firstMove_72 rfl ?_
          refine wp_sub [(2, .int (nI ((l) + 1))), (1, .int (kb (kgw (fun q => decide (kW2 g e st tl q ≤ lim)) nl (rr + 1) 0 pre u = true))), (0, .ref (58))] [0, 2, 3] rfl ?_
          exact ih k1 (by omega) (l + 1) w' (by omega) hI hA2
        · rw [hb1] at zc42
          exact absurd zc42 (by decide)
theorem s_X2_firstMove {X : kX} {d : Nat} {c w m v : kZ} {E : kH} {w0 : kZ} {g e lim : Int32} {st tl : Nat → Int32} {nl P mv : Nat} (hnl : nl ≤ 9) (hPm : P + mv ≤ 4) {pre : kTb} {u : Int32} (hlen : pre.length = P) (hI : kGi w0 g e lim st tl nl P mv pre u w) : WP X (d + 16) 0 0 Y_X2_firstMove 0 [(0, .ref (58))] [] (HP c w m v E) (fun r h1 => r = some (.int (if mv = 0 then -3 else (kmo (fun l => decide (u >>> (nI l &&& 31) &&& 1 = 0)) (fun l t => kgw (fun q => decide (kW2 g e st tl q ≤ lim)) nl (mv - 1) 1 (pre ++ [(l, t)]) (u ||| kbit l) == kgw (fun q => decide (kW2 g e st tl q ≤ lim)) nl mv 0 pre u) 3 nl 0))) ∧ ∃ w1 : kZ, h1 = HP c w1 m v E ∧ kGi w0 g e lim st tl nl P mv pre u w1) := by
  refine wp_aload_n 0 d_X2_firstMove_0 rfl rfl ?_
  refine wp_getfield (v := .int (nI (mv))) d_X2_firstMove_1 gf_X2_48 (hp_58 _ _ _ _ _) (congrArg (fun z => some (Value.int z)) hI.1.2.2.2) ?_
  refine wp_iconst (v0 := 1) d_X2_firstMove_4 rfl ?_
  refine wp_ncmp_ge (a := mv) (b := 1) 11 d_X2_firstMove_5 rfl (by omega) (by omega) (fun zc5 => ?_) (fun zc5 => ?_)
  · refine wp_aload_n 0 d_X2_firstMove_11 rfl rfl ?_
    refine wp_iconst (v0 := 0) d_X2_firstMove_12 rfl ?_
    refine wp_virtual0 (As := [.int (0)]) d_X2_firstMove_13 lk_X2_67 mv_X2_firstWins in_X2_firstWins se_X2_firstWins (Nat.le_of_ble_eq_true rfl) (Nat.le_of_ble_eq_true rfl) (hp_58 _ _ _ _ _) rfl (wp_depth (d := 0 + 2 * mv + 5) (by omega) (s_X2_firstWins (d := 0) (w := w) (w0 := w0) hnl hPm mv 0 pre u w (by omega) hlen hI)) (fun v13 h13 q13 => ?_)
    obtain ⟨rfl, w2, rfl, hI2⟩ := q13
    show WP _ _ _ _ _ 16 _ [.int (kb (kgw (fun q => decide (kW2 g e st tl q ≤ lim)) nl mv 0 pre u = true))] (HP c w2 m v E) _
    refine wp_istore_n [(1, .int (kb (kgw (fun q => decide (kW2 g e st tl q ≤ lim)) nl mv 0 pre u = true))), (0, .ref (58))] d_X2_firstMove_16 rfl (Nat.le_of_ble_eq_true rfl) rfl ?_
    refine wp_iconst (v0 := 0) d_X2_firstMove_17 rfl ?_
    refine wp_istore_n [(2, .int (0)), (1, .int (kb (kgw (fun q => decide (kW2 g e st tl q ≤ lim)) nl mv 0 pre u = true))), (0, .ref (58))] d_X2_firstMove_18 rfl (Nat.le_of_ble_eq_true rfl) rfl ?_
    refine wp_sub [(2, .int (0)), (1, .int (kb (kgw (fun q => decide (kW2 g e st tl q ≤ lim)) nl mv 0 pre u = true))), (0, .ref (58))] [0, 1, 2] rfl ?_
    obtain ⟨rr, hmv⟩ : ∃ rr, mv = rr + 1 := ⟨mv - 1, by omega⟩
    subst hmv
    rw [if_neg (by omega)]
    exact wp_depth (d := 0 + 2 * rr + 7) (by omega) (s_X2_firstMove_l (d := 0) (w := w) (w0 := w0) hnl hPm rfl hlen nl 0 w2 (by omega) hI2 rfl)
  · refine wp_bipush (v0 := -3) d_X2_firstMove_8 (by decide) ?_
    refine wp_reti d_X2_firstMove_10 rfl ?_
    exact ⟨by rw [if_pos (by omega)], w, rfl, hI⟩
theorem s_X2_open_l {X : kX} {d : Nat} {c w m v : kZ} {E : kH} {n : Nat} (hn : c.1 100 = nI n) (hn9 : n ≤ 9) {rho cnt ka L : Nat} {code : Nat → Int32} (hrr : c.2.2.1 1 = rho) (hR : kRu E rho cnt ka L code) (hL : L < 2 ^ 20) (hc8 : cnt ≤ 8) (hwf : kWF code L cnt 0) (hk : ∀ j, j < n → 1 ≤ (c.2.1 2 j).toInt ∧ (c.2.1 2 j).toInt ≤ 5) {p : Nat} (hp : c.1 107 = nI p) (hp4 : p ≤ 4) (hln : ∀ j, j < p → vp_in (c.2.1 9 j) n) (hpn : p ≤ n) {N : Nat} (hN : N ≤ 3) : ∀ (k : Nat) (i : Nat) (w' : kZ), (i + k = p) → (((w'.1 5801 = nI n ∧ w'.1 5803 = nI p) ∧ kLd w' (c.2.1 6 1) (c.2.1 6 2) (c.2.1 6 3) (fun l => kstr code cnt (c.2.1 6 0) (c.2.1 6 1) (c.2.1 6 2) (c.2.1 2 l) (c.2.1 3 l) l) (c.2.1 4) n ∧ kRay w' ((kp0 (c.2.1 9) (c.2.1 10) p).map (kent2 (fun l => kstr code cnt (c.2.1 6 0) (c.2.1 6 1) (c.2.1 6 2) (c.2.1 2 l) (c.2.1 3 l) l) (c.2.1 4))) ∧ kGf w w')) → (w'.1 5802 = kuo (c.2.1 9) i) → WP X (d + 3) 0 0 Y_X2_open 39 [(3, .int (nI (i))), (0, .ref (58)), (1, .ref (1)), (2, .int (nI (N)))] [] (HP c w' m v E) (fun r h1 => r = none ∧ ∃ w1 : kZ, h1 = HP c w1 m v E ∧ kGi w (c.2.1 6 1) (c.2.1 6 2) (c.2.1 6 3) (fun l => kstr code cnt (c.2.1 6 0) (c.2.1 6 1) (c.2.1 6 2) (c.2.1 2 l) (c.2.1 3 l) l) (c.2.1 4) n p (min N (min (4 - p) (n - p))) (kp0 (c.2.1 9) (c.2.1 10) p) (kuo (c.2.1 9) p) w1) := by
  intro k
  induction k using Nat.strongRecOn with
  | ind k ih =>
    intro i w' hi hJ hu
    refine wp_iload_n 0 d_X2_open_39 rfl rfl ?_
    refine wp_aload_n 1 d_X2_open_40 rfl rfl ?_
    refine wp_getfield (v := .int (nI (p))) d_X2_open_41 gf_X2_34 (hp_58 _ _ _ _ _) (congrArg (fun z => some (Value.int z)) hJ.1.2) ?_
    refine wp_ncmp_ge (a := i) (b := p) 70 d_X2_open_44 rfl (by omega) (by omega) (fun zc44 => ?_) (fun zc44 => ?_)
    · refine wp_aload_n 1 d_X2_open_70 rfl rfl ?_
      refine wp_iload_n 3 d_X2_open_71 rfl rfl ?_
      refine wp_iconst (v0 := 4) d_X2_open_72 rfl ?_
      refine wp_aload_n 1 d_X2_open_73 rfl rfl ?_
      refine wp_getfield (v := .int (nI (p))) d_X2_open_74 gf_X2_34 (hp_58 _ _ _ _ _) (congrArg (fun z => some (Value.int z)) hJ.1.2) ?_
      refine wp_isub d_X2_open_77 ?_
      refine wp_v (v0 := nI ((4) - (p))) (pk_sub (a := 4) (b := p) (by omega)) ?_
      refine wp_aload_n 1 d_X2_open_78 rfl rfl ?_
      refine wp_getfield (v := .int (nI (n))) d_X2_open_79 gf_X2_30 (hp_58 _ _ _ _ _) (congrArg (fun z => some (Value.int z)) hJ.1.1) ?_
      refine wp_aload_n 1 d_X2_open_82 rfl rfl ?_
      refine wp_getfield (v := .int (nI (p))) d_X2_open_83 gf_X2_34 (hp_58 _ _ _ _ _) (congrArg (fun z => some (Value.int z)) hJ.1.2) ?_
      refine wp_isub d_X2_open_86 ?_
      refine wp_v (v0 := nI ((n) - (p))) (pk_sub (a := n) (b := p) (by omega)) ?_
      refine wp_mmin d_X2_open_87 mk_X2_42 mst_min ini_J9 mco_min (Nat.le_of_ble_eq_true rfl) ?_
      refine wp_v (v0 := nI (min (4 - p) (n - p))) (nI_min (a := 4 - p) (b := n - p) (by omega) (by omega)) ?_
      refine wp_mmin d_X2_open_90 mk_X2_42 mst_min ini_J9 mco_min (Nat.le_of_ble_eq_true rfl) ?_
      refine wp_v (v0 := nI (min (N) (min (4 - p) (n - p)))) (nI_min (a := N) (b := min (4 - p) (n - p)) (by omega) (by omega)) ?_
      refine wp_putfield (h' := HP c (setS w' 5804 (nI (min (N) (min (4 - p) (n - p))))) m v E) d_X2_open_93 gp_X2_48 (kfit_i _) (hp_58 _ _ _ _ _) (Nat.le_of_ble_eq_true rfl) (hps_58_4 _ _ _ _ _ _) ?_
      refine wp_vret d_X2_open_96 rfl ?_
      obtain rfl : k = 0 := by omega
      obtain rfl : i = p := by omega
      refine ⟨rfl, _, rfl, ⟨hJ.1.1, hu, hJ.1.2, rfl⟩, hJ.2.1, hJ.2.2.1, hJ.2.2.2.tr ⟨fun k9 h9 => upd_n _ _ (by omega), fun _ _ => rfl, rfl⟩⟩
    · refine wp_aload_n 1 d_X2_open_47 rfl rfl ?_
      refine wp_dup d_X2_open_48 rfl ?_
      refine wp_getfield (v := .int (kuo (c.2.1 9) i)) d_X2_open_49 gf_X2_35 (hp_58 _ _ _ _ _) (congrArg (fun z => some (Value.int z)) hu) ?_
      obtain ⟨l9, hl9, el9⟩ := vp_in_of (hln i (by omega)) (by omega)
      have hl0 : c.2.1 9 i = nI ((c.2.1 9 i).toNatClampNeg) := by rw [el9, nI_clamp (by omega)]
      have hl00 : (c.2.1 9 i).toNatClampNeg < 9 := by rw [el9, nI_clamp (by omega)]; omega
      refine wp_iconst (v0 := 1) d_X2_open_52 rfl ?_
      refine wp_aload_n 2 d_X2_open_53 rfl rfl ?_
      refine wp_getfield (v := .ref (9)) d_X2_open_54 gf_X2_38 (hp_1 _ _ _ _ _) rfl ?_
      refine wp_iload_n 0 d_X2_open_57 rfl rfl ?_
      refine wp_iaload (v := nI ((c.2.1 9 i).toNatClampNeg)) d_X2_open_58 (hp_9 _ _ _ _ _) (vp_in_nI (by omega) (by omega)) ((congrArg ((c.2.1 9)) (nI_clamp (by omega))).trans hl0) ?_
      refine wp_ishl d_X2_open_59 ?_
      refine wp_ior d_X2_open_60 ?_
      refine wp_putfield (h' := HP c (setS w' 5802 ((kuo (c.2.1 9) i) ||| ((1) <<< ((nI ((c.2.1 9 i).toNatClampNeg)) &&& 31)))) m v E) d_X2_open_61 gp_X2_35 (kfit_i _) (hp_58 _ _ _ _ _) (Nat.le_of_ble_eq_true rfl) (hps_58_2 _ _ _ _ _ _) ?_
      refine wp_iinc (v0 := nI ((i) + 1)) [(3, .int (nI ((i) + 1))), (0, .ref (58)), (1, .ref (1)), (2, .int (nI (N)))] 0 d_X2_open_64 rfl (nI_add (i) 1) (Nat.le_of_ble_eq_true rfl) rfl ?_
      refine wp_goto 39 d_X2_open_67 rfl ?_
      obtain ⟨k1, rfl⟩ : ∃ k1, k = k1 + 1 := ⟨k - 1, by omega⟩
      refine wp_sub [(3, .int (nI ((i) + 1))), (0, .ref (58)), (1, .ref (1)), (2, .int (nI (N)))] [0, 1, 2, 3] rfl ?_
      exact ih k1 (by omega) (i + 1) _ (by omega) ⟨hJ.1, hJ.2.1, hJ.2.2.1, hJ.2.2.2.tr ⟨fun k9 h9 => upd_n _ _ (by omega), fun _ _ => rfl, rfl⟩⟩ rfl
theorem s_X2_open {X : kX} {d : Nat} {c w m v : kZ} {E : kH} {n : Nat} (hn : c.1 100 = nI n) (hn9 : n ≤ 9) {rho cnt ka L : Nat} {code : Nat → Int32} (hrr : c.2.2.1 1 = rho) (hR : kRu E rho cnt ka L code) (hL : L < 2 ^ 20) (hc8 : cnt ≤ 8) (hwf : kWF code L cnt 0) (hk : ∀ j, j < n → 1 ≤ (c.2.1 2 j).toInt ∧ (c.2.1 2 j).toInt ≤ 5) {p : Nat} (hp : c.1 107 = nI p) (hp4 : p ≤ 4) (hln : ∀ j, j < p → vp_in (c.2.1 9 j) n) (hr0 : kRay w []) (hpn : p ≤ n) (htn : ∀ j, j < p → ∃ t : Nat, t < 4 ∧ c.2.1 10 j = nI t) {N : Nat} (hN : N ≤ 3) : WP X (d + 8) 0 0 Y_X2_open 0 [(0, .ref (58)), (1, .ref (1)), (2, .int (nI (N)))] [] (HP c w m v E) (fun r h1 => r = none ∧ ∃ w1 : kZ, h1 = HP c w1 m v E ∧ kGi w (c.2.1 6 1) (c.2.1 6 2) (c.2.1 6 3) (fun l => kstr code cnt (c.2.1 6 0) (c.2.1 6 1) (c.2.1 6 2) (c.2.1 2 l) (c.2.1 3 l) l) (c.2.1 4) n p (min N (min (4 - p) (n - p))) (kp0 (c.2.1 9) (c.2.1 10) p) (kuo (c.2.1 9) p) w1) := by
  refine wp_aload_n 0 d_X2_open_0 rfl rfl ?_
  refine wp_getfield (v := .ref (42)) d_X2_open_1 gf_X2_9 (hp_58 _ _ _ _ _) rfl ?_
  refine wp_aload_n 1 d_X2_open_4 rfl rfl ?_
  refine wp_virtual0 (As := [.ref (1)]) d_X2_open_5 lk_X2_15 mv_X5_load in_X5_load se_X5_load (Nat.le_of_ble_eq_true rfl) (Nat.le_of_ble_eq_true rfl) (hp_42 _ _ _ _ _) rfl (s_X5_load hn hn9 hrr hR hL hc8 hwf hk) (fun v5 h5 q5 => ?_)
  obtain ⟨rfl, w1, rfl, hl1, hd1⟩ := q5
  have hr1 : kRay w1 [] := kRay_0 hr0 (fun k9 h9 h8 => by rw [hl1.2.1 k9 (by omega)])
  show WP _ _ _ _ _ 8 _ [] (HP c w1 m v E) _
  refine wp_aload_n 0 d_X2_open_8 rfl rfl ?_
  refine wp_getfield (v := .ref (42)) d_X2_open_9 gf_X2_9 (hp_58 _ _ _ _ _) rfl ?_
  refine wp_aload_n 1 d_X2_open_12 rfl rfl ?_
  refine wp_virtual0 (As := [.ref (1)]) d_X2_open_13 lk_X2_21 mv_X5_through in_X5_through se_X5_through (Nat.le_of_ble_eq_true rfl) (Nat.le_of_ble_eq_true rfl) (hp_42 _ _ _ _ _) rfl (s_X5_through hp hp4 (vp9 hn9 hln) hr1) (fun v13 h13 q13 => ?_)
  obtain ⟨rfl, w2, rfl, hf2, hr2, he2⟩ := q13
  have hr3 : kRay w2 ((kp0 (c.2.1 9) (c.2.1 10) p).map (kent2 (fun l => kstr code cnt (c.2.1 6 0) (c.2.1 6 1) (c.2.1 6 2) (c.2.1 2 l) (c.2.1 3 l) l) (c.2.1 4))) := by
    rw [kp0_tub hp4 htn]
    have h9 := hr2.len (j := p)
    rw [List.take_append_of_le_length (by rw [ktub_len]; omega), List.take_of_length_le (by rw [ktub_len]; omega)] at h9
    rw [ktub_congr (n := n) (fun l hl => hd1.2.2.2.1 l hl) (fun l hl => hd1.2.2.2.2 l (by omega)) hln] at h9
    exact h9
  show WP _ _ _ _ _ 16 _ [] (HP c w2 m v E) _
  refine wp_aload_n 0 d_X2_open_16 rfl rfl ?_
  refine wp_aload_n 1 d_X2_open_17 rfl rfl ?_
  refine wp_getfield (v := .int (nI (n))) d_X2_open_18 gf_X2_24 (hp_1 _ _ _ _ _) (congrArg (fun z => some (Value.int z)) hn) ?_
  refine wp_putfield (h' := HP c (setS w2 5801 (nI (n))) m v E) d_X2_open_21 gp_X2_30 (kfit_i _) (hp_58 _ _ _ _ _) (Nat.le_of_ble_eq_true rfl) (hps_58_1 _ _ _ _ _ _) ?_
  refine wp_aload_n 0 d_X2_open_24 rfl rfl ?_
  refine wp_aload_n 1 d_X2_open_25 rfl rfl ?_
  refine wp_getfield (v := .int (nI (p))) d_X2_open_26 gf_X2_31 (hp_1 _ _ _ _ _) (congrArg (fun z => some (Value.int z)) hp) ?_
  refine wp_putfield (h' := HP c (setS (setS w2 5801 (nI (n))) 5803 (nI (p))) m v E) d_X2_open_29 gp_X2_34 (kfit_i _) (hp_58 _ _ _ _ _) (Nat.le_of_ble_eq_true rfl) (hps_58_3 _ _ _ _ _ _) ?_
  refine wp_aload_n 0 d_X2_open_32 rfl rfl ?_
  refine wp_iconst (v0 := 0) d_X2_open_33 rfl ?_
  refine wp_putfield (h' := HP c (setS (setS (setS w2 5801 (nI (n))) 5803 (nI (p))) 5802 (0)) m v E) d_X2_open_34 gp_X2_35 (kfit_i _) (hp_58 _ _ _ _ _) (Nat.le_of_ble_eq_true rfl) (hps_58_2 _ _ _ _ _ _) ?_
  refine wp_iconst (v0 := 0) d_X2_open_37 rfl ?_
  refine wp_istore_n [(3, .int (0)), (0, .ref (58)), (1, .ref (1)), (2, .int (nI (N)))] d_X2_open_38 rfl (Nat.le_of_ble_eq_true rfl) rfl ?_
  refine wp_sub [(3, .int (0)), (0, .ref (58)), (1, .ref (1)), (2, .int (nI (N)))] [0, 1, 2, 3] rfl ?_
  have hd2 := hd1.f hf2
  exact wp_depth (d := 0 + 3) (by omega) (s_X2_open_l (d := 0) hn hn9 hrr hR hL hc8 hwf hk hp hp4 hln hpn hN p 0 _ (by omega) ⟨⟨rfl, rfl⟩, hd2, hr3, (hl1.a.gf.tr hf2.a.gf).tr ⟨fun k9 h9 => by simp only [setS]; repeat rw [upd_n _ _ (by omega)], fun _ _ => rfl, rfl⟩⟩ rfl)
theorem s_X9_game {X : kX} {d : Nat} {c w m v : kZ} {E : kH} {n : Nat} (hn : c.1 100 = nI n) (hn9 : n ≤ 9) {rho cnt ka L : Nat} {code : Nat → Int32} (hrr : c.2.2.1 1 = rho) (hR : kRu E rho cnt ka L code) (hL : L < 2 ^ 20) (hc8 : cnt ≤ 8) (hwf : kWF code L cnt 0) (hk : ∀ j, j < n → 1 ≤ (c.2.1 2 j).toInt ∧ (c.2.1 2 j).toInt ≤ 5) {p : Nat} (hp : c.1 107 = nI p) (hp4 : p ≤ 4) (hln : ∀ j, j < p → vp_in (c.2.1 9 j) n) (hr0 : kRay w []) (hpn : p ≤ n) (htn : ∀ j, j < p → ∃ t : Nat, t < 4 ∧ c.2.1 10 j = nI t) (x : Int32) : WP X (d + 16) 0 0 Y_X9_game 0 [(0, .ref (0)), (1, .int (x))] [] (HP c w m v E) (fun r h1 => (¬ (1 ≤ x.toInt ∧ x.toInt ≤ 3) ∧ r = some (.int (-1)) ∧ h1 = HP c w m v E) ∨ ∃ N : Nat, 1 ≤ N ∧ N ≤ 3 ∧ x = nI N ∧ r = some (.int (kb (kgw (fun q => decide (kW2 (c.2.1 6 1) (c.2.1 6 2) (fun l => kstr code cnt (c.2.1 6 0) (c.2.1 6 1) (c.2.1 6 2) (c.2.1 2 l) (c.2.1 3 l) l) (c.2.1 4) q ≤ (c.2.1 6 3))) n (min N (min (4 - p) (n - p))) 0 (kp0 (c.2.1 9) (c.2.1 10) p) (kuo (c.2.1 9) p) = true))) ∧ ∃ w1 : kZ, h1 = HP c w1 m v E ∧ kGf w w1 ∧ kRay w1 []) := by
  refine wp_iload_n 1 d_X9_game_0 rfl rfl ?_
  refine wp_stc_i (As := [.int (x)]) (x0 := kb (1 ≤ (x : Int32).toInt ∧ (x : Int32).toInt ≤ 3)) (h1 := HP c w m v E) d_X9_game_1 lk_X9_217 mv_X9_isPut st_X9_isPut (Nat.le_of_ble_eq_true rfl) (Nat.le_of_ble_eq_true rfl) (s_X9_isPut _ (x : Int32)) ?_
  refine wp_ifb_ne 9 d_X9_game_4 rfl (fun zc4 => ?_) (fun zc4 => ?_)
  · have hN1b := zc4.1
    obtain ⟨N, hN, rfl⟩ := k_natle (n := 3) (x := x) ⟨by omega, zc4.2⟩
    have hN1 : 1 ≤ N := by rw [nI_toInt (by omega)] at hN1b; omega
    refine wp_aload_n 0 d_X9_game_9 rfl rfl ?_
    refine wp_getfield (v := .ref (58)) d_X9_game_10 gf_X9_48 (hp_0 _ _ _ _ _) rfl ?_
    refine wp_aload_n 0 d_X9_game_13 rfl rfl ?_
    refine wp_getfield (v := .ref (1)) d_X9_game_14 gf_X9_12 (hp_0 _ _ _ _ _) rfl ?_
    refine wp_iload_n 1 d_X9_game_17 rfl rfl ?_
    refine wp_virtual0 (As := [.ref (1), .int (nI (N))]) d_X9_game_18 lk_X9_252 mv_X2_open in_X2_open se_X2_open (Nat.le_of_ble_eq_true rfl) (Nat.le_of_ble_eq_true rfl) (hp_58 _ _ _ _ _) rfl (s_X2_open hn hn9 hrr hR hL hc8 hwf hk hp hp4 hln hr0 hpn htn (N := N) (by omega)) (fun v18 h18 q18 => ?_)
    obtain ⟨rfl, w1, rfl, hI1⟩ := q18
    show WP _ _ _ _ _ 21 _ [] (HP c w1 m v E) _
    refine wp_aload_n 0 d_X9_game_21 rfl rfl ?_
    refine wp_getfield (v := .ref (58)) d_X9_game_22 gf_X9_48 (hp_0 _ _ _ _ _) rfl ?_
    refine wp_iconst (v0 := 0) d_X9_game_25 rfl ?_
    refine wp_virtual0 (As := [.int (0)]) d_X9_game_26 lk_X9_255 mv_X2_firstWins in_X2_firstWins se_X2_firstWins (Nat.le_of_ble_eq_true rfl) (Nat.le_of_ble_eq_true rfl) (hp_58 _ _ _ _ _) rfl (wp_depth (d := 0 + 2 * (min N (min (4 - p) (n - p))) + 5) (by omega) (s_X2_firstWins (d := 0) (w := w) (w0 := w) hn9 (by omega) (min N (min (4 - p) (n - p))) 0 (kp0 (c.2.1 9) (c.2.1 10) p) (kuo (c.2.1 9) p) w1 (by omega) (kp0_len _ _ _) hI1)) (fun v26 h26 q26 => ?_)
    obtain ⟨rfl, w2, rfl, hI2⟩ := q26
    show WP _ _ _ _ _ 29 _ [.int (kb (kgw (fun q => decide (kW2 (c.2.1 6 1) (c.2.1 6 2) (fun l => kstr code cnt (c.2.1 6 0) (c.2.1 6 1) (c.2.1 6 2) (c.2.1 2 l) (c.2.1 3 l) l) (c.2.1 4) q ≤ (c.2.1 6 3))) n (min N (min (4 - p) (n - p))) 0 (kp0 (c.2.1 9) (c.2.1 10) p) (kuo (c.2.1 9) p) = true))] (HP c w2 m v E) _
    refine wp_ifb_eq 36 d_X9_game_29 rfl (fun zc29 => ?_) (fun zc29 => ?_)
    · refine wp_iconst (v0 := 0) d_X9_game_36 rfl ?_
      refine wp_reti d_X9_game_37 rfl ?_
      exact Or.inr ⟨N, hN1, hN, rfl, congrArg (fun z => some (Value.int z)) (Eq.symm (kb_f zc29)), w2, rfl, hI2.2.2.2, hI2.2.2.1.len (j := 0)⟩
    · refine wp_iconst (v0 := 1) d_X9_game_32 rfl ?_
      refine wp_goto 37 d_X9_game_33 rfl ?_
      refine wp_reti d_X9_game_37 rfl ?_
      exact Or.inr ⟨N, hN1, hN, rfl, congrArg (fun z => some (Value.int z)) (Eq.symm (kb_t zc29)), w2, rfl, hI2.2.2.2, hI2.2.2.1.len (j := 0)⟩
  · refine wp_iconst (v0 := -1) d_X9_game_7 rfl ?_
    refine wp_reti d_X9_game_8 rfl ?_
    exact Or.inl ⟨zc4, rfl, rfl⟩
theorem s_X9_play {X : kX} {d : Nat} {c w m v : kZ} {E : kH} {n : Nat} (hn : c.1 100 = nI n) (hn9 : n ≤ 9) {rho cnt ka L : Nat} {code : Nat → Int32} (hrr : c.2.2.1 1 = rho) (hR : kRu E rho cnt ka L code) (hL : L < 2 ^ 20) (hc8 : cnt ≤ 8) (hwf : kWF code L cnt 0) (hk : ∀ j, j < n → 1 ≤ (c.2.1 2 j).toInt ∧ (c.2.1 2 j).toInt ≤ 5) {p : Nat} (hp : c.1 107 = nI p) (hp4 : p ≤ 4) (hln : ∀ j, j < p → vp_in (c.2.1 9 j) n) (hr0 : kRay w []) (hpn : p ≤ n) (htn : ∀ j, j < p → ∃ t : Nat, t < 4 ∧ c.2.1 10 j = nI t) (x : Int32) : WP X (d + 17) 0 0 Y_X9_play 0 [(0, .ref (0)), (1, .int (x))] [] (HP c w m v E) (fun r h1 => (¬ (1 ≤ x.toInt ∧ x.toInt ≤ 3) ∧ r = some (.int (-1)) ∧ h1 = HP c w m v E) ∨ ∃ N : Nat, 1 ≤ N ∧ N ≤ 3 ∧ x = nI N ∧ r = some (.int (if (min N (min (4 - p) (n - p))) = 0 then -3 else kmo (fun l => decide ((kuo (c.2.1 9) p) >>> (nI l &&& 31) &&& 1 = 0)) (fun l t => kgw (fun q => decide (kW2 (c.2.1 6 1) (c.2.1 6 2) (fun l => kstr code cnt (c.2.1 6 0) (c.2.1 6 1) (c.2.1 6 2) (c.2.1 2 l) (c.2.1 3 l) l) (c.2.1 4) q ≤ (c.2.1 6 3))) n ((min N (min (4 - p) (n - p))) - 1) 1 ((kp0 (c.2.1 9) (c.2.1 10) p) ++ [(l, t)]) ((kuo (c.2.1 9) p) ||| kbit l) == kgw (fun q => decide (kW2 (c.2.1 6 1) (c.2.1 6 2) (fun l => kstr code cnt (c.2.1 6 0) (c.2.1 6 1) (c.2.1 6 2) (c.2.1 2 l) (c.2.1 3 l) l) (c.2.1 4) q ≤ (c.2.1 6 3))) n (min N (min (4 - p) (n - p))) 0 (kp0 (c.2.1 9) (c.2.1 10) p) (kuo (c.2.1 9) p)) 3 n 0)) ∧ ∃ w1 : kZ, h1 = HP c w1 m v E ∧ kGf w w1 ∧ kRay w1 []) := by
  refine wp_iload_n 1 d_X9_play_0 rfl rfl ?_
  refine wp_stc_i (As := [.int (x)]) (x0 := kb (1 ≤ (x : Int32).toInt ∧ (x : Int32).toInt ≤ 3)) (h1 := HP c w m v E) d_X9_play_1 lk_X9_217 mv_X9_isPut st_X9_isPut (Nat.le_of_ble_eq_true rfl) (Nat.le_of_ble_eq_true rfl) (s_X9_isPut _ (x : Int32)) ?_
  refine wp_ifb_ne 9 d_X9_play_4 rfl (fun zc4 => ?_) (fun zc4 => ?_)
  · have hN1b := zc4.1
    obtain ⟨N, hN, rfl⟩ := k_natle (n := 3) (x := x) ⟨by omega, zc4.2⟩
    have hN1 : 1 ≤ N := by rw [nI_toInt (by omega)] at hN1b; omega
    refine wp_aload_n 0 d_X9_play_9 rfl rfl ?_
    refine wp_getfield (v := .ref (58)) d_X9_play_10 gf_X9_48 (hp_0 _ _ _ _ _) rfl ?_
    refine wp_aload_n 0 d_X9_play_13 rfl rfl ?_
    refine wp_getfield (v := .ref (1)) d_X9_play_14 gf_X9_12 (hp_0 _ _ _ _ _) rfl ?_
    refine wp_iload_n 1 d_X9_play_17 rfl rfl ?_
    refine wp_virtual0 (As := [.ref (1), .int (nI (N))]) d_X9_play_18 lk_X9_252 mv_X2_open in_X2_open se_X2_open (Nat.le_of_ble_eq_true rfl) (Nat.le_of_ble_eq_true rfl) (hp_58 _ _ _ _ _) rfl (s_X2_open hn hn9 hrr hR hL hc8 hwf hk hp hp4 hln hr0 hpn htn (N := N) (by omega)) (fun v18 h18 q18 => ?_)
    obtain ⟨rfl, w1, rfl, hI1⟩ := q18
    show WP _ _ _ _ _ 21 _ [] (HP c w1 m v E) _
    refine wp_aload_n 0 d_X9_play_21 rfl rfl ?_
    refine wp_getfield (v := .ref (58)) d_X9_play_22 gf_X9_48 (hp_0 _ _ _ _ _) rfl ?_
    refine wp_virtual0 (As := []) d_X9_play_25 lk_X9_258 mv_X2_firstMove in_X2_firstMove se_X2_firstMove (Nat.le_of_ble_eq_true rfl) (Nat.le_of_ble_eq_true rfl) (hp_58 _ _ _ _ _) rfl (wp_depth (d := 0 + 16) (by omega) (s_X2_firstMove (d := 0) (w := w1) (w0 := w) hn9 (by omega) (kp0_len _ _ _) hI1)) (fun v25 h25 q25 => ?_)
    obtain ⟨rfl, w2, rfl, hI2⟩ := q25
    show WP _ _ _ _ _ 28 _ [.int ((if (min N (min (4 - p) (n - p))) = 0 then -3 else kmo (fun l => decide ((kuo (c.2.1 9) p) >>> (nI l &&& 31) &&& 1 = 0)) (fun l t => kgw (fun q => decide (kW2 (c.2.1 6 1) (c.2.1 6 2) (fun l => kstr code cnt (c.2.1 6 0) (c.2.1 6 1) (c.2.1 6 2) (c.2.1 2 l) (c.2.1 3 l) l) (c.2.1 4) q ≤ (c.2.1 6 3))) n ((min N (min (4 - p) (n - p))) - 1) 1 ((kp0 (c.2.1 9) (c.2.1 10) p) ++ [(l, t)]) ((kuo (c.2.1 9) p) ||| kbit l) == kgw (fun q => decide (kW2 (c.2.1 6 1) (c.2.1 6 2) (fun l => kstr code cnt (c.2.1 6 0) (c.2.1 6 1) (c.2.1 6 2) (c.2.1 2 l) (c.2.1 3 l) l) (c.2.1 4) q ≤ (c.2.1 6 3))) n (min N (min (4 - p) (n - p))) 0 (kp0 (c.2.1 9) (c.2.1 10) p) (kuo (c.2.1 9) p)) 3 n 0))] (HP c w2 m v E) _
    refine wp_reti d_X9_play_28 rfl ?_
    exact Or.inr ⟨N, hN1, hN, rfl, rfl, w2, rfl, hI2.2.2.2, hI2.2.2.1.len (j := 0)⟩
  · refine wp_iconst (v0 := -1) d_X9_play_7 rfl ?_
    refine wp_reti d_X9_play_8 rfl ?_
    exact Or.inl ⟨zc4, rfl, rfl⟩
