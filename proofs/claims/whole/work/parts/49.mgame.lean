/-! ===== a game: the reference ===== -/
def mgw (W : kTb → Bool) (nl : Nat) : Nat → kTb → Int32 → Bool → Bool
  | 0, pre, _, _ => W pre
  | r + 1, pre, u, on => if pre.length = 4 ∨ u = nI (2 ^ nl - 1) then W pre else if kan (fun l => decide (u >>> (nI l &&& 31) &&& 1 = 0) && kan (fun t => mgw W nl r (pre ++ [(l, t)]) (u ||| kbit l) (!on) == on) 4 0) nl 0 = true then on else !on
def mGv (s : Nat → Int32) (en : Nat → Nat) (cnt nl : Nat) (pre : kTb) (v : kZ) : Prop := mSt s en cnt nl v ∧ v.1 8008 = nI pre.length ∧ ∀ j (h : j < pre.length), (v.2.1 86 j, v.2.1 87 j) = kent2 (fun l => mstr s en cnt l) (mtl s) pre[j]
theorem mGv.h {s : Nat → Int32} {en : Nat → Nat} {cnt nl : Nat} {pre : kTb} {v v' : kZ} (h : mGv s en cnt nl pre v) (g : mH v v') : mGv s en cnt nl pre v' := ⟨fun l hl => by rw [g.2]; exact h.1 l hl, (g.1 _ (by decide)).trans h.2.1, by rw [g.2]; exact h.2.2⟩
theorem mGv.laid {s : Nat → Int32} {en : Nat → Nat} {cnt nl : Nat} {pre : kTb} {v : kZ} (h : mGv s en cnt nl pre v) : mLaid v (pre.map (kent2 (fun l => mstr s en cnt l) (mtl s))) := by
  refine ⟨by rw [List.length_map]; exact h.2.1, fun j hj => ?_⟩
  rw [List.length_map] at hj
  rw [List.getElem_map]
  exact h.2.2 j hj
theorem mGv.push {s : Nat → Int32} {en : Nat → Nat} {cnt nl : Nat} {pre : kTb} {v : kZ} {l t p : Nat} (hp : pre.length = p) (hl : l < nl) (h : mGv s en cnt nl pre v) : mGv s en cnt nl (pre ++ [(l, t)]) (setS (setA (setA v 86 (upd (v.2.1 86) p (v.2.1 85 l))) 87 (upd (v.2.1 87) p (kpush (mtl s l) (nI t)))) 8008 (nI (p + 1))) := by
  subst hp
  refine ⟨h.1, by rw [List.length_append]; rfl, fun j hj => ?_⟩
  show (upd (v.2.1 86) pre.length _ j, upd (v.2.1 87) pre.length _ j) = _
  by_cases q : j = pre.length
  · subst q
    have e9 : (pre ++ [(l, t)])[pre.length] = (l, t) := by simp
    rw [upd_s, upd_s, h.1 l hl, e9]
    rfl
  · rw [List.length_append] at hj
    simp only [List.length_cons, List.length_nil] at hj
    rw [upd_n _ _ q, upd_n _ _ q, List.getElem_append_left (by omega)]
    exact h.2.2 j (by omega)
theorem mGv.pop {s : Nat → Int32} {en : Nat → Nat} {cnt nl : Nat} {pre : kTb} {v : kZ} {x : Nat × Nat} (h : mGv s en cnt nl (pre ++ [x]) v) : mGv s en cnt nl pre (setS v 8008 (nI pre.length)) := by
  refine ⟨h.1, rfl, fun j hj => ?_⟩
  have := h.2.2 j (by rw [List.length_append]; omega)
  rw [List.getElem_append_left hj] at this
  exact this
theorem kbnn {b : Bool} (h : kb ((!b) = true) = kb (b = true)) : False := by cases b <;> exact absurd h (by decide)
theorem s_X10_isWonBy {X : kX} {d : Nat} {c w m v : kZ} {E : kH} {cnt : Nat} {en : Nat → Nat} {nl : Nat} (hn : m.2.1 81 0 = nI nl) (hnl : nl ≤ 9) {rr : Nat} (hrr : rr ≤ 3) (IH : ∀ (pre : kTb) (u : Int32) (on : Bool) (v' : kZ), pre.length ≤ 4 → mGv (m.2.1 81) en cnt nl pre v' → WP X (d + 2 * rr + 5) 0 0 Y_X10_isWon 0 [(0, .ref 80), (1, .int (nI rr)), (2, .int u), (3, .int (kb (on = true)))] [] (HP c w m v' E) (fun r h1 => r = some (.int (kb (mgw (fun q => decide (mW2 (m.2.1 81) en cnt q ≤ (m.2.1 81) 7)) nl rr pre u on = true))) ∧ ∃ v1 : kZ, h1 = HP c w m v1 E ∧ mGv (m.2.1 81) en cnt nl pre v1)) {pre : kTb} {u : Int32} {on : Bool} (hlen : pre.length < 4) {l t : Nat} (hl : l < nl) (hI : mGv (m.2.1 81) en cnt nl pre v) : WP X (d + 2 * rr + 6) 0 0 Y_X10_isWonBy 0 [(0, .ref (80)), (1, .int (nI (l))), (2, .int (nI (t))), (3, .int (nI (rr + 1))), (4, .int (u)), (5, .int (kb (on = true)))] [] (HP c w m v E) (fun r h1 => r = some (.int (kb (mgw (fun q => decide (mW2 (m.2.1 81) en cnt q ≤ (m.2.1 81) 7)) nl rr (pre ++ [(l, t)]) (u ||| kbit l) (!on) = true))) ∧ ∃ v1 : kZ, h1 = HP c w m v1 E ∧ mGv (m.2.1 81) en cnt nl pre v1) := by
  refine wp_aload_n 0 d_X10_isWonBy_0 rfl rfl ?_
  refine wp_aload_n 0 d_X10_isWonBy_1 rfl rfl ?_
  refine wp_getfield (v := .int (nI (pre.length))) d_X10_isWonBy_2 gf_X10_135 (hp_80 _ _ _ _ _) (congrArg (fun z => some (Value.int z)) hI.2.1) ?_
  refine wp_iload_n 1 d_X10_isWonBy_5 rfl rfl ?_
  refine wp_iload_n 2 d_X10_isWonBy_6 rfl rfl ?_
  refine wp_vrt_v (As := [.int (nI (pre.length)), .int (nI (l)), .int (nI (t))]) (h1 := HP c w m (setA (setA v 86 (upd (v.2.1 86) (pre.length) ((v.2.1 85) (l)))) 87 (upd (v.2.1 87) (pre.length) (kpush (mtl (m.2.1 81) (l)) (nI (t))))) E) d_X10_isWonBy_7 lk_X10_139 mv_X10_thinks in_X10_thinks se_X10_thinks (Nat.le_of_ble_eq_true rfl) (Nat.le_of_ble_eq_true rfl) (hp_80 _ _ _ _ _) rfl (s_X10_thinks (p := pre.length) (l := l) (by omega) (by omega) (nI (t))) ?_
  refine wp_aload_n 0 d_X10_isWonBy_10 rfl rfl ?_
  refine wp_dup d_X10_isWonBy_11 rfl ?_
  refine wp_getfield (v := .int (nI (pre.length))) d_X10_isWonBy_12 gf_X10_135 (hp_80 _ _ _ _ _) (congrArg (fun z => some (Value.int z)) hI.2.1) ?_
  refine wp_iconst (v0 := 1) d_X10_isWonBy_15 rfl ?_
  refine wp_iadd d_X10_isWonBy_16 ?_
  refine wp_v (v0 := nI ((pre.length) + (1))) (nI_add (pre.length) (1)) ?_
  refine wp_putfield (h' := HP c w m (setS (setA (setA v 86 (upd (v.2.1 86) (pre.length) ((v.2.1 85) (l)))) 87 (upd (v.2.1 87) (pre.length) (kpush (mtl (m.2.1 81) (l)) (nI (t))))) 8008 (nI ((pre.length) + (1)))) E) d_X10_isWonBy_17 gp_X10_135 (kfit_i _) (hp_80 _ _ _ _ _) (Nat.le_of_ble_eq_true rfl) (hps_80_8 _ _ _ _ _ _) ?_
  refine wp_aload_n 0 d_X10_isWonBy_20 rfl rfl ?_
  refine wp_iload_n 3 d_X10_isWonBy_21 rfl rfl ?_
  refine wp_iconst (v0 := 1) d_X10_isWonBy_22 rfl ?_
  refine wp_isub d_X10_isWonBy_23 ?_
  refine wp_v (v0 := nI ((rr + 1) - (1))) (pk_sub (a := rr + 1) (b := 1) (by omega)) ?_
  refine wp_iload 4 d_X10_isWonBy_24 rfl ?_
  refine wp_iconst (v0 := 1) d_X10_isWonBy_26 rfl ?_
  refine wp_iload_n 1 d_X10_isWonBy_27 rfl rfl ?_
  refine wp_ishl d_X10_isWonBy_28 ?_
  refine wp_ior d_X10_isWonBy_29 ?_
  refine wp_iload 5 d_X10_isWonBy_30 rfl ?_
  refine wp_ifb_ne 39 d_X10_isWonBy_32 rfl (fun zc32 => ?_) (fun zc32 => ?_)
  · refine wp_iconst (v0 := 0) d_X10_isWonBy_39 rfl ?_
    refine wp_v (v0 := kb ((!on) = true)) (by rw [show on = true from zc32]; rfl) ?_
    refine wp_virtual0 (As := [.int (nI ((rr + 1) - (1))), .int ((u) ||| ((1) <<< ((nI (l)) &&& 31))), .int (kb ((!on) = true))]) d_X10_isWonBy_40 lk_X10_228 mv_X10_isWon in_X10_isWon se_X10_isWon (Nat.le_of_ble_eq_true rfl) (Nat.le_of_ble_eq_true rfl) (hp_80 _ _ _ _ _) rfl (IH (pre ++ [(l, t)]) (u ||| kbit l) (!on) _ (by rw [List.length_append]; simp only [List.length_cons, List.length_nil]; omega) (hI.push (t := t) rfl hl)) (fun v40 h40 q40 => ?_)
    obtain ⟨rfl, v2, rfl, hI2⟩ := q40
    have hl2 : v2.1 8008 = nI (pre.length + 1) := by have := hI2.2.1; rw [List.length_append] at this; exact this
    show WP _ _ _ _ _ 43 _ [.int (kb (mgw (fun q => decide (mW2 (m.2.1 81) en cnt q ≤ (m.2.1 81) 7)) nl rr (pre ++ [(l, t)]) (u ||| kbit l) (!on) = true))] (HP c w m v2 E) _
    refine wp_istore [(6, .int (kb (mgw (fun q => decide (mW2 (m.2.1 81) en cnt q ≤ (m.2.1 81) 7)) nl rr (pre ++ [(l, t)]) (u ||| kbit l) (!on) = true))), (0, .ref (80)), (1, .int (nI (l))), (2, .int (nI (t))), (3, .int (nI (rr + 1))), (4, .int (u)), (5, .int (kb (on = true)))] d_X10_isWonBy_43 (Nat.le_of_ble_eq_true rfl) rfl ?_
    refine wp_aload_n 1 d_X10_isWonBy_45 rfl rfl ?_
    refine wp_dup d_X10_isWonBy_46 rfl ?_
    refine wp_getfield (v := .int (nI (pre.length + 1))) d_X10_isWonBy_47 gf_X10_135 (hp_80 _ _ _ _ _) (congrArg (fun z => some (Value.int z)) hl2) ?_
    refine wp_iconst (v0 := 1) d_X10_isWonBy_50 rfl ?_
    refine wp_isub d_X10_isWonBy_51 ?_
    refine wp_v (v0 := nI ((pre.length + 1) - (1))) (pk_sub (a := pre.length + 1) (b := 1) (by omega)) ?_
    refine wp_putfield (h' := HP c w m (setS v2 8008 (nI ((pre.length + 1) - (1)))) E) d_X10_isWonBy_52 gp_X10_135 (kfit_i _) (hp_80 _ _ _ _ _) (Nat.le_of_ble_eq_true rfl) (hps_80_8 _ _ _ _ _ _) ?_
    refine wp_iload 0 d_X10_isWonBy_55 rfl ?_
    refine wp_retb d_X10_isWonBy_57 rfl ?_
    exact ⟨rfl, _, rfl, hI2.pop⟩
  · refine wp_iconst (v0 := 1) d_X10_isWonBy_35 rfl ?_
    refine wp_goto 40 d_X10_isWonBy_36 rfl ?_
    refine wp_v (v0 := kb ((!on) = true)) (by rw [show on = false from Bool.not_eq_true _ |>.mp zc32]; rfl) ?_
    refine wp_virtual0 (As := [.int (nI ((rr + 1) - (1))), .int ((u) ||| ((1) <<< ((nI (l)) &&& 31))), .int (kb ((!on) = true))]) d_X10_isWonBy_40 lk_X10_228 mv_X10_isWon in_X10_isWon se_X10_isWon (Nat.le_of_ble_eq_true rfl) (Nat.le_of_ble_eq_true rfl) (hp_80 _ _ _ _ _) rfl (IH (pre ++ [(l, t)]) (u ||| kbit l) (!on) _ (by rw [List.length_append]; simp only [List.length_cons, List.length_nil]; omega) (hI.push (t := t) rfl hl)) (fun v40 h40 q40 => ?_)
    obtain ⟨rfl, v2, rfl, hI2⟩ := q40
    have hl2 : v2.1 8008 = nI (pre.length + 1) := by have := hI2.2.1; rw [List.length_append] at this; exact this
    show WP _ _ _ _ _ 43 _ [.int (kb (mgw (fun q => decide (mW2 (m.2.1 81) en cnt q ≤ (m.2.1 81) 7)) nl rr (pre ++ [(l, t)]) (u ||| kbit l) (!on) = true))] (HP c w m v2 E) _
    refine wp_istore [(6, .int (kb (mgw (fun q => decide (mW2 (m.2.1 81) en cnt q ≤ (m.2.1 81) 7)) nl rr (pre ++ [(l, t)]) (u ||| kbit l) (!on) = true))), (0, .ref (80)), (1, .int (nI (l))), (2, .int (nI (t))), (3, .int (nI (rr + 1))), (4, .int (u)), (5, .int (kb (on = true)))] d_X10_isWonBy_43 (Nat.le_of_ble_eq_true rfl) rfl ?_
    refine wp_aload_n 1 d_X10_isWonBy_45 rfl rfl ?_
    refine wp_dup d_X10_isWonBy_46 rfl ?_
    refine wp_getfield (v := .int (nI (pre.length + 1))) d_X10_isWonBy_47 gf_X10_135 (hp_80 _ _ _ _ _) (congrArg (fun z => some (Value.int z)) hl2) ?_
    refine wp_iconst (v0 := 1) d_X10_isWonBy_50 rfl ?_
    refine wp_isub d_X10_isWonBy_51 ?_
    refine wp_v (v0 := nI ((pre.length + 1) - (1))) (pk_sub (a := pre.length + 1) (b := 1) (by omega)) ?_
    refine wp_putfield (h' := HP c w m (setS v2 8008 (nI ((pre.length + 1) - (1)))) E) d_X10_isWonBy_52 gp_X10_135 (kfit_i _) (hp_80 _ _ _ _ _) (Nat.le_of_ble_eq_true rfl) (hps_80_8 _ _ _ _ _ _) ?_
    refine wp_iload 0 d_X10_isWonBy_55 rfl ?_
    refine wp_retb d_X10_isWonBy_57 rfl ?_
    exact ⟨rfl, _, rfl, hI2.pop⟩
theorem s_X10_isWon_t {X : kX} {d : Nat} {c w m v : kZ} {E : kH} {cnt : Nat} {en : Nat → Nat} {nl : Nat} (hn : m.2.1 81 0 = nI nl) (hnl : nl ≤ 9) {rr : Nat} (hrr : rr ≤ 3) (IH : ∀ (pre : kTb) (u : Int32) (on : Bool) (v' : kZ), pre.length ≤ 4 → mGv (m.2.1 81) en cnt nl pre v' → WP X (d + 2 * rr + 5) 0 0 Y_X10_isWon 0 [(0, .ref 80), (1, .int (nI rr)), (2, .int u), (3, .int (kb (on = true)))] [] (HP c w m v' E) (fun r h1 => r = some (.int (kb (mgw (fun q => decide (mW2 (m.2.1 81) en cnt q ≤ (m.2.1 81) 7)) nl rr pre u on = true))) ∧ ∃ v1 : kZ, h1 = HP c w m v1 E ∧ mGv (m.2.1 81) en cnt nl pre v1)) {pre : kTb} {u : Int32} {on : Bool} (hlen : pre.length < 4) {A : Bool} {l : Nat} (hl : l < nl) (hb0 : u >>> (nI l &&& 31) &&& 1 = 0) {B9 : Bool} (K : ∀ v2 : kZ, B9 = A → mGv (m.2.1 81) en cnt nl pre v2 → WP X (d + 2 * rr + 7) 0 0 Y_X10_isWon 117 [(6, .int (nI l)), (5, .int (kb ((!on) = true))), (0, .ref 80), (1, .int (nI (rr + 1))), (2, .int u), (3, .int (kb (on = true)))] [] (HP c w m v2 E) (fun r h1 => r = some (.int (kb ((if A = true then on else !on) = true))) ∧ ∃ v1 : kZ, h1 = HP c w m v1 E ∧ mGv (m.2.1 81) en cnt nl pre v1)) : ∀ (k : Nat) (t : Nat) (v' : kZ), (t + k = 4) → (mGv (m.2.1 81) en cnt nl pre v') → ((kan (fun t => mgw (fun q => decide (mW2 (m.2.1 81) en cnt q ≤ (m.2.1 81) 7)) nl rr (pre ++ [(l, t)]) (u ||| kbit l) (!on) == on) k t || B9) = A) → WP X (d + 2 * rr + 7) 0 0 Y_X10_isWon 77 [(7, .int (nI (t))), (6, .int (nI (l))), (5, .int (kb ((!on) = true))), (0, .ref (80)), (1, .int (nI (rr + 1))), (2, .int (u)), (3, .int (kb (on = true)))] [] (HP c w m v' E) (fun r h1 => r = some (.int (kb ((if A = true then on else !on) = true))) ∧ ∃ v1 : kZ, h1 = HP c w m v1 E ∧ mGv (m.2.1 81) en cnt nl pre v1) := by
  intro k
  induction k using Nat.strongRecOn with
  | ind k ih =>
    intro t v' htk hI hA
    refine wp_iload 0 d_X10_isWon_77 rfl ?_
    refine wp_iconst (v0 := 4) d_X10_isWon_79 rfl ?_
    refine wp_ncmp_ge (a := t) (b := 4) 117 d_X10_isWon_80 rfl (by omega) (by omega) (fun zc80 => ?_) (fun zc80 => ?_)
    · obtain rfl : k = 0 := by omega
      refine wp_sub [(6, .int (nI l)), (5, .int (kb ((!on) = true))), (0, .ref 80), (1, .int (nI (rr + 1))), (2, .int u), (3, .int (kb (on = true)))] [1, 2, 3, 4, 5, 6] rfl ?_
      exact K v' (by simpa [kan] using hA) hI
    · refine wp_iload 2 d_X10_isWon_83 rfl ?_
      refine wp_iload_n 6 d_X10_isWon_85 rfl rfl ?_
      refine wp_icmp_eq 117 d_X10_isWon_86 rfl (fun zc86 => ?_) (fun zc86 => ?_)
      · exact absurd zc86 (fun z => kbnn z)
      · refine wp_iload_n 5 d_X10_isWon_89 rfl rfl ?_
        refine wp_iload 1 d_X10_isWon_90 rfl ?_
        refine wp_ishr d_X10_isWon_92 ?_
        refine wp_iconst (v0 := 1) d_X10_isWon_93 rfl ?_
        refine wp_iand d_X10_isWon_94 ?_
        refine wp_if_ne 117 d_X10_isWon_95 rfl (fun zc95 => ?_) (fun zc95 => ?_)
        · exact absurd hb0 zc95
        · refine wp_aload_n 3 d_X10_isWon_98 rfl rfl ?_
          refine wp_iload 1 d_X10_isWon_99 rfl ?_
          refine wp_iload 0 d_X10_isWon_101 rfl ?_
          refine wp_iload_n 4 d_X10_isWon_103 rfl rfl ?_
          refine wp_iload_n 5 d_X10_isWon_104 rfl rfl ?_
          refine wp_iload_n 6 d_X10_isWon_105 rfl rfl ?_
          refine wp_virtual0 (As := [.int (nI (l)), .int (nI (t)), .int (nI (rr + 1)), .int (u), .int (kb (on = true))]) d_X10_isWon_106 lk_X10_224 mv_X10_isWonBy in_X10_isWonBy se_X10_isWonBy (Nat.le_of_ble_eq_true rfl) (Nat.le_of_ble_eq_true rfl) (hp_80 _ _ _ _ _) rfl (s_X10_isWonBy (v := v') hn hnl hrr IH (l := l) (t := t) (on := on) hlen (by omega) hI) (fun v106 h106 q106 => ?_)
          obtain ⟨rfl, v2, rfl, hI2⟩ := q106
          show WP _ _ _ _ _ 109 _ [.int (kb (mgw (fun q => decide (mW2 (m.2.1 81) en cnt q ≤ (m.2.1 81) 7)) nl rr (pre ++ [(l, t)]) (u ||| kbit l) (!on) = true))] (HP c w m v2 E) _
          refine wp_istore [(5, .int (kb (mgw (fun q => decide (mW2 (m.2.1 81) en cnt q ≤ (m.2.1 81) 7)) nl rr (pre ++ [(l, t)]) (u ||| kbit l) (!on) = true))), (7, .int (nI (t))), (6, .int (nI (l))), (0, .ref (80)), (1, .int (nI (rr + 1))), (2, .int (u)), (3, .int (kb (on = true)))] d_X10_isWon_109 (Nat.le_of_ble_eq_true rfl) rfl ?_
          refine wp_iinc (v0 := nI ((t) + 1)) [(7, .int (nI ((t) + 1))), (5, .int (kb (mgw (fun q => decide (mW2 (m.2.1 81) en cnt q ≤ (m.2.1 81) 7)) nl rr (pre ++ [(l, t)]) (u ||| kbit l) (!on) = true))), (6, .int (nI (l))), (0, .ref (80)), (1, .int (nI (rr + 1))), (2, .int (u)), (3, .int (kb (on = true)))] 1 d_X10_isWon_111 rfl (nI_add (t) 1) (Nat.le_of_ble_eq_true rfl) rfl ?_
          refine wp_goto 77 d_X10_isWon_114 rfl ?_
          obtain ⟨k1, rfl⟩ : ∃ k1, k = k1 + 1 := ⟨k - 1, by omega⟩
          have hA2 := hA
          simp only [kan] at hA2
          generalize hch : mgw (fun q => decide (mW2 (m.2.1 81) en cnt q ≤ (m.2.1 81) 7)) nl rr (pre ++ [(l, t)]) (u ||| kbit l) (!on) = ch at hA2 ⊢
          cases hq : (ch == on)
          · rw [hq, Bool.false_or] at hA2
            have hno : ch = !on := by cases ch <;> cases on <;> first | rfl | exact absurd hq (by decide)
            rw [hno]
            refine wp_sub [(7, .int (nI (t + 1))), (6, .int (nI l)), (5, .int (kb ((!on) = true))), (0, .ref 80), (1, .int (nI (rr + 1))), (2, .int u), (3, .int (kb (on = true)))] [0, 2, 1, 3, 4, 5, 6] rfl ?_
            exact ih k1 (by omega) (t + 1) v2 (by omega) hI2 hA2
          · rw [hq, Bool.true_or, Bool.true_or] at hA2
            obtain rfl : ch = on := by cases ch <;> cases on <;> first | rfl | exact absurd hq (by decide)
            refine wp_iload 0 d_X10_isWon_77 rfl ?_
            refine wp_iconst (v0 := 4) d_X10_isWon_79 rfl ?_
            refine wp_ncmp_ge (a := (t) + 1) (b := 4) 117 d_X10_isWon_80 rfl (by omega) (by omega) (fun zc80 => ?_) (fun zc80 => ?_)
            · refine wp_iinc (v0 := nI ((l) + 1)) [(6, .int (nI ((l) + 1))), (7, .int (nI ((t) + 1))), (5, .int (kb (ch = true))), (0, .ref (80)), (1, .int (nI (rr + 1))), (2, .int (u)), (3, .int (kb (ch = true)))] 2 d_X10_isWon_117 rfl (nI_add (l) 1) (Nat.le_of_ble_eq_true rfl) rfl ?_
              refine wp_goto 57 d_X10_isWon_120 rfl ?_
              refine wp_iload 0 d_X10_isWon_57 rfl ?_
              refine wp_aload_n 3 d_X10_isWon_59 rfl rfl ?_
              refine wp_getfield (v := .ref (81)) d_X10_isWon_60 gf_X10_7 (hp_80 _ _ _ _ _) rfl ?_
              refine wp_iconst (v0 := 0) d_X10_isWon_63 rfl ?_
              refine wp_iaload (v := nI (nl)) d_X10_isWon_64 (hp_81 _ _ _ _ _) (kin rfl) hn ?_
              refine wp_ncmp_ge (a := (l) + 1) (b := nl) 123 d_X10_isWon_65 rfl (by omega) (by omega) (fun zc65 => ?_) (fun zc65 => ?_)
              · refine wp_iload 2 d_X10_isWon_123 rfl ?_
                refine wp_retb d_X10_isWon_125 rfl ?_
                refine ⟨congrArg (fun z => some (Value.int z)) ?_, v2, rfl, hI2⟩
                rw [← hA2, if_pos rfl]
              · refine wp_iload 2 d_X10_isWon_68 rfl ?_
                refine wp_iload_n 6 d_X10_isWon_70 rfl rfl ?_
                refine wp_icmp_eq 123 d_X10_isWon_71 rfl (fun zc71 => ?_) (fun zc71 => ?_)
                · refine wp_iload 2 d_X10_isWon_123 rfl ?_
                  refine wp_retb d_X10_isWon_125 rfl ?_
                  refine ⟨congrArg (fun z => some (Value.int z)) ?_, v2, rfl, hI2⟩
                  rw [← hA2, if_pos rfl]
                · exact absurd rfl zc71
            · refine wp_iload 1 d_X10_isWon_83 rfl ?_
              refine wp_iload_n 6 d_X10_isWon_85 rfl rfl ?_
              refine wp_icmp_eq 117 d_X10_isWon_86 rfl (fun zc86 => ?_) (fun zc86 => ?_)
              · refine wp_iinc (v0 := nI ((l) + 1)) [(6, .int (nI ((l) + 1))), (7, .int (nI ((t) + 1))), (5, .int (kb (ch = true))), (0, .ref (80)), (1, .int (nI (rr + 1))), (2, .int (u)), (3, .int (kb (ch = true)))] 2 d_X10_isWon_117 rfl (nI_add (l) 1) (Nat.le_of_ble_eq_true rfl) rfl ?_
                refine wp_goto 57 d_X10_isWon_120 rfl ?_
                refine wp_iload 0 d_X10_isWon_57 rfl ?_
                refine wp_aload_n 3 d_X10_isWon_59 rfl rfl ?_
                refine wp_getfield (v := .ref (81)) d_X10_isWon_60 gf_X10_7 (hp_80 _ _ _ _ _) rfl ?_
                refine wp_iconst (v0 := 0) d_X10_isWon_63 rfl ?_
                refine wp_iaload (v := nI (nl)) d_X10_isWon_64 (hp_81 _ _ _ _ _) (kin rfl) hn ?_
                refine wp_ncmp_ge (a := (l) + 1) (b := nl) 123 d_X10_isWon_65 rfl (by omega) (by omega) (fun zc65 => ?_) (fun zc65 => ?_)
                · refine wp_iload 2 d_X10_isWon_123 rfl ?_
                  refine wp_retb d_X10_isWon_125 rfl ?_
                  refine ⟨congrArg (fun z => some (Value.int z)) ?_, v2, rfl, hI2⟩
                  rw [← hA2, if_pos rfl]
                · refine wp_iload 2 d_X10_isWon_68 rfl ?_
                  refine wp_iload_n 6 d_X10_isWon_70 rfl rfl ?_
                  refine wp_icmp_eq 123 d_X10_isWon_71 rfl (fun zc71 => ?_) (fun zc71 => ?_)
                  · refine wp_iload 2 d_X10_isWon_123 rfl ?_
                    refine wp_retb d_X10_isWon_125 rfl ?_
                    refine ⟨congrArg (fun z => some (Value.int z)) ?_, v2, rfl, hI2⟩
                    rw [← hA2, if_pos rfl]
                  · exact absurd rfl zc71
              · exact absurd rfl zc86
theorem s_X10_isWon_l {X : kX} {d : Nat} {c w m v : kZ} {E : kH} {cnt : Nat} {en : Nat → Nat} {nl : Nat} (hn : m.2.1 81 0 = nI nl) (hnl : nl ≤ 9) {rr : Nat} (hrr : rr ≤ 3) (IH : ∀ (pre : kTb) (u : Int32) (on : Bool) (v' : kZ), pre.length ≤ 4 → mGv (m.2.1 81) en cnt nl pre v' → WP X (d + 2 * rr + 5) 0 0 Y_X10_isWon 0 [(0, .ref 80), (1, .int (nI rr)), (2, .int u), (3, .int (kb (on = true)))] [] (HP c w m v' E) (fun r h1 => r = some (.int (kb (mgw (fun q => decide (mW2 (m.2.1 81) en cnt q ≤ (m.2.1 81) 7)) nl rr pre u on = true))) ∧ ∃ v1 : kZ, h1 = HP c w m v1 E ∧ mGv (m.2.1 81) en cnt nl pre v1)) {pre : kTb} {u : Int32} {on : Bool} (hlen : pre.length < 4) {A : Bool} : ∀ (k : Nat) (l : Nat) (v' : kZ), (l + k = nl) → (mGv (m.2.1 81) en cnt nl pre v') → (kan (fun l => decide (u >>> (nI l &&& 31) &&& 1 = 0) && kan (fun t => mgw (fun q => decide (mW2 (m.2.1 81) en cnt q ≤ (m.2.1 81) 7)) nl rr (pre ++ [(l, t)]) (u ||| kbit l) (!on) == on) 4 0) k l = A) → WP X (d + 2 * rr + 7) 0 0 Y_X10_isWon 57 [(6, .int (nI (l))), (5, .int (kb ((!on) = true))), (0, .ref (80)), (1, .int (nI (rr + 1))), (2, .int (u)), (3, .int (kb (on = true)))] [] (HP c w m v' E) (fun r h1 => r = some (.int (kb ((if A = true then on else !on) = true))) ∧ ∃ v1 : kZ, h1 = HP c w m v1 E ∧ mGv (m.2.1 81) en cnt nl pre v1) := by
  intro k
  induction k using Nat.strongRecOn with
  | ind k ih =>
    intro l v' hlk hI hA
    refine wp_iload 0 d_X10_isWon_57 rfl ?_
    refine wp_aload_n 2 d_X10_isWon_59 rfl rfl ?_
    refine wp_getfield (v := .ref (81)) d_X10_isWon_60 gf_X10_7 (hp_80 _ _ _ _ _) rfl ?_
    refine wp_iconst (v0 := 0) d_X10_isWon_63 rfl ?_
    refine wp_iaload (v := nI (nl)) d_X10_isWon_64 (hp_81 _ _ _ _ _) (kin rfl) hn ?_
    refine wp_ncmp_ge (a := l) (b := nl) 123 d_X10_isWon_65 rfl (by omega) (by omega) (fun zc65 => ?_) (fun zc65 => ?_)
    · refine wp_iload 1 d_X10_isWon_123 rfl ?_
      refine wp_retb d_X10_isWon_125 rfl ?_
      obtain rfl : k = 0 := by omega
      obtain rfl : A = false := hA.symm
      exact ⟨congrArg (fun z => some (Value.int z)) (by rw [if_neg (by decide)]), v', rfl, hI⟩
    · refine wp_iload 1 d_X10_isWon_68 rfl ?_
      refine wp_iload_n 5 d_X10_isWon_70 rfl rfl ?_
      refine wp_icmp_eq 123 d_X10_isWon_71 rfl (fun zc71 => ?_) (fun zc71 => ?_)
      · refine wp_iload 1 d_X10_isWon_123 rfl ?_
        refine wp_retb d_X10_isWon_125 rfl ?_
        exact absurd zc71 (fun z => kbnn z)
      · refine wp_iconst (v0 := 0) d_X10_isWon_74 rfl ?_
        refine wp_istore [(7, .int (0)), (6, .int (nI (l))), (5, .int (kb ((!on) = true))), (0, .ref (80)), (1, .int (nI (rr + 1))), (2, .int (u)), (3, .int (kb (on = true)))] d_X10_isWon_75 (Nat.le_of_ble_eq_true rfl) rfl ?_
        obtain ⟨k1, rfl⟩ : ∃ k1, k = k1 + 1 := ⟨k - 1, by omega⟩
        have hA2 := hA
        simp only [kan] at hA2
        rcases kand1 (u >>> (nI l &&& 31)) with hb0 | hb1
        · rw [decide_eq_true hb0, Bool.true_and] at hA2
          refine wp_sub [(7, .int (0)), (6, .int (nI (l))), (5, .int (kb ((!on) = true))), (0, .ref (80)), (1, .int (nI (rr + 1))), (2, .int (u)), (3, .int (kb (on = true)))] [0, 1, 2, 3, 4, 5, 6] rfl ?_
          refine s_X10_isWon_t (v := v) hn hnl hrr IH hlen (l := l) (by omega) hb0 (fun v2 hB hI2 => ?_) 4 0 v' (by omega) hI hA2
          refine wp_iinc (v0 := nI ((l) + 1)) [(6, .int (nI ((l) + 1))), (5, .int (kb ((!on) = true))), (0, .ref (80)), (1, .int (nI (rr + 1))), (2, .int (u)), (3, .int (kb (on = true)))] 0 d_X10_isWon_117 rfl (nI_add (l) 1) (Nat.le_of_ble_eq_true rfl) rfl ?_
          refine wp_goto 57 d_X10_isWon_120 rfl ?_
          refine wp_sub [(6, .int (nI ((l) + 1))), (5, .int (kb ((!on) = true))), (0, .ref (80)), (1, .int (nI (rr + 1))), (2, .int (u)), (3, .int (kb (on = true)))] [0, 1, 2, 3, 4, 5] rfl ?_
          exact ih k1 (by omega) (l + 1) v2 (by omega) hI2 hB
        · rw [decide_eq_false (by rw [hb1]; decide), Bool.false_and, Bool.false_or] at hA2
          refine wp_iload 0 d_X10_isWon_77 rfl ?_
          refine wp_iconst (v0 := 4) d_X10_isWon_79 rfl ?_
          refine wp_icmp_ge 117 d_X10_isWon_80 rfl (fun z => absurd z (by decide)) (fun _ => ?_)
          refine wp_iload 2 d_X10_isWon_83 rfl ?_
          refine wp_iload_n 6 d_X10_isWon_85 rfl rfl ?_
          refine wp_icmp_eq 117 d_X10_isWon_86 rfl (fun zc86 => ?_) (fun zc86 => ?_)
          · exact absurd zc86 (fun z => kbnn z)
          · refine wp_iload_n 5 d_X10_isWon_89 rfl rfl ?_
            refine wp_iload 1 d_X10_isWon_90 rfl ?_
            refine wp_ishr d_X10_isWon_92 ?_
            refine wp_iconst (v0 := 1) d_X10_isWon_93 rfl ?_
            refine wp_iand d_X10_isWon_94 ?_
            refine wp_if_ne 117 d_X10_isWon_95 rfl (fun zc95 => ?_) (fun zc95 => ?_)
            · refine wp_iinc (v0 := nI ((l) + 1)) [(6, .int (nI ((l) + 1))), (7, .int (0)), (5, .int (kb ((!on) = true))), (0, .ref (80)), (1, .int (nI (rr + 1))), (2, .int (u)), (3, .int (kb (on = true)))] 1 d_X10_isWon_117 rfl (nI_add (l) 1) (Nat.le_of_ble_eq_true rfl) rfl ?_
              refine wp_goto 57 d_X10_isWon_120 rfl ?_
              refine wp_sub [(6, .int (nI ((l) + 1))), (5, .int (kb ((!on) = true))), (0, .ref (80)), (1, .int (nI (rr + 1))), (2, .int (u)), (3, .int (kb (on = true)))] [0, 2, 3, 4, 5, 6] rfl ?_
              exact ih k1 (by omega) (l + 1) v' (by omega) hI hA2
            · rw [hb1] at zc95
              exact absurd zc95 (by decide)
