/-! ===== a game: the reference ===== -/
def mgw (W : kTb → Bool) (nl : Nat) : Nat → kTb → Int32 → Bool → Bool
  | 0, pre, _, _ => W pre
  | r + 1, pre, u, on => if pre.length = 4 ∨ u = nI (2 ^ nl - 1) then W pre else if kan (fun l => decide (u >>> (nI l &&& 31) &&& 1 = 0) && kan (fun t => mgw W nl r (pre ++ [(l, t)]) (u ||| kbit l) (!on) == on) 4 0) nl 0 = true then on else !on
def mGv (s : Nat → Int32) (en : Nat → Nat) (cnt nl : Nat) (pre : kTb) (v : kZ) : Prop := mSt s en cnt nl v ∧ v.1 8008 = nI pre.length ∧ ∀ j (h : j < pre.length), (v.2.1 86 j, v.2.1 87 j) = kent2 (fun l => mstr s en cnt l) (mtl s) pre[j]
theorem mGv.h {s : Nat → Int32} {en : Nat → Nat} {cnt nl : Nat} {pre : kTb} {v v' : kZ} (h : mGv s en cnt nl pre v) (g : mH v v') : mGv s en cnt nl pre v' := ⟨fun l hl => by rw [g.2]; exact h.1 l hl, (g.1 _ (by decide)).trans h.2.1, by rw [g.2]; exact h.2.2⟩
theorem mGv.laid {s : Nat → Int32} {en : Nat → Nat} {cnt nl : Nat} {pre : kTb} {v : kZ} (h : mGv s en cnt nl pre v) : mLaid v (pre.map (kent2 (fun l => mstr s en cnt l) (mtl s))) := by
  refine ⟨by rw [List.length_map]; exact h.2.1, fun j hj => ?_⟩
  rw [List.length_map] at hj
  rw [List.getElem_map]
  exact h.2.2 j hj
theorem mGv.push {s : Nat → Int32} {en : Nat → Nat} {cnt nl : Nat} {pre : kTb} {v : kZ} {l t p : Nat} (hp : pre.length = p) (hl : l < nl) (h : mGv s en cnt nl pre v) : mGv s en cnt nl (pre ++ [(l, t)]) (setS (setA (setA v 86 (upd (v.2.1 86) p (v.2.1 85 l))) 87 (upd (v.2.1 87) p (kpush (mtl s l) (nI t)))) 8008 (nI (p + 1))) := by
  subst hp
  refine ⟨h.1, by rw [List.length_append]; rfl, fun j hj => ?_⟩
  show (upd (v.2.1 86) pre.length _ j, upd (v.2.1 87) pre.length _ j) = _
  by_cases q : j = pre.length
  · subst q
    have e9 : (pre ++ [(l, t)])[pre.length] = (l, t) := by simp
    rw [upd_s, upd_s, h.1 l hl, e9]
    rfl
  · rw [List.length_append] at hj
    simp only [List.length_cons, List.length_nil] at hj
    rw [upd_n _ _ q, upd_n _ _ q, List.getElem_append_left (by omega)]
    exact h.2.2 j (by omega)
theorem mGv.pop {s : Nat → Int32} {en : Nat → Nat} {cnt nl : Nat} {pre : kTb} {v : kZ} {x : Nat × Nat} (h : mGv s en cnt nl (pre ++ [x]) v) : mGv s en cnt nl pre (setS v 8008 (nI pre.length)) := by
  refine ⟨h.1, rfl, fun j hj => ?_⟩
  have := h.2.2 j (by rw [List.length_append]; omega)
  rw [List.getElem_append_left hj] at this
  exact this
theorem kbnn {b : Bool} (h : kb ((!b) = true) = kb (b = true)) : False := by cases b <;> exact absurd h (by decide)
theorem s_X10_isWonBy {X : kX} {d : Nat} {c w m v : kZ} {E : kH} {cnt : Nat} {en : Nat → Nat} {nl : Nat} (hn : m.2.1 81 0 = nI nl) (hnl : nl ≤ 9) {rr : Nat} (hrr : rr ≤ 3) (IH : ∀ (pre : kTb) (u : Int32) (on : Bool) (v' : kZ), pre.length ≤ 4 → mGv (m.2.1 81) en cnt nl pre v' → WP X (d + 2 * rr + 5) 0 0 Y_X10_isWon 0 [(0, .ref 80), (1, .int (nI rr)), (2, .int u), (3, .int (kb (on = true)))] [] (HP c w m v' E) (fun r h1 => r = some (.int (kb (mgw (fun q => decide (mW2 (m.2.1 81) en cnt q ≤ (m.2.1 81) 7)) nl rr pre u on = true))) ∧ ∃ v1 : kZ, h1 = HP c w m v1 E ∧ mGv (m.2.1 81) en cnt nl pre v1)) {pre : kTb} {u : Int32} {on : Bool} (hlen : pre.length < 4) {l t : Nat} (hl : l < nl) (hI : mGv (m.2.1 81) en cnt nl pre v) : WP X (d + 2 * rr + 6) 0 0 Y_X10_isWonBy 0 [(0, .ref (80)), (1, .int (nI (l))), (2, .int (nI (t))), (3, .int (nI (rr + 1))), (4, .int (u)), (5, .int (kb (on = true)))] [] (HP c w m v E) (fun r h1 => r = some (.int (kb (mgw (fun q => decide (mW2 (m.2.1 81) en cnt q ≤ (m.2.1 81) 7)) nl rr (pre ++ [(l, t)]) (u ||| kbit l) (!on) = true))) ∧ ∃ v1 : kZ, h1 = HP c w m v1 E ∧ mGv (m.2.1 81) en cnt nl pre v1) := by
  refine wp_aload_n 0 d_X10_isWonBy_0 rfl rfl ?_
  refine wp_aload_n 0 d_X10_isWonBy_1 rfl rfl ?_
  refine wp_getfield (v := .int (nI (pre.length))) d_X10_isWonBy_2 gf_X10_135 (hp_80 _ _ _ _ _) (congrArg (fun z => some (Value.int z)) hI.2.1) ?_
  refine wp_iload_n 1 d_X10_isWonBy_5 rfl rfl ?_
  refine wp_iload_n 2 d_X10_isWonBy_6 rfl rfl ?_
  refine wp_vrt_v (As := [.int (nI (pre.length)), .int (nI (l)), .int (nI (t))]) (h1 := HP c w m (setA (setA v 86 (upd (v.2.1 86) (pre.length) ((v.2.1 85) (l)))) 87 (upd (v.2.1 87) (pre.length) (kpush (mtl (m.2.1 81) (l)) (nI (t))))) E) d_X10_isWonBy_7 lk_X10_139 mv_X10_thinks in_X10_thinks se_X10_thinks (Nat.le_of_ble_eq_true rfl) (Nat.le_of_ble_eq_true rfl) (hp_80 _ _ _ _ _) rfl (s_X10_thinks (p := pre.length) (l := l) (by omega) (by omega) (nI (t))) ?_
  refine wp_aload_n 0 d_X10_isWonBy_10 rfl rfl ?_
  refine wp_dup d_X10_isWonBy_11 rfl ?_
  refine wp_getfield (v := .int (nI (pre.length))) d_X10_isWonBy_12 gf_X10_135 (hp_80 _ _ _ _ _) (congrArg (fun z => some (Value.int z)) hI.2.1) ?_
  refine wp_iconst (v0 := 1) d_X10_isWonBy_15 rfl ?_
  refine wp_iadd d_X10_isWonBy_16 ?_
  refine wp_v (v0 := nI ((pre.length) + (1))) (nI_add (pre.length) (1)) ?_
  refine wp_putfield (h' := HP c w m (setS (setA (setA v 86 (upd (v.2.1 86) (pre.length) ((v.2.1 85) (l)))) 87 (upd (v.2.1 87) (pre.length) (kpush (mtl (m.2.1 81) (l)) (nI (t))))) 8008 (nI ((pre.length) + (1)))) E) d_X10_isWonBy_17 gp_X10_135 (kfit_i _) (hp_80 _ _ _ _ _) (Nat.le_of_ble_eq_true rfl) (hps_80_8 _ _ _ _ _ _) ?_
  refine wp_aload_n 0 d_X10_isWonBy_20 rfl rfl ?_
  refine wp_iload_n 3 d_X10_isWonBy_21 rfl rfl ?_
  refine wp_iconst (v0 := 1) d_X10_isWonBy_22 rfl ?_
  refine wp_isub d_X10_isWonBy_23 ?_
  refine wp_v (v0 := nI ((rr + 1) - (1))) (pk_sub (a := rr + 1) (b := 1) (by omega)) ?_
  refine wp_iload 4 d_X10_isWonBy_24 rfl ?_
  refine wp_iconst (v0 := 1) d_X10_isWonBy_26 rfl ?_
  refine wp_iload_n 1 d_X10_isWonBy_27 rfl rfl ?_
  refine wp_ishl d_X10_isWonBy_28 ?_
  refine wp_ior d_X10_isWonBy_29 ?_
  refine wp_iload 5 d_X10_isWonBy_30 rfl ?_
  refine wp_ifb_ne 39 d_X10_isWonBy_32 rfl (fun zc32 => ?_) (fun zc32 => ?_)
  · refine wp_iconst (v0 := 0) d_X10_isWonBy_39 rfl ?_
    refine wp_v (v0 := kb ((!on) = true)) (by rw [show on = true from zc32]; rfl) ?_
    refine wp_virtual0 (As := [.int (nI ((rr + 1) - (1))), .int ((u) ||| ((1) <<< ((nI (l)) &&& 31))), .int (kb ((!on) = true))]) d_X10_isWonBy_40 lk_X10_228 mv_X10_isWon in_X10_isWon se_X10_isWon (Nat.le_of_ble_eq_true rfl) (Nat.le_of_ble_eq_true rfl) (hp_80 _ _ _ _ _) rfl (IH (pre ++ [(l, t)]) (u ||| kbit l) (!on) _ (by rw [List.length_append]; simp only [List.length_cons, List.length_nil]; omega) (hI.push (t := t) rfl hl)) (fun v40 h40 q40 => ?_)
    obtain ⟨rfl, v2, rfl, hI2⟩ := q40
    have hl2 : v2.1 8008 = nI (pre.length + 1) := by have := hI2.2.1; rw [List.length_append] at this; exact this
    show WP _ _ _ _ _ 43 _ [.int (kb (mgw (fun q => decide (mW2 (m.2.1 81) en cnt q ≤ (m.2.1 81) 7)) nl rr (pre ++ [(l, t)]) (u ||| kbit l) (!on) = true))] (HP c w m v2 E) _
    refine wp_istore [(6, .int (kb (mgw (fun q => decide (mW2 (m.2.1 81) en cnt q ≤ (m.2.1 81) 7)) nl rr (pre ++ [(l, t)]) (u ||| kbit l) (!on) = true))), (0, .ref (80)), (1, .int (nI (l))), (2, .int (nI (t))), (3, .int (nI (rr + 1))), (4, .int (u)), (5, .int (kb (on = true)))] d_X10_isWonBy_43 (Nat.le_of_ble_eq_true rfl) rfl ?_
    refine wp_aload_n 1 d_X10_isWonBy_45 rfl rfl ?_
    refine wp_dup d_X10_isWonBy_46 rfl ?_
    refine wp_getfield (v := .int (nI (pre.length + 1))) d_X10_isWonBy_47 gf_X10_135 (hp_80 _ _ _ _ _) (congrArg (fun z => some (Value.int z)) hl2) ?_
    refine wp_iconst (v0 := 1) d_X10_isWonBy_50 rfl ?_
    refine wp_isub d_X10_isWonBy_51 ?_
    refine wp_v (v0 := nI ((pre.length + 1) - (1))) (pk_sub (a := pre.length + 1) (b := 1) (by omega)) ?_
    refine wp_putfield (h' := HP c w m (setS v2 8008 (nI ((pre.length + 1) - (1)))) E) d_X10_isWonBy_52 gp_X10_135 (kfit_i _) (hp_80 _ _ _ _ _) (Nat.le_of_ble_eq_true rfl) (hps_80_8 _ _ _ _ _ _) ?_
    refine wp_iload 0 d_X10_isWonBy_55 rfl ?_
    refine wp_retb d_X10_isWonBy_57 rfl ?_
    exact ⟨rfl, _, rfl, hI2.pop⟩
  · refine wp_iconst (v0 := 1) d_X10_isWonBy_35 rfl ?_
    refine wp_goto 40 d_X10_isWonBy_36 rfl ?_
    refine wp_v (v0 := kb ((!on) = true)) (by rw [show on = false from Bool.not_eq_true _ |>.mp zc32]; rfl) ?_
    refine wp_virtual0 (As := [.int (nI ((rr + 1) - (1))), .int ((u) ||| ((1) <<< ((nI (l)) &&& 31))), .int (kb ((!on) = true))]) d_X10_isWonBy_40 lk_X10_228 mv_X10_isWon in_X10_isWon se_X10_isWon (Nat.le_of_ble_eq_true rfl) (Nat.le_of_ble_eq_true rfl) (hp_80 _ _ _ _ _) rfl (IH (pre ++ [(l, t)]) (u ||| kbit l) (!on) _ (by rw [List.length_append]; simp only [List.length_cons, List.length_nil]; omega) (hI.push (t := t) rfl hl)) (fun v40 h40 q40 => ?_)
    obtain ⟨rfl, v2, rfl, hI2⟩ := q40
    have hl2 : v2.1 8008 = nI (pre.length + 1) := by have := hI2.2.1; rw [List.length_append] at this; exact this
    show WP _ _ _ _ _ 43 _ [.int (kb (mgw (fun q => decide (mW2 (m.2.1 81) en cnt q ≤ (m.2.1 81) 7)) nl rr (pre ++ [(l, t)]) (u ||| kbit l) (!on) = true))] (HP c w m v2 E) _
    refine wp_istore [(6, .int (kb (mgw (fun q => decide (mW2 (m.2.1 81) en cnt q ≤ (m.2.1 81) 7)) nl rr (pre ++ [(l, t)]) (u ||| kbit l) (!on) = true))), (0, .ref (80)), (1, .int (nI (l))), (2, .int (nI (t))), (3, .int (nI (rr + 1))), (4, .int (u)), (5, .int (kb (on = true)))] d_X10_isWonBy_43 (Nat.le_of_ble_eq_true rfl) rfl ?_
    refine wp_aload_n 1 d_X10_isWonBy_45 rfl rfl ?_
    refine wp_dup d_X10_isWonBy_46 rfl ?_
    refine wp_getfield (v := .int (nI (pre.length + 1))) d_X10_isWonBy_47 gf_X10_135 (hp_80 _ _ _ _ _) (congrArg (fun z => some (Value.int z)) hl2) ?_
    refine wp_iconst (v0 := 1) d_X10_isWonBy_50 rfl ?_
    refine wp_isub d_X10_isWonBy_51 ?_
    refine wp_v (v0 := nI ((pre.length + 1) - (1))) (pk_sub (a := pre.length + 1) (b := 1) (by omega)) ?_
    refine wp_putfield (h' := HP c w m (setS v2 8008 (nI ((pre.length + 1) - (1)))) E) d_X10_isWonBy_52 gp_X10_135 (kfit_i _) (hp_80 _ _ _ _ _) (Nat.le_of_ble_eq_true rfl) (hps_80_8 _ _ _ _ _ _) ?_
    refine wp_iload 0 d_X10_isWonBy_55 rfl ?_
    refine wp_retb d_X10_isWonBy_57 rfl ?_
    exact ⟨rfl, _, rfl, hI2.pop⟩
theorem s_X10_isWon_t {X : kX} {d : Nat} {c w m v : kZ} {E : kH} {cnt : Nat} {en : Nat → Nat} {nl : Nat} (hn : m.2.1 81 0 = nI nl) (hnl : nl ≤ 9) {rr : Nat} (hrr : rr ≤ 3) (IH : ∀ (pre : kTb) (u : Int32) (on : Bool) (v' : kZ), pre.length ≤ 4 → mGv (m.2.1 81) en cnt nl pre v' → WP X (d + 2 * rr + 5) 0 0 Y_X10_isWon 0 [(0, .ref 80), (1, .int (nI rr)), (2, .int u), (3, .int (kb (on = true)))] [] (HP c w m v' E) (fun r h1 => r = some (.int (kb (mgw (fun q => decide (mW2 (m.2.1 81) en cnt q ≤ (m.2.1 81) 7)) nl rr pre u on = true))) ∧ ∃ v1 : kZ, h1 = HP c w m v1 E ∧ mGv (m.2.1 81) en cnt nl pre v1)) {pre : kTb} {u : Int32} {on : Bool} (hlen : pre.length < 4) {A : Bool} {l : Nat} (hl : l < nl) (hb0 : u >>> (nI l &&& 31) &&& 1 = 0) {B9 : Bool} (K : ∀ v2 : kZ, B9 = A → mGv (m.2.1 81) en cnt nl pre v2 → WP X (d + 2 * rr + 7) 0 0 Y_X10_isWon 117 [(6, .int (nI l)), (5, .int (kb ((!on) = true))), (0, .ref 80), (1, .int (nI (rr + 1))), (2, .int u), (3, .int (kb (on = true)))] [] (HP c w m v2 E) (fun r h1 => r = some (.int (kb ((if A = true then on else !on) = true))) ∧ ∃ v1 : kZ, h1 = HP c w m v1 E ∧ mGv (m.2.1 81) en cnt nl pre v1)) : ∀ (k : Nat) (t : Nat) (v' : kZ), (t + k = 4) → (mGv (m.2.1 81) en cnt nl pre v') → ((kan (fun t => mgw (fun q => decide (mW2 (m.2.1 81) en cnt q ≤ (m.2.1 81) 7)) nl rr (pre ++ [(l, t)]) (u ||| kbit l) (!on) == on) k t || B9) = A) → WP X (d + 2 * rr + 7) 0 0 Y_X10_isWon 77 [(7, .int (nI (t))), (6, .int (nI (l))), (5, .int (kb ((!on) = true))), (0, .ref (80)), (1, .int (nI (rr + 1))), (2, .int (u)), (3, .int (kb (on = true)))] [] (HP c w m v' E) (fun r h1 => r = some (.int (kb ((if A = true then on else !on) = true))) ∧ ∃ v1 : kZ, h1 = HP c w m v1 E ∧ mGv (m.2.1 81) en cnt nl pre v1) := by
  intro k
  induction k using Nat.strongRecOn with
  | ind k ih =>
    intro t v' htk hI hA
    refine wp_iload 0 d_X10_isWon_77 rfl ?_
    refine wp_iconst (v0 := 4) d_X10_isWon_79 rfl ?_
    refine wp_ncmp_ge (a := t) (b := 4) 117 d_X10_isWon_80 rfl (by omega) (by omega) (fun zc80 => ?_) (fun zc80 => ?_)
    · obtain rfl : k = 0 := by omega
      refine wp_sub [(6, .int (nI l)), (5, .int (kb ((!on) = true))), (0, .ref 80), (1, .int (nI (rr + 1))), (2, .int u), (3, .int (kb (on = true)))] [1, 2, 3, 4, 5, 6] rfl ?_
      exact K v' (by simpa [kan] using hA) hI
    · refine wp_iload 2 d_X10_isWon_83 rfl ?_
      refine wp_iload_n 6 d_X10_isWon_85 rfl rfl ?_
      refine wp_icmp_eq 117 d_X10_isWon_86 rfl (fun zc86 => ?_) (fun zc86 => ?_)
      · exact absurd zc86 (fun z => kbnn z)
      · refine wp_iload_n 5 d_X10_isWon_89 rfl rfl ?_
        refine wp_iload 1 d_X10_isWon_90 rfl ?_
        refine wp_ishr d_X10_isWon_92 ?_
        refine wp_iconst (v0 := 1) d_X10_isWon_93 rfl ?_
        refine wp_iand d_X10_isWon_94 ?_
        refine wp_if_ne 117 d_X10_isWon_95 rfl (fun zc95 => ?_) (fun zc95 => ?_)
        · exact absurd hb0 zc95
        · refine wp_aload_n 3 d_X10_isWon_98 rfl rfl ?_
          refine wp_iload 1 d_X10_isWon_99 rfl ?_
          refine wp_iload 0 d_X10_isWon_101 rfl ?_
          refine wp_iload_n 4 d_X10_isWon_103 rfl rfl ?_
          refine wp_iload_n 5 d_X10_isWon_104 rfl rfl ?_
          refine wp_iload_n 6 d_X10_isWon_105 rfl rfl ?_
          refine wp_virtual0 (As := [.int (nI (l)), .int (nI (t)), .int (nI (rr + 1)), .int (u), .int (kb (on = true))]) d_X10_isWon_106 lk_X10_224 mv_X10_isWonBy in_X10_isWonBy se_X10_isWonBy (Nat.le_of_ble_eq_true rfl) (Nat.le_of_ble_eq_true rfl) (hp_80 _ _ _ _ _) rfl (s_X10_isWonBy (v := v') hn hnl hrr IH (l := l) (t := t) (on := on) hlen (by omega) hI) (fun v106 h106 q106 => ?_)
          obtain ⟨rfl, v2, rfl, hI2⟩ := q106
          show WP _ _ _ _ _ 109 _ [.int (kb (mgw (fun q => decide (mW2 (m.2.1 81) en cnt q ≤ (m.2.1 81) 7)) nl rr (pre ++ [(l, t)]) (u ||| kbit l) (!on) = true))] (HP c w m v2 E) _
          refine wp_istore [(5, .int (kb (mgw (fun q => decide (mW2 (m.2.1 81) en cnt q ≤ (m.2.1 81) 7)) nl rr (pre ++ [(l, t)]) (u ||| kbit l) (!on) = true))), (7, .int (nI (t))), (6, .int (nI (l))), (0, .ref (80)), (1, .int (nI (rr + 1))), (2, .int (u)), (3, .int (kb (on = true)))] d_X10_isWon_109 (Nat.le_of_ble_eq_true rfl) rfl ?_
          refine wp_iinc (v0 := nI ((t) + 1)) [(7, .int (nI ((t) + 1))), (5, .int (kb (mgw (fun q => decide (mW2 (m.2.1 81) en cnt q ≤ (m.2.1 81) 7)) nl rr (pre ++ [(l, t)]) (u ||| kbit l) (!on) = true))), (6, .int (nI (l))), (0, .ref (80)), (1, .int (nI (rr + 1))), (2, .int (u)), (3, .int (kb (on = true)))] 1 d_X10_isWon_111 rfl (nI_add (t) 1) (Nat.le_of_ble_eq_true rfl) rfl ?_
          refine wp_goto 77 d_X10_isWon_114 rfl ?_
          obtain ⟨k1, rfl⟩ : ∃ k1, k = k1 + 1 := ⟨k - 1, by omega⟩
          have hA2 := hA
          simp only [kan] at hA2
          generalize hch : mgw (fun q => decide (mW2 (m.2.1 81) en cnt q ≤ (m.2.1 81) 7)) nl rr (pre ++ [(l, t)]) (u ||| kbit l) (!on) = ch at hA2 ⊢
          cases hq : (ch == on)
          · rw [hq, Bool.false_or] at hA2
            have hno : ch = !on := by cases ch <;> cases on <;> first | rfl | exact absurd hq (by decide)
            rw [hno]
            refine wp_sub [(7, .int (nI (t + 1))), (6, .int (nI l)), (5, .int (kb ((!on) = true))), (0, .ref 80), (1, .int (nI (rr + 1))), (2, .int u), (3, .int (kb (on = true)))] [0, 2, 1, 3, 4, 5, 6] rfl ?_
            exact ih k1 (by omega) (t + 1) v2 (by omega) hI2 hA2
          · rw [hq, Bool.true_or, Bool.true_or] at hA2
            obtain rfl : ch = on := by cases ch <;> cases on <;> first | rfl | exact absurd hq (by decide)
            refine wp_iload 0 d_X10_isWon_77 rfl ?_
            refine wp_iconst (v0 := 4) d_X10_isWon_79 rfl ?_
            refine wp_ncmp_ge (a := (t) + 1) (b := 4) 117 d_X10_isWon_80 rfl (by omega) (by omega) (fun zc80 => ?_) (fun zc80 => ?_)
            · refine wp_iinc (v0 := nI ((l) + 1)) [(6, .int (nI ((l) + 1))), (7, .int (nI ((t) + 1))), (5, .int (kb (ch = true))), (0, .ref (80)), (1, .int (nI (rr + 1))), (2, .int (u)), (3, .int (kb (ch = true)))] 2 d_X10_isWon_117 rfl (nI_add (l) 1) (Nat.le_of_ble_eq_true rfl) rfl ?_
              refine wp_goto 57 d_X10_isWon_120 rfl ?_
              refine wp_iload 0 d_X10_isWon_57 rfl ?_
              refine wp_aload_n 3 d_X10_isWon_59 rfl rfl ?_
              refine wp_getfield (v := .ref (81)) d_X10_isWon_60 gf_X10_7 (hp_80 _ _ _ _ _) rfl ?_
              refine wp_iconst (v0 := 0) d_X10_isWon_63 rfl ?_
              refine wp_iaload (v := nI (nl)) d_X10_isWon_64 (hp_81 _ _ _ _ _) (kin rfl) hn ?_
              refine wp_ncmp_ge (a := (l) + 1) (b := nl) 123 d_X10_isWon_65 rfl (by omega) (by omega) (fun zc65 => ?_) (fun zc65 => ?_)
              · refine wp_iload 2 d_X10_isWon_123 rfl ?_
                refine wp_retb d_X10_isWon_125 rfl ?_
                refine ⟨congrArg (fun z => some (Value.int z)) ?_, v2, rfl, hI2⟩
                rw [← hA2, if_pos rfl]
              · refine wp_iload 2 d_X10_isWon_68 rfl ?_
                refine wp_iload_n 6 d_X10_isWon_70 rfl rfl ?_
                refine wp_icmp_eq 123 d_X10_isWon_71 rfl (fun zc71 => ?_) (fun zc71 => ?_)
                · refine wp_iload 2 d_X10_isWon_123 rfl ?_
                  refine wp_retb d_X10_isWon_125 rfl ?_
                  refine ⟨congrArg (fun z => some (Value.int z)) ?_, v2, rfl, hI2⟩
                  rw [← hA2, if_pos rfl]
                · exact absurd rfl zc71
            · refine wp_iload 1 d_X10_isWon_83 rfl ?_
              refine wp_iload_n 6 d_X10_isWon_85 rfl rfl ?_
              refine wp_icmp_eq 117 d_X10_isWon_86 rfl (fun zc86 => ?_) (fun zc86 => ?_)
              · refine wp_iinc (v0 := nI ((l) + 1)) [(6, .int (nI ((l) + 1))), (7, .int (nI ((t) + 1))), (5, .int (kb (ch = true))), (0, .ref (80)), (1, .int (nI (rr + 1))), (2, .int (u)), (3, .int (kb (ch = true)))] 2 d_X10_isWon_117 rfl (nI_add (l) 1) (Nat.le_of_ble_eq_true rfl) rfl ?_
                refine wp_goto 57 d_X10_isWon_120 rfl ?_
                refine wp_iload 0 d_X10_isWon_57 rfl ?_
                refine wp_aload_n 3 d_X10_isWon_59 rfl rfl ?_
                refine wp_getfield (v := .ref (81)) d_X10_isWon_60 gf_X10_7 (hp_80 _ _ _ _ _) rfl ?_
                refine wp_iconst (v0 := 0) d_X10_isWon_63 rfl ?_
                refine wp_iaload (v := nI (nl)) d_X10_isWon_64 (hp_81 _ _ _ _ _) (kin rfl) hn ?_
                refine wp_ncmp_ge (a := (l) + 1) (b := nl) 123 d_X10_isWon_65 rfl (by omega) (by omega) (fun zc65 => ?_) (fun zc65 => ?_)
                · refine wp_iload 2 d_X10_isWon_123 rfl ?_
                  refine wp_retb d_X10_isWon_125 rfl ?_
                  refine ⟨congrArg (fun z => some (Value.int z)) ?_, v2, rfl, hI2⟩
                  rw [← hA2, if_pos rfl]
                · refine wp_iload 2 d_X10_isWon_68 rfl ?_
                  refine wp_iload_n 6 d_X10_isWon_70 rfl rfl ?_
                  refine wp_icmp_eq 123 d_X10_isWon_71 rfl (fun zc71 => ?_) (fun zc71 => ?_)
                  · refine wp_iload 2 d_X10_isWon_123 rfl ?_
                    refine wp_retb d_X10_isWon_125 rfl ?_
                    refine ⟨congrArg (fun z => some (Value.int z)) ?_, v2, rfl, hI2⟩
                    rw [← hA2, if_pos rfl]
                  · exact absurd rfl zc71
              · exact absurd rfl zc86
theorem s_X10_isWon_l {X : kX} {d : Nat} {c w m v : kZ} {E : kH} {cnt : Nat} {en : Nat → Nat} {nl : Nat} (hn : m.2.1 81 0 = nI nl) (hnl : nl ≤ 9) {rr : Nat} (hrr : rr ≤ 3) (IH : ∀ (pre : kTb) (u : Int32) (on : Bool) (v' : kZ), pre.length ≤ 4 → mGv (m.2.1 81) en cnt nl pre v' → WP X (d + 2 * rr + 5) 0 0 Y_X10_isWon 0 [(0, .ref 80), (1, .int (nI rr)), (2, .int u), (3, .int (kb (on = true)))] [] (HP c w m v' E) (fun r h1 => r = some (.int (kb (mgw (fun q => decide (mW2 (m.2.1 81) en cnt q ≤ (m.2.1 81) 7)) nl rr pre u on = true))) ∧ ∃ v1 : kZ, h1 = HP c w m v1 E ∧ mGv (m.2.1 81) en cnt nl pre v1)) {pre : kTb} {u : Int32} {on : Bool} (hlen : pre.length < 4) {A : Bool} : ∀ (k : Nat) (l : Nat) (v' : kZ), (l + k = nl) → (mGv (m.2.1 81) en cnt nl pre v') → (kan (fun l => decide (u >>> (nI l &&& 31) &&& 1 = 0) && kan (fun t => mgw (fun q => decide (mW2 (m.2.1 81) en cnt q ≤ (m.2.1 81) 7)) nl rr (pre ++ [(l, t)]) (u ||| kbit l) (!on) == on) 4 0) k l = A) → WP X (d + 2 * rr + 7) 0 0 Y_X10_isWon 57 [(6, .int (nI (l))), (5, .int (kb ((!on) = true))), (0, .ref (80)), (1, .int (nI (rr + 1))), (2, .int (u)), (3, .int (kb (on = true)))] [] (HP c w m v' E) (fun r h1 => r = some (.int (kb ((if A = true then on else !on) = true))) ∧ ∃ v1 : kZ, h1 = HP c w m v1 E ∧ mGv (m.2.1 81) en cnt nl pre v1) := by
  intro k
  induction k using Nat.strongRecOn with
  | ind k ih =>
    intro l v' hlk hI hA
    refine wp_iload 0 d_X10_isWon_57 rfl ?_
    refine wp_aload_n 2 d_X10_isWon_59 rfl rfl ?_
    refine wp_getfield (v := .ref (81)) d_X10_isWon_60 gf_X10_7 (hp_80 _ _ _ _ _) rfl ?_
    refine wp_iconst (v0 := 0) d_X10_isWon_63 rfl ?_
    refine wp_iaload (v := nI (nl)) d_X10_isWon_64 (hp_81 _ _ _ _ _) (kin rfl) hn ?_
    refine wp_ncmp_ge (a := l) (b := nl) 123 d_X10_isWon_65 rfl (by omega) (by omega) (fun zc65 => ?_) (fun zc65 => ?_)
    · refine wp_iload 1 d_X10_isWon_123 rfl ?_
      refine wp_retb d_X10_isWon_125 rfl ?_
      obtain rfl : k = 0 := by omega
      obtain rfl : A = false := hA.symm
      exact ⟨congrArg (fun z => some (Value.int z)) (by rw [if_neg (by decide)]), v', rfl, hI⟩
    · refine wp_iload 1 d_X10_isWon_68 rfl ?_
      refine wp_iload_n 5 d_X10_isWon_70 rfl rfl ?_
      refine wp_icmp_eq 123 d_X10_isWon_71 rfl (fun zc71 => ?_) (fun zc71 => ?_)
      · refine wp_iload 1 d_X10_isWon_123 rfl ?_
        refine wp_retb d_X10_isWon_125 rfl ?_
        exact absurd zc71 (fun z => kbnn z)
      · refine wp_iconst (v0 := 0) d_X10_isWon_74 rfl ?_
        refine wp_istore [(7, .int (0)), (6, .int (nI (l))), (5, .int (kb ((!on) = true))), (0, .ref (80)), (1, .int (nI (rr + 1))), (2, .int (u)), (3, .int (kb (on = true)))] d_X10_isWon_75 (Nat.le_of_ble_eq_true rfl) rfl ?_
        obtain ⟨k1, rfl⟩ : ∃ k1, k = k1 + 1 := ⟨k - 1, by omega⟩
        have hA2 := hA
        simp only [kan] at hA2
        rcases kand1 (u >>> (nI l &&& 31)) with hb0 | hb1
        · rw [decide_eq_true hb0, Bool.true_and] at hA2
          refine wp_sub [(7, .int (0)), (6, .int (nI (l))), (5, .int (kb ((!on) = true))), (0, .ref (80)), (1, .int (nI (rr + 1))), (2, .int (u)), (3, .int (kb (on = true)))] [0, 1, 2, 3, 4, 5, 6] rfl ?_
          refine s_X10_isWon_t (v := v) hn hnl hrr IH hlen (l := l) (by omega) hb0 (fun v2 hB hI2 => ?_) 4 0 v' (by omega) hI hA2
          refine wp_iinc (v0 := nI ((l) + 1)) [(6, .int (nI ((l) + 1))), (5, .int (kb ((!on) = true))), (0, .ref (80)), (1, .int (nI (rr + 1))), (2, .int (u)), (3, .int (kb (on = true)))] 0 d_X10_isWon_117 rfl (nI_add (l) 1) (Nat.le_of_ble_eq_true rfl) rfl ?_
          refine wp_goto 57 d_X10_isWon_120 rfl ?_
          refine wp_sub [(6, .int (nI ((l) + 1))), (5, .int (kb ((!on) = true))), (0, .ref (80)), (1, .int (nI (rr + 1))), (2, .int (u)), (3, .int (kb (on = true)))] [0, 1, 2, 3, 4, 5] rfl ?_
          exact ih k1 (by omega) (l + 1) v2 (by omega) hI2 hB
        · rw [decide_eq_false (by rw [hb1]; decide), Bool.false_and, Bool.false_or] at hA2
          refine wp_iload 0 d_X10_isWon_77 rfl ?_
          refine wp_iconst (v0 := 4) d_X10_isWon_79 rfl ?_
          refine wp_icmp_ge 117 d_X10_isWon_80 rfl (fun z => absurd z (by decide)) (fun _ => ?_)
          refine wp_iload 2 d_X10_isWon_83 rfl ?_
          refine wp_iload_n 6 d_X10_isWon_85 rfl rfl ?_
          refine wp_icmp_eq 117 d_X10_isWon_86 rfl (fun zc86 => ?_) (fun zc86 => ?_)
          · exact absurd zc86 (fun z => kbnn z)
          · refine wp_iload_n 5 d_X10_isWon_89 rfl rfl ?_
            refine wp_iload 1 d_X10_isWon_90 rfl ?_
            refine wp_ishr d_X10_isWon_92 ?_
            refine wp_iconst (v0 := 1) d_X10_isWon_93 rfl ?_
            refine wp_iand d_X10_isWon_94 ?_
            refine wp_if_ne 117 d_X10_isWon_95 rfl (fun zc95 => ?_) (fun zc95 => ?_)
            · refine wp_iinc (v0 := nI ((l) + 1)) [(6, .int (nI ((l) + 1))), (7, .int (0)), (5, .int (kb ((!on) = true))), (0, .ref (80)), (1, .int (nI (rr + 1))), (2, .int (u)), (3, .int (kb (on = true)))] 1 d_X10_isWon_117 rfl (nI_add (l) 1) (Nat.le_of_ble_eq_true rfl) rfl ?_
              refine wp_goto 57 d_X10_isWon_120 rfl ?_
              refine wp_sub [(6, .int (nI ((l) + 1))), (5, .int (kb ((!on) = true))), (0, .ref (80)), (1, .int (nI (rr + 1))), (2, .int (u)), (3, .int (kb (on = true)))] [0, 2, 3, 4, 5, 6] rfl ?_
              exact ih k1 (by omega) (l + 1) v' (by omega) hI hA2
            · rw [hb1] at zc95
              exact absurd zc95 (by decide)
theorem s_X10_isWon {X : kX} {d : Nat} {c w m v : kZ} {E : kH} {cnt : Nat} {en : Nat → Nat} {nl : Nat} (hn : m.2.1 81 0 = nI nl) (hnl : nl ≤ 9) : ∀ (rr : Nat), rr ≤ 3 → ∀ (pre : kTb) (u : Int32) (on : Bool) (v' : kZ), pre.length ≤ 4 → mGv (m.2.1 81) en cnt nl pre v' → WP X (d + 2 * rr + 5) 0 0 Y_X10_isWon 0 [(0, .ref 80), (1, .int (nI rr)), (2, .int u), (3, .int (kb (on = true)))] [] (HP c w m v' E) (fun r h1 => r = some (.int (kb (mgw (fun q => decide (mW2 (m.2.1 81) en cnt q ≤ (m.2.1 81) 7)) nl rr pre u on = true))) ∧ ∃ v1 : kZ, h1 = HP c w m v1 E ∧ mGv (m.2.1 81) en cnt nl pre v1) := by
  intro rr
  induction rr with
  | zero =>
    intro hr3 pre u on v' hlen hI
    refine wp_iload_n 1 d_X10_isWon_0 rfl rfl ?_
    refine wp_if_eq 26 d_X10_isWon_1 rfl (fun _ => ?_) (fun z => absurd z (by decide))
    refine wp_iconst (v0 := 1) d_X10_isWon_26 rfl ?_
    refine wp_goto 31 d_X10_isWon_27 rfl ?_
    refine wp_istore [(4, .int (1)), (0, .ref (80)), (1, .int (0)), (2, .int (u)), (3, .int (kb (on = true)))] d_X10_isWon_31 (Nat.le_of_ble_eq_true rfl) rfl ?_
    refine wp_iload 0 d_X10_isWon_33 rfl ?_
    refine wp_if_eq 43 d_X10_isWon_35 rfl (fun z => absurd z (by decide)) (fun _ => ?_)
    refine wp_aload_n 1 d_X10_isWon_38 rfl rfl ?_
    refine wp_virtual0 (As := []) d_X10_isWon_39 lk_X10_169 mv_X10_isMended in_X10_isMended se_X10_isMended (Nat.le_of_ble_eq_true rfl) (Nat.le_of_ble_eq_true rfl) (hp_80 _ _ _ _ _) rfl (s_X10_isMended (v := v') (l := pre.map (kent2 (fun l => mstr (m.2.1 81) en cnt l) (mtl (m.2.1 81)))) (by rw [List.length_map]; omega) hI.laid) (fun v39 h39 q39 => ?_)
    obtain ⟨rfl, u1, rfl, hu1⟩ := q39
    show WP _ _ _ _ _ 42 _ [.int (kb (mW2 (m.2.1 81) en cnt pre ≤ (m.2.1 81) 7))] (HP c w m u1 E) _
    refine wp_retb d_X10_isWon_42 rfl ?_
    refine ⟨congrArg (fun z => some (Value.int z)) (kb_iff ?_), u1, rfl, hI.h hu1⟩
    exact (decide_eq_true_iff).symm
  | succ rr IH =>
    intro hr3 pre u on v' hlen hI
    refine wp_iload_n 1 d_X10_isWon_0 rfl rfl ?_
    refine wp_nif_eq (a := rr + 1) 26 d_X10_isWon_1 rfl (by omega) (fun zc1 => ?_) (fun zc1 => ?_)
    · omega
    · refine wp_aload_n 0 d_X10_isWon_4 rfl rfl ?_
      refine wp_getfield (v := .int (nI (pre.length))) d_X10_isWon_5 gf_X10_135 (hp_80 _ _ _ _ _) (congrArg (fun z => some (Value.int z)) hI.2.1) ?_
      refine wp_iconst (v0 := 4) d_X10_isWon_8 rfl ?_
      refine wp_ncmp_eq (a := pre.length) (b := 4) 26 d_X10_isWon_9 rfl (by omega) (by omega) (fun zc9 => ?_) (fun zc9 => ?_)
      · refine wp_iconst (v0 := 1) d_X10_isWon_26 rfl ?_
        refine wp_goto 31 d_X10_isWon_27 rfl ?_
        refine wp_istore [(4, .int (1)), (0, .ref (80)), (1, .int (nI (rr + 1))), (2, .int (u)), (3, .int (kb (on = true)))] d_X10_isWon_31 (Nat.le_of_ble_eq_true rfl) rfl ?_
        refine wp_iload 0 d_X10_isWon_33 rfl ?_
        refine wp_if_eq 43 d_X10_isWon_35 rfl (fun z => absurd z (by decide)) (fun _ => ?_)
        refine wp_aload_n 1 d_X10_isWon_38 rfl rfl ?_
        refine wp_virtual0 (As := []) d_X10_isWon_39 lk_X10_169 mv_X10_isMended in_X10_isMended se_X10_isMended (Nat.le_of_ble_eq_true rfl) (Nat.le_of_ble_eq_true rfl) (hp_80 _ _ _ _ _) rfl (s_X10_isMended (v := v') (l := pre.map (kent2 (fun l => mstr (m.2.1 81) en cnt l) (mtl (m.2.1 81)))) (by rw [List.length_map]; omega) hI.laid) (fun v39 h39 q39 => ?_)
        obtain ⟨rfl, u1, rfl, hu1⟩ := q39
        show WP _ _ _ _ _ 42 _ [.int (kb (mW2 (m.2.1 81) en cnt pre ≤ (m.2.1 81) 7))] (HP c w m u1 E) _
        refine wp_retb d_X10_isWon_42 rfl ?_
        refine ⟨congrArg (fun z => some (Value.int z)) (kb_iff ?_), u1, rfl, hI.h hu1⟩
        simp only [mgw]
        rw [if_pos (Or.inl zc9)]
        exact (decide_eq_true_iff).symm
      · refine wp_iload_n 2 d_X10_isWon_12 rfl rfl ?_
        refine wp_iconst (v0 := 1) d_X10_isWon_13 rfl ?_
        refine wp_aload_n 0 d_X10_isWon_14 rfl rfl ?_
        refine wp_getfield (v := .ref (81)) d_X10_isWon_15 gf_X10_7 (hp_80 _ _ _ _ _) rfl ?_
        refine wp_iconst (v0 := 0) d_X10_isWon_18 rfl ?_
        refine wp_iaload (v := nI (nl)) d_X10_isWon_19 (hp_81 _ _ _ _ _) (kin rfl) hn ?_
        refine wp_ishl d_X10_isWon_20 ?_
        have h2n := k2n_b nl hnl
        refine wp_v (v0 := nI (2 ^ nl)) (k2n_i nl hnl) ?_
        refine wp_iconst (v0 := 1) d_X10_isWon_21 rfl ?_
        refine wp_isub d_X10_isWon_22 ?_
        refine wp_v (v0 := nI ((2 ^ nl) - (1))) (pk_sub (a := 2 ^ nl) (b := 1) (by omega)) ?_
        refine wp_icmp_ne 30 d_X10_isWon_23 rfl (fun zc23 => ?_) (fun zc23 => ?_)
        · refine wp_iconst (v0 := 0) d_X10_isWon_30 rfl ?_
          refine wp_istore [(4, .int (0)), (0, .ref (80)), (1, .int (nI (rr + 1))), (2, .int (u)), (3, .int (kb (on = true)))] d_X10_isWon_31 (Nat.le_of_ble_eq_true rfl) rfl ?_
          refine wp_iload 0 d_X10_isWon_33 rfl ?_
          refine wp_if_eq 43 d_X10_isWon_35 rfl (fun _ => ?_) (fun z => absurd z (by decide))
          refine wp_iload_n 4 d_X10_isWon_43 rfl rfl ?_
          refine wp_ifb_ne 51 d_X10_isWon_44 rfl (fun zc44 => ?_) (fun zc44 => ?_)
          · refine wp_iconst (v0 := 0) d_X10_isWon_51 rfl ?_
            refine wp_istore [(5, .int (0)), (4, .int (0)), (0, .ref (80)), (1, .int (nI (rr + 1))), (2, .int (u)), (3, .int (kb (on = true)))] d_X10_isWon_52 (Nat.le_of_ble_eq_true rfl) rfl ?_
            refine wp_iconst (v0 := 0) d_X10_isWon_54 rfl ?_
            refine wp_istore [(6, .int (0)), (5, .int (0)), (4, .int (0)), (0, .ref (80)), (1, .int (nI (rr + 1))), (2, .int (u)), (3, .int (kb (on = true)))] d_X10_isWon_55 (Nat.le_of_ble_eq_true rfl) rfl ?_
            have hv5 : kb ((!on) = true) = 0 := by rw [show on = true from zc44]; rfl
            refine wp_sub [(6, .int (nI 0)), (5, .int (kb ((!on) = true))), (0, .ref 80), (1, .int (nI (rr + 1))), (2, .int u), (3, .int (kb (on = true)))] [0, 1, 3, 4, 5, 6] (by rw [hv5]; rfl) ?_
            refine wp_mono ?_ (s_X10_isWon_l (v := v) hn hnl (by omega) (IH (by omega)) (by omega) nl 0 v' (by omega) hI rfl)
            rintro r h1 ⟨rfl, h2⟩
            refine ⟨?_, h2⟩
            rw [show mgw _ nl (rr + 1) pre u on = _ from if_neg (fun q => q.elim (fun z => zc9 z) (fun z => zc23 z))]
          · refine wp_iconst (v0 := 1) d_X10_isWon_47 rfl ?_
            refine wp_goto 52 d_X10_isWon_48 rfl ?_
            refine wp_istore [(5, .int (1)), (4, .int (0)), (0, .ref (80)), (1, .int (nI (rr + 1))), (2, .int (u)), (3, .int (kb (on = true)))] d_X10_isWon_52 (Nat.le_of_ble_eq_true rfl) rfl ?_
            refine wp_iconst (v0 := 0) d_X10_isWon_54 rfl ?_
            refine wp_istore [(6, .int (0)), (5, .int (1)), (4, .int (0)), (0, .ref (80)), (1, .int (nI (rr + 1))), (2, .int (u)), (3, .int (kb (on = true)))] d_X10_isWon_55 (Nat.le_of_ble_eq_true rfl) rfl ?_
            have hv5 : kb ((!on) = true) = 1 := by rw [show on = false from Bool.not_eq_true _ |>.mp zc44]; rfl
            refine wp_sub [(6, .int (nI 0)), (5, .int (kb ((!on) = true))), (0, .ref 80), (1, .int (nI (rr + 1))), (2, .int u), (3, .int (kb (on = true)))] [0, 1, 3, 4, 5, 6] (by rw [hv5]; rfl) ?_
            refine wp_mono ?_ (s_X10_isWon_l (v := v) hn hnl (by omega) (IH (by omega)) (by omega) nl 0 v' (by omega) hI rfl)
            rintro r h1 ⟨rfl, h2⟩
            refine ⟨?_, h2⟩
            rw [show mgw _ nl (rr + 1) pre u on = _ from if_neg (fun q => q.elim (fun z => zc9 z) (fun z => zc23 z))]
        · refine wp_iconst (v0 := 1) d_X10_isWon_26 rfl ?_
          refine wp_goto 31 d_X10_isWon_27 rfl ?_
          refine wp_istore [(4, .int (1)), (0, .ref (80)), (1, .int (nI (rr + 1))), (2, .int (u)), (3, .int (kb (on = true)))] d_X10_isWon_31 (Nat.le_of_ble_eq_true rfl) rfl ?_
          refine wp_iload 0 d_X10_isWon_33 rfl ?_
          refine wp_if_eq 43 d_X10_isWon_35 rfl (fun z => absurd z (by decide)) (fun _ => ?_)
          refine wp_aload_n 1 d_X10_isWon_38 rfl rfl ?_
          refine wp_virtual0 (As := []) d_X10_isWon_39 lk_X10_169 mv_X10_isMended in_X10_isMended se_X10_isMended (Nat.le_of_ble_eq_true rfl) (Nat.le_of_ble_eq_true rfl) (hp_80 _ _ _ _ _) rfl (s_X10_isMended (v := v') (l := pre.map (kent2 (fun l => mstr (m.2.1 81) en cnt l) (mtl (m.2.1 81)))) (by rw [List.length_map]; omega) hI.laid) (fun v39 h39 q39 => ?_)
          obtain ⟨rfl, u1, rfl, hu1⟩ := q39
          show WP _ _ _ _ _ 42 _ [.int (kb (mW2 (m.2.1 81) en cnt pre ≤ (m.2.1 81) 7))] (HP c w m u1 E) _
          refine wp_retb d_X10_isWon_42 rfl ?_
          refine ⟨congrArg (fun z => some (Value.int z)) (kb_iff ?_), u1, rfl, hI.h hu1⟩
          simp only [mgw]
          rw [if_pos (Or.inr zc23)]
          exact (decide_eq_true_iff).symm
theorem s_X10_usedNow_l {X : kX} {d : Nat} {c w m v : kZ} {E : kH} {p : Nat} (hp : m.2.1 81 2 = nI p) (hp4 : p ≤ 4) (hln : ∀ j, j < p → vp_in (mlp (m.2.1 81) j) 9) : ∀ (k : Nat) (i : Nat), (i + k = p) → WP X d 0 0 Y_X10_usedNow 4 [(2, .int (nI (i))), (1, .int (kuo (mlp (m.2.1 81)) i)), (0, .ref (80))] [] (HP c w m v E) (kR (some (.int (kuo (mlp (m.2.1 81)) p))) (HP c w m v E)) := by
  intro k
  induction k using Nat.strongRecOn with
  | ind k ih =>
    intro i hi
    refine wp_iload_n 0 d_X10_usedNow_4 rfl rfl ?_
    refine wp_aload_n 2 d_X10_usedNow_5 rfl rfl ?_
    refine wp_getfield (v := .ref (81)) d_X10_usedNow_6 gf_X10_7 (hp_80 _ _ _ _ _) rfl ?_
    refine wp_iconst (v0 := 2) d_X10_usedNow_9 rfl ?_
    refine wp_iaload (v := nI (p)) d_X10_usedNow_10 (hp_81 _ _ _ _ _) (kin rfl) hp ?_
    refine wp_ncmp_ge (a := i) (b := p) 36 d_X10_usedNow_11 rfl (by omega) (by omega) (fun zc11 => ?_) (fun zc11 => ?_)
    · refine wp_iload_n 1 d_X10_usedNow_36 rfl rfl ?_
      refine wp_reti d_X10_usedNow_37 rfl ?_
      obtain rfl : k = 0 := by omega
      obtain rfl : i = p := by omega
      exact kR_i rfl rfl
    · refine wp_iload_n 1 d_X10_usedNow_14 rfl rfl ?_
      obtain ⟨l9, hl9, el9⟩ := vp_in_of (hln i (by omega)) (by omega)
      have hl0 : (m.2.1 81) (45 + 2 * i) = nI ((mlp (m.2.1 81) i).toNatClampNeg) := by rw [el9, nI_clamp (by omega)]; exact el9
      refine wp_iconst (v0 := 1) d_X10_usedNow_15 rfl ?_
      refine wp_aload_n 2 d_X10_usedNow_16 rfl rfl ?_
      refine wp_getfield (v := .ref (81)) d_X10_usedNow_17 gf_X10_7 (hp_80 _ _ _ _ _) rfl ?_
      refine wp_bipush (v0 := 45) d_X10_usedNow_20 (by decide) ?_
      refine wp_iconst (v0 := 2) d_X10_usedNow_22 rfl ?_
      refine wp_iload_n 0 d_X10_usedNow_23 rfl rfl ?_
      refine wp_imul d_X10_usedNow_24 ?_
      refine wp_v (v0 := nI ((2) * (i))) (pk_mul (2) (i)) ?_
      refine wp_iadd d_X10_usedNow_25 ?_
      refine wp_v (v0 := nI ((45) + ((2) * (i)))) (nI_add (45) ((2) * (i))) ?_
      refine wp_iaload (v := nI ((mlp (m.2.1 81) i).toNatClampNeg)) d_X10_usedNow_26 (hp_81 _ _ _ _ _) (vp_in_nI (by omega) (by omega)) ((congrArg ((m.2.1 81)) (nI_clamp (by omega))).trans hl0) ?_
      refine wp_ishl d_X10_usedNow_27 ?_
      refine wp_ior d_X10_usedNow_28 ?_
      refine wp_istore_n [(1, .int ((kuo (mlp (m.2.1 81)) i) ||| ((1) <<< ((nI ((mlp (m.2.1 81) i).toNatClampNeg)) &&& 31)))), (2, .int (nI (i))), (0, .ref (80))] d_X10_usedNow_29 rfl (Nat.le_of_ble_eq_true rfl) rfl ?_
      refine wp_iinc (v0 := nI ((i) + 1)) [(2, .int (nI ((i) + 1))), (1, .int ((kuo (mlp (m.2.1 81)) i) ||| ((1) <<< ((nI ((mlp (m.2.1 81) i).toNatClampNeg)) &&& 31)))), (0, .ref (80))] 1 d_X10_usedNow_30 rfl (nI_add (i) 1) (Nat.le_of_ble_eq_true rfl) rfl ?_
      refine wp_goto 4 d_X10_usedNow_33 rfl ?_
      obtain ⟨k1, rfl⟩ : ∃ k1, k = k1 + 1 := ⟨k - 1, by omega⟩
      refine wp_sub [(2, .int (nI ((i) + 1))), (1, .int ((kuo (mlp (m.2.1 81)) i) ||| ((1) <<< ((nI ((mlp (m.2.1 81) i).toNatClampNeg)) &&& 31)))), (0, .ref (80))] [0, 1, 2] rfl ?_
      exact ih k1 (by omega) (i + 1) (by omega)
theorem s_X10_usedNow {X : kX} {d : Nat} {c w m v : kZ} {E : kH} {p : Nat} (hp : m.2.1 81 2 = nI p) (hp4 : p ≤ 4) (hln : ∀ j, j < p → vp_in (mlp (m.2.1 81) j) 9) : WP X d 0 0 Y_X10_usedNow 0 [(0, .ref (80))] [] (HP c w m v E) (kR (some (.int (kuo (mlp (m.2.1 81)) p))) (HP c w m v E)) := by
  refine wp_iconst (v0 := 0) d_X10_usedNow_0 rfl ?_
  refine wp_istore_n [(1, .int (0)), (0, .ref (80))] d_X10_usedNow_1 rfl (Nat.le_of_ble_eq_true rfl) rfl ?_
  refine wp_iconst (v0 := 0) d_X10_usedNow_2 rfl ?_
  refine wp_istore_n [(2, .int (0)), (1, .int (0)), (0, .ref (80))] d_X10_usedNow_3 rfl (Nat.le_of_ble_eq_true rfl) rfl ?_
  refine wp_sub [(2, .int (0)), (1, .int (0)), (0, .ref (80))] [0, 1, 2] rfl ?_
  exact s_X10_usedNow_l hp hp4 hln p 0 (by omega)
theorem s_X10_game {X : kX} {d : Nat} {c w m v : kZ} {E : kH} {cnt : Nat} (hs1 : (m.2.1 81) 1 = nI cnt) (hc8 : cnt ≤ 8) {en : Nat → Nat} (hm : mWF (m.2.1 81) cnt en) {n : Nat} (hn : m.2.1 81 0 = nI n) (hn9 : n ≤ 9) {p : Nat} (hp : m.2.1 81 2 = nI p) (hp4 : p ≤ 4) (hln : ∀ j, j < p → vp_in (mlp (m.2.1 81) j) n) (htn : ∀ j, j < p → ∃ t : Nat, t < 4 ∧ mtp (m.2.1 81) j = nI t) (x : Int32) : WP X (d + 16) 0 0 Y_X10_game 0 [(0, .ref (80)), (1, .int (x))] [] (HP c w m v E) (fun r h1 => (¬ (1 ≤ x.toInt ∧ x.toInt ≤ 3) ∧ r = some (.int (-1)) ∧ h1 = HP c w m v E) ∨ ∃ N : Nat, 1 ≤ N ∧ N ≤ 3 ∧ x = nI N ∧ r = some (.int (kb (mgw (fun q => decide (mW2 (m.2.1 81) en cnt q ≤ (m.2.1 81) 7)) n N (kp0 (mlp (m.2.1 81)) (mtp (m.2.1 81)) p) (kuo (mlp (m.2.1 81)) p) true = true))) ∧ ∃ v1 : kZ, h1 = HP c w m v1 E) := by
  refine wp_iload_n 1 d_X10_game_0 rfl rfl ?_
  refine wp_stc_i (As := [.int (x)]) (x0 := kb (1 ≤ (x : Int32).toInt ∧ (x : Int32).toInt ≤ 3)) (h1 := HP c w m v E) d_X10_game_1 lk_X10_194 mv_X10_isMany st_X10_isMany (Nat.le_of_ble_eq_true rfl) (Nat.le_of_ble_eq_true rfl) (s_X10_isMany _ (x : Int32)) ?_
  refine wp_ifb_ne 9 d_X10_game_4 rfl (fun zc4 => ?_) (fun zc4 => ?_)
  · have hN1b := zc4.1
    obtain ⟨N, hN, rfl⟩ := k_natle (n := 3) (x := x) ⟨by omega, zc4.2⟩
    have hN1 : 1 ≤ N := by rw [nI_toInt (by omega)] at hN1b; omega
    refine wp_aload_n 0 d_X10_game_9 rfl rfl ?_
    refine wp_virtual0 (As := []) d_X10_game_10 lk_X10_166 mv_X10_layTube in_X10_layTube se_X10_layTube (Nat.le_of_ble_eq_true rfl) (Nat.le_of_ble_eq_true rfl) (hp_80 _ _ _ _ _) rfl (s_X10_layTube hs1 hc8 hm hn hn9 hp hp4 hln) (fun v10 h10 q10 => ?_)
    obtain ⟨rfl, v1, rfl, hf1, hst1, hl1⟩ := q10
    have hI1 : mGv (m.2.1 81) en cnt n (kp0 (mlp (m.2.1 81)) (mtp (m.2.1 81)) p) v1 := by
      refine ⟨hst1, ?_, fun j hj => ?_⟩
      · rw [kp0_len]; have := hl1.1; rw [mTube_len] at this; exact this
      · rw [kp0_len] at hj
        have h9 := hl1.2 j (by rw [mTube_len]; exact hj)
        rw [h9]
        unfold mTube
        have e9 := kp0_tub (a := mlp (m.2.1 81)) (b := mtp (m.2.1 81)) (st := fun l => mstr (m.2.1 81) en cnt l) (tl := mtl (m.2.1 81)) hp4 htn
        have e8 := congrArg (fun l => l[j]?) e9
        simp only [List.getElem?_map] at e8
        rw [List.getElem?_eq_getElem (by rw [kp0_len]; exact hj), List.getElem?_eq_getElem (by rw [ktub_len]; exact hj)] at e8
        exact (Option.some.inj e8).symm
    show WP _ _ _ _ _ 13 _ [] (HP c w m v1 E) _
    refine wp_aload_n 0 d_X10_game_13 rfl rfl ?_
    refine wp_iload_n 1 d_X10_game_14 rfl rfl ?_
    refine wp_aload_n 0 d_X10_game_15 rfl rfl ?_
    refine wp_vrt_i (As := []) (x0 := (kuo (mlp (m.2.1 81)) p)) (h1 := HP c w m v1 E) d_X10_game_16 lk_X10_232 mv_X10_usedNow in_X10_usedNow se_X10_usedNow (Nat.le_of_ble_eq_true rfl) (Nat.le_of_ble_eq_true rfl) (hp_80 _ _ _ _ _) rfl (s_X10_usedNow hp hp4 (mln9 hn9 hln)) ?_
    refine wp_iconst (v0 := 1) d_X10_game_19 rfl ?_
    refine wp_virtual0 (As := [.int (nI (N)), .int ((kuo (mlp (m.2.1 81)) p)), .int (1)]) d_X10_game_20 lk_X10_228 mv_X10_isWon in_X10_isWon se_X10_isWon (Nat.le_of_ble_eq_true rfl) (Nat.le_of_ble_eq_true rfl) (hp_80 _ _ _ _ _) rfl (wp_depth (d := 0 + 2 * N + 5) (by omega) (s_X10_isWon (d := 0) (v := v) (cnt := cnt) (en := en) hn hn9 N hN (kp0 (mlp (m.2.1 81)) (mtp (m.2.1 81)) p) (kuo (mlp (m.2.1 81)) p) true v1 (by rw [kp0_len]; omega) hI1)) (fun v20 h20 q20 => ?_)
    obtain ⟨rfl, v2, rfl, hI2⟩ := q20
    show WP _ _ _ _ _ 23 _ [.int (kb (mgw (fun q => decide (mW2 (m.2.1 81) en cnt q ≤ (m.2.1 81) 7)) n N (kp0 (mlp (m.2.1 81)) (mtp (m.2.1 81)) p) (kuo (mlp (m.2.1 81)) p) true = true))] (HP c w m v2 E) _
    refine wp_ifb_eq 30 d_X10_game_23 rfl (fun zc23 => ?_) (fun zc23 => ?_)
    · refine wp_iconst (v0 := 0) d_X10_game_30 rfl ?_
      refine wp_reti d_X10_game_31 rfl ?_
      exact Or.inr ⟨N, hN1, hN, rfl, congrArg (fun z => some (Value.int z)) (Eq.symm (kb_f zc23)), v2, rfl⟩
    · refine wp_iconst (v0 := 1) d_X10_game_26 rfl ?_
      refine wp_goto 31 d_X10_game_27 rfl ?_
      refine wp_reti d_X10_game_31 rfl ?_
      exact Or.inr ⟨N, hN1, hN, rfl, congrArg (fun z => some (Value.int z)) (Eq.symm (kb_t zc23)), v2, rfl⟩
  · refine wp_iconst (v0 := -1) d_X10_game_7 rfl ?_
    refine wp_reti d_X10_game_8 rfl ?_
    exact Or.inl ⟨zc4, rfl, rfl⟩
theorem s_X10_play_t {X : kX} {d : Nat} {c w m v : kZ} {E : kH} {cnt : Nat} (hs1 : (m.2.1 81) 1 = nI cnt) (hc8 : cnt ≤ 8) {en : Nat → Nat} (hm : mWF (m.2.1 81) cnt en) {n : Nat} (hn : m.2.1 81 0 = nI n) (hn9 : n ≤ 9) {p : Nat} (hp : m.2.1 81 2 = nI p) (hp4 : p ≤ 4) {rr : Nat} (hrr : rr + 1 ≤ 3) (hp3 : p < 4) {A : Int32} {l : Nat} (hl : l < n) (hb0 : (kuo (mlp (m.2.1 81)) p) >>> (nI l &&& 31) &&& 1 = 0) {R9 : Option Int32} (hAx : ∀ x, R9 = some x → x = A) (K : ∀ v2 : kZ, R9 = none → mGv (m.2.1 81) en cnt n (kp0 (mlp (m.2.1 81)) (mtp (m.2.1 81)) p) v2 → WP X (d + 2 * rr + 7) 0 0 Y_X10_play 98 [(4, .int (nI l)), (3, .int (kb (mgw (fun q => decide (mW2 (m.2.1 81) en cnt q ≤ (m.2.1 81) 7)) n (rr + 1) (kp0 (mlp (m.2.1 81)) (mtp (m.2.1 81)) p) (kuo (mlp (m.2.1 81)) p) true = true))), (0, .ref 80), (1, .int (nI (rr + 1))), (2, .int (kuo (mlp (m.2.1 81)) p))] [] (HP c w m v2 E) (fun r h1 => r = some (.int A) ∧ ∃ v1 : kZ, h1 = HP c w m v1 E)) : ∀ (k : Nat) (t : Nat) (v' : kZ), (t + k = 4) → (mGv (m.2.1 81) en cnt n (kp0 (mlp (m.2.1 81)) (mtp (m.2.1 81)) p) v') → (kmi ((fun l t => mgw (fun q => decide (mW2 (m.2.1 81) en cnt q ≤ (m.2.1 81) 7)) n rr ((kp0 (mlp (m.2.1 81)) (mtp (m.2.1 81)) p) ++ [(l, t)]) ((kuo (mlp (m.2.1 81)) p) ||| kbit l) false == mgw (fun q => decide (mW2 (m.2.1 81) en cnt q ≤ (m.2.1 81) 7)) n (rr + 1) (kp0 (mlp (m.2.1 81)) (mtp (m.2.1 81)) p) (kuo (mlp (m.2.1 81)) p) true) l) l k t = R9) → WP X (d + 2 * rr + 7) 0 0 Y_X10_play 53 [(5, .int (nI (t))), (4, .int (nI (l))), (3, .int (kb (mgw (fun q => decide (mW2 (m.2.1 81) en cnt q ≤ (m.2.1 81) 7)) n (rr + 1) (kp0 (mlp (m.2.1 81)) (mtp (m.2.1 81)) p) (kuo (mlp (m.2.1 81)) p) true = true))), (0, .ref (80)), (1, .int (nI (rr + 1))), (2, .int ((kuo (mlp (m.2.1 81)) p)))] [] (HP c w m v' E) (fun r h1 => r = some (.int A) ∧ ∃ v1 : kZ, h1 = HP c w m v1 E) := by
  intro k
  induction k using Nat.strongRecOn with
  | ind k ih =>
    intro t v' htk hI hq
    refine wp_iload 0 d_X10_play_53 rfl ?_
    refine wp_iconst (v0 := 4) d_X10_play_55 rfl ?_
    refine wp_ncmp_ge (a := t) (b := 4) 98 d_X10_play_56 rfl (by omega) (by omega) (fun zc56 => ?_) (fun zc56 => ?_)
    · obtain rfl : k = 0 := by omega
      refine wp_sub [(4, .int (nI l)), (3, .int (kb (mgw (fun q => decide (mW2 (m.2.1 81) en cnt q ≤ (m.2.1 81) 7)) n (rr + 1) (kp0 (mlp (m.2.1 81)) (mtp (m.2.1 81)) p) (kuo (mlp (m.2.1 81)) p) true = true))), (0, .ref 80), (1, .int (nI (rr + 1))), (2, .int (kuo (mlp (m.2.1 81)) p))] [1, 2, 3, 4, 5] rfl ?_
      exact K v' hq.symm hI
    · refine wp_iload_n 5 d_X10_play_59 rfl rfl ?_
      refine wp_iload 1 d_X10_play_60 rfl ?_
      refine wp_ishr d_X10_play_62 ?_
      refine wp_iconst (v0 := 1) d_X10_play_63 rfl ?_
      refine wp_iand d_X10_play_64 ?_
      refine wp_if_ne 98 d_X10_play_65 rfl (fun zc65 => ?_) (fun zc65 => ?_)
      · exact absurd hb0 zc65
      · refine wp_aload_n 3 d_X10_play_68 rfl rfl ?_
        refine wp_iload 1 d_X10_play_69 rfl ?_
        refine wp_iload 0 d_X10_play_71 rfl ?_
        refine wp_iload_n 4 d_X10_play_73 rfl rfl ?_
        refine wp_iload_n 5 d_X10_play_74 rfl rfl ?_
        refine wp_iconst (v0 := 1) d_X10_play_75 rfl ?_
        refine wp_virtual0 (As := [.int (nI (l)), .int (nI (t)), .int (nI (rr + 1)), .int ((kuo (mlp (m.2.1 81)) p)), .int (1)]) d_X10_play_76 lk_X10_224 mv_X10_isWonBy in_X10_isWonBy se_X10_isWonBy (Nat.le_of_ble_eq_true rfl) (Nat.le_of_ble_eq_true rfl) (hp_80 _ _ _ _ _) rfl (s_X10_isWonBy (d := d) (v := v') hn hn9 (rr := rr) (by omega) (fun pre u on v9 h1 h2 => s_X10_isWon (v := v) hn hn9 rr (by omega) pre u on v9 h1 h2) (l := l) (t := t) (on := true) (by rw [kp0_len]; exact hp3) (by omega) hI) (fun v76 h76 q76 => ?_)
        obtain ⟨rfl, v2, rfl, hI2⟩ := q76
        show WP _ _ _ _ _ 79 _ [.int (kb (mgw (fun q => decide (mW2 (m.2.1 81) en cnt q ≤ (m.2.1 81) 7)) n rr ((kp0 (mlp (m.2.1 81)) (mtp (m.2.1 81)) p) ++ [(l, t)]) ((kuo (mlp (m.2.1 81)) p) ||| kbit l) (!true) = true))] (HP c w m v2 E) _
        refine wp_iload_n 2 d_X10_play_79 rfl rfl ?_
        refine wp_icmp_ne 92 d_X10_play_80 rfl (fun zc80 => ?_) (fun zc80 => ?_)
        · refine wp_iinc (v0 := nI ((t) + 1)) [(5, .int (nI ((t) + 1))), (4, .int (nI (l))), (3, .int (kb (mgw (fun q => decide (mW2 (m.2.1 81) en cnt q ≤ (m.2.1 81) 7)) n (rr + 1) (kp0 (mlp (m.2.1 81)) (mtp (m.2.1 81)) p) (kuo (mlp (m.2.1 81)) p) true = true))), (0, .ref (80)), (1, .int (nI (rr + 1))), (2, .int ((kuo (mlp (m.2.1 81)) p)))] 0 d_X10_play_92 rfl (nI_add (t) 1) (Nat.le_of_ble_eq_true rfl) rfl ?_
          refine wp_goto 53 d_X10_play_95 rfl ?_
          obtain ⟨k1, rfl⟩ : ∃ k1, k = k1 + 1 := ⟨k - 1, by omega⟩
          refine wp_sub [(5, .int (nI ((t) + 1))), (4, .int (nI (l))), (3, .int (kb (mgw (fun q => decide (mW2 (m.2.1 81) en cnt q ≤ (m.2.1 81) 7)) n (rr + 1) (kp0 (mlp (m.2.1 81)) (mtp (m.2.1 81)) p) (kuo (mlp (m.2.1 81)) p) true = true))), (0, .ref (80)), (1, .int (nI (rr + 1))), (2, .int ((kuo (mlp (m.2.1 81)) p)))] [0, 1, 2, 3, 4, 5] rfl ?_
          have h80 := kbne.mp zc80
          simp only [kmi] at hq
          rw [if_neg (by rw [show (!true) = false from rfl] at h80; rw [h80]; decide)] at hq
          exact ih k1 (by omega) (t + 1) v2 (by omega) hI2 hq
        · refine wp_bipush (v0 := 10) d_X10_play_83 (by decide) ?_
          refine wp_iload 1 d_X10_play_85 rfl ?_
          refine wp_imul d_X10_play_87 ?_
          refine wp_v (v0 := nI ((10) * (l))) (pk_mul (10) (l)) ?_
          refine wp_iload 0 d_X10_play_88 rfl ?_
          refine wp_iadd d_X10_play_90 ?_
          refine wp_v (v0 := nI (((10) * (l)) + (t))) (nI_add ((10) * (l)) (t)) ?_
          refine wp_reti d_X10_play_91 rfl ?_
          obtain ⟨k1, rfl⟩ : ∃ k1, k = k1 + 1 := ⟨k - 1, by omega⟩
          have h80 := kbeq.mp zc80
          simp only [kmi] at hq
          rw [show (!true) = false from rfl] at h80
          rw [if_pos h80] at hq
          exact ⟨congrArg (fun z => some (Value.int z)) (hAx _ hq.symm), v2, rfl⟩
theorem s_X10_play_l {X : kX} {d : Nat} {c w m v : kZ} {E : kH} {cnt : Nat} (hs1 : (m.2.1 81) 1 = nI cnt) (hc8 : cnt ≤ 8) {en : Nat → Nat} (hm : mWF (m.2.1 81) cnt en) {n : Nat} (hn : m.2.1 81 0 = nI n) (hn9 : n ≤ 9) {p : Nat} (hp : m.2.1 81 2 = nI p) (hp4 : p ≤ 4) {rr : Nat} (hrr : rr + 1 ≤ 3) (hp3 : p < 4) {A : Int32} : ∀ (k : Nat) (l : Nat) (v' : kZ), (l + k = n) → (mGv (m.2.1 81) en cnt n (kp0 (mlp (m.2.1 81)) (mtp (m.2.1 81)) p) v') → (kmo (fun l => decide ((kuo (mlp (m.2.1 81)) p) >>> (nI l &&& 31) &&& 1 = 0)) (fun l t => mgw (fun q => decide (mW2 (m.2.1 81) en cnt q ≤ (m.2.1 81) 7)) n rr ((kp0 (mlp (m.2.1 81)) (mtp (m.2.1 81)) p) ++ [(l, t)]) ((kuo (mlp (m.2.1 81)) p) ||| kbit l) false == mgw (fun q => decide (mW2 (m.2.1 81) en cnt q ≤ (m.2.1 81) 7)) n (rr + 1) (kp0 (mlp (m.2.1 81)) (mtp (m.2.1 81)) p) (kuo (mlp (m.2.1 81)) p) true) 4 k l = A) → WP X (d + 2 * rr + 7) 0 0 Y_X10_play 29 [(4, .int (nI (l))), (3, .int (kb (mgw (fun q => decide (mW2 (m.2.1 81) en cnt q ≤ (m.2.1 81) 7)) n (rr + 1) (kp0 (mlp (m.2.1 81)) (mtp (m.2.1 81)) p) (kuo (mlp (m.2.1 81)) p) true = true))), (0, .ref (80)), (1, .int (nI (rr + 1))), (2, .int ((kuo (mlp (m.2.1 81)) p)))] [] (HP c w m v' E) (fun r h1 => r = some (.int A) ∧ ∃ v1 : kZ, h1 = HP c w m v1 E) := by
  intro k
  induction k using Nat.strongRecOn with
  | ind k ih =>
    intro l v' hlk hI hA
    refine wp_iload 0 d_X10_play_29 rfl ?_
    refine wp_aload_n 2 d_X10_play_31 rfl rfl ?_
    refine wp_getfield (v := .ref (81)) d_X10_play_32 gf_X10_7 (hp_80 _ _ _ _ _) rfl ?_
    refine wp_iconst (v0 := 0) d_X10_play_35 rfl ?_
    refine wp_iaload (v := nI (n)) d_X10_play_36 (hp_81 _ _ _ _ _) (kin rfl) hn ?_
    refine wp_ncmp_ge (a := l) (b := n) 104 d_X10_play_37 rfl (by omega) (by omega) (fun zc37 => ?_) (fun zc37 => ?_)
    · refine wp_bipush (v0 := -3) d_X10_play_104 (by decide) ?_
      refine wp_reti d_X10_play_106 rfl ?_
      obtain rfl : k = 0 := by omega
      exact ⟨congrArg (fun z => some (Value.int z)) hA, v', rfl⟩
    · refine wp_aload_n 2 d_X10_play_40 rfl rfl ?_
      refine wp_getfield (v := .ref (81)) d_X10_play_41 gf_X10_7 (hp_80 _ _ _ _ _) rfl ?_
      refine wp_iconst (v0 := 2) d_X10_play_44 rfl ?_
      refine wp_iaload (v := nI (p)) d_X10_play_45 (hp_81 _ _ _ _ _) (kin rfl) hp ?_
      refine wp_iconst (v0 := 4) d_X10_play_46 rfl ?_
      refine wp_ncmp_ge (a := p) (b := 4) 104 d_X10_play_47 rfl (by omega) (by omega) (fun zc47 => ?_) (fun zc47 => ?_)
      · refine wp_bipush (v0 := -3) d_X10_play_104 (by decide) ?_
        refine wp_reti d_X10_play_106 rfl ?_
        exact absurd zc47 (by omega)
      · refine wp_iconst (v0 := 0) d_X10_play_50 rfl ?_
        refine wp_istore [(5, .int (0)), (4, .int (nI (l))), (3, .int (kb (mgw (fun q => decide (mW2 (m.2.1 81) en cnt q ≤ (m.2.1 81) 7)) n (rr + 1) (kp0 (mlp (m.2.1 81)) (mtp (m.2.1 81)) p) (kuo (mlp (m.2.1 81)) p) true = true))), (0, .ref (80)), (1, .int (nI (rr + 1))), (2, .int ((kuo (mlp (m.2.1 81)) p)))] d_X10_play_51 (Nat.le_of_ble_eq_true rfl) rfl ?_
        obtain ⟨k1, rfl⟩ : ∃ k1, k = k1 + 1 := ⟨k - 1, by omega⟩
        have hA2 := hA
        simp only [kmo] at hA2
        rcases kand1 ((kuo (mlp (m.2.1 81)) p) >>> (nI l &&& 31)) with hb0 | hb1
        · rw [if_pos (decide_eq_true hb0)] at hA2
          refine wp_sub [(5, .int (0)), (4, .int (nI (l))), (3, .int (kb (mgw (fun q => decide (mW2 (m.2.1 81) en cnt q ≤ (m.2.1 81) 7)) n (rr + 1) (kp0 (mlp (m.2.1 81)) (mtp (m.2.1 81)) p) (kuo (mlp (m.2.1 81)) p) true = true))), (0, .ref (80)), (1, .int (nI (rr + 1))), (2, .int ((kuo (mlp (m.2.1 81)) p)))] [0, 1, 2, 3, 4, 5] rfl ?_
          refine s_X10_play_t (v := v) hs1 hc8 hm hn hn9 hp hp4 hrr hp3 (l := l) (A := A) (by omega) hb0 (fun x hx => by rw [hx] at hA2; exact hA2) (fun v2 hB hI2 => ?_) 4 0 v' (by omega) hI rfl
          rw [hB] at hA2
          refine wp_iinc (v0 := nI ((l) + 1)) [(4, .int (nI ((l) + 1))), (3, .int (kb (mgw (fun q => decide (mW2 (m.2.1 81) en cnt q ≤ (m.2.1 81) 7)) n (rr + 1) (kp0 (mlp (m.2.1 81)) (mtp (m.2.1 81)) p) (kuo (mlp (m.2.1 81)) p) true = true))), (0, .ref (80)), (1, .int (nI (rr + 1))), (2, .int ((kuo (mlp (m.2.1 81)) p)))] 0 d_X10_play_98 rfl (nI_add (l) 1) (Nat.le_of_ble_eq_true rfl) rfl ?_
          refine wp_goto 29 d_X10_play_101 rfl ?_
          refine wp_sub [(4, .int (nI ((l) + 1))), (3, .int (kb (mgw (fun q => decide (mW2 (m.2.1 81) en cnt q ≤ (m.2.1 81) 7)) n (rr + 1) (kp0 (mlp (m.2.1 81)) (mtp (m.2.1 81)) p) (kuo (mlp (m.2.1 81)) p) true = true))), (0, .ref (80)), (1, .int (nI (rr + 1))), (2, .int ((kuo (mlp (m.2.1 81)) p)))] [0, 1, 2, 3, 4] rfl ?_
          exact ih k1 (by omega) (l + 1) v2 (by omega) hI2 hA2
        · rw [if_neg (by rw [decide_eq_false (by rw [hb1]; decide)]; decide)] at hA2
          refine wp_iload 0 d_X10_play_53 rfl ?_
          refine wp_iconst (v0 := 4) d_X10_play_55 rfl ?_
          refine wp_icmp_ge 98 d_X10_play_56 rfl (fun z => absurd z (by decide)) (fun _ => ?_)
          refine wp_iload_n 5 d_X10_play_59 rfl rfl ?_
          refine wp_iload 1 d_X10_play_60 rfl ?_
          refine wp_ishr d_X10_play_62 ?_
          refine wp_iconst (v0 := 1) d_X10_play_63 rfl ?_
          refine wp_iand d_X10_play_64 ?_
          refine wp_if_ne 98 d_X10_play_65 rfl (fun zc65 => ?_) (fun zc65 => ?_)
          · refine wp_iinc (v0 := nI ((l) + 1)) [(4, .int (nI ((l) + 1))), (5, .int (0)), (3, .int (kb (mgw (fun q => decide (mW2 (m.2.1 81) en cnt q ≤ (m.2.1 81) 7)) n (rr + 1) (kp0 (mlp (m.2.1 81)) (mtp (m.2.1 81)) p) (kuo (mlp (m.2.1 81)) p) true = true))), (0, .ref (80)), (1, .int (nI (rr + 1))), (2, .int ((kuo (mlp (m.2.1 81)) p)))] 1 d_X10_play_98 rfl (nI_add (l) 1) (Nat.le_of_ble_eq_true rfl) rfl ?_
            refine wp_goto 29 d_X10_play_101 rfl ?_
            refine wp_sub [(4, .int (nI ((l) + 1))), (3, .int (kb (mgw (fun q => decide (mW2 (m.2.1 81) en cnt q ≤ (m.2.1 81) 7)) n (rr + 1) (kp0 (mlp (m.2.1 81)) (mtp (m.2.1 81)) p) (kuo (mlp (m.2.1 81)) p) true = true))), (0, .ref (80)), (1, .int (nI (rr + 1))), (2, .int ((kuo (mlp (m.2.1 81)) p)))] [0, 2, 3, 4, 5] rfl ?_
            exact ih k1 (by omega) (l + 1) v' (by omega) hI hA2
          · rw [hb1] at zc65
            exact absurd zc65 (by decide)
theorem s_X10_play {X : kX} {d : Nat} {c w m v : kZ} {E : kH} {cnt : Nat} (hs1 : (m.2.1 81) 1 = nI cnt) (hc8 : cnt ≤ 8) {en : Nat → Nat} (hm : mWF (m.2.1 81) cnt en) {n : Nat} (hn : m.2.1 81 0 = nI n) (hn9 : n ≤ 9) {p : Nat} (hp : m.2.1 81 2 = nI p) (hp4 : p ≤ 4) (hln : ∀ j, j < p → vp_in (mlp (m.2.1 81) j) n) (htn : ∀ j, j < p → ∃ t : Nat, t < 4 ∧ mtp (m.2.1 81) j = nI t) (x : Int32) : WP X (d + 16) 0 0 Y_X10_play 0 [(0, .ref (80)), (1, .int (x))] [] (HP c w m v E) (fun r h1 => (¬ (1 ≤ x.toInt ∧ x.toInt ≤ 3) ∧ r = some (.int (-1)) ∧ h1 = HP c w m v E) ∨ ∃ N : Nat, 1 ≤ N ∧ N ≤ 3 ∧ x = nI N ∧ r = some (.int (if p < 4 then (kmo (fun l => decide ((kuo (mlp (m.2.1 81)) p) >>> (nI l &&& 31) &&& 1 = 0)) (fun l t => mgw (fun q => decide (mW2 (m.2.1 81) en cnt q ≤ (m.2.1 81) 7)) n (N - 1) ((kp0 (mlp (m.2.1 81)) (mtp (m.2.1 81)) p) ++ [(l, t)]) ((kuo (mlp (m.2.1 81)) p) ||| kbit l) false == mgw (fun q => decide (mW2 (m.2.1 81) en cnt q ≤ (m.2.1 81) 7)) n N (kp0 (mlp (m.2.1 81)) (mtp (m.2.1 81)) p) (kuo (mlp (m.2.1 81)) p) true) 4 n 0) else -3)) ∧ ∃ v1 : kZ, h1 = HP c w m v1 E) := by
  refine wp_iload_n 1 d_X10_play_0 rfl rfl ?_
  refine wp_stc_i (As := [.int (x)]) (x0 := kb (1 ≤ (x : Int32).toInt ∧ (x : Int32).toInt ≤ 3)) (h1 := HP c w m v E) d_X10_play_1 lk_X10_194 mv_X10_isMany st_X10_isMany (Nat.le_of_ble_eq_true rfl) (Nat.le_of_ble_eq_true rfl) (s_X10_isMany _ (x : Int32)) ?_
  refine wp_ifb_ne 9 d_X10_play_4 rfl (fun zc4 => ?_) (fun zc4 => ?_)
  · have hN1b := zc4.1
    obtain ⟨N, hN, rfl⟩ := k_natle (n := 3) (x := x) ⟨by omega, zc4.2⟩
    have hN1 : 1 ≤ N := by rw [nI_toInt (by omega)] at hN1b; omega
    refine wp_aload_n 0 d_X10_play_9 rfl rfl ?_
    refine wp_virtual0 (As := []) d_X10_play_10 lk_X10_166 mv_X10_layTube in_X10_layTube se_X10_layTube (Nat.le_of_ble_eq_true rfl) (Nat.le_of_ble_eq_true rfl) (hp_80 _ _ _ _ _) rfl (s_X10_layTube hs1 hc8 hm hn hn9 hp hp4 hln) (fun v10 h10 q10 => ?_)
    obtain ⟨rfl, v1, rfl, hf1, hst1, hl1⟩ := q10
    have hI1 : mGv (m.2.1 81) en cnt n (kp0 (mlp (m.2.1 81)) (mtp (m.2.1 81)) p) v1 := by
      refine ⟨hst1, ?_, fun j hj => ?_⟩
      · rw [kp0_len]; have := hl1.1; rw [mTube_len] at this; exact this
      · rw [kp0_len] at hj
        have h9 := hl1.2 j (by rw [mTube_len]; exact hj)
        rw [h9]
        unfold mTube
        have e9 := kp0_tub (a := mlp (m.2.1 81)) (b := mtp (m.2.1 81)) (st := fun l => mstr (m.2.1 81) en cnt l) (tl := mtl (m.2.1 81)) hp4 htn
        have e8 := congrArg (fun l => l[j]?) e9
        simp only [List.getElem?_map] at e8
        rw [List.getElem?_eq_getElem (by rw [kp0_len]; exact hj), List.getElem?_eq_getElem (by rw [ktub_len]; exact hj)] at e8
        exact (Option.some.inj e8).symm
    show WP _ _ _ _ _ 13 _ [] (HP c w m v1 E) _
    refine wp_aload_n 0 d_X10_play_13 rfl rfl ?_
    refine wp_vrt_i (As := []) (x0 := (kuo (mlp (m.2.1 81)) p)) (h1 := HP c w m v1 E) d_X10_play_14 lk_X10_232 mv_X10_usedNow in_X10_usedNow se_X10_usedNow (Nat.le_of_ble_eq_true rfl) (Nat.le_of_ble_eq_true rfl) (hp_80 _ _ _ _ _) rfl (s_X10_usedNow hp hp4 (mln9 hn9 hln)) ?_
    refine wp_istore_n [(2, .int ((kuo (mlp (m.2.1 81)) p))), (0, .ref (80)), (1, .int (nI (N)))] d_X10_play_17 rfl (Nat.le_of_ble_eq_true rfl) rfl ?_
    refine wp_aload_n 1 d_X10_play_18 rfl rfl ?_
    refine wp_iload_n 2 d_X10_play_19 rfl rfl ?_
    refine wp_iload_n 0 d_X10_play_20 rfl rfl ?_
    refine wp_iconst (v0 := 1) d_X10_play_21 rfl ?_
    refine wp_virtual0 (As := [.int (nI (N)), .int ((kuo (mlp (m.2.1 81)) p)), .int (1)]) d_X10_play_22 lk_X10_228 mv_X10_isWon in_X10_isWon se_X10_isWon (Nat.le_of_ble_eq_true rfl) (Nat.le_of_ble_eq_true rfl) (hp_80 _ _ _ _ _) rfl (wp_depth (d := 0 + 2 * N + 5) (by omega) (s_X10_isWon (d := 0) (v := v) (cnt := cnt) (en := en) hn hn9 N hN (kp0 (mlp (m.2.1 81)) (mtp (m.2.1 81)) p) (kuo (mlp (m.2.1 81)) p) true v1 (by rw [kp0_len]; omega) hI1)) (fun v22 h22 q22 => ?_)
    obtain ⟨rfl, v2, rfl, hI2⟩ := q22
    show WP _ _ _ _ _ 25 _ [.int (kb (mgw (fun q => decide (mW2 (m.2.1 81) en cnt q ≤ (m.2.1 81) 7)) n N (kp0 (mlp (m.2.1 81)) (mtp (m.2.1 81)) p) (kuo (mlp (m.2.1 81)) p) true = true))] (HP c w m v2 E) _
    refine wp_istore_n [(3, .int (kb (mgw (fun q => decide (mW2 (m.2.1 81) en cnt q ≤ (m.2.1 81) 7)) n N (kp0 (mlp (m.2.1 81)) (mtp (m.2.1 81)) p) (kuo (mlp (m.2.1 81)) p) true = true))), (2, .int ((kuo (mlp (m.2.1 81)) p))), (0, .ref (80)), (1, .int (nI (N)))] d_X10_play_25 rfl (Nat.le_of_ble_eq_true rfl) rfl ?_
    refine wp_iconst (v0 := 0) d_X10_play_26 rfl ?_
    refine wp_istore [(4, .int (0)), (3, .int (kb (mgw (fun q => decide (mW2 (m.2.1 81) en cnt q ≤ (m.2.1 81) 7)) n N (kp0 (mlp (m.2.1 81)) (mtp (m.2.1 81)) p) (kuo (mlp (m.2.1 81)) p) true = true))), (2, .int ((kuo (mlp (m.2.1 81)) p))), (0, .ref (80)), (1, .int (nI (N)))] d_X10_play_27 (Nat.le_of_ble_eq_true rfl) rfl ?_
    rcases Nat.lt_or_ge p 4 with hp3 | hp3
    · obtain ⟨rr, hrr⟩ : ∃ rr, N = rr + 1 := ⟨N - 1, by omega⟩
      subst hrr
      refine wp_sub [(4, .int (0)), (3, .int (kb (mgw (fun q => decide (mW2 (m.2.1 81) en cnt q ≤ (m.2.1 81) 7)) n (rr + 1) (kp0 (mlp (m.2.1 81)) (mtp (m.2.1 81)) p) (kuo (mlp (m.2.1 81)) p) true = true))), (0, .ref (80)), (1, .int (nI ((rr + 1)))), (2, .int ((kuo (mlp (m.2.1 81)) p)))] [0, 1, 3, 4, 2] rfl ?_
      refine wp_mono ?_ (wp_depth (d := 0 + 2 * rr + 7) (by omega) (s_X10_play_l (d := 0) (v := v) hs1 hc8 hm hn hn9 hp hp4 hN hp3 n 0 v2 (by omega) hI2 rfl))
      rintro r h1 ⟨rfl, v3, rfl⟩
      exact Or.inr ⟨rr + 1, hN1, hN, rfl, by rw [if_pos hp3]; rfl, v3, rfl⟩
    · refine wp_iload 0 d_X10_play_29 rfl ?_
      refine wp_aload_n 3 d_X10_play_31 rfl rfl ?_
      refine wp_getfield (v := .ref (81)) d_X10_play_32 gf_X10_7 (hp_80 _ _ _ _ _) rfl ?_
      refine wp_iconst (v0 := 0) d_X10_play_35 rfl ?_
      refine wp_iaload (v := nI (n)) d_X10_play_36 (hp_81 _ _ _ _ _) (kin rfl) hn ?_
      refine wp_ncmp_ge (a := 0) (b := n) 104 d_X10_play_37 rfl (by omega) (by omega) (fun zc37 => ?_) (fun zc37 => ?_)
      · refine wp_bipush (v0 := -3) d_X10_play_104 (by decide) ?_
        refine wp_reti d_X10_play_106 rfl ?_
        exact Or.inr ⟨N, hN1, hN, rfl, by rw [if_neg (by omega)], v2, rfl⟩
      · refine wp_aload_n 3 d_X10_play_40 rfl rfl ?_
        refine wp_getfield (v := .ref (81)) d_X10_play_41 gf_X10_7 (hp_80 _ _ _ _ _) rfl ?_
        refine wp_iconst (v0 := 2) d_X10_play_44 rfl ?_
        refine wp_iaload (v := nI (p)) d_X10_play_45 (hp_81 _ _ _ _ _) (kin rfl) hp ?_
        refine wp_iconst (v0 := 4) d_X10_play_46 rfl ?_
        refine wp_ncmp_ge (a := p) (b := 4) 104 d_X10_play_47 rfl (by omega) (by omega) (fun zc47 => ?_) (fun zc47 => ?_)
        · refine wp_bipush (v0 := -3) d_X10_play_104 (by decide) ?_
          refine wp_reti d_X10_play_106 rfl ?_
          exact Or.inr ⟨N, hN1, hN, rfl, by rw [if_neg (by omega)], v2, rfl⟩
        · refine wp_iconst (v0 := 0) d_X10_play_50 rfl ?_
          refine wp_istore [(5, .int (0)), (4, .int (0)), (3, .int (kb (mgw (fun q => decide (mW2 (m.2.1 81) en cnt q ≤ (m.2.1 81) 7)) n N (kp0 (mlp (m.2.1 81)) (mtp (m.2.1 81)) p) (kuo (mlp (m.2.1 81)) p) true = true))), (2, .int ((kuo (mlp (m.2.1 81)) p))), (0, .ref (80)), (1, .int (nI (N)))] d_X10_play_51 (Nat.le_of_ble_eq_true rfl) rfl ?_
          exact absurd zc47 (by omega)
  · refine wp_iconst (v0 := -1) d_X10_play_7 rfl ?_
    refine wp_reti d_X10_play_8 rfl ?_
    exact Or.inl ⟨zc4, rfl, rfl⟩
