/-! ===== the reference: rules' evaluation, strengths, rays ===== -/
def mfac (s : Nat → Int32) (l : Nat) (x : Int32) : Int32 := if x = -5 then nI l else if x = -4 then s (9 + 4 * l + 1) else if x = -3 then s 6 else if x = -2 then s 5 else if x = -1 then s 4 else x
def mhold (code x y : Int32) : Bool := if code = -21 then decide (x = 1) && decide (y = 1) else if code = -13 then decide (y < x) else if code = -12 then decide (x = y) else if code = -11 then decide (x < y) else decide (x = 1) || decide (y = 1)
def mstep (fac : Int32 → Int32) (st : List Int32) (x : Int32) : Option (List Int32) :=
  if -10 < x then (if st.length < 200 then some (fac x :: st) else none)
  else if x = -20 then (match st with | a :: t => some ((1 - a) :: t) | [] => none)
  else match st with | b :: a :: t => some (kb (mhold x a b = true) :: t) | _ => none
def mrun (fac : Int32 → Int32) (s : Nat → Int32) : Nat → Nat → List Int32 → Option (List Int32)
  | 0, _, st => some st
  | k + 1, i, st => match mstep fac st (s (97 + i)) with | some st1 => mrun fac s k (i + 1) st1 | none => none
def mstk (f : Nat → Int32) (st : List Int32) : Prop := ∀ i, i < st.length → f i = st.getD (st.length - 1 - i) 0
theorem mstk_push {f : Nat → Int32} {st : List Int32} (h : mstk f st) (x : Int32) : mstk (upd f st.length x) (x :: st) := by
  intro i hi
  by_cases e : i = st.length
  · subst e; rw [upd_s]; simp
  · rw [upd_n _ _ e, h i (by simp at hi; omega)]
    have e1 : (x :: st).length - 1 - i = (st.length - 1 - i) + 1 := by simp at hi ⊢; omega
    rw [e1, List.getD_cons_succ]
theorem mstk_top {f : Nat → Int32} {a : Int32} {t : List Int32} (h : mstk f (a :: t)) : f t.length = a := by
  rw [h t.length (by simp)]; simp
theorem mstk_tl {f : Nat → Int32} {a : Int32} {t : List Int32} (h : mstk f (a :: t)) : mstk f t := by
  intro i hi
  rw [h i (by simp; omega)]
  have e1 : (a :: t).length - 1 - i = (t.length - 1 - i) + 1 := by simp; omega
  rw [e1, List.getD_cons_succ]
abbrev msat (st : List Int32) : Prop := st = [] ∨ st = [1]
theorem nI_nn {n : Nat} (h : n < 2 ^ 31) : (0 : Int32) ≤ nI n := by
  rw [Int32.le_iff_toInt_le, nI_toInt h]
  exact Int.natCast_nonneg n
theorem wp_nif_ge {X : kX} {d mc ms : Nat} {y : kM} {pc : Nat} {ls : List (Nat × Value)} {st : List Value} {h : kH} {Q : Option Value → kH → Prop} {a : Nat} {off : Int} (tgt : Nat) (hd : decode y.2.1 pc = .ok (.ifCond .ge off, 3)) (ht : (pc : Int) + off = (tgt : Int)) (ha : a < 2 ^ 31) (k : WP X d mc ms y tgt ls st h Q) : WP X d mc ms y pc ls (.int (nI a) :: st) h Q := wp_if_ge tgt hd ht (fun _ => k) (fun z => absurd (nI_nn ha) z)
theorem wp_nif_lt {X : kX} {d mc ms : Nat} {y : kM} {pc : Nat} {ls : List (Nat × Value)} {st : List Value} {h : kH} {Q : Option Value → kH → Prop} {a : Nat} {off : Int} (tgt : Nat) (hd : decode y.2.1 pc = .ok (.ifCond .lt off, 3)) (ht : (pc : Int) + off = (tgt : Int)) (ha : a < 2 ^ 31) (k : WP X d mc ms y (pc + 3) ls st h Q) : WP X d mc ms y pc ls (.int (nI a) :: st) h Q := wp_if_lt tgt hd ht (fun z => absurd (nI_nn ha) (Int32.not_le.mpr z)) (fun _ => k)
theorem s_X10_fact {X : kX} {d : Nat} {c w m v : kZ} {E : kH} (x : Int32) {l : Nat} (hl : l < 9) : WP X (d + 2) 0 0 Y_X10_fact 0 [(0, .ref (80)), (1, .int (x)), (2, .int (nI (l)))] [] (HP c w m v E) (kR (some (.int (mfac (m.2.1 81) l x))) (HP c w m v E)) := by
  refine wp_iload_n 1 d_X10_fact_0 rfl rfl ?_
  refine wp_if (P := (x) = (-5)) (fun c1 => ?_) (fun c1_m5 => ?_)
  · refine wp_tableIn 65 d_X10_fact_1 (by rw [c1] <;> decide) (by rw [c1] <;> decide) (by rw [c1] <;> rfl) rfl ?_
    refine wp_iload_n 2 d_X10_fact_65 rfl rfl ?_
    refine wp_reti d_X10_fact_66 rfl ?_
    refine kR_i ?_ rfl
    simp_all [mfac]
  refine wp_if (P := (x) = (-4)) (fun c1 => ?_) (fun c1_m4 => ?_)
  · refine wp_tableIn 58 d_X10_fact_1 (by rw [c1] <;> decide) (by rw [c1] <;> decide) (by rw [c1] <;> rfl) rfl ?_
    refine wp_aload_n 0 d_X10_fact_58 rfl rfl ?_
    refine wp_iload_n 2 d_X10_fact_59 rfl rfl ?_
    refine wp_iconst (v0 := 1) d_X10_fact_60 rfl ?_
    refine wp_vrt_i (As := [.int (nI (l)), .int (1)]) (x0 := (m.2.1 81) (9 + 4 * (l) + (1))) (h1 := HP c w m v E) d_X10_fact_61 lk_X10_98 mv_X10_its in_X10_its se_X10_its (Nat.le_of_ble_eq_true rfl) (Nat.le_of_ble_eq_true rfl) (hp_80 _ _ _ _ _) rfl (s_X10_its (j := l) (u := 1) (by omega) (by omega)) ?_
    refine wp_reti d_X10_fact_64 rfl ?_
    refine kR_i ?_ rfl
    simp_all [mfac]
  refine wp_if (P := (x) = (-3)) (fun c1 => ?_) (fun c1_m3 => ?_)
  · refine wp_tableIn 50 d_X10_fact_1 (by rw [c1] <;> decide) (by rw [c1] <;> decide) (by rw [c1] <;> rfl) rfl ?_
    refine wp_aload_n 0 d_X10_fact_50 rfl rfl ?_
    refine wp_getfield (v := .ref (81)) d_X10_fact_51 gf_X10_7 (hp_80 _ _ _ _ _) rfl ?_
    refine wp_bipush (v0 := 6) d_X10_fact_54 (by decide) ?_
    refine wp_iaload (v := (m.2.1 81) (6)) d_X10_fact_56 (hp_81 _ _ _ _ _) (kin rfl) rfl ?_
    refine wp_reti d_X10_fact_57 rfl ?_
    refine kR_i ?_ rfl
    simp_all [mfac]
  refine wp_if (P := (x) = (-2)) (fun c1 => ?_) (fun c1_m2 => ?_)
  · refine wp_tableIn 43 d_X10_fact_1 (by rw [c1] <;> decide) (by rw [c1] <;> decide) (by rw [c1] <;> rfl) rfl ?_
    refine wp_aload_n 0 d_X10_fact_43 rfl rfl ?_
    refine wp_getfield (v := .ref (81)) d_X10_fact_44 gf_X10_7 (hp_80 _ _ _ _ _) rfl ?_
    refine wp_iconst (v0 := 5) d_X10_fact_47 rfl ?_
    refine wp_iaload (v := (m.2.1 81) (5)) d_X10_fact_48 (hp_81 _ _ _ _ _) (kin rfl) rfl ?_
    refine wp_reti d_X10_fact_49 rfl ?_
    refine kR_i ?_ rfl
    simp_all [mfac]
  refine wp_if (P := (x) = (-1)) (fun c1 => ?_) (fun c1_m1 => ?_)
  · refine wp_tableIn 36 d_X10_fact_1 (by rw [c1] <;> decide) (by rw [c1] <;> decide) (by rw [c1] <;> rfl) rfl ?_
    refine wp_aload_n 0 d_X10_fact_36 rfl rfl ?_
    refine wp_getfield (v := .ref (81)) d_X10_fact_37 gf_X10_7 (hp_80 _ _ _ _ _) rfl ?_
    refine wp_iconst (v0 := 4) d_X10_fact_40 rfl ?_
    refine wp_iaload (v := (m.2.1 81) (4)) d_X10_fact_41 (hp_81 _ _ _ _ _) (kin rfl) rfl ?_
    refine wp_reti d_X10_fact_42 rfl ?_
    refine kR_i ?_ rfl
    simp_all [mfac]
  refine wp_swd_X10_fact_1 c1_m5 c1_m4 c1_m3 c1_m2 c1_m1 ?_
  refine wp_iload_n 1 d_X10_fact_67 rfl rfl ?_
  refine wp_reti d_X10_fact_68 rfl ?_
  refine kR_i ?_ rfl
  simp_all [mfac]
theorem s_X10_isHolding {X : kX} {d : Nat} (h : kH) (e x y : Int32) : WP X d 0 0 Y_X10_isHolding 0 [(0, .int e), (1, .int x), (2, .int y)] [] h (kR (some (.int (kb (mhold e x y = true)))) h) := by
  refine wp_iload_n 0 d_X10_isHolding_0 rfl rfl ?_
  refine wp_if (P := (e) = (-21)) (fun c1 => ?_) (fun c1_m21 => ?_)
  · refine wp_lookup 77 d_X10_isHolding_1 rfl (by rw [c1] <;> rfl) rfl ?_
    refine wp_iload_n 1 d_X10_isHolding_77 rfl rfl ?_
    refine wp_iconst (v0 := 1) d_X10_isHolding_78 rfl ?_
    refine wp_icmp_ne 91 d_X10_isHolding_79 rfl (fun c79 => ?_) (fun c79 => ?_)
    · refine wp_iconst (v0 := 0) d_X10_isHolding_91 rfl ?_
      refine wp_iret d_X10_isHolding_92 rfl k_nar0 ?_
      refine kR_i (Eq.symm (kb_f ?_)) rfl
      simp_all [mhold]
    · refine wp_iload_n 2 d_X10_isHolding_82 rfl rfl ?_
      refine wp_iconst (v0 := 1) d_X10_isHolding_83 rfl ?_
      refine wp_icmp_ne 91 d_X10_isHolding_84 rfl (fun c84 => ?_) (fun c84 => ?_)
      · refine wp_iconst (v0 := 0) d_X10_isHolding_91 rfl ?_
        refine wp_iret d_X10_isHolding_92 rfl k_nar0 ?_
        refine kR_i (Eq.symm (kb_f ?_)) rfl
        simp_all [mhold]
      · refine wp_iconst (v0 := 1) d_X10_isHolding_87 rfl ?_
        refine wp_goto 92 d_X10_isHolding_88 rfl ?_
        refine wp_iret d_X10_isHolding_92 rfl k_nar1 ?_
        refine kR_i (Eq.symm (kb_t ?_)) rfl
        simp_all [mhold]
  refine wp_if (P := (e) = (-13)) (fun c1 => ?_) (fun c1_m13 => ?_)
  · refine wp_lookup 66 d_X10_isHolding_1 rfl (by rw [c1] <;> rfl) rfl ?_
    refine wp_iload_n 1 d_X10_isHolding_66 rfl rfl ?_
    refine wp_iload_n 2 d_X10_isHolding_67 rfl rfl ?_
    refine wp_icmp_le 75 d_X10_isHolding_68 rfl (fun c68 => ?_) (fun c68 => ?_)
    · refine wp_iconst (v0 := 0) d_X10_isHolding_75 rfl ?_
      refine wp_iret d_X10_isHolding_76 rfl k_nar0 ?_
      refine kR_i (Eq.symm (kb_f ?_)) rfl
      simp_all [mhold]
    · refine wp_iconst (v0 := 1) d_X10_isHolding_71 rfl ?_
      refine wp_goto 76 d_X10_isHolding_72 rfl ?_
      refine wp_iret d_X10_isHolding_76 rfl k_nar1 ?_
      refine kR_i (Eq.symm (kb_t ?_)) rfl
      simp_all [mhold]
  refine wp_if (P := (e) = (-12)) (fun c1 => ?_) (fun c1_m12 => ?_)
  · refine wp_lookup 55 d_X10_isHolding_1 rfl (by rw [c1] <;> rfl) rfl ?_
    refine wp_iload_n 1 d_X10_isHolding_55 rfl rfl ?_
    refine wp_iload_n 2 d_X10_isHolding_56 rfl rfl ?_
    refine wp_icmp_ne 64 d_X10_isHolding_57 rfl (fun c57 => ?_) (fun c57 => ?_)
    · refine wp_iconst (v0 := 0) d_X10_isHolding_64 rfl ?_
      refine wp_iret d_X10_isHolding_65 rfl k_nar0 ?_
      refine kR_i (Eq.symm (kb_f ?_)) rfl
      simp_all [mhold]
    · refine wp_iconst (v0 := 1) d_X10_isHolding_60 rfl ?_
      refine wp_goto 65 d_X10_isHolding_61 rfl ?_
      refine wp_iret d_X10_isHolding_65 rfl k_nar1 ?_
      refine kR_i (Eq.symm (kb_t ?_)) rfl
      simp_all [mhold]
  refine wp_if (P := (e) = (-11)) (fun c1 => ?_) (fun c1_m11 => ?_)
  · refine wp_lookup 44 d_X10_isHolding_1 rfl (by rw [c1] <;> rfl) rfl ?_
    refine wp_iload_n 1 d_X10_isHolding_44 rfl rfl ?_
    refine wp_iload_n 2 d_X10_isHolding_45 rfl rfl ?_
    refine wp_icmp_ge 53 d_X10_isHolding_46 rfl (fun c46 => ?_) (fun c46 => ?_)
    · refine wp_iconst (v0 := 0) d_X10_isHolding_53 rfl ?_
      refine wp_iret d_X10_isHolding_54 rfl k_nar0 ?_
      refine kR_i (Eq.symm (kb_f ?_)) rfl
      simp_all [mhold]
    · refine wp_iconst (v0 := 1) d_X10_isHolding_49 rfl ?_
      refine wp_goto 54 d_X10_isHolding_50 rfl ?_
      refine wp_iret d_X10_isHolding_54 rfl k_nar1 ?_
      refine kR_i (Eq.symm (kb_t ?_)) rfl
      simp_all [mhold]
  refine wp_swd_X10_isHolding_1 c1_m21 c1_m13 c1_m12 c1_m11 ?_
  refine wp_iload_n 1 d_X10_isHolding_93 rfl rfl ?_
  refine wp_iconst (v0 := 1) d_X10_isHolding_94 rfl ?_
  refine wp_icmp_eq 103 d_X10_isHolding_95 rfl (fun c95 => ?_) (fun c95 => ?_)
  · refine wp_iconst (v0 := 1) d_X10_isHolding_103 rfl ?_
    refine wp_goto 108 d_X10_isHolding_104 rfl ?_
    refine wp_iret d_X10_isHolding_108 rfl k_nar1 ?_
    refine kR_i (Eq.symm (kb_t ?_)) rfl
    simp_all [mhold]
  · refine wp_iload_n 2 d_X10_isHolding_98 rfl rfl ?_
    refine wp_iconst (v0 := 1) d_X10_isHolding_99 rfl ?_
    refine wp_icmp_ne 107 d_X10_isHolding_100 rfl (fun c100 => ?_) (fun c100 => ?_)
    · refine wp_iconst (v0 := 0) d_X10_isHolding_107 rfl ?_
      refine wp_iret d_X10_isHolding_108 rfl k_nar0 ?_
      refine kR_i (Eq.symm (kb_f ?_)) rfl
      simp_all [mhold]
    · refine wp_iconst (v0 := 1) d_X10_isHolding_103 rfl ?_
      refine wp_goto 108 d_X10_isHolding_104 rfl ?_
      refine wp_iret d_X10_isHolding_108 rfl k_nar1 ?_
      refine kR_i (Eq.symm (kb_t ?_)) rfl
      simp_all [mhold]
theorem s_X10_isSo_l {X : kX} {d : Nat} {c w m v : kZ} {E : kH} {a0 e l : Nat} (hl : l < 9) (he : e ≤ 203) (st9 : List Int32) (hfin : st9 = [] ∨ ∃ x, st9 = [x]) : ∀ (k : Nat) (i : Nat) (f : Nat → Int32) (st : List Int32), (i + k = e) → (mrun (mfac (m.2.1 81) l) (m.2.1 81) k i st = some st9) → (mstk f st) → (st.length ≤ 200) → WP X (d + 3) 0 0 Y_X10_isSo 6 [(5, .int (nI (i))), (4, .int (nI (st.length))), (0, .ref (80)), (1, .int (nI (a0))), (2, .int (nI (e))), (3, .int (nI (l)))] [] (HP c w m (setA v 84 (f)) E) (fun r h1 => r = some (.int (kb (msat st9))) ∧ ∃ f1, h1 = HP c w m (setA v 84 f1) E) := by
  intro k
  induction k using Nat.strongRecOn with
  | ind k ih =>
    intro i f st hi hrun hmk hl2
    refine wp_iload 0 d_X10_isSo_6 rfl ?_
    refine wp_iload_n 4 d_X10_isSo_8 rfl rfl ?_
    refine wp_ncmp_ge (a := i) (b := e) 128 d_X10_isSo_9 rfl (by omega) (by omega) (fun c9 => ?_) (fun c9 => ?_)
    · refine wp_iload 1 d_X10_isSo_128 rfl ?_
      refine wp_if_eq 143 d_X10_isSo_130 rfl (fun c130 => ?_) (fun c130 => ?_)
      · refine wp_iconst (v0 := 1) d_X10_isSo_143 rfl ?_
        refine wp_goto 148 d_X10_isSo_144 rfl ?_
        refine wp_iret d_X10_isSo_148 rfl k_nar1 ?_
        obtain rfl : k = 0 := by omega
        simp only [mrun] at hrun
        cases hrun
        refine ⟨?_, _, rfl⟩
        rw [kb_t]
        rcases hfin with rfl | ⟨x9, rfl⟩
        · exact Or.inl rfl
        · have e9 : (f) 0 = x9 := mstk_top (t := []) hmk
          first
          | exact absurd c130 (nI_ne0 (by simp) (by simp))
          | (rw [← e9, c140]; exact Or.inr rfl)
      · refine wp_aload_n 2 d_X10_isSo_133 rfl rfl ?_
        refine wp_getfield (v := .ref (84)) d_X10_isSo_134 gf_X10_19 (hp_80 _ _ _ _ _) rfl ?_
        refine wp_iconst (v0 := 0) d_X10_isSo_137 rfl ?_
        refine wp_iaload (v := (f) (0)) d_X10_isSo_138 (hp_84 _ _ _ _ _) (kin rfl) rfl ?_
        refine wp_iconst (v0 := 1) d_X10_isSo_139 rfl ?_
        refine wp_icmp_ne 147 d_X10_isSo_140 rfl (fun c140 => ?_) (fun c140 => ?_)
        · refine wp_iconst (v0 := 0) d_X10_isSo_147 rfl ?_
          refine wp_iret d_X10_isSo_148 rfl k_nar0 ?_
          obtain rfl : k = 0 := by omega
          simp only [mrun] at hrun
          cases hrun
          refine ⟨?_, _, rfl⟩
          rw [kb_f]
          rcases hfin with rfl | ⟨x9, rfl⟩
          · exact absurd rfl c130
          · have e9 : (f) 0 = x9 := mstk_top (t := []) hmk
            rintro (q | q)
            · cases q
            · cases q; exact c140 e9
        · refine wp_iconst (v0 := 1) d_X10_isSo_143 rfl ?_
          refine wp_goto 148 d_X10_isSo_144 rfl ?_
          refine wp_iret d_X10_isSo_148 rfl k_nar1 ?_
          obtain rfl : k = 0 := by omega
          simp only [mrun] at hrun
          cases hrun
          refine ⟨?_, _, rfl⟩
          rw [kb_t]
          rcases hfin with rfl | ⟨x9, rfl⟩
          · exact Or.inl rfl
          · have e9 : (f) 0 = x9 := mstk_top (t := []) hmk
            first
            | exact absurd c130 (nI_ne0 (by simp) (by simp))
            | (rw [← e9, c140]; exact Or.inr rfl)
    · obtain ⟨k1, rfl⟩ : ∃ k1, k = k1 + 1 := ⟨k - 1, by omega⟩
      simp only [mrun] at hrun
      cases hst : mstep (mfac (m.2.1 81) l) st ((m.2.1 81) (97 + i)) with
      | none => rw [hst] at hrun; cases hrun
      | some st1 =>
      rw [hst] at hrun
      simp only at hrun
      refine wp_aload_n 2 d_X10_isSo_12 rfl rfl ?_
      refine wp_getfield (v := .ref (81)) d_X10_isSo_13 gf_X10_7 (hp_80 _ _ _ _ _) rfl ?_
      refine wp_bipush (v0 := 97) d_X10_isSo_16 (by decide) ?_
      refine wp_iload 0 d_X10_isSo_18 rfl ?_
      refine wp_iadd d_X10_isSo_20 ?_
      refine wp_v (v0 := nI ((97) + (i))) (nI_add (97) (i)) ?_
      refine wp_iaload (v := (m.2.1 81) ((97) + (i))) d_X10_isSo_21 (hp_81 _ _ _ _ _) (vp_in_nI (by omega) (by omega)) (congrArg ((m.2.1 81)) (nI_clamp (by omega))) ?_
      refine wp_istore [(6, .int ((m.2.1 81) ((97) + (i)))), (5, .int (nI (i))), (4, .int (nI (st.length))), (0, .ref (80)), (1, .int (nI (a0))), (2, .int (nI (e))), (3, .int (nI (l)))] d_X10_isSo_22 (Nat.le_of_ble_eq_true rfl) rfl ?_
      refine wp_iload 0 d_X10_isSo_24 rfl ?_
      refine wp_bipush (v0 := -10) d_X10_isSo_26 (by decide) ?_
      refine wp_icmp_le 51 d_X10_isSo_28 rfl (fun c28 => ?_) (fun c28 => ?_)
      · refine wp_iload 0 d_X10_isSo_51 rfl ?_
        refine wp_bipush (v0 := -20) d_X10_isSo_53 (by decide) ?_
        refine wp_icmp_ne 81 d_X10_isSo_55 rfl (fun c55 => ?_) (fun c55 => ?_)
        · simp only [mstep] at hst
          rw [if_neg (Int32.not_lt.mpr c28), if_neg c55] at hst
          obtain ⟨b, a, u, rfl⟩ : ∃ b a u, st = b :: a :: u := by
            cases st with
            | nil => cases hst
            | cons b t =>
              cases t with
              | nil => cases hst
              | cons a u => exact ⟨b, a, u, rfl⟩
          cases hst
          have hl1 : u.length + 2 ≤ 200 := by simpa using hl2
          refine wp_iinc (v0 := nI (u.length + 1)) [(4, .int (nI (u.length + 1))), (6, .int ((m.2.1 81) ((97) + (i)))), (5, .int (nI (i))), (0, .ref (80)), (1, .int (nI (a0))), (2, .int (nI (e))), (3, .int (nI (l)))] 2 d_X10_isSo_81 rfl (pk_m1 (u.length + 1)) (Nat.le_of_ble_eq_true rfl) rfl ?_
          refine wp_aload_n 3 d_X10_isSo_84 rfl rfl ?_
          refine wp_getfield (v := .ref (84)) d_X10_isSo_85 gf_X10_19 (hp_80 _ _ _ _ _) rfl ?_
          refine wp_iload 0 d_X10_isSo_88 rfl ?_
          refine wp_iconst (v0 := 1) d_X10_isSo_90 rfl ?_
          refine wp_isub d_X10_isSo_91 ?_
          refine wp_v (v0 := nI ((u.length + 1) - (1))) (pk_sub (a := u.length + 1) (b := 1) (by omega)) ?_
          refine wp_iload 1 d_X10_isSo_92 rfl ?_
          refine wp_aload_n 3 d_X10_isSo_94 rfl rfl ?_
          refine wp_getfield (v := .ref (84)) d_X10_isSo_95 gf_X10_19 (hp_80 _ _ _ _ _) rfl ?_
          refine wp_iload 0 d_X10_isSo_98 rfl ?_
          refine wp_iconst (v0 := 1) d_X10_isSo_100 rfl ?_
          refine wp_isub d_X10_isSo_101 ?_
          refine wp_v (v0 := nI ((u.length + 1) - (1))) (pk_sub (a := u.length + 1) (b := 1) (by omega)) ?_
          refine wp_iaload (v := a) d_X10_isSo_102 (hp_84 _ _ _ _ _) (vp_in_nI (by omega) (by omega)) ((congrArg ((f)) (nI_clamp (by omega))).trans (mstk_top (mstk_tl hmk))) ?_
          refine wp_aload_n 3 d_X10_isSo_103 rfl rfl ?_
          refine wp_getfield (v := .ref (84)) d_X10_isSo_104 gf_X10_19 (hp_80 _ _ _ _ _) rfl ?_
          refine wp_iload 0 d_X10_isSo_107 rfl ?_
          refine wp_iaload (v := b) d_X10_isSo_109 (hp_84 _ _ _ _ _) (vp_in_nI (by omega) (by omega)) ((congrArg ((f)) (nI_clamp (by omega))).trans (mstk_top hmk)) ?_
          refine wp_stc_i (As := [.int ((m.2.1 81) ((97) + (i))), .int (a), .int (b)]) (x0 := kb (mhold ((m.2.1 81) ((97) + (i))) (a) (b) = true)) (h1 := HP c w m (setA v 84 (f)) E) d_X10_isSo_110 lk_X10_104 mv_X10_isHolding st_X10_isHolding (Nat.le_of_ble_eq_true rfl) (Nat.le_of_ble_eq_true rfl) (s_X10_isHolding _ ((m.2.1 81) ((97) + (i))) (a) (b)) ?_
          refine wp_ifb_eq 120 d_X10_isSo_113 rfl (fun c113 => ?_) (fun c113 => ?_)
          · refine wp_iconst (v0 := 0) d_X10_isSo_120 rfl ?_
            refine wp_iastore (h' := HP c w m (setA (setA v 84 (f)) 84 (upd (f) ((u.length + 1) - (1)) (0))) E) d_X10_isSo_121 (hp_84 _ _ _ _ _) (vp_in_nI (by omega) (by omega)) (by rw [nI_clamp (by omega)]; exact (hpa_84 _ _ _ _ _ _)) ?_
            refine wp_iinc (v0 := nI ((i) + 1)) [(5, .int (nI ((i) + 1))), (4, .int (nI (u.length + 1))), (6, .int ((m.2.1 81) ((97) + (i)))), (0, .ref (80)), (1, .int (nI (a0))), (2, .int (nI (e))), (3, .int (nI (l)))] 2 d_X10_isSo_122 rfl (nI_add (i) 1) (Nat.le_of_ble_eq_true rfl) rfl ?_
            refine wp_goto 6 d_X10_isSo_125 rfl ?_
            refine wp_sub [(5, .int (nI ((i) + 1))), (4, .int (nI (u.length + 1))), (0, .ref (80)), (1, .int (nI (a0))), (2, .int (nI (e))), (3, .int (nI (l)))] [0, 1, 3, 4, 5, 6] rfl ?_
            refine wp_h (h' := HP c w m (setA v 84 (upd (f) ((u.length + 1) - (1)) (0))) E) (by simp only [setA_idem]) ?_
            have e8 : kb (mhold ((m.2.1 81) (97 + i)) a b = true) = 0 := kb_f c113
            rw [e8] at hrun
            refine ih k1 (by omega) (i + 1) _ (0 :: u) (by omega) hrun ?_ (by simp only [List.length_cons]; omega)
            have e9 : u.length + 1 - 1 = u.length := by omega
            rw [e9]
            exact mstk_push (mstk_tl (mstk_tl hmk)) _
          · refine wp_iconst (v0 := 1) d_X10_isSo_116 rfl ?_
            refine wp_goto 121 d_X10_isSo_117 rfl ?_
            refine wp_iastore (h' := HP c w m (setA (setA v 84 (f)) 84 (upd (f) ((u.length + 1) - (1)) (1))) E) d_X10_isSo_121 (hp_84 _ _ _ _ _) (vp_in_nI (by omega) (by omega)) (by rw [nI_clamp (by omega)]; exact (hpa_84 _ _ _ _ _ _)) ?_
            refine wp_iinc (v0 := nI ((i) + 1)) [(5, .int (nI ((i) + 1))), (4, .int (nI (u.length + 1))), (6, .int ((m.2.1 81) ((97) + (i)))), (0, .ref (80)), (1, .int (nI (a0))), (2, .int (nI (e))), (3, .int (nI (l)))] 2 d_X10_isSo_122 rfl (nI_add (i) 1) (Nat.le_of_ble_eq_true rfl) rfl ?_
            refine wp_goto 6 d_X10_isSo_125 rfl ?_
            refine wp_sub [(5, .int (nI ((i) + 1))), (4, .int (nI (u.length + 1))), (0, .ref (80)), (1, .int (nI (a0))), (2, .int (nI (e))), (3, .int (nI (l)))] [0, 1, 3, 4, 5, 6] rfl ?_
            refine wp_h (h' := HP c w m (setA v 84 (upd (f) ((u.length + 1) - (1)) (1))) E) (by simp only [setA_idem]) ?_
            have e8 : kb (mhold ((m.2.1 81) (97 + i)) a b = true) = 1 := kb_t c113
            rw [e8] at hrun
            refine ih k1 (by omega) (i + 1) _ (1 :: u) (by omega) hrun ?_ (by simp only [List.length_cons]; omega)
            have e9 : u.length + 1 - 1 = u.length := by omega
            rw [e9]
            exact mstk_push (mstk_tl (mstk_tl hmk)) _
        · simp only [mstep] at hst
          rw [if_neg (Int32.not_lt.mpr c28), if_pos c55] at hst
          obtain ⟨a, t, rfl⟩ : ∃ a t, st = a :: t := by
            cases st with
            | nil => cases hst
            | cons a t => exact ⟨a, t, rfl⟩
          cases hst
          have hl1 : t.length + 1 ≤ 200 := by simpa using hl2
          refine wp_aload_n 3 d_X10_isSo_58 rfl rfl ?_
          refine wp_getfield (v := .ref (84)) d_X10_isSo_59 gf_X10_19 (hp_80 _ _ _ _ _) rfl ?_
          refine wp_iload 2 d_X10_isSo_62 rfl ?_
          refine wp_iconst (v0 := 1) d_X10_isSo_64 rfl ?_
          refine wp_isub d_X10_isSo_65 ?_
          refine wp_v (v0 := nI ((t.length + 1) - (1))) (pk_sub (a := t.length + 1) (b := 1) (by omega)) ?_
          refine wp_iconst (v0 := 1) d_X10_isSo_66 rfl ?_
          refine wp_aload_n 3 d_X10_isSo_67 rfl rfl ?_
          refine wp_getfield (v := .ref (84)) d_X10_isSo_68 gf_X10_19 (hp_80 _ _ _ _ _) rfl ?_
          refine wp_iload 2 d_X10_isSo_71 rfl ?_
          refine wp_iconst (v0 := 1) d_X10_isSo_73 rfl ?_
          refine wp_isub d_X10_isSo_74 ?_
          refine wp_v (v0 := nI ((t.length + 1) - (1))) (pk_sub (a := t.length + 1) (b := 1) (by omega)) ?_
          refine wp_iaload (v := a) d_X10_isSo_75 (hp_84 _ _ _ _ _) (vp_in_nI (by omega) (by omega)) ((congrArg ((f)) (nI_clamp (by omega))).trans (mstk_top (a := a) (t := t) hmk)) ?_
          refine wp_isub d_X10_isSo_76 ?_
          refine wp_iastore (h' := HP c w m (setA (setA v 84 (f)) 84 (upd (f) ((t.length + 1) - (1)) ((1) - (a)))) E) d_X10_isSo_77 (hp_84 _ _ _ _ _) (vp_in_nI (by omega) (by omega)) (by rw [nI_clamp (by omega)]; exact (hpa_84 _ _ _ _ _ _)) ?_
          refine wp_goto 122 d_X10_isSo_78 rfl ?_
          refine wp_iinc (v0 := nI ((i) + 1)) [(5, .int (nI ((i) + 1))), (6, .int ((m.2.1 81) ((97) + (i)))), (4, .int (nI (t.length + 1))), (0, .ref (80)), (1, .int (nI (a0))), (2, .int (nI (e))), (3, .int (nI (l)))] 1 d_X10_isSo_122 rfl (nI_add (i) 1) (Nat.le_of_ble_eq_true rfl) rfl ?_
          refine wp_goto 6 d_X10_isSo_125 rfl ?_
          refine wp_sub [(5, .int (nI ((i) + 1))), (4, .int (nI (t.length + 1))), (0, .ref (80)), (1, .int (nI (a0))), (2, .int (nI (e))), (3, .int (nI (l)))] [0, 2, 3, 4, 5, 6] rfl ?_
          refine wp_h (h' := HP c w m (setA v 84 (upd (f) ((t.length + 1) - (1)) ((1) - (a)))) E) (by simp only [setA_idem]) ?_
          refine ih k1 (by omega) (i + 1) _ ((1 - a) :: t) (by omega) hrun ?_ (by simp only [List.length_cons]; omega)
          have e9 : t.length + 1 - 1 = t.length := by omega
          rw [e9]
          exact mstk_push (mstk_tl hmk) _
      · have c28 := Int32.not_le.mp c28
        simp only [mstep] at hst
        rw [if_pos c28] at hst
        have hlen : st.length < 200 := by
          rcases Nat.lt_or_ge st.length 200 with q | q
          · exact q
          · rw [if_neg (by omega)] at hst; cases hst
        rw [if_pos hlen] at hst
        cases hst
        refine wp_aload_n 3 d_X10_isSo_31 rfl rfl ?_
        refine wp_getfield (v := .ref (84)) d_X10_isSo_32 gf_X10_19 (hp_80 _ _ _ _ _) rfl ?_
        refine wp_iload 2 d_X10_isSo_35 rfl ?_
        refine wp_aload_n 3 d_X10_isSo_37 rfl rfl ?_
        refine wp_iload 0 d_X10_isSo_38 rfl ?_
        refine wp_iload_n 6 d_X10_isSo_40 rfl rfl ?_
        refine wp_vrt_i (As := [.int ((m.2.1 81) ((97) + (i))), .int (nI (l))]) (x0 := mfac (m.2.1 81) (l) ((m.2.1 81) ((97) + (i)))) (h1 := HP c w m (setA v 84 (f)) E) d_X10_isSo_41 lk_X10_101 mv_X10_fact in_X10_fact se_X10_fact (Nat.le_of_ble_eq_true rfl) (Nat.le_of_ble_eq_true rfl) (hp_80 _ _ _ _ _) rfl (s_X10_fact ((m.2.1 81) ((97) + (i))) (l := l) (by omega)) ?_
        refine wp_iastore (h' := HP c w m (setA (setA v 84 (f)) 84 (upd (f) (st.length) (mfac (m.2.1 81) (l) ((m.2.1 81) ((97) + (i)))))) E) d_X10_isSo_44 (hp_84 _ _ _ _ _) (vp_in_nI (by omega) (by omega)) (by rw [nI_clamp (by omega)]; exact (hpa_84 _ _ _ _ _ _)) ?_
        refine wp_iinc (v0 := nI ((st.length) + 1)) [(4, .int (nI ((st.length) + 1))), (6, .int ((m.2.1 81) ((97) + (i)))), (5, .int (nI (i))), (0, .ref (80)), (1, .int (nI (a0))), (2, .int (nI (e))), (3, .int (nI (l)))] 2 d_X10_isSo_45 rfl (nI_add (st.length) 1) (Nat.le_of_ble_eq_true rfl) rfl ?_
        refine wp_goto 122 d_X10_isSo_48 rfl ?_
        refine wp_iinc (v0 := nI ((i) + 1)) [(5, .int (nI ((i) + 1))), (4, .int (nI ((st.length) + 1))), (6, .int ((m.2.1 81) ((97) + (i)))), (0, .ref (80)), (1, .int (nI (a0))), (2, .int (nI (e))), (3, .int (nI (l)))] 2 d_X10_isSo_122 rfl (nI_add (i) 1) (Nat.le_of_ble_eq_true rfl) rfl ?_
        refine wp_goto 6 d_X10_isSo_125 rfl ?_
        refine wp_sub [(5, .int (nI ((i) + 1))), (4, .int (nI ((st.length) + 1))), (0, .ref (80)), (1, .int (nI (a0))), (2, .int (nI (e))), (3, .int (nI (l)))] [0, 1, 3, 4, 5, 6] rfl ?_
        refine wp_h (h' := HP c w m (setA v 84 (upd (f) (st.length) (mfac (m.2.1 81) (l) ((m.2.1 81) ((97) + (i)))))) E) (by simp only [setA_idem]) ?_
        exact ih k1 (by omega) (i + 1) _ _ (by omega) hrun (mstk_push hmk _) (by simp only [List.length_cons]; omega)
theorem s_X10_isSo {X : kX} {d : Nat} {c w m v : kZ} {E : kH} {a0 e l : Nat} (hl : l < 9) (hae : a0 ≤ e) (he : e ≤ 203) (st9 : List Int32) (hfin : st9 = [] ∨ ∃ x, st9 = [x]) (hrun : mrun (mfac (m.2.1 81) l) (m.2.1 81) (e - a0) a0 [] = some st9) : WP X (d + 3) 0 0 Y_X10_isSo 0 [(0, .ref (80)), (1, .int (nI (a0))), (2, .int (nI (e))), (3, .int (nI (l)))] [] (HP c w m v E) (fun r h1 => r = some (.int (kb (msat st9))) ∧ ∃ f1, h1 = HP c w m (setA v 84 f1) E) := by
  refine wp_iconst (v0 := 0) d_X10_isSo_0 rfl ?_
  refine wp_istore [(4, .int (0)), (0, .ref (80)), (1, .int (nI (a0))), (2, .int (nI (e))), (3, .int (nI (l)))] d_X10_isSo_1 (Nat.le_of_ble_eq_true rfl) rfl ?_
  refine wp_iload_n 2 d_X10_isSo_3 rfl rfl ?_
  refine wp_istore [(5, .int (nI (a0))), (4, .int (0)), (0, .ref (80)), (1, .int (nI (a0))), (2, .int (nI (e))), (3, .int (nI (l)))] d_X10_isSo_4 (Nat.le_of_ble_eq_true rfl) rfl ?_
  refine wp_sub [(5, .int (nI (a0))), (4, .int (0)), (0, .ref (80)), (1, .int (nI (a0))), (2, .int (nI (e))), (3, .int (nI (l)))] [0, 1, 2, 3, 4, 5] rfl ?_
  have L := s_X10_isSo_l (X := X) (d := d) (c := c) (w := w) (m := m) (v := v) (E := E) (a0 := a0) (e := e) hl he st9 hfin (e - a0) a0 (v.2.1 84) [] (by omega) hrun (fun i hi => absurd hi (by simp)) (by simp)
  rw [setA_self] at L
  exact L

/-- whether rule from a to e is so of lens l -/
def mhb (s : Nat → Int32) (l a e : Nat) : Bool := match mrun (mfac s l) s (e - a) a [] with
  | some st => decide (msat st)
  | none => false
/-- cnt rules told, the code of rule r from en r to en (r + 1) -/
def mWF (s : Nat → Int32) (cnt : Nat) (en : Nat → Nat) : Prop := en 0 = 0 ∧ ∀ r, r < cnt → s (65 + 4 * r + 3) = nI (en (r + 1)) ∧ en r ≤ en (r + 1) ∧ en (r + 1) ≤ 203 ∧ ∀ fac : Int32 → Int32, ∃ st, mrun fac s (en (r + 1) - en r) (en r) [] = some st ∧ (st = [] ∨ ∃ x, st = [x])
/-- the first rule from r on, of k, that is so -/
def mfind (s : Nat → Int32) (en : Nat → Nat) (l : Nat) (kd : Int32) : Nat → Nat → Option Nat
  | 0, _ => none
  | k + 1, r => if kUnder kd (s (65 + 4 * r + 0)) ∧ mhb s l (en r) (en (r + 1)) = true then some r else mfind s en l kd k (r + 1)
def mchg (b d n : Int32) : Int32 := if d = 0 then b + n else if d = 1 then b - n else if d = 2 then 0 else b
theorem mchg_n (b : Int32) : mchg b (-1) 0 = b := by
  unfold mchg
  rw [if_neg (by decide), if_neg (by decide), if_neg (by decide)]
def mclip (u : Int32) : Int32 := if u < -9 then -9 else if 9 < u then 9 else u
def mbent (s : Nat → Int32) (en : Nat → Nat) (l : Nat) (kd b : Int32) (cnt : Nat) : Int32 := match mfind s en l kd cnt 0 with
  | some r => mchg b (s (65 + 4 * r + 1)) (s (65 + 4 * r + 2))
  | none => b
def mstr (s : Nat → Int32) (en : Nat → Nat) (cnt l : Nat) : Int32 := mclip (kunc (s (9 + 4 * l + 0)) (mbent s en l (s (9 + 4 * l + 0)) (s (9 + 4 * l + 1)) cnt) (s 4))
theorem s_X10_strengthOf_t {X : kX} {d : Nat} {c w m v : kZ} {E : kH} (kd b : Int32) : WP X d 0 0 Y_X10_strengthOf 183 [(7, .int (b)), (2, .int (kd)), (0, .ref (80))] [] (HP c w m v E) (kR (some (.int (mclip (kunc kd b ((m.2.1 81) 4))))) (HP c w m v E)) := by
  refine wp_iload_n 1 d_X10_strengthOf_183 rfl rfl ?_
  refine wp_iconst (v0 := 1) d_X10_strengthOf_184 rfl ?_
  refine wp_icmp_ne 195 d_X10_strengthOf_185 rfl (fun c185 => ?_) (fun c185 => ?_)
  · refine wp_iload_n 1 d_X10_strengthOf_195 rfl rfl ?_
    refine wp_iconst (v0 := 2) d_X10_strengthOf_196 rfl ?_
    refine wp_icmp_ne 212 d_X10_strengthOf_197 rfl (fun c197 => ?_) (fun c197 => ?_)
    · refine wp_iload_n 1 d_X10_strengthOf_212 rfl rfl ?_
      refine wp_iconst (v0 := 3) d_X10_strengthOf_213 rfl ?_
      refine wp_icmp_ne 231 d_X10_strengthOf_214 rfl (fun c214 => ?_) (fun c214 => ?_)
      · refine wp_iload_n 1 d_X10_strengthOf_231 rfl rfl ?_
        refine wp_iconst (v0 := 4) d_X10_strengthOf_232 rfl ?_
        refine wp_icmp_ne 243 d_X10_strengthOf_233 rfl (fun c233 => ?_) (fun c233 => ?_)
        · refine wp_bipush (v0 := -2) d_X10_strengthOf_243 (by decide) ?_
          refine wp_iload 0 d_X10_strengthOf_245 rfl ?_
          refine wp_imul d_X10_strengthOf_247 ?_
          refine wp_istore [(8, .int (((-2)) * (b))), (7, .int (b)), (2, .int (kd)), (0, .ref (80))] d_X10_strengthOf_248 (Nat.le_of_ble_eq_true rfl) rfl ?_
          refine wp_iload 0 d_X10_strengthOf_250 rfl ?_
          refine wp_bipush (v0 := -9) d_X10_strengthOf_252 (by decide) ?_
          refine wp_icmp_ge 262 d_X10_strengthOf_254 rfl (fun c254 => ?_) (fun c254 => ?_)
          · refine wp_iload 0 d_X10_strengthOf_262 rfl ?_
            refine wp_bipush (v0 := 9) d_X10_strengthOf_264 (by decide) ?_
            refine wp_icmp_le 274 d_X10_strengthOf_266 rfl (fun c266 => ?_) (fun c266 => ?_)
            · refine wp_iload 0 d_X10_strengthOf_274 rfl ?_
              refine wp_reti d_X10_strengthOf_276 rfl ?_
              refine kR_i ?_ rfl
              simp_all [mclip, kunc]
              rw [if_neg (Int32.not_lt.mpr c254), if_neg (Int32.not_lt.mpr c266)]
            · refine wp_bipush (v0 := 9) d_X10_strengthOf_269 (by decide) ?_
              refine wp_goto 276 d_X10_strengthOf_271 rfl ?_
              refine wp_reti d_X10_strengthOf_276 rfl ?_
              refine kR_i ?_ rfl
              simp_all [mclip, kunc]
          · refine wp_bipush (v0 := -9) d_X10_strengthOf_257 (by decide) ?_
            refine wp_goto 276 d_X10_strengthOf_259 rfl ?_
            refine wp_reti d_X10_strengthOf_276 rfl ?_
            refine kR_i ?_ rfl
            simp_all [mclip, kunc]
        · refine wp_iconst (v0 := 2) d_X10_strengthOf_236 rfl ?_
          refine wp_iload 0 d_X10_strengthOf_237 rfl ?_
          refine wp_imul d_X10_strengthOf_239 ?_
          refine wp_goto 248 d_X10_strengthOf_240 rfl ?_
          refine wp_istore [(8, .int ((2) * (b))), (7, .int (b)), (2, .int (kd)), (0, .ref (80))] d_X10_strengthOf_248 (Nat.le_of_ble_eq_true rfl) rfl ?_
          refine wp_iload 0 d_X10_strengthOf_250 rfl ?_
          refine wp_bipush (v0 := -9) d_X10_strengthOf_252 (by decide) ?_
          refine wp_icmp_ge 262 d_X10_strengthOf_254 rfl (fun c254 => ?_) (fun c254 => ?_)
          · refine wp_iload 0 d_X10_strengthOf_262 rfl ?_
            refine wp_bipush (v0 := 9) d_X10_strengthOf_264 (by decide) ?_
            refine wp_icmp_le 274 d_X10_strengthOf_266 rfl (fun c266 => ?_) (fun c266 => ?_)
            · refine wp_iload 0 d_X10_strengthOf_274 rfl ?_
              refine wp_reti d_X10_strengthOf_276 rfl ?_
              refine kR_i ?_ rfl
              simp_all [mclip, kunc]
              rw [if_neg (Int32.not_lt.mpr c254), if_neg (Int32.not_lt.mpr c266)]
            · refine wp_bipush (v0 := 9) d_X10_strengthOf_269 (by decide) ?_
              refine wp_goto 276 d_X10_strengthOf_271 rfl ?_
              refine wp_reti d_X10_strengthOf_276 rfl ?_
              refine kR_i ?_ rfl
              simp_all [mclip, kunc]
          · refine wp_bipush (v0 := -9) d_X10_strengthOf_257 (by decide) ?_
            refine wp_goto 276 d_X10_strengthOf_259 rfl ?_
            refine wp_reti d_X10_strengthOf_276 rfl ?_
            refine kR_i ?_ rfl
            simp_all [mclip, kunc]
      · refine wp_iload 0 d_X10_strengthOf_217 rfl ?_
        refine wp_aload_n 2 d_X10_strengthOf_219 rfl rfl ?_
        refine wp_getfield (v := .ref (81)) d_X10_strengthOf_220 gf_X10_7 (hp_80 _ _ _ _ _) rfl ?_
        refine wp_iconst (v0 := 4) d_X10_strengthOf_223 rfl ?_
        refine wp_iaload (v := (m.2.1 81) (4)) d_X10_strengthOf_224 (hp_81 _ _ _ _ _) (kin rfl) rfl ?_
        refine wp_iadd d_X10_strengthOf_225 ?_
        refine wp_iconst (v0 := 1) d_X10_strengthOf_226 rfl ?_
        refine wp_isub d_X10_strengthOf_227 ?_
        refine wp_goto 248 d_X10_strengthOf_228 rfl ?_
        refine wp_istore [(8, .int (((b) + ((m.2.1 81) (4))) - (1))), (7, .int (b)), (2, .int (kd)), (0, .ref (80))] d_X10_strengthOf_248 (Nat.le_of_ble_eq_true rfl) rfl ?_
        refine wp_iload 0 d_X10_strengthOf_250 rfl ?_
        refine wp_bipush (v0 := -9) d_X10_strengthOf_252 (by decide) ?_
        refine wp_icmp_ge 262 d_X10_strengthOf_254 rfl (fun c254 => ?_) (fun c254 => ?_)
        · refine wp_iload 0 d_X10_strengthOf_262 rfl ?_
          refine wp_bipush (v0 := 9) d_X10_strengthOf_264 (by decide) ?_
          refine wp_icmp_le 274 d_X10_strengthOf_266 rfl (fun c266 => ?_) (fun c266 => ?_)
          · refine wp_iload 0 d_X10_strengthOf_274 rfl ?_
            refine wp_reti d_X10_strengthOf_276 rfl ?_
            refine kR_i ?_ rfl
            simp_all [mclip, kunc]
            rw [if_neg (Int32.not_lt.mpr c254), if_neg (Int32.not_lt.mpr c266)]
          · refine wp_bipush (v0 := 9) d_X10_strengthOf_269 (by decide) ?_
            refine wp_goto 276 d_X10_strengthOf_271 rfl ?_
            refine wp_reti d_X10_strengthOf_276 rfl ?_
            refine kR_i ?_ rfl
            simp_all [mclip, kunc]
        · refine wp_bipush (v0 := -9) d_X10_strengthOf_257 (by decide) ?_
          refine wp_goto 276 d_X10_strengthOf_259 rfl ?_
          refine wp_reti d_X10_strengthOf_276 rfl ?_
          refine kR_i ?_ rfl
          simp_all [mclip, kunc]
    · refine wp_iload 0 d_X10_strengthOf_200 rfl ?_
      refine wp_aload_n 2 d_X10_strengthOf_202 rfl rfl ?_
      refine wp_getfield (v := .ref (81)) d_X10_strengthOf_203 gf_X10_7 (hp_80 _ _ _ _ _) rfl ?_
      refine wp_iconst (v0 := 4) d_X10_strengthOf_206 rfl ?_
      refine wp_iaload (v := (m.2.1 81) (4)) d_X10_strengthOf_207 (hp_81 _ _ _ _ _) (kin rfl) rfl ?_
      refine wp_iadd d_X10_strengthOf_208 ?_
      refine wp_goto 248 d_X10_strengthOf_209 rfl ?_
      refine wp_istore [(8, .int ((b) + ((m.2.1 81) (4)))), (7, .int (b)), (2, .int (kd)), (0, .ref (80))] d_X10_strengthOf_248 (Nat.le_of_ble_eq_true rfl) rfl ?_
      refine wp_iload 0 d_X10_strengthOf_250 rfl ?_
      refine wp_bipush (v0 := -9) d_X10_strengthOf_252 (by decide) ?_
      refine wp_icmp_ge 262 d_X10_strengthOf_254 rfl (fun c254 => ?_) (fun c254 => ?_)
      · refine wp_iload 0 d_X10_strengthOf_262 rfl ?_
        refine wp_bipush (v0 := 9) d_X10_strengthOf_264 (by decide) ?_
        refine wp_icmp_le 274 d_X10_strengthOf_266 rfl (fun c266 => ?_) (fun c266 => ?_)
        · refine wp_iload 0 d_X10_strengthOf_274 rfl ?_
          refine wp_reti d_X10_strengthOf_276 rfl ?_
          refine kR_i ?_ rfl
          simp_all [mclip, kunc]
          rw [if_neg (Int32.not_lt.mpr c254), if_neg (Int32.not_lt.mpr c266)]
        · refine wp_bipush (v0 := 9) d_X10_strengthOf_269 (by decide) ?_
          refine wp_goto 276 d_X10_strengthOf_271 rfl ?_
          refine wp_reti d_X10_strengthOf_276 rfl ?_
          refine kR_i ?_ rfl
          simp_all [mclip, kunc]
      · refine wp_bipush (v0 := -9) d_X10_strengthOf_257 (by decide) ?_
        refine wp_goto 276 d_X10_strengthOf_259 rfl ?_
        refine wp_reti d_X10_strengthOf_276 rfl ?_
        refine kR_i ?_ rfl
        simp_all [mclip, kunc]
  · refine wp_iload 0 d_X10_strengthOf_188 rfl ?_
    refine wp_iconst (v0 := 2) d_X10_strengthOf_190 rfl ?_
    refine wp_idiv d_X10_strengthOf_191 (by decide) ?_
    refine wp_goto 248 d_X10_strengthOf_192 rfl ?_
    refine wp_istore [(8, .int ((b) / (2))), (7, .int (b)), (2, .int (kd)), (0, .ref (80))] d_X10_strengthOf_248 (Nat.le_of_ble_eq_true rfl) rfl ?_
    refine wp_iload 0 d_X10_strengthOf_250 rfl ?_
    refine wp_bipush (v0 := -9) d_X10_strengthOf_252 (by decide) ?_
    refine wp_icmp_ge 262 d_X10_strengthOf_254 rfl (fun c254 => ?_) (fun c254 => ?_)
    · refine wp_iload 0 d_X10_strengthOf_262 rfl ?_
      refine wp_bipush (v0 := 9) d_X10_strengthOf_264 (by decide) ?_
      refine wp_icmp_le 274 d_X10_strengthOf_266 rfl (fun c266 => ?_) (fun c266 => ?_)
      · refine wp_iload 0 d_X10_strengthOf_274 rfl ?_
        refine wp_reti d_X10_strengthOf_276 rfl ?_
        refine kR_i ?_ rfl
        simp_all [mclip, kunc]
        rw [if_neg (Int32.not_lt.mpr c254), if_neg (Int32.not_lt.mpr c266)]
      · refine wp_bipush (v0 := 9) d_X10_strengthOf_269 (by decide) ?_
        refine wp_goto 276 d_X10_strengthOf_271 rfl ?_
        refine wp_reti d_X10_strengthOf_276 rfl ?_
        refine kR_i ?_ rfl
        simp_all [mclip, kunc]
    · refine wp_bipush (v0 := -9) d_X10_strengthOf_257 (by decide) ?_
      refine wp_goto 276 d_X10_strengthOf_259 rfl ?_
      refine wp_reti d_X10_strengthOf_276 rfl ?_
      refine kR_i ?_ rfl
      simp_all [mclip, kunc]
theorem s_X10_strengthOf_m {X : kX} {d : Nat} {c w m v : kZ} {E : kH} (kd b e f : Int32) : WP X d 0 0 Y_X10_strengthOf 142 [(5, .int (e)), (6, .int (f)), (7, .int (b)), (2, .int (kd)), (0, .ref (80))] [] (HP c w m v E) (kR (some (.int (mclip (kunc kd (mchg b e f) ((m.2.1 81) 4))))) (HP c w m v E)) := by
  refine wp_iload 0 d_X10_strengthOf_142 rfl ?_
  refine wp_if_ne 155 d_X10_strengthOf_144 rfl (fun c144 => ?_) (fun c144 => ?_)
  · refine wp_iload 0 d_X10_strengthOf_155 rfl ?_
    refine wp_iconst (v0 := 1) d_X10_strengthOf_157 rfl ?_
    refine wp_icmp_ne 169 d_X10_strengthOf_158 rfl (fun c158 => ?_) (fun c158 => ?_)
    · refine wp_iload 0 d_X10_strengthOf_169 rfl ?_
      refine wp_iconst (v0 := 2) d_X10_strengthOf_171 rfl ?_
      refine wp_icmp_ne 179 d_X10_strengthOf_172 rfl (fun c172 => ?_) (fun c172 => ?_)
      · refine wp_iload 2 d_X10_strengthOf_179 rfl ?_
        refine wp_istore [(7, .int (b)), (5, .int (e)), (6, .int (f)), (2, .int (kd)), (0, .ref (80))] d_X10_strengthOf_181 (Nat.le_of_ble_eq_true rfl) rfl ?_
        rw [show mchg b e f = b by simp_all [mchg]]
        refine wp_sub [(7, .int (b)), (2, .int (kd)), (0, .ref (80))] [0, 3, 4] rfl ?_
        exact s_X10_strengthOf_t kd _
      · refine wp_iconst (v0 := 0) d_X10_strengthOf_175 rfl ?_
        refine wp_goto 181 d_X10_strengthOf_176 rfl ?_
        refine wp_istore [(7, .int (0)), (5, .int (e)), (6, .int (f)), (2, .int (kd)), (0, .ref (80))] d_X10_strengthOf_181 (Nat.le_of_ble_eq_true rfl) rfl ?_
        rw [show mchg b e f = 0 by simp_all [mchg]]
        refine wp_sub [(7, .int (0)), (2, .int (kd)), (0, .ref (80))] [0, 3, 4] rfl ?_
        exact s_X10_strengthOf_t kd _
    · refine wp_iload 2 d_X10_strengthOf_161 rfl ?_
      refine wp_iload 1 d_X10_strengthOf_163 rfl ?_
      refine wp_isub d_X10_strengthOf_165 ?_
      refine wp_goto 181 d_X10_strengthOf_166 rfl ?_
      refine wp_istore [(7, .int ((b) - (f))), (5, .int (e)), (6, .int (f)), (2, .int (kd)), (0, .ref (80))] d_X10_strengthOf_181 (Nat.le_of_ble_eq_true rfl) rfl ?_
      rw [show mchg b e f = (b) - (f) by simp_all [mchg]]
      refine wp_sub [(7, .int ((b) - (f))), (2, .int (kd)), (0, .ref (80))] [0, 3, 4] rfl ?_
      exact s_X10_strengthOf_t kd _
  · refine wp_iload 2 d_X10_strengthOf_147 rfl ?_
    refine wp_iload 1 d_X10_strengthOf_149 rfl ?_
    refine wp_iadd d_X10_strengthOf_151 ?_
    refine wp_goto 181 d_X10_strengthOf_152 rfl ?_
    refine wp_istore [(7, .int ((b) + (f))), (5, .int (e)), (6, .int (f)), (2, .int (kd)), (0, .ref (80))] d_X10_strengthOf_181 (Nat.le_of_ble_eq_true rfl) rfl ?_
    rw [show mchg b e f = (b) + (f) by simp_all [mchg]]
    refine wp_sub [(7, .int ((b) + (f))), (2, .int (kd)), (0, .ref (80))] [0, 3, 4] rfl ?_
    exact s_X10_strengthOf_t kd _
theorem s_X10_isSo_r {X : kX} {d : Nat} {c w m v : kZ} {E : kH} {cnt l r : Nat} {en : Nat → Nat} (hm : mWF (m.2.1 81) cnt en) (hr : r < cnt) (hl : l < 9) : WP X (d + 3) 0 0 Y_X10_isSo 0 [(0, .ref 80), (1, .int (nI (en r))), (2, .int (nI (en (r + 1)))), (3, .int (nI l))] [] (HP c w m v E) (fun r1 h1 => r1 = some (.int (kb (mhb (m.2.1 81) l (en r) (en (r + 1)) = true))) ∧ ∃ f1, h1 = HP c w m (setA v 84 f1) E) := by
  obtain ⟨-, h2, h3, h4⟩ := hm.2 r hr
  obtain ⟨st, hst, hfin⟩ := h4 (mfac (m.2.1 81) l)
  have L := s_X10_isSo (X := X) (d := d) (c := c) (w := w) (m := m) (v := v) (E := E) hl h2 h3 st hfin hst
  have e : (mhb (m.2.1 81) l (en r) (en (r + 1)) = true) ↔ msat st := by unfold mhb; rw [hst]; simp
  rw [kb_iff e]
  exact L
theorem mWF.mon {s : Nat → Int32} {cnt : Nat} {en : Nat → Nat} (h : mWF s cnt en) : ∀ r, r ≤ cnt → en r ≤ 203 := by
  intro r hr
  cases r with
  | zero => rw [h.1]; decide
  | succ r => exact (h.2 r (by omega)).2.2.1
theorem s_X10_strengthOf_f {X : kX} {d : Nat} {c w m v : kZ} {E : kH} {l r : Nat} (hl : l < 9) (hr : r < 8) (kd x5 x4 : Int32) : WP X (d + 3) 0 0 Y_X10_strengthOf 98 [(5, .int (x5)), (4, .int (x4)), (3, .int (nI (65 + 4 * r))), (2, .int (kd)), (0, .ref (80)), (1, .int (nI (l)))] [] (HP c w m v E) (kR (some (.int (mclip (kunc kd (mchg ((m.2.1 81) (9 + 4 * l + 1)) ((m.2.1 81) (65 + 4 * r + 1)) ((m.2.1 81) (65 + 4 * r + 2))) ((m.2.1 81) 4))))) (HP c w m v E)) := by
  refine wp_iload_n 2 d_X10_strengthOf_98 rfl rfl ?_
  refine wp_nif_ge (a := 65 + 4 * r) 106 d_X10_strengthOf_99 rfl (by omega) ?_
  refine wp_aload_n 4 d_X10_strengthOf_106 rfl rfl ?_
  refine wp_getfield (v := .ref (81)) d_X10_strengthOf_107 gf_X10_7 (hp_80 _ _ _ _ _) rfl ?_
  refine wp_iload_n 2 d_X10_strengthOf_110 rfl rfl ?_
  refine wp_iconst (v0 := 1) d_X10_strengthOf_111 rfl ?_
  refine wp_iadd d_X10_strengthOf_112 ?_
  refine wp_v (v0 := nI ((65 + 4 * r) + (1))) (nI_add (65 + 4 * r) (1)) ?_
  refine wp_iaload (v := (m.2.1 81) ((65 + 4 * r) + (1))) d_X10_strengthOf_113 (hp_81 _ _ _ _ _) (vp_in_nI (by omega) (by omega)) (congrArg ((m.2.1 81)) (nI_clamp (by omega))) ?_
  refine wp_istore [(5, .int ((m.2.1 81) ((65 + 4 * r) + (1)))), (4, .int (x4)), (3, .int (nI (65 + 4 * r))), (2, .int (kd)), (0, .ref (80)), (1, .int (nI (l)))] d_X10_strengthOf_114 (Nat.le_of_ble_eq_true rfl) rfl ?_
  refine wp_iload_n 2 d_X10_strengthOf_116 rfl rfl ?_
  refine wp_nif_ge (a := 65 + 4 * r) 124 d_X10_strengthOf_117 rfl (by omega) ?_
  refine wp_aload_n 4 d_X10_strengthOf_124 rfl rfl ?_
  refine wp_getfield (v := .ref (81)) d_X10_strengthOf_125 gf_X10_7 (hp_80 _ _ _ _ _) rfl ?_
  refine wp_iload_n 2 d_X10_strengthOf_128 rfl rfl ?_
  refine wp_iconst (v0 := 2) d_X10_strengthOf_129 rfl ?_
  refine wp_iadd d_X10_strengthOf_130 ?_
  refine wp_v (v0 := nI ((65 + 4 * r) + (2))) (nI_add (65 + 4 * r) (2)) ?_
  refine wp_iaload (v := (m.2.1 81) ((65 + 4 * r) + (2))) d_X10_strengthOf_131 (hp_81 _ _ _ _ _) (vp_in_nI (by omega) (by omega)) (congrArg ((m.2.1 81)) (nI_clamp (by omega))) ?_
  refine wp_istore [(6, .int ((m.2.1 81) ((65 + 4 * r) + (2)))), (5, .int ((m.2.1 81) ((65 + 4 * r) + (1)))), (4, .int (x4)), (3, .int (nI (65 + 4 * r))), (2, .int (kd)), (0, .ref (80)), (1, .int (nI (l)))] d_X10_strengthOf_132 (Nat.le_of_ble_eq_true rfl) rfl ?_
  refine wp_aload_n 5 d_X10_strengthOf_134 rfl rfl ?_
  refine wp_iload_n 6 d_X10_strengthOf_135 rfl rfl ?_
  refine wp_iconst (v0 := 1) d_X10_strengthOf_136 rfl ?_
  refine wp_vrt_i (As := [.int (nI (l)), .int (1)]) (x0 := (m.2.1 81) (9 + 4 * (l) + (1))) (h1 := HP c w m v E) d_X10_strengthOf_137 lk_X10_98 mv_X10_its in_X10_its se_X10_its (Nat.le_of_ble_eq_true rfl) (Nat.le_of_ble_eq_true rfl) (hp_80 _ _ _ _ _) rfl (s_X10_its (j := l) (u := 1) (by omega) (by omega)) ?_
  refine wp_istore [(7, .int ((m.2.1 81) (9 + 4 * (l) + (1)))), (6, .int ((m.2.1 81) ((65 + 4 * r) + (2)))), (5, .int ((m.2.1 81) ((65 + 4 * r) + (1)))), (4, .int (x4)), (3, .int (nI (65 + 4 * r))), (2, .int (kd)), (0, .ref (80)), (1, .int (nI (l)))] d_X10_strengthOf_140 (Nat.le_of_ble_eq_true rfl) rfl ?_
  refine wp_sub [(5, .int ((m.2.1 81) ((65 + 4 * r) + (1)))), (6, .int ((m.2.1 81) ((65 + 4 * r) + (2)))), (7, .int ((m.2.1 81) (9 + 4 * (l) + (1)))), (2, .int (kd)), (0, .ref (80))] [2, 1, 0, 5, 6] rfl ?_
  exact s_X10_strengthOf_m _ _ _ _
theorem s_X10_strengthOf_n {X : kX} {d : Nat} {c w m v : kZ} {E : kH} {l : Nat} (hl : l < 9) (kd x5 x4 : Int32) : WP X (d + 3) 0 0 Y_X10_strengthOf 98 [(5, .int (x5)), (4, .int (x4)), (3, .int ((-1))), (2, .int (kd)), (0, .ref (80)), (1, .int (nI (l)))] [] (HP c w m v E) (kR (some (.int (mclip (kunc kd ((m.2.1 81) (9 + 4 * l + 1)) ((m.2.1 81) 4))))) (HP c w m v E)) := by
  refine wp_iload_n 2 d_X10_strengthOf_98 rfl rfl ?_
  refine wp_if_ge 106 d_X10_strengthOf_99 rfl (fun z => absurd z (by decide)) (fun _ => ?_)
  refine wp_iconst (v0 := -1) d_X10_strengthOf_102 rfl ?_
  refine wp_goto 114 d_X10_strengthOf_103 rfl ?_
  refine wp_istore [(5, .int ((-1))), (4, .int (x4)), (3, .int ((-1))), (2, .int (kd)), (0, .ref (80)), (1, .int (nI (l)))] d_X10_strengthOf_114 (Nat.le_of_ble_eq_true rfl) rfl ?_
  refine wp_iload_n 2 d_X10_strengthOf_116 rfl rfl ?_
  refine wp_if_ge 124 d_X10_strengthOf_117 rfl (fun z => absurd z (by decide)) (fun _ => ?_)
  refine wp_iconst (v0 := 0) d_X10_strengthOf_120 rfl ?_
  refine wp_goto 132 d_X10_strengthOf_121 rfl ?_
  refine wp_istore [(6, .int (0)), (5, .int ((-1))), (4, .int (x4)), (3, .int ((-1))), (2, .int (kd)), (0, .ref (80)), (1, .int (nI (l)))] d_X10_strengthOf_132 (Nat.le_of_ble_eq_true rfl) rfl ?_
  refine wp_aload_n 5 d_X10_strengthOf_134 rfl rfl ?_
  refine wp_iload_n 6 d_X10_strengthOf_135 rfl rfl ?_
  refine wp_iconst (v0 := 1) d_X10_strengthOf_136 rfl ?_
  refine wp_vrt_i (As := [.int (nI (l)), .int (1)]) (x0 := (m.2.1 81) (9 + 4 * (l) + (1))) (h1 := HP c w m v E) d_X10_strengthOf_137 lk_X10_98 mv_X10_its in_X10_its se_X10_its (Nat.le_of_ble_eq_true rfl) (Nat.le_of_ble_eq_true rfl) (hp_80 _ _ _ _ _) rfl (s_X10_its (j := l) (u := 1) (by omega) (by omega)) ?_
  refine wp_istore [(7, .int ((m.2.1 81) (9 + 4 * (l) + (1)))), (6, .int (0)), (5, .int ((-1))), (4, .int (x4)), (3, .int ((-1))), (2, .int (kd)), (0, .ref (80)), (1, .int (nI (l)))] d_X10_strengthOf_140 (Nat.le_of_ble_eq_true rfl) rfl ?_
  refine wp_sub [(5, .int ((-1))), (6, .int (0)), (7, .int ((m.2.1 81) (9 + 4 * (l) + (1)))), (2, .int (kd)), (0, .ref (80))] [2, 1, 0, 5, 6] rfl ?_
  rw [← mchg_n ((m.2.1 81) (9 + 4 * l + 1))]
  exact s_X10_strengthOf_m _ _ _ _
theorem s_X10_strengthOf_l {X : kX} {d : Nat} {c w m v : kZ} {E : kH} {l cnt : Nat} (hl : l < 9) (hs1 : (m.2.1 81) 1 = nI cnt) (hc8 : cnt ≤ 8) {en : Nat → Nat} (hm : mWF (m.2.1 81) cnt en) (kd : Int32) : ∀ (k : Nat) (i : Nat) (f : Nat → Int32), (i + k = cnt) → WP X (d + 6) 0 0 Y_X10_strengthOf 15 [(5, .int (nI (i))), (4, .int (nI (en i))), (3, .int ((-1))), (2, .int (kd)), (0, .ref (80)), (1, .int (nI (l)))] [] (HP c w m (setA v 84 (f)) E) (fun r1 h1 => r1 = some (.int (mclip (kunc kd (match mfind (m.2.1 81) en l kd k i with | some r => mchg ((m.2.1 81) (9 + 4 * l + 1)) ((m.2.1 81) (65 + 4 * r + 1)) ((m.2.1 81) (65 + 4 * r + 2)) | none => ((m.2.1 81) (9 + 4 * l + 1))) ((m.2.1 81) 4)))) ∧ ∃ f1, h1 = HP c w m (setA v 84 f1) E) := by
  intro k
  induction k using Nat.strongRecOn with
  | ind k ih =>
    intro i f hi
    refine wp_iload 0 d_X10_strengthOf_15 rfl ?_
    refine wp_aload_n 4 d_X10_strengthOf_17 rfl rfl ?_
    refine wp_getfield (v := .ref (81)) d_X10_strengthOf_18 gf_X10_7 (hp_80 _ _ _ _ _) rfl ?_
    refine wp_iconst (v0 := 1) d_X10_strengthOf_21 rfl ?_
    refine wp_iaload (v := nI (cnt)) d_X10_strengthOf_22 (hp_81 _ _ _ _ _) (kin rfl) hs1 ?_
    refine wp_ncmp_ge (a := i) (b := cnt) 98 d_X10_strengthOf_23 rfl (by omega) (by omega) (fun c23 => ?_) (fun c23 => ?_)
    · obtain rfl : k = 0 := by omega
      simp only [mfind]
      refine wp_sub [(5, .int (nI (i))), (4, .int (nI (en i))), (3, .int ((-1))), (2, .int (kd)), (0, .ref (80)), (1, .int (nI (l)))] [0, 1, 2, 3, 4, 5] rfl ?_
      refine wp_mono ?_ (s_X10_strengthOf_n hl kd _ _)
      rintro r1 h1 ⟨rfl, rfl⟩
      exact ⟨rfl, _, rfl⟩
    · refine wp_iload_n 2 d_X10_strengthOf_26 rfl rfl ?_
      refine wp_if_ge 98 d_X10_strengthOf_27 rfl (fun z => absurd z (by decide)) (fun _ => ?_)
      obtain ⟨k1, rfl⟩ : ∃ k1, k = k1 + 1 := ⟨k - 1, by omega⟩
      have hen := hm.mon (i + 1) (by omega)
      refine wp_bipush (v0 := 65) d_X10_strengthOf_30 (by decide) ?_
      refine wp_iconst (v0 := 4) d_X10_strengthOf_32 rfl ?_
      refine wp_iload 0 d_X10_strengthOf_33 rfl ?_
      refine wp_imul d_X10_strengthOf_35 ?_
      refine wp_v (v0 := nI ((4) * (i))) (pk_mul (4) (i)) ?_
      refine wp_iadd d_X10_strengthOf_36 ?_
      refine wp_v (v0 := nI ((65) + ((4) * (i)))) (nI_add (65) ((4) * (i))) ?_
      refine wp_istore [(6, .int (nI ((65) + ((4) * (i))))), (5, .int (nI (i))), (4, .int (nI (en i))), (3, .int ((-1))), (2, .int (kd)), (0, .ref (80)), (1, .int (nI (l)))] d_X10_strengthOf_37 (Nat.le_of_ble_eq_true rfl) rfl ?_
      refine wp_iload_n 4 d_X10_strengthOf_39 rfl rfl ?_
      refine wp_aload_n 5 d_X10_strengthOf_40 rfl rfl ?_
      refine wp_getfield (v := .ref (81)) d_X10_strengthOf_41 gf_X10_7 (hp_80 _ _ _ _ _) rfl ?_
      refine wp_iload 0 d_X10_strengthOf_44 rfl ?_
      refine wp_iconst (v0 := 0) d_X10_strengthOf_46 rfl ?_
      refine wp_iadd d_X10_strengthOf_47 ?_
      refine wp_v (v0 := nI (((65) + ((4) * (i))) + (0))) (nI_add ((65) + ((4) * (i))) (0)) ?_
      refine wp_iaload (v := (m.2.1 81) (((65) + ((4) * (i))) + (0))) d_X10_strengthOf_48 (hp_81 _ _ _ _ _) (vp_in_nI (by omega) (by omega)) (congrArg ((m.2.1 81)) (nI_clamp (by omega))) ?_
      refine wp_stc_i (As := [.int (kd), .int ((m.2.1 81) (((65) + ((4) * (i))) + (0)))]) (x0 := kb (kUnder (kd) ((m.2.1 81) (((65) + ((4) * (i))) + (0))))) (h1 := HP c w m (setA v 84 (f)) E) d_X10_strengthOf_49 lk_X10_108 mv_X10_isUnder st_X10_isUnder (Nat.le_of_ble_eq_true rfl) (Nat.le_of_ble_eq_true rfl) (s_X10_isUnder _ (kd) ((m.2.1 81) (((65) + ((4) * (i))) + (0)))) ?_
      refine wp_ifb_eq 79 d_X10_strengthOf_52 rfl (fun c52 => ?_) (fun c52 => ?_)
      · refine wp_iconst (v0 := -1) d_X10_strengthOf_79 rfl ?_
        refine wp_istore_n [(3, .int ((-1))), (6, .int (nI ((65) + ((4) * (i))))), (5, .int (nI (i))), (4, .int (nI (en i))), (2, .int (kd)), (0, .ref (80)), (1, .int (nI (l)))] d_X10_strengthOf_80 rfl (Nat.le_of_ble_eq_true rfl) rfl ?_
        refine wp_aload_n 5 d_X10_strengthOf_81 rfl rfl ?_
        refine wp_getfield (v := .ref (81)) d_X10_strengthOf_82 gf_X10_7 (hp_80 _ _ _ _ _) rfl ?_
        refine wp_iload 1 d_X10_strengthOf_85 rfl ?_
        refine wp_iconst (v0 := 3) d_X10_strengthOf_87 rfl ?_
        refine wp_iadd d_X10_strengthOf_88 ?_
        refine wp_v (v0 := nI (((65) + ((4) * (i))) + (3))) (nI_add ((65) + ((4) * (i))) (3)) ?_
        refine wp_iaload (v := nI (en (i + 1))) d_X10_strengthOf_89 (hp_81 _ _ _ _ _) (vp_in_nI (by omega) (by omega)) ((congrArg ((m.2.1 81)) (nI_clamp (by omega))).trans (hm.2 (i) (by omega)).1) ?_
        refine wp_istore [(4, .int (nI (en (i + 1)))), (3, .int ((-1))), (6, .int (nI ((65) + ((4) * (i))))), (5, .int (nI (i))), (2, .int (kd)), (0, .ref (80)), (1, .int (nI (l)))] d_X10_strengthOf_90 (Nat.le_of_ble_eq_true rfl) rfl ?_
        refine wp_iinc (v0 := nI ((i) + 1)) [(5, .int (nI ((i) + 1))), (4, .int (nI (en (i + 1)))), (3, .int ((-1))), (6, .int (nI ((65) + ((4) * (i))))), (2, .int (kd)), (0, .ref (80)), (1, .int (nI (l)))] 3 d_X10_strengthOf_92 rfl (nI_add (i) 1) (Nat.le_of_ble_eq_true rfl) rfl ?_
        refine wp_goto 15 d_X10_strengthOf_95 rfl ?_
        refine wp_sub [(5, .int (nI ((i) + 1))), (4, .int (nI (en (i + 1)))), (3, .int ((-1))), (2, .int (kd)), (0, .ref (80)), (1, .int (nI (l)))] [0, 1, 2, 4, 5, 6] rfl ?_
        have e9 : mfind (m.2.1 81) en l kd (k1 + 1) i = mfind (m.2.1 81) en l kd k1 (i + 1) := by
          simp only [mfind]
          rw [if_neg]
          rintro ⟨q1, q2⟩
          first | exact c52 q1 | exact c71 q2
        rw [e9]
        exact ih k1 (by omega) (i + 1) _ (by omega)
      · refine wp_aload_n 5 d_X10_strengthOf_55 rfl rfl ?_
        refine wp_iload 2 d_X10_strengthOf_56 rfl ?_
        refine wp_aload_n 5 d_X10_strengthOf_58 rfl rfl ?_
        refine wp_getfield (v := .ref (81)) d_X10_strengthOf_59 gf_X10_7 (hp_80 _ _ _ _ _) rfl ?_
        refine wp_iload 0 d_X10_strengthOf_62 rfl ?_
        refine wp_iconst (v0 := 3) d_X10_strengthOf_64 rfl ?_
        refine wp_iadd d_X10_strengthOf_65 ?_
        refine wp_v (v0 := nI (((65) + ((4) * (i))) + (3))) (nI_add ((65) + ((4) * (i))) (3)) ?_
        refine wp_iaload (v := nI (en (i + 1))) d_X10_strengthOf_66 (hp_81 _ _ _ _ _) (vp_in_nI (by omega) (by omega)) ((congrArg ((m.2.1 81)) (nI_clamp (by omega))).trans (hm.2 (i) (by omega)).1) ?_
        refine wp_iload_n 6 d_X10_strengthOf_67 rfl rfl ?_
        refine wp_virtual0 (As := [.int (nI (en i)), .int (nI (en (i + 1))), .int (nI (l))]) d_X10_strengthOf_68 lk_X10_111 mv_X10_isSo in_X10_isSo se_X10_isSo (Nat.le_of_ble_eq_true rfl) (Nat.le_of_ble_eq_true rfl) (hp_80 _ _ _ _ _) rfl (s_X10_isSo_r (l := l) (r := i) hm (by omega) hl) (fun v68 h68 q68 => ?_)
        obtain ⟨rfl, f1, rfl⟩ := q68
        rw [setA_idem]
        show WP _ _ _ _ _ 71 _ [.int (kb (mhb (m.2.1 81) l (en i) (en (i + 1)) = true))] (HP c w m (setA v 84 (f1)) E) _
        refine wp_ifb_eq 79 d_X10_strengthOf_71 rfl (fun c71 => ?_) (fun c71 => ?_)
        · refine wp_iconst (v0 := -1) d_X10_strengthOf_79 rfl ?_
          refine wp_istore_n [(3, .int ((-1))), (6, .int (nI ((65) + ((4) * (i))))), (5, .int (nI (i))), (4, .int (nI (en i))), (2, .int (kd)), (0, .ref (80)), (1, .int (nI (l)))] d_X10_strengthOf_80 rfl (Nat.le_of_ble_eq_true rfl) rfl ?_
          refine wp_aload_n 5 d_X10_strengthOf_81 rfl rfl ?_
          refine wp_getfield (v := .ref (81)) d_X10_strengthOf_82 gf_X10_7 (hp_80 _ _ _ _ _) rfl ?_
          refine wp_iload 1 d_X10_strengthOf_85 rfl ?_
          refine wp_iconst (v0 := 3) d_X10_strengthOf_87 rfl ?_
          refine wp_iadd d_X10_strengthOf_88 ?_
          refine wp_v (v0 := nI (((65) + ((4) * (i))) + (3))) (nI_add ((65) + ((4) * (i))) (3)) ?_
          refine wp_iaload (v := nI (en (i + 1))) d_X10_strengthOf_89 (hp_81 _ _ _ _ _) (vp_in_nI (by omega) (by omega)) ((congrArg ((m.2.1 81)) (nI_clamp (by omega))).trans (hm.2 (i) (by omega)).1) ?_
          refine wp_istore [(4, .int (nI (en (i + 1)))), (3, .int ((-1))), (6, .int (nI ((65) + ((4) * (i))))), (5, .int (nI (i))), (2, .int (kd)), (0, .ref (80)), (1, .int (nI (l)))] d_X10_strengthOf_90 (Nat.le_of_ble_eq_true rfl) rfl ?_
          refine wp_iinc (v0 := nI ((i) + 1)) [(5, .int (nI ((i) + 1))), (4, .int (nI (en (i + 1)))), (3, .int ((-1))), (6, .int (nI ((65) + ((4) * (i))))), (2, .int (kd)), (0, .ref (80)), (1, .int (nI (l)))] 3 d_X10_strengthOf_92 rfl (nI_add (i) 1) (Nat.le_of_ble_eq_true rfl) rfl ?_
          refine wp_goto 15 d_X10_strengthOf_95 rfl ?_
          refine wp_sub [(5, .int (nI ((i) + 1))), (4, .int (nI (en (i + 1)))), (3, .int ((-1))), (2, .int (kd)), (0, .ref (80)), (1, .int (nI (l)))] [0, 1, 2, 4, 5, 6] rfl ?_
          have e9 : mfind (m.2.1 81) en l kd (k1 + 1) i = mfind (m.2.1 81) en l kd k1 (i + 1) := by
            simp only [mfind]
            rw [if_neg]
            rintro ⟨q1, q2⟩
            first | exact c52 q1 | exact c71 q2
          rw [e9]
          exact ih k1 (by omega) (i + 1) _ (by omega)
        · refine wp_iload 0 d_X10_strengthOf_74 rfl ?_
          refine wp_goto 80 d_X10_strengthOf_76 rfl ?_
          refine wp_istore_n [(3, .int (nI ((65) + ((4) * (i))))), (6, .int (nI ((65) + ((4) * (i))))), (5, .int (nI (i))), (4, .int (nI (en i))), (2, .int (kd)), (0, .ref (80)), (1, .int (nI (l)))] d_X10_strengthOf_80 rfl (Nat.le_of_ble_eq_true rfl) rfl ?_
          refine wp_aload_n 5 d_X10_strengthOf_81 rfl rfl ?_
          refine wp_getfield (v := .ref (81)) d_X10_strengthOf_82 gf_X10_7 (hp_80 _ _ _ _ _) rfl ?_
          refine wp_iload 1 d_X10_strengthOf_85 rfl ?_
          refine wp_iconst (v0 := 3) d_X10_strengthOf_87 rfl ?_
          refine wp_iadd d_X10_strengthOf_88 ?_
          refine wp_v (v0 := nI (((65) + ((4) * (i))) + (3))) (nI_add ((65) + ((4) * (i))) (3)) ?_
          refine wp_iaload (v := nI (en (i + 1))) d_X10_strengthOf_89 (hp_81 _ _ _ _ _) (vp_in_nI (by omega) (by omega)) ((congrArg ((m.2.1 81)) (nI_clamp (by omega))).trans (hm.2 (i) (by omega)).1) ?_
          refine wp_istore [(4, .int (nI (en (i + 1)))), (3, .int (nI ((65) + ((4) * (i))))), (6, .int (nI ((65) + ((4) * (i))))), (5, .int (nI (i))), (2, .int (kd)), (0, .ref (80)), (1, .int (nI (l)))] d_X10_strengthOf_90 (Nat.le_of_ble_eq_true rfl) rfl ?_
          refine wp_iinc (v0 := nI ((i) + 1)) [(5, .int (nI ((i) + 1))), (4, .int (nI (en (i + 1)))), (3, .int (nI ((65) + ((4) * (i))))), (6, .int (nI ((65) + ((4) * (i))))), (2, .int (kd)), (0, .ref (80)), (1, .int (nI (l)))] 3 d_X10_strengthOf_92 rfl (nI_add (i) 1) (Nat.le_of_ble_eq_true rfl) rfl ?_
          refine wp_goto 15 d_X10_strengthOf_95 rfl ?_
          simp only [mfind]
          rw [if_pos ⟨by first | exact c52 | (simpa using c52), c71⟩]
          refine wp_iload 0 d_X10_strengthOf_15 rfl ?_
          refine wp_aload_n 5 d_X10_strengthOf_17 rfl rfl ?_
          refine wp_getfield (v := .ref (81)) d_X10_strengthOf_18 gf_X10_7 (hp_80 _ _ _ _ _) rfl ?_
          refine wp_iconst (v0 := 1) d_X10_strengthOf_21 rfl ?_
          refine wp_iaload (v := nI (cnt)) d_X10_strengthOf_22 (hp_81 _ _ _ _ _) (kin rfl) hs1 ?_
          refine wp_ncmp_ge (a := (i) + 1) (b := cnt) 98 d_X10_strengthOf_23 rfl (by omega) (by omega) (fun c23 => ?_) (fun c23 => ?_)
          · refine wp_sub [(5, .int (nI ((i) + 1))), (4, .int (nI (en (i + 1)))), (3, .int (nI ((65) + ((4) * (i))))), (2, .int (kd)), (0, .ref (80)), (1, .int (nI (l)))] [0, 1, 2, 4, 5, 6] rfl ?_
            refine wp_mono ?_ (s_X10_strengthOf_f (r := i) hl (by omega) kd _ _)
            rintro r1 h1 ⟨rfl, rfl⟩
            exact ⟨rfl, _, rfl⟩
          · refine wp_iload_n 2 d_X10_strengthOf_26 rfl rfl ?_
            refine wp_nif_ge (a := (65) + ((4) * (i))) 98 d_X10_strengthOf_27 rfl (by omega) ?_
            refine wp_sub [(5, .int (nI ((i) + 1))), (4, .int (nI (en (i + 1)))), (3, .int (nI ((65) + ((4) * (i))))), (2, .int (kd)), (0, .ref (80)), (1, .int (nI (l)))] [0, 1, 2, 4, 5, 6] rfl ?_
            refine wp_mono ?_ (s_X10_strengthOf_f (r := i) hl (by omega) kd _ _)
            rintro r1 h1 ⟨rfl, rfl⟩
            exact ⟨rfl, _, rfl⟩
theorem s_X10_strengthOf {X : kX} {d : Nat} {c w m v : kZ} {E : kH} {l cnt : Nat} (hl : l < 9) (hs1 : (m.2.1 81) 1 = nI cnt) (hc8 : cnt ≤ 8) {en : Nat → Nat} (hm : mWF (m.2.1 81) cnt en) : WP X (d + 6) 0 0 Y_X10_strengthOf 0 [(0, .ref (80)), (1, .int (nI (l)))] [] (HP c w m v E) (fun r1 h1 => r1 = some (.int (mstr (m.2.1 81) en cnt l)) ∧ ∃ f1, h1 = HP c w m (setA v 84 f1) E) := by
  refine wp_aload_n 0 d_X10_strengthOf_0 rfl rfl ?_
  refine wp_iload_n 1 d_X10_strengthOf_1 rfl rfl ?_
  refine wp_iconst (v0 := 0) d_X10_strengthOf_2 rfl ?_
  refine wp_vrt_i (As := [.int (nI (l)), .int (0)]) (x0 := (m.2.1 81) (9 + 4 * (l) + (0))) (h1 := HP c w m v E) d_X10_strengthOf_3 lk_X10_98 mv_X10_its in_X10_its se_X10_its (Nat.le_of_ble_eq_true rfl) (Nat.le_of_ble_eq_true rfl) (hp_80 _ _ _ _ _) rfl (s_X10_its (j := l) (u := 0) (by omega) (by omega)) ?_
  refine wp_istore_n [(2, .int ((m.2.1 81) (9 + 4 * (l) + (0)))), (0, .ref (80)), (1, .int (nI (l)))] d_X10_strengthOf_6 rfl (Nat.le_of_ble_eq_true rfl) rfl ?_
  refine wp_iconst (v0 := -1) d_X10_strengthOf_7 rfl ?_
  refine wp_istore_n [(3, .int ((-1))), (2, .int ((m.2.1 81) (9 + 4 * (l) + (0)))), (0, .ref (80)), (1, .int (nI (l)))] d_X10_strengthOf_8 rfl (Nat.le_of_ble_eq_true rfl) rfl ?_
  refine wp_iconst (v0 := 0) d_X10_strengthOf_9 rfl ?_
  refine wp_istore [(4, .int (0)), (3, .int ((-1))), (2, .int ((m.2.1 81) (9 + 4 * (l) + (0)))), (0, .ref (80)), (1, .int (nI (l)))] d_X10_strengthOf_10 (Nat.le_of_ble_eq_true rfl) rfl ?_
  refine wp_iconst (v0 := 0) d_X10_strengthOf_12 rfl ?_
  refine wp_istore [(5, .int (0)), (4, .int (0)), (3, .int ((-1))), (2, .int ((m.2.1 81) (9 + 4 * (l) + (0)))), (0, .ref (80)), (1, .int (nI (l)))] d_X10_strengthOf_13 (Nat.le_of_ble_eq_true rfl) rfl ?_
  refine wp_sub [(5, .int (0)), (4, .int (0)), (3, .int ((-1))), (2, .int ((m.2.1 81) (9 + 4 * (l) + (0)))), (0, .ref (80)), (1, .int (nI (l)))] [0, 1, 2, 3, 4, 5] rfl ?_
  have L := s_X10_strengthOf_l (X := X) (d := d) (c := c) (w := w) (m := m) (v := v) (E := E) hl hs1 hc8 hm ((m.2.1 81) (9 + 4 * l + 0)) cnt 0 (v.2.1 84) (by omega)
  rw [setA_self, hm.1] at L
  exact L
