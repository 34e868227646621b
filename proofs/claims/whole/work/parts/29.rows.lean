/-! ===== rows ===== -/
theorem nI_z {n : Nat} (h : n < 2 ^ 31) : nI n = 0 ↔ n = 0 := by
  constructor
  · intro q
    have h1 := congrArg Int32.toInt q
    rw [nI_toInt h, show (0 : Int32).toInt = 0 from by decide] at h1
    omega
  · rintro rfl
    rfl
theorem wp_nif_ne {X : kX} {d mc ms : Nat} {y : kM} {pc : Nat} {ls : List (Nat × Value)} {st : List Value} {h : kH} {Q : Option Value → kH → Prop} {a : Nat} {off : Int} (tgt : Nat) (hd : decode y.2.1 pc = .ok (.ifCond .ne off, 3)) (ht : (pc : Int) + off = (tgt : Int)) (ha : a < 2 ^ 31) (k1 : a ≠ 0 → WP X d mc ms y tgt ls st h Q) (k2 : a = 0 → WP X d mc ms y (pc + 3) ls st h Q) : WP X d mc ms y pc ls (.int (nI a) :: st) h Q := wp_if_ne tgt hd ht (fun z => k1 (fun e => z ((nI_z ha).mpr e))) (fun z => k2 ((nI_z ha).mp z))
theorem wp_nif_eq {X : kX} {d mc ms : Nat} {y : kM} {pc : Nat} {ls : List (Nat × Value)} {st : List Value} {h : kH} {Q : Option Value → kH → Prop} {a : Nat} {off : Int} (tgt : Nat) (hd : decode y.2.1 pc = .ok (.ifCond .eq off, 3)) (ht : (pc : Int) + off = (tgt : Int)) (ha : a < 2 ^ 31) (k1 : a = 0 → WP X d mc ms y tgt ls st h Q) (k2 : a ≠ 0 → WP X d mc ms y (pc + 3) ls st h Q) : WP X d mc ms y pc ls (.int (nI a) :: st) h Q := wp_if_eq tgt hd ht (fun z => k1 ((nI_z ha).mp z)) (fun z => k2 (fun e => z ((nI_z ha).mpr e)))
/-- what a row came through -/
def cdue (ln : Nat → Int32) (p k : Nat) : Int32 := if k = 0 then -9 else if k ≤ p then ln (k - 1) else 9
/-- the three items of row k of a ray that came at x -/
def crow (g : Int32) (ln : Nat → Int32) (p : Nat) (l : List (Int32 × Int32)) (x : Int32) (k : Nat) : Int32 × Int32 × Int32 := (cdue ln p k, (kray g (l.take k)).1 + x * (kray g (l.take k)).2.2.1, (kray g (l.take k)).2.1 + x * (kray g (l.take k)).2.2.2)
theorem s_X9_dueThrough {X : kX} {d : Nat} {c w m v : kZ} {E : kH} {p : Nat} (hp : c.1 107 = nI p) (hp4 : p ≤ 4) {k : Nat} (hk5 : k ≤ 5) : WP X d 0 0 Y_X9_dueThrough 0 [(0, .ref (0)), (1, .int (nI (k)))] [] (HP c w m v E) (kR (some (.int (cdue (c.2.1 9) p k))) (HP c w m v E)) := by
  refine wp_iload_n 1 d_X9_dueThrough_0 rfl rfl ?_
  refine wp_nif_ne (a := k) 7 d_X9_dueThrough_1 rfl (by omega) (fun c1 => ?_) (fun c1 => ?_)
  · refine wp_iload_n 1 d_X9_dueThrough_7 rfl rfl ?_
    refine wp_aload_n 0 d_X9_dueThrough_8 rfl rfl ?_
    refine wp_getfield (v := .ref (1)) d_X9_dueThrough_9 gf_X9_12 (hp_0 _ _ _ _ _) rfl ?_
    refine wp_getfield (v := .int (nI (p))) d_X9_dueThrough_12 gf_X9_191 (hp_1 _ _ _ _ _) (congrArg (fun z => some (Value.int z)) hp) ?_
    refine wp_ncmp_gt (a := k) (b := p) 32 d_X9_dueThrough_15 rfl (by omega) (by omega) (fun c15 => ?_) (fun c15 => ?_)
    · refine wp_bipush (v0 := 9) d_X9_dueThrough_32 (by decide) ?_
      refine wp_reti d_X9_dueThrough_34 rfl ?_
      refine kR_i ?_ rfl
      unfold cdue
      rw [if_neg c1, if_neg (by omega)]
    · refine wp_aload_n 0 d_X9_dueThrough_18 rfl rfl ?_
      refine wp_getfield (v := .ref (1)) d_X9_dueThrough_19 gf_X9_12 (hp_0 _ _ _ _ _) rfl ?_
      refine wp_getfield (v := .ref (9)) d_X9_dueThrough_22 gf_X9_194 (hp_1 _ _ _ _ _) rfl ?_
      refine wp_iload_n 1 d_X9_dueThrough_25 rfl rfl ?_
      refine wp_iconst (v0 := 1) d_X9_dueThrough_26 rfl ?_
      refine wp_isub d_X9_dueThrough_27 ?_
      refine wp_v (v0 := nI ((k) - (1))) (pk_sub (a := k) (b := 1) (by omega)) ?_
      refine wp_iaload (v := (c.2.1 9) ((k) - (1))) d_X9_dueThrough_28 (hp_9 _ _ _ _ _) (vp_in_nI (by omega) (by omega)) (congrArg ((c.2.1 9)) (nI_clamp (by omega))) ?_
      refine wp_goto 34 d_X9_dueThrough_29 rfl ?_
      refine wp_reti d_X9_dueThrough_34 rfl ?_
      refine kR_i ?_ rfl
      unfold cdue
      rw [if_neg c1, if_pos (by omega)]
  · refine wp_bipush (v0 := -9) d_X9_dueThrough_4 (by decide) ?_
    refine wp_reti d_X9_dueThrough_6 rfl ?_
    refine kR_i ?_ rfl
    unfold cdue
    rw [if_pos c1]
theorem s_X9_prove_l {X : kX} {d : Nat} {c w m v : kZ} {E : kH} {w1 : kZ} {n : Nat} (hn : c.1 100 = nI n) (hn9 : n ≤ 9) {rho cnt ka L : Nat} {code : Nat → Int32} (hrr : c.2.2.1 1 = rho) (hR : kRu E rho cnt ka L code) (hL : L < 2 ^ 20) (hc8 : cnt ≤ 8) (hwf : kWF code L cnt 0) (hk : ∀ j, j < n → 1 ≤ (c.2.1 2 j).toInt ∧ (c.2.1 2 j).toInt ≤ 5) {p : Nat} (hp : c.1 107 = nI p) (hp4 : p ≤ 4) (hln : ∀ j, j < p → vp_in (c.2.1 9 j) n) (hs : kSeen w1 (c.2.1 6 1) (c.2.1 6 2) (c.2.1 6 3) (cTube c.2.1 1 code cnt p)) (x : Int32) : ∀ (k : Nat) (i : Nat) (f : Nat → Int32), (i + k = p + 2) → (∀ j, j < i → (f (3 * j), f (3 * j + 1), f (3 * j + 2)) = crow (c.2.1 6 1) (c.2.1 9) p ((cTube c.2.1 1 code cnt p) ++ [((c.2.1 6 2), 0)]) x j) → WP X (d + 8) 0 0 Y_X9_prove 28 [(2, .int (nI (i))), (0, .ref (0)), (1, .int (x))] [] (HP (setA (setS c 11 (nI (p + 2))) 74 (f)) w1 m v E) (fun r1 h1 => r1 = some (.int (nI (p + 2))) ∧ ∃ f1, h1 = HP (setA (setS c 11 (nI (p + 2))) 74 f1) w1 m v E ∧ ∀ j, j < p + 2 → (f1 (3 * j), f1 (3 * j + 1), f1 (3 * j + 2)) = crow (c.2.1 6 1) (c.2.1 9) p ((cTube c.2.1 1 code cnt p) ++ [((c.2.1 6 2), 0)]) x j) := by
  intro k
  induction k using Nat.strongRecOn with
  | ind k ih =>
    intro i f hi hr
    refine wp_iload_n 0 d_X9_prove_28 rfl rfl ?_
    refine wp_aload_n 1 d_X9_prove_29 rfl rfl ?_
    refine wp_getfield (v := .int ((nI (p + 2)))) d_X9_prove_30 gf_X9_293 (hp_0 _ _ _ _ _) rfl ?_
    refine wp_ncmp_ge (a := i) (b := p + 2) 93 d_X9_prove_33 rfl (by omega) (by omega) (fun c33 => ?_) (fun c33 => ?_)
    · refine wp_aload_n 1 d_X9_prove_93 rfl rfl ?_
      refine wp_getfield (v := .int ((nI (p + 2)))) d_X9_prove_94 gf_X9_293 (hp_0 _ _ _ _ _) rfl ?_
      refine wp_reti d_X9_prove_97 rfl ?_
      obtain rfl : k = 0 := by omega
      exact ⟨rfl, f, rfl, fun j hj => hr j (by omega)⟩
    · refine wp_aload_n 1 d_X9_prove_36 rfl rfl ?_
      refine wp_getfield (v := .ref (74)) d_X9_prove_37 gf_X9_63 (hp_0 _ _ _ _ _) rfl ?_
      refine wp_iconst (v0 := 3) d_X9_prove_40 rfl ?_
      refine wp_iload_n 0 d_X9_prove_41 rfl rfl ?_
      refine wp_imul d_X9_prove_42 ?_
      refine wp_v (v0 := nI ((3) * (i))) (pk_mul (3) (i)) ?_
      refine wp_aload_n 1 d_X9_prove_43 rfl rfl ?_
      refine wp_iload_n 0 d_X9_prove_44 rfl rfl ?_
      refine wp_vrt_i (As := [.int (nI (i))]) (x0 := cdue (c.2.1 9) p (i)) (h1 := HP (setA (setS c 11 (nI (p + 2))) 74 (f)) w1 m v E) d_X9_prove_45 lk_X9_296 mv_X9_dueThrough in_X9_dueThrough se_X9_dueThrough (Nat.le_of_ble_eq_true rfl) (Nat.le_of_ble_eq_true rfl) (hp_0 _ _ _ _ _) rfl (s_X9_dueThrough (c := (setA (setS c 11 (nI (p + 2))) 74 (f))) hp hp4 (k := i) (by omega)) ?_
      refine wp_iastore (h' := HP (setA (setA (setS c 11 (nI (p + 2))) 74 (f)) 74 (upd (f) ((3) * (i)) (cdue (c.2.1 9) p (i)))) w1 m v E) d_X9_prove_48 (hp_74 _ _ _ _ _) (vp_in_nI (by omega) (by omega)) (by rw [nI_clamp (by omega)]; exact (hpa_74 _ _ _ _ _ _)) ?_
      refine wp_aload_n 1 d_X9_prove_49 rfl rfl ?_
      refine wp_getfield (v := .ref (74)) d_X9_prove_50 gf_X9_63 (hp_0 _ _ _ _ _) rfl ?_
      refine wp_iconst (v0 := 3) d_X9_prove_53 rfl ?_
      refine wp_iload_n 0 d_X9_prove_54 rfl rfl ?_
      refine wp_imul d_X9_prove_55 ?_
      refine wp_v (v0 := nI ((3) * (i))) (pk_mul (3) (i)) ?_
      refine wp_iconst (v0 := 1) d_X9_prove_56 rfl ?_
      refine wp_iadd d_X9_prove_57 ?_
      refine wp_v (v0 := nI (((3) * (i)) + (1))) (nI_add ((3) * (i)) (1)) ?_
      refine wp_aload_n 1 d_X9_prove_58 rfl rfl ?_
      refine wp_getfield (v := .ref (42)) d_X9_prove_59 gf_X9_32 (hp_0 _ _ _ _ _) rfl ?_
      refine wp_iload_n 0 d_X9_prove_62 rfl rfl ?_
      refine wp_iload_n 2 d_X9_prove_63 rfl rfl ?_
      refine wp_vrt_i (As := [.int (nI (i)), .int (x)]) (x0 := (w1.2.1 46) (i) + (x) * (w1.2.1 48) (i)) (h1 := HP (setA (setA (setS c 11 (nI (p + 2))) 74 (f)) 74 (upd (f) ((3) * (i)) (cdue (c.2.1 9) p (i)))) w1 m v E) d_X9_prove_64 lk_X9_299 mv_X5_heightAt in_X5_heightAt se_X5_heightAt (Nat.le_of_ble_eq_true rfl) (Nat.le_of_ble_eq_true rfl) (hp_42 _ _ _ _ _) rfl (s_X5_heightAt (k := i) (by omega) (x)) ?_
      refine wp_iastore (h' := HP (setA (setA (setA (setS c 11 (nI (p + 2))) 74 (f)) 74 (upd (f) ((3) * (i)) (cdue (c.2.1 9) p (i)))) 74 (upd (upd (f) ((3) * (i)) (cdue (c.2.1 9) p (i))) (((3) * (i)) + (1)) ((w1.2.1 46) (i) + (x) * (w1.2.1 48) (i)))) w1 m v E) d_X9_prove_67 (hp_74 _ _ _ _ _) (vp_in_nI (by omega) (by omega)) (by rw [nI_clamp (by omega)]; exact (hpa_74 _ _ _ _ _ _)) ?_
      refine wp_aload_n 1 d_X9_prove_68 rfl rfl ?_
      refine wp_getfield (v := .ref (74)) d_X9_prove_69 gf_X9_63 (hp_0 _ _ _ _ _) rfl ?_
      refine wp_iconst (v0 := 3) d_X9_prove_72 rfl ?_
      refine wp_iload_n 0 d_X9_prove_73 rfl rfl ?_
      refine wp_imul d_X9_prove_74 ?_
      refine wp_v (v0 := nI ((3) * (i))) (pk_mul (3) (i)) ?_
      refine wp_iconst (v0 := 2) d_X9_prove_75 rfl ?_
      refine wp_iadd d_X9_prove_76 ?_
      refine wp_v (v0 := nI (((3) * (i)) + (2))) (nI_add ((3) * (i)) (2)) ?_
      refine wp_aload_n 1 d_X9_prove_77 rfl rfl ?_
      refine wp_getfield (v := .ref (42)) d_X9_prove_78 gf_X9_32 (hp_0 _ _ _ _ _) rfl ?_
      refine wp_iload_n 0 d_X9_prove_81 rfl rfl ?_
      refine wp_iload_n 2 d_X9_prove_82 rfl rfl ?_
      refine wp_vrt_i (As := [.int (nI (i)), .int (x)]) (x0 := (w1.2.1 47) (i) + (x) * (w1.2.1 49) (i)) (h1 := HP (setA (setA (setA (setS c 11 (nI (p + 2))) 74 (f)) 74 (upd (f) ((3) * (i)) (cdue (c.2.1 9) p (i)))) 74 (upd (upd (f) ((3) * (i)) (cdue (c.2.1 9) p (i))) (((3) * (i)) + (1)) ((w1.2.1 46) (i) + (x) * (w1.2.1 48) (i)))) w1 m v E) d_X9_prove_83 lk_X9_303 mv_X5_slopeAt in_X5_slopeAt se_X5_slopeAt (Nat.le_of_ble_eq_true rfl) (Nat.le_of_ble_eq_true rfl) (hp_42 _ _ _ _ _) rfl (s_X5_slopeAt (k := i) (by omega) (x)) ?_
      refine wp_iastore (h' := HP (setA (setA (setA (setA (setS c 11 (nI (p + 2))) 74 (f)) 74 (upd (f) ((3) * (i)) (cdue (c.2.1 9) p (i)))) 74 (upd (upd (f) ((3) * (i)) (cdue (c.2.1 9) p (i))) (((3) * (i)) + (1)) ((w1.2.1 46) (i) + (x) * (w1.2.1 48) (i)))) 74 (upd (upd (upd (f) ((3) * (i)) (cdue (c.2.1 9) p (i))) (((3) * (i)) + (1)) ((w1.2.1 46) (i) + (x) * (w1.2.1 48) (i))) (((3) * (i)) + (2)) ((w1.2.1 47) (i) + (x) * (w1.2.1 49) (i)))) w1 m v E) d_X9_prove_86 (hp_74 _ _ _ _ _) (vp_in_nI (by omega) (by omega)) (by rw [nI_clamp (by omega)]; exact (hpa_74 _ _ _ _ _ _)) ?_
      refine wp_iinc (v0 := nI ((i) + 1)) [(2, .int (nI ((i) + 1))), (0, .ref (0)), (1, .int (x))] 0 d_X9_prove_87 rfl (nI_add (i) 1) (Nat.le_of_ble_eq_true rfl) rfl ?_
      refine wp_goto 28 d_X9_prove_90 rfl ?_
      obtain ⟨k1, rfl⟩ : ∃ k1, k = k1 + 1 := ⟨k - 1, by omega⟩
      refine wp_sub [(2, .int (nI ((i) + 1))), (0, .ref (0)), (1, .int (x))] [0, 1, 2] rfl ?_
      refine wp_h (h' := HP (setA (setS c 11 (nI (p + 2))) 74 (upd (upd (upd (f) ((3) * (i)) (cdue (c.2.1 9) p (i))) (((3) * (i)) + (1)) ((w1.2.1 46) (i) + (x) * (w1.2.1 48) (i))) (((3) * (i)) + (2)) ((w1.2.1 47) (i) + (x) * (w1.2.1 49) (i)))) w1 m v E) (by simp only [setA_idem]) ?_
      refine ih k1 (by omega) (i + 1) _ (by omega) (fun j hj => ?_)
      by_cases e : j = i
      · subst e
        have h9 := hs.2.2.1 j (by simp only [List.length_append, cTube_len, List.length_cons, List.length_nil]; omega)
        rw [hs.1] at h9
        rw [upd_s, upd_n _ _ (by omega : 3 * j + 1 ≠ 3 * j + 2), upd_s, upd_n _ _ (by omega : 3 * j ≠ 3 * j + 2), upd_n _ _ (by omega : 3 * j ≠ 3 * j + 1), upd_s]
        unfold crow
        rw [← h9]
      · rw [upd_n _ _ (by omega), upd_n _ _ (by omega), upd_n _ _ (by omega), upd_n _ _ (by omega), upd_n _ _ (by omega), upd_n _ _ (by omega), upd_n _ _ (by omega), upd_n _ _ (by omega), upd_n _ _ (by omega)]
        exact hr j (by omega)
theorem s_X9_prove {X : kX} {d : Nat} {c w m v : kZ} {E : kH} {n : Nat} (hn : c.1 100 = nI n) (hn9 : n ≤ 9) {rho cnt ka L : Nat} {code : Nat → Int32} (hrr : c.2.2.1 1 = rho) (hR : kRu E rho cnt ka L code) (hL : L < 2 ^ 20) (hc8 : cnt ≤ 8) (hwf : kWF code L cnt 0) (hk : ∀ j, j < n → 1 ≤ (c.2.1 2 j).toInt ∧ (c.2.1 2 j).toInt ≤ 5) {p : Nat} (hp : c.1 107 = nI p) (hp4 : p ≤ 4) (hln : ∀ j, j < p → vp_in (c.2.1 9 j) n) (hr0 : kRay w []) (x : Int32) : WP X (d + 8) 0 0 Y_X9_prove 0 [(0, .ref (0)), (1, .int (x))] [] (HP c w m v E) (fun r1 h1 => (¬ (-9 ≤ x.toInt ∧ x.toInt ≤ 9) ∧ r1 = some (.int (-1)) ∧ h1 = HP c w m v E) ∨ ((-9 ≤ x.toInt ∧ x.toInt ≤ 9) ∧ r1 = some (.int (nI (p + 2))) ∧ ∃ f1, ∃ w1 : kZ, h1 = HP (setA (setS c 11 (nI (p + 2))) 74 f1) w1 m v E ∧ kWf w w1 ∧ kRay w1 [] ∧ ∀ j, j < p + 2 → (f1 (3 * j), f1 (3 * j + 1), f1 (3 * j + 2)) = crow (c.2.1 6 1) (c.2.1 9) p ((cTube c.2.1 1 code cnt p) ++ [((c.2.1 6 2), 0)]) x j)) := by
  refine wp_iload_n 1 d_X9_prove_0 rfl rfl ?_
  refine wp_stc_i (As := [.int (x)]) (x0 := kb (-9 ≤ (x : Int32).toInt ∧ (x : Int32).toInt ≤ 9)) (h1 := HP c w m v E) d_X9_prove_1 lk_X9_95 mv_X9_isSmall st_X9_isSmall (Nat.le_of_ble_eq_true rfl) (Nat.le_of_ble_eq_true rfl) (s_X9_isSmall _ (x : Int32)) ?_
  refine wp_ifb_ne 9 d_X9_prove_4 rfl (fun c4 => ?_) (fun c4 => ?_)
  · refine wp_aload_n 0 d_X9_prove_9 rfl rfl ?_
    refine wp_virtual0 (As := []) d_X9_prove_10 lk_X9_168 mv_X9_shine in_X9_shine se_X9_shine (Nat.le_of_ble_eq_true rfl) (Nat.le_of_ble_eq_true rfl) (hp_0 _ _ _ _ _) rfl (s_X9_shine hn hn9 hrr hR hL hc8 hwf hk hp hp4 hln hr0) (fun v10 h10 q10 => ?_)
    obtain ⟨rfl, w1, rfl, ha1, hd1, hs1⟩ := q10
    show WP _ _ _ _ _ 13 _ [] (HP c w1 m v E) _
    refine wp_aload_n 0 d_X9_prove_13 rfl rfl ?_
    refine wp_aload_n 0 d_X9_prove_14 rfl rfl ?_
    refine wp_getfield (v := .ref (1)) d_X9_prove_15 gf_X9_12 (hp_0 _ _ _ _ _) rfl ?_
    refine wp_getfield (v := .int (nI (p))) d_X9_prove_18 gf_X9_191 (hp_1 _ _ _ _ _) (congrArg (fun z => some (Value.int z)) hp) ?_
    refine wp_iconst (v0 := 2) d_X9_prove_21 rfl ?_
    refine wp_iadd d_X9_prove_22 ?_
    refine wp_v (v0 := nI ((p) + (2))) (nI_add (p) (2)) ?_
    refine wp_putfield (h' := HP (setS c 11 (nI ((p) + (2)))) w1 m v E) d_X9_prove_23 gp_X9_293 (kfit_i _) (hp_0 _ _ _ _ _) (Nat.le_of_ble_eq_true rfl) (hps_0_11 _ _ _ _ _ _) ?_
    refine wp_iconst (v0 := 0) d_X9_prove_26 rfl ?_
    refine wp_istore_n [(2, .int (0)), (0, .ref (0)), (1, .int (x))] d_X9_prove_27 rfl (Nat.le_of_ble_eq_true rfl) rfl ?_
    refine wp_sub [(2, .int (0)), (0, .ref (0)), (1, .int (x))] [0, 1, 2] rfl ?_
    have L := s_X9_prove_l (X := X) (d := d) (c := c) (m := m) (v := v) (E := E) (w := w) (w1 := w1) hn hn9 hrr hR hL hc8 hwf hk hp hp4 hln hs1 x (p + 2) 0 (c.2.1 74) (by omega) (fun j hj => absurd hj (by omega))
    rw [show setA (setS c 11 (nI (p + 2))) 74 (c.2.1 74) = setS c 11 (nI (p + 2)) from setA_self _ 74] at L
    refine wp_mono ?_ L
    rintro r1 h1 ⟨rfl, f1, rfl, hq⟩
    exact Or.inr ⟨c4, rfl, f1, w1, rfl, ha1.wf, hs1.2.2.1.len (j := 0), hq⟩
  · refine wp_iconst (v0 := -1) d_X9_prove_7 rfl ?_
    refine wp_reti d_X9_prove_8 rfl ?_
    exact Or.inl ⟨c4, rfl, rfl⟩
theorem s_X9_isRightRow {X : kX} {d : Nat} {c w m v : kZ} {E : kH} {n : Nat} (hn : c.1 100 = nI n) (hn9 : n ≤ 9) {rho cnt ka L : Nat} {code : Nat → Int32} (hrr : c.2.2.1 1 = rho) (hR : kRu E rho cnt ka L code) (hL : L < 2 ^ 20) (hc8 : cnt ≤ 8) (hwf : kWF code L cnt 0) (hk : ∀ j, j < n → 1 ≤ (c.2.1 2 j).toInt ∧ (c.2.1 2 j).toInt ≤ 5) {p : Nat} (hp : c.1 107 = nI p) (hp4 : p ≤ 4) (hln : ∀ j, j < p → vp_in (c.2.1 9 j) n) {r : Nat} (hrc : c.1 11 = nI r) (hr6 : r ≤ 6) (hs : kSeen w (c.2.1 6 1) (c.2.1 6 2) (c.2.1 6 3) (cTube c.2.1 1 code cnt p)) (x : Int32) {k : Nat} (hk0 : 1 ≤ k) (hkr : k < r) : WP X (d + 4) 0 0 Y_X9_isRightRow 0 [(0, .ref (0)), (1, .int (nI (k))), (2, .int (x))] [] (HP c w m v E) (kR (some (.int (kb (¬ (p + 1 < k ∨ k + 1 = r ∧ k ≠ p + 1) ∧ ((c.2.1 74) (3 * k), (c.2.1 74) (3 * k + 1), (c.2.1 74) (3 * k + 2)) = crow (c.2.1 6 1) (c.2.1 9) p ((cTube c.2.1 1 code cnt p) ++ [((c.2.1 6 2), 0)]) x k)))) (HP c w m v E)) := by
  refine wp_aload_n 0 d_X9_isRightRow_0 rfl rfl ?_
  refine wp_getfield (v := .ref (1)) d_X9_isRightRow_1 gf_X9_12 (hp_0 _ _ _ _ _) rfl ?_
  refine wp_getfield (v := .int (nI (p))) d_X9_isRightRow_4 gf_X9_191 (hp_1 _ _ _ _ _) (congrArg (fun z => some (Value.int z)) hp) ?_
  refine wp_iconst (v0 := 1) d_X9_isRightRow_7 rfl ?_
  refine wp_iadd d_X9_isRightRow_8 ?_
  refine wp_v (v0 := nI ((p) + (1))) (nI_add (p) (1)) ?_
  refine wp_istore_n [(3, .int (nI ((p) + (1)))), (0, .ref (0)), (1, .int (nI (k))), (2, .int (x))] d_X9_isRightRow_9 rfl (Nat.le_of_ble_eq_true rfl) rfl ?_
  refine wp_iload_n 2 d_X9_isRightRow_10 rfl rfl ?_
  refine wp_iload_n 0 d_X9_isRightRow_11 rfl rfl ?_
  refine wp_ncmp_gt (a := k) (b := (p) + (1)) 30 d_X9_isRightRow_12 rfl (by omega) (by omega) (fun c12 => ?_) (fun c12 => ?_)
  · refine wp_iconst (v0 := 0) d_X9_isRightRow_30 rfl ?_
    refine wp_iret d_X9_isRightRow_31 rfl k_nar0 ?_
    refine kR_i (Eq.symm (kb_f ?_)) rfl
    rintro ⟨q1, -⟩
    exact q1 (by omega)
  · refine wp_iload_n 2 d_X9_isRightRow_15 rfl rfl ?_
    refine wp_aload_n 1 d_X9_isRightRow_16 rfl rfl ?_
    refine wp_getfield (v := .int (nI (r))) d_X9_isRightRow_17 gf_X9_293 (hp_0 _ _ _ _ _) (congrArg (fun z => some (Value.int z)) hrc) ?_
    refine wp_iconst (v0 := 1) d_X9_isRightRow_20 rfl ?_
    refine wp_isub d_X9_isRightRow_21 ?_
    refine wp_v (v0 := nI ((r) - (1))) (pk_sub (a := r) (b := 1) (by omega)) ?_
    refine wp_ncmp_ne (a := k) (b := (r) - (1)) 32 d_X9_isRightRow_22 rfl (by omega) (by omega) (fun c22 => ?_) (fun c22 => ?_)
    · refine wp_aload_n 1 d_X9_isRightRow_32 rfl rfl ?_
      refine wp_getfield (v := .ref (74)) d_X9_isRightRow_33 gf_X9_63 (hp_0 _ _ _ _ _) rfl ?_
      refine wp_iconst (v0 := 3) d_X9_isRightRow_36 rfl ?_
      refine wp_iload_n 2 d_X9_isRightRow_37 rfl rfl ?_
      refine wp_imul d_X9_isRightRow_38 ?_
      refine wp_v (v0 := nI ((3) * (k))) (pk_mul (3) (k)) ?_
      refine wp_iaload (v := (c.2.1 74) ((3) * (k))) d_X9_isRightRow_39 (hp_74 _ _ _ _ _) (vp_in_nI (by omega) (by omega)) (congrArg ((c.2.1 74)) (nI_clamp (by omega))) ?_
      refine wp_aload_n 1 d_X9_isRightRow_40 rfl rfl ?_
      refine wp_iload_n 2 d_X9_isRightRow_41 rfl rfl ?_
      refine wp_vrt_i (As := [.int (nI (k))]) (x0 := cdue (c.2.1 9) p (k)) (h1 := HP c w m v E) d_X9_isRightRow_42 lk_X9_296 mv_X9_dueThrough in_X9_dueThrough se_X9_dueThrough (Nat.le_of_ble_eq_true rfl) (Nat.le_of_ble_eq_true rfl) (hp_0 _ _ _ _ _) rfl (s_X9_dueThrough hp hp4 (k := k) (by omega)) ?_
      refine wp_icmp_ne 96 d_X9_isRightRow_45 rfl (fun c45 => ?_) (fun c45 => ?_)
      · refine wp_iconst (v0 := 0) d_X9_isRightRow_96 rfl ?_
        refine wp_iret d_X9_isRightRow_97 rfl k_nar0 ?_
        have h9 := hs.2.2.1 k (by simp only [List.length_append, cTube_len, List.length_cons, List.length_nil]; omega)
        rw [hs.1] at h9
        refine kR_i (Eq.symm (kb_f ?_)) rfl
        rintro ⟨-, q1⟩
        unfold crow at q1
        rw [← h9] at q1
        simp only [Prod.mk.injEq] at q1
        first | exact c45 q1.1 | exact c67 q1.2.1 | exact c89 q1.2.2
      · refine wp_aload_n 1 d_X9_isRightRow_48 rfl rfl ?_
        refine wp_getfield (v := .ref (74)) d_X9_isRightRow_49 gf_X9_63 (hp_0 _ _ _ _ _) rfl ?_
        refine wp_iconst (v0 := 3) d_X9_isRightRow_52 rfl ?_
        refine wp_iload_n 2 d_X9_isRightRow_53 rfl rfl ?_
        refine wp_imul d_X9_isRightRow_54 ?_
        refine wp_v (v0 := nI ((3) * (k))) (pk_mul (3) (k)) ?_
        refine wp_iconst (v0 := 1) d_X9_isRightRow_55 rfl ?_
        refine wp_iadd d_X9_isRightRow_56 ?_
        refine wp_v (v0 := nI (((3) * (k)) + (1))) (nI_add ((3) * (k)) (1)) ?_
        refine wp_iaload (v := (c.2.1 74) (((3) * (k)) + (1))) d_X9_isRightRow_57 (hp_74 _ _ _ _ _) (vp_in_nI (by omega) (by omega)) (congrArg ((c.2.1 74)) (nI_clamp (by omega))) ?_
        refine wp_aload_n 1 d_X9_isRightRow_58 rfl rfl ?_
        refine wp_getfield (v := .ref (42)) d_X9_isRightRow_59 gf_X9_32 (hp_0 _ _ _ _ _) rfl ?_
        refine wp_iload_n 2 d_X9_isRightRow_62 rfl rfl ?_
        refine wp_iload_n 3 d_X9_isRightRow_63 rfl rfl ?_
        refine wp_vrt_i (As := [.int (nI (k)), .int (x)]) (x0 := (w.2.1 46) (k) + (x) * (w.2.1 48) (k)) (h1 := HP c w m v E) d_X9_isRightRow_64 lk_X9_299 mv_X5_heightAt in_X5_heightAt se_X5_heightAt (Nat.le_of_ble_eq_true rfl) (Nat.le_of_ble_eq_true rfl) (hp_42 _ _ _ _ _) rfl (s_X5_heightAt (k := k) (by omega) (x)) ?_
        refine wp_icmp_ne 96 d_X9_isRightRow_67 rfl (fun c67 => ?_) (fun c67 => ?_)
        · refine wp_iconst (v0 := 0) d_X9_isRightRow_96 rfl ?_
          refine wp_iret d_X9_isRightRow_97 rfl k_nar0 ?_
          have h9 := hs.2.2.1 k (by simp only [List.length_append, cTube_len, List.length_cons, List.length_nil]; omega)
          rw [hs.1] at h9
          refine kR_i (Eq.symm (kb_f ?_)) rfl
          rintro ⟨-, q1⟩
          unfold crow at q1
          rw [← h9] at q1
          simp only [Prod.mk.injEq] at q1
          first | exact c45 q1.1 | exact c67 q1.2.1 | exact c89 q1.2.2
        · refine wp_aload_n 1 d_X9_isRightRow_70 rfl rfl ?_
          refine wp_getfield (v := .ref (74)) d_X9_isRightRow_71 gf_X9_63 (hp_0 _ _ _ _ _) rfl ?_
          refine wp_iconst (v0 := 3) d_X9_isRightRow_74 rfl ?_
          refine wp_iload_n 2 d_X9_isRightRow_75 rfl rfl ?_
          refine wp_imul d_X9_isRightRow_76 ?_
          refine wp_v (v0 := nI ((3) * (k))) (pk_mul (3) (k)) ?_
          refine wp_iconst (v0 := 2) d_X9_isRightRow_77 rfl ?_
          refine wp_iadd d_X9_isRightRow_78 ?_
          refine wp_v (v0 := nI (((3) * (k)) + (2))) (nI_add ((3) * (k)) (2)) ?_
          refine wp_iaload (v := (c.2.1 74) (((3) * (k)) + (2))) d_X9_isRightRow_79 (hp_74 _ _ _ _ _) (vp_in_nI (by omega) (by omega)) (congrArg ((c.2.1 74)) (nI_clamp (by omega))) ?_
          refine wp_aload_n 1 d_X9_isRightRow_80 rfl rfl ?_
          refine wp_getfield (v := .ref (42)) d_X9_isRightRow_81 gf_X9_32 (hp_0 _ _ _ _ _) rfl ?_
          refine wp_iload_n 2 d_X9_isRightRow_84 rfl rfl ?_
          refine wp_iload_n 3 d_X9_isRightRow_85 rfl rfl ?_
          refine wp_vrt_i (As := [.int (nI (k)), .int (x)]) (x0 := (w.2.1 47) (k) + (x) * (w.2.1 49) (k)) (h1 := HP c w m v E) d_X9_isRightRow_86 lk_X9_303 mv_X5_slopeAt in_X5_slopeAt se_X5_slopeAt (Nat.le_of_ble_eq_true rfl) (Nat.le_of_ble_eq_true rfl) (hp_42 _ _ _ _ _) rfl (s_X5_slopeAt (k := k) (by omega) (x)) ?_
          refine wp_icmp_ne 96 d_X9_isRightRow_89 rfl (fun c89 => ?_) (fun c89 => ?_)
          · refine wp_iconst (v0 := 0) d_X9_isRightRow_96 rfl ?_
            refine wp_iret d_X9_isRightRow_97 rfl k_nar0 ?_
            have h9 := hs.2.2.1 k (by simp only [List.length_append, cTube_len, List.length_cons, List.length_nil]; omega)
            rw [hs.1] at h9
            refine kR_i (Eq.symm (kb_f ?_)) rfl
            rintro ⟨-, q1⟩
            unfold crow at q1
            rw [← h9] at q1
            simp only [Prod.mk.injEq] at q1
            first | exact c45 q1.1 | exact c67 q1.2.1 | exact c89 q1.2.2
          · refine wp_iconst (v0 := 1) d_X9_isRightRow_92 rfl ?_
            refine wp_goto 97 d_X9_isRightRow_93 rfl ?_
            refine wp_iret d_X9_isRightRow_97 rfl k_nar1 ?_
            have h9 := hs.2.2.1 k (by simp only [List.length_append, cTube_len, List.length_cons, List.length_nil]; omega)
            rw [hs.1] at h9
            refine kR_i (Eq.symm (kb_t ⟨by omega, ?_⟩)) rfl
            unfold crow
            rw [← h9]
            exact Prod.ext c45 (Prod.ext c67 c89)
    · refine wp_iload_n 2 d_X9_isRightRow_25 rfl rfl ?_
      refine wp_iload_n 0 d_X9_isRightRow_26 rfl rfl ?_
      refine wp_ncmp_eq (a := k) (b := (p) + (1)) 32 d_X9_isRightRow_27 rfl (by omega) (by omega) (fun c27 => ?_) (fun c27 => ?_)
      · refine wp_aload_n 1 d_X9_isRightRow_32 rfl rfl ?_
        refine wp_getfield (v := .ref (74)) d_X9_isRightRow_33 gf_X9_63 (hp_0 _ _ _ _ _) rfl ?_
        refine wp_iconst (v0 := 3) d_X9_isRightRow_36 rfl ?_
        refine wp_iload_n 2 d_X9_isRightRow_37 rfl rfl ?_
        refine wp_imul d_X9_isRightRow_38 ?_
        refine wp_v (v0 := nI ((3) * (k))) (pk_mul (3) (k)) ?_
        refine wp_iaload (v := (c.2.1 74) ((3) * (k))) d_X9_isRightRow_39 (hp_74 _ _ _ _ _) (vp_in_nI (by omega) (by omega)) (congrArg ((c.2.1 74)) (nI_clamp (by omega))) ?_
        refine wp_aload_n 1 d_X9_isRightRow_40 rfl rfl ?_
        refine wp_iload_n 2 d_X9_isRightRow_41 rfl rfl ?_
        refine wp_vrt_i (As := [.int (nI (k))]) (x0 := cdue (c.2.1 9) p (k)) (h1 := HP c w m v E) d_X9_isRightRow_42 lk_X9_296 mv_X9_dueThrough in_X9_dueThrough se_X9_dueThrough (Nat.le_of_ble_eq_true rfl) (Nat.le_of_ble_eq_true rfl) (hp_0 _ _ _ _ _) rfl (s_X9_dueThrough hp hp4 (k := k) (by omega)) ?_
        refine wp_icmp_ne 96 d_X9_isRightRow_45 rfl (fun c45 => ?_) (fun c45 => ?_)
        · refine wp_iconst (v0 := 0) d_X9_isRightRow_96 rfl ?_
          refine wp_iret d_X9_isRightRow_97 rfl k_nar0 ?_
          have h9 := hs.2.2.1 k (by simp only [List.length_append, cTube_len, List.length_cons, List.length_nil]; omega)
          rw [hs.1] at h9
          refine kR_i (Eq.symm (kb_f ?_)) rfl
          rintro ⟨-, q1⟩
          unfold crow at q1
          rw [← h9] at q1
          simp only [Prod.mk.injEq] at q1
          first | exact c45 q1.1 | exact c67 q1.2.1 | exact c89 q1.2.2
        · refine wp_aload_n 1 d_X9_isRightRow_48 rfl rfl ?_
          refine wp_getfield (v := .ref (74)) d_X9_isRightRow_49 gf_X9_63 (hp_0 _ _ _ _ _) rfl ?_
          refine wp_iconst (v0 := 3) d_X9_isRightRow_52 rfl ?_
          refine wp_iload_n 2 d_X9_isRightRow_53 rfl rfl ?_
          refine wp_imul d_X9_isRightRow_54 ?_
          refine wp_v (v0 := nI ((3) * (k))) (pk_mul (3) (k)) ?_
          refine wp_iconst (v0 := 1) d_X9_isRightRow_55 rfl ?_
          refine wp_iadd d_X9_isRightRow_56 ?_
          refine wp_v (v0 := nI (((3) * (k)) + (1))) (nI_add ((3) * (k)) (1)) ?_
          refine wp_iaload (v := (c.2.1 74) (((3) * (k)) + (1))) d_X9_isRightRow_57 (hp_74 _ _ _ _ _) (vp_in_nI (by omega) (by omega)) (congrArg ((c.2.1 74)) (nI_clamp (by omega))) ?_
          refine wp_aload_n 1 d_X9_isRightRow_58 rfl rfl ?_
          refine wp_getfield (v := .ref (42)) d_X9_isRightRow_59 gf_X9_32 (hp_0 _ _ _ _ _) rfl ?_
          refine wp_iload_n 2 d_X9_isRightRow_62 rfl rfl ?_
          refine wp_iload_n 3 d_X9_isRightRow_63 rfl rfl ?_
          refine wp_vrt_i (As := [.int (nI (k)), .int (x)]) (x0 := (w.2.1 46) (k) + (x) * (w.2.1 48) (k)) (h1 := HP c w m v E) d_X9_isRightRow_64 lk_X9_299 mv_X5_heightAt in_X5_heightAt se_X5_heightAt (Nat.le_of_ble_eq_true rfl) (Nat.le_of_ble_eq_true rfl) (hp_42 _ _ _ _ _) rfl (s_X5_heightAt (k := k) (by omega) (x)) ?_
          refine wp_icmp_ne 96 d_X9_isRightRow_67 rfl (fun c67 => ?_) (fun c67 => ?_)
          · refine wp_iconst (v0 := 0) d_X9_isRightRow_96 rfl ?_
            refine wp_iret d_X9_isRightRow_97 rfl k_nar0 ?_
            have h9 := hs.2.2.1 k (by simp only [List.length_append, cTube_len, List.length_cons, List.length_nil]; omega)
            rw [hs.1] at h9
            refine kR_i (Eq.symm (kb_f ?_)) rfl
            rintro ⟨-, q1⟩
            unfold crow at q1
            rw [← h9] at q1
            simp only [Prod.mk.injEq] at q1
            first | exact c45 q1.1 | exact c67 q1.2.1 | exact c89 q1.2.2
          · refine wp_aload_n 1 d_X9_isRightRow_70 rfl rfl ?_
            refine wp_getfield (v := .ref (74)) d_X9_isRightRow_71 gf_X9_63 (hp_0 _ _ _ _ _) rfl ?_
            refine wp_iconst (v0 := 3) d_X9_isRightRow_74 rfl ?_
            refine wp_iload_n 2 d_X9_isRightRow_75 rfl rfl ?_
            refine wp_imul d_X9_isRightRow_76 ?_
            refine wp_v (v0 := nI ((3) * (k))) (pk_mul (3) (k)) ?_
            refine wp_iconst (v0 := 2) d_X9_isRightRow_77 rfl ?_
            refine wp_iadd d_X9_isRightRow_78 ?_
            refine wp_v (v0 := nI (((3) * (k)) + (2))) (nI_add ((3) * (k)) (2)) ?_
            refine wp_iaload (v := (c.2.1 74) (((3) * (k)) + (2))) d_X9_isRightRow_79 (hp_74 _ _ _ _ _) (vp_in_nI (by omega) (by omega)) (congrArg ((c.2.1 74)) (nI_clamp (by omega))) ?_
            refine wp_aload_n 1 d_X9_isRightRow_80 rfl rfl ?_
            refine wp_getfield (v := .ref (42)) d_X9_isRightRow_81 gf_X9_32 (hp_0 _ _ _ _ _) rfl ?_
            refine wp_iload_n 2 d_X9_isRightRow_84 rfl rfl ?_
            refine wp_iload_n 3 d_X9_isRightRow_85 rfl rfl ?_
            refine wp_vrt_i (As := [.int (nI (k)), .int (x)]) (x0 := (w.2.1 47) (k) + (x) * (w.2.1 49) (k)) (h1 := HP c w m v E) d_X9_isRightRow_86 lk_X9_303 mv_X5_slopeAt in_X5_slopeAt se_X5_slopeAt (Nat.le_of_ble_eq_true rfl) (Nat.le_of_ble_eq_true rfl) (hp_42 _ _ _ _ _) rfl (s_X5_slopeAt (k := k) (by omega) (x)) ?_
            refine wp_icmp_ne 96 d_X9_isRightRow_89 rfl (fun c89 => ?_) (fun c89 => ?_)
            · refine wp_iconst (v0 := 0) d_X9_isRightRow_96 rfl ?_
              refine wp_iret d_X9_isRightRow_97 rfl k_nar0 ?_
              have h9 := hs.2.2.1 k (by simp only [List.length_append, cTube_len, List.length_cons, List.length_nil]; omega)
              rw [hs.1] at h9
              refine kR_i (Eq.symm (kb_f ?_)) rfl
              rintro ⟨-, q1⟩
              unfold crow at q1
              rw [← h9] at q1
              simp only [Prod.mk.injEq] at q1
              first | exact c45 q1.1 | exact c67 q1.2.1 | exact c89 q1.2.2
            · refine wp_iconst (v0 := 1) d_X9_isRightRow_92 rfl ?_
              refine wp_goto 97 d_X9_isRightRow_93 rfl ?_
              refine wp_iret d_X9_isRightRow_97 rfl k_nar1 ?_
              have h9 := hs.2.2.1 k (by simp only [List.length_append, cTube_len, List.length_cons, List.length_nil]; omega)
              rw [hs.1] at h9
              refine kR_i (Eq.symm (kb_t ⟨by omega, ?_⟩)) rfl
              unfold crow
              rw [← h9]
              exact Prod.ext c45 (Prod.ext c67 c89)
      · refine wp_iconst (v0 := 0) d_X9_isRightRow_30 rfl ?_
        refine wp_iret d_X9_isRightRow_31 rfl k_nar0 ?_
        refine kR_i (Eq.symm (kb_f ?_)) rfl
        rintro ⟨q1, -⟩
        exact q1 (by omega)
/-- the first that is not so, and one more; 0: all of n from j on are -/
def kfj (P : Nat → Prop) [DecidablePred P] : Nat → Nat → Int32
  | 0, _ => 0
  | n + 1, j => if P j then kfj P n (j + 1) else nI (j + 1)
abbrev cRight (A : Nat → Nat → Int32) (R : Nat → Int32) (code : Nat → Int32) (cnt p r : Nat) (k : Nat) : Prop := ¬ (p + 1 < k ∨ k + 1 = r ∧ k ≠ p + 1) ∧ (R (3 * k), R (3 * k + 1), R (3 * k + 2)) = crow (A 6 1) (A 9) p (cTube A 1 code cnt p ++ [(A 6 2, 0)]) (R 1) k
abbrev cHead (R : Nat → Int32) : Prop := R 0 = -9 ∧ (-9 ≤ (R 1).toInt ∧ (R 1).toInt ≤ 9) ∧ R 2 = 0
theorem s_X9_judge_l {X : kX} {d : Nat} {c w m v : kZ} {E : kH} {w1 : kZ} {n : Nat} (hn : c.1 100 = nI n) (hn9 : n ≤ 9) {rho cnt ka L : Nat} {code : Nat → Int32} (hrr : c.2.2.1 1 = rho) (hR : kRu E rho cnt ka L code) (hL : L < 2 ^ 20) (hc8 : cnt ≤ 8) (hwf : kWF code L cnt 0) (hk : ∀ j, j < n → 1 ≤ (c.2.1 2 j).toInt ∧ (c.2.1 2 j).toInt ≤ 5) {p : Nat} (hp : c.1 107 = nI p) (hp4 : p ≤ 4) (hln : ∀ j, j < p → vp_in (c.2.1 9 j) n) {r : Nat} (hrc : c.1 11 = nI r) (hr6 : r ≤ 6) (hs : kSeen w1 (c.2.1 6 1) (c.2.1 6 2) (c.2.1 6 3) (cTube c.2.1 1 code cnt p)) : ∀ (k : Nat) (j : Nat), (j + k = r) → (1 ≤ j) → WP X (d + 8) 0 0 Y_X9_judge 51 [(2, .int (nI (j))), (1, .int ((c.2.1 74) 1)), (0, .ref (0))] [] (HP c w1 m v E) (fun r1 h1 => r1 = some (.int (kfj (cRight c.2.1 (c.2.1 74) code cnt p r) k j)) ∧ h1 = HP c w1 m v E) := by
  intro k
  induction k using Nat.strongRecOn with
  | ind k ih =>
    intro j hj hj1
    refine wp_iload_n 0 d_X9_judge_51 rfl rfl ?_
    refine wp_aload_n 2 d_X9_judge_52 rfl rfl ?_
    refine wp_getfield (v := .int (nI (r))) d_X9_judge_53 gf_X9_293 (hp_0 _ _ _ _ _) (congrArg (fun z => some (Value.int z)) hrc) ?_
    refine wp_ncmp_ge (a := j) (b := r) 78 d_X9_judge_56 rfl (by omega) (by omega) (fun c56 => ?_) (fun c56 => ?_)
    · refine wp_iconst (v0 := 0) d_X9_judge_78 rfl ?_
      refine wp_reti d_X9_judge_79 rfl ?_
      obtain rfl : k = 0 := by omega
      exact ⟨rfl, rfl⟩
    · refine wp_aload_n 2 d_X9_judge_59 rfl rfl ?_
      refine wp_iload_n 0 d_X9_judge_60 rfl rfl ?_
      refine wp_iload_n 1 d_X9_judge_61 rfl rfl ?_
      refine wp_vrt_i (As := [.int (nI (j)), .int ((c.2.1 74) 1)]) (x0 := kb (cRight c.2.1 (c.2.1 74) code cnt p r (j))) (h1 := HP c w1 m v E) d_X9_judge_62 lk_X9_309 mv_X9_isRightRow in_X9_isRightRow se_X9_isRightRow (Nat.le_of_ble_eq_true rfl) (Nat.le_of_ble_eq_true rfl) (hp_0 _ _ _ _ _) rfl (s_X9_isRightRow (w := w1) hn hn9 hrr hR hL hc8 hwf hk hp hp4 hln hrc hr6 hs ((c.2.1 74) 1) (k := j) (by omega) (by omega)) ?_
      refine wp_ifb_ne 72 d_X9_judge_65 rfl (fun c65 => ?_) (fun c65 => ?_)
      · refine wp_iinc (v0 := nI ((j) + 1)) [(2, .int (nI ((j) + 1))), (1, .int ((c.2.1 74) 1)), (0, .ref (0))] 0 d_X9_judge_72 rfl (nI_add (j) 1) (Nat.le_of_ble_eq_true rfl) rfl ?_
        refine wp_goto 51 d_X9_judge_75 rfl ?_
        obtain ⟨k1, rfl⟩ : ∃ k1, k = k1 + 1 := ⟨k - 1, by omega⟩
        simp only [kfj]
        rw [if_pos c65]
        refine wp_sub [(2, .int (nI ((j) + 1))), (1, .int ((c.2.1 74) 1)), (0, .ref (0))] [0, 1, 2] rfl ?_
        exact ih k1 (by omega) (j + 1) (by omega) (by omega)
      · refine wp_iload_n 0 d_X9_judge_68 rfl rfl ?_
        refine wp_iconst (v0 := 1) d_X9_judge_69 rfl ?_
        refine wp_iadd d_X9_judge_70 ?_
        refine wp_v (v0 := nI ((j) + (1))) (nI_add (j) (1)) ?_
        refine wp_reti d_X9_judge_71 rfl ?_
        obtain ⟨k1, rfl⟩ : ∃ k1, k = k1 + 1 := ⟨k - 1, by omega⟩
        refine ⟨?_, rfl⟩
        simp only [kfj]
        rw [if_neg c65]
theorem s_X9_judge {X : kX} {d : Nat} {c w m v : kZ} {E : kH} {n : Nat} (hn : c.1 100 = nI n) (hn9 : n ≤ 9) {rho cnt ka L : Nat} {code : Nat → Int32} (hrr : c.2.2.1 1 = rho) (hR : kRu E rho cnt ka L code) (hL : L < 2 ^ 20) (hc8 : cnt ≤ 8) (hwf : kWF code L cnt 0) (hk : ∀ j, j < n → 1 ≤ (c.2.1 2 j).toInt ∧ (c.2.1 2 j).toInt ≤ 5) {p : Nat} (hp : c.1 107 = nI p) (hp4 : p ≤ 4) (hln : ∀ j, j < p → vp_in (c.2.1 9 j) n) (hr0 : kRay w []) {r : Nat} (hrc : c.1 11 = nI r) (hr6 : r ≤ 6) : WP X (d + 8) 0 0 Y_X9_judge 0 [(0, .ref (0))] [] (HP c w m v E) (fun r1 h1 => r1 = some (.int (if r = 0 then 0 else if cHead (c.2.1 74) then kfj (cRight c.2.1 (c.2.1 74) code cnt p r) (r - 1) 1 else 1)) ∧ ∃ w1 : kZ, h1 = HP c w1 m v E ∧ kWf w w1 ∧ kRay w1 []) := by
  refine wp_aload_n 0 d_X9_judge_0 rfl rfl ?_
  refine wp_getfield (v := .int (nI (r))) d_X9_judge_1 gf_X9_293 (hp_0 _ _ _ _ _) (congrArg (fun z => some (Value.int z)) hrc) ?_
  refine wp_nif_ne (a := r) 9 d_X9_judge_4 rfl (by omega) (fun c4 => ?_) (fun c4 => ?_)
  · refine wp_aload_n 0 d_X9_judge_9 rfl rfl ?_
    refine wp_getfield (v := .ref (74)) d_X9_judge_10 gf_X9_63 (hp_0 _ _ _ _ _) rfl ?_
    refine wp_iconst (v0 := 1) d_X9_judge_13 rfl ?_
    refine wp_iaload (v := (c.2.1 74) (1)) d_X9_judge_14 (hp_74 _ _ _ _ _) (kin rfl) rfl ?_
    refine wp_istore_n [(1, .int ((c.2.1 74) (1))), (0, .ref (0))] d_X9_judge_15 rfl (Nat.le_of_ble_eq_true rfl) rfl ?_
    refine wp_aload_n 1 d_X9_judge_16 rfl rfl ?_
    refine wp_getfield (v := .ref (74)) d_X9_judge_17 gf_X9_63 (hp_0 _ _ _ _ _) rfl ?_
    refine wp_iconst (v0 := 0) d_X9_judge_20 rfl ?_
    refine wp_iaload (v := (c.2.1 74) (0)) d_X9_judge_21 (hp_74 _ _ _ _ _) (kin rfl) rfl ?_
    refine wp_bipush (v0 := -9) d_X9_judge_22 (by decide) ?_
    refine wp_icmp_ne 43 d_X9_judge_24 rfl (fun c24 => ?_) (fun c24 => ?_)
    · refine wp_iconst (v0 := 1) d_X9_judge_43 rfl ?_
      refine wp_reti d_X9_judge_44 rfl ?_
      refine ⟨?_, w, rfl, kWf.rf w, hr0⟩
      rw [if_neg c4, if_neg]
      rintro ⟨q1, q2, q3⟩
      first | exact c24 q1 | exact c31 q2 | exact c40 q3
    · refine wp_iload_n 0 d_X9_judge_27 rfl rfl ?_
      refine wp_stc_i (As := [.int ((c.2.1 74) (1))]) (x0 := kb (-9 ≤ ((c.2.1 74) (1) : Int32).toInt ∧ ((c.2.1 74) (1) : Int32).toInt ≤ 9)) (h1 := HP c w m v E) d_X9_judge_28 lk_X9_95 mv_X9_isSmall st_X9_isSmall (Nat.le_of_ble_eq_true rfl) (Nat.le_of_ble_eq_true rfl) (s_X9_isSmall _ ((c.2.1 74) (1) : Int32)) ?_
      refine wp_ifb_eq 43 d_X9_judge_31 rfl (fun c31 => ?_) (fun c31 => ?_)
      · refine wp_iconst (v0 := 1) d_X9_judge_43 rfl ?_
        refine wp_reti d_X9_judge_44 rfl ?_
        refine ⟨?_, w, rfl, kWf.rf w, hr0⟩
        rw [if_neg c4, if_neg]
        rintro ⟨q1, q2, q3⟩
        first | exact c24 q1 | exact c31 q2 | exact c40 q3
      · refine wp_aload_n 1 d_X9_judge_34 rfl rfl ?_
        refine wp_getfield (v := .ref (74)) d_X9_judge_35 gf_X9_63 (hp_0 _ _ _ _ _) rfl ?_
        refine wp_iconst (v0 := 2) d_X9_judge_38 rfl ?_
        refine wp_iaload (v := (c.2.1 74) (2)) d_X9_judge_39 (hp_74 _ _ _ _ _) (kin rfl) rfl ?_
        refine wp_if_eq 45 d_X9_judge_40 rfl (fun c40 => ?_) (fun c40 => ?_)
        · refine wp_aload_n 1 d_X9_judge_45 rfl rfl ?_
          refine wp_virtual0 (As := []) d_X9_judge_46 lk_X9_168 mv_X9_shine in_X9_shine se_X9_shine (Nat.le_of_ble_eq_true rfl) (Nat.le_of_ble_eq_true rfl) (hp_0 _ _ _ _ _) rfl (s_X9_shine hn hn9 hrr hR hL hc8 hwf hk hp hp4 hln hr0) (fun v46 h46 q46 => ?_)
          obtain ⟨rfl, w1, rfl, ha1, hd1, hs1⟩ := q46
          show WP _ _ _ _ _ 49 _ [] (HP c w1 m v E) _
          refine wp_iconst (v0 := 1) d_X9_judge_49 rfl ?_
          refine wp_istore_n [(2, .int (1)), (1, .int ((c.2.1 74) (1))), (0, .ref (0))] d_X9_judge_50 rfl (Nat.le_of_ble_eq_true rfl) rfl ?_
          refine wp_sub [(2, .int (1)), (1, .int ((c.2.1 74) (1))), (0, .ref (0))] [0, 1, 2] rfl ?_
          have L := s_X9_judge_l (X := X) (d := d) (c := c) (m := m) (v := v) (E := E) (w := w) (w1 := w1) hn hn9 hrr hR hL hc8 hwf hk hp hp4 hln hrc hr6 hs1 (r - 1) 1 (by omega) (by omega)
          refine wp_mono ?_ L
          rintro r1 h1 ⟨rfl, rfl⟩
          exact ⟨by rw [if_neg c4, if_pos ⟨c24, c31, c40⟩], w1, rfl, ha1.wf, hs1.2.2.1.len (j := 0)⟩
        · refine wp_iconst (v0 := 1) d_X9_judge_43 rfl ?_
          refine wp_reti d_X9_judge_44 rfl ?_
          refine ⟨?_, w, rfl, kWf.rf w, hr0⟩
          rw [if_neg c4, if_neg]
          rintro ⟨q1, q2, q3⟩
          first | exact c24 q1 | exact c31 q2 | exact c40 q3
  · refine wp_iconst (v0 := 0) d_X9_judge_7 rfl ?_
    refine wp_reti d_X9_judge_8 rfl ?_
    exact ⟨by rw [if_pos c4], w, rfl, kWf.rf w, hr0⟩
