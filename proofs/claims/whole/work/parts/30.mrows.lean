/-! ===== the reference: rows ===== -/
theorem setSA (m : kZ) (f F : Nat → Int32) (a b : Int32) : setS (setA (setS (setA m 93 f) 8022 a) 93 F) 8022 b = setS (setA m 93 F) 8022 b := by
  simp only [setS, setA, updA_idem]
  congr 1
  funext j
  simp only [upd]
  split <;> rfl
def mrow (g : Int32) (ln : Nat → Int32) (p : Nat) (l : List (Int32 × Int32)) (x : Int32) (k : Nat) : Int32 × Int32 × Int32 := (cdue ln p k, (mray g (l.take k) x).1, (mray g (l.take k) x).2)
theorem s_X10_lays {X : kX} {d : Nat} {c w m v : kZ} {E : kH} {r : Nat} (hr : m.1 8022 = nI r) (hr5 : r ≤ 5) (t : Int32) : WP X d 0 0 Y_X10_lays 0 [(0, .ref (80)), (1, .int (t))] [] (HP c w m v E) (kR none (HP c w (setS (setA m 93 (upd (upd (upd (m.2.1 93) (3 * (r)) (t)) (3 * (r) + 1) (v.1 8009)) (3 * (r) + 2) (v.1 8010))) 8022 (nI (r + 1))) v E)) := by
  refine wp_aload_n 0 d_X10_lays_0 rfl rfl ?_
  refine wp_getfield (v := .ref (93)) d_X10_lays_1 gf_X10_47 (hp_80 _ _ _ _ _) rfl ?_
  refine wp_iconst (v0 := 3) d_X10_lays_4 rfl ?_
  refine wp_aload_n 0 d_X10_lays_5 rfl rfl ?_
  refine wp_getfield (v := .int (nI (r))) d_X10_lays_6 gf_X10_264 (hp_80 _ _ _ _ _) (congrArg (fun z => some (Value.int z)) hr) ?_
  refine wp_imul d_X10_lays_9 ?_
  refine wp_v (v0 := nI ((3) * (r))) (pk_mul (3) (r)) ?_
  refine wp_iload_n 1 d_X10_lays_10 rfl rfl ?_
  refine wp_iastore (h' := HP c w (setA m 93 (upd (m.2.1 93) ((3) * (r)) (t))) v E) d_X10_lays_11 (hp_93 _ _ _ _ _) (vp_in_nI (by omega) (by omega)) (by rw [nI_clamp (by omega)]; exact (hpa_93 _ _ _ _ _ _)) ?_
  refine wp_aload_n 0 d_X10_lays_12 rfl rfl ?_
  refine wp_getfield (v := .ref (93)) d_X10_lays_13 gf_X10_47 (hp_80 _ _ _ _ _) rfl ?_
  refine wp_iconst (v0 := 3) d_X10_lays_16 rfl ?_
  refine wp_aload_n 0 d_X10_lays_17 rfl rfl ?_
  refine wp_getfield (v := .int (nI (r))) d_X10_lays_18 gf_X10_264 (hp_80 _ _ _ _ _) (congrArg (fun z => some (Value.int z)) hr) ?_
  refine wp_imul d_X10_lays_21 ?_
  refine wp_v (v0 := nI ((3) * (r))) (pk_mul (3) (r)) ?_
  refine wp_iconst (v0 := 1) d_X10_lays_22 rfl ?_
  refine wp_iadd d_X10_lays_23 ?_
  refine wp_v (v0 := nI (((3) * (r)) + (1))) (nI_add ((3) * (r)) (1)) ?_
  refine wp_aload_n 0 d_X10_lays_24 rfl rfl ?_
  refine wp_getfield (v := .int ((v.1 8009))) d_X10_lays_25 gf_X10_146 (hp_80 _ _ _ _ _) rfl ?_
  refine wp_iastore (h' := HP c w (setA (setA m 93 (upd (m.2.1 93) ((3) * (r)) (t))) 93 (upd (upd (m.2.1 93) ((3) * (r)) (t)) (((3) * (r)) + (1)) ((v.1 8009)))) v E) d_X10_lays_28 (hp_93 _ _ _ _ _) (vp_in_nI (by omega) (by omega)) (by rw [nI_clamp (by omega)]; exact (hpa_93 _ _ _ _ _ _)) ?_
  refine wp_aload_n 0 d_X10_lays_29 rfl rfl ?_
  refine wp_getfield (v := .ref (93)) d_X10_lays_30 gf_X10_47 (hp_80 _ _ _ _ _) rfl ?_
  refine wp_iconst (v0 := 3) d_X10_lays_33 rfl ?_
  refine wp_aload_n 0 d_X10_lays_34 rfl rfl ?_
  refine wp_getfield (v := .int (nI (r))) d_X10_lays_35 gf_X10_264 (hp_80 _ _ _ _ _) (congrArg (fun z => some (Value.int z)) hr) ?_
  refine wp_imul d_X10_lays_38 ?_
  refine wp_v (v0 := nI ((3) * (r))) (pk_mul (3) (r)) ?_
  refine wp_iconst (v0 := 2) d_X10_lays_39 rfl ?_
  refine wp_iadd d_X10_lays_40 ?_
  refine wp_v (v0 := nI (((3) * (r)) + (2))) (nI_add ((3) * (r)) (2)) ?_
  refine wp_aload_n 0 d_X10_lays_41 rfl rfl ?_
  refine wp_getfield (v := .int ((v.1 8010))) d_X10_lays_42 gf_X10_143 (hp_80 _ _ _ _ _) rfl ?_
  refine wp_iastore (h' := HP c w (setA (setA (setA m 93 (upd (m.2.1 93) ((3) * (r)) (t))) 93 (upd (upd (m.2.1 93) ((3) * (r)) (t)) (((3) * (r)) + (1)) ((v.1 8009)))) 93 (upd (upd (upd (m.2.1 93) ((3) * (r)) (t)) (((3) * (r)) + (1)) ((v.1 8009))) (((3) * (r)) + (2)) ((v.1 8010)))) v E) d_X10_lays_45 (hp_93 _ _ _ _ _) (vp_in_nI (by omega) (by omega)) (by rw [nI_clamp (by omega)]; exact (hpa_93 _ _ _ _ _ _)) ?_
  refine wp_aload_n 0 d_X10_lays_46 rfl rfl ?_
  refine wp_dup d_X10_lays_47 rfl ?_
  refine wp_getfield (v := .int (nI (r))) d_X10_lays_48 gf_X10_264 (hp_80 _ _ _ _ _) (congrArg (fun z => some (Value.int z)) hr) ?_
  refine wp_iconst (v0 := 1) d_X10_lays_51 rfl ?_
  refine wp_iadd d_X10_lays_52 ?_
  refine wp_v (v0 := nI ((r) + (1))) (nI_add (r) (1)) ?_
  refine wp_putfield (h' := HP c w (setS (setA (setA (setA m 93 (upd (m.2.1 93) ((3) * (r)) (t))) 93 (upd (upd (m.2.1 93) ((3) * (r)) (t)) (((3) * (r)) + (1)) ((v.1 8009)))) 93 (upd (upd (upd (m.2.1 93) ((3) * (r)) (t)) (((3) * (r)) + (1)) ((v.1 8009))) (((3) * (r)) + (2)) ((v.1 8010)))) 8022 (nI ((r) + (1)))) v E) d_X10_lays_53 gp_X10_264 (kfit_i _) (hp_80 _ _ _ _ _) (Nat.le_of_ble_eq_true rfl) (hps_80_22 _ _ _ _ _ _) ?_
  refine wp_vret d_X10_lays_56 rfl ?_
  exact ⟨rfl, rfl⟩
theorem s_X10_prove_l {X : kX} {d : Nat} {c w m v : kZ} {E : kH} {cnt n p : Nat} {en : Nat → Nat} (hp4 : p ≤ 4) (hld : mLaid v (mTube (m.2.1 81) en cnt p)) (x : Int32) : ∀ (k : Nat) (i : Nat) (f : Nat → Int32) (v' : kZ), (i + k = p) → (mH v v') → ((v'.1 8009, v'.1 8010) = mray ((m.2.1 81) 5) (((mTube (m.2.1 81) en cnt p) ++ [(((m.2.1 81) 6), 0)]).take i) x) → (∀ j, j < i + 1 → (f (3 * j), f (3 * j + 1), f (3 * j + 2)) = mrow ((m.2.1 81) 5) (mlp (m.2.1 81)) p ((mTube (m.2.1 81) en cnt p) ++ [(((m.2.1 81) 6), 0)]) x j) → WP X (d + 2) 0 0 Y_X10_prove 36 [(2, .int (nI (i))), (0, .ref (80)), (1, .int (x))] [] (HP c w (setS (setA m 93 (f)) 8022 (nI (i + 1))) v' E) (fun r1 h1 => r1 = some (.int (nI (p + 2))) ∧ ∃ f1, ∃ v1 : kZ, h1 = HP c w (setS (setA m 93 f1) 8022 (nI (p + 2))) v1 E ∧ mH v v1 ∧ ∀ j, j < p + 2 → (f1 (3 * j), f1 (3 * j + 1), f1 (3 * j + 2)) = mrow ((m.2.1 81) 5) (mlp (m.2.1 81)) p ((mTube (m.2.1 81) en cnt p) ++ [(((m.2.1 81) 6), 0)]) x j) := by
  intro k
  induction k using Nat.strongRecOn with
  | ind k ih =>
    intro i f v' hi hmh hq hr
    refine wp_iload_n 0 d_X10_prove_36 rfl rfl ?_
    refine wp_aload_n 1 d_X10_prove_37 rfl rfl ?_
    refine wp_getfield (v := .int (nI (p))) d_X10_prove_38 gf_X10_135 (hp_80 _ _ _ _ _) (congrArg (fun z => some (Value.int z)) ((hld.h hmh).1.trans (congrArg nI (mTube_len _ _ _ _)))) ?_
    refine wp_ncmp_ge (a := i) (b := p) 81 d_X10_prove_41 rfl (by omega) (by omega) (fun c41 => ?_) (fun c41 => ?_)
    · refine wp_aload_n 1 d_X10_prove_81 rfl rfl ?_
      refine wp_aload_n 1 d_X10_prove_82 rfl rfl ?_
      refine wp_getfield (v := .ref (81)) d_X10_prove_83 gf_X10_7 (hp_80 _ _ _ _ _) rfl ?_
      refine wp_bipush (v0 := 6) d_X10_prove_86 (by decide) ?_
      refine wp_iaload (v := (m.2.1 81) (6)) d_X10_prove_88 (hp_81 _ _ _ _ _) (kin rfl) rfl ?_
      refine wp_iconst (v0 := 0) d_X10_prove_89 rfl ?_
      refine wp_vrt_v (As := [.int ((m.2.1 81) (6)), .int (0)]) (h1 := HP c w (setS (setA m 93 (f)) 8022 (nI (i + 1))) (setS (setS v' 8010 ((v'.1 8010) + (0 - (m.2.1 81) (6) * (v'.1 8009)))) 8009 ((v'.1 8009) + ((m.2.1 81) 5) * ((v'.1 8010) + (0 - (m.2.1 81) (6) * (v'.1 8009))))) E) d_X10_prove_90 lk_X10_149 mv_X10_through in_X10_through se_X10_through (Nat.le_of_ble_eq_true rfl) (Nat.le_of_ble_eq_true rfl) (hp_80 _ _ _ _ _) rfl (s_X10_through ((m.2.1 81) (6)) (0)) ?_
      refine wp_aload_n 1 d_X10_prove_93 rfl rfl ?_
      refine wp_bipush (v0 := 9) d_X10_prove_94 (by decide) ?_
      refine wp_vrt_v (As := [.int (9)]) (h1 := HP c w (setS (setA (setS (setA m 93 (f)) 8022 (nI (i + 1))) 93 (upd (upd (upd (f) (3 * (i + 1)) (9)) (3 * (i + 1) + 1) (((v'.1 8009) + ((m.2.1 81) 5) * ((v'.1 8010) + (0 - (m.2.1 81) (6) * (v'.1 8009)))))) (3 * (i + 1) + 2) (((v'.1 8010) + (0 - (m.2.1 81) (6) * (v'.1 8009)))))) 8022 (nI (i + 1 + 1))) (setS (setS v' 8010 ((v'.1 8010) + (0 - (m.2.1 81) (6) * (v'.1 8009)))) 8009 ((v'.1 8009) + ((m.2.1 81) 5) * ((v'.1 8010) + (0 - (m.2.1 81) (6) * (v'.1 8009))))) E) d_X10_prove_96 lk_X10_267 mv_X10_lays in_X10_lays se_X10_lays (Nat.le_of_ble_eq_true rfl) (Nat.le_of_ble_eq_true rfl) (hp_80 _ _ _ _ _) rfl (s_X10_lays (m := (setS (setA m 93 (f)) 8022 (nI (i + 1)))) (v := (setS (setS v' 8010 ((v'.1 8010) + (0 - (m.2.1 81) (6) * (v'.1 8009)))) 8009 ((v'.1 8009) + ((m.2.1 81) 5) * ((v'.1 8010) + (0 - (m.2.1 81) (6) * (v'.1 8009)))))) (r := i + 1) rfl (by omega) (9)) ?_
      refine wp_aload_n 1 d_X10_prove_99 rfl rfl ?_
      refine wp_getfield (v := .int ((nI (i + 1 + 1)))) d_X10_prove_100 gf_X10_264 (hp_80 _ _ _ _ _) rfl ?_
      refine wp_reti d_X10_prove_103 rfl ?_
      obtain rfl : k = 0 := by omega
      obtain rfl : p = i := by omega
      refine ⟨rfl, _, _, by rw [setSA], ?_, fun j hj => ?_⟩
      · refine hmh.tr ⟨fun k9 h9 => ?_, rfl⟩
        simp only [setS]
        rw [upd_n _ _ (by omega), upd_n _ _ (by omega)]
      · have hq2 : ((((setS (setS v' 8010 ((v'.1 8010) + (0 - (m.2.1 81) (6) * (v'.1 8009)))) 8009 ((v'.1 8009) + ((m.2.1 81) 5) * ((v'.1 8010) + (0 - (m.2.1 81) (6) * (v'.1 8009)))))).1 8009, ((setS (setS v' 8010 ((v'.1 8010) + (0 - (m.2.1 81) (6) * (v'.1 8009)))) 8009 ((v'.1 8009) + ((m.2.1 81) 5) * ((v'.1 8010) + (0 - (m.2.1 81) (6) * (v'.1 8009)))))).1 8010) : Int32 × Int32) = mray ((m.2.1 81) 5) (((mTube (m.2.1 81) en cnt p) ++ [(((m.2.1 81) 6), 0)]).take (p + 1)) x := by
          rw [List.take_succ_eq_append_getElem (by simp only [List.length_append, mTube_len, List.length_cons, List.length_nil]; omega), mray_s, ← hq, List.getElem_append_right (by rw [mTube_len]; omega)]
          simp only [mTube_len, Nat.sub_self, List.getElem_cons_zero]
          rfl
        by_cases e : j = p + 1
        · subst e
          rw [upd_s, upd_n _ _ (by omega : 3 * (p + 1) + 1 ≠ 3 * (p + 1) + 2), upd_s, upd_n _ _ (by omega : 3 * (p + 1) ≠ 3 * (p + 1) + 2), upd_n _ _ (by omega : 3 * (p + 1) ≠ 3 * (p + 1) + 1), upd_s]
          show (_, _, _) = _
          unfold mrow
          rw [← hq2]
          unfold cdue
          rw [if_neg (by omega), if_neg (by omega)]
          rfl
        · rw [upd_n _ _ (by omega), upd_n _ _ (by omega), upd_n _ _ (by omega), upd_n _ _ (by omega), upd_n _ _ (by omega), upd_n _ _ (by omega), upd_n _ _ (by omega), upd_n _ _ (by omega), upd_n _ _ (by omega)]
          exact hr j (by omega)
    · refine wp_aload_n 1 d_X10_prove_44 rfl rfl ?_
      refine wp_aload_n 1 d_X10_prove_45 rfl rfl ?_
      refine wp_getfield (v := .ref (86)) d_X10_prove_46 gf_X10_25 (hp_80 _ _ _ _ _) rfl ?_
      refine wp_iload_n 0 d_X10_prove_49 rfl rfl ?_
      refine wp_iaload (v := (v'.2.1 86) (i)) d_X10_prove_50 (hp_86 _ _ _ _ _) (vp_in_nI (by omega) (by omega)) (congrArg ((v'.2.1 86)) (nI_clamp (by omega))) ?_
      refine wp_aload_n 1 d_X10_prove_51 rfl rfl ?_
      refine wp_getfield (v := .ref (87)) d_X10_prove_52 gf_X10_28 (hp_80 _ _ _ _ _) rfl ?_
      refine wp_iload_n 0 d_X10_prove_55 rfl rfl ?_
      refine wp_iaload (v := (v'.2.1 87) (i)) d_X10_prove_56 (hp_87 _ _ _ _ _) (vp_in_nI (by omega) (by omega)) (congrArg ((v'.2.1 87)) (nI_clamp (by omega))) ?_
      refine wp_vrt_v (As := [.int ((v'.2.1 86) (i)), .int ((v'.2.1 87) (i))]) (h1 := HP c w (setS (setA m 93 (f)) 8022 (nI (i + 1))) (setS (setS v' 8010 ((v'.1 8010) + ((v'.2.1 87) (i) - (v'.2.1 86) (i) * (v'.1 8009)))) 8009 ((v'.1 8009) + ((m.2.1 81) 5) * ((v'.1 8010) + ((v'.2.1 87) (i) - (v'.2.1 86) (i) * (v'.1 8009))))) E) d_X10_prove_57 lk_X10_149 mv_X10_through in_X10_through se_X10_through (Nat.le_of_ble_eq_true rfl) (Nat.le_of_ble_eq_true rfl) (hp_80 _ _ _ _ _) rfl (s_X10_through ((v'.2.1 86) (i)) ((v'.2.1 87) (i))) ?_
      refine wp_aload_n 1 d_X10_prove_60 rfl rfl ?_
      refine wp_aload_n 1 d_X10_prove_61 rfl rfl ?_
      refine wp_getfield (v := .ref (81)) d_X10_prove_62 gf_X10_7 (hp_80 _ _ _ _ _) rfl ?_
      refine wp_bipush (v0 := 45) d_X10_prove_65 (by decide) ?_
      refine wp_iconst (v0 := 2) d_X10_prove_67 rfl ?_
      refine wp_iload_n 0 d_X10_prove_68 rfl rfl ?_
      refine wp_imul d_X10_prove_69 ?_
      refine wp_v (v0 := nI ((2) * (i))) (pk_mul (2) (i)) ?_
      refine wp_iadd d_X10_prove_70 ?_
      refine wp_v (v0 := nI ((45) + ((2) * (i)))) (nI_add (45) ((2) * (i))) ?_
      refine wp_iaload (v := (m.2.1 81) ((45) + ((2) * (i)))) d_X10_prove_71 (hp_81 _ _ _ _ _) (vp_in_nI (by omega) (by omega)) (congrArg ((m.2.1 81)) (nI_clamp (by omega))) ?_
      refine wp_vrt_v (As := [.int ((m.2.1 81) ((45) + ((2) * (i))))]) (h1 := HP c w (setS (setA (setS (setA m 93 (f)) 8022 (nI (i + 1))) 93 (upd (upd (upd (f) (3 * (i + 1)) ((m.2.1 81) ((45) + ((2) * (i))))) (3 * (i + 1) + 1) (((v'.1 8009) + ((m.2.1 81) 5) * ((v'.1 8010) + ((v'.2.1 87) (i) - (v'.2.1 86) (i) * (v'.1 8009)))))) (3 * (i + 1) + 2) (((v'.1 8010) + ((v'.2.1 87) (i) - (v'.2.1 86) (i) * (v'.1 8009)))))) 8022 (nI (i + 1 + 1))) (setS (setS v' 8010 ((v'.1 8010) + ((v'.2.1 87) (i) - (v'.2.1 86) (i) * (v'.1 8009)))) 8009 ((v'.1 8009) + ((m.2.1 81) 5) * ((v'.1 8010) + ((v'.2.1 87) (i) - (v'.2.1 86) (i) * (v'.1 8009))))) E) d_X10_prove_72 lk_X10_267 mv_X10_lays in_X10_lays se_X10_lays (Nat.le_of_ble_eq_true rfl) (Nat.le_of_ble_eq_true rfl) (hp_80 _ _ _ _ _) rfl (s_X10_lays (m := (setS (setA m 93 (f)) 8022 (nI (i + 1)))) (v := (setS (setS v' 8010 ((v'.1 8010) + ((v'.2.1 87) (i) - (v'.2.1 86) (i) * (v'.1 8009)))) 8009 ((v'.1 8009) + ((m.2.1 81) 5) * ((v'.1 8010) + ((v'.2.1 87) (i) - (v'.2.1 86) (i) * (v'.1 8009)))))) (r := i + 1) rfl (by omega) ((m.2.1 81) ((45) + ((2) * (i))))) ?_
      refine wp_iinc (v0 := nI ((i) + 1)) [(2, .int (nI ((i) + 1))), (0, .ref (80)), (1, .int (x))] 0 d_X10_prove_75 rfl (nI_add (i) 1) (Nat.le_of_ble_eq_true rfl) rfl ?_
      refine wp_goto 36 d_X10_prove_78 rfl ?_
      obtain ⟨k1, rfl⟩ : ∃ k1, k = k1 + 1 := ⟨k - 1, by omega⟩
      refine wp_sub [(2, .int (nI ((i) + 1))), (0, .ref (80)), (1, .int (x))] [0, 1, 2] rfl ?_
      refine wp_h (h' := HP c w (setS (setA m 93 (upd (upd (upd (f) (3 * (i + 1)) ((m.2.1 81) ((45) + ((2) * (i))))) (3 * (i + 1) + 1) (((v'.1 8009) + ((m.2.1 81) 5) * ((v'.1 8010) + ((v'.2.1 87) (i) - (v'.2.1 86) (i) * (v'.1 8009)))))) (3 * (i + 1) + 2) (((v'.1 8010) + ((v'.2.1 87) (i) - (v'.2.1 86) (i) * (v'.1 8009)))))) 8022 (nI (i + 1 + 1))) (setS (setS v' 8010 ((v'.1 8010) + ((v'.2.1 87) (i) - (v'.2.1 86) (i) * (v'.1 8009)))) 8009 ((v'.1 8009) + ((m.2.1 81) 5) * ((v'.1 8010) + ((v'.2.1 87) (i) - (v'.2.1 86) (i) * (v'.1 8009))))) E) (by rw [setSA]) ?_
      have hq2 : ((((setS (setS v' 8010 ((v'.1 8010) + ((v'.2.1 87) (i) - (v'.2.1 86) (i) * (v'.1 8009)))) 8009 ((v'.1 8009) + ((m.2.1 81) 5) * ((v'.1 8010) + ((v'.2.1 87) (i) - (v'.2.1 86) (i) * (v'.1 8009)))))).1 8009, ((setS (setS v' 8010 ((v'.1 8010) + ((v'.2.1 87) (i) - (v'.2.1 86) (i) * (v'.1 8009)))) 8009 ((v'.1 8009) + ((m.2.1 81) 5) * ((v'.1 8010) + ((v'.2.1 87) (i) - (v'.2.1 86) (i) * (v'.1 8009)))))).1 8010) : Int32 × Int32) = mray ((m.2.1 81) 5) (((mTube (m.2.1 81) en cnt p) ++ [(((m.2.1 81) 6), 0)]).take (i + 1)) x := by
        rw [List.take_succ_eq_append_getElem (by simp only [List.length_append, mTube_len, List.length_cons, List.length_nil]; omega), mray_s, ← hq, List.getElem_append_left (by rw [mTube_len]; omega), ← (hld.h hmh).2 i (by rw [mTube_len]; omega)]
        rfl
      refine ih k1 (by omega) (i + 1) _ _ (by omega) ?_ hq2 (fun j hj => ?_)
      · refine hmh.tr ⟨fun k9 h9 => ?_, rfl⟩
        simp only [setS]
        rw [upd_n _ _ (by omega), upd_n _ _ (by omega)]
      · by_cases e : j = i + 1
        · subst e
          rw [upd_s, upd_n _ _ (by omega : 3 * (i + 1) + 1 ≠ 3 * (i + 1) + 2), upd_s, upd_n _ _ (by omega : 3 * (i + 1) ≠ 3 * (i + 1) + 2), upd_n _ _ (by omega : 3 * (i + 1) ≠ 3 * (i + 1) + 1), upd_s]
          show (_, _, _) = _
          unfold mrow
          rw [← hq2]
          unfold cdue
          rw [if_neg (by omega), if_pos (by omega)]
          rfl
        · rw [upd_n _ _ (by omega), upd_n _ _ (by omega), upd_n _ _ (by omega), upd_n _ _ (by omega), upd_n _ _ (by omega), upd_n _ _ (by omega), upd_n _ _ (by omega), upd_n _ _ (by omega), upd_n _ _ (by omega)]
          exact hr j (by omega)
theorem setSB (m : kZ) (F : Nat → Int32) (a b : Int32) : setS (setA (setS m 8022 a) 93 F) 8022 b = setS (setA m 93 F) 8022 b := by
  simp only [setS, setA]
  congr 1
  funext j
  simp only [upd]
  split <;> rfl
theorem s_X10_prove {X : kX} {d : Nat} {c w m v : kZ} {E : kH} {cnt : Nat} (hs1 : (m.2.1 81) 1 = nI cnt) (hc8 : cnt ≤ 8) {en : Nat → Nat} (hm : mWF (m.2.1 81) cnt en) {n : Nat} (hn : m.2.1 81 0 = nI n) (hn9 : n ≤ 9) {p : Nat} (hp : m.2.1 81 2 = nI p) (hp4 : p ≤ 4) (hln : ∀ j, j < p → vp_in (mlp (m.2.1 81) j) n) (x : Int32) : WP X (d + 9) 0 0 Y_X10_prove 0 [(0, .ref (80)), (1, .int (x))] [] (HP c w m v E) (fun r1 h1 => (¬ (-9 ≤ x.toInt ∧ x.toInt ≤ 9) ∧ r1 = some (.int (-1)) ∧ h1 = HP c w m v E) ∨ ((-9 ≤ x.toInt ∧ x.toInt ≤ 9) ∧ r1 = some (.int (nI (p + 2))) ∧ ∃ f1, ∃ v1 : kZ, h1 = HP c w (setS (setA m 93 f1) 8022 (nI (p + 2))) v1 E ∧ mFr 84 87 v v1 ∧ ∀ j, j < p + 2 → (f1 (3 * j), f1 (3 * j + 1), f1 (3 * j + 2)) = mrow ((m.2.1 81) 5) (mlp (m.2.1 81)) p ((mTube (m.2.1 81) en cnt p) ++ [(((m.2.1 81) 6), 0)]) x j)) := by
  refine wp_iload_n 1 d_X10_prove_0 rfl rfl ?_
  refine wp_stc_i (As := [.int (x)]) (x0 := kb (-9 ≤ (x : Int32).toInt ∧ (x : Int32).toInt ≤ 9)) (h1 := HP c w m v E) d_X10_prove_1 lk_X10_163 mv_X10_isHeight st_X10_isHeight (Nat.le_of_ble_eq_true rfl) (Nat.le_of_ble_eq_true rfl) (s_X10_isHeight _ (x : Int32)) ?_
  refine wp_ifb_ne 9 d_X10_prove_4 rfl (fun c4 => ?_) (fun c4 => ?_)
  · refine wp_aload_n 0 d_X10_prove_9 rfl rfl ?_
    refine wp_virtual0 (As := []) d_X10_prove_10 lk_X10_166 mv_X10_layTube in_X10_layTube se_X10_layTube (Nat.le_of_ble_eq_true rfl) (Nat.le_of_ble_eq_true rfl) (hp_80 _ _ _ _ _) rfl (s_X10_layTube hs1 hc8 hm hn hn9 hp hp4 hln) (fun v10 h10 q10 => ?_)
    obtain ⟨rfl, v1, rfl, hf1, hst1, hl1⟩ := q10
    show WP _ _ _ _ _ 13 _ [] (HP c w m v1 E) _
    refine wp_aload_n 0 d_X10_prove_13 rfl rfl ?_
    refine wp_iload_n 1 d_X10_prove_14 rfl rfl ?_
    refine wp_putfield (h' := HP c w m (setS v1 8009 (x)) E) d_X10_prove_15 gp_X10_146 (kfit_i _) (hp_80 _ _ _ _ _) (Nat.le_of_ble_eq_true rfl) (hps_80_9 _ _ _ _ _ _) ?_
    refine wp_aload_n 0 d_X10_prove_18 rfl rfl ?_
    refine wp_iconst (v0 := 0) d_X10_prove_19 rfl ?_
    refine wp_putfield (h' := HP c w m (setS (setS v1 8009 (x)) 8010 (0)) E) d_X10_prove_20 gp_X10_143 (kfit_i _) (hp_80 _ _ _ _ _) (Nat.le_of_ble_eq_true rfl) (hps_80_10 _ _ _ _ _ _) ?_
    refine wp_aload_n 0 d_X10_prove_23 rfl rfl ?_
    refine wp_iconst (v0 := 0) d_X10_prove_24 rfl ?_
    refine wp_putfield (h' := HP c w (setS m 8022 (0)) (setS (setS v1 8009 (x)) 8010 (0)) E) d_X10_prove_25 gp_X10_264 (kfit_i _) (hp_80 _ _ _ _ _) (Nat.le_of_ble_eq_true rfl) (hps_80_22 _ _ _ _ _ _) ?_
    refine wp_aload_n 0 d_X10_prove_28 rfl rfl ?_
    refine wp_bipush (v0 := -9) d_X10_prove_29 (by decide) ?_
    refine wp_vrt_v (As := [.int ((-9))]) (h1 := HP c w (setS (setA (setS m 8022 (0)) 93 (upd (upd (upd (m.2.1 93) (3 * (0)) ((-9))) (3 * (0) + 1) ((x))) (3 * (0) + 2) ((0)))) 8022 (nI (0 + 1))) (setS (setS v1 8009 (x)) 8010 (0)) E) d_X10_prove_31 lk_X10_267 mv_X10_lays in_X10_lays se_X10_lays (Nat.le_of_ble_eq_true rfl) (Nat.le_of_ble_eq_true rfl) (hp_80 _ _ _ _ _) rfl (s_X10_lays (m := (setS m 8022 (0))) (v := (setS (setS v1 8009 (x)) 8010 (0))) (r := 0) rfl (by omega) ((-9))) ?_
    refine wp_iconst (v0 := 0) d_X10_prove_34 rfl ?_
    refine wp_istore_n [(2, .int (0)), (0, .ref (80)), (1, .int (x))] d_X10_prove_35 rfl (Nat.le_of_ble_eq_true rfl) rfl ?_
    refine wp_sub [(2, .int (0)), (0, .ref (80)), (1, .int (x))] [0, 1, 2] rfl ?_
    refine wp_h (h' := HP c w (setS (setA m 93 (upd (upd (upd (m.2.1 93) (3 * (0)) ((-9))) (3 * (0) + 1) ((x))) (3 * (0) + 2) ((0)))) 8022 (nI (0 + 1))) (setS (setS v1 8009 (x)) 8010 (0)) E) (by rw [setSB]) ?_
    have hmx : mH v1 (setS (setS v1 8009 (x)) 8010 (0)) := ⟨fun k9 h9 => by simp only [setS]; rw [upd_n _ _ (by omega), upd_n _ _ (by omega)], rfl⟩
    refine wp_mono ?_ (s_X10_prove_l (n := n) hp4 (hl1.h hmx) x p 0 (upd (upd (upd (m.2.1 93) (3 * (0)) ((-9))) (3 * (0) + 1) ((x))) (3 * (0) + 2) ((0))) (setS (setS v1 8009 (x)) 8010 (0)) (by omega) (mH.rf _) rfl (fun j hj => ?_))
    · rintro r1 h1 ⟨rfl, f1, v2, rfl, hm2, hr2⟩
      exact Or.inr ⟨c4, rfl, f1, v2, rfl, hf1.tr ((hmx.tr hm2).fr 84 87), hr2⟩
    · obtain rfl : j = 0 := by omega
      rfl
  · refine wp_iconst (v0 := -1) d_X10_prove_7 rfl ?_
    refine wp_reti d_X10_prove_8 rfl ?_
    exact Or.inl ⟨c4, rfl, rfl⟩
