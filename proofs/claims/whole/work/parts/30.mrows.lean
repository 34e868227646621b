/-! ===== the reference: rows ===== -/
theorem setSA (m : kZ) (f F : Nat → Int32) (a b : Int32) : setS (setA (setS (setA m 93 f) 8022 a) 93 F) 8022 b = setS (setA m 93 F) 8022 b := by
  simp only [setS, setA, updA_idem]
  congr 1
  funext j
  simp only [upd]
  split <;> rfl
def mrow (g : Int32) (ln : Nat → Int32) (p : Nat) (l : List (Int32 × Int32)) (x : Int32) (k : Nat) : Int32 × Int32 × Int32 := (cdue ln p k, (mray g (l.take k) x).1, (mray g (l.take k) x).2)
theorem s_X10_lays {X : kX} {d : Nat} {c w m v : kZ} {E : kH} {r : Nat} (hr : m.1 8022 = nI r) (hr5 : r ≤ 5) (t : Int32) : WP X d 0 0 Y_X10_lays 0 [(0, .ref (80)), (1, .int (t))] [] (HP c w m v E) (kR none (HP c w (setS (setA m 93 (upd (upd (upd (m.2.1 93) (3 * (r)) (t)) (3 * (r) + 1) (v.1 8009)) (3 * (r) + 2) (v.1 8010))) 8022 (nI (r + 1))) v E)) := by
  refine wp_aload_n 0 d_X10_lays_0 rfl rfl ?_
  refine wp_getfield (v := .ref (93)) d_X10_lays_1 gf_X10_47 (hp_80 _ _ _ _ _) rfl ?_
  refine wp_iconst (v0 := 3) d_X10_lays_4 rfl ?_
  refine wp_aload_n 0 d_X10_lays_5 rfl rfl ?_
  refine wp_getfield (v := .int (nI (r))) d_X10_lays_6 gf_X10_264 (hp_80 _ _ _ _ _) (congrArg (fun z => some (Value.int z)) hr) ?_
  refine wp_imul d_X10_lays_9 ?_
  refine wp_v (v0 := nI ((3) * (r))) (pk_mul (3) (r)) ?_
  refine wp_iload_n 1 d_X10_lays_10 rfl rfl ?_
  refine wp_iastore (h' := HP c w (setA m 93 (upd (m.2.1 93) ((3) * (r)) (t))) v E) d_X10_lays_11 (hp_93 _ _ _ _ _) (vp_in_nI (by omega) (by omega)) (by rw [nI_clamp (by omega)]; exact (hpa_93 _ _ _ _ _ _)) ?_
  refine wp_aload_n 0 d_X10_lays_12 rfl rfl ?_
  refine wp_getfield (v := .ref (93)) d_X10_lays_13 gf_X10_47 (hp_80 _ _ _ _ _) rfl ?_
  refine wp_iconst (v0 := 3) d_X10_lays_16 rfl ?_
  refine wp_aload_n 0 d_X10_lays_17 rfl rfl ?_
  refine wp_getfield (v := .int (nI (r))) d_X10_lays_18 gf_X10_264 (hp_80 _ _ _ _ _) (congrArg (fun z => some (Value.int z)) hr) ?_
  refine wp_imul d_X10_lays_21 ?_
  refine wp_v (v0 := nI ((3) * (r))) (pk_mul (3) (r)) ?_
  refine wp_iconst (v0 := 1) d_X10_lays_22 rfl ?_
  refine wp_iadd d_X10_lays_23 ?_
  refine wp_v (v0 := nI (((3) * (r)) + (1))) (nI_add ((3) * (r)) (1)) ?_
  refine wp_aload_n 0 d_X10_lays_24 rfl rfl ?_
  refine wp_getfield (v := .int ((v.1 8009))) d_X10_lays_25 gf_X10_146 (hp_80 _ _ _ _ _) rfl ?_
  refine wp_iastore (h' := HP c w (setA (setA m 93 (upd (m.2.1 93) ((3) * (r)) (t))) 93 (upd (upd (m.2.1 93) ((3) * (r)) (t)) (((3) * (r)) + (1)) ((v.1 8009)))) v E) d_X10_lays_28 (hp_93 _ _ _ _ _) (vp_in_nI (by omega) (by omega)) (by rw [nI_clamp (by omega)]; exact (hpa_93 _ _ _ _ _ _)) ?_
  refine wp_aload_n 0 d_X10_lays_29 rfl rfl ?_
  refine wp_getfield (v := .ref (93)) d_X10_lays_30 gf_X10_47 (hp_80 _ _ _ _ _) rfl ?_
  refine wp_iconst (v0 := 3) d_X10_lays_33 rfl ?_
  refine wp_aload_n 0 d_X10_lays_34 rfl rfl ?_
  refine wp_getfield (v := .int (nI (r))) d_X10_lays_35 gf_X10_264 (hp_80 _ _ _ _ _) (congrArg (fun z => some (Value.int z)) hr) ?_
  refine wp_imul d_X10_lays_38 ?_
  refine wp_v (v0 := nI ((3) * (r))) (pk_mul (3) (r)) ?_
  refine wp_iconst (v0 := 2) d_X10_lays_39 rfl ?_
  refine wp_iadd d_X10_lays_40 ?_
  refine wp_v (v0 := nI (((3) * (r)) + (2))) (nI_add ((3) * (r)) (2)) ?_
  refine wp_aload_n 0 d_X10_lays_41 rfl rfl ?_
  refine wp_getfield (v := .int ((v.1 8010))) d_X10_lays_42 gf_X10_143 (hp_80 _ _ _ _ _) rfl ?_
  refine wp_iastore (h' := HP c w (setA (setA (setA m 93 (upd (m.2.1 93) ((3) * (r)) (t))) 93 (upd (upd (m.2.1 93) ((3) * (r)) (t)) (((3) * (r)) + (1)) ((v.1 8009)))) 93 (upd (upd (upd (m.2.1 93) ((3) * (r)) (t)) (((3) * (r)) + (1)) ((v.1 8009))) (((3) * (r)) + (2)) ((v.1 8010)))) v E) d_X10_lays_45 (hp_93 _ _ _ _ _) (vp_in_nI (by omega) (by omega)) (by rw [nI_clamp (by omega)]; exact (hpa_93 _ _ _ _ _ _)) ?_
  refine wp_aload_n 0 d_X10_lays_46 rfl rfl ?_
  refine wp_dup d_X10_lays_47 rfl ?_
  refine wp_getfield (v := .int (nI (r))) d_X10_lays_48 gf_X10_264 (hp_80 _ _ _ _ _) (congrArg (fun z => some (Value.int z)) hr) ?_
  refine wp_iconst (v0 := 1) d_X10_lays_51 rfl ?_
  refine wp_iadd d_X10_lays_52 ?_
  refine wp_v (v0 := nI ((r) + (1))) (nI_add (r) (1)) ?_
  refine wp_putfield (h' := HP c w (setS (setA (setA (setA m 93 (upd (m.2.1 93) ((3) * (r)) (t))) 93 (upd (upd (m.2.1 93) ((3) * (r)) (t)) (((3) * (r)) + (1)) ((v.1 8009)))) 93 (upd (upd (upd (m.2.1 93) ((3) * (r)) (t)) (((3) * (r)) + (1)) ((v.1 8009))) (((3) * (r)) + (2)) ((v.1 8010)))) 8022 (nI ((r) + (1)))) v E) d_X10_lays_53 gp_X10_264 (kfit_i _) (hp_80 _ _ _ _ _) (Nat.le_of_ble_eq_true rfl) (hps_80_22 _ _ _ _ _ _) ?_
  refine wp_vret d_X10_lays_56 rfl ?_
  exact ⟨rfl, rfl⟩
theorem s_X10_prove_l {X : kX} {d : Nat} {c w m v : kZ} {E : kH} {cnt n p : Nat} {en : Nat → Nat} (hp4 : p ≤ 4) (hld : mLaid v (mTube (m.2.1 81) en cnt p)) (x : Int32) : ∀ (k : Nat) (i : Nat) (f : Nat → Int32) (v' : kZ), (i + k = p) → (mH v v') → ((v'.1 8009, v'.1 8010) = mray ((m.2.1 81) 5) (((mTube (m.2.1 81) en cnt p) ++ [(((m.2.1 81) 6), 0)]).take i) x) → (∀ j, j < i + 1 → (f (3 * j), f (3 * j + 1), f (3 * j + 2)) = mrow ((m.2.1 81) 5) (mlp (m.2.1 81)) p ((mTube (m.2.1 81) en cnt p) ++ [(((m.2.1 81) 6), 0)]) x j) → WP X (d + 2) 0 0 Y_X10_prove 36 [(2, .int (nI (i))), (0, .ref (80)), (1, .int (x))] [] (HP c w (setS (setA m 93 (f)) 8022 (nI (i + 1))) v' E) (fun r1 h1 => r1 = some (.int (nI (p + 2))) ∧ ∃ f1, ∃ v1 : kZ, h1 = HP c w (setS (setA m 93 f1) 8022 (nI (p + 2))) v1 E ∧ mH v v1 ∧ ∀ j, j < p + 2 → (f1 (3 * j), f1 (3 * j + 1), f1 (3 * j + 2)) = mrow ((m.2.1 81) 5) (mlp (m.2.1 81)) p ((mTube (m.2.1 81) en cnt p) ++ [(((m.2.1 81) 6), 0)]) x j) := by
  intro k
  induction k using Nat.strongRecOn with
  | ind k ih =>
    intro i f v' hi hmh hq hr
    refine wp_iload_n 0 d_X10_prove_36 rfl rfl ?_
    refine wp_aload_n 1 d_X10_prove_37 rfl rfl ?_
    refine wp_getfield (v := .int (nI (p))) d_X10_prove_38 gf_X10_135 (hp_80 _ _ _ _ _) (congrArg (fun z => some (Value.int z)) ((hld.h hmh).1.trans (congrArg nI (mTube_len _ _ _ _)))) ?_
    refine wp_ncmp_ge (a := i) (b := p) 81 d_X10_prove_41 rfl (by omega) (by omega) (fun c41 => ?_) (fun c41 => ?_)
    · refine wp_aload_n 1 d_X10_prove_81 rfl rfl ?_
      refine wp_aload_n 1 d_X10_prove_82 rfl rfl ?_
      refine wp_getfield (v := .ref (81)) d_X10_prove_83 gf_X10_7 (hp_80 _ _ _ _ _) rfl ?_
      refine wp_bipush (v0 := 6) d_X10_prove_86 (by decide) ?_
      refine wp_iaload (v := (m.2.1 81) (6)) d_X10_prove_88 (hp_81 _ _ _ _ _) (kin rfl) rfl ?_
      refine wp_iconst (v0 := 0) d_X10_prove_89 rfl ?_
      refine wp_vrt_v (As := [.int ((m.2.1 81) (6)), .int (0)]) (h1 := HP c w (setS (setA m 93 (f)) 8022 (nI (i + 1))) (setS (setS v' 8010 ((v'.1 8010) + (0 - (m.2.1 81) (6) * (v'.1 8009)))) 8009 ((v'.1 8009) + ((m.2.1 81) 5) * ((v'.1 8010) + (0 - (m.2.1 81) (6) * (v'.1 8009))))) E) d_X10_prove_90 lk_X10_149 mv_X10_through in_X10_through se_X10_through (Nat.le_of_ble_eq_true rfl) (Nat.le_of_ble_eq_true rfl) (hp_80 _ _ _ _ _) rfl (s_X10_through ((m.2.1 81) (6)) (0)) ?_
      refine wp_aload_n 1 d_X10_prove_93 rfl rfl ?_
      refine wp_bipush (v0 := 9) d_X10_prove_94 (by decide) ?_
      refine wp_vrt_v (As := [.int (9)]) (h1 := HP c w (setS (setA (setS (setA m 93 (f)) 8022 (nI (i + 1))) 93 (upd (upd (upd (f) (3 * (i + 1)) (9)) (3 * (i + 1) + 1) (((v'.1 8009) + ((m.2.1 81) 5) * ((v'.1 8010) + (0 - (m.2.1 81) (6) * (v'.1 8009)))))) (3 * (i + 1) + 2) (((v'.1 8010) + (0 - (m.2.1 81) (6) * (v'.1 8009)))))) 8022 (nI (i + 1 + 1))) (setS (setS v' 8010 ((v'.1 8010) + (0 - (m.2.1 81) (6) * (v'.1 8009)))) 8009 ((v'.1 8009) + ((m.2.1 81) 5) * ((v'.1 8010) + (0 - (m.2.1 81) (6) * (v'.1 8009))))) E) d_X10_prove_96 lk_X10_267 mv_X10_lays in_X10_lays se_X10_lays (Nat.le_of_ble_eq_true rfl) (Nat.le_of_ble_eq_true rfl) (hp_80 _ _ _ _ _) rfl (s_X10_lays (m := (setS (setA m 93 (f)) 8022 (nI (i + 1)))) (v := (setS (setS v' 8010 ((v'.1 8010) + (0 - (m.2.1 81) (6) * (v'.1 8009)))) 8009 ((v'.1 8009) + ((m.2.1 81) 5) * ((v'.1 8010) + (0 - (m.2.1 81) (6) * (v'.1 8009)))))) (r := i + 1) rfl (by omega) (9)) ?_
      refine wp_aload_n 1 d_X10_prove_99 rfl rfl ?_
      refine wp_getfield (v := .int ((nI (i + 1 + 1)))) d_X10_prove_100 gf_X10_264 (hp_80 _ _ _ _ _) rfl ?_
      refine wp_reti d_X10_prove_103 rfl ?_
      obtain rfl : k = 0 := by omega
      obtain rfl : p = i := by omega
      refine ⟨rfl, _, _, by rw [setSA], ?_, fun j hj => ?_⟩
      · refine hmh.tr ⟨fun k9 h9 => ?_, rfl⟩
        simp only [setS]
        rw [upd_n _ _ (by omega), upd_n _ _ (by omega)]
      · have hq2 : ((((setS (setS v' 8010 ((v'.1 8010) + (0 - (m.2.1 81) (6) * (v'.1 8009)))) 8009 ((v'.1 8009) + ((m.2.1 81) 5) * ((v'.1 8010) + (0 - (m.2.1 81) (6) * (v'.1 8009)))))).1 8009, ((setS (setS v' 8010 ((v'.1 8010) + (0 - (m.2.1 81) (6) * (v'.1 8009)))) 8009 ((v'.1 8009) + ((m.2.1 81) 5) * ((v'.1 8010) + (0 - (m.2.1 81) (6) * (v'.1 8009)))))).1 8010) : Int32 × Int32) = mray ((m.2.1 81) 5) (((mTube (m.2.1 81) en cnt p) ++ [(((m.2.1 81) 6), 0)]).take (p + 1)) x := by
          rw [List.take_succ_eq_append_getElem (by simp only [List.length_append, mTube_len, List.length_cons, List.length_nil]; omega), mray_s, ← hq, List.getElem_append_right (by rw [mTube_len]; omega)]
          simp only [mTube_len, Nat.sub_self, List.getElem_cons_zero]
          rfl
        by_cases e : j = p + 1
        · subst e
          rw [upd_s, upd_n _ _ (by omega : 3 * (p + 1) + 1 ≠ 3 * (p + 1) + 2), upd_s, upd_n _ _ (by omega : 3 * (p + 1) ≠ 3 * (p + 1) + 2), upd_n _ _ (by omega : 3 * (p + 1) ≠ 3 * (p + 1) + 1), upd_s]
          show (_, _, _) = _
          unfold mrow
          rw [← hq2]
          unfold cdue
          rw [if_neg (by omega), if_neg (by omega)]
          rfl
        · rw [upd_n _ _ (by omega), upd_n _ _ (by omega), upd_n _ _ (by omega), upd_n _ _ (by omega), upd_n _ _ (by omega), upd_n _ _ (by omega), upd_n _ _ (by omega), upd_n _ _ (by omega), upd_n _ _ (by omega)]
          exact hr j (by omega)
    · refine wp_aload_n 1 d_X10_prove_44 rfl rfl ?_
      refine wp_aload_n 1 d_X10_prove_45 rfl rfl ?_
      refine wp_getfield (v := .ref (86)) d_X10_prove_46 gf_X10_25 (hp_80 _ _ _ _ _) rfl ?_
      refine wp_iload_n 0 d_X10_prove_49 rfl rfl ?_
      refine wp_iaload (v := (v'.2.1 86) (i)) d_X10_prove_50 (hp_86 _ _ _ _ _) (vp_in_nI (by omega) (by omega)) (congrArg ((v'.2.1 86)) (nI_clamp (by omega))) ?_
      refine wp_aload_n 1 d_X10_prove_51 rfl rfl ?_
      refine wp_getfield (v := .ref (87)) d_X10_prove_52 gf_X10_28 (hp_80 _ _ _ _ _) rfl ?_
      refine wp_iload_n 0 d_X10_prove_55 rfl rfl ?_
      refine wp_iaload (v := (v'.2.1 87) (i)) d_X10_prove_56 (hp_87 _ _ _ _ _) (vp_in_nI (by omega) (by omega)) (congrArg ((v'.2.1 87)) (nI_clamp (by omega))) ?_
      refine wp_vrt_v (As := [.int ((v'.2.1 86) (i)), .int ((v'.2.1 87) (i))]) (h1 := HP c w (setS (setA m 93 (f)) 8022 (nI (i + 1))) (setS (setS v' 8010 ((v'.1 8010) + ((v'.2.1 87) (i) - (v'.2.1 86) (i) * (v'.1 8009)))) 8009 ((v'.1 8009) + ((m.2.1 81) 5) * ((v'.1 8010) + ((v'.2.1 87) (i) - (v'.2.1 86) (i) * (v'.1 8009))))) E) d_X10_prove_57 lk_X10_149 mv_X10_through in_X10_through se_X10_through (Nat.le_of_ble_eq_true rfl) (Nat.le_of_ble_eq_true rfl) (hp_80 _ _ _ _ _) rfl (s_X10_through ((v'.2.1 86) (i)) ((v'.2.1 87) (i))) ?_
      refine wp_aload_n 1 d_X10_prove_60 rfl rfl ?_
      refine wp_aload_n 1 d_X10_prove_61 rfl rfl ?_
      refine wp_getfield (v := .ref (81)) d_X10_prove_62 gf_X10_7 (hp_80 _ _ _ _ _) rfl ?_
      refine wp_bipush (v0 := 45) d_X10_prove_65 (by decide) ?_
      refine wp_iconst (v0 := 2) d_X10_prove_67 rfl ?_
      refine wp_iload_n 0 d_X10_prove_68 rfl rfl ?_
      refine wp_imul d_X10_prove_69 ?_
      refine wp_v (v0 := nI ((2) * (i))) (pk_mul (2) (i)) ?_
      refine wp_iadd d_X10_prove_70 ?_
      refine wp_v (v0 := nI ((45) + ((2) * (i)))) (nI_add (45) ((2) * (i))) ?_
      refine wp_iaload (v := (m.2.1 81) ((45) + ((2) * (i)))) d_X10_prove_71 (hp_81 _ _ _ _ _) (vp_in_nI (by omega) (by omega)) (congrArg ((m.2.1 81)) (nI_clamp (by omega))) ?_
      refine wp_vrt_v (As := [.int ((m.2.1 81) ((45) + ((2) * (i))))]) (h1 := HP c w (setS (setA (setS (setA m 93 (f)) 8022 (nI (i + 1))) 93 (upd (upd (upd (f) (3 * (i + 1)) ((m.2.1 81) ((45) + ((2) * (i))))) (3 * (i + 1) + 1) (((v'.1 8009) + ((m.2.1 81) 5) * ((v'.1 8010) + ((v'.2.1 87) (i) - (v'.2.1 86) (i) * (v'.1 8009)))))) (3 * (i + 1) + 2) (((v'.1 8010) + ((v'.2.1 87) (i) - (v'.2.1 86) (i) * (v'.1 8009)))))) 8022 (nI (i + 1 + 1))) (setS (setS v' 8010 ((v'.1 8010) + ((v'.2.1 87) (i) - (v'.2.1 86) (i) * (v'.1 8009)))) 8009 ((v'.1 8009) + ((m.2.1 81) 5) * ((v'.1 8010) + ((v'.2.1 87) (i) - (v'.2.1 86) (i) * (v'.1 8009))))) E) d_X10_prove_72 lk_X10_267 mv_X10_lays in_X10_lays se_X10_lays (Nat.le_of_ble_eq_true rfl) (Nat.le_of_ble_eq_true rfl) (hp_80 _ _ _ _ _) rfl (s_X10_lays (m := (setS (setA m 93 (f)) 8022 (nI (i + 1)))) (v := (setS (setS v' 8010 ((v'.1 8010) + ((v'.2.1 87) (i) - (v'.2.1 86) (i) * (v'.1 8009)))) 8009 ((v'.1 8009) + ((m.2.1 81) 5) * ((v'.1 8010) + ((v'.2.1 87) (i) - (v'.2.1 86) (i) * (v'.1 8009)))))) (r := i + 1) rfl (by omega) ((m.2.1 81) ((45) + ((2) * (i))))) ?_
      refine wp_iinc (v0 := nI ((i) + 1)) [(2, .int (nI ((i) + 1))), (0, .ref (80)), (1, .int (x))] 0 d_X10_prove_75 rfl (nI_add (i) 1) (Nat.le_of_ble_eq_true rfl) rfl ?_
      refine wp_goto 36 d_X10_prove_78 rfl ?_
      obtain ⟨k1, rfl⟩ : ∃ k1, k = k1 + 1 := ⟨k - 1, by omega⟩
      refine wp_sub [(2, .int (nI ((i) + 1))), (0, .ref (80)), (1, .int (x))] [0, 1, 2] rfl ?_
      refine wp_h (h' := HP c w (setS (setA m 93 (upd (upd (upd (f) (3 * (i + 1)) ((m.2.1 81) ((45) + ((2) * (i))))) (3 * (i + 1) + 1) (((v'.1 8009) + ((m.2.1 81) 5) * ((v'.1 8010) + ((v'.2.1 87) (i) - (v'.2.1 86) (i) * (v'.1 8009)))))) (3 * (i + 1) + 2) (((v'.1 8010) + ((v'.2.1 87) (i) - (v'.2.1 86) (i) * (v'.1 8009)))))) 8022 (nI (i + 1 + 1))) (setS (setS v' 8010 ((v'.1 8010) + ((v'.2.1 87) (i) - (v'.2.1 86) (i) * (v'.1 8009)))) 8009 ((v'.1 8009) + ((m.2.1 81) 5) * ((v'.1 8010) + ((v'.2.1 87) (i) - (v'.2.1 86) (i) * (v'.1 8009))))) E) (by rw [setSA]) ?_
      have hq2 : ((((setS (setS v' 8010 ((v'.1 8010) + ((v'.2.1 87) (i) - (v'.2.1 86) (i) * (v'.1 8009)))) 8009 ((v'.1 8009) + ((m.2.1 81) 5) * ((v'.1 8010) + ((v'.2.1 87) (i) - (v'.2.1 86) (i) * (v'.1 8009)))))).1 8009, ((setS (setS v' 8010 ((v'.1 8010) + ((v'.2.1 87) (i) - (v'.2.1 86) (i) * (v'.1 8009)))) 8009 ((v'.1 8009) + ((m.2.1 81) 5) * ((v'.1 8010) + ((v'.2.1 87) (i) - (v'.2.1 86) (i) * (v'.1 8009)))))).1 8010) : Int32 × Int32) = mray ((m.2.1 81) 5) (((mTube (m.2.1 81) en cnt p) ++ [(((m.2.1 81) 6), 0)]).take (i + 1)) x := by
        rw [List.take_succ_eq_append_getElem (by simp only [List.length_append, mTube_len, List.length_cons, List.length_nil]; omega), mray_s, ← hq, List.getElem_append_left (by rw [mTube_len]; omega), ← (hld.h hmh).2 i (by rw [mTube_len]; omega)]
        rfl
      refine ih k1 (by omega) (i + 1) _ _ (by omega) ?_ hq2 (fun j hj => ?_)
      · refine hmh.tr ⟨fun k9 h9 => ?_, rfl⟩
        simp only [setS]
        rw [upd_n _ _ (by omega), upd_n _ _ (by omega)]
      · by_cases e : j = i + 1
        · subst e
          rw [upd_s, upd_n _ _ (by omega : 3 * (i + 1) + 1 ≠ 3 * (i + 1) + 2), upd_s, upd_n _ _ (by omega : 3 * (i + 1) ≠ 3 * (i + 1) + 2), upd_n _ _ (by omega : 3 * (i + 1) ≠ 3 * (i + 1) + 1), upd_s]
          show (_, _, _) = _
          unfold mrow
          rw [← hq2]
          unfold cdue
          rw [if_neg (by omega), if_pos (by omega)]
          rfl
        · rw [upd_n _ _ (by omega), upd_n _ _ (by omega), upd_n _ _ (by omega), upd_n _ _ (by omega), upd_n _ _ (by omega), upd_n _ _ (by omega), upd_n _ _ (by omega), upd_n _ _ (by omega), upd_n _ _ (by omega)]
          exact hr j (by omega)
theorem setSB (m : kZ) (F : Nat → Int32) (a b : Int32) : setS (setA (setS m 8022 a) 93 F) 8022 b = setS (setA m 93 F) 8022 b := by
  simp only [setS, setA]
  congr 1
  funext j
  simp only [upd]
  split <;> rfl
theorem s_X10_prove {X : kX} {d : Nat} {c w m v : kZ} {E : kH} {cnt : Nat} (hs1 : (m.2.1 81) 1 = nI cnt) (hc8 : cnt ≤ 8) {en : Nat → Nat} (hm : mWF (m.2.1 81) cnt en) {n : Nat} (hn : m.2.1 81 0 = nI n) (hn9 : n ≤ 9) {p : Nat} (hp : m.2.1 81 2 = nI p) (hp4 : p ≤ 4) (hln : ∀ j, j < p → vp_in (mlp (m.2.1 81) j) n) (x : Int32) : WP X (d + 9) 0 0 Y_X10_prove 0 [(0, .ref (80)), (1, .int (x))] [] (HP c w m v E) (fun r1 h1 => (¬ (-9 ≤ x.toInt ∧ x.toInt ≤ 9) ∧ r1 = some (.int (-1)) ∧ h1 = HP c w m v E) ∨ ((-9 ≤ x.toInt ∧ x.toInt ≤ 9) ∧ r1 = some (.int (nI (p + 2))) ∧ ∃ f1, ∃ v1 : kZ, h1 = HP c w (setS (setA m 93 f1) 8022 (nI (p + 2))) v1 E ∧ mFr 84 87 v v1 ∧ ∀ j, j < p + 2 → (f1 (3 * j), f1 (3 * j + 1), f1 (3 * j + 2)) = mrow ((m.2.1 81) 5) (mlp (m.2.1 81)) p ((mTube (m.2.1 81) en cnt p) ++ [(((m.2.1 81) 6), 0)]) x j)) := by
  refine wp_iload_n 1 d_X10_prove_0 rfl rfl ?_
  refine wp_stc_i (As := [.int (x)]) (x0 := kb (-9 ≤ (x : Int32).toInt ∧ (x : Int32).toInt ≤ 9)) (h1 := HP c w m v E) d_X10_prove_1 lk_X10_163 mv_X10_isHeight st_X10_isHeight (Nat.le_of_ble_eq_true rfl) (Nat.le_of_ble_eq_true rfl) (s_X10_isHeight _ (x : Int32)) ?_
  refine wp_ifb_ne 9 d_X10_prove_4 rfl (fun c4 => ?_) (fun c4 => ?_)
  · refine wp_aload_n 0 d_X10_prove_9 rfl rfl ?_
    refine wp_virtual0 (As := []) d_X10_prove_10 lk_X10_166 mv_X10_layTube in_X10_layTube se_X10_layTube (Nat.le_of_ble_eq_true rfl) (Nat.le_of_ble_eq_true rfl) (hp_80 _ _ _ _ _) rfl (s_X10_layTube hs1 hc8 hm hn hn9 hp hp4 hln) (fun v10 h10 q10 => ?_)
    obtain ⟨rfl, v1, rfl, hf1, hst1, hl1⟩ := q10
    show WP _ _ _ _ _ 13 _ [] (HP c w m v1 E) _
    refine wp_aload_n 0 d_X10_prove_13 rfl rfl ?_
    refine wp_iload_n 1 d_X10_prove_14 rfl rfl ?_
    refine wp_putfield (h' := HP c w m (setS v1 8009 (x)) E) d_X10_prove_15 gp_X10_146 (kfit_i _) (hp_80 _ _ _ _ _) (Nat.le_of_ble_eq_true rfl) (hps_80_9 _ _ _ _ _ _) ?_
    refine wp_aload_n 0 d_X10_prove_18 rfl rfl ?_
    refine wp_iconst (v0 := 0) d_X10_prove_19 rfl ?_
    refine wp_putfield (h' := HP c w m (setS (setS v1 8009 (x)) 8010 (0)) E) d_X10_prove_20 gp_X10_143 (kfit_i _) (hp_80 _ _ _ _ _) (Nat.le_of_ble_eq_true rfl) (hps_80_10 _ _ _ _ _ _) ?_
    refine wp_aload_n 0 d_X10_prove_23 rfl rfl ?_
    refine wp_iconst (v0 := 0) d_X10_prove_24 rfl ?_
    refine wp_putfield (h' := HP c w (setS m 8022 (0)) (setS (setS v1 8009 (x)) 8010 (0)) E) d_X10_prove_25 gp_X10_264 (kfit_i _) (hp_80 _ _ _ _ _) (Nat.le_of_ble_eq_true rfl) (hps_80_22 _ _ _ _ _ _) ?_
    refine wp_aload_n 0 d_X10_prove_28 rfl rfl ?_
    refine wp_bipush (v0 := -9) d_X10_prove_29 (by decide) ?_
    refine wp_vrt_v (As := [.int ((-9))]) (h1 := HP c w (setS (setA (setS m 8022 (0)) 93 (upd (upd (upd (m.2.1 93) (3 * (0)) ((-9))) (3 * (0) + 1) ((x))) (3 * (0) + 2) ((0)))) 8022 (nI (0 + 1))) (setS (setS v1 8009 (x)) 8010 (0)) E) d_X10_prove_31 lk_X10_267 mv_X10_lays in_X10_lays se_X10_lays (Nat.le_of_ble_eq_true rfl) (Nat.le_of_ble_eq_true rfl) (hp_80 _ _ _ _ _) rfl (s_X10_lays (m := (setS m 8022 (0))) (v := (setS (setS v1 8009 (x)) 8010 (0))) (r := 0) rfl (by omega) ((-9))) ?_
    refine wp_iconst (v0 := 0) d_X10_prove_34 rfl ?_
    refine wp_istore_n [(2, .int (0)), (0, .ref (80)), (1, .int (x))] d_X10_prove_35 rfl (Nat.le_of_ble_eq_true rfl) rfl ?_
    refine wp_sub [(2, .int (0)), (0, .ref (80)), (1, .int (x))] [0, 1, 2] rfl ?_
    refine wp_h (h' := HP c w (setS (setA m 93 (upd (upd (upd (m.2.1 93) (3 * (0)) ((-9))) (3 * (0) + 1) ((x))) (3 * (0) + 2) ((0)))) 8022 (nI (0 + 1))) (setS (setS v1 8009 (x)) 8010 (0)) E) (by rw [setSB]) ?_
    have hmx : mH v1 (setS (setS v1 8009 (x)) 8010 (0)) := ⟨fun k9 h9 => by simp only [setS]; rw [upd_n _ _ (by omega), upd_n _ _ (by omega)], rfl⟩
    refine wp_mono ?_ (s_X10_prove_l (n := n) hp4 (hl1.h hmx) x p 0 (upd (upd (upd (m.2.1 93) (3 * (0)) ((-9))) (3 * (0) + 1) ((x))) (3 * (0) + 2) ((0))) (setS (setS v1 8009 (x)) 8010 (0)) (by omega) (mH.rf _) rfl (fun j hj => ?_))
    · rintro r1 h1 ⟨rfl, f1, v2, rfl, hm2, hr2⟩
      exact Or.inr ⟨c4, rfl, f1, v2, rfl, hf1.tr ((hmx.tr hm2).fr 84 87), hr2⟩
    · obtain rfl : j = 0 := by omega
      rfl
  · refine wp_iconst (v0 := -1) d_X10_prove_7 rfl ?_
    refine wp_reti d_X10_prove_8 rfl ?_
    exact Or.inl ⟨c4, rfl, rfl⟩
abbrev mRight (s : Nat → Int32) (R : Nat → Int32) (en : Nat → Nat) (cnt p r : Nat) (k : Nat) : Prop := ¬ (p + 1 < k ∨ k + 1 = r ∧ k ≠ p + 1) ∧ (R (3 * k), R (3 * k + 1), R (3 * k + 2)) = mrow (s 5) (mlp s) p (mTube s en cnt p ++ [(s 6, 0)]) (R 1) k
theorem s_X10_judge_e {X : kX} {d : Nat} {c w m v : kZ} {E : kH} {r : Nat} (hrc : m.1 8022 = nI r) (hr6 : r ≤ 6) {j b : Nat} (hj : j < 100) (hb : b < 100) : WP X d 0 0 Y_X10_judge 8 [(2, .int (nI (j))), (1, .int (nI (b + 1))), (0, .ref (80))] [] (HP c w m v E) (kR (some (.int (nI (b + 1)))) (HP c w m v E)) := by
  refine wp_iload_n 0 d_X10_judge_8 rfl rfl ?_
  refine wp_aload_n 2 d_X10_judge_9 rfl rfl ?_
  refine wp_getfield (v := .int (nI (r))) d_X10_judge_10 gf_X10_264 (hp_80 _ _ _ _ _) (congrArg (fun z => some (Value.int z)) hrc) ?_
  refine wp_ncmp_ge (a := j) (b := r) 283 d_X10_judge_13 rfl (by omega) (by omega) (fun c13 => ?_) (fun c13 => ?_)
  · refine wp_iload_n 1 d_X10_judge_283 rfl rfl ?_
    refine wp_reti d_X10_judge_284 rfl ?_
    exact ⟨rfl, rfl⟩
  · refine wp_iload_n 1 d_X10_judge_16 rfl rfl ?_
    refine wp_nif_ne (a := b + 1) 283 d_X10_judge_17 rfl (by omega) (fun c17 => ?_) (fun c17 => ?_)
    · refine wp_iload_n 1 d_X10_judge_283 rfl rfl ?_
      refine wp_reti d_X10_judge_284 rfl ?_
      exact ⟨rfl, rfl⟩
    · exact absurd c17 (by omega)
theorem s_X10_judge_l {X : kX} {d : Nat} {c w m v : kZ} {E : kH} {cnt n p : Nat} {en : Nat → Nat} (hp4 : p ≤ 4) (hld : mLaid v (mTube (m.2.1 81) en cnt p)) {r : Nat} (hrc : m.1 8022 = nI r) (hr6 : r ≤ 6) : ∀ (k : Nat) (j : Nat) (v' : kZ), (j + k = r) → (1 ≤ j) → (j ≤ p + 2) → (mH v v') → ((v'.1 8009, v'.1 8010) = mray ((m.2.1 81) 5) (((mTube (m.2.1 81) en cnt p) ++ [(((m.2.1 81) 6), 0)]).take (j - 1)) ((m.2.1 93) 1)) → WP X (d + 2) 0 0 Y_X10_judge 8 [(2, .int (nI (j))), (1, .int (0)), (0, .ref (80))] [] (HP c w m v' E) (fun r1 h1 => r1 = some (.int (kfj (mRight (m.2.1 81) (m.2.1 93) en cnt p r) k j)) ∧ ∃ v1 : kZ, h1 = HP c w m v1 E ∧ mH v v1) := by
  intro k
  induction k using Nat.strongRecOn with
  | ind k ih =>
    intro j v' hj hj1 hj2 hmh hq
    refine wp_iload_n 0 d_X10_judge_8 rfl rfl ?_
    refine wp_aload_n 2 d_X10_judge_9 rfl rfl ?_
    refine wp_getfield (v := .int (nI (r))) d_X10_judge_10 gf_X10_264 (hp_80 _ _ _ _ _) (congrArg (fun z => some (Value.int z)) hrc) ?_
    refine wp_ncmp_ge (a := j) (b := r) 283 d_X10_judge_13 rfl (by omega) (by omega) (fun c13 => ?_) (fun c13 => ?_)
    · refine wp_iload_n 1 d_X10_judge_283 rfl rfl ?_
      refine wp_reti d_X10_judge_284 rfl ?_
      obtain rfl : k = 0 := by omega
      exact ⟨rfl, v', rfl, hmh⟩
    · refine wp_iload_n 1 d_X10_judge_16 rfl rfl ?_
      refine wp_if_ne 283 d_X10_judge_17 rfl (fun z => absurd z (by decide)) (fun _ => ?_)
      refine wp_iload_n 0 d_X10_judge_20 rfl rfl ?_
      refine wp_aload_n 2 d_X10_judge_21 rfl rfl ?_
      refine wp_getfield (v := .int (nI (p))) d_X10_judge_22 gf_X10_135 (hp_80 _ _ _ _ _) (congrArg (fun z => some (Value.int z)) ((hld.h hmh).1.trans (congrArg nI (mTube_len _ _ _ _)))) ?_
      refine wp_iconst (v0 := 1) d_X10_judge_25 rfl ?_
      refine wp_iadd d_X10_judge_26 ?_
      refine wp_v (v0 := nI ((p) + (1))) (nI_add (p) (1)) ?_
      refine wp_ncmp_gt (a := j) (b := (p) + (1)) 34 d_X10_judge_27 rfl (by omega) (by omega) (fun c27 => ?_) (fun c27 => ?_)
      · refine wp_iconst (v0 := 0) d_X10_judge_34 rfl ?_
        refine wp_istore_n [(3, .int (0)), (2, .int (nI (j))), (1, .int (0)), (0, .ref (80))] d_X10_judge_35 rfl (Nat.le_of_ble_eq_true rfl) rfl ?_
        refine wp_iload_n 1 d_X10_judge_36 rfl rfl ?_
        refine wp_nif_ne (a := j) 96 d_X10_judge_37 rfl (by omega) (fun c37 => ?_) (fun c37 => ?_)
        · refine wp_iload_n 0 d_X10_judge_96 rfl rfl ?_
          refine wp_if_eq 235 d_X10_judge_97 rfl (fun _ => ?_) (fun z => absurd z (by decide))
          refine wp_iload_n 0 d_X10_judge_235 rfl rfl ?_
          refine wp_if_eq 263 d_X10_judge_236 rfl (fun _ => ?_) (fun z => absurd z (by decide))
          refine wp_iconst (v0 := 0) d_X10_judge_263 rfl ?_
          refine wp_istore_n [(3, .int (0)), (2, .int (nI (j))), (1, .int (0)), (0, .ref (80))] d_X10_judge_264 rfl (Nat.le_of_ble_eq_true rfl) rfl ?_
          refine wp_iload_n 0 d_X10_judge_265 rfl rfl ?_
          refine wp_if_eq 273 d_X10_judge_266 rfl (fun _ => ?_) (fun z => absurd z (by decide))
          refine wp_iload_n 1 d_X10_judge_273 rfl rfl ?_
          refine wp_iconst (v0 := 1) d_X10_judge_274 rfl ?_
          refine wp_iadd d_X10_judge_275 ?_
          refine wp_v (v0 := nI ((j) + (1))) (nI_add (j) (1)) ?_
          refine wp_istore_n [(1, .int (nI ((j) + (1)))), (3, .int (0)), (2, .int (nI (j))), (0, .ref (80))] d_X10_judge_276 rfl (Nat.le_of_ble_eq_true rfl) rfl ?_
          refine wp_iinc (v0 := nI ((j) + 1)) [(2, .int (nI ((j) + 1))), (1, .int (nI ((j) + (1)))), (3, .int (0)), (0, .ref (80))] 2 d_X10_judge_277 rfl (nI_add (j) 1) (Nat.le_of_ble_eq_true rfl) rfl ?_
          refine wp_goto 8 d_X10_judge_280 rfl ?_
          obtain ⟨k1, rfl⟩ : ∃ k1, k = k1 + 1 := ⟨k - 1, by omega⟩
          have hR : ¬ (mRight (m.2.1 81) (m.2.1 93) en cnt p r) j := by
            rintro ⟨q1, -⟩
            exact q1 (by omega)
          simp only [kfj]
          rw [if_neg hR]
          refine wp_sub [(2, .int (nI ((j) + 1))), (1, .int (nI ((j) + (1)))), (0, .ref (80))] [0, 1, 3] rfl ?_
          refine wp_mono ?_ (s_X10_judge_e hrc hr6 (by omega) (by omega))
          rintro r1 h1 ⟨rfl, rfl⟩
          refine ⟨rfl, _, rfl, ?_⟩
          exact hmh
        · exact absurd c37 (by omega)
      · refine wp_iconst (v0 := 1) d_X10_judge_30 rfl ?_
        refine wp_goto 35 d_X10_judge_31 rfl ?_
        refine wp_istore_n [(3, .int (1)), (2, .int (nI (j))), (1, .int (0)), (0, .ref (80))] d_X10_judge_35 rfl (Nat.le_of_ble_eq_true rfl) rfl ?_
        refine wp_iload_n 1 d_X10_judge_36 rfl rfl ?_
        refine wp_nif_ne (a := j) 96 d_X10_judge_37 rfl (by omega) (fun c37 => ?_) (fun c37 => ?_)
        · refine wp_iload_n 0 d_X10_judge_96 rfl rfl ?_
          refine wp_if_eq 235 d_X10_judge_97 rfl (fun z => absurd z (by decide)) (fun _ => ?_)
          refine wp_iload_n 1 d_X10_judge_100 rfl rfl ?_
          refine wp_aload_n 3 d_X10_judge_101 rfl rfl ?_
          refine wp_getfield (v := .int (nI (p))) d_X10_judge_102 gf_X10_135 (hp_80 _ _ _ _ _) (congrArg (fun z => some (Value.int z)) ((hld.h hmh).1.trans (congrArg nI (mTube_len _ _ _ _)))) ?_
          refine wp_iconst (v0 := 1) d_X10_judge_105 rfl ?_
          refine wp_iadd d_X10_judge_106 ?_
          refine wp_v (v0 := nI ((p) + (1))) (nI_add (p) (1)) ?_
          refine wp_ncmp_ne (a := j) (b := (p) + (1)) 114 d_X10_judge_107 rfl (by omega) (by omega) (fun c107 => ?_) (fun c107 => ?_)
          · refine wp_iconst (v0 := 0) d_X10_judge_114 rfl ?_
            refine wp_istore [(4, .int (0)), (3, .int (1)), (2, .int (nI (j))), (1, .int (0)), (0, .ref (80))] d_X10_judge_115 (Nat.le_of_ble_eq_true rfl) rfl ?_
            refine wp_aload_n 4 d_X10_judge_117 rfl rfl ?_
            refine wp_iload 0 d_X10_judge_118 rfl ?_
            refine wp_if_eq 133 d_X10_judge_120 rfl (fun _ => ?_) (fun z => absurd z (by decide))
            refine wp_aload_n 4 d_X10_judge_133 rfl rfl ?_
            refine wp_getfield (v := .ref (86)) d_X10_judge_134 gf_X10_25 (hp_80 _ _ _ _ _) rfl ?_
            refine wp_iload_n 2 d_X10_judge_137 rfl rfl ?_
            refine wp_iconst (v0 := 1) d_X10_judge_138 rfl ?_
            refine wp_isub d_X10_judge_139 ?_
            refine wp_v (v0 := nI ((j) - (1))) (pk_sub (a := j) (b := 1) (by omega)) ?_
            refine wp_iaload (v := (v'.2.1 86) ((j) - (1))) d_X10_judge_140 (hp_86 _ _ _ _ _) (vp_in_nI (by omega) (by omega)) (congrArg ((v'.2.1 86)) (nI_clamp (by omega))) ?_
            refine wp_iload 0 d_X10_judge_141 rfl ?_
            refine wp_if_eq 150 d_X10_judge_143 rfl (fun _ => ?_) (fun z => absurd z (by decide))
            refine wp_aload_n 4 d_X10_judge_150 rfl rfl ?_
            refine wp_getfield (v := .ref (87)) d_X10_judge_151 gf_X10_28 (hp_80 _ _ _ _ _) rfl ?_
            refine wp_iload_n 2 d_X10_judge_154 rfl rfl ?_
            refine wp_iconst (v0 := 1) d_X10_judge_155 rfl ?_
            refine wp_isub d_X10_judge_156 ?_
            refine wp_v (v0 := nI ((j) - (1))) (pk_sub (a := j) (b := 1) (by omega)) ?_
            refine wp_iaload (v := (v'.2.1 87) ((j) - (1))) d_X10_judge_157 (hp_87 _ _ _ _ _) (vp_in_nI (by omega) (by omega)) (congrArg ((v'.2.1 87)) (nI_clamp (by omega))) ?_
            refine wp_vrt_v (As := [.int ((v'.2.1 86) ((j) - (1))), .int ((v'.2.1 87) ((j) - (1)))]) (h1 := HP c w m (setS (setS v' 8010 ((v'.1 8010) + ((v'.2.1 87) ((j) - (1)) - (v'.2.1 86) ((j) - (1)) * (v'.1 8009)))) 8009 ((v'.1 8009) + ((m.2.1 81) 5) * ((v'.1 8010) + ((v'.2.1 87) ((j) - (1)) - (v'.2.1 86) ((j) - (1)) * (v'.1 8009))))) E) d_X10_judge_158 lk_X10_149 mv_X10_through in_X10_through se_X10_through (Nat.le_of_ble_eq_true rfl) (Nat.le_of_ble_eq_true rfl) (hp_80 _ _ _ _ _) rfl (s_X10_through ((v'.2.1 86) ((j) - (1))) ((v'.2.1 87) ((j) - (1)))) ?_
            refine wp_aload_n 4 d_X10_judge_161 rfl rfl ?_
            refine wp_getfield (v := .ref (93)) d_X10_judge_162 gf_X10_47 (hp_80 _ _ _ _ _) rfl ?_
            refine wp_iconst (v0 := 3) d_X10_judge_165 rfl ?_
            refine wp_iload_n 2 d_X10_judge_166 rfl rfl ?_
            refine wp_imul d_X10_judge_167 ?_
            refine wp_v (v0 := nI ((3) * (j))) (pk_mul (3) (j)) ?_
            refine wp_iaload (v := (m.2.1 93) ((3) * (j))) d_X10_judge_168 (hp_93 _ _ _ _ _) (vp_in_nI (by omega) (by omega)) (congrArg ((m.2.1 93)) (nI_clamp (by omega))) ?_
            refine wp_iload 0 d_X10_judge_169 rfl ?_
            refine wp_if_eq 179 d_X10_judge_171 rfl (fun _ => ?_) (fun z => absurd z (by decide))
            refine wp_aload_n 4 d_X10_judge_179 rfl rfl ?_
            refine wp_getfield (v := .ref (81)) d_X10_judge_180 gf_X10_7 (hp_80 _ _ _ _ _) rfl ?_
            refine wp_bipush (v0 := 45) d_X10_judge_183 (by decide) ?_
            refine wp_iconst (v0 := 2) d_X10_judge_185 rfl ?_
            refine wp_iload_n 2 d_X10_judge_186 rfl rfl ?_
            refine wp_imul d_X10_judge_187 ?_
            refine wp_v (v0 := nI ((2) * (j))) (pk_mul (2) (j)) ?_
            refine wp_iadd d_X10_judge_188 ?_
            refine wp_v (v0 := nI ((45) + ((2) * (j)))) (nI_add (45) ((2) * (j))) ?_
            refine wp_iconst (v0 := 2) d_X10_judge_189 rfl ?_
            refine wp_isub d_X10_judge_190 ?_
            refine wp_v (v0 := nI (((45) + ((2) * (j))) - (2))) (pk_sub (a := (45) + ((2) * (j))) (b := 2) (by omega)) ?_
            refine wp_iaload (v := (m.2.1 81) (((45) + ((2) * (j))) - (2))) d_X10_judge_191 (hp_81 _ _ _ _ _) (vp_in_nI (by omega) (by omega)) (congrArg ((m.2.1 81)) (nI_clamp (by omega))) ?_
            refine wp_icmp_ne 233 d_X10_judge_192 rfl (fun c192 => ?_) (fun c192 => ?_)
            · refine wp_iconst (v0 := 0) d_X10_judge_233 rfl ?_
              refine wp_istore_n [(3, .int (0)), (4, .int (0)), (2, .int (nI (j))), (1, .int (0)), (0, .ref (80))] d_X10_judge_234 rfl (Nat.le_of_ble_eq_true rfl) rfl ?_
              refine wp_iload_n 0 d_X10_judge_235 rfl rfl ?_
              refine wp_if_eq 263 d_X10_judge_236 rfl (fun _ => ?_) (fun z => absurd z (by decide))
              refine wp_iconst (v0 := 0) d_X10_judge_263 rfl ?_
              refine wp_istore_n [(3, .int (0)), (4, .int (0)), (2, .int (nI (j))), (1, .int (0)), (0, .ref (80))] d_X10_judge_264 rfl (Nat.le_of_ble_eq_true rfl) rfl ?_
              refine wp_iload_n 0 d_X10_judge_265 rfl rfl ?_
              refine wp_if_eq 273 d_X10_judge_266 rfl (fun _ => ?_) (fun z => absurd z (by decide))
              refine wp_iload_n 2 d_X10_judge_273 rfl rfl ?_
              refine wp_iconst (v0 := 1) d_X10_judge_274 rfl ?_
              refine wp_iadd d_X10_judge_275 ?_
              refine wp_v (v0 := nI ((j) + (1))) (nI_add (j) (1)) ?_
              refine wp_istore_n [(1, .int (nI ((j) + (1)))), (3, .int (0)), (4, .int (0)), (2, .int (nI (j))), (0, .ref (80))] d_X10_judge_276 rfl (Nat.le_of_ble_eq_true rfl) rfl ?_
              refine wp_iinc (v0 := nI ((j) + 1)) [(2, .int (nI ((j) + 1))), (1, .int (nI ((j) + (1)))), (3, .int (0)), (4, .int (0)), (0, .ref (80))] 3 d_X10_judge_277 rfl (nI_add (j) 1) (Nat.le_of_ble_eq_true rfl) rfl ?_
              refine wp_goto 8 d_X10_judge_280 rfl ?_
              obtain ⟨k1, rfl⟩ : ∃ k1, k = k1 + 1 := ⟨k - 1, by omega⟩
              have hq2 : ((((setS (setS v' 8010 ((v'.1 8010) + ((v'.2.1 87) ((j) - (1)) - (v'.2.1 86) ((j) - (1)) * (v'.1 8009)))) 8009 ((v'.1 8009) + ((m.2.1 81) 5) * ((v'.1 8010) + ((v'.2.1 87) ((j) - (1)) - (v'.2.1 86) ((j) - (1)) * (v'.1 8009)))))).1 8009, ((setS (setS v' 8010 ((v'.1 8010) + ((v'.2.1 87) ((j) - (1)) - (v'.2.1 86) ((j) - (1)) * (v'.1 8009)))) 8009 ((v'.1 8009) + ((m.2.1 81) 5) * ((v'.1 8010) + ((v'.2.1 87) ((j) - (1)) - (v'.2.1 86) ((j) - (1)) * (v'.1 8009)))))).1 8010) : Int32 × Int32) = mray ((m.2.1 81) 5) (((mTube (m.2.1 81) en cnt p) ++ [(((m.2.1 81) 6), 0)]).take j) ((m.2.1 93) 1) := by
                obtain ⟨j0, rfl⟩ : ∃ j0, j = j0 + 1 := ⟨j - 1, by omega⟩
                have hq3 := hq
                rw [show j0 + 1 - 1 = j0 from rfl] at hq3
                rw [List.take_succ_eq_append_getElem (by simp only [List.length_append, mTube_len, List.length_cons, List.length_nil]; omega), mray_s, ← hq3]
                rw [List.getElem_append_left (by rw [mTube_len]; omega), ← (hld.h hmh).2 j0 (by rw [mTube_len]; omega)]
                rfl
              have e7 : 45 + 2 * j - 2 = 45 + 2 * (j - 1) := by omega
              rw [e7] at c192
              have hR : ¬ (mRight (m.2.1 81) (m.2.1 93) en cnt p r) j := by
                rintro ⟨-, q1⟩
                unfold mrow at q1
                rw [← hq2] at q1
                unfold cdue at q1
                rw [if_neg (by omega), if_pos (by omega)] at q1
                simp only [Prod.mk.injEq] at q1
                first | exact c192 q1.1 | exact c209 q1.2.1 | exact c226 q1.2.2
              simp only [kfj]
              rw [if_neg hR]
              refine wp_sub [(2, .int (nI ((j) + 1))), (1, .int (nI ((j) + (1)))), (0, .ref (80))] [0, 1, 4] rfl ?_
              refine wp_mono ?_ (s_X10_judge_e hrc hr6 (by omega) (by omega))
              rintro r1 h1 ⟨rfl, rfl⟩
              refine ⟨rfl, _, rfl, ?_⟩
              · refine hmh.tr ⟨fun k9 h9 => ?_, rfl⟩
                simp only [setS]
                rw [upd_n _ _ (by omega), upd_n _ _ (by omega)]
            · refine wp_aload_n 4 d_X10_judge_195 rfl rfl ?_
              refine wp_getfield (v := .ref (93)) d_X10_judge_196 gf_X10_47 (hp_80 _ _ _ _ _) rfl ?_
              refine wp_iconst (v0 := 3) d_X10_judge_199 rfl ?_
              refine wp_iload_n 2 d_X10_judge_200 rfl rfl ?_
              refine wp_imul d_X10_judge_201 ?_
              refine wp_v (v0 := nI ((3) * (j))) (pk_mul (3) (j)) ?_
              refine wp_iconst (v0 := 1) d_X10_judge_202 rfl ?_
              refine wp_iadd d_X10_judge_203 ?_
              refine wp_v (v0 := nI (((3) * (j)) + (1))) (nI_add ((3) * (j)) (1)) ?_
              refine wp_iaload (v := (m.2.1 93) (((3) * (j)) + (1))) d_X10_judge_204 (hp_93 _ _ _ _ _) (vp_in_nI (by omega) (by omega)) (congrArg ((m.2.1 93)) (nI_clamp (by omega))) ?_
              refine wp_aload_n 4 d_X10_judge_205 rfl rfl ?_
              refine wp_getfield (v := .int (((v'.1 8009) + ((m.2.1 81) 5) * ((v'.1 8010) + ((v'.2.1 87) ((j) - (1)) - (v'.2.1 86) ((j) - (1)) * (v'.1 8009)))))) d_X10_judge_206 gf_X10_146 (hp_80 _ _ _ _ _) rfl ?_
              refine wp_icmp_ne 233 d_X10_judge_209 rfl (fun c209 => ?_) (fun c209 => ?_)
              · refine wp_iconst (v0 := 0) d_X10_judge_233 rfl ?_
                refine wp_istore_n [(3, .int (0)), (4, .int (0)), (2, .int (nI (j))), (1, .int (0)), (0, .ref (80))] d_X10_judge_234 rfl (Nat.le_of_ble_eq_true rfl) rfl ?_
                refine wp_iload_n 0 d_X10_judge_235 rfl rfl ?_
                refine wp_if_eq 263 d_X10_judge_236 rfl (fun _ => ?_) (fun z => absurd z (by decide))
                refine wp_iconst (v0 := 0) d_X10_judge_263 rfl ?_
                refine wp_istore_n [(3, .int (0)), (4, .int (0)), (2, .int (nI (j))), (1, .int (0)), (0, .ref (80))] d_X10_judge_264 rfl (Nat.le_of_ble_eq_true rfl) rfl ?_
                refine wp_iload_n 0 d_X10_judge_265 rfl rfl ?_
                refine wp_if_eq 273 d_X10_judge_266 rfl (fun _ => ?_) (fun z => absurd z (by decide))
                refine wp_iload_n 2 d_X10_judge_273 rfl rfl ?_
                refine wp_iconst (v0 := 1) d_X10_judge_274 rfl ?_
                refine wp_iadd d_X10_judge_275 ?_
                refine wp_v (v0 := nI ((j) + (1))) (nI_add (j) (1)) ?_
                refine wp_istore_n [(1, .int (nI ((j) + (1)))), (3, .int (0)), (4, .int (0)), (2, .int (nI (j))), (0, .ref (80))] d_X10_judge_276 rfl (Nat.le_of_ble_eq_true rfl) rfl ?_
                refine wp_iinc (v0 := nI ((j) + 1)) [(2, .int (nI ((j) + 1))), (1, .int (nI ((j) + (1)))), (3, .int (0)), (4, .int (0)), (0, .ref (80))] 3 d_X10_judge_277 rfl (nI_add (j) 1) (Nat.le_of_ble_eq_true rfl) rfl ?_
                refine wp_goto 8 d_X10_judge_280 rfl ?_
                obtain ⟨k1, rfl⟩ : ∃ k1, k = k1 + 1 := ⟨k - 1, by omega⟩
                have hq2 : ((((setS (setS v' 8010 ((v'.1 8010) + ((v'.2.1 87) ((j) - (1)) - (v'.2.1 86) ((j) - (1)) * (v'.1 8009)))) 8009 ((v'.1 8009) + ((m.2.1 81) 5) * ((v'.1 8010) + ((v'.2.1 87) ((j) - (1)) - (v'.2.1 86) ((j) - (1)) * (v'.1 8009)))))).1 8009, ((setS (setS v' 8010 ((v'.1 8010) + ((v'.2.1 87) ((j) - (1)) - (v'.2.1 86) ((j) - (1)) * (v'.1 8009)))) 8009 ((v'.1 8009) + ((m.2.1 81) 5) * ((v'.1 8010) + ((v'.2.1 87) ((j) - (1)) - (v'.2.1 86) ((j) - (1)) * (v'.1 8009)))))).1 8010) : Int32 × Int32) = mray ((m.2.1 81) 5) (((mTube (m.2.1 81) en cnt p) ++ [(((m.2.1 81) 6), 0)]).take j) ((m.2.1 93) 1) := by
                  obtain ⟨j0, rfl⟩ : ∃ j0, j = j0 + 1 := ⟨j - 1, by omega⟩
                  have hq3 := hq
                  rw [show j0 + 1 - 1 = j0 from rfl] at hq3
                  rw [List.take_succ_eq_append_getElem (by simp only [List.length_append, mTube_len, List.length_cons, List.length_nil]; omega), mray_s, ← hq3]
                  rw [List.getElem_append_left (by rw [mTube_len]; omega), ← (hld.h hmh).2 j0 (by rw [mTube_len]; omega)]
                  rfl
                have e7 : 45 + 2 * j - 2 = 45 + 2 * (j - 1) := by omega
                rw [e7] at c192
                have hR : ¬ (mRight (m.2.1 81) (m.2.1 93) en cnt p r) j := by
                  rintro ⟨-, q1⟩
                  unfold mrow at q1
                  rw [← hq2] at q1
                  unfold cdue at q1
                  rw [if_neg (by omega), if_pos (by omega)] at q1
                  simp only [Prod.mk.injEq] at q1
                  first | exact c192 q1.1 | exact c209 q1.2.1 | exact c226 q1.2.2
                simp only [kfj]
                rw [if_neg hR]
                refine wp_sub [(2, .int (nI ((j) + 1))), (1, .int (nI ((j) + (1)))), (0, .ref (80))] [0, 1, 4] rfl ?_
                refine wp_mono ?_ (s_X10_judge_e hrc hr6 (by omega) (by omega))
                rintro r1 h1 ⟨rfl, rfl⟩
                refine ⟨rfl, _, rfl, ?_⟩
                · refine hmh.tr ⟨fun k9 h9 => ?_, rfl⟩
                  simp only [setS]
                  rw [upd_n _ _ (by omega), upd_n _ _ (by omega)]
              · refine wp_aload_n 4 d_X10_judge_212 rfl rfl ?_
                refine wp_getfield (v := .ref (93)) d_X10_judge_213 gf_X10_47 (hp_80 _ _ _ _ _) rfl ?_
                refine wp_iconst (v0 := 3) d_X10_judge_216 rfl ?_
                refine wp_iload_n 2 d_X10_judge_217 rfl rfl ?_
                refine wp_imul d_X10_judge_218 ?_
                refine wp_v (v0 := nI ((3) * (j))) (pk_mul (3) (j)) ?_
                refine wp_iconst (v0 := 2) d_X10_judge_219 rfl ?_
                refine wp_iadd d_X10_judge_220 ?_
                refine wp_v (v0 := nI (((3) * (j)) + (2))) (nI_add ((3) * (j)) (2)) ?_
                refine wp_iaload (v := (m.2.1 93) (((3) * (j)) + (2))) d_X10_judge_221 (hp_93 _ _ _ _ _) (vp_in_nI (by omega) (by omega)) (congrArg ((m.2.1 93)) (nI_clamp (by omega))) ?_
                refine wp_aload_n 4 d_X10_judge_222 rfl rfl ?_
                refine wp_getfield (v := .int (((v'.1 8010) + ((v'.2.1 87) ((j) - (1)) - (v'.2.1 86) ((j) - (1)) * (v'.1 8009))))) d_X10_judge_223 gf_X10_143 (hp_80 _ _ _ _ _) rfl ?_
                refine wp_icmp_ne 233 d_X10_judge_226 rfl (fun c226 => ?_) (fun c226 => ?_)
                · refine wp_iconst (v0 := 0) d_X10_judge_233 rfl ?_
                  refine wp_istore_n [(3, .int (0)), (4, .int (0)), (2, .int (nI (j))), (1, .int (0)), (0, .ref (80))] d_X10_judge_234 rfl (Nat.le_of_ble_eq_true rfl) rfl ?_
                  refine wp_iload_n 0 d_X10_judge_235 rfl rfl ?_
                  refine wp_if_eq 263 d_X10_judge_236 rfl (fun _ => ?_) (fun z => absurd z (by decide))
                  refine wp_iconst (v0 := 0) d_X10_judge_263 rfl ?_
                  refine wp_istore_n [(3, .int (0)), (4, .int (0)), (2, .int (nI (j))), (1, .int (0)), (0, .ref (80))] d_X10_judge_264 rfl (Nat.le_of_ble_eq_true rfl) rfl ?_
                  refine wp_iload_n 0 d_X10_judge_265 rfl rfl ?_
                  refine wp_if_eq 273 d_X10_judge_266 rfl (fun _ => ?_) (fun z => absurd z (by decide))
                  refine wp_iload_n 2 d_X10_judge_273 rfl rfl ?_
                  refine wp_iconst (v0 := 1) d_X10_judge_274 rfl ?_
                  refine wp_iadd d_X10_judge_275 ?_
                  refine wp_v (v0 := nI ((j) + (1))) (nI_add (j) (1)) ?_
                  refine wp_istore_n [(1, .int (nI ((j) + (1)))), (3, .int (0)), (4, .int (0)), (2, .int (nI (j))), (0, .ref (80))] d_X10_judge_276 rfl (Nat.le_of_ble_eq_true rfl) rfl ?_
                  refine wp_iinc (v0 := nI ((j) + 1)) [(2, .int (nI ((j) + 1))), (1, .int (nI ((j) + (1)))), (3, .int (0)), (4, .int (0)), (0, .ref (80))] 3 d_X10_judge_277 rfl (nI_add (j) 1) (Nat.le_of_ble_eq_true rfl) rfl ?_
                  refine wp_goto 8 d_X10_judge_280 rfl ?_
                  obtain ⟨k1, rfl⟩ : ∃ k1, k = k1 + 1 := ⟨k - 1, by omega⟩
                  have hq2 : ((((setS (setS v' 8010 ((v'.1 8010) + ((v'.2.1 87) ((j) - (1)) - (v'.2.1 86) ((j) - (1)) * (v'.1 8009)))) 8009 ((v'.1 8009) + ((m.2.1 81) 5) * ((v'.1 8010) + ((v'.2.1 87) ((j) - (1)) - (v'.2.1 86) ((j) - (1)) * (v'.1 8009)))))).1 8009, ((setS (setS v' 8010 ((v'.1 8010) + ((v'.2.1 87) ((j) - (1)) - (v'.2.1 86) ((j) - (1)) * (v'.1 8009)))) 8009 ((v'.1 8009) + ((m.2.1 81) 5) * ((v'.1 8010) + ((v'.2.1 87) ((j) - (1)) - (v'.2.1 86) ((j) - (1)) * (v'.1 8009)))))).1 8010) : Int32 × Int32) = mray ((m.2.1 81) 5) (((mTube (m.2.1 81) en cnt p) ++ [(((m.2.1 81) 6), 0)]).take j) ((m.2.1 93) 1) := by
                    obtain ⟨j0, rfl⟩ : ∃ j0, j = j0 + 1 := ⟨j - 1, by omega⟩
                    have hq3 := hq
                    rw [show j0 + 1 - 1 = j0 from rfl] at hq3
                    rw [List.take_succ_eq_append_getElem (by simp only [List.length_append, mTube_len, List.length_cons, List.length_nil]; omega), mray_s, ← hq3]
                    rw [List.getElem_append_left (by rw [mTube_len]; omega), ← (hld.h hmh).2 j0 (by rw [mTube_len]; omega)]
                    rfl
                  have e7 : 45 + 2 * j - 2 = 45 + 2 * (j - 1) := by omega
                  rw [e7] at c192
                  have hR : ¬ (mRight (m.2.1 81) (m.2.1 93) en cnt p r) j := by
                    rintro ⟨-, q1⟩
                    unfold mrow at q1
                    rw [← hq2] at q1
                    unfold cdue at q1
                    rw [if_neg (by omega), if_pos (by omega)] at q1
                    simp only [Prod.mk.injEq] at q1
                    first | exact c192 q1.1 | exact c209 q1.2.1 | exact c226 q1.2.2
                  simp only [kfj]
                  rw [if_neg hR]
                  refine wp_sub [(2, .int (nI ((j) + 1))), (1, .int (nI ((j) + (1)))), (0, .ref (80))] [0, 1, 4] rfl ?_
                  refine wp_mono ?_ (s_X10_judge_e hrc hr6 (by omega) (by omega))
                  rintro r1 h1 ⟨rfl, rfl⟩
                  refine ⟨rfl, _, rfl, ?_⟩
                  · refine hmh.tr ⟨fun k9 h9 => ?_, rfl⟩
                    simp only [setS]
                    rw [upd_n _ _ (by omega), upd_n _ _ (by omega)]
                · refine wp_iconst (v0 := 1) d_X10_judge_229 rfl ?_
                  refine wp_goto 234 d_X10_judge_230 rfl ?_
                  refine wp_istore_n [(3, .int (1)), (4, .int (0)), (2, .int (nI (j))), (1, .int (0)), (0, .ref (80))] d_X10_judge_234 rfl (Nat.le_of_ble_eq_true rfl) rfl ?_
                  refine wp_iload_n 0 d_X10_judge_235 rfl rfl ?_
                  refine wp_if_eq 263 d_X10_judge_236 rfl (fun z => absurd z (by decide)) (fun _ => ?_)
                  refine wp_iload_n 2 d_X10_judge_239 rfl rfl ?_
                  refine wp_aload_n 4 d_X10_judge_240 rfl rfl ?_
                  refine wp_getfield (v := .int (nI (r))) d_X10_judge_241 gf_X10_264 (hp_80 _ _ _ _ _) (congrArg (fun z => some (Value.int z)) hrc) ?_
                  refine wp_iconst (v0 := 1) d_X10_judge_244 rfl ?_
                  refine wp_isub d_X10_judge_245 ?_
                  refine wp_v (v0 := nI ((r) - (1))) (pk_sub (a := r) (b := 1) (by omega)) ?_
                  refine wp_ncmp_lt (a := j) (b := (r) - (1)) 259 d_X10_judge_246 rfl (by omega) (by omega) (fun c246 => ?_) (fun c246 => ?_)
                  · refine wp_iconst (v0 := 1) d_X10_judge_259 rfl ?_
                    refine wp_goto 264 d_X10_judge_260 rfl ?_
                    refine wp_istore_n [(3, .int (1)), (4, .int (0)), (2, .int (nI (j))), (1, .int (0)), (0, .ref (80))] d_X10_judge_264 rfl (Nat.le_of_ble_eq_true rfl) rfl ?_
                    refine wp_iload_n 0 d_X10_judge_265 rfl rfl ?_
                    refine wp_if_eq 273 d_X10_judge_266 rfl (fun z => absurd z (by decide)) (fun _ => ?_)
                    refine wp_iconst (v0 := 0) d_X10_judge_269 rfl ?_
                    refine wp_goto 276 d_X10_judge_270 rfl ?_
                    refine wp_istore_n [(1, .int (0)), (3, .int (1)), (4, .int (0)), (2, .int (nI (j))), (0, .ref (80))] d_X10_judge_276 rfl (Nat.le_of_ble_eq_true rfl) rfl ?_
                    refine wp_iinc (v0 := nI ((j) + 1)) [(2, .int (nI ((j) + 1))), (1, .int (0)), (3, .int (1)), (4, .int (0)), (0, .ref (80))] 3 d_X10_judge_277 rfl (nI_add (j) 1) (Nat.le_of_ble_eq_true rfl) rfl ?_
                    refine wp_goto 8 d_X10_judge_280 rfl ?_
                    obtain ⟨k1, rfl⟩ : ∃ k1, k = k1 + 1 := ⟨k - 1, by omega⟩
                    have hq2 : ((((setS (setS v' 8010 ((v'.1 8010) + ((v'.2.1 87) ((j) - (1)) - (v'.2.1 86) ((j) - (1)) * (v'.1 8009)))) 8009 ((v'.1 8009) + ((m.2.1 81) 5) * ((v'.1 8010) + ((v'.2.1 87) ((j) - (1)) - (v'.2.1 86) ((j) - (1)) * (v'.1 8009)))))).1 8009, ((setS (setS v' 8010 ((v'.1 8010) + ((v'.2.1 87) ((j) - (1)) - (v'.2.1 86) ((j) - (1)) * (v'.1 8009)))) 8009 ((v'.1 8009) + ((m.2.1 81) 5) * ((v'.1 8010) + ((v'.2.1 87) ((j) - (1)) - (v'.2.1 86) ((j) - (1)) * (v'.1 8009)))))).1 8010) : Int32 × Int32) = mray ((m.2.1 81) 5) (((mTube (m.2.1 81) en cnt p) ++ [(((m.2.1 81) 6), 0)]).take j) ((m.2.1 93) 1) := by
                      obtain ⟨j0, rfl⟩ : ∃ j0, j = j0 + 1 := ⟨j - 1, by omega⟩
                      have hq3 := hq
                      rw [show j0 + 1 - 1 = j0 from rfl] at hq3
                      rw [List.take_succ_eq_append_getElem (by simp only [List.length_append, mTube_len, List.length_cons, List.length_nil]; omega), mray_s, ← hq3]
                      rw [List.getElem_append_left (by rw [mTube_len]; omega), ← (hld.h hmh).2 j0 (by rw [mTube_len]; omega)]
                      rfl
                    have e7 : 45 + 2 * j - 2 = 45 + 2 * (j - 1) := by omega
                    rw [e7] at c192
                    have hR : (mRight (m.2.1 81) (m.2.1 93) en cnt p r) j := by
                      refine ⟨by omega, ?_⟩
                      show (_, _, _) = _
                      unfold mrow
                      rw [← hq2]
                      unfold cdue
                      rw [if_neg (by omega), if_pos (by omega)]
                      exact Prod.ext c192 (Prod.ext c209 c226)
                    simp only [kfj]
                    rw [if_pos hR]
                    refine wp_sub [(2, .int (nI ((j) + 1))), (1, .int (0)), (0, .ref (80))] [0, 1, 4] rfl ?_
                    refine ih k1 (by omega) (j + 1) _ (by omega) (by omega) (by omega) ?_ hq2
                    · refine hmh.tr ⟨fun k9 h9 => ?_, rfl⟩
                      simp only [setS]
                      rw [upd_n _ _ (by omega), upd_n _ _ (by omega)]
                  · refine wp_iload_n 2 d_X10_judge_249 rfl rfl ?_
                    refine wp_aload_n 4 d_X10_judge_250 rfl rfl ?_
                    refine wp_getfield (v := .int (nI (p))) d_X10_judge_251 gf_X10_135 (hp_80 _ _ _ _ _) (congrArg (fun z => some (Value.int z)) ((hld.h hmh).1.trans (congrArg nI (mTube_len _ _ _ _)))) ?_
                    refine wp_iconst (v0 := 1) d_X10_judge_254 rfl ?_
                    refine wp_iadd d_X10_judge_255 ?_
                    refine wp_v (v0 := nI ((p) + (1))) (nI_add (p) (1)) ?_
                    refine wp_ncmp_ne (a := j) (b := (p) + (1)) 263 d_X10_judge_256 rfl (by omega) (by omega) (fun c256 => ?_) (fun c256 => ?_)
                    · refine wp_iconst (v0 := 0) d_X10_judge_263 rfl ?_
                      refine wp_istore_n [(3, .int (0)), (4, .int (0)), (2, .int (nI (j))), (1, .int (0)), (0, .ref (80))] d_X10_judge_264 rfl (Nat.le_of_ble_eq_true rfl) rfl ?_
                      refine wp_iload_n 0 d_X10_judge_265 rfl rfl ?_
                      refine wp_if_eq 273 d_X10_judge_266 rfl (fun _ => ?_) (fun z => absurd z (by decide))
                      refine wp_iload_n 2 d_X10_judge_273 rfl rfl ?_
                      refine wp_iconst (v0 := 1) d_X10_judge_274 rfl ?_
                      refine wp_iadd d_X10_judge_275 ?_
                      refine wp_v (v0 := nI ((j) + (1))) (nI_add (j) (1)) ?_
                      refine wp_istore_n [(1, .int (nI ((j) + (1)))), (3, .int (0)), (4, .int (0)), (2, .int (nI (j))), (0, .ref (80))] d_X10_judge_276 rfl (Nat.le_of_ble_eq_true rfl) rfl ?_
                      refine wp_iinc (v0 := nI ((j) + 1)) [(2, .int (nI ((j) + 1))), (1, .int (nI ((j) + (1)))), (3, .int (0)), (4, .int (0)), (0, .ref (80))] 3 d_X10_judge_277 rfl (nI_add (j) 1) (Nat.le_of_ble_eq_true rfl) rfl ?_
                      refine wp_goto 8 d_X10_judge_280 rfl ?_
                      obtain ⟨k1, rfl⟩ : ∃ k1, k = k1 + 1 := ⟨k - 1, by omega⟩
                      have hq2 : ((((setS (setS v' 8010 ((v'.1 8010) + ((v'.2.1 87) ((j) - (1)) - (v'.2.1 86) ((j) - (1)) * (v'.1 8009)))) 8009 ((v'.1 8009) + ((m.2.1 81) 5) * ((v'.1 8010) + ((v'.2.1 87) ((j) - (1)) - (v'.2.1 86) ((j) - (1)) * (v'.1 8009)))))).1 8009, ((setS (setS v' 8010 ((v'.1 8010) + ((v'.2.1 87) ((j) - (1)) - (v'.2.1 86) ((j) - (1)) * (v'.1 8009)))) 8009 ((v'.1 8009) + ((m.2.1 81) 5) * ((v'.1 8010) + ((v'.2.1 87) ((j) - (1)) - (v'.2.1 86) ((j) - (1)) * (v'.1 8009)))))).1 8010) : Int32 × Int32) = mray ((m.2.1 81) 5) (((mTube (m.2.1 81) en cnt p) ++ [(((m.2.1 81) 6), 0)]).take j) ((m.2.1 93) 1) := by
                        obtain ⟨j0, rfl⟩ : ∃ j0, j = j0 + 1 := ⟨j - 1, by omega⟩
                        have hq3 := hq
                        rw [show j0 + 1 - 1 = j0 from rfl] at hq3
                        rw [List.take_succ_eq_append_getElem (by simp only [List.length_append, mTube_len, List.length_cons, List.length_nil]; omega), mray_s, ← hq3]
                        rw [List.getElem_append_left (by rw [mTube_len]; omega), ← (hld.h hmh).2 j0 (by rw [mTube_len]; omega)]
                        rfl
                      have hR : ¬ (mRight (m.2.1 81) (m.2.1 93) en cnt p r) j := by
                        rintro ⟨q1, -⟩
                        exact q1 (by omega)
                      simp only [kfj]
                      rw [if_neg hR]
                      refine wp_sub [(2, .int (nI ((j) + 1))), (1, .int (nI ((j) + (1)))), (0, .ref (80))] [0, 1, 4] rfl ?_
                      refine wp_mono ?_ (s_X10_judge_e hrc hr6 (by omega) (by omega))
                      rintro r1 h1 ⟨rfl, rfl⟩
                      refine ⟨rfl, _, rfl, ?_⟩
                      · refine hmh.tr ⟨fun k9 h9 => ?_, rfl⟩
                        simp only [setS]
                        rw [upd_n _ _ (by omega), upd_n _ _ (by omega)]
                    · refine wp_iconst (v0 := 1) d_X10_judge_259 rfl ?_
                      refine wp_goto 264 d_X10_judge_260 rfl ?_
                      refine wp_istore_n [(3, .int (1)), (4, .int (0)), (2, .int (nI (j))), (1, .int (0)), (0, .ref (80))] d_X10_judge_264 rfl (Nat.le_of_ble_eq_true rfl) rfl ?_
                      refine wp_iload_n 0 d_X10_judge_265 rfl rfl ?_
                      refine wp_if_eq 273 d_X10_judge_266 rfl (fun z => absurd z (by decide)) (fun _ => ?_)
                      refine wp_iconst (v0 := 0) d_X10_judge_269 rfl ?_
                      refine wp_goto 276 d_X10_judge_270 rfl ?_
                      refine wp_istore_n [(1, .int (0)), (3, .int (1)), (4, .int (0)), (2, .int (nI (j))), (0, .ref (80))] d_X10_judge_276 rfl (Nat.le_of_ble_eq_true rfl) rfl ?_
                      refine wp_iinc (v0 := nI ((j) + 1)) [(2, .int (nI ((j) + 1))), (1, .int (0)), (3, .int (1)), (4, .int (0)), (0, .ref (80))] 3 d_X10_judge_277 rfl (nI_add (j) 1) (Nat.le_of_ble_eq_true rfl) rfl ?_
                      refine wp_goto 8 d_X10_judge_280 rfl ?_
                      obtain ⟨k1, rfl⟩ : ∃ k1, k = k1 + 1 := ⟨k - 1, by omega⟩
                      have hq2 : ((((setS (setS v' 8010 ((v'.1 8010) + ((v'.2.1 87) ((j) - (1)) - (v'.2.1 86) ((j) - (1)) * (v'.1 8009)))) 8009 ((v'.1 8009) + ((m.2.1 81) 5) * ((v'.1 8010) + ((v'.2.1 87) ((j) - (1)) - (v'.2.1 86) ((j) - (1)) * (v'.1 8009)))))).1 8009, ((setS (setS v' 8010 ((v'.1 8010) + ((v'.2.1 87) ((j) - (1)) - (v'.2.1 86) ((j) - (1)) * (v'.1 8009)))) 8009 ((v'.1 8009) + ((m.2.1 81) 5) * ((v'.1 8010) + ((v'.2.1 87) ((j) - (1)) - (v'.2.1 86) ((j) - (1)) * (v'.1 8009)))))).1 8010) : Int32 × Int32) = mray ((m.2.1 81) 5) (((mTube (m.2.1 81) en cnt p) ++ [(((m.2.1 81) 6), 0)]).take j) ((m.2.1 93) 1) := by
                        obtain ⟨j0, rfl⟩ : ∃ j0, j = j0 + 1 := ⟨j - 1, by omega⟩
                        have hq3 := hq
                        rw [show j0 + 1 - 1 = j0 from rfl] at hq3
                        rw [List.take_succ_eq_append_getElem (by simp only [List.length_append, mTube_len, List.length_cons, List.length_nil]; omega), mray_s, ← hq3]
                        rw [List.getElem_append_left (by rw [mTube_len]; omega), ← (hld.h hmh).2 j0 (by rw [mTube_len]; omega)]
                        rfl
                      have e7 : 45 + 2 * j - 2 = 45 + 2 * (j - 1) := by omega
                      rw [e7] at c192
                      have hR : (mRight (m.2.1 81) (m.2.1 93) en cnt p r) j := by
                        refine ⟨by omega, ?_⟩
                        show (_, _, _) = _
                        unfold mrow
                        rw [← hq2]
                        unfold cdue
                        rw [if_neg (by omega), if_pos (by omega)]
                        exact Prod.ext c192 (Prod.ext c209 c226)
                      simp only [kfj]
                      rw [if_pos hR]
                      refine wp_sub [(2, .int (nI ((j) + 1))), (1, .int (0)), (0, .ref (80))] [0, 1, 4] rfl ?_
                      refine ih k1 (by omega) (j + 1) _ (by omega) (by omega) (by omega) ?_ hq2
                      · refine hmh.tr ⟨fun k9 h9 => ?_, rfl⟩
                        simp only [setS]
                        rw [upd_n _ _ (by omega), upd_n _ _ (by omega)]
          · refine wp_iconst (v0 := 1) d_X10_judge_110 rfl ?_
            refine wp_goto 115 d_X10_judge_111 rfl ?_
            refine wp_istore [(4, .int (1)), (3, .int (1)), (2, .int (nI (j))), (1, .int (0)), (0, .ref (80))] d_X10_judge_115 (Nat.le_of_ble_eq_true rfl) rfl ?_
            refine wp_aload_n 4 d_X10_judge_117 rfl rfl ?_
            refine wp_iload 0 d_X10_judge_118 rfl ?_
            refine wp_if_eq 133 d_X10_judge_120 rfl (fun z => absurd z (by decide)) (fun _ => ?_)
            refine wp_aload_n 4 d_X10_judge_123 rfl rfl ?_
            refine wp_getfield (v := .ref (81)) d_X10_judge_124 gf_X10_7 (hp_80 _ _ _ _ _) rfl ?_
            refine wp_bipush (v0 := 6) d_X10_judge_127 (by decide) ?_
            refine wp_iaload (v := (m.2.1 81) (6)) d_X10_judge_129 (hp_81 _ _ _ _ _) (kin rfl) rfl ?_
            refine wp_goto 141 d_X10_judge_130 rfl ?_
            refine wp_iload 0 d_X10_judge_141 rfl ?_
            refine wp_if_eq 150 d_X10_judge_143 rfl (fun z => absurd z (by decide)) (fun _ => ?_)
            refine wp_iconst (v0 := 0) d_X10_judge_146 rfl ?_
            refine wp_goto 158 d_X10_judge_147 rfl ?_
            refine wp_vrt_v (As := [.int ((m.2.1 81) (6)), .int (0)]) (h1 := HP c w m (setS (setS v' 8010 ((v'.1 8010) + (0 - (m.2.1 81) (6) * (v'.1 8009)))) 8009 ((v'.1 8009) + ((m.2.1 81) 5) * ((v'.1 8010) + (0 - (m.2.1 81) (6) * (v'.1 8009))))) E) d_X10_judge_158 lk_X10_149 mv_X10_through in_X10_through se_X10_through (Nat.le_of_ble_eq_true rfl) (Nat.le_of_ble_eq_true rfl) (hp_80 _ _ _ _ _) rfl (s_X10_through ((m.2.1 81) (6)) (0)) ?_
            refine wp_aload_n 4 d_X10_judge_161 rfl rfl ?_
            refine wp_getfield (v := .ref (93)) d_X10_judge_162 gf_X10_47 (hp_80 _ _ _ _ _) rfl ?_
            refine wp_iconst (v0 := 3) d_X10_judge_165 rfl ?_
            refine wp_iload_n 2 d_X10_judge_166 rfl rfl ?_
            refine wp_imul d_X10_judge_167 ?_
            refine wp_v (v0 := nI ((3) * (j))) (pk_mul (3) (j)) ?_
            refine wp_iaload (v := (m.2.1 93) ((3) * (j))) d_X10_judge_168 (hp_93 _ _ _ _ _) (vp_in_nI (by omega) (by omega)) (congrArg ((m.2.1 93)) (nI_clamp (by omega))) ?_
            refine wp_iload 0 d_X10_judge_169 rfl ?_
            refine wp_if_eq 179 d_X10_judge_171 rfl (fun z => absurd z (by decide)) (fun _ => ?_)
            refine wp_bipush (v0 := 9) d_X10_judge_174 (by decide) ?_
            refine wp_goto 192 d_X10_judge_176 rfl ?_
            refine wp_icmp_ne 233 d_X10_judge_192 rfl (fun c192 => ?_) (fun c192 => ?_)
            · refine wp_iconst (v0 := 0) d_X10_judge_233 rfl ?_
              refine wp_istore_n [(3, .int (0)), (4, .int (1)), (2, .int (nI (j))), (1, .int (0)), (0, .ref (80))] d_X10_judge_234 rfl (Nat.le_of_ble_eq_true rfl) rfl ?_
              refine wp_iload_n 0 d_X10_judge_235 rfl rfl ?_
              refine wp_if_eq 263 d_X10_judge_236 rfl (fun _ => ?_) (fun z => absurd z (by decide))
              refine wp_iconst (v0 := 0) d_X10_judge_263 rfl ?_
              refine wp_istore_n [(3, .int (0)), (4, .int (1)), (2, .int (nI (j))), (1, .int (0)), (0, .ref (80))] d_X10_judge_264 rfl (Nat.le_of_ble_eq_true rfl) rfl ?_
              refine wp_iload_n 0 d_X10_judge_265 rfl rfl ?_
              refine wp_if_eq 273 d_X10_judge_266 rfl (fun _ => ?_) (fun z => absurd z (by decide))
              refine wp_iload_n 2 d_X10_judge_273 rfl rfl ?_
              refine wp_iconst (v0 := 1) d_X10_judge_274 rfl ?_
              refine wp_iadd d_X10_judge_275 ?_
              refine wp_v (v0 := nI ((j) + (1))) (nI_add (j) (1)) ?_
              refine wp_istore_n [(1, .int (nI ((j) + (1)))), (3, .int (0)), (4, .int (1)), (2, .int (nI (j))), (0, .ref (80))] d_X10_judge_276 rfl (Nat.le_of_ble_eq_true rfl) rfl ?_
              refine wp_iinc (v0 := nI ((j) + 1)) [(2, .int (nI ((j) + 1))), (1, .int (nI ((j) + (1)))), (3, .int (0)), (4, .int (1)), (0, .ref (80))] 3 d_X10_judge_277 rfl (nI_add (j) 1) (Nat.le_of_ble_eq_true rfl) rfl ?_
              refine wp_goto 8 d_X10_judge_280 rfl ?_
              obtain ⟨k1, rfl⟩ : ∃ k1, k = k1 + 1 := ⟨k - 1, by omega⟩
              have hq2 : ((((setS (setS v' 8010 ((v'.1 8010) + (0 - (m.2.1 81) (6) * (v'.1 8009)))) 8009 ((v'.1 8009) + ((m.2.1 81) 5) * ((v'.1 8010) + (0 - (m.2.1 81) (6) * (v'.1 8009)))))).1 8009, ((setS (setS v' 8010 ((v'.1 8010) + (0 - (m.2.1 81) (6) * (v'.1 8009)))) 8009 ((v'.1 8009) + ((m.2.1 81) 5) * ((v'.1 8010) + (0 - (m.2.1 81) (6) * (v'.1 8009)))))).1 8010) : Int32 × Int32) = mray ((m.2.1 81) 5) (((mTube (m.2.1 81) en cnt p) ++ [(((m.2.1 81) 6), 0)]).take j) ((m.2.1 93) 1) := by
                obtain ⟨j0, rfl⟩ : ∃ j0, j = j0 + 1 := ⟨j - 1, by omega⟩
                have hq3 := hq
                rw [show j0 + 1 - 1 = j0 from rfl] at hq3
                rw [List.take_succ_eq_append_getElem (by simp only [List.length_append, mTube_len, List.length_cons, List.length_nil]; omega), mray_s, ← hq3]
                obtain rfl : p = j0 := by omega
                rw [List.getElem_append_right (by rw [mTube_len]; omega)]
                simp only [mTube_len, Nat.sub_self, List.getElem_cons_zero]
                rfl
              have hR : ¬ (mRight (m.2.1 81) (m.2.1 93) en cnt p r) j := by
                rintro ⟨-, q1⟩
                unfold mrow at q1
                rw [← hq2] at q1
                unfold cdue at q1
                rw [if_neg (by omega), if_neg (by omega)] at q1
                simp only [Prod.mk.injEq] at q1
                first | exact c192 q1.1 | exact c209 q1.2.1 | exact c226 q1.2.2
              simp only [kfj]
              rw [if_neg hR]
              refine wp_sub [(2, .int (nI ((j) + 1))), (1, .int (nI ((j) + (1)))), (0, .ref (80))] [0, 1, 4] rfl ?_
              refine wp_mono ?_ (s_X10_judge_e hrc hr6 (by omega) (by omega))
              rintro r1 h1 ⟨rfl, rfl⟩
              refine ⟨rfl, _, rfl, ?_⟩
              · refine hmh.tr ⟨fun k9 h9 => ?_, rfl⟩
                simp only [setS]
                rw [upd_n _ _ (by omega), upd_n _ _ (by omega)]
            · refine wp_aload_n 4 d_X10_judge_195 rfl rfl ?_
              refine wp_getfield (v := .ref (93)) d_X10_judge_196 gf_X10_47 (hp_80 _ _ _ _ _) rfl ?_
              refine wp_iconst (v0 := 3) d_X10_judge_199 rfl ?_
              refine wp_iload_n 2 d_X10_judge_200 rfl rfl ?_
              refine wp_imul d_X10_judge_201 ?_
              refine wp_v (v0 := nI ((3) * (j))) (pk_mul (3) (j)) ?_
              refine wp_iconst (v0 := 1) d_X10_judge_202 rfl ?_
              refine wp_iadd d_X10_judge_203 ?_
              refine wp_v (v0 := nI (((3) * (j)) + (1))) (nI_add ((3) * (j)) (1)) ?_
              refine wp_iaload (v := (m.2.1 93) (((3) * (j)) + (1))) d_X10_judge_204 (hp_93 _ _ _ _ _) (vp_in_nI (by omega) (by omega)) (congrArg ((m.2.1 93)) (nI_clamp (by omega))) ?_
              refine wp_aload_n 4 d_X10_judge_205 rfl rfl ?_
              refine wp_getfield (v := .int (((v'.1 8009) + ((m.2.1 81) 5) * ((v'.1 8010) + (0 - (m.2.1 81) (6) * (v'.1 8009)))))) d_X10_judge_206 gf_X10_146 (hp_80 _ _ _ _ _) rfl ?_
              refine wp_icmp_ne 233 d_X10_judge_209 rfl (fun c209 => ?_) (fun c209 => ?_)
              · refine wp_iconst (v0 := 0) d_X10_judge_233 rfl ?_
                refine wp_istore_n [(3, .int (0)), (4, .int (1)), (2, .int (nI (j))), (1, .int (0)), (0, .ref (80))] d_X10_judge_234 rfl (Nat.le_of_ble_eq_true rfl) rfl ?_
                refine wp_iload_n 0 d_X10_judge_235 rfl rfl ?_
                refine wp_if_eq 263 d_X10_judge_236 rfl (fun _ => ?_) (fun z => absurd z (by decide))
                refine wp_iconst (v0 := 0) d_X10_judge_263 rfl ?_
                refine wp_istore_n [(3, .int (0)), (4, .int (1)), (2, .int (nI (j))), (1, .int (0)), (0, .ref (80))] d_X10_judge_264 rfl (Nat.le_of_ble_eq_true rfl) rfl ?_
                refine wp_iload_n 0 d_X10_judge_265 rfl rfl ?_
                refine wp_if_eq 273 d_X10_judge_266 rfl (fun _ => ?_) (fun z => absurd z (by decide))
                refine wp_iload_n 2 d_X10_judge_273 rfl rfl ?_
                refine wp_iconst (v0 := 1) d_X10_judge_274 rfl ?_
                refine wp_iadd d_X10_judge_275 ?_
                refine wp_v (v0 := nI ((j) + (1))) (nI_add (j) (1)) ?_
                refine wp_istore_n [(1, .int (nI ((j) + (1)))), (3, .int (0)), (4, .int (1)), (2, .int (nI (j))), (0, .ref (80))] d_X10_judge_276 rfl (Nat.le_of_ble_eq_true rfl) rfl ?_
                refine wp_iinc (v0 := nI ((j) + 1)) [(2, .int (nI ((j) + 1))), (1, .int (nI ((j) + (1)))), (3, .int (0)), (4, .int (1)), (0, .ref (80))] 3 d_X10_judge_277 rfl (nI_add (j) 1) (Nat.le_of_ble_eq_true rfl) rfl ?_
                refine wp_goto 8 d_X10_judge_280 rfl ?_
                obtain ⟨k1, rfl⟩ : ∃ k1, k = k1 + 1 := ⟨k - 1, by omega⟩
                have hq2 : ((((setS (setS v' 8010 ((v'.1 8010) + (0 - (m.2.1 81) (6) * (v'.1 8009)))) 8009 ((v'.1 8009) + ((m.2.1 81) 5) * ((v'.1 8010) + (0 - (m.2.1 81) (6) * (v'.1 8009)))))).1 8009, ((setS (setS v' 8010 ((v'.1 8010) + (0 - (m.2.1 81) (6) * (v'.1 8009)))) 8009 ((v'.1 8009) + ((m.2.1 81) 5) * ((v'.1 8010) + (0 - (m.2.1 81) (6) * (v'.1 8009)))))).1 8010) : Int32 × Int32) = mray ((m.2.1 81) 5) (((mTube (m.2.1 81) en cnt p) ++ [(((m.2.1 81) 6), 0)]).take j) ((m.2.1 93) 1) := by
                  obtain ⟨j0, rfl⟩ : ∃ j0, j = j0 + 1 := ⟨j - 1, by omega⟩
                  have hq3 := hq
                  rw [show j0 + 1 - 1 = j0 from rfl] at hq3
                  rw [List.take_succ_eq_append_getElem (by simp only [List.length_append, mTube_len, List.length_cons, List.length_nil]; omega), mray_s, ← hq3]
                  obtain rfl : p = j0 := by omega
                  rw [List.getElem_append_right (by rw [mTube_len]; omega)]
                  simp only [mTube_len, Nat.sub_self, List.getElem_cons_zero]
                  rfl
                have hR : ¬ (mRight (m.2.1 81) (m.2.1 93) en cnt p r) j := by
                  rintro ⟨-, q1⟩
                  unfold mrow at q1
                  rw [← hq2] at q1
                  unfold cdue at q1
                  rw [if_neg (by omega), if_neg (by omega)] at q1
                  simp only [Prod.mk.injEq] at q1
                  first | exact c192 q1.1 | exact c209 q1.2.1 | exact c226 q1.2.2
                simp only [kfj]
                rw [if_neg hR]
                refine wp_sub [(2, .int (nI ((j) + 1))), (1, .int (nI ((j) + (1)))), (0, .ref (80))] [0, 1, 4] rfl ?_
                refine wp_mono ?_ (s_X10_judge_e hrc hr6 (by omega) (by omega))
                rintro r1 h1 ⟨rfl, rfl⟩
                refine ⟨rfl, _, rfl, ?_⟩
                · refine hmh.tr ⟨fun k9 h9 => ?_, rfl⟩
                  simp only [setS]
                  rw [upd_n _ _ (by omega), upd_n _ _ (by omega)]
              · refine wp_aload_n 4 d_X10_judge_212 rfl rfl ?_
                refine wp_getfield (v := .ref (93)) d_X10_judge_213 gf_X10_47 (hp_80 _ _ _ _ _) rfl ?_
                refine wp_iconst (v0 := 3) d_X10_judge_216 rfl ?_
                refine wp_iload_n 2 d_X10_judge_217 rfl rfl ?_
                refine wp_imul d_X10_judge_218 ?_
                refine wp_v (v0 := nI ((3) * (j))) (pk_mul (3) (j)) ?_
                refine wp_iconst (v0 := 2) d_X10_judge_219 rfl ?_
                refine wp_iadd d_X10_judge_220 ?_
                refine wp_v (v0 := nI (((3) * (j)) + (2))) (nI_add ((3) * (j)) (2)) ?_
                refine wp_iaload (v := (m.2.1 93) (((3) * (j)) + (2))) d_X10_judge_221 (hp_93 _ _ _ _ _) (vp_in_nI (by omega) (by omega)) (congrArg ((m.2.1 93)) (nI_clamp (by omega))) ?_
                refine wp_aload_n 4 d_X10_judge_222 rfl rfl ?_
                refine wp_getfield (v := .int (((v'.1 8010) + (0 - (m.2.1 81) (6) * (v'.1 8009))))) d_X10_judge_223 gf_X10_143 (hp_80 _ _ _ _ _) rfl ?_
                refine wp_icmp_ne 233 d_X10_judge_226 rfl (fun c226 => ?_) (fun c226 => ?_)
                · refine wp_iconst (v0 := 0) d_X10_judge_233 rfl ?_
                  refine wp_istore_n [(3, .int (0)), (4, .int (1)), (2, .int (nI (j))), (1, .int (0)), (0, .ref (80))] d_X10_judge_234 rfl (Nat.le_of_ble_eq_true rfl) rfl ?_
                  refine wp_iload_n 0 d_X10_judge_235 rfl rfl ?_
                  refine wp_if_eq 263 d_X10_judge_236 rfl (fun _ => ?_) (fun z => absurd z (by decide))
                  refine wp_iconst (v0 := 0) d_X10_judge_263 rfl ?_
                  refine wp_istore_n [(3, .int (0)), (4, .int (1)), (2, .int (nI (j))), (1, .int (0)), (0, .ref (80))] d_X10_judge_264 rfl (Nat.le_of_ble_eq_true rfl) rfl ?_
                  refine wp_iload_n 0 d_X10_judge_265 rfl rfl ?_
                  refine wp_if_eq 273 d_X10_judge_266 rfl (fun _ => ?_) (fun z => absurd z (by decide))
                  refine wp_iload_n 2 d_X10_judge_273 rfl rfl ?_
                  refine wp_iconst (v0 := 1) d_X10_judge_274 rfl ?_
                  refine wp_iadd d_X10_judge_275 ?_
                  refine wp_v (v0 := nI ((j) + (1))) (nI_add (j) (1)) ?_
                  refine wp_istore_n [(1, .int (nI ((j) + (1)))), (3, .int (0)), (4, .int (1)), (2, .int (nI (j))), (0, .ref (80))] d_X10_judge_276 rfl (Nat.le_of_ble_eq_true rfl) rfl ?_
                  refine wp_iinc (v0 := nI ((j) + 1)) [(2, .int (nI ((j) + 1))), (1, .int (nI ((j) + (1)))), (3, .int (0)), (4, .int (1)), (0, .ref (80))] 3 d_X10_judge_277 rfl (nI_add (j) 1) (Nat.le_of_ble_eq_true rfl) rfl ?_
                  refine wp_goto 8 d_X10_judge_280 rfl ?_
                  obtain ⟨k1, rfl⟩ : ∃ k1, k = k1 + 1 := ⟨k - 1, by omega⟩
                  have hq2 : ((((setS (setS v' 8010 ((v'.1 8010) + (0 - (m.2.1 81) (6) * (v'.1 8009)))) 8009 ((v'.1 8009) + ((m.2.1 81) 5) * ((v'.1 8010) + (0 - (m.2.1 81) (6) * (v'.1 8009)))))).1 8009, ((setS (setS v' 8010 ((v'.1 8010) + (0 - (m.2.1 81) (6) * (v'.1 8009)))) 8009 ((v'.1 8009) + ((m.2.1 81) 5) * ((v'.1 8010) + (0 - (m.2.1 81) (6) * (v'.1 8009)))))).1 8010) : Int32 × Int32) = mray ((m.2.1 81) 5) (((mTube (m.2.1 81) en cnt p) ++ [(((m.2.1 81) 6), 0)]).take j) ((m.2.1 93) 1) := by
                    obtain ⟨j0, rfl⟩ : ∃ j0, j = j0 + 1 := ⟨j - 1, by omega⟩
                    have hq3 := hq
                    rw [show j0 + 1 - 1 = j0 from rfl] at hq3
                    rw [List.take_succ_eq_append_getElem (by simp only [List.length_append, mTube_len, List.length_cons, List.length_nil]; omega), mray_s, ← hq3]
                    obtain rfl : p = j0 := by omega
                    rw [List.getElem_append_right (by rw [mTube_len]; omega)]
                    simp only [mTube_len, Nat.sub_self, List.getElem_cons_zero]
                    rfl
                  have hR : ¬ (mRight (m.2.1 81) (m.2.1 93) en cnt p r) j := by
                    rintro ⟨-, q1⟩
                    unfold mrow at q1
                    rw [← hq2] at q1
                    unfold cdue at q1
                    rw [if_neg (by omega), if_neg (by omega)] at q1
                    simp only [Prod.mk.injEq] at q1
                    first | exact c192 q1.1 | exact c209 q1.2.1 | exact c226 q1.2.2
                  simp only [kfj]
                  rw [if_neg hR]
                  refine wp_sub [(2, .int (nI ((j) + 1))), (1, .int (nI ((j) + (1)))), (0, .ref (80))] [0, 1, 4] rfl ?_
                  refine wp_mono ?_ (s_X10_judge_e hrc hr6 (by omega) (by omega))
                  rintro r1 h1 ⟨rfl, rfl⟩
                  refine ⟨rfl, _, rfl, ?_⟩
                  · refine hmh.tr ⟨fun k9 h9 => ?_, rfl⟩
                    simp only [setS]
                    rw [upd_n _ _ (by omega), upd_n _ _ (by omega)]
                · refine wp_iconst (v0 := 1) d_X10_judge_229 rfl ?_
                  refine wp_goto 234 d_X10_judge_230 rfl ?_
                  refine wp_istore_n [(3, .int (1)), (4, .int (1)), (2, .int (nI (j))), (1, .int (0)), (0, .ref (80))] d_X10_judge_234 rfl (Nat.le_of_ble_eq_true rfl) rfl ?_
                  refine wp_iload_n 0 d_X10_judge_235 rfl rfl ?_
                  refine wp_if_eq 263 d_X10_judge_236 rfl (fun z => absurd z (by decide)) (fun _ => ?_)
                  refine wp_iload_n 2 d_X10_judge_239 rfl rfl ?_
                  refine wp_aload_n 4 d_X10_judge_240 rfl rfl ?_
                  refine wp_getfield (v := .int (nI (r))) d_X10_judge_241 gf_X10_264 (hp_80 _ _ _ _ _) (congrArg (fun z => some (Value.int z)) hrc) ?_
                  refine wp_iconst (v0 := 1) d_X10_judge_244 rfl ?_
                  refine wp_isub d_X10_judge_245 ?_
                  refine wp_v (v0 := nI ((r) - (1))) (pk_sub (a := r) (b := 1) (by omega)) ?_
                  refine wp_ncmp_lt (a := j) (b := (r) - (1)) 259 d_X10_judge_246 rfl (by omega) (by omega) (fun c246 => ?_) (fun c246 => ?_)
                  · refine wp_iconst (v0 := 1) d_X10_judge_259 rfl ?_
                    refine wp_goto 264 d_X10_judge_260 rfl ?_
                    refine wp_istore_n [(3, .int (1)), (4, .int (1)), (2, .int (nI (j))), (1, .int (0)), (0, .ref (80))] d_X10_judge_264 rfl (Nat.le_of_ble_eq_true rfl) rfl ?_
                    refine wp_iload_n 0 d_X10_judge_265 rfl rfl ?_
                    refine wp_if_eq 273 d_X10_judge_266 rfl (fun z => absurd z (by decide)) (fun _ => ?_)
                    refine wp_iconst (v0 := 0) d_X10_judge_269 rfl ?_
                    refine wp_goto 276 d_X10_judge_270 rfl ?_
                    refine wp_istore_n [(1, .int (0)), (3, .int (1)), (4, .int (1)), (2, .int (nI (j))), (0, .ref (80))] d_X10_judge_276 rfl (Nat.le_of_ble_eq_true rfl) rfl ?_
                    refine wp_iinc (v0 := nI ((j) + 1)) [(2, .int (nI ((j) + 1))), (1, .int (0)), (3, .int (1)), (4, .int (1)), (0, .ref (80))] 3 d_X10_judge_277 rfl (nI_add (j) 1) (Nat.le_of_ble_eq_true rfl) rfl ?_
                    refine wp_goto 8 d_X10_judge_280 rfl ?_
                    obtain ⟨k1, rfl⟩ : ∃ k1, k = k1 + 1 := ⟨k - 1, by omega⟩
                    have hq2 : ((((setS (setS v' 8010 ((v'.1 8010) + (0 - (m.2.1 81) (6) * (v'.1 8009)))) 8009 ((v'.1 8009) + ((m.2.1 81) 5) * ((v'.1 8010) + (0 - (m.2.1 81) (6) * (v'.1 8009)))))).1 8009, ((setS (setS v' 8010 ((v'.1 8010) + (0 - (m.2.1 81) (6) * (v'.1 8009)))) 8009 ((v'.1 8009) + ((m.2.1 81) 5) * ((v'.1 8010) + (0 - (m.2.1 81) (6) * (v'.1 8009)))))).1 8010) : Int32 × Int32) = mray ((m.2.1 81) 5) (((mTube (m.2.1 81) en cnt p) ++ [(((m.2.1 81) 6), 0)]).take j) ((m.2.1 93) 1) := by
                      obtain ⟨j0, rfl⟩ : ∃ j0, j = j0 + 1 := ⟨j - 1, by omega⟩
                      have hq3 := hq
                      rw [show j0 + 1 - 1 = j0 from rfl] at hq3
                      rw [List.take_succ_eq_append_getElem (by simp only [List.length_append, mTube_len, List.length_cons, List.length_nil]; omega), mray_s, ← hq3]
                      obtain rfl : p = j0 := by omega
                      rw [List.getElem_append_right (by rw [mTube_len]; omega)]
                      simp only [mTube_len, Nat.sub_self, List.getElem_cons_zero]
                      rfl
                    have hR : (mRight (m.2.1 81) (m.2.1 93) en cnt p r) j := by
                      refine ⟨by omega, ?_⟩
                      show (_, _, _) = _
                      unfold mrow
                      rw [← hq2]
                      unfold cdue
                      rw [if_neg (by omega), if_neg (by omega)]
                      exact Prod.ext c192 (Prod.ext c209 c226)
                    simp only [kfj]
                    rw [if_pos hR]
                    refine wp_sub [(2, .int (nI ((j) + 1))), (1, .int (0)), (0, .ref (80))] [0, 1, 4] rfl ?_
                    refine ih k1 (by omega) (j + 1) _ (by omega) (by omega) (by omega) ?_ hq2
                    · refine hmh.tr ⟨fun k9 h9 => ?_, rfl⟩
                      simp only [setS]
                      rw [upd_n _ _ (by omega), upd_n _ _ (by omega)]
                  · refine wp_iload_n 2 d_X10_judge_249 rfl rfl ?_
                    refine wp_aload_n 4 d_X10_judge_250 rfl rfl ?_
                    refine wp_getfield (v := .int (nI (p))) d_X10_judge_251 gf_X10_135 (hp_80 _ _ _ _ _) (congrArg (fun z => some (Value.int z)) ((hld.h hmh).1.trans (congrArg nI (mTube_len _ _ _ _)))) ?_
                    refine wp_iconst (v0 := 1) d_X10_judge_254 rfl ?_
                    refine wp_iadd d_X10_judge_255 ?_
                    refine wp_v (v0 := nI ((p) + (1))) (nI_add (p) (1)) ?_
                    refine wp_ncmp_ne (a := j) (b := (p) + (1)) 263 d_X10_judge_256 rfl (by omega) (by omega) (fun c256 => ?_) (fun c256 => ?_)
                    · refine wp_iconst (v0 := 0) d_X10_judge_263 rfl ?_
                      refine wp_istore_n [(3, .int (0)), (4, .int (1)), (2, .int (nI (j))), (1, .int (0)), (0, .ref (80))] d_X10_judge_264 rfl (Nat.le_of_ble_eq_true rfl) rfl ?_
                      refine wp_iload_n 0 d_X10_judge_265 rfl rfl ?_
                      refine wp_if_eq 273 d_X10_judge_266 rfl (fun _ => ?_) (fun z => absurd z (by decide))
                      refine wp_iload_n 2 d_X10_judge_273 rfl rfl ?_
                      refine wp_iconst (v0 := 1) d_X10_judge_274 rfl ?_
                      refine wp_iadd d_X10_judge_275 ?_
                      refine wp_v (v0 := nI ((j) + (1))) (nI_add (j) (1)) ?_
                      refine wp_istore_n [(1, .int (nI ((j) + (1)))), (3, .int (0)), (4, .int (1)), (2, .int (nI (j))), (0, .ref (80))] d_X10_judge_276 rfl (Nat.le_of_ble_eq_true rfl) rfl ?_
                      refine wp_iinc (v0 := nI ((j) + 1)) [(2, .int (nI ((j) + 1))), (1, .int (nI ((j) + (1)))), (3, .int (0)), (4, .int (1)), (0, .ref (80))] 3 d_X10_judge_277 rfl (nI_add (j) 1) (Nat.le_of_ble_eq_true rfl) rfl ?_
                      refine wp_goto 8 d_X10_judge_280 rfl ?_
                      obtain ⟨k1, rfl⟩ : ∃ k1, k = k1 + 1 := ⟨k - 1, by omega⟩
                      have hq2 : ((((setS (setS v' 8010 ((v'.1 8010) + (0 - (m.2.1 81) (6) * (v'.1 8009)))) 8009 ((v'.1 8009) + ((m.2.1 81) 5) * ((v'.1 8010) + (0 - (m.2.1 81) (6) * (v'.1 8009)))))).1 8009, ((setS (setS v' 8010 ((v'.1 8010) + (0 - (m.2.1 81) (6) * (v'.1 8009)))) 8009 ((v'.1 8009) + ((m.2.1 81) 5) * ((v'.1 8010) + (0 - (m.2.1 81) (6) * (v'.1 8009)))))).1 8010) : Int32 × Int32) = mray ((m.2.1 81) 5) (((mTube (m.2.1 81) en cnt p) ++ [(((m.2.1 81) 6), 0)]).take j) ((m.2.1 93) 1) := by
                        obtain ⟨j0, rfl⟩ : ∃ j0, j = j0 + 1 := ⟨j - 1, by omega⟩
                        have hq3 := hq
                        rw [show j0 + 1 - 1 = j0 from rfl] at hq3
                        rw [List.take_succ_eq_append_getElem (by simp only [List.length_append, mTube_len, List.length_cons, List.length_nil]; omega), mray_s, ← hq3]
                        obtain rfl : p = j0 := by omega
                        rw [List.getElem_append_right (by rw [mTube_len]; omega)]
                        simp only [mTube_len, Nat.sub_self, List.getElem_cons_zero]
                        rfl
                      have hR : ¬ (mRight (m.2.1 81) (m.2.1 93) en cnt p r) j := by
                        rintro ⟨q1, -⟩
                        exact q1 (by omega)
                      simp only [kfj]
                      rw [if_neg hR]
                      refine wp_sub [(2, .int (nI ((j) + 1))), (1, .int (nI ((j) + (1)))), (0, .ref (80))] [0, 1, 4] rfl ?_
                      refine wp_mono ?_ (s_X10_judge_e hrc hr6 (by omega) (by omega))
                      rintro r1 h1 ⟨rfl, rfl⟩
                      refine ⟨rfl, _, rfl, ?_⟩
                      · refine hmh.tr ⟨fun k9 h9 => ?_, rfl⟩
                        simp only [setS]
                        rw [upd_n _ _ (by omega), upd_n _ _ (by omega)]
                    · refine wp_iconst (v0 := 1) d_X10_judge_259 rfl ?_
                      refine wp_goto 264 d_X10_judge_260 rfl ?_
                      refine wp_istore_n [(3, .int (1)), (4, .int (1)), (2, .int (nI (j))), (1, .int (0)), (0, .ref (80))] d_X10_judge_264 rfl (Nat.le_of_ble_eq_true rfl) rfl ?_
                      refine wp_iload_n 0 d_X10_judge_265 rfl rfl ?_
                      refine wp_if_eq 273 d_X10_judge_266 rfl (fun z => absurd z (by decide)) (fun _ => ?_)
                      refine wp_iconst (v0 := 0) d_X10_judge_269 rfl ?_
                      refine wp_goto 276 d_X10_judge_270 rfl ?_
                      refine wp_istore_n [(1, .int (0)), (3, .int (1)), (4, .int (1)), (2, .int (nI (j))), (0, .ref (80))] d_X10_judge_276 rfl (Nat.le_of_ble_eq_true rfl) rfl ?_
                      refine wp_iinc (v0 := nI ((j) + 1)) [(2, .int (nI ((j) + 1))), (1, .int (0)), (3, .int (1)), (4, .int (1)), (0, .ref (80))] 3 d_X10_judge_277 rfl (nI_add (j) 1) (Nat.le_of_ble_eq_true rfl) rfl ?_
                      refine wp_goto 8 d_X10_judge_280 rfl ?_
                      obtain ⟨k1, rfl⟩ : ∃ k1, k = k1 + 1 := ⟨k - 1, by omega⟩
                      have hq2 : ((((setS (setS v' 8010 ((v'.1 8010) + (0 - (m.2.1 81) (6) * (v'.1 8009)))) 8009 ((v'.1 8009) + ((m.2.1 81) 5) * ((v'.1 8010) + (0 - (m.2.1 81) (6) * (v'.1 8009)))))).1 8009, ((setS (setS v' 8010 ((v'.1 8010) + (0 - (m.2.1 81) (6) * (v'.1 8009)))) 8009 ((v'.1 8009) + ((m.2.1 81) 5) * ((v'.1 8010) + (0 - (m.2.1 81) (6) * (v'.1 8009)))))).1 8010) : Int32 × Int32) = mray ((m.2.1 81) 5) (((mTube (m.2.1 81) en cnt p) ++ [(((m.2.1 81) 6), 0)]).take j) ((m.2.1 93) 1) := by
                        obtain ⟨j0, rfl⟩ : ∃ j0, j = j0 + 1 := ⟨j - 1, by omega⟩
                        have hq3 := hq
                        rw [show j0 + 1 - 1 = j0 from rfl] at hq3
                        rw [List.take_succ_eq_append_getElem (by simp only [List.length_append, mTube_len, List.length_cons, List.length_nil]; omega), mray_s, ← hq3]
                        obtain rfl : p = j0 := by omega
                        rw [List.getElem_append_right (by rw [mTube_len]; omega)]
                        simp only [mTube_len, Nat.sub_self, List.getElem_cons_zero]
                        rfl
                      have hR : (mRight (m.2.1 81) (m.2.1 93) en cnt p r) j := by
                        refine ⟨by omega, ?_⟩
                        show (_, _, _) = _
                        unfold mrow
                        rw [← hq2]
                        unfold cdue
                        rw [if_neg (by omega), if_neg (by omega)]
                        exact Prod.ext c192 (Prod.ext c209 c226)
                      simp only [kfj]
                      rw [if_pos hR]
                      refine wp_sub [(2, .int (nI ((j) + 1))), (1, .int (0)), (0, .ref (80))] [0, 1, 4] rfl ?_
                      refine ih k1 (by omega) (j + 1) _ (by omega) (by omega) (by omega) ?_ hq2
                      · refine hmh.tr ⟨fun k9 h9 => ?_, rfl⟩
                        simp only [setS]
                        rw [upd_n _ _ (by omega), upd_n _ _ (by omega)]
        · exact absurd c37 (by omega)
theorem s_X10_judge {X : kX} {d : Nat} {c w m v : kZ} {E : kH} {cnt : Nat} (hs1 : (m.2.1 81) 1 = nI cnt) (hc8 : cnt ≤ 8) {en : Nat → Nat} (hm : mWF (m.2.1 81) cnt en) {n : Nat} (hn : m.2.1 81 0 = nI n) (hn9 : n ≤ 9) {p : Nat} (hp : m.2.1 81 2 = nI p) (hp4 : p ≤ 4) (hln : ∀ j, j < p → vp_in (mlp (m.2.1 81) j) n) {r : Nat} (hrc : m.1 8022 = nI r) (hr6 : r ≤ 6) (hr1 : r ≠ 1) : WP X (d + 9) 0 0 Y_X10_judge 0 [(0, .ref (80))] [] (HP c w m v E) (fun r1 h1 => r1 = some (.int (if r = 0 then 0 else if cHead (m.2.1 93) then kfj (mRight (m.2.1 81) (m.2.1 93) en cnt p r) (r - 1) 1 else 1)) ∧ ∃ v1 : kZ, h1 = HP c w m v1 E ∧ mFr 84 87 v v1) := by
  refine wp_aload_n 0 d_X10_judge_0 rfl rfl ?_
  refine wp_virtual0 (As := []) d_X10_judge_1 lk_X10_166 mv_X10_layTube in_X10_layTube se_X10_layTube (Nat.le_of_ble_eq_true rfl) (Nat.le_of_ble_eq_true rfl) (hp_80 _ _ _ _ _) rfl (s_X10_layTube hs1 hc8 hm hn hn9 hp hp4 hln) (fun v1 h1 q1 => ?_)
  obtain ⟨rfl, v1, rfl, hf1, hst1, hl1⟩ := q1
  show WP _ _ _ _ _ 4 _ [] (HP c w m v1 E) _
  refine wp_iconst (v0 := 0) d_X10_judge_4 rfl ?_
  refine wp_istore_n [(1, .int (0)), (0, .ref (80))] d_X10_judge_5 rfl (Nat.le_of_ble_eq_true rfl) rfl ?_
  refine wp_iconst (v0 := 0) d_X10_judge_6 rfl ?_
  refine wp_istore_n [(2, .int (0)), (1, .int (0)), (0, .ref (80))] d_X10_judge_7 rfl (Nat.le_of_ble_eq_true rfl) rfl ?_
  refine wp_iload_n 0 d_X10_judge_8 rfl rfl ?_
  refine wp_aload_n 2 d_X10_judge_9 rfl rfl ?_
  refine wp_getfield (v := .int (nI (r))) d_X10_judge_10 gf_X10_264 (hp_80 _ _ _ _ _) (congrArg (fun z => some (Value.int z)) hrc) ?_
  refine wp_ncmp_ge (a := 0) (b := r) 283 d_X10_judge_13 rfl (by omega) (by omega) (fun c13 => ?_) (fun c13 => ?_)
  · refine wp_iload_n 1 d_X10_judge_283 rfl rfl ?_
    refine wp_reti d_X10_judge_284 rfl ?_
    exact ⟨by rw [if_pos (by omega)], v1, rfl, hf1⟩
  · refine wp_iload_n 1 d_X10_judge_16 rfl rfl ?_
    refine wp_if_ne 283 d_X10_judge_17 rfl (fun z => absurd z (by decide)) (fun _ => ?_)
    refine wp_iload_n 0 d_X10_judge_20 rfl rfl ?_
    refine wp_aload_n 2 d_X10_judge_21 rfl rfl ?_
    refine wp_getfield (v := .int (nI (p))) d_X10_judge_22 gf_X10_135 (hp_80 _ _ _ _ _) (congrArg (fun z => some (Value.int z)) (hl1.1.trans (congrArg nI (mTube_len _ _ _ _)))) ?_
    refine wp_iconst (v0 := 1) d_X10_judge_25 rfl ?_
    refine wp_iadd d_X10_judge_26 ?_
    refine wp_v (v0 := nI ((p) + (1))) (nI_add (p) (1)) ?_
    refine wp_ncmp_gt (a := 0) (b := (p) + (1)) 34 d_X10_judge_27 rfl (by omega) (by omega) (fun c27 => ?_) (fun c27 => ?_)
    · refine wp_iconst (v0 := 0) d_X10_judge_34 rfl ?_
      refine wp_istore_n [(3, .int (0)), (2, .int (0)), (1, .int (0)), (0, .ref (80))] d_X10_judge_35 rfl (Nat.le_of_ble_eq_true rfl) rfl ?_
      refine wp_iload_n 1 d_X10_judge_36 rfl rfl ?_
      refine wp_if_ne 96 d_X10_judge_37 rfl (fun z => absurd z (by decide)) (fun _ => ?_)
      refine wp_aload_n 3 d_X10_judge_40 rfl rfl ?_
      refine wp_getfield (v := .ref (93)) d_X10_judge_41 gf_X10_47 (hp_80 _ _ _ _ _) rfl ?_
      refine wp_iconst (v0 := 0) d_X10_judge_44 rfl ?_
      refine wp_iaload (v := (m.2.1 93) (0)) d_X10_judge_45 (hp_93 _ _ _ _ _) (kin rfl) rfl ?_
      refine wp_bipush (v0 := -9) d_X10_judge_46 (by decide) ?_
      refine wp_icmp_ne 76 d_X10_judge_48 rfl (fun c48 => ?_) (fun c48 => ?_)
      · refine wp_iconst (v0 := 0) d_X10_judge_76 rfl ?_
        refine wp_istore_n [(3, .int (0)), (2, .int (0)), (1, .int (0)), (0, .ref (80))] d_X10_judge_77 rfl (Nat.le_of_ble_eq_true rfl) rfl ?_
        refine wp_aload_n 3 d_X10_judge_78 rfl rfl ?_
        refine wp_aload_n 3 d_X10_judge_79 rfl rfl ?_
        refine wp_getfield (v := .ref (93)) d_X10_judge_80 gf_X10_47 (hp_80 _ _ _ _ _) rfl ?_
        refine wp_iconst (v0 := 1) d_X10_judge_83 rfl ?_
        refine wp_iaload (v := (m.2.1 93) (1)) d_X10_judge_84 (hp_93 _ _ _ _ _) (kin rfl) rfl ?_
        refine wp_putfield (h' := HP c w m (setS v1 8009 ((m.2.1 93) (1))) E) d_X10_judge_85 gp_X10_146 (kfit_i _) (hp_80 _ _ _ _ _) (Nat.le_of_ble_eq_true rfl) (hps_80_9 _ _ _ _ _ _) ?_
        refine wp_aload_n 3 d_X10_judge_88 rfl rfl ?_
        refine wp_iconst (v0 := 0) d_X10_judge_89 rfl ?_
        refine wp_putfield (h' := HP c w m (setS (setS v1 8009 ((m.2.1 93) (1))) 8010 (0)) E) d_X10_judge_90 gp_X10_143 (kfit_i _) (hp_80 _ _ _ _ _) (Nat.le_of_ble_eq_true rfl) (hps_80_10 _ _ _ _ _ _) ?_
        refine wp_goto 235 d_X10_judge_93 rfl ?_
        refine wp_iload_n 0 d_X10_judge_235 rfl rfl ?_
        refine wp_if_eq 263 d_X10_judge_236 rfl (fun _ => ?_) (fun z => absurd z (by decide))
        refine wp_iconst (v0 := 0) d_X10_judge_263 rfl ?_
        refine wp_istore_n [(3, .int (0)), (2, .int (0)), (1, .int (0)), (0, .ref (80))] d_X10_judge_264 rfl (Nat.le_of_ble_eq_true rfl) rfl ?_
        refine wp_iload_n 0 d_X10_judge_265 rfl rfl ?_
        refine wp_if_eq 273 d_X10_judge_266 rfl (fun _ => ?_) (fun z => absurd z (by decide))
        refine wp_iload_n 1 d_X10_judge_273 rfl rfl ?_
        refine wp_iconst (v0 := 1) d_X10_judge_274 rfl ?_
        refine wp_iadd d_X10_judge_275 ?_
        refine wp_v (v0 := 1) (by decide) ?_
        refine wp_istore_n [(1, .int (1)), (3, .int (0)), (2, .int (0)), (0, .ref (80))] d_X10_judge_276 rfl (Nat.le_of_ble_eq_true rfl) rfl ?_
        refine wp_iinc (v0 := 1) [(2, .int (1)), (1, .int (1)), (3, .int (0)), (0, .ref (80))] 2 d_X10_judge_277 rfl (by decide) (Nat.le_of_ble_eq_true rfl) rfl ?_
        have hmx : mH v1 (setS (setS v1 8009 ((m.2.1 93) (1))) 8010 (0)) := ⟨fun k9 h9 => by simp only [setS]; rw [upd_n _ _ (by omega), upd_n _ _ (by omega)], rfl⟩
        have hH : ¬ cHead (m.2.1 93) := by
          rintro ⟨q1, q2, q3⟩
          first | exact c48 q1 | exact c60 q2 | exact c69 q3
        refine wp_goto 8 d_X10_judge_280 rfl ?_
        refine wp_sub [(2, .int (1)), (1, .int (1)), (0, .ref (80))] [0, 1, 3] rfl ?_
        refine wp_mono ?_ (s_X10_judge_e (j := 1) (b := 0) hrc hr6 (by omega) (by omega))
        rintro r1 h1 ⟨rfl, rfl⟩
        refine ⟨by rw [if_neg (by omega), if_neg hH]; rfl, _, rfl, hf1.tr (hmx.fr 84 87)⟩
      · refine wp_aload_n 3 d_X10_judge_51 rfl rfl ?_
        refine wp_getfield (v := .ref (93)) d_X10_judge_52 gf_X10_47 (hp_80 _ _ _ _ _) rfl ?_
        refine wp_iconst (v0 := 1) d_X10_judge_55 rfl ?_
        refine wp_iaload (v := (m.2.1 93) (1)) d_X10_judge_56 (hp_93 _ _ _ _ _) (kin rfl) rfl ?_
        refine wp_stc_i (As := [.int ((m.2.1 93) (1))]) (x0 := kb (-9 ≤ ((m.2.1 93) (1) : Int32).toInt ∧ ((m.2.1 93) (1) : Int32).toInt ≤ 9)) (h1 := HP c w m v1 E) d_X10_judge_57 lk_X10_163 mv_X10_isHeight st_X10_isHeight (Nat.le_of_ble_eq_true rfl) (Nat.le_of_ble_eq_true rfl) (s_X10_isHeight _ ((m.2.1 93) (1) : Int32)) ?_
        refine wp_ifb_eq 76 d_X10_judge_60 rfl (fun c60 => ?_) (fun c60 => ?_)
        · refine wp_iconst (v0 := 0) d_X10_judge_76 rfl ?_
          refine wp_istore_n [(3, .int (0)), (2, .int (0)), (1, .int (0)), (0, .ref (80))] d_X10_judge_77 rfl (Nat.le_of_ble_eq_true rfl) rfl ?_
          refine wp_aload_n 3 d_X10_judge_78 rfl rfl ?_
          refine wp_aload_n 3 d_X10_judge_79 rfl rfl ?_
          refine wp_getfield (v := .ref (93)) d_X10_judge_80 gf_X10_47 (hp_80 _ _ _ _ _) rfl ?_
          refine wp_iconst (v0 := 1) d_X10_judge_83 rfl ?_
          refine wp_iaload (v := (m.2.1 93) (1)) d_X10_judge_84 (hp_93 _ _ _ _ _) (kin rfl) rfl ?_
          refine wp_putfield (h' := HP c w m (setS v1 8009 ((m.2.1 93) (1))) E) d_X10_judge_85 gp_X10_146 (kfit_i _) (hp_80 _ _ _ _ _) (Nat.le_of_ble_eq_true rfl) (hps_80_9 _ _ _ _ _ _) ?_
          refine wp_aload_n 3 d_X10_judge_88 rfl rfl ?_
          refine wp_iconst (v0 := 0) d_X10_judge_89 rfl ?_
          refine wp_putfield (h' := HP c w m (setS (setS v1 8009 ((m.2.1 93) (1))) 8010 (0)) E) d_X10_judge_90 gp_X10_143 (kfit_i _) (hp_80 _ _ _ _ _) (Nat.le_of_ble_eq_true rfl) (hps_80_10 _ _ _ _ _ _) ?_
          refine wp_goto 235 d_X10_judge_93 rfl ?_
          refine wp_iload_n 0 d_X10_judge_235 rfl rfl ?_
          refine wp_if_eq 263 d_X10_judge_236 rfl (fun _ => ?_) (fun z => absurd z (by decide))
          refine wp_iconst (v0 := 0) d_X10_judge_263 rfl ?_
          refine wp_istore_n [(3, .int (0)), (2, .int (0)), (1, .int (0)), (0, .ref (80))] d_X10_judge_264 rfl (Nat.le_of_ble_eq_true rfl) rfl ?_
          refine wp_iload_n 0 d_X10_judge_265 rfl rfl ?_
          refine wp_if_eq 273 d_X10_judge_266 rfl (fun _ => ?_) (fun z => absurd z (by decide))
          refine wp_iload_n 1 d_X10_judge_273 rfl rfl ?_
          refine wp_iconst (v0 := 1) d_X10_judge_274 rfl ?_
          refine wp_iadd d_X10_judge_275 ?_
          refine wp_v (v0 := 1) (by decide) ?_
          refine wp_istore_n [(1, .int (1)), (3, .int (0)), (2, .int (0)), (0, .ref (80))] d_X10_judge_276 rfl (Nat.le_of_ble_eq_true rfl) rfl ?_
          refine wp_iinc (v0 := 1) [(2, .int (1)), (1, .int (1)), (3, .int (0)), (0, .ref (80))] 2 d_X10_judge_277 rfl (by decide) (Nat.le_of_ble_eq_true rfl) rfl ?_
          have hmx : mH v1 (setS (setS v1 8009 ((m.2.1 93) (1))) 8010 (0)) := ⟨fun k9 h9 => by simp only [setS]; rw [upd_n _ _ (by omega), upd_n _ _ (by omega)], rfl⟩
          have hH : ¬ cHead (m.2.1 93) := by
            rintro ⟨q1, q2, q3⟩
            first | exact c48 q1 | exact c60 q2 | exact c69 q3
          refine wp_goto 8 d_X10_judge_280 rfl ?_
          refine wp_sub [(2, .int (1)), (1, .int (1)), (0, .ref (80))] [0, 1, 3] rfl ?_
          refine wp_mono ?_ (s_X10_judge_e (j := 1) (b := 0) hrc hr6 (by omega) (by omega))
          rintro r1 h1 ⟨rfl, rfl⟩
          refine ⟨by rw [if_neg (by omega), if_neg hH]; rfl, _, rfl, hf1.tr (hmx.fr 84 87)⟩
        · refine wp_aload_n 3 d_X10_judge_63 rfl rfl ?_
          refine wp_getfield (v := .ref (93)) d_X10_judge_64 gf_X10_47 (hp_80 _ _ _ _ _) rfl ?_
          refine wp_iconst (v0 := 2) d_X10_judge_67 rfl ?_
          refine wp_iaload (v := (m.2.1 93) (2)) d_X10_judge_68 (hp_93 _ _ _ _ _) (kin rfl) rfl ?_
          refine wp_if_ne 76 d_X10_judge_69 rfl (fun c69 => ?_) (fun c69 => ?_)
          · refine wp_iconst (v0 := 0) d_X10_judge_76 rfl ?_
            refine wp_istore_n [(3, .int (0)), (2, .int (0)), (1, .int (0)), (0, .ref (80))] d_X10_judge_77 rfl (Nat.le_of_ble_eq_true rfl) rfl ?_
            refine wp_aload_n 3 d_X10_judge_78 rfl rfl ?_
            refine wp_aload_n 3 d_X10_judge_79 rfl rfl ?_
            refine wp_getfield (v := .ref (93)) d_X10_judge_80 gf_X10_47 (hp_80 _ _ _ _ _) rfl ?_
            refine wp_iconst (v0 := 1) d_X10_judge_83 rfl ?_
            refine wp_iaload (v := (m.2.1 93) (1)) d_X10_judge_84 (hp_93 _ _ _ _ _) (kin rfl) rfl ?_
            refine wp_putfield (h' := HP c w m (setS v1 8009 ((m.2.1 93) (1))) E) d_X10_judge_85 gp_X10_146 (kfit_i _) (hp_80 _ _ _ _ _) (Nat.le_of_ble_eq_true rfl) (hps_80_9 _ _ _ _ _ _) ?_
            refine wp_aload_n 3 d_X10_judge_88 rfl rfl ?_
            refine wp_iconst (v0 := 0) d_X10_judge_89 rfl ?_
            refine wp_putfield (h' := HP c w m (setS (setS v1 8009 ((m.2.1 93) (1))) 8010 (0)) E) d_X10_judge_90 gp_X10_143 (kfit_i _) (hp_80 _ _ _ _ _) (Nat.le_of_ble_eq_true rfl) (hps_80_10 _ _ _ _ _ _) ?_
            refine wp_goto 235 d_X10_judge_93 rfl ?_
            refine wp_iload_n 0 d_X10_judge_235 rfl rfl ?_
            refine wp_if_eq 263 d_X10_judge_236 rfl (fun _ => ?_) (fun z => absurd z (by decide))
            refine wp_iconst (v0 := 0) d_X10_judge_263 rfl ?_
            refine wp_istore_n [(3, .int (0)), (2, .int (0)), (1, .int (0)), (0, .ref (80))] d_X10_judge_264 rfl (Nat.le_of_ble_eq_true rfl) rfl ?_
            refine wp_iload_n 0 d_X10_judge_265 rfl rfl ?_
            refine wp_if_eq 273 d_X10_judge_266 rfl (fun _ => ?_) (fun z => absurd z (by decide))
            refine wp_iload_n 1 d_X10_judge_273 rfl rfl ?_
            refine wp_iconst (v0 := 1) d_X10_judge_274 rfl ?_
            refine wp_iadd d_X10_judge_275 ?_
            refine wp_v (v0 := 1) (by decide) ?_
            refine wp_istore_n [(1, .int (1)), (3, .int (0)), (2, .int (0)), (0, .ref (80))] d_X10_judge_276 rfl (Nat.le_of_ble_eq_true rfl) rfl ?_
            refine wp_iinc (v0 := 1) [(2, .int (1)), (1, .int (1)), (3, .int (0)), (0, .ref (80))] 2 d_X10_judge_277 rfl (by decide) (Nat.le_of_ble_eq_true rfl) rfl ?_
            have hmx : mH v1 (setS (setS v1 8009 ((m.2.1 93) (1))) 8010 (0)) := ⟨fun k9 h9 => by simp only [setS]; rw [upd_n _ _ (by omega), upd_n _ _ (by omega)], rfl⟩
            have hH : ¬ cHead (m.2.1 93) := by
              rintro ⟨q1, q2, q3⟩
              first | exact c48 q1 | exact c60 q2 | exact c69 q3
            refine wp_goto 8 d_X10_judge_280 rfl ?_
            refine wp_sub [(2, .int (1)), (1, .int (1)), (0, .ref (80))] [0, 1, 3] rfl ?_
            refine wp_mono ?_ (s_X10_judge_e (j := 1) (b := 0) hrc hr6 (by omega) (by omega))
            rintro r1 h1 ⟨rfl, rfl⟩
            refine ⟨by rw [if_neg (by omega), if_neg hH]; rfl, _, rfl, hf1.tr (hmx.fr 84 87)⟩
          · refine wp_iconst (v0 := 1) d_X10_judge_72 rfl ?_
            refine wp_goto 77 d_X10_judge_73 rfl ?_
            refine wp_istore_n [(3, .int (1)), (2, .int (0)), (1, .int (0)), (0, .ref (80))] d_X10_judge_77 rfl (Nat.le_of_ble_eq_true rfl) rfl ?_
            refine wp_aload_n 3 d_X10_judge_78 rfl rfl ?_
            refine wp_aload_n 3 d_X10_judge_79 rfl rfl ?_
            refine wp_getfield (v := .ref (93)) d_X10_judge_80 gf_X10_47 (hp_80 _ _ _ _ _) rfl ?_
            refine wp_iconst (v0 := 1) d_X10_judge_83 rfl ?_
            refine wp_iaload (v := (m.2.1 93) (1)) d_X10_judge_84 (hp_93 _ _ _ _ _) (kin rfl) rfl ?_
            refine wp_putfield (h' := HP c w m (setS v1 8009 ((m.2.1 93) (1))) E) d_X10_judge_85 gp_X10_146 (kfit_i _) (hp_80 _ _ _ _ _) (Nat.le_of_ble_eq_true rfl) (hps_80_9 _ _ _ _ _ _) ?_
            refine wp_aload_n 3 d_X10_judge_88 rfl rfl ?_
            refine wp_iconst (v0 := 0) d_X10_judge_89 rfl ?_
            refine wp_putfield (h' := HP c w m (setS (setS v1 8009 ((m.2.1 93) (1))) 8010 (0)) E) d_X10_judge_90 gp_X10_143 (kfit_i _) (hp_80 _ _ _ _ _) (Nat.le_of_ble_eq_true rfl) (hps_80_10 _ _ _ _ _ _) ?_
            refine wp_goto 235 d_X10_judge_93 rfl ?_
            refine wp_iload_n 0 d_X10_judge_235 rfl rfl ?_
            refine wp_if_eq 263 d_X10_judge_236 rfl (fun z => absurd z (by decide)) (fun _ => ?_)
            refine wp_iload_n 1 d_X10_judge_239 rfl rfl ?_
            refine wp_aload_n 3 d_X10_judge_240 rfl rfl ?_
            refine wp_getfield (v := .int (nI (r))) d_X10_judge_241 gf_X10_264 (hp_80 _ _ _ _ _) (congrArg (fun z => some (Value.int z)) hrc) ?_
            refine wp_iconst (v0 := 1) d_X10_judge_244 rfl ?_
            refine wp_isub d_X10_judge_245 ?_
            refine wp_v (v0 := nI ((r) - (1))) (pk_sub (a := r) (b := 1) (by omega)) ?_
            refine wp_ncmp_lt (a := 0) (b := (r) - (1)) 259 d_X10_judge_246 rfl (by omega) (by omega) (fun c246 => ?_) (fun c246 => ?_)
            · refine wp_iconst (v0 := 1) d_X10_judge_259 rfl ?_
              refine wp_goto 264 d_X10_judge_260 rfl ?_
              refine wp_istore_n [(3, .int (1)), (2, .int (0)), (1, .int (0)), (0, .ref (80))] d_X10_judge_264 rfl (Nat.le_of_ble_eq_true rfl) rfl ?_
              refine wp_iload_n 0 d_X10_judge_265 rfl rfl ?_
              refine wp_if_eq 273 d_X10_judge_266 rfl (fun z => absurd z (by decide)) (fun _ => ?_)
              refine wp_iconst (v0 := 0) d_X10_judge_269 rfl ?_
              refine wp_goto 276 d_X10_judge_270 rfl ?_
              refine wp_istore_n [(1, .int (0)), (3, .int (1)), (2, .int (0)), (0, .ref (80))] d_X10_judge_276 rfl (Nat.le_of_ble_eq_true rfl) rfl ?_
              refine wp_iinc (v0 := 1) [(2, .int (1)), (1, .int (0)), (3, .int (1)), (0, .ref (80))] 2 d_X10_judge_277 rfl (by decide) (Nat.le_of_ble_eq_true rfl) rfl ?_
              have hmx : mH v1 (setS (setS v1 8009 ((m.2.1 93) (1))) 8010 (0)) := ⟨fun k9 h9 => by simp only [setS]; rw [upd_n _ _ (by omega), upd_n _ _ (by omega)], rfl⟩
              have hH : cHead (m.2.1 93) := ⟨c48, c60, c69⟩
              refine wp_goto 8 d_X10_judge_280 rfl ?_
              refine wp_sub [(2, .int (1)), (1, .int (0)), (0, .ref (80))] [0, 1, 3] rfl ?_
              refine wp_mono ?_ (s_X10_judge_l (n := n) (v := (setS (setS v1 8009 ((m.2.1 93) (1))) 8010 (0))) hp4 (hl1.h hmx) hrc hr6 (r - 1) 1 _ (by omega) (by omega) (by omega) (mH.rf _) rfl)
              rintro r1 h1 ⟨rfl, v2, rfl, hm2⟩
              exact ⟨by rw [if_neg (by omega), if_pos hH], v2, rfl, hf1.tr ((hmx.tr hm2).fr 84 87)⟩
            · refine wp_iload_n 1 d_X10_judge_249 rfl rfl ?_
              refine wp_aload_n 3 d_X10_judge_250 rfl rfl ?_
              refine wp_getfield (v := .int (nI (p))) d_X10_judge_251 gf_X10_135 (hp_80 _ _ _ _ _) (congrArg (fun z => some (Value.int z)) (hl1.1.trans (congrArg nI (mTube_len _ _ _ _)))) ?_
              refine wp_iconst (v0 := 1) d_X10_judge_254 rfl ?_
              refine wp_iadd d_X10_judge_255 ?_
              refine wp_v (v0 := nI ((p) + (1))) (nI_add (p) (1)) ?_
              refine wp_ncmp_ne (a := 0) (b := (p) + (1)) 263 d_X10_judge_256 rfl (by omega) (by omega) (fun c256 => ?_) (fun c256 => ?_)
              · refine wp_iconst (v0 := 0) d_X10_judge_263 rfl ?_
                refine wp_istore_n [(3, .int (0)), (2, .int (0)), (1, .int (0)), (0, .ref (80))] d_X10_judge_264 rfl (Nat.le_of_ble_eq_true rfl) rfl ?_
                refine wp_iload_n 0 d_X10_judge_265 rfl rfl ?_
                refine wp_if_eq 273 d_X10_judge_266 rfl (fun _ => ?_) (fun z => absurd z (by decide))
                refine wp_iload_n 1 d_X10_judge_273 rfl rfl ?_
                refine wp_iconst (v0 := 1) d_X10_judge_274 rfl ?_
                refine wp_iadd d_X10_judge_275 ?_
                refine wp_v (v0 := 1) (by decide) ?_
                refine wp_istore_n [(1, .int (1)), (3, .int (0)), (2, .int (0)), (0, .ref (80))] d_X10_judge_276 rfl (Nat.le_of_ble_eq_true rfl) rfl ?_
                refine wp_iinc (v0 := 1) [(2, .int (1)), (1, .int (1)), (3, .int (0)), (0, .ref (80))] 2 d_X10_judge_277 rfl (by decide) (Nat.le_of_ble_eq_true rfl) rfl ?_
                exfalso
                omega
              · refine wp_iconst (v0 := 1) d_X10_judge_259 rfl ?_
                refine wp_goto 264 d_X10_judge_260 rfl ?_
                refine wp_istore_n [(3, .int (1)), (2, .int (0)), (1, .int (0)), (0, .ref (80))] d_X10_judge_264 rfl (Nat.le_of_ble_eq_true rfl) rfl ?_
                refine wp_iload_n 0 d_X10_judge_265 rfl rfl ?_
                refine wp_if_eq 273 d_X10_judge_266 rfl (fun z => absurd z (by decide)) (fun _ => ?_)
                refine wp_iconst (v0 := 0) d_X10_judge_269 rfl ?_
                refine wp_goto 276 d_X10_judge_270 rfl ?_
                refine wp_istore_n [(1, .int (0)), (3, .int (1)), (2, .int (0)), (0, .ref (80))] d_X10_judge_276 rfl (Nat.le_of_ble_eq_true rfl) rfl ?_
                refine wp_iinc (v0 := 1) [(2, .int (1)), (1, .int (0)), (3, .int (1)), (0, .ref (80))] 2 d_X10_judge_277 rfl (by decide) (Nat.le_of_ble_eq_true rfl) rfl ?_
                have hmx : mH v1 (setS (setS v1 8009 ((m.2.1 93) (1))) 8010 (0)) := ⟨fun k9 h9 => by simp only [setS]; rw [upd_n _ _ (by omega), upd_n _ _ (by omega)], rfl⟩
                have hH : cHead (m.2.1 93) := ⟨c48, c60, c69⟩
                refine wp_goto 8 d_X10_judge_280 rfl ?_
                refine wp_sub [(2, .int (1)), (1, .int (0)), (0, .ref (80))] [0, 1, 3] rfl ?_
                refine wp_mono ?_ (s_X10_judge_l (n := n) (v := (setS (setS v1 8009 ((m.2.1 93) (1))) 8010 (0))) hp4 (hl1.h hmx) hrc hr6 (r - 1) 1 _ (by omega) (by omega) (by omega) (mH.rf _) rfl)
                rintro r1 h1 ⟨rfl, v2, rfl, hm2⟩
                exact ⟨by rw [if_neg (by omega), if_pos hH], v2, rfl, hf1.tr ((hmx.tr hm2).fr 84 87)⟩
    · refine wp_iconst (v0 := 1) d_X10_judge_30 rfl ?_
      refine wp_goto 35 d_X10_judge_31 rfl ?_
      refine wp_istore_n [(3, .int (1)), (2, .int (0)), (1, .int (0)), (0, .ref (80))] d_X10_judge_35 rfl (Nat.le_of_ble_eq_true rfl) rfl ?_
      refine wp_iload_n 1 d_X10_judge_36 rfl rfl ?_
      refine wp_if_ne 96 d_X10_judge_37 rfl (fun z => absurd z (by decide)) (fun _ => ?_)
      refine wp_aload_n 3 d_X10_judge_40 rfl rfl ?_
      refine wp_getfield (v := .ref (93)) d_X10_judge_41 gf_X10_47 (hp_80 _ _ _ _ _) rfl ?_
      refine wp_iconst (v0 := 0) d_X10_judge_44 rfl ?_
      refine wp_iaload (v := (m.2.1 93) (0)) d_X10_judge_45 (hp_93 _ _ _ _ _) (kin rfl) rfl ?_
      refine wp_bipush (v0 := -9) d_X10_judge_46 (by decide) ?_
      refine wp_icmp_ne 76 d_X10_judge_48 rfl (fun c48 => ?_) (fun c48 => ?_)
      · refine wp_iconst (v0 := 0) d_X10_judge_76 rfl ?_
        refine wp_istore_n [(3, .int (0)), (2, .int (0)), (1, .int (0)), (0, .ref (80))] d_X10_judge_77 rfl (Nat.le_of_ble_eq_true rfl) rfl ?_
        refine wp_aload_n 3 d_X10_judge_78 rfl rfl ?_
        refine wp_aload_n 3 d_X10_judge_79 rfl rfl ?_
        refine wp_getfield (v := .ref (93)) d_X10_judge_80 gf_X10_47 (hp_80 _ _ _ _ _) rfl ?_
        refine wp_iconst (v0 := 1) d_X10_judge_83 rfl ?_
        refine wp_iaload (v := (m.2.1 93) (1)) d_X10_judge_84 (hp_93 _ _ _ _ _) (kin rfl) rfl ?_
        refine wp_putfield (h' := HP c w m (setS v1 8009 ((m.2.1 93) (1))) E) d_X10_judge_85 gp_X10_146 (kfit_i _) (hp_80 _ _ _ _ _) (Nat.le_of_ble_eq_true rfl) (hps_80_9 _ _ _ _ _ _) ?_
        refine wp_aload_n 3 d_X10_judge_88 rfl rfl ?_
        refine wp_iconst (v0 := 0) d_X10_judge_89 rfl ?_
        refine wp_putfield (h' := HP c w m (setS (setS v1 8009 ((m.2.1 93) (1))) 8010 (0)) E) d_X10_judge_90 gp_X10_143 (kfit_i _) (hp_80 _ _ _ _ _) (Nat.le_of_ble_eq_true rfl) (hps_80_10 _ _ _ _ _ _) ?_
        refine wp_goto 235 d_X10_judge_93 rfl ?_
        refine wp_iload_n 0 d_X10_judge_235 rfl rfl ?_
        refine wp_if_eq 263 d_X10_judge_236 rfl (fun _ => ?_) (fun z => absurd z (by decide))
        refine wp_iconst (v0 := 0) d_X10_judge_263 rfl ?_
        refine wp_istore_n [(3, .int (0)), (2, .int (0)), (1, .int (0)), (0, .ref (80))] d_X10_judge_264 rfl (Nat.le_of_ble_eq_true rfl) rfl ?_
        refine wp_iload_n 0 d_X10_judge_265 rfl rfl ?_
        refine wp_if_eq 273 d_X10_judge_266 rfl (fun _ => ?_) (fun z => absurd z (by decide))
        refine wp_iload_n 1 d_X10_judge_273 rfl rfl ?_
        refine wp_iconst (v0 := 1) d_X10_judge_274 rfl ?_
        refine wp_iadd d_X10_judge_275 ?_
        refine wp_v (v0 := 1) (by decide) ?_
        refine wp_istore_n [(1, .int (1)), (3, .int (0)), (2, .int (0)), (0, .ref (80))] d_X10_judge_276 rfl (Nat.le_of_ble_eq_true rfl) rfl ?_
        refine wp_iinc (v0 := 1) [(2, .int (1)), (1, .int (1)), (3, .int (0)), (0, .ref (80))] 2 d_X10_judge_277 rfl (by decide) (Nat.le_of_ble_eq_true rfl) rfl ?_
        have hmx : mH v1 (setS (setS v1 8009 ((m.2.1 93) (1))) 8010 (0)) := ⟨fun k9 h9 => by simp only [setS]; rw [upd_n _ _ (by omega), upd_n _ _ (by omega)], rfl⟩
        have hH : ¬ cHead (m.2.1 93) := by
          rintro ⟨q1, q2, q3⟩
          first | exact c48 q1 | exact c60 q2 | exact c69 q3
        refine wp_goto 8 d_X10_judge_280 rfl ?_
        refine wp_sub [(2, .int (1)), (1, .int (1)), (0, .ref (80))] [0, 1, 3] rfl ?_
        refine wp_mono ?_ (s_X10_judge_e (j := 1) (b := 0) hrc hr6 (by omega) (by omega))
        rintro r1 h1 ⟨rfl, rfl⟩
        refine ⟨by rw [if_neg (by omega), if_neg hH]; rfl, _, rfl, hf1.tr (hmx.fr 84 87)⟩
      · refine wp_aload_n 3 d_X10_judge_51 rfl rfl ?_
        refine wp_getfield (v := .ref (93)) d_X10_judge_52 gf_X10_47 (hp_80 _ _ _ _ _) rfl ?_
        refine wp_iconst (v0 := 1) d_X10_judge_55 rfl ?_
        refine wp_iaload (v := (m.2.1 93) (1)) d_X10_judge_56 (hp_93 _ _ _ _ _) (kin rfl) rfl ?_
        refine wp_stc_i (As := [.int ((m.2.1 93) (1))]) (x0 := kb (-9 ≤ ((m.2.1 93) (1) : Int32).toInt ∧ ((m.2.1 93) (1) : Int32).toInt ≤ 9)) (h1 := HP c w m v1 E) d_X10_judge_57 lk_X10_163 mv_X10_isHeight st_X10_isHeight (Nat.le_of_ble_eq_true rfl) (Nat.le_of_ble_eq_true rfl) (s_X10_isHeight _ ((m.2.1 93) (1) : Int32)) ?_
        refine wp_ifb_eq 76 d_X10_judge_60 rfl (fun c60 => ?_) (fun c60 => ?_)
        · refine wp_iconst (v0 := 0) d_X10_judge_76 rfl ?_
          refine wp_istore_n [(3, .int (0)), (2, .int (0)), (1, .int (0)), (0, .ref (80))] d_X10_judge_77 rfl (Nat.le_of_ble_eq_true rfl) rfl ?_
          refine wp_aload_n 3 d_X10_judge_78 rfl rfl ?_
          refine wp_aload_n 3 d_X10_judge_79 rfl rfl ?_
          refine wp_getfield (v := .ref (93)) d_X10_judge_80 gf_X10_47 (hp_80 _ _ _ _ _) rfl ?_
          refine wp_iconst (v0 := 1) d_X10_judge_83 rfl ?_
          refine wp_iaload (v := (m.2.1 93) (1)) d_X10_judge_84 (hp_93 _ _ _ _ _) (kin rfl) rfl ?_
          refine wp_putfield (h' := HP c w m (setS v1 8009 ((m.2.1 93) (1))) E) d_X10_judge_85 gp_X10_146 (kfit_i _) (hp_80 _ _ _ _ _) (Nat.le_of_ble_eq_true rfl) (hps_80_9 _ _ _ _ _ _) ?_
          refine wp_aload_n 3 d_X10_judge_88 rfl rfl ?_
          refine wp_iconst (v0 := 0) d_X10_judge_89 rfl ?_
          refine wp_putfield (h' := HP c w m (setS (setS v1 8009 ((m.2.1 93) (1))) 8010 (0)) E) d_X10_judge_90 gp_X10_143 (kfit_i _) (hp_80 _ _ _ _ _) (Nat.le_of_ble_eq_true rfl) (hps_80_10 _ _ _ _ _ _) ?_
          refine wp_goto 235 d_X10_judge_93 rfl ?_
          refine wp_iload_n 0 d_X10_judge_235 rfl rfl ?_
          refine wp_if_eq 263 d_X10_judge_236 rfl (fun _ => ?_) (fun z => absurd z (by decide))
          refine wp_iconst (v0 := 0) d_X10_judge_263 rfl ?_
          refine wp_istore_n [(3, .int (0)), (2, .int (0)), (1, .int (0)), (0, .ref (80))] d_X10_judge_264 rfl (Nat.le_of_ble_eq_true rfl) rfl ?_
          refine wp_iload_n 0 d_X10_judge_265 rfl rfl ?_
          refine wp_if_eq 273 d_X10_judge_266 rfl (fun _ => ?_) (fun z => absurd z (by decide))
          refine wp_iload_n 1 d_X10_judge_273 rfl rfl ?_
          refine wp_iconst (v0 := 1) d_X10_judge_274 rfl ?_
          refine wp_iadd d_X10_judge_275 ?_
          refine wp_v (v0 := 1) (by decide) ?_
          refine wp_istore_n [(1, .int (1)), (3, .int (0)), (2, .int (0)), (0, .ref (80))] d_X10_judge_276 rfl (Nat.le_of_ble_eq_true rfl) rfl ?_
          refine wp_iinc (v0 := 1) [(2, .int (1)), (1, .int (1)), (3, .int (0)), (0, .ref (80))] 2 d_X10_judge_277 rfl (by decide) (Nat.le_of_ble_eq_true rfl) rfl ?_
          have hmx : mH v1 (setS (setS v1 8009 ((m.2.1 93) (1))) 8010 (0)) := ⟨fun k9 h9 => by simp only [setS]; rw [upd_n _ _ (by omega), upd_n _ _ (by omega)], rfl⟩
          have hH : ¬ cHead (m.2.1 93) := by
            rintro ⟨q1, q2, q3⟩
            first | exact c48 q1 | exact c60 q2 | exact c69 q3
          refine wp_goto 8 d_X10_judge_280 rfl ?_
          refine wp_sub [(2, .int (1)), (1, .int (1)), (0, .ref (80))] [0, 1, 3] rfl ?_
          refine wp_mono ?_ (s_X10_judge_e (j := 1) (b := 0) hrc hr6 (by omega) (by omega))
          rintro r1 h1 ⟨rfl, rfl⟩
          refine ⟨by rw [if_neg (by omega), if_neg hH]; rfl, _, rfl, hf1.tr (hmx.fr 84 87)⟩
        · refine wp_aload_n 3 d_X10_judge_63 rfl rfl ?_
          refine wp_getfield (v := .ref (93)) d_X10_judge_64 gf_X10_47 (hp_80 _ _ _ _ _) rfl ?_
          refine wp_iconst (v0 := 2) d_X10_judge_67 rfl ?_
          refine wp_iaload (v := (m.2.1 93) (2)) d_X10_judge_68 (hp_93 _ _ _ _ _) (kin rfl) rfl ?_
          refine wp_if_ne 76 d_X10_judge_69 rfl (fun c69 => ?_) (fun c69 => ?_)
          · refine wp_iconst (v0 := 0) d_X10_judge_76 rfl ?_
            refine wp_istore_n [(3, .int (0)), (2, .int (0)), (1, .int (0)), (0, .ref (80))] d_X10_judge_77 rfl (Nat.le_of_ble_eq_true rfl) rfl ?_
            refine wp_aload_n 3 d_X10_judge_78 rfl rfl ?_
            refine wp_aload_n 3 d_X10_judge_79 rfl rfl ?_
            refine wp_getfield (v := .ref (93)) d_X10_judge_80 gf_X10_47 (hp_80 _ _ _ _ _) rfl ?_
            refine wp_iconst (v0 := 1) d_X10_judge_83 rfl ?_
            refine wp_iaload (v := (m.2.1 93) (1)) d_X10_judge_84 (hp_93 _ _ _ _ _) (kin rfl) rfl ?_
            refine wp_putfield (h' := HP c w m (setS v1 8009 ((m.2.1 93) (1))) E) d_X10_judge_85 gp_X10_146 (kfit_i _) (hp_80 _ _ _ _ _) (Nat.le_of_ble_eq_true rfl) (hps_80_9 _ _ _ _ _ _) ?_
            refine wp_aload_n 3 d_X10_judge_88 rfl rfl ?_
            refine wp_iconst (v0 := 0) d_X10_judge_89 rfl ?_
            refine wp_putfield (h' := HP c w m (setS (setS v1 8009 ((m.2.1 93) (1))) 8010 (0)) E) d_X10_judge_90 gp_X10_143 (kfit_i _) (hp_80 _ _ _ _ _) (Nat.le_of_ble_eq_true rfl) (hps_80_10 _ _ _ _ _ _) ?_
            refine wp_goto 235 d_X10_judge_93 rfl ?_
            refine wp_iload_n 0 d_X10_judge_235 rfl rfl ?_
            refine wp_if_eq 263 d_X10_judge_236 rfl (fun _ => ?_) (fun z => absurd z (by decide))
            refine wp_iconst (v0 := 0) d_X10_judge_263 rfl ?_
            refine wp_istore_n [(3, .int (0)), (2, .int (0)), (1, .int (0)), (0, .ref (80))] d_X10_judge_264 rfl (Nat.le_of_ble_eq_true rfl) rfl ?_
            refine wp_iload_n 0 d_X10_judge_265 rfl rfl ?_
            refine wp_if_eq 273 d_X10_judge_266 rfl (fun _ => ?_) (fun z => absurd z (by decide))
            refine wp_iload_n 1 d_X10_judge_273 rfl rfl ?_
            refine wp_iconst (v0 := 1) d_X10_judge_274 rfl ?_
            refine wp_iadd d_X10_judge_275 ?_
            refine wp_v (v0 := 1) (by decide) ?_
            refine wp_istore_n [(1, .int (1)), (3, .int (0)), (2, .int (0)), (0, .ref (80))] d_X10_judge_276 rfl (Nat.le_of_ble_eq_true rfl) rfl ?_
            refine wp_iinc (v0 := 1) [(2, .int (1)), (1, .int (1)), (3, .int (0)), (0, .ref (80))] 2 d_X10_judge_277 rfl (by decide) (Nat.le_of_ble_eq_true rfl) rfl ?_
            have hmx : mH v1 (setS (setS v1 8009 ((m.2.1 93) (1))) 8010 (0)) := ⟨fun k9 h9 => by simp only [setS]; rw [upd_n _ _ (by omega), upd_n _ _ (by omega)], rfl⟩
            have hH : ¬ cHead (m.2.1 93) := by
              rintro ⟨q1, q2, q3⟩
              first | exact c48 q1 | exact c60 q2 | exact c69 q3
            refine wp_goto 8 d_X10_judge_280 rfl ?_
            refine wp_sub [(2, .int (1)), (1, .int (1)), (0, .ref (80))] [0, 1, 3] rfl ?_
            refine wp_mono ?_ (s_X10_judge_e (j := 1) (b := 0) hrc hr6 (by omega) (by omega))
            rintro r1 h1 ⟨rfl, rfl⟩
            refine ⟨by rw [if_neg (by omega), if_neg hH]; rfl, _, rfl, hf1.tr (hmx.fr 84 87)⟩
          · refine wp_iconst (v0 := 1) d_X10_judge_72 rfl ?_
            refine wp_goto 77 d_X10_judge_73 rfl ?_
            refine wp_istore_n [(3, .int (1)), (2, .int (0)), (1, .int (0)), (0, .ref (80))] d_X10_judge_77 rfl (Nat.le_of_ble_eq_true rfl) rfl ?_
            refine wp_aload_n 3 d_X10_judge_78 rfl rfl ?_
            refine wp_aload_n 3 d_X10_judge_79 rfl rfl ?_
            refine wp_getfield (v := .ref (93)) d_X10_judge_80 gf_X10_47 (hp_80 _ _ _ _ _) rfl ?_
            refine wp_iconst (v0 := 1) d_X10_judge_83 rfl ?_
            refine wp_iaload (v := (m.2.1 93) (1)) d_X10_judge_84 (hp_93 _ _ _ _ _) (kin rfl) rfl ?_
            refine wp_putfield (h' := HP c w m (setS v1 8009 ((m.2.1 93) (1))) E) d_X10_judge_85 gp_X10_146 (kfit_i _) (hp_80 _ _ _ _ _) (Nat.le_of_ble_eq_true rfl) (hps_80_9 _ _ _ _ _ _) ?_
            refine wp_aload_n 3 d_X10_judge_88 rfl rfl ?_
            refine wp_iconst (v0 := 0) d_X10_judge_89 rfl ?_
            refine wp_putfield (h' := HP c w m (setS (setS v1 8009 ((m.2.1 93) (1))) 8010 (0)) E) d_X10_judge_90 gp_X10_143 (kfit_i _) (hp_80 _ _ _ _ _) (Nat.le_of_ble_eq_true rfl) (hps_80_10 _ _ _ _ _ _) ?_
            refine wp_goto 235 d_X10_judge_93 rfl ?_
            refine wp_iload_n 0 d_X10_judge_235 rfl rfl ?_
            refine wp_if_eq 263 d_X10_judge_236 rfl (fun z => absurd z (by decide)) (fun _ => ?_)
            refine wp_iload_n 1 d_X10_judge_239 rfl rfl ?_
            refine wp_aload_n 3 d_X10_judge_240 rfl rfl ?_
            refine wp_getfield (v := .int (nI (r))) d_X10_judge_241 gf_X10_264 (hp_80 _ _ _ _ _) (congrArg (fun z => some (Value.int z)) hrc) ?_
            refine wp_iconst (v0 := 1) d_X10_judge_244 rfl ?_
            refine wp_isub d_X10_judge_245 ?_
            refine wp_v (v0 := nI ((r) - (1))) (pk_sub (a := r) (b := 1) (by omega)) ?_
            refine wp_ncmp_lt (a := 0) (b := (r) - (1)) 259 d_X10_judge_246 rfl (by omega) (by omega) (fun c246 => ?_) (fun c246 => ?_)
            · refine wp_iconst (v0 := 1) d_X10_judge_259 rfl ?_
              refine wp_goto 264 d_X10_judge_260 rfl ?_
              refine wp_istore_n [(3, .int (1)), (2, .int (0)), (1, .int (0)), (0, .ref (80))] d_X10_judge_264 rfl (Nat.le_of_ble_eq_true rfl) rfl ?_
              refine wp_iload_n 0 d_X10_judge_265 rfl rfl ?_
              refine wp_if_eq 273 d_X10_judge_266 rfl (fun z => absurd z (by decide)) (fun _ => ?_)
              refine wp_iconst (v0 := 0) d_X10_judge_269 rfl ?_
              refine wp_goto 276 d_X10_judge_270 rfl ?_
              refine wp_istore_n [(1, .int (0)), (3, .int (1)), (2, .int (0)), (0, .ref (80))] d_X10_judge_276 rfl (Nat.le_of_ble_eq_true rfl) rfl ?_
              refine wp_iinc (v0 := 1) [(2, .int (1)), (1, .int (0)), (3, .int (1)), (0, .ref (80))] 2 d_X10_judge_277 rfl (by decide) (Nat.le_of_ble_eq_true rfl) rfl ?_
              have hmx : mH v1 (setS (setS v1 8009 ((m.2.1 93) (1))) 8010 (0)) := ⟨fun k9 h9 => by simp only [setS]; rw [upd_n _ _ (by omega), upd_n _ _ (by omega)], rfl⟩
              have hH : cHead (m.2.1 93) := ⟨c48, c60, c69⟩
              refine wp_goto 8 d_X10_judge_280 rfl ?_
              refine wp_sub [(2, .int (1)), (1, .int (0)), (0, .ref (80))] [0, 1, 3] rfl ?_
              refine wp_mono ?_ (s_X10_judge_l (n := n) (v := (setS (setS v1 8009 ((m.2.1 93) (1))) 8010 (0))) hp4 (hl1.h hmx) hrc hr6 (r - 1) 1 _ (by omega) (by omega) (by omega) (mH.rf _) rfl)
              rintro r1 h1 ⟨rfl, v2, rfl, hm2⟩
              exact ⟨by rw [if_neg (by omega), if_pos hH], v2, rfl, hf1.tr ((hmx.tr hm2).fr 84 87)⟩
            · refine wp_iload_n 1 d_X10_judge_249 rfl rfl ?_
              refine wp_aload_n 3 d_X10_judge_250 rfl rfl ?_
              refine wp_getfield (v := .int (nI (p))) d_X10_judge_251 gf_X10_135 (hp_80 _ _ _ _ _) (congrArg (fun z => some (Value.int z)) (hl1.1.trans (congrArg nI (mTube_len _ _ _ _)))) ?_
              refine wp_iconst (v0 := 1) d_X10_judge_254 rfl ?_
              refine wp_iadd d_X10_judge_255 ?_
              refine wp_v (v0 := nI ((p) + (1))) (nI_add (p) (1)) ?_
              refine wp_ncmp_ne (a := 0) (b := (p) + (1)) 263 d_X10_judge_256 rfl (by omega) (by omega) (fun c256 => ?_) (fun c256 => ?_)
              · refine wp_iconst (v0 := 0) d_X10_judge_263 rfl ?_
                refine wp_istore_n [(3, .int (0)), (2, .int (0)), (1, .int (0)), (0, .ref (80))] d_X10_judge_264 rfl (Nat.le_of_ble_eq_true rfl) rfl ?_
                refine wp_iload_n 0 d_X10_judge_265 rfl rfl ?_
                refine wp_if_eq 273 d_X10_judge_266 rfl (fun _ => ?_) (fun z => absurd z (by decide))
                refine wp_iload_n 1 d_X10_judge_273 rfl rfl ?_
                refine wp_iconst (v0 := 1) d_X10_judge_274 rfl ?_
                refine wp_iadd d_X10_judge_275 ?_
                refine wp_v (v0 := 1) (by decide) ?_
                refine wp_istore_n [(1, .int (1)), (3, .int (0)), (2, .int (0)), (0, .ref (80))] d_X10_judge_276 rfl (Nat.le_of_ble_eq_true rfl) rfl ?_
                refine wp_iinc (v0 := 1) [(2, .int (1)), (1, .int (1)), (3, .int (0)), (0, .ref (80))] 2 d_X10_judge_277 rfl (by decide) (Nat.le_of_ble_eq_true rfl) rfl ?_
                exfalso
                omega
              · refine wp_iconst (v0 := 1) d_X10_judge_259 rfl ?_
                refine wp_goto 264 d_X10_judge_260 rfl ?_
                refine wp_istore_n [(3, .int (1)), (2, .int (0)), (1, .int (0)), (0, .ref (80))] d_X10_judge_264 rfl (Nat.le_of_ble_eq_true rfl) rfl ?_
                refine wp_iload_n 0 d_X10_judge_265 rfl rfl ?_
                refine wp_if_eq 273 d_X10_judge_266 rfl (fun z => absurd z (by decide)) (fun _ => ?_)
                refine wp_iconst (v0 := 0) d_X10_judge_269 rfl ?_
                refine wp_goto 276 d_X10_judge_270 rfl ?_
                refine wp_istore_n [(1, .int (0)), (3, .int (1)), (2, .int (0)), (0, .ref (80))] d_X10_judge_276 rfl (Nat.le_of_ble_eq_true rfl) rfl ?_
                refine wp_iinc (v0 := 1) [(2, .int (1)), (1, .int (0)), (3, .int (1)), (0, .ref (80))] 2 d_X10_judge_277 rfl (by decide) (Nat.le_of_ble_eq_true rfl) rfl ?_
                have hmx : mH v1 (setS (setS v1 8009 ((m.2.1 93) (1))) 8010 (0)) := ⟨fun k9 h9 => by simp only [setS]; rw [upd_n _ _ (by omega), upd_n _ _ (by omega)], rfl⟩
                have hH : cHead (m.2.1 93) := ⟨c48, c60, c69⟩
                refine wp_goto 8 d_X10_judge_280 rfl ?_
                refine wp_sub [(2, .int (1)), (1, .int (0)), (0, .ref (80))] [0, 1, 3] rfl ?_
                refine wp_mono ?_ (s_X10_judge_l (n := n) (v := (setS (setS v1 8009 ((m.2.1 93) (1))) 8010 (0))) hp4 (hl1.h hmx) hrc hr6 (r - 1) 1 _ (by omega) (by omega) (by omega) (mH.rf _) rfl)
                rintro r1 h1 ⟨rfl, v2, rfl, hm2⟩
                exact ⟨by rw [if_neg (by omega), if_pos hH], v2, rfl, hf1.tr ((hmx.tr hm2).fr 84 87)⟩
