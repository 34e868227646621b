/-! ===== aging: the reference ===== -/
theorem kdg_i (T p : Nat) (hT : T < 256) (hp : p < 4) : nI T >>> (nI (2 * p) &&& 31) &&& 3 = nI (kdg T p) := (by decide +kernel : ∀ t : Fin 256, ∀ q : Fin 4, nI t >>> (nI (2 * q.1) &&& 31) &&& 3 = nI (kdg t q)) ⟨T, hT⟩ ⟨p, hp⟩
theorem k4P_i (p : Nat) (hp : p ≤ 4) : (1 : Int32) <<< (nI (2 * p) &&& 31) = nI (4 ^ p) := (by decide : ∀ q : Fin 5, (1 : Int32) <<< (nI (2 * q.1) &&& 31) = nI (4 ^ q.1)) ⟨p, by omega⟩
def mPl (st tl : Nat → Int32) (ln : Nat → Nat) (T i : Nat) (v : kZ) : Prop := ∀ j, j < i → (v.2.1 86 j, v.2.1 87 j) = kent2 st tl (ln j, kdg T j)
abbrev mYM (s : Nat → Int32) (en : Nat → Nat) (cnt P : Nat) (ln : Nat → Nat) (y T : Nat) : Prop := mW2 (upd s 6 (kEY (s 6) y)) en cnt (ktt ln T P) ≤ s 7
def mLs (M : Nat → Nat → Prop) [∀ y T, Decidable (M y T)] (P k : Nat) (L : Nat → Int32) : Prop := ∀ y T, k ≤ y → y ≤ 21 → T < 4 ^ P → L (256 * y + T) = kyr M P (21 - y) T
theorem s_X10_quarter {X : kX} {d : Nat} {c w m v : kZ} {E : kH} {T p : Nat} (hT : T < 256) (hp : p < 4) : WP X d 0 0 Y_X10_quarter 0 [(0, .int (nI (T))), (1, .int (nI (p)))] [] (HP c w m v E) (kR (some (.int (nI (kqm T p)))) (HP c w m v E)) := by
  refine wp_iload_n 0 d_X10_quarter_0 rfl rfl ?_
  refine wp_iconst (v0 := 2) d_X10_quarter_1 rfl ?_
  refine wp_iload_n 1 d_X10_quarter_2 rfl rfl ?_
  refine wp_imul d_X10_quarter_3 ?_
  refine wp_v (v0 := nI ((2) * (p))) (pk_mul (2) (p)) ?_
  refine wp_ishr d_X10_quarter_4 ?_
  refine wp_iconst (v0 := 3) d_X10_quarter_5 rfl ?_
  refine wp_iand d_X10_quarter_6 ?_
  refine wp_istore_n [(2, .int (((nI (T)) >>> ((nI ((2) * (p))) &&& 31)) &&& (3))), (0, .int (nI (T))), (1, .int (nI (p)))] d_X10_quarter_7 rfl (Nat.le_of_ble_eq_true rfl) rfl ?_
  refine wp_iload_n 1 d_X10_quarter_8 rfl rfl ?_
  refine wp_iconst (v0 := 3) d_X10_quarter_9 rfl ?_
  refine wp_iconst (v0 := 2) d_X10_quarter_10 rfl ?_
  refine wp_iload_n 2 d_X10_quarter_11 rfl rfl ?_
  refine wp_imul d_X10_quarter_12 ?_
  refine wp_v (v0 := nI ((2) * (p))) (pk_mul (2) (p)) ?_
  refine wp_ishl d_X10_quarter_13 ?_
  refine wp_iconst (v0 := -1) d_X10_quarter_14 rfl ?_
  refine wp_ixor d_X10_quarter_15 ?_
  refine wp_iand d_X10_quarter_16 ?_
  refine wp_iload_n 0 d_X10_quarter_17 rfl rfl ?_
  refine wp_iconst (v0 := 1) d_X10_quarter_18 rfl ?_
  refine wp_iadd d_X10_quarter_19 ?_
  refine wp_iconst (v0 := 3) d_X10_quarter_20 rfl ?_
  refine wp_iand d_X10_quarter_21 ?_
  refine wp_iconst (v0 := 2) d_X10_quarter_22 rfl ?_
  refine wp_iload_n 2 d_X10_quarter_23 rfl rfl ?_
  refine wp_imul d_X10_quarter_24 ?_
  refine wp_v (v0 := nI ((2) * (p))) (pk_mul (2) (p)) ?_
  refine wp_ishl d_X10_quarter_25 ?_
  refine wp_ior d_X10_quarter_26 ?_
  refine wp_reti d_X10_quarter_27 rfl ?_
  exact kR_i (kqm_m T p hT hp) rfl
theorem s_X10_lastingFrom_l {X : kX} {d : Nat} {c w m v : kZ} {E : kH} {p : Nat} (hp : m.2.1 81 2 = nI p) (hp4 : p ≤ 4) {ln : Nat → Nat} {n : Nat} (hn9 : n ≤ 9) (hlq : ∀ j, j < p → m.2.1 81 (45 + 2 * j) = nI (ln j) ∧ ln j < n) {cnt : Nat} {en : Nat → Nat} (hS : mSt (m.2.1 81) en cnt n v) {y T : Nat} (hT : T < 256) {Q : Option Value → kH → Prop} (K : ∀ v2 : kZ, mFr 86 87 v v2 → v2.1 8008 = nI p → mPl (fun l => mstr (m.2.1 81) en cnt l) (mtl (m.2.1 81)) ln T p v2 → WP X (d + 4) 0 0 Y_X10_lastingFrom 41 [(3, .int (nI p)), (0, .ref 80), (1, .int (nI y)), (2, .int (nI T))] [] (HP c w m v2 E) Q) : ∀ (k : Nat) (i : Nat) (v' : kZ), (i + k = p) → (mFr 86 87 v v') → (v'.1 8008 = nI p) → (mPl (fun l => mstr (m.2.1 81) en cnt l) (mtl (m.2.1 81)) ln T i v') → WP X (d + 4) 0 0 Y_X10_lastingFrom 2 [(3, .int (nI (i))), (0, .ref (80)), (1, .int (nI (y))), (2, .int (nI (T)))] [] (HP c w m v' E) Q := by
  intro k
  induction k using Nat.strongRecOn with
  | ind k ih =>
    intro i v' hi hf h8 hl
    refine wp_iload_n 0 d_X10_lastingFrom_2 rfl rfl ?_
    refine wp_aload_n 1 d_X10_lastingFrom_3 rfl rfl ?_
    refine wp_getfield (v := .ref (81)) d_X10_lastingFrom_4 gf_X10_7 (hp_80 _ _ _ _ _) rfl ?_
    refine wp_iconst (v0 := 2) d_X10_lastingFrom_7 rfl ?_
    refine wp_iaload (v := nI (p)) d_X10_lastingFrom_8 (hp_81 _ _ _ _ _) (kin rfl) hp ?_
    refine wp_ncmp_ge (a := i) (b := p) 41 d_X10_lastingFrom_9 rfl (by omega) (by omega) (fun zc9 => ?_) (fun zc9 => ?_)
    · obtain rfl : k = 0 := by omega
      obtain rfl : i = p := by omega
      refine wp_sub [(3, .int (nI (i))), (0, .ref (80)), (1, .int (nI (y))), (2, .int (nI (T)))] [0, 1, 2, 3] rfl ?_
      exact K v' hf h8 hl
    · have hl9 := (hlq i (by omega)).2
      refine wp_aload_n 1 d_X10_lastingFrom_12 rfl rfl ?_
      refine wp_iload_n 0 d_X10_lastingFrom_13 rfl rfl ?_
      refine wp_aload_n 1 d_X10_lastingFrom_14 rfl rfl ?_
      refine wp_getfield (v := .ref (81)) d_X10_lastingFrom_15 gf_X10_7 (hp_80 _ _ _ _ _) rfl ?_
      refine wp_bipush (v0 := 45) d_X10_lastingFrom_18 (by decide) ?_
      refine wp_iconst (v0 := 2) d_X10_lastingFrom_20 rfl ?_
      refine wp_iload_n 0 d_X10_lastingFrom_21 rfl rfl ?_
      refine wp_imul d_X10_lastingFrom_22 ?_
      refine wp_v (v0 := nI ((2) * (i))) (pk_mul (2) (i)) ?_
      refine wp_iadd d_X10_lastingFrom_23 ?_
      refine wp_v (v0 := nI ((45) + ((2) * (i)))) (nI_add (45) ((2) * (i))) ?_
      refine wp_iaload (v := nI (ln i)) d_X10_lastingFrom_24 (hp_81 _ _ _ _ _) (vp_in_nI (by omega) (by omega)) ((congrArg ((m.2.1 81)) (nI_clamp (by omega))).trans (hlq i (by omega)).1) ?_
      refine wp_iload_n 3 d_X10_lastingFrom_25 rfl rfl ?_
      refine wp_iconst (v0 := 2) d_X10_lastingFrom_26 rfl ?_
      refine wp_iload_n 0 d_X10_lastingFrom_27 rfl rfl ?_
      refine wp_imul d_X10_lastingFrom_28 ?_
      refine wp_v (v0 := nI ((2) * (i))) (pk_mul (2) (i)) ?_
      refine wp_ishr d_X10_lastingFrom_29 ?_
      refine wp_iconst (v0 := 3) d_X10_lastingFrom_30 rfl ?_
      refine wp_iand d_X10_lastingFrom_31 ?_
      refine wp_v (v0 := nI (kdg T i)) (kdg_i T i hT (by omega)) ?_
      refine wp_vrt_v (As := [.int (nI (i)), .int (nI (ln i)), .int (nI (kdg T i))]) (h1 := HP c w m (setA (setA v' 86 (upd (v'.2.1 86) (i) ((v'.2.1 85) (ln i)))) 87 (upd (v'.2.1 87) (i) (kpush (mtl (m.2.1 81) (ln i)) (nI (kdg T i))))) E) d_X10_lastingFrom_32 lk_X10_139 mv_X10_thinks in_X10_thinks se_X10_thinks (Nat.le_of_ble_eq_true rfl) (Nat.le_of_ble_eq_true rfl) (hp_80 _ _ _ _ _) rfl (s_X10_thinks (p := i) (l := ln i) (by omega) (by omega) (nI (kdg T i))) ?_
      refine wp_iinc (v0 := nI ((i) + 1)) [(3, .int (nI ((i) + 1))), (0, .ref (80)), (1, .int (nI (y))), (2, .int (nI (T)))] 0 d_X10_lastingFrom_35 rfl (nI_add (i) 1) (Nat.le_of_ble_eq_true rfl) rfl ?_
      refine wp_goto 2 d_X10_lastingFrom_38 rfl ?_
      obtain ⟨k1, rfl⟩ : ∃ k1, k = k1 + 1 := ⟨k - 1, by omega⟩
      refine wp_sub [(3, .int (nI ((i) + 1))), (0, .ref (80)), (1, .int (nI (y))), (2, .int (nI (T)))] [0, 1, 2, 3] rfl ?_
      refine ih k1 (by omega) (i + 1) _ (by omega) (hf.tr ⟨fun _ _ => rfl, fun k9 h9 => by simp only [setA]; rw [updA_n _ _ (by omega), updA_n _ _ (by omega)], rfl⟩) h8 (fun j hj => ?_)
      show (upd (v'.2.1 86) i _ j, upd (v'.2.1 87) i _ j) = _
      by_cases e : j = i
      · subst e
        rw [upd_s, upd_s, hf.2.1 85 (by decide), hS _ (hlq j (by omega)).2]
        rfl
      · rw [upd_n _ _ e, upd_n _ _ e]; exact hl j (by omega)
theorem s_X10_lastingFrom_m {X : kX} {d : Nat} {c w m v : kZ} {E : kH} {p : Nat} (hp : m.2.1 81 2 = nI p) (hp4 : p ≤ 4) {y T : Nat} (hy : y ≤ 20) (hT : T < 4 ^ p) {v2 : kZ} : ∀ (k : Nat) (i : Nat) (z : Int32), (i + k = p) → WP X (d + 4) 0 0 Y_X10_lastingFrom 68 [(4, .int (nI (i))), (3, .int (z)), (0, .ref (80)), (1, .int (nI (y))), (2, .int (nI (T)))] [] (HP c w m v2 E) (kR (some (.int (1 + kmx (fun T' => v2.2.1 92 (256 * (y + 1) + T')) T k i z))) (HP c w m v2 E)) := by
  intro k
  induction k using Nat.strongRecOn with
  | ind k ih =>
    intro i z hi
    have h4 := k4P p hp4
    refine wp_iload 0 d_X10_lastingFrom_68 rfl ?_
    refine wp_aload_n 2 d_X10_lastingFrom_70 rfl rfl ?_
    refine wp_getfield (v := .ref (81)) d_X10_lastingFrom_71 gf_X10_7 (hp_80 _ _ _ _ _) rfl ?_
    refine wp_iconst (v0 := 2) d_X10_lastingFrom_74 rfl ?_
    refine wp_iaload (v := nI (p)) d_X10_lastingFrom_75 (hp_81 _ _ _ _ _) (kin rfl) hp ?_
    refine wp_ncmp_ge (a := i) (b := p) 119 d_X10_lastingFrom_76 rfl (by omega) (by omega) (fun zc76 => ?_) (fun zc76 => ?_)
    · refine wp_iconst (v0 := 1) d_X10_lastingFrom_119 rfl ?_
      refine wp_iload_n 1 d_X10_lastingFrom_120 rfl rfl ?_
      refine wp_iadd d_X10_lastingFrom_121 ?_
      refine wp_reti d_X10_lastingFrom_122 rfl ?_
      obtain rfl : k = 0 := by omega
      exact kR_i rfl rfl
    · refine wp_aload_n 2 d_X10_lastingFrom_79 rfl rfl ?_
      refine wp_getfield (v := .ref (92)) d_X10_lastingFrom_80 gf_X10_44 (hp_80 _ _ _ _ _) rfl ?_
      refine wp_sipush (v0 := 256) d_X10_lastingFrom_83 (by decide) ?_
      refine wp_iload_n 3 d_X10_lastingFrom_86 rfl rfl ?_
      refine wp_iconst (v0 := 1) d_X10_lastingFrom_87 rfl ?_
      refine wp_iadd d_X10_lastingFrom_88 ?_
      refine wp_v (v0 := nI ((y) + (1))) (nI_add (y) (1)) ?_
      refine wp_imul d_X10_lastingFrom_89 ?_
      refine wp_v (v0 := nI ((256) * ((y) + (1)))) (pk_mul (256) ((y) + (1))) ?_
      have hkl := kqm_lt p T i hp4 hT (by omega)
      refine wp_iload_n 4 d_X10_lastingFrom_90 rfl rfl ?_
      refine wp_iload 0 d_X10_lastingFrom_91 rfl ?_
      refine wp_stc_i (As := [.int (nI (T)), .int (nI (i))]) (x0 := nI (kqm (T) (i))) (h1 := HP c w m v2 E) d_X10_lastingFrom_93 lk_X10_210 mv_X10_quarter st_X10_quarter (Nat.le_of_ble_eq_true rfl) (Nat.le_of_ble_eq_true rfl) (s_X10_quarter (T := T) (p := i) (by omega) (by omega)) ?_
      refine wp_iadd d_X10_lastingFrom_96 ?_
      refine wp_v (v0 := nI (((256) * ((y) + (1))) + (kqm (T) (i)))) (nI_add ((256) * ((y) + (1))) (kqm (T) (i))) ?_
      refine wp_iaload (v := (v2.2.1 92) (((256) * ((y) + (1))) + (kqm (T) (i)))) d_X10_lastingFrom_97 (hp_92 _ _ _ _ _) (vp_in_nI (by omega) (by omega)) (congrArg ((v2.2.1 92)) (nI_clamp (by omega))) ?_
      refine wp_istore [(5, .int ((v2.2.1 92) (((256) * ((y) + (1))) + (kqm (T) (i))))), (4, .int (nI (i))), (3, .int (z)), (0, .ref (80)), (1, .int (nI (y))), (2, .int (nI (T)))] d_X10_lastingFrom_98 (Nat.le_of_ble_eq_true rfl) rfl ?_
      refine wp_iload 0 d_X10_lastingFrom_100 rfl ?_
      refine wp_iload_n 2 d_X10_lastingFrom_102 rfl rfl ?_
      refine wp_icmp_le 111 d_X10_lastingFrom_103 rfl (fun zc103 => ?_) (fun zc103 => ?_)
      · refine wp_iload_n 2 d_X10_lastingFrom_111 rfl rfl ?_
        refine wp_istore_n [(3, .int (z)), (5, .int ((v2.2.1 92) (((256) * ((y) + (1))) + (kqm (T) (i))))), (4, .int (nI (i))), (0, .ref (80)), (1, .int (nI (y))), (2, .int (nI (T)))] d_X10_lastingFrom_112 rfl (Nat.le_of_ble_eq_true rfl) rfl ?_
        refine wp_iinc (v0 := nI ((i) + 1)) [(4, .int (nI ((i) + 1))), (3, .int (z)), (5, .int ((v2.2.1 92) (((256) * ((y) + (1))) + (kqm (T) (i))))), (0, .ref (80)), (1, .int (nI (y))), (2, .int (nI (T)))] 2 d_X10_lastingFrom_113 rfl (nI_add (i) 1) (Nat.le_of_ble_eq_true rfl) rfl ?_
        refine wp_goto 68 d_X10_lastingFrom_116 rfl ?_
        obtain ⟨k1, rfl⟩ : ∃ k1, k = k1 + 1 := ⟨k - 1, by omega⟩
        refine wp_sub [(4, .int (nI ((i) + 1))), (3, .int (z)), (0, .ref (80)), (1, .int (nI (y))), (2, .int (nI (T)))] [0, 1, 3, 4, 5] rfl ?_
        simp only [kmx]
        rw [if_neg (Int32.not_lt.mpr zc103)]
        exact ih k1 (by omega) (i + 1) _ (by omega)
      · refine wp_iload 0 d_X10_lastingFrom_106 rfl ?_
        refine wp_goto 112 d_X10_lastingFrom_108 rfl ?_
        refine wp_istore_n [(3, .int ((v2.2.1 92) (((256) * ((y) + (1))) + (kqm (T) (i))))), (5, .int ((v2.2.1 92) (((256) * ((y) + (1))) + (kqm (T) (i))))), (4, .int (nI (i))), (0, .ref (80)), (1, .int (nI (y))), (2, .int (nI (T)))] d_X10_lastingFrom_112 rfl (Nat.le_of_ble_eq_true rfl) rfl ?_
        refine wp_iinc (v0 := nI ((i) + 1)) [(4, .int (nI ((i) + 1))), (3, .int ((v2.2.1 92) (((256) * ((y) + (1))) + (kqm (T) (i))))), (5, .int ((v2.2.1 92) (((256) * ((y) + (1))) + (kqm (T) (i))))), (0, .ref (80)), (1, .int (nI (y))), (2, .int (nI (T)))] 2 d_X10_lastingFrom_113 rfl (nI_add (i) 1) (Nat.le_of_ble_eq_true rfl) rfl ?_
        refine wp_goto 68 d_X10_lastingFrom_116 rfl ?_
        obtain ⟨k1, rfl⟩ : ∃ k1, k = k1 + 1 := ⟨k - 1, by omega⟩
        refine wp_sub [(4, .int (nI ((i) + 1))), (3, .int ((v2.2.1 92) (((256) * ((y) + (1))) + (kqm (T) (i))))), (0, .ref (80)), (1, .int (nI (y))), (2, .int (nI (T)))] [0, 1, 3, 4, 5] rfl ?_
        simp only [kmx]
        rw [if_pos (Int32.not_le.mp zc103)]
        exact ih k1 (by omega) (i + 1) _ (by omega)
theorem s_X10_lastingFrom {X : kX} {d : Nat} {c w m v : kZ} {E : kH} {p : Nat} (hp : m.2.1 81 2 = nI p) (hp4 : p ≤ 4) {ln : Nat → Nat} {n : Nat} (hn9 : n ≤ 9) (hlq : ∀ j, j < p → m.2.1 81 (45 + 2 * j) = nI (ln j) ∧ ln j < n) {cnt : Nat} {en : Nat → Nat} (hS : mSt (m.2.1 81) en cnt n v) (h8 : v.1 8008 = nI p) {y T : Nat} (hy : y ≤ 20) (hT : T < 4 ^ p) : WP X (d + 4) 0 0 Y_X10_lastingFrom 0 [(0, .ref (80)), (1, .int (nI (y))), (2, .int (nI (T)))] [] (HP c w m v E) (fun r h1 => r = some (.int (if mW2 (m.2.1 81) en cnt (ktt ln T p) ≤ (m.2.1 81) 7 then 1 + kyl (fun T' => v.2.1 92 (256 * (y + 1) + T')) p T else 0)) ∧ ∃ v1 : kZ, h1 = HP c w m v1 E ∧ mFr 86 87 v v1 ∧ v1.1 8008 = nI p) := by
  have h4 := k4P p hp4
  refine wp_iconst (v0 := 0) d_X10_lastingFrom_0 rfl ?_
  refine wp_istore_n [(3, .int (0)), (0, .ref (80)), (1, .int (nI (y))), (2, .int (nI (T)))] d_X10_lastingFrom_1 rfl (Nat.le_of_ble_eq_true rfl) rfl ?_
  refine wp_sub [(3, .int (0)), (0, .ref (80)), (1, .int (nI (y))), (2, .int (nI (T)))] [0, 1, 2, 3] rfl ?_
  refine s_X10_lastingFrom_l hp hp4 hn9 hlq hS (y := y) (T := T) (by omega) (fun v2 hf2 h8b hl2 => ?_) p 0 v (by omega) (mFr.rf _ _ v) h8 (fun j hj => absurd hj (by omega))
  have hld : mLaid v2 ((ktt ln T p).map (kent2 (fun l => mstr (m.2.1 81) en cnt l) (mtl (m.2.1 81)))) := by
    refine ⟨?_, fun j hj => ?_⟩
    · rw [List.length_map, ktt_len]; exact h8b
    · rw [List.length_map, ktt_len] at hj
      rw [List.getElem_map]
      simp only [ktt, List.getElem_map, List.getElem_range]
      exact hl2 j hj
  refine wp_aload_n 1 d_X10_lastingFrom_41 rfl rfl ?_
  refine wp_virtual0 (As := []) d_X10_lastingFrom_42 lk_X10_169 mv_X10_isMended in_X10_isMended se_X10_isMended (Nat.le_of_ble_eq_true rfl) (Nat.le_of_ble_eq_true rfl) (hp_80 _ _ _ _ _) rfl (s_X10_isMended (v := v2) (l := (ktt ln T p).map (kent2 (fun l => mstr (m.2.1 81) en cnt l) (mtl (m.2.1 81)))) (by rw [List.length_map, ktt_len]; omega) hld) (fun v42 h42 q42 => ?_)
  obtain ⟨rfl, u1, rfl, hu1⟩ := q42
  show WP _ _ _ _ _ 45 _ [.int (kb (mW2 (m.2.1 81) en cnt (ktt ln T p) ≤ (m.2.1 81) 7))] (HP c w m u1 E) _
  refine wp_ifb_ne 50 d_X10_lastingFrom_45 rfl (fun zc45 => ?_) (fun zc45 => ?_)
  · refine wp_aload_n 1 d_X10_lastingFrom_50 rfl rfl ?_
    refine wp_getfield (v := .ref (92)) d_X10_lastingFrom_51 gf_X10_44 (hp_80 _ _ _ _ _) rfl ?_
    refine wp_sipush (v0 := 256) d_X10_lastingFrom_54 (by decide) ?_
    refine wp_iload_n 2 d_X10_lastingFrom_57 rfl rfl ?_
    refine wp_iconst (v0 := 1) d_X10_lastingFrom_58 rfl ?_
    refine wp_iadd d_X10_lastingFrom_59 ?_
    refine wp_v (v0 := nI ((y) + (1))) (nI_add (y) (1)) ?_
    refine wp_imul d_X10_lastingFrom_60 ?_
    refine wp_v (v0 := nI ((256) * ((y) + (1)))) (pk_mul (256) ((y) + (1))) ?_
    refine wp_iload_n 3 d_X10_lastingFrom_61 rfl rfl ?_
    refine wp_iadd d_X10_lastingFrom_62 ?_
    refine wp_v (v0 := nI (((256) * ((y) + (1))) + (T))) (nI_add ((256) * ((y) + (1))) (T)) ?_
    refine wp_iaload (v := (u1.2.1 92) (((256) * ((y) + (1))) + (T))) d_X10_lastingFrom_63 (hp_92 _ _ _ _ _) (vp_in_nI (by omega) (by omega)) (congrArg ((u1.2.1 92)) (nI_clamp (by omega))) ?_
    refine wp_istore_n [(3, .int ((u1.2.1 92) (((256) * ((y) + (1))) + (T)))), (0, .ref (80)), (1, .int (nI (y))), (2, .int (nI (T)))] d_X10_lastingFrom_64 rfl (Nat.le_of_ble_eq_true rfl) rfl ?_
    refine wp_iconst (v0 := 0) d_X10_lastingFrom_65 rfl ?_
    refine wp_istore [(4, .int (0)), (3, .int ((u1.2.1 92) (((256) * ((y) + (1))) + (T)))), (0, .ref (80)), (1, .int (nI (y))), (2, .int (nI (T)))] d_X10_lastingFrom_66 (Nat.le_of_ble_eq_true rfl) rfl ?_
    refine wp_sub [(4, .int (0)), (3, .int ((u1.2.1 92) (((256) * ((y) + (1))) + (T)))), (0, .ref (80)), (1, .int (nI (y))), (2, .int (nI (T)))] [0, 1, 2, 3, 4] rfl ?_
    refine wp_mono ?_ (s_X10_lastingFrom_m (d := d) (v := v) hp hp4 (y := y) (T := T) hy hT (v2 := u1) p 0 _ (by omega))
    rintro r h1 ⟨rfl, rfl⟩
    refine ⟨congrArg (fun z => some (Value.int z)) ?_, u1, rfl, hf2.tr (hu1.fr 86 87), (hu1.1 _ (by decide)).trans h8b⟩
    rw [if_pos zc45]
    have h92 : u1.2.1 92 = v.2.1 92 := by rw [hu1.2]; exact hf2.2.1 92 (by decide)
    rw [h92]
    rfl
  · refine wp_iconst (v0 := 0) d_X10_lastingFrom_48 rfl ?_
    refine wp_reti d_X10_lastingFrom_49 rfl ?_
    exact ⟨by rw [if_neg zc45], u1, rfl, hf2.tr (hu1.fr 86 87), (hu1.1 _ (by decide)).trans h8b⟩
theorem s_X10_layTube_6 {X : kX} {d : Nat} {c w m v : kZ} {E : kH} {cnt : Nat} (hs1 : (m.2.1 81) 1 = nI cnt) (hc8 : cnt ≤ 8) {en : Nat → Nat} (hm : mWF (m.2.1 81) cnt en) {n : Nat} (hn : m.2.1 81 0 = nI n) (hn9 : n ≤ 9) {p : Nat} (hp : m.2.1 81 2 = nI p) (hp4 : p ≤ 4) (hln : ∀ j, j < p → vp_in (mlp (m.2.1 81) j) n) (x : Int32) : WP X (d + 8) 0 0 Y_X10_layTube 0 [(0, .ref 80)] [] (HP c w (setA m 81 (upd (m.2.1 81) 6 (x))) v E) (fun r1 h1 => r1 = none ∧ ∃ v1 : kZ, h1 = HP c w (setA m 81 (upd (m.2.1 81) 6 (x))) v1 E ∧ mFr 84 87 v v1 ∧ mSt (upd (m.2.1 81) 6 (x)) en cnt n v1 ∧ v1.1 8008 = nI p) := by
  have hx : ∀ j, j ≠ 6 → upd (m.2.1 81) 6 x j = m.2.1 81 j := fun j h6 => upd_n _ _ h6
  have L := s_X10_layTube (X := X) (d := d) (c := c) (w := w) (m := (setA m 81 (upd (m.2.1 81) 6 (x)))) (v := v) (E := E) (cnt := cnt) (en := en) (n := n) (p := p) ((hx 1 (by decide)).trans hs1) hc8 (hm.congr (fun j hj => hx j (by omega))) ((hx 0 (by decide)).trans hn) hn9 ((hx 2 (by decide)).trans hp) hp4 (fun j hj => by
    show vp_in (upd (m.2.1 81) 6 x (45 + 2 * j)) n
    rw [hx _ (by omega)]
    exact hln j hj)
  refine wp_mono ?_ L
  rintro r1 h1 ⟨rfl, v1, rfl, hf, hs, hl⟩
  refine ⟨rfl, v1, rfl, hf, hs, ?_⟩
  have := hl.1
  rw [mTube_len] at this
  exact this
theorem s_X10_findLasting_t {X : kX} {d : Nat} {c w m v : kZ} {E : kH} {cnt : Nat} (hs1 : (m.2.1 81) 1 = nI cnt) (hc8 : cnt ≤ 8) {en : Nat → Nat} (hm : mWF (m.2.1 81) cnt en) {n : Nat} (hn : m.2.1 81 0 = nI n) (hn9 : n ≤ 9) {p : Nat} (hp : m.2.1 81 2 = nI p) (hp4 : p ≤ 4) (hln : ∀ j, j < p → vp_in (mlp (m.2.1 81) j) n) {ln : Nat → Nat} (hlq : ∀ j, j < p → m.2.1 81 (45 + 2 * j) = nI (ln j) ∧ ln j < n) {y : Nat} (hy : y ≤ 20) (x : Int32) {V1 w9 : Nat → Int32} {Q : Option Value → kH → Prop} (K : ∀ v2 : kZ, (∀ T, T < 4 ^ p → v2.2.1 92 (256 * y + T) = if mW2 (upd (m.2.1 81) 6 (x)) en cnt (ktt ln T p) ≤ m.2.1 81 7 then 1 + kyl V1 p T else 0) → (∀ i, (∀ T, T < 4 ^ p → i ≠ 256 * y + T) → v2.2.1 92 i = w9 i) → WP X (d + 9) 0 0 Y_X10_findLasting 108 [(2, .int (nI y)), (1, .int (m.2.1 81 6)), (0, .ref 80)] [] (HP c w (setA m 81 (upd (m.2.1 81) 6 (x))) v2 E) Q) : ∀ (k : Nat) (T : Nat) (v' : kZ), (T + k = 4 ^ p) → (mSt (upd (m.2.1 81) 6 (x)) en cnt n v') → (v'.1 8008 = nI p) → (∀ T, T < 4 ^ p → v'.2.1 92 (256 * (y + 1) + T) = V1 T) → (∀ T', T' < T → v'.2.1 92 (256 * y + T') = if mW2 (upd (m.2.1 81) 6 (x)) en cnt (ktt ln T' p) ≤ m.2.1 81 7 then 1 + kyl V1 p T' else 0) → (∀ i, (∀ T, T < 4 ^ p → i ≠ 256 * y + T) → v'.2.1 92 i = w9 i) → WP X (d + 9) 0 0 Y_X10_findLasting 70 [(3, .int (nI (T))), (2, .int (nI (y))), (1, .int (m.2.1 81 6)), (0, .ref (80))] [] (HP c w (setA m 81 (upd (m.2.1 81) 6 (x))) v' E) Q := by
  intro k
  induction k using Nat.strongRecOn with
  | ind k ih =>
    intro T v' hTk hS h8 hV hD hO
    have h4 := k4P p hp4
    have hx2 : (setA m 81 (upd (m.2.1 81) 6 (x))).2.1 81 2 = nI p := (show upd (m.2.1 81) 6 x 2 = m.2.1 81 2 from upd_n _ _ (by decide)).trans hp
    have hxl : ∀ j, j < p → (setA m 81 (upd (m.2.1 81) 6 (x))).2.1 81 (45 + 2 * j) = nI (ln j) ∧ ln j < n := fun j hj => ⟨(show upd (m.2.1 81) 6 x (45 + 2 * j) = m.2.1 81 (45 + 2 * j) from upd_n _ _ (by omega)).trans (hlq j hj).1, (hlq j hj).2⟩
    refine wp_iload_n 0 d_X10_findLasting_70 rfl rfl ?_
    refine wp_iconst (v0 := 1) d_X10_findLasting_71 rfl ?_
    refine wp_iconst (v0 := 2) d_X10_findLasting_72 rfl ?_
    refine wp_aload_n 3 d_X10_findLasting_73 rfl rfl ?_
    refine wp_getfield (v := .ref (81)) d_X10_findLasting_74 gf_X10_7 (hp_80 _ _ _ _ _) rfl ?_
    refine wp_iconst (v0 := 2) d_X10_findLasting_77 rfl ?_
    refine wp_iaload (v := nI (p)) d_X10_findLasting_78 (hp_81 _ _ _ _ _) (kin rfl) (show (upd (m.2.1 81) 6 (x)) (2) = nI p from (upd_n _ _ (by omega)).trans hp) ?_
    refine wp_imul d_X10_findLasting_79 ?_
    refine wp_v (v0 := nI ((2) * (p))) (pk_mul (2) (p)) ?_
    refine wp_ishl d_X10_findLasting_80 ?_
    refine wp_v (v0 := nI (4 ^ p)) (k4P_i p hp4) ?_
    refine wp_ncmp_ge (a := T) (b := 4 ^ p) 108 d_X10_findLasting_81 rfl (by omega) (by omega) (fun zc81 => ?_) (fun zc81 => ?_)
    · obtain rfl : k = 0 := by omega
      refine wp_sub [(2, .int (nI y)), (1, .int (m.2.1 81 6)), (0, .ref 80)] [1, 2, 3] rfl ?_
      exact K v' (fun T9 h9 => hD T9 (by omega)) hO
    · refine wp_aload_n 3 d_X10_findLasting_84 rfl rfl ?_
      refine wp_getfield (v := .ref (92)) d_X10_findLasting_85 gf_X10_44 (hp_80 _ _ _ _ _) rfl ?_
      refine wp_sipush (v0 := 256) d_X10_findLasting_88 (by decide) ?_
      refine wp_iload_n 1 d_X10_findLasting_91 rfl rfl ?_
      refine wp_imul d_X10_findLasting_92 ?_
      refine wp_v (v0 := nI ((256) * (y))) (pk_mul (256) (y)) ?_
      refine wp_iload_n 0 d_X10_findLasting_93 rfl rfl ?_
      refine wp_iadd d_X10_findLasting_94 ?_
      refine wp_v (v0 := nI (((256) * (y)) + (T))) (nI_add ((256) * (y)) (T)) ?_
      refine wp_aload_n 3 d_X10_findLasting_95 rfl rfl ?_
      refine wp_iload_n 1 d_X10_findLasting_96 rfl rfl ?_
      refine wp_iload_n 0 d_X10_findLasting_97 rfl rfl ?_
      refine wp_virtual0 (As := [.int (nI (y)), .int (nI (T))]) d_X10_findLasting_98 lk_X10_213 mv_X10_lastingFrom in_X10_lastingFrom se_X10_lastingFrom (Nat.le_of_ble_eq_true rfl) (Nat.le_of_ble_eq_true rfl) (hp_80 _ _ _ _ _) rfl (s_X10_lastingFrom (m := (setA m 81 (upd (m.2.1 81) 6 (x)))) (v := v') (p := p) (n := n) (ln := ln) (cnt := cnt) (en := en) hx2 hp4 hn9 hxl hS h8 (y := y) (T := T) hy (by omega)) (fun v98 h98 q98 => ?_)
      obtain ⟨rfl, v2, rfl, hf2, h8b⟩ := q98
      have h92 : v2.2.1 92 = v'.2.1 92 := hf2.2.1 92 (by decide)
      show WP _ _ _ _ _ 101 _ [.int ((if mW2 (upd (m.2.1 81) 6 (x)) en cnt (ktt ln T p) ≤ (upd (m.2.1 81) 6 (x)) 7 then 1 + kyl (fun T' => v'.2.1 92 (256 * (y + 1) + T')) p T else 0)), .int (nI (((256) * (y)) + (T))), .ref (92)] (HP c w (setA m 81 (upd (m.2.1 81) 6 (x))) v2 E) _
      refine wp_iastore (h' := HP c w (setA m 81 (upd (m.2.1 81) 6 (x))) (setA v2 92 (upd (v2.2.1 92) (((256) * (y)) + (T)) ((if mW2 (upd (m.2.1 81) 6 (x)) en cnt (ktt ln T p) ≤ (upd (m.2.1 81) 6 (x)) 7 then 1 + kyl (fun T' => v'.2.1 92 (256 * (y + 1) + T')) p T else 0)))) E) d_X10_findLasting_101 (hp_92 _ _ _ _ _) (vp_in_nI (by omega) (by omega)) (by rw [nI_clamp (by omega)]; exact (hpa_92 _ _ _ _ _ _)) ?_
      refine wp_iinc (v0 := nI ((T) + 1)) [(3, .int (nI ((T) + 1))), (2, .int (nI (y))), (1, .int (m.2.1 81 6)), (0, .ref (80))] 0 d_X10_findLasting_102 rfl (nI_add (T) 1) (Nat.le_of_ble_eq_true rfl) rfl ?_
      refine wp_goto 70 d_X10_findLasting_105 rfl ?_
      obtain ⟨k1, rfl⟩ : ∃ k1, k = k1 + 1 := ⟨k - 1, by omega⟩
      refine wp_sub [(3, .int (nI ((T) + 1))), (2, .int (nI (y))), (1, .int (m.2.1 81 6)), (0, .ref (80))] [0, 1, 2, 3] rfl ?_
      refine ih k1 (by omega) (T + 1) _ (by omega) (fun l hl => by rw [show (setA v2 92 _).2.1 85 = v2.2.1 85 from rfl, hf2.2.1 85 (by decide)]; exact hS l hl) ?_ (fun T9 h9 => ?_) (fun T9 h9 => ?_) (fun i9 h9 => ?_)
      · exact h8b
      · exact (upd_n (v2.2.1 92) _ (by omega)).trans ((congrFun h92 _).trans (hV T9 h9))
      · by_cases e : T9 = T
        · rw [e]
          refine (upd_s (v2.2.1 92) (256 * y + T) _).trans ?_
          rw [kyl_congr hp4 (by omega) hV]
          rfl
        · exact (upd_n (v2.2.1 92) _ (by omega)).trans ((congrFun h92 _).trans (hD T9 (by omega)))
      · exact (upd_n (v2.2.1 92) _ (h9 T (by omega))).trans ((congrFun h92 _).trans (hO i9 h9))
theorem s_X10_findLasting_z {X : kX} {d : Nat} {c w m v : kZ} {E : kH} (y0 : Int32) {Q : Option Value → kH → Prop} (K : ∀ v2 : kZ, (∀ T, T < 256 → v2.2.1 92 (5376 + T) = 0) → WP X (d + 9) 0 0 Y_X10_findLasting 34 [(1, .int y0), (0, .ref 80)] [] (HP c w m v2 E) Q) : ∀ (k : Nat) (i : Nat) (v' : kZ), (i + k = 256) → (∀ T, T < i → v'.2.1 92 (5376 + T) = 0) → WP X (d + 9) 0 0 Y_X10_findLasting 10 [(2, .int (nI (i))), (1, .int (y0)), (0, .ref (80))] [] (HP c w m v' E) Q := by
  intro k
  induction k using Nat.strongRecOn with
  | ind k ih =>
    intro i v' hi hZ
    refine wp_iload_n 0 d_X10_findLasting_10 rfl rfl ?_
    refine wp_sipush (v0 := 256) d_X10_findLasting_11 (by decide) ?_
    refine wp_ncmp_ge (a := i) (b := 256) 34 d_X10_findLasting_14 rfl (by omega) (by omega) (fun zc14 => ?_) (fun zc14 => ?_)
    · obtain rfl : k = 0 := by omega
      refine wp_sub [(1, .int y0), (0, .ref 80)] [1, 2] rfl ?_
      exact K v' (fun T9 h9 => hZ T9 (by omega))
    · refine wp_aload_n 2 d_X10_findLasting_17 rfl rfl ?_
      refine wp_getfield (v := .ref (92)) d_X10_findLasting_18 gf_X10_44 (hp_80 _ _ _ _ _) rfl ?_
      refine wp_sipush (v0 := 5376) d_X10_findLasting_21 (by decide) ?_
      refine wp_iload_n 0 d_X10_findLasting_24 rfl rfl ?_
      refine wp_iadd d_X10_findLasting_25 ?_
      refine wp_v (v0 := nI ((5376) + (i))) (nI_add (5376) (i)) ?_
      refine wp_iconst (v0 := 0) d_X10_findLasting_26 rfl ?_
      refine wp_iastore (h' := HP c w m (setA v' 92 (upd (v'.2.1 92) ((5376) + (i)) (0))) E) d_X10_findLasting_27 (hp_92 _ _ _ _ _) (vp_in_nI (by omega) (by omega)) (by rw [nI_clamp (by omega)]; exact (hpa_92 _ _ _ _ _ _)) ?_
      refine wp_iinc (v0 := nI ((i) + 1)) [(2, .int (nI ((i) + 1))), (1, .int (y0)), (0, .ref (80))] 0 d_X10_findLasting_28 rfl (nI_add (i) 1) (Nat.le_of_ble_eq_true rfl) rfl ?_
      refine wp_goto 10 d_X10_findLasting_31 rfl ?_
      obtain ⟨k1, rfl⟩ : ∃ k1, k = k1 + 1 := ⟨k - 1, by omega⟩
      refine wp_sub [(2, .int (nI ((i) + 1))), (1, .int (y0)), (0, .ref (80))] [0, 1, 2] rfl ?_
      refine ih k1 (by omega) (i + 1) _ (by omega) (fun T9 h9 => ?_)
      by_cases e : T9 = i
      · rw [e]; exact upd_s (v'.2.1 92) (5376 + i) _
      · exact (upd_n (v'.2.1 92) _ (by omega)).trans (hZ T9 (by omega))
theorem kEY9 {a : Int32} (h : a ≤ 9) : (if a < 9 then a else 9) = a := by
  by_cases q : a < 9
  · exact if_pos q
  · rw [if_neg q]; exact Int32.le_antisymm (Int32.not_lt.mp q) h
theorem s_X10_findLasting_y {X : kX} {d : Nat} {c w m v : kZ} {E : kH} {cnt : Nat} (hs1 : (m.2.1 81) 1 = nI cnt) (hc8 : cnt ≤ 8) {en : Nat → Nat} (hm : mWF (m.2.1 81) cnt en) {n : Nat} (hn : m.2.1 81 0 = nI n) (hn9 : n ≤ 9) {p : Nat} (hp : m.2.1 81 2 = nI p) (hp4 : p ≤ 4) (hln : ∀ j, j < p → vp_in (mlp (m.2.1 81) j) n) {ln : Nat → Nat} (hlq : ∀ j, j < p → m.2.1 81 (45 + 2 * j) = nI (ln j) ∧ ln j < n) : ∀ (k : Nat) (v' : kZ) (x0 : Int32), k ≤ 21 → mLs (mYM (m.2.1 81) en cnt p ln) p k (v'.2.1 92) → WP X (d + 9) 0 0 Y_X10_findLasting 37 [(2, .int (nI k + (-1))), (1, .int (m.2.1 81 6)), (0, .ref 80)] [] (HP c w (setA m 81 (upd (m.2.1 81) 6 (x0))) v' E) (fun r h1 => r = none ∧ ∃ v1 : kZ, h1 = HP c w m v1 E ∧ mLs (mYM (m.2.1 81) en cnt p ln) p 0 (v1.2.1 92)) := by
  have h4 := k4P p hp4
  intro k
  induction k with
  | zero =>
    intro v' x0 hk21 hLs
    rw [show nI 0 + (-1) = (-1 : Int32) by decide]
    refine wp_iload_n 0 d_X10_findLasting_37 rfl rfl ?_
    refine wp_if_lt 114 d_X10_findLasting_38 rfl (fun _ => ?_) (fun z => absurd z (by decide))
    refine wp_aload_n 2 d_X10_findLasting_114 rfl rfl ?_
    refine wp_getfield (v := .ref (81)) d_X10_findLasting_115 gf_X10_7 (hp_80 _ _ _ _ _) rfl ?_
    refine wp_bipush (v0 := 6) d_X10_findLasting_118 (by decide) ?_
    refine wp_iload_n 1 d_X10_findLasting_120 rfl rfl ?_
    refine wp_iastore (h' := HP c w (setA (setA m 81 (upd (m.2.1 81) 6 (x0))) 81 (upd (upd (m.2.1 81) 6 (x0)) 6 (m.2.1 81 6))) v' E) d_X10_findLasting_121 (hp_81 _ _ _ _ _) (kin rfl) ((hpa_81 _ _ _ _ _ _)) ?_
    rw [setUb]
    refine wp_vret d_X10_findLasting_122 rfl ?_
    exact ⟨rfl, v', rfl, hLs⟩
  | succ y ih =>
    intro v' x0 hk21 hLs
    rw [show nI (y + 1) + (-1) = nI y from pk_m1 y]
    refine wp_iload_n 0 d_X10_findLasting_37 rfl rfl ?_
    refine wp_nif_lt (a := y) 114 d_X10_findLasting_38 rfl (by omega) ?_
    refine wp_aload_n 2 d_X10_findLasting_41 rfl rfl ?_
    refine wp_getfield (v := .ref (81)) d_X10_findLasting_42 gf_X10_7 (hp_80 _ _ _ _ _) rfl ?_
    refine wp_bipush (v0 := 6) d_X10_findLasting_45 (by decide) ?_
    refine wp_iload_n 1 d_X10_findLasting_47 rfl rfl ?_
    refine wp_iload_n 0 d_X10_findLasting_48 rfl rfl ?_
    refine wp_iadd d_X10_findLasting_49 ?_
    refine wp_bipush (v0 := 9) d_X10_findLasting_50 (by decide) ?_
    refine wp_icmp_le 60 d_X10_findLasting_52 rfl (fun zc52 => ?_) (fun zc52 => ?_)
    · refine wp_iload_n 1 d_X10_findLasting_60 rfl rfl ?_
      refine wp_iload_n 0 d_X10_findLasting_61 rfl rfl ?_
      refine wp_iadd d_X10_findLasting_62 ?_
      refine wp_v (v0 := kEY (m.2.1 81 6) y) (by unfold kEY; rw [kEY9 zc52]) ?_
      refine wp_iastore (h' := HP c w (setA (setA m 81 (upd (m.2.1 81) 6 (x0))) 81 (upd (upd (m.2.1 81) 6 (x0)) 6 (kEY (m.2.1 81 6) y))) v' E) d_X10_findLasting_63 (hp_81 _ _ _ _ _) (kin rfl) ((hpa_81 _ _ _ _ _ _)) ?_
      rw [setU]
      refine wp_aload_n 2 d_X10_findLasting_64 rfl rfl ?_
      refine wp_virtual0 (As := []) d_X10_findLasting_65 lk_X10_166 mv_X10_layTube in_X10_layTube se_X10_layTube (Nat.le_of_ble_eq_true rfl) (Nat.le_of_ble_eq_true rfl) (hp_80 _ _ _ _ _) rfl (s_X10_layTube_6 hs1 hc8 hm hn hn9 hp hp4 hln (kEY (m.2.1 81 6) y)) (fun v65 h65 q65 => ?_)
      obtain ⟨rfl, v1, rfl, hf1, hS1, h81⟩ := q65
      have h921 : v1.2.1 92 = v'.2.1 92 := hf1.2.1 92 (by decide)
      show WP _ _ _ _ _ 68 _ [] (HP c w (setA m 81 (upd (m.2.1 81) 6 (kEY (m.2.1 81 6) y))) v1 E) _
      refine wp_iconst (v0 := 0) d_X10_findLasting_68 rfl ?_
      refine wp_istore_n [(3, .int (0)), (2, .int (nI (y))), (1, .int (m.2.1 81 6)), (0, .ref (80))] d_X10_findLasting_69 rfl (Nat.le_of_ble_eq_true rfl) rfl ?_
      refine wp_sub [(3, .int (0)), (2, .int (nI (y))), (1, .int (m.2.1 81 6)), (0, .ref (80))] [0, 1, 2, 3] rfl ?_
      refine s_X10_findLasting_t (v := v) hs1 hc8 hm hn hn9 hp hp4 hln hlq (y := y) (by omega) (kEY (m.2.1 81 6) y) (V1 := kyr (mYM (m.2.1 81) en cnt p ln) p (20 - y)) (w9 := v1.2.1 92) (fun v2 hD2 hO2 => ?_) (4 ^ p) 0 v1 (by omega) hS1 h81 (fun T9 h9 => by rw [h921, hLs (y + 1) T9 (by omega) (by omega) h9, show 21 - (y + 1) = 20 - y by omega]) (fun T9 h9 => absurd h9 (by omega)) (fun _ _ => rfl)
      refine wp_iinc (v0 := (nI (y)) + (-1)) [(2, .int ((nI (y)) + (-1))), (1, .int (m.2.1 81 6)), (0, .ref (80))] 0 d_X10_findLasting_108 rfl rfl (Nat.le_of_ble_eq_true rfl) rfl ?_
      refine wp_goto 37 d_X10_findLasting_111 rfl ?_
      refine wp_sub [(2, .int ((nI (y)) + (-1))), (1, .int (m.2.1 81 6)), (0, .ref (80))] [0, 1, 2] rfl ?_
      refine ih v2 (kEY (m.2.1 81 6) y) (by omega) (fun y9 T9 g1 g2 g3 => ?_)
      rcases Nat.lt_or_ge y y9 with z | z
      · rw [hO2 _ (fun T8 g8 => by have := (k4P p hp4).1; omega), h921]
        exact hLs y9 T9 (by omega) g2 g3
      · obtain rfl : y9 = y := by omega
        rw [hD2 T9 g3, show 21 - y9 = (20 - y9) + 1 by omega]
        simp only [kyr]
        rw [show 20 - (20 - y9) = y9 by omega]
    · refine wp_bipush (v0 := 9) d_X10_findLasting_55 (by decide) ?_
      refine wp_goto 63 d_X10_findLasting_57 rfl ?_
      refine wp_v (v0 := kEY (m.2.1 81 6) y) (by unfold kEY; rw [if_neg (fun q => absurd q (Int32.not_lt.mpr (Int32.le_of_lt (Int32.not_le.mp zc52))))]) ?_
      refine wp_iastore (h' := HP c w (setA (setA m 81 (upd (m.2.1 81) 6 (x0))) 81 (upd (upd (m.2.1 81) 6 (x0)) 6 (kEY (m.2.1 81 6) y))) v' E) d_X10_findLasting_63 (hp_81 _ _ _ _ _) (kin rfl) ((hpa_81 _ _ _ _ _ _)) ?_
      rw [setU]
      refine wp_aload_n 2 d_X10_findLasting_64 rfl rfl ?_
      refine wp_virtual0 (As := []) d_X10_findLasting_65 lk_X10_166 mv_X10_layTube in_X10_layTube se_X10_layTube (Nat.le_of_ble_eq_true rfl) (Nat.le_of_ble_eq_true rfl) (hp_80 _ _ _ _ _) rfl (s_X10_layTube_6 hs1 hc8 hm hn hn9 hp hp4 hln (kEY (m.2.1 81 6) y)) (fun v65 h65 q65 => ?_)
      obtain ⟨rfl, v1, rfl, hf1, hS1, h81⟩ := q65
      have h921 : v1.2.1 92 = v'.2.1 92 := hf1.2.1 92 (by decide)
      show WP _ _ _ _ _ 68 _ [] (HP c w (setA m 81 (upd (m.2.1 81) 6 (kEY (m.2.1 81 6) y))) v1 E) _
      refine wp_iconst (v0 := 0) d_X10_findLasting_68 rfl ?_
      refine wp_istore_n [(3, .int (0)), (2, .int (nI (y))), (1, .int (m.2.1 81 6)), (0, .ref (80))] d_X10_findLasting_69 rfl (Nat.le_of_ble_eq_true rfl) rfl ?_
      refine wp_sub [(3, .int (0)), (2, .int (nI (y))), (1, .int (m.2.1 81 6)), (0, .ref (80))] [0, 1, 2, 3] rfl ?_
      refine s_X10_findLasting_t (v := v) hs1 hc8 hm hn hn9 hp hp4 hln hlq (y := y) (by omega) (kEY (m.2.1 81 6) y) (V1 := kyr (mYM (m.2.1 81) en cnt p ln) p (20 - y)) (w9 := v1.2.1 92) (fun v2 hD2 hO2 => ?_) (4 ^ p) 0 v1 (by omega) hS1 h81 (fun T9 h9 => by rw [h921, hLs (y + 1) T9 (by omega) (by omega) h9, show 21 - (y + 1) = 20 - y by omega]) (fun T9 h9 => absurd h9 (by omega)) (fun _ _ => rfl)
      refine wp_iinc (v0 := (nI (y)) + (-1)) [(2, .int ((nI (y)) + (-1))), (1, .int (m.2.1 81 6)), (0, .ref (80))] 0 d_X10_findLasting_108 rfl rfl (Nat.le_of_ble_eq_true rfl) rfl ?_
      refine wp_goto 37 d_X10_findLasting_111 rfl ?_
      refine wp_sub [(2, .int ((nI (y)) + (-1))), (1, .int (m.2.1 81 6)), (0, .ref (80))] [0, 1, 2] rfl ?_
      refine ih v2 (kEY (m.2.1 81 6) y) (by omega) (fun y9 T9 g1 g2 g3 => ?_)
      rcases Nat.lt_or_ge y y9 with z | z
      · rw [hO2 _ (fun T8 g8 => by have := (k4P p hp4).1; omega), h921]
        exact hLs y9 T9 (by omega) g2 g3
      · obtain rfl : y9 = y := by omega
        rw [hD2 T9 g3, show 21 - y9 = (20 - y9) + 1 by omega]
        simp only [kyr]
        rw [show 20 - (20 - y9) = y9 by omega]
theorem s_X10_findLasting {X : kX} {d : Nat} {c w m v : kZ} {E : kH} {cnt : Nat} (hs1 : (m.2.1 81) 1 = nI cnt) (hc8 : cnt ≤ 8) {en : Nat → Nat} (hm : mWF (m.2.1 81) cnt en) {n : Nat} (hn : m.2.1 81 0 = nI n) (hn9 : n ≤ 9) {p : Nat} (hp : m.2.1 81 2 = nI p) (hp4 : p ≤ 4) (hln : ∀ j, j < p → vp_in (mlp (m.2.1 81) j) n) {ln : Nat → Nat} (hlq : ∀ j, j < p → m.2.1 81 (45 + 2 * j) = nI (ln j) ∧ ln j < n) : WP X (d + 9) 0 0 Y_X10_findLasting 0 [(0, .ref (80))] [] (HP c w m v E) (fun r h1 => r = none ∧ ∃ v1 : kZ, h1 = HP c w m v1 E ∧ mLs (mYM (m.2.1 81) en cnt p ln) p 0 (v1.2.1 92)) := by
  refine wp_aload_n 0 d_X10_findLasting_0 rfl rfl ?_
  refine wp_getfield (v := .ref (81)) d_X10_findLasting_1 gf_X10_7 (hp_80 _ _ _ _ _) rfl ?_
  refine wp_bipush (v0 := 6) d_X10_findLasting_4 (by decide) ?_
  refine wp_iaload (v := (m.2.1 81) (6)) d_X10_findLasting_6 (hp_81 _ _ _ _ _) (kin rfl) rfl ?_
  refine wp_istore_n [(1, .int ((m.2.1 81) (6))), (0, .ref (80))] d_X10_findLasting_7 rfl (Nat.le_of_ble_eq_true rfl) rfl ?_
  refine wp_iconst (v0 := 0) d_X10_findLasting_8 rfl ?_
  refine wp_istore_n [(2, .int (0)), (1, .int ((m.2.1 81) (6))), (0, .ref (80))] d_X10_findLasting_9 rfl (Nat.le_of_ble_eq_true rfl) rfl ?_
  refine wp_sub [(2, .int (0)), (1, .int ((m.2.1 81) (6))), (0, .ref (80))] [0, 1, 2] rfl ?_
  refine s_X10_findLasting_z (v := v) _ (fun v2 hZ2 => ?_) 256 0 v (by omega) (fun T9 h9 => absurd h9 (by omega))
  refine wp_bipush (v0 := 20) d_X10_findLasting_34 (by decide) ?_
  refine wp_istore_n [(2, .int (20)), (1, .int ((m.2.1 81) (6))), (0, .ref (80))] d_X10_findLasting_36 rfl (Nat.le_of_ble_eq_true rfl) rfl ?_
  refine wp_sub [(2, .int (20)), (1, .int ((m.2.1 81) (6))), (0, .ref (80))] [0, 1, 2] rfl ?_
  rw [show (20 : Int32) = nI 21 + (-1) by decide]
  have hL0 : mLs (mYM (m.2.1 81) en cnt p ln) p 21 (v2.2.1 92) := fun y9 T9 g1 g2 g3 => (by rw [show y9 = 21 by omega]; exact hZ2 T9 (by have := (k4P p hp4).1; omega))
  have L := s_X10_findLasting_y (X := X) (d := d) (c := c) (w := w) (m := m) (v := v) (E := E) hs1 hc8 hm hn hn9 hp hp4 hln hlq 21 v2 (m.2.1 81 6) (by decide) hL0
  rw [upd_self, setA_self] at L
  exact L
theorem s_X10_turnsNow_l {X : kX} {d : Nat} {c w m v : kZ} {E : kH} {p : Nat} (hp : m.2.1 81 2 = nI p) (hp4 : p ≤ 4) (htn : ∀ j, j < p → ∃ t : Nat, t < 4 ∧ m.2.1 81 (45 + 2 * j + 1) = nI t) : ∀ (k : Nat) (i : Nat), (i + k = p) → WP X d 0 0 Y_X10_turnsNow 4 [(2, .int (nI (i))), (1, .int (nI (ktn (mtp (m.2.1 81)) i))), (0, .ref (80))] [] (HP c w m v E) (kR (some (.int (nI (ktn (mtp (m.2.1 81)) p)))) (HP c w m v E)) := by
  intro k
  induction k using Nat.strongRecOn with
  | ind k ih =>
    intro i hi
    refine wp_iload_n 0 d_X10_turnsNow_4 rfl rfl ?_
    refine wp_aload_n 2 d_X10_turnsNow_5 rfl rfl ?_
    refine wp_getfield (v := .ref (81)) d_X10_turnsNow_6 gf_X10_7 (hp_80 _ _ _ _ _) rfl ?_
    refine wp_iconst (v0 := 2) d_X10_turnsNow_9 rfl ?_
    refine wp_iaload (v := nI (p)) d_X10_turnsNow_10 (hp_81 _ _ _ _ _) (kin rfl) hp ?_
    refine wp_ncmp_ge (a := i) (b := p) 40 d_X10_turnsNow_11 rfl (by omega) (by omega) (fun zc11 => ?_) (fun zc11 => ?_)
    · refine wp_iload_n 1 d_X10_turnsNow_40 rfl rfl ?_
      refine wp_reti d_X10_turnsNow_41 rfl ?_
      obtain rfl : k = 0 := by omega
      obtain rfl : i = p := by omega
      exact kR_i rfl rfl
    · obtain ⟨t9, ht9, ht0⟩ := htn i (by omega)
      refine wp_iload_n 1 d_X10_turnsNow_14 rfl rfl ?_
      refine wp_aload_n 2 d_X10_turnsNow_15 rfl rfl ?_
      refine wp_getfield (v := .ref (81)) d_X10_turnsNow_16 gf_X10_7 (hp_80 _ _ _ _ _) rfl ?_
      refine wp_bipush (v0 := 45) d_X10_turnsNow_19 (by decide) ?_
      refine wp_iconst (v0 := 2) d_X10_turnsNow_21 rfl ?_
      refine wp_iload_n 0 d_X10_turnsNow_22 rfl rfl ?_
      refine wp_imul d_X10_turnsNow_23 ?_
      refine wp_v (v0 := nI ((2) * (i))) (pk_mul (2) (i)) ?_
      refine wp_iadd d_X10_turnsNow_24 ?_
      refine wp_v (v0 := nI ((45) + ((2) * (i)))) (nI_add (45) ((2) * (i))) ?_
      refine wp_iconst (v0 := 1) d_X10_turnsNow_25 rfl ?_
      refine wp_iadd d_X10_turnsNow_26 ?_
      refine wp_v (v0 := nI (((45) + ((2) * (i))) + (1))) (nI_add ((45) + ((2) * (i))) (1)) ?_
      refine wp_iaload (v := nI (t9)) d_X10_turnsNow_27 (hp_81 _ _ _ _ _) (vp_in_nI (by omega) (by omega)) ((congrArg ((m.2.1 81)) (nI_clamp (by omega))).trans ht0) ?_
      refine wp_iconst (v0 := 2) d_X10_turnsNow_28 rfl ?_
      refine wp_iload_n 0 d_X10_turnsNow_29 rfl rfl ?_
      refine wp_imul d_X10_turnsNow_30 ?_
      refine wp_v (v0 := nI ((2) * (i))) (pk_mul (2) (i)) ?_
      refine wp_ishl d_X10_turnsNow_31 ?_
      refine wp_ior d_X10_turnsNow_32 ?_
      refine wp_v (v0 := nI (ktn (mtp (m.2.1 81)) i + t9 * 4 ^ i)) (kput_d i (ktn (mtp (m.2.1 81)) i) t9 (by omega) (ktn_lt (P := p) hp4 i (by omega) htn) ht9) ?_
      refine wp_istore_n [(1, .int (nI (ktn (mtp (m.2.1 81)) i + t9 * 4 ^ i))), (2, .int (nI (i))), (0, .ref (80))] d_X10_turnsNow_33 rfl (Nat.le_of_ble_eq_true rfl) rfl ?_
      refine wp_iinc (v0 := nI ((i) + 1)) [(2, .int (nI ((i) + 1))), (1, .int (nI (ktn (mtp (m.2.1 81)) i + t9 * 4 ^ i))), (0, .ref (80))] 1 d_X10_turnsNow_34 rfl (nI_add (i) 1) (Nat.le_of_ble_eq_true rfl) rfl ?_
      refine wp_goto 4 d_X10_turnsNow_37 rfl ?_
      obtain ⟨k1, rfl⟩ : ∃ k1, k = k1 + 1 := ⟨k - 1, by omega⟩
      refine wp_sub [(2, .int (nI ((i) + 1))), (1, .int (nI (ktn (mtp (m.2.1 81)) i + t9 * 4 ^ i))), (0, .ref (80))] [0, 1, 2] rfl ?_
      rw [show ktn (mtp (m.2.1 81)) i + t9 * 4 ^ i = ktn (mtp (m.2.1 81)) (i + 1) by simp only [ktn]; rw [show (mtp (m.2.1 81)) i = nI t9 from ht0, nI_clamp (by omega)]]
      exact ih k1 (by omega) (i + 1) (by omega)
theorem s_X10_turnsNow {X : kX} {d : Nat} {c w m v : kZ} {E : kH} {p : Nat} (hp : m.2.1 81 2 = nI p) (hp4 : p ≤ 4) (htn : ∀ j, j < p → ∃ t : Nat, t < 4 ∧ m.2.1 81 (45 + 2 * j + 1) = nI t) : WP X d 0 0 Y_X10_turnsNow 0 [(0, .ref (80))] [] (HP c w m v E) (kR (some (.int (nI (ktn (mtp (m.2.1 81)) p)))) (HP c w m v E)) := by
  refine wp_iconst (v0 := 0) d_X10_turnsNow_0 rfl ?_
  refine wp_istore_n [(1, .int (0)), (0, .ref (80))] d_X10_turnsNow_1 rfl (Nat.le_of_ble_eq_true rfl) rfl ?_
  refine wp_iconst (v0 := 0) d_X10_turnsNow_2 rfl ?_
  refine wp_istore_n [(2, .int (0)), (1, .int (0)), (0, .ref (80))] d_X10_turnsNow_3 rfl (Nat.le_of_ble_eq_true rfl) rfl ?_
  refine wp_sub [(2, .int (0)), (1, .int (0)), (0, .ref (80))] [0, 1, 2] rfl ?_
  exact s_X10_turnsNow_l hp hp4 htn p 0 (by omega)
theorem s_X10_years {X : kX} {d : Nat} {c w m v : kZ} {E : kH} {cnt : Nat} (hs1 : (m.2.1 81) 1 = nI cnt) (hc8 : cnt ≤ 8) {en : Nat → Nat} (hm : mWF (m.2.1 81) cnt en) {n : Nat} (hn : m.2.1 81 0 = nI n) (hn9 : n ≤ 9) {p : Nat} (hp : m.2.1 81 2 = nI p) (hp4 : p ≤ 4) (hln : ∀ j, j < p → vp_in (mlp (m.2.1 81) j) n) {ln : Nat → Nat} (hlq : ∀ j, j < p → m.2.1 81 (45 + 2 * j) = nI (ln j) ∧ ln j < n) (htn : ∀ j, j < p → ∃ t : Nat, t < 4 ∧ m.2.1 81 (45 + 2 * j + 1) = nI t) : WP X (d + 10) 0 0 Y_X10_years 0 [(0, .ref (80))] [] (HP c w m v E) (fun r h1 => r = some (.int (kyr (mYM (m.2.1 81) en cnt p ln) p 21 (ktn (mtp (m.2.1 81)) p))) ∧ ∃ v1 : kZ, h1 = HP c w m v1 E) := by
  refine wp_aload_n 0 d_X10_years_0 rfl rfl ?_
  refine wp_virtual0 (As := []) d_X10_years_1 lk_X10_216 mv_X10_findLasting in_X10_findLasting se_X10_findLasting (Nat.le_of_ble_eq_true rfl) (Nat.le_of_ble_eq_true rfl) (hp_80 _ _ _ _ _) rfl (s_X10_findLasting hs1 hc8 hm hn hn9 hp hp4 hln hlq) (fun v1 h1 q1 => ?_)
  obtain ⟨rfl, v1, rfl, hLs1⟩ := q1
  show WP _ _ _ _ _ 4 _ [] (HP c w m v1 E) _
  refine wp_aload_n 0 d_X10_years_4 rfl rfl ?_
  refine wp_getfield (v := .ref (92)) d_X10_years_5 gf_X10_44 (hp_80 _ _ _ _ _) rfl ?_
  refine wp_aload_n 0 d_X10_years_8 rfl rfl ?_
  refine wp_vrt_i (As := []) (x0 := nI (ktn (mtp (m.2.1 81)) p)) (h1 := HP c w m v1 E) d_X10_years_9 lk_X10_219 mv_X10_turnsNow in_X10_turnsNow se_X10_turnsNow (Nat.le_of_ble_eq_true rfl) (Nat.le_of_ble_eq_true rfl) (hp_80 _ _ _ _ _) rfl (s_X10_turnsNow hp hp4 htn) ?_
  have hkt := ktn_lt (P := p) (tn := (mtp (m.2.1 81))) hp4 p (Nat.le_refl _) htn
  have h4 := k4P p hp4
  refine wp_iaload (v := (v1.2.1 92) (ktn (mtp (m.2.1 81)) p)) d_X10_years_12 (hp_92 _ _ _ _ _) (vp_in_nI (by omega) (by omega)) (congrArg ((v1.2.1 92)) (nI_clamp (by omega))) ?_
  refine wp_reti d_X10_years_13 rfl ?_
  have h9 := hLs1 0 (ktn (mtp (m.2.1 81)) p) (by omega) (by omega) hkt
  rw [Nat.mul_zero, Nat.zero_add] at h9
  exact ⟨congrArg (fun z => some (Value.int z)) h9, v1, rfl⟩
def kwm (V : Nat → Nat → Int32) (P : Nat) : Nat → Nat → Nat → Nat → Nat
  | 0, _, _, pl => pl
  | k + 1, y, T, _ => kwm V P k (y + 1) (knx T (kpd (V y) T (V (y - 1) T - 1) P 4)) (kpd (V y) T (V (y - 1) T - 1) P 4)
theorem kwm_congr {V V' : Nat → Nat → Int32} {P : Nat} (hP : P ≤ 4) : ∀ k y T pl, y + k ≤ 22 → T < 4 ^ P → (∀ y T, y ≤ 21 → T < 4 ^ P → V y T = V' y T) → kwm V P k y T pl = kwm V' P k y T pl := by
  intro k
  induction k with
  | zero => intro y T pl _ _ _; rfl
  | succ k ih =>
    intro y T pl hy hT h
    have h1 := fun T (hT : T < 4 ^ P) => h y T (by omega) hT
    simp only [kwm]
    rw [h (y - 1) T (by omega) hT, kpd_congr hP hT h1 P 4 (Nat.le_refl _)]
    exact ih _ _ _ (by omega) (knx_lt hP hT (kpd_lt P 4 (Nat.le_refl _) (Or.inr rfl))) h
theorem s_X10_turned_p {X : kX} {d : Nat} {c w m v1 : kZ} {E : kH} {p : Nat} (hp4 : p ≤ 4) {y T N : Nat} (hy : y ≤ 20) (hT : T < 4 ^ p) (due : Int32) {Q : Option Value → kH → Prop} (K : WP X (d + 3) 0 0 Y_X10_turned 119 [(3, .int (nI (kpd (fun T' => v1.2.1 92 (256 * y + T')) T due p 4))), (4, .int (nI y)), (2, .int (nI T)), (0, .ref 80), (1, .int (nI N))] [] (HP c w m v1 E) Q) : ∀ (k pl : Nat), k ≤ p → kpd (fun T' => v1.2.1 92 (256 * y + T')) T due k pl = kpd (fun T' => v1.2.1 92 (256 * y + T')) T due p 4 → WP X (d + 3) 0 0 Y_X10_turned 78 [(6, .int (nI k + (-1))), (3, .int (nI pl)), (5, .int due), (4, .int (nI y)), (2, .int (nI T)), (0, .ref 80), (1, .int (nI N))] [] (HP c w m v1 E) Q := by
  have h4 := k4P p hp4
  intro k
  induction k with
  | zero =>
    intro pl hk hq
    rw [show nI 0 + (-1) = (-1 : Int32) by decide]
    refine wp_iload 0 d_X10_turned_78 rfl ?_
    refine wp_if_lt 119 d_X10_turned_80 rfl (fun _ => ?_) (fun z => absurd z (by decide))
    refine wp_sub [(3, .int (nI pl)), (4, .int (nI y)), (2, .int (nI T)), (0, .ref 80), (1, .int (nI N))] [1, 3, 4, 5, 6] rfl ?_
    rw [show pl = kpd (fun T' => v1.2.1 92 (256 * y + T')) T due p 4 from hq]
    exact K
  | succ k ih =>
    intro pl hk hq
    rw [show nI (k + 1) + (-1) = nI k from pk_m1 k]
    refine wp_iload 0 d_X10_turned_78 rfl ?_
    refine wp_nif_lt (a := k) 119 d_X10_turned_80 rfl (by omega) ?_
    refine wp_aload_n 5 d_X10_turned_83 rfl rfl ?_
    refine wp_getfield (v := .ref (92)) d_X10_turned_84 gf_X10_44 (hp_80 _ _ _ _ _) rfl ?_
    refine wp_sipush (v0 := 256) d_X10_turned_87 (by decide) ?_
    refine wp_iload 3 d_X10_turned_90 rfl ?_
    refine wp_imul d_X10_turned_92 ?_
    refine wp_v (v0 := nI ((256) * (y))) (pk_mul (256) (y)) ?_
    refine wp_iload_n 4 d_X10_turned_93 rfl rfl ?_
    refine wp_iload 0 d_X10_turned_94 rfl ?_
    have hkl := kqm_lt p T k hp4 hT (by omega)
    refine wp_stc_i (As := [.int (nI (T)), .int (nI (k))]) (x0 := nI (kqm (T) (k))) (h1 := HP c w m v1 E) d_X10_turned_96 lk_X10_210 mv_X10_quarter st_X10_quarter (Nat.le_of_ble_eq_true rfl) (Nat.le_of_ble_eq_true rfl) (s_X10_quarter (T := T) (p := k) (by omega) (by omega)) ?_
    refine wp_iadd d_X10_turned_99 ?_
    refine wp_v (v0 := nI (((256) * (y)) + (kqm (T) (k)))) (nI_add ((256) * (y)) (kqm (T) (k))) ?_
    refine wp_iaload (v := (v1.2.1 92) (((256) * (y)) + (kqm (T) (k)))) d_X10_turned_100 (hp_92 _ _ _ _ _) (vp_in_nI (by omega) (by omega)) (congrArg ((v1.2.1 92)) (nI_clamp (by omega))) ?_
    refine wp_iload 2 d_X10_turned_101 rfl ?_
    refine wp_icmp_ne 111 d_X10_turned_103 rfl (fun zc103 => ?_) (fun zc103 => ?_)
    · refine wp_iload_n 1 d_X10_turned_111 rfl rfl ?_
      refine wp_istore_n [(3, .int (nI (pl))), (6, .int (nI (k))), (5, .int (due)), (4, .int (nI (y))), (2, .int (nI (T))), (0, .ref (80)), (1, .int (nI (N)))] d_X10_turned_112 rfl (Nat.le_of_ble_eq_true rfl) rfl ?_
      refine wp_iinc (v0 := (nI (k)) + (-1)) [(6, .int ((nI (k)) + (-1))), (3, .int (nI (pl))), (5, .int (due)), (4, .int (nI (y))), (2, .int (nI (T))), (0, .ref (80)), (1, .int (nI (N)))] 1 d_X10_turned_113 rfl rfl (Nat.le_of_ble_eq_true rfl) rfl ?_
      refine wp_goto 78 d_X10_turned_116 rfl ?_
      refine wp_sub [(6, .int ((nI (k)) + (-1))), (3, .int (nI (pl))), (5, .int (due)), (4, .int (nI (y))), (2, .int (nI (T))), (0, .ref (80)), (1, .int (nI (N)))] [0, 1, 2, 3, 4, 5, 6] rfl ?_
      simp only [kpd] at hq
      rw [if_neg zc103] at hq
      exact ih pl (by omega) hq
    · refine wp_iload 0 d_X10_turned_106 rfl ?_
      refine wp_goto 112 d_X10_turned_108 rfl ?_
      refine wp_istore_n [(3, .int (nI (k))), (6, .int (nI (k))), (5, .int (due)), (4, .int (nI (y))), (2, .int (nI (T))), (0, .ref (80)), (1, .int (nI (N)))] d_X10_turned_112 rfl (Nat.le_of_ble_eq_true rfl) rfl ?_
      refine wp_iinc (v0 := (nI (k)) + (-1)) [(6, .int ((nI (k)) + (-1))), (3, .int (nI (k))), (5, .int (due)), (4, .int (nI (y))), (2, .int (nI (T))), (0, .ref (80)), (1, .int (nI (N)))] 1 d_X10_turned_113 rfl rfl (Nat.le_of_ble_eq_true rfl) rfl ?_
      refine wp_goto 78 d_X10_turned_116 rfl ?_
      refine wp_sub [(6, .int ((nI (k)) + (-1))), (3, .int (nI (k))), (5, .int (due)), (4, .int (nI (y))), (2, .int (nI (T))), (0, .ref (80)), (1, .int (nI (N)))] [0, 1, 2, 3, 4, 5, 6] rfl ?_
      simp only [kpd] at hq
      rw [if_pos zc103] at hq
      exact ih k (by omega) hq
theorem s_X10_turned_y {X : kX} {d : Nat} {c w m v : kZ} {E : kH} {v1 : kZ} {p : Nat} (hp : m.2.1 81 2 = nI p) (hp4 : p ≤ 4) {N : Nat} (hN : N ≤ 20) {A : Nat} : ∀ (k : Nat) (y : Nat) (T : Nat) (pl0 : Nat), (y + k = N + 1) → (1 ≤ y) → (T < 4 ^ p) → (pl0 < p ∨ pl0 = 4) → (kwm (fun y T => v1.2.1 92 (256 * y + T)) p k y T pl0 = A) → WP X (d + 3) 0 0 Y_X10_turned 41 [(4, .int (nI (y))), (3, .int (nI (pl0))), (2, .int (nI (T))), (0, .ref (80)), (1, .int (nI (N)))] [] (HP c w m v1 E) (kR (some (.int (nI A))) (HP c w m v1 E)) := by
  intro k
  induction k using Nat.strongRecOn with
  | ind k ih =>
    intro y T pl0 hyk hy1 hT hpl0 hA
    have h4 := k4P p hp4
    refine wp_iload 0 d_X10_turned_41 rfl ?_
    refine wp_iload_n 4 d_X10_turned_43 rfl rfl ?_
    refine wp_ncmp_gt (a := y) (b := N) 140 d_X10_turned_44 rfl (by omega) (by omega) (fun zc44 => ?_) (fun zc44 => ?_)
    · refine wp_iload_n 1 d_X10_turned_140 rfl rfl ?_
      refine wp_reti d_X10_turned_141 rfl ?_
      obtain rfl : k = 0 := by omega
      obtain rfl : pl0 = A := hA
      exact kR_i rfl rfl
    · refine wp_aload_n 3 d_X10_turned_47 rfl rfl ?_
      refine wp_getfield (v := .ref (92)) d_X10_turned_48 gf_X10_44 (hp_80 _ _ _ _ _) rfl ?_
      refine wp_sipush (v0 := 256) d_X10_turned_51 (by decide) ?_
      refine wp_iload 0 d_X10_turned_54 rfl ?_
      refine wp_iconst (v0 := 1) d_X10_turned_56 rfl ?_
      refine wp_isub d_X10_turned_57 ?_
      refine wp_v (v0 := nI ((y) - (1))) (pk_sub (a := y) (b := 1) (by omega)) ?_
      refine wp_imul d_X10_turned_58 ?_
      refine wp_v (v0 := nI ((256) * ((y) - (1)))) (pk_mul (256) ((y) - (1))) ?_
      refine wp_iload_n 2 d_X10_turned_59 rfl rfl ?_
      refine wp_iadd d_X10_turned_60 ?_
      refine wp_v (v0 := nI (((256) * ((y) - (1))) + (T))) (nI_add ((256) * ((y) - (1))) (T)) ?_
      refine wp_iaload (v := (v1.2.1 92) (((256) * ((y) - (1))) + (T))) d_X10_turned_61 (hp_92 _ _ _ _ _) (vp_in_nI (by omega) (by omega)) (congrArg ((v1.2.1 92)) (nI_clamp (by omega))) ?_
      refine wp_iconst (v0 := 1) d_X10_turned_62 rfl ?_
      refine wp_isub d_X10_turned_63 ?_
      refine wp_istore [(5, .int (((v1.2.1 92) (((256) * ((y) - (1))) + (T))) - (1))), (4, .int (nI (y))), (3, .int (nI (pl0))), (2, .int (nI (T))), (0, .ref (80)), (1, .int (nI (N)))] d_X10_turned_64 (Nat.le_of_ble_eq_true rfl) rfl ?_
      refine wp_iconst (v0 := 4) d_X10_turned_66 rfl ?_
      refine wp_istore_n [(3, .int (4)), (5, .int (((v1.2.1 92) (((256) * ((y) - (1))) + (T))) - (1))), (4, .int (nI (y))), (2, .int (nI (T))), (0, .ref (80)), (1, .int (nI (N)))] d_X10_turned_67 rfl (Nat.le_of_ble_eq_true rfl) rfl ?_
      refine wp_aload_n 4 d_X10_turned_68 rfl rfl ?_
      refine wp_getfield (v := .ref (81)) d_X10_turned_69 gf_X10_7 (hp_80 _ _ _ _ _) rfl ?_
      refine wp_iconst (v0 := 2) d_X10_turned_72 rfl ?_
      refine wp_iaload (v := nI (p)) d_X10_turned_73 (hp_81 _ _ _ _ _) (kin rfl) hp ?_
      refine wp_iconst (v0 := 1) d_X10_turned_74 rfl ?_
      refine wp_isub d_X10_turned_75 ?_
      refine wp_v (v0 := nI p + (-1)) (Int32.sub_eq_add_neg _ _) ?_
      refine wp_istore [(6, .int (nI p + (-1))), (3, .int (4)), (5, .int (((v1.2.1 92) (((256) * ((y) - (1))) + (T))) - (1))), (4, .int (nI (y))), (2, .int (nI (T))), (0, .ref (80)), (1, .int (nI (N)))] d_X10_turned_76 (Nat.le_of_ble_eq_true rfl) rfl ?_
      refine wp_sub [(6, .int (nI p + (-1))), (3, .int (nI 4)), (5, .int (((v1.2.1 92) (((256) * ((y) - (1))) + (T))) - (1))), (4, .int (nI y)), (2, .int (nI T)), (0, .ref 80), (1, .int (nI N))] [0, 1, 2, 3, 4, 5, 6] rfl ?_
      refine s_X10_turned_p hp4 (y := y) (T := T) (by omega) hT _ ?_ p 4 (Nat.le_refl _) rfl
      have hpl := kpd_lt (F := (fun T' => v1.2.1 92 (256 * y + T'))) (T := T) (P := p) (due := (v1.2.1 92 (256 * (y - 1) + T) - 1)) p 4 (Nat.le_refl _) (Or.inr rfl)
      generalize hplv : kpd (fun T' => v1.2.1 92 (256 * y + T')) T (v1.2.1 92 (256 * (y - 1) + T) - 1) p 4 = pl at hpl ⊢
      refine wp_iload_n 0 d_X10_turned_119 rfl rfl ?_
      refine wp_iconst (v0 := 4) d_X10_turned_120 rfl ?_
      refine wp_ncmp_ne (a := pl) (b := 4) 128 d_X10_turned_121 rfl (by omega) (by omega) (fun zc121 => ?_) (fun zc121 => ?_)
      · refine wp_iload_n 2 d_X10_turned_128 rfl rfl ?_
        refine wp_iload_n 0 d_X10_turned_129 rfl rfl ?_
        refine wp_stc_i (As := [.int (nI (T)), .int (nI (pl))]) (x0 := nI (kqm (T) (pl))) (h1 := HP c w m v1 E) d_X10_turned_130 lk_X10_210 mv_X10_quarter st_X10_quarter (Nat.le_of_ble_eq_true rfl) (Nat.le_of_ble_eq_true rfl) (s_X10_quarter (T := T) (p := pl) (by omega) (by omega)) ?_
        refine wp_istore_n [(2, .int (nI (kqm (T) (pl)))), (3, .int (nI (pl))), (4, .int (nI (y))), (0, .ref (80)), (1, .int (nI (N)))] d_X10_turned_133 rfl (Nat.le_of_ble_eq_true rfl) rfl ?_
        refine wp_iinc (v0 := nI ((y) + 1)) [(4, .int (nI ((y) + 1))), (2, .int (nI (kqm (T) (pl)))), (3, .int (nI (pl))), (0, .ref (80)), (1, .int (nI (N)))] 2 d_X10_turned_134 rfl (nI_add (y) 1) (Nat.le_of_ble_eq_true rfl) rfl ?_
        refine wp_goto 41 d_X10_turned_137 rfl ?_
        obtain ⟨k1, rfl⟩ : ∃ k1, k = k1 + 1 := ⟨k - 1, by omega⟩
        refine wp_sub [(4, .int (nI ((y) + 1))), (3, .int (nI (pl))), (2, .int (nI (kqm (T) (pl)))), (0, .ref (80)), (1, .int (nI (N)))] [0, 2, 1, 3, 4] rfl ?_
        have hA2 := hA
        simp only [kwm] at hA2
        rw [hplv] at hA2
        have hkn : knx T pl = kqm T pl := by unfold knx; exact if_pos (by omega)
        have hkl := knx_lt hp4 hT hpl
        rw [hkn] at hA2 hkl
        exact ih k1 (by omega) (y + 1) _ pl (by omega) (by omega) hkl hpl hA2
      · refine wp_iload_n 2 d_X10_turned_124 rfl rfl ?_
        refine wp_goto 133 d_X10_turned_125 rfl ?_
        refine wp_istore_n [(2, .int (nI (T))), (3, .int (nI (pl))), (4, .int (nI (y))), (0, .ref (80)), (1, .int (nI (N)))] d_X10_turned_133 rfl (Nat.le_of_ble_eq_true rfl) rfl ?_
        refine wp_iinc (v0 := nI ((y) + 1)) [(4, .int (nI ((y) + 1))), (2, .int (nI (T))), (3, .int (nI (pl))), (0, .ref (80)), (1, .int (nI (N)))] 2 d_X10_turned_134 rfl (nI_add (y) 1) (Nat.le_of_ble_eq_true rfl) rfl ?_
        refine wp_goto 41 d_X10_turned_137 rfl ?_
        obtain ⟨k1, rfl⟩ : ∃ k1, k = k1 + 1 := ⟨k - 1, by omega⟩
        refine wp_sub [(4, .int (nI ((y) + 1))), (3, .int (nI (pl))), (2, .int (nI (T))), (0, .ref (80)), (1, .int (nI (N)))] [0, 2, 1, 3, 4] rfl ?_
        have hA2 := hA
        simp only [kwm] at hA2
        rw [hplv] at hA2
        have hkn : knx T pl = T := by unfold knx; exact if_neg (by omega)
        have hkl := knx_lt hp4 hT hpl
        rw [hkn] at hA2 hkl
        exact ih k1 (by omega) (y + 1) _ pl (by omega) (by omega) hkl hpl hA2
theorem s_X10_turned {X : kX} {d : Nat} {c w m v : kZ} {E : kH} {cnt : Nat} (hs1 : (m.2.1 81) 1 = nI cnt) (hc8 : cnt ≤ 8) {en : Nat → Nat} (hm : mWF (m.2.1 81) cnt en) {n : Nat} (hn : m.2.1 81 0 = nI n) (hn9 : n ≤ 9) {p : Nat} (hp : m.2.1 81 2 = nI p) (hp4 : p ≤ 4) (hln : ∀ j, j < p → vp_in (mlp (m.2.1 81) j) n) {ln : Nat → Nat} (hlq : ∀ j, j < p → m.2.1 81 (45 + 2 * j) = nI (ln j) ∧ ln j < n) (htn : ∀ j, j < p → ∃ t : Nat, t < 4 ∧ m.2.1 81 (45 + 2 * j + 1) = nI t) (x : Int32) : WP X (d + 10) 0 0 Y_X10_turned 0 [(0, .ref (80)), (1, .int (x))] [] (HP c w m v E) (fun r h1 => (¬ (1 ≤ x.toInt ∧ x.toInt ≤ 20) ∧ r = some (.int (-1)) ∧ h1 = HP c w m v E) ∨ ∃ N : Nat, 1 ≤ N ∧ N ≤ 20 ∧ x = nI N ∧ r = some (.int (if (kyr (mYM (m.2.1 81) en cnt p ln) p 21 (ktn (mtp (m.2.1 81)) p)) ≤ nI N then -3 else nI (kwm (fun y T => kyr (mYM (m.2.1 81) en cnt p ln) p (21 - y) T) p N 1 (ktn (mtp (m.2.1 81)) p) 4))) ∧ ∃ v1 : kZ, h1 = HP c w m v1 E) := by
  refine wp_iload_n 1 d_X10_turned_0 rfl rfl ?_
  refine wp_i2l d_X10_turned_1 ?_
  refine wp_lconst (v0 := 1) d_X10_turned_2 rfl ?_
  refine wp_ldc2 (v0 := 20) d_X10_turned_3 cl_X10_222 ?_
  refine wp_stc_i (As := [.long (Int32.toInt64 (x)), .long (1), .long (20)]) (x0 := kb (1 ≤ (x : Int32).toInt ∧ (x : Int32).toInt ≤ 20)) (h1 := HP c w m v E) d_X10_turned_6 lk_X10_74 mv_X10_in st_X10_in (Nat.le_of_ble_eq_true rfl) (Nat.le_of_ble_eq_true rfl) (s_X10_in_i _ (x) (1) (20)) ?_
  refine wp_ifb_ne 14 d_X10_turned_9 rfl (fun zc9 => ?_) (fun zc9 => ?_)
  · have hN1b := zc9.1
    obtain ⟨N, hN, rfl⟩ := k_natle (n := 20) (x := x) ⟨by omega, zc9.2⟩
    have hN1 : 1 ≤ N := by rw [nI_toInt (by omega)] at hN1b; omega
    refine wp_aload_n 0 d_X10_turned_14 rfl rfl ?_
    refine wp_virtual0 (As := []) d_X10_turned_15 lk_X10_216 mv_X10_findLasting in_X10_findLasting se_X10_findLasting (Nat.le_of_ble_eq_true rfl) (Nat.le_of_ble_eq_true rfl) (hp_80 _ _ _ _ _) rfl (s_X10_findLasting hs1 hc8 hm hn hn9 hp hp4 hln hlq) (fun v15 h15 q15 => ?_)
    obtain ⟨rfl, v1, rfl, hLs1⟩ := q15
    show WP _ _ _ _ _ 18 _ [] (HP c w m v1 E) _
    refine wp_aload_n 0 d_X10_turned_18 rfl rfl ?_
    refine wp_vrt_i (As := []) (x0 := nI (ktn (mtp (m.2.1 81)) p)) (h1 := HP c w m v1 E) d_X10_turned_19 lk_X10_219 mv_X10_turnsNow in_X10_turnsNow se_X10_turnsNow (Nat.le_of_ble_eq_true rfl) (Nat.le_of_ble_eq_true rfl) (hp_80 _ _ _ _ _) rfl (s_X10_turnsNow hp hp4 htn) ?_
    have hkt := ktn_lt (P := p) (tn := (mtp (m.2.1 81))) hp4 p (Nat.le_refl _) htn
    have h4 := k4P p hp4
    refine wp_istore_n [(2, .int (nI (ktn (mtp (m.2.1 81)) p))), (0, .ref (80)), (1, .int (nI (N)))] d_X10_turned_22 rfl (Nat.le_of_ble_eq_true rfl) rfl ?_
    refine wp_aload_n 1 d_X10_turned_23 rfl rfl ?_
    refine wp_getfield (v := .ref (92)) d_X10_turned_24 gf_X10_44 (hp_80 _ _ _ _ _) rfl ?_
    refine wp_iload_n 0 d_X10_turned_27 rfl rfl ?_
    refine wp_iaload (v := (v1.2.1 92) (ktn (mtp (m.2.1 81)) p)) d_X10_turned_28 (hp_92 _ _ _ _ _) (vp_in_nI (by omega) (by omega)) (congrArg ((v1.2.1 92)) (nI_clamp (by omega))) ?_
    refine wp_iload_n 2 d_X10_turned_29 rfl rfl ?_
    refine wp_icmp_gt 36 d_X10_turned_30 rfl (fun zc30 => ?_) (fun zc30 => ?_)
    · refine wp_iconst (v0 := 4) d_X10_turned_36 rfl ?_
      refine wp_istore_n [(3, .int (4)), (2, .int (nI (ktn (mtp (m.2.1 81)) p))), (0, .ref (80)), (1, .int (nI (N)))] d_X10_turned_37 rfl (Nat.le_of_ble_eq_true rfl) rfl ?_
      refine wp_iconst (v0 := 1) d_X10_turned_38 rfl ?_
      refine wp_istore [(4, .int (1)), (3, .int (4)), (2, .int (nI (ktn (mtp (m.2.1 81)) p))), (0, .ref (80)), (1, .int (nI (N)))] d_X10_turned_39 (Nat.le_of_ble_eq_true rfl) rfl ?_
      have h9 := hLs1 0 (ktn (mtp (m.2.1 81)) p) (by omega) (by omega) hkt
      rw [Nat.mul_zero, Nat.zero_add] at h9
      rw [show v1.2.1 92 (ktn (mtp (m.2.1 81)) p) = (kyr (mYM (m.2.1 81) en cnt p ln) p 21 (ktn (mtp (m.2.1 81)) p)) from h9] at zc30
      refine wp_sub [(4, .int (1)), (3, .int (4)), (2, .int (nI (ktn (mtp (m.2.1 81)) p))), (0, .ref (80)), (1, .int (nI (N)))] [0, 1, 2, 3, 4] rfl ?_
      refine wp_mono ?_ (s_X10_turned_y (v := v) (v1 := v1) hp hp4 hN N 1 (ktn (mtp (m.2.1 81)) p) 4 (by omega) (by omega) hkt (Or.inr rfl) rfl)
      rintro r h1 ⟨rfl, rfl⟩
      have e9 := kwm_congr (V := fun y T => v1.2.1 92 (256 * y + T)) (V' := fun y T => kyr (mYM (m.2.1 81) en cnt p ln) p (21 - y) T) hp4 N 1 (ktn (mtp (m.2.1 81)) p) 4 (by omega) hkt (fun y9 T9 g1 g2 => hLs1 y9 T9 (by omega) g1 g2)
      exact Or.inr ⟨N, hN1, hN, rfl, by rw [if_neg (Int32.not_le.mpr zc30), e9], v1, rfl⟩
    · refine wp_bipush (v0 := -3) d_X10_turned_33 (by decide) ?_
      refine wp_reti d_X10_turned_35 rfl ?_
      have h9 := hLs1 0 (ktn (mtp (m.2.1 81)) p) (by omega) (by omega) hkt
      rw [Nat.mul_zero, Nat.zero_add] at h9
      rw [show v1.2.1 92 (ktn (mtp (m.2.1 81)) p) = (kyr (mYM (m.2.1 81) en cnt p ln) p 21 (ktn (mtp (m.2.1 81)) p)) from h9] at zc30
      exact Or.inr ⟨N, hN1, hN, rfl, by rw [if_pos (Int32.not_lt.mp zc30)], v1, rfl⟩
  · refine wp_iconst (v0 := -1) d_X10_turned_12 rfl ?_
    refine wp_reti d_X10_turned_13 rfl ?_
    exact Or.inl ⟨zc9, rfl, rfl⟩
