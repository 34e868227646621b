/-! ===== the class: light ===== -/
theorem kval_congr {f g : Nat → Int32} (h : ∀ k, k < 5 → f k = g k) (x : Int32) : kval f x = kval g x := by
  unfold kval
  split
  · rename_i q
    refine h _ ?_
    have q2 := q.2
    have q1 := q.1
    simp only [Int32.lt_iff_toInt_lt, Int32.le_iff_toInt_le] at q1 q2
    have e1 : (0 : Int32).toInt = 0 := by decide
    have e5 : (5 : Int32).toInt = 5 := by decide
    rw [e1] at q1
    rw [e5] at q2
    show (x - 10000).toInt.toNat < 5
    omega
  · rfl
theorem kcmp_congr {f g : Nat → Int32} (h : ∀ k, k < 5 → f k = g k) (x : Int32) : kcmp f x = kcmp g x := by
  unfold kcmp
  rw [kval_congr h, kval_congr h]
theorem kfold_congr {f g code : Nat → Int32} (h : ∀ k, k < 5 → f k = g k) : ∀ k i s, kfold f code k i s = kfold g code k i s := by
  intro k
  induction k with
  | zero => intro i s; rfl
  | succ k ih =>
    intro i s
    simp only [kfold]
    rw [show kstk f s (code i) = kstk g s (code i) by unfold kstk; rw [kcmp_congr h], ih]
theorem kbent_congr {f g code : Nat → Int32} (h : ∀ k, k < 5 → f k = g k) (kd b : Int32) : ∀ k i, kbent f code kd b k i = kbent g code kd b k i := by
  intro k
  induction k with
  | zero => intro i; rfl
  | succ k ih =>
    intro i
    simp only [kbent]
    rw [kfold_congr h, ih]
def kfac (heat gap eye bend : Int32) (l : Nat) : Nat → Int32 := fun k => match k with | 0 => heat | 1 => gap | 2 => eye | 3 => bend | _ => nI l
/-- STRENGTH of a lens, by its kind, bend and number, as the rules and the settings are -/
def kstr (code : Nat → Int32) (cnt : Nat) (heat gap eye kd bd : Int32) (l : Nat) : Int32 := kclip (kunc kd (kbent (kfac heat gap eye bd l) code kd bd cnt 0) heat)
/-- but for what load() writes -/
def kLl (w w' : kZ) : Prop := (∀ k, k < 4203 ∨ 4205 < k → w'.1 k = w.1 k) ∧ (∀ k, k < 43 ∨ 45 < k → w'.2.1 k = w.2.1 k) ∧ w'.2.2 = w.2.2
theorem kLl.rf (w : kZ) : kLl w w := ⟨fun _ _ => rfl, fun _ _ => rfl, rfl⟩
/-- but for what passing light writes -/
def kLf (w w' : kZ) : Prop := (∀ k, k ≠ 4210 → w'.1 k = w.1 k) ∧ (∀ k, k < 46 ∨ 49 < k → w'.2.1 k = w.2.1 k) ∧ w'.2.2 = w.2.2
theorem kLf.rf (w : kZ) : kLf w w := ⟨fun _ _ => rfl, fun _ _ => rfl, rfl⟩
theorem kLf.tr {a b c : kZ} (h : kLf a b) (g : kLf b c) : kLf a c := ⟨fun k hk => (g.1 k hk).trans (h.1 k hk), fun k hk => (g.2.1 k hk).trans (h.2.1 k hk), g.2.2.trans h.2.2⟩
/-- but for all of light -/
def kLa (w w' : kZ) : Prop := (∀ k, k < 4200 ∨ 4299 < k → w'.1 k = w.1 k) ∧ (∀ k, k < 43 ∨ 49 < k → w'.2.1 k = w.2.1 k) ∧ w'.2.2 = w.2.2
theorem kLa.rf (w : kZ) : kLa w w := ⟨fun _ _ => rfl, fun _ _ => rfl, rfl⟩
theorem kLa.tr {a b c : kZ} (h : kLa a b) (g : kLa b c) : kLa a c := ⟨fun k hk => (g.1 k hk).trans (h.1 k hk), fun k hk => (g.2.1 k hk).trans (h.2.1 k hk), g.2.2.trans h.2.2⟩
theorem kLl.a {a b : kZ} (h : kLl a b) : kLa a b := ⟨fun k hk => h.1 k (by omega), fun k hk => h.2.1 k (by omega), h.2.2⟩
theorem kLf.a {a b : kZ} (h : kLf a b) : kLa a b := ⟨fun k hk => h.1 k (by omega), fun k hk => h.2.1 k (by omega), h.2.2⟩
/-- light is loaded with these settings, strengths, tilts of n lenses -/
def kLd (w : kZ) (gap eye lim : Int32) (st tl : Nat → Int32) (n : Nat) : Prop := w.1 4203 = gap ∧ w.1 4204 = eye ∧ w.1 4205 = lim ∧ (∀ j, j < n → w.2.1 44 j = st j) ∧ ∀ j, j < 9 → w.2.1 45 j = tl j
theorem kLd.f {w w' : kZ} {gap eye lim : Int32} {st tl : Nat → Int32} {n : Nat} (h : kLd w gap eye lim st tl n) (g : kLf w w') : kLd w' gap eye lim st tl n := by
  obtain ⟨h1, h2, h3, h4, h5⟩ := h
  exact ⟨by rw [g.1 _ (by decide)]; exact h1, by rw [g.1 _ (by decide)]; exact h2, by rw [g.1 _ (by decide)]; exact h3, fun j hj => by rw [g.2.1 _ (by decide)]; exact h4 j hj, fun j hj => by rw [g.2.1 _ (by decide)]; exact h5 j hj⟩
theorem s_X5_load_l {X : kX} {d : Nat} {c w m v : kZ} {E : kH} {n : Nat} (hn : c.1 100 = nI n) (hn9 : n ≤ 9) {rho cnt ka L : Nat} {code : Nat → Int32} (hrr : c.2.2.1 1 = rho) (hR : kRu E rho cnt ka L code) (hL : L < 2 ^ 20) (hc8 : cnt ≤ 8) (hwf : kWF code L cnt 0) (hk : ∀ j, j < n → 1 ≤ (c.2.1 2 j).toInt ∧ (c.2.1 2 j).toInt ≤ 5) : ∀ (k : Nat) (i : Nat) (w' : kZ), (i + k = n) → (kLl w w') → (w'.1 4203 = c.2.1 6 1 ∧ w'.1 4204 = c.2.1 6 2 ∧ w'.1 4205 = c.2.1 6 3) → (w'.2.1 43 0 = c.2.1 6 0 ∧ w'.2.1 43 1 = c.2.1 6 1 ∧ w'.2.1 43 2 = c.2.1 6 2) → (∀ l, l < i → w'.2.1 44 l = (kstr code cnt (c.2.1 6 0) (c.2.1 6 1) (c.2.1 6 2) (c.2.1 2 l) (c.2.1 3 l) l)) → (∀ j, j < 9 → w'.2.1 45 j = c.2.1 4 j) → WP X (d + 5) 0 0 Y_X5_load 61 [(2, .int (nI (i))), (0, .ref (42)), (1, .ref (1))] [] (HP c w' m v E) (fun r h1 => r = none ∧ ∃ w1 : kZ, h1 = HP c w1 m v E ∧ kLl w w1 ∧ kLd w1 (c.2.1 6 1) (c.2.1 6 2) (c.2.1 6 3) (fun l => (kstr code cnt (c.2.1 6 0) (c.2.1 6 1) (c.2.1 6 2) (c.2.1 2 l) (c.2.1 3 l) l)) (c.2.1 4) n) := by
  intro k
  induction k using Nat.strongRecOn with
  | ind k ih =>
    intro i w' hi hf hst hfa hs ht
    refine wp_iload_n 0 d_X5_load_61 rfl rfl ?_
    refine wp_aload_n 2 d_X5_load_62 rfl rfl ?_
    refine wp_getfield (v := .int (nI (n))) d_X5_load_63 gf_X5_57 (hp_1 _ _ _ _ _) (congrArg (fun z => some (Value.int z)) hn) ?_
    refine wp_ncmp_ge (a := i) (b := n) 132 d_X5_load_66 rfl (by omega) (by omega) (fun c66 => ?_) (fun c66 => ?_)
    · refine wp_vret d_X5_load_132 rfl ?_
      obtain rfl : i = n := by omega
      exact ⟨rfl, w', rfl, hf, hst.1, hst.2.1, hst.2.2, hs, ht⟩
    · refine wp_aload_n 1 d_X5_load_69 rfl rfl ?_
      refine wp_getfield (v := .ref (43)) d_X5_load_70 gf_X5_11 (hp_42 _ _ _ _ _) rfl ?_
      refine wp_iconst (v0 := 3) d_X5_load_73 rfl ?_
      refine wp_aload_n 2 d_X5_load_74 rfl rfl ?_
      refine wp_getfield (v := .ref (3)) d_X5_load_75 gf_X5_60 (hp_1 _ _ _ _ _) rfl ?_
      refine wp_iload_n 0 d_X5_load_78 rfl rfl ?_
      refine wp_iaload (v := (c.2.1 3) (i)) d_X5_load_79 (hp_3 _ _ _ _ _) (vp_in_nI (by omega) (by omega)) (congrArg ((c.2.1 3)) (nI_clamp (by omega))) ?_
      refine wp_iastore (h' := HP c (setA w' 43 (upd (w'.2.1 43) 3 ((c.2.1 3) (i)))) m v E) d_X5_load_80 (hp_43 _ _ _ _ _) (kin rfl) ((hpa_43 _ _ _ _ _ _)) ?_
      refine wp_aload_n 1 d_X5_load_81 rfl rfl ?_
      refine wp_getfield (v := .ref (43)) d_X5_load_82 gf_X5_11 (hp_42 _ _ _ _ _) rfl ?_
      refine wp_iconst (v0 := 4) d_X5_load_85 rfl ?_
      refine wp_iload_n 0 d_X5_load_86 rfl rfl ?_
      refine wp_iastore (h' := HP c (setA (setA w' 43 (upd (w'.2.1 43) 3 ((c.2.1 3) (i)))) 43 (upd (upd (w'.2.1 43) 3 ((c.2.1 3) (i))) 4 (nI (i)))) m v E) d_X5_load_87 (hp_43 _ _ _ _ _) (kin rfl) ((hpa_43 _ _ _ _ _ _)) ?_
      refine wp_aload_n 1 d_X5_load_88 rfl rfl ?_
      refine wp_getfield (v := .ref (44)) d_X5_load_89 gf_X5_17 (hp_42 _ _ _ _ _) rfl ?_
      refine wp_iload_n 0 d_X5_load_92 rfl rfl ?_
      refine wp_aload_n 2 d_X5_load_93 rfl rfl ?_
      refine wp_getfield (v := .ref (2)) d_X5_load_94 gf_X5_63 (hp_1 _ _ _ _ _) rfl ?_
      refine wp_iload_n 0 d_X5_load_97 rfl rfl ?_
      refine wp_iaload (v := (c.2.1 2) (i)) d_X5_load_98 (hp_2 _ _ _ _ _) (vp_in_nI (by omega) (by omega)) (congrArg ((c.2.1 2)) (nI_clamp (by omega))) ?_
      refine wp_aload_n 2 d_X5_load_99 rfl rfl ?_
      refine wp_getfield (v := .ref ((c.2.2.1 1))) d_X5_load_100 gf_X5_66 (hp_1 _ _ _ _ _) rfl ?_
      rw [hrr]
      refine wp_aload_n 2 d_X5_load_103 rfl rfl ?_
      refine wp_getfield (v := .ref (2)) d_X5_load_104 gf_X5_63 (hp_1 _ _ _ _ _) rfl ?_
      refine wp_iload_n 0 d_X5_load_107 rfl rfl ?_
      refine wp_iaload (v := (c.2.1 2) (i)) d_X5_load_108 (hp_2 _ _ _ _ _) (vp_in_nI (by omega) (by omega)) (congrArg ((c.2.1 2)) (nI_clamp (by omega))) ?_
      refine wp_aload_n 1 d_X5_load_109 rfl rfl ?_
      refine wp_getfield (v := .ref (43)) d_X5_load_110 gf_X5_11 (hp_42 _ _ _ _ _) rfl ?_
      refine wp_vrt_i (As := [.int ((c.2.1 2) (i)), .ref (43)]) (x0 := kbent ((upd (upd (w'.2.1 43) 3 ((c.2.1 3) (i))) 4 (nI (i)))) code ((c.2.1 2) (i)) (((upd (upd (w'.2.1 43) 3 ((c.2.1 3) (i))) 4 (nI (i)))) 3) cnt 0) (h1 := HP c (setA (setA w' 43 (upd (w'.2.1 43) 3 ((c.2.1 3) (i)))) 43 (upd (upd (w'.2.1 43) 3 ((c.2.1 3) (i))) 4 (nI (i)))) m v E) d_X5_load_113 lk_X5_70 mv_X6_bent in_X6_bent se_X6_bent (Nat.le_of_ble_eq_true rfl) (Nat.le_of_ble_eq_true rfl) (hR _ _ _ _).1 rfl (s_X6_bent hR hL hc8 hwf ((c.2.1 2) (i)) (hk _ (by omega))) ?_
      refine wp_aload_n 2 d_X5_load_116 rfl rfl ?_
      refine wp_getfield (v := .ref (6)) d_X5_load_117 gf_X5_35 (hp_1 _ _ _ _ _) rfl ?_
      refine wp_iconst (v0 := 0) d_X5_load_120 rfl ?_
      refine wp_iaload (v := (c.2.1 6) (0)) d_X5_load_121 (hp_6 _ _ _ _ _) (kin rfl) rfl ?_
      refine wp_stc_i (As := [.int ((c.2.1 2) (i)), .int (kbent ((upd (upd (w'.2.1 43) 3 ((c.2.1 3) (i))) 4 (nI (i)))) code ((c.2.1 2) (i)) (((upd (upd (w'.2.1 43) 3 ((c.2.1 3) (i))) 4 (nI (i)))) 3) cnt 0), .int ((c.2.1 6) (0))]) (x0 := kclip (kunc ((c.2.1 2) (i)) (kbent ((upd (upd (w'.2.1 43) 3 ((c.2.1 3) (i))) 4 (nI (i)))) code ((c.2.1 2) (i)) (((upd (upd (w'.2.1 43) 3 ((c.2.1 3) (i))) 4 (nI (i)))) 3) cnt 0) ((c.2.1 6) (0)))) (h1 := HP c (setA (setA w' 43 (upd (w'.2.1 43) 3 ((c.2.1 3) (i)))) 43 (upd (upd (w'.2.1 43) 3 ((c.2.1 3) (i))) 4 (nI (i)))) m v E) d_X5_load_122 lk_X5_74 mv_X5_strengthOf st_X5_strengthOf (Nat.le_of_ble_eq_true rfl) (Nat.le_of_ble_eq_true rfl) (s_X5_strengthOf _ ((c.2.1 2) (i)) (kbent ((upd (upd (w'.2.1 43) 3 ((c.2.1 3) (i))) 4 (nI (i)))) code ((c.2.1 2) (i)) (((upd (upd (w'.2.1 43) 3 ((c.2.1 3) (i))) 4 (nI (i)))) 3) cnt 0) ((c.2.1 6) (0))) ?_
      refine wp_iastore (h' := HP c (setA (setA (setA w' 43 (upd (w'.2.1 43) 3 ((c.2.1 3) (i)))) 43 (upd (upd (w'.2.1 43) 3 ((c.2.1 3) (i))) 4 (nI (i)))) 44 (upd (w'.2.1 44) (i) (kclip (kunc ((c.2.1 2) (i)) (kbent ((upd (upd (w'.2.1 43) 3 ((c.2.1 3) (i))) 4 (nI (i)))) code ((c.2.1 2) (i)) (((upd (upd (w'.2.1 43) 3 ((c.2.1 3) (i))) 4 (nI (i)))) 3) cnt 0) ((c.2.1 6) (0)))))) m v E) d_X5_load_125 (hp_44 _ _ _ _ _) (vp_in_nI (by omega) (by omega)) (by rw [nI_clamp (by omega)]; exact (hpa_44 _ _ _ _ _ _)) ?_
      refine wp_iinc (v0 := nI ((i) + 1)) [(2, .int (nI ((i) + 1))), (0, .ref (42)), (1, .ref (1))] 0 d_X5_load_126 rfl (nI_add (i) 1) (Nat.le_of_ble_eq_true rfl) rfl ?_
      refine wp_goto 61 d_X5_load_129 rfl ?_
      obtain ⟨k1, rfl⟩ : ∃ k1, k = k1 + 1 := ⟨k - 1, by omega⟩
      refine wp_sub [(2, .int (nI ((i) + 1))), (0, .ref (42)), (1, .ref (1))] [0, 1, 2] rfl ?_
      refine ih k1 (by omega) (i + 1) _ (by omega) ⟨fun k9 h9 => hf.1 k9 h9, fun k9 h9 => ?_, hf.2.2⟩ hst ⟨?_, ?_, ?_⟩ (fun l hl => ?_) ht
      · simp only [setA]
        rw [updA_n _ _ (by omega), updA_n _ _ (by omega), updA_n _ _ (by omega)]
        exact hf.2.1 k9 h9
      · exact hfa.1
      · exact hfa.2.1
      · exact hfa.2.2
      · show (upd (w'.2.1 44) i _) l = _
        by_cases hli : l = i
        · subst hli
          rw [upd_s]
          unfold kstr
          congr 2
          rw [kbent_congr (g := kfac (c.2.1 6 0) (c.2.1 6 1) (c.2.1 6 2) (c.2.1 3 l) l)]
          · congr 1
          · intro k9 h9
            rcases (by omega : k9 = 0 ∨ k9 = 1 ∨ k9 = 2 ∨ k9 = 3 ∨ k9 = 4) with e | e | e | e | e <;> subst e
            · exact hfa.1
            · exact hfa.2.1
            · exact hfa.2.2
            · rfl
            · rfl
        · rw [upd_n _ _ hli]
          exact hs l (by omega)
theorem s_X5_load {X : kX} {d : Nat} {c w m v : kZ} {E : kH} {n : Nat} (hn : c.1 100 = nI n) (hn9 : n ≤ 9) {rho cnt ka L : Nat} {code : Nat → Int32} (hrr : c.2.2.1 1 = rho) (hR : kRu E rho cnt ka L code) (hL : L < 2 ^ 20) (hc8 : cnt ≤ 8) (hwf : kWF code L cnt 0) (hk : ∀ j, j < n → 1 ≤ (c.2.1 2 j).toInt ∧ (c.2.1 2 j).toInt ≤ 5) : WP X (d + 5) 0 0 Y_X5_load 0 [(0, .ref (42)), (1, .ref (1))] [] (HP c w m v E) (fun r h1 => r = none ∧ ∃ w1 : kZ, h1 = HP c w1 m v E ∧ kLl w w1 ∧ kLd w1 (c.2.1 6 1) (c.2.1 6 2) (c.2.1 6 3) (fun l => (kstr code cnt (c.2.1 6 0) (c.2.1 6 1) (c.2.1 6 2) (c.2.1 2 l) (c.2.1 3 l) l)) (c.2.1 4) n) := by
  refine wp_aload_n 0 d_X5_load_0 rfl rfl ?_
  refine wp_aload_n 1 d_X5_load_1 rfl rfl ?_
  refine wp_getfield (v := .ref (6)) d_X5_load_2 gf_X5_35 (hp_1 _ _ _ _ _) rfl ?_
  refine wp_iconst (v0 := 1) d_X5_load_5 rfl ?_
  refine wp_iaload (v := (c.2.1 6) (1)) d_X5_load_6 (hp_6 _ _ _ _ _) (kin rfl) rfl ?_
  refine wp_putfield (h' := HP c (setS w 4203 ((c.2.1 6) (1))) m v E) d_X5_load_7 gp_X5_40 (kfit_i _) (hp_42 _ _ _ _ _) (Nat.le_of_ble_eq_true rfl) (hps_42_3 _ _ _ _ _ _) ?_
  refine wp_aload_n 0 d_X5_load_10 rfl rfl ?_
  refine wp_aload_n 1 d_X5_load_11 rfl rfl ?_
  refine wp_getfield (v := .ref (6)) d_X5_load_12 gf_X5_35 (hp_1 _ _ _ _ _) rfl ?_
  refine wp_iconst (v0 := 2) d_X5_load_15 rfl ?_
  refine wp_iaload (v := (c.2.1 6) (2)) d_X5_load_16 (hp_6 _ _ _ _ _) (kin rfl) rfl ?_
  refine wp_putfield (h' := HP c (setS (setS w 4203 ((c.2.1 6) (1))) 4204 ((c.2.1 6) (2))) m v E) d_X5_load_17 gp_X5_44 (kfit_i _) (hp_42 _ _ _ _ _) (Nat.le_of_ble_eq_true rfl) (hps_42_4 _ _ _ _ _ _) ?_
  refine wp_aload_n 0 d_X5_load_20 rfl rfl ?_
  refine wp_aload_n 1 d_X5_load_21 rfl rfl ?_
  refine wp_getfield (v := .ref (6)) d_X5_load_22 gf_X5_35 (hp_1 _ _ _ _ _) rfl ?_
  refine wp_iconst (v0 := 3) d_X5_load_25 rfl ?_
  refine wp_iaload (v := (c.2.1 6) (3)) d_X5_load_26 (hp_6 _ _ _ _ _) (kin rfl) rfl ?_
  refine wp_putfield (h' := HP c (setS (setS (setS w 4203 ((c.2.1 6) (1))) 4204 ((c.2.1 6) (2))) 4205 ((c.2.1 6) (3))) m v E) d_X5_load_27 gp_X5_47 (kfit_i _) (hp_42 _ _ _ _ _) (Nat.le_of_ble_eq_true rfl) (hps_42_5 _ _ _ _ _ _) ?_
  refine wp_aload_n 1 d_X5_load_30 rfl rfl ?_
  refine wp_getfield (v := .ref (6)) d_X5_load_31 gf_X5_35 (hp_1 _ _ _ _ _) rfl ?_
  refine wp_iconst (v0 := 0) d_X5_load_34 rfl ?_
  refine wp_aload_n 0 d_X5_load_35 rfl rfl ?_
  refine wp_getfield (v := .ref (43)) d_X5_load_36 gf_X5_11 (hp_42 _ _ _ _ _) rfl ?_
  refine wp_iconst (v0 := 0) d_X5_load_39 rfl ?_
  refine wp_iconst (v0 := 3) d_X5_load_40 rfl ?_
  refine wp_arraycopy (h' := HP c (setA (setS (setS (setS w 4203 ((c.2.1 6) (1))) 4204 ((c.2.1 6) (2))) 4205 ((c.2.1 6) (3))) 43 (va_cpy (c.2.1 6) (w.2.1 43) 0 0 3)) m v E) d_X5_load_41 ar_X5_50 ar_na ar_st ini_J10 (hp_6 _ _ _ _ _) (hp_43 _ _ _ _ _) (by decide) (by decide) (by decide) (by decide) (by decide) (Nat.le_of_ble_eq_true rfl) (hpa_43 _ _ _ _ _ _) ?_
  refine wp_aload_n 1 d_X5_load_44 rfl rfl ?_
  refine wp_getfield (v := .ref (4)) d_X5_load_45 gf_X5_56 (hp_1 _ _ _ _ _) rfl ?_
  refine wp_iconst (v0 := 0) d_X5_load_48 rfl ?_
  refine wp_aload_n 0 d_X5_load_49 rfl rfl ?_
  refine wp_getfield (v := .ref (45)) d_X5_load_50 gf_X5_20 (hp_42 _ _ _ _ _) rfl ?_
  refine wp_iconst (v0 := 0) d_X5_load_53 rfl ?_
  refine wp_bipush (v0 := 9) d_X5_load_54 (by decide) ?_
  refine wp_arraycopy (h' := HP c (setA (setA (setS (setS (setS w 4203 ((c.2.1 6) (1))) 4204 ((c.2.1 6) (2))) 4205 ((c.2.1 6) (3))) 43 (va_cpy (c.2.1 6) (w.2.1 43) 0 0 3)) 45 (va_cpy (c.2.1 4) (w.2.1 45) 0 0 9)) m v E) d_X5_load_56 ar_X5_50 ar_na ar_st ini_J10 (hp_4 _ _ _ _ _) (hp_45 _ _ _ _ _) (by decide) (by decide) (by decide) (by decide) (by decide) (Nat.le_of_ble_eq_true rfl) (hpa_45 _ _ _ _ _ _) ?_
  refine wp_iconst (v0 := 0) d_X5_load_59 rfl ?_
  refine wp_istore_n [(2, .int (0)), (0, .ref (42)), (1, .ref (1))] d_X5_load_60 rfl (Nat.le_of_ble_eq_true rfl) rfl ?_
  refine wp_sub [(2, .int (0)), (0, .ref (42)), (1, .ref (1))] [0, 1, 2] rfl ?_
  refine s_X5_load_l hn hn9 hrr hR hL hc8 hwf hk n 0 _ (by omega) ⟨fun k9 h9 => ?_, fun k9 h9 => ?_, rfl⟩ ⟨?_, ?_, ?_⟩ ⟨?_, ?_, ?_⟩ (fun l hl => absurd hl (by omega)) (fun j hj => ?_)
  · simp only [setS, setA, upd]; repeat rw [if_neg (by omega)]
  · simp only [setS, setA, updA]; repeat rw [if_neg (by omega)]
  · rfl
  · rfl
  · rfl
  · exact k_cpy (f := c.2.1 6) (g := w.2.1 43) (n := 3) (j := 0) (by decide)
  · exact k_cpy (f := c.2.1 6) (g := w.2.1 43) (n := 3) (j := 1) (by decide)
  · exact k_cpy (f := c.2.1 6) (g := w.2.1 43) (n := 3) (j := 2) (by decide)
  · exact k_cpy (f := c.2.1 4) (g := w.2.1 45) (n := 9) hj
theorem s_X5_load_l_25 {X : kX} {d : Nat} {c w m v : kZ} {E : kH} {n : Nat} (hn : w.1 2500 = nI n) (hn9 : n ≤ 9) {rho cnt ka L : Nat} {code : Nat → Int32} (hrr : w.2.2.1 25 = rho) (hR : kRu E rho cnt ka L code) (hL : L < 2 ^ 20) (hc8 : cnt ≤ 8) (hwf : kWF code L cnt 0) (hk : ∀ j, j < n → 1 ≤ (w.2.1 26 j).toInt ∧ (w.2.1 26 j).toInt ≤ 5) : ∀ (k : Nat) (i : Nat) (w' : kZ), (i + k = n) → (kLl w w') → (w'.1 4203 = w.2.1 30 1 ∧ w'.1 4204 = w.2.1 30 2 ∧ w'.1 4205 = w.2.1 30 3) → (w'.2.1 43 0 = w.2.1 30 0 ∧ w'.2.1 43 1 = w.2.1 30 1 ∧ w'.2.1 43 2 = w.2.1 30 2) → (∀ l, l < i → w'.2.1 44 l = (kstr code cnt (w.2.1 30 0) (w.2.1 30 1) (w.2.1 30 2) (w.2.1 26 l) (w.2.1 27 l) l)) → (∀ j, j < 9 → w'.2.1 45 j = w.2.1 28 j) → WP X (d + 5) 0 0 Y_X5_load 61 [(2, .int (nI (i))), (0, .ref (42)), (1, .ref (25))] [] (HP c w' m v E) (fun r h1 => r = none ∧ ∃ w1 : kZ, h1 = HP c w1 m v E ∧ kLl w w1 ∧ kLd w1 (w.2.1 30 1) (w.2.1 30 2) (w.2.1 30 3) (fun l => (kstr code cnt (w.2.1 30 0) (w.2.1 30 1) (w.2.1 30 2) (w.2.1 26 l) (w.2.1 27 l) l)) (w.2.1 28) n) := by
  intro k
  induction k using Nat.strongRecOn with
  | ind k ih =>
    intro i w' hi hf hst hfa hs ht
    have hnw : w'.1 2500 = nI n := by rw [hf.1 _ (by decide)]; exact hn
    have hrw : w'.2.2.1 25 = rho := by rw [hf.2.2]; exact hrr
    have e1 : w'.2.1 26 = w.2.1 26 := hf.2.1 _ (by decide)
    have e2 : w'.2.1 27 = w.2.1 27 := hf.2.1 _ (by decide)
    have e5 : w'.2.1 30 = w.2.1 30 := hf.2.1 _ (by decide)
    refine wp_iload_n 0 d_X5_load_61 rfl rfl ?_
    refine wp_aload_n 2 d_X5_load_62 rfl rfl ?_
    refine wp_getfield (v := .int (nI (n))) d_X5_load_63 gf_X5_57 (hp_25 _ _ _ _ _) (congrArg (fun z => some (Value.int z)) hnw) ?_
    refine wp_ncmp_ge (a := i) (b := n) 132 d_X5_load_66 rfl (by omega) (by omega) (fun c66 => ?_) (fun c66 => ?_)
    · refine wp_vret d_X5_load_132 rfl ?_
      obtain rfl : i = n := by omega
      exact ⟨rfl, w', rfl, hf, hst.1, hst.2.1, hst.2.2, hs, ht⟩
    · refine wp_aload_n 1 d_X5_load_69 rfl rfl ?_
      refine wp_getfield (v := .ref (43)) d_X5_load_70 gf_X5_11 (hp_42 _ _ _ _ _) rfl ?_
      refine wp_iconst (v0 := 3) d_X5_load_73 rfl ?_
      refine wp_aload_n 2 d_X5_load_74 rfl rfl ?_
      refine wp_getfield (v := .ref (27)) d_X5_load_75 gf_X5_60 (hp_25 _ _ _ _ _) rfl ?_
      refine wp_iload_n 0 d_X5_load_78 rfl rfl ?_
      refine wp_iaload (v := (w'.2.1 27) (i)) d_X5_load_79 (hp_27 _ _ _ _ _) (vp_in_nI (by omega) (by omega)) (congrArg ((w'.2.1 27)) (nI_clamp (by omega))) ?_
      refine wp_iastore (h' := HP c (setA w' 43 (upd (w'.2.1 43) 3 ((w'.2.1 27) (i)))) m v E) d_X5_load_80 (hp_43 _ _ _ _ _) (kin rfl) ((hpa_43 _ _ _ _ _ _)) ?_
      refine wp_aload_n 1 d_X5_load_81 rfl rfl ?_
      refine wp_getfield (v := .ref (43)) d_X5_load_82 gf_X5_11 (hp_42 _ _ _ _ _) rfl ?_
      refine wp_iconst (v0 := 4) d_X5_load_85 rfl ?_
      refine wp_iload_n 0 d_X5_load_86 rfl rfl ?_
      refine wp_iastore (h' := HP c (setA (setA w' 43 (upd (w'.2.1 43) 3 ((w'.2.1 27) (i)))) 43 (upd (upd (w'.2.1 43) 3 ((w'.2.1 27) (i))) 4 (nI (i)))) m v E) d_X5_load_87 (hp_43 _ _ _ _ _) (kin rfl) ((hpa_43 _ _ _ _ _ _)) ?_
      refine wp_aload_n 1 d_X5_load_88 rfl rfl ?_
      refine wp_getfield (v := .ref (44)) d_X5_load_89 gf_X5_17 (hp_42 _ _ _ _ _) rfl ?_
      refine wp_iload_n 0 d_X5_load_92 rfl rfl ?_
      refine wp_aload_n 2 d_X5_load_93 rfl rfl ?_
      refine wp_getfield (v := .ref (26)) d_X5_load_94 gf_X5_63 (hp_25 _ _ _ _ _) rfl ?_
      refine wp_iload_n 0 d_X5_load_97 rfl rfl ?_
      refine wp_iaload (v := (w'.2.1 26) (i)) d_X5_load_98 (hp_26 _ _ _ _ _) (vp_in_nI (by omega) (by omega)) (congrArg ((w'.2.1 26)) (nI_clamp (by omega))) ?_
      refine wp_aload_n 2 d_X5_load_99 rfl rfl ?_
      refine wp_getfield (v := .ref ((w'.2.2.1 25))) d_X5_load_100 gf_X5_66 (hp_25 _ _ _ _ _) rfl ?_
      rw [hrw]
      refine wp_aload_n 2 d_X5_load_103 rfl rfl ?_
      refine wp_getfield (v := .ref (26)) d_X5_load_104 gf_X5_63 (hp_25 _ _ _ _ _) rfl ?_
      have hkk : ∀ j, j < n → 1 ≤ (w'.2.1 26 j).toInt ∧ (w'.2.1 26 j).toInt ≤ 5 := by rw [e1]; exact hk
      refine wp_iload_n 0 d_X5_load_107 rfl rfl ?_
      refine wp_iaload (v := (w'.2.1 26) (i)) d_X5_load_108 (hp_26 _ _ _ _ _) (vp_in_nI (by omega) (by omega)) (congrArg ((w'.2.1 26)) (nI_clamp (by omega))) ?_
      refine wp_aload_n 1 d_X5_load_109 rfl rfl ?_
      refine wp_getfield (v := .ref (43)) d_X5_load_110 gf_X5_11 (hp_42 _ _ _ _ _) rfl ?_
      refine wp_vrt_i (As := [.int ((w'.2.1 26) (i)), .ref (43)]) (x0 := kbent ((upd (upd (w'.2.1 43) 3 ((w'.2.1 27) (i))) 4 (nI (i)))) code ((w'.2.1 26) (i)) (((upd (upd (w'.2.1 43) 3 ((w'.2.1 27) (i))) 4 (nI (i)))) 3) cnt 0) (h1 := HP c (setA (setA w' 43 (upd (w'.2.1 43) 3 ((w'.2.1 27) (i)))) 43 (upd (upd (w'.2.1 43) 3 ((w'.2.1 27) (i))) 4 (nI (i)))) m v E) d_X5_load_113 lk_X5_70 mv_X6_bent in_X6_bent se_X6_bent (Nat.le_of_ble_eq_true rfl) (Nat.le_of_ble_eq_true rfl) (hR _ _ _ _).1 rfl (s_X6_bent hR hL hc8 hwf ((w'.2.1 26) (i)) (hkk _ (by omega))) ?_
      refine wp_aload_n 2 d_X5_load_116 rfl rfl ?_
      refine wp_getfield (v := .ref (30)) d_X5_load_117 gf_X5_35 (hp_25 _ _ _ _ _) rfl ?_
      refine wp_iconst (v0 := 0) d_X5_load_120 rfl ?_
      refine wp_iaload (v := (w'.2.1 30) (0)) d_X5_load_121 (hp_30 _ _ _ _ _) (kin rfl) rfl ?_
      refine wp_stc_i (As := [.int ((w'.2.1 26) (i)), .int (kbent ((upd (upd (w'.2.1 43) 3 ((w'.2.1 27) (i))) 4 (nI (i)))) code ((w'.2.1 26) (i)) (((upd (upd (w'.2.1 43) 3 ((w'.2.1 27) (i))) 4 (nI (i)))) 3) cnt 0), .int ((w'.2.1 30) (0))]) (x0 := kclip (kunc ((w'.2.1 26) (i)) (kbent ((upd (upd (w'.2.1 43) 3 ((w'.2.1 27) (i))) 4 (nI (i)))) code ((w'.2.1 26) (i)) (((upd (upd (w'.2.1 43) 3 ((w'.2.1 27) (i))) 4 (nI (i)))) 3) cnt 0) ((w'.2.1 30) (0)))) (h1 := HP c (setA (setA w' 43 (upd (w'.2.1 43) 3 ((w'.2.1 27) (i)))) 43 (upd (upd (w'.2.1 43) 3 ((w'.2.1 27) (i))) 4 (nI (i)))) m v E) d_X5_load_122 lk_X5_74 mv_X5_strengthOf st_X5_strengthOf (Nat.le_of_ble_eq_true rfl) (Nat.le_of_ble_eq_true rfl) (s_X5_strengthOf _ ((w'.2.1 26) (i)) (kbent ((upd (upd (w'.2.1 43) 3 ((w'.2.1 27) (i))) 4 (nI (i)))) code ((w'.2.1 26) (i)) (((upd (upd (w'.2.1 43) 3 ((w'.2.1 27) (i))) 4 (nI (i)))) 3) cnt 0) ((w'.2.1 30) (0))) ?_
      refine wp_iastore (h' := HP c (setA (setA (setA w' 43 (upd (w'.2.1 43) 3 ((w'.2.1 27) (i)))) 43 (upd (upd (w'.2.1 43) 3 ((w'.2.1 27) (i))) 4 (nI (i)))) 44 (upd (w'.2.1 44) (i) (kclip (kunc ((w'.2.1 26) (i)) (kbent ((upd (upd (w'.2.1 43) 3 ((w'.2.1 27) (i))) 4 (nI (i)))) code ((w'.2.1 26) (i)) (((upd (upd (w'.2.1 43) 3 ((w'.2.1 27) (i))) 4 (nI (i)))) 3) cnt 0) ((w'.2.1 30) (0)))))) m v E) d_X5_load_125 (hp_44 _ _ _ _ _) (vp_in_nI (by omega) (by omega)) (by rw [nI_clamp (by omega)]; exact (hpa_44 _ _ _ _ _ _)) ?_
      refine wp_iinc (v0 := nI ((i) + 1)) [(2, .int (nI ((i) + 1))), (0, .ref (42)), (1, .ref (25))] 0 d_X5_load_126 rfl (nI_add (i) 1) (Nat.le_of_ble_eq_true rfl) rfl ?_
      refine wp_goto 61 d_X5_load_129 rfl ?_
      obtain ⟨k1, rfl⟩ : ∃ k1, k = k1 + 1 := ⟨k - 1, by omega⟩
      refine wp_sub [(2, .int (nI ((i) + 1))), (0, .ref (42)), (1, .ref (25))] [0, 1, 2] rfl ?_
      refine ih k1 (by omega) (i + 1) _ (by omega) ⟨fun k9 h9 => hf.1 k9 h9, fun k9 h9 => ?_, hf.2.2⟩ hst ⟨?_, ?_, ?_⟩ (fun l hl => ?_) ht
      · simp only [setA]
        rw [updA_n _ _ (by omega), updA_n _ _ (by omega), updA_n _ _ (by omega)]
        exact hf.2.1 k9 h9
      · exact hfa.1
      · exact hfa.2.1
      · exact hfa.2.2
      · show (upd (w'.2.1 44) i _) l = _
        by_cases hli : l = i
        · subst hli
          rw [upd_s]
          simp only [e1, e2, e5] at *
          unfold kstr
          congr 2
          rw [kbent_congr (g := kfac (w.2.1 30 0) (w.2.1 30 1) (w.2.1 30 2) (w.2.1 27 l) l)]
          · congr 1
          · intro k9 h9
            rcases (by omega : k9 = 0 ∨ k9 = 1 ∨ k9 = 2 ∨ k9 = 3 ∨ k9 = 4) with e | e | e | e | e <;> subst e
            · exact hfa.1
            · exact hfa.2.1
            · exact hfa.2.2
            · rfl
            · rfl
        · rw [upd_n _ _ hli]
          exact hs l (by omega)
theorem s_X5_load_25 {X : kX} {d : Nat} {c w m v : kZ} {E : kH} {n : Nat} (hn : w.1 2500 = nI n) (hn9 : n ≤ 9) {rho cnt ka L : Nat} {code : Nat → Int32} (hrr : w.2.2.1 25 = rho) (hR : kRu E rho cnt ka L code) (hL : L < 2 ^ 20) (hc8 : cnt ≤ 8) (hwf : kWF code L cnt 0) (hk : ∀ j, j < n → 1 ≤ (w.2.1 26 j).toInt ∧ (w.2.1 26 j).toInt ≤ 5) : WP X (d + 5) 0 0 Y_X5_load 0 [(0, .ref (42)), (1, .ref (25))] [] (HP c w m v E) (fun r h1 => r = none ∧ ∃ w1 : kZ, h1 = HP c w1 m v E ∧ kLl w w1 ∧ kLd w1 (w.2.1 30 1) (w.2.1 30 2) (w.2.1 30 3) (fun l => (kstr code cnt (w.2.1 30 0) (w.2.1 30 1) (w.2.1 30 2) (w.2.1 26 l) (w.2.1 27 l) l)) (w.2.1 28) n) := by
  refine wp_aload_n 0 d_X5_load_0 rfl rfl ?_
  refine wp_aload_n 1 d_X5_load_1 rfl rfl ?_
  refine wp_getfield (v := .ref (30)) d_X5_load_2 gf_X5_35 (hp_25 _ _ _ _ _) rfl ?_
  refine wp_iconst (v0 := 1) d_X5_load_5 rfl ?_
  refine wp_iaload (v := (w.2.1 30) (1)) d_X5_load_6 (hp_30 _ _ _ _ _) (kin rfl) rfl ?_
  refine wp_putfield (h' := HP c (setS w 4203 ((w.2.1 30) (1))) m v E) d_X5_load_7 gp_X5_40 (kfit_i _) (hp_42 _ _ _ _ _) (Nat.le_of_ble_eq_true rfl) (hps_42_3 _ _ _ _ _ _) ?_
  refine wp_aload_n 0 d_X5_load_10 rfl rfl ?_
  refine wp_aload_n 1 d_X5_load_11 rfl rfl ?_
  refine wp_getfield (v := .ref (30)) d_X5_load_12 gf_X5_35 (hp_25 _ _ _ _ _) rfl ?_
  refine wp_iconst (v0 := 2) d_X5_load_15 rfl ?_
  refine wp_iaload (v := (w.2.1 30) (2)) d_X5_load_16 (hp_30 _ _ _ _ _) (kin rfl) rfl ?_
  refine wp_putfield (h' := HP c (setS (setS w 4203 ((w.2.1 30) (1))) 4204 ((w.2.1 30) (2))) m v E) d_X5_load_17 gp_X5_44 (kfit_i _) (hp_42 _ _ _ _ _) (Nat.le_of_ble_eq_true rfl) (hps_42_4 _ _ _ _ _ _) ?_
  refine wp_aload_n 0 d_X5_load_20 rfl rfl ?_
  refine wp_aload_n 1 d_X5_load_21 rfl rfl ?_
  refine wp_getfield (v := .ref (30)) d_X5_load_22 gf_X5_35 (hp_25 _ _ _ _ _) rfl ?_
  refine wp_iconst (v0 := 3) d_X5_load_25 rfl ?_
  refine wp_iaload (v := (w.2.1 30) (3)) d_X5_load_26 (hp_30 _ _ _ _ _) (kin rfl) rfl ?_
  refine wp_putfield (h' := HP c (setS (setS (setS w 4203 ((w.2.1 30) (1))) 4204 ((w.2.1 30) (2))) 4205 ((w.2.1 30) (3))) m v E) d_X5_load_27 gp_X5_47 (kfit_i _) (hp_42 _ _ _ _ _) (Nat.le_of_ble_eq_true rfl) (hps_42_5 _ _ _ _ _ _) ?_
  refine wp_aload_n 1 d_X5_load_30 rfl rfl ?_
  refine wp_getfield (v := .ref (30)) d_X5_load_31 gf_X5_35 (hp_25 _ _ _ _ _) rfl ?_
  refine wp_iconst (v0 := 0) d_X5_load_34 rfl ?_
  refine wp_aload_n 0 d_X5_load_35 rfl rfl ?_
  refine wp_getfield (v := .ref (43)) d_X5_load_36 gf_X5_11 (hp_42 _ _ _ _ _) rfl ?_
  refine wp_iconst (v0 := 0) d_X5_load_39 rfl ?_
  refine wp_iconst (v0 := 3) d_X5_load_40 rfl ?_
  refine wp_arraycopy (h' := HP c (setA (setS (setS (setS w 4203 ((w.2.1 30) (1))) 4204 ((w.2.1 30) (2))) 4205 ((w.2.1 30) (3))) 43 (va_cpy (w.2.1 30) (w.2.1 43) 0 0 3)) m v E) d_X5_load_41 ar_X5_50 ar_na ar_st ini_J10 (hp_30 _ _ _ _ _) (hp_43 _ _ _ _ _) (by decide) (by decide) (by decide) (by decide) (by decide) (Nat.le_of_ble_eq_true rfl) (hpa_43 _ _ _ _ _ _) ?_
  refine wp_aload_n 1 d_X5_load_44 rfl rfl ?_
  refine wp_getfield (v := .ref (28)) d_X5_load_45 gf_X5_56 (hp_25 _ _ _ _ _) rfl ?_
  refine wp_iconst (v0 := 0) d_X5_load_48 rfl ?_
  refine wp_aload_n 0 d_X5_load_49 rfl rfl ?_
  refine wp_getfield (v := .ref (45)) d_X5_load_50 gf_X5_20 (hp_42 _ _ _ _ _) rfl ?_
  refine wp_iconst (v0 := 0) d_X5_load_53 rfl ?_
  refine wp_bipush (v0 := 9) d_X5_load_54 (by decide) ?_
  refine wp_arraycopy (h' := HP c (setA (setA (setS (setS (setS w 4203 ((w.2.1 30) (1))) 4204 ((w.2.1 30) (2))) 4205 ((w.2.1 30) (3))) 43 (va_cpy (w.2.1 30) (w.2.1 43) 0 0 3)) 45 (va_cpy (w.2.1 28) (w.2.1 45) 0 0 9)) m v E) d_X5_load_56 ar_X5_50 ar_na ar_st ini_J10 (hp_28 _ _ _ _ _) (hp_45 _ _ _ _ _) (by decide) (by decide) (by decide) (by decide) (by decide) (Nat.le_of_ble_eq_true rfl) (hpa_45 _ _ _ _ _ _) ?_
  refine wp_iconst (v0 := 0) d_X5_load_59 rfl ?_
  refine wp_istore_n [(2, .int (0)), (0, .ref (42)), (1, .ref (25))] d_X5_load_60 rfl (Nat.le_of_ble_eq_true rfl) rfl ?_
  refine wp_sub [(2, .int (0)), (0, .ref (42)), (1, .ref (25))] [0, 1, 2] rfl ?_
  refine s_X5_load_l_25 hn hn9 hrr hR hL hc8 hwf hk n 0 _ (by omega) ⟨fun k9 h9 => ?_, fun k9 h9 => ?_, rfl⟩ ⟨?_, ?_, ?_⟩ ⟨?_, ?_, ?_⟩ (fun l hl => absurd hl (by omega)) (fun j hj => ?_)
  · simp only [setS, setA, upd]; repeat rw [if_neg (by omega)]
  · simp only [setS, setA, updA]; repeat rw [if_neg (by omega)]
  · rfl
  · rfl
  · rfl
  · exact k_cpy (f := w.2.1 30) (g := w.2.1 43) (n := 3) (j := 0) (by decide)
  · exact k_cpy (f := w.2.1 30) (g := w.2.1 43) (n := 3) (j := 1) (by decide)
  · exact k_cpy (f := w.2.1 30) (g := w.2.1 43) (n := 3) (j := 2) (by decide)
  · exact k_cpy (f := w.2.1 28) (g := w.2.1 45) (n := 9) hj
theorem s_X5_load_l_60 {X : kX} {d : Nat} {c w m v : kZ} {E : kH} {n : Nat} (hn : w.1 6000 = nI n) (hn9 : n ≤ 9) {rho cnt ka L : Nat} {code : Nat → Int32} (hrr : w.2.2.1 60 = rho) (hR : kRu E rho cnt ka L code) (hL : L < 2 ^ 20) (hc8 : cnt ≤ 8) (hwf : kWF code L cnt 0) (hk : ∀ j, j < n → 1 ≤ (w.2.1 61 j).toInt ∧ (w.2.1 61 j).toInt ≤ 5) : ∀ (k : Nat) (i : Nat) (w' : kZ), (i + k = n) → (kLl w w') → (w'.1 4203 = w.2.1 65 1 ∧ w'.1 4204 = w.2.1 65 2 ∧ w'.1 4205 = w.2.1 65 3) → (w'.2.1 43 0 = w.2.1 65 0 ∧ w'.2.1 43 1 = w.2.1 65 1 ∧ w'.2.1 43 2 = w.2.1 65 2) → (∀ l, l < i → w'.2.1 44 l = (kstr code cnt (w.2.1 65 0) (w.2.1 65 1) (w.2.1 65 2) (w.2.1 61 l) (w.2.1 62 l) l)) → (∀ j, j < 9 → w'.2.1 45 j = w.2.1 63 j) → WP X (d + 5) 0 0 Y_X5_load 61 [(2, .int (nI (i))), (0, .ref (42)), (1, .ref (60))] [] (HP c w' m v E) (fun r h1 => r = none ∧ ∃ w1 : kZ, h1 = HP c w1 m v E ∧ kLl w w1 ∧ kLd w1 (w.2.1 65 1) (w.2.1 65 2) (w.2.1 65 3) (fun l => (kstr code cnt (w.2.1 65 0) (w.2.1 65 1) (w.2.1 65 2) (w.2.1 61 l) (w.2.1 62 l) l)) (w.2.1 63) n) := by
  intro k
  induction k using Nat.strongRecOn with
  | ind k ih =>
    intro i w' hi hf hst hfa hs ht
    have hnw : w'.1 6000 = nI n := by rw [hf.1 _ (by decide)]; exact hn
    have hrw : w'.2.2.1 60 = rho := by rw [hf.2.2]; exact hrr
    have e1 : w'.2.1 61 = w.2.1 61 := hf.2.1 _ (by decide)
    have e2 : w'.2.1 62 = w.2.1 62 := hf.2.1 _ (by decide)
    have e5 : w'.2.1 65 = w.2.1 65 := hf.2.1 _ (by decide)
    refine wp_iload_n 0 d_X5_load_61 rfl rfl ?_
    refine wp_aload_n 2 d_X5_load_62 rfl rfl ?_
    refine wp_getfield (v := .int (nI (n))) d_X5_load_63 gf_X5_57 (hp_60 _ _ _ _ _) (congrArg (fun z => some (Value.int z)) hnw) ?_
    refine wp_ncmp_ge (a := i) (b := n) 132 d_X5_load_66 rfl (by omega) (by omega) (fun c66 => ?_) (fun c66 => ?_)
    · refine wp_vret d_X5_load_132 rfl ?_
      obtain rfl : i = n := by omega
      exact ⟨rfl, w', rfl, hf, hst.1, hst.2.1, hst.2.2, hs, ht⟩
    · refine wp_aload_n 1 d_X5_load_69 rfl rfl ?_
      refine wp_getfield (v := .ref (43)) d_X5_load_70 gf_X5_11 (hp_42 _ _ _ _ _) rfl ?_
      refine wp_iconst (v0 := 3) d_X5_load_73 rfl ?_
      refine wp_aload_n 2 d_X5_load_74 rfl rfl ?_
      refine wp_getfield (v := .ref (62)) d_X5_load_75 gf_X5_60 (hp_60 _ _ _ _ _) rfl ?_
      refine wp_iload_n 0 d_X5_load_78 rfl rfl ?_
      refine wp_iaload (v := (w'.2.1 62) (i)) d_X5_load_79 (hp_62 _ _ _ _ _) (vp_in_nI (by omega) (by omega)) (congrArg ((w'.2.1 62)) (nI_clamp (by omega))) ?_
      refine wp_iastore (h' := HP c (setA w' 43 (upd (w'.2.1 43) 3 ((w'.2.1 62) (i)))) m v E) d_X5_load_80 (hp_43 _ _ _ _ _) (kin rfl) ((hpa_43 _ _ _ _ _ _)) ?_
      refine wp_aload_n 1 d_X5_load_81 rfl rfl ?_
      refine wp_getfield (v := .ref (43)) d_X5_load_82 gf_X5_11 (hp_42 _ _ _ _ _) rfl ?_
      refine wp_iconst (v0 := 4) d_X5_load_85 rfl ?_
      refine wp_iload_n 0 d_X5_load_86 rfl rfl ?_
      refine wp_iastore (h' := HP c (setA (setA w' 43 (upd (w'.2.1 43) 3 ((w'.2.1 62) (i)))) 43 (upd (upd (w'.2.1 43) 3 ((w'.2.1 62) (i))) 4 (nI (i)))) m v E) d_X5_load_87 (hp_43 _ _ _ _ _) (kin rfl) ((hpa_43 _ _ _ _ _ _)) ?_
      refine wp_aload_n 1 d_X5_load_88 rfl rfl ?_
      refine wp_getfield (v := .ref (44)) d_X5_load_89 gf_X5_17 (hp_42 _ _ _ _ _) rfl ?_
      refine wp_iload_n 0 d_X5_load_92 rfl rfl ?_
      refine wp_aload_n 2 d_X5_load_93 rfl rfl ?_
      refine wp_getfield (v := .ref (61)) d_X5_load_94 gf_X5_63 (hp_60 _ _ _ _ _) rfl ?_
      refine wp_iload_n 0 d_X5_load_97 rfl rfl ?_
      refine wp_iaload (v := (w'.2.1 61) (i)) d_X5_load_98 (hp_61 _ _ _ _ _) (vp_in_nI (by omega) (by omega)) (congrArg ((w'.2.1 61)) (nI_clamp (by omega))) ?_
      refine wp_aload_n 2 d_X5_load_99 rfl rfl ?_
      refine wp_getfield (v := .ref ((w'.2.2.1 60))) d_X5_load_100 gf_X5_66 (hp_60 _ _ _ _ _) rfl ?_
      rw [hrw]
      refine wp_aload_n 2 d_X5_load_103 rfl rfl ?_
      refine wp_getfield (v := .ref (61)) d_X5_load_104 gf_X5_63 (hp_60 _ _ _ _ _) rfl ?_
      have hkk : ∀ j, j < n → 1 ≤ (w'.2.1 61 j).toInt ∧ (w'.2.1 61 j).toInt ≤ 5 := by rw [e1]; exact hk
      refine wp_iload_n 0 d_X5_load_107 rfl rfl ?_
      refine wp_iaload (v := (w'.2.1 61) (i)) d_X5_load_108 (hp_61 _ _ _ _ _) (vp_in_nI (by omega) (by omega)) (congrArg ((w'.2.1 61)) (nI_clamp (by omega))) ?_
      refine wp_aload_n 1 d_X5_load_109 rfl rfl ?_
      refine wp_getfield (v := .ref (43)) d_X5_load_110 gf_X5_11 (hp_42 _ _ _ _ _) rfl ?_
      refine wp_vrt_i (As := [.int ((w'.2.1 61) (i)), .ref (43)]) (x0 := kbent ((upd (upd (w'.2.1 43) 3 ((w'.2.1 62) (i))) 4 (nI (i)))) code ((w'.2.1 61) (i)) (((upd (upd (w'.2.1 43) 3 ((w'.2.1 62) (i))) 4 (nI (i)))) 3) cnt 0) (h1 := HP c (setA (setA w' 43 (upd (w'.2.1 43) 3 ((w'.2.1 62) (i)))) 43 (upd (upd (w'.2.1 43) 3 ((w'.2.1 62) (i))) 4 (nI (i)))) m v E) d_X5_load_113 lk_X5_70 mv_X6_bent in_X6_bent se_X6_bent (Nat.le_of_ble_eq_true rfl) (Nat.le_of_ble_eq_true rfl) (hR _ _ _ _).1 rfl (s_X6_bent hR hL hc8 hwf ((w'.2.1 61) (i)) (hkk _ (by omega))) ?_
      refine wp_aload_n 2 d_X5_load_116 rfl rfl ?_
      refine wp_getfield (v := .ref (65)) d_X5_load_117 gf_X5_35 (hp_60 _ _ _ _ _) rfl ?_
      refine wp_iconst (v0 := 0) d_X5_load_120 rfl ?_
      refine wp_iaload (v := (w'.2.1 65) (0)) d_X5_load_121 (hp_65 _ _ _ _ _) (kin rfl) rfl ?_
      refine wp_stc_i (As := [.int ((w'.2.1 61) (i)), .int (kbent ((upd (upd (w'.2.1 43) 3 ((w'.2.1 62) (i))) 4 (nI (i)))) code ((w'.2.1 61) (i)) (((upd (upd (w'.2.1 43) 3 ((w'.2.1 62) (i))) 4 (nI (i)))) 3) cnt 0), .int ((w'.2.1 65) (0))]) (x0 := kclip (kunc ((w'.2.1 61) (i)) (kbent ((upd (upd (w'.2.1 43) 3 ((w'.2.1 62) (i))) 4 (nI (i)))) code ((w'.2.1 61) (i)) (((upd (upd (w'.2.1 43) 3 ((w'.2.1 62) (i))) 4 (nI (i)))) 3) cnt 0) ((w'.2.1 65) (0)))) (h1 := HP c (setA (setA w' 43 (upd (w'.2.1 43) 3 ((w'.2.1 62) (i)))) 43 (upd (upd (w'.2.1 43) 3 ((w'.2.1 62) (i))) 4 (nI (i)))) m v E) d_X5_load_122 lk_X5_74 mv_X5_strengthOf st_X5_strengthOf (Nat.le_of_ble_eq_true rfl) (Nat.le_of_ble_eq_true rfl) (s_X5_strengthOf _ ((w'.2.1 61) (i)) (kbent ((upd (upd (w'.2.1 43) 3 ((w'.2.1 62) (i))) 4 (nI (i)))) code ((w'.2.1 61) (i)) (((upd (upd (w'.2.1 43) 3 ((w'.2.1 62) (i))) 4 (nI (i)))) 3) cnt 0) ((w'.2.1 65) (0))) ?_
      refine wp_iastore (h' := HP c (setA (setA (setA w' 43 (upd (w'.2.1 43) 3 ((w'.2.1 62) (i)))) 43 (upd (upd (w'.2.1 43) 3 ((w'.2.1 62) (i))) 4 (nI (i)))) 44 (upd (w'.2.1 44) (i) (kclip (kunc ((w'.2.1 61) (i)) (kbent ((upd (upd (w'.2.1 43) 3 ((w'.2.1 62) (i))) 4 (nI (i)))) code ((w'.2.1 61) (i)) (((upd (upd (w'.2.1 43) 3 ((w'.2.1 62) (i))) 4 (nI (i)))) 3) cnt 0) ((w'.2.1 65) (0)))))) m v E) d_X5_load_125 (hp_44 _ _ _ _ _) (vp_in_nI (by omega) (by omega)) (by rw [nI_clamp (by omega)]; exact (hpa_44 _ _ _ _ _ _)) ?_
      refine wp_iinc (v0 := nI ((i) + 1)) [(2, .int (nI ((i) + 1))), (0, .ref (42)), (1, .ref (60))] 0 d_X5_load_126 rfl (nI_add (i) 1) (Nat.le_of_ble_eq_true rfl) rfl ?_
      refine wp_goto 61 d_X5_load_129 rfl ?_
      obtain ⟨k1, rfl⟩ : ∃ k1, k = k1 + 1 := ⟨k - 1, by omega⟩
      refine wp_sub [(2, .int (nI ((i) + 1))), (0, .ref (42)), (1, .ref (60))] [0, 1, 2] rfl ?_
      refine ih k1 (by omega) (i + 1) _ (by omega) ⟨fun k9 h9 => hf.1 k9 h9, fun k9 h9 => ?_, hf.2.2⟩ hst ⟨?_, ?_, ?_⟩ (fun l hl => ?_) ht
      · simp only [setA]
        rw [updA_n _ _ (by omega), updA_n _ _ (by omega), updA_n _ _ (by omega)]
        exact hf.2.1 k9 h9
      · exact hfa.1
      · exact hfa.2.1
      · exact hfa.2.2
      · show (upd (w'.2.1 44) i _) l = _
        by_cases hli : l = i
        · subst hli
          rw [upd_s]
          simp only [e1, e2, e5] at *
          unfold kstr
          congr 2
          rw [kbent_congr (g := kfac (w.2.1 65 0) (w.2.1 65 1) (w.2.1 65 2) (w.2.1 62 l) l)]
          · congr 1
          · intro k9 h9
            rcases (by omega : k9 = 0 ∨ k9 = 1 ∨ k9 = 2 ∨ k9 = 3 ∨ k9 = 4) with e | e | e | e | e <;> subst e
            · exact hfa.1
            · exact hfa.2.1
            · exact hfa.2.2
            · rfl
            · rfl
        · rw [upd_n _ _ hli]
          exact hs l (by omega)
theorem s_X5_load_60 {X : kX} {d : Nat} {c w m v : kZ} {E : kH} {n : Nat} (hn : w.1 6000 = nI n) (hn9 : n ≤ 9) {rho cnt ka L : Nat} {code : Nat → Int32} (hrr : w.2.2.1 60 = rho) (hR : kRu E rho cnt ka L code) (hL : L < 2 ^ 20) (hc8 : cnt ≤ 8) (hwf : kWF code L cnt 0) (hk : ∀ j, j < n → 1 ≤ (w.2.1 61 j).toInt ∧ (w.2.1 61 j).toInt ≤ 5) : WP X (d + 5) 0 0 Y_X5_load 0 [(0, .ref (42)), (1, .ref (60))] [] (HP c w m v E) (fun r h1 => r = none ∧ ∃ w1 : kZ, h1 = HP c w1 m v E ∧ kLl w w1 ∧ kLd w1 (w.2.1 65 1) (w.2.1 65 2) (w.2.1 65 3) (fun l => (kstr code cnt (w.2.1 65 0) (w.2.1 65 1) (w.2.1 65 2) (w.2.1 61 l) (w.2.1 62 l) l)) (w.2.1 63) n) := by
  refine wp_aload_n 0 d_X5_load_0 rfl rfl ?_
  refine wp_aload_n 1 d_X5_load_1 rfl rfl ?_
  refine wp_getfield (v := .ref (65)) d_X5_load_2 gf_X5_35 (hp_60 _ _ _ _ _) rfl ?_
  refine wp_iconst (v0 := 1) d_X5_load_5 rfl ?_
  refine wp_iaload (v := (w.2.1 65) (1)) d_X5_load_6 (hp_65 _ _ _ _ _) (kin rfl) rfl ?_
  refine wp_putfield (h' := HP c (setS w 4203 ((w.2.1 65) (1))) m v E) d_X5_load_7 gp_X5_40 (kfit_i _) (hp_42 _ _ _ _ _) (Nat.le_of_ble_eq_true rfl) (hps_42_3 _ _ _ _ _ _) ?_
  refine wp_aload_n 0 d_X5_load_10 rfl rfl ?_
  refine wp_aload_n 1 d_X5_load_11 rfl rfl ?_
  refine wp_getfield (v := .ref (65)) d_X5_load_12 gf_X5_35 (hp_60 _ _ _ _ _) rfl ?_
  refine wp_iconst (v0 := 2) d_X5_load_15 rfl ?_
  refine wp_iaload (v := (w.2.1 65) (2)) d_X5_load_16 (hp_65 _ _ _ _ _) (kin rfl) rfl ?_
  refine wp_putfield (h' := HP c (setS (setS w 4203 ((w.2.1 65) (1))) 4204 ((w.2.1 65) (2))) m v E) d_X5_load_17 gp_X5_44 (kfit_i _) (hp_42 _ _ _ _ _) (Nat.le_of_ble_eq_true rfl) (hps_42_4 _ _ _ _ _ _) ?_
  refine wp_aload_n 0 d_X5_load_20 rfl rfl ?_
  refine wp_aload_n 1 d_X5_load_21 rfl rfl ?_
  refine wp_getfield (v := .ref (65)) d_X5_load_22 gf_X5_35 (hp_60 _ _ _ _ _) rfl ?_
  refine wp_iconst (v0 := 3) d_X5_load_25 rfl ?_
  refine wp_iaload (v := (w.2.1 65) (3)) d_X5_load_26 (hp_65 _ _ _ _ _) (kin rfl) rfl ?_
  refine wp_putfield (h' := HP c (setS (setS (setS w 4203 ((w.2.1 65) (1))) 4204 ((w.2.1 65) (2))) 4205 ((w.2.1 65) (3))) m v E) d_X5_load_27 gp_X5_47 (kfit_i _) (hp_42 _ _ _ _ _) (Nat.le_of_ble_eq_true rfl) (hps_42_5 _ _ _ _ _ _) ?_
  refine wp_aload_n 1 d_X5_load_30 rfl rfl ?_
  refine wp_getfield (v := .ref (65)) d_X5_load_31 gf_X5_35 (hp_60 _ _ _ _ _) rfl ?_
  refine wp_iconst (v0 := 0) d_X5_load_34 rfl ?_
  refine wp_aload_n 0 d_X5_load_35 rfl rfl ?_
  refine wp_getfield (v := .ref (43)) d_X5_load_36 gf_X5_11 (hp_42 _ _ _ _ _) rfl ?_
  refine wp_iconst (v0 := 0) d_X5_load_39 rfl ?_
  refine wp_iconst (v0 := 3) d_X5_load_40 rfl ?_
  refine wp_arraycopy (h' := HP c (setA (setS (setS (setS w 4203 ((w.2.1 65) (1))) 4204 ((w.2.1 65) (2))) 4205 ((w.2.1 65) (3))) 43 (va_cpy (w.2.1 65) (w.2.1 43) 0 0 3)) m v E) d_X5_load_41 ar_X5_50 ar_na ar_st ini_J10 (hp_65 _ _ _ _ _) (hp_43 _ _ _ _ _) (by decide) (by decide) (by decide) (by decide) (by decide) (Nat.le_of_ble_eq_true rfl) (hpa_43 _ _ _ _ _ _) ?_
  refine wp_aload_n 1 d_X5_load_44 rfl rfl ?_
  refine wp_getfield (v := .ref (63)) d_X5_load_45 gf_X5_56 (hp_60 _ _ _ _ _) rfl ?_
  refine wp_iconst (v0 := 0) d_X5_load_48 rfl ?_
  refine wp_aload_n 0 d_X5_load_49 rfl rfl ?_
  refine wp_getfield (v := .ref (45)) d_X5_load_50 gf_X5_20 (hp_42 _ _ _ _ _) rfl ?_
  refine wp_iconst (v0 := 0) d_X5_load_53 rfl ?_
  refine wp_bipush (v0 := 9) d_X5_load_54 (by decide) ?_
  refine wp_arraycopy (h' := HP c (setA (setA (setS (setS (setS w 4203 ((w.2.1 65) (1))) 4204 ((w.2.1 65) (2))) 4205 ((w.2.1 65) (3))) 43 (va_cpy (w.2.1 65) (w.2.1 43) 0 0 3)) 45 (va_cpy (w.2.1 63) (w.2.1 45) 0 0 9)) m v E) d_X5_load_56 ar_X5_50 ar_na ar_st ini_J10 (hp_63 _ _ _ _ _) (hp_45 _ _ _ _ _) (by decide) (by decide) (by decide) (by decide) (by decide) (Nat.le_of_ble_eq_true rfl) (hpa_45 _ _ _ _ _ _) ?_
  refine wp_iconst (v0 := 0) d_X5_load_59 rfl ?_
  refine wp_istore_n [(2, .int (0)), (0, .ref (42)), (1, .ref (60))] d_X5_load_60 rfl (Nat.le_of_ble_eq_true rfl) rfl ?_
  refine wp_sub [(2, .int (0)), (0, .ref (42)), (1, .ref (60))] [0, 1, 2] rfl ?_
  refine s_X5_load_l_60 hn hn9 hrr hR hL hc8 hwf hk n 0 _ (by omega) ⟨fun k9 h9 => ?_, fun k9 h9 => ?_, rfl⟩ ⟨?_, ?_, ?_⟩ ⟨?_, ?_, ?_⟩ (fun l hl => absurd hl (by omega)) (fun j hj => ?_)
  · simp only [setS, setA, upd]; repeat rw [if_neg (by omega)]
  · simp only [setS, setA, updA]; repeat rw [if_neg (by omega)]
  · rfl
  · rfl
  · rfl
  · exact k_cpy (f := w.2.1 65) (g := w.2.1 43) (n := 3) (j := 0) (by decide)
  · exact k_cpy (f := w.2.1 65) (g := w.2.1 43) (n := 3) (j := 1) (by decide)
  · exact k_cpy (f := w.2.1 65) (g := w.2.1 43) (n := 3) (j := 2) (by decide)
  · exact k_cpy (f := w.2.1 63) (g := w.2.1 45) (n := 9) hj
/-! passing light -/
abbrev kQ : Type := Int32 × Int32 × Int32 × Int32
def kst (g : Int32) (q : kQ) (e : Int32 × Int32) : kQ := (q.1 + g * (q.2.1 + e.2 - e.1 * q.1), q.2.1 + e.2 - e.1 * q.1, q.2.2.1 + g * (q.2.2.2 - e.1 * q.2.2.1), q.2.2.2 - e.1 * q.2.2.1)
def kray (g : Int32) (l : List (Int32 × Int32)) : kQ := l.foldl (kst g) (0, 0, 1, 0)
theorem kray_s (g : Int32) (l : List (Int32 × Int32)) (e : Int32 × Int32) : kray g (l ++ [e]) = kst g (kray g l) e := by simp only [kray, List.foldl_append, List.foldl_cons, List.foldl_nil]
/-- the light's rows hold the rays behind each of l's places -/
def kRay (w : kZ) (l : List (Int32 × Int32)) : Prop := ∀ k, k ≤ l.length → (w.2.1 46 k, w.2.1 47 k, w.2.1 48 k, w.2.1 49 k) = kray (w.1 4203) (l.take k)
def kpass (w : kZ) (p : Nat) (b u : Int32) : kZ := setA (setA (setA (setA w 47 (upd (w.2.1 47) (p + 1) (w.2.1 47 p + u - b * w.2.1 46 p))) 46 (upd (w.2.1 46) (p + 1) (w.2.1 46 p + w.1 4203 * (w.2.1 47 p + u - b * w.2.1 46 p)))) 49 (upd (w.2.1 49) (p + 1) (w.2.1 49 p - b * w.2.1 48 p))) 48 (upd (w.2.1 48) (p + 1) (w.2.1 48 p + w.1 4203 * (w.2.1 49 p - b * w.2.1 48 p)))
theorem kRay.pass {w : kZ} {l : List (Int32 × Int32)} (h : kRay w l) {p : Nat} (hp : p = l.length) (b u : Int32) : kRay (kpass w p b u) (l ++ [(b, u)]) := by
  intro k hk
  rw [List.length_append] at hk
  have hg : (kpass w p b u).1 4203 = w.1 4203 := rfl
  rw [hg]
  by_cases e : k = p + 1
  · subst e
    have h1 := h p (by omega)
    rw [hp, List.take_length] at h1
    rw [List.take_of_length_le (by simp; omega), kray_s, ← h1]
    show (upd _ _ _ _, upd _ _ _ _, upd _ _ _ _, upd _ _ _ _) = _
    simp only [upd_s, kst, hp]
  · have hk2 : k ≤ l.length := by simp at hk; omega
    have h1 := h k hk2
    rw [List.take_append_of_le_length hk2, ← h1]
    show (upd _ _ _ _, upd _ _ _ _, upd _ _ _ _, upd _ _ _ _) = _
    simp only [upd_n _ _ e]
theorem kpass_f (w : kZ) (p : Nat) (b u : Int32) : kLf w (kpass w p b u) := ⟨fun _ _ => rfl, fun k hk => by simp only [kpass, setA]; rw [updA_n _ _ (by omega), updA_n _ _ (by omega), updA_n _ _ (by omega), updA_n _ _ (by omega)], rfl⟩
theorem kRay.len {w : kZ} {l : List (Int32 × Int32)} (h : kRay w l) {j : Nat} : kRay w (l.take j) := by
  intro k hk
  rw [List.length_take] at hk
  rw [List.take_take, Nat.min_eq_left (by omega)]
  exact h k (by omega)
theorem kRay.f {w w' : kZ} {l : List (Int32 × Int32)} (h : kRay w l) (hg : w'.1 4203 = w.1 4203) (ha : ∀ k, k ≤ l.length → w'.2.1 46 k = w.2.1 46 k ∧ w'.2.1 47 k = w.2.1 47 k ∧ w'.2.1 48 k = w.2.1 48 k ∧ w'.2.1 49 k = w.2.1 49 k) : kRay w' l := by
  intro k hk
  obtain ⟨a, b, c, d⟩ := ha k hk
  rw [a, b, c, d, hg]
  exact h k hk
def kpush (tl : Int32) (t : Int32) : Int32 := if t = 0 then tl else if t = 2 then -tl else 0
theorem s_X5_pass {X : kX} {d : Nat} {c w m v : kZ} {E : kH} {p : Nat} (hp4 : p ≤ 4) (b u : Int32) : WP X d 0 0 Y_X5_pass 0 [(0, .ref (42)), (1, .int (nI (p))), (2, .int (b)), (3, .int (u))] [] (HP c w m v E) (kR none (HP c (kpass w p b u) m v E)) := by
  refine wp_aload_n 0 d_X5_pass_0 rfl rfl ?_
  refine wp_getfield (v := .ref (47)) d_X5_pass_1 gf_X5_26 (hp_42 _ _ _ _ _) rfl ?_
  refine wp_iload_n 1 d_X5_pass_4 rfl rfl ?_
  refine wp_iconst (v0 := 1) d_X5_pass_5 rfl ?_
  refine wp_iadd d_X5_pass_6 ?_
  refine wp_v (v0 := nI ((p) + (1))) (nI_add (p) (1)) ?_
  refine wp_aload_n 0 d_X5_pass_7 rfl rfl ?_
  refine wp_getfield (v := .ref (47)) d_X5_pass_8 gf_X5_26 (hp_42 _ _ _ _ _) rfl ?_
  refine wp_iload_n 1 d_X5_pass_11 rfl rfl ?_
  refine wp_iaload (v := (w.2.1 47) (p)) d_X5_pass_12 (hp_47 _ _ _ _ _) (vp_in_nI (by omega) (by omega)) (congrArg ((w.2.1 47)) (nI_clamp (by omega))) ?_
  refine wp_iload_n 3 d_X5_pass_13 rfl rfl ?_
  refine wp_iadd d_X5_pass_14 ?_
  refine wp_iload_n 2 d_X5_pass_15 rfl rfl ?_
  refine wp_aload_n 0 d_X5_pass_16 rfl rfl ?_
  refine wp_getfield (v := .ref (46)) d_X5_pass_17 gf_X5_23 (hp_42 _ _ _ _ _) rfl ?_
  refine wp_iload_n 1 d_X5_pass_20 rfl rfl ?_
  refine wp_iaload (v := (w.2.1 46) (p)) d_X5_pass_21 (hp_46 _ _ _ _ _) (vp_in_nI (by omega) (by omega)) (congrArg ((w.2.1 46)) (nI_clamp (by omega))) ?_
  refine wp_imul d_X5_pass_22 ?_
  refine wp_isub d_X5_pass_23 ?_
  refine wp_iastore (h' := HP c (setA w 47 (upd (w.2.1 47) ((p) + (1)) ((((w.2.1 47) (p)) + (u)) - ((b) * ((w.2.1 46) (p)))))) m v E) d_X5_pass_24 (hp_47 _ _ _ _ _) (vp_in_nI (by omega) (by omega)) (by rw [nI_clamp (by omega)]; exact (hpa_47 _ _ _ _ _ _)) ?_
  refine wp_aload_n 0 d_X5_pass_25 rfl rfl ?_
  refine wp_getfield (v := .ref (46)) d_X5_pass_26 gf_X5_23 (hp_42 _ _ _ _ _) rfl ?_
  refine wp_iload_n 1 d_X5_pass_29 rfl rfl ?_
  refine wp_iconst (v0 := 1) d_X5_pass_30 rfl ?_
  refine wp_iadd d_X5_pass_31 ?_
  refine wp_v (v0 := nI ((p) + (1))) (nI_add (p) (1)) ?_
  refine wp_aload_n 0 d_X5_pass_32 rfl rfl ?_
  refine wp_getfield (v := .ref (46)) d_X5_pass_33 gf_X5_23 (hp_42 _ _ _ _ _) rfl ?_
  refine wp_iload_n 1 d_X5_pass_36 rfl rfl ?_
  refine wp_iaload (v := (w.2.1 46) (p)) d_X5_pass_37 (hp_46 _ _ _ _ _) (vp_in_nI (by omega) (by omega)) (congrArg ((w.2.1 46)) (nI_clamp (by omega))) ?_
  refine wp_aload_n 0 d_X5_pass_38 rfl rfl ?_
  refine wp_getfield (v := .int ((w.1 4203))) d_X5_pass_39 gf_X5_40 (hp_42 _ _ _ _ _) rfl ?_
  refine wp_aload_n 0 d_X5_pass_42 rfl rfl ?_
  refine wp_getfield (v := .ref (47)) d_X5_pass_43 gf_X5_26 (hp_42 _ _ _ _ _) rfl ?_
  refine wp_iload_n 1 d_X5_pass_46 rfl rfl ?_
  refine wp_iconst (v0 := 1) d_X5_pass_47 rfl ?_
  refine wp_iadd d_X5_pass_48 ?_
  refine wp_v (v0 := nI ((p) + (1))) (nI_add (p) (1)) ?_
  refine wp_iaload (v := (upd (w.2.1 47) ((p) + (1)) ((((w.2.1 47) (p)) + (u)) - ((b) * ((w.2.1 46) (p))))) ((p) + (1))) d_X5_pass_49 (hp_47 _ _ _ _ _) (vp_in_nI (by omega) (by omega)) (congrArg ((upd (w.2.1 47) ((p) + (1)) ((((w.2.1 47) (p)) + (u)) - ((b) * ((w.2.1 46) (p)))))) (nI_clamp (by omega))) ?_
  refine wp_imul d_X5_pass_50 ?_
  refine wp_iadd d_X5_pass_51 ?_
  refine wp_iastore (h' := HP c (setA (setA w 47 (upd (w.2.1 47) ((p) + (1)) ((((w.2.1 47) (p)) + (u)) - ((b) * ((w.2.1 46) (p)))))) 46 (upd (w.2.1 46) ((p) + (1)) (((w.2.1 46) (p)) + (((w.1 4203)) * ((upd (w.2.1 47) ((p) + (1)) ((((w.2.1 47) (p)) + (u)) - ((b) * ((w.2.1 46) (p))))) ((p) + (1))))))) m v E) d_X5_pass_52 (hp_46 _ _ _ _ _) (vp_in_nI (by omega) (by omega)) (by rw [nI_clamp (by omega)]; exact (hpa_46 _ _ _ _ _ _)) ?_
  refine wp_aload_n 0 d_X5_pass_53 rfl rfl ?_
  refine wp_getfield (v := .ref (49)) d_X5_pass_54 gf_X5_32 (hp_42 _ _ _ _ _) rfl ?_
  refine wp_iload_n 1 d_X5_pass_57 rfl rfl ?_
  refine wp_iconst (v0 := 1) d_X5_pass_58 rfl ?_
  refine wp_iadd d_X5_pass_59 ?_
  refine wp_v (v0 := nI ((p) + (1))) (nI_add (p) (1)) ?_
  refine wp_aload_n 0 d_X5_pass_60 rfl rfl ?_
  refine wp_getfield (v := .ref (49)) d_X5_pass_61 gf_X5_32 (hp_42 _ _ _ _ _) rfl ?_
  refine wp_iload_n 1 d_X5_pass_64 rfl rfl ?_
  refine wp_iaload (v := (w.2.1 49) (p)) d_X5_pass_65 (hp_49 _ _ _ _ _) (vp_in_nI (by omega) (by omega)) (congrArg ((w.2.1 49)) (nI_clamp (by omega))) ?_
  refine wp_iload_n 2 d_X5_pass_66 rfl rfl ?_
  refine wp_aload_n 0 d_X5_pass_67 rfl rfl ?_
  refine wp_getfield (v := .ref (48)) d_X5_pass_68 gf_X5_29 (hp_42 _ _ _ _ _) rfl ?_
  refine wp_iload_n 1 d_X5_pass_71 rfl rfl ?_
  refine wp_iaload (v := (w.2.1 48) (p)) d_X5_pass_72 (hp_48 _ _ _ _ _) (vp_in_nI (by omega) (by omega)) (congrArg ((w.2.1 48)) (nI_clamp (by omega))) ?_
  refine wp_imul d_X5_pass_73 ?_
  refine wp_isub d_X5_pass_74 ?_
  refine wp_iastore (h' := HP c (setA (setA (setA w 47 (upd (w.2.1 47) ((p) + (1)) ((((w.2.1 47) (p)) + (u)) - ((b) * ((w.2.1 46) (p)))))) 46 (upd (w.2.1 46) ((p) + (1)) (((w.2.1 46) (p)) + (((w.1 4203)) * ((upd (w.2.1 47) ((p) + (1)) ((((w.2.1 47) (p)) + (u)) - ((b) * ((w.2.1 46) (p))))) ((p) + (1))))))) 49 (upd (w.2.1 49) ((p) + (1)) (((w.2.1 49) (p)) - ((b) * ((w.2.1 48) (p)))))) m v E) d_X5_pass_75 (hp_49 _ _ _ _ _) (vp_in_nI (by omega) (by omega)) (by rw [nI_clamp (by omega)]; exact (hpa_49 _ _ _ _ _ _)) ?_
  refine wp_aload_n 0 d_X5_pass_76 rfl rfl ?_
  refine wp_getfield (v := .ref (48)) d_X5_pass_77 gf_X5_29 (hp_42 _ _ _ _ _) rfl ?_
  refine wp_iload_n 1 d_X5_pass_80 rfl rfl ?_
  refine wp_iconst (v0 := 1) d_X5_pass_81 rfl ?_
  refine wp_iadd d_X5_pass_82 ?_
  refine wp_v (v0 := nI ((p) + (1))) (nI_add (p) (1)) ?_
  refine wp_aload_n 0 d_X5_pass_83 rfl rfl ?_
  refine wp_getfield (v := .ref (48)) d_X5_pass_84 gf_X5_29 (hp_42 _ _ _ _ _) rfl ?_
  refine wp_iload_n 1 d_X5_pass_87 rfl rfl ?_
  refine wp_iaload (v := (w.2.1 48) (p)) d_X5_pass_88 (hp_48 _ _ _ _ _) (vp_in_nI (by omega) (by omega)) (congrArg ((w.2.1 48)) (nI_clamp (by omega))) ?_
  refine wp_aload_n 0 d_X5_pass_89 rfl rfl ?_
  refine wp_getfield (v := .int ((w.1 4203))) d_X5_pass_90 gf_X5_40 (hp_42 _ _ _ _ _) rfl ?_
  refine wp_aload_n 0 d_X5_pass_93 rfl rfl ?_
  refine wp_getfield (v := .ref (49)) d_X5_pass_94 gf_X5_32 (hp_42 _ _ _ _ _) rfl ?_
  refine wp_iload_n 1 d_X5_pass_97 rfl rfl ?_
  refine wp_iconst (v0 := 1) d_X5_pass_98 rfl ?_
  refine wp_iadd d_X5_pass_99 ?_
  refine wp_v (v0 := nI ((p) + (1))) (nI_add (p) (1)) ?_
  refine wp_iaload (v := (upd (w.2.1 49) ((p) + (1)) (((w.2.1 49) (p)) - ((b) * ((w.2.1 48) (p))))) ((p) + (1))) d_X5_pass_100 (hp_49 _ _ _ _ _) (vp_in_nI (by omega) (by omega)) (congrArg ((upd (w.2.1 49) ((p) + (1)) (((w.2.1 49) (p)) - ((b) * ((w.2.1 48) (p)))))) (nI_clamp (by omega))) ?_
  refine wp_imul d_X5_pass_101 ?_
  refine wp_iadd d_X5_pass_102 ?_
  refine wp_iastore (h' := HP c (setA (setA (setA (setA w 47 (upd (w.2.1 47) ((p) + (1)) ((((w.2.1 47) (p)) + (u)) - ((b) * ((w.2.1 46) (p)))))) 46 (upd (w.2.1 46) ((p) + (1)) (((w.2.1 46) (p)) + (((w.1 4203)) * ((upd (w.2.1 47) ((p) + (1)) ((((w.2.1 47) (p)) + (u)) - ((b) * ((w.2.1 46) (p))))) ((p) + (1))))))) 49 (upd (w.2.1 49) ((p) + (1)) (((w.2.1 49) (p)) - ((b) * ((w.2.1 48) (p)))))) 48 (upd (w.2.1 48) ((p) + (1)) (((w.2.1 48) (p)) + (((w.1 4203)) * ((upd (w.2.1 49) ((p) + (1)) (((w.2.1 49) (p)) - ((b) * ((w.2.1 48) (p))))) ((p) + (1))))))) m v E) d_X5_pass_103 (hp_48 _ _ _ _ _) (vp_in_nI (by omega) (by omega)) (by rw [nI_clamp (by omega)]; exact (hpa_48 _ _ _ _ _ _)) ?_
  refine wp_vret d_X5_pass_104 rfl ?_
  exact ⟨rfl, by simp only [upd_s, kpass]⟩
theorem s_X5_put {X : kX} {d : Nat} {c w m v : kZ} {E : kH} {p l : Nat} (hp4 : p ≤ 4) (hl : l < 9) (t : Int32) : WP X (d + 1) 0 0 Y_X5_put 0 [(0, .ref (42)), (1, .int (nI (p))), (2, .int (nI (l))), (3, .int (t))] [] (HP c w m v E) (kR none (HP c (kpass w p (w.2.1 44 l) (kpush (w.2.1 45 l) t)) m v E)) := by
  refine wp_iconst (v0 := 0) d_X5_put_0 rfl ?_
  refine wp_istore [(4, .int (0)), (0, .ref (42)), (1, .int (nI (p))), (2, .int (nI (l))), (3, .int (t))] d_X5_put_1 (Nat.le_of_ble_eq_true rfl) rfl ?_
  refine wp_iload_n 4 d_X5_put_3 rfl rfl ?_
  refine wp_if_ne 18 d_X5_put_4 rfl (fun c4 => ?_) (fun c4 => ?_)
  · refine wp_iload_n 4 d_X5_put_18 rfl rfl ?_
    refine wp_iconst (v0 := 2) d_X5_put_19 rfl ?_
    refine wp_icmp_ne 32 d_X5_put_20 rfl (fun c20 => ?_) (fun c20 => ?_)
    · refine wp_aload_n 1 d_X5_put_32 rfl rfl ?_
      refine wp_iload_n 2 d_X5_put_33 rfl rfl ?_
      refine wp_aload_n 1 d_X5_put_34 rfl rfl ?_
      refine wp_getfield (v := .ref (44)) d_X5_put_35 gf_X5_17 (hp_42 _ _ _ _ _) rfl ?_
      refine wp_iload_n 3 d_X5_put_38 rfl rfl ?_
      refine wp_iaload (v := (w.2.1 44) (l)) d_X5_put_39 (hp_44 _ _ _ _ _) (vp_in_nI (by omega) (by omega)) (congrArg ((w.2.1 44)) (nI_clamp (by omega))) ?_
      refine wp_iload 0 d_X5_put_40 rfl ?_
      refine wp_vrt_v (As := [.int (nI (p)), .int ((w.2.1 44) (l)), .int (0)]) (h1 := HP c (kpass w (p) ((w.2.1 44) (l)) (0)) m v E) d_X5_put_42 lk_X5_94 mv_X5_pass in_X5_pass se_X5_pass (Nat.le_of_ble_eq_true rfl) (Nat.le_of_ble_eq_true rfl) (hp_42 _ _ _ _ _) rfl (s_X5_pass (p := p) (by omega) ((w.2.1 44) (l)) (0)) ?_
      refine wp_vret d_X5_put_45 rfl ?_
      refine ⟨rfl, ?_⟩
      congr 2
      simp_all [kpush]
    · refine wp_aload_n 1 d_X5_put_23 rfl rfl ?_
      refine wp_getfield (v := .ref (45)) d_X5_put_24 gf_X5_20 (hp_42 _ _ _ _ _) rfl ?_
      refine wp_iload_n 3 d_X5_put_27 rfl rfl ?_
      refine wp_iaload (v := (w.2.1 45) (l)) d_X5_put_28 (hp_45 _ _ _ _ _) (vp_in_nI (by omega) (by omega)) (congrArg ((w.2.1 45)) (nI_clamp (by omega))) ?_
      refine wp_ineg d_X5_put_29 ?_
      refine wp_istore [(4, .int (-((w.2.1 45) (l)))), (0, .ref (42)), (1, .int (nI (p))), (2, .int (nI (l))), (3, .int (t))] d_X5_put_30 (Nat.le_of_ble_eq_true rfl) rfl ?_
      refine wp_aload_n 1 d_X5_put_32 rfl rfl ?_
      refine wp_iload_n 2 d_X5_put_33 rfl rfl ?_
      refine wp_aload_n 1 d_X5_put_34 rfl rfl ?_
      refine wp_getfield (v := .ref (44)) d_X5_put_35 gf_X5_17 (hp_42 _ _ _ _ _) rfl ?_
      refine wp_iload_n 3 d_X5_put_38 rfl rfl ?_
      refine wp_iaload (v := (w.2.1 44) (l)) d_X5_put_39 (hp_44 _ _ _ _ _) (vp_in_nI (by omega) (by omega)) (congrArg ((w.2.1 44)) (nI_clamp (by omega))) ?_
      refine wp_iload 0 d_X5_put_40 rfl ?_
      refine wp_vrt_v (As := [.int (nI (p)), .int ((w.2.1 44) (l)), .int (-((w.2.1 45) (l)))]) (h1 := HP c (kpass w (p) ((w.2.1 44) (l)) (-((w.2.1 45) (l)))) m v E) d_X5_put_42 lk_X5_94 mv_X5_pass in_X5_pass se_X5_pass (Nat.le_of_ble_eq_true rfl) (Nat.le_of_ble_eq_true rfl) (hp_42 _ _ _ _ _) rfl (s_X5_pass (p := p) (by omega) ((w.2.1 44) (l)) (-((w.2.1 45) (l)))) ?_
      refine wp_vret d_X5_put_45 rfl ?_
      refine ⟨rfl, ?_⟩
      congr 2
      simp_all [kpush]
  · refine wp_aload_n 1 d_X5_put_7 rfl rfl ?_
    refine wp_getfield (v := .ref (45)) d_X5_put_8 gf_X5_20 (hp_42 _ _ _ _ _) rfl ?_
    refine wp_iload_n 3 d_X5_put_11 rfl rfl ?_
    refine wp_iaload (v := (w.2.1 45) (l)) d_X5_put_12 (hp_45 _ _ _ _ _) (vp_in_nI (by omega) (by omega)) (congrArg ((w.2.1 45)) (nI_clamp (by omega))) ?_
    refine wp_istore [(4, .int ((w.2.1 45) (l))), (0, .ref (42)), (1, .int (nI (p))), (2, .int (nI (l))), (3, .int (t))] d_X5_put_13 (Nat.le_of_ble_eq_true rfl) rfl ?_
    refine wp_goto 32 d_X5_put_15 rfl ?_
    refine wp_aload_n 1 d_X5_put_32 rfl rfl ?_
    refine wp_iload_n 2 d_X5_put_33 rfl rfl ?_
    refine wp_aload_n 1 d_X5_put_34 rfl rfl ?_
    refine wp_getfield (v := .ref (44)) d_X5_put_35 gf_X5_17 (hp_42 _ _ _ _ _) rfl ?_
    refine wp_iload_n 3 d_X5_put_38 rfl rfl ?_
    refine wp_iaload (v := (w.2.1 44) (l)) d_X5_put_39 (hp_44 _ _ _ _ _) (vp_in_nI (by omega) (by omega)) (congrArg ((w.2.1 44)) (nI_clamp (by omega))) ?_
    refine wp_iload 0 d_X5_put_40 rfl ?_
    refine wp_vrt_v (As := [.int (nI (p)), .int ((w.2.1 44) (l)), .int ((w.2.1 45) (l))]) (h1 := HP c (kpass w (p) ((w.2.1 44) (l)) ((w.2.1 45) (l))) m v E) d_X5_put_42 lk_X5_94 mv_X5_pass in_X5_pass se_X5_pass (Nat.le_of_ble_eq_true rfl) (Nat.le_of_ble_eq_true rfl) (hp_42 _ _ _ _ _) rfl (s_X5_pass (p := p) (by omega) ((w.2.1 44) (l)) ((w.2.1 45) (l))) ?_
    refine wp_vret d_X5_put_45 rfl ?_
    refine ⟨rfl, ?_⟩
    congr 2
    simp_all [kpush]
theorem s_X5_see {X : kX} {d : Nat} {c w m v : kZ} {E : kH} {p : Nat} (hp4 : p ≤ 4) : WP X (d + 1) 0 0 Y_X5_see 0 [(0, .ref (42)), (1, .int (nI (p)))] [] (HP c w m v E) (kR none (HP c (setS (kpass w p (w.1 4204) 0) 4210 (nI (p + 1))) m v E)) := by
  refine wp_aload_n 0 d_X5_see_0 rfl rfl ?_
  refine wp_iload_n 1 d_X5_see_1 rfl rfl ?_
  refine wp_aload_n 0 d_X5_see_2 rfl rfl ?_
  refine wp_getfield (v := .int ((w.1 4204))) d_X5_see_3 gf_X5_44 (hp_42 _ _ _ _ _) rfl ?_
  refine wp_iconst (v0 := 0) d_X5_see_6 rfl ?_
  refine wp_vrt_v (As := [.int (nI (p)), .int ((w.1 4204)), .int (0)]) (h1 := HP c (kpass w (p) ((w.1 4204)) (0)) m v E) d_X5_see_7 lk_X5_94 mv_X5_pass in_X5_pass se_X5_pass (Nat.le_of_ble_eq_true rfl) (Nat.le_of_ble_eq_true rfl) (hp_42 _ _ _ _ _) rfl (s_X5_pass (p := p) (by omega) ((w.1 4204)) (0)) ?_
  refine wp_aload_n 0 d_X5_see_10 rfl rfl ?_
  refine wp_iload_n 1 d_X5_see_11 rfl rfl ?_
  refine wp_iconst (v0 := 1) d_X5_see_12 rfl ?_
  refine wp_iadd d_X5_see_13 ?_
  refine wp_v (v0 := nI ((p) + (1))) (nI_add (p) (1)) ?_
  refine wp_putfield (h' := HP c (setS (kpass w (p) ((w.1 4204)) (0)) 4210 (nI ((p) + (1)))) m v E) d_X5_see_14 gp_X5_111 (kfit_i _) (hp_42 _ _ _ _ _) (Nat.le_of_ble_eq_true rfl) (hps_42_10 _ _ _ _ _ _) ?_
  refine wp_vret d_X5_see_17 rfl ?_
  exact ⟨rfl, rfl⟩
theorem s_X5_shiftSeen {X : kX} {d : Nat} {c w m v : kZ} {E : kH} {e : Nat} (he : w.1 4210 = nI e) (he5 : e ≤ 5) : WP X (d + 1) 0 0 Y_X5_shiftSeen 0 [(0, .ref (42))] [] (HP c w m v E) (kR (some (.int (kabs (w.2.1 46 e)))) (HP c w m v E)) := by
  refine wp_aload_n 0 d_X5_shiftSeen_0 rfl rfl ?_
  refine wp_getfield (v := .ref (46)) d_X5_shiftSeen_1 gf_X5_23 (hp_42 _ _ _ _ _) rfl ?_
  refine wp_aload_n 0 d_X5_shiftSeen_4 rfl rfl ?_
  refine wp_getfield (v := .int (nI (e))) d_X5_shiftSeen_5 gf_X5_111 (hp_42 _ _ _ _ _) (congrArg (fun z => some (Value.int z)) he) ?_
  refine wp_iaload (v := (w.2.1 46) (e)) d_X5_shiftSeen_8 (hp_46 _ _ _ _ _) (vp_in_nI (by omega) (by omega)) (congrArg ((w.2.1 46)) (nI_clamp (by omega))) ?_
  refine wp_mabs (y0 := 0) d_X5_shiftSeen_9 mk_X5_117 mst_abs ini_J9 mco_abs (Nat.le_of_ble_eq_true rfl) ?_
  refine wp_reti d_X5_shiftSeen_12 rfl ?_
  exact kR_i rfl rfl
theorem s_X5_blurSeen {X : kX} {d : Nat} {c w m v : kZ} {E : kH} {e : Nat} (he : w.1 4210 = nI e) (he5 : e ≤ 5) : WP X (d + 1) 0 0 Y_X5_blurSeen 0 [(0, .ref (42))] [] (HP c w m v E) (kR (some (.int (kabs (w.2.1 48 e)))) (HP c w m v E)) := by
  refine wp_aload_n 0 d_X5_blurSeen_0 rfl rfl ?_
  refine wp_getfield (v := .ref (48)) d_X5_blurSeen_1 gf_X5_29 (hp_42 _ _ _ _ _) rfl ?_
  refine wp_aload_n 0 d_X5_blurSeen_4 rfl rfl ?_
  refine wp_getfield (v := .int (nI (e))) d_X5_blurSeen_5 gf_X5_111 (hp_42 _ _ _ _ _) (congrArg (fun z => some (Value.int z)) he) ?_
  refine wp_iaload (v := (w.2.1 48) (e)) d_X5_blurSeen_8 (hp_48 _ _ _ _ _) (vp_in_nI (by omega) (by omega)) (congrArg ((w.2.1 48)) (nI_clamp (by omega))) ?_
  refine wp_mabs (y0 := 0) d_X5_blurSeen_9 mk_X5_117 mst_abs ini_J9 mco_abs (Nat.le_of_ble_eq_true rfl) ?_
  refine wp_reti d_X5_blurSeen_12 rfl ?_
  exact kR_i rfl rfl
theorem s_X5_wrongSeen {X : kX} {d : Nat} {c w m v : kZ} {E : kH} {e : Nat} (he : w.1 4210 = nI e) (he5 : e ≤ 5) : WP X (d + 2) 0 0 Y_X5_wrongSeen 0 [(0, .ref (42))] [] (HP c w m v E) (kR (some (.int (kabs (w.2.1 46 e) + kabs (w.2.1 48 e)))) (HP c w m v E)) := by
  refine wp_aload_n 0 d_X5_wrongSeen_0 rfl rfl ?_
  refine wp_vrt_i (As := []) (x0 := kabs (w.2.1 46 e)) (h1 := HP c w m v E) d_X5_wrongSeen_1 lk_X5_121 mv_X5_shiftSeen in_X5_shiftSeen se_X5_shiftSeen (Nat.le_of_ble_eq_true rfl) (Nat.le_of_ble_eq_true rfl) (hp_42 _ _ _ _ _) rfl (s_X5_shiftSeen he he5) ?_
  refine wp_aload_n 0 d_X5_wrongSeen_4 rfl rfl ?_
  refine wp_vrt_i (As := []) (x0 := kabs (w.2.1 48 e)) (h1 := HP c w m v E) d_X5_wrongSeen_5 lk_X5_125 mv_X5_blurSeen in_X5_blurSeen se_X5_blurSeen (Nat.le_of_ble_eq_true rfl) (Nat.le_of_ble_eq_true rfl) (hp_42 _ _ _ _ _) rfl (s_X5_blurSeen he he5) ?_
  refine wp_iadd d_X5_wrongSeen_8 ?_
  refine wp_reti d_X5_wrongSeen_9 rfl ?_
  exact kR_i rfl rfl
theorem s_X5_isMended {X : kX} {d : Nat} {c w m v : kZ} {E : kH} {e : Nat} (he : w.1 4210 = nI e) (he5 : e ≤ 5) : WP X (d + 3) 0 0 Y_X5_isMended 0 [(0, .ref (42))] [] (HP c w m v E) (kR (some (.int (kb (kabs (w.2.1 46 e) + kabs (w.2.1 48 e) ≤ w.1 4205)))) (HP c w m v E)) := by
  refine wp_aload_n 0 d_X5_isMended_0 rfl rfl ?_
  refine wp_vrt_i (As := []) (x0 := kabs (w.2.1 46 e) + kabs (w.2.1 48 e)) (h1 := HP c w m v E) d_X5_isMended_1 lk_X5_128 mv_X5_wrongSeen in_X5_wrongSeen se_X5_wrongSeen (Nat.le_of_ble_eq_true rfl) (Nat.le_of_ble_eq_true rfl) (hp_42 _ _ _ _ _) rfl (s_X5_wrongSeen he he5) ?_
  refine wp_aload_n 0 d_X5_isMended_4 rfl rfl ?_
  refine wp_getfield (v := .int ((w.1 4205))) d_X5_isMended_5 gf_X5_47 (hp_42 _ _ _ _ _) rfl ?_
  refine wp_icmp_gt 15 d_X5_isMended_8 rfl (fun c8 => ?_) (fun c8 => ?_)
  · refine wp_iconst (v0 := 0) d_X5_isMended_15 rfl ?_
    refine wp_iret d_X5_isMended_16 rfl k_nar0 ?_
    exact kR_i (Eq.symm (kb_f (Int32.not_le.mpr c8))) rfl
  · refine wp_iconst (v0 := 1) d_X5_isMended_11 rfl ?_
    refine wp_goto 16 d_X5_isMended_12 rfl ?_
    refine wp_iret d_X5_isMended_16 rfl k_nar1 ?_
    exact kR_i (Eq.symm (kb_t (Int32.not_lt.mp c8))) rfl
theorem s_X5_heightAt {X : kX} {d : Nat} {c w m v : kZ} {E : kH} {k : Nat} (hk : k ≤ 5) (x : Int32) : WP X d 0 0 Y_X5_heightAt 0 [(0, .ref (42)), (1, .int (nI (k))), (2, .int (x))] [] (HP c w m v E) (kR (some (.int (w.2.1 46 k + x * w.2.1 48 k))) (HP c w m v E)) := by
  refine wp_aload_n 0 d_X5_heightAt_0 rfl rfl ?_
  refine wp_getfield (v := .ref (46)) d_X5_heightAt_1 gf_X5_23 (hp_42 _ _ _ _ _) rfl ?_
  refine wp_iload_n 1 d_X5_heightAt_4 rfl rfl ?_
  refine wp_iaload (v := (w.2.1 46) (k)) d_X5_heightAt_5 (hp_46 _ _ _ _ _) (vp_in_nI (by omega) (by omega)) (congrArg ((w.2.1 46)) (nI_clamp (by omega))) ?_
  refine wp_iload_n 2 d_X5_heightAt_6 rfl rfl ?_
  refine wp_aload_n 0 d_X5_heightAt_7 rfl rfl ?_
  refine wp_getfield (v := .ref (48)) d_X5_heightAt_8 gf_X5_29 (hp_42 _ _ _ _ _) rfl ?_
  refine wp_iload_n 1 d_X5_heightAt_11 rfl rfl ?_
  refine wp_iaload (v := (w.2.1 48) (k)) d_X5_heightAt_12 (hp_48 _ _ _ _ _) (vp_in_nI (by omega) (by omega)) (congrArg ((w.2.1 48)) (nI_clamp (by omega))) ?_
  refine wp_imul d_X5_heightAt_13 ?_
  refine wp_iadd d_X5_heightAt_14 ?_
  refine wp_reti d_X5_heightAt_15 rfl ?_
  exact kR_i rfl rfl
theorem s_X5_slopeAt {X : kX} {d : Nat} {c w m v : kZ} {E : kH} {k : Nat} (hk : k ≤ 5) (x : Int32) : WP X d 0 0 Y_X5_slopeAt 0 [(0, .ref (42)), (1, .int (nI (k))), (2, .int (x))] [] (HP c w m v E) (kR (some (.int (w.2.1 47 k + x * w.2.1 49 k))) (HP c w m v E)) := by
  refine wp_aload_n 0 d_X5_slopeAt_0 rfl rfl ?_
  refine wp_getfield (v := .ref (47)) d_X5_slopeAt_1 gf_X5_26 (hp_42 _ _ _ _ _) rfl ?_
  refine wp_iload_n 1 d_X5_slopeAt_4 rfl rfl ?_
  refine wp_iaload (v := (w.2.1 47) (k)) d_X5_slopeAt_5 (hp_47 _ _ _ _ _) (vp_in_nI (by omega) (by omega)) (congrArg ((w.2.1 47)) (nI_clamp (by omega))) ?_
  refine wp_iload_n 2 d_X5_slopeAt_6 rfl rfl ?_
  refine wp_aload_n 0 d_X5_slopeAt_7 rfl rfl ?_
  refine wp_getfield (v := .ref (49)) d_X5_slopeAt_8 gf_X5_32 (hp_42 _ _ _ _ _) rfl ?_
  refine wp_iload_n 1 d_X5_slopeAt_11 rfl rfl ?_
  refine wp_iaload (v := (w.2.1 49) (k)) d_X5_slopeAt_12 (hp_49 _ _ _ _ _) (vp_in_nI (by omega) (by omega)) (congrArg ((w.2.1 49)) (nI_clamp (by omega))) ?_
  refine wp_imul d_X5_slopeAt_13 ?_
  refine wp_iadd d_X5_slopeAt_14 ?_
  refine wp_reti d_X5_slopeAt_15 rfl ?_
  exact kR_i rfl rfl
theorem s_X5_seenOf {X : kX} {d : Nat} {c w m v : kZ} {E : kH} {e : Nat} (he : w.1 4210 = nI e) (he5 : e ≤ 5) (x : Int32) : WP X (d + 1) 0 0 Y_X5_seenOf 0 [(0, .ref (42)), (1, .int (x))] [] (HP c w m v E) (kR (some (.int (w.2.1 46 e + x * w.2.1 48 e))) (HP c w m v E)) := by
  refine wp_aload_n 0 d_X5_seenOf_0 rfl rfl ?_
  refine wp_aload_n 0 d_X5_seenOf_1 rfl rfl ?_
  refine wp_getfield (v := .int (nI (e))) d_X5_seenOf_2 gf_X5_111 (hp_42 _ _ _ _ _) (congrArg (fun z => some (Value.int z)) he) ?_
  refine wp_iload_n 1 d_X5_seenOf_5 rfl rfl ?_
  refine wp_vrt_i (As := [.int (nI (e)), .int (x)]) (x0 := (w.2.1 46) (e) + (x) * (w.2.1 48) (e)) (h1 := HP c w m v E) d_X5_seenOf_6 lk_X5_114 mv_X5_heightAt in_X5_heightAt se_X5_heightAt (Nat.le_of_ble_eq_true rfl) (Nat.le_of_ble_eq_true rfl) (hp_42 _ _ _ _ _) rfl (s_X5_heightAt (k := e) (by omega) (x)) ?_
  refine wp_reti d_X5_seenOf_9 rfl ?_
  exact kR_i rfl rfl
/-- what the light meets at a place: strength and push of its lens; at sx a stranger that bends by bd -/
def kent (sx bd : Int32) (st tl ln tn : Nat → Int32) (j : Nat) : Int32 × Int32 := if nI j = sx then (bd, 0) else (st (ln j).toNatClampNeg, kpush (tl (ln j).toNatClampNeg) (tn j))
def ktub (sx bd : Int32) (st tl ln tn : Nat → Int32) (p : Nat) : List (Int32 × Int32) := (List.range p).map (kent sx bd st tl ln tn)
theorem ktub_s (sx bd : Int32) (st tl ln tn : Nat → Int32) (p : Nat) : ktub sx bd st tl ln tn (p + 1) = ktub sx bd st tl ln tn p ++ [kent sx bd st tl ln tn p] := by simp [ktub, List.range_succ]
theorem ktub_len (sx bd : Int32) (st tl ln tn : Nat → Int32) (p : Nat) : (ktub sx bd st tl ln tn p).length = p := by simp [ktub]
theorem s_X5_throughWith_l {X : kX} {d : Nat} {c w m v : kZ} {E : kH} {p : Nat} (hp : c.1 107 = nI p) (hp4 : p ≤ 4) (hln : ∀ j, j < p → vp_in (c.2.1 9 j) 9) (sx bd : Int32) : ∀ (k : Nat) (i : Nat) (w' : kZ), (i + k = p) → (kLf w w') → (kRay w' (ktub sx bd (w.2.1 44) (w.2.1 45) (c.2.1 9) (c.2.1 10) i)) → WP X (d + 2) 0 0 Y_X5_throughWith 3 [(4, .int (nI (i))), (0, .ref (42)), (1, .ref (1)), (2, .int (sx)), (3, .int (bd))] [] (HP c w' m v E) (fun r h1 => r = none ∧ ∃ w1 : kZ, h1 = HP c w1 m v E ∧ kLf w w1 ∧ kRay w1 (ktub sx bd (w.2.1 44) (w.2.1 45) (c.2.1 9) (c.2.1 10) p ++ [(w.1 4204, 0)]) ∧ w1.1 4210 = nI (p + 1)) := by
  intro k
  induction k using Nat.strongRecOn with
  | ind k ih =>
    intro i w' hi hf hry
    have ea : w'.2.1 44 = w.2.1 44 := hf.2.1 _ (by decide)
    have eb : w'.2.1 45 = w.2.1 45 := hf.2.1 _ (by decide)
    have ee : w'.1 4204 = w.1 4204 := hf.1 _ (by decide)
    refine wp_iload 0 d_X5_throughWith_3 rfl ?_
    refine wp_aload_n 2 d_X5_throughWith_5 rfl rfl ?_
    refine wp_getfield (v := .int (nI (p))) d_X5_throughWith_6 gf_X5_91 (hp_1 _ _ _ _ _) (congrArg (fun z => some (Value.int z)) hp) ?_
    refine wp_ncmp_ge (a := i) (b := p) 55 d_X5_throughWith_9 rfl (by omega) (by omega) (fun c9 => ?_) (fun c9 => ?_)
    · refine wp_aload_n 1 d_X5_throughWith_55 rfl rfl ?_
      refine wp_aload_n 2 d_X5_throughWith_56 rfl rfl ?_
      refine wp_getfield (v := .int (nI (p))) d_X5_throughWith_57 gf_X5_91 (hp_1 _ _ _ _ _) (congrArg (fun z => some (Value.int z)) hp) ?_
      refine wp_vrt_v (As := [.int (nI (p))]) (h1 := HP c (setS (kpass w' (p) ((w'.1 4204)) 0) 4210 (nI ((p) + 1))) m v E) d_X5_throughWith_60 lk_X5_107 mv_X5_see in_X5_see se_X5_see (Nat.le_of_ble_eq_true rfl) (Nat.le_of_ble_eq_true rfl) (hp_42 _ _ _ _ _) rfl (s_X5_see (p := p) (by omega)) ?_
      refine wp_vret d_X5_throughWith_63 rfl ?_
      obtain rfl : i = p := by omega
      refine ⟨rfl, _, rfl, ?_, ?_, rfl⟩
      · exact hf.tr ((kpass_f _ _ _ _).tr ⟨fun k9 h9 => by simp only [setS]; rw [upd_n _ _ h9], fun _ _ => rfl, rfl⟩)
      · rw [← ee]; exact hry.pass (ktub_len _ _ _ _ _ _ _).symm _ _
    · refine wp_iload 0 d_X5_throughWith_12 rfl ?_
      refine wp_iload_n 3 d_X5_throughWith_14 rfl rfl ?_
      refine wp_icmp_ne 29 d_X5_throughWith_15 rfl (fun c15 => ?_) (fun c15 => ?_)
      · obtain ⟨ln, hln9, hln1⟩ := vp_in_of (hln i (by omega)) (by decide)
        refine wp_aload_n 1 d_X5_throughWith_29 rfl rfl ?_
        refine wp_iload 0 d_X5_throughWith_30 rfl ?_
        refine wp_aload_n 2 d_X5_throughWith_32 rfl rfl ?_
        refine wp_getfield (v := .ref (9)) d_X5_throughWith_33 gf_X5_98 (hp_1 _ _ _ _ _) rfl ?_
        refine wp_iload 0 d_X5_throughWith_36 rfl ?_
        refine wp_iaload (v := nI (ln)) d_X5_throughWith_38 (hp_9 _ _ _ _ _) (vp_in_nI (by omega) (by omega)) ((congrArg ((c.2.1 9)) (nI_clamp (by omega))).trans hln1) ?_
        refine wp_aload_n 2 d_X5_throughWith_39 rfl rfl ?_
        refine wp_getfield (v := .ref (10)) d_X5_throughWith_40 gf_X5_101 (hp_1 _ _ _ _ _) rfl ?_
        refine wp_iload 0 d_X5_throughWith_43 rfl ?_
        refine wp_iaload (v := (c.2.1 10) (i)) d_X5_throughWith_45 (hp_10 _ _ _ _ _) (vp_in_nI (by omega) (by omega)) (congrArg ((c.2.1 10)) (nI_clamp (by omega))) ?_
        refine wp_vrt_v (As := [.int (nI (i)), .int (nI (ln)), .int ((c.2.1 10) (i))]) (h1 := HP c (kpass w' (i) ((w'.2.1 44) (ln)) (kpush ((w'.2.1 45) (ln)) ((c.2.1 10) (i)))) m v E) d_X5_throughWith_46 lk_X5_104 mv_X5_put in_X5_put se_X5_put (Nat.le_of_ble_eq_true rfl) (Nat.le_of_ble_eq_true rfl) (hp_42 _ _ _ _ _) rfl (s_X5_put (p := i) (l := ln) (by omega) (by omega) ((c.2.1 10) (i))) ?_
        refine wp_iinc (v0 := nI ((i) + 1)) [(4, .int (nI ((i) + 1))), (0, .ref (42)), (1, .ref (1)), (2, .int (sx)), (3, .int (bd))] 0 d_X5_throughWith_49 rfl (nI_add (i) 1) (Nat.le_of_ble_eq_true rfl) rfl ?_
        refine wp_goto 3 d_X5_throughWith_52 rfl ?_
        obtain ⟨k1, rfl⟩ : ∃ k1, k = k1 + 1 := ⟨k - 1, by omega⟩
        refine wp_sub [(4, .int (nI ((i) + 1))), (0, .ref (42)), (1, .ref (1)), (2, .int (sx)), (3, .int (bd))] [0, 1, 2, 3, 4] rfl ?_
        refine ih k1 (by omega) (i + 1) _ (by omega) (hf.tr (kpass_f _ _ _ _)) ?_
        have hr := hry.pass (ktub_len _ _ _ _ _ _ _).symm (w'.2.1 44 ln) (kpush (w'.2.1 45 ln) (c.2.1 10 i))
        rw [ktub_s, show kent sx bd (w.2.1 44) (w.2.1 45) (c.2.1 9) (c.2.1 10) i = (w'.2.1 44 ln, kpush (w'.2.1 45 ln) (c.2.1 10 i)) from ?_]
        · exact hr
        · unfold kent; rw [if_neg c15, ea, eb, show c.2.1 9 i = nI ln from hln1, nI_clamp (by omega)]
      · refine wp_aload_n 1 d_X5_throughWith_18 rfl rfl ?_
        refine wp_iload 0 d_X5_throughWith_19 rfl ?_
        refine wp_iload_n 4 d_X5_throughWith_21 rfl rfl ?_
        refine wp_iconst (v0 := 0) d_X5_throughWith_22 rfl ?_
        refine wp_vrt_v (As := [.int (nI (i)), .int (bd), .int (0)]) (h1 := HP c (kpass w' (i) (bd) (0)) m v E) d_X5_throughWith_23 lk_X5_94 mv_X5_pass in_X5_pass se_X5_pass (Nat.le_of_ble_eq_true rfl) (Nat.le_of_ble_eq_true rfl) (hp_42 _ _ _ _ _) rfl (s_X5_pass (p := i) (by omega) (bd) (0)) ?_
        refine wp_goto 49 d_X5_throughWith_26 rfl ?_
        refine wp_iinc (v0 := nI ((i) + 1)) [(4, .int (nI ((i) + 1))), (0, .ref (42)), (1, .ref (1)), (2, .int (sx)), (3, .int (bd))] 0 d_X5_throughWith_49 rfl (nI_add (i) 1) (Nat.le_of_ble_eq_true rfl) rfl ?_
        refine wp_goto 3 d_X5_throughWith_52 rfl ?_
        obtain ⟨k1, rfl⟩ : ∃ k1, k = k1 + 1 := ⟨k - 1, by omega⟩
        refine wp_sub [(4, .int (nI ((i) + 1))), (0, .ref (42)), (1, .ref (1)), (2, .int (sx)), (3, .int (bd))] [0, 1, 2, 3, 4] rfl ?_
        refine ih k1 (by omega) (i + 1) _ (by omega) (hf.tr (kpass_f _ _ _ _)) ?_
        have hr := hry.pass (ktub_len _ _ _ _ _ _ _).symm bd 0
        rw [ktub_s, show kent sx bd (w.2.1 44) (w.2.1 45) (c.2.1 9) (c.2.1 10) i = (bd, 0) from ?_]
        · exact hr
        · unfold kent; rw [if_pos c15]
theorem s_X5_throughWith {X : kX} {d : Nat} {c w m v : kZ} {E : kH} {p : Nat} (hp : c.1 107 = nI p) (hp4 : p ≤ 4) (hln : ∀ j, j < p → vp_in (c.2.1 9 j) 9) (sx bd : Int32) (hr0 : kRay w []) : WP X (d + 2) 0 0 Y_X5_throughWith 0 [(0, .ref (42)), (1, .ref (1)), (2, .int (sx)), (3, .int (bd))] [] (HP c w m v E) (fun r h1 => r = none ∧ ∃ w1 : kZ, h1 = HP c w1 m v E ∧ kLf w w1 ∧ kRay w1 (ktub sx bd (w.2.1 44) (w.2.1 45) (c.2.1 9) (c.2.1 10) p ++ [(w.1 4204, 0)]) ∧ w1.1 4210 = nI (p + 1)) := by
  refine wp_iconst (v0 := 0) d_X5_throughWith_0 rfl ?_
  refine wp_istore [(4, .int (0)), (0, .ref (42)), (1, .ref (1)), (2, .int (sx)), (3, .int (bd))] d_X5_throughWith_1 (Nat.le_of_ble_eq_true rfl) rfl ?_
  refine wp_sub [(4, .int (0)), (0, .ref (42)), (1, .ref (1)), (2, .int (sx)), (3, .int (bd))] [0, 1, 2, 3, 4] rfl ?_
  exact s_X5_throughWith_l hp hp4 hln sx bd p 0 w (by omega) (kLf.rf w) hr0
theorem s_X5_through {X : kX} {d : Nat} {c w m v : kZ} {E : kH} {p : Nat} (hp : c.1 107 = nI p) (hp4 : p ≤ 4) (hln : ∀ j, j < p → vp_in (c.2.1 9 j) 9) (hr0 : kRay w []) : WP X (d + 3) 0 0 Y_X5_through 0 [(0, .ref (42)), (1, .ref (1))] [] (HP c w m v E) (fun r h1 => r = none ∧ ∃ w1 : kZ, h1 = HP c w1 m v E ∧ kLf w w1 ∧ kRay w1 (ktub (-9) 0 (w.2.1 44) (w.2.1 45) (c.2.1 9) (c.2.1 10) p ++ [(w.1 4204, 0)]) ∧ w1.1 4210 = nI (p + 1)) := by
  refine wp_aload_n 0 d_X5_through_0 rfl rfl ?_
  refine wp_aload_n 1 d_X5_through_1 rfl rfl ?_
  refine wp_bipush (v0 := -9) d_X5_through_2 (by decide) ?_
  refine wp_iconst (v0 := 0) d_X5_through_4 rfl ?_
  refine wp_virtual0 (As := [.ref (1), .int ((-9)), .int (0)]) d_X5_through_5 lk_X5_87 mv_X5_throughWith in_X5_throughWith se_X5_throughWith (Nat.le_of_ble_eq_true rfl) (Nat.le_of_ble_eq_true rfl) (hp_42 _ _ _ _ _) rfl (s_X5_throughWith hp hp4 hln ((-9)) (0) hr0) (fun v5 h5 q5 => ?_)
  obtain ⟨rfl, w1, rfl, hf1, hr1, he1⟩ := q5
  show WP _ _ _ _ _ 8 _ [] (HP c w1 m v E) _
  refine wp_vret d_X5_through_8 rfl ?_
  exact ⟨rfl, w1, rfl, hf1, hr1, he1⟩
theorem s_X5_throughWith_l_25 {X : kX} {d : Nat} {c w m v : kZ} {E : kH} {p : Nat} (hp : w.1 2507 = nI p) (hp4 : p ≤ 4) (hln : ∀ j, j < p → vp_in (w.2.1 33 j) 9) (sx bd : Int32) : ∀ (k : Nat) (i : Nat) (w' : kZ), (i + k = p) → (kLf w w') → (kRay w' (ktub sx bd (w.2.1 44) (w.2.1 45) (w.2.1 33) (w.2.1 34) i)) → WP X (d + 2) 0 0 Y_X5_throughWith 3 [(4, .int (nI (i))), (0, .ref (42)), (1, .ref (25)), (2, .int (sx)), (3, .int (bd))] [] (HP c w' m v E) (fun r h1 => r = none ∧ ∃ w1 : kZ, h1 = HP c w1 m v E ∧ kLf w w1 ∧ kRay w1 (ktub sx bd (w.2.1 44) (w.2.1 45) (w.2.1 33) (w.2.1 34) p ++ [(w.1 4204, 0)]) ∧ w1.1 4210 = nI (p + 1)) := by
  intro k
  induction k using Nat.strongRecOn with
  | ind k ih =>
    intro i w' hi hf hry
    have ea : w'.2.1 44 = w.2.1 44 := hf.2.1 _ (by decide)
    have eb : w'.2.1 45 = w.2.1 45 := hf.2.1 _ (by decide)
    have ee : w'.1 4204 = w.1 4204 := hf.1 _ (by decide)
    have hnw : w'.1 2507 = nI p := by rw [hf.1 _ (by decide)]; exact hp
    have e8 : w'.2.1 33 = w.2.1 33 := hf.2.1 _ (by decide)
    have e9 : w'.2.1 34 = w.2.1 34 := hf.2.1 _ (by decide)
    refine wp_iload 0 d_X5_throughWith_3 rfl ?_
    refine wp_aload_n 2 d_X5_throughWith_5 rfl rfl ?_
    refine wp_getfield (v := .int (nI (p))) d_X5_throughWith_6 gf_X5_91 (hp_25 _ _ _ _ _) (congrArg (fun z => some (Value.int z)) hnw) ?_
    refine wp_ncmp_ge (a := i) (b := p) 55 d_X5_throughWith_9 rfl (by omega) (by omega) (fun c9 => ?_) (fun c9 => ?_)
    · refine wp_aload_n 1 d_X5_throughWith_55 rfl rfl ?_
      refine wp_aload_n 2 d_X5_throughWith_56 rfl rfl ?_
      refine wp_getfield (v := .int (nI (p))) d_X5_throughWith_57 gf_X5_91 (hp_25 _ _ _ _ _) (congrArg (fun z => some (Value.int z)) hnw) ?_
      refine wp_vrt_v (As := [.int (nI (p))]) (h1 := HP c (setS (kpass w' (p) ((w'.1 4204)) 0) 4210 (nI ((p) + 1))) m v E) d_X5_throughWith_60 lk_X5_107 mv_X5_see in_X5_see se_X5_see (Nat.le_of_ble_eq_true rfl) (Nat.le_of_ble_eq_true rfl) (hp_42 _ _ _ _ _) rfl (s_X5_see (p := p) (by omega)) ?_
      refine wp_vret d_X5_throughWith_63 rfl ?_
      obtain rfl : i = p := by omega
      refine ⟨rfl, _, rfl, ?_, ?_, rfl⟩
      · exact hf.tr ((kpass_f _ _ _ _).tr ⟨fun k9 h9 => by simp only [setS]; rw [upd_n _ _ h9], fun _ _ => rfl, rfl⟩)
      · rw [← ee]; exact hry.pass (ktub_len _ _ _ _ _ _ _).symm _ _
    · refine wp_iload 0 d_X5_throughWith_12 rfl ?_
      refine wp_iload_n 3 d_X5_throughWith_14 rfl rfl ?_
      refine wp_icmp_ne 29 d_X5_throughWith_15 rfl (fun c15 => ?_) (fun c15 => ?_)
      · obtain ⟨ln, hln9, hln1⟩ := vp_in_of (hln i (by omega)) (by decide)
        have hln1 : w'.2.1 33 i = nI ln := by rw [e8]; exact hln1
        refine wp_aload_n 1 d_X5_throughWith_29 rfl rfl ?_
        refine wp_iload 0 d_X5_throughWith_30 rfl ?_
        refine wp_aload_n 2 d_X5_throughWith_32 rfl rfl ?_
        refine wp_getfield (v := .ref (33)) d_X5_throughWith_33 gf_X5_98 (hp_25 _ _ _ _ _) rfl ?_
        refine wp_iload 0 d_X5_throughWith_36 rfl ?_
        refine wp_iaload (v := nI (ln)) d_X5_throughWith_38 (hp_33 _ _ _ _ _) (vp_in_nI (by omega) (by omega)) ((congrArg ((w'.2.1 33)) (nI_clamp (by omega))).trans hln1) ?_
        refine wp_aload_n 2 d_X5_throughWith_39 rfl rfl ?_
        refine wp_getfield (v := .ref (34)) d_X5_throughWith_40 gf_X5_101 (hp_25 _ _ _ _ _) rfl ?_
        refine wp_iload 0 d_X5_throughWith_43 rfl ?_
        refine wp_iaload (v := (w'.2.1 34) (i)) d_X5_throughWith_45 (hp_34 _ _ _ _ _) (vp_in_nI (by omega) (by omega)) (congrArg ((w'.2.1 34)) (nI_clamp (by omega))) ?_
        refine wp_vrt_v (As := [.int (nI (i)), .int (nI (ln)), .int ((w'.2.1 34) (i))]) (h1 := HP c (kpass w' (i) ((w'.2.1 44) (ln)) (kpush ((w'.2.1 45) (ln)) ((w'.2.1 34) (i)))) m v E) d_X5_throughWith_46 lk_X5_104 mv_X5_put in_X5_put se_X5_put (Nat.le_of_ble_eq_true rfl) (Nat.le_of_ble_eq_true rfl) (hp_42 _ _ _ _ _) rfl (s_X5_put (p := i) (l := ln) (by omega) (by omega) ((w'.2.1 34) (i))) ?_
        refine wp_iinc (v0 := nI ((i) + 1)) [(4, .int (nI ((i) + 1))), (0, .ref (42)), (1, .ref (25)), (2, .int (sx)), (3, .int (bd))] 0 d_X5_throughWith_49 rfl (nI_add (i) 1) (Nat.le_of_ble_eq_true rfl) rfl ?_
        refine wp_goto 3 d_X5_throughWith_52 rfl ?_
        obtain ⟨k1, rfl⟩ : ∃ k1, k = k1 + 1 := ⟨k - 1, by omega⟩
        refine wp_sub [(4, .int (nI ((i) + 1))), (0, .ref (42)), (1, .ref (25)), (2, .int (sx)), (3, .int (bd))] [0, 1, 2, 3, 4] rfl ?_
        refine ih k1 (by omega) (i + 1) _ (by omega) (hf.tr (kpass_f _ _ _ _)) ?_
        have hr := hry.pass (ktub_len _ _ _ _ _ _ _).symm (w'.2.1 44 ln) (kpush (w'.2.1 45 ln) (w'.2.1 34 i))
        rw [ktub_s, show kent sx bd (w.2.1 44) (w.2.1 45) (w.2.1 33) (w.2.1 34) i = (w'.2.1 44 ln, kpush (w'.2.1 45 ln) (w'.2.1 34 i)) from ?_]
        · exact hr
        · unfold kent; rw [if_neg c15, ea, eb, e9, show w.2.1 33 i = nI ln from by rw [← e8]; exact hln1, nI_clamp (by omega)]
      · refine wp_aload_n 1 d_X5_throughWith_18 rfl rfl ?_
        refine wp_iload 0 d_X5_throughWith_19 rfl ?_
        refine wp_iload_n 4 d_X5_throughWith_21 rfl rfl ?_
        refine wp_iconst (v0 := 0) d_X5_throughWith_22 rfl ?_
        refine wp_vrt_v (As := [.int (nI (i)), .int (bd), .int (0)]) (h1 := HP c (kpass w' (i) (bd) (0)) m v E) d_X5_throughWith_23 lk_X5_94 mv_X5_pass in_X5_pass se_X5_pass (Nat.le_of_ble_eq_true rfl) (Nat.le_of_ble_eq_true rfl) (hp_42 _ _ _ _ _) rfl (s_X5_pass (p := i) (by omega) (bd) (0)) ?_
        refine wp_goto 49 d_X5_throughWith_26 rfl ?_
        refine wp_iinc (v0 := nI ((i) + 1)) [(4, .int (nI ((i) + 1))), (0, .ref (42)), (1, .ref (25)), (2, .int (sx)), (3, .int (bd))] 0 d_X5_throughWith_49 rfl (nI_add (i) 1) (Nat.le_of_ble_eq_true rfl) rfl ?_
        refine wp_goto 3 d_X5_throughWith_52 rfl ?_
        obtain ⟨k1, rfl⟩ : ∃ k1, k = k1 + 1 := ⟨k - 1, by omega⟩
        refine wp_sub [(4, .int (nI ((i) + 1))), (0, .ref (42)), (1, .ref (25)), (2, .int (sx)), (3, .int (bd))] [0, 1, 2, 3, 4] rfl ?_
        refine ih k1 (by omega) (i + 1) _ (by omega) (hf.tr (kpass_f _ _ _ _)) ?_
        have hr := hry.pass (ktub_len _ _ _ _ _ _ _).symm bd 0
        rw [ktub_s, show kent sx bd (w.2.1 44) (w.2.1 45) (w.2.1 33) (w.2.1 34) i = (bd, 0) from ?_]
        · exact hr
        · unfold kent; rw [if_pos c15]
theorem s_X5_throughWith_25 {X : kX} {d : Nat} {c w m v : kZ} {E : kH} {p : Nat} (hp : w.1 2507 = nI p) (hp4 : p ≤ 4) (hln : ∀ j, j < p → vp_in (w.2.1 33 j) 9) (sx bd : Int32) (hr0 : kRay w []) : WP X (d + 2) 0 0 Y_X5_throughWith 0 [(0, .ref (42)), (1, .ref (25)), (2, .int (sx)), (3, .int (bd))] [] (HP c w m v E) (fun r h1 => r = none ∧ ∃ w1 : kZ, h1 = HP c w1 m v E ∧ kLf w w1 ∧ kRay w1 (ktub sx bd (w.2.1 44) (w.2.1 45) (w.2.1 33) (w.2.1 34) p ++ [(w.1 4204, 0)]) ∧ w1.1 4210 = nI (p + 1)) := by
  refine wp_iconst (v0 := 0) d_X5_throughWith_0 rfl ?_
  refine wp_istore [(4, .int (0)), (0, .ref (42)), (1, .ref (25)), (2, .int (sx)), (3, .int (bd))] d_X5_throughWith_1 (Nat.le_of_ble_eq_true rfl) rfl ?_
  refine wp_sub [(4, .int (0)), (0, .ref (42)), (1, .ref (25)), (2, .int (sx)), (3, .int (bd))] [0, 1, 2, 3, 4] rfl ?_
  exact s_X5_throughWith_l_25 hp hp4 hln sx bd p 0 w (by omega) (kLf.rf w) hr0
theorem s_X5_through_25 {X : kX} {d : Nat} {c w m v : kZ} {E : kH} {p : Nat} (hp : w.1 2507 = nI p) (hp4 : p ≤ 4) (hln : ∀ j, j < p → vp_in (w.2.1 33 j) 9) (hr0 : kRay w []) : WP X (d + 3) 0 0 Y_X5_through 0 [(0, .ref (42)), (1, .ref (25))] [] (HP c w m v E) (fun r h1 => r = none ∧ ∃ w1 : kZ, h1 = HP c w1 m v E ∧ kLf w w1 ∧ kRay w1 (ktub (-9) 0 (w.2.1 44) (w.2.1 45) (w.2.1 33) (w.2.1 34) p ++ [(w.1 4204, 0)]) ∧ w1.1 4210 = nI (p + 1)) := by
  refine wp_aload_n 0 d_X5_through_0 rfl rfl ?_
  refine wp_aload_n 1 d_X5_through_1 rfl rfl ?_
  refine wp_bipush (v0 := -9) d_X5_through_2 (by decide) ?_
  refine wp_iconst (v0 := 0) d_X5_through_4 rfl ?_
  refine wp_virtual0 (As := [.ref (25), .int ((-9)), .int (0)]) d_X5_through_5 lk_X5_87 mv_X5_throughWith in_X5_throughWith se_X5_throughWith (Nat.le_of_ble_eq_true rfl) (Nat.le_of_ble_eq_true rfl) (hp_42 _ _ _ _ _) rfl (s_X5_throughWith_25 hp hp4 hln ((-9)) (0) hr0) (fun v5 h5 q5 => ?_)
  obtain ⟨rfl, w1, rfl, hf1, hr1, he1⟩ := q5
  show WP _ _ _ _ _ 8 _ [] (HP c w1 m v E) _
  refine wp_vret d_X5_through_8 rfl ?_
  exact ⟨rfl, w1, rfl, hf1, hr1, he1⟩
