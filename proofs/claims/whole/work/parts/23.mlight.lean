/-! ===== the reference: light ===== -/
def mFr (a b : Nat) (v v' : kZ) : Prop := (∀ k, k < 8008 ∨ 8010 < k → v'.1 k = v.1 k) ∧ (∀ k, k < a ∨ b < k → v'.2.1 k = v.2.1 k) ∧ v'.2.2 = v.2.2
theorem mFr.rf (a b : Nat) (v : kZ) : mFr a b v v := ⟨fun _ _ => rfl, fun _ _ => rfl, rfl⟩
theorem mFr.tr {a b : Nat} {x y z : kZ} (h : mFr a b x y) (g : mFr a b y z) : mFr a b x z := ⟨fun k hk => (g.1 k hk).trans (h.1 k hk), fun k hk => (g.2.1 k hk).trans (h.2.1 k hk), g.2.2.trans h.2.2⟩
theorem mFr.mo {a b a' b' : Nat} {x y : kZ} (h : mFr a b x y) (ha : a' ≤ a) (hb : b ≤ b') : mFr a' b' x y := ⟨h.1, fun k hk => h.2.1 k (by omega), h.2.2⟩
def mH (v v' : kZ) : Prop := (∀ k, k < 8009 ∨ 8010 < k → v'.1 k = v.1 k) ∧ v'.2 = v.2
theorem mH.rf (v : kZ) : mH v v := ⟨fun _ _ => rfl, rfl⟩
theorem mH.tr {x y z : kZ} (h : mH x y) (g : mH y z) : mH x z := ⟨fun k hk => (g.1 k hk).trans (h.1 k hk), g.2.trans h.2⟩
theorem mH.fr {x y : kZ} (h : mH x y) (a b : Nat) : mFr a b x y := ⟨fun k hk => h.1 k (by omega), fun k _ => by rw [h.2], by rw [h.2]⟩
def mst (g : Int32) (q : Int32 × Int32) (e : Int32 × Int32) : Int32 × Int32 := (q.1 + g * (q.2 + (e.2 - e.1 * q.1)), q.2 + (e.2 - e.1 * q.1))
def mray (g : Int32) (l : List (Int32 × Int32)) (x : Int32) : Int32 × Int32 := l.foldl (mst g) (x, 0)
theorem mray_s (g : Int32) (l : List (Int32 × Int32)) (e : Int32 × Int32) (x : Int32) : mray g (l ++ [e]) x = mst g (mray g l x) e := by simp only [mray, List.foldl_append, List.foldl_cons, List.foldl_nil]
def msee (g eye : Int32) (l : List (Int32 × Int32)) (x : Int32) : Int32 := (mray g (l ++ [(eye, 0)]) x).1
def mwr (g eye : Int32) (l : List (Int32 × Int32)) : Int32 := kabs (msee g eye l 0) + kabs (msee g eye l 1 - msee g eye l 0)
/-- the tube thought of -/
def mLaid (v : kZ) (l : List (Int32 × Int32)) : Prop := v.1 8008 = nI l.length ∧ ∀ j (h : j < l.length), (v.2.1 86 j, v.2.1 87 j) = l[j]
theorem mLaid.h {v v' : kZ} {l : List (Int32 × Int32)} (a : mLaid v l) (g : mH v v') : mLaid v' l := ⟨(g.1 _ (by decide)).trans a.1, by rw [g.2]; exact a.2⟩
abbrev mtl (s : Nat → Int32) : Nat → Int32 := fun l => s (9 + 4 * l + 2)
abbrev mlp (s : Nat → Int32) : Nat → Int32 := fun j => s (45 + 2 * j)
abbrev mtp (s : Nat → Int32) : Nat → Int32 := fun j => s (45 + 2 * j + 1)
theorem nI_n9 (j : Nat) (h : j < 2 ^ 31) : ¬ nI j = -9 := by
  intro q
  have h1 := congrArg Int32.toInt q
  rw [nI_toInt h, show (-9 : Int32).toInt = -9 from by decide] at h1
  omega
theorem s_X10_findStrengths_l {X : kX} {d : Nat} {c w m v : kZ} {E : kH} {cnt : Nat} (hs1 : (m.2.1 81) 1 = nI cnt) (hc8 : cnt ≤ 8) {en : Nat → Nat} (hm : mWF (m.2.1 81) cnt en) {n : Nat} (hn : m.2.1 81 0 = nI n) (hn9 : n ≤ 9) : ∀ (k : Nat) (i : Nat) (v' : kZ), (i + k = n) → (mFr 84 85 v v') → (∀ l, l < i → v'.2.1 85 l = mstr (m.2.1 81) en cnt l) → WP X (d + 7) 0 0 Y_X10_findStrengths 2 [(1, .int (nI (i))), (0, .ref (80))] [] (HP c w m v' E) (fun r1 h1 => r1 = none ∧ ∃ v1 : kZ, h1 = HP c w m v1 E ∧ mFr 84 85 v v1 ∧ ∀ l, l < n → v1.2.1 85 l = mstr (m.2.1 81) en cnt l) := by
  intro k
  induction k using Nat.strongRecOn with
  | ind k ih =>
    intro i v' hi hf hst
    refine wp_iload_n 0 d_X10_findStrengths_2 rfl rfl ?_
    refine wp_aload_n 1 d_X10_findStrengths_3 rfl rfl ?_
    refine wp_getfield (v := .ref (81)) d_X10_findStrengths_4 gf_X10_7 (hp_80 _ _ _ _ _) rfl ?_
    refine wp_iconst (v0 := 0) d_X10_findStrengths_7 rfl ?_
    refine wp_iaload (v := nI (n)) d_X10_findStrengths_8 (hp_81 _ _ _ _ _) (kin rfl) hn ?_
    refine wp_ncmp_ge (a := i) (b := n) 29 d_X10_findStrengths_9 rfl (by omega) (by omega) (fun c9 => ?_) (fun c9 => ?_)
    · refine wp_vret d_X10_findStrengths_29 rfl ?_
      obtain rfl : k = 0 := by omega
      exact ⟨rfl, v', rfl, hf, fun l hl => hst l (by omega)⟩
    · refine wp_aload_n 1 d_X10_findStrengths_12 rfl rfl ?_
      refine wp_getfield (v := .ref (85)) d_X10_findStrengths_13 gf_X10_22 (hp_80 _ _ _ _ _) rfl ?_
      refine wp_iload_n 0 d_X10_findStrengths_16 rfl rfl ?_
      refine wp_aload_n 1 d_X10_findStrengths_17 rfl rfl ?_
      refine wp_iload_n 0 d_X10_findStrengths_18 rfl rfl ?_
      refine wp_virtual0 (As := [.int (nI (i))]) d_X10_findStrengths_19 lk_X10_117 mv_X10_strengthOf in_X10_strengthOf se_X10_strengthOf (Nat.le_of_ble_eq_true rfl) (Nat.le_of_ble_eq_true rfl) (hp_80 _ _ _ _ _) rfl (s_X10_strengthOf (l := i) (by omega) hs1 hc8 hm) (fun v19 h19 q19 => ?_)
      obtain ⟨rfl, f1, rfl⟩ := q19
      show WP _ _ _ _ _ 22 _ [.int (mstr (m.2.1 81) en cnt (i)), .int (nI (i)), .ref (85)] (HP c w m (setA v' 84 (f1)) E) _
      refine wp_iastore (h' := HP c w m (setA (setA v' 84 (f1)) 85 (upd (v'.2.1 85) (i) (mstr (m.2.1 81) en cnt (i)))) E) d_X10_findStrengths_22 (hp_85 _ _ _ _ _) (vp_in_nI (by omega) (by omega)) (by rw [nI_clamp (by omega)]; exact (hpa_85 _ _ _ _ _ _)) ?_
      refine wp_iinc (v0 := nI ((i) + 1)) [(1, .int (nI ((i) + 1))), (0, .ref (80))] 0 d_X10_findStrengths_23 rfl (nI_add (i) 1) (Nat.le_of_ble_eq_true rfl) rfl ?_
      refine wp_goto 2 d_X10_findStrengths_26 rfl ?_
      obtain ⟨k1, rfl⟩ : ∃ k1, k = k1 + 1 := ⟨k - 1, by omega⟩
      refine wp_sub [(1, .int (nI ((i) + 1))), (0, .ref (80))] [0, 1] rfl ?_
      refine ih k1 (by omega) (i + 1) _ (by omega) (hf.tr ⟨fun k9 h9 => rfl, fun k9 h9 => ?_, rfl⟩) (fun l hl => ?_)
      · simp only [setA]
        rw [updA_n _ _ (by omega), updA_n _ _ (by omega)]
      · show upd (v'.2.1 85) i _ l = _
        by_cases e : l = i
        · subst e; rw [upd_s]
        · rw [upd_n _ _ e]; exact hst l (by omega)
theorem s_X10_findStrengths {X : kX} {d : Nat} {c w m v : kZ} {E : kH} {cnt : Nat} (hs1 : (m.2.1 81) 1 = nI cnt) (hc8 : cnt ≤ 8) {en : Nat → Nat} (hm : mWF (m.2.1 81) cnt en) {n : Nat} (hn : m.2.1 81 0 = nI n) (hn9 : n ≤ 9) : WP X (d + 7) 0 0 Y_X10_findStrengths 0 [(0, .ref (80))] [] (HP c w m v E) (fun r1 h1 => r1 = none ∧ ∃ v1 : kZ, h1 = HP c w m v1 E ∧ mFr 84 85 v v1 ∧ ∀ l, l < n → v1.2.1 85 l = mstr (m.2.1 81) en cnt l) := by
  refine wp_iconst (v0 := 0) d_X10_findStrengths_0 rfl ?_
  refine wp_istore_n [(1, .int (0)), (0, .ref (80))] d_X10_findStrengths_1 rfl (Nat.le_of_ble_eq_true rfl) rfl ?_
  refine wp_sub [(1, .int (0)), (0, .ref (80))] [0, 1] rfl ?_
  exact s_X10_findStrengths_l hs1 hc8 hm hn hn9 n 0 v (by omega) (mFr.rf _ _ v) (fun l hl => absurd hl (by omega))
theorem s_X10_thinks {X : kX} {d : Nat} {c w m v : kZ} {E : kH} {p l : Nat} (hp4 : p < 4) (hl : l < 9) (t : Int32) : WP X (d + 2) 0 0 Y_X10_thinks 0 [(0, .ref (80)), (1, .int (nI (p))), (2, .int (nI (l))), (3, .int (t))] [] (HP c w m v E) (kR none (HP c w m (setA (setA v 86 (upd (v.2.1 86) p (v.2.1 85 l))) 87 (upd (v.2.1 87) p (kpush (mtl (m.2.1 81) l) t))) E)) := by
  refine wp_aload_n 0 d_X10_thinks_0 rfl rfl ?_
  refine wp_getfield (v := .ref (86)) d_X10_thinks_1 gf_X10_25 (hp_80 _ _ _ _ _) rfl ?_
  refine wp_iload_n 1 d_X10_thinks_4 rfl rfl ?_
  refine wp_aload_n 0 d_X10_thinks_5 rfl rfl ?_
  refine wp_getfield (v := .ref (85)) d_X10_thinks_6 gf_X10_22 (hp_80 _ _ _ _ _) rfl ?_
  refine wp_iload_n 2 d_X10_thinks_9 rfl rfl ?_
  refine wp_iaload (v := (v.2.1 85) (l)) d_X10_thinks_10 (hp_85 _ _ _ _ _) (vp_in_nI (by omega) (by omega)) (congrArg ((v.2.1 85)) (nI_clamp (by omega))) ?_
  refine wp_iastore (h' := HP c w m (setA v 86 (upd (v.2.1 86) (p) ((v.2.1 85) (l)))) E) d_X10_thinks_11 (hp_86 _ _ _ _ _) (vp_in_nI (by omega) (by omega)) (by rw [nI_clamp (by omega)]; exact (hpa_86 _ _ _ _ _ _)) ?_
  refine wp_aload_n 0 d_X10_thinks_12 rfl rfl ?_
  refine wp_getfield (v := .ref (87)) d_X10_thinks_13 gf_X10_28 (hp_80 _ _ _ _ _) rfl ?_
  refine wp_iload_n 1 d_X10_thinks_16 rfl rfl ?_
  refine wp_iload_n 3 d_X10_thinks_17 rfl rfl ?_
  refine wp_if_ne 30 d_X10_thinks_18 rfl (fun c18 => ?_) (fun c18 => ?_)
  · refine wp_iload_n 3 d_X10_thinks_30 rfl rfl ?_
    refine wp_iconst (v0 := 2) d_X10_thinks_31 rfl ?_
    refine wp_icmp_ne 45 d_X10_thinks_32 rfl (fun c32 => ?_) (fun c32 => ?_)
    · refine wp_iconst (v0 := 0) d_X10_thinks_45 rfl ?_
      refine wp_iastore (h' := HP c w m (setA (setA v 86 (upd (v.2.1 86) (p) ((v.2.1 85) (l)))) 87 (upd (v.2.1 87) (p) (0))) E) d_X10_thinks_46 (hp_87 _ _ _ _ _) (vp_in_nI (by omega) (by omega)) (by rw [nI_clamp (by omega)]; exact (hpa_87 _ _ _ _ _ _)) ?_
      refine wp_vret d_X10_thinks_47 rfl ?_
      refine ⟨rfl, ?_⟩
      congr 3
      simp_all [kpush, mtl]
    · refine wp_aload_n 0 d_X10_thinks_35 rfl rfl ?_
      refine wp_iload_n 2 d_X10_thinks_36 rfl rfl ?_
      refine wp_iconst (v0 := 2) d_X10_thinks_37 rfl ?_
      refine wp_vrt_i (As := [.int (nI (l)), .int (2)]) (x0 := (m.2.1 81) (9 + 4 * (l) + (2))) (h1 := HP c w m (setA v 86 (upd (v.2.1 86) (p) ((v.2.1 85) (l)))) E) d_X10_thinks_38 lk_X10_98 mv_X10_its in_X10_its se_X10_its (Nat.le_of_ble_eq_true rfl) (Nat.le_of_ble_eq_true rfl) (hp_80 _ _ _ _ _) rfl (s_X10_its (j := l) (u := 2) (by omega) (by omega)) ?_
      refine wp_ineg d_X10_thinks_41 ?_
      refine wp_goto 46 d_X10_thinks_42 rfl ?_
      refine wp_iastore (h' := HP c w m (setA (setA v 86 (upd (v.2.1 86) (p) ((v.2.1 85) (l)))) 87 (upd (v.2.1 87) (p) (-((m.2.1 81) (9 + 4 * (l) + (2)))))) E) d_X10_thinks_46 (hp_87 _ _ _ _ _) (vp_in_nI (by omega) (by omega)) (by rw [nI_clamp (by omega)]; exact (hpa_87 _ _ _ _ _ _)) ?_
      refine wp_vret d_X10_thinks_47 rfl ?_
      refine ⟨rfl, ?_⟩
      congr 3
      simp_all [kpush, mtl]
  · refine wp_aload_n 0 d_X10_thinks_21 rfl rfl ?_
    refine wp_iload_n 2 d_X10_thinks_22 rfl rfl ?_
    refine wp_iconst (v0 := 2) d_X10_thinks_23 rfl ?_
    refine wp_vrt_i (As := [.int (nI (l)), .int (2)]) (x0 := (m.2.1 81) (9 + 4 * (l) + (2))) (h1 := HP c w m (setA v 86 (upd (v.2.1 86) (p) ((v.2.1 85) (l)))) E) d_X10_thinks_24 lk_X10_98 mv_X10_its in_X10_its se_X10_its (Nat.le_of_ble_eq_true rfl) (Nat.le_of_ble_eq_true rfl) (hp_80 _ _ _ _ _) rfl (s_X10_its (j := l) (u := 2) (by omega) (by omega)) ?_
    refine wp_goto 46 d_X10_thinks_27 rfl ?_
    refine wp_iastore (h' := HP c w m (setA (setA v 86 (upd (v.2.1 86) (p) ((v.2.1 85) (l)))) 87 (upd (v.2.1 87) (p) ((m.2.1 81) (9 + 4 * (l) + (2))))) E) d_X10_thinks_46 (hp_87 _ _ _ _ _) (vp_in_nI (by omega) (by omega)) (by rw [nI_clamp (by omega)]; exact (hpa_87 _ _ _ _ _ _)) ?_
    refine wp_vret d_X10_thinks_47 rfl ?_
    refine ⟨rfl, ?_⟩
    congr 3
    simp_all [kpush, mtl]
theorem s_X10_layPlaces_l {X : kX} {d : Nat} {c w m v : kZ} {E : kH} {p : Nat} (hp : m.2.1 81 2 = nI p) (hp4 : p ≤ 4) (hln : ∀ j, j < p → vp_in (mlp (m.2.1 81) j) 9) : ∀ (k : Nat) (i : Nat) (v' : kZ), (i + k = p) → (mFr 86 87 v v') → (v'.1 8008 = nI p) → (∀ j, j < i → (v'.2.1 86 j, v'.2.1 87 j) = kent (-9) 0 (v.2.1 85) (mtl (m.2.1 81)) (mlp (m.2.1 81)) (mtp (m.2.1 81)) j) → WP X (d + 3) 0 0 Y_X10_layPlaces 12 [(1, .int (nI (i))), (0, .ref (80))] [] (HP c w m v' E) (fun r1 h1 => r1 = none ∧ ∃ v1 : kZ, h1 = HP c w m v1 E ∧ mFr 86 87 v v1 ∧ mLaid v1 (ktub (-9) 0 (v.2.1 85) (mtl (m.2.1 81)) (mlp (m.2.1 81)) (mtp (m.2.1 81)) p)) := by
  intro k
  induction k using Nat.strongRecOn with
  | ind k ih =>
    intro i v' hi hf h8 hst
    refine wp_iload_n 0 d_X10_layPlaces_12 rfl rfl ?_
    refine wp_aload_n 1 d_X10_layPlaces_13 rfl rfl ?_
    refine wp_getfield (v := .int (nI (p))) d_X10_layPlaces_14 gf_X10_135 (hp_80 _ _ _ _ _) (congrArg (fun z => some (Value.int z)) h8) ?_
    refine wp_ncmp_ge (a := i) (b := p) 55 d_X10_layPlaces_17 rfl (by omega) (by omega) (fun c17 => ?_) (fun c17 => ?_)
    · refine wp_vret d_X10_layPlaces_55 rfl ?_
      obtain rfl : k = 0 := by omega
      refine ⟨rfl, v', rfl, hf, by rw [ktub_len]; exact h8, fun j hj => ?_⟩
      rw [ktub_len] at hj
      rw [hst j (by omega)]
      simp [ktub]
    · obtain ⟨ln, hln9, hln1⟩ := vp_in_of (hln i (by omega)) (by decide)
      have hln1 : (m.2.1 81) (45 + 2 * i) = nI ln := hln1
      refine wp_aload_n 1 d_X10_layPlaces_20 rfl rfl ?_
      refine wp_iload_n 0 d_X10_layPlaces_21 rfl rfl ?_
      refine wp_aload_n 1 d_X10_layPlaces_22 rfl rfl ?_
      refine wp_getfield (v := .ref (81)) d_X10_layPlaces_23 gf_X10_7 (hp_80 _ _ _ _ _) rfl ?_
      refine wp_bipush (v0 := 45) d_X10_layPlaces_26 (by decide) ?_
      refine wp_iconst (v0 := 2) d_X10_layPlaces_28 rfl ?_
      refine wp_iload_n 0 d_X10_layPlaces_29 rfl rfl ?_
      refine wp_imul d_X10_layPlaces_30 ?_
      refine wp_v (v0 := nI ((2) * (i))) (pk_mul (2) (i)) ?_
      refine wp_iadd d_X10_layPlaces_31 ?_
      refine wp_v (v0 := nI ((45) + ((2) * (i)))) (nI_add (45) ((2) * (i))) ?_
      refine wp_iaload (v := nI (ln)) d_X10_layPlaces_32 (hp_81 _ _ _ _ _) (vp_in_nI (by omega) (by omega)) ((congrArg ((m.2.1 81)) (nI_clamp (by omega))).trans hln1) ?_
      refine wp_aload_n 1 d_X10_layPlaces_33 rfl rfl ?_
      refine wp_getfield (v := .ref (81)) d_X10_layPlaces_34 gf_X10_7 (hp_80 _ _ _ _ _) rfl ?_
      refine wp_bipush (v0 := 45) d_X10_layPlaces_37 (by decide) ?_
      refine wp_iconst (v0 := 2) d_X10_layPlaces_39 rfl ?_
      refine wp_iload_n 0 d_X10_layPlaces_40 rfl rfl ?_
      refine wp_imul d_X10_layPlaces_41 ?_
      refine wp_v (v0 := nI ((2) * (i))) (pk_mul (2) (i)) ?_
      refine wp_iadd d_X10_layPlaces_42 ?_
      refine wp_v (v0 := nI ((45) + ((2) * (i)))) (nI_add (45) ((2) * (i))) ?_
      refine wp_iconst (v0 := 1) d_X10_layPlaces_43 rfl ?_
      refine wp_iadd d_X10_layPlaces_44 ?_
      refine wp_v (v0 := nI (((45) + ((2) * (i))) + (1))) (nI_add ((45) + ((2) * (i))) (1)) ?_
      refine wp_iaload (v := (m.2.1 81) (((45) + ((2) * (i))) + (1))) d_X10_layPlaces_45 (hp_81 _ _ _ _ _) (vp_in_nI (by omega) (by omega)) (congrArg ((m.2.1 81)) (nI_clamp (by omega))) ?_
      refine wp_vrt_v (As := [.int (nI (i)), .int (nI (ln)), .int ((m.2.1 81) (((45) + ((2) * (i))) + (1)))]) (h1 := HP c w m (setA (setA v' 86 (upd (v'.2.1 86) (i) ((v'.2.1 85) (ln)))) 87 (upd (v'.2.1 87) (i) (kpush (mtl (m.2.1 81) (ln)) ((m.2.1 81) (((45) + ((2) * (i))) + (1)))))) E) d_X10_layPlaces_46 lk_X10_139 mv_X10_thinks in_X10_thinks se_X10_thinks (Nat.le_of_ble_eq_true rfl) (Nat.le_of_ble_eq_true rfl) (hp_80 _ _ _ _ _) rfl (s_X10_thinks (p := i) (l := ln) (by omega) (by omega) ((m.2.1 81) (((45) + ((2) * (i))) + (1)))) ?_
      refine wp_iinc (v0 := nI ((i) + 1)) [(1, .int (nI ((i) + 1))), (0, .ref (80))] 0 d_X10_layPlaces_49 rfl (nI_add (i) 1) (Nat.le_of_ble_eq_true rfl) rfl ?_
      refine wp_goto 12 d_X10_layPlaces_52 rfl ?_
      obtain ⟨k1, rfl⟩ : ∃ k1, k = k1 + 1 := ⟨k - 1, by omega⟩
      refine wp_sub [(1, .int (nI ((i) + 1))), (0, .ref (80))] [0, 1] rfl ?_
      refine ih k1 (by omega) (i + 1) _ (by omega) (hf.tr ⟨fun k9 h9 => rfl, fun k9 h9 => ?_, rfl⟩) h8 (fun l hl => ?_)
      · simp only [setA]
        rw [updA_n _ _ (by omega), updA_n _ _ (by omega)]
      · show (upd (v'.2.1 86) i _ l, upd (v'.2.1 87) i _ l) = _
        by_cases e : l = i
        · subst e
          rw [upd_s, upd_s]
          unfold kent
          rw [if_neg (nI_n9 _ (by omega)), show mlp (m.2.1 81) l = nI ln from hln1, nI_clamp (by omega), hf.2.1 85 (by decide)]
        · rw [upd_n _ _ e, upd_n _ _ e]; exact hst l (by omega)
theorem s_X10_layPlaces {X : kX} {d : Nat} {c w m v : kZ} {E : kH} {p : Nat} (hp : m.2.1 81 2 = nI p) (hp4 : p ≤ 4) (hln : ∀ j, j < p → vp_in (mlp (m.2.1 81) j) 9) : WP X (d + 3) 0 0 Y_X10_layPlaces 0 [(0, .ref (80))] [] (HP c w m v E) (fun r1 h1 => r1 = none ∧ ∃ v1 : kZ, h1 = HP c w m v1 E ∧ mFr 86 87 v v1 ∧ mLaid v1 (ktub (-9) 0 (v.2.1 85) (mtl (m.2.1 81)) (mlp (m.2.1 81)) (mtp (m.2.1 81)) p)) := by
  refine wp_aload_n 0 d_X10_layPlaces_0 rfl rfl ?_
  refine wp_aload_n 0 d_X10_layPlaces_1 rfl rfl ?_
  refine wp_getfield (v := .ref (81)) d_X10_layPlaces_2 gf_X10_7 (hp_80 _ _ _ _ _) rfl ?_
  refine wp_iconst (v0 := 2) d_X10_layPlaces_5 rfl ?_
  refine wp_iaload (v := nI (p)) d_X10_layPlaces_6 (hp_81 _ _ _ _ _) (kin rfl) hp ?_
  refine wp_putfield (h' := HP c w m (setS v 8008 (nI (p))) E) d_X10_layPlaces_7 gp_X10_135 (kfit_i _) (hp_80 _ _ _ _ _) (Nat.le_of_ble_eq_true rfl) (hps_80_8 _ _ _ _ _ _) ?_
  refine wp_iconst (v0 := 0) d_X10_layPlaces_10 rfl ?_
  refine wp_istore_n [(1, .int (0)), (0, .ref (80))] d_X10_layPlaces_11 rfl (Nat.le_of_ble_eq_true rfl) rfl ?_
  refine wp_sub [(1, .int (0)), (0, .ref (80))] [0, 1] rfl ?_
  exact s_X10_layPlaces_l hp hp4 hln p 0 _ (by omega) ⟨fun k9 h9 => by simp only [setS]; rw [upd_n _ _ (by omega)], fun _ _ => rfl, rfl⟩ rfl (fun j hj => absurd hj (by omega))
theorem ktub_congr {sx bd : Int32} {st st' tl tl' ln tn : Nat → Int32} {n p : Nat} (hst : ∀ l, l < n → st l = st' l) (htl : ∀ l, l < n → tl l = tl' l) (hln : ∀ j, j < p → vp_in (ln j) n) : ktub sx bd st tl ln tn p = ktub sx bd st' tl' ln tn p := by
  unfold ktub
  apply List.map_congr_left
  intro j hj
  rw [List.mem_range] at hj
  unfold kent
  have h := hln j hj
  have h2 : (ln j).toNatClampNeg < n := by
    have h3 := vp_in_iff.mp h
    show (ln j).toInt.toNat < n
    omega
  rw [hst _ h2, htl _ h2]
theorem mln9 {s : Nat → Int32} {n p : Nat} (hn9 : n ≤ 9) (h : ∀ j, j < p → vp_in (mlp s j) n) : ∀ j, j < p → vp_in (mlp s j) 9 := by
  intro j hj
  have h1 := vp_in_iff.mp (h j hj)
  exact vp_in_iff.mpr ⟨h1.1, by omega⟩
/-- the tube as it is -/
def mTube (s : Nat → Int32) (en : Nat → Nat) (cnt p : Nat) : List (Int32 × Int32) := ktub (-9) 0 (fun l => mstr s en cnt l) (mtl s) (mlp s) (mtp s) p
theorem mTube_len (s : Nat → Int32) (en : Nat → Nat) (cnt p : Nat) : (mTube s en cnt p).length = p := ktub_len _ _ _ _ _ _ _
theorem s_X10_layTube {X : kX} {d : Nat} {c w m v : kZ} {E : kH} {cnt : Nat} (hs1 : (m.2.1 81) 1 = nI cnt) (hc8 : cnt ≤ 8) {en : Nat → Nat} (hm : mWF (m.2.1 81) cnt en) {n : Nat} (hn : m.2.1 81 0 = nI n) (hn9 : n ≤ 9) {p : Nat} (hp : m.2.1 81 2 = nI p) (hp4 : p ≤ 4) (hln : ∀ j, j < p → vp_in (mlp (m.2.1 81) j) n) : WP X (d + 8) 0 0 Y_X10_layTube 0 [(0, .ref (80))] [] (HP c w m v E) (fun r1 h1 => r1 = none ∧ ∃ v1 : kZ, h1 = HP c w m v1 E ∧ mFr 84 87 v v1 ∧ (∀ l, l < n → v1.2.1 85 l = mstr (m.2.1 81) en cnt l) ∧ mLaid v1 (mTube (m.2.1 81) en cnt p)) := by
  refine wp_aload_n 0 d_X10_layTube_0 rfl rfl ?_
  refine wp_virtual0 (As := []) d_X10_layTube_1 lk_X10_129 mv_X10_findStrengths in_X10_findStrengths se_X10_findStrengths (Nat.le_of_ble_eq_true rfl) (Nat.le_of_ble_eq_true rfl) (hp_80 _ _ _ _ _) rfl (s_X10_findStrengths hs1 hc8 hm hn hn9) (fun v1 h1 q1 => ?_)
  obtain ⟨rfl, v1, rfl, hf1, hst1⟩ := q1
  show WP _ _ _ _ _ 4 _ [] (HP c w m v1 E) _
  refine wp_aload_n 0 d_X10_layTube_4 rfl rfl ?_
  refine wp_virtual0 (As := []) d_X10_layTube_5 lk_X10_132 mv_X10_layPlaces in_X10_layPlaces se_X10_layPlaces (Nat.le_of_ble_eq_true rfl) (Nat.le_of_ble_eq_true rfl) (hp_80 _ _ _ _ _) rfl (s_X10_layPlaces hp hp4 (mln9 hn9 hln)) (fun v5 h5 q5 => ?_)
  obtain ⟨rfl, v2, rfl, hf2, hl2⟩ := q5
  show WP _ _ _ _ _ 8 _ [] (HP c w m v2 E) _
  refine wp_vret d_X10_layTube_8 rfl ?_
  refine ⟨rfl, v2, rfl, (hf1.mo (by decide) (by decide)).tr (hf2.mo (by decide) (by decide)), fun l hl => ?_, ?_⟩
  · rw [hf2.2.1 85 (by decide)]; exact hst1 l hl
  · unfold mTube
    rw [← ktub_congr (n := n) hst1 (fun _ _ => rfl) hln]
    exact hl2
theorem s_X10_through {X : kX} {d : Nat} {c w m v : kZ} {E : kH} (b u : Int32) : WP X d 0 0 Y_X10_through 0 [(0, .ref (80)), (1, .int (b)), (2, .int (u))] [] (HP c w m v E) (kR none (HP c w m (setS (setS v 8010 ((v.1 8010) + (u - b * (v.1 8009)))) 8009 ((v.1 8009) + ((m.2.1 81) 5) * ((v.1 8010) + (u - b * (v.1 8009))))) E)) := by
  refine wp_aload_n 0 d_X10_through_0 rfl rfl ?_
  refine wp_dup d_X10_through_1 rfl ?_
  refine wp_getfield (v := .int ((v.1 8010))) d_X10_through_2 gf_X10_143 (hp_80 _ _ _ _ _) rfl ?_
  refine wp_iload_n 2 d_X10_through_5 rfl rfl ?_
  refine wp_iload_n 1 d_X10_through_6 rfl rfl ?_
  refine wp_aload_n 0 d_X10_through_7 rfl rfl ?_
  refine wp_getfield (v := .int ((v.1 8009))) d_X10_through_8 gf_X10_146 (hp_80 _ _ _ _ _) rfl ?_
  refine wp_imul d_X10_through_11 ?_
  refine wp_isub d_X10_through_12 ?_
  refine wp_iadd d_X10_through_13 ?_
  refine wp_putfield (h' := HP c w m (setS v 8010 (((v.1 8010)) + ((u) - ((b) * ((v.1 8009)))))) E) d_X10_through_14 gp_X10_143 (kfit_i _) (hp_80 _ _ _ _ _) (Nat.le_of_ble_eq_true rfl) (hps_80_10 _ _ _ _ _ _) ?_
  refine wp_aload_n 0 d_X10_through_17 rfl rfl ?_
  refine wp_dup d_X10_through_18 rfl ?_
  refine wp_getfield (v := .int ((v.1 8009))) d_X10_through_19 gf_X10_146 (hp_80 _ _ _ _ _) rfl ?_
  refine wp_aload_n 0 d_X10_through_22 rfl rfl ?_
  refine wp_getfield (v := .ref (81)) d_X10_through_23 gf_X10_7 (hp_80 _ _ _ _ _) rfl ?_
  refine wp_iconst (v0 := 5) d_X10_through_26 rfl ?_
  refine wp_iaload (v := (m.2.1 81) (5)) d_X10_through_27 (hp_81 _ _ _ _ _) (kin rfl) rfl ?_
  refine wp_aload_n 0 d_X10_through_28 rfl rfl ?_
  refine wp_getfield (v := .int ((((v.1 8010)) + ((u) - ((b) * ((v.1 8009))))))) d_X10_through_29 gf_X10_143 (hp_80 _ _ _ _ _) rfl ?_
  refine wp_imul d_X10_through_32 ?_
  refine wp_iadd d_X10_through_33 ?_
  refine wp_putfield (h' := HP c w m (setS (setS v 8010 (((v.1 8010)) + ((u) - ((b) * ((v.1 8009)))))) 8009 (((v.1 8009)) + (((m.2.1 81) (5)) * ((((v.1 8010)) + ((u) - ((b) * ((v.1 8009))))))))) E) d_X10_through_34 gp_X10_146 (kfit_i _) (hp_80 _ _ _ _ _) (Nat.le_of_ble_eq_true rfl) (hps_80_9 _ _ _ _ _ _) ?_
  refine wp_vret d_X10_through_37 rfl ?_
  exact ⟨rfl, rfl⟩
theorem s_X10_seenBy_l {X : kX} {d : Nat} {c w m v : kZ} {E : kH} {l : List (Int32 × Int32)} (hl4 : l.length ≤ 4) (hld : mLaid v l) (x : Int32) : ∀ (k : Nat) (i : Nat) (v' : kZ), (i + k = l.length) → (mH v v') → ((v'.1 8009, v'.1 8010) = mray ((m.2.1 81) 5) (l.take i) x) → WP X (d + 1) 0 0 Y_X10_seenBy 12 [(2, .int (nI (i))), (0, .ref (80)), (1, .int (x))] [] (HP c w m v' E) (fun r1 h1 => r1 = some (.int (msee ((m.2.1 81) 5) ((m.2.1 81) 6) l x)) ∧ ∃ v1 : kZ, h1 = HP c w m v1 E ∧ mH v v1) := by
  intro k
  induction k using Nat.strongRecOn with
  | ind k ih =>
    intro i v' hi hmh hq
    refine wp_iload_n 0 d_X10_seenBy_12 rfl rfl ?_
    refine wp_aload_n 1 d_X10_seenBy_13 rfl rfl ?_
    refine wp_getfield (v := .int (nI (l.length))) d_X10_seenBy_14 gf_X10_135 (hp_80 _ _ _ _ _) (congrArg (fun z => some (Value.int z)) (hld.h hmh).1) ?_
    refine wp_ncmp_ge (a := i) (b := l.length) 42 d_X10_seenBy_17 rfl (by omega) (by omega) (fun c17 => ?_) (fun c17 => ?_)
    · refine wp_aload_n 1 d_X10_seenBy_42 rfl rfl ?_
      refine wp_aload_n 1 d_X10_seenBy_43 rfl rfl ?_
      refine wp_getfield (v := .ref (81)) d_X10_seenBy_44 gf_X10_7 (hp_80 _ _ _ _ _) rfl ?_
      refine wp_bipush (v0 := 6) d_X10_seenBy_47 (by decide) ?_
      refine wp_iaload (v := (m.2.1 81) (6)) d_X10_seenBy_49 (hp_81 _ _ _ _ _) (kin rfl) rfl ?_
      refine wp_iconst (v0 := 0) d_X10_seenBy_50 rfl ?_
      refine wp_vrt_v (As := [.int ((m.2.1 81) (6)), .int (0)]) (h1 := HP c w m (setS (setS v' 8010 ((v'.1 8010) + (0 - (m.2.1 81) (6) * (v'.1 8009)))) 8009 ((v'.1 8009) + ((m.2.1 81) 5) * ((v'.1 8010) + (0 - (m.2.1 81) (6) * (v'.1 8009))))) E) d_X10_seenBy_51 lk_X10_149 mv_X10_through in_X10_through se_X10_through (Nat.le_of_ble_eq_true rfl) (Nat.le_of_ble_eq_true rfl) (hp_80 _ _ _ _ _) rfl (s_X10_through ((m.2.1 81) (6)) (0)) ?_
      refine wp_aload_n 1 d_X10_seenBy_54 rfl rfl ?_
      refine wp_getfield (v := .int (((v'.1 8009) + ((m.2.1 81) 5) * ((v'.1 8010) + (0 - (m.2.1 81) (6) * (v'.1 8009)))))) d_X10_seenBy_55 gf_X10_146 (hp_80 _ _ _ _ _) rfl ?_
      refine wp_reti d_X10_seenBy_58 rfl ?_
      obtain rfl : k = 0 := by omega
      obtain rfl : i = l.length := by omega
      refine ⟨?_, _, rfl, ?_⟩
      · unfold msee
        rw [List.take_length] at hq
        rw [mray_s, ← hq]
        rfl
      · refine hmh.tr ⟨fun k9 h9 => ?_, rfl⟩
        simp only [setS]
        rw [upd_n _ _ (by omega), upd_n _ _ (by omega)]
    · refine wp_aload_n 1 d_X10_seenBy_20 rfl rfl ?_
      refine wp_aload_n 1 d_X10_seenBy_21 rfl rfl ?_
      refine wp_getfield (v := .ref (86)) d_X10_seenBy_22 gf_X10_25 (hp_80 _ _ _ _ _) rfl ?_
      refine wp_iload_n 0 d_X10_seenBy_25 rfl rfl ?_
      refine wp_iaload (v := (v'.2.1 86) (i)) d_X10_seenBy_26 (hp_86 _ _ _ _ _) (vp_in_nI (by omega) (by omega)) (congrArg ((v'.2.1 86)) (nI_clamp (by omega))) ?_
      refine wp_aload_n 1 d_X10_seenBy_27 rfl rfl ?_
      refine wp_getfield (v := .ref (87)) d_X10_seenBy_28 gf_X10_28 (hp_80 _ _ _ _ _) rfl ?_
      refine wp_iload_n 0 d_X10_seenBy_31 rfl rfl ?_
      refine wp_iaload (v := (v'.2.1 87) (i)) d_X10_seenBy_32 (hp_87 _ _ _ _ _) (vp_in_nI (by omega) (by omega)) (congrArg ((v'.2.1 87)) (nI_clamp (by omega))) ?_
      refine wp_vrt_v (As := [.int ((v'.2.1 86) (i)), .int ((v'.2.1 87) (i))]) (h1 := HP c w m (setS (setS v' 8010 ((v'.1 8010) + ((v'.2.1 87) (i) - (v'.2.1 86) (i) * (v'.1 8009)))) 8009 ((v'.1 8009) + ((m.2.1 81) 5) * ((v'.1 8010) + ((v'.2.1 87) (i) - (v'.2.1 86) (i) * (v'.1 8009))))) E) d_X10_seenBy_33 lk_X10_149 mv_X10_through in_X10_through se_X10_through (Nat.le_of_ble_eq_true rfl) (Nat.le_of_ble_eq_true rfl) (hp_80 _ _ _ _ _) rfl (s_X10_through ((v'.2.1 86) (i)) ((v'.2.1 87) (i))) ?_
      refine wp_iinc (v0 := nI ((i) + 1)) [(2, .int (nI ((i) + 1))), (0, .ref (80)), (1, .int (x))] 0 d_X10_seenBy_36 rfl (nI_add (i) 1) (Nat.le_of_ble_eq_true rfl) rfl ?_
      refine wp_goto 12 d_X10_seenBy_39 rfl ?_
      obtain ⟨k1, rfl⟩ : ∃ k1, k = k1 + 1 := ⟨k - 1, by omega⟩
      refine wp_sub [(2, .int (nI ((i) + 1))), (0, .ref (80)), (1, .int (x))] [0, 1, 2] rfl ?_
      refine ih k1 (by omega) (i + 1) _ (by omega) ?_ ?_
      · refine hmh.tr ⟨fun k9 h9 => ?_, rfl⟩
        simp only [setS]
        rw [upd_n _ _ (by omega), upd_n _ _ (by omega)]
      · rw [List.take_succ_eq_append_getElem (by omega), mray_s, ← hq, ← (hld.h hmh).2 i (by omega)]
        rfl
theorem s_X10_seenBy {X : kX} {d : Nat} {c w m v : kZ} {E : kH} {l : List (Int32 × Int32)} (hl4 : l.length ≤ 4) (hld : mLaid v l) (x : Int32) : WP X (d + 1) 0 0 Y_X10_seenBy 0 [(0, .ref (80)), (1, .int (x))] [] (HP c w m v E) (fun r1 h1 => r1 = some (.int (msee ((m.2.1 81) 5) ((m.2.1 81) 6) l x)) ∧ ∃ v1 : kZ, h1 = HP c w m v1 E ∧ mH v v1) := by
  refine wp_aload_n 0 d_X10_seenBy_0 rfl rfl ?_
  refine wp_iload_n 1 d_X10_seenBy_1 rfl rfl ?_
  refine wp_putfield (h' := HP c w m (setS v 8009 (x)) E) d_X10_seenBy_2 gp_X10_146 (kfit_i _) (hp_80 _ _ _ _ _) (Nat.le_of_ble_eq_true rfl) (hps_80_9 _ _ _ _ _ _) ?_
  refine wp_aload_n 0 d_X10_seenBy_5 rfl rfl ?_
  refine wp_iconst (v0 := 0) d_X10_seenBy_6 rfl ?_
  refine wp_putfield (h' := HP c w m (setS (setS v 8009 (x)) 8010 (0)) E) d_X10_seenBy_7 gp_X10_143 (kfit_i _) (hp_80 _ _ _ _ _) (Nat.le_of_ble_eq_true rfl) (hps_80_10 _ _ _ _ _ _) ?_
  refine wp_iconst (v0 := 0) d_X10_seenBy_10 rfl ?_
  refine wp_istore_n [(2, .int (0)), (0, .ref (80)), (1, .int (x))] d_X10_seenBy_11 rfl (Nat.le_of_ble_eq_true rfl) rfl ?_
  refine wp_sub [(2, .int (0)), (0, .ref (80)), (1, .int (x))] [0, 1, 2] rfl ?_
  refine s_X10_seenBy_l hl4 hld x l.length 0 _ (by omega) ⟨fun k9 h9 => ?_, rfl⟩ rfl
  simp only [setS]
  rw [upd_n _ _ (by omega), upd_n _ _ (by omega)]
theorem s_X10_wrongOf {X : kX} {d : Nat} {c w m v : kZ} {E : kH} {l : List (Int32 × Int32)} (hl4 : l.length ≤ 4) (hld : mLaid v l) : WP X (d + 2) 0 0 Y_X10_wrongOf 0 [(0, .ref (80))] [] (HP c w m v E) (fun r1 h1 => r1 = some (.int (mwr ((m.2.1 81) 5) ((m.2.1 81) 6) l)) ∧ ∃ v1 : kZ, h1 = HP c w m v1 E ∧ mH v v1) := by
  refine wp_aload_n 0 d_X10_wrongOf_0 rfl rfl ?_
  refine wp_iconst (v0 := 0) d_X10_wrongOf_1 rfl ?_
  refine wp_virtual0 (As := [.int (0)]) d_X10_wrongOf_2 lk_X10_153 mv_X10_seenBy in_X10_seenBy se_X10_seenBy (Nat.le_of_ble_eq_true rfl) (Nat.le_of_ble_eq_true rfl) (hp_80 _ _ _ _ _) rfl (s_X10_seenBy (l := l) hl4 hld (0)) (fun v2 h2 q2 => ?_)
  obtain ⟨rfl, u1, rfl, hu1⟩ := q2
  have hld1 := hld.h hu1
  show WP _ _ _ _ _ 5 _ [.int (msee ((m.2.1 81) 5) ((m.2.1 81) 6) l (0))] (HP c w m u1 E) _
  refine wp_istore_n [(1, .int (msee ((m.2.1 81) 5) ((m.2.1 81) 6) l (0))), (0, .ref (80))] d_X10_wrongOf_5 rfl (Nat.le_of_ble_eq_true rfl) rfl ?_
  refine wp_iload_n 0 d_X10_wrongOf_6 rfl rfl ?_
  refine wp_stc_i (As := [.int (msee ((m.2.1 81) 5) ((m.2.1 81) 6) l (0))]) (x0 := kabs (msee ((m.2.1 81) 5) ((m.2.1 81) 6) l (0))) (h1 := HP c w m u1 E) d_X10_wrongOf_7 lk_X10_156 mv_X10_sizeOf st_X10_sizeOf (Nat.le_of_ble_eq_true rfl) (Nat.le_of_ble_eq_true rfl) (s_X10_sizeOf _ (msee ((m.2.1 81) 5) ((m.2.1 81) 6) l (0))) ?_
  refine wp_aload_n 1 d_X10_wrongOf_10 rfl rfl ?_
  refine wp_iconst (v0 := 1) d_X10_wrongOf_11 rfl ?_
  refine wp_virtual0 (As := [.int (1)]) d_X10_wrongOf_12 lk_X10_153 mv_X10_seenBy in_X10_seenBy se_X10_seenBy (Nat.le_of_ble_eq_true rfl) (Nat.le_of_ble_eq_true rfl) (hp_80 _ _ _ _ _) rfl (s_X10_seenBy (l := l) hl4 hld1 (1)) (fun v12 h12 q12 => ?_)
  obtain ⟨rfl, u2, rfl, hu2⟩ := q12
  have hu2 := hu1.tr hu2
  have hld2 := hld.h hu2
  show WP _ _ _ _ _ 15 _ [.int (msee ((m.2.1 81) 5) ((m.2.1 81) 6) l (1)), .int (kabs (msee ((m.2.1 81) 5) ((m.2.1 81) 6) l (0)))] (HP c w m u2 E) _
  refine wp_iload_n 0 d_X10_wrongOf_15 rfl rfl ?_
  refine wp_isub d_X10_wrongOf_16 ?_
  refine wp_stc_i (As := [.int ((msee ((m.2.1 81) 5) ((m.2.1 81) 6) l (1)) - (msee ((m.2.1 81) 5) ((m.2.1 81) 6) l (0)))]) (x0 := kabs ((msee ((m.2.1 81) 5) ((m.2.1 81) 6) l (1)) - (msee ((m.2.1 81) 5) ((m.2.1 81) 6) l (0)))) (h1 := HP c w m u2 E) d_X10_wrongOf_17 lk_X10_156 mv_X10_sizeOf st_X10_sizeOf (Nat.le_of_ble_eq_true rfl) (Nat.le_of_ble_eq_true rfl) (s_X10_sizeOf _ ((msee ((m.2.1 81) 5) ((m.2.1 81) 6) l (1)) - (msee ((m.2.1 81) 5) ((m.2.1 81) 6) l (0)))) ?_
  refine wp_iadd d_X10_wrongOf_20 ?_
  refine wp_reti d_X10_wrongOf_21 rfl ?_
  exact ⟨rfl, u2, rfl, hu2⟩
theorem s_X10_isMended {X : kX} {d : Nat} {c w m v : kZ} {E : kH} {l : List (Int32 × Int32)} (hl4 : l.length ≤ 4) (hld : mLaid v l) : WP X (d + 3) 0 0 Y_X10_isMended 0 [(0, .ref (80))] [] (HP c w m v E) (fun r1 h1 => r1 = some (.int (kb (mwr ((m.2.1 81) 5) ((m.2.1 81) 6) l ≤ (m.2.1 81) 7))) ∧ ∃ v1 : kZ, h1 = HP c w m v1 E ∧ mH v v1) := by
  refine wp_aload_n 0 d_X10_isMended_0 rfl rfl ?_
  refine wp_virtual0 (As := []) d_X10_isMended_1 lk_X10_159 mv_X10_wrongOf in_X10_wrongOf se_X10_wrongOf (Nat.le_of_ble_eq_true rfl) (Nat.le_of_ble_eq_true rfl) (hp_80 _ _ _ _ _) rfl (s_X10_wrongOf (l := l) hl4 hld) (fun v1 h1 q1 => ?_)
  obtain ⟨rfl, u1, rfl, hu1⟩ := q1
  show WP _ _ _ _ _ 4 _ [.int (mwr ((m.2.1 81) 5) ((m.2.1 81) 6) l)] (HP c w m u1 E) _
  refine wp_aload_n 0 d_X10_isMended_4 rfl rfl ?_
  refine wp_getfield (v := .ref (81)) d_X10_isMended_5 gf_X10_7 (hp_80 _ _ _ _ _) rfl ?_
  refine wp_bipush (v0 := 7) d_X10_isMended_8 (by decide) ?_
  refine wp_iaload (v := (m.2.1 81) (7)) d_X10_isMended_10 (hp_81 _ _ _ _ _) (kin rfl) rfl ?_
  refine wp_icmp_gt 18 d_X10_isMended_11 rfl (fun c11 => ?_) (fun c11 => ?_)
  · refine wp_iconst (v0 := 0) d_X10_isMended_18 rfl ?_
    refine wp_iret d_X10_isMended_19 rfl k_nar0 ?_
    exact ⟨congrArg (fun z => some (Value.int z)) (Eq.symm (kb_f (Int32.not_le.mpr c11))), u1, rfl, hu1⟩
  · refine wp_iconst (v0 := 1) d_X10_isMended_14 rfl ?_
    refine wp_goto 19 d_X10_isMended_15 rfl ?_
    refine wp_iret d_X10_isMended_19 rfl k_nar1 ?_
    exact ⟨congrArg (fun z => some (Value.int z)) (Eq.symm (kb_t (Int32.not_lt.mp c11))), u1, rfl, hu1⟩
