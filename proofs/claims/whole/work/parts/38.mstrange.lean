/-! ===== a stranger's lens: the reference ===== -/
theorem mLaid_one {v : kZ} {st tl ln tn : Nat → Int32} {p q : Nat} {bd : Int32} (h : mLaid v (ktub (-9) 0 st tl ln tn p)) (hp : p ≤ 4) (hq : q < p) : mLaid (setA (setA v 86 (upd (v.2.1 86) q bd)) 87 (upd (v.2.1 87) q 0)) (ktub (nI q) bd st tl ln tn p) := by
  refine ⟨?_, fun j hj => ?_⟩
  · rw [ktub_len]
    have h1 := h.1
    rw [ktub_len] at h1
    exact h1
  · rw [ktub_get]
    rw [ktub_len] at hj
    show (upd (v.2.1 86) q _ j, upd (v.2.1 87) q _ j) = _
    by_cases e : j = q
    · subst e
      rw [upd_s, upd_s]
      unfold kent
      rw [if_pos rfl]
    · rw [upd_n _ _ e, upd_n _ _ e, h.2 j (by rw [ktub_len]; exact hj), ktub_get]
      unfold kent
      rw [if_neg (nI_n9 _ (by omega)), if_neg (fun z => e ((nI_eq (by omega) (by omega)).mp z))]
abbrev mfP (s : Nat → Int32) (en : Nat → Nat) (cnt p : Nat) (r j : Nat) : Prop := (0 ≤ (s (53 + 2 * r)).toInt ∧ (s (53 + 2 * r)).toInt < (p : Int)) ∧ (mwr (s 5) (s 6) (ktub (s (53 + 2 * r)) (nI j + (-9)) (fun l => mstr s en cnt l) (mtl s) (mlp s) (mtp s) p) ≤ s 7 ↔ s (53 + 2 * r + 1) = 1)
abbrev mall (s : Nat → Int32) (en : Nat → Nat) (cnt p : Nat) (bt : Int32) (R j : Nat) : Prop := ∀ r, r < R → nI r = bt ∨ mfP s en cnt p r j
def mff (f0 : Int32) (P : Nat → Prop) [DecidablePred P] : Nat → Int32
  | 0 => f0
  | j + 1 => if P j then (if kcnt P j = 0 then nI j + (-9) else mff f0 P j) else mff f0 P j
def mfl (l0 : Int32) (P : Nat → Prop) [DecidablePred P] : Nat → Int32
  | 0 => l0
  | j + 1 => if P j then nI j + (-9) else mfl l0 P j
def mBd (s : Nat → Int32) (en : Nat → Nat) (cnt n : Nat) (f0 l0 : Int32) (P : Nat → Prop) [DecidablePred P] (j : Nat) (v : kZ) : Prop := mSt s en cnt n v ∧ v.1 8018 = kcnt P j ∧ v.1 8019 = mff f0 P j ∧ v.1 8020 = mfl l0 P j
theorem mBd.fr {s : Nat → Int32} {en : Nat → Nat} {cnt n : Nat} {f0 l0 : Int32} {P : Nat → Prop} [DecidablePred P] {j : Nat} {v v' : kZ} (h : mBd s en cnt n f0 l0 P j v) (g : mFr 86 87 v v') : mBd s en cnt n f0 l0 P j v' := ⟨h.1.fr g (by decide), (g.1 _ (by decide)).trans h.2.1, (g.1 _ (by decide)).trans h.2.2.1, (g.1 _ (by decide)).trans h.2.2.2⟩
theorem s_X10_isMendedBy {X : kX} {d : Nat} {c w m v : kZ} {E : kH} {cnt : Nat} (hs1 : (m.2.1 81) 1 = nI cnt) (hc8 : cnt ≤ 8) {en : Nat → Nat} (hm : mWF (m.2.1 81) cnt en) {n : Nat} (hn : m.2.1 81 0 = nI n) (hn9 : n ≤ 9) {p : Nat} (hp : m.2.1 81 2 = nI p) (hp4 : p ≤ 4) (hln : ∀ j, j < p → vp_in (mlp (m.2.1 81) j) n) (hS : mSt (m.2.1 81) en cnt n v) {q : Nat} (hq : q < p) (b : Int32) {x : Int32} (hx : x = nI q) : WP X (d + 4) 0 0 Y_X10_isMendedBy 0 [(0, .ref (80)), (1, .int (x)), (2, .int (b))] [] (HP c w m v E) (fun r1 h1 => r1 = some (.int (kb (mwr ((m.2.1 81) 5) ((m.2.1 81) 6) (ktub x (b) (fun l => mstr (m.2.1 81) en cnt l) (mtl (m.2.1 81)) (mlp (m.2.1 81)) (mtp (m.2.1 81)) p) ≤ (m.2.1 81) 7))) ∧ ∃ v1 : kZ, h1 = HP c w m v1 E ∧ mFr 86 87 v v1) := by
  subst hx
  refine wp_aload_n 0 d_X10_isMendedBy_0 rfl rfl ?_
  refine wp_virtual0 (As := []) d_X10_isMendedBy_1 lk_X10_132 mv_X10_layPlaces in_X10_layPlaces se_X10_layPlaces (Nat.le_of_ble_eq_true rfl) (Nat.le_of_ble_eq_true rfl) (hp_80 _ _ _ _ _) rfl (s_X10_layPlaces_t hn hn9 hp hp4 hln hS) (fun v1 h1 q1 => ?_)
  obtain ⟨rfl, v3, rfl, hf3, hl3⟩ := q1
  show WP _ _ _ _ _ 4 _ [] (HP c w m v3 E) _
  refine wp_aload_n 0 d_X10_isMendedBy_4 rfl rfl ?_
  refine wp_getfield (v := .ref (86)) d_X10_isMendedBy_5 gf_X10_25 (hp_80 _ _ _ _ _) rfl ?_
  refine wp_iload_n 1 d_X10_isMendedBy_8 rfl rfl ?_
  refine wp_iload_n 2 d_X10_isMendedBy_9 rfl rfl ?_
  refine wp_iastore (h' := HP c w m (setA v3 86 (upd (v3.2.1 86) (q) (b))) E) d_X10_isMendedBy_10 (hp_86 _ _ _ _ _) (vp_in_nI (by omega) (by omega)) (by rw [nI_clamp (by omega)]; exact (hpa_86 _ _ _ _ _ _)) ?_
  refine wp_aload_n 0 d_X10_isMendedBy_11 rfl rfl ?_
  refine wp_getfield (v := .ref (87)) d_X10_isMendedBy_12 gf_X10_28 (hp_80 _ _ _ _ _) rfl ?_
  refine wp_iload_n 1 d_X10_isMendedBy_15 rfl rfl ?_
  refine wp_iconst (v0 := 0) d_X10_isMendedBy_16 rfl ?_
  refine wp_iastore (h' := HP c w m (setA (setA v3 86 (upd (v3.2.1 86) (q) (b))) 87 (upd (v3.2.1 87) (q) (0))) E) d_X10_isMendedBy_17 (hp_87 _ _ _ _ _) (vp_in_nI (by omega) (by omega)) (by rw [nI_clamp (by omega)]; exact (hpa_87 _ _ _ _ _ _)) ?_
  refine wp_aload_n 0 d_X10_isMendedBy_18 rfl rfl ?_
  refine wp_virtual0 (As := []) d_X10_isMendedBy_19 lk_X10_169 mv_X10_isMended in_X10_isMended se_X10_isMended (Nat.le_of_ble_eq_true rfl) (Nat.le_of_ble_eq_true rfl) (hp_80 _ _ _ _ _) rfl (s_X10_isMended (l := (ktub (nI q) (b) (fun l => mstr (m.2.1 81) en cnt l) (mtl (m.2.1 81)) (mlp (m.2.1 81)) (mtp (m.2.1 81)) p)) (by rw [ktub_len]; omega) (mLaid_one hl3 hp4 hq)) (fun v19 h19 q19 => ?_)
  obtain ⟨rfl, u1, rfl, hu1⟩ := q19
  show WP _ _ _ _ _ 22 _ [.int (kb (mwr ((m.2.1 81) 5) ((m.2.1 81) 6) (ktub (nI q) (b) (fun l => mstr (m.2.1 81) en cnt l) (mtl (m.2.1 81)) (mlp (m.2.1 81)) (mtp (m.2.1 81)) p) ≤ (m.2.1 81) 7))] (HP c w m u1 E) _
  refine wp_retb d_X10_isMendedBy_22 rfl ?_
  exact ⟨rfl, u1, rfl, hf3.tr (mFr.tr (y := setA (setA v3 86 (upd (v3.2.1 86) q b)) 87 (upd (v3.2.1 87) q 0)) ⟨fun _ _ => rfl, fun k9 h9 => by simp only [setA]; rw [updA_n _ _ (by omega), updA_n _ _ (by omega)], rfl⟩ (hu1.fr 86 87))⟩
theorem s_X10_findFits_i {X : kX} {d : Nat} {c w m v : kZ} {E : kH} {cnt : Nat} (hs1 : (m.2.1 81) 1 = nI cnt) (hc8 : cnt ≤ 8) {en : Nat → Nat} (hm : mWF (m.2.1 81) cnt en) {n : Nat} (hn : m.2.1 81 0 = nI n) (hn9 : n ≤ 9) {p : Nat} (hp : m.2.1 81 2 = nI p) (hp4 : p ≤ 4) (hln : ∀ j, j < p → vp_in (mlp (m.2.1 81) j) n) {rr : Nat} (hrp : (m.2.1 81) 3 = nI rr) (hr6 : rr ≤ 6) (bt f0 l0 : Int32) {j : Nat} {Q : Option Value → kH → Prop} (K : ∀ v2 : kZ, mBd (m.2.1 81) en cnt n f0 l0 (fun j => mall (m.2.1 81) en cnt p bt rr j) j v2 → WP X (d + 9) 0 0 Y_X10_findFits 112 [(3, .int (kb (mall (m.2.1 81) en cnt p bt rr j))), (2, .int (nI j + (-9))), (0, .ref 80), (1, .int bt)] [] (HP c w m v2 E) Q) : ∀ (k : Nat) (i : Nat) (v' : kZ), (i + k = rr) → (mBd (m.2.1 81) en cnt n f0 l0 (fun j => mall (m.2.1 81) en cnt p bt rr j) j v') → (∀ r, r < i → nI r = bt ∨ mfP (m.2.1 81) en cnt p r j) → WP X (d + 9) 0 0 Y_X10_findFits 23 [(4, .int (nI (i))), (3, .int (1)), (2, .int (nI j + (-9))), (0, .ref (80)), (1, .int (bt))] [] (HP c w m v' E) Q := by
  intro k
  induction k using Nat.strongRecOn with
  | ind k ih =>
    intro i v' hi hB hA
    refine wp_iload 0 d_X10_findFits_23 rfl ?_
    refine wp_aload_n 3 d_X10_findFits_25 rfl rfl ?_
    refine wp_getfield (v := .ref (81)) d_X10_findFits_26 gf_X10_7 (hp_80 _ _ _ _ _) rfl ?_
    refine wp_iconst (v0 := 3) d_X10_findFits_29 rfl ?_
    refine wp_iaload (v := nI (rr)) d_X10_findFits_30 (hp_81 _ _ _ _ _) (kin rfl) hrp ?_
    refine wp_ncmp_ge (a := i) (b := rr) 112 d_X10_findFits_31 rfl (by omega) (by omega) (fun zc31 => ?_) (fun zc31 => ?_)
    · obtain rfl : k = 0 := by omega
      obtain rfl : i = rr := by omega
      refine wp_sub [(3, .int (1)), (2, .int (nI j + (-9))), (0, .ref (80)), (1, .int (bt))] [1, 2, 3, 4] rfl ?_
      exact kb_t (show mall (m.2.1 81) en cnt p bt i j from hA) ▸ K _ hB
    · refine wp_iload_n 1 d_X10_findFits_34 rfl rfl ?_
      refine wp_if_eq 112 d_X10_findFits_35 rfl (fun z => absurd z (by decide)) (fun _ => ?_)
      refine wp_aload_n 3 d_X10_findFits_38 rfl rfl ?_
      refine wp_getfield (v := .ref (81)) d_X10_findFits_39 gf_X10_7 (hp_80 _ _ _ _ _) rfl ?_
      refine wp_bipush (v0 := 53) d_X10_findFits_42 (by decide) ?_
      refine wp_iconst (v0 := 2) d_X10_findFits_44 rfl ?_
      refine wp_iload 0 d_X10_findFits_45 rfl ?_
      refine wp_imul d_X10_findFits_47 ?_
      refine wp_v (v0 := nI ((2) * (i))) (pk_mul (2) (i)) ?_
      refine wp_iadd d_X10_findFits_48 ?_
      refine wp_v (v0 := nI ((53) + ((2) * (i)))) (nI_add (53) ((2) * (i))) ?_
      refine wp_iaload (v := (m.2.1 81) ((53) + ((2) * (i)))) d_X10_findFits_49 (hp_81 _ _ _ _ _) (vp_in_nI (by omega) (by omega)) (congrArg ((m.2.1 81)) (nI_clamp (by omega))) ?_
      refine wp_istore [(5, .int ((m.2.1 81) ((53) + ((2) * (i))))), (4, .int (nI (i))), (3, .int (1)), (2, .int (nI j + (-9))), (0, .ref (80)), (1, .int (bt))] d_X10_findFits_50 (Nat.le_of_ble_eq_true rfl) rfl ?_
      refine wp_iload 1 d_X10_findFits_52 rfl ?_
      refine wp_iload_n 5 d_X10_findFits_54 rfl rfl ?_
      refine wp_icmp_eq 100 d_X10_findFits_55 rfl (fun zc55 => ?_) (fun zc55 => ?_)
      · refine wp_iconst (v0 := 1) d_X10_findFits_100 rfl ?_
        refine wp_goto 105 d_X10_findFits_101 rfl ?_
        refine wp_istore_n [(3, .int (1)), (5, .int ((m.2.1 81) ((53) + ((2) * (i))))), (4, .int (nI (i))), (2, .int (nI j + (-9))), (0, .ref (80)), (1, .int (bt))] d_X10_findFits_105 rfl (Nat.le_of_ble_eq_true rfl) rfl ?_
        refine wp_iinc (v0 := nI ((i) + 1)) [(4, .int (nI ((i) + 1))), (3, .int (1)), (5, .int ((m.2.1 81) ((53) + ((2) * (i))))), (2, .int (nI j + (-9))), (0, .ref (80)), (1, .int (bt))] 2 d_X10_findFits_106 rfl (nI_add (i) 1) (Nat.le_of_ble_eq_true rfl) rfl ?_
        refine wp_goto 23 d_X10_findFits_109 rfl ?_
        obtain ⟨k1, rfl⟩ : ∃ k1, k = k1 + 1 := ⟨k - 1, by omega⟩
        refine wp_sub [(4, .int (nI ((i) + 1))), (3, .int (1)), (2, .int (nI j + (-9))), (0, .ref (80)), (1, .int (bt))] [0, 1, 3, 4, 5] rfl ?_
        exact ih k1 (by omega) (i + 1) _ (by omega) hB (fun r9 h9 => by rcases (by omega : r9 < i ∨ r9 = i) with e | e; exact hA r9 e; subst e; exact Or.inl zc55)
      · refine wp_aload_n 4 d_X10_findFits_58 rfl rfl ?_
        refine wp_iload 0 d_X10_findFits_59 rfl ?_
        refine wp_vrt_i (As := [.int ((m.2.1 81) ((53) + ((2) * (i))))]) (x0 := kb (0 ≤ (((m.2.1 81) ((53) + ((2) * (i)))) : Int32).toInt ∧ (((m.2.1 81) ((53) + ((2) * (i)))) : Int32).toInt < (p : Int))) (h1 := HP c w m v' E) d_X10_findFits_61 lk_X10_179 mv_X10_isPlace in_X10_isPlace se_X10_isPlace (Nat.le_of_ble_eq_true rfl) (Nat.le_of_ble_eq_true rfl) (hp_80 _ _ _ _ _) rfl (s_X10_isPlace hp (by omega) ((m.2.1 81) ((53) + ((2) * (i))))) ?_
        refine wp_ifb_eq 104 d_X10_findFits_64 rfl (fun zc64 => ?_) (fun zc64 => ?_)
        · refine wp_iconst (v0 := 0) d_X10_findFits_104 rfl ?_
          refine wp_istore_n [(3, .int (0)), (5, .int ((m.2.1 81) ((53) + ((2) * (i))))), (4, .int (nI (i))), (2, .int (nI j + (-9))), (0, .ref (80)), (1, .int (bt))] d_X10_findFits_105 rfl (Nat.le_of_ble_eq_true rfl) rfl ?_
          refine wp_iinc (v0 := nI ((i) + 1)) [(4, .int (nI ((i) + 1))), (3, .int (0)), (5, .int ((m.2.1 81) ((53) + ((2) * (i))))), (2, .int (nI j + (-9))), (0, .ref (80)), (1, .int (bt))] 2 d_X10_findFits_106 rfl (nI_add (i) 1) (Nat.le_of_ble_eq_true rfl) rfl ?_
          refine wp_goto 23 d_X10_findFits_109 rfl ?_
          have hno : ¬ mall (m.2.1 81) en cnt p bt rr j := by
            intro z9
            rcases z9 i (by omega) with e | e
            · exact zc55 e
            · exact zc64 e.1
          refine wp_iload 0 d_X10_findFits_23 rfl ?_
          refine wp_aload_n 4 d_X10_findFits_25 rfl rfl ?_
          refine wp_getfield (v := .ref (81)) d_X10_findFits_26 gf_X10_7 (hp_80 _ _ _ _ _) rfl ?_
          refine wp_iconst (v0 := 3) d_X10_findFits_29 rfl ?_
          refine wp_iaload (v := nI (rr)) d_X10_findFits_30 (hp_81 _ _ _ _ _) (kin rfl) hrp ?_
          refine wp_ncmp_ge (a := (i) + 1) (b := rr) 112 d_X10_findFits_31 rfl (by omega) (by omega) (fun zc31 => ?_) (fun zc31 => ?_)
          · refine wp_sub [(3, .int (0)), (2, .int (nI j + (-9))), (0, .ref (80)), (1, .int (bt))] [1, 3, 4, 5] rfl ?_
            exact kb_f hno ▸ K _ hB
          · refine wp_iload_n 1 d_X10_findFits_34 rfl rfl ?_
            refine wp_if_eq 112 d_X10_findFits_35 rfl (fun _ => ?_) (fun z => absurd z (by decide))
            refine wp_sub [(3, .int (0)), (2, .int (nI j + (-9))), (0, .ref (80)), (1, .int (bt))] [1, 3, 4, 5] rfl ?_
            exact kb_f hno ▸ K _ hB
        · obtain ⟨q, hq, hq1⟩ := k_nat zc64
          refine wp_aload_n 4 d_X10_findFits_67 rfl rfl ?_
          refine wp_iload 0 d_X10_findFits_68 rfl ?_
          refine wp_iload_n 3 d_X10_findFits_70 rfl rfl ?_
          refine wp_virtual0 (As := [.int ((m.2.1 81) ((53) + ((2) * (i)))), .int (nI j + (-9))]) d_X10_findFits_71 lk_X10_238 mv_X10_isMendedBy in_X10_isMendedBy se_X10_isMendedBy (Nat.le_of_ble_eq_true rfl) (Nat.le_of_ble_eq_true rfl) (hp_80 _ _ _ _ _) rfl (s_X10_isMendedBy (v := v') hs1 hc8 hm hn hn9 hp hp4 hln hB.1 hq (nI j + (-9)) hq1) (fun v71 h71 q71 => ?_)
          obtain ⟨rfl, v2, rfl, hf2⟩ := q71
          have hB2 := hB.fr hf2
          show WP _ _ _ _ _ 74 _ [.int (kb (mwr ((m.2.1 81) 5) ((m.2.1 81) 6) (ktub ((m.2.1 81) ((53) + ((2) * (i)))) (nI j + (-9)) (fun l => mstr (m.2.1 81) en cnt l) (mtl (m.2.1 81)) (mlp (m.2.1 81)) (mtp (m.2.1 81)) p) ≤ (m.2.1 81) 7))] (HP c w m v2 E) _
          refine wp_aload_n 4 d_X10_findFits_74 rfl rfl ?_
          refine wp_getfield (v := .ref (81)) d_X10_findFits_75 gf_X10_7 (hp_80 _ _ _ _ _) rfl ?_
          refine wp_bipush (v0 := 53) d_X10_findFits_78 (by decide) ?_
          refine wp_iconst (v0 := 2) d_X10_findFits_80 rfl ?_
          refine wp_iload 1 d_X10_findFits_81 rfl ?_
          refine wp_imul d_X10_findFits_83 ?_
          refine wp_v (v0 := nI ((2) * (i))) (pk_mul (2) (i)) ?_
          refine wp_iadd d_X10_findFits_84 ?_
          refine wp_v (v0 := nI ((53) + ((2) * (i)))) (nI_add (53) ((2) * (i))) ?_
          refine wp_iconst (v0 := 1) d_X10_findFits_85 rfl ?_
          refine wp_iadd d_X10_findFits_86 ?_
          refine wp_v (v0 := nI (((53) + ((2) * (i))) + (1))) (nI_add ((53) + ((2) * (i))) (1)) ?_
          refine wp_iaload (v := (m.2.1 81) (((53) + ((2) * (i))) + (1))) d_X10_findFits_87 (hp_81 _ _ _ _ _) (vp_in_nI (by omega) (by omega)) (congrArg ((m.2.1 81)) (nI_clamp (by omega))) ?_
          refine wp_iconst (v0 := 1) d_X10_findFits_88 rfl ?_
          refine wp_icmp_ne 96 d_X10_findFits_89 rfl (fun zc89 => ?_) (fun zc89 => ?_)
          · refine wp_iconst (v0 := 0) d_X10_findFits_96 rfl ?_
            refine wp_icmp_ne 104 d_X10_findFits_97 rfl (fun zc97 => ?_) (fun zc97 => ?_)
            · refine wp_iconst (v0 := 0) d_X10_findFits_104 rfl ?_
              refine wp_istore_n [(3, .int (0)), (5, .int ((m.2.1 81) ((53) + ((2) * (i))))), (4, .int (nI (i))), (2, .int (nI j + (-9))), (0, .ref (80)), (1, .int (bt))] d_X10_findFits_105 rfl (Nat.le_of_ble_eq_true rfl) rfl ?_
              refine wp_iinc (v0 := nI ((i) + 1)) [(4, .int (nI ((i) + 1))), (3, .int (0)), (5, .int ((m.2.1 81) ((53) + ((2) * (i))))), (2, .int (nI j + (-9))), (0, .ref (80)), (1, .int (bt))] 2 d_X10_findFits_106 rfl (nI_add (i) 1) (Nat.le_of_ble_eq_true rfl) rfl ?_
              refine wp_goto 23 d_X10_findFits_109 rfl ?_
              have hno : ¬ mall (m.2.1 81) en cnt p bt rr j := by
                intro z9
                rcases z9 i (by omega) with e | e
                · exact zc55 e
                · have e2 := e.2
                  first
                    | exact zc97 (kb_1.mpr (e2.mpr zc89))
                    | exact zc97 (kb_0.mpr (fun z8 => zc89 (e2.mp z8)))
              refine wp_iload 0 d_X10_findFits_23 rfl ?_
              refine wp_aload_n 4 d_X10_findFits_25 rfl rfl ?_
              refine wp_getfield (v := .ref (81)) d_X10_findFits_26 gf_X10_7 (hp_80 _ _ _ _ _) rfl ?_
              refine wp_iconst (v0 := 3) d_X10_findFits_29 rfl ?_
              refine wp_iaload (v := nI (rr)) d_X10_findFits_30 (hp_81 _ _ _ _ _) (kin rfl) hrp ?_
              refine wp_ncmp_ge (a := (i) + 1) (b := rr) 112 d_X10_findFits_31 rfl (by omega) (by omega) (fun zc31 => ?_) (fun zc31 => ?_)
              · refine wp_sub [(3, .int (0)), (2, .int (nI j + (-9))), (0, .ref (80)), (1, .int (bt))] [1, 3, 4, 5] rfl ?_
                exact kb_f hno ▸ K _ hB2
              · refine wp_iload_n 1 d_X10_findFits_34 rfl rfl ?_
                refine wp_if_eq 112 d_X10_findFits_35 rfl (fun _ => ?_) (fun z => absurd z (by decide))
                refine wp_sub [(3, .int (0)), (2, .int (nI j + (-9))), (0, .ref (80)), (1, .int (bt))] [1, 3, 4, 5] rfl ?_
                exact kb_f hno ▸ K _ hB2
            · refine wp_iconst (v0 := 1) d_X10_findFits_100 rfl ?_
              refine wp_goto 105 d_X10_findFits_101 rfl ?_
              refine wp_istore_n [(3, .int (1)), (5, .int ((m.2.1 81) ((53) + ((2) * (i))))), (4, .int (nI (i))), (2, .int (nI j + (-9))), (0, .ref (80)), (1, .int (bt))] d_X10_findFits_105 rfl (Nat.le_of_ble_eq_true rfl) rfl ?_
              refine wp_iinc (v0 := nI ((i) + 1)) [(4, .int (nI ((i) + 1))), (3, .int (1)), (5, .int ((m.2.1 81) ((53) + ((2) * (i))))), (2, .int (nI j + (-9))), (0, .ref (80)), (1, .int (bt))] 2 d_X10_findFits_106 rfl (nI_add (i) 1) (Nat.le_of_ble_eq_true rfl) rfl ?_
              refine wp_goto 23 d_X10_findFits_109 rfl ?_
              obtain ⟨k1, rfl⟩ : ∃ k1, k = k1 + 1 := ⟨k - 1, by omega⟩
              refine wp_sub [(4, .int (nI ((i) + 1))), (3, .int (1)), (2, .int (nI j + (-9))), (0, .ref (80)), (1, .int (bt))] [0, 1, 3, 4, 5] rfl ?_
              refine ih k1 (by omega) (i + 1) _ (by omega) hB2 (fun r9 h9 => ?_)
              rcases (by omega : r9 < i ∨ r9 = i) with e | e
              · exact hA r9 e
              · subst e
                refine Or.inr ⟨zc64, ?_⟩
                first
                  | exact ⟨fun _ => Classical.not_not.mp zc89, fun _ => kb_1.mp zc97⟩
                  | exact ⟨fun _ => zc89, fun _ => kb_1.mp zc97⟩
                  | exact ⟨fun z9 => absurd z9 (kb_0.mp zc97), fun z9 => absurd z9 zc89⟩
          · refine wp_iconst (v0 := 1) d_X10_findFits_92 rfl ?_
            refine wp_goto 97 d_X10_findFits_93 rfl ?_
            refine wp_icmp_ne 104 d_X10_findFits_97 rfl (fun zc97 => ?_) (fun zc97 => ?_)
            · refine wp_iconst (v0 := 0) d_X10_findFits_104 rfl ?_
              refine wp_istore_n [(3, .int (0)), (5, .int ((m.2.1 81) ((53) + ((2) * (i))))), (4, .int (nI (i))), (2, .int (nI j + (-9))), (0, .ref (80)), (1, .int (bt))] d_X10_findFits_105 rfl (Nat.le_of_ble_eq_true rfl) rfl ?_
              refine wp_iinc (v0 := nI ((i) + 1)) [(4, .int (nI ((i) + 1))), (3, .int (0)), (5, .int ((m.2.1 81) ((53) + ((2) * (i))))), (2, .int (nI j + (-9))), (0, .ref (80)), (1, .int (bt))] 2 d_X10_findFits_106 rfl (nI_add (i) 1) (Nat.le_of_ble_eq_true rfl) rfl ?_
              refine wp_goto 23 d_X10_findFits_109 rfl ?_
              have hno : ¬ mall (m.2.1 81) en cnt p bt rr j := by
                intro z9
                rcases z9 i (by omega) with e | e
                · exact zc55 e
                · have e2 := e.2
                  first
                    | exact zc97 (kb_1.mpr (e2.mpr zc89))
                    | exact zc97 (kb_0.mpr (fun z8 => zc89 (e2.mp z8)))
              refine wp_iload 0 d_X10_findFits_23 rfl ?_
              refine wp_aload_n 4 d_X10_findFits_25 rfl rfl ?_
              refine wp_getfield (v := .ref (81)) d_X10_findFits_26 gf_X10_7 (hp_80 _ _ _ _ _) rfl ?_
              refine wp_iconst (v0 := 3) d_X10_findFits_29 rfl ?_
              refine wp_iaload (v := nI (rr)) d_X10_findFits_30 (hp_81 _ _ _ _ _) (kin rfl) hrp ?_
              refine wp_ncmp_ge (a := (i) + 1) (b := rr) 112 d_X10_findFits_31 rfl (by omega) (by omega) (fun zc31 => ?_) (fun zc31 => ?_)
              · refine wp_sub [(3, .int (0)), (2, .int (nI j + (-9))), (0, .ref (80)), (1, .int (bt))] [1, 3, 4, 5] rfl ?_
                exact kb_f hno ▸ K _ hB2
              · refine wp_iload_n 1 d_X10_findFits_34 rfl rfl ?_
                refine wp_if_eq 112 d_X10_findFits_35 rfl (fun _ => ?_) (fun z => absurd z (by decide))
                refine wp_sub [(3, .int (0)), (2, .int (nI j + (-9))), (0, .ref (80)), (1, .int (bt))] [1, 3, 4, 5] rfl ?_
                exact kb_f hno ▸ K _ hB2
            · refine wp_iconst (v0 := 1) d_X10_findFits_100 rfl ?_
              refine wp_goto 105 d_X10_findFits_101 rfl ?_
              refine wp_istore_n [(3, .int (1)), (5, .int ((m.2.1 81) ((53) + ((2) * (i))))), (4, .int (nI (i))), (2, .int (nI j + (-9))), (0, .ref (80)), (1, .int (bt))] d_X10_findFits_105 rfl (Nat.le_of_ble_eq_true rfl) rfl ?_
              refine wp_iinc (v0 := nI ((i) + 1)) [(4, .int (nI ((i) + 1))), (3, .int (1)), (5, .int ((m.2.1 81) ((53) + ((2) * (i))))), (2, .int (nI j + (-9))), (0, .ref (80)), (1, .int (bt))] 2 d_X10_findFits_106 rfl (nI_add (i) 1) (Nat.le_of_ble_eq_true rfl) rfl ?_
              refine wp_goto 23 d_X10_findFits_109 rfl ?_
              obtain ⟨k1, rfl⟩ : ∃ k1, k = k1 + 1 := ⟨k - 1, by omega⟩
              refine wp_sub [(4, .int (nI ((i) + 1))), (3, .int (1)), (2, .int (nI j + (-9))), (0, .ref (80)), (1, .int (bt))] [0, 1, 3, 4, 5] rfl ?_
              refine ih k1 (by omega) (i + 1) _ (by omega) hB2 (fun r9 h9 => ?_)
              rcases (by omega : r9 < i ∨ r9 = i) with e | e
              · exact hA r9 e
              · subst e
                refine Or.inr ⟨zc64, ?_⟩
                first
                  | exact ⟨fun _ => Classical.not_not.mp zc89, fun _ => kb_1.mp zc97⟩
                  | exact ⟨fun _ => zc89, fun _ => kb_1.mp zc97⟩
                  | exact ⟨fun z9 => absurd z9 (kb_0.mp zc97), fun z9 => absurd z9 zc89⟩
theorem s_X10_findFits_o {X : kX} {d : Nat} {c w m v : kZ} {E : kH} {cnt : Nat} (hs1 : (m.2.1 81) 1 = nI cnt) (hc8 : cnt ≤ 8) {en : Nat → Nat} (hm : mWF (m.2.1 81) cnt en) {n : Nat} (hn : m.2.1 81 0 = nI n) (hn9 : n ≤ 9) {p : Nat} (hp : m.2.1 81 2 = nI p) (hp4 : p ≤ 4) (hln : ∀ j, j < p → vp_in (mlp (m.2.1 81) j) n) {rr : Nat} (hrp : (m.2.1 81) 3 = nI rr) (hr6 : rr ≤ 6) (bt f0 l0 : Int32) : ∀ (k : Nat) (j : Nat) (v' : kZ), (j + k = 19) → (mBd (m.2.1 81) en cnt n f0 l0 (fun j => mall (m.2.1 81) en cnt p bt rr j) j v') → WP X (d + 9) 0 0 Y_X10_findFits 12 [(2, .int (nI j + (-9))), (0, .ref (80)), (1, .int (bt))] [] (HP c w m v' E) (fun r1 h1 => r1 = none ∧ ∃ v1 : kZ, h1 = HP c w m v1 E ∧ mBd (m.2.1 81) en cnt n f0 l0 (fun j => mall (m.2.1 81) en cnt p bt rr j) 19 v1) := by
  intro k
  induction k using Nat.strongRecOn with
  | ind k ih =>
    intro j v' hj hB
    refine wp_iload_n 0 d_X10_findFits_12 rfl rfl ?_
    refine wp_bipush (v0 := 10) d_X10_findFits_13 (by decide) ?_
    refine wp_icmp_ge 156 d_X10_findFits_15 rfl (fun zc15 => ?_) (fun zc15 => ?_)
    · refine wp_vret d_X10_findFits_156 rfl ?_
      have h9 := Int32.le_iff_toInt_le.mp zc15
      rw [keye j (by omega), show (10 : Int32).toInt = 10 from by decide] at h9
      obtain rfl : j = 19 := by omega
      exact ⟨rfl, v', rfl, hB⟩
    · have h9 := Int32.lt_iff_toInt_lt.mp (Int32.not_le.mp zc15)
      rw [keye j (by omega), show (10 : Int32).toInt = 10 from by decide] at h9
      refine wp_iconst (v0 := 1) d_X10_findFits_18 rfl ?_
      refine wp_istore_n [(3, .int (1)), (2, .int (nI j + (-9))), (0, .ref (80)), (1, .int (bt))] d_X10_findFits_19 rfl (Nat.le_of_ble_eq_true rfl) rfl ?_
      refine wp_iconst (v0 := 0) d_X10_findFits_20 rfl ?_
      refine wp_istore [(4, .int (0)), (3, .int (1)), (2, .int (nI j + (-9))), (0, .ref (80)), (1, .int (bt))] d_X10_findFits_21 (Nat.le_of_ble_eq_true rfl) rfl ?_
      refine wp_sub [(4, .int (0)), (3, .int (1)), (2, .int (nI j + (-9))), (0, .ref (80)), (1, .int (bt))] [0, 1, 2, 3, 4] rfl ?_
      refine s_X10_findFits_i (v := v) hs1 hc8 hm hn hn9 hp hp4 hln hrp hr6 bt f0 l0 (fun v2 hB2 => ?_) rr 0 v' (by omega) hB (fun r9 h9 => absurd h9 (by omega))
      obtain ⟨g1, g2, g3, g4⟩ := id hB2
      refine wp_iload_n 0 d_X10_findFits_112 rfl rfl ?_
      refine wp_ifb_eq 150 d_X10_findFits_113 rfl (fun zc113 => ?_) (fun zc113 => ?_)
      · refine wp_iinc (v0 := (nI j + (-9)) + (1)) [(2, .int ((nI j + (-9)) + (1))), (3, .int (kb (mall (m.2.1 81) en cnt p bt rr j))), (0, .ref (80)), (1, .int (bt))] 1 d_X10_findFits_150 rfl rfl (Nat.le_of_ble_eq_true rfl) rfl ?_
        refine wp_goto 12 d_X10_findFits_153 rfl ?_
        obtain ⟨k1, rfl⟩ : ∃ k1, k = k1 + 1 := ⟨k - 1, by omega⟩
        refine wp_sub [(2, .int ((nI j + (-9)) + (1))), (0, .ref (80)), (1, .int (bt))] [0, 2, 3] rfl ?_
        have e8 : nI j + (-9) + 1 = nI (j + 1) + (-9) := by rw [← nI_add j 1, Int32.add_assoc, Int32.add_assoc]; rfl
        rw [e8]
        refine ih k1 (by omega) (j + 1) _ (by omega) ⟨g1, ?_, ?_, ?_⟩
        · simp only [kcnt]; rw [if_neg zc113]; exact g2
        · simp only [mff]; rw [if_neg zc113]; exact g3
        · simp only [mfl]; rw [if_neg zc113]; exact g4
      · refine wp_aload_n 2 d_X10_findFits_116 rfl rfl ?_
        refine wp_aload_n 2 d_X10_findFits_117 rfl rfl ?_
        refine wp_getfield (v := .int (kcnt (fun j => mall (m.2.1 81) en cnt p bt rr j) j)) d_X10_findFits_118 gf_X10_235 (hp_80 _ _ _ _ _) (congrArg (fun z => some (Value.int z)) g2) ?_
        refine wp_if_ne 128 d_X10_findFits_121 rfl (fun zc121 => ?_) (fun zc121 => ?_)
        · refine wp_aload_n 2 d_X10_findFits_128 rfl rfl ?_
          refine wp_getfield (v := .int (mff f0 (fun j => mall (m.2.1 81) en cnt p bt rr j) j)) d_X10_findFits_129 gf_X10_241 (hp_80 _ _ _ _ _) (congrArg (fun z => some (Value.int z)) g3) ?_
          refine wp_putfield (h' := HP c w m (setS v2 8019 (mff f0 (fun j => mall (m.2.1 81) en cnt p bt rr j) j)) E) d_X10_findFits_132 gp_X10_241 (kfit_i _) (hp_80 _ _ _ _ _) (Nat.le_of_ble_eq_true rfl) (hps_80_19 _ _ _ _ _ _) ?_
          refine wp_aload_n 2 d_X10_findFits_135 rfl rfl ?_
          refine wp_iload_n 1 d_X10_findFits_136 rfl rfl ?_
          refine wp_putfield (h' := HP c w m (setS (setS v2 8019 (mff f0 (fun j => mall (m.2.1 81) en cnt p bt rr j) j)) 8020 (nI j + (-9))) E) d_X10_findFits_137 gp_X10_244 (kfit_i _) (hp_80 _ _ _ _ _) (Nat.le_of_ble_eq_true rfl) (hps_80_20 _ _ _ _ _ _) ?_
          refine wp_aload_n 2 d_X10_findFits_140 rfl rfl ?_
          refine wp_dup d_X10_findFits_141 rfl ?_
          refine wp_getfield (v := .int (kcnt (fun j => mall (m.2.1 81) en cnt p bt rr j) j)) d_X10_findFits_142 gf_X10_235 (hp_80 _ _ _ _ _) (congrArg (fun z => some (Value.int z)) g2) ?_
          refine wp_iconst (v0 := 1) d_X10_findFits_145 rfl ?_
          refine wp_iadd d_X10_findFits_146 ?_
          refine wp_putfield (h' := HP c w m (setS (setS (setS v2 8019 (mff f0 (fun j => mall (m.2.1 81) en cnt p bt rr j) j)) 8020 (nI j + (-9))) 8018 ((kcnt (fun j => mall (m.2.1 81) en cnt p bt rr j) j) + (1))) E) d_X10_findFits_147 gp_X10_235 (kfit_i _) (hp_80 _ _ _ _ _) (Nat.le_of_ble_eq_true rfl) (hps_80_18 _ _ _ _ _ _) ?_
          refine wp_iinc (v0 := (nI j + (-9)) + (1)) [(2, .int ((nI j + (-9)) + (1))), (3, .int (kb (mall (m.2.1 81) en cnt p bt rr j))), (0, .ref (80)), (1, .int (bt))] 1 d_X10_findFits_150 rfl rfl (Nat.le_of_ble_eq_true rfl) rfl ?_
          refine wp_goto 12 d_X10_findFits_153 rfl ?_
          obtain ⟨k1, rfl⟩ : ∃ k1, k = k1 + 1 := ⟨k - 1, by omega⟩
          refine wp_sub [(2, .int ((nI j + (-9)) + (1))), (0, .ref (80)), (1, .int (bt))] [0, 2, 3] rfl ?_
          have e8 : nI j + (-9) + 1 = nI (j + 1) + (-9) := by rw [← nI_add j 1, Int32.add_assoc, Int32.add_assoc]; rfl
          rw [e8]
          refine ih k1 (by omega) (j + 1) _ (by omega) ⟨g1, ?_, ?_, ?_⟩
          · simp only [kcnt]; rw [if_pos zc113]; rfl
          · simp only [mff]; rw [if_pos zc113]; first | (rw [if_neg zc121]; rfl) | (rw [if_pos zc121]; rfl)
          · simp only [mfl]; rw [if_pos zc113]; rfl
        · refine wp_iload_n 1 d_X10_findFits_124 rfl rfl ?_
          refine wp_goto 132 d_X10_findFits_125 rfl ?_
          refine wp_putfield (h' := HP c w m (setS v2 8019 (nI j + (-9))) E) d_X10_findFits_132 gp_X10_241 (kfit_i _) (hp_80 _ _ _ _ _) (Nat.le_of_ble_eq_true rfl) (hps_80_19 _ _ _ _ _ _) ?_
          refine wp_aload_n 2 d_X10_findFits_135 rfl rfl ?_
          refine wp_iload_n 1 d_X10_findFits_136 rfl rfl ?_
          refine wp_putfield (h' := HP c w m (setS (setS v2 8019 (nI j + (-9))) 8020 (nI j + (-9))) E) d_X10_findFits_137 gp_X10_244 (kfit_i _) (hp_80 _ _ _ _ _) (Nat.le_of_ble_eq_true rfl) (hps_80_20 _ _ _ _ _ _) ?_
          refine wp_aload_n 2 d_X10_findFits_140 rfl rfl ?_
          refine wp_dup d_X10_findFits_141 rfl ?_
          refine wp_getfield (v := .int (kcnt (fun j => mall (m.2.1 81) en cnt p bt rr j) j)) d_X10_findFits_142 gf_X10_235 (hp_80 _ _ _ _ _) (congrArg (fun z => some (Value.int z)) g2) ?_
          refine wp_iconst (v0 := 1) d_X10_findFits_145 rfl ?_
          refine wp_iadd d_X10_findFits_146 ?_
          refine wp_putfield (h' := HP c w m (setS (setS (setS v2 8019 (nI j + (-9))) 8020 (nI j + (-9))) 8018 ((kcnt (fun j => mall (m.2.1 81) en cnt p bt rr j) j) + (1))) E) d_X10_findFits_147 gp_X10_235 (kfit_i _) (hp_80 _ _ _ _ _) (Nat.le_of_ble_eq_true rfl) (hps_80_18 _ _ _ _ _ _) ?_
          refine wp_iinc (v0 := (nI j + (-9)) + (1)) [(2, .int ((nI j + (-9)) + (1))), (3, .int (kb (mall (m.2.1 81) en cnt p bt rr j))), (0, .ref (80)), (1, .int (bt))] 1 d_X10_findFits_150 rfl rfl (Nat.le_of_ble_eq_true rfl) rfl ?_
          refine wp_goto 12 d_X10_findFits_153 rfl ?_
          obtain ⟨k1, rfl⟩ : ∃ k1, k = k1 + 1 := ⟨k - 1, by omega⟩
          refine wp_sub [(2, .int ((nI j + (-9)) + (1))), (0, .ref (80)), (1, .int (bt))] [0, 2, 3] rfl ?_
          have e8 : nI j + (-9) + 1 = nI (j + 1) + (-9) := by rw [← nI_add j 1, Int32.add_assoc, Int32.add_assoc]; rfl
          rw [e8]
          refine ih k1 (by omega) (j + 1) _ (by omega) ⟨g1, ?_, ?_, ?_⟩
          · simp only [kcnt]; rw [if_pos zc113]; rfl
          · simp only [mff]; rw [if_pos zc113]; first | (rw [if_neg zc121]; rfl) | (rw [if_pos zc121]; rfl)
          · simp only [mfl]; rw [if_pos zc113]; rfl
theorem s_X10_findFits {X : kX} {d : Nat} {c w m v : kZ} {E : kH} {cnt : Nat} (hs1 : (m.2.1 81) 1 = nI cnt) (hc8 : cnt ≤ 8) {en : Nat → Nat} (hm : mWF (m.2.1 81) cnt en) {n : Nat} (hn : m.2.1 81 0 = nI n) (hn9 : n ≤ 9) {p : Nat} (hp : m.2.1 81 2 = nI p) (hp4 : p ≤ 4) (hln : ∀ j, j < p → vp_in (mlp (m.2.1 81) j) n) {rr : Nat} (hrp : (m.2.1 81) 3 = nI rr) (hr6 : rr ≤ 6) (bt : Int32) : WP X (d + 9) 0 0 Y_X10_findFits 0 [(0, .ref (80)), (1, .int (bt))] [] (HP c w m v E) (fun r1 h1 => r1 = none ∧ ∃ v1 : kZ, h1 = HP c w m v1 E ∧ ∃ f0 l0 : Int32, mBd (m.2.1 81) en cnt n f0 l0 (fun j => mall (m.2.1 81) en cnt p bt rr j) 19 v1) := by
  refine wp_aload_n 0 d_X10_findFits_0 rfl rfl ?_
  refine wp_virtual0 (As := []) d_X10_findFits_1 lk_X10_166 mv_X10_layTube in_X10_layTube se_X10_layTube (Nat.le_of_ble_eq_true rfl) (Nat.le_of_ble_eq_true rfl) (hp_80 _ _ _ _ _) rfl (s_X10_layTube hs1 hc8 hm hn hn9 hp hp4 hln) (fun v1 h1 q1 => ?_)
  obtain ⟨rfl, v1, rfl, hf1, hst1, hl1⟩ := q1
  show WP _ _ _ _ _ 4 _ [] (HP c w m v1 E) _
  refine wp_aload_n 0 d_X10_findFits_4 rfl rfl ?_
  refine wp_iconst (v0 := 0) d_X10_findFits_5 rfl ?_
  refine wp_putfield (h' := HP c w m (setS v1 8018 (0)) E) d_X10_findFits_6 gp_X10_235 (kfit_i _) (hp_80 _ _ _ _ _) (Nat.le_of_ble_eq_true rfl) (hps_80_18 _ _ _ _ _ _) ?_
  refine wp_bipush (v0 := -9) d_X10_findFits_9 (by decide) ?_
  refine wp_istore_n [(2, .int ((-9))), (0, .ref (80)), (1, .int (bt))] d_X10_findFits_11 rfl (Nat.le_of_ble_eq_true rfl) rfl ?_
  refine wp_sub [(2, .int ((-9))), (0, .ref (80)), (1, .int (bt))] [0, 1, 2] rfl ?_
  have L := s_X10_findFits_o (X := X) (d := d) (c := c) (w := w) (m := m) (v := v) (E := E) hs1 hc8 hm hn hn9 hp hp4 hln hrp hr6 bt (v1.1 8019) (v1.1 8020) 19 0 (setS v1 8018 0) (by omega) ⟨hst1, rfl, rfl, rfl⟩
  rw [show nI 0 + (-9) = (-9 : Int32) by decide] at L
  refine wp_mono ?_ L
  rintro r1 h1 ⟨rfl, v2, rfl, h2⟩
  exact ⟨rfl, v2, rfl, _, _, h2⟩
theorem s_X10_span {X : kX} {d : Nat} {c w m v : kZ} {E : kH} {cnt : Nat} (hs1 : (m.2.1 81) 1 = nI cnt) (hc8 : cnt ≤ 8) {en : Nat → Nat} (hm : mWF (m.2.1 81) cnt en) {n : Nat} (hn : m.2.1 81 0 = nI n) (hn9 : n ≤ 9) {p : Nat} (hp : m.2.1 81 2 = nI p) (hp4 : p ≤ 4) (hln : ∀ j, j < p → vp_in (mlp (m.2.1 81) j) n) {rr : Nat} (hrp : (m.2.1 81) 3 = nI rr) (hr6 : rr ≤ 6) (x : Int32) : WP X (d + 10) 0 0 Y_X10_span 0 [(0, .ref (80)), (1, .int (x))] [] (HP c w m v E) (fun r1 h1 => (¬ (0 ≤ x.toInt ∧ x.toInt ≤ 2) ∧ r1 = some (.int (-1)) ∧ h1 = HP c w m v E) ∨ ((0 ≤ x.toInt ∧ x.toInt ≤ 2) ∧ ∃ f0 l0 : Int32, r1 = some (.int (if x = 0 then kcnt (fun j => mall (m.2.1 81) en cnt p (-1) rr j) 19 else if kcnt (fun j => mall (m.2.1 81) en cnt p (-1) rr j) 19 = 0 then -3 else 10 + (if x = 1 then mff f0 (fun j => mall (m.2.1 81) en cnt p (-1) rr j) 19 else mfl l0 (fun j => mall (m.2.1 81) en cnt p (-1) rr j) 19))) ∧ ∃ v1 : kZ, h1 = HP c w m v1 E)) := by
  refine wp_iload_n 1 d_X10_span_0 rfl rfl ?_
  refine wp_i2l d_X10_span_1 ?_
  refine wp_lconst (v0 := 0) d_X10_span_2 rfl ?_
  refine wp_ldc2 (v0 := 2) d_X10_span_3 cl_X10_247 ?_
  refine wp_stc_i (As := [.long (Int32.toInt64 (x)), .long (0), .long (2)]) (x0 := kb (0 ≤ (x : Int32).toInt ∧ (x : Int32).toInt ≤ 2)) (h1 := HP c w m v E) d_X10_span_6 lk_X10_74 mv_X10_in st_X10_in (Nat.le_of_ble_eq_true rfl) (Nat.le_of_ble_eq_true rfl) (s_X10_in_i _ (x) (0) (2)) ?_
  refine wp_ifb_ne 14 d_X10_span_9 rfl (fun zc9 => ?_) (fun zc9 => ?_)
  · refine wp_aload_n 0 d_X10_span_14 rfl rfl ?_
    refine wp_iconst (v0 := -1) d_X10_span_15 rfl ?_
    refine wp_virtual0 (As := [.int ((-1))]) d_X10_span_16 lk_X10_249 mv_X10_findFits in_X10_findFits se_X10_findFits (Nat.le_of_ble_eq_true rfl) (Nat.le_of_ble_eq_true rfl) (hp_80 _ _ _ _ _) rfl (s_X10_findFits hs1 hc8 hm hn hn9 hp hp4 hln hrp hr6 ((-1))) (fun v16 h16 q16 => ?_)
    obtain ⟨rfl, v1, rfl, f0, l0, g1, g2, g3, g4⟩ := q16
    have g5 : v1.1 8018 = kcnt (fun j => mall (m.2.1 81) en cnt p ((-1)) rr j) 19 := g2
    show WP _ _ _ _ _ 19 _ [] (HP c w m v1 E) _
    refine wp_iload_n 1 d_X10_span_19 rfl rfl ?_
    refine wp_if_ne 30 d_X10_span_20 rfl (fun zc20 => ?_) (fun zc20 => ?_)
    · refine wp_aload_n 0 d_X10_span_30 rfl rfl ?_
      refine wp_getfield (v := .int (kcnt (fun j => mall (m.2.1 81) en cnt p (-1) rr j) 19)) d_X10_span_31 gf_X10_235 (hp_80 _ _ _ _ _) (congrArg (fun z => some (Value.int z)) g2) ?_
      refine wp_if_ne 42 d_X10_span_34 rfl (fun zc34 => ?_) (fun zc34 => ?_)
      · refine wp_bipush (v0 := 10) d_X10_span_42 (by decide) ?_
        refine wp_iload_n 1 d_X10_span_44 rfl rfl ?_
        refine wp_iconst (v0 := 1) d_X10_span_45 rfl ?_
        refine wp_icmp_ne 56 d_X10_span_46 rfl (fun zc46 => ?_) (fun zc46 => ?_)
        · refine wp_aload_n 0 d_X10_span_56 rfl rfl ?_
          refine wp_getfield (v := .int (mfl l0 (fun j => mall (m.2.1 81) en cnt p (-1) rr j) 19)) d_X10_span_57 gf_X10_244 (hp_80 _ _ _ _ _) (congrArg (fun z => some (Value.int z)) g4) ?_
          refine wp_iadd d_X10_span_60 ?_
          refine wp_reti d_X10_span_61 rfl ?_
          refine Or.inr ⟨zc9, f0, l0, congrArg (fun z => some (Value.int z)) ?_, v1, rfl⟩
          rw [if_neg zc20, if_neg zc34, if_neg zc46]
        · refine wp_aload_n 0 d_X10_span_49 rfl rfl ?_
          refine wp_getfield (v := .int (mff f0 (fun j => mall (m.2.1 81) en cnt p (-1) rr j) 19)) d_X10_span_50 gf_X10_241 (hp_80 _ _ _ _ _) (congrArg (fun z => some (Value.int z)) g3) ?_
          refine wp_goto 60 d_X10_span_53 rfl ?_
          refine wp_iadd d_X10_span_60 ?_
          refine wp_reti d_X10_span_61 rfl ?_
          refine Or.inr ⟨zc9, f0, l0, congrArg (fun z => some (Value.int z)) ?_, v1, rfl⟩
          rw [if_neg zc20, if_neg zc34, if_pos zc46]
      · refine wp_bipush (v0 := -3) d_X10_span_37 (by decide) ?_
        refine wp_goto 61 d_X10_span_39 rfl ?_
        refine wp_reti d_X10_span_61 rfl ?_
        refine Or.inr ⟨zc9, f0, l0, congrArg (fun z => some (Value.int z)) ?_, v1, rfl⟩
        rw [if_neg zc20, if_pos zc34]
    · refine wp_aload_n 0 d_X10_span_23 rfl rfl ?_
      refine wp_getfield (v := .int (kcnt (fun j => mall (m.2.1 81) en cnt p (-1) rr j) 19)) d_X10_span_24 gf_X10_235 (hp_80 _ _ _ _ _) (congrArg (fun z => some (Value.int z)) g2) ?_
      refine wp_goto 61 d_X10_span_27 rfl ?_
      refine wp_reti d_X10_span_61 rfl ?_
      refine Or.inr ⟨zc9, f0, l0, congrArg (fun z => some (Value.int z)) ?_, v1, rfl⟩
      rw [if_pos zc20]
  · refine wp_iconst (v0 := -1) d_X10_span_12 rfl ?_
    refine wp_reti d_X10_span_13 rfl ?_
    exact Or.inl ⟨zc9, rfl, rfl⟩
def mli (P : Int32 → Nat → Prop) [∀ x, DecidablePred (P x)] : Nat → Nat → Int32
  | 0, _ => -3
  | k + 1, i => if 0 < kcnt (P (nI i)) 19 then nI i else mli P k (i + 1)
theorem s_X10_liar_l {X : kX} {d : Nat} {c w m v : kZ} {E : kH} {cnt : Nat} (hs1 : (m.2.1 81) 1 = nI cnt) (hc8 : cnt ≤ 8) {en : Nat → Nat} (hm : mWF (m.2.1 81) cnt en) {n : Nat} (hn : m.2.1 81 0 = nI n) (hn9 : n ≤ 9) {p : Nat} (hp : m.2.1 81 2 = nI p) (hp4 : p ≤ 4) (hln : ∀ j, j < p → vp_in (mlp (m.2.1 81) j) n) {rr : Nat} (hrp : (m.2.1 81) 3 = nI rr) (hr6 : rr ≤ 6) : ∀ (k : Nat) (i : Nat) (v' : kZ), (i + k = rr) → WP X (d + 10) 0 0 Y_X10_liar 20 [(2, .int (nI (i))), (1, .int (1)), (0, .ref (80))] [] (HP c w m v' E) (fun r1 h1 => r1 = some (.int (mli (fun x j => mall (m.2.1 81) en cnt p x rr j) k i)) ∧ ∃ v1 : kZ, h1 = HP c w m v1 E) := by
  intro k
  induction k using Nat.strongRecOn with
  | ind k ih =>
    intro i v' hi
    refine wp_iload_n 0 d_X10_liar_20 rfl rfl ?_
    refine wp_aload_n 2 d_X10_liar_21 rfl rfl ?_
    refine wp_getfield (v := .ref (81)) d_X10_liar_22 gf_X10_7 (hp_80 _ _ _ _ _) rfl ?_
    refine wp_iconst (v0 := 3) d_X10_liar_25 rfl ?_
    refine wp_iaload (v := nI (rr)) d_X10_liar_26 (hp_81 _ _ _ _ _) (kin rfl) hrp ?_
    refine wp_ncmp_ge (a := i) (b := rr) 54 d_X10_liar_27 rfl (by omega) (by omega) (fun zc27 => ?_) (fun zc27 => ?_)
    · refine wp_bipush (v0 := -3) d_X10_liar_54 (by decide) ?_
      refine wp_reti d_X10_liar_56 rfl ?_
      obtain rfl : k = 0 := by omega
      exact ⟨rfl, v', rfl⟩
    · refine wp_iload_n 1 d_X10_liar_30 rfl rfl ?_
      refine wp_if_eq 54 d_X10_liar_31 rfl (fun z => absurd z (by decide)) (fun _ => ?_)
      refine wp_aload_n 2 d_X10_liar_34 rfl rfl ?_
      refine wp_iload_n 0 d_X10_liar_35 rfl rfl ?_
      refine wp_virtual0 (As := [.int (nI (i))]) d_X10_liar_36 lk_X10_249 mv_X10_findFits in_X10_findFits se_X10_findFits (Nat.le_of_ble_eq_true rfl) (Nat.le_of_ble_eq_true rfl) (hp_80 _ _ _ _ _) rfl (s_X10_findFits hs1 hc8 hm hn hn9 hp hp4 hln hrp hr6 (nI (i))) (fun v36 h36 q36 => ?_)
      obtain ⟨rfl, v1, rfl, f0, l0, g1, g2, g3, g4⟩ := q36
      have g5 : v1.1 8018 = kcnt (fun j => mall (m.2.1 81) en cnt p (nI (i)) rr j) 19 := g2
      show WP _ _ _ _ _ 39 _ [] (HP c w m v1 E) _
      refine wp_aload_n 2 d_X10_liar_39 rfl rfl ?_
      refine wp_getfield (v := .int (kcnt (fun j => mall (m.2.1 81) en cnt p (nI i) rr j) 19)) d_X10_liar_40 gf_X10_235 (hp_80 _ _ _ _ _) (congrArg (fun z => some (Value.int z)) g2) ?_
      refine wp_if_le 48 d_X10_liar_43 rfl (fun zc43 => ?_) (fun zc43 => ?_)
      · refine wp_iinc (v0 := nI ((i) + 1)) [(2, .int (nI ((i) + 1))), (1, .int (1)), (0, .ref (80))] 0 d_X10_liar_48 rfl (nI_add (i) 1) (Nat.le_of_ble_eq_true rfl) rfl ?_
        refine wp_goto 20 d_X10_liar_51 rfl ?_
        obtain ⟨k1, rfl⟩ : ∃ k1, k = k1 + 1 := ⟨k - 1, by omega⟩
        refine wp_sub [(2, .int (nI ((i) + 1))), (1, .int (1)), (0, .ref (80))] [0, 1, 2] rfl ?_
        have L := ih k1 (by omega) (i + 1) v1 (by omega)
        refine wp_mono ?_ L
        rintro r1 h1 ⟨rfl, h2⟩
        refine ⟨congrArg (fun z => some (Value.int z)) ?_, h2⟩
        simp only [mli]
        rw [if_neg (Int32.not_lt.mpr zc43)]
      · refine wp_iload_n 0 d_X10_liar_46 rfl rfl ?_
        refine wp_reti d_X10_liar_47 rfl ?_
        obtain ⟨k1, rfl⟩ : ∃ k1, k = k1 + 1 := ⟨k - 1, by omega⟩
        refine ⟨congrArg (fun z => some (Value.int z)) ?_, v1, rfl⟩
        simp only [mli]
        rw [if_pos (Int32.not_le.mp zc43)]
theorem s_X10_liar {X : kX} {d : Nat} {c w m v : kZ} {E : kH} {cnt : Nat} (hs1 : (m.2.1 81) 1 = nI cnt) (hc8 : cnt ≤ 8) {en : Nat → Nat} (hm : mWF (m.2.1 81) cnt en) {n : Nat} (hn : m.2.1 81 0 = nI n) (hn9 : n ≤ 9) {p : Nat} (hp : m.2.1 81 2 = nI p) (hp4 : p ≤ 4) (hln : ∀ j, j < p → vp_in (mlp (m.2.1 81) j) n) {rr : Nat} (hrp : (m.2.1 81) 3 = nI rr) (hr6 : rr ≤ 6) : WP X (d + 10) 0 0 Y_X10_liar 0 [(0, .ref (80))] [] (HP c w m v E) (fun r1 h1 => r1 = some (.int (if kcnt (fun j => mall (m.2.1 81) en cnt p (-1) rr j) 19 = 0 then mli (fun x j => mall (m.2.1 81) en cnt p x rr j) rr 0 else -3)) ∧ ∃ v1 : kZ, h1 = HP c w m v1 E) := by
  refine wp_aload_n 0 d_X10_liar_0 rfl rfl ?_
  refine wp_iconst (v0 := -1) d_X10_liar_1 rfl ?_
  refine wp_virtual0 (As := [.int ((-1))]) d_X10_liar_2 lk_X10_249 mv_X10_findFits in_X10_findFits se_X10_findFits (Nat.le_of_ble_eq_true rfl) (Nat.le_of_ble_eq_true rfl) (hp_80 _ _ _ _ _) rfl (s_X10_findFits hs1 hc8 hm hn hn9 hp hp4 hln hrp hr6 ((-1))) (fun v2 h2 q2 => ?_)
  obtain ⟨rfl, v1, rfl, f0, l0, g1, g2, g3, g4⟩ := q2
  have g5 : v1.1 8018 = kcnt (fun j => mall (m.2.1 81) en cnt p ((-1)) rr j) 19 := g2
  show WP _ _ _ _ _ 5 _ [] (HP c w m v1 E) _
  refine wp_aload_n 0 d_X10_liar_5 rfl rfl ?_
  refine wp_getfield (v := .int (kcnt (fun j => mall (m.2.1 81) en cnt p (-1) rr j) 19)) d_X10_liar_6 gf_X10_235 (hp_80 _ _ _ _ _) (congrArg (fun z => some (Value.int z)) g2) ?_
  refine wp_if_ne 16 d_X10_liar_9 rfl (fun zc9 => ?_) (fun zc9 => ?_)
  · refine wp_iconst (v0 := 0) d_X10_liar_16 rfl ?_
    refine wp_istore_n [(1, .int (0)), (0, .ref (80))] d_X10_liar_17 rfl (Nat.le_of_ble_eq_true rfl) rfl ?_
    refine wp_iconst (v0 := 0) d_X10_liar_18 rfl ?_
    refine wp_istore_n [(2, .int (0)), (1, .int (0)), (0, .ref (80))] d_X10_liar_19 rfl (Nat.le_of_ble_eq_true rfl) rfl ?_
    refine wp_iload_n 0 d_X10_liar_20 rfl rfl ?_
    refine wp_aload_n 2 d_X10_liar_21 rfl rfl ?_
    refine wp_getfield (v := .ref (81)) d_X10_liar_22 gf_X10_7 (hp_80 _ _ _ _ _) rfl ?_
    refine wp_iconst (v0 := 3) d_X10_liar_25 rfl ?_
    refine wp_iaload (v := nI (rr)) d_X10_liar_26 (hp_81 _ _ _ _ _) (kin rfl) hrp ?_
    refine wp_ncmp_ge (a := 0) (b := rr) 54 d_X10_liar_27 rfl (by omega) (by omega) (fun zc27 => ?_) (fun zc27 => ?_)
    · refine wp_bipush (v0 := -3) d_X10_liar_54 (by decide) ?_
      refine wp_reti d_X10_liar_56 rfl ?_
      exact ⟨by rw [if_neg zc9], v1, rfl⟩
    · refine wp_iload_n 1 d_X10_liar_30 rfl rfl ?_
      refine wp_if_eq 54 d_X10_liar_31 rfl (fun _ => ?_) (fun z => absurd z (by decide))
      refine wp_bipush (v0 := -3) d_X10_liar_54 (by decide) ?_
      refine wp_reti d_X10_liar_56 rfl ?_
      exact ⟨by rw [if_neg zc9], v1, rfl⟩
  · refine wp_iconst (v0 := 1) d_X10_liar_12 rfl ?_
    refine wp_goto 17 d_X10_liar_13 rfl ?_
    refine wp_istore_n [(1, .int (1)), (0, .ref (80))] d_X10_liar_17 rfl (Nat.le_of_ble_eq_true rfl) rfl ?_
    refine wp_iconst (v0 := 0) d_X10_liar_18 rfl ?_
    refine wp_istore_n [(2, .int (0)), (1, .int (1)), (0, .ref (80))] d_X10_liar_19 rfl (Nat.le_of_ble_eq_true rfl) rfl ?_
    refine wp_sub [(2, .int (0)), (1, .int (1)), (0, .ref (80))] [0, 1, 2] rfl ?_
    refine wp_mono ?_ (s_X10_liar_l (v := v) hs1 hc8 hm hn hn9 hp hp4 hln hrp hr6 rr 0 v1 (by omega))
    rintro r1 h1 ⟨rfl, h2⟩
    exact ⟨by rw [if_pos zc9], h2⟩
