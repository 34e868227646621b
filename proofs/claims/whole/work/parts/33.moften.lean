/-! ===== the reference: often ===== -/
theorem gA (m : kZ) (f : Nat → Int32) : (setA m 81 f).2.1 81 = f := rfl
def mdr (s : Nat → Int32) (p : Nat) : Nat → Int32 := upd (upd s 8 (kdz (s 8))) (45 + 2 * (kz16 (kdz (s 8)) % p) + 1) (kq3 ((upd s 8 (kdz (s 8))) (45 + 2 * (kz16 (kdz (s 8)) % p) + 1)))
theorem s_X10_draw_k {X : kX} {d : Nat} {c w m v : kZ} {E : kH} {p : Nat} (hp : m.2.1 81 2 = nI p) (hp4 : p ≤ 4) : WP X d 0 0 Y_X10_draw 0 [(0, .ref (80))] [] (HP c w m v E) (fun r h1 => (p = 0 ∧ r = some (.int (-3)) ∧ h1 = HP c w m v E) ∨ (0 < p ∧ ∃ q : Nat, r = some (.int (nI q)) ∧ q < p ∧ h1 = HP c w (setA m 81 (mdr (m.2.1 81) p)) v E)) := by
  refine wp_mono ?_ (s_X10_draw hp hp4)
  rintro r h1 (h | ⟨h0, rfl, rfl⟩)
  · exact Or.inl h
  · exact Or.inr ⟨h0, _, rfl, Nat.mod_lt _ h0, rfl⟩
/-- but for the seed and the turns -/
def mAg (s s' : Nat → Int32) : Prop := ∀ k, k ≠ 8 → (k < 45 ∨ 52 < k ∨ k % 2 = 1) → s' k = s k
theorem mdr_ag {s s' : Nat → Int32} {p : Nat} (h : mAg s s') (hp4 : p ≤ 4) (hp0 : 0 < p) : mAg s (mdr s' p) := by
  intro k h8 hk
  have hq : kz16 (kdz (s' 8)) % p < p := Nat.mod_lt _ hp0
  unfold mdr
  rw [upd_n _ _ (by omega), upd_n _ _ h8]
  exact h k h8 hk
theorem mdr_8 {s' : Nat → Int32} {p : Nat} {z : Int32} (hz : s' 8 = z) (hp0 : 0 < p) (hp4 : p ≤ 4) : mdr s' p 8 = kdz z := by
  have hq : kz16 (kdz (s' 8)) % p < p := Nat.mod_lt _ hp0
  unfold mdr
  rw [upd_n _ _ (by omega), upd_s, hz]
theorem mdr_t {s' tn : Nat → Int32} {p : Nat} {z : Int32} (hz : s' 8 = z) (ht : ∀ j, j < p → s' (45 + 2 * j + 1) = tn j) (hp0 : 0 < p) (hp4 : p ≤ 4) : ∀ j, j < p → mdr s' p (45 + 2 * j + 1) = kdt kq3 p z tn j := by
  intro j hj
  have hq : kz16 (kdz (s' 8)) % p < p := Nat.mod_lt _ hp0
  unfold mdr kdt
  rw [hz] at hq ⊢
  by_cases e : j = kz16 (kdz z) % p
  · rw [← e, upd_s, upd_s, upd_n _ _ (by omega), ht j hj]
  · rw [upd_n _ _ (by omega), upd_n _ _ (by omega), upd_n _ _ e, ht j hj]
theorem wp_nif_lep {X : kX} {d mc ms : Nat} {y : kM} {pc : Nat} {ls : List (Nat × Value)} {st : List Value} {h : kH} {Q : Option Value → kH → Prop} {a : Nat} {off : Int} (tgt : Nat) (hd : decode y.2.1 pc = .ok (.ifCond .le off, 3)) (ht : (pc : Int) + off = (tgt : Int)) (ha : a < 2 ^ 31) (h0 : 0 < a) (k : WP X d mc ms y (pc + 3) ls st h Q) : WP X d mc ms y pc ls (.int (nI a) :: st) h Q := wp_if_le tgt hd ht (fun z => absurd z (by
  intro q
  have q1 := Int32.le_iff_toInt_le.mp q
  rw [nI_toInt ha, show (0 : Int32).toInt = 0 from by decide] at q1
  omega)) (fun _ => k)
abbrev mofM (s : Nat → Int32) (en : Nat → Nat) (cnt p : Nat) (tn : Nat → Int32) : Prop := mwr (s 5) (s 6) (ktub (-9) 0 (fun l => mstr s en cnt l) (mtl s) (mlp s) tn p) ≤ s 7
theorem s_X10_often_l {X : kX} {d : Nat} {c w m v : kZ} {E : kH} {cnt : Nat} (hs1 : (m.2.1 81) 1 = nI cnt) (hc8 : cnt ≤ 8) {en : Nat → Nat} (hm : mWF (m.2.1 81) cnt en) {n : Nat} (hn : m.2.1 81 0 = nI n) (hn9 : n ≤ 9) {p : Nat} (hp : m.2.1 81 2 = nI p) (hp4 : p ≤ 4) (hln : ∀ j, j < p → vp_in (mlp (m.2.1 81) j) n) (hp0 : 0 < p) {N : Nat} (hN : N ≤ 60) (f83 : Nat → Int32) : ∀ (k : Nat) (i : Nat) (s1 : Nat → Int32) (v' : kZ) (z : Int32) (tn : Nat → Int32) (sm : Int32), (i + k = N) → (mFr 83 87 v v') → (v'.2.1 83 = kov f83 (m.2.1 81) 300) → (mSt (m.2.1 81) en cnt n v') → (mAg (m.2.1 81) s1) → (s1 8 = z) → (∀ j, j < p → s1 (45 + 2 * j + 1) = tn j) → WP X (d + 7) 0 0 Y_X10_often 26 [(3, .int (nI (i))), (2, .int (sm)), (0, .ref (80)), (1, .int (nI (N)))] [] (HP c w (setA m 81 (s1)) v' E) (fun r1 h1 => r1 = some (.int (kof kq3 (mofM (m.2.1 81) en cnt p) p k z tn sm)) ∧ ∃ v1 : kZ, h1 = HP c w m v1 E ∧ mFr 83 87 v v1) := by
  intro k
  induction k using Nat.strongRecOn with
  | ind k ih =>
    intro i s1 v' z tn sm hi hf h83 hS hAg hz htn
    refine wp_iload_n 0 d_X10_often_26 rfl rfl ?_
    refine wp_iload_n 3 d_X10_often_27 rfl rfl ?_
    refine wp_ncmp_ge (a := i) (b := N) 71 d_X10_often_28 rfl (by omega) (by omega) (fun c28 => ?_) (fun c28 => ?_)
    · refine wp_aload_n 2 d_X10_often_71 rfl rfl ?_
      refine wp_vrt_v (As := []) (h1 := HP c w (setA (setA m 81 (s1)) 81 (kov (s1) (v'.2.1 83) 300)) v' E) d_X10_often_72 lk_X10_261 mv_X10_putsBack in_X10_putsBack se_X10_putsBack (Nat.le_of_ble_eq_true rfl) (Nat.le_of_ble_eq_true rfl) (hp_80 _ _ _ _ _) rfl (s_X10_putsBack (m := (setA m 81 (s1))) (v := v')) ?_
      have hbk : setA (setA m 81 (s1)) 81 (kov (s1) (v'.2.1 83) 300) = m := by
        rw [setA_idem, h83]
        have e1 : kov s1 (kov f83 (m.2.1 81) 300) 300 = m.2.1 81 := by
          funext j
          simp only [kov]
          split
          · rfl
          · exact hAg j (by omega) (by omega)
        rw [e1, setA_self]
      rw [hbk]
      refine wp_iload_n 1 d_X10_often_75 rfl rfl ?_
      refine wp_reti d_X10_often_76 rfl ?_
      obtain rfl : k = 0 := by omega
      exact ⟨rfl, v', rfl, hf⟩
    · refine wp_aload_n 2 d_X10_often_31 rfl rfl ?_
      refine wp_getfield (v := .ref (81)) d_X10_often_32 gf_X10_7 (hp_80 _ _ _ _ _) rfl ?_
      refine wp_iconst (v0 := 2) d_X10_often_35 rfl ?_
      refine wp_iaload (v := nI (p)) d_X10_often_36 (hp_81 _ _ _ _ _) (kin rfl) ((hAg 2 (by decide) (by decide)).trans hp) ?_
      refine wp_nif_lep (a := p) 71 d_X10_often_37 rfl (by omega) (by omega) ?_
      refine wp_aload_n 2 d_X10_often_40 rfl rfl ?_
      refine wp_virtual0 (As := []) d_X10_often_41 lk_X10_258 mv_X10_draw in_X10_draw se_X10_draw (Nat.le_of_ble_eq_true rfl) (Nat.le_of_ble_eq_true rfl) (hp_80 _ _ _ _ _) rfl (s_X10_draw_k (m := (setA m 81 (s1))) (p := p) ((hAg 2 (by decide) (by decide)).trans hp) hp4) (fun v41 h41 q41 => ?_)
      rcases q41 with ⟨h0, -, -⟩ | ⟨-, q9, rfl, hq9, rfl⟩
      · exact absurd h0 (by omega)
      refine wp_h (h' := HP c w (setA m 81 (mdr s1 p)) v' E) (by rw [setA_idem]; rfl) ?_
      have hA2 := mdr_ag hAg hp4 hp0
      have hz2 := mdr_8 hz hp0 hp4
      have ht2 := mdr_t hz htn hp0 hp4
      generalize mdr s1 p = s2 at hA2 hz2 ht2 ⊢
      show WP _ _ _ _ _ 44 _ [.int (nI (q9))] (HP c w (setA m 81 (s2)) v' E) _
      refine wp_istore [(4, .int (nI (q9))), (3, .int (nI (i))), (2, .int (sm)), (0, .ref (80)), (1, .int (nI (N)))] d_X10_often_44 (Nat.le_of_ble_eq_true rfl) rfl ?_
      refine wp_aload_n 3 d_X10_often_46 rfl rfl ?_
      refine wp_virtual0 (As := []) d_X10_often_47 lk_X10_132 mv_X10_layPlaces in_X10_layPlaces se_X10_layPlaces (Nat.le_of_ble_eq_true rfl) (Nat.le_of_ble_eq_true rfl) (hp_80 _ _ _ _ _) rfl (s_X10_layPlaces_t (m := (setA m 81 (s2))) (v := v') (n := n) (p := p) ((congrFun (gA m s2) 0).trans ((hA2 0 (by decide) (by decide)).trans hn)) hn9 ((congrFun (gA m s2) 2).trans ((hA2 2 (by decide) (by decide)).trans hp)) hp4 (fun j hj => by have e9 : mlp ((setA m 81 s2).2.1 81) j = s2 (45 + 2 * j) := congrFun (gA m s2) (45 + 2 * j); rw [e9, hA2 _ (by omega) (by omega)]; exact hln j hj) hS) (fun v47 h47 q47 => ?_)
      obtain ⟨rfl, v2, rfl, hf2, hl2⟩ := q47
      have e2 : (setA m 81 (s2)).2.1 81 = s2 := gA m s2
      rw [e2] at hl2
      rw [ktub_congr2 (n := n) (st' := fun l => mstr (m.2.1 81) en cnt l) (tl' := mtl (m.2.1 81)) (ln' := mlp (m.2.1 81)) (tn' := kdt kq3 p z tn) (fun _ _ => rfl) (fun l hl => hA2 _ (by omega) (by omega)) hln (fun j hj => hA2 _ (by omega) (by omega)) ht2] at hl2
      have e5 : (setA m 81 (s2)).2.1 81 5 = (m.2.1 81) 5 := (congrFun (gA m s2) 5).trans (hA2 5 (by decide) (by decide))
      have e6 : (setA m 81 (s2)).2.1 81 6 = (m.2.1 81) 6 := (congrFun (gA m s2) 6).trans (hA2 6 (by decide) (by decide))
      have e7 : (setA m 81 (s2)).2.1 81 7 = (m.2.1 81) 7 := (congrFun (gA m s2) 7).trans (hA2 7 (by decide) (by decide))
      have M9 := s_X10_isMended (X := X) (d := d + 3) (c := c) (w := w) (m := (setA m 81 (s2))) (v := v2) (E := E) (l := (ktub (-9) 0 (fun l => mstr (m.2.1 81) en cnt l) (mtl (m.2.1 81)) (mlp (m.2.1 81)) (kdt kq3 p z tn) p)) (by rw [ktub_len]; omega) hl2
      rw [e5, e6, e7] at M9
      show WP _ _ _ _ _ 50 _ [] (HP c w (setA m 81 (s2)) v2 E) _
      refine wp_iload_n 2 d_X10_often_50 rfl rfl ?_
      refine wp_aload_n 3 d_X10_often_51 rfl rfl ?_
      refine wp_virtual0 (As := []) d_X10_often_52 lk_X10_169 mv_X10_isMended in_X10_isMended se_X10_isMended (Nat.le_of_ble_eq_true rfl) (Nat.le_of_ble_eq_true rfl) (hp_80 _ _ _ _ _) rfl M9 (fun v52 h52 q52 => ?_)
      obtain ⟨rfl, u1, rfl, hu1⟩ := q52
      show WP _ _ _ _ _ 55 _ [.int (kb (mofM (m.2.1 81) en cnt p (kdt kq3 p z tn))), .int (sm)] (HP c w (setA m 81 (s2)) u1 E) _
      refine wp_ifb_eq 62 d_X10_often_55 rfl (fun c55 => ?_) (fun c55 => ?_)
      · refine wp_iconst (v0 := 0) d_X10_often_62 rfl ?_
        refine wp_iadd d_X10_often_63 ?_
        refine wp_istore_n [(2, .int ((sm) + (0))), (4, .int (nI (q9))), (3, .int (nI (i))), (0, .ref (80)), (1, .int (nI (N)))] d_X10_often_64 rfl (Nat.le_of_ble_eq_true rfl) rfl ?_
        refine wp_iinc (v0 := nI ((i) + 1)) [(3, .int (nI ((i) + 1))), (2, .int ((sm) + (0))), (4, .int (nI (q9))), (0, .ref (80)), (1, .int (nI (N)))] 2 d_X10_often_65 rfl (nI_add (i) 1) (Nat.le_of_ble_eq_true rfl) rfl ?_
        refine wp_goto 26 d_X10_often_68 rfl ?_
        obtain ⟨k1, rfl⟩ : ∃ k1, k = k1 + 1 := ⟨k - 1, by omega⟩
        refine wp_sub [(3, .int (nI ((i) + 1))), (2, .int ((sm) + (0))), (0, .ref (80)), (1, .int (nI (N)))] [0, 1, 3, 4] rfl ?_
        rw [Int32.add_zero]
        have L := ih k1 (by omega) (i + 1) s2 u1 (kdz z) (kdt kq3 p z tn) (sm) (by omega) ((hf.tr (hf2.mo (by decide) (by decide))).tr (hu1.fr 83 87)) (by rw [hu1.2, hf2.2.1 83 (by decide)]; exact h83) (fun l hl => by rw [hu1.2]; exact (hS.fr hf2 (by decide)) l hl) hA2 hz2 ht2
        refine wp_mono ?_ L
        rintro r1 h1 ⟨rfl, v3, rfl, hf3⟩
        refine ⟨congrArg (fun z => some (Value.int z)) ?_, v3, rfl, hf3⟩
        simp only [kof]
        rw [if_neg c55]
      · refine wp_iconst (v0 := 1) d_X10_often_58 rfl ?_
        refine wp_goto 63 d_X10_often_59 rfl ?_
        refine wp_iadd d_X10_often_63 ?_
        refine wp_istore_n [(2, .int ((sm) + (1))), (4, .int (nI (q9))), (3, .int (nI (i))), (0, .ref (80)), (1, .int (nI (N)))] d_X10_often_64 rfl (Nat.le_of_ble_eq_true rfl) rfl ?_
        refine wp_iinc (v0 := nI ((i) + 1)) [(3, .int (nI ((i) + 1))), (2, .int ((sm) + (1))), (4, .int (nI (q9))), (0, .ref (80)), (1, .int (nI (N)))] 2 d_X10_often_65 rfl (nI_add (i) 1) (Nat.le_of_ble_eq_true rfl) rfl ?_
        refine wp_goto 26 d_X10_often_68 rfl ?_
        obtain ⟨k1, rfl⟩ : ∃ k1, k = k1 + 1 := ⟨k - 1, by omega⟩
        refine wp_sub [(3, .int (nI ((i) + 1))), (2, .int ((sm) + (1))), (0, .ref (80)), (1, .int (nI (N)))] [0, 1, 3, 4] rfl ?_
        have L := ih k1 (by omega) (i + 1) s2 u1 (kdz z) (kdt kq3 p z tn) (sm + 1) (by omega) ((hf.tr (hf2.mo (by decide) (by decide))).tr (hu1.fr 83 87)) (by rw [hu1.2, hf2.2.1 83 (by decide)]; exact h83) (fun l hl => by rw [hu1.2]; exact (hS.fr hf2 (by decide)) l hl) hA2 hz2 ht2
        refine wp_mono ?_ L
        rintro r1 h1 ⟨rfl, v3, rfl, hf3⟩
        refine ⟨congrArg (fun z => some (Value.int z)) ?_, v3, rfl, hf3⟩
        simp only [kof]
        rw [if_pos c55]
theorem s_X10_often {X : kX} {d : Nat} {c w m v : kZ} {E : kH} {cnt : Nat} (hs1 : (m.2.1 81) 1 = nI cnt) (hc8 : cnt ≤ 8) {en : Nat → Nat} (hm : mWF (m.2.1 81) cnt en) {n : Nat} (hn : m.2.1 81 0 = nI n) (hn9 : n ≤ 9) {p : Nat} (hp : m.2.1 81 2 = nI p) (hp4 : p ≤ 4) (hln : ∀ j, j < p → vp_in (mlp (m.2.1 81) j) n) (x : Int32) : WP X (d + 8) 0 0 Y_X10_often 0 [(0, .ref (80)), (1, .int (x))] [] (HP c w m v E) (fun r1 h1 => (¬ (1 ≤ x.toInt ∧ x.toInt ≤ 60) ∧ r1 = some (.int (-1)) ∧ h1 = HP c w m v E) ∨ ∃ N : Nat, 1 ≤ N ∧ N ≤ 60 ∧ x = nI N ∧ r1 = some (.int (if p = 0 then 0 else kof kq3 (mofM (m.2.1 81) en cnt p) p N ((m.2.1 81) 8) (mtp (m.2.1 81)) 0)) ∧ ∃ v1 : kZ, h1 = HP c w m v1 E ∧ mFr 83 87 v v1) := by
  refine wp_iload_n 1 d_X10_often_0 rfl rfl ?_
  refine wp_i2l d_X10_often_1 ?_
  refine wp_lconst (v0 := 1) d_X10_often_2 rfl ?_
  refine wp_ldc2 (v0 := 60) d_X10_often_3 cl_X10_253 ?_
  refine wp_stc_i (As := [.long (Int32.toInt64 (x)), .long (1), .long (60)]) (x0 := kb (1 ≤ (x : Int32).toInt ∧ (x : Int32).toInt ≤ 60)) (h1 := HP c w m v E) d_X10_often_6 lk_X10_74 mv_X10_in st_X10_in (Nat.le_of_ble_eq_true rfl) (Nat.le_of_ble_eq_true rfl) (s_X10_in_i _ (x) (1) (60)) ?_
  refine wp_ifb_ne 14 d_X10_often_9 rfl (fun c9 => ?_) (fun c9 => ?_)
  · obtain ⟨N, hN, rfl⟩ := k_natle (n := 60) ⟨by omega, c9.2⟩
    have hN1 : 1 ≤ N := by
      have q9 := c9.1
      rw [nI_toInt (by omega)] at q9
      omega
    refine wp_aload_n 0 d_X10_often_14 rfl rfl ?_
    refine wp_vrt_v (As := []) (h1 := HP c w m (setA v 83 (kov (v.2.1 83) (m.2.1 81) 300)) E) d_X10_often_15 lk_X10_255 mv_X10_puts in_X10_puts se_X10_puts (Nat.le_of_ble_eq_true rfl) (Nat.le_of_ble_eq_true rfl) (hp_80 _ _ _ _ _) rfl s_X10_puts ?_
    refine wp_aload_n 0 d_X10_often_18 rfl rfl ?_
    refine wp_virtual0 (As := []) d_X10_often_19 lk_X10_129 mv_X10_findStrengths in_X10_findStrengths se_X10_findStrengths (Nat.le_of_ble_eq_true rfl) (Nat.le_of_ble_eq_true rfl) (hp_80 _ _ _ _ _) rfl (s_X10_findStrengths hs1 hc8 hm hn hn9) (fun v19 h19 q19 => ?_)
    obtain ⟨rfl, v1, rfl, hf1, hst1⟩ := q19
    have h83 : v1.2.1 83 = kov (v.2.1 83) (m.2.1 81) 300 := hf1.2.1 83 (by decide)
    have hfv : mFr 83 87 v v1 := mFr.tr (y := (setA v 83 (kov (v.2.1 83) (m.2.1 81) 300))) ⟨fun _ _ => rfl, fun k9 h9 => by simp only [setA]; rw [updA_n _ _ (by omega)], rfl⟩ (hf1.mo (by decide) (by decide))
    show WP _ _ _ _ _ 22 _ [] (HP c w m v1 E) _
    refine wp_iconst (v0 := 0) d_X10_often_22 rfl ?_
    refine wp_istore_n [(2, .int (0)), (0, .ref (80)), (1, .int (nI (N)))] d_X10_often_23 rfl (Nat.le_of_ble_eq_true rfl) rfl ?_
    refine wp_iconst (v0 := 0) d_X10_often_24 rfl ?_
    refine wp_istore_n [(3, .int (0)), (2, .int (0)), (0, .ref (80)), (1, .int (nI (N)))] d_X10_often_25 rfl (Nat.le_of_ble_eq_true rfl) rfl ?_
    rcases Nat.eq_zero_or_pos p with hp0 | hp0
    · refine wp_iload_n 0 d_X10_often_26 rfl rfl ?_
      refine wp_iload_n 3 d_X10_often_27 rfl rfl ?_
      refine wp_ncmp_ge (a := 0) (b := N) 71 d_X10_often_28 rfl (by omega) (by omega) (fun c28 => ?_) (fun c28 => ?_)
      · refine wp_aload_n 2 d_X10_often_71 rfl rfl ?_
        refine wp_vrt_v (As := []) (h1 := HP c w (setA m 81 (kov (m.2.1 81) (v1.2.1 83) 300)) v1 E) d_X10_often_72 lk_X10_261 mv_X10_putsBack in_X10_putsBack se_X10_putsBack (Nat.le_of_ble_eq_true rfl) (Nat.le_of_ble_eq_true rfl) (hp_80 _ _ _ _ _) rfl (s_X10_putsBack (m := m) (v := v1)) ?_
        have hbk : setA m 81 (kov (m.2.1 81) (v1.2.1 83) 300) = m := by
          rw [h83]
          have e1 : kov (m.2.1 81) (kov (v.2.1 83) (m.2.1 81) 300) 300 = m.2.1 81 := by
            funext j
            simp only [kov]
            split <;> rfl
          rw [e1, setA_self]
        rw [hbk]
        refine wp_iload_n 1 d_X10_often_75 rfl rfl ?_
        refine wp_reti d_X10_often_76 rfl ?_
        refine Or.inr ⟨N, hN1, hN, rfl, ?_, v1, rfl, hfv⟩
        rw [if_pos hp0]
      · refine wp_aload_n 2 d_X10_often_31 rfl rfl ?_
        refine wp_getfield (v := .ref (81)) d_X10_often_32 gf_X10_7 (hp_80 _ _ _ _ _) rfl ?_
        refine wp_iconst (v0 := 2) d_X10_often_35 rfl ?_
        refine wp_iaload (v := 0) d_X10_often_36 (hp_81 _ _ _ _ _) (kin rfl) (hp.trans (by rw [hp0]; rfl)) ?_
        refine wp_if_le 71 d_X10_often_37 rfl (fun _ => ?_) (fun z => absurd z (by decide))
        refine wp_aload_n 2 d_X10_often_71 rfl rfl ?_
        refine wp_vrt_v (As := []) (h1 := HP c w (setA m 81 (kov (m.2.1 81) (v1.2.1 83) 300)) v1 E) d_X10_often_72 lk_X10_261 mv_X10_putsBack in_X10_putsBack se_X10_putsBack (Nat.le_of_ble_eq_true rfl) (Nat.le_of_ble_eq_true rfl) (hp_80 _ _ _ _ _) rfl (s_X10_putsBack (m := m) (v := v1)) ?_
        have hbk : setA m 81 (kov (m.2.1 81) (v1.2.1 83) 300) = m := by
          rw [h83]
          have e1 : kov (m.2.1 81) (kov (v.2.1 83) (m.2.1 81) 300) 300 = m.2.1 81 := by
            funext j
            simp only [kov]
            split <;> rfl
          rw [e1, setA_self]
        rw [hbk]
        refine wp_iload_n 1 d_X10_often_75 rfl rfl ?_
        refine wp_reti d_X10_often_76 rfl ?_
        refine Or.inr ⟨N, hN1, hN, rfl, ?_, v1, rfl, hfv⟩
        rw [if_pos hp0]
    · refine wp_sub [(3, .int (0)), (2, .int (0)), (0, .ref (80)), (1, .int (nI (N)))] [0, 1, 2, 3] rfl ?_
      have L := s_X10_often_l (X := X) (d := d + 1) (c := c) (w := w) (m := m) (v := v) (E := E) hs1 hc8 hm hn hn9 hp hp4 hln hp0 hN (v.2.1 83) N 0 (m.2.1 81) v1 ((m.2.1 81) 8) (mtp (m.2.1 81)) 0 (by omega) hfv h83 hst1 (fun _ _ _ => rfl) rfl (fun _ _ => rfl)
      rw [setA_self] at L
      refine wp_mono ?_ L
      rintro r1 h1 ⟨rfl, v3, rfl, hf3⟩
      exact Or.inr ⟨N, hN1, hN, rfl, by rw [if_neg (by omega)], v3, rfl, hf3⟩
  · refine wp_iconst (v0 := -1) d_X10_often_12 rfl ?_
    refine wp_reti d_X10_often_13 rfl ?_
    exact Or.inl ⟨c9, rfl, rfl⟩
