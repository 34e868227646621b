/-! ===== the reference: calls that try settings ===== -/
theorem setU (m : kZ) (a k : Nat) (x y : Int32) : setA (setA m a (upd (m.2.1 a) k x)) a (upd (upd (m.2.1 a) k x) k y) = setA m a (upd (m.2.1 a) k y) := by
  rw [setA_idem]
  congr 1
  funext j
  simp only [upd]
  split <;> rfl
theorem setUb (m : kZ) (a k : Nat) (x : Int32) : setA (setA m a (upd (m.2.1 a) k x)) a (upd (upd (m.2.1 a) k x) k (m.2.1 a k)) = m := by
  rw [setU, upd_self, setA_self]
theorem setUc (m : kZ) (k : Nat) (x : Int32) : setA (setA m 81 (upd (m.2.1 81) k x)) 81 (upd ((setA m 81 (upd (m.2.1 81) k x)).2.1 81) k (m.2.1 81 k)) = m := setUb m 81 k x
theorem mrun_congr {fac : Int32 → Int32} {s s' : Nat → Int32} (h : ∀ k, 65 ≤ k → s' k = s k) : ∀ k i st, mrun fac s' k i st = mrun fac s k i st := by
  intro k
  induction k with
  | zero => intro i st; rfl
  | succ k ih =>
    intro i st
    simp only [mrun]
    rw [h _ (by omega)]
    cases mstep fac st (s (97 + i)) with
    | none => rfl
    | some st1 => exact ih _ _
theorem mWF.congr {s s' : Nat → Int32} {cnt : Nat} {en : Nat → Nat} (hm : mWF s cnt en) (h : ∀ k, 65 ≤ k → s' k = s k) : mWF s' cnt en := by
  refine ⟨hm.1, fun r hr => ?_⟩
  obtain ⟨h1, h2, h3, h4⟩ := hm.2 r hr
  refine ⟨(h _ (by omega)).trans h1, h2, h3, fun fac => ?_⟩
  rw [mrun_congr h]
  exact h4 fac
abbrev mMend (s : Nat → Int32) (en : Nat → Nat) (cnt p : Nat) : Prop := mwr (s 5) (s 6) (mTube s en cnt p) ≤ s 7
/-- 9 down: the last one that is so -/
def khd (P : Nat → Prop) [DecidablePred P] : Nat → Int32
  | 0 => -3
  | k + 1 => if P (9 - k) then nI (9 - k) else khd P k
def kcnt (P : Nat → Prop) [DecidablePred P] : Nat → Int32
  | 0 => 0
  | k + 1 => if P k then kcnt P k + 1 else kcnt P k
theorem keye (j : Nat) (h : j < 100) : (nI j + (-9)).toInt = (j : Int) - 9 := by
  have e0 : (-9 : Int32) = - nI 9 := by decide
  rw [e0, ← Int32.sub_eq_add_neg]
  exact pk_sub_toInt (by omega) (by omega)
theorem s_X10_layTube_u {X : kX} {d : Nat} {c w m v : kZ} {E : kH} {cnt : Nat} (hs1 : (m.2.1 81) 1 = nI cnt) (hc8 : cnt ≤ 8) {en : Nat → Nat} (hm : mWF (m.2.1 81) cnt en) {n : Nat} (hn : m.2.1 81 0 = nI n) (hn9 : n ≤ 9) {p : Nat} (hp : m.2.1 81 2 = nI p) (hp4 : p ≤ 4) (hln : ∀ j, j < p → vp_in (mlp (m.2.1 81) j) n) {k : Nat} (hk : k = 4 ∨ k = 6) (x : Int32) : WP X (d + 8) 0 0 Y_X10_layTube 0 [(0, .ref 80)] [] (HP c w (setA m 81 (upd (m.2.1 81) k (x))) v E) (fun r1 h1 => r1 = none ∧ ∃ v1 : kZ, h1 = HP c w (setA m 81 (upd (m.2.1 81) k (x))) v1 E ∧ mFr 84 87 v v1 ∧ mLaid v1 (mTube (upd (m.2.1 81) k x) en cnt p)) := by
  have hx : ∀ j, j ≠ 4 → j ≠ 6 → upd (m.2.1 81) k x j = m.2.1 81 j := fun j h4 h6 => upd_n _ _ (by omega)
  have L := s_X10_layTube (X := X) (d := d) (c := c) (w := w) (m := (setA m 81 (upd (m.2.1 81) k (x)))) (v := v) (E := E) (cnt := cnt) (en := en) (n := n) (p := p) ((hx 1 (by decide) (by decide)).trans hs1) hc8 (hm.congr (fun j hj => hx j (by omega) (by omega))) ((hx 0 (by decide) (by decide)).trans hn) hn9 ((hx 2 (by decide) (by decide)).trans hp) hp4 (fun j hj => by
    show vp_in (upd (m.2.1 81) k x (45 + 2 * j)) n
    rw [hx _ (by omega) (by omega)]
    exact hln j hj)
  refine wp_mono ?_ L
  rintro r1 h1 ⟨rfl, v1, rfl, hf, -, hl⟩
  exact ⟨rfl, v1, rfl, hf, hl⟩
theorem s_X10_heatFor_l {X : kX} {d : Nat} {c w m v : kZ} {E : kH} {cnt : Nat} (hs1 : (m.2.1 81) 1 = nI cnt) (hc8 : cnt ≤ 8) {en : Nat → Nat} (hm : mWF (m.2.1 81) cnt en) {n : Nat} (hn : m.2.1 81 0 = nI n) (hn9 : n ≤ 9) {p : Nat} (hp : m.2.1 81 2 = nI p) (hp4 : p ≤ 4) (hln : ∀ j, j < p → vp_in (mlp (m.2.1 81) j) n) : ∀ (k : Nat) (v' : kZ) (x0 : Int32), (k ≤ 9) → (mFr 84 87 v v') → WP X (d + 9) 0 0 Y_X10_heatFor 13 [(3, .int (nI (k))), (2, .int (khd (fun j => mMend (upd (m.2.1 81) 4 (nI j)) en cnt p) (9 - k))), (0, .ref (80)), (1, .int ((m.2.1 81) (4)))] [] (HP c w (setA m 81 (upd (m.2.1 81) 4 (x0))) v' E) (fun r1 h1 => r1 = some (.int ((khd (fun j => mMend (upd (m.2.1 81) 4 (nI j)) en cnt p) (10)))) ∧ ∃ v1 : kZ, h1 = HP c w m v1 E ∧ mFr 84 87 v v1) := by
  intro k
  induction k using Nat.strongRecOn with
  | ind k ih =>
    intro v' x0 hj hf
    refine wp_iload_n 0 d_X10_heatFor_13 rfl rfl ?_
    refine wp_nif_lt (a := k) 47 d_X10_heatFor_14 rfl (by omega) ?_
    refine wp_aload_n 2 d_X10_heatFor_17 rfl rfl ?_
    refine wp_getfield (v := .ref (81)) d_X10_heatFor_18 gf_X10_7 (hp_80 _ _ _ _ _) rfl ?_
    refine wp_iconst (v0 := 4) d_X10_heatFor_21 rfl ?_
    refine wp_iload_n 0 d_X10_heatFor_22 rfl rfl ?_
    refine wp_iastore (h' := HP c w (setA (setA m 81 (upd (m.2.1 81) 4 (x0))) 81 (upd (upd (m.2.1 81) 4 (x0)) 4 (nI (k)))) v' E) d_X10_heatFor_23 (hp_81 _ _ _ _ _) (kin rfl) ((hpa_81 _ _ _ _ _ _)) ?_
    rw [setU]
    refine wp_aload_n 2 d_X10_heatFor_24 rfl rfl ?_
    refine wp_virtual0 (As := []) d_X10_heatFor_25 lk_X10_166 mv_X10_layTube in_X10_layTube se_X10_layTube (Nat.le_of_ble_eq_true rfl) (Nat.le_of_ble_eq_true rfl) (hp_80 _ _ _ _ _) rfl (s_X10_layTube_u hs1 hc8 hm hn hn9 hp hp4 hln (k := 4) (by decide) (nI k)) (fun v25 h25 q25 => ?_)
    obtain ⟨rfl, v1, rfl, hf1, hl1⟩ := q25
    show WP _ _ _ _ _ 28 _ [] (HP c w (setA m 81 (upd (m.2.1 81) 4 (nI k))) v1 E) _
    refine wp_aload_n 2 d_X10_heatFor_28 rfl rfl ?_
    refine wp_virtual0 (As := []) d_X10_heatFor_29 lk_X10_169 mv_X10_isMended in_X10_isMended se_X10_isMended (Nat.le_of_ble_eq_true rfl) (Nat.le_of_ble_eq_true rfl) (hp_80 _ _ _ _ _) rfl (s_X10_isMended (l := (mTube (upd (m.2.1 81) 4 (nI k)) en cnt p)) (by rw [mTube_len]; omega) hl1) (fun v29 h29 q29 => ?_)
    obtain ⟨rfl, u1, rfl, hu1⟩ := q29
    show WP _ _ _ _ _ 32 _ [.int (kb (mMend (upd (m.2.1 81) 4 (nI k)) en cnt p))] (HP c w (setA m 81 (upd (m.2.1 81) 4 (nI k))) u1 E) _
    refine wp_ifb_eq 39 d_X10_heatFor_32 rfl (fun c32 => ?_) (fun c32 => ?_)
    · refine wp_iload_n 1 d_X10_heatFor_39 rfl rfl ?_
      refine wp_istore_n [(2, .int (khd (fun j => mMend (upd (m.2.1 81) 4 (nI j)) en cnt p) (9 - k))), (3, .int (nI (k))), (0, .ref (80)), (1, .int ((m.2.1 81) (4)))] d_X10_heatFor_40 rfl (Nat.le_of_ble_eq_true rfl) rfl ?_
      refine wp_iinc (v0 := (nI (k)) + (-1)) [(3, .int ((nI (k)) + (-1))), (2, .int (khd (fun j => mMend (upd (m.2.1 81) 4 (nI j)) en cnt p) (9 - k))), (0, .ref (80)), (1, .int ((m.2.1 81) (4)))] 1 d_X10_heatFor_41 rfl rfl (Nat.le_of_ble_eq_true rfl) rfl ?_
      refine wp_goto 13 d_X10_heatFor_44 rfl ?_
      have e9 : khd (fun j => mMend (upd (m.2.1 81) 4 (nI j)) en cnt p) (9 - k + 1) = khd (fun j => mMend (upd (m.2.1 81) 4 (nI j)) en cnt p) (9 - k) := by simp only [khd]; rw [show 9 - (9 - k) = k by omega]; exact if_neg c32
      have hf9 := hf.tr (hf1.tr (hu1.fr 84 87))
      by_cases hk0 : k = 0
      · have e8 : nI k + (-1) = (-1) := by rw [hk0]; decide
        rw [e8]
        refine wp_iload_n 0 d_X10_heatFor_13 rfl rfl ?_
        refine wp_if_lt 47 d_X10_heatFor_14 rfl (fun _ => ?_) (fun z => absurd (by decide) z)
        refine wp_aload_n 2 d_X10_heatFor_47 rfl rfl ?_
        refine wp_getfield (v := .ref (81)) d_X10_heatFor_48 gf_X10_7 (hp_80 _ _ _ _ _) rfl ?_
        refine wp_iconst (v0 := 4) d_X10_heatFor_51 rfl ?_
        refine wp_iload_n 3 d_X10_heatFor_52 rfl rfl ?_
        refine wp_iastore (h' := HP c w (setA (setA m 81 (upd (m.2.1 81) 4 (nI k))) 81 (upd ((setA m 81 (upd (m.2.1 81) 4 (nI k))).2.1 81) 4 ((m.2.1 81) (4)))) u1 E) d_X10_heatFor_53 (hp_81 _ _ _ _ _) (kin rfl) ((hpa_81 _ _ _ _ _ _)) ?_
        rw [setUc]
        refine wp_iload_n 1 d_X10_heatFor_54 rfl rfl ?_
        refine wp_reti d_X10_heatFor_55 rfl ?_
        refine ⟨congrArg (fun z => some (Value.int z)) ?_, _, rfl, hf9⟩
        rw [← e9, hk0]
      · obtain ⟨j1, hj1⟩ : ∃ j1, k = j1 + 1 := ⟨k - 1, by omega⟩
        have e8 : nI k + (-1) = nI j1 := by rw [hj1]; exact pk_m1 j1
        rw [e8]
        refine wp_sub [(3, .int (nI j1)), (2, .int (khd (fun j => mMend (upd (m.2.1 81) 4 (nI j)) en cnt p) (9 - k))), (0, .ref (80)), (1, .int ((m.2.1 81) (4)))] [0, 1, 2, 3] rfl ?_
        have L := ih j1 (by omega) _ (nI k) (by omega) hf9
        rw [show 9 - j1 = 9 - k + 1 by omega, e9] at L
        exact L
    · refine wp_iload_n 0 d_X10_heatFor_35 rfl rfl ?_
      refine wp_goto 40 d_X10_heatFor_36 rfl ?_
      refine wp_istore_n [(2, .int (nI (k))), (3, .int (nI (k))), (0, .ref (80)), (1, .int ((m.2.1 81) (4)))] d_X10_heatFor_40 rfl (Nat.le_of_ble_eq_true rfl) rfl ?_
      refine wp_iinc (v0 := (nI (k)) + (-1)) [(3, .int ((nI (k)) + (-1))), (2, .int (nI (k))), (0, .ref (80)), (1, .int ((m.2.1 81) (4)))] 1 d_X10_heatFor_41 rfl rfl (Nat.le_of_ble_eq_true rfl) rfl ?_
      refine wp_goto 13 d_X10_heatFor_44 rfl ?_
      have e9 : khd (fun j => mMend (upd (m.2.1 81) 4 (nI j)) en cnt p) (9 - k + 1) = nI (k) := by simp only [khd]; rw [show 9 - (9 - k) = k by omega]; exact if_pos c32
      have hf9 := hf.tr (hf1.tr (hu1.fr 84 87))
      by_cases hk0 : k = 0
      · have e8 : nI k + (-1) = (-1) := by rw [hk0]; decide
        rw [e8]
        refine wp_iload_n 0 d_X10_heatFor_13 rfl rfl ?_
        refine wp_if_lt 47 d_X10_heatFor_14 rfl (fun _ => ?_) (fun z => absurd (by decide) z)
        refine wp_aload_n 2 d_X10_heatFor_47 rfl rfl ?_
        refine wp_getfield (v := .ref (81)) d_X10_heatFor_48 gf_X10_7 (hp_80 _ _ _ _ _) rfl ?_
        refine wp_iconst (v0 := 4) d_X10_heatFor_51 rfl ?_
        refine wp_iload_n 3 d_X10_heatFor_52 rfl rfl ?_
        refine wp_iastore (h' := HP c w (setA (setA m 81 (upd (m.2.1 81) 4 (nI k))) 81 (upd ((setA m 81 (upd (m.2.1 81) 4 (nI k))).2.1 81) 4 ((m.2.1 81) (4)))) u1 E) d_X10_heatFor_53 (hp_81 _ _ _ _ _) (kin rfl) ((hpa_81 _ _ _ _ _ _)) ?_
        rw [setUc]
        refine wp_iload_n 1 d_X10_heatFor_54 rfl rfl ?_
        refine wp_reti d_X10_heatFor_55 rfl ?_
        refine ⟨congrArg (fun z => some (Value.int z)) ?_, _, rfl, hf9⟩
        rw [← e9, hk0]
      · obtain ⟨j1, hj1⟩ : ∃ j1, k = j1 + 1 := ⟨k - 1, by omega⟩
        have e8 : nI k + (-1) = nI j1 := by rw [hj1]; exact pk_m1 j1
        rw [e8]
        refine wp_sub [(3, .int (nI j1)), (2, .int (nI (k))), (0, .ref (80)), (1, .int ((m.2.1 81) (4)))] [0, 1, 2, 3] rfl ?_
        have L := ih j1 (by omega) _ (nI k) (by omega) hf9
        rw [show 9 - j1 = 9 - k + 1 by omega, e9] at L
        exact L
theorem s_X10_heatFor {X : kX} {d : Nat} {c w m v : kZ} {E : kH} {cnt : Nat} (hs1 : (m.2.1 81) 1 = nI cnt) (hc8 : cnt ≤ 8) {en : Nat → Nat} (hm : mWF (m.2.1 81) cnt en) {n : Nat} (hn : m.2.1 81 0 = nI n) (hn9 : n ≤ 9) {p : Nat} (hp : m.2.1 81 2 = nI p) (hp4 : p ≤ 4) (hln : ∀ j, j < p → vp_in (mlp (m.2.1 81) j) n) : WP X (d + 9) 0 0 Y_X10_heatFor 0 [(0, .ref (80))] [] (HP c w m v E) (fun r1 h1 => r1 = some (.int ((khd (fun j => mMend (upd (m.2.1 81) 4 (nI j)) en cnt p) (10)))) ∧ ∃ v1 : kZ, h1 = HP c w m v1 E ∧ mFr 84 87 v v1) := by
  refine wp_aload_n 0 d_X10_heatFor_0 rfl rfl ?_
  refine wp_getfield (v := .ref (81)) d_X10_heatFor_1 gf_X10_7 (hp_80 _ _ _ _ _) rfl ?_
  refine wp_iconst (v0 := 4) d_X10_heatFor_4 rfl ?_
  refine wp_iaload (v := (m.2.1 81) (4)) d_X10_heatFor_5 (hp_81 _ _ _ _ _) (kin rfl) rfl ?_
  refine wp_istore_n [(1, .int ((m.2.1 81) (4))), (0, .ref (80))] d_X10_heatFor_6 rfl (Nat.le_of_ble_eq_true rfl) rfl ?_
  refine wp_bipush (v0 := -3) d_X10_heatFor_7 (by decide) ?_
  refine wp_istore_n [(2, .int ((-3))), (1, .int ((m.2.1 81) (4))), (0, .ref (80))] d_X10_heatFor_9 rfl (Nat.le_of_ble_eq_true rfl) rfl ?_
  refine wp_bipush (v0 := 9) d_X10_heatFor_10 (by decide) ?_
  refine wp_istore_n [(3, .int (9)), (2, .int ((-3))), (1, .int ((m.2.1 81) (4))), (0, .ref (80))] d_X10_heatFor_12 rfl (Nat.le_of_ble_eq_true rfl) rfl ?_
  refine wp_sub [(3, .int (9)), (2, .int ((-3))), (0, .ref (80)), (1, .int ((m.2.1 81) (4)))] [0, 1, 3, 2] rfl ?_
  have L := s_X10_heatFor_l (X := X) (d := d) (c := c) (w := w) (m := m) (v := v) (E := E) hs1 hc8 hm hn hn9 hp hp4 hln 9 v (m.2.1 81 4) (by decide) (mFr.rf _ _ v)
  rw [upd_self, setA_self] at L
  exact L
theorem s_X10_eyes_l {X : kX} {d : Nat} {c w m v : kZ} {E : kH} {cnt : Nat} (hs1 : (m.2.1 81) 1 = nI cnt) (hc8 : cnt ≤ 8) {en : Nat → Nat} (hm : mWF (m.2.1 81) cnt en) {n : Nat} (hn : m.2.1 81 0 = nI n) (hn9 : n ≤ 9) {p : Nat} (hp : m.2.1 81 2 = nI p) (hp4 : p ≤ 4) (hln : ∀ j, j < p → vp_in (mlp (m.2.1 81) j) n) : ∀ (k : Nat) (j : Nat) (v' : kZ) (x0 : Int32), (j + k = 19) → (mFr 84 87 v v') → WP X (d + 9) 0 0 Y_X10_eyes 13 [(3, .int (nI j + (-9))), (2, .int (kcnt (fun j => mMend (upd (m.2.1 81) 6 (nI j + (-9))) en cnt p) j)), (0, .ref (80)), (1, .int ((m.2.1 81) (6)))] [] (HP c w (setA m 81 (upd (m.2.1 81) 6 (x0))) v' E) (fun r1 h1 => r1 = some (.int ((kcnt (fun j => mMend (upd (m.2.1 81) 6 (nI j + (-9))) en cnt p) (19)))) ∧ ∃ v1 : kZ, h1 = HP c w m v1 E ∧ mFr 84 87 v v1) := by
  intro k
  induction k using Nat.strongRecOn with
  | ind k ih =>
    intro j v' x0 hj hf
    refine wp_iload_n 0 d_X10_eyes_13 rfl rfl ?_
    refine wp_bipush (v0 := 10) d_X10_eyes_14 (by decide) ?_
    refine wp_icmp_ge 52 d_X10_eyes_16 rfl (fun c16 => ?_) (fun c16 => ?_)
    · refine wp_aload_n 2 d_X10_eyes_52 rfl rfl ?_
      refine wp_getfield (v := .ref (81)) d_X10_eyes_53 gf_X10_7 (hp_80 _ _ _ _ _) rfl ?_
      refine wp_bipush (v0 := 6) d_X10_eyes_56 (by decide) ?_
      refine wp_iload_n 3 d_X10_eyes_58 rfl rfl ?_
      refine wp_iastore (h' := HP c w (setA (setA m 81 (upd (m.2.1 81) 6 (x0))) 81 (upd (upd (m.2.1 81) 6 (x0)) 6 ((m.2.1 81) (6)))) v' E) d_X10_eyes_59 (hp_81 _ _ _ _ _) (kin rfl) ((hpa_81 _ _ _ _ _ _)) ?_
      rw [setUb]
      refine wp_iload_n 1 d_X10_eyes_60 rfl rfl ?_
      refine wp_reti d_X10_eyes_61 rfl ?_
      have h9 := Int32.le_iff_toInt_le.mp c16
      rw [keye j (by omega), show (10 : Int32).toInt = 10 from by decide] at h9
      obtain rfl : j = 19 := by omega
      exact ⟨rfl, _, rfl, hf⟩
    · have h9 := Int32.lt_iff_toInt_lt.mp (Int32.not_le.mp c16)
      rw [keye j (by omega), show (10 : Int32).toInt = 10 from by decide] at h9
      refine wp_aload_n 2 d_X10_eyes_19 rfl rfl ?_
      refine wp_getfield (v := .ref (81)) d_X10_eyes_20 gf_X10_7 (hp_80 _ _ _ _ _) rfl ?_
      refine wp_bipush (v0 := 6) d_X10_eyes_23 (by decide) ?_
      refine wp_iload_n 0 d_X10_eyes_25 rfl rfl ?_
      refine wp_iastore (h' := HP c w (setA (setA m 81 (upd (m.2.1 81) 6 (x0))) 81 (upd (upd (m.2.1 81) 6 (x0)) 6 (nI j + (-9)))) v' E) d_X10_eyes_26 (hp_81 _ _ _ _ _) (kin rfl) ((hpa_81 _ _ _ _ _ _)) ?_
      rw [setU]
      refine wp_aload_n 2 d_X10_eyes_27 rfl rfl ?_
      refine wp_virtual0 (As := []) d_X10_eyes_28 lk_X10_166 mv_X10_layTube in_X10_layTube se_X10_layTube (Nat.le_of_ble_eq_true rfl) (Nat.le_of_ble_eq_true rfl) (hp_80 _ _ _ _ _) rfl (s_X10_layTube_u hs1 hc8 hm hn hn9 hp hp4 hln (k := 6) (by decide) (nI j + (-9))) (fun v28 h28 q28 => ?_)
      obtain ⟨rfl, v1, rfl, hf1, hl1⟩ := q28
      show WP _ _ _ _ _ 31 _ [] (HP c w (setA m 81 (upd (m.2.1 81) 6 (nI j + (-9)))) v1 E) _
      refine wp_iload_n 1 d_X10_eyes_31 rfl rfl ?_
      refine wp_aload_n 2 d_X10_eyes_32 rfl rfl ?_
      refine wp_virtual0 (As := []) d_X10_eyes_33 lk_X10_169 mv_X10_isMended in_X10_isMended se_X10_isMended (Nat.le_of_ble_eq_true rfl) (Nat.le_of_ble_eq_true rfl) (hp_80 _ _ _ _ _) rfl (s_X10_isMended (l := (mTube (upd (m.2.1 81) 6 (nI j + (-9))) en cnt p)) (by rw [mTube_len]; omega) hl1) (fun v33 h33 q33 => ?_)
      obtain ⟨rfl, u1, rfl, hu1⟩ := q33
      show WP _ _ _ _ _ 36 _ [.int (kb (mMend (upd (m.2.1 81) 6 (nI j + (-9))) en cnt p)), .int (kcnt (fun j => mMend (upd (m.2.1 81) 6 (nI j + (-9))) en cnt p) j)] (HP c w (setA m 81 (upd (m.2.1 81) 6 (nI j + (-9)))) u1 E) _
      refine wp_ifb_eq 43 d_X10_eyes_36 rfl (fun c36 => ?_) (fun c36 => ?_)
      · refine wp_iconst (v0 := 0) d_X10_eyes_43 rfl ?_
        refine wp_iadd d_X10_eyes_44 ?_
        refine wp_istore_n [(2, .int ((kcnt (fun j => mMend (upd (m.2.1 81) 6 (nI j + (-9))) en cnt p) j) + (0))), (3, .int (nI j + (-9))), (0, .ref (80)), (1, .int ((m.2.1 81) (6)))] d_X10_eyes_45 rfl (Nat.le_of_ble_eq_true rfl) rfl ?_
        refine wp_iinc (v0 := (nI j + (-9)) + (1)) [(3, .int ((nI j + (-9)) + (1))), (2, .int ((kcnt (fun j => mMend (upd (m.2.1 81) 6 (nI j + (-9))) en cnt p) j) + (0))), (0, .ref (80)), (1, .int ((m.2.1 81) (6)))] 1 d_X10_eyes_46 rfl rfl (Nat.le_of_ble_eq_true rfl) rfl ?_
        refine wp_goto 13 d_X10_eyes_49 rfl ?_
        obtain ⟨k1, rfl⟩ : ∃ k1, k = k1 + 1 := ⟨k - 1, by omega⟩
        refine wp_sub [(3, .int ((nI j + (-9)) + (1))), (2, .int ((kcnt (fun j => mMend (upd (m.2.1 81) 6 (nI j + (-9))) en cnt p) j) + (0))), (0, .ref (80)), (1, .int ((m.2.1 81) (6)))] [0, 1, 2, 3] rfl ?_
        have e9 : kcnt (fun j => mMend (upd (m.2.1 81) 6 (nI j + (-9))) en cnt p) (j + 1) = (kcnt (fun j => mMend (upd (m.2.1 81) 6 (nI j + (-9))) en cnt p) j) + (0) := by
          simp only [kcnt]
          rw [Int32.add_zero]
          exact if_neg c36
        have e8 : nI j + (-9) + 1 = nI (j + 1) + (-9) := by rw [← nI_add j 1, Int32.add_assoc, Int32.add_assoc]; rfl
        rw [e8, ← e9]
        exact ih k1 (by omega) (j + 1) _ _ (by omega) (hf.tr (hf1.tr (hu1.fr 84 87)))
      · refine wp_iconst (v0 := 1) d_X10_eyes_39 rfl ?_
        refine wp_goto 44 d_X10_eyes_40 rfl ?_
        refine wp_iadd d_X10_eyes_44 ?_
        refine wp_istore_n [(2, .int ((kcnt (fun j => mMend (upd (m.2.1 81) 6 (nI j + (-9))) en cnt p) j) + (1))), (3, .int (nI j + (-9))), (0, .ref (80)), (1, .int ((m.2.1 81) (6)))] d_X10_eyes_45 rfl (Nat.le_of_ble_eq_true rfl) rfl ?_
        refine wp_iinc (v0 := (nI j + (-9)) + (1)) [(3, .int ((nI j + (-9)) + (1))), (2, .int ((kcnt (fun j => mMend (upd (m.2.1 81) 6 (nI j + (-9))) en cnt p) j) + (1))), (0, .ref (80)), (1, .int ((m.2.1 81) (6)))] 1 d_X10_eyes_46 rfl rfl (Nat.le_of_ble_eq_true rfl) rfl ?_
        refine wp_goto 13 d_X10_eyes_49 rfl ?_
        obtain ⟨k1, rfl⟩ : ∃ k1, k = k1 + 1 := ⟨k - 1, by omega⟩
        refine wp_sub [(3, .int ((nI j + (-9)) + (1))), (2, .int ((kcnt (fun j => mMend (upd (m.2.1 81) 6 (nI j + (-9))) en cnt p) j) + (1))), (0, .ref (80)), (1, .int ((m.2.1 81) (6)))] [0, 1, 2, 3] rfl ?_
        have e9 : kcnt (fun j => mMend (upd (m.2.1 81) 6 (nI j + (-9))) en cnt p) (j + 1) = (kcnt (fun j => mMend (upd (m.2.1 81) 6 (nI j + (-9))) en cnt p) j) + (1) := by
          simp only [kcnt]
          exact if_pos c36
        have e8 : nI j + (-9) + 1 = nI (j + 1) + (-9) := by rw [← nI_add j 1, Int32.add_assoc, Int32.add_assoc]; rfl
        rw [e8, ← e9]
        exact ih k1 (by omega) (j + 1) _ _ (by omega) (hf.tr (hf1.tr (hu1.fr 84 87)))
theorem s_X10_eyes {X : kX} {d : Nat} {c w m v : kZ} {E : kH} {cnt : Nat} (hs1 : (m.2.1 81) 1 = nI cnt) (hc8 : cnt ≤ 8) {en : Nat → Nat} (hm : mWF (m.2.1 81) cnt en) {n : Nat} (hn : m.2.1 81 0 = nI n) (hn9 : n ≤ 9) {p : Nat} (hp : m.2.1 81 2 = nI p) (hp4 : p ≤ 4) (hln : ∀ j, j < p → vp_in (mlp (m.2.1 81) j) n) : WP X (d + 9) 0 0 Y_X10_eyes 0 [(0, .ref (80))] [] (HP c w m v E) (fun r1 h1 => r1 = some (.int ((kcnt (fun j => mMend (upd (m.2.1 81) 6 (nI j + (-9))) en cnt p) (19)))) ∧ ∃ v1 : kZ, h1 = HP c w m v1 E ∧ mFr 84 87 v v1) := by
  refine wp_aload_n 0 d_X10_eyes_0 rfl rfl ?_
  refine wp_getfield (v := .ref (81)) d_X10_eyes_1 gf_X10_7 (hp_80 _ _ _ _ _) rfl ?_
  refine wp_bipush (v0 := 6) d_X10_eyes_4 (by decide) ?_
  refine wp_iaload (v := (m.2.1 81) (6)) d_X10_eyes_6 (hp_81 _ _ _ _ _) (kin rfl) rfl ?_
  refine wp_istore_n [(1, .int ((m.2.1 81) (6))), (0, .ref (80))] d_X10_eyes_7 rfl (Nat.le_of_ble_eq_true rfl) rfl ?_
  refine wp_iconst (v0 := 0) d_X10_eyes_8 rfl ?_
  refine wp_istore_n [(2, .int (0)), (1, .int ((m.2.1 81) (6))), (0, .ref (80))] d_X10_eyes_9 rfl (Nat.le_of_ble_eq_true rfl) rfl ?_
  refine wp_bipush (v0 := -9) d_X10_eyes_10 (by decide) ?_
  refine wp_istore_n [(3, .int ((-9))), (2, .int (0)), (1, .int ((m.2.1 81) (6))), (0, .ref (80))] d_X10_eyes_12 rfl (Nat.le_of_ble_eq_true rfl) rfl ?_
  refine wp_sub [(3, .int ((-9))), (2, .int (0)), (0, .ref (80)), (1, .int ((m.2.1 81) (6)))] [0, 1, 3, 2] rfl ?_
  rw [show (-9 : Int32) = nI 0 + (-9) by decide]
  have L := s_X10_eyes_l (X := X) (d := d) (c := c) (w := w) (m := m) (v := v) (E := E) hs1 hc8 hm hn hn9 hp hp4 hln 19 0 v (m.2.1 81 6) (by decide) (mFr.rf _ _ v)
  rw [upd_self, setA_self] at L
  exact L
