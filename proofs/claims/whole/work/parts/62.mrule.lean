/-! ===== reference: a rule, rules ===== -/
theorem rwri_s {j : Nat} (hj : j < 97) (x : Int32) (q : kRt) : (rwri x q).2.2.2.2.2.2 j = q.2.2.2.2.2.2 j := by
  unfold rwri
  split
  · rfl
  · exact upd_n _ _ (by omega)
theorem rvh_s {j : Nat} (hj : j < 97) (t : Nat → Int32) (T : Nat) (q : kRt) : (rvh t T q).2.2.2.2.2.2 j = q.2.2.2.2.2.2 j := by
  unfold rvh
  split
  · rw [rwri_s hj, rwant_s]
  · split
    · rfl
    · rw [rwri_s hj, rnum_s]
theorem rcmp_s {j : Nat} (hj : j < 97) (t : Nat → Int32) (T : Nat) (q : kRt) : (rcmp t T q).2.2.2.2.2.2 j = q.2.2.2.2.2.2 j := by
  unfold rcmp
  rw [rwri_s hj, rvh_s hj, rwant_s, rvh_s hj]
theorem rnots_s (t : Nat → Int32) (T : Nat) : ∀ (k : Nat) (q : kRt) (b : Bool), (rnots t T k q b).1.2.2.2.2.2.2 = q.2.2.2.2.2.2
  | 0, q, b => rfl
  | k + 1, q, b => by
    simp only [rnots]
    split
    · rw [rnots_s t T k, rwant_s]
    · rfl
def kRs (O : kRt → kRt) : Prop := ∀ (q : kRt) (j : Nat), j < 97 → (O q).2.2.2.2.2.2 j = q.2.2.2.2.2.2 j
theorem kRs.mid {t : Nat → Int32} {T : Nat} {C : kRt → kRt} (hC : kRs C) : kRs (rmid t T C) := by
  intro q j hj
  unfold rmid
  split
  · rw [rwant_s]
    show (C _).2.2.2.2.2.2 j = _
    rw [hC _ _ hj]
    show (rwant t T _ q).2.2.2.2.2.2 j = _
    rw [rwant_s]
  · exact rcmp_s hj t T q
theorem kRs.one {t : Nat → Int32} {T : Nat} {C : kRt → kRt} (hC : kRs C) : kRs (rone t T C) := by
  intro q j hj
  unfold rone
  split
  · rw [rwri_s hj, kRs.mid hC _ _ hj, rnots_s]
  · rw [kRs.mid hC _ _ hj, rnots_s]
theorem kRs.js {t : Nat → Int32} {T : Nat} {O : kRt → kRt} (hO : kRs O) {c : Int64} {x : Int32} : ∀ k : Nat, kRs (rjs t T c x O k)
  | 0, q, j, hj => rfl
  | k + 1, q, j, hj => by
    simp only [rjs]
    split
    · rw [kRs.js hO k _ _ hj, rwri_s hj, hO _ _ hj, rwant_s]
    · rfl
theorem kRs.all {t : Nat → Int32} {T : Nat} {C : kRt → kRt} (hC : kRs C) : kRs (rall t T C) := by
  intro q j hj
  unfold rall
  rw [kRs.js (kRs.one hC) _ _ _ hj, kRs.one hC _ _ hj]
theorem kRs.cond {t : Nat → Int32} {T : Nat} : ∀ k : Nat, kRs (rcond t T k)
  | 0, q, j, hj => rfl
  | k + 1, q, j, hj => by
    show (rcnd t T (rall t T (rcond t T k)) q).2.2.2.2.2.2 j = _
    unfold rcnd
    split
    · rfl
    · rw [kRs.js (kRs.all (kRs.cond k)) _ _ _ hj, kRs.all (kRs.cond k) _ _ hj]
def rse (s : Nat → Int32) (R : Nat) (kd dz fg : Int32) (cd : Nat) : Nat → Int32 := upd (upd (upd (upd (upd s (65 + 4 * R + 0) kd) (65 + 4 * R + 1) dz) (65 + 4 * R + 2) fg) (65 + 4 * R + 3) (nI cd)) 1 (nI (R + 1))
def rE (kd dz fg : Int32) (q : kRt) : kRt := if q.2.2.1 = true then q else (q.1, q.2.1, q.2.2.1, q.2.2.2.1, q.2.2.2.2.1, q.2.2.2.2.2.1, rse q.2.2.2.2.2.2 (q.2.2.2.2.2.2 1).toNatClampNeg kd dz fg q.2.2.2.2.2.1)
def rD (t : Nat → Int32) (T : Nat) (kd dz : Int32) (q : kRt) : kRt := rE kd dz q.2.2.2.1 (rwant t T (decide (q.2.2.1 = false ∧ qby t T q.1 = 59)) q)
def rval (q : kRt) (x : Int32) : kRt := (q.1, q.2.1, q.2.2.1, x, q.2.2.2.2)
def rC (t : Nat → Int32) (T : Nat) (kd dz : Int32) (q : kRt) : kRt := rD t T kd dz (if 0 ≤ dz ∧ dz ≠ 2 ∧ q.2.2.1 = false then rnum t T 99 (rval q 0) else rval q 0)
def rdo (x : Int64) : Int32 := if x = 441925 then 0 else if x = 398963 then 1 else if x = 208948 then 2 else -1
def rB (t : Nat → Int32) (T : Nat) (kd : Int32) (q : kRt) : kRt := rC t T kd (rdo (rword t T q)) (rwant t T (decide (0 ≤ rdo (rword t T q))) q)
def rA (t : Nat → Int32) (T : Nat) (kd : Int32) (q : kRt) : kRt := rB t T kd (if rword t T q = 294 then rcond t T 4 (rwant t T true q) else q)
def rrule (t : Nat → Int32) (T : Nat) (q : kRt) : kRt := rA t T (rkd (rword t T q)) (rwant t T (decide (0 ≤ rkd (rword t T q) ∧ q.2.2.2.2.2.2 1 < 8)) q)
theorem rse_1 {s : Nat → Int32} {R : Nat} {a b c e : Int32} (h : s 1 = nI R) : upd (upd (upd (upd s (65 + 4 * R + 0) a) (65 + 4 * R + 1) b) (65 + 4 * R + 2) c) (65 + 4 * R + 3) e 1 = nI R := by
  rw [upd_n _ _ (by omega), upd_n _ _ (by omega), upd_n _ _ (by omega), upd_n _ _ (by omega), h]
theorem s_X10_rule_E {X : kX} {d : Nat} {c w m v : kZ} {E : kH} {T : Nat} (hT : m.1 8024 = nI T) (hT2 : T ≤ 200) {kd dz fg : Int32} {wd : Int64} {R : Nat} {q : kRt} {y : kZ} (hx : kMx v q y) (hs : q.2.2.1 = false → q.2.2.2.2.2.2 1 = nI R ∧ R < 8) : WP X (d + 19) 0 0 Y_X10_rule 171 [(5, .int (fg)), (4, .int (dz)), (2, .long (wd)), (1, .int (kd)), (0, .ref (80))] [] (HP c w (setA m 81 ((q).2.2.2.2.2.2)) y E) (fun r1 h1 => r1 = none ∧ ∃ y1 : kZ, h1 = HP c w (setA m 81 ((rE kd dz fg q).2.2.2.2.2.2)) y1 E ∧ kMx v (rE kd dz fg q) y1) := by
  refine wp_aload_n 4 d_X10_rule_171 rfl rfl ?_
  refine wp_getfield (v := .int (kb ((q).2.2.1 = true))) d_X10_rule_172 gf_X10_303 (hp_80 _ _ _ _ _) (congrArg (fun z => some (Value.int z)) hx.2.2.1) ?_
  refine wp_ifb_ne 246 d_X10_rule_175 rfl (fun zc175 => ?_) (fun zc175 => ?_)
  · refine wp_vret d_X10_rule_246 rfl ?_
    exact ⟨rfl, y, by rw [show rE kd dz fg q = q from if_pos zc175], by rw [show rE kd dz fg q = q from if_pos zc175]; exact hx⟩
  · obtain ⟨hs1, hR⟩ := hs (Bool.not_eq_true _ |>.mp zc175)
    have hs2 : (q.2.2.2.2.2.2 1).toNatClampNeg = R := by rw [hs1]; exact nI_clamp (by omega)
    refine wp_bipush (v0 := 65) d_X10_rule_178 (by decide) ?_
    refine wp_iconst (v0 := 4) d_X10_rule_180 rfl ?_
    refine wp_aload_n 4 d_X10_rule_181 rfl rfl ?_
    refine wp_getfield (v := .ref (81)) d_X10_rule_182 gf_X10_7 (hp_80 _ _ _ _ _) rfl ?_
    refine wp_iconst (v0 := 1) d_X10_rule_185 rfl ?_
    refine wp_iaload (v := nI (R)) d_X10_rule_186 (hp_81 _ _ _ _ _) (kin rfl) hs1 ?_
    refine wp_imul d_X10_rule_187 ?_
    refine wp_v (v0 := nI ((4) * (R))) (pk_mul (4) (R)) ?_
    refine wp_iadd d_X10_rule_188 ?_
    refine wp_v (v0 := nI ((65) + ((4) * (R)))) (nI_add (65) ((4) * (R))) ?_
    refine wp_istore [(6, .int (nI ((65) + ((4) * (R))))), (5, .int (fg)), (4, .int (dz)), (2, .long (wd)), (1, .int (kd)), (0, .ref (80))] d_X10_rule_189 (Nat.le_of_ble_eq_true rfl) rfl ?_
    refine wp_aload_n 5 d_X10_rule_191 rfl rfl ?_
    refine wp_getfield (v := .ref (81)) d_X10_rule_192 gf_X10_7 (hp_80 _ _ _ _ _) rfl ?_
    refine wp_iload 0 d_X10_rule_195 rfl ?_
    refine wp_iconst (v0 := 0) d_X10_rule_197 rfl ?_
    refine wp_iadd d_X10_rule_198 ?_
    refine wp_v (v0 := nI (((65) + ((4) * (R))) + (0))) (nI_add ((65) + ((4) * (R))) (0)) ?_
    refine wp_iload_n 4 d_X10_rule_199 rfl rfl ?_
    refine wp_iastore (h' := HP c w (setA (setA m 81 ((q).2.2.2.2.2.2)) 81 (upd ((q).2.2.2.2.2.2) (((65) + ((4) * (R))) + (0)) (kd))) y E) d_X10_rule_200 (hp_81 _ _ _ _ _) (vp_in_nI (by omega) (by omega)) (by rw [nI_clamp (by omega)]; exact (hpa_81 _ _ _ _ _ _)) ?_
    refine wp_aload_n 5 d_X10_rule_201 rfl rfl ?_
    refine wp_getfield (v := .ref (81)) d_X10_rule_202 gf_X10_7 (hp_80 _ _ _ _ _) rfl ?_
    refine wp_iload 0 d_X10_rule_205 rfl ?_
    refine wp_iconst (v0 := 1) d_X10_rule_207 rfl ?_
    refine wp_iadd d_X10_rule_208 ?_
    refine wp_v (v0 := nI (((65) + ((4) * (R))) + (1))) (nI_add ((65) + ((4) * (R))) (1)) ?_
    refine wp_iload 2 d_X10_rule_209 rfl ?_
    refine wp_iastore (h' := HP c w (setA (setA (setA m 81 ((q).2.2.2.2.2.2)) 81 (upd ((q).2.2.2.2.2.2) (((65) + ((4) * (R))) + (0)) (kd))) 81 (upd (upd ((q).2.2.2.2.2.2) (((65) + ((4) * (R))) + (0)) (kd)) (((65) + ((4) * (R))) + (1)) (dz))) y E) d_X10_rule_211 (hp_81 _ _ _ _ _) (vp_in_nI (by omega) (by omega)) (by rw [nI_clamp (by omega)]; exact (hpa_81 _ _ _ _ _ _)) ?_
    refine wp_aload_n 5 d_X10_rule_212 rfl rfl ?_
    refine wp_getfield (v := .ref (81)) d_X10_rule_213 gf_X10_7 (hp_80 _ _ _ _ _) rfl ?_
    refine wp_iload 0 d_X10_rule_216 rfl ?_
    refine wp_iconst (v0 := 2) d_X10_rule_218 rfl ?_
    refine wp_iadd d_X10_rule_219 ?_
    refine wp_v (v0 := nI (((65) + ((4) * (R))) + (2))) (nI_add ((65) + ((4) * (R))) (2)) ?_
    refine wp_iload 1 d_X10_rule_220 rfl ?_
    refine wp_iastore (h' := HP c w (setA (setA (setA (setA m 81 ((q).2.2.2.2.2.2)) 81 (upd ((q).2.2.2.2.2.2) (((65) + ((4) * (R))) + (0)) (kd))) 81 (upd (upd ((q).2.2.2.2.2.2) (((65) + ((4) * (R))) + (0)) (kd)) (((65) + ((4) * (R))) + (1)) (dz))) 81 (upd (upd (upd ((q).2.2.2.2.2.2) (((65) + ((4) * (R))) + (0)) (kd)) (((65) + ((4) * (R))) + (1)) (dz)) (((65) + ((4) * (R))) + (2)) (fg))) y E) d_X10_rule_222 (hp_81 _ _ _ _ _) (vp_in_nI (by omega) (by omega)) (by rw [nI_clamp (by omega)]; exact (hpa_81 _ _ _ _ _ _)) ?_
    refine wp_aload_n 5 d_X10_rule_223 rfl rfl ?_
    refine wp_getfield (v := .ref (81)) d_X10_rule_224 gf_X10_7 (hp_80 _ _ _ _ _) rfl ?_
    refine wp_iload 0 d_X10_rule_227 rfl ?_
    refine wp_iconst (v0 := 3) d_X10_rule_229 rfl ?_
    refine wp_iadd d_X10_rule_230 ?_
    refine wp_v (v0 := nI (((65) + ((4) * (R))) + (3))) (nI_add ((65) + ((4) * (R))) (3)) ?_
    refine wp_aload_n 5 d_X10_rule_231 rfl rfl ?_
    refine wp_getfield (v := .int (nI ((q).2.2.2.2.2.1))) d_X10_rule_232 gf_X10_347 (hp_80 _ _ _ _ _) (congrArg (fun z => some (Value.int z)) hx.2.2.2.2.2.1) ?_
    refine wp_iastore (h' := HP c w (setA (setA (setA (setA (setA m 81 ((q).2.2.2.2.2.2)) 81 (upd ((q).2.2.2.2.2.2) (((65) + ((4) * (R))) + (0)) (kd))) 81 (upd (upd ((q).2.2.2.2.2.2) (((65) + ((4) * (R))) + (0)) (kd)) (((65) + ((4) * (R))) + (1)) (dz))) 81 (upd (upd (upd ((q).2.2.2.2.2.2) (((65) + ((4) * (R))) + (0)) (kd)) (((65) + ((4) * (R))) + (1)) (dz)) (((65) + ((4) * (R))) + (2)) (fg))) 81 (upd (upd (upd (upd ((q).2.2.2.2.2.2) (((65) + ((4) * (R))) + (0)) (kd)) (((65) + ((4) * (R))) + (1)) (dz)) (((65) + ((4) * (R))) + (2)) (fg)) (((65) + ((4) * (R))) + (3)) (nI ((q).2.2.2.2.2.1)))) y E) d_X10_rule_235 (hp_81 _ _ _ _ _) (vp_in_nI (by omega) (by omega)) (by rw [nI_clamp (by omega)]; exact (hpa_81 _ _ _ _ _ _)) ?_
    refine wp_aload_n 5 d_X10_rule_236 rfl rfl ?_
    refine wp_getfield (v := .ref (81)) d_X10_rule_237 gf_X10_7 (hp_80 _ _ _ _ _) rfl ?_
    refine wp_iconst (v0 := 1) d_X10_rule_240 rfl ?_
    refine wp_dup2 d_X10_rule_241 rfl rfl ?_
    refine wp_iaload (v := nI (R)) d_X10_rule_242 (hp_81 _ _ _ _ _) (kin rfl) (rse_1 (a := kd) (b := dz) (c := fg) (e := nI q.2.2.2.2.2.1) hs1) ?_
    refine wp_iconst (v0 := 1) d_X10_rule_243 rfl ?_
    refine wp_iadd d_X10_rule_244 ?_
    refine wp_v (v0 := nI ((R) + (1))) (nI_add (R) (1)) ?_
    refine wp_iastore (h' := HP c w (setA (setA (setA (setA (setA (setA m 81 ((q).2.2.2.2.2.2)) 81 (upd ((q).2.2.2.2.2.2) (((65) + ((4) * (R))) + (0)) (kd))) 81 (upd (upd ((q).2.2.2.2.2.2) (((65) + ((4) * (R))) + (0)) (kd)) (((65) + ((4) * (R))) + (1)) (dz))) 81 (upd (upd (upd ((q).2.2.2.2.2.2) (((65) + ((4) * (R))) + (0)) (kd)) (((65) + ((4) * (R))) + (1)) (dz)) (((65) + ((4) * (R))) + (2)) (fg))) 81 (upd (upd (upd (upd ((q).2.2.2.2.2.2) (((65) + ((4) * (R))) + (0)) (kd)) (((65) + ((4) * (R))) + (1)) (dz)) (((65) + ((4) * (R))) + (2)) (fg)) (((65) + ((4) * (R))) + (3)) (nI ((q).2.2.2.2.2.1)))) 81 (upd (upd (upd (upd (upd ((q).2.2.2.2.2.2) (((65) + ((4) * (R))) + (0)) (kd)) (((65) + ((4) * (R))) + (1)) (dz)) (((65) + ((4) * (R))) + (2)) (fg)) (((65) + ((4) * (R))) + (3)) (nI ((q).2.2.2.2.2.1))) 1 (nI ((R) + (1))))) y E) d_X10_rule_245 (hp_81 _ _ _ _ _) (kin rfl) ((hpa_81 _ _ _ _ _ _)) ?_
    refine wp_vret d_X10_rule_246 rfl ?_
    have hq9 : rE kd dz fg q = (q.1, q.2.1, q.2.2.1, q.2.2.2.1, q.2.2.2.2.1, q.2.2.2.2.2.1, rse q.2.2.2.2.2.2 R kd dz fg q.2.2.2.2.2.1) := by
      unfold rE
      rw [if_neg zc175, hs2]
    refine ⟨rfl, y, ?_, by rw [hq9]; exact hx⟩
    rw [hq9]
    simp only [setA_idem]
    rfl
theorem s_X10_rule_D {X : kX} {d : Nat} {c w m v : kZ} {E : kH} {T : Nat} (hT : m.1 8024 = nI T) (hT2 : T ≤ 200) {kd dz : Int32} {wd : Int64} {R : Nat} {q : kRt} {y : kZ} (hx : kMx v q y) {a : Int} (ha : 0 ≤ a) (hj : kRJ T a q) (hs : q.2.2.1 = false → q.2.2.2.2.2.2 1 = nI R ∧ R < 8) : WP X (d + 19) 0 0 Y_X10_rule 136 [(4, .int (dz)), (2, .long (wd)), (1, .int (kd)), (0, .ref (80))] [] (HP c w (setA m 81 ((q).2.2.2.2.2.2)) y E) (fun r1 h1 => r1 = none ∧ ∃ y1 : kZ, h1 = HP c w (setA m 81 ((rD (m.2.1 94) T kd dz q).2.2.2.2.2.2)) y1 E ∧ kMx v (rD (m.2.1 94) T kd dz q) y1) := by
  refine wp_aload_n 3 d_X10_rule_136 rfl rfl ?_
  refine wp_getfield (v := .int ((q).2.2.2.1)) d_X10_rule_137 gf_X10_314 (hp_80 _ _ _ _ _) (congrArg (fun z => some (Value.int z)) hx.2.2.2.1) ?_
  refine wp_istore [(5, .int ((q).2.2.2.1)), (4, .int (dz)), (2, .long (wd)), (1, .int (kd)), (0, .ref (80))] d_X10_rule_140 (Nat.le_of_ble_eq_true rfl) rfl ?_
  refine wp_aload_n 4 d_X10_rule_142 rfl rfl ?_
  refine wp_aload_n 4 d_X10_rule_143 rfl rfl ?_
  refine wp_getfield (v := .int (kb ((q).2.2.1 = true))) d_X10_rule_144 gf_X10_303 (hp_80 _ _ _ _ _) (congrArg (fun z => some (Value.int z)) hx.2.2.1) ?_
  refine wp_ifb_ne 167 d_X10_rule_147 rfl (fun zc147 => ?_) (fun zc147 => ?_)
  · refine wp_iconst (v0 := 0) d_X10_rule_167 rfl ?_
    refine wp_virtual0 (As := [.int (0)]) d_X10_rule_168 lk_X10_317 mv_X10_wants in_X10_wants se_X10_wants (Nat.le_of_ble_eq_true rfl) (Nat.le_of_ble_eq_true rfl) (hp_80 _ _ _ _ _) rfl (s_X10_wantsS hT hT2 hx hj.2.1 (false)) (fun v168 h168 q168 => ?_)
    obtain ⟨rfl, y168, rfl, hx168⟩ := q168
    have hj168 := hj.want0 (t := (m.2.1 94)) (b := false)
    show WP _ _ _ _ _ 171 _ [] (HP c w (setA m 81 ((rwant (m.2.1 94) T (false) (q)).2.2.2.2.2.2)) y168 E) _
    have hb9 : decide (q.2.2.1 = false ∧ qby (m.2.1 94) T q.1 = 59) = false := decide_eq_false (fun z => absurd (Eq.trans (Eq.symm zc147) z.1) (by decide))
    rw [show rD (m.2.1 94) T kd dz q = rE kd dz q.2.2.2.1 (rwant (m.2.1 94) T (false) (q)) from by unfold rD; rw [hb9]]
    refine wp_sub [(5, .int ((q).2.2.2.1)), (4, .int (dz)), (2, .long (wd)), (1, .int (kd)), (0, .ref (80))] [0, 1, 2, 3, 4] rfl ?_
    exact s_X10_rule_E (R := R) hT hT2 hx168 (fun e => by rw [rwant_s]; exact hs (Bool.not_eq_true _ |>.mp (fun z => by rw [show rwant (m.2.1 94) T (false) q = _ from if_pos (Or.inl z)] at e; cases e)))
  · refine wp_aload_n 4 d_X10_rule_150 rfl rfl ?_
    refine wp_aload_n 4 d_X10_rule_151 rfl rfl ?_
    refine wp_getfield (v := .int (nI ((q).1))) d_X10_rule_152 gf_X10_291 (hp_80 _ _ _ _ _) (congrArg (fun z => some (Value.int z)) hx.1) ?_
    refine wp_vrt_i (As := [.int (nI ((q).1))]) (x0 := qby (m.2.1 94) T ((q).1)) (h1 := HP c w (setA m 81 ((q).2.2.2.2.2.2)) y E) d_X10_rule_155 lk_X10_294 mv_X10_byteAt in_X10_byteAt se_X10_byteAt (Nat.le_of_ble_eq_true rfl) (Nat.le_of_ble_eq_true rfl) (hp_80 _ _ _ _ _) rfl (s_X10_byteAt hT hT2 (k := (q).1) (Nat.le_trans hj.1 (Nat.le_trans hj.2.1 hT2))) ?_
    refine wp_bipush (v0 := 59) d_X10_rule_158 (by decide) ?_
    refine wp_icmp_ne 167 d_X10_rule_160 rfl (fun zc160 => ?_) (fun zc160 => ?_)
    · refine wp_iconst (v0 := 0) d_X10_rule_167 rfl ?_
      refine wp_virtual0 (As := [.int (0)]) d_X10_rule_168 lk_X10_317 mv_X10_wants in_X10_wants se_X10_wants (Nat.le_of_ble_eq_true rfl) (Nat.le_of_ble_eq_true rfl) (hp_80 _ _ _ _ _) rfl (s_X10_wantsS hT hT2 hx hj.2.1 (false)) (fun v168 h168 q168 => ?_)
      obtain ⟨rfl, y168, rfl, hx168⟩ := q168
      have hj168 := hj.want0 (t := (m.2.1 94)) (b := false)
      show WP _ _ _ _ _ 171 _ [] (HP c w (setA m 81 ((rwant (m.2.1 94) T (false) (q)).2.2.2.2.2.2)) y168 E) _
      have hb9 : decide (q.2.2.1 = false ∧ qby (m.2.1 94) T q.1 = 59) = false := decide_eq_false (fun z => zc160 z.2)
      rw [show rD (m.2.1 94) T kd dz q = rE kd dz q.2.2.2.1 (rwant (m.2.1 94) T (false) (q)) from by unfold rD; rw [hb9]]
      refine wp_sub [(5, .int ((q).2.2.2.1)), (4, .int (dz)), (2, .long (wd)), (1, .int (kd)), (0, .ref (80))] [0, 1, 2, 3, 4] rfl ?_
      exact s_X10_rule_E (R := R) hT hT2 hx168 (fun e => by rw [rwant_s]; exact hs (Bool.not_eq_true _ |>.mp (fun z => by rw [show rwant (m.2.1 94) T (false) q = _ from if_pos (Or.inl z)] at e; cases e)))
    · refine wp_iconst (v0 := 1) d_X10_rule_163 rfl ?_
      refine wp_goto 168 d_X10_rule_164 rfl ?_
      refine wp_virtual0 (As := [.int (1)]) d_X10_rule_168 lk_X10_317 mv_X10_wants in_X10_wants se_X10_wants (Nat.le_of_ble_eq_true rfl) (Nat.le_of_ble_eq_true rfl) (hp_80 _ _ _ _ _) rfl (s_X10_wantsS hT hT2 hx hj.2.1 (true)) (fun v168 h168 q168 => ?_)
      obtain ⟨rfl, y168, rfl, hx168⟩ := q168
      have hj168 := hj.want0 (t := (m.2.1 94)) (b := true)
      show WP _ _ _ _ _ 171 _ [] (HP c w (setA m 81 ((rwant (m.2.1 94) T (true) (q)).2.2.2.2.2.2)) y168 E) _
      have hb9 : decide (q.2.2.1 = false ∧ qby (m.2.1 94) T q.1 = 59) = true := decide_eq_true ⟨Bool.not_eq_true _ |>.mp zc147, zc160⟩
      rw [show rD (m.2.1 94) T kd dz q = rE kd dz q.2.2.2.1 (rwant (m.2.1 94) T (true) (q)) from by unfold rD; rw [hb9]]
      refine wp_sub [(5, .int ((q).2.2.2.1)), (4, .int (dz)), (2, .long (wd)), (1, .int (kd)), (0, .ref (80))] [0, 1, 2, 3, 4] rfl ?_
      exact s_X10_rule_E (R := R) hT hT2 hx168 (fun e => by rw [rwant_s]; exact hs (Bool.not_eq_true _ |>.mp (fun z => by rw [show rwant (m.2.1 94) T (true) q = _ from if_pos (Or.inl z)] at e; cases e)))
theorem s_X10_rule_C {X : kX} {d : Nat} {c w m v : kZ} {E : kH} {T : Nat} (hT : m.1 8024 = nI T) (hT2 : T ≤ 200) {kd dz : Int32} {wd : Int64} {R : Nat} {q : kRt} {y : kZ} (hx : kMx v q y) {a : Int} (ha : 0 ≤ a) (hj : kRJ T a q) (hs : q.2.2.1 = false → q.2.2.2.2.2.2 1 = nI R ∧ R < 8) : WP X (d + 19) 0 0 Y_X10_rule 107 [(4, .int (dz)), (2, .long (wd)), (1, .int (kd)), (0, .ref (80))] [] (HP c w (setA m 81 ((q).2.2.2.2.2.2)) y E) (fun r1 h1 => r1 = none ∧ ∃ y1 : kZ, h1 = HP c w (setA m 81 ((rC (m.2.1 94) T kd dz q).2.2.2.2.2.2)) y1 E ∧ kMx v (rC (m.2.1 94) T kd dz q) y1) := by
  refine wp_aload_n 3 d_X10_rule_107 rfl rfl ?_
  refine wp_iconst (v0 := 0) d_X10_rule_108 rfl ?_
  refine wp_putfield (h' := HP c w (setA m 81 ((q).2.2.2.2.2.2)) (setS y 8027 (0)) E) d_X10_rule_109 gp_X10_314 (kfit_i _) (hp_80 _ _ _ _ _) (Nat.le_of_ble_eq_true rfl) (hps_80_27 _ _ _ _ _ _) ?_
  refine wp_iload 0 d_X10_rule_112 rfl ?_
  refine wp_if_lt 136 d_X10_rule_114 rfl (fun zc114 => ?_) (fun zc114 => ?_)
  · rw [show rC (m.2.1 94) T kd dz q = rD (m.2.1 94) T kd dz (rval q 0) from congrArg (rD (m.2.1 94) T kd dz) (if_neg (fun z => Int32.not_le.mpr zc114 z.1))]
    refine wp_sub [(4, .int (dz)), (2, .long (wd)), (1, .int (kd)), (0, .ref (80))] [0, 1, 2, 3] rfl ?_
    exact s_X10_rule_D (R := R) hT hT2 (q := (rval q 0)) (hx.val 0) (by omega) hj hs
  · refine wp_iload 0 d_X10_rule_117 rfl ?_
    refine wp_iconst (v0 := 2) d_X10_rule_119 rfl ?_
    refine wp_icmp_eq 136 d_X10_rule_120 rfl (fun zc120 => ?_) (fun zc120 => ?_)
    · rw [show rC (m.2.1 94) T kd dz q = rD (m.2.1 94) T kd dz (rval q 0) from congrArg (rD (m.2.1 94) T kd dz) (if_neg (fun z => z.2.1 zc120))]
      refine wp_sub [(4, .int (dz)), (2, .long (wd)), (1, .int (kd)), (0, .ref (80))] [0, 1, 2, 3] rfl ?_
      exact s_X10_rule_D (R := R) hT hT2 (q := (rval q 0)) (hx.val 0) (by omega) hj hs
    · refine wp_aload_n 3 d_X10_rule_123 rfl rfl ?_
      refine wp_getfield (v := .int (kb ((q).2.2.1 = true))) d_X10_rule_124 gf_X10_303 (hp_80 _ _ _ _ _) (congrArg (fun z => some (Value.int z)) hx.2.2.1) ?_
      refine wp_ifb_ne 136 d_X10_rule_127 rfl (fun zc127 => ?_) (fun zc127 => ?_)
      · rw [show rC (m.2.1 94) T kd dz q = rD (m.2.1 94) T kd dz (rval q 0) from congrArg (rD (m.2.1 94) T kd dz) (if_neg (fun z => absurd (Eq.trans (Eq.symm zc127) z.2.2) (by decide)))]
        refine wp_sub [(4, .int (dz)), (2, .long (wd)), (1, .int (kd)), (0, .ref (80))] [0, 1, 2, 3] rfl ?_
        exact s_X10_rule_D (R := R) hT hT2 (q := (rval q 0)) (hx.val 0) (by omega) hj hs
      · refine wp_aload_n 3 d_X10_rule_130 rfl rfl ?_
        refine wp_bipush (v0 := 99) d_X10_rule_131 (by decide) ?_
        refine wp_virtual0 (As := [.int (99)]) d_X10_rule_133 lk_X10_356 mv_X10_number in_X10_number se_X10_number (Nat.le_of_ble_eq_true rfl) (Nat.le_of_ble_eq_true rfl) (hp_80 _ _ _ _ _) rfl (s_X10_numberS hT hT2 (hx.val 0) hj.1 hj.2.1 (99)) (fun v133 h133 q133 => ?_)
        obtain ⟨rfl, y133, rfl, hx133⟩ := q133
        have hj133 := hj.num (t := (m.2.1 94)) (x := 99)
        show WP _ _ _ _ _ 136 _ [] (HP c w (setA m 81 ((rnum (m.2.1 94) T (99) ((rval q 0))).2.2.2.2.2.2)) y133 E) _
        rw [show rC (m.2.1 94) T kd dz q = rD (m.2.1 94) T kd dz (rnum (m.2.1 94) T 99 (rval q 0)) from congrArg (rD (m.2.1 94) T kd dz) (if_pos ⟨Int32.not_lt.mp zc114, zc120, Bool.not_eq_true _ |>.mp zc127⟩)]
        refine wp_sub [(4, .int (dz)), (2, .long (wd)), (1, .int (kd)), (0, .ref (80))] [0, 1, 2, 3] rfl ?_
        exact s_X10_rule_D (R := R) hT hT2 (q := (rnum (m.2.1 94) T 99 (rval q 0))) hx133 (by omega) hj133 (fun _ => by rw [rnum_s]; exact hs (Bool.not_eq_true _ |>.mp zc127))
theorem s_X10_rule_B {X : kX} {d : Nat} {c w m v : kZ} {E : kH} {T : Nat} (hT : m.1 8024 = nI T) (hT2 : T ≤ 200) {kd : Int32} {R : Nat} {q : kRt} {y : kZ} (hx : kMx v q y) {a : Int} (ha : 0 ≤ a) (hj : kRJ T a q) (hs : q.2.2.1 = false → q.2.2.2.2.2.2 1 = nI R ∧ R < 8) : WP X (d + 19) 0 0 Y_X10_rule 49 [(1, .int (kd)), (0, .ref (80))] [] (HP c w (setA m 81 ((q).2.2.2.2.2.2)) y E) (fun r1 h1 => r1 = none ∧ ∃ y1 : kZ, h1 = HP c w (setA m 81 ((rB (m.2.1 94) T kd q).2.2.2.2.2.2)) y1 E ∧ kMx v (rB (m.2.1 94) T kd q) y1) := by
  refine wp_aload_n 1 d_X10_rule_49 rfl rfl ?_
  refine wp_vrt_l (As := []) (x0 := rword (m.2.1 94) T (q)) (h1 := HP c w (setA m 81 ((q).2.2.2.2.2.2)) y E) d_X10_rule_50 lk_X10_321 mv_X10_word in_X10_word se_X10_word (Nat.le_of_ble_eq_true rfl) (Nat.le_of_ble_eq_true rfl) (hp_80 _ _ _ _ _) rfl (s_X10_word hT hT2 hx hj.1 hj.2.1) ?_
  refine wp_lstore_n [(2, .long (rword (m.2.1 94) T (q))), (1, .int (kd)), (0, .ref (80))] d_X10_rule_53 rfl (Nat.le_of_ble_eq_true rfl) rfl ?_
  refine wp_lload_n 0 d_X10_rule_54 rfl rfl ?_
  refine wp_ldc2 (v0 := 441925) d_X10_rule_55 cl_X10_388 ?_
  refine wp_lcmp d_X10_rule_58 ?_
  refine wp_if_ne 66 d_X10_rule_59 rfl (fun zc59 => ?_) (fun zc59 => ?_)
  · refine wp_lload_n 0 d_X10_rule_66 rfl rfl ?_
    refine wp_ldc2 (v0 := 398963) d_X10_rule_67 cl_X10_390 ?_
    refine wp_lcmp d_X10_rule_70 ?_
    refine wp_if_ne 78 d_X10_rule_71 rfl (fun zc71 => ?_) (fun zc71 => ?_)
    · refine wp_lload_n 0 d_X10_rule_78 rfl rfl ?_
      refine wp_ldc2 (v0 := 208948) d_X10_rule_79 cl_X10_392 ?_
      refine wp_lcmp d_X10_rule_82 ?_
      refine wp_if_ne 90 d_X10_rule_83 rfl (fun zc83 => ?_) (fun zc83 => ?_)
      · refine wp_iconst (v0 := -1) d_X10_rule_90 rfl ?_
        refine wp_istore [(4, .int ((-1))), (2, .long (rword (m.2.1 94) T (q))), (1, .int (kd)), (0, .ref (80))] d_X10_rule_91 (Nat.le_of_ble_eq_true rfl) rfl ?_
        refine wp_aload_n 3 d_X10_rule_93 rfl rfl ?_
        refine wp_iload 0 d_X10_rule_94 rfl ?_
        refine wp_if_lt 103 d_X10_rule_96 rfl (fun _ => ?_) (fun z => absurd z (by decide))
        refine wp_iconst (v0 := 0) d_X10_rule_103 rfl ?_
        refine wp_virtual0 (As := [.int (0)]) d_X10_rule_104 lk_X10_317 mv_X10_wants in_X10_wants se_X10_wants (Nat.le_of_ble_eq_true rfl) (Nat.le_of_ble_eq_true rfl) (hp_80 _ _ _ _ _) rfl (s_X10_wantsS hT hT2 hx hj.2.1 (false)) (fun v104 h104 q104 => ?_)
        obtain ⟨rfl, y104, rfl, hx104⟩ := q104
        have hj104 := hj.want0 (t := (m.2.1 94)) (b := false)
        show WP _ _ _ _ _ 107 _ [] (HP c w (setA m 81 ((rwant (m.2.1 94) T (false) (q)).2.2.2.2.2.2)) y104 E) _
        have hd9 : rdo (rword (m.2.1 94) T q) = (-1) := by unfold rdo; rw [if_neg (fun z => zc59 (lg_eq9.mpr z)), if_neg (fun z => zc71 (lg_eq9.mpr z)), if_neg (fun z => zc83 (lg_eq9.mpr z))]
        rw [show rB (m.2.1 94) T kd q = rC (m.2.1 94) T kd (-1) (rwant (m.2.1 94) T false q) from by unfold rB; rw [hd9]; rfl]
        refine wp_sub [(4, .int ((-1))), (2, .long (rword (m.2.1 94) T (q))), (1, .int (kd)), (0, .ref (80))] [0, 1, 2, 3] rfl ?_
        exact s_X10_rule_C (R := R) hT hT2 hx104 ha hj104 (fun e => by rw [rwant_s]; exact hs (Bool.not_eq_true _ |>.mp (fun z => by rw [show rwant (m.2.1 94) T false q = _ from if_pos (Or.inl z)] at e; cases e)))
      · refine wp_iconst (v0 := 2) d_X10_rule_86 rfl ?_
        refine wp_goto 91 d_X10_rule_87 rfl ?_
        refine wp_istore [(4, .int (2)), (2, .long (rword (m.2.1 94) T (q))), (1, .int (kd)), (0, .ref (80))] d_X10_rule_91 (Nat.le_of_ble_eq_true rfl) rfl ?_
        refine wp_aload_n 3 d_X10_rule_93 rfl rfl ?_
        refine wp_iload 0 d_X10_rule_94 rfl ?_
        refine wp_if_lt 103 d_X10_rule_96 rfl (fun z => absurd z (by decide)) (fun _ => ?_)
        refine wp_iconst (v0 := 1) d_X10_rule_99 rfl ?_
        refine wp_goto 104 d_X10_rule_100 rfl ?_
        refine wp_virtual0 (As := [.int (1)]) d_X10_rule_104 lk_X10_317 mv_X10_wants in_X10_wants se_X10_wants (Nat.le_of_ble_eq_true rfl) (Nat.le_of_ble_eq_true rfl) (hp_80 _ _ _ _ _) rfl (s_X10_wantsS hT hT2 hx hj.2.1 (true)) (fun v104 h104 q104 => ?_)
        obtain ⟨rfl, y104, rfl, hx104⟩ := q104
        have hj104 := hj.want0 (t := (m.2.1 94)) (b := true)
        show WP _ _ _ _ _ 107 _ [] (HP c w (setA m 81 ((rwant (m.2.1 94) T (true) (q)).2.2.2.2.2.2)) y104 E) _
        have hd9 : rdo (rword (m.2.1 94) T q) = 2 := by unfold rdo; rw [if_neg (fun z => zc59 (lg_eq9.mpr z)), if_neg (fun z => zc71 (lg_eq9.mpr z)), if_pos (lg_eq9.mp zc83)]
        rw [show rB (m.2.1 94) T kd q = rC (m.2.1 94) T kd 2 (rwant (m.2.1 94) T true q) from by unfold rB; rw [hd9]; rfl]
        refine wp_sub [(4, .int (2)), (2, .long (rword (m.2.1 94) T (q))), (1, .int (kd)), (0, .ref (80))] [0, 1, 2, 3] rfl ?_
        exact s_X10_rule_C (R := R) hT hT2 hx104 ha hj104 (fun e => by rw [rwant_s]; exact hs (Bool.not_eq_true _ |>.mp (fun z => by rw [show rwant (m.2.1 94) T true q = _ from if_pos (Or.inl z)] at e; cases e)))
    · refine wp_iconst (v0 := 1) d_X10_rule_74 rfl ?_
      refine wp_goto 91 d_X10_rule_75 rfl ?_
      refine wp_istore [(4, .int (1)), (2, .long (rword (m.2.1 94) T (q))), (1, .int (kd)), (0, .ref (80))] d_X10_rule_91 (Nat.le_of_ble_eq_true rfl) rfl ?_
      refine wp_aload_n 3 d_X10_rule_93 rfl rfl ?_
      refine wp_iload 0 d_X10_rule_94 rfl ?_
      refine wp_if_lt 103 d_X10_rule_96 rfl (fun z => absurd z (by decide)) (fun _ => ?_)
      refine wp_iconst (v0 := 1) d_X10_rule_99 rfl ?_
      refine wp_goto 104 d_X10_rule_100 rfl ?_
      refine wp_virtual0 (As := [.int (1)]) d_X10_rule_104 lk_X10_317 mv_X10_wants in_X10_wants se_X10_wants (Nat.le_of_ble_eq_true rfl) (Nat.le_of_ble_eq_true rfl) (hp_80 _ _ _ _ _) rfl (s_X10_wantsS hT hT2 hx hj.2.1 (true)) (fun v104 h104 q104 => ?_)
      obtain ⟨rfl, y104, rfl, hx104⟩ := q104
      have hj104 := hj.want0 (t := (m.2.1 94)) (b := true)
      show WP _ _ _ _ _ 107 _ [] (HP c w (setA m 81 ((rwant (m.2.1 94) T (true) (q)).2.2.2.2.2.2)) y104 E) _
      have hd9 : rdo (rword (m.2.1 94) T q) = 1 := by unfold rdo; rw [if_neg (fun z => zc59 (lg_eq9.mpr z)), if_pos (lg_eq9.mp zc71)]
      rw [show rB (m.2.1 94) T kd q = rC (m.2.1 94) T kd 1 (rwant (m.2.1 94) T true q) from by unfold rB; rw [hd9]; rfl]
      refine wp_sub [(4, .int (1)), (2, .long (rword (m.2.1 94) T (q))), (1, .int (kd)), (0, .ref (80))] [0, 1, 2, 3] rfl ?_
      exact s_X10_rule_C (R := R) hT hT2 hx104 ha hj104 (fun e => by rw [rwant_s]; exact hs (Bool.not_eq_true _ |>.mp (fun z => by rw [show rwant (m.2.1 94) T true q = _ from if_pos (Or.inl z)] at e; cases e)))
  · refine wp_iconst (v0 := 0) d_X10_rule_62 rfl ?_
    refine wp_goto 91 d_X10_rule_63 rfl ?_
    refine wp_istore [(4, .int (0)), (2, .long (rword (m.2.1 94) T (q))), (1, .int (kd)), (0, .ref (80))] d_X10_rule_91 (Nat.le_of_ble_eq_true rfl) rfl ?_
    refine wp_aload_n 3 d_X10_rule_93 rfl rfl ?_
    refine wp_iload 0 d_X10_rule_94 rfl ?_
    refine wp_if_lt 103 d_X10_rule_96 rfl (fun z => absurd z (by decide)) (fun _ => ?_)
    refine wp_iconst (v0 := 1) d_X10_rule_99 rfl ?_
    refine wp_goto 104 d_X10_rule_100 rfl ?_
    refine wp_virtual0 (As := [.int (1)]) d_X10_rule_104 lk_X10_317 mv_X10_wants in_X10_wants se_X10_wants (Nat.le_of_ble_eq_true rfl) (Nat.le_of_ble_eq_true rfl) (hp_80 _ _ _ _ _) rfl (s_X10_wantsS hT hT2 hx hj.2.1 (true)) (fun v104 h104 q104 => ?_)
    obtain ⟨rfl, y104, rfl, hx104⟩ := q104
    have hj104 := hj.want0 (t := (m.2.1 94)) (b := true)
    show WP _ _ _ _ _ 107 _ [] (HP c w (setA m 81 ((rwant (m.2.1 94) T (true) (q)).2.2.2.2.2.2)) y104 E) _
    have hd9 : rdo (rword (m.2.1 94) T q) = 0 := by unfold rdo; rw [if_pos (lg_eq9.mp zc59)]
    rw [show rB (m.2.1 94) T kd q = rC (m.2.1 94) T kd 0 (rwant (m.2.1 94) T true q) from by unfold rB; rw [hd9]; rfl]
    refine wp_sub [(4, .int (0)), (2, .long (rword (m.2.1 94) T (q))), (1, .int (kd)), (0, .ref (80))] [0, 1, 2, 3] rfl ?_
    exact s_X10_rule_C (R := R) hT hT2 hx104 ha hj104 (fun e => by rw [rwant_s]; exact hs (Bool.not_eq_true _ |>.mp (fun z => by rw [show rwant (m.2.1 94) T true q = _ from if_pos (Or.inl z)] at e; cases e)))
theorem s_X10_rule_A {X : kX} {d : Nat} {c w m v : kZ} {E : kH} {T : Nat} (hT : m.1 8024 = nI T) (hT2 : T ≤ 200) {kd : Int32} {R : Nat} {q : kRt} {y : kZ} (hx : kMx v q y) (ho : q.2.2.2.2.1 = 0) {a : Int} (ha : 0 ≤ a) (hj : kRJ T a q) (hs : q.2.2.1 = false → q.2.2.2.2.2.2 1 = nI R ∧ R < 8) : WP X (d + 19) 0 0 Y_X10_rule 29 [(1, .int (kd)), (0, .ref (80))] [] (HP c w (setA m 81 ((q).2.2.2.2.2.2)) y E) (fun r1 h1 => r1 = none ∧ ∃ y1 : kZ, h1 = HP c w (setA m 81 ((rA (m.2.1 94) T kd q).2.2.2.2.2.2)) y1 E ∧ kMx v (rA (m.2.1 94) T kd q) y1) := by
  refine wp_aload_n 1 d_X10_rule_29 rfl rfl ?_
  refine wp_vrt_l (As := []) (x0 := rword (m.2.1 94) T (q)) (h1 := HP c w (setA m 81 ((q).2.2.2.2.2.2)) y E) d_X10_rule_30 lk_X10_321 mv_X10_word in_X10_word se_X10_word (Nat.le_of_ble_eq_true rfl) (Nat.le_of_ble_eq_true rfl) (hp_80 _ _ _ _ _) rfl (s_X10_word hT hT2 hx hj.1 hj.2.1) ?_
  refine wp_ldc2 (v0 := 294) d_X10_rule_33 cl_X10_386 ?_
  refine wp_lcmp d_X10_rule_36 ?_
  refine wp_if_ne 49 d_X10_rule_37 rfl (fun zc37 => ?_) (fun zc37 => ?_)
  · rw [show rA (m.2.1 94) T kd q = rB (m.2.1 94) T kd q from congrArg (rB (m.2.1 94) T kd) (if_neg (fun z => zc37 (lg_eq9.mpr z)))]
    exact s_X10_rule_B (R := R) hT hT2 hx ha hj hs
  · have hw9 : q.2.2.1 = false := Bool.not_eq_true _ |>.mp (fun z => rw_ne (lg_eq9.mp zc37) (by decide) (if_pos (Or.inl z)))
    refine wp_aload_n 1 d_X10_rule_40 rfl rfl ?_
    refine wp_iconst (v0 := 1) d_X10_rule_41 rfl ?_
    refine wp_virtual0 (As := [.int (1)]) d_X10_rule_42 lk_X10_317 mv_X10_wants in_X10_wants se_X10_wants (Nat.le_of_ble_eq_true rfl) (Nat.le_of_ble_eq_true rfl) (hp_80 _ _ _ _ _) rfl (s_X10_wantsS hT hT2 hx hj.2.1 (true)) (fun v42 h42 q42 => ?_)
    obtain ⟨rfl, y42, rfl, hx42⟩ := q42
    have hj42 := hj.want0 (t := (m.2.1 94)) (b := true)
    show WP _ _ _ _ _ 45 _ [] (HP c w (setA m 81 ((rwant (m.2.1 94) T (true) (q)).2.2.2.2.2.2)) y42 E) _
    refine wp_aload_n 1 d_X10_rule_45 rfl rfl ?_
    refine wp_virtual0 (As := []) d_X10_rule_46 lk_X10_367 mv_X10_condition in_X10_condition se_X10_condition (Nat.le_of_ble_eq_true rfl) (Nat.le_of_ble_eq_true rfl) (hp_80 _ _ _ _ _) rfl (s_X10_clev hT hT2 4 _ _ _ ha hx42 hj42 (Or.inr (by rw [rwant_o, ho]; omega))) (fun v46 h46 q46 => ?_)
    obtain ⟨rfl, y46, rfl, hx46⟩ := q46
    have hj46 := (kRG.cond (t := m.2.1 94) 4 _ _ hj42).1
    show WP _ _ _ _ _ 49 _ [] (HP c w (setA m 81 ((rcond (m.2.1 94) T 4 (rwant (m.2.1 94) T (true) (q))).2.2.2.2.2.2)) y46 E) _
    rw [show rA (m.2.1 94) T kd q = rB (m.2.1 94) T kd (rcond (m.2.1 94) T 4 (rwant (m.2.1 94) T (true) (q))) from congrArg (rB (m.2.1 94) T kd) (if_pos (lg_eq9.mp zc37))]
    exact s_X10_rule_B (R := R) hT hT2 hx46 ha hj46 (fun _ => by rw [kRs.cond 4 _ _ (by omega), rwant_s]; exact hs hw9)
theorem nI_lt8 {R : Nat} (h : ¬ 8 ≤ R) : nI R < 8 := by
  have : ∀ r : Fin 8, nI r.val < 8 := by decide
  exact this ⟨R, by omega⟩
theorem nI_ge8 {R : Nat} (hR : R ≤ 8) (h : 8 ≤ R) : ¬ nI R < 8 := by
  obtain rfl : R = 8 := by omega
  decide
theorem s_X10_rule {X : kX} {d : Nat} {c w m v : kZ} {E : kH} {T : Nat} (hT : m.1 8024 = nI T) (hT2 : T ≤ 200) {R : Nat} {q : kRt} {y : kZ} (hx : kMx v q y) {a : Int} (ha : 0 ≤ a) (hj : kRJ T a q) (ho : q.2.2.2.2.1 = 0) (hs1 : q.2.2.2.2.2.2 1 = nI R) (hR : R ≤ 8) : WP X (d + 19) 0 0 Y_X10_rule 0 [(0, .ref (80))] [] (HP c w (setA m 81 ((q).2.2.2.2.2.2)) y E) (fun r1 h1 => r1 = none ∧ ∃ y1 : kZ, h1 = HP c w (setA m 81 ((rrule (m.2.1 94) T q).2.2.2.2.2.2)) y1 E ∧ kMx v (rrule (m.2.1 94) T q) y1) := by
  refine wp_aload_n 0 d_X10_rule_0 rfl rfl ?_
  refine wp_vrt_i (As := []) (x0 := rkd (rword (m.2.1 94) T (q))) (h1 := HP c w (setA m 81 ((q).2.2.2.2.2.2)) y E) d_X10_rule_1 lk_X10_383 mv_X10_kindHere in_X10_kindHere se_X10_kindHere (Nat.le_of_ble_eq_true rfl) (Nat.le_of_ble_eq_true rfl) (hp_80 _ _ _ _ _) rfl (s_X10_kindHere hT hT2 hx hj.1 hj.2.1) ?_
  refine wp_istore_n [(1, .int (rkd (rword (m.2.1 94) T (q)))), (0, .ref (80))] d_X10_rule_4 rfl (Nat.le_of_ble_eq_true rfl) rfl ?_
  refine wp_aload_n 1 d_X10_rule_5 rfl rfl ?_
  refine wp_iload_n 0 d_X10_rule_6 rfl rfl ?_
  refine wp_if_lt 25 d_X10_rule_7 rfl (fun zc7 => ?_) (fun zc7 => ?_)
  · refine wp_iconst (v0 := 0) d_X10_rule_25 rfl ?_
    refine wp_virtual0 (As := [.int (0)]) d_X10_rule_26 lk_X10_317 mv_X10_wants in_X10_wants se_X10_wants (Nat.le_of_ble_eq_true rfl) (Nat.le_of_ble_eq_true rfl) (hp_80 _ _ _ _ _) rfl (s_X10_wantsS hT hT2 hx hj.2.1 (false)) (fun v26 h26 q26 => ?_)
    obtain ⟨rfl, y26, rfl, hx26⟩ := q26
    have hj26 := hj.want0 (t := (m.2.1 94)) (b := false)
    show WP _ _ _ _ _ 29 _ [] (HP c w (setA m 81 ((rwant (m.2.1 94) T (false) (q)).2.2.2.2.2.2)) y26 E) _
    have hb9 : decide (0 ≤ rkd (rword (m.2.1 94) T q) ∧ q.2.2.2.2.2.2 1 < 8) = false := decide_eq_false (fun z => Int32.not_le.mpr zc7 z.1)
    rw [show rrule (m.2.1 94) T q = rA (m.2.1 94) T (rkd (rword (m.2.1 94) T q)) (rwant (m.2.1 94) T (false) (q)) from by unfold rrule; rw [hb9]]
    exact s_X10_rule_A (R := R) hT hT2 hx26 (by rw [rwant_o]; exact ho) ha hj26 (fun e => by rw [rwant_s]; rw [show rwant (m.2.1 94) T (false) q = _ from if_pos (Or.inr (fun z => by cases z))] at e; cases e)
  · refine wp_aload_n 1 d_X10_rule_10 rfl rfl ?_
    refine wp_getfield (v := .ref (81)) d_X10_rule_11 gf_X10_7 (hp_80 _ _ _ _ _) rfl ?_
    refine wp_iconst (v0 := 1) d_X10_rule_14 rfl ?_
    refine wp_iaload (v := nI (R)) d_X10_rule_15 (hp_81 _ _ _ _ _) (kin rfl) hs1 ?_
    refine wp_bipush (v0 := 8) d_X10_rule_16 (by decide) ?_
    refine wp_ncmp_ge (a := R) (b := 8) 25 d_X10_rule_18 rfl (by omega) (by omega) (fun zc18 => ?_) (fun zc18 => ?_)
    · have h8 : ¬ q.2.2.2.2.2.2 1 < 8 := by rw [hs1]; exact nI_ge8 hR (by omega)
      refine wp_iconst (v0 := 0) d_X10_rule_25 rfl ?_
      refine wp_virtual0 (As := [.int (0)]) d_X10_rule_26 lk_X10_317 mv_X10_wants in_X10_wants se_X10_wants (Nat.le_of_ble_eq_true rfl) (Nat.le_of_ble_eq_true rfl) (hp_80 _ _ _ _ _) rfl (s_X10_wantsS hT hT2 hx hj.2.1 (false)) (fun v26 h26 q26 => ?_)
      obtain ⟨rfl, y26, rfl, hx26⟩ := q26
      have hj26 := hj.want0 (t := (m.2.1 94)) (b := false)
      show WP _ _ _ _ _ 29 _ [] (HP c w (setA m 81 ((rwant (m.2.1 94) T (false) (q)).2.2.2.2.2.2)) y26 E) _
      have hb9 : decide (0 ≤ rkd (rword (m.2.1 94) T q) ∧ q.2.2.2.2.2.2 1 < 8) = false := decide_eq_false (fun z => h8 z.2)
      rw [show rrule (m.2.1 94) T q = rA (m.2.1 94) T (rkd (rword (m.2.1 94) T q)) (rwant (m.2.1 94) T (false) (q)) from by unfold rrule; rw [hb9]]
      exact s_X10_rule_A (R := R) hT hT2 hx26 (by rw [rwant_o]; exact ho) ha hj26 (fun e => by rw [rwant_s]; rw [show rwant (m.2.1 94) T (false) q = _ from if_pos (Or.inr (fun z => by cases z))] at e; cases e)
    · have h8 : q.2.2.2.2.2.2 1 < 8 := by rw [hs1]; exact nI_lt8 (by omega)
      refine wp_iconst (v0 := 1) d_X10_rule_21 rfl ?_
      refine wp_goto 26 d_X10_rule_22 rfl ?_
      refine wp_virtual0 (As := [.int (1)]) d_X10_rule_26 lk_X10_317 mv_X10_wants in_X10_wants se_X10_wants (Nat.le_of_ble_eq_true rfl) (Nat.le_of_ble_eq_true rfl) (hp_80 _ _ _ _ _) rfl (s_X10_wantsS hT hT2 hx hj.2.1 (true)) (fun v26 h26 q26 => ?_)
      obtain ⟨rfl, y26, rfl, hx26⟩ := q26
      have hj26 := hj.want0 (t := (m.2.1 94)) (b := true)
      show WP _ _ _ _ _ 29 _ [] (HP c w (setA m 81 ((rwant (m.2.1 94) T (true) (q)).2.2.2.2.2.2)) y26 E) _
      have hb9 : decide (0 ≤ rkd (rword (m.2.1 94) T q) ∧ q.2.2.2.2.2.2 1 < 8) = true := decide_eq_true ⟨Int32.not_lt.mp zc7, h8⟩
      rw [show rrule (m.2.1 94) T q = rA (m.2.1 94) T (rkd (rword (m.2.1 94) T q)) (rwant (m.2.1 94) T (true) (q)) from by unfold rrule; rw [hb9]]
      exact s_X10_rule_A (R := R) hT hT2 hx26 (by rw [rwant_o]; exact ho) ha hj26 (fun e => by rw [rwant_s]; exact ⟨hs1, by omega⟩)
