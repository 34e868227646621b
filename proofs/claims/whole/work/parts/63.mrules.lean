/-! ===== reference: rules ===== -/
theorem nI_all (x : Int32) : ∃ n : Nat, x = nI n := ⟨x.toBitVec.toNat, by
  apply Int32.toBitVec_inj.mp
  show x.toBitVec = BitVec.ofNat 32 x.toBitVec.toNat
  simp⟩
theorem rE_g {T : Nat} {a : Int} {kd dz fg : Int32} {q : kRt} (h : kRJ T a q) : kRJ T a (rE kd dz fg q) ∧ (rE kd dz fg q).1 = q.1 ∧ (rE kd dz fg q).2.2.2.2.1 = q.2.2.2.2.1 ∧ (rE kd dz fg q).2.2.1 = q.2.2.1 := by
  unfold rE
  split
  · exact ⟨h, rfl, rfl, rfl⟩
  · exact ⟨h, rfl, rfl, rfl⟩
theorem rE_s {kd dz fg : Int32} {q : kRt} {R : Nat} (h : q.2.2.2.2.2.2 1 = nI R) (hR : R < 8) : (rE kd dz fg q).2.2.2.2.2.2 1 = nI (if q.2.2.1 = true then R else R + 1) := by
  unfold rE
  split
  · exact h
  · rw [h, nI_clamp (by omega)]
    show upd (upd (upd (upd (upd q.2.2.2.2.2.2 (65 + 4 * R + 0) kd) (65 + 4 * R + 1) dz) (65 + 4 * R + 2) fg) (65 + 4 * R + 3) (nI q.2.2.2.2.2.1)) 1 (nI (R + 1)) 1 = _
    exact upd_s _ _ _
theorem rC_g {t : Nat → Int32} {T : Nat} {a : Int} {kd dz : Int32} {q : kRt} (h : kRJ T a q) : kRJ T a (rC t T kd dz q) ∧ kRf q (rC t T kd dz q) := by
  unfold rC rD
  have h1 : kRJ T a (if 0 ≤ dz ∧ dz ≠ 2 ∧ q.2.2.1 = false then rnum t T 99 (rval q 0) else rval q 0) ∧ kRf q (if 0 ≤ dz ∧ dz ≠ 2 ∧ q.2.2.1 = false then rnum t T 99 (rval q 0) else rval q 0) := by
    have g : kRJ T a (rval q 0) := h
    split
    · have f := kRf.num (t := t) 99 g
      refine ⟨?_, f⟩
      have g2 := g.num (t := t) (x := 99)
      exact ⟨g2.1, g2.2.1, g2.2.2.1, fun e => by have := g2.2.2.2 e; omega⟩
    · exact ⟨g, kRf.rf⟩
  generalize (if 0 ≤ dz ∧ dz ≠ 2 ∧ q.2.2.1 = false then rnum t T 99 (rval q 0) else rval q 0) = p at h1
  have h2 := h1.1.want0 (t := t) (b := decide (p.2.2.1 = false ∧ qby t T p.1 = 59))
  have f2 := kRf.want (t := t) (decide (p.2.2.1 = false ∧ qby t T p.1 = 59)) h1.1
  have h3 := rE_g (kd := kd) (dz := dz) (fg := p.2.2.2.1) h2
  exact ⟨h3.1, h1.2.tr (f2.tr ⟨Nat.le_of_eq h3.2.1.symm, h3.2.2.1⟩)⟩
theorem rC_s {t : Nat → Int32} {T : Nat} {kd dz : Int32} {q : kRt} {R : Nat} (h : q.2.2.2.2.2.2 1 = nI R) (hR : R < 8) : (rC t T kd dz q).2.2.2.2.2.2 1 = nI (if (rC t T kd dz q).2.2.1 = true then R else R + 1) := by
  unfold rC rD
  have h1 : (if 0 ≤ dz ∧ dz ≠ 2 ∧ q.2.2.1 = false then rnum t T 99 (rval q 0) else rval q 0).2.2.2.2.2.2 1 = nI R := by
    split
    · rw [rnum_s]; exact h
    · exact h
  generalize (if 0 ≤ dz ∧ dz ≠ 2 ∧ q.2.2.1 = false then rnum t T 99 (rval q 0) else rval q 0) = p at h1
  have h2 : (rwant t T (decide (p.2.2.1 = false ∧ qby t T p.1 = 59)) p).2.2.2.2.2.2 1 = nI R := by rw [rwant_s]; exact h1
  generalize (rwant t T (decide (p.2.2.1 = false ∧ qby t T p.1 = 59)) p) = p2 at h2
  have h3 := rE_s (kd := kd) (dz := dz) (fg := p.2.2.2.1) h2 hR
  rw [h3]
  have : (rE kd dz p.2.2.2.1 p2).2.2.1 = p2.2.2.1 := by unfold rE; split <;> rfl
  rw [this]
/-- what is once wrong stays so, and keeps its place -/
theorem rwant_w {t : Nat → Int32} {T : Nat} {b : Bool} {q : kRt} (h : q.2.2.1 = true) : (rwant t T b q).2.2.1 = true := by
  rw [show rwant t T b q = _ from if_pos (Or.inl h)]
theorem rval_w {q : kRt} {x : Int32} : (rval q x).2.2.1 = q.2.2.1 := rfl
theorem rC_w {t : Nat → Int32} {T : Nat} {kd dz : Int32} {q : kRt} (h : q.2.2.1 = true) : (rC t T kd dz q).2.2.1 = true := by
  unfold rC rD
  rw [if_neg (fun z => by rw [h] at z; exact absurd z.2.2 (by decide))]
  have : (rwant t T (decide ((rval q 0).2.2.1 = false ∧ qby t T (rval q 0).1 = 59)) (rval q 0)).2.2.1 = true := rwant_w h
  unfold rE
  rw [if_pos this]
  exact this
theorem rule_g {t : Nat → Int32} {T : Nat} {a : Int} {q : kRt} (h : kRJ T a q) : kRJ T a (rrule t T q) ∧ kRf q (rrule t T q) := by
  unfold rrule rA rB
  have h1 := h.want0 (t := t) (b := decide (0 ≤ rkd (rword t T q) ∧ q.2.2.2.2.2.2 1 < 8))
  have f1 := kRf.want (t := t) (decide (0 ≤ rkd (rword t T q) ∧ q.2.2.2.2.2.2 1 < 8)) h
  generalize rwant t T (decide (0 ≤ rkd (rword t T q) ∧ q.2.2.2.2.2.2 1 < 8)) q = p at h1 f1
  have h2 : kRJ T a (if rword t T p = 294 then rcond t T 4 (rwant t T true p) else p) ∧ kRf p (if rword t T p = 294 then rcond t T 4 (rwant t T true p) else p) := by
    split
    · have g1 := h1.want0 (t := t) (b := true)
      have g2 := kRG.cond (t := t) 4 _ _ g1
      have f2 := kRf.want (t := t) true h1
      exact ⟨g2.1, f2.tr ⟨g2.2.1, g2.2.2⟩⟩
    · exact ⟨h1, kRf.rf⟩
  generalize (if rword t T p = 294 then rcond t T 4 (rwant t T true p) else p) = p2 at h2
  have h3 := h2.1.want0 (t := t) (b := decide (0 ≤ rdo (rword t T p2)))
  have f3 := kRf.want (t := t) (decide (0 ≤ rdo (rword t T p2))) h2.1
  have h4 := rC_g (t := t) (kd := rkd (rword t T q)) (dz := rdo (rword t T p2)) h3
  exact ⟨h4.1, f1.tr (h2.2.tr (f3.tr h4.2))⟩
theorem rwri_w {x : Int32} {q : kRt} (h : q.2.2.1 = true) : (rwri x q).2.2.1 = true := by
  rw [show rwri x q = q from if_pos h]
  exact h
theorem rule_s {t : Nat → Int32} {T : Nat} {q : kRt} {R : Nat} (h : q.2.2.2.2.2.2 1 = nI R) (hR : R ≤ 8) : (rrule t T q).2.2.2.2.2.2 1 = nI (if (rrule t T q).2.2.1 = true then R else R + 1) ∧ ((rrule t T q).2.2.1 = false → R < 8) := by
  have hw : ¬ (0 ≤ rkd (rword t T q) ∧ R < 8) → (rwant t T (decide (0 ≤ rkd (rword t T q) ∧ q.2.2.2.2.2.2 1 < 8)) q).2.2.1 = true := fun e => by
    rw [show decide (0 ≤ rkd (rword t T q) ∧ q.2.2.2.2.2.2 1 < 8) = false from decide_eq_false (fun z => e ⟨z.1, Decidable.byContradiction (fun y => (nI_ge8 hR (Nat.not_lt.mp y)) (h ▸ z.2))⟩)]
    rw [show rwant t T false q = _ from if_pos (Or.inr (fun z => by cases z))]
  unfold rrule rA rB
  have h1 : (rwant t T (decide (0 ≤ rkd (rword t T q) ∧ q.2.2.2.2.2.2 1 < 8)) q).2.2.2.2.2.2 1 = nI R := by rw [rwant_s]; exact h
  generalize rwant t T (decide (0 ≤ rkd (rword t T q) ∧ q.2.2.2.2.2.2 1 < 8)) q = p at h1 hw
  have h2 : (if rword t T p = 294 then rcond t T 4 (rwant t T true p) else p).2.2.2.2.2.2 1 = nI R ∧ (p.2.2.1 = true → (if rword t T p = 294 then rcond t T 4 (rwant t T true p) else p).2.2.1 = true) := by
    refine ⟨?_, fun e => ?_⟩
    · split
      · rw [kRs.cond 4 _ _ (by omega), rwant_s]; exact h1
      · exact h1
    · rw [if_neg]
      · exact e
      · rw [show rword t T p = 0 from if_pos (Or.inl e)]
        decide
  generalize (if rword t T p = 294 then rcond t T 4 (rwant t T true p) else p) = p2 at h2
  have h3 : (rwant t T (decide (0 ≤ rdo (rword t T p2))) p2).2.2.2.2.2.2 1 = nI R := by rw [rwant_s]; exact h2.1
  have hw3 : p.2.2.1 = true → (rwant t T (decide (0 ≤ rdo (rword t T p2))) p2).2.2.1 = true := fun e => rwant_w (h2.2 e)
  generalize rwant t T (decide (0 ≤ rdo (rword t T p2))) p2 = p3 at h3 hw3
  by_cases hr : R < 8
  · exact ⟨rC_s h3 hr, fun _ => hr⟩
  · have e1 := hw3 (hw (fun z => hr z.2))
    have e2 := rC_w (t := t) (T := T) (kd := rkd (rword t T q)) (dz := rdo (rword t T p2)) e1
    refine ⟨?_, fun e => absurd (e2.symm.trans e) (by decide)⟩
    rw [if_pos e2]
    have e3 : rC t T (rkd (rword t T q)) (rdo (rword t T p2)) p3 = rE (rkd (rword t T q)) (rdo (rword t T p2)) 0 (rwant t T (decide ((rval p3 0).2.2.1 = false ∧ qby t T (rval p3 0).1 = 59)) (rval p3 0)) := by
      unfold rC rD
      rw [if_neg (fun z => by rw [e1] at z; exact absurd z.2.2 (by decide))]
      rfl
    rw [e3]
    unfold rE
    rw [if_pos (rwant_w (show (rval p3 0).2.2.1 = true from e1)), rwant_s]
    exact h3
/-- a rule moves on, or is wrong -/
theorem rwant_m {t : Nat → Int32} {T : Nat} {a : Int} {b : Bool} {q : kRt} (hT : q.1 < T) (h : kRJ T a q) (hw : (rwant t T b q).2.2.1 = false) : q.1 < (rwant t T b q).1 := by
  have h2 := h.2.2.1 hT
  have h3 := rfr_b (t := t) h.2.1
  unfold rwant at hw ⊢
  split
  · rename_i z
    rw [if_pos z] at hw
    cases hw
  · show q.1 < rfr t T q.2.1
    omega
theorem rule_m {t : Nat → Int32} {T : Nat} {a : Int} {q : kRt} (hT : q.1 < T) (h : kRJ T a q) (hw : (rrule t T q).2.2.1 = false) : q.1 < (rrule t T q).1 := by
  unfold rrule rA rB at hw ⊢
  have h1 := h.want0 (t := t) (b := decide (0 ≤ rkd (rword t T q) ∧ q.2.2.2.2.2.2 1 < 8))
  have m1 := rwant_m (t := t) (b := decide (0 ≤ rkd (rword t T q) ∧ q.2.2.2.2.2.2 1 < 8)) hT h
  generalize rwant t T (decide (0 ≤ rkd (rword t T q) ∧ q.2.2.2.2.2.2 1 < 8)) q = p at h1 m1 hw ⊢
  have h2 : kRJ T a (if rword t T p = 294 then rcond t T 4 (rwant t T true p) else p) ∧ kRf p (if rword t T p = 294 then rcond t T 4 (rwant t T true p) else p) ∧ (p.2.2.1 = true → (if rword t T p = 294 then rcond t T 4 (rwant t T true p) else p).2.2.1 = true) := by
    refine ⟨?_, ?_, fun e => ?_⟩
    · split
      · exact (kRG.cond (t := t) 4 _ _ (h1.want0 (t := t) (b := true))).1
      · exact h1
    · split
      · have g2 := kRG.cond (t := t) 4 _ _ (h1.want0 (t := t) (b := true))
        exact (kRf.want (t := t) true h1).tr ⟨g2.2.1, g2.2.2⟩
      · exact kRf.rf
    · rw [if_neg]
      · exact e
      · rw [show rword t T p = 0 from if_pos (Or.inl e)]
        decide
  generalize (if rword t T p = 294 then rcond t T 4 (rwant t T true p) else p) = p2 at h2 hw ⊢
  have h3 := h2.1.want0 (t := t) (b := decide (0 ≤ rdo (rword t T p2)))
  have f3 := kRf.want (t := t) (decide (0 ≤ rdo (rword t T p2))) h2.1
  have hw3 : p.2.2.1 = true → (rwant t T (decide (0 ≤ rdo (rword t T p2))) p2).2.2.1 = true := fun e => rwant_w (h2.2.2 e)
  generalize rwant t T (decide (0 ≤ rdo (rword t T p2))) p2 = p3 at h3 f3 hw3 hw ⊢
  have h4 := rC_g (t := t) (kd := rkd (rword t T q)) (dz := rdo (rword t T p2)) h3
  have hp : p.2.2.1 = false := by
    by_cases e : p.2.2.1 = true
    · exact absurd ((rC_w (t := t) (T := T) (hw3 e)).symm.trans hw) (by decide)
    · exact Bool.not_eq_true _ |>.mp e
  have := m1 hp
  have := h2.2.1.1
  have := f3.1
  have := h4.2.1
  omega
def rloop (t : Nat → Int32) (T : Nat) : Nat → kRt → kRt
  | 0, q => q
  | k + 1, q => if q.2.2.1 = false ∧ q.1 < T then rloop t T k (rrule t T q) else q
def rrules (t : Nat → Int32) (T : Nat) (s : Nat → Int32) (x : Int32) : kRt := rloop t T 201 (rtok t T (0, 0, false, x, 0, 0, upd s 1 0))
theorem kov_kov (f g s : Nat → Int32) (n : Nat) : kov f (kov g s n) n = kov f s n := by
  funext k
  simp only [kov]
  split <;> rfl
theorem s_X10_pb {X : kX} {d : Nat} {c w m v : kZ} {E : kH} {q : kRt} {y : kZ} (hx : kMx v q y) (s1 : Nat → Int32) : WP X d 0 0 Y_X10_putsBack 0 [(0, .ref 80)] [] (HP c w (setS (setA m 81 s1) 8024 0) y E) (kR none (HP c w (setS (setA m 81 (kov s1 (v.2.1 83) 300)) 8024 0) y E)) := by
  have h := s_X10_putsBack (X := X) (d := d) (c := c) (w := w) (m := setS (setA m 81 s1) 8024 0) (v := y) (E := E)
  rw [hx.2.2.2.2.2.2, show (setS (setA m 81 s1) 8024 0).2.1 81 = s1 from (show updA m.2.1 81 s1 81 = s1 from updA_s _ _ _), show setA (setS (setA m 81 s1) 8024 0) 81 (kov s1 (v.2.1 83) 300) = setS (setA m 81 (kov s1 (v.2.1 83) 300)) 8024 0 from by rw [← setS_A, setA_idem]] at h
  exact h
theorem s_X10_rules_l {X : kX} {d : Nat} {c w m v : kZ} {E : kH} {T : Nat} (hT : m.1 8024 = nI T) (hT2 : T ≤ 200) {qe : kRt} : ∀ (k : Nat) (q : kRt) (R : Nat) (y : kZ), (q.2.2.1 = false → T + 1 ≤ q.1 + k) → (kMx v q y) → (kRJ T 0 q) → (q.2.2.2.2.1 = 0) → (q.2.2.2.2.2.2 1 = nI R) → (R ≤ 8) → (rloop (m.2.1 94) T k q = qe) → WP X (d + 20) 0 0 Y_X10_rules 35 [(0, .ref (80))] [] (HP c w (setA m 81 ((q).2.2.2.2.2.2)) y E) (fun r1 h1 => r1 = some (.int (if qe.2.2.1 = true then -100 - nI qe.1 else qe.2.2.2.2.2.2 1)) ∧ ∃ y1 : kZ, h1 = HP c w (setS (setA m 81 (if qe.2.2.1 = true then kov qe.2.2.2.2.2.2 (v.2.1 83) 300 else qe.2.2.2.2.2.2)) 8024 0) y1 E) := by
  intro k
  induction k using Nat.strongRecOn with
  | ind k ih =>
    intro q R y hi hx hj ho hs1 hR hr
    have hj1 := hj.1
    have hj2 := hj.2.1
    refine wp_aload_n 0 d_X10_rules_35 rfl rfl ?_
    refine wp_getfield (v := .int (kb ((q).2.2.1 = true))) d_X10_rules_36 gf_X10_303 (hp_80 _ _ _ _ _) (congrArg (fun z => some (Value.int z)) hx.2.2.1) ?_
    refine wp_ifb_ne 60 d_X10_rules_39 rfl (fun zc39 => ?_) (fun zc39 => ?_)
    · refine wp_aload_n 0 d_X10_rules_60 rfl rfl ?_
      refine wp_iconst (v0 := 0) d_X10_rules_61 rfl ?_
      refine wp_putfield (h' := HP c w (setS (setA m 81 ((q).2.2.2.2.2.2)) 8024 (0)) y E) d_X10_rules_62 gp_X10_275 (kfit_i _) (hp_80 _ _ _ _ _) (Nat.le_of_ble_eq_true rfl) (hps_80_24 _ _ _ _ _ _) ?_
      refine wp_aload_n 0 d_X10_rules_65 rfl rfl ?_
      refine wp_getfield (v := .int (kb ((q).2.2.1 = true))) d_X10_rules_66 gf_X10_303 (hp_80 _ _ _ _ _) (congrArg (fun z => some (Value.int z)) hx.2.2.1) ?_
      refine wp_ifb_eq 84 d_X10_rules_69 rfl (fun zc69 => ?_) (fun zc69 => ?_)
      · refine wp_aload_n 0 d_X10_rules_84 rfl rfl ?_
        refine wp_getfield (v := .ref (81)) d_X10_rules_85 gf_X10_7 (hp_80 _ _ _ _ _) rfl ?_
        refine wp_iconst (v0 := 1) d_X10_rules_88 rfl ?_
        refine wp_iaload (v := ((q).2.2.2.2.2.2) (1)) d_X10_rules_89 (hp_81 _ _ _ _ _) (kin rfl) rfl ?_
        refine wp_reti d_X10_rules_90 rfl ?_
        have hqe : qe = q := by
          cases k with
          | zero => exact hr.symm
          | succ k1 =>
            simp only [rloop] at hr
            rw [if_neg (fun z => by first | exact absurd (zc39.symm.trans z.1) (by decide) | omega)] at hr
            exact hr.symm
        subst hqe
        exact ⟨by rw [if_neg zc69], y, by rw [if_neg zc69]⟩
      · refine wp_aload_n 0 d_X10_rules_72 rfl rfl ?_
        refine wp_vrt_v (As := []) (h1 := HP c w (setS (setA m 81 (kov (q.2.2.2.2.2.2) (v.2.1 83) 300)) 8024 (0)) y E) d_X10_rules_73 lk_X10_261 mv_X10_putsBack in_X10_putsBack se_X10_putsBack (Nat.le_of_ble_eq_true rfl) (Nat.le_of_ble_eq_true rfl) (hp_80 _ _ _ _ _) rfl (s_X10_pb hx (q.2.2.2.2.2.2)) ?_
        refine wp_bipush (v0 := -100) d_X10_rules_76 (by decide) ?_
        refine wp_aload_n 0 d_X10_rules_78 rfl rfl ?_
        refine wp_getfield (v := .int (nI ((q).1))) d_X10_rules_79 gf_X10_291 (hp_80 _ _ _ _ _) (congrArg (fun z => some (Value.int z)) hx.1) ?_
        refine wp_isub d_X10_rules_82 ?_
        refine wp_reti d_X10_rules_83 rfl ?_
        have hqe : qe = q := by
          cases k with
          | zero => exact hr.symm
          | succ k1 =>
            simp only [rloop] at hr
            rw [if_neg (fun z => by first | exact absurd (zc39.symm.trans z.1) (by decide) | omega)] at hr
            exact hr.symm
        subst hqe
        exact ⟨by rw [if_pos zc69], y, by rw [if_pos zc69]⟩
    · refine wp_aload_n 0 d_X10_rules_42 rfl rfl ?_
      refine wp_getfield (v := .int (nI ((q).1))) d_X10_rules_43 gf_X10_291 (hp_80 _ _ _ _ _) (congrArg (fun z => some (Value.int z)) hx.1) ?_
      refine wp_aload_n 0 d_X10_rules_46 rfl rfl ?_
      refine wp_getfield (v := .int (nI (T))) d_X10_rules_47 gf_X10_275 (hp_80 _ _ _ _ _) (congrArg (fun z => some (Value.int z)) hT) ?_
      refine wp_ncmp_ge (a := (q).1) (b := T) 60 d_X10_rules_50 rfl (by omega) (by omega) (fun zc50 => ?_) (fun zc50 => ?_)
      · refine wp_aload_n 0 d_X10_rules_60 rfl rfl ?_
        refine wp_iconst (v0 := 0) d_X10_rules_61 rfl ?_
        refine wp_putfield (h' := HP c w (setS (setA m 81 ((q).2.2.2.2.2.2)) 8024 (0)) y E) d_X10_rules_62 gp_X10_275 (kfit_i _) (hp_80 _ _ _ _ _) (Nat.le_of_ble_eq_true rfl) (hps_80_24 _ _ _ _ _ _) ?_
        refine wp_aload_n 0 d_X10_rules_65 rfl rfl ?_
        refine wp_getfield (v := .int (kb ((q).2.2.1 = true))) d_X10_rules_66 gf_X10_303 (hp_80 _ _ _ _ _) (congrArg (fun z => some (Value.int z)) hx.2.2.1) ?_
        refine wp_ifb_eq 84 d_X10_rules_69 rfl (fun zc69 => ?_) (fun zc69 => ?_)
        · refine wp_aload_n 0 d_X10_rules_84 rfl rfl ?_
          refine wp_getfield (v := .ref (81)) d_X10_rules_85 gf_X10_7 (hp_80 _ _ _ _ _) rfl ?_
          refine wp_iconst (v0 := 1) d_X10_rules_88 rfl ?_
          refine wp_iaload (v := ((q).2.2.2.2.2.2) (1)) d_X10_rules_89 (hp_81 _ _ _ _ _) (kin rfl) rfl ?_
          refine wp_reti d_X10_rules_90 rfl ?_
          have hqe : qe = q := by
            cases k with
            | zero => exact hr.symm
            | succ k1 =>
              simp only [rloop] at hr
              rw [if_neg (fun z => by first | exact absurd (zc39.symm.trans z.1) (by decide) | omega)] at hr
              exact hr.symm
          subst hqe
          exact ⟨by rw [if_neg zc69], y, by rw [if_neg zc69]⟩
        · refine wp_aload_n 0 d_X10_rules_72 rfl rfl ?_
          refine wp_vrt_v (As := []) (h1 := HP c w (setS (setA m 81 (kov (q.2.2.2.2.2.2) (v.2.1 83) 300)) 8024 (0)) y E) d_X10_rules_73 lk_X10_261 mv_X10_putsBack in_X10_putsBack se_X10_putsBack (Nat.le_of_ble_eq_true rfl) (Nat.le_of_ble_eq_true rfl) (hp_80 _ _ _ _ _) rfl (s_X10_pb hx (q.2.2.2.2.2.2)) ?_
          refine wp_bipush (v0 := -100) d_X10_rules_76 (by decide) ?_
          refine wp_aload_n 0 d_X10_rules_78 rfl rfl ?_
          refine wp_getfield (v := .int (nI ((q).1))) d_X10_rules_79 gf_X10_291 (hp_80 _ _ _ _ _) (congrArg (fun z => some (Value.int z)) hx.1) ?_
          refine wp_isub d_X10_rules_82 ?_
          refine wp_reti d_X10_rules_83 rfl ?_
          have hqe : qe = q := by
            cases k with
            | zero => exact hr.symm
            | succ k1 =>
              simp only [rloop] at hr
              rw [if_neg (fun z => by first | exact absurd (zc39.symm.trans z.1) (by decide) | omega)] at hr
              exact hr.symm
          subst hqe
          exact ⟨by rw [if_pos zc69], y, by rw [if_pos zc69]⟩
      · refine wp_aload_n 0 d_X10_rules_53 rfl rfl ?_
        refine wp_virtual0 (As := []) d_X10_rules_54 lk_X10_394 mv_X10_rule in_X10_rule se_X10_rule (Nat.le_of_ble_eq_true rfl) (Nat.le_of_ble_eq_true rfl) (hp_80 _ _ _ _ _) rfl (s_X10_rule (R := R) hT hT2 hx (Int.le_refl 0) hj ho hs1 hR) (fun v54 h54 q54 => ?_)
        obtain ⟨rfl, y54, rfl, hx54⟩ := q54
        have hj54 := (rule_g (t := m.2.1 94) hj).1
        show WP _ _ _ _ _ 57 _ [] (HP c w (setA m 81 ((rrule (m.2.1 94) T (q)).2.2.2.2.2.2)) y54 E) _
        refine wp_goto 35 d_X10_rules_57 rfl ?_
        have hw9 : q.2.2.1 = false := Bool.not_eq_true _ |>.mp zc39
        have h9 := hi hw9
        obtain ⟨k1, rfl⟩ : ∃ k1, k = k1 + 1 := ⟨k - 1, by omega⟩
        simp only [rloop] at hr
        rw [if_pos ⟨hw9, by omega⟩] at hr
        have hm9 := rule_m (t := m.2.1 94) (by omega) hj
        have hs9 := rule_s (t := m.2.1 94) (T := T) hs1 hR
        have hg9 := rule_g (t := m.2.1 94) hj
        refine ih k1 (by omega) _ _ y54 (fun e => by have := hm9 e; omega) hx54 hj54 (by rw [hg9.2.2]; exact ho) hs9.1 (by split <;> (first | omega | (rename_i z; have := hs9.2 (Bool.not_eq_true _ |>.mp z); omega))) hr
theorem s_X10_rules {X : kX} {d : Nat} {c w m v : kZ} {E : kH} {T : Nat} (hT : m.1 8024 = nI T) (hT2 : T ≤ 200) : WP X (d + 20) 0 0 Y_X10_rules 0 [(0, .ref (80))] [] (HP c w m v E) (fun r1 h1 => r1 = some (.int (if (rrules (m.2.1 94) T (m.2.1 81) (v.1 8027)).2.2.1 = true then -100 - nI (rrules (m.2.1 94) T (m.2.1 81) (v.1 8027)).1 else (rrules (m.2.1 94) T (m.2.1 81) (v.1 8027)).2.2.2.2.2.2 1)) ∧ ∃ y1 : kZ, h1 = HP c w (setS (setA m 81 (if (rrules (m.2.1 94) T (m.2.1 81) (v.1 8027)).2.2.1 = true then kov (rrules (m.2.1 94) T (m.2.1 81) (v.1 8027)).2.2.2.2.2.2 (m.2.1 81) 300 else (rrules (m.2.1 94) T (m.2.1 81) (v.1 8027)).2.2.2.2.2.2)) 8024 0) y1 E) := by
  refine wp_aload_n 0 d_X10_rules_0 rfl rfl ?_
  refine wp_vrt_v (As := []) (h1 := HP c w m (setA v 83 (kov (v.2.1 83) (m.2.1 81) 300)) E) d_X10_rules_1 lk_X10_255 mv_X10_puts in_X10_puts se_X10_puts (Nat.le_of_ble_eq_true rfl) (Nat.le_of_ble_eq_true rfl) (hp_80 _ _ _ _ _) rfl s_X10_puts ?_
  refine wp_aload_n 0 d_X10_rules_4 rfl rfl ?_
  refine wp_getfield (v := .ref (81)) d_X10_rules_5 gf_X10_7 (hp_80 _ _ _ _ _) rfl ?_
  refine wp_iconst (v0 := 1) d_X10_rules_8 rfl ?_
  refine wp_iconst (v0 := 0) d_X10_rules_9 rfl ?_
  refine wp_iastore (h' := HP c w (setA m 81 (upd (m.2.1 81) 1 (0))) (setA v 83 (kov (v.2.1 83) (m.2.1 81) 300)) E) d_X10_rules_10 (hp_81 _ _ _ _ _) (kin rfl) ((hpa_81 _ _ _ _ _ _)) ?_
  refine wp_aload_n 0 d_X10_rules_11 rfl rfl ?_
  refine wp_iconst (v0 := 0) d_X10_rules_12 rfl ?_
  refine wp_putfield (h' := HP c w (setA m 81 (upd (m.2.1 81) 1 (0))) (setS (setA v 83 (kov (v.2.1 83) (m.2.1 81) 300)) 8029 (0)) E) d_X10_rules_13 gp_X10_347 (kfit_i _) (hp_80 _ _ _ _ _) (Nat.le_of_ble_eq_true rfl) (hps_80_29 _ _ _ _ _ _) ?_
  refine wp_aload_n 0 d_X10_rules_16 rfl rfl ?_
  refine wp_iconst (v0 := 0) d_X10_rules_17 rfl ?_
  refine wp_putfield (h' := HP c w (setA m 81 (upd (m.2.1 81) 1 (0))) (setS (setS (setA v 83 (kov (v.2.1 83) (m.2.1 81) 300)) 8029 (0)) 8028 (0)) E) d_X10_rules_18 gp_X10_364 (kfit_i _) (hp_80 _ _ _ _ _) (Nat.le_of_ble_eq_true rfl) (hps_80_28 _ _ _ _ _ _) ?_
  refine wp_aload_n 0 d_X10_rules_21 rfl rfl ?_
  refine wp_iconst (v0 := 0) d_X10_rules_22 rfl ?_
  refine wp_putfield (h' := HP c w (setA m 81 (upd (m.2.1 81) 1 (0))) (setS (setS (setS (setA v 83 (kov (v.2.1 83) (m.2.1 81) 300)) 8029 (0)) 8028 (0)) 8026 (0)) E) d_X10_rules_23 gp_X10_288 (kfit_i _) (hp_80 _ _ _ _ _) (Nat.le_of_ble_eq_true rfl) (hps_80_26 _ _ _ _ _ _) ?_
  refine wp_aload_n 0 d_X10_rules_26 rfl rfl ?_
  refine wp_iconst (v0 := 0) d_X10_rules_27 rfl ?_
  refine wp_putfield (h' := HP c w (setA m 81 (upd (m.2.1 81) 1 (0))) (setS (setS (setS (setS (setA v 83 (kov (v.2.1 83) (m.2.1 81) 300)) 8029 (0)) 8028 (0)) 8026 (0)) 8030 (0)) E) d_X10_rules_28 gp_X10_303 kfit_z0 (hp_80 _ _ _ _ _) (Nat.le_of_ble_eq_true rfl) (hps_80_30 _ _ _ _ _ _) ?_
  obtain ⟨n9, hn9⟩ := nI_all (v.1 8025)
  have hx0 : kMx (setA v 83 (kov (v.2.1 83) (m.2.1 81) 300)) (n9, 0, false, v.1 8027, 0, 0, upd (m.2.1 81) 1 0) (setS (setS (setS (setS (setA v 83 (kov (v.2.1 83) (m.2.1 81) 300)) 8029 (0)) 8028 (0)) 8026 (0)) 8030 (0)) := ⟨hn9, rfl, rfl, rfl, rfl, rfl, rfl⟩
  refine wp_aload_n 0 d_X10_rules_31 rfl rfl ?_
  refine wp_virtual0 (As := []) d_X10_rules_32 lk_X10_307 mv_X10_token in_X10_token se_X10_token (Nat.le_of_ble_eq_true rfl) (Nat.le_of_ble_eq_true rfl) (hp_80 _ _ _ _ _) rfl (s_X10_token (s1 := upd (m.2.1 81) 1 0) (v := (setA v 83 (kov (v.2.1 83) (m.2.1 81) 300))) (q := (n9, 0, false, v.1 8027, 0, 0, upd (m.2.1 81) 1 0)) hT hT2 hx0 (Nat.zero_le T)) (fun v32 h32 q32 => ?_)
  obtain ⟨rfl, y32, rfl, hx32⟩ := q32
  show WP _ _ _ _ _ 35 _ [] (HP c w (setA m 81 (upd (m.2.1 81) 1 (0))) y32 E) _
  refine wp_mono ?_ (s_X10_rules_l (v := (setA v 83 (kov (v.2.1 83) (m.2.1 81) 300))) (qe := rrules (m.2.1 94) T (m.2.1 81) (v.1 8027)) hT hT2 201 _ 0 y32 (fun _ => by omega) hx32 ?_ rfl (show upd (m.2.1 81) 1 0 1 = nI 0 from upd_s _ _ _) (by omega) rfl)
  · rintro r1 h1 ⟨rfl, y1, rfl⟩
    refine ⟨rfl, y1, ?_⟩
    rw [show (setA v 83 (kov (v.2.1 83) (m.2.1 81) 300)).2.1 83 = kov (v.2.1 83) (m.2.1 81) 300 from (show updA v.2.1 83 (kov (v.2.1 83) (m.2.1 81) 300) 83 = _ from updA_s _ _ _), kov_kov]
  · have e1 := rfr_b (t := m.2.1 94) (Nat.zero_le T)
    have e2 := rto_b (t := m.2.1 94) e1.2
    exact ⟨e2.1, e2.2.1, e2.2.2, fun _ => by show ((0 : Nat) : Int) + 0 ≤ _; omega⟩
