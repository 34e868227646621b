/-! ===== reference: the levels of a condition ===== -/
/-- from and open after a step -/
def kRf (q r : kRt) : Prop := q.1 ≤ r.1 ∧ r.2.2.2.2.1 = q.2.2.2.2.1
theorem kRf.rf {q : kRt} : kRf q q := ⟨Nat.le_refl _, rfl⟩
theorem kRf.tr {q r s : kRt} (h1 : kRf q r) (h2 : kRf r s) : kRf q s := ⟨Nat.le_trans h1.1 h2.1, h2.2.trans h1.2⟩
theorem kRf.wri (x : Int32) (q : kRt) : kRf q (rwri x q) := ⟨Nat.le_of_eq (rwri_f x q).symm, rwri_o x q⟩
theorem kRf.want {t : Nat → Int32} {T : Nat} {a : Int} {q : kRt} (b : Bool) (h : kRJ T a q) : kRf q (rwant t T b q) := by
  refine ⟨?_, rwant_o ..⟩
  unfold rwant
  split
  · exact Nat.le_refl _
  · have := rfr_b (t := t) h.2.1
    have := h.1
    show q.1 ≤ rfr t T q.2.1
    omega
theorem kRf.num {t : Nat → Int32} {T : Nat} {a : Int} {q : kRt} (x : Int32) (h : kRJ T a q) : kRf q (rnum t T x q) := by
  unfold rnum
  split
  · have f := kRf.want (t := t) (a := a) (q := (q.1, q.2.1, q.2.2.1, qnum t q.1 (q.2.1 - q.1), q.2.2.2.2)) (decide (qnum t q.1 (q.2.1 - q.1) ≤ x)) h
    exact ⟨f.1, f.2⟩
  · have f := kRf.want (t := t) (a := a) (q := (q.1, q.2.1, q.2.2.1, 0, q.2.2.2.2)) false h
    exact ⟨f.1, f.2⟩
theorem kRf.vh {t : Nat → Int32} {T : Nat} {a : Int} {q : kRt} (h : kRJ T a q) : kRf q (rvh t T q) := by
  unfold rvh
  split
  · exact (kRf.want true h).tr (kRf.wri ..)
  · split
    · exact kRf.rf
    · exact (kRf.num 9999 h).tr (kRf.wri ..)
theorem kRf.cmp {t : Nat → Int32} {T : Nat} {a : Int} {q : kRt} (h : kRJ T a q) : kRf q (rcmp t T q) := by
  unfold rcmp
  exact (((kRf.vh h).tr (kRf.want _ h.vh)).tr (kRf.vh (kRJ.want0 h.vh))).tr (kRf.wri ..)
theorem kRf.nots {t : Nat → Int32} {T : Nat} {a : Int} : ∀ (k : Nat) {q : kRt} (b : Bool), kRJ T a q → kRf q (rnots t T k q b).1
  | 0, q, b, h => kRf.rf
  | k + 1, q, b, h => by
    simp only [rnots]
    split
    · exact (kRf.want true h).tr (kRf.nots k _ h.want0)
    · exact kRf.rf
theorem kRG.mid {t : Nat → Int32} {T : Nat} {C : kRt → kRt} (hC : kRG T C) {a : Int} {q : kRt} (h : kRJ T a q) : kRJ T a (rmid t T C q) ∧ kRf q (rmid t T C q) := by
  unfold rmid
  split
  · have h1 := kRJ.want0 (t := t) (b := decide (q.2.2.2.2.1 < 3)) h
    have f1 := kRf.want (t := t) (decide (q.2.2.2.2.1 < 3)) h
    have h2 := hC _ _ (h1.rope (q.2.2.2.2.1 + 1))
    have h3 := h2.1.rope q.2.2.2.2.1
    refine ⟨kRJ.want0 h3, ?_⟩
    have f3 := kRf.want (t := t) (decide (rcb t T (rope (C (rope (rwant t T (decide (q.2.2.2.2.1 < 3)) q) (q.2.2.2.2.1 + 1))) q.2.2.2.2.1) = 41)) h3
    exact ⟨Nat.le_trans f1.1 (Nat.le_trans h2.2.1 f3.1), f3.2⟩
  · exact ⟨h.cmp, kRf.cmp h⟩
theorem kRG.one {t : Nat → Int32} {T : Nat} {C : kRt → kRt} (hC : kRG T C) : kRG T (rone t T C) := by
  intro a q h
  have h1 := kRJ.nots (t := t) 201 (a := a) (b := false) h
  have f1 := kRf.nots (t := t) 201 false h
  unfold rone
  split
  · rename_i z
    rw [if_pos z] at h1
    have h2 := kRG.mid (t := t) hC h1
    have f2 := (f1.tr h2.2).tr (kRf.wri (-20) _)
    exact ⟨h2.1.wri, f2.1, f2.2⟩
  · rename_i z
    rw [if_neg z] at h1
    have h2 := kRG.mid (t := t) hC h1
    have f2 := f1.tr h2.2
    exact ⟨h2.1, f2.1, f2.2⟩
theorem kRG.js {t : Nat → Int32} {T : Nat} {O : kRt → kRt} (hO : kRG T O) {c : Int64} (hc : c ≠ 0) {x : Int32} : ∀ k : Nat, kRG T (rjs t T c x O k)
  | 0, a, q, h => ⟨h, Nat.le_refl _, rfl⟩
  | k + 1, a, q, h => by
    simp only [rjs]
    split
    · rename_i z
      have h1 := h.want (t := t) (b := true) (fun _ => rword_lt (rw_ne z hc))
      have f1 := kRf.want (t := t) true h
      have h2 := hO _ _ h1
      have h3 := kRG.js (t := t) (x := x) hO hc k _ _ (h2.1.wri (x := x))
      have f3 := (f1.tr (⟨h2.2.1, h2.2.2⟩ : kRf _ _)).tr ((kRf.wri x _).tr ⟨h3.2.1, h3.2.2⟩)
      exact ⟨h3.1, f3.1, f3.2⟩
    · exact ⟨h, Nat.le_refl _, rfl⟩
def rall (t : Nat → Int32) (T : Nat) (C : kRt → kRt) (q : kRt) : kRt := rjs t T 1476 (-21) (rone t T C) 201 (rone t T C q)
def rcond (t : Nat → Int32) (T : Nat) : Nat → kRt → kRt
  | 0, q => q
  | k + 1, q => rcnd t T (rall t T (rcond t T k)) q
theorem kRG.then {T : Nat} {F G : kRt → kRt} (hF : kRG T F) (hG : kRG T G) : kRG T (fun q => G (F q)) := fun a q h => by
  have h1 := hF a q h
  have h2 := hG a _ h1.1
  exact ⟨h2.1, Nat.le_trans h1.2.1 h2.2.1, h2.2.2.trans h1.2.2⟩
theorem kRG.all {t : Nat → Int32} {T : Nat} {C : kRt → kRt} (hC : kRG T C) : kRG T (rall t T C) := kRG.then (F := rone t T C) (G := rjs t T 1476 (-21) (rone t T C) 201) (kRG.one hC) (kRG.js (kRG.one hC) (by decide) 201)
theorem kRG.cond {t : Nat → Int32} {T : Nat} : ∀ k : Nat, kRG T (rcond t T k)
  | 0, a, q, h => ⟨h, Nat.le_refl _, rfl⟩
  | k + 1, a, q, h => by
    show kRJ T a (rcnd t T (rall t T (rcond t T k)) q) ∧ q.1 ≤ (rcnd t T (rall t T (rcond t T k)) q).1 ∧ (rcnd t T (rall t T (rcond t T k)) q).2.2.2.2.1 = q.2.2.2.2.1
    unfold rcnd
    split
    · exact ⟨h, Nat.le_refl _, rfl⟩
    · exact kRG.then (F := rall t T (rcond t T k)) (G := rjs t T 498 (-22) (rall t T (rcond t T k)) 201) (kRG.all (kRG.cond k)) (kRG.js (kRG.all (kRG.cond k)) (by decide) 201) a q h
theorem s_X10_cond0 {X : kX} {d : Nat} {c w m v : kZ} {E : kH} {T : Nat} (hT : m.1 8024 = nI T) (hT2 : T ≤ 200) {q : kRt} {y : kZ} (hx : kMx v q y) (hwr : q.2.2.1 = true) : WP X d 0 0 Y_X10_condition 0 [(0, .ref (80))] [] (HP c w (setA m 81 ((q).2.2.2.2.2.2)) y E) (fun r1 h1 => r1 = none ∧ ∃ y1 : kZ, h1 = HP c w (setA m 81 ((q).2.2.2.2.2.2)) y1 E ∧ kMx v (q) y1) := by
  refine wp_aload_n 0 d_X10_condition_0 rfl rfl ?_
  refine wp_getfield (v := .int (kb ((q).2.2.1 = true))) d_X10_condition_1 gf_X10_303 (hp_80 _ _ _ _ _) (congrArg (fun z => some (Value.int z)) hx.2.2.1) ?_
  refine wp_ifb_eq 8 d_X10_condition_4 rfl (fun zc4 => ?_) (fun zc4 => ?_)
  · exact absurd hwr zc4
  · refine wp_vret d_X10_condition_7 rfl ?_
    exact ⟨rfl, y, rfl, hx⟩
theorem s_X10_clev {X : kX} {d : Nat} {c w m v : kZ} {E : kH} {T : Nat} (hT : m.1 8024 = nI T) (hT2 : T ≤ 200) : ∀ (k : Nat) (a : Int) (q : kRt) (y : kZ), 0 ≤ a → kMx v q y → kRJ T a q → (q.2.2.1 = true ∨ q.2.2.2.2.1 + k = 4 ∧ q.2.2.2.2.1 ≤ 3) → WP X (d + 3 * k + 6) 0 0 Y_X10_condition 0 [(0, .ref 80)] [] (HP c w (setA m 81 (q.2.2.2.2.2.2)) y E) (fun r1 h1 => r1 = none ∧ ∃ y1 : kZ, h1 = HP c w (setA m 81 ((rcond (m.2.1 94) T k q).2.2.2.2.2.2)) y1 E ∧ kMx v (rcond (m.2.1 94) T k q) y1)
  | 0, a, q, y, ha, hx, hj, ho => s_X10_cond0 hT hT2 hx (ho.elim id (fun z => absurd z.1 (by omega)))
  | k + 1, a, q, y, ha, hx, hj, ho => by
    have gC := kRG.cond (t := m.2.1 94) (T := T) k
    refine s_X10_condition (e := 3 * k) (kk := k) hT hT2 (O := rall (m.2.1 94) T (rcond (m.2.1 94) T k)) (kRG.all gC) (fun a q y ha hx hj ho => ?_) ha hx hj (ho.imp id (fun z => by omega))
    refine s_X10_all (e := 3 * k) (kk := k) hT hT2 (O := rone (m.2.1 94) T (rcond (m.2.1 94) T k)) (kRG.one gC) (fun a q y ha hx hj ho => ?_) ha hx hj ho
    exact s_X10_one (e := 3 * k) (kk := k) (C := rcond (m.2.1 94) T k) hT hT2 hx ha hj (fun a q h => ⟨(gC a q h).1, (gC a q h).2.2⟩) (s_X10_clev hT hT2 k) ho
