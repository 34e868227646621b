/-! ===== call by call: a stranger ===== -/
theorem klb_at {S : Int32} {j0 : Nat} (h0 : ¬ kb0 S j0) : ∀ k j, j ≤ j0 → j0 ≤ j + k → (∀ i, j ≤ i → i < j0 → kb0 S i) → klb S k j = nI j0 + (-9)
  | 0, j, h1, h2, _ => by rw [show j = j0 by omega]; rfl
  | k + 1, j, h1, h2, h3 => by
    simp only [klb]
    by_cases e : j = j0
    · rw [e, if_neg h0]
    · rw [if_pos (h3 j (by omega) (by omega))]
      exact klb_at h0 k (j + 1) (by omega) (by omega) (fun i a b => h3 i (by omega) b)
theorem kgb_at {S : Int32} {j1 : Nat} (h0 : ¬ kb0 S j1) : ∀ j, j1 ≤ j → (∀ i, j1 < i → i ≤ j → kb0 S i) → kgb S j = nI j1 + (-9)
  | 0, h1, _ => by rw [show j1 = 0 by omega]; rfl
  | j + 1, h1, h3 => by
    simp only [kgb]
    by_cases e : j1 = j + 1
    · rw [← e, if_neg h0]
    · rw [if_pos (h3 (j + 1) (by omega) (by omega))]
      exact kgb_at h0 j (by omega) (fun i a b => h3 i a (by omega))
theorem mff_at (P : Nat → Prop) [DecidablePred P] (f0 : Int32) {j0 : Nat} (h0 : P j0) (h : ∀ i, i < j0 → ¬ P i) : ∀ n, j0 < n → n < 100 → mff f0 P n = nI j0 + (-9)
  | 0, h1, _ => by omega
  | n + 1, h1, h2 => by
    simp only [mff]
    by_cases e : j0 = n
    · subst e
      rw [if_pos h0, if_pos]
      rw [kcnt_pC, (pC_0 P j0).mpr h]
      rfl
    · have ih := mff_at P f0 h0 h n (by omega) (by omega)
      rw [ih]
      split
      · rw [if_neg]
        intro z
        rw [kcnt_pC] at z
        have := pC_le P n
        exact (pC_0 P n).mp (nI_ij (j := 0) (by omega) (by omega) z) j0 (by omega) h0
      · rfl
theorem mfl_at (P : Nat → Prop) [DecidablePred P] (l0 : Int32) {j1 : Nat} (h0 : P j1) : ∀ n, j1 < n → (∀ i, j1 < i → i < n → ¬ P i) → mfl l0 P n = nI j1 + (-9)
  | 0, h1, _ => by omega
  | n + 1, h1, h => by
    simp only [mfl]
    by_cases e : j1 = n
    · subst e
      rw [if_pos h0]
    · rw [if_neg (h n (by omega) (by omega))]
      exact mfl_at P l0 h0 n (by omega) (fun i a b => h i a (by omega))
theorem p_first (P : Nat → Prop) [DecidablePred P] : ∀ n, (∀ j, j < n → ¬ P j) ∨ ∃ j0, j0 < n ∧ P j0 ∧ ∀ i, i < j0 → ¬ P i
  | 0 => Or.inl (fun j hj => absurd hj (by omega))
  | n + 1 => by
    rcases p_first P n with h | ⟨j0, h1, h2, h3⟩
    · by_cases q : P n
      · exact Or.inr ⟨n, by omega, q, h⟩
      · refine Or.inl (fun j hj => ?_)
        by_cases e : j = n
        · rw [e]; exact q
        · exact h j (by omega)
    · exact Or.inr ⟨j0, by omega, h2, h3⟩
theorem p_last (P : Nat → Prop) [DecidablePred P] : ∀ n, (∀ j, j < n → ¬ P j) ∨ ∃ j1, j1 < n ∧ P j1 ∧ ∀ i, j1 < i → i < n → ¬ P i
  | 0 => Or.inl (fun j hj => absurd hj (by omega))
  | n + 1 => by
    by_cases q : P n
    · exact Or.inr ⟨n, by omega, q, fun i a b => by omega⟩
    · rcases p_last P n with h | ⟨j1, h1, h2, h3⟩
      · refine Or.inl (fun j hj => ?_)
        by_cases e : j = n
        · rw [e]; exact q
        · exact h j (by omega)
      · refine Or.inr ⟨j1, by omega, h2, fun i a b => ?_⟩
        by_cases e : i = n
        · rw [e]; exact q
        · exact h3 i a (by omega)
theorem kb0_kbs (P : Nat → Prop) [DecidablePred P] {j : Nat} (hj : j < 19) : kb0 (kbs P 19) j ↔ ¬ P j := by
  rw [kb0_iff _ (by omega), kbs_bit P 19 (by omega) j, decide_eq_false_iff_not]
  exact ⟨fun z q => z ⟨hj, q⟩, fun z q => z q.2⟩
theorem kcnt_0 (P : Nat → Prop) [DecidablePred P] : kcnt P 19 = 0 ↔ ∀ j, j < 19 → ¬ P j := by
  rw [← pC_0, kcnt_pC]
  have := pC_le P 19
  exact ⟨fun z => nI_ij (j := 0) (by omega) (by omega) z, fun z => by rw [z]; rfl⟩
theorem span_eq (P : Nat → Prop) [DecidablePred P] (f0 l0 x : Int32) : (if x = 0 then kcnt P 19 else if kcnt P 19 = 0 then -3 else 10 + (if x = 1 then mff f0 P 19 else mfl l0 P 19)) = (if x = 0 then kpop (kbs P 19) else if kbs P 19 = 0 then -3 else 10 + (if x = 1 then klb (kbs P 19) 18 0 else kgb (kbs P 19) 18)) := by
  rw [kpop_kcnt]
  by_cases q : kcnt P 19 = 0
  · rw [if_pos q, if_pos ((kbs_0 P).mpr ((kcnt_0 P).mp q))]
  · rw [if_neg q, if_neg (fun z => q ((kcnt_0 P).mpr ((kbs_0 P).mp z)))]
    have hn : ¬ ∀ j, j < 19 → ¬ P j := fun z => q ((kcnt_0 P).mpr z)
    obtain ⟨j0, a1, a2, a3⟩ := (p_first P 19).resolve_left hn
    obtain ⟨j1, b1, b2, b3⟩ := (p_last P 19).resolve_left hn
    rw [mff_at P f0 a2 a3 19 a1 (by omega), mfl_at P l0 b2 19 b1 b3, klb_at (fun z => (kb0_kbs P a1).mp z a2) 18 0 (by omega) (by omega) (fun i _ h => (kb0_kbs P (by omega)).mpr (a3 i h)), kgb_at (fun z => (kb0_kbs P b1).mp z b2) 18 (by omega) (fun i h1 h2 => (kb0_kbs P (by omega)).mpr (b3 i h1 (by omega)))]
theorem kbf_bit {F : Nat → Int32} {x : Int32} {j : Nat} : ∀ k i s, (kbf F x k i s).toBitVec.getLsbD j = true ↔ s.toBitVec.getLsbD j = true ∧ ∀ r, i ≤ r → r < i + k → nI r = x ∨ (F r).toBitVec.getLsbD j = true
  | 0, i, s => ⟨fun h => ⟨h, fun r a b => by omega⟩, fun h => h.1⟩
  | k + 1, i, s => by
    simp only [kbf]
    rw [kbf_bit k (i + 1)]
    by_cases e : nI i = x
    · rw [if_pos e]
      refine ⟨fun h => ⟨h.1, fun r a b => ?_⟩, fun h => ⟨h.1, fun r a b => h.2 r (by omega) (by omega)⟩⟩
      by_cases q : r = i
      · rw [q]; exact Or.inl e
      · exact h.2 r (by omega) (by omega)
    · rw [if_neg e, Int32.toBitVec_and, BitVec.getLsbD_and, Bool.and_eq_true]
      refine ⟨fun h => ⟨h.1.1, fun r a b => ?_⟩, fun h => ⟨⟨h.1, (h.2 i (by omega) (by omega)).resolve_left e⟩, fun r a b => h.2 r (by omega) (by omega)⟩⟩
      by_cases q : r = i
      · rw [q]; exact Or.inr h.1.2
      · exact h.2 r (by omega) (by omega)
theorem b19 (j : Nat) (h : j < 32) : (524287 : Int32).toBitVec.getLsbD j = decide (j < 19) := by
  have : ∀ j : Fin 32, (524287 : Int32).toBitVec.getLsbD j.val = decide (j.val < 19) := by decide
  exact this ⟨j, h⟩
theorem kbf_kbs {Q : Nat → Nat → Prop} [∀ r, DecidablePred (Q r)] {x : Int32} {R : Nat} (P : Nat → Prop) [DecidablePred P] (h : ∀ j, P j ↔ ∀ r, r < R → nI r = x ∨ Q r j) : kbf (fun r => kbs (Q r) 19) x R 0 524287 = kbs P 19 := by
  apply Int32.toBitVec_inj.mp
  apply BitVec.eq_of_getLsbD_eq
  intro j hj
  rw [Bool.eq_iff_iff, kbf_bit, kbs_bit P 19 (by omega), b19 j hj, decide_eq_true_iff, decide_eq_true_iff, h j]
  constructor
  · intro z
    refine ⟨z.1, fun r hr => ?_⟩
    rcases z.2 r (by omega) (by omega) with a | a
    · exact Or.inl a
    · rw [kbs_bit _ 19 (by omega), decide_eq_true_iff] at a
      exact Or.inr a.2
  · intro z
    refine ⟨z.1, fun r _ hr => ?_⟩
    rcases z.2 r (by omega) with a | a
    · exact Or.inl a
    · refine Or.inr ?_
      rw [kbs_bit _ 19 (by omega), decide_eq_true_iff]
      exact ⟨z.1, a⟩
theorem RlA.fp {n p r cnt : Nat} {code : Nat → Int32} {en : Nat → Nat} {c : kZ} {s : Nat → Int32} (hn : n ≤ 9) (hp : p ≤ 4) (h : RlA n p cnt code en c.2.1 s) (hR : RlR r (c.2.1 11) (c.2.1 12) s) {i : Nat} (hi : i < r) (j : Nat) : mfP s en cnt p i j ↔ cfP c.2.1 code cnt p i j := by
  obtain ⟨⟨a1, a2, a3⟩, b1, b2, b3⟩ := hR i hi
  have hw : mwr (s 5) (s 6) (ktub (s (53 + 2 * i)) (nI j + (-9)) (fun l => mstr s en cnt l) (mtl s) (mlp s) (mtp s) p) = cwr (c.2.1 6 1) (c.2.1 6 2) (ktub (c.2.1 11 i) (nI j + (-9)) (fun l => kstr code cnt (c.2.1 6 0) (c.2.1 6 1) (c.2.1 6 2) (c.2.1 2 l) (c.2.1 3 l) l) (c.2.1 4) (c.2.1 9) (c.2.1 10) p) := by
    rw [a1]
    exact h.t hn h.2.2
  show ((0 ≤ (s (53 + 2 * i)).toInt ∧ _) ∧ (mwr _ _ _ ≤ s 7 ↔ _ = _)) ↔ (¬ nI p ≤ c.2.1 11 i ∧ (_ ↔ c.2.1 12 i = 1))
  rw [hw, a1, b1, h.1.2.2.2]
  refine and_congr ?_ Iff.rfl
  have e := nI_toInt (n := p) (by omega)
  rw [Int32.le_iff_toInt_le]
  omega
theorem kbs_c {P P' : Nat → Prop} [DecidablePred P] [DecidablePred P'] (h : ∀ j, P j ↔ P' j) : ∀ k, kbs P k = kbs P' k
  | 0 => rfl
  | k + 1 => by
    simp only [kbs]
    rw [kbs_c h k]
    by_cases q : P k
    · rw [if_pos q, if_pos ((h k).mp q)]
    · rw [if_neg q, if_neg (fun z => q ((h k).mpr z))]
theorem j_span {X : kX} {d : Nat} (hd : 20 ≤ d) (x : Int32) : kJn X d 0 0 Y_X9_span Y_X10_span [(1, .int x)] := by
  intro c w m v E hRl
  obtain ⟨⟨n, p, r, ⟨⟨hn9, hp4, hr6⟩, ⟨hn, hn'⟩, ⟨hp, hp'⟩, ⟨hr, hr'⟩, hz⟩, hL, hS, hP, hRp, cnt, L, code, en, hu, hL20, hc8, hwf, hs1, hm, hq⟩, hK, hT, hW, hC, hH, hF, hV⟩ := id hRl
  have hA := RlA.of hq hL hS hP
  have hse := hA.1
  have hrp : c.1 110 = nI r := hr
  have hMP : ∀ (x : Int32), kbf (fun i => kbs (cfP c.2.1 code cnt p i) 19) x r 0 524287 = kbs (fun j => mall (m.2.1 81) en cnt p x r j) 19 := fun x => kbf_kbs _ (fun j => ⟨fun z i hi => (z i hi).imp id (fun y => (hA.fp hn9 hp4 hRp hi j).mp y), fun z i hi => (z i hi).imp id (fun y => (hA.fp hn9 hp4 hRp hi j).mpr y)⟩)
  have hneg : ∀ i : Nat, i < r → ∀ x : Int32, x.toInt < 0 → nI i ≠ x := fun i hi x hx e => by
    have := nI_toInt (n := i) (by omega)
    rw [e] at this
    omega
  have hM3 : kbs (fun j => mall (m.2.1 81) en cnt p (-3) r j) 19 = kbs (fun j => mall (m.2.1 81) en cnt p (-1) r j) 19 := kbs_c (fun j => ⟨fun z i hi => Or.inr ((z i hi).resolve_left (hneg i hi (-3) (by decide))), fun z i hi => Or.inr ((z i hi).resolve_left (hneg i hi (-1) (by decide)))⟩) 19
  have hM : ∀ w1 : kZ, WP X d 0 0 Y_X10_span 0 _ [] (HP c w1 m v E) _ := fun w1 => wp_depth (by omega) (s_X10_span (X := X) (d := 0) (c := c) (w := w1) (m := m) (v := v) (E := E) hs1 hc8 hm hn' hn9 hp' hp4 (hP.vm hn9) hr' hr6 x)
  refine wp_mono ?_ (wp_depth (by omega) (s_X9_span (d := 0) hn hn9 rfl hu hL20 hc8 hwf hL.kd hp hp4 (hP.vp hn9) hV.1 hrp hr6 x))
  rintro r1 t1 (⟨h, rfl, rfl⟩ | ⟨h, rfl, w1, rfl, hw, hray⟩)
  · refine ⟨_, c, w, E, rfl, rfl, wp_mono ?_ (hM _)⟩
    rintro r2 t2 (⟨g, rfl, rfl⟩ | ⟨g, -⟩)
    · exact ⟨rfl, m, v, rfl, hRl⟩
    · exact absurd g h
  · refine ⟨_, c, w1, E, rfl, rfl, wp_mono ?_ (hM _)⟩
    rintro r2 t2 (⟨g, rfl, rfl⟩ | ⟨g, f0, l0, rfl, v1, rfl⟩)
    · exact absurd h g
    · refine ⟨?_, m, v1, rfl, hRl.w (hV.f (hw.2.1 72 (by omega)) hray)⟩
      rw [hMP (-3), hM3]
      exact congrArg (fun z => some (Value.int z)) (span_eq (fun j => mall (m.2.1 81) en cnt p (-1) r j) f0 l0 x)
theorem j_liar {X : kX} {d : Nat} (hd : 20 ≤ d) : kJn X d 0 0 Y_X9_liar Y_X10_liar [] := by
  intro c w m v E hRl
  obtain ⟨⟨n, p, r, ⟨⟨hn9, hp4, hr6⟩, ⟨hn, hn'⟩, ⟨hp, hp'⟩, ⟨hr, hr'⟩, hz⟩, hL, hS, hP, hRp, cnt, L, code, en, hu, hL20, hc8, hwf, hs1, hm, hq⟩, hK, hT, hW, hC, hH, hF, hV⟩ := id hRl
  have hA := RlA.of hq hL hS hP
  have hse := hA.1
  have hrp : c.1 110 = nI r := hr
  have hMP : ∀ (x : Int32), kbf (fun i => kbs (cfP c.2.1 code cnt p i) 19) x r 0 524287 = kbs (fun j => mall (m.2.1 81) en cnt p x r j) 19 := fun x => kbf_kbs _ (fun j => ⟨fun z i hi => (z i hi).imp id (fun y => (hA.fp hn9 hp4 hRp hi j).mp y), fun z i hi => (z i hi).imp id (fun y => (hA.fp hn9 hp4 hRp hi j).mpr y)⟩)
  have hneg : ∀ i : Nat, i < r → ∀ x : Int32, x.toInt < 0 → nI i ≠ x := fun i hi x hx e => by
    have := nI_toInt (n := i) (by omega)
    rw [e] at this
    omega
  have hM3 : kbs (fun j => mall (m.2.1 81) en cnt p (-3) r j) 19 = kbs (fun j => mall (m.2.1 81) en cnt p (-1) r j) 19 := kbs_c (fun j => ⟨fun z i hi => Or.inr ((z i hi).resolve_left (hneg i hi (-3) (by decide))), fun z i hi => Or.inr ((z i hi).resolve_left (hneg i hi (-1) (by decide)))⟩) 19
  have hM : ∀ w1 : kZ, WP X d 0 0 Y_X10_liar 0 _ [] (HP c w1 m v E) _ := fun w1 => wp_depth (by omega) (s_X10_liar (X := X) (d := 0) (c := c) (w := w1) (m := m) (v := v) (E := E) hs1 hc8 hm hn' hn9 hp' hp4 (hP.vm hn9) hr' hr6)
  refine wp_mono ?_ (wp_depth (by omega) (s_X9_liar (d := 0) hn hn9 rfl hu hL20 hc8 hwf hL.kd hp hp4 (hP.vp hn9) hV.1 hrp hr6))
  rintro r1 t1 ⟨rfl, w1, rfl, hw, hray⟩
  refine ⟨_, c, w1, E, rfl, rfl, wp_mono ?_ (hM _)⟩
  rintro r2 t2 ⟨rfl, v1, rfl⟩
  refine ⟨?_, m, v1, rfl, hRl.w (hV.f (hw.2.1 72 (by omega)) hray)⟩
  rw [hMP (-3), hM3]
  have hz : ∀ y : Int32, kbs (fun j => mall (m.2.1 81) en cnt p y r j) 19 = 0 ↔ kcnt (fun j => mall (m.2.1 81) en cnt p y r j) 19 = 0 := fun y => (kbs_0 _).trans (kcnt_0 _).symm
  have hli : ∀ k i, i + k = r → mli (fun x j => mall (m.2.1 81) en cnt p x r j) k i = kli (fun i => kbs (cfP c.2.1 code cnt p i) 19) r k i := by
    intro k
    induction k with
    | zero => intro i _; rfl
    | succ k ih =>
      intro i hi
      simp only [mli, kli]
      rw [hMP (nI i), ih (i + 1) (by omega)]
      by_cases q : kcnt (fun j => mall (m.2.1 81) en cnt p (nI i) r j) 19 = 0
      · rw [if_pos ((hz _).mpr q), if_neg (by rw [q]; decide)]
      · rw [if_neg (fun z => q ((hz _).mp z)), if_pos]
        rw [kcnt_pC] at q ⊢
        have h19 := pC_le (fun j => mall (m.2.1 81) en cnt p (nI i) r j) 19
        have : pC (fun j => mall (m.2.1 81) en cnt p (nI i) r j) 19 ≠ 0 := fun e => q (by rw [e]; rfl)
        refine Int32.lt_iff_toInt_lt.mpr ?_
        rw [nI_toInt (by omega)]
        show (0 : Int) < _
        omega
  by_cases q : kcnt (fun j => mall (m.2.1 81) en cnt p (-1) r j) 19 = 0
  · rw [if_pos q, if_pos ((hz _).mpr q), hli r 0 (by omega)]
  · rw [if_neg q, if_neg (fun z => q ((hz _).mp z))]
