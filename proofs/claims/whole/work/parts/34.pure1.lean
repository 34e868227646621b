/-! ===== pure: the two ways of rays ===== -/
theorem kst_mst (g x : Int32) (q : kQ) (e : Int32 × Int32) : mst g (q.1 + x * q.2.2.1, q.2.1 + x * q.2.2.2) e = ((kst g q e).1 + x * (kst g q e).2.2.1, (kst g q e).2.1 + x * (kst g q e).2.2.2) := by
  obtain ⟨a, b, u, v⟩ := q
  obtain ⟨s, t⟩ := e
  simp only [mst, kst]
  refine Prod.ext ?_ ?_
  · grind
  · grind
theorem kray_mray (g x : Int32) (l : List (Int32 × Int32)) : mray g l x = ((kray g l).1 + x * (kray g l).2.2.1, (kray g l).2.1 + x * (kray g l).2.2.2) := by
  suffices h : ∀ (l : List (Int32 × Int32)) (q : kQ), l.foldl (mst g) (q.1 + x * q.2.2.1, q.2.1 + x * q.2.2.2) = ((l.foldl (kst g) q).1 + x * (l.foldl (kst g) q).2.2.1, (l.foldl (kst g) q).2.1 + x * (l.foldl (kst g) q).2.2.2) by
    have h1 := h l (0, 0, 1, 0)
    have e1 : (0 : Int32) + x * 1 = x := by rw [Int32.mul_one, Int32.zero_add]
    have e2 : (0 : Int32) + x * 0 = 0 := by rw [Int32.mul_zero, Int32.zero_add]
    simp only [e1, e2] at h1
    exact h1
  intro l
  induction l with
  | nil => intro q; rfl
  | cons e l ih =>
    intro q
    simp only [List.foldl_cons]
    rw [kst_mst]
    exact ih _
theorem msee_csee (g e : Int32) (l : List (Int32 × Int32)) (x : Int32) : msee g e l x = (csee g e l).1 + x * (csee g e l).2.2.1 := by
  unfold msee csee
  rw [kray_mray]
theorem mwr_cwr (g e : Int32) (l : List (Int32 × Int32)) : mwr g e l = cwr g e l := by
  unfold mwr cwr
  rw [msee_csee, msee_csee, Int32.zero_mul, Int32.one_mul, Int32.add_zero]
  congr 2
  grind
theorem mrow_crow (g : Int32) (ln : Nat → Int32) (p : Nat) (l : List (Int32 × Int32)) (x : Int32) (k : Nat) : mrow g ln p l x k = crow g ln p l x k := by
  unfold mrow crow
  rw [kray_mray]
theorem kclip_mclip (u : Int32) : kclip u = mclip u := by
  unfold kclip mclip
  have e9 : (9 : Int32).toInt = 9 := by decide
  have m9 : (-9 : Int32).toInt = -9 := by decide
  by_cases h1 : u < 9
  · rw [if_pos h1]
    have q1 := Int32.lt_iff_toInt_lt.mp h1
    rw [e9] at q1
    by_cases h2 : -9 < u
    · rw [if_pos h2]
      have q2 := Int32.lt_iff_toInt_lt.mp h2
      rw [m9] at q2
      rw [if_neg (fun q => by have q3 := Int32.lt_iff_toInt_lt.mp q; rw [m9] at q3; omega), if_neg (fun q => by have q3 := Int32.lt_iff_toInt_lt.mp q; rw [e9] at q3; omega)]
    · rw [if_neg h2]
      by_cases h3 : u < -9
      · rw [if_pos h3]
      · rw [if_neg h3, if_neg (fun q => by have q3 := Int32.lt_iff_toInt_lt.mp q; rw [e9] at q3; omega)]
        have q2 := Int32.le_iff_toInt_le.mp (Int32.not_lt.mp h2)
        have q3 := Int32.le_iff_toInt_le.mp (Int32.not_lt.mp h3)
        exact Int32.toInt_inj.mp (by omega)
  · rw [if_neg h1, if_pos (by decide)]
    have q1 := Int32.le_iff_toInt_le.mp (Int32.not_lt.mp h1)
    rw [e9] at q1
    rw [if_neg (fun q => by have q3 := Int32.lt_iff_toInt_lt.mp q; rw [m9] at q3; omega)]
    by_cases h4 : 9 < u
    · rw [if_pos h4]
    · rw [if_neg h4]
      have q2 := Int32.le_iff_toInt_le.mp (Int32.not_lt.mp h4)
      rw [e9] at q2
      exact Int32.toInt_inj.mp (by omega)
theorem khd_kfr (P : Nat → Prop) [DecidablePred P] : ∀ k, k ≤ 10 → khd P k = kfr P k (10 - k) := by
  intro k
  induction k with
  | zero => intro _; rfl
  | succ k ih =>
    intro hk
    simp only [khd, kfr]
    rw [ih (by omega), show 10 - (k + 1) = 9 - k by omega, show 9 - k + 1 = 10 - k by omega]
theorem kfr_congr {P P' : Nat → Prop} [DecidablePred P] [DecidablePred P'] (h : ∀ j, P j ↔ P' j) : ∀ k j, kfr P k j = kfr P' k j := by
  intro k
  induction k with
  | zero => intro j; rfl
  | succ k ih =>
    intro j
    simp only [kfr]
    rw [ih]
    by_cases q : P j
    · rw [if_pos q, if_pos ((h j).mp q)]
    · rw [if_neg q, if_neg (fun z => q ((h j).mpr z))]
theorem kcnt_congr {P P' : Nat → Prop} [DecidablePred P] [DecidablePred P'] (h : ∀ j, P j ↔ P' j) : ∀ k, kcnt P k = kcnt P' k := by
  intro k
  induction k with
  | zero => rfl
  | succ k ih =>
    simp only [kcnt]
    rw [ih]
    by_cases q : P k
    · rw [if_pos q, if_pos ((h k).mp q)]
    · rw [if_neg q, if_neg (fun z => q ((h k).mpr z))]
theorem kfj_congr {P P' : Nat → Prop} [DecidablePred P] [DecidablePred P'] : ∀ k j, (∀ i, j ≤ i → i < j + k → (P i ↔ P' i)) → kfj P k j = kfj P' k j := by
  intro k
  induction k with
  | zero => intro j _; rfl
  | succ k ih =>
    intro j h
    simp only [kfj]
    rw [ih (j + 1) (fun i h1 h2 => h i (by omega) (by omega))]
    by_cases q : P j
    · rw [if_pos q, if_pos ((h j (by omega) (by omega)).mp q)]
    · rw [if_neg q, if_neg (fun z => q ((h j (by omega) (by omega)).mpr z))]
theorem ksIn_congr {W W' : Nat → Nat → Int32} {i a : Nat} {s : kP2} : ∀ k, (∀ q, a ≤ q → q < a + k → W i q = W' i q) → ksIn W s i a k = ksIn W' s i a k := by
  intro k
  induction k with
  | zero => intro _; rfl
  | succ k ih =>
    intro h
    simp only [ksIn]
    rw [ih (fun q h1 h2 => h q h1 (by omega)), h (a + k) (by omega) (by omega)]
theorem ksOut_congr {W W' : Nat → Nat → Int32} {a b : Nat → Nat} {s : kP2} : ∀ n, (∀ i, i < n → ∀ q, a i ≤ q → q < a i + b i → W i q = W' i q) → ksOut W a b s n = ksOut W' a b s n := by
  intro n
  induction n with
  | zero => intro _; rfl
  | succ n ih =>
    intro h
    simp only [ksOut]
    rw [ih (fun i hi => h i (by omega))]
    exact ksIn_congr (b n) (h n (by omega))
theorem kof_congr {f f' : Int32 → Int32} {M M' : (Nat → Int32) → Prop} [DecidablePred M] [DecidablePred M'] {p : Nat} (hp0 : 0 < p) (hf : ∀ t : Int32, 0 ≤ t.toInt → t.toInt ≤ 3 → f t = f' t ∧ 0 ≤ (f t).toInt ∧ (f t).toInt ≤ 3) (hM : ∀ tn tn' : Nat → Int32, (∀ j, j < p → tn j = tn' j) → (M tn ↔ M' tn')) : ∀ k z (tn tn' : Nat → Int32) s, (∀ j, j < p → tn j = tn' j) → (∀ j, j < p → 0 ≤ (tn j).toInt ∧ (tn j).toInt ≤ 3) → kof f M p k z tn s = kof f' M' p k z tn' s := by
  intro k
  induction k with
  | zero => intro z tn tn' s _ _; rfl
  | succ k ih =>
    intro z tn tn' s h hr
    have hq : kz16 (kdz z) % p < p := Nat.mod_lt _ hp0
    have h1 : ∀ j, j < p → kdt f p z tn j = kdt f' p z tn' j := by
      intro j hj
      unfold kdt
      rw [← h _ hq, (hf _ (hr _ hq).1 (hr _ hq).2).1]
      simp only [upd]
      split
      · rfl
      · exact h j hj
    have h2 : ∀ j, j < p → 0 ≤ (kdt f p z tn j).toInt ∧ (kdt f p z tn j).toInt ≤ 3 := by
      intro j hj
      unfold kdt
      by_cases e : j = kz16 (kdz z) % p
      · rw [e, upd_s]
        exact (hf _ (hr _ hq).1 (hr _ hq).2).2
      · rw [upd_n _ _ e]
        exact hr j hj
    simp only [kof]
    rw [ih (kdz z) (kdt f p z tn) (kdt f' p z tn') _ h1 h2]
    by_cases q : M (kdt f p z tn)
    · rw [if_pos q, if_pos ((hM _ _ h1).mp q)]
    · rw [if_neg q, if_neg (fun z => q ((hM _ _ h1).mpr z))]
theorem kq_cases {P : Int32 → Prop} (h0 : P 0) (h1 : P 1) (h2 : P 2) (h3 : P 3) (t : Int32) (a : 0 ≤ t.toInt) (b : t.toInt ≤ 3) : P t := by
  rcases (by omega : t.toInt = 0 ∨ t.toInt = 1 ∨ t.toInt = 2 ∨ t.toInt = 3) with e | e | e | e
  · rw [show t = 0 from Int32.toInt_inj.mp (e.trans (by decide))]; exact h0
  · rw [show t = 1 from Int32.toInt_inj.mp (e.trans (by decide))]; exact h1
  · rw [show t = 2 from Int32.toInt_inj.mp (e.trans (by decide))]; exact h2
  · rw [show t = 3 from Int32.toInt_inj.mp (e.trans (by decide))]; exact h3
theorem kq43 (t : Int32) (a : 0 ≤ t.toInt) (b : t.toInt ≤ 3) : kq4 t = kq3 t ∧ 0 ≤ (kq4 t).toInt ∧ (kq4 t).toInt ≤ 3 := kq_cases (P := fun t => kq4 t = kq3 t ∧ 0 ≤ (kq4 t).toInt ∧ (kq4 t).toInt ≤ 3) (by decide) (by decide) (by decide) (by decide) t a b
