/-! ===== how many bits: counting ===== -/
def pS (P : Nat → Prop) [DecidablePred P] : Nat → Nat
  | 0 => 0
  | k + 1 => pS P k + (if P k then 2 ^ k else 0)
def pC (P : Nat → Prop) [DecidablePred P] : Nat → Nat
  | 0 => 0
  | k + 1 => pC P k + (if P k then 1 else 0)
def pV (P : Nat → Prop) [DecidablePred P] : Nat → Nat
  | 0 => 0
  | i + 1 => 2 * pV P i + (if P (18 - i) then 1 else 0)
def pK (P : Nat → Prop) [DecidablePred P] : Nat → Nat
  | 0 => 0
  | i + 1 => pK P i + (if P (18 - i) then 1 else 0)
theorem popT_3 (P : Nat → Prop) [DecidablePred P] : popT 16 (pV P 3) (pK P 3) = true := by
  have e1 : pV P 3 = 2 * (2 * (2 * 0 + (if P 18 then 1 else 0)) + (if P 17 then 1 else 0)) + (if P 16 then 1 else 0) := rfl
  have e2 : pK P 3 = 0 + (if P 18 then 1 else 0) + (if P 17 then 1 else 0) + (if P 16 then 1 else 0) := rfl
  rw [e1, e2]
  by_cases a : P 18 <;> by_cases b : P 17 <;> by_cases c : P 16 <;> simp only [a, b, c, if_true, if_false]
  · exact popT_7
  · exact popT_6
  · exact popT_5
  · exact popT_4
  · exact popT_3b
  · exact popT_2
  · exact popT_1
  · exact popT_0
theorem popT_i (P : Nat → Prop) [DecidablePred P] : ∀ i, 3 ≤ i → i ≤ 19 → popT (19 - i) (pV P i) (pK P i) = true
  | 0, h, _ => absurd h (by omega)
  | i + 1, h, h2 => by
    by_cases e : i + 1 = 3
    · rw [e]
      exact popT_3 P
    · have ih := popT_i P i (by omega) (by omega)
      rw [show 19 - i = (19 - (i + 1)) + 1 by omega] at ih
      have ih := (Bool.and_eq_true _ _).mp ih
      show popT (19 - (i + 1)) (2 * pV P i + (if P (18 - i) then 1 else 0)) (pK P i + (if P (18 - i) then 1 else 0)) = true
      by_cases q : P (18 - i)
      · rw [if_pos q]
        exact ih.2
      · rw [if_neg q]
        exact ih.1
theorem pV_pS (P : Nat → Prop) [DecidablePred P] : ∀ i, i ≤ 19 → pV P i * 2 ^ (19 - i) + pS P (19 - i) = pS P 19 ∧ pK P i + pC P (19 - i) = pC P 19
  | 0, _ => ⟨by rw [show pV P 0 = 0 from rfl, Nat.zero_mul, Nat.zero_add], by rw [show pK P 0 = 0 from rfl, Nat.zero_add]⟩
  | i + 1, h => by
    obtain ⟨h1, h2⟩ := pV_pS P i (by omega)
    generalize pS P 19 = X at h1 ⊢
    generalize pC P 19 = Y at h2 ⊢
    rw [show 19 - i = (18 - i) + 1 by omega] at h1 h2
    rw [show 19 - (i + 1) = 18 - i by omega]
    have e1 : pS P (18 - i + 1) = pS P (18 - i) + (if P (18 - i) then 2 ^ (18 - i) else 0) := rfl
    have e2 : pC P (18 - i + 1) = pC P (18 - i) + (if P (18 - i) then 1 else 0) := rfl
    have e3 : pV P (i + 1) = 2 * pV P i + (if P (18 - i) then 1 else 0) := rfl
    have e4 : pK P (i + 1) = pK P i + (if P (18 - i) then 1 else 0) := rfl
    rw [e1, Nat.pow_succ] at h1
    rw [e2] at h2
    rw [e3, e4]
    have e5 : pV P i * (2 ^ (18 - i) * 2) = 2 * pV P i * 2 ^ (18 - i) := by
      rw [Nat.mul_comm 2 (pV P i), Nat.mul_assoc, Nat.mul_comm 2 (2 ^ (18 - i))]
    rw [e5] at h1
    rw [Nat.add_mul]
    by_cases q : P (18 - i)
    · rw [if_pos q] at h1 h2 ⊢
      omega
    · rw [if_neg q] at h1 h2 ⊢
      omega
theorem popN_pS (P : Nat → Prop) [DecidablePred P] : popN (pS P 19) = pC P 19 := by
  have h := popT_i P 19 (by omega) (by omega)
  have h := Nat.eq_of_beq_eq_true h
  obtain ⟨h1, h2⟩ := pV_pS P 19 (by omega)
  have h1 : pV P 19 * 1 + 0 = pS P 19 := h1
  have h2 : pK P 19 + 0 = pC P 19 := h2
  rw [← h1, ← h2, Nat.mul_one, Nat.add_zero, Nat.add_zero]
  exact h
theorem pS_lt (P : Nat → Prop) [DecidablePred P] : ∀ k, pS P k < 2 ^ k
  | 0 => Nat.zero_lt_one
  | k + 1 => by
    have := pS_lt P k
    simp only [pS]
    rw [Nat.pow_succ]
    split <;> omega
theorem pC_le (P : Nat → Prop) [DecidablePred P] : ∀ k, pC P k ≤ k
  | 0 => Nat.le_refl 0
  | k + 1 => by
    have := pC_le P k
    simp only [pC]
    split <;> omega
theorem nI_or2 {a k : Nat} (h : a < 2 ^ k) (hk : k < 31) : nI a ||| kbit k = nI (a + 2 ^ k) := by
  have h31 : 2 ^ k ≤ 2 ^ 30 := Nat.pow_le_pow_right (by decide) (by omega)
  apply Int32.toBitVec_inj.mp
  apply BitVec.eq_of_toNat_eq
  rw [Int32.toBitVec_or, BitVec.toNat_or, pk_tn (by omega), pk_tn (by omega), kbit_tp hk, BitVec.toNat_twoPow, Nat.mod_eq_of_lt (by omega), Nat.or_comm]
  have e := Nat.two_pow_add_eq_or_of_lt h 1
  rw [Nat.mul_one] at e
  rw [← e, Nat.add_comm]
theorem kbs_pS (P : Nat → Prop) [DecidablePred P] : ∀ k, k ≤ 19 → kbs P k = nI (pS P k)
  | 0, _ => rfl
  | k + 1, hk => by
    simp only [kbs, pS]
    rw [kbs_pS P k (by omega)]
    split
    · exact nI_or2 (pS_lt P k) (by omega)
    · rfl
theorem kcnt_pC (P : Nat → Prop) [DecidablePred P] : ∀ k, kcnt P k = nI (pC P k)
  | 0 => rfl
  | k + 1 => by
    simp only [kcnt, pC]
    rw [kcnt_pC P k]
    split
    · exact nI_add (pC P k) 1
    · rfl
theorem pC_0 (P : Nat → Prop) [DecidablePred P] : ∀ k, pC P k = 0 ↔ ∀ j, j < k → ¬ P j
  | 0 => ⟨fun _ j hj => absurd hj (by omega), fun _ => rfl⟩
  | k + 1 => by
    have ih := pC_0 P k
    simp only [pC]
    by_cases q : P k
    · rw [if_pos q]
      exact ⟨fun z => absurd z (by omega), fun z => absurd q (z k (by omega))⟩
    · rw [if_neg q]
      refine ⟨fun z j hj => ?_, fun z => ih.mpr (fun j hj => z j (by omega))⟩
      by_cases e : j = k
      · rw [e]; exact q
      · exact ih.mp z j (by omega)
theorem kbs_bit (P : Nat → Prop) [DecidablePred P] : ∀ k, k ≤ 19 → ∀ j, (kbs P k).toBitVec.getLsbD j = decide (j < k ∧ P j)
  | 0, _, j => by
    show (0 : Int32).toBitVec.getLsbD j = _
    rw [decide_eq_false (fun z => absurd z.1 (by omega))]
    exact BitVec.getLsbD_zero
  | k + 1, hk, j => by
    simp only [kbs]
    have ih := kbs_bit P k (by omega) j
    by_cases q : P k
    · rw [if_pos q, Int32.toBitVec_or, BitVec.getLsbD_or, ih, kbit_bv (by omega)]
      by_cases e : k = j
      · subst e
        simp [q]
      · by_cases z : P j
        · simp only [z, and_true]
          rw [decide_eq_false e, Bool.or_false]
          exact decide_eq_decide.mpr (by omega)
        · simp [z, e]
    · rw [if_neg q, ih]
      refine decide_eq_decide.mpr ⟨fun z => ⟨by omega, z.2⟩, fun z => ⟨?_, z.2⟩⟩
      have : j ≠ k := fun e => q (e ▸ z.2)
      omega
theorem kbs_0 (P : Nat → Prop) [DecidablePred P] : kbs P 19 = 0 ↔ ∀ j, j < 19 → ¬ P j := by
  rw [kbs_pS P 19 (by omega), ← pC_0, ← popN_pS]
  constructor
  · intro h
    have h1 : pS P 19 = 0 := nI_ij (j := 0) (by have := pS_lt P 19; omega) (by omega) h
    rw [h1]
    decide
  · intro h
    have h2 := (pC_0 P 19).mp (by rw [← popN_pS]; exact h)
    have h3 : ∀ k, k ≤ 19 → pS P k = 0 := by
      intro k
      induction k with
      | zero => intro _; rfl
      | succ k ih =>
        intro hk
        simp only [pS]
        rw [ih (by omega), if_neg (h2 k (by omega))]
    rw [h3 19 (by omega)]
    rfl
theorem nI_and {a b : Nat} (ha : a < 2 ^ 32) (hb : b < 2 ^ 32) : nI a &&& nI b = nI (Nat.land a b) := by
  have h : Nat.land a b ≤ a := Nat.and_le_left
  apply Int32.toBitVec_inj.mp
  apply BitVec.eq_of_toNat_eq
  rw [Int32.toBitVec_and, BitVec.toNat_and, pk_tn ha, pk_tn hb, pk_tn (by omega)]
  rfl
theorem kpop_n {n : Nat} (h : n < 2 ^ 19) : kpop (nI n) = nI (popN n) := by
  have l1 : Nat.land (n / 2) 1431655765 ≤ n / 2 := Nat.and_le_left
  have e1 : kp1 (nI n) = nI (n - Nat.land (n / 2) 1431655765) := by
    unfold kp1
    rw [pk_ushrN (by omega) 1 1 (by decide)]
    show nI n - (nI (n / 2) &&& nI 1431655765) = _
    rw [nI_and (by omega) (by omega), pk_sub (by omega)]
  have b1 : n - Nat.land (n / 2) 1431655765 < 2 ^ 19 := by omega
  have e2 : ∀ a, a < 2 ^ 19 → kp2 (nI a) = nI (Nat.land a 858993459 + Nat.land (a / 4) 858993459) ∧ Nat.land a 858993459 + Nat.land (a / 4) 858993459 < 2 ^ 20 := by
    intro a ha
    have l2 : Nat.land a 858993459 ≤ a := Nat.and_le_left
    have l3 : Nat.land (a / 4) 858993459 ≤ a / 4 := Nat.and_le_left
    refine ⟨?_, by omega⟩
    unfold kp2
    rw [pk_ushrN (by omega) 2 2 (by decide)]
    show (nI a &&& nI 858993459) + (nI (a / 4) &&& nI 858993459) = _
    rw [nI_and (by omega) (by omega), nI_and (by omega) (by omega), nI_add]
  have e3 : ∀ b, b < 2 ^ 20 → kp3 (nI b) = nI (Nat.land (b + b / 16) 252645135) ∧ Nat.land (b + b / 16) 252645135 < 2 ^ 21 := by
    intro b hb
    have l2 : Nat.land (b + b / 16) 252645135 ≤ b + b / 16 := Nat.and_le_left
    refine ⟨?_, by omega⟩
    unfold kp3
    rw [pk_ushrN (by omega) 4 4 (by decide)]
    show (nI b + nI (b / 16)) &&& nI 252645135 = _
    rw [nI_add, nI_and (by omega) (by omega)]
  have e4 : ∀ x, x < 2 ^ 21 → kp4 (nI x) = nI (x + x / 256) ∧ x + x / 256 < 2 ^ 22 := by
    intro x hx
    refine ⟨?_, by omega⟩
    unfold kp4
    rw [pk_ushrN (by omega) 8 8 (by decide)]
    exact nI_add x (x / 256)
  have e5 : ∀ x, x < 2 ^ 22 → kp5 (nI x) &&& 63 = nI (Nat.land (x + x / 65536) 63) := by
    intro x hx
    unfold kp5 kz16
    rw [pk_tn (by omega)]
    show (nI x + nI (x / 65536)) &&& nI 63 = _
    rw [nI_add, nI_and (by omega) (by omega)]
  unfold kpop
  rw [e1, (e2 _ b1).1, (e3 _ (e2 _ b1).2).1, (e4 _ (e3 _ (e2 _ b1).2).2).1, e5 _ (e4 _ (e3 _ (e2 _ b1).2).2).2]
  rfl
theorem kpop_kcnt (P : Nat → Prop) [DecidablePred P] : kpop (kbs P 19) = kcnt P 19 := by
  rw [kbs_pS P 19 (by omega), kpop_n (pS_lt P 19), kcnt_pC, popN_pS]
