/-! ===== the tokens of the two readers ===== -/
theorem qof_ind {P : Int64 → Int32 → Prop} (h0 : P 398803 0) (h1 : P 21013182128292 1) (h2 : P 755277 2) (h3 : P 4902553 3) (h4 : P 679214 4) (h5 : P 680939684 5) (h6 : P 294 6) (h7 : P 441925 7) (h8 : P 398963 8) (h9 : P 208948 9) (h10 : P 498 10) (h11 : P 1476 11) (h12 : P 14836 12) (h13 : P 267316 13) (h14 : P 7216 14) (h15 : P 5925 15) (h16 : P 71108 16) (h17 : P 492210354 17) (h18 : ∀ x, x ≠ 398803 → x ≠ 21013182128292 → x ≠ 755277 → x ≠ 4902553 → x ≠ 679214 → x ≠ 680939684 → x ≠ 294 → x ≠ 441925 → x ≠ 398963 → x ≠ 208948 → x ≠ 498 → x ≠ 1476 → x ≠ 14836 → x ≠ 267316 → x ≠ 7216 → x ≠ 5925 → x ≠ 71108 → x ≠ 492210354 → P x 18) (x : Int64) : P x (qof x) := by
  unfold qof
  by_cases q0 : x = 398803
  · rw [if_pos q0, q0]; exact h0
  rw [if_neg q0]
  by_cases q1 : x = 21013182128292
  · rw [if_pos q1, q1]; exact h1
  rw [if_neg q1]
  by_cases q2 : x = 755277
  · rw [if_pos q2, q2]; exact h2
  rw [if_neg q2]
  by_cases q3 : x = 4902553
  · rw [if_pos q3, q3]; exact h3
  rw [if_neg q3]
  by_cases q4 : x = 679214
  · rw [if_pos q4, q4]; exact h4
  rw [if_neg q4]
  by_cases q5 : x = 680939684
  · rw [if_pos q5, q5]; exact h5
  rw [if_neg q5]
  by_cases q6 : x = 294
  · rw [if_pos q6, q6]; exact h6
  rw [if_neg q6]
  by_cases q7 : x = 441925
  · rw [if_pos q7, q7]; exact h7
  rw [if_neg q7]
  by_cases q8 : x = 398963
  · rw [if_pos q8, q8]; exact h8
  rw [if_neg q8]
  by_cases q9 : x = 208948
  · rw [if_pos q9, q9]; exact h9
  rw [if_neg q9]
  by_cases q10 : x = 498
  · rw [if_pos q10, q10]; exact h10
  rw [if_neg q10]
  by_cases q11 : x = 1476
  · rw [if_pos q11, q11]; exact h11
  rw [if_neg q11]
  by_cases q12 : x = 14836
  · rw [if_pos q12, q12]; exact h12
  rw [if_neg q12]
  by_cases q13 : x = 267316
  · rw [if_pos q13, q13]; exact h13
  rw [if_neg q13]
  by_cases q14 : x = 7216
  · rw [if_pos q14, q14]; exact h14
  rw [if_neg q14]
  by_cases q15 : x = 5925
  · rw [if_pos q15, q15]; exact h15
  rw [if_neg q15]
  by_cases q16 : x = 71108
  · rw [if_pos q16, q16]; exact h16
  rw [if_neg q16]
  by_cases q17 : x = 492210354
  · rw [if_pos q17, q17]; exact h17
  rw [if_neg q17]
  exact h18 x q0 q1 q2 q3 q4 q5 q6 q7 q8 q9 q10 q11 q12 q13 q14 q15 q16 q17
theorem qof_rng (x : Int64) : 0 ≤ (qof x).toInt ∧ (qof x).toInt ≤ 18 := by
  refine qof_ind (P := fun _ y => 0 ≤ y.toInt ∧ y.toInt ≤ 18) ?_ ?_ ?_ ?_ ?_ ?_ ?_ ?_ ?_ ?_ ?_ ?_ ?_ ?_ ?_ ?_ ?_ ?_ ?_ x
  · decide
  · decide
  · decide
  · decide
  · decide
  · decide
  · decide
  · decide
  · decide
  · decide
  · decide
  · decide
  · decide
  · decide
  · decide
  · decide
  · decide
  · decide
  · intros; decide
theorem qof_rkd (x : Int64) : (0 ≤ rkd x ∧ qof x = rkd x ∧ (qof x).toInt ≤ 5) ∨ (¬ 0 ≤ rkd x ∧ 6 ≤ (qof x).toInt) := by
  refine qof_ind (P := fun x y => (0 ≤ rkd x ∧ y = rkd x ∧ y.toInt ≤ 5) ∨ (¬ 0 ≤ rkd x ∧ 6 ≤ y.toInt)) ?_ ?_ ?_ ?_ ?_ ?_ ?_ ?_ ?_ ?_ ?_ ?_ ?_ ?_ ?_ ?_ ?_ ?_ ?_ x
  · decide
  · decide
  · decide
  · decide
  · decide
  · decide
  · decide
  · decide
  · decide
  · decide
  · decide
  · decide
  · decide
  · decide
  · decide
  · decide
  · decide
  · decide
  · intro x h0 h1 h2 h3 h4 h5 _ _ _ _ _ _ _ _ _ _ _ _
    right
    unfold rkd
    rw [if_neg h0, if_neg h1, if_neg h2, if_neg h3, if_neg h4, if_neg h5]
    decide
theorem qof_rdo (x : Int64) : (0 ≤ rdo x ∧ qof x = 7 + rdo x ∧ 7 ≤ (qof x).toInt ∧ (qof x).toInt ≤ 9) ∨ (rdo x = -1 ∧ qof x ≠ 7 ∧ qof x ≠ 8 ∧ qof x ≠ 9) := by
  refine qof_ind (P := fun x y => (0 ≤ rdo x ∧ y = 7 + rdo x ∧ 7 ≤ y.toInt ∧ y.toInt ≤ 9) ∨ (rdo x = -1 ∧ y ≠ 7 ∧ y ≠ 8 ∧ y ≠ 9)) ?_ ?_ ?_ ?_ ?_ ?_ ?_ ?_ ?_ ?_ ?_ ?_ ?_ ?_ ?_ ?_ ?_ ?_ ?_ x
  · decide
  · decide
  · decide
  · decide
  · decide
  · decide
  · decide
  · decide
  · decide
  · decide
  · decide
  · decide
  · decide
  · decide
  · decide
  · decide
  · decide
  · decide
  · intro x _ _ _ _ _ _ _ h7 h8 h9 _ _ _ _ _ _ _ _
    right
    unfold rdo
    rw [if_neg h7, if_neg h8, if_neg h9]
    decide
theorem qof_rfc (x : Int64) : (rfc x < 0 ∧ qof x = 12 - rfc x ∧ qFa (qof x)) ∨ (¬ rfc x < 0 ∧ ¬ qFa (qof x)) := by
  refine qof_ind (P := fun x y => (rfc x < 0 ∧ y = 12 - rfc x ∧ qFa y) ∨ (¬ rfc x < 0 ∧ ¬ qFa y)) ?_ ?_ ?_ ?_ ?_ ?_ ?_ ?_ ?_ ?_ ?_ ?_ ?_ ?_ ?_ ?_ ?_ ?_ ?_ x
  · decide
  · decide
  · decide
  · decide
  · decide
  · decide
  · decide
  · decide
  · decide
  · decide
  · decide
  · decide
  · decide
  · decide
  · decide
  · decide
  · decide
  · decide
  · intro x _ _ _ _ _ _ _ _ _ _ _ _ _ h13 h14 h15 h16 h17
    right
    unfold rfc
    rw [if_neg h13, if_neg h14, if_neg h15, if_neg h16, if_neg h17]
    decide
theorem qof_6 (x : Int64) : qof x = 6 ↔ x = 294 := by
  refine qof_ind (P := fun x y => y = 6 ↔ x = 294) ?_ ?_ ?_ ?_ ?_ ?_ ?_ ?_ ?_ ?_ ?_ ?_ ?_ ?_ ?_ ?_ ?_ ?_ ?_ x
  · decide
  · decide
  · decide
  · decide
  · decide
  · decide
  · decide
  · decide
  · decide
  · decide
  · decide
  · decide
  · decide
  · decide
  · decide
  · decide
  · decide
  · decide
  · intro x h0 h1 h2 h3 h4 h5 h6 h7 h8 h9 h10 h11 h12 h13 h14 h15 h16 h17
    exact ⟨fun z => absurd z (by decide), fun z => absurd z h6⟩
theorem qof_10 (x : Int64) : qof x = 10 ↔ x = 498 := by
  refine qof_ind (P := fun x y => y = 10 ↔ x = 498) ?_ ?_ ?_ ?_ ?_ ?_ ?_ ?_ ?_ ?_ ?_ ?_ ?_ ?_ ?_ ?_ ?_ ?_ ?_ x
  · decide
  · decide
  · decide
  · decide
  · decide
  · decide
  · decide
  · decide
  · decide
  · decide
  · decide
  · decide
  · decide
  · decide
  · decide
  · decide
  · decide
  · decide
  · intro x h0 h1 h2 h3 h4 h5 h6 h7 h8 h9 h10 h11 h12 h13 h14 h15 h16 h17
    exact ⟨fun z => absurd z (by decide), fun z => absurd z h10⟩
theorem qof_11 (x : Int64) : qof x = 11 ↔ x = 1476 := by
  refine qof_ind (P := fun x y => y = 11 ↔ x = 1476) ?_ ?_ ?_ ?_ ?_ ?_ ?_ ?_ ?_ ?_ ?_ ?_ ?_ ?_ ?_ ?_ ?_ ?_ ?_ x
  · decide
  · decide
  · decide
  · decide
  · decide
  · decide
  · decide
  · decide
  · decide
  · decide
  · decide
  · decide
  · decide
  · decide
  · decide
  · decide
  · decide
  · decide
  · intro x h0 h1 h2 h3 h4 h5 h6 h7 h8 h9 h10 h11 h12 h13 h14 h15 h16 h17
    exact ⟨fun z => absurd z (by decide), fun z => absurd z h11⟩
theorem qof_12 (x : Int64) : qof x = 12 ↔ x = 14836 := by
  refine qof_ind (P := fun x y => y = 12 ↔ x = 14836) ?_ ?_ ?_ ?_ ?_ ?_ ?_ ?_ ?_ ?_ ?_ ?_ ?_ ?_ ?_ ?_ ?_ ?_ ?_ x
  · decide
  · decide
  · decide
  · decide
  · decide
  · decide
  · decide
  · decide
  · decide
  · decide
  · decide
  · decide
  · decide
  · decide
  · decide
  · decide
  · decide
  · decide
  · intro x h0 h1 h2 h3 h4 h5 h6 h7 h8 h9 h10 h11 h12 h13 h14 h15 h16 h17
    exact ⟨fun z => absurd z (by decide), fun z => absurd z h12⟩
def kTk (b t : Nat → Int32) (T : Nat) (W Z : Nat → Int32) : Prop := T ≤ 200 ∧ (∀ j, j < T → b j = t j) ∧ kWd b T W Z
abbrev kNw (b : Nat → Int32) (T : Nat) : Nat := (qps b T 0).length
def rAt (b t : Nat → Int32) (T j : Nat) (q : kRt) : Prop := q.2.2.1 = false ∧ q.1 = qP b T j ∧ q.2.1 = rto t T q.1 ∧ j ≤ kNw b T
theorem qP_get {b : Nat → Int32} {T j : Nat} (h : j < kNw b T) : qP b T j = (qps b T 0)[j] := by
  unfold qP
  rw [List.getD_eq_getElem?_getD, List.getElem?_eq_getElem h]
  rfl
section
variable {b t : Nat → Int32} {T : Nat} {W Z : Nat → Int32}
theorem kTk.to (h : kTk b t T W Z) {f : Nat} (hf : f < T) : rto t T f = qeow b T f := (rto_cg h.2.1).trans (rto_qeow hf)
theorem kTk.w (h : kTk b t T W Z) {j : Nat} (hj : j < kNw b T) : W j = qwd b (qP b T j) (rto t T (qP b T j)) ∧ Z j = nI (qP b T j) := by
  have := h.2.2.1 j hj
  rw [h.to (qP_lt hj), qP_get hj]
  exact this
theorem kTk.wN (h : kTk b t T W Z) : W (kNw b T) = 19 ∧ Z (kNw b T) = nI T := h.2.2.2
theorem kTk.w0 (h : kTk b t T W Z) : kW0 W Z (kNw b T) := by
  have hl : kNw b T ≤ T := qps_len b T 0
  have hT := h.1
  have nn : ∀ x : Nat, x ≤ 200 → nI x ≠ -1 := fun x hx e => by
    have := congrArg Int32.toInt e
    rw [nI_toInt (by omega), show (-1 : Int32).toInt = -1 from rfl] at this
    omega
  refine ⟨by omega, h.wN.1, fun i hi => ?_, fun i hi => ?_⟩
  · rw [(h.w hi).1, h.to (qP_lt hi)]
    exact qwd_n19 b (qP_lt hi)
  · rcases Nat.eq_or_lt_of_le hi with rfl | hi
    · rw [h.wN.2]; exact nn T hT
    · rw [(h.w hi).2]
      have := qP_lt hi
      exact nn _ (by omega)
theorem kTk.let (h : kTk b t T W Z) {f : Nat} (hf : f < T) (q : qLt (b f)) : ∀ j, f ≤ j → j < rto t T f → qLt (t j) := by
  rw [h.to hf]
  have hb := qeow_b (b := b) hf
  intro j h1 h2
  rw [← h.2.1 j (by omega)]
  unfold qeow at h2
  rw [if_pos q] at h2
  rcases Nat.eq_or_lt_of_le h1 with rfl | h3
  · exact q
  · exact of_decide_eq_true (qend_all (fun x => decide (qLt x)) b _ _ j h3 h2)
theorem kTk.dig (h : kTk b t T W Z) {f : Nat} (hf : f < T) (q : qDg (b f)) : ∀ j, f ≤ j → j < rto t T f → qDg (b j) := by
  rw [h.to hf]
  intro j h1 h2
  unfold qeow at h2
  rw [if_neg (fun z => qLD z q), if_pos q] at h2
  rcases Nat.eq_or_lt_of_le h1 with rfl | h3
  · exact q
  · exact of_decide_eq_true (qend_all (fun x => decide (qDg x)) b _ _ j h3 h2)
theorem qnum_cg (f : Nat) : ∀ k, (∀ j, j < k → b (f + j) = t (f + j)) → qnum t f k = qnum b f k
  | 0, _ => rfl
  | k + 1, h => by
    simp only [qnum]
    rw [qnum_cg f k (fun j hj => h j (by omega)), h k (by omega)]
theorem k1000 {n : Nat} (h : n < 10000) : (1000 + nI n).toInt = 1000 + n := by
  rw [show (1000 : Int32) + nI n = nI (1000 + n) from (Int32.ofNat_add 1000 n).symm, nI_toInt (by omega)]
  omega
/-- what word j is: a name, a number, a sign, none of them, or the end -/
theorem kTk.cs (h : kTk b t T W Z) {j : Nat} {q : kRt} (ha : rAt b t T j q) :
    (j < kNw b T ∧ qLt (qby t T q.1) ∧ W j = qof (rword t T q)) ∨
    (j < kNw b T ∧ qDg (qby t T q.1) ∧ q.2.1 < q.1 + 5 ∧ rword t T q = 0 ∧ qNu (W j) ∧ qnum t q.1 (q.2.1 - q.1) = W j - 1000) ∨
    (j < kNw b T ∧ ¬ qLt (qby t T q.1) ∧ qSg (qby t T q.1) ∧ rword t T q = 0 ∧ W j = qby t T q.1) ∨
    (j < kNw b T ∧ ¬ qLt (qby t T q.1) ∧ ¬ qSg (qby t T q.1) ∧ ¬ (qDg (qby t T q.1) ∧ q.2.1 < q.1 + 5) ∧ rword t T q = 0 ∧ W j = 18) ∨
    (j = kNw b T ∧ qby t T q.1 = -1 ∧ q.1 = T ∧ rword t T q = 0 ∧ W j = 19) := by
  obtain ⟨a1, a2, a3, a4⟩ := ha
  have hrw : ¬ qLt (qby t T q.1) → rword t T q = 0 := fun z => if_pos (Or.inr z)
  rcases Nat.eq_or_lt_of_le a4 with e | e
  · have e1 : qby t T q.1 = -1 := by
      rw [a2, e, show qP b T (kNw b T) = T from qP_N]
      exact if_neg (Nat.lt_irrefl T)
    refine Or.inr (Or.inr (Or.inr (Or.inr ⟨e, e1, by rw [a2, e]; exact qP_N, hrw (by rw [e1]; decide), by rw [e]; exact h.wN.1⟩)))
  · have hf := qP_lt e
    obtain ⟨w1, _⟩ := h.w e
    have hb2 := qeow_b (b := b) hf
    rw [← h.to hf] at hb2
    rw [← a2] at w1 hf hb2
    rw [a3]
    have e1 : qby t T q.1 = b q.1 := (if_pos hf).trans (h.2.1 _ hf).symm
    rw [e1] at hrw ⊢
    by_cases q1 : qLt (b q.1)
    · refine Or.inl ⟨e, q1, ?_⟩
      rw [w1]
      unfold qwd
      rw [if_pos q1]
      have hl := h.let hf q1
      rw [qnm_qof (t := t) (fun j h1 h2 => hl j h1 (by omega)) (fun j h1 h2 => h.2.1 j (by omega))]
      refine congrArg qof ?_
      unfold rword
      rw [if_neg (fun z => z.elim (fun z => by rw [a1] at z; cases z) (fun z => z (by rw [e1]; exact q1))), a3]
    · unfold qwd at w1
      rw [if_neg q1] at w1
      by_cases q2 : qDg (b q.1)
      · rw [if_pos q2] at w1
        by_cases q3 : rto t T q.1 - q.1 ≤ 4
        · rw [if_pos q3] at w1
          have hd := h.dig hf q2
          obtain ⟨n, n1, n2⟩ := qnum_r b q.1 (rto t T q.1 - q.1) (fun j hj => hd (q.1 + j) (by omega) (by omega)) q3
          have n3 : n < 10000 := Nat.lt_of_lt_of_le n1 (Nat.pow_le_pow_right (by omega) q3)
          have n4 := k1000 n3
          refine Or.inr (Or.inl ⟨e, q2, by omega, hrw q1, ?_, ?_⟩)
          · rw [w1, n2]
            exact ⟨by omega, by omega⟩
          · rw [w1, qnum_cg q.1 _ (fun j hj => h.2.1 _ (by omega))]
            grind
        · rw [if_neg q3] at w1
          refine Or.inr (Or.inr (Or.inr (Or.inl ⟨e, q1, ?_, fun z => by omega, hrw q1, w1⟩)))
          intro z
          rcases z with z | z | z | z | z | z <;> (rw [z] at q2; revert q2; decide)
      · rw [if_neg q2] at w1
        by_cases q3 : qSg (b q.1)
        · rw [if_pos q3] at w1
          exact Or.inr (Or.inr (Or.inl ⟨e, q1, q3, hrw q1, w1⟩))
        · rw [if_neg q3] at w1
          exact Or.inr (Or.inr (Or.inr (Or.inl ⟨e, q1, q3, fun z => q2 z.1, hrw q1, w1⟩)))
end
