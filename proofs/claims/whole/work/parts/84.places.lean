/-! ===== the places of the words ===== -/
theorem qend_stop (P : Int32 → Bool) (b : Nat → Int32) : ∀ k e, qend P b k e < e + k → ¬ P (b (qend P b k e)) = true
  | 0, e, h => absurd h (by simp only [qend]; omega)
  | k + 1, e, h => by
    simp only [qend] at h ⊢
    split
    · rename_i q
      rw [if_pos q] at h
      exact qend_stop P b k (e + 1) (by omega)
    · rename_i q
      exact q
theorem qend_cg {P : Int32 → Bool} {b t : Nat → Int32} : ∀ k e, (∀ j, e ≤ j → j < e + k → b j = t j) → qend P b k e = qend P t k e
  | 0, e, _ => rfl
  | k + 1, e, h => by
    simp only [qend]
    rw [h e (Nat.le_refl _) (by omega), qend_cg k (e + 1) (fun j h1 h2 => h j (by omega) (by omega))]
theorem qend_no (b : Nat → Int32) (k e : Nat) : qend (fun _ => false) b k e = e := by
  cases k with
  | zero => rfl
  | succ k => rfl
theorem rfr_cg {b t : Nat → Int32} {T e : Nat} (h : ∀ j, j < T → b j = t j) : rfr t T e = rfr b T e := (qend_cg _ _ (fun j h1 h2 => (h j (by omega)).symm))
theorem rto_cg {b t : Nat → Int32} {T f : Nat} (h : ∀ j, j < T → b j = t j) : rto t T f = rto b T f := by
  unfold rto
  by_cases q : f < T
  · rw [if_pos q, if_pos q, h f q]
    exact qend_cg _ _ (fun j h1 h2 => (h j (by omega)).symm)
  · rw [if_neg q, if_neg q]
theorem qLD {x : Int32} (h : qLt x) : ¬ qDg x := fun h2 => by omega
theorem rto_qeow {b : Nat → Int32} {T f : Nat} (h : f < T) : rto b T f = qeow b T f := by
  unfold rto qeow
  rw [if_pos h]
  by_cases q : qLt (b f)
  · rw [if_pos q]
    refine congrArg (fun P => qend P b (T - (f + 1)) (f + 1)) (funext fun x => ?_)
    refine decide_eq_decide.mpr ⟨fun z => ?_, fun z => Or.inl ⟨q, z⟩⟩
    rcases z with z | z
    · exact z.2
    · exact absurd z.1 (qLD q)
  · rw [if_neg q]
    by_cases q2 : qDg (b f)
    · rw [if_pos q2]
      refine congrArg (fun P => qend P b (T - (f + 1)) (f + 1)) (funext fun x => ?_)
      refine decide_eq_decide.mpr ⟨fun z => ?_, fun z => Or.inr ⟨q2, z⟩⟩
      rcases z with z | z
      · exact absurd z.1 q
      · exact z.2
    · rw [if_neg q2]
      refine (congrArg (fun P => qend P b (T - (f + 1)) (f + 1)) (funext fun x => ?_)).trans (qend_no b _ _)
      refine decide_eq_false (fun z => ?_)
      rcases z with z | z
      · exact q z.1
      · exact q2 z.1
def qB (b : Nat → Int32) (T e : Nat) : Prop := e = T ∨ ¬ qinw b e
theorem qps_skip {b : Nat → Int32} : ∀ n k e, n ≤ k → (∀ j, e ≤ j → j < e + n → ¬ (¬ b j = 32 ∧ ¬ qinw b j)) → qps b k e = qps b (k - n) (e + n)
  | 0, k, e, _, _ => rfl
  | n + 1, k, e, hk, h => by
    obtain ⟨k, rfl⟩ : ∃ k1, k = k1 + 1 := ⟨k - 1, by omega⟩
    simp only [qps]
    rw [if_neg (h e (Nat.le_refl _) (by omega)), qps_skip n k (e + 1) (by omega) (fun j h1 h2 => h j (by omega) (by omega)), show k + 1 - (n + 1) = k - n from by omega, show e + (n + 1) = e + 1 + n from by omega]
theorem qend_c {P : Int32 → Bool} {b : Nat → Int32} {T f : Nat} (hf : f < T) : (∀ j, f + 1 ≤ j → j < qend P b (T - (f + 1)) (f + 1) → P (b j) = true) ∧ (qend P b (T - (f + 1)) (f + 1) < T → ¬ P (b (qend P b (T - (f + 1)) (f + 1))) = true) ∧ f + 1 ≤ qend P b (T - (f + 1)) (f + 1) := ⟨fun j h1 h2 => qend_all P b _ _ j h1 h2, fun h => qend_stop P b _ _ (by omega), (qend_b P b _ _).1⟩
theorem qeow_in {b : Nat → Int32} {T f : Nat} (hf : f < T) : (∀ j, f + 1 ≤ j → j < qeow b T f → qinw b j) ∧ qB b T (qeow b T f) := by
  have hb := qeow_b (b := b) hf
  generalize he : qeow b T f = e at hb ⊢
  unfold qeow at he
  by_cases q : qLt (b f)
  · rw [if_pos q] at he
    obtain ⟨c1, c2, c3⟩ := qend_c (P := fun x => decide (qLt x)) (b := b) hf
    rw [he] at c1 c2 c3
    have hall : ∀ j, f ≤ j → j < e → qLt (b j) := fun j h1 h2 => by
      rcases Nat.eq_or_lt_of_le h1 with rfl | h3
      · exact q
      · exact of_decide_eq_true (c1 j h3 h2)
    refine ⟨fun j h1 h2 => ⟨by omega, Or.inl ⟨hall (j - 1) (by omega) (by omega), hall j (by omega) h2⟩⟩, ?_⟩
    rcases Nat.eq_or_lt_of_le hb.2 with h | h
    · exact Or.inl h
    · refine Or.inr (fun z => ?_)
      rcases z.2 with z | z
      · exact c2 h (decide_eq_true z.2)
      · exact qLD (hall (e - 1) (by omega) (by omega)) z.1
  · rw [if_neg q] at he
    by_cases q2 : qDg (b f)
    · rw [if_pos q2] at he
      obtain ⟨c1, c2, c3⟩ := qend_c (P := fun x => decide (qDg x)) (b := b) hf
      rw [he] at c1 c2 c3
      have hall : ∀ j, f ≤ j → j < e → qDg (b j) := fun j h1 h2 => by
        rcases Nat.eq_or_lt_of_le h1 with rfl | h3
        · exact q2
        · exact of_decide_eq_true (c1 j h3 h2)
      refine ⟨fun j h1 h2 => ⟨by omega, Or.inr ⟨hall (j - 1) (by omega) (by omega), hall j (by omega) h2⟩⟩, ?_⟩
      rcases Nat.eq_or_lt_of_le hb.2 with h | h
      · exact Or.inl h
      · refine Or.inr (fun z => ?_)
        rcases z.2 with z | z
        · exact qLD z.1 (hall (e - 1) (by omega) (by omega))
        · exact c2 h (decide_eq_true z.2)
    · rw [if_neg q2] at he
      subst he
      refine ⟨fun j h1 h2 => absurd h1 (by omega), Or.inr (fun z => ?_)⟩
      rcases z.2 with z | z
      · exact q z.1
      · exact q2 z.1
theorem qps_step {b : Nat → Int32} {T e : Nat} (he : e ≤ T) (hB : qB b T e) : (rfr b T e = T ∧ qps b (T - e) e = []) ∨ (rfr b T e < T ∧ qps b (T - e) e = rfr b T e :: qps b (T - qeow b T (rfr b T e)) (qeow b T (rfr b T e)) ∧ qB b T (qeow b T (rfr b T e))) := by
  have hf := rfr_b (t := b) he
  have h32 : ∀ j, e ≤ j → j < rfr b T e → b j = 32 := fun j h1 h2 => of_decide_eq_true (qend_all (fun x => decide (x = 32)) b (T - e) e j h1 h2)
  have hst : rfr b T e < T → ¬ b (rfr b T e) = 32 := fun h z => qend_stop (fun x => decide (x = 32)) b (T - e) e (by unfold rfr at h; omega) (decide_eq_true z)
  generalize rfr b T e = f at hf h32 hst ⊢
  have e1 : qps b (T - e) e = qps b (T - f) f := by
    have := qps_skip (b := b) (f - e) (T - e) e (by omega) (fun j h1 h2 z => z.1 (h32 j h1 (by omega)))
    rw [this, show T - e - (f - e) = T - f from by omega, show e + (f - e) = f from by omega]
  rw [e1]
  rcases Nat.eq_or_lt_of_le hf.2 with h | h
  · left
    subst h
    exact ⟨rfl, by rw [Nat.sub_self]; rfl⟩
  · right
    have hin := qeow_in (b := b) h
    have hb := qeow_b (b := b) h
    refine ⟨h, ?_, hin.2⟩
    generalize qeow b T f = g at hin hb ⊢
    obtain ⟨k, hk⟩ : ∃ k, T - f = k + 1 := ⟨T - f - 1, by omega⟩
    rw [hk]
    simp only [qps]
    have hnw : ¬ qinw b f := by
      rcases Nat.eq_or_lt_of_le hf.1 with h2 | h2
      · subst h2
        rcases hB with h3 | h3
        · omega
        · exact h3
      · have h3 := h32 (f - 1) (by omega) (by omega)
        rintro ⟨_, z⟩
        rw [h3] at z
        revert z
        rintro (z | z)
        · exact absurd z.1 (by decide)
        · exact absurd z.1 (by decide)
    rw [if_pos ⟨hst h, hnw⟩]
    refine congrArg (f :: ·) ?_
    have := qps_skip (b := b) (g - (f + 1)) k (f + 1) (by omega) (fun j h1 h2 z => z.2 (hin.1 j h1 (by omega)))
    rw [this, show k - (g - (f + 1)) = T - g from by omega, show f + 1 + (g - (f + 1)) = g from by omega]
theorem qps_chain {b : Nat → Int32} {T : Nat} : ∀ (k e : Nat), e ≤ T → T ≤ e + k → qB b T e → (qps b (T - e) e).getD 0 T = rfr b T e ∧ ∀ j, j < (qps b (T - e) e).length → (qps b (T - e) e).getD (j + 1) T = rfr b T (qeow b T ((qps b (T - e) e).getD j T))
  | k, e, he, hk, hB => by
    have hf := rfr_b (t := b) he
    rcases qps_step he hB with ⟨h1, h2⟩ | ⟨h1, h2, h3⟩
    · rw [h2, h1]
      exact ⟨rfl, fun j hj => absurd hj (Nat.not_lt_zero j)⟩
    · have hb := qeow_b (b := b) h1
      rcases k with _ | k
      · omega
      · obtain ⟨i1, i2⟩ := qps_chain k (qeow b T (rfr b T e)) hb.2 (by omega) h3
        rw [h2]
        refine ⟨rfl, fun j hj => ?_⟩
        rcases j with _ | j
        · exact i1
        · exact i2 j (by rw [List.length_cons] at hj; omega)
/-- place of word j -/
def qP (b : Nat → Int32) (T j : Nat) : Nat := (qps b T 0).getD j T
theorem qP_0 {b : Nat → Int32} {T : Nat} : qP b T 0 = rfr b T 0 := (qps_chain T 0 (by omega) (by omega) (Or.inr (fun z => by omega))).1
theorem qP_s {b : Nat → Int32} {T j : Nat} (h : j < (qps b T 0).length) : qP b T (j + 1) = rfr b T (qeow b T (qP b T j)) := (qps_chain T 0 (by omega) (by omega) (Or.inr (fun z => by omega))).2 j h
theorem qP_lt {b : Nat → Int32} {T j : Nat} (h : j < (qps b T 0).length) : qP b T j < T := by
  have e : qP b T j = (qps b T 0)[j] := by
    unfold qP
    rw [List.getD_eq_getElem?_getD, List.getElem?_eq_getElem h]
    rfl
  rw [e]
  have := qps_mem b T 0 _ (List.getElem_mem h)
  omega
theorem qP_N {b : Nat → Int32} {T : Nat} : qP b T (qps b T 0).length = T := by
  unfold qP
  rw [List.getD_eq_getElem?_getD, List.getElem?_eq_none (Nat.le_refl _)]
  rfl
