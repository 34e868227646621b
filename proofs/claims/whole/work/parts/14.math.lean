/-! ===== plain facts ===== -/
theorem kn_pred {n : Nat} (h : n < 2 ^ 30) : (nI n - 1).toInt = (n : Int) - 1 := pk_sub_toInt h (by omega : 1 < 2 ^ 30)
theorem k_nat {x : Int32} {n : Nat} (h : 0 ≤ x.toInt ∧ x.toInt < (n : Int)) : ∃ j : Nat, j < n ∧ x = nI j := by
  refine ⟨x.toInt.toNat, by omega, Int32.toInt_inj.mp ?_⟩
  have h1 : x.toInt < 2 ^ 31 := Int32.toInt_lt x
  rw [nI_toInt (by omega)]
  omega
theorem k_natle {x : Int32} {n : Nat} (h : 0 ≤ x.toInt ∧ x.toInt ≤ (n : Int)) : ∃ j : Nat, j ≤ n ∧ x = nI j := by
  obtain ⟨j, hj, e⟩ := k_nat (n := n + 1) ⟨h.1, by omega⟩
  exact ⟨j, by omega, e⟩
theorem nI_rng {j n : Nat} (h : j < n) (hn : n < 2 ^ 31) : 0 ≤ (nI j).toInt ∧ (nI j).toInt < (n : Int) := by
  rw [nI_toInt (by omega)]
  omega
/-- the first place at which f is l, from i on, k places yet; -9: none -/
def kfi (f : Nat → Int32) (l : Int32) : Nat → Nat → Int32
  | 0, _ => -9
  | k + 1, i => if f i = l then nI i else kfi f l k (i + 1)
theorem kfi_iff {f : Nat → Int32} {l : Int32} : ∀ k i, i + k < 2 ^ 31 → ((kfi f l k i = -9 ∧ ∀ j, i ≤ j → j < i + k → f j ≠ l) ∨ ∃ j, i ≤ j ∧ j < i + k ∧ f j = l ∧ kfi f l k i = nI j) := by
  intro k
  induction k with
  | zero => intro i _; exact Or.inl ⟨rfl, fun j h1 h2 => by omega⟩
  | succ k ih =>
    intro i hi
    simp only [kfi]
    by_cases h : f i = l
    · rw [if_pos h]
      exact Or.inr ⟨i, by omega, by omega, h, rfl⟩
    · rw [if_neg h]
      rcases ih (i + 1) (by omega) with ⟨h1, h2⟩ | ⟨j, h1, h2, h3, h4⟩
      · refine Or.inl ⟨h1, fun j g1 g2 => ?_⟩
        rcases Nat.eq_or_lt_of_le g1 with e | e
        · rw [← e]; exact h
        · exact h2 j (by omega) (by omega)
      · exact Or.inr ⟨j, by omega, by omega, h3, h4⟩
theorem kfi_congr {f g : Nat → Int32} {l : Int32} : ∀ k i, (∀ j, i ≤ j → j < i + k → f j = g j) → kfi f l k i = kfi g l k i := by
  intro k
  induction k with
  | zero => intro i _; rfl
  | succ k ih =>
    intro i h
    simp only [kfi]
    rw [h i (by omega) (by omega), ih (i + 1) (fun j h1 h2 => h j (by omega) (by omega))]
theorem upd_s (f : Nat → Int32) (k : Nat) (x : Int32) : upd f k x k = x := by simp [upd]
theorem upd_n (f : Nat → Int32) {k j : Nat} (x : Int32) (h : j ≠ k) : upd f k x j = f j := by simp [upd, h]
theorem updA_s {α : Type} (f : Nat → α) (k : Nat) (x : α) : updA f k x k = x := by simp [updA]
theorem updA_n {α : Type} (f : Nat → α) {k j : Nat} (x : α) (h : j ≠ k) : updA f k x j = f j := by simp [updA, h]
theorem updA_idem {α : Type} (f : Nat → α) (k : Nat) (x y : α) : updA (updA f k x) k y = updA f k y := by funext j; simp only [updA]; split <;> rfl
theorem updA_sw {α : Type} (f : Nat → α) {k l : Nat} (x y : α) (h : l < k) : updA (updA f k x) l y = updA (updA f l y) k x := by
  funext j
  simp only [updA]
  by_cases h1 : j = l
  · rw [if_pos h1, if_neg (by omega), if_pos h1]
  · rw [if_neg h1]
    by_cases h2 : j = k
    · rw [if_pos h2, if_pos h2]
    · rw [if_neg h2, if_neg h2, if_neg h1]
theorem upd_updA (f : Nat → Int32) (k : Nat) (x : Int32) : upd f k x = updA f k x := by funext j; simp [upd, updA]
theorem setS_idem (z : kZ) (k : Nat) (x y : Int32) : setS (setS z k x) k y = setS z k y := by simp only [setS, upd_updA, updA_idem]
theorem setA_idem (z : kZ) (k : Nat) (x y : Nat → Int32) : setA (setA z k x) k y = setA z k y := by simp only [setA, updA_idem]
theorem setS_sw (z : kZ) {k l : Nat} (x y : Int32) (h : l < k) : setS (setS z k x) l y = setS (setS z l y) k x := by simp only [setS, upd_updA, updA_sw _ x y h]
theorem setA_sw (z : kZ) {k l : Nat} (x y : Nat → Int32) (h : l < k) : setA (setA z k x) l y = setA (setA z l y) k x := by simp only [setA, updA_sw _ x y h]
theorem setS_A (z : kZ) (k l : Nat) (x : Nat → Int32) (y : Int32) : setS (setA z k x) l y = setA (setS z l y) k x := rfl
theorem setA_self (z : kZ) (k : Nat) : setA z k (z.2.1 k) = z := by
  have h : updA z.2.1 k (z.2.1 k) = z.2.1 := by funext j; simp only [updA]; split <;> simp_all
  simp only [setA, h]
theorem upd_self (f : Nat → Int32) (k : Nat) : upd f k (f k) = f := by funext j; simp only [upd]; split <;> simp_all
/-- from j on one place nearer, as far as place n - 1 -/
def ksh (f : Nat → Int32) (j n : Nat) : Nat → Int32 := fun k => if j ≤ k ∧ k + 1 < n then f (k + 1) else f k
theorem ksh_0 (f : Nat → Int32) (j : Nat) : ksh f j (j + 1) = f := by funext k; simp only [ksh]; rw [if_neg (by omega)]
theorem ksh_at (f : Nat → Int32) (j n : Nat) {k : Nat} (h : n ≤ k + 1) : ksh f j n k = f k := by simp only [ksh]; rw [if_neg (by omega)]
theorem ksh_s (f : Nat → Int32) {j n i : Nat} (h : j + 1 ≤ n) (hi : i + 1 = n) : upd (ksh f j n) i (f n) = ksh f j (n + 1) := by
  funext k
  simp only [upd, ksh]
  by_cases hk : k = i
  · rw [if_pos hk, if_pos (by omega), hk, hi]
  · rw [if_neg hk]
    by_cases h1 : j ≤ k ∧ k + 1 < n
    · rw [if_pos h1, if_pos (by omega)]
    · rw [if_neg h1, if_neg (by omega)]
def kz16 (x : Int32) : Nat := x.toBitVec.toNat / 2 ^ 16
theorem kz16_lt (x : Int32) : kz16 x < 2 ^ 16 := by
  have h := x.toBitVec.isLt
  unfold kz16
  omega
theorem kz16_eq (x : Int32) : (x.toUInt32 >>> ((16 : Int32).toUInt32 &&& Int32.toUInt32 31)).toInt32 = nI (kz16 x) := by
  have h := pk_ushr x 16 16 (by decide)
  apply Int32.toBitVec_inj.mp
  apply BitVec.eq_of_toNat_eq
  rw [h, pk_tn (Nat.lt_trans (kz16_lt x) (by decide))]
  rfl
/-- as ksh, by two -/
def ksh2 (f : Nat → Int32) (a b : Nat) : Nat → Int32 := fun k => if a ≤ k ∧ k < b then f (k + 2) else f k
theorem ksh2_0 (f : Nat → Int32) (a : Nat) : ksh2 f a a = f := by funext k; simp only [ksh2]; rw [if_neg (by omega)]
theorem ksh2_at (f : Nat → Int32) (a b : Nat) {k : Nat} (h : b ≤ k) : ksh2 f a b k = f k := by simp only [ksh2]; rw [if_neg (by omega)]
theorem ksh2_lo (f : Nat → Int32) (a b : Nat) {k : Nat} (h : k < a) : ksh2 f a b k = f k := by simp only [ksh2]; rw [if_neg (by omega)]
theorem ksh2_s (f : Nat → Int32) {a b : Nat} (h : a ≤ b) : upd (ksh2 f a b) b (f (b + 2)) = ksh2 f a (b + 1) := by
  funext k
  simp only [upd, ksh2]
  by_cases hk : k = b
  · rw [if_pos hk, if_pos (by omega), hk]
  · rw [if_neg hk]
    by_cases h1 : a ≤ k ∧ k < b
    · rw [if_pos h1, if_pos (by omega)]
    · rw [if_neg h1, if_neg (by omega)]
/-- the first n places of g, the others of f -/
def kov (f g : Nat → Int32) (n : Nat) : Nat → Int32 := fun k => if k < n then g k else f k
theorem kov_0 (f g : Nat → Int32) : kov f g 0 = f := by funext k; simp only [kov]; rw [if_neg (by omega)]
theorem kov_s (f g : Nat → Int32) (n : Nat) : upd (kov f g n) n (g n) = kov f g (n + 1) := by
  funext k
  simp only [upd, kov]
  by_cases hk : k = n
  · rw [if_pos hk, if_pos (by omega), hk]
  · rw [if_neg hk]
    by_cases h1 : k < n
    · rw [if_pos h1, if_pos (by omega)]
    · rw [if_neg h1, if_neg (by omega)]
