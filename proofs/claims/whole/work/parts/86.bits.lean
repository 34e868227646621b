/-! ===== the two evaluations, step by step ===== -/
theorem nI_bv (n : Nat) : (nI n).toBitVec = BitVec.ofNat 32 n := rfl
theorem kb_and1 {n : Nat} (h : n < 2147483648) : nI n &&& 1 = nI (n % 2) := by
  apply Int32.toBitVec_inj.mp
  apply BitVec.eq_of_toNat_eq
  rw [Int32.toBitVec_and, BitVec.toNat_and, nI_bv, nI_bv, BitVec.toNat_ofNat, BitVec.toNat_ofNat]
  show n % 4294967296 &&& 1 = n % 2 % 4294967296
  rw [Nat.and_one_is_mod]
  omega
theorem kb_shr {n : Nat} (h : n < 2147483648) : kush (nI n) = nI (n / 2) := by
  apply Int32.toBitVec_inj.mp
  apply BitVec.eq_of_toNat_eq
  have e : (kush (nI n)).toBitVec = (BitVec.ofNat 32 n) >>> (1 : Nat) := rfl
  rw [e, BitVec.toNat_ushiftRight, nI_bv, BitVec.toNat_ofNat, BitVec.toNat_ofNat, Nat.shiftRight_eq_div_pow]
  omega
theorem kb_or1 {n : Nat} (h : n < 1073741824) (v : Bool) : nI (2 * n) ||| nI v.toNat = nI (2 * n + v.toNat) := by
  cases v with
  | false =>
    show nI (2 * n) ||| 0 = nI (2 * n)
    grind
  | true =>
    apply Int32.toBitVec_inj.mp
    apply BitVec.eq_of_toNat_eq
    rw [Int32.toBitVec_or, BitVec.toNat_or, nI_bv, nI_bv, nI_bv, BitVec.toNat_ofNat, BitVec.toNat_ofNat, BitVec.toNat_ofNat]
    show 2 * n % 4294967296 ||| 1 = (2 * n + 1) % 4294967296
    rw [Nat.mod_eq_of_lt (by omega), Nat.mod_eq_of_lt (by omega)]
    exact (Nat.two_pow_add_eq_or_of_lt (i := 1) (b := 1) (by decide) n).symm
theorem kb_xor {n : Nat} (h : n < 1073741824) (v : Bool) : nI (2 * n + v.toNat) ^^^ 1 = nI (2 * n + (!v).toNat) := by
  apply Int32.toBitVec_inj.mp
  apply BitVec.eq_of_toNat_eq
  rw [Int32.toBitVec_xor, BitVec.toNat_xor, nI_bv, nI_bv, BitVec.toNat_ofNat, BitVec.toNat_ofNat]
  have hv : v.toNat ≤ 1 ∧ (!v).toNat = 1 - v.toNat := by cases v <;> decide
  show (2 * n + v.toNat) % 4294967296 ^^^ 1 = (2 * n + (!v).toNat) % 4294967296
  rw [Nat.mod_eq_of_lt (by omega), Nat.mod_eq_of_lt (by omega)]
  have e1 : ((2 * n + v.toNat) ^^^ 1) / 2 = (2 * n + v.toNat) / 2 := by
    rw [Nat.xor_div_two]
    exact Nat.xor_zero _
  have e2 : ((2 * n + v.toNat) ^^^ 1) % 2 = (!v).toNat := by
    have e3 : ((2 * n + v.toNat) ^^^ 1) % 2 = 1 ↔ ¬ ((2 * n + v.toNat) % 2 = 1 ↔ 1 % 2 = 1) := Nat.xor_mod_two_eq_one
    generalize ((2 * n + v.toNat) ^^^ 1) = Y at e3 ⊢
    have hv2 : v.toNat = 0 ∨ v.toNat = 1 := by omega
    omega
  omega
theorem kb_m2 {n : Nat} (h : n < 1073741824) (v : Bool) : nI (2 * n + v.toNat) &&& (-2) = nI (2 * n) := by
  have e : (-2 : Int32) = ~~~ (1 : Int32) := by decide
  have e1 : nI (2 * n + v.toNat) = nI (2 * n) ||| nI v.toNat := (kb_or1 h v).symm
  have e2 : nI (2 * n) &&& 1 = 0 := by
    have := kb_and1 (n := 2 * n) (by omega)
    rw [this, show 2 * n % 2 = 0 from by omega]
    rfl
  apply Int32.toBitVec_inj.mp
  rw [e1, e, Int32.toBitVec_and, Int32.toBitVec_or, Int32.toBitVec_not]
  have e3 : (nI (2 * n)).toBitVec &&& 1#32 = 0#32 := congrArg Int32.toBitVec e2
  generalize (nI (2 * n)).toBitVec = X at e3 ⊢
  have e4 : (nI v.toNat).toBitVec &&& ~~~ 1#32 = 0#32 := by cases v <;> decide
  show (X ||| (nI v.toNat).toBitVec) &&& ~~~ 1#32 = X
  generalize (nI v.toNat).toBitVec = Y at e4 ⊢
  apply BitVec.eq_of_getLsbD_eq
  intro i hi
  have e5 := congrArg (fun z => z.getLsbD i) e3
  have e6 := congrArg (fun z => z.getLsbD i) e4
  simp only [BitVec.getLsbD_and, BitVec.getLsbD_or, BitVec.getLsbD_not, BitVec.getLsbD_zero] at e5 e6 ⊢
  revert e5 e6
  cases X.getLsbD i <;> cases Y.getLsbD i <;> cases (1#32).getLsbD i <;> simp_all
theorem kb_shl {n : Nat} (h : n < 1073741824) : nI n <<< ((1 : Int32) &&& 31) = nI (2 * n) := by
  apply Int32.toBitVec_inj.mp
  apply BitVec.eq_of_toNat_eq
  have e : (nI n <<< ((1 : Int32) &&& 31)).toBitVec = (BitVec.ofNat 32 n) <<< (1 : Nat) := rfl
  rw [e, BitVec.toNat_shiftLeft, nI_bv, BitVec.toNat_ofNat, BitVec.toNat_ofNat, Nat.shiftLeft_eq]
  omega
section
variable {f : Nat → Int32} {n : Nat}
theorem kstk_or (h : n < 536870912) (a v : Bool) : kstk f (nI (2 * (2 * n + a.toNat) + v.toNat)) (-3) = nI (2 * n + (a || v).toNat) := by
  have ha : a.toNat ≤ 1 := by cases a <;> decide
  have hv : v.toNat ≤ 1 := by cases v <;> decide
  unfold kstk
  rw [if_pos rfl, kb_shr (by omega), kb_and1 (by omega), show (2 * (2 * n + a.toNat) + v.toNat) / 2 = 2 * n + a.toNat from by omega, show (2 * (2 * n + a.toNat) + v.toNat) % 2 = v.toNat from by omega]
  rw [← kb_or1 (by omega) a, ← kb_or1 (by omega) (a || v)]
  have e : nI (2 * n) ||| nI a.toNat ||| nI v.toNat = nI (2 * n) ||| (nI a.toNat ||| nI v.toNat) := Int32.or_assoc _ _ _
  rw [e]
  refine congrArg (nI (2 * n) ||| ·) ?_
  cases a <;> cases v <;> decide
theorem kstk_and (h : n < 536870912) (a v : Bool) : kstk f (nI (2 * (2 * n + a.toNat) + v.toNat)) (-2) = nI (2 * n + (a && v).toNat) := by
  have ha : a.toNat ≤ 1 := by cases a <;> decide
  have hv : v.toNat ≤ 1 := by cases v <;> decide
  unfold kstk
  rw [if_neg (by decide), if_pos rfl, kb_shr (by omega), kb_and1 (by omega), show (2 * (2 * n + a.toNat) + v.toNat) / 2 = 2 * n + a.toNat from by omega, show (2 * (2 * n + a.toNat) + v.toNat) % 2 = v.toNat from by omega]
  cases v with
  | true => rw [if_pos (by decide)]; cases a <;> rfl
  | false => rw [if_neg (by decide), kb_m2 (by omega)]; cases a <;> rfl
theorem kstk_not (h : n < 536870912) (v : Bool) : kstk f (nI (2 * n + v.toNat)) (-1) = nI (2 * n + (!v).toNat) := by
  unfold kstk
  rw [if_neg (by decide), if_neg (by decide), if_pos rfl, kb_xor (by omega)]
theorem kstk_cmp (h : n < 536870912) {x : Int32} (hx : 0 ≤ x.toInt) : kstk f (nI n) x = nI (2 * n + (kcmp f x).toNat) := by
  have hne : ∀ y : Int32, y.toInt < 0 → x ≠ y := fun y hy e => by rw [e] at hx; omega
  unfold kstk
  rw [if_neg (hne _ (by decide)), if_neg (hne _ (by decide)), if_neg (hne _ (by decide)), kb_shl (by omega), ← kb_or1 (by omega)]
  refine congrArg (nI (2 * n) ||| ·) ?_
  cases kcmp f x <;> rfl
end
theorem kfold_add (f code : Nat → Int32) : ∀ (a k i : Nat) (s : Int32), kfold f code (a + k) i s = kfold f code k (i + a) (kfold f code a i s)
  | 0, k, i, s => by rw [Nat.zero_add]; rfl
  | a + 1, k, i, s => by
    rw [show a + 1 + k = (a + k) + 1 from by omega]
    simp only [kfold]
    rw [kfold_add f code a k (i + 1), show i + 1 + a = i + (a + 1) from by omega]
theorem kfold_cg {f code c1 : Nat → Int32} : ∀ (k i : Nat) (s : Int32), (∀ j, i ≤ j → j < i + k → code j = c1 j) → kfold f code k i s = kfold f c1 k i s
  | 0, i, s, _ => rfl
  | k + 1, i, s, h => by
    simp only [kfold]
    rw [h i (Nat.le_refl _) (by omega)]
    exact kfold_cg k (i + 1) _ (fun j h1 h2 => h j (by omega) (by omega))
theorem mrun_add {fac : Int32 → Int32} {s : Nat → Int32} : ∀ (a k i : Nat) (st s1 : List Int32), mrun fac s a i st = some s1 → mrun fac s (a + k) i st = mrun fac s k (i + a) s1
  | 0, k, i, st, s1, h => by
    rw [Nat.zero_add]
    rw [show st = s1 from Option.some.inj h]
    rfl
  | a + 1, k, i, st, s1, h => by
    rw [show a + 1 + k = (a + k) + 1 from by omega]
    simp only [mrun] at h ⊢
    cases hm : mstep fac st (s (97 + i)) with
    | none => rw [hm] at h; cases h
    | some s2 =>
      rw [hm] at h
      have := mrun_add a k (i + 1) s2 s1 h
      rw [show i + (a + 1) = i + 1 + a from by omega]
      exact this
theorem mrun_cg {fac : Int32 → Int32} {s s1 : Nat → Int32} : ∀ (k i : Nat) (st : List Int32), (∀ j, i ≤ j → j < i + k → s (97 + j) = s1 (97 + j)) → mrun fac s k i st = mrun fac s1 k i st
  | 0, i, st, _ => rfl
  | k + 1, i, st, h => by
    simp only [mrun]
    rw [h i (Nat.le_refl _) (by omega)]
    cases mstep fac st (s1 (97 + i)) with
    | none => rfl
    | some s2 => exact mrun_cg k (i + 1) s2 (fun j h1 h2 => h j (by omega) (by omega))
theorem kbt_n (v : Bool) : (nI v.toNat = 1) = (v = true) := by cases v <;> decide
theorem mst_not {fac : Int32 → Int32} {v : Bool} {st : List Int32} : mstep fac (nI v.toNat :: st) (-20) = some (nI (!v).toNat :: st) := by
  cases v <;> rfl
theorem mst_or {fac : Int32 → Int32} {a v : Bool} {st : List Int32} : mstep fac (nI v.toNat :: nI a.toNat :: st) (-22) = some (nI (a || v).toNat :: st) := by
  cases a <;> cases v <;> rfl
theorem mst_and {fac : Int32 → Int32} {a v : Bool} {st : List Int32} : mstep fac (nI v.toNat :: nI a.toNat :: st) (-21) = some (nI (a && v).toNat :: st) := by
  cases a <;> cases v <;> rfl
theorem mst_push {fac : Int32 → Int32} {x : Int32} {st : List Int32} (h : (-10 : Int32) < x) (hl : st.length < 200) : mstep fac st x = some (fac x :: st) := by
  unfold mstep
  rw [if_pos h, if_pos hl]
