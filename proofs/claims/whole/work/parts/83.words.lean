/-! ===== the words of the two readers ===== -/
theorem qlet_n {x : Int32} (h : qLt x) : ∃ d : Nat, 1 ≤ d ∧ d ≤ 26 ∧ x = nI (96 + d) := by
  refine ⟨(x.toInt - 96).toNat, by omega, by omega, ?_⟩
  apply Int32.toInt_inj.mp
  rw [nI_toInt (by omega)]
  omega
def lDg (t : Nat → Int32) (j : Nat) : Nat := (t j).toInt.toNat - 96
theorem lDg_b {t : Nat → Int32} {j : Nat} (h : qLt (t j)) : 1 ≤ lDg t j ∧ lDg t j ≤ 26 := by
  unfold lDg
  omega
theorem lDg_e {t : Nat → Int32} {j : Nat} (h : qLt (t j)) : t j = nI (96 + lDg t j) := by
  apply Int32.toInt_inj.mp
  unfold lDg
  rw [nI_toInt (by omega)]
  omega
theorem lDg_64 {t : Nat → Int32} {j : Nat} (h : qLt (t j)) : (t j - 96).toInt64 = Int64.ofNat (lDg t j) := by
  have e : t j - 96 = Int32.ofNat (lDg t j) := by
    rw [lDg_e h]
    show Int32.ofNat (96 + lDg t j) - 96 = _
    rw [Int32.ofNat_add]
    show (96 : Int32) + Int32.ofNat (lDg t j) - 96 = _
    grind
  rw [e]
  exact (by decide : ∀ d : Fin 27, (Int32.ofNat d.val).toInt64 = Int64.ofNat d.val) ⟨lDg t j, by have := lDg_b h; omega⟩
def wN (g : Nat → Nat) : Nat → Nat → Nat → Nat
  | 0, _, x => x
  | k + 1, i, x => wN g k (i + 1) (if x ≤ 36028797018963967 then 32 * x + g i else x)
theorem i64_n {n : Nat} (h : n < 2305843009213693952) : (Int64.ofNat n).toInt = n := Int64.toInt_ofNat_of_lt (by omega)
theorem rwd_wN {t : Nat → Int32} : ∀ (k i x : Nat), (∀ j, i ≤ j → j < i + k → qLt (t j)) → x < 2305843009213693952 → rwd t k i (Int64.ofNat x) = Int64.ofNat (wN (lDg t) k i x) ∧ wN (lDg t) k i x < 2305843009213693952
  | 0, i, x, _, hx => ⟨rfl, hx⟩
  | k + 1, i, x, hl, hx => by
    have h0 : qLt (t i) := hl i (Nat.le_refl _) (by omega)
    have hb := lDg_b h0
    have e1 : (Int64.ofNat x ≤ 36028797018963967) ↔ x ≤ 36028797018963967 := by
      rw [Int64.le_iff_toInt_le, i64_n hx, show (36028797018963967 : Int64).toInt = 36028797018963967 from rfl]
      omega
    simp only [rwd, wN]
    by_cases q : x ≤ 36028797018963967
    · rw [if_pos (e1.mpr q), if_pos q, lDg_64 h0]
      have e2 : (32 : Int64) * Int64.ofNat x + Int64.ofNat (lDg t i) = Int64.ofNat (32 * x + lDg t i) := by
        rw [Int64.ofNat_add, Int64.ofNat_mul]
        rfl
      rw [e2]
      exact rwd_wN k (i + 1) (32 * x + lDg t i) (fun j h1 h2 => hl j (by omega) (by omega)) (by omega)
    · rw [if_neg (fun z => q (e1.mp z)), if_neg q]
      exact rwd_wN k (i + 1) x (fun j h1 h2 => hl j (by omega) (by omega)) hx
theorem wN_iff {g : Nat → Nat} {C : Nat} (hC : C ≤ 36028797018963967) : ∀ (k i x : Nat), (∀ j, i ≤ j → j < i + k → 1 ≤ g j ∧ g j ≤ 26) → (wN g k i x = C ↔ (x = C / 32 ^ k ∧ ∀ j, j < k → g (i + j) = C / 32 ^ (k - 1 - j) % 32))
  | 0, i, x, _ => ⟨fun h => ⟨by rw [Nat.pow_zero, Nat.div_one]; exact h, fun j hj => absurd hj (by omega)⟩, fun h => by have := h.1; rw [Nat.pow_zero, Nat.div_one] at this; exact this⟩
  | k + 1, i, x, hl => by
    have h0 := hl i (Nat.le_refl _) (by omega)
    have ih := fun x => wN_iff hC (g := g) k (i + 1) x (fun j h1 h2 => hl j (by omega) (by omega))
    have e9 : C / 32 ^ (k + 1) = C / 32 ^ k / 32 := by rw [Nat.pow_succ, Nat.div_div_eq_div_mul]
    have hle : C / 32 ^ k ≤ C := Nat.div_le_self _ _
    simp only [wN]
    by_cases q : x ≤ 36028797018963967
    · rw [if_pos q, ih]
      constructor
      · rintro ⟨h1, h2⟩
        refine ⟨by omega, fun j hj => ?_⟩
        rcases j with _ | j
        · rw [show k + 1 - 1 - 0 = k from by omega, Nat.add_zero]; omega
        · have := h2 j (by omega)
          rw [show k + 1 - 1 - (j + 1) = k - 1 - j from by omega, show i + (j + 1) = i + 1 + j from by omega]
          exact this
      · rintro ⟨h1, h2⟩
        have h3 := h2 0 (by omega)
        rw [show k + 1 - 1 - 0 = k from by omega, Nat.add_zero] at h3
        refine ⟨by omega, fun j hj => ?_⟩
        have := h2 (j + 1) (by omega)
        rw [show k + 1 - 1 - (j + 1) = k - 1 - j from by omega, show i + (j + 1) = i + 1 + j from by omega] at this
        exact this
    · rw [if_neg q, ih]
      constructor
      · rintro ⟨h1, _⟩; exact absurd h1 (by omega)
      · rintro ⟨h1, _⟩; exact absurd h1 (by omega)
theorem wN_name {g : Nat → Nat} {C n f ls : Nat} (ds : Nat → Nat) (hC : C ≤ 36028797018963967) (hn : C < 32 ^ n) (h1 : ∀ j, j < n → C / 32 ^ (n - 1 - j) % 32 = ds j) (h2 : ∀ l, l < n → C / 32 ^ l ≠ 0) (hl : ∀ j, f ≤ j → j < f + ls → 1 ≤ g j ∧ g j ≤ 26) : wN g ls f 0 = C ↔ (ls = n ∧ ∀ j, j < n → g (f + j) = ds j) := by
  rw [wN_iff hC ls f 0 hl]
  constructor
  · rintro ⟨e1, e2⟩
    rcases Nat.lt_trichotomy ls n with q | q | q
    · exact absurd e1.symm (h2 ls q)
    · subst q
      exact ⟨rfl, fun j hj => (e2 j hj).trans (h1 j hj)⟩
    · have e3 := e2 0 (by omega)
      have e4 : C / 32 ^ (ls - 1 - 0) = 0 := Nat.div_eq_of_lt (Nat.lt_of_lt_of_le hn (Nat.pow_le_pow_right (by omega) (by omega)))
      rw [e4] at e3
      have := hl (f + 0) (by omega) (by omega)
      omega
  · rintro ⟨rfl, e2⟩
    exact ⟨(Nat.div_eq_of_lt hn).symm, fun j hj => (e2 j hj).trans (h1 j hj).symm⟩
theorem kite {P R : Prop} [Decidable P] [Decidable R] {x y x1 y1 : Int32} (h : P ↔ R) (h1 : x = x1) (h2 : y = y1) : (if P then x else y) = (if R then x1 else y1) := by
  subst h1 h2
  by_cases q : P
  · rw [if_pos q, if_pos (h.mp q)]
  · rw [if_neg q, if_neg (fun z => q (h.mpr z))]
theorem qnm_go (b : Nat → Int32) (fr ls : Nat) (xs : List Int32) (nm : Nat) : ∀ (l : List Int32) (lt : Nat) (sm : Bool), (∀ x, x ∈ l → x ≠ 32) → qnm b fr ls (l ++ 32 :: xs) nm lt sm = if sm = true ∧ ls = lt + l.length ∧ (∀ j, j < l.length → b (fr + lt + j) = l.getD j 0) then nI nm else qnm b fr ls xs (nm + 1) 0 true
  | [], lt, sm, _ => by
    show (if (32 : Int32) = 32 then _ else _) = _
    rw [if_pos rfl]
    by_cases q : sm = true ∧ lt = ls
    · rw [if_pos q, if_pos ⟨q.1, q.2.symm, fun j hj => absurd hj (Nat.not_lt_zero j)⟩]
    · rw [if_neg q, if_neg (fun z => q ⟨z.1, z.2.1.symm⟩)]
  | x :: l, lt, sm, h => by
    show (if x = 32 then _ else _) = _
    rw [if_neg (h x (List.mem_cons_self ..))]
    refine (qnm_go b fr ls xs nm l (lt + 1) _ (fun y hy => h y (List.mem_cons_of_mem _ hy))).trans (kite ?_ rfl rfl)
    rw [List.length_cons]
    constructor
    · rintro ⟨h1, h2, h3⟩
      rw [Bool.and_eq_true, Bool.and_eq_true] at h1
      refine ⟨h1.1.1, by omega, fun j hj => ?_⟩
      rcases j with _ | j
      · exact of_decide_eq_true h1.2
      · have := h3 j (by omega)
        rw [show fr + lt + (j + 1) = fr + (lt + 1) + j from by omega]
        exact this
    · rintro ⟨h1, h2, h3⟩
      rw [Bool.and_eq_true, Bool.and_eq_true]
      refine ⟨⟨⟨h1, decide_eq_true (by omega)⟩, decide_eq_true (h3 0 (by omega))⟩, by omega, fun j hj => ?_⟩
      have := h3 (j + 1) (by omega)
      rw [show fr + lt + (j + 1) = fr + (lt + 1) + j from by omega] at this
      exact this
/-- the number of a name, by its letters -/
theorem knm_iff {t b : Nat → Int32} {f ls : Nat} (hl : ∀ j, f ≤ j → j < f + ls → qLt (t j)) (hb : ∀ j, f ≤ j → j < f + ls → b j = t j) (l : List Int32) {C : Nat} {x : Int64} (hx : x = Int64.ofNat C) (hL : ∀ j, j < l.length → qLt (l.getD j 0)) (hC : C ≤ 36028797018963967) (hn : C < 32 ^ l.length) (h1 : ∀ j, j < l.length → C / 32 ^ (l.length - 1 - j) % 32 = lDg (fun j => l.getD j 0) j) (h2 : ∀ n, n < l.length → C / 32 ^ n ≠ 0) : rwd t ls f 0 = x ↔ ((true : Bool) = true ∧ ls = 0 + l.length ∧ (∀ j, j < l.length → b (f + 0 + j) = l.getD j 0)) := by
  obtain ⟨e1, e2⟩ := rwd_wN ls f 0 hl (by omega)
  have e3 : rwd t ls f 0 = x ↔ wN (lDg t) ls f 0 = C := by
    rw [hx]
    show rwd t ls f (Int64.ofNat 0) = _ ↔ _
    rw [e1]
    constructor
    · intro h
      have := congrArg Int64.toInt h
      rw [i64_n e2, i64_n (by omega)] at this
      omega
    · intro h; rw [h]
  rw [e3, wN_name (lDg (fun j => l.getD j 0)) hC hn h1 h2 (fun j q1 q2 => lDg_b (hl j q1 q2))]
  constructor
  · rintro ⟨q1, q2⟩
    refine ⟨rfl, by omega, fun j hj => ?_⟩
    have e5 := q2 j hj
    rw [Nat.add_zero, hb (f + j) (by omega) (by omega), lDg_e (hl (f + j) (by omega) (by omega)), e5]
    exact (lDg_e (t := fun j => l.getD j 0) (hL j hj)).symm
  · rintro ⟨_, q1, q2⟩
    refine ⟨by omega, fun j hj => ?_⟩
    have e5 := q2 j hj
    rw [Nat.add_zero, hb (f + j) (by omega) (by omega)] at e5
    unfold lDg
    rw [e5]
def qof (x : Int64) : Int32 := if x = 398803 then nI 0 else if x = 21013182128292 then nI 1 else if x = 755277 then nI 2 else if x = 4902553 then nI 3 else if x = 679214 then nI 4 else if x = 680939684 then nI 5 else if x = 294 then nI 6 else if x = 441925 then nI 7 else if x = 398963 then nI 8 else if x = 208948 then nI 9 else if x = 498 then nI 10 else if x = 1476 then nI 11 else if x = 14836 then nI 12 else if x = 267316 then nI 13 else if x = 7216 then nI 14 else if x = 5925 then nI 15 else if x = 71108 then nI 16 else if x = 492210354 then nI 17 else 18
theorem kBYT_split : kBYT = ([108, 101, 110, 115] ++ (32 : Int32) :: ([115, 99, 114, 97, 116, 99, 104, 101, 100] ++ (32 : Int32) :: ([119, 97, 114, 109] ++ (32 : Int32) :: ([100, 117, 115, 116, 121] ++ (32 : Int32) :: ([116, 119, 105, 110] ++ (32 : Int32) :: ([116, 105, 108, 116, 101, 100] ++ (32 : Int32) :: ([105, 102] ++ (32 : Int32) :: ([109, 111, 114, 101] ++ (32 : Int32) :: ([108, 101, 115, 115] ++ (32 : Int32) :: ([102, 108, 97, 116] ++ (32 : Int32) :: ([111, 114] ++ (32 : Int32) :: ([97, 110, 100] ++ (32 : Int32) :: ([110, 111, 116] ++ (32 : Int32) :: ([104, 101, 97, 116] ++ (32 : Int32) :: ([103, 97, 112] ++ (32 : Int32) :: ([101, 121, 101] ++ (32 : Int32) :: ([98, 101, 110, 100] ++ (32 : Int32) :: ([110, 117, 109, 98, 101, 114] ++ (32 : Int32) :: [])))))))))))))))))) := rfl
theorem qnm_qof {t b : Nat → Int32} {f ls : Nat} (hl : ∀ j, f ≤ j → j < f + ls → qLt (t j)) (hb : ∀ j, f ≤ j → j < f + ls → b j = t j) : qnm b f ls kBYT 0 0 true = qof (rwd t ls f 0) := by
  rw [kBYT_split]
  unfold qof
  refine (qnm_go b f ls _ 0 [108, 101, 110, 115] 0 true (by decide)).trans (kite (knm_iff hl hb [108, 101, 110, 115] (C := 398803) rfl (by decide) (by decide) (by decide) (by decide) (by decide)).symm rfl ?_)
  refine (qnm_go b f ls _ 1 [115, 99, 114, 97, 116, 99, 104, 101, 100] 0 true (by decide)).trans (kite (knm_iff hl hb [115, 99, 114, 97, 116, 99, 104, 101, 100] (C := 21013182128292) rfl (by decide) (by decide) (by decide) (by decide) (by decide)).symm rfl ?_)
  refine (qnm_go b f ls _ 2 [119, 97, 114, 109] 0 true (by decide)).trans (kite (knm_iff hl hb [119, 97, 114, 109] (C := 755277) rfl (by decide) (by decide) (by decide) (by decide) (by decide)).symm rfl ?_)
  refine (qnm_go b f ls _ 3 [100, 117, 115, 116, 121] 0 true (by decide)).trans (kite (knm_iff hl hb [100, 117, 115, 116, 121] (C := 4902553) rfl (by decide) (by decide) (by decide) (by decide) (by decide)).symm rfl ?_)
  refine (qnm_go b f ls _ 4 [116, 119, 105, 110] 0 true (by decide)).trans (kite (knm_iff hl hb [116, 119, 105, 110] (C := 679214) rfl (by decide) (by decide) (by decide) (by decide) (by decide)).symm rfl ?_)
  refine (qnm_go b f ls _ 5 [116, 105, 108, 116, 101, 100] 0 true (by decide)).trans (kite (knm_iff hl hb [116, 105, 108, 116, 101, 100] (C := 680939684) rfl (by decide) (by decide) (by decide) (by decide) (by decide)).symm rfl ?_)
  refine (qnm_go b f ls _ 6 [105, 102] 0 true (by decide)).trans (kite (knm_iff hl hb [105, 102] (C := 294) rfl (by decide) (by decide) (by decide) (by decide) (by decide)).symm rfl ?_)
  refine (qnm_go b f ls _ 7 [109, 111, 114, 101] 0 true (by decide)).trans (kite (knm_iff hl hb [109, 111, 114, 101] (C := 441925) rfl (by decide) (by decide) (by decide) (by decide) (by decide)).symm rfl ?_)
  refine (qnm_go b f ls _ 8 [108, 101, 115, 115] 0 true (by decide)).trans (kite (knm_iff hl hb [108, 101, 115, 115] (C := 398963) rfl (by decide) (by decide) (by decide) (by decide) (by decide)).symm rfl ?_)
  refine (qnm_go b f ls _ 9 [102, 108, 97, 116] 0 true (by decide)).trans (kite (knm_iff hl hb [102, 108, 97, 116] (C := 208948) rfl (by decide) (by decide) (by decide) (by decide) (by decide)).symm rfl ?_)
  refine (qnm_go b f ls _ 10 [111, 114] 0 true (by decide)).trans (kite (knm_iff hl hb [111, 114] (C := 498) rfl (by decide) (by decide) (by decide) (by decide) (by decide)).symm rfl ?_)
  refine (qnm_go b f ls _ 11 [97, 110, 100] 0 true (by decide)).trans (kite (knm_iff hl hb [97, 110, 100] (C := 1476) rfl (by decide) (by decide) (by decide) (by decide) (by decide)).symm rfl ?_)
  refine (qnm_go b f ls _ 12 [110, 111, 116] 0 true (by decide)).trans (kite (knm_iff hl hb [110, 111, 116] (C := 14836) rfl (by decide) (by decide) (by decide) (by decide) (by decide)).symm rfl ?_)
  refine (qnm_go b f ls _ 13 [104, 101, 97, 116] 0 true (by decide)).trans (kite (knm_iff hl hb [104, 101, 97, 116] (C := 267316) rfl (by decide) (by decide) (by decide) (by decide) (by decide)).symm rfl ?_)
  refine (qnm_go b f ls _ 14 [103, 97, 112] 0 true (by decide)).trans (kite (knm_iff hl hb [103, 97, 112] (C := 7216) rfl (by decide) (by decide) (by decide) (by decide) (by decide)).symm rfl ?_)
  refine (qnm_go b f ls _ 15 [101, 121, 101] 0 true (by decide)).trans (kite (knm_iff hl hb [101, 121, 101] (C := 5925) rfl (by decide) (by decide) (by decide) (by decide) (by decide)).symm rfl ?_)
  refine (qnm_go b f ls _ 16 [98, 101, 110, 100] 0 true (by decide)).trans (kite (knm_iff hl hb [98, 101, 110, 100] (C := 71108) rfl (by decide) (by decide) (by decide) (by decide) (by decide)).symm rfl ?_)
  refine (qnm_go b f ls _ 17 [110, 117, 109, 98, 101, 114] 0 true (by decide)).trans (kite (knm_iff hl hb [110, 117, 109, 98, 101, 114] (C := 492210354) rfl (by decide) (by decide) (by decide) (by decide) (by decide)).symm rfl ?_)
  rfl
