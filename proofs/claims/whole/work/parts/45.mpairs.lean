/-! ===== pairs: the reference ===== -/
theorem kq_a (i : Nat) (h : i < 32) : nI i &&& 1 = nI (i % 2) := (by decide : ∀ j : Fin 32, nI j &&& 1 = nI (j % 2)) ⟨i, h⟩
theorem kq_b (i : Nat) (h : i < 32) : nI i >>> ((1 : Int32) &&& 31) &&& 3 = nI (i / 2 % 4) := (by decide : ∀ j : Fin 32, nI j >>> ((1 : Int32) &&& 31) &&& 3 = nI (j.1 / 2 % 4)) ⟨i, h⟩
theorem kq_c (i : Nat) (h : i < 32) : (1 : Int32) - nI (i % 2) = nI (1 - i % 2) := (by decide : ∀ j : Fin 32, (1 : Int32) - nI (j.1 % 2) = nI (1 - j.1 % 2)) ⟨i, h⟩
theorem kq_d (i : Nat) (h : i < 32) : nI i >>> ((3 : Int32) &&& 31) = nI (i / 8) := (by decide : ∀ j : Fin 32, nI j >>> ((3 : Int32) &&& 31) = nI (j.1 / 8)) ⟨i, h⟩
theorem kbS (S a : Nat) (ha : a < 31) (hS : S < 2 ^ 31) : nI S >>> (nI a &&& 31) &&& 1 = kb (S.testBit a = true) := by
  have e : (nI S).toBitVec.getLsbD a = S.testBit a := by
    show (BitVec.ofNat 32 S).getLsbD a = _
    rw [BitVec.getLsbD_ofNat]
    simp [show a < 32 by omega]
  have h := kbt (nI S) ha
  rw [e] at h
  rcases kand1 (nI S >>> (nI a &&& 31)) with q | q
  · rw [q, kb_f (fun z => by rw [h.mpr z] at q; exact absurd q (by decide))]
  · rw [q, kb_t (h.mp q)]
def kclr (S a : Nat) : Nat := if S.testBit a then S - 2 ^ a else S
theorem kclr_le (S a : Nat) : kclr S a ≤ S := by
  unfold kclr
  split
  · exact Nat.sub_le _ _
  · exact Nat.le_refl _
theorem kclr_i (S a : Nat) (ha : a < 9) (hS : S < 512) : nI S &&& ((1 : Int32) <<< (nI a &&& 31) ^^^ (-1)) = nI (kclr S a) := (by decide +kernel : ∀ s : Fin 512, ∀ b : Fin 9, nI s &&& ((1 : Int32) <<< (nI b &&& 31) ^^^ (-1)) = nI (kclr s b)) ⟨S, hS⟩ ⟨a, ha⟩
theorem k2n_i (n : Nat) (h : n ≤ 9) : (1 : Int32) <<< (nI n &&& 31) = nI (2 ^ n) := (by decide : ∀ j : Fin 10, (1 : Int32) <<< (nI j &&& 31) = nI (2 ^ j.1)) ⟨n, by omega⟩
theorem k2n_b (n : Nat) (h : n ≤ 9) : 2 ^ n ≤ 512 ∧ 1 ≤ 2 ^ n := (by decide : ∀ j : Fin 10, 2 ^ j.1 ≤ 512 ∧ 1 ≤ 2 ^ j.1) ⟨n, by omega⟩
def iTub (a b i : Nat) : kTb := if i % 2 = 0 then [(a, i / 2 % 4), (b, i / 8)] else [(b, i / 8), (a, i / 2 % 4)]
def ipb (s : Nat → Int32) (en : Nat → Nat) (cnt a b : Nat) : Nat → Nat → Bool
  | 0, _ => false
  | k + 1, i => decide (mW2 s en cnt (iTub a b i) ≤ s 7) || ipb s en cnt a b k (i + 1)
theorem iTub_laid {s : Nat → Int32} {en : Nat → Nat} {cnt nl a b i : Nat} {v : kZ} (h8 : v.1 8008 = nI 2) (hS : mSt s en cnt nl v) (ha : a < nl) (hb : b < nl) : mLaid (setA (setA (setA (setA v 86 (upd (v.2.1 86) (i % 2) (v.2.1 85 a))) 87 (upd (v.2.1 87) (i % 2) (kpush (mtl s a) (nI (i / 2 % 4))))) 86 (upd (upd (v.2.1 86) (i % 2) (v.2.1 85 a)) (1 - i % 2) (v.2.1 85 b))) 87 (upd (upd (v.2.1 87) (i % 2) (kpush (mtl s a) (nI (i / 2 % 4)))) (1 - i % 2) (kpush (mtl s b) (nI (i / 8))))) ((iTub a b i).map (kent2 (fun l => mstr s en cnt l) (mtl s))) := by
  refine ⟨?_, fun j hj => ?_⟩
  · show v.1 8008 = _
    rw [h8, List.length_map]
    unfold iTub
    split <;> rfl
  · rw [List.length_map] at hj
    rw [List.getElem_map]
    show (upd (upd (v.2.1 86) _ _) _ _ j, upd (upd (v.2.1 87) _ _) _ _ j) = _
    rw [hS a ha, hS b hb]
    unfold iTub at hj ⊢
    by_cases q : i % 2 = 0
    · simp only [q, if_true] at hj ⊢
      simp only [List.length_cons, List.length_nil] at hj
      rcases (by omega : j = 0 ∨ j = 1) with e | e <;> subst e <;> simp [upd, kent2]
    · have q1 : i % 2 = 1 := by omega
      simp only [q1, Nat.one_ne_zero, if_false] at hj ⊢
      simp only [List.length_cons, List.length_nil] at hj
      rcases (by omega : j = 0 ∨ j = 1) with e | e <;> subst e <;> simp [upd, kent2]
theorem s_X10_isPair_l {X : kX} {d : Nat} {c w m v : kZ} {E : kH} {cnt : Nat} {en : Nat → Nat} {nl : Nat} (hn : m.2.1 81 0 = nI nl) (hnl : nl ≤ 9) {a b : Nat} (ha : a < nl) (hb : b < nl) : ∀ (k : Nat) (i : Nat) (v' : kZ), (i + k = 32) → (mFr 86 87 v v') → (v'.1 8008 = nI 2) → (mSt (m.2.1 81) en cnt nl v') → WP X (d + 4) 0 0 Y_X10_isPair 7 [(3, .int (nI (i))), (0, .ref (80)), (1, .int (nI (a))), (2, .int (nI (b)))] [] (HP c w m v' E) (fun r h1 => r = some (.int (kb (ipb (m.2.1 81) en cnt a b k i = true))) ∧ ∃ v1 : kZ, h1 = HP c w m v1 E ∧ mFr 86 87 v v1) := by
  intro k
  induction k using Nat.strongRecOn with
  | ind k ih =>
    intro i v' hi hf h8 hS
    refine wp_iload_n 0 d_X10_isPair_7 rfl rfl ?_
    refine wp_bipush (v0 := 32) d_X10_isPair_8 (by decide) ?_
    refine wp_ncmp_ge (a := i) (b := 32) 54 d_X10_isPair_10 rfl (by omega) (by omega) (fun zc10 => ?_) (fun zc10 => ?_)
    · refine wp_iconst (v0 := 0) d_X10_isPair_54 rfl ?_
      refine wp_iret d_X10_isPair_55 rfl k_nar0 ?_
      obtain rfl : k = 0 := by omega
      exact ⟨congrArg (fun z => some (Value.int z)) (Eq.symm (kb_f (by simp only [ipb]; decide))), v', rfl, hf⟩
    · refine wp_aload_n 1 d_X10_isPair_13 rfl rfl ?_
      refine wp_iload_n 0 d_X10_isPair_14 rfl rfl ?_
      refine wp_iconst (v0 := 1) d_X10_isPair_15 rfl ?_
      refine wp_iand d_X10_isPair_16 ?_
      refine wp_v (v0 := nI (i % 2)) (kq_a i (by omega)) ?_
      refine wp_iload_n 2 d_X10_isPair_17 rfl rfl ?_
      refine wp_iload_n 0 d_X10_isPair_18 rfl rfl ?_
      refine wp_iconst (v0 := 1) d_X10_isPair_19 rfl ?_
      refine wp_ishr d_X10_isPair_20 ?_
      refine wp_iconst (v0 := 3) d_X10_isPair_21 rfl ?_
      refine wp_iand d_X10_isPair_22 ?_
      refine wp_v (v0 := nI (i / 2 % 4)) (kq_b i (by omega)) ?_
      refine wp_vrt_v (As := [.int (nI (i % 2)), .int (nI (a)), .int (nI (i / 2 % 4))]) (h1 := HP c w m (setA (setA v' 86 (upd (v'.2.1 86) (i % 2) ((v'.2.1 85) (a)))) 87 (upd (v'.2.1 87) (i % 2) (kpush (mtl (m.2.1 81) (a)) (nI (i / 2 % 4))))) E) d_X10_isPair_23 lk_X10_139 mv_X10_thinks in_X10_thinks se_X10_thinks (Nat.le_of_ble_eq_true rfl) (Nat.le_of_ble_eq_true rfl) (hp_80 _ _ _ _ _) rfl (s_X10_thinks (p := i % 2) (l := a) (by omega) (by omega) (nI (i / 2 % 4))) ?_
      refine wp_aload_n 1 d_X10_isPair_26 rfl rfl ?_
      refine wp_iconst (v0 := 1) d_X10_isPair_27 rfl ?_
      refine wp_iload_n 0 d_X10_isPair_28 rfl rfl ?_
      refine wp_iconst (v0 := 1) d_X10_isPair_29 rfl ?_
      refine wp_iand d_X10_isPair_30 ?_
      refine wp_v (v0 := nI (i % 2)) (kq_a i (by omega)) ?_
      refine wp_isub d_X10_isPair_31 ?_
      refine wp_v (v0 := nI ((1) - (i % 2))) (pk_sub (a := 1) (b := i % 2) (by omega)) ?_
      refine wp_iload_n 3 d_X10_isPair_32 rfl rfl ?_
      refine wp_iload_n 0 d_X10_isPair_33 rfl rfl ?_
      refine wp_iconst (v0 := 3) d_X10_isPair_34 rfl ?_
      refine wp_ishr d_X10_isPair_35 ?_
      refine wp_v (v0 := nI (i / 8)) (kq_d i (by omega)) ?_
      refine wp_vrt_v (As := [.int (nI ((1) - (i % 2))), .int (nI (b)), .int (nI (i / 8))]) (h1 := HP c w m (setA (setA (setA (setA v' 86 (upd (v'.2.1 86) (i % 2) ((v'.2.1 85) (a)))) 87 (upd (v'.2.1 87) (i % 2) (kpush (mtl (m.2.1 81) (a)) (nI (i / 2 % 4))))) 86 (upd (upd (v'.2.1 86) (i % 2) ((v'.2.1 85) (a))) ((1) - (i % 2)) ((v'.2.1 85) (b)))) 87 (upd (upd (v'.2.1 87) (i % 2) (kpush (mtl (m.2.1 81) (a)) (nI (i / 2 % 4)))) ((1) - (i % 2)) (kpush (mtl (m.2.1 81) (b)) (nI (i / 8))))) E) d_X10_isPair_36 lk_X10_139 mv_X10_thinks in_X10_thinks se_X10_thinks (Nat.le_of_ble_eq_true rfl) (Nat.le_of_ble_eq_true rfl) (hp_80 _ _ _ _ _) rfl (s_X10_thinks (p := (1) - (i % 2)) (l := b) (by omega) (by omega) (nI (i / 8))) ?_
      refine wp_aload_n 1 d_X10_isPair_39 rfl rfl ?_
      refine wp_virtual0 (As := []) d_X10_isPair_40 lk_X10_169 mv_X10_isMended in_X10_isMended se_X10_isMended (Nat.le_of_ble_eq_true rfl) (Nat.le_of_ble_eq_true rfl) (hp_80 _ _ _ _ _) rfl (s_X10_isMended (l := ((iTub a b i).map (kent2 (fun l => mstr (m.2.1 81) en cnt l) (mtl (m.2.1 81))))) (by rw [List.length_map]; unfold iTub; split <;> simp) (iTub_laid h8 hS ha hb)) (fun v40 h40 q40 => ?_)
      obtain ⟨rfl, u1, rfl, hu1⟩ := q40
      have hf2 : mFr 86 87 v u1 := hf.tr (mFr.tr (y := (setA (setA (setA (setA v' 86 (upd (v'.2.1 86) (i % 2) ((v'.2.1 85) (a)))) 87 (upd (v'.2.1 87) (i % 2) (kpush (mtl (m.2.1 81) (a)) (nI (i / 2 % 4))))) 86 (upd (upd (v'.2.1 86) (i % 2) ((v'.2.1 85) (a))) ((1) - (i % 2)) ((v'.2.1 85) (b)))) 87 (upd (upd (v'.2.1 87) (i % 2) (kpush (mtl (m.2.1 81) (a)) (nI (i / 2 % 4)))) ((1) - (i % 2)) (kpush (mtl (m.2.1 81) (b)) (nI (i / 8)))))) ⟨fun _ _ => rfl, fun k9 h9 => by simp only [setA]; repeat rw [updA_n _ _ (by omega)], rfl⟩ (hu1.fr 86 87))
      have h82 : u1.1 8008 = nI 2 := (hu1.1 _ (by decide)).trans h8
      have hS2 : mSt (m.2.1 81) en cnt nl u1 := fun l9 h9 => by rw [hu1.2]; exact hS l9 h9
      show WP _ _ _ _ _ 43 _ [.int (kb (mW2 (m.2.1 81) en cnt (iTub a b i) ≤ (m.2.1 81) 7))] (HP c w m u1 E) _
      refine wp_ifb_eq 48 d_X10_isPair_43 rfl (fun zc43 => ?_) (fun zc43 => ?_)
      · refine wp_iinc (v0 := nI ((i) + 1)) [(3, .int (nI ((i) + 1))), (0, .ref (80)), (1, .int (nI (a))), (2, .int (nI (b)))] 0 d_X10_isPair_48 rfl (nI_add (i) 1) (Nat.le_of_ble_eq_true rfl) rfl ?_
        refine wp_goto 7 d_X10_isPair_51 rfl ?_
        obtain ⟨k1, rfl⟩ : ∃ k1, k = k1 + 1 := ⟨k - 1, by omega⟩
        refine wp_sub [(3, .int (nI ((i) + 1))), (0, .ref (80)), (1, .int (nI (a))), (2, .int (nI (b)))] [0, 1, 2, 3] rfl ?_
        have L := ih k1 (by omega) (i + 1) u1 (by omega) hf2 h82 hS2
        rw [show ipb (m.2.1 81) en cnt a b (k1 + 1) i = ipb (m.2.1 81) en cnt a b k1 (i + 1) by simp only [ipb]; rw [decide_eq_false zc43, Bool.false_or]]
        exact L
      · refine wp_iconst (v0 := 1) d_X10_isPair_46 rfl ?_
        refine wp_iret d_X10_isPair_47 rfl k_nar1 ?_
        obtain ⟨k1, rfl⟩ : ∃ k1, k = k1 + 1 := ⟨k - 1, by omega⟩
        refine ⟨congrArg (fun z => some (Value.int z)) (Eq.symm (kb_t ?_)), u1, rfl, hf2⟩
        simp only [ipb]
        rw [decide_eq_true zc43, Bool.true_or]
theorem s_X10_isPair {X : kX} {d : Nat} {c w m v : kZ} {E : kH} {cnt : Nat} {en : Nat → Nat} {nl : Nat} (hn : m.2.1 81 0 = nI nl) (hnl : nl ≤ 9) (hS : mSt (m.2.1 81) en cnt nl v) {a b : Nat} (ha : a < nl) (hb : b < nl) : WP X (d + 4) 0 0 Y_X10_isPair 0 [(0, .ref (80)), (1, .int (nI (a))), (2, .int (nI (b)))] [] (HP c w m v E) (fun r h1 => r = some (.int (kb (ipb (m.2.1 81) en cnt a b 32 0 = true))) ∧ ∃ v1 : kZ, h1 = HP c w m v1 E ∧ mFr 86 87 v v1) := by
  refine wp_aload_n 0 d_X10_isPair_0 rfl rfl ?_
  refine wp_iconst (v0 := 2) d_X10_isPair_1 rfl ?_
  refine wp_putfield (h' := HP c w m (setS v 8008 (2)) E) d_X10_isPair_2 gp_X10_135 (kfit_i _) (hp_80 _ _ _ _ _) (Nat.le_of_ble_eq_true rfl) (hps_80_8 _ _ _ _ _ _) ?_
  refine wp_iconst (v0 := 0) d_X10_isPair_5 rfl ?_
  refine wp_istore_n [(3, .int (0)), (0, .ref (80)), (1, .int (nI (a))), (2, .int (nI (b)))] d_X10_isPair_6 rfl (Nat.le_of_ble_eq_true rfl) rfl ?_
  refine wp_sub [(3, .int (0)), (0, .ref (80)), (1, .int (nI (a))), (2, .int (nI (b)))] [0, 1, 2, 3] rfl ?_
  refine wp_mono ?_ (s_X10_isPair_l (v := setS v 8008 2) hn hnl ha hb 32 0 _ (by omega) (mFr.rf _ _ _) rfl hS)
  rintro r1 h1 ⟨rfl, v1, rfl, hf⟩
  exact ⟨rfl, v1, rfl, ⟨fun k9 h9 => (hf.1 k9 h9).trans (upd_n _ _ (by omega)), hf.2.1, hf.2.2⟩⟩
def klw (S : Nat) : Nat → Nat → Nat
  | 0, a => a
  | k + 1, a => if S.testBit a = true then a else klw S k (a + 1)
def msb (ap g : Nat → Int32) (a rest : Nat) : Nat → Nat → Int32 → Int32
  | 0, _, mo => mo
  | k + 1, b, mo => msb ap g a rest k (b + 1) (if rest.testBit b = true ∧ ap (9 * a + b) ≠ 0 then (if mo < 1 + g (kclr rest b) then 1 + g (kclr rest b) else mo) else mo)
def mst1 (ap g : Nat → Int32) (n S : Nat) : Int32 := msb ap g (klw S n 0) (kclr S (klw S n 0)) (n - (klw S n 0 + 1)) (klw S n 0 + 1) (g (kclr S (klw S n 0)))
theorem klw_ok {S n : Nat} : ∀ k a, a + k = n → (∃ j, a ≤ j ∧ j < n ∧ S.testBit j = true) → klw S k a < n ∧ a ≤ klw S k a ∧ S.testBit (klw S k a) = true ∧ ∀ j, a ≤ j → j < klw S k a → S.testBit j = false := by
  intro k
  induction k with
  | zero => intro a h ⟨j, h1, h2, _⟩; omega
  | succ k ih =>
    intro a h ⟨j, h1, h2, h3⟩
    simp only [klw]
    by_cases q : S.testBit a = true
    · rw [if_pos q]; exact ⟨by omega, by omega, q, fun j h1 h2 => absurd h2 (by omega)⟩
    · rw [if_neg q]
      have hj : a + 1 ≤ j := by
        rcases Nat.lt_or_ge a j with z | z
        · exact z
        · have e : j = a := by omega
          rw [e] at h3; exact absurd h3 q
      obtain ⟨i1, i2, i3, i4⟩ := ih (a + 1) (by omega) ⟨j, hj, h2, h3⟩
      refine ⟨i1, by omega, i3, fun j2 g1 g2 => ?_⟩
      rcases Nat.lt_or_ge a j2 with z | z
      · exact i4 j2 z g2
      · have e : j2 = a := by omega
        rw [e]; simpa using q
theorem kbit_ex {S n : Nat} (h0 : 0 < S) (hn : S < 2 ^ n) : ∃ j, 0 ≤ j ∧ j < n ∧ S.testBit j = true := by
  obtain ⟨j, hj⟩ := Nat.exists_testBit_of_ne_zero (by omega : S ≠ 0)
  refine ⟨j, Nat.zero_le _, ?_, hj⟩
  rcases Nat.lt_or_ge j n with q | q
  · exact q
  · have h1 : 2 ^ j ≤ S := Nat.ge_two_pow_of_testBit hj
    have h2 : 2 ^ n ≤ 2 ^ j := Nat.pow_le_pow_right (by decide) q
    omega
theorem kclr_lt {S a : Nat} (h : S.testBit a = true) : kclr S a < S := by
  have h1 : 2 ^ a ≤ S := Nat.ge_two_pow_of_testBit h
  have h2 : 0 < 2 ^ a := Nat.two_pow_pos a
  unfold kclr
  rw [if_pos h]
  omega
theorem s_X10_mostOf_a {X : kX} {d : Nat} {c w m v : kZ} {E : kH} {S n9 : Nat} (hS : S < 512) (hn9 : n9 ≤ 9) {Q : Option Value → kH → Prop} (K : S.testBit (klw S n9 0) = true → klw S n9 0 < n9 → WP X d 0 0 Y_X10_mostOf 16 [(2, .int (nI (klw S n9 0))), (0, .ref 80), (1, .int (nI S))] [] (HP c w m v E) Q) : ∀ (k : Nat) (a : Nat), (a + k = n9) → (∃ j, a ≤ j ∧ j < n9 ∧ S.testBit j = true) → (klw S k a = klw S n9 0) → WP X d 0 0 Y_X10_mostOf 2 [(2, .int (nI (a))), (0, .ref (80)), (1, .int (nI (S)))] [] (HP c w m v E) Q := by
  intro k
  induction k using Nat.strongRecOn with
  | ind k ih =>
    intro a hak he hq
    refine wp_iload_n 2 d_X10_mostOf_2 rfl rfl ?_
    refine wp_iload_n 0 d_X10_mostOf_3 rfl rfl ?_
    have ha9 : a < n9 := by obtain ⟨j, h1, h2, h3⟩ := he; omega
    refine wp_ishr d_X10_mostOf_4 ?_
    refine wp_iconst (v0 := 1) d_X10_mostOf_5 rfl ?_
    refine wp_iand d_X10_mostOf_6 ?_
    refine wp_v (v0 := kb ((S).testBit (a) = true)) (kbS (S) (a) (by omega) (by omega)) ?_
    refine wp_ifb_ne 16 d_X10_mostOf_7 rfl (fun zc7 => ?_) (fun zc7 => ?_)
    · obtain ⟨k1, rfl⟩ : ∃ k1, k = k1 + 1 := ⟨k - 1, by obtain ⟨j, h1, h2, h3⟩ := he; omega⟩
      have hq2 := hq
      simp only [klw] at hq2
      rw [if_pos zc7] at hq2
      refine wp_sub [(2, .int (nI (a))), (0, .ref (80)), (1, .int (nI (S)))] [0, 1, 2] rfl ?_
      rw [hq2] at zc7 ⊢
      exact K zc7 (by rw [← hq2]; omega)
    · refine wp_iinc (v0 := nI ((a) + 1)) [(2, .int (nI ((a) + 1))), (0, .ref (80)), (1, .int (nI (S)))] 0 d_X10_mostOf_10 rfl (nI_add (a) 1) (Nat.le_of_ble_eq_true rfl) rfl ?_
      refine wp_goto 2 d_X10_mostOf_13 rfl ?_
      obtain ⟨k1, rfl⟩ : ∃ k1, k = k1 + 1 := ⟨k - 1, by omega⟩
      refine wp_sub [(2, .int (nI ((a) + 1))), (0, .ref (80)), (1, .int (nI (S)))] [0, 1, 2] rfl ?_
      simp only [klw] at hq
      rw [if_neg zc7] at hq
      refine ih k1 (by omega) (a + 1) (by omega) ?_ hq
      obtain ⟨j, h1, h2, h3⟩ := he
      refine ⟨j, ?_, h2, h3⟩
      rcases Nat.lt_or_ge a j with z | z
      · exact z
      · have e : j = a := by omega
        rw [e] at h3; exact absurd h3 zc7
theorem s_X10_mostOf_b {X : kX} {d : Nat} {c w m v : kZ} {E : kH} {nl : Nat} (hn : m.2.1 81 0 = nI nl) (hnl : nl ≤ 9) {S a rest : Nat} (hr : rest < 512) (ha : a < 9) : ∀ (k : Nat) (b : Nat) (mo : Int32), (b + k = nl) → (a < b) → WP X d 0 0 Y_X10_mostOf 37 [(5, .int (nI (b))), (4, .int (mo)), (0, .ref (80)), (1, .int (nI (S))), (2, .int (nI (a))), (3, .int (nI (rest)))] [] (HP c w m v E) (kR (some (.int (msb (v.2.1 90) (v.2.1 91) a rest k b mo))) (HP c w m v E)) := by
  intro k
  induction k using Nat.strongRecOn with
  | ind k ih =>
    intro b mo hbk hab
    refine wp_iload 0 d_X10_mostOf_37 rfl ?_
    refine wp_aload_n 2 d_X10_mostOf_39 rfl rfl ?_
    refine wp_getfield (v := .ref (81)) d_X10_mostOf_40 gf_X10_7 (hp_80 _ _ _ _ _) rfl ?_
    refine wp_iconst (v0 := 0) d_X10_mostOf_43 rfl ?_
    refine wp_iaload (v := nI (nl)) d_X10_mostOf_44 (hp_81 _ _ _ _ _) (kin rfl) hn ?_
    refine wp_ncmp_ge (a := b) (b := nl) 112 d_X10_mostOf_45 rfl (by omega) (by omega) (fun zc45 => ?_) (fun zc45 => ?_)
    · refine wp_iload 1 d_X10_mostOf_112 rfl ?_
      refine wp_reti d_X10_mostOf_114 rfl ?_
      obtain rfl : k = 0 := by omega
      exact kR_i rfl rfl
    · refine wp_iload_n 5 d_X10_mostOf_48 rfl rfl ?_
      refine wp_iload 0 d_X10_mostOf_49 rfl ?_
      refine wp_ishr d_X10_mostOf_51 ?_
      refine wp_iconst (v0 := 1) d_X10_mostOf_52 rfl ?_
      refine wp_iand d_X10_mostOf_53 ?_
      refine wp_v (v0 := kb ((rest).testBit (b) = true)) (kbS (rest) (b) (by omega) (by omega)) ?_
      refine wp_iconst (v0 := 1) d_X10_mostOf_54 rfl ?_
      refine wp_icmp_ne 106 d_X10_mostOf_55 rfl (fun zc55 => ?_) (fun zc55 => ?_)
      · refine wp_iinc (v0 := nI ((b) + 1)) [(5, .int (nI ((b) + 1))), (4, .int (mo)), (0, .ref (80)), (1, .int (nI (S))), (2, .int (nI (a))), (3, .int (nI (rest)))] 0 d_X10_mostOf_106 rfl (nI_add (b) 1) (Nat.le_of_ble_eq_true rfl) rfl ?_
        refine wp_goto 37 d_X10_mostOf_109 rfl ?_
        obtain ⟨k1, rfl⟩ : ∃ k1, k = k1 + 1 := ⟨k - 1, by omega⟩
        refine wp_sub [(5, .int (nI ((b) + 1))), (4, .int (mo)), (0, .ref (80)), (1, .int (nI (S))), (2, .int (nI (a))), (3, .int (nI (rest)))] [0, 1, 2, 3, 4, 5] rfl ?_
        simp only [msb]
        rw [if_neg (fun q => zc55 (kb_1.mpr q.1))]
        exact ih k1 (by omega) (b + 1) _ (by omega) (by omega)
      · refine wp_aload_n 2 d_X10_mostOf_58 rfl rfl ?_
        refine wp_getfield (v := .ref (90)) d_X10_mostOf_59 gf_X10_37 (hp_80 _ _ _ _ _) rfl ?_
        refine wp_bipush (v0 := 9) d_X10_mostOf_62 (by decide) ?_
        refine wp_iload_n 4 d_X10_mostOf_64 rfl rfl ?_
        refine wp_imul d_X10_mostOf_65 ?_
        refine wp_v (v0 := nI ((9) * (a))) (pk_mul (9) (a)) ?_
        refine wp_iload 0 d_X10_mostOf_66 rfl ?_
        refine wp_iadd d_X10_mostOf_68 ?_
        refine wp_v (v0 := nI (((9) * (a)) + (b))) (nI_add ((9) * (a)) (b)) ?_
        refine wp_zaload (v := (v.2.1 90) (((9) * (a)) + (b))) d_X10_mostOf_69 (hp_90 _ _ _ _ _) (vp_in_nI (by omega) (by omega)) (congrArg ((v.2.1 90)) (nI_clamp (by omega))) ?_
        refine wp_if_eq 106 d_X10_mostOf_70 rfl (fun zc70 => ?_) (fun zc70 => ?_)
        · refine wp_iinc (v0 := nI ((b) + 1)) [(5, .int (nI ((b) + 1))), (4, .int (mo)), (0, .ref (80)), (1, .int (nI (S))), (2, .int (nI (a))), (3, .int (nI (rest)))] 0 d_X10_mostOf_106 rfl (nI_add (b) 1) (Nat.le_of_ble_eq_true rfl) rfl ?_
          refine wp_goto 37 d_X10_mostOf_109 rfl ?_
          obtain ⟨k1, rfl⟩ : ∃ k1, k = k1 + 1 := ⟨k - 1, by omega⟩
          refine wp_sub [(5, .int (nI ((b) + 1))), (4, .int (mo)), (0, .ref (80)), (1, .int (nI (S))), (2, .int (nI (a))), (3, .int (nI (rest)))] [0, 1, 2, 3, 4, 5] rfl ?_
          simp only [msb]
          rw [if_neg (fun q => q.2 zc70)]
          exact ih k1 (by omega) (b + 1) _ (by omega) (by omega)
        · refine wp_iconst (v0 := 1) d_X10_mostOf_73 rfl ?_
          refine wp_aload_n 2 d_X10_mostOf_74 rfl rfl ?_
          refine wp_getfield (v := .ref (91)) d_X10_mostOf_75 gf_X10_41 (hp_80 _ _ _ _ _) rfl ?_
          refine wp_iload_n 5 d_X10_mostOf_78 rfl rfl ?_
          refine wp_iconst (v0 := 1) d_X10_mostOf_79 rfl ?_
          refine wp_iload 0 d_X10_mostOf_80 rfl ?_
          refine wp_ishl d_X10_mostOf_82 ?_
          refine wp_iconst (v0 := -1) d_X10_mostOf_83 rfl ?_
          refine wp_ixor d_X10_mostOf_84 ?_
          refine wp_iand d_X10_mostOf_85 ?_
          have hkcb := kclr_le (rest) (b)
          refine wp_v (v0 := nI (kclr (rest) (b))) (kclr_i (rest) (b) (by omega) (by omega)) ?_
          refine wp_iaload (v := (v.2.1 91) (kclr (rest) (b))) d_X10_mostOf_86 (hp_91 _ _ _ _ _) (vp_in_nI (by omega) (by omega)) (congrArg ((v.2.1 91)) (nI_clamp (by omega))) ?_
          refine wp_iadd d_X10_mostOf_87 ?_
          refine wp_istore [(6, .int ((1) + ((v.2.1 91) (kclr (rest) (b))))), (5, .int (nI (b))), (4, .int (mo)), (0, .ref (80)), (1, .int (nI (S))), (2, .int (nI (a))), (3, .int (nI (rest)))] d_X10_mostOf_88 (Nat.le_of_ble_eq_true rfl) rfl ?_
          refine wp_iload 0 d_X10_mostOf_90 rfl ?_
          refine wp_iload 2 d_X10_mostOf_92 rfl ?_
          refine wp_icmp_le 102 d_X10_mostOf_94 rfl (fun zc94 => ?_) (fun zc94 => ?_)
          · refine wp_iload 2 d_X10_mostOf_102 rfl ?_
            refine wp_istore [(4, .int (mo)), (6, .int ((1) + ((v.2.1 91) (kclr (rest) (b))))), (5, .int (nI (b))), (0, .ref (80)), (1, .int (nI (S))), (2, .int (nI (a))), (3, .int (nI (rest)))] d_X10_mostOf_104 (Nat.le_of_ble_eq_true rfl) rfl ?_
            refine wp_iinc (v0 := nI ((b) + 1)) [(5, .int (nI ((b) + 1))), (4, .int (mo)), (6, .int ((1) + ((v.2.1 91) (kclr (rest) (b))))), (0, .ref (80)), (1, .int (nI (S))), (2, .int (nI (a))), (3, .int (nI (rest)))] 2 d_X10_mostOf_106 rfl (nI_add (b) 1) (Nat.le_of_ble_eq_true rfl) rfl ?_
            refine wp_goto 37 d_X10_mostOf_109 rfl ?_
            obtain ⟨k1, rfl⟩ : ∃ k1, k = k1 + 1 := ⟨k - 1, by omega⟩
            refine wp_sub [(5, .int (nI ((b) + 1))), (4, .int (mo)), (0, .ref (80)), (1, .int (nI (S))), (2, .int (nI (a))), (3, .int (nI (rest)))] [0, 1, 3, 4, 5, 6] rfl ?_
            simp only [msb]
            rw [if_pos ⟨kb_1.mp zc55, zc70⟩, if_neg (Int32.not_lt.mpr zc94)]
            exact ih k1 (by omega) (b + 1) _ (by omega) (by omega)
          · refine wp_iload 0 d_X10_mostOf_97 rfl ?_
            refine wp_goto 104 d_X10_mostOf_99 rfl ?_
            refine wp_istore [(4, .int ((1) + ((v.2.1 91) (kclr (rest) (b))))), (6, .int ((1) + ((v.2.1 91) (kclr (rest) (b))))), (5, .int (nI (b))), (0, .ref (80)), (1, .int (nI (S))), (2, .int (nI (a))), (3, .int (nI (rest)))] d_X10_mostOf_104 (Nat.le_of_ble_eq_true rfl) rfl ?_
            refine wp_iinc (v0 := nI ((b) + 1)) [(5, .int (nI ((b) + 1))), (4, .int ((1) + ((v.2.1 91) (kclr (rest) (b))))), (6, .int ((1) + ((v.2.1 91) (kclr (rest) (b))))), (0, .ref (80)), (1, .int (nI (S))), (2, .int (nI (a))), (3, .int (nI (rest)))] 2 d_X10_mostOf_106 rfl (nI_add (b) 1) (Nat.le_of_ble_eq_true rfl) rfl ?_
            refine wp_goto 37 d_X10_mostOf_109 rfl ?_
            obtain ⟨k1, rfl⟩ : ∃ k1, k = k1 + 1 := ⟨k - 1, by omega⟩
            refine wp_sub [(5, .int (nI ((b) + 1))), (4, .int ((1) + ((v.2.1 91) (kclr (rest) (b))))), (0, .ref (80)), (1, .int (nI (S))), (2, .int (nI (a))), (3, .int (nI (rest)))] [0, 1, 3, 4, 5, 6] rfl ?_
            simp only [msb]
            rw [if_pos ⟨kb_1.mp zc55, zc70⟩, if_pos (Int32.not_le.mp zc94)]
            exact ih k1 (by omega) (b + 1) _ (by omega) (by omega)
theorem s_X10_mostOf {X : kX} {d : Nat} {c w m v : kZ} {E : kH} {nl : Nat} (hn : m.2.1 81 0 = nI nl) (hnl : nl ≤ 9) {S : Nat} (h0 : 0 < S) (hS : S < 2 ^ nl) : WP X d 0 0 Y_X10_mostOf 0 [(0, .ref (80)), (1, .int (nI (S)))] [] (HP c w m v E) (kR (some (.int (mst1 (v.2.1 90) (v.2.1 91) nl S))) (HP c w m v E)) := by
  have h2n := k2n_b nl hnl
  refine wp_iconst (v0 := 0) d_X10_mostOf_0 rfl ?_
  refine wp_istore_n [(2, .int (0)), (0, .ref (80)), (1, .int (nI (S)))] d_X10_mostOf_1 rfl (Nat.le_of_ble_eq_true rfl) rfl ?_
  refine wp_sub [(2, .int (0)), (0, .ref (80)), (1, .int (nI (S)))] [0, 1, 2] rfl ?_
  refine s_X10_mostOf_a (S := S) (n9 := nl) (by omega) hnl (fun hq1 hq2 => ?_) nl 0 (by omega) (kbit_ex h0 hS) rfl
  refine wp_iload_n 2 d_X10_mostOf_16 rfl rfl ?_
  refine wp_iconst (v0 := 1) d_X10_mostOf_17 rfl ?_
  refine wp_iload_n 0 d_X10_mostOf_18 rfl rfl ?_
  refine wp_ishl d_X10_mostOf_19 ?_
  refine wp_iconst (v0 := -1) d_X10_mostOf_20 rfl ?_
  refine wp_ixor d_X10_mostOf_21 ?_
  refine wp_iand d_X10_mostOf_22 ?_
  have hkcklwSnl0 := kclr_le (S) (klw S nl 0)
  refine wp_v (v0 := nI (kclr (S) (klw S nl 0))) (kclr_i (S) (klw S nl 0) (by omega) (by omega)) ?_
  refine wp_istore_n [(3, .int (nI (kclr (S) (klw S nl 0)))), (2, .int (nI (klw S nl 0))), (0, .ref (80)), (1, .int (nI (S)))] d_X10_mostOf_23 rfl (Nat.le_of_ble_eq_true rfl) rfl ?_
  refine wp_aload_n 2 d_X10_mostOf_24 rfl rfl ?_
  refine wp_getfield (v := .ref (91)) d_X10_mostOf_25 gf_X10_41 (hp_80 _ _ _ _ _) rfl ?_
  refine wp_iload_n 0 d_X10_mostOf_28 rfl rfl ?_
  refine wp_iaload (v := (v.2.1 91) (kclr (S) (klw S nl 0))) d_X10_mostOf_29 (hp_91 _ _ _ _ _) (vp_in_nI (by omega) (by omega)) (congrArg ((v.2.1 91)) (nI_clamp (by omega))) ?_
  refine wp_istore [(4, .int ((v.2.1 91) (kclr (S) (klw S nl 0)))), (3, .int (nI (kclr (S) (klw S nl 0)))), (2, .int (nI (klw S nl 0))), (0, .ref (80)), (1, .int (nI (S)))] d_X10_mostOf_30 (Nat.le_of_ble_eq_true rfl) rfl ?_
  refine wp_iload_n 2 d_X10_mostOf_32 rfl rfl ?_
  refine wp_iconst (v0 := 1) d_X10_mostOf_33 rfl ?_
  refine wp_iadd d_X10_mostOf_34 ?_
  refine wp_v (v0 := nI ((klw S nl 0) + (1))) (nI_add (klw S nl 0) (1)) ?_
  refine wp_istore [(5, .int (nI ((klw S nl 0) + (1)))), (4, .int ((v.2.1 91) (kclr (S) (klw S nl 0)))), (3, .int (nI (kclr (S) (klw S nl 0)))), (2, .int (nI (klw S nl 0))), (0, .ref (80)), (1, .int (nI (S)))] d_X10_mostOf_35 (Nat.le_of_ble_eq_true rfl) rfl ?_
  refine wp_sub [(5, .int (nI ((klw S nl 0) + (1)))), (4, .int ((v.2.1 91) (kclr (S) (klw S nl 0)))), (0, .ref (80)), (1, .int (nI (S))), (2, .int (nI (klw S nl 0))), (3, .int (nI (kclr (S) (klw S nl 0))))] [0, 1, 4, 5, 3, 2] rfl ?_
  exact s_X10_mostOf_b hn hnl (S := S) (a := klw S nl 0) (rest := kclr S (klw S nl 0)) (by omega) (by omega) (nl - (klw S nl 0 + 1)) (klw S nl 0 + 1) _ (by omega) (by omega)
theorem msb_congr {ap g g' : Nat → Int32} {a rest : Nat} (h : ∀ j, j ≤ rest → g j = g' j) : ∀ k b mo, msb ap g a rest k b mo = msb ap g' a rest k b mo := by
  intro k
  induction k with
  | zero => intro b mo; rfl
  | succ k ih =>
    intro b mo
    simp only [msb]
    rw [h _ (kclr_le rest b), ih]
theorem mst1_congr {ap g g' : Nat → Int32} {n S : Nat} (h0 : 0 < S) (hS : S < 2 ^ n) (h : ∀ j, j < S → g j = g' j) : mst1 ap g n S = mst1 ap g' n S := by
  have hk := kclr_lt (klw_ok n 0 (by omega) (kbit_ex h0 hS)).2.2.1
  unfold mst1
  rw [h _ hk, msb_congr (fun j hj => h j (by omega))]
def mG (ap g : Nat → Int32) (n i : Nat) : Prop := g 0 = 0 ∧ ∀ S, 0 < S → S < i → g S = mst1 ap g n S
theorem mG.s {ap g : Nat → Int32} {n i : Nat} (h : mG ap g n i) (hi0 : 0 < i) (hi : i < 2 ^ n) : mG ap (upd g i (mst1 ap g n i)) n (i + 1) := by
  refine ⟨by rw [upd_n _ _ (by omega)]; exact h.1, fun S h0 hS => ?_⟩
  by_cases q : S = i
  · subst q
    rw [upd_s]
    exact mst1_congr h0 hi (fun j hj => (upd_n _ _ (by omega)).symm)
  · rw [upd_n _ _ q, h.2 S h0 (by omega)]
    exact mst1_congr h0 (by omega) (fun j hj => (upd_n _ _ (by omega)).symm)
theorem vp_nar_kb (P : Prop) [Decidable P] : vp_nar .boolean (kb P) = kb P := by
  unfold kb
  split <;> decide
def mAP (s : Nat → Int32) (en : Nat → Nat) (cnt : Nat) (ap : Nat → Int32) (i j n : Nat) : Prop := ∀ a b, a < b → b < n → (a < i ∨ a = i ∧ b < j) → ap (9 * a + b) = kb (ipb s en cnt a b 32 0 = true)
theorem mAP.s {s : Nat → Int32} {en : Nat → Nat} {cnt : Nat} {ap : Nat → Int32} {i j n : Nat} (h : mAP s en cnt ap i j n) (hj : j < 9) (hn : n ≤ 9) : mAP s en cnt (upd ap (9 * i + j) (vp_nar .boolean (kb (ipb s en cnt i j 32 0 = true)))) i (j + 1) n := by
  intro a b h1 h2 h3
  by_cases q : a = i ∧ b = j
  · obtain ⟨rfl, rfl⟩ := q
    rw [upd_s, vp_nar_kb]
  · rw [upd_n _ _ (by omega)]
    exact h a b h1 h2 (by omega)
theorem s_X10_findPairs_j {X : kX} {d : Nat} {c w m v : kZ} {E : kH} {cnt : Nat} {en : Nat → Nat} {nl : Nat} (hn : m.2.1 81 0 = nI nl) (hnl : nl ≤ 9) {i : Nat} (hi : i < nl) {Q : Option Value → kH → Prop} (K : ∀ v2 : kZ, mSt (m.2.1 81) en cnt nl v2 → mAP (m.2.1 81) en cnt (v2.2.1 90) (i + 1) 0 nl → WP X (d + 8) 0 0 Y_X10_findPairs 53 [(1, .int (nI i)), (0, .ref 80)] [] (HP c w m v2 E) Q) : ∀ (k : Nat) (j : Nat) (v' : kZ), (j + k = nl) → (i < j) → (mSt (m.2.1 81) en cnt nl v') → (mAP (m.2.1 81) en cnt (v'.2.1 90) i j nl) → WP X (d + 8) 0 0 Y_X10_findPairs 20 [(2, .int (nI (j))), (1, .int (nI (i))), (0, .ref (80))] [] (HP c w m v' E) Q := by
  intro k
  induction k using Nat.strongRecOn with
  | ind k ih =>
    intro j v' hjk hij hS hP
    refine wp_iload_n 0 d_X10_findPairs_20 rfl rfl ?_
    refine wp_aload_n 2 d_X10_findPairs_21 rfl rfl ?_
    refine wp_getfield (v := .ref (81)) d_X10_findPairs_22 gf_X10_7 (hp_80 _ _ _ _ _) rfl ?_
    refine wp_iconst (v0 := 0) d_X10_findPairs_25 rfl ?_
    refine wp_iaload (v := nI (nl)) d_X10_findPairs_26 (hp_81 _ _ _ _ _) (kin rfl) hn ?_
    refine wp_ncmp_ge (a := j) (b := nl) 53 d_X10_findPairs_27 rfl (by omega) (by omega) (fun zc27 => ?_) (fun zc27 => ?_)
    · obtain rfl : k = 0 := by omega
      refine wp_sub [(1, .int (nI i)), (0, .ref 80)] [1, 2] rfl ?_
      exact K v' hS (fun a b h1 h2 h3 => hP a b h1 h2 (by omega))
    · refine wp_aload_n 2 d_X10_findPairs_30 rfl rfl ?_
      refine wp_getfield (v := .ref (90)) d_X10_findPairs_31 gf_X10_37 (hp_80 _ _ _ _ _) rfl ?_
      refine wp_bipush (v0 := 9) d_X10_findPairs_34 (by decide) ?_
      refine wp_iload_n 1 d_X10_findPairs_36 rfl rfl ?_
      refine wp_imul d_X10_findPairs_37 ?_
      refine wp_v (v0 := nI ((9) * (i))) (pk_mul (9) (i)) ?_
      refine wp_iload_n 0 d_X10_findPairs_38 rfl rfl ?_
      refine wp_iadd d_X10_findPairs_39 ?_
      refine wp_v (v0 := nI (((9) * (i)) + (j))) (nI_add ((9) * (i)) (j)) ?_
      refine wp_aload_n 2 d_X10_findPairs_40 rfl rfl ?_
      refine wp_iload_n 1 d_X10_findPairs_41 rfl rfl ?_
      refine wp_iload_n 0 d_X10_findPairs_42 rfl rfl ?_
      refine wp_virtual0 (As := [.int (nI (i)), .int (nI (j))]) d_X10_findPairs_43 lk_X10_201 mv_X10_isPair in_X10_isPair se_X10_isPair (Nat.le_of_ble_eq_true rfl) (Nat.le_of_ble_eq_true rfl) (hp_80 _ _ _ _ _) rfl (s_X10_isPair (v := v') (cnt := cnt) (en := en) hn hnl hS (a := i) (b := j) (by omega) (by omega)) (fun v43 h43 q43 => ?_)
      obtain ⟨rfl, v2, rfl, hf2⟩ := q43
      have hS2 := hS.fr hf2 (by decide)
      have hP2 : mAP (m.2.1 81) en cnt (v2.2.1 90) i j nl := by rw [hf2.2.1 90 (by decide)]; exact hP
      show WP _ _ _ _ _ 46 _ [.int (kb (ipb (m.2.1 81) en cnt i j 32 0 = true)), .int (nI (((9) * (i)) + (j))), .ref (90)] (HP c w m v2 E) _
      refine wp_zastore (h' := HP c w m (setA v2 90 (upd (v2.2.1 90) (((9) * (i)) + (j)) (vp_nar .boolean (kb (ipb (m.2.1 81) en cnt i j 32 0 = true))))) E) d_X10_findPairs_46 (hp_90 _ _ _ _ _) (vp_in_nI (by omega) (by omega)) (by rw [nI_clamp (by omega)]; exact (hpa_90 _ _ _ _ _ _)) ?_
      refine wp_iinc (v0 := nI ((j) + 1)) [(2, .int (nI ((j) + 1))), (1, .int (nI (i))), (0, .ref (80))] 0 d_X10_findPairs_47 rfl (nI_add (j) 1) (Nat.le_of_ble_eq_true rfl) rfl ?_
      refine wp_goto 20 d_X10_findPairs_50 rfl ?_
      obtain ⟨k1, rfl⟩ : ∃ k1, k = k1 + 1 := ⟨k - 1, by omega⟩
      refine wp_sub [(2, .int (nI ((j) + 1))), (1, .int (nI (i))), (0, .ref (80))] [0, 1, 2] rfl ?_
      exact ih k1 (by omega) (j + 1) _ (by omega) (by omega) hS2 (hP2.s (by omega) hnl)
theorem s_X10_findPairs_s {X : kX} {d : Nat} {c w m v : kZ} {E : kH} {cnt : Nat} {en : Nat → Nat} {nl : Nat} (hn : m.2.1 81 0 = nI nl) (hnl : nl ≤ 9) : ∀ (k : Nat) (i : Nat) (v' : kZ), (i + k = 2 ^ nl) → (0 < i) → (mAP (m.2.1 81) en cnt (v'.2.1 90) nl 0 nl) → (mG (v'.2.1 90) (v'.2.1 91) nl i) → WP X (d + 8) 0 0 Y_X10_findPairs 68 [(1, .int (nI (i))), (0, .ref (80))] [] (HP c w m v' E) (fun r h1 => r = none ∧ ∃ v1 : kZ, h1 = HP c w m v1 E ∧ mAP (m.2.1 81) en cnt (v1.2.1 90) nl 0 nl ∧ mG (v1.2.1 90) (v1.2.1 91) nl (2 ^ nl)) := by
  intro k
  induction k using Nat.strongRecOn with
  | ind k ih =>
    intro i v' hik hi0 hP hG
    have h2n := k2n_b nl hnl
    refine wp_iload_n 0 d_X10_findPairs_68 rfl rfl ?_
    refine wp_iconst (v0 := 1) d_X10_findPairs_69 rfl ?_
    refine wp_aload_n 1 d_X10_findPairs_70 rfl rfl ?_
    refine wp_getfield (v := .ref (81)) d_X10_findPairs_71 gf_X10_7 (hp_80 _ _ _ _ _) rfl ?_
    refine wp_iconst (v0 := 0) d_X10_findPairs_74 rfl ?_
    refine wp_iaload (v := nI (nl)) d_X10_findPairs_75 (hp_81 _ _ _ _ _) (kin rfl) hn ?_
    refine wp_ishl d_X10_findPairs_76 ?_
    refine wp_v (v0 := nI (2 ^ nl)) (k2n_i nl hnl) ?_
    refine wp_ncmp_ge (a := i) (b := 2 ^ nl) 97 d_X10_findPairs_77 rfl (by omega) (by omega) (fun zc77 => ?_) (fun zc77 => ?_)
    · refine wp_vret d_X10_findPairs_97 rfl ?_
      obtain rfl : k = 0 := by omega
      obtain rfl : i = 2 ^ nl := by omega
      exact ⟨rfl, v', rfl, hP, hG⟩
    · refine wp_aload_n 1 d_X10_findPairs_80 rfl rfl ?_
      refine wp_getfield (v := .ref (91)) d_X10_findPairs_81 gf_X10_41 (hp_80 _ _ _ _ _) rfl ?_
      refine wp_iload_n 0 d_X10_findPairs_84 rfl rfl ?_
      refine wp_aload_n 1 d_X10_findPairs_85 rfl rfl ?_
      refine wp_iload_n 0 d_X10_findPairs_86 rfl rfl ?_
      refine wp_vrt_i (As := [.int (nI (i))]) (x0 := mst1 (v'.2.1 90) (v'.2.1 91) nl i) (h1 := HP c w m v' E) d_X10_findPairs_87 lk_X10_204 mv_X10_mostOf in_X10_mostOf se_X10_mostOf (Nat.le_of_ble_eq_true rfl) (Nat.le_of_ble_eq_true rfl) (hp_80 _ _ _ _ _) rfl (s_X10_mostOf (v := v') hn hnl (S := i) hi0 (by omega)) ?_
      refine wp_iastore (h' := HP c w m (setA v' 91 (upd (v'.2.1 91) (i) (mst1 (v'.2.1 90) (v'.2.1 91) nl i))) E) d_X10_findPairs_90 (hp_91 _ _ _ _ _) (vp_in_nI (by omega) (by omega)) (by rw [nI_clamp (by omega)]; exact (hpa_91 _ _ _ _ _ _)) ?_
      refine wp_iinc (v0 := nI ((i) + 1)) [(1, .int (nI ((i) + 1))), (0, .ref (80))] 0 d_X10_findPairs_91 rfl (nI_add (i) 1) (Nat.le_of_ble_eq_true rfl) rfl ?_
      refine wp_goto 68 d_X10_findPairs_94 rfl ?_
      obtain ⟨k1, rfl⟩ : ∃ k1, k = k1 + 1 := ⟨k - 1, by omega⟩
      refine wp_sub [(1, .int (nI ((i) + 1))), (0, .ref (80))] [0, 1] rfl ?_
      exact ih k1 (by omega) (i + 1) _ (by omega) (by omega) hP (hG.s hi0 (by omega))
theorem s_X10_findPairs_i {X : kX} {d : Nat} {c w m v : kZ} {E : kH} {cnt : Nat} {en : Nat → Nat} {nl : Nat} (hn : m.2.1 81 0 = nI nl) (hnl : nl ≤ 9) : ∀ (k : Nat) (i : Nat) (v' : kZ), (i + k = nl) → (mSt (m.2.1 81) en cnt nl v') → (mAP (m.2.1 81) en cnt (v'.2.1 90) i 0 nl) → WP X (d + 8) 0 0 Y_X10_findPairs 6 [(1, .int (nI (i))), (0, .ref (80))] [] (HP c w m v' E) (fun r h1 => r = none ∧ ∃ v1 : kZ, h1 = HP c w m v1 E ∧ mAP (m.2.1 81) en cnt (v1.2.1 90) nl 0 nl ∧ mG (v1.2.1 90) (v1.2.1 91) nl (2 ^ nl)) := by
  intro k
  induction k using Nat.strongRecOn with
  | ind k ih =>
    intro i v' hik hS hP
    refine wp_iload_n 0 d_X10_findPairs_6 rfl rfl ?_
    refine wp_aload_n 1 d_X10_findPairs_7 rfl rfl ?_
    refine wp_getfield (v := .ref (81)) d_X10_findPairs_8 gf_X10_7 (hp_80 _ _ _ _ _) rfl ?_
    refine wp_iconst (v0 := 0) d_X10_findPairs_11 rfl ?_
    refine wp_iaload (v := nI (nl)) d_X10_findPairs_12 (hp_81 _ _ _ _ _) (kin rfl) hn ?_
    refine wp_ncmp_ge (a := i) (b := nl) 59 d_X10_findPairs_13 rfl (by omega) (by omega) (fun zc13 => ?_) (fun zc13 => ?_)
    · refine wp_aload_n 1 d_X10_findPairs_59 rfl rfl ?_
      refine wp_getfield (v := .ref (91)) d_X10_findPairs_60 gf_X10_41 (hp_80 _ _ _ _ _) rfl ?_
      refine wp_iconst (v0 := 0) d_X10_findPairs_63 rfl ?_
      refine wp_iconst (v0 := 0) d_X10_findPairs_64 rfl ?_
      refine wp_iastore (h' := HP c w m (setA v' 91 (upd (v'.2.1 91) 0 (0))) E) d_X10_findPairs_65 (hp_91 _ _ _ _ _) (kin rfl) ((hpa_91 _ _ _ _ _ _)) ?_
      refine wp_iconst (v0 := 1) d_X10_findPairs_66 rfl ?_
      refine wp_istore_n [(1, .int (1)), (0, .ref (80))] d_X10_findPairs_67 rfl (Nat.le_of_ble_eq_true rfl) rfl ?_
      have h2n := k2n_b nl hnl
      refine wp_sub [(1, .int (1)), (0, .ref (80))] [0, 1] rfl ?_
      exact s_X10_findPairs_s (v := v) (cnt := cnt) (en := en) hn hnl (2 ^ nl - 1) 1 _ (by omega) (by omega) (fun a b h1 h2 h3 => hP a b h1 h2 (by omega)) ⟨upd_s (v'.2.1 91) 0 0, fun S h0 hS9 => absurd hS9 (by omega)⟩
    · refine wp_iload_n 0 d_X10_findPairs_16 rfl rfl ?_
      refine wp_iconst (v0 := 1) d_X10_findPairs_17 rfl ?_
      refine wp_iadd d_X10_findPairs_18 ?_
      refine wp_v (v0 := nI ((i) + (1))) (nI_add (i) (1)) ?_
      refine wp_istore_n [(2, .int (nI ((i) + (1)))), (1, .int (nI (i))), (0, .ref (80))] d_X10_findPairs_19 rfl (Nat.le_of_ble_eq_true rfl) rfl ?_
      refine wp_sub [(2, .int (nI ((i) + (1)))), (1, .int (nI (i))), (0, .ref (80))] [0, 1, 2] rfl ?_
      refine s_X10_findPairs_j (v := v) hn hnl (i := i) (by omega) (fun v2 hS2 hP2 => ?_) (nl - (i + 1)) (i + 1) v' (by omega) (by omega) hS (fun a b h1 h2 h3 => hP a b h1 h2 (by omega))
      refine wp_iinc (v0 := nI ((i) + 1)) [(1, .int (nI ((i) + 1))), (0, .ref (80))] 0 d_X10_findPairs_53 rfl (nI_add (i) 1) (Nat.le_of_ble_eq_true rfl) rfl ?_
      refine wp_goto 6 d_X10_findPairs_56 rfl ?_
      obtain ⟨k1, rfl⟩ : ∃ k1, k = k1 + 1 := ⟨k - 1, by omega⟩
      refine wp_sub [(1, .int (nI ((i) + 1))), (0, .ref (80))] [0, 1] rfl ?_
      exact ih k1 (by omega) (i + 1) _ (by omega) hS2 hP2
theorem s_X10_findPairs {X : kX} {d : Nat} {c w m v : kZ} {E : kH} {cnt : Nat} (hs1 : (m.2.1 81) 1 = nI cnt) (hc8 : cnt ≤ 8) {en : Nat → Nat} (hm : mWF (m.2.1 81) cnt en) {n : Nat} (hn : m.2.1 81 0 = nI n) (hn9 : n ≤ 9) : WP X (d + 8) 0 0 Y_X10_findPairs 0 [(0, .ref (80))] [] (HP c w m v E) (fun r h1 => r = none ∧ ∃ v1 : kZ, h1 = HP c w m v1 E ∧ mAP (m.2.1 81) en cnt (v1.2.1 90) n 0 n ∧ mG (v1.2.1 90) (v1.2.1 91) n (2 ^ n)) := by
  refine wp_aload_n 0 d_X10_findPairs_0 rfl rfl ?_
  refine wp_virtual0 (As := []) d_X10_findPairs_1 lk_X10_129 mv_X10_findStrengths in_X10_findStrengths se_X10_findStrengths (Nat.le_of_ble_eq_true rfl) (Nat.le_of_ble_eq_true rfl) (hp_80 _ _ _ _ _) rfl (s_X10_findStrengths hs1 hc8 hm hn hn9) (fun v1 h1 q1 => ?_)
  obtain ⟨rfl, v1, rfl, hf1, hst1⟩ := q1
  show WP _ _ _ _ _ 4 _ [] (HP c w m v1 E) _
  refine wp_iconst (v0 := 0) d_X10_findPairs_4 rfl ?_
  refine wp_istore_n [(1, .int (0)), (0, .ref (80))] d_X10_findPairs_5 rfl (Nat.le_of_ble_eq_true rfl) rfl ?_
  refine wp_sub [(1, .int (0)), (0, .ref (80))] [0, 1] rfl ?_
  exact s_X10_findPairs_i (v := v) hn hn9 n 0 v1 (by omega) hst1 (fun a b h1 h2 h3 => absurd h3 (by omega))
theorem s_X10_pairs {X : kX} {d : Nat} {c w m v : kZ} {E : kH} {cnt : Nat} (hs1 : (m.2.1 81) 1 = nI cnt) (hc8 : cnt ≤ 8) {en : Nat → Nat} (hm : mWF (m.2.1 81) cnt en) {n : Nat} (hn : m.2.1 81 0 = nI n) (hn9 : n ≤ 9) : WP X (d + 9) 0 0 Y_X10_pairs 0 [(0, .ref (80))] [] (HP c w m v E) (fun r h1 => (∃ ap g : Nat → Int32, mAP (m.2.1 81) en cnt ap n 0 n ∧ mG ap g n (2 ^ n) ∧ r = some (.int (g (2 ^ n - 1)))) ∧ ∃ v1 : kZ, h1 = HP c w m v1 E) := by
  refine wp_aload_n 0 d_X10_pairs_0 rfl rfl ?_
  refine wp_virtual0 (As := []) d_X10_pairs_1 lk_X10_207 mv_X10_findPairs in_X10_findPairs se_X10_findPairs (Nat.le_of_ble_eq_true rfl) (Nat.le_of_ble_eq_true rfl) (hp_80 _ _ _ _ _) rfl (s_X10_findPairs hs1 hc8 hm hn hn9) (fun v1 h1 q1 => ?_)
  obtain ⟨rfl, v1, rfl, hP, hG⟩ := q1
  show WP _ _ _ _ _ 4 _ [] (HP c w m v1 E) _
  refine wp_aload_n 0 d_X10_pairs_4 rfl rfl ?_
  refine wp_getfield (v := .ref (91)) d_X10_pairs_5 gf_X10_41 (hp_80 _ _ _ _ _) rfl ?_
  refine wp_iconst (v0 := 1) d_X10_pairs_8 rfl ?_
  refine wp_aload_n 0 d_X10_pairs_9 rfl rfl ?_
  refine wp_getfield (v := .ref (81)) d_X10_pairs_10 gf_X10_7 (hp_80 _ _ _ _ _) rfl ?_
  refine wp_iconst (v0 := 0) d_X10_pairs_13 rfl ?_
  refine wp_iaload (v := nI (n)) d_X10_pairs_14 (hp_81 _ _ _ _ _) (kin rfl) hn ?_
  refine wp_ishl d_X10_pairs_15 ?_
  have h2n := k2n_b n hn9
  refine wp_v (v0 := nI (2 ^ n)) (k2n_i n hn9) ?_
  refine wp_iconst (v0 := 1) d_X10_pairs_16 rfl ?_
  refine wp_isub d_X10_pairs_17 ?_
  refine wp_v (v0 := nI ((2 ^ n) - (1))) (pk_sub (a := 2 ^ n) (b := 1) (by omega)) ?_
  refine wp_iaload (v := (v1.2.1 91) ((2 ^ n) - (1))) d_X10_pairs_18 (hp_91 _ _ _ _ _) (vp_in_nI (by omega) (by omega)) (congrArg ((v1.2.1 91)) (nI_clamp (by omega))) ?_
  refine wp_reti d_X10_pairs_19 rfl ?_
  exact ⟨⟨v1.2.1 90, v1.2.1 91, hP, hG, rfl⟩, v1, rfl⟩
def moi : Option Nat → Int32
  | none => -1
  | some b => nI b
abbrev mcd (ap g : Nat → Int32) (a rest S b : Nat) : Prop := rest.testBit b = true ∧ ap (9 * a + b) ≠ 0 ∧ 1 + g (kclr rest b) = g S
def mwd (ap g : Nat → Int32) (a rest S : Nat) : Nat → Option Nat → Option Nat
  | 0, wi => wi
  | k + 1, wi => mwd ap g a rest S k (if mcd ap g a rest S (a + k + 1) then some (a + k + 1) else wi)
def mmt (ap g : Nat → Int32) (n lq : Nat) : Nat → Nat → Nat → Int32 → Int32
  | 0, _, _, fd => fd
  | k + 1, a, S, fd => if S.testBit a = true then (match mwd ap g a (kclr S a) S (n - (a + 1)) none with
      | none => mmt ap g n lq k (a + 1) (kclr S a) fd
      | some b => mmt ap g n lq k (a + 1) (kclr (kclr S a) b) (if a = lq then nI b else if b = lq then nI a else fd))
    else mmt ap g n lq k (a + 1) S fd
theorem mwd_lt {ap g : Nat → Int32} {a rest S n : Nat} : ∀ k wi, a + k < n → (∀ b, wi = some b → a < b ∧ b < n) → ∀ b, mwd ap g a rest S k wi = some b → a < b ∧ b < n := by
  intro k
  induction k with
  | zero => intro wi _ h b hb; exact h b hb
  | succ k ih =>
    intro wi hk h b hb
    simp only [mwd] at hb
    refine ih _ (by omega) ?_ b hb
    intro b2 h2
    split at h2
    · cases h2; omega
    · exact h b2 h2
theorem s_X10_mate_b {X : kX} {d : Nat} {c w m v : kZ} {E : kH} {v1 : kZ} {n : Nat} (hn9 : n ≤ 9) {a S lq : Nat} {fd : Int32} (hS : S < 512) (ha : a < n) {Q : Option Value → kH → Prop} (K : WP X (d + 9) 0 0 Y_X10_mate 161 [(6, .int (moi (mwd (v1.2.1 90) (v1.2.1 91) a (kclr S a) S (n - (a + 1)) none))), (5, .int (nI (kclr S a))), (4, .int (nI a)), (3, .int fd), (2, .int (nI S)), (0, .ref 80), (1, .int (nI lq))] [] (HP c w m v1 E) Q) : ∀ (k : Nat) (wi : Option Nat), (a + k < n) → (mwd (v1.2.1 90) (v1.2.1 91) a (kclr S a) S k wi = mwd (v1.2.1 90) (v1.2.1 91) a (kclr S a) S (n - (a + 1)) none) → WP X (d + 9) 0 0 Y_X10_mate 75 [(7, .int (nI (a + k))), (6, .int (moi wi)), (5, .int (nI (kclr S a))), (4, .int (nI (a))), (3, .int (fd)), (2, .int (nI (S))), (0, .ref (80)), (1, .int (nI (lq)))] [] (HP c w m v1 E) Q := by
  intro k
  induction k using Nat.strongRecOn with
  | ind k ih =>
    intro wi hak hq
    have hkS := kclr_le S a
    refine wp_iload 0 d_X10_mate_75 rfl ?_
    refine wp_iload 3 d_X10_mate_77 rfl ?_
    refine wp_ncmp_le (a := a + k) (b := a) 161 d_X10_mate_79 rfl (by omega) (by omega) (fun zc79 => ?_) (fun zc79 => ?_)
    · obtain rfl : k = 0 := by omega
      refine wp_sub [(6, .int (moi wi)), (5, .int (nI (kclr S a))), (4, .int (nI a)), (3, .int fd), (2, .int (nI S)), (0, .ref 80), (1, .int (nI lq))] [1, 2, 3, 4, 5, 6, 7] rfl ?_
      rw [show moi wi = moi (mwd (v1.2.1 90) (v1.2.1 91) a (kclr S a) S (n - (a + 1)) none) from congrArg moi hq]
      exact K
    · refine wp_iload 2 d_X10_mate_82 rfl ?_
      refine wp_iload 0 d_X10_mate_84 rfl ?_
      refine wp_ishr d_X10_mate_86 ?_
      refine wp_iconst (v0 := 1) d_X10_mate_87 rfl ?_
      refine wp_iand d_X10_mate_88 ?_
      refine wp_v (v0 := kb ((kclr S a).testBit (a + k) = true)) (kbS (kclr S a) (a + k) (by omega) (by omega)) ?_
      refine wp_iconst (v0 := 1) d_X10_mate_89 rfl ?_
      refine wp_icmp_ne 138 d_X10_mate_90 rfl (fun zc90 => ?_) (fun zc90 => ?_)
      · refine wp_iconst (v0 := 0) d_X10_mate_138 rfl ?_
        refine wp_istore [(8, .int (0)), (7, .int (nI (a + k))), (6, .int (moi wi)), (5, .int (nI (kclr S a))), (4, .int (nI (a))), (3, .int (fd)), (2, .int (nI (S))), (0, .ref (80)), (1, .int (nI (lq)))] d_X10_mate_139 (Nat.le_of_ble_eq_true rfl) rfl ?_
        refine wp_iload 0 d_X10_mate_141 rfl ?_
        refine wp_if_eq 151 d_X10_mate_143 rfl (fun _ => ?_) (fun z => absurd z (by decide))
        refine wp_iload 2 d_X10_mate_151 rfl ?_
        refine wp_istore [(6, .int (moi wi)), (8, .int (0)), (7, .int (nI (a + k))), (5, .int (nI (kclr S a))), (4, .int (nI (a))), (3, .int (fd)), (2, .int (nI (S))), (0, .ref (80)), (1, .int (nI (lq)))] d_X10_mate_153 (Nat.le_of_ble_eq_true rfl) rfl ?_
        refine wp_iinc (v0 := (nI (a + k)) + (-1)) [(7, .int ((nI (a + k)) + (-1))), (6, .int (moi wi)), (8, .int (0)), (5, .int (nI (kclr S a))), (4, .int (nI (a))), (3, .int (fd)), (2, .int (nI (S))), (0, .ref (80)), (1, .int (nI (lq)))] 2 d_X10_mate_155 rfl rfl (Nat.le_of_ble_eq_true rfl) rfl ?_
        refine wp_goto 75 d_X10_mate_158 rfl ?_
        refine wp_sub [(7, .int ((nI (a + k)) + (-1))), (6, .int (moi wi)), (5, .int (nI (kclr S a))), (4, .int (nI (a))), (3, .int (fd)), (2, .int (nI (S))), (0, .ref (80)), (1, .int (nI (lq)))] [0, 1, 3, 4, 5, 6, 7, 8] rfl ?_
        obtain ⟨k1, rfl⟩ : ∃ k1, k = k1 + 1 := ⟨k - 1, by omega⟩
        simp only [mwd] at hq
        have e7 : nI (a + (k1 + 1)) + (-1) = nI (a + k1) := pk_m1 (a + k1)
        rw [e7]
        rw [if_neg (fun q => zc90 (kb_1.mpr q.1))] at hq
        exact ih k1 (by omega) wi (by omega) hq
      · refine wp_aload_n 6 d_X10_mate_93 rfl rfl ?_
        refine wp_getfield (v := .ref (90)) d_X10_mate_94 gf_X10_37 (hp_80 _ _ _ _ _) rfl ?_
        refine wp_bipush (v0 := 9) d_X10_mate_97 (by decide) ?_
        refine wp_iload 3 d_X10_mate_99 rfl ?_
        refine wp_imul d_X10_mate_101 ?_
        refine wp_v (v0 := nI ((9) * (a))) (pk_mul (9) (a)) ?_
        refine wp_iload 0 d_X10_mate_102 rfl ?_
        refine wp_iadd d_X10_mate_104 ?_
        refine wp_v (v0 := nI (((9) * (a)) + (a + k))) (nI_add ((9) * (a)) (a + k)) ?_
        refine wp_zaload (v := (v1.2.1 90) (((9) * (a)) + (a + k))) d_X10_mate_105 (hp_90 _ _ _ _ _) (vp_in_nI (by omega) (by omega)) (congrArg ((v1.2.1 90)) (nI_clamp (by omega))) ?_
        refine wp_if_eq 138 d_X10_mate_106 rfl (fun zc106 => ?_) (fun zc106 => ?_)
        · refine wp_iconst (v0 := 0) d_X10_mate_138 rfl ?_
          refine wp_istore [(8, .int (0)), (7, .int (nI (a + k))), (6, .int (moi wi)), (5, .int (nI (kclr S a))), (4, .int (nI (a))), (3, .int (fd)), (2, .int (nI (S))), (0, .ref (80)), (1, .int (nI (lq)))] d_X10_mate_139 (Nat.le_of_ble_eq_true rfl) rfl ?_
          refine wp_iload 0 d_X10_mate_141 rfl ?_
          refine wp_if_eq 151 d_X10_mate_143 rfl (fun _ => ?_) (fun z => absurd z (by decide))
          refine wp_iload 2 d_X10_mate_151 rfl ?_
          refine wp_istore [(6, .int (moi wi)), (8, .int (0)), (7, .int (nI (a + k))), (5, .int (nI (kclr S a))), (4, .int (nI (a))), (3, .int (fd)), (2, .int (nI (S))), (0, .ref (80)), (1, .int (nI (lq)))] d_X10_mate_153 (Nat.le_of_ble_eq_true rfl) rfl ?_
          refine wp_iinc (v0 := (nI (a + k)) + (-1)) [(7, .int ((nI (a + k)) + (-1))), (6, .int (moi wi)), (8, .int (0)), (5, .int (nI (kclr S a))), (4, .int (nI (a))), (3, .int (fd)), (2, .int (nI (S))), (0, .ref (80)), (1, .int (nI (lq)))] 2 d_X10_mate_155 rfl rfl (Nat.le_of_ble_eq_true rfl) rfl ?_
          refine wp_goto 75 d_X10_mate_158 rfl ?_
          refine wp_sub [(7, .int ((nI (a + k)) + (-1))), (6, .int (moi wi)), (5, .int (nI (kclr S a))), (4, .int (nI (a))), (3, .int (fd)), (2, .int (nI (S))), (0, .ref (80)), (1, .int (nI (lq)))] [0, 1, 3, 4, 5, 6, 7, 8] rfl ?_
          obtain ⟨k1, rfl⟩ : ∃ k1, k = k1 + 1 := ⟨k - 1, by omega⟩
          simp only [mwd] at hq
          have e7 : nI (a + (k1 + 1)) + (-1) = nI (a + k1) := pk_m1 (a + k1)
          rw [e7]
          rw [if_neg (fun q => q.2.1 zc106)] at hq
          exact ih k1 (by omega) wi (by omega) hq
        · refine wp_iconst (v0 := 1) d_X10_mate_109 rfl ?_
          refine wp_aload_n 6 d_X10_mate_110 rfl rfl ?_
          refine wp_getfield (v := .ref (91)) d_X10_mate_111 gf_X10_41 (hp_80 _ _ _ _ _) rfl ?_
          refine wp_iload 2 d_X10_mate_114 rfl ?_
          refine wp_iconst (v0 := 1) d_X10_mate_116 rfl ?_
          refine wp_iload 0 d_X10_mate_117 rfl ?_
          refine wp_ishl d_X10_mate_119 ?_
          refine wp_iconst (v0 := -1) d_X10_mate_120 rfl ?_
          refine wp_ixor d_X10_mate_121 ?_
          refine wp_iand d_X10_mate_122 ?_
          have hkcak := kclr_le (kclr S a) (a + k)
          refine wp_v (v0 := nI (kclr (kclr S a) (a + k))) (kclr_i (kclr S a) (a + k) (by omega) (by omega)) ?_
          refine wp_iaload (v := (v1.2.1 91) (kclr (kclr S a) (a + k))) d_X10_mate_123 (hp_91 _ _ _ _ _) (vp_in_nI (by omega) (by omega)) (congrArg ((v1.2.1 91)) (nI_clamp (by omega))) ?_
          refine wp_iadd d_X10_mate_124 ?_
          refine wp_aload_n 6 d_X10_mate_125 rfl rfl ?_
          refine wp_getfield (v := .ref (91)) d_X10_mate_126 gf_X10_41 (hp_80 _ _ _ _ _) rfl ?_
          refine wp_iload_n 5 d_X10_mate_129 rfl rfl ?_
          refine wp_iaload (v := (v1.2.1 91) (S)) d_X10_mate_130 (hp_91 _ _ _ _ _) (vp_in_nI (by omega) (by omega)) (congrArg ((v1.2.1 91)) (nI_clamp (by omega))) ?_
          refine wp_icmp_ne 138 d_X10_mate_131 rfl (fun zc131 => ?_) (fun zc131 => ?_)
          · refine wp_iconst (v0 := 0) d_X10_mate_138 rfl ?_
            refine wp_istore [(8, .int (0)), (7, .int (nI (a + k))), (6, .int (moi wi)), (5, .int (nI (kclr S a))), (4, .int (nI (a))), (3, .int (fd)), (2, .int (nI (S))), (0, .ref (80)), (1, .int (nI (lq)))] d_X10_mate_139 (Nat.le_of_ble_eq_true rfl) rfl ?_
            refine wp_iload 0 d_X10_mate_141 rfl ?_
            refine wp_if_eq 151 d_X10_mate_143 rfl (fun _ => ?_) (fun z => absurd z (by decide))
            refine wp_iload 2 d_X10_mate_151 rfl ?_
            refine wp_istore [(6, .int (moi wi)), (8, .int (0)), (7, .int (nI (a + k))), (5, .int (nI (kclr S a))), (4, .int (nI (a))), (3, .int (fd)), (2, .int (nI (S))), (0, .ref (80)), (1, .int (nI (lq)))] d_X10_mate_153 (Nat.le_of_ble_eq_true rfl) rfl ?_
            refine wp_iinc (v0 := (nI (a + k)) + (-1)) [(7, .int ((nI (a + k)) + (-1))), (6, .int (moi wi)), (8, .int (0)), (5, .int (nI (kclr S a))), (4, .int (nI (a))), (3, .int (fd)), (2, .int (nI (S))), (0, .ref (80)), (1, .int (nI (lq)))] 2 d_X10_mate_155 rfl rfl (Nat.le_of_ble_eq_true rfl) rfl ?_
            refine wp_goto 75 d_X10_mate_158 rfl ?_
            refine wp_sub [(7, .int ((nI (a + k)) + (-1))), (6, .int (moi wi)), (5, .int (nI (kclr S a))), (4, .int (nI (a))), (3, .int (fd)), (2, .int (nI (S))), (0, .ref (80)), (1, .int (nI (lq)))] [0, 1, 3, 4, 5, 6, 7, 8] rfl ?_
            obtain ⟨k1, rfl⟩ : ∃ k1, k = k1 + 1 := ⟨k - 1, by omega⟩
            simp only [mwd] at hq
            have e7 : nI (a + (k1 + 1)) + (-1) = nI (a + k1) := pk_m1 (a + k1)
            rw [e7]
            rw [if_neg (fun q => zc131 q.2.2)] at hq
            exact ih k1 (by omega) wi (by omega) hq
          · refine wp_iconst (v0 := 1) d_X10_mate_134 rfl ?_
            refine wp_goto 139 d_X10_mate_135 rfl ?_
            refine wp_istore [(8, .int (1)), (7, .int (nI (a + k))), (6, .int (moi wi)), (5, .int (nI (kclr S a))), (4, .int (nI (a))), (3, .int (fd)), (2, .int (nI (S))), (0, .ref (80)), (1, .int (nI (lq)))] d_X10_mate_139 (Nat.le_of_ble_eq_true rfl) rfl ?_
            refine wp_iload 0 d_X10_mate_141 rfl ?_
            refine wp_if_eq 151 d_X10_mate_143 rfl (fun z => absurd z (by decide)) (fun _ => ?_)
            refine wp_iload 1 d_X10_mate_146 rfl ?_
            refine wp_goto 153 d_X10_mate_148 rfl ?_
            refine wp_istore [(6, .int (nI (a + k))), (8, .int (1)), (7, .int (nI (a + k))), (5, .int (nI (kclr S a))), (4, .int (nI (a))), (3, .int (fd)), (2, .int (nI (S))), (0, .ref (80)), (1, .int (nI (lq)))] d_X10_mate_153 (Nat.le_of_ble_eq_true rfl) rfl ?_
            refine wp_iinc (v0 := (nI (a + k)) + (-1)) [(7, .int ((nI (a + k)) + (-1))), (6, .int (nI (a + k))), (8, .int (1)), (5, .int (nI (kclr S a))), (4, .int (nI (a))), (3, .int (fd)), (2, .int (nI (S))), (0, .ref (80)), (1, .int (nI (lq)))] 2 d_X10_mate_155 rfl rfl (Nat.le_of_ble_eq_true rfl) rfl ?_
            refine wp_goto 75 d_X10_mate_158 rfl ?_
            refine wp_sub [(7, .int ((nI (a + k)) + (-1))), (6, .int (nI (a + k))), (5, .int (nI (kclr S a))), (4, .int (nI (a))), (3, .int (fd)), (2, .int (nI (S))), (0, .ref (80)), (1, .int (nI (lq)))] [0, 1, 3, 4, 5, 6, 7, 8] rfl ?_
            obtain ⟨k1, rfl⟩ : ∃ k1, k = k1 + 1 := ⟨k - 1, by omega⟩
            simp only [mwd] at hq
            have e7 : nI (a + (k1 + 1)) + (-1) = nI (a + k1) := pk_m1 (a + k1)
            rw [e7]
            rw [if_pos ⟨kb_1.mp zc90, zc106, zc131⟩] at hq
            exact ih k1 (by omega) (some (a + k1 + 1)) (by omega) hq
theorem s_X10_mate_a {X : kX} {d : Nat} {c w m v : kZ} {E : kH} {v1 : kZ} {n : Nat} (hn : m.2.1 81 0 = nI n) (hn9 : n ≤ 9) {lq : Nat} (hlq : lq < n) {A : Int32} : ∀ (k : Nat) (a : Nat) (S : Nat) (fd : Int32), (a + k = n) → (S < 512) → (mmt (v1.2.1 90) (v1.2.1 91) n lq k a S fd = A) → WP X (d + 9) 0 0 Y_X10_mate 31 [(4, .int (nI (a))), (3, .int (fd)), (2, .int (nI (S))), (0, .ref (80)), (1, .int (nI (lq)))] [] (HP c w m v1 E) (kR (some (.int A)) (HP c w m v1 E)) := by
  intro k
  induction k using Nat.strongRecOn with
  | ind k ih =>
    intro a S fd hak hS hA
    have hkS := kclr_le S a
    refine wp_iload 0 d_X10_mate_31 rfl ?_
    refine wp_aload_n 3 d_X10_mate_33 rfl rfl ?_
    refine wp_getfield (v := .ref (81)) d_X10_mate_34 gf_X10_7 (hp_80 _ _ _ _ _) rfl ?_
    refine wp_iconst (v0 := 0) d_X10_mate_37 rfl ?_
    refine wp_iaload (v := nI (n)) d_X10_mate_38 (hp_81 _ _ _ _ _) (kin rfl) hn ?_
    refine wp_ncmp_ge (a := a) (b := n) 221 d_X10_mate_39 rfl (by omega) (by omega) (fun zc39 => ?_) (fun zc39 => ?_)
    · refine wp_iload_n 1 d_X10_mate_221 rfl rfl ?_
      refine wp_reti d_X10_mate_222 rfl ?_
      obtain rfl : k = 0 := by omega
      exact kR_i hA rfl
    · refine wp_iload_n 2 d_X10_mate_42 rfl rfl ?_
      refine wp_iload 0 d_X10_mate_43 rfl ?_
      refine wp_ishr d_X10_mate_45 ?_
      refine wp_iconst (v0 := 1) d_X10_mate_46 rfl ?_
      refine wp_iand d_X10_mate_47 ?_
      refine wp_v (v0 := kb ((S).testBit (a) = true)) (kbS (S) (a) (by omega) (by omega)) ?_
      refine wp_iconst (v0 := 1) d_X10_mate_48 rfl ?_
      refine wp_icmp_ne 215 d_X10_mate_49 rfl (fun zc49 => ?_) (fun zc49 => ?_)
      · refine wp_iinc (v0 := nI ((a) + 1)) [(4, .int (nI ((a) + 1))), (3, .int (fd)), (2, .int (nI (S))), (0, .ref (80)), (1, .int (nI (lq)))] 0 d_X10_mate_215 rfl (nI_add (a) 1) (Nat.le_of_ble_eq_true rfl) rfl ?_
        refine wp_goto 31 d_X10_mate_218 rfl ?_
        obtain ⟨k1, rfl⟩ : ∃ k1, k = k1 + 1 := ⟨k - 1, by omega⟩
        simp only [mmt] at hA
        rw [if_neg (fun q => zc49 (kb_1.mpr q))] at hA
        refine wp_sub [(4, .int (nI ((a) + 1))), (3, .int (fd)), (2, .int (nI (S))), (0, .ref (80)), (1, .int (nI (lq)))] [0, 1, 2, 3, 4] rfl ?_
        exact ih k1 (by omega) (a + 1) S fd (by omega) hS hA
      · refine wp_iload_n 2 d_X10_mate_52 rfl rfl ?_
        refine wp_iconst (v0 := 1) d_X10_mate_53 rfl ?_
        refine wp_iload 0 d_X10_mate_54 rfl ?_
        refine wp_ishl d_X10_mate_56 ?_
        refine wp_iconst (v0 := -1) d_X10_mate_57 rfl ?_
        refine wp_ixor d_X10_mate_58 ?_
        refine wp_iand d_X10_mate_59 ?_
        have hkca := kclr_le (S) (a)
        refine wp_v (v0 := nI (kclr (S) (a))) (kclr_i (S) (a) (by omega) (by omega)) ?_
        refine wp_istore [(5, .int (nI (kclr (S) (a)))), (4, .int (nI (a))), (3, .int (fd)), (2, .int (nI (S))), (0, .ref (80)), (1, .int (nI (lq)))] d_X10_mate_60 (Nat.le_of_ble_eq_true rfl) rfl ?_
        refine wp_iconst (v0 := -1) d_X10_mate_62 rfl ?_
        refine wp_istore [(6, .int ((-1))), (5, .int (nI (kclr (S) (a)))), (4, .int (nI (a))), (3, .int (fd)), (2, .int (nI (S))), (0, .ref (80)), (1, .int (nI (lq)))] d_X10_mate_63 (Nat.le_of_ble_eq_true rfl) rfl ?_
        refine wp_aload_n 5 d_X10_mate_65 rfl rfl ?_
        refine wp_getfield (v := .ref (81)) d_X10_mate_66 gf_X10_7 (hp_80 _ _ _ _ _) rfl ?_
        refine wp_iconst (v0 := 0) d_X10_mate_69 rfl ?_
        refine wp_iaload (v := nI (n)) d_X10_mate_70 (hp_81 _ _ _ _ _) (kin rfl) hn ?_
        refine wp_iconst (v0 := 1) d_X10_mate_71 rfl ?_
        refine wp_isub d_X10_mate_72 ?_
        refine wp_v (v0 := nI ((n) - (1))) (pk_sub (a := n) (b := 1) (by omega)) ?_
        refine wp_istore [(7, .int (nI ((n) - (1)))), (6, .int ((-1))), (5, .int (nI (kclr (S) (a)))), (4, .int (nI (a))), (3, .int (fd)), (2, .int (nI (S))), (0, .ref (80)), (1, .int (nI (lq)))] d_X10_mate_73 (Nat.le_of_ble_eq_true rfl) rfl ?_
        obtain ⟨k1, rfl⟩ : ∃ k1, k = k1 + 1 := ⟨k - 1, by omega⟩
        simp only [mmt] at hA
        rw [if_pos (kb_1.mp zc49)] at hA
        refine wp_sub [(7, .int (nI (a + (n - (a + 1))))), (6, .int (moi none)), (5, .int (nI (kclr S a))), (4, .int (nI a)), (3, .int fd), (2, .int (nI S)), (0, .ref 80), (1, .int (nI lq))] [0, 1, 2, 3, 4, 5, 6, 7] (by rw [show a + (n - (a + 1)) = n - 1 by omega]; rfl) ?_
        refine s_X10_mate_b (v := v) hn9 hS (by omega) (lq := lq) (fd := fd) ?_ (n - (a + 1)) none (by omega) rfl
        have hlt := mwd_lt (ap := (v1.2.1 90)) (g := (v1.2.1 91)) (a := a) (rest := kclr S a) (S := S) (n := n) (n - (a + 1)) none (by omega) (fun b h9 => by cases h9)
        generalize hwi : mwd (v1.2.1 90) (v1.2.1 91) a (kclr S a) S (n - (a + 1)) none = wi at hlt hA ⊢
        rcases wi with _ | b
        · simp only [] at hA
          show WP _ _ _ _ _ 161 [(6, .int ((-1))), (5, .int (nI (kclr S a))), (4, .int (nI (a))), (3, .int (fd)), (2, .int (nI (S))), (0, .ref (80)), (1, .int (nI (lq)))] [] (HP c w m v1 E) _
          refine wp_iload 0 d_X10_mate_161 rfl ?_
          refine wp_if_lt 177 d_X10_mate_163 rfl (fun _ => ?_) (fun z => absurd z (by decide))
          refine wp_iload 0 d_X10_mate_177 rfl ?_
          refine wp_if_lt 193 d_X10_mate_179 rfl (fun _ => ?_) (fun z => absurd z (by decide))
          refine wp_iload_n 3 d_X10_mate_193 rfl rfl ?_
          refine wp_istore_n [(3, .int (fd)), (6, .int ((-1))), (5, .int (nI (kclr S a))), (4, .int (nI (a))), (2, .int (nI (S))), (0, .ref (80)), (1, .int (nI (lq)))] d_X10_mate_194 rfl (Nat.le_of_ble_eq_true rfl) rfl ?_
          refine wp_iload 1 d_X10_mate_195 rfl ?_
          refine wp_if_ge 205 d_X10_mate_197 rfl (fun z => absurd z (by decide)) (fun _ => ?_)
          refine wp_iload 2 d_X10_mate_200 rfl ?_
          refine wp_goto 214 d_X10_mate_202 rfl ?_
          refine wp_istore_n [(2, .int (nI (kclr S a))), (3, .int (fd)), (6, .int ((-1))), (5, .int (nI (kclr S a))), (4, .int (nI (a))), (0, .ref (80)), (1, .int (nI (lq)))] d_X10_mate_214 rfl (Nat.le_of_ble_eq_true rfl) rfl ?_
          refine wp_iinc (v0 := nI ((a) + 1)) [(4, .int (nI ((a) + 1))), (2, .int (nI (kclr S a))), (3, .int (fd)), (6, .int ((-1))), (5, .int (nI (kclr S a))), (0, .ref (80)), (1, .int (nI (lq)))] 4 d_X10_mate_215 rfl (nI_add (a) 1) (Nat.le_of_ble_eq_true rfl) rfl ?_
          refine wp_goto 31 d_X10_mate_218 rfl ?_
          refine wp_sub [(4, .int (nI ((a) + 1))), (3, .int (fd)), (2, .int (nI (kclr S a))), (0, .ref (80)), (1, .int (nI (lq)))] [0, 2, 1, 5, 6] rfl ?_
          exact ih k1 (by omega) (a + 1) _ _ (by omega) (by omega) hA
        · have hb9 := hlt b rfl
          have hkb := kclr_le (kclr S a) b
          simp only [] at hA
          show WP _ _ _ _ _ 161 [(6, .int (nI (b))), (5, .int (nI (kclr S a))), (4, .int (nI (a))), (3, .int (fd)), (2, .int (nI (S))), (0, .ref (80)), (1, .int (nI (lq)))] [] (HP c w m v1 E) _
          refine wp_iload 0 d_X10_mate_161 rfl ?_
          refine wp_nif_lt (a := b) 177 d_X10_mate_163 rfl (by omega) ?_
          refine wp_iload 2 d_X10_mate_166 rfl ?_
          refine wp_iload_n 6 d_X10_mate_168 rfl rfl ?_
          refine wp_ncmp_ne (a := a) (b := lq) 177 d_X10_mate_169 rfl (by omega) (by omega) (fun zc169 => ?_) (fun zc169 => ?_)
          · refine wp_iload 0 d_X10_mate_177 rfl ?_
            refine wp_nif_lt (a := b) 193 d_X10_mate_179 rfl (by omega) ?_
            refine wp_iload 0 d_X10_mate_182 rfl ?_
            refine wp_iload_n 6 d_X10_mate_184 rfl rfl ?_
            refine wp_ncmp_ne (a := b) (b := lq) 193 d_X10_mate_185 rfl (by omega) (by omega) (fun zc185 => ?_) (fun zc185 => ?_)
            · refine wp_iload_n 3 d_X10_mate_193 rfl rfl ?_
              refine wp_istore_n [(3, .int (fd)), (6, .int (nI (b))), (5, .int (nI (kclr S a))), (4, .int (nI (a))), (2, .int (nI (S))), (0, .ref (80)), (1, .int (nI (lq)))] d_X10_mate_194 rfl (Nat.le_of_ble_eq_true rfl) rfl ?_
              refine wp_iload 1 d_X10_mate_195 rfl ?_
              refine wp_nif_ge (a := b) 205 d_X10_mate_197 rfl (by omega) ?_
              refine wp_iload 2 d_X10_mate_205 rfl ?_
              refine wp_iconst (v0 := 1) d_X10_mate_207 rfl ?_
              refine wp_iload 1 d_X10_mate_208 rfl ?_
              refine wp_ishl d_X10_mate_210 ?_
              refine wp_iconst (v0 := -1) d_X10_mate_211 rfl ?_
              refine wp_ixor d_X10_mate_212 ?_
              refine wp_iand d_X10_mate_213 ?_
              refine wp_v (v0 := nI (kclr (kclr S a) b)) (kclr_i (kclr S a) b (by omega) (by omega)) ?_
              refine wp_istore_n [(2, .int (nI (kclr (kclr S a) b))), (3, .int (fd)), (6, .int (nI (b))), (5, .int (nI (kclr S a))), (4, .int (nI (a))), (0, .ref (80)), (1, .int (nI (lq)))] d_X10_mate_214 rfl (Nat.le_of_ble_eq_true rfl) rfl ?_
              refine wp_iinc (v0 := nI ((a) + 1)) [(4, .int (nI ((a) + 1))), (2, .int (nI (kclr (kclr S a) b))), (3, .int (fd)), (6, .int (nI (b))), (5, .int (nI (kclr S a))), (0, .ref (80)), (1, .int (nI (lq)))] 4 d_X10_mate_215 rfl (nI_add (a) 1) (Nat.le_of_ble_eq_true rfl) rfl ?_
              refine wp_goto 31 d_X10_mate_218 rfl ?_
              refine wp_sub [(4, .int (nI ((a) + 1))), (3, .int (fd)), (2, .int (nI (kclr (kclr S a) b))), (0, .ref (80)), (1, .int (nI (lq)))] [0, 2, 1, 5, 6] rfl ?_
              rw [if_neg zc169, if_neg zc185] at hA
              exact ih k1 (by omega) (a + 1) _ _ (by omega) (by omega) hA
            · refine wp_iload 2 d_X10_mate_188 rfl ?_
              refine wp_goto 194 d_X10_mate_190 rfl ?_
              refine wp_istore_n [(3, .int (nI (a))), (6, .int (nI (b))), (5, .int (nI (kclr S a))), (4, .int (nI (a))), (2, .int (nI (S))), (0, .ref (80)), (1, .int (nI (lq)))] d_X10_mate_194 rfl (Nat.le_of_ble_eq_true rfl) rfl ?_
              refine wp_iload 1 d_X10_mate_195 rfl ?_
              refine wp_nif_ge (a := b) 205 d_X10_mate_197 rfl (by omega) ?_
              refine wp_iload 2 d_X10_mate_205 rfl ?_
              refine wp_iconst (v0 := 1) d_X10_mate_207 rfl ?_
              refine wp_iload 1 d_X10_mate_208 rfl ?_
              refine wp_ishl d_X10_mate_210 ?_
              refine wp_iconst (v0 := -1) d_X10_mate_211 rfl ?_
              refine wp_ixor d_X10_mate_212 ?_
              refine wp_iand d_X10_mate_213 ?_
              refine wp_v (v0 := nI (kclr (kclr S a) b)) (kclr_i (kclr S a) b (by omega) (by omega)) ?_
              refine wp_istore_n [(2, .int (nI (kclr (kclr S a) b))), (3, .int (nI (a))), (6, .int (nI (b))), (5, .int (nI (kclr S a))), (4, .int (nI (a))), (0, .ref (80)), (1, .int (nI (lq)))] d_X10_mate_214 rfl (Nat.le_of_ble_eq_true rfl) rfl ?_
              refine wp_iinc (v0 := nI ((a) + 1)) [(4, .int (nI ((a) + 1))), (2, .int (nI (kclr (kclr S a) b))), (3, .int (nI (a))), (6, .int (nI (b))), (5, .int (nI (kclr S a))), (0, .ref (80)), (1, .int (nI (lq)))] 4 d_X10_mate_215 rfl (nI_add (a) 1) (Nat.le_of_ble_eq_true rfl) rfl ?_
              refine wp_goto 31 d_X10_mate_218 rfl ?_
              refine wp_sub [(4, .int (nI ((a) + 1))), (3, .int (nI (a))), (2, .int (nI (kclr (kclr S a) b))), (0, .ref (80)), (1, .int (nI (lq)))] [0, 2, 1, 5, 6] rfl ?_
              rw [if_neg zc169, if_pos zc185] at hA
              exact ih k1 (by omega) (a + 1) _ _ (by omega) (by omega) hA
          · refine wp_iload 0 d_X10_mate_172 rfl ?_
            refine wp_goto 194 d_X10_mate_174 rfl ?_
            refine wp_istore_n [(3, .int (nI (b))), (6, .int (nI (b))), (5, .int (nI (kclr S a))), (4, .int (nI (a))), (2, .int (nI (S))), (0, .ref (80)), (1, .int (nI (lq)))] d_X10_mate_194 rfl (Nat.le_of_ble_eq_true rfl) rfl ?_
            refine wp_iload 1 d_X10_mate_195 rfl ?_
            refine wp_nif_ge (a := b) 205 d_X10_mate_197 rfl (by omega) ?_
            refine wp_iload 2 d_X10_mate_205 rfl ?_
            refine wp_iconst (v0 := 1) d_X10_mate_207 rfl ?_
            refine wp_iload 1 d_X10_mate_208 rfl ?_
            refine wp_ishl d_X10_mate_210 ?_
            refine wp_iconst (v0 := -1) d_X10_mate_211 rfl ?_
            refine wp_ixor d_X10_mate_212 ?_
            refine wp_iand d_X10_mate_213 ?_
            refine wp_v (v0 := nI (kclr (kclr S a) b)) (kclr_i (kclr S a) b (by omega) (by omega)) ?_
            refine wp_istore_n [(2, .int (nI (kclr (kclr S a) b))), (3, .int (nI (b))), (6, .int (nI (b))), (5, .int (nI (kclr S a))), (4, .int (nI (a))), (0, .ref (80)), (1, .int (nI (lq)))] d_X10_mate_214 rfl (Nat.le_of_ble_eq_true rfl) rfl ?_
            refine wp_iinc (v0 := nI ((a) + 1)) [(4, .int (nI ((a) + 1))), (2, .int (nI (kclr (kclr S a) b))), (3, .int (nI (b))), (6, .int (nI (b))), (5, .int (nI (kclr S a))), (0, .ref (80)), (1, .int (nI (lq)))] 4 d_X10_mate_215 rfl (nI_add (a) 1) (Nat.le_of_ble_eq_true rfl) rfl ?_
            refine wp_goto 31 d_X10_mate_218 rfl ?_
            refine wp_sub [(4, .int (nI ((a) + 1))), (3, .int (nI (b))), (2, .int (nI (kclr (kclr S a) b))), (0, .ref (80)), (1, .int (nI (lq)))] [0, 2, 1, 5, 6] rfl ?_
            rw [if_pos zc169] at hA
            exact ih k1 (by omega) (a + 1) _ _ (by omega) (by omega) hA
theorem s_X10_mate {X : kX} {d : Nat} {c w m v : kZ} {E : kH} {cnt : Nat} (hs1 : (m.2.1 81) 1 = nI cnt) (hc8 : cnt ≤ 8) {en : Nat → Nat} (hm : mWF (m.2.1 81) cnt en) {n : Nat} (hn : m.2.1 81 0 = nI n) (hn9 : n ≤ 9) (x : Int32) : WP X (d + 10) 0 0 Y_X10_mate 0 [(0, .ref (80)), (1, .int (x))] [] (HP c w m v E) (fun r h1 => (¬ (0 ≤ x.toInt ∧ x.toInt < (n : Int)) ∧ r = some (.int (-1)) ∧ h1 = HP c w m v E) ∨ ∃ l : Nat, l < n ∧ x = nI l ∧ (∃ ap g : Nat → Int32, mAP (m.2.1 81) en cnt ap n 0 n ∧ mG ap g n (2 ^ n) ∧ r = some (.int (mmt ap g n l n 0 (2 ^ n - 1) (-3)))) ∧ ∃ v1 : kZ, h1 = HP c w m v1 E) := by
  refine wp_aload_n 0 d_X10_mate_0 rfl rfl ?_
  refine wp_iload_n 1 d_X10_mate_1 rfl rfl ?_
  refine wp_vrt_i (As := [.int (x)]) (x0 := kb (0 ≤ ((x) : Int32).toInt ∧ ((x) : Int32).toInt < (n : Int))) (h1 := HP c w m v E) d_X10_mate_2 lk_X10_114 mv_X10_isLens in_X10_isLens se_X10_isLens (Nat.le_of_ble_eq_true rfl) (Nat.le_of_ble_eq_true rfl) (hp_80 _ _ _ _ _) rfl (s_X10_isLens hn (by omega) (x)) ?_
  refine wp_ifb_ne 10 d_X10_mate_5 rfl (fun zc5 => ?_) (fun zc5 => ?_)
  · obtain ⟨l, hl, rfl⟩ := k_nat zc5
    refine wp_aload_n 0 d_X10_mate_10 rfl rfl ?_
    refine wp_virtual0 (As := []) d_X10_mate_11 lk_X10_207 mv_X10_findPairs in_X10_findPairs se_X10_findPairs (Nat.le_of_ble_eq_true rfl) (Nat.le_of_ble_eq_true rfl) (hp_80 _ _ _ _ _) rfl (s_X10_findPairs hs1 hc8 hm hn hn9) (fun v11 h11 q11 => ?_)
    obtain ⟨rfl, v1, rfl, hP, hG⟩ := q11
    show WP _ _ _ _ _ 14 _ [] (HP c w m v1 E) _
    refine wp_iconst (v0 := 1) d_X10_mate_14 rfl ?_
    refine wp_aload_n 0 d_X10_mate_15 rfl rfl ?_
    refine wp_getfield (v := .ref (81)) d_X10_mate_16 gf_X10_7 (hp_80 _ _ _ _ _) rfl ?_
    refine wp_iconst (v0 := 0) d_X10_mate_19 rfl ?_
    refine wp_iaload (v := nI (n)) d_X10_mate_20 (hp_81 _ _ _ _ _) (kin rfl) hn ?_
    refine wp_ishl d_X10_mate_21 ?_
    have h2n := k2n_b n hn9
    refine wp_v (v0 := nI (2 ^ n)) (k2n_i n hn9) ?_
    refine wp_iconst (v0 := 1) d_X10_mate_22 rfl ?_
    refine wp_isub d_X10_mate_23 ?_
    refine wp_v (v0 := nI ((2 ^ n) - (1))) (pk_sub (a := 2 ^ n) (b := 1) (by omega)) ?_
    refine wp_istore_n [(2, .int (nI ((2 ^ n) - (1)))), (0, .ref (80)), (1, .int (nI (l)))] d_X10_mate_24 rfl (Nat.le_of_ble_eq_true rfl) rfl ?_
    refine wp_bipush (v0 := -3) d_X10_mate_25 (by decide) ?_
    refine wp_istore_n [(3, .int ((-3))), (2, .int (nI ((2 ^ n) - (1)))), (0, .ref (80)), (1, .int (nI (l)))] d_X10_mate_27 rfl (Nat.le_of_ble_eq_true rfl) rfl ?_
    refine wp_iconst (v0 := 0) d_X10_mate_28 rfl ?_
    refine wp_istore [(4, .int (0)), (3, .int ((-3))), (2, .int (nI ((2 ^ n) - (1)))), (0, .ref (80)), (1, .int (nI (l)))] d_X10_mate_29 (Nat.le_of_ble_eq_true rfl) rfl ?_
    refine wp_sub [(4, .int (0)), (3, .int ((-3))), (2, .int (nI ((2 ^ n) - (1)))), (0, .ref (80)), (1, .int (nI (l)))] [0, 1, 2, 3, 4] rfl ?_
    refine wp_mono ?_ (s_X10_mate_a (v1 := v1) (v := v) hn hn9 hl n 0 (2 ^ n - 1) (-3) (by omega) (by omega) rfl)
    rintro r h1 ⟨rfl, rfl⟩
    exact Or.inr ⟨l, hl, rfl, ⟨v1.2.1 90, v1.2.1 91, hP, hG, rfl⟩, v1, rfl⟩
  · refine wp_iconst (v0 := -1) d_X10_mate_8 rfl ?_
    refine wp_reti d_X10_mate_9 rfl ?_
    exact Or.inl ⟨zc5, rfl, rfl⟩
