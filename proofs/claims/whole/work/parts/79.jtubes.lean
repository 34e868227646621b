/-! ===== tubes from the heap: bounds ===== -/
def Ab (x : Int32) (A : Nat) : Prop := -(A : Int) ≤ x.toInt ∧ x.toInt ≤ (A : Int)
theorem Ab.mono {x : Int32} {A B : Nat} (h : Ab x A) (hAB : A ≤ B) : Ab x B := by
  unfold Ab at *
  omega
theorem Ab.add {x y : Int32} {A B : Nat} (h : Ab x A) (g : Ab y B) (hB : A + B < 2 ^ 31) : Ab (x + y) (A + B) := by
  unfold Ab at *
  have e : (x + y).toInt = x.toInt + y.toInt := by
    rw [Int32.toInt_add]
    exact Int.bmod_eq_of_le (by omega) (by omega)
  omega
theorem Ab.sub {x y : Int32} {A B : Nat} (h : Ab x A) (g : Ab y B) (hB : A + B < 2 ^ 31) : Ab (x - y) (A + B) := by
  unfold Ab at *
  have e : (x - y).toInt = x.toInt - y.toInt := by
    rw [Int32.toInt_sub]
    exact Int.bmod_eq_of_le (by omega) (by omega)
  omega
theorem Ab.mul {x y : Int32} {A B : Nat} (h : Ab x A) (g : Ab y B) (hB : A * B < 2 ^ 31) : Ab (x * y) (A * B) := by
  unfold Ab at *
  have h1 : x.toInt.natAbs ≤ A := by omega
  have h2 : y.toInt.natAbs ≤ B := by omega
  have h3 : (x.toInt * y.toInt).natAbs ≤ A * B := by
    rw [Int.natAbs_mul]
    exact Nat.mul_le_mul h1 h2
  have e : (x * y).toInt = (x.toInt * y.toInt).bmod (2 ^ 32) := Int32.toInt_mul x y
  generalize x.toInt * y.toInt = z at h3 e
  have hz : (A * B : Nat) = ((A : Int) * (B : Int)) := by simp
  generalize A * B = D at h3 hB hz ⊢
  rw [Int.bmod_eq_of_le (by omega) (by omega)] at e
  omega
theorem Ab.neg {x : Int32} {A : Nat} (h : Ab x A) (hA : A < 2 ^ 31) : Ab (-x) A := by
  have := Ab.sub (x := 0) (y := x) (A := 0) (B := A) (by unfold Ab; decide) h (by omega)
  rw [Int32.zero_sub, Nat.zero_add] at this
  exact this
def bdH : Nat → Nat × Nat
  | 0 => (1, 0)
  | n + 1 => ((bdH n).1 + 3 * ((bdH n).2 + 9 + 9 * (bdH n).1), (bdH n).2 + 9 + 9 * (bdH n).1)
def kBq (q : kQ) (b : Nat × Nat) : Prop := Ab q.1 b.1 ∧ Ab q.2.1 b.2 ∧ Ab q.2.2.1 b.1 ∧ Ab q.2.2.2 b.2
theorem kBq.st {q : kQ} {n : Nat} (hn : n < 4) {g : Int32} (hg : Ab g 3) {e : Int32 × Int32} (h1 : Ab e.1 9) (h2 : Ab e.2 9) (h : kBq q (bdH n)) : kBq (kst g q e) (bdH (n + 1)) := by
  obtain ⟨a, b, c, d⟩ := h
  have hb : (bdH n).1 ≤ 46981 ∧ (bdH n).2 ≤ 15120 := by
    obtain rfl | rfl | rfl | rfl : n = 0 ∨ n = 1 ∨ n = 2 ∨ n = 3 := by omega
    · decide
    · decide
    · decide
    · decide
  show kBq (kst g q e) ((bdH n).1 + 3 * ((bdH n).2 + 9 + 9 * (bdH n).1), (bdH n).2 + 9 + 9 * (bdH n).1)
  generalize (bdH n).1 = H at *
  generalize (bdH n).2 = S at *
  have s1 : Ab (q.2.1 + e.2 - e.1 * q.1) (S + 9 + 9 * H) := Ab.sub (Ab.add b h2 (by omega)) (Ab.mul h1 a (by omega)) (by omega)
  have s2 : Ab (q.2.2.2 - e.1 * q.2.2.1) (S + 9 + 9 * H) := Ab.mono (Ab.sub d (Ab.mul h1 c (by omega)) (by omega)) (by omega)
  exact ⟨Ab.add a (Ab.mul hg s1 (by omega)) (by omega), s1, Ab.add c (Ab.mul hg s2 (by omega)) (by omega), s2⟩
theorem kBq.fold {g : Int32} (hg : Ab g 3) : ∀ (l : List (Int32 × Int32)) (q : kQ) (n : Nat), n + l.length ≤ 4 → (∀ e, e ∈ l → Ab e.1 9 ∧ Ab e.2 9) → kBq q (bdH n) → kBq (l.foldl (kst g) q) (bdH (n + l.length))
  | [], q, n, _, _, h => h
  | e :: l, q, n, hn, he, h => by
    rw [List.foldl_cons, List.length_cons, show n + (l.length + 1) = (n + 1) + l.length by omega]
    rw [List.length_cons] at hn
    exact kBq.fold hg l _ (n + 1) (by omega) (fun x hx => he x (List.mem_cons_of_mem _ hx)) (kBq.st (by omega) hg (he e List.mem_cons_self).1 (he e List.mem_cons_self).2 h)
theorem kabs_b {x : Int32} {A : Nat} (h : Ab x A) (hA : A < 2 ^ 31) : 0 ≤ (kabs x).toInt ∧ (kabs x).toInt ≤ (A : Int) := by
  unfold kabs
  split
  · rename_i q
    have q := Int32.le_iff_toInt_le.mp q
    have : (0 : Int32).toInt = 0 := rfl
    unfold Ab at h
    omega
  · rename_i q
    have q := Int32.lt_iff_toInt_lt.mp (Int32.not_le.mp q)
    have h0 : (0 : Int32).toInt = 0 := rfl
    have e : (0 - x).toInt = 0 - x.toInt := by
      rw [Int32.toInt_sub, h0]
      unfold Ab at h
      exact Int.bmod_eq_of_le (by omega) (by omega)
    unfold Ab at h
    omega
theorem cwr_nn {g e : Int32} (hg : Ab g 3) (he : Ab e 9) {l : List (Int32 × Int32)} (hl : l.length ≤ 3) (h : ∀ x, x ∈ l → Ab x.1 9 ∧ Ab x.2 9) : 0 ≤ (cwr g e l).toInt := by
  have h0 : kBq (0, 0, 1, 0) (bdH 0) := by
    unfold kBq Ab
    decide
  have hm : ∀ x, x ∈ l ++ [(e, 0)] → Ab x.1 9 ∧ Ab x.2 9 := fun x hx => by
    rcases List.mem_append.mp hx with z | z
    · exact h x z
    · rw [List.mem_singleton.mp z]
      exact ⟨he, show Ab (0 : Int32) 9 by unfold Ab; decide⟩
  have hb := kBq.fold hg (l ++ [(e, 0)]) (0, 0, 1, 0) 0 (by rw [List.length_append]; show 0 + (l.length + 1) ≤ 4; omega) hm h0
  rw [List.length_append] at hb
  have hb : kBq (csee g e l) (bdH (0 + (l.length + 1))) := hb
  have hH : (bdH (0 + (l.length + 1))).1 ≤ 1360855 := by
    obtain q | q | q | q : l.length = 0 ∨ l.length = 1 ∨ l.length = 2 ∨ l.length = 3 := by omega
    all_goals
      rw [q]
      decide
  have k1 := kabs_b (hb.1.mono hH) (by omega)
  have k2 := kabs_b (hb.2.2.1.mono hH) (by omega)
  unfold cwr
  rw [Int32.toInt_add, Int.bmod_eq_of_le (by omega) (by omega)]
  omega
theorem kclip_b (u : Int32) : Ab (kclip u) 9 := by
  have e9 : (9 : Int32).toInt = 9 := rfl
  have e9' : (-9 : Int32).toInt = -9 := rfl
  unfold Ab kclip
  by_cases h1 : u < 9
  · rw [if_pos h1]
    have q1 := Int32.lt_iff_toInt_lt.mp h1
    by_cases h2 : -9 < u
    · rw [if_pos h2]
      have q2 := Int32.lt_iff_toInt_lt.mp h2
      omega
    · rw [if_neg h2]
      omega
  · rw [if_neg h1, if_pos (by decide)]
    omega
theorem kpush_b {x : Int32} (h : Ab x 9) (t : Int32) : Ab (kpush x t) 9 := by
  unfold kpush
  split
  · exact h
  · split
    · exact h.neg (by omega)
    · unfold Ab
      decide
theorem kW2_nn {n : Nat} {A : Nat → Nat → Int32} {code : Nat → Int32} {cnt : Nat} (hg : Ab (A 6 1) 3) (he : Ab (A 6 2) 9) (ht : ∀ l, l < n → Ab (A 4 l) 9) {p : kTb} (hp : p.length ≤ 3) (hm : ∀ x, x ∈ p → x.1 < n) : 0 ≤ (kW2 (A 6 1) (A 6 2) (fun l => kstr code cnt (A 6 0) (A 6 1) (A 6 2) (A 2 l) (A 3 l) l) (A 4) p).toInt := by
  refine cwr_nn hg he (by rw [List.length_map]; exact hp) (fun x hx => ?_)
  obtain ⟨y, hy, rfl⟩ := List.mem_map.mp hx
  exact ⟨kclip_b _, kpush_b (ht y.1 (hm y hy)) _⟩
/-! ===== all tubes: the reference's leaves ===== -/
def sfx (nl : Nat) : Nat → Int32 → List kTb
  | 0, _ => [[]]
  | k + 1, u => (List.range' 0 nl).flatMap (fun l => if u >>> (nI l &&& 31) &&& 1 = 1 then [] else (List.range' 0 4).flatMap (fun t => (sfx nl k (u ||| kbit l)).map (fun q => (l, t) :: q)))
theorem fold_fm {α β γ : Type} (f : α → List β) (g : γ → β → γ) : ∀ (l : List α) (a : γ), (l.flatMap f).foldl g a = l.foldl (fun a x => (f x).foldl g a) a
  | [], _ => rfl
  | x :: l, a => by
    rw [List.flatMap_cons, List.foldl_append, List.foldl_cons]
    exact fold_fm f g l _
theorem tfw_sfx {α : Type} (leaf : kTb → Int32 → α → α) (nl : Nat) (wy : Int32) : ∀ k pre u a, tfw leaf nl 4 wfm k pre u wy a = (sfx nl k u).foldl (fun a q => leaf (pre ++ q) wy a) a
  | 0, pre, u, a => by
    show leaf pre wy a = leaf (pre ++ []) wy a
    rw [List.append_nil]
  | k + 1, pre, u, a => by
    simp only [tfw, sfx]
    rw [fold_fm]
    congr 1
    funext a l
    by_cases q : u >>> (nI l &&& 31) &&& 1 = 1
    · rw [if_pos q, if_pos q]
      rfl
    · rw [if_neg q, if_neg q, fold_fm]
      congr 1
      funext a t
      show tfw leaf nl 4 wfm k (pre ++ [(l, t)]) (u ||| kbit l) wy a = _
      rw [tfw_sfx leaf nl wy k, List.foldl_map]
      congr 1
      funext a q
      rw [List.append_assoc]
      rfl
theorem sfx_ok {nl : Nat} : ∀ k u q, q ∈ sfx nl k u → q.length = k ∧ ∀ x, x ∈ q → x.1 < nl
  | 0, u, q, h => by
    rw [List.mem_singleton.mp h]
    exact ⟨rfl, fun x hx => absurd hx List.not_mem_nil⟩
  | k + 1, u, q, h => by
    simp only [sfx] at h
    obtain ⟨l, hl, h⟩ := List.mem_flatMap.mp h
    have hl : l < nl := by
      have := (List.mem_range'_1.mp hl).2
      omega
    split at h
    · exact absurd h List.not_mem_nil
    · obtain ⟨t, -, h⟩ := List.mem_flatMap.mp h
      obtain ⟨q2, h2, rfl⟩ := List.mem_map.mp h
      obtain ⟨h3, h4⟩ := sfx_ok k _ q2 h2
      refine ⟨by rw [List.length_cons, h3], fun x hx => ?_⟩
      rcases List.mem_cons.mp hx with z | z
      · rw [z]
        exact hl
      · exact h4 x z
theorem sfx_ne {nl : Nat} (hn : nl ≤ 9) : ∀ k u, (k ≤ kfre u nl → sfx nl k u ≠ []) ∧ (kfre u nl < k → sfx nl k u = [])
  | 0, u => ⟨fun _ => (show ([[]] : List kTb) ≠ [] from List.cons_ne_nil _ _), fun h => absurd h (by omega)⟩
  | k + 1, u => by
    have hbit : ∀ l, l < nl → (¬ (u >>> (nI l &&& 31) &&& 1 = 1) ↔ kb0 u l) := fun l hl => by
      rcases k01 (u >>> (nI l &&& 31)) with q | q
      · exact ⟨fun _ => q, fun _ z => absurd (q.symm.trans z) (by decide)⟩
      · exact ⟨fun z => absurd q z, fun z => absurd (z.symm.trans q) (by decide)⟩
    have hdec : ∀ l, l < nl → kb0 u l → kfre (u ||| kbit l) nl + 1 = kfre u nl := fun l hl hb => by
      have := kfre_or (l := l) (by omega) hb nl (by omega)
      rw [if_pos hl] at this
      exact this
    constructor
    · intro h
      have hex : ∃ l, l < nl ∧ kb0 u l := Decidable.byContradiction (fun z => by
        have := (kfre_0 (u := u) nl).mpr (fun l hl hb => z ⟨l, hl, hb⟩)
        omega)
      obtain ⟨l, hl, hb⟩ := hex
      have ih := (sfx_ne hn k (u ||| kbit l)).1 (by have := hdec l hl hb; omega)
      obtain ⟨q, hq⟩ := List.exists_mem_of_ne_nil _ ih
      refine List.ne_nil_of_mem (a := (l, 0) :: q) ?_
      simp only [sfx]
      refine List.mem_flatMap.mpr ⟨l, List.mem_range'_1.mpr ⟨by omega, by omega⟩, ?_⟩
      rw [if_neg ((hbit l hl).mpr hb)]
      exact List.mem_flatMap.mpr ⟨0, List.mem_range'_1.mpr ⟨by omega, by omega⟩, List.mem_map.mpr ⟨q, hq, rfl⟩⟩
    · intro h
      refine List.eq_nil_iff_forall_not_mem.mpr (fun q hq => ?_)
      simp only [sfx] at hq
      obtain ⟨l, hl, hq⟩ := List.mem_flatMap.mp hq
      have hl : l < nl := by
        have := (List.mem_range'_1.mp hl).2
        omega
      split at hq
      · exact absurd hq List.not_mem_nil
      · rename_i z
        have hb := (hbit l hl).mp z
        obtain ⟨t, -, hq⟩ := List.mem_flatMap.mp hq
        rw [(sfx_ne hn k (u ||| kbit l)).2 (by have := hdec l hl hb; omega)] at hq
        exact absurd hq List.not_mem_nil
