/-! ===== call by call: a game ===== -/
theorem k01 (x : Int32) : x &&& 1 = 0 ∨ x &&& 1 = 1 := by
  have h : (x &&& 1).toBitVec.toNat = x.toBitVec.toNat % 2 := by
    rw [Int32.toBitVec_and, BitVec.toNat_and]
    exact Nat.and_one_is_mod _
  rcases (by omega : x.toBitVec.toNat % 2 = 0 ∨ x.toBitVec.toNat % 2 = 1) with q | q
  · exact Or.inl (Int32.toBitVec_inj.mp (BitVec.eq_of_toNat_eq (h.trans q)))
  · exact Or.inr (Int32.toBitVec_inj.mp (BitVec.eq_of_toNat_eq (h.trans q)))
/-- bit i is not set -/
abbrev kb0 (u : Int32) (i : Nat) : Prop := u >>> (nI i &&& 31) &&& 1 = 0
theorem kb0_iff (u : Int32) {i : Nat} (hi : i < 31) : kb0 u i ↔ u.toBitVec.getLsbD i = false := by
  have h := kbt u hi
  rcases k01 (u >>> (nI i &&& 31)) with q | q
  · refine ⟨fun _ => ?_, fun _ => q⟩
    rw [q] at h
    exact Bool.not_eq_true _ |>.mp (fun z => absurd (h.mpr z) (by decide))
  · refine ⟨fun z => absurd (z.symm.trans q) (by decide), fun z => ?_⟩
    rw [h.mp q] at z
    cases z
theorem kb0_or (u : Int32) {l i : Nat} (hl : l < 31) (hi : i < 31) : kb0 (u ||| kbit l) i ↔ kb0 u i ∧ i ≠ l := by
  rw [kb0_iff _ hi, kb0_iff _ hi, Int32.toBitVec_or, BitVec.getLsbD_or, kbit_bv hl]
  by_cases e : l = i
  · subst e
    simp
  · simp [e, show i ≠ l from fun z => e z.symm]
def kfre (u : Int32) : Nat → Nat
  | 0 => 0
  | k + 1 => kfre u k + (if kb0 u k then 1 else 0)
theorem kfre_or {u : Int32} {l : Nat} (hl : l < 31) (h : kb0 u l) : ∀ k, k ≤ 31 → kfre (u ||| kbit l) k + (if l < k then 1 else 0) = kfre u k
  | 0, _ => by simp [kfre]
  | k + 1, hk => by
    have ih := kfre_or hl h k (by omega)
    simp only [kfre]
    by_cases e : k = l
    · subst e
      rw [if_neg (fun z => ((kb0_or u hl hl).mp z).2 rfl), if_pos (by omega), if_pos h]
      rw [if_neg (by omega)] at ih
      omega
    · by_cases q : kb0 u k
      · rw [if_pos ((kb0_or u hl (by omega)).mpr ⟨q, e⟩), if_pos q]
        by_cases z : l < k
        · rw [if_pos z] at ih
          rw [if_pos (by omega)]
          omega
        · rw [if_neg z] at ih
          rw [if_neg (by omega)]
          omega
      · rw [if_neg (fun z => q ((kb0_or u hl (by omega)).mp z).1), if_neg q]
        by_cases z : l < k
        · rw [if_pos z] at ih
          rw [if_pos (by omega)]
          omega
        · rw [if_neg z] at ih
          rw [if_neg (by omega)]
          omega
theorem kfre_0 {u : Int32} : ∀ k, kfre u k = 0 ↔ ∀ l, l < k → ¬ kb0 u l
  | 0 => ⟨fun _ l hl => absurd hl (by omega), fun _ => rfl⟩
  | k + 1 => by
    have ih := kfre_0 (u := u) k
    simp only [kfre]
    by_cases q : kb0 u k
    · rw [if_pos q]
      exact ⟨fun z => absurd z (by omega), fun z => absurd q (z k (by omega))⟩
    · rw [if_neg q]
      refine ⟨fun z l hl => ?_, fun z => ih.mpr (fun l hl => z l (by omega))⟩
      by_cases e : l = k
      · rw [e]; exact q
      · exact ih.mp (by omega) l (by omega)
def kGi9 (n : Nat) (u : Int32) (L : Nat) : Prop := (∀ i, n ≤ i → i < 32 → u.toBitVec.getLsbD i = false) ∧ kfre u n + L = n
theorem full_bit {n : Nat} (hn : n ≤ 9) (i : Nat) (hi : i < 32) : (nI (2 ^ n - 1)).toBitVec.getLsbD i = decide (i < n) := by
  have : ∀ n : Fin 10, ∀ i : Fin 32, (nI (2 ^ n.val - 1)).toBitVec.getLsbD i.val = decide (i.val < n.val) := by decide +kernel
  exact this ⟨n, by omega⟩ ⟨i, hi⟩
theorem kGi9.full {n L : Nat} {u : Int32} (hn : n ≤ 9) (h : kGi9 n u L) : u = nI (2 ^ n - 1) ↔ n ≤ L := by
  have h0 : kfre u n = 0 ↔ n ≤ L := by have := h.2; omega
  rw [← h0, kfre_0]
  constructor
  · intro e l hl z
    rw [e, kb0_iff _ (by omega), full_bit hn l (by omega)] at z
    exact absurd hl (of_decide_eq_false z)
  · intro z
    apply Int32.toBitVec_inj.mp
    apply BitVec.eq_of_getLsbD_eq
    intro i hi
    rw [full_bit hn i hi]
    by_cases q : i < n
    · rw [decide_eq_true q]
      refine Bool.not_eq_false _ |>.mp (fun y => z i q ((kb0_iff u (by omega)).mpr y))
    · rw [decide_eq_false q]
      exact h.1 i (by omega) hi
theorem kGi9.put {n L l : Nat} {u : Int32} (hn : n ≤ 9) (h : kGi9 n u L) (hl : l < n) (hb : kb0 u l) : kGi9 n (u ||| kbit l) (L + 1) := by
  refine ⟨fun i h1 h2 => ?_, ?_⟩
  · rw [Int32.toBitVec_or, BitVec.getLsbD_or, h.1 i h1 h2, kbit_bv (by omega), decide_eq_false (by omega)]
    rfl
  · have e := kfre_or (l := l) (by omega) hb n (by omega)
    rw [if_pos hl] at e
    have := h.2
    omega
theorem kuo_bit {a : Nat → Int32} {p i : Nat} (hi : i < 31) (ha : ∀ j, j < p → (a j).toNatClampNeg < 31) : ∀ k, k ≤ p → (kb0 (kuo a k) i ↔ ∀ j, j < k → (a j).toNatClampNeg ≠ i)
  | 0, _ => by
    refine ⟨fun _ j hj => absurd hj (by omega), fun _ => ?_⟩
    rw [kb0_iff _ hi]
    show (0 : Int32).toBitVec.getLsbD i = false
    exact BitVec.getLsbD_zero
  | k + 1, hk => by
    have ih := kuo_bit hi ha k (by omega)
    simp only [kuo]
    rw [kb0_or _ (ha k (by omega)) hi, ih]
    refine ⟨fun z j hj => ?_, fun z => ⟨fun j hj => z j (by omega), fun e => z k (by omega) e.symm⟩⟩
    by_cases e : j = k
    · rw [e]; exact fun y => z.2 y.symm
    · exact z.1 j (by omega)
theorem kuo_gi {n p : Nat} {a : Nat → Int32} (hn : n ≤ 9) (ha : ∀ j, j < p → (a j).toNatClampNeg < n) (hd : ∀ i j, i < p → j < p → (a i).toNatClampNeg = (a j).toNatClampNeg → i = j) : ∀ k, k ≤ p → kGi9 n (kuo a k) k
  | 0, _ => by
    refine ⟨fun i _ _ => BitVec.getLsbD_zero, ?_⟩
    have : ∀ k, k ≤ 31 → kfre (kuo a 0) k = k := by
      intro k
      induction k with
      | zero => intro _; rfl
      | succ k ih =>
        intro hk
        simp only [kfre]
        rw [ih (by omega), if_pos ((kb0_iff (kuo a 0) (i := k) (by omega)).mpr (show (0 : Int32).toBitVec.getLsbD k = false from BitVec.getLsbD_zero))]
    rw [this n (by omega)]
    omega
  | k + 1, hk => by
    refine (kuo_gi hn ha hd k (by omega)).put hn (ha k (by omega)) ?_
    rw [kuo_bit (p := p) (by have := ha k (by omega); omega) (fun j hj => by have := ha j hj; omega) k (by omega)]
    intro j hj e
    have := hd j k (by omega) (by omega) e
    omega
theorem kuo_c {a a' : Nat → Int32} : ∀ p, (∀ j, j < p → a' j = a j) → kuo a' p = kuo a p
  | 0, _ => rfl
  | p + 1, h => by
    simp only [kuo]
    rw [kuo_c p (fun j hj => h j (by omega)), h p (by omega)]
theorem kp0_c {a a' b b' : Nat → Int32} {p : Nat} (h : ∀ j, j < p → a' j = a j ∧ b' j = b j) : kp0 a' b' p = kp0 a b p := by
  unfold kp0
  refine List.map_congr_left (fun j hj => ?_)
  rw [(h j (List.mem_range.mp hj)).1, (h j (List.mem_range.mp hj)).2]
theorem kan_c {F F' : Nat → Bool} : ∀ k l, (∀ i, l ≤ i → i < l + k → F' i = F i) → kan F' k l = kan F k l
  | 0, _, _ => rfl
  | k + 1, l, h => by
    simp only [kan]
    rw [h l (by omega) (by omega), kan_c k (l + 1) (fun i h1 h2 => h i (by omega) (by omega))]
theorem kan_43 {F : Nat → Bool} (h : F 3 = F 1) : kan F 4 0 = kan F 3 0 := by
  simp only [kan]
  rw [h]
  cases F 0 <;> cases F 1 <;> cases F 2 <;> rfl
theorem mgw_c {W W' : kTb → Bool} {n : Nat} (h : ∀ q : kTb, (∀ x, x ∈ q → x.1 < n) → W' q = W q) : ∀ r pre u on, (∀ x, x ∈ pre → x.1 < n) → mgw W' n r pre u on = mgw W n r pre u on
  | 0, pre, _, _, hp => h pre hp
  | r + 1, pre, u, on, hp => by
    simp only [mgw]
    rw [h pre hp, kan_c (F := fun l => decide (u >>> (nI l &&& 31) &&& 1 = 0) && kan (fun t => mgw W n r (pre ++ [(l, t)]) (u ||| kbit l) (!on) == on) 4 0) n 0 (fun l _ hl => ?_)]
    rw [kan_c (F := fun t => mgw W n r (pre ++ [(l, t)]) (u ||| kbit l) (!on) == on) 4 0 (fun t _ _ => ?_)]
    rw [mgw_c h r (pre ++ [(l, t)]) _ _ (fun x hx => ?_)]
    rcases List.mem_append.mp hx with z | z
    · exact hp x z
    · rw [List.mem_singleton.mp z]
      omega
theorem mgw_t {W : kTb → Bool} {n : Nat} : ∀ r (pre pre' : kTb) u on, pre'.length = pre.length → (∀ q, W (pre' ++ q) = W (pre ++ q)) → mgw W n r pre' u on = mgw W n r pre u on
  | 0, pre, pre', _, _, _, h => by
    have := h []
    rw [List.append_nil, List.append_nil] at this
    exact this
  | r + 1, pre, pre', u, on, hl, h => by
    have h0 := h []
    rw [List.append_nil, List.append_nil] at h0
    simp only [mgw]
    rw [h0, hl, kan_c (F := fun l => decide (u >>> (nI l &&& 31) &&& 1 = 0) && kan (fun t => mgw W n r (pre ++ [(l, t)]) (u ||| kbit l) (!on) == on) 4 0) n 0 (fun l _ _ => ?_)]
    rw [kan_c (F := fun t => mgw W n r (pre ++ [(l, t)]) (u ||| kbit l) (!on) == on) 4 0 (fun t _ _ => ?_)]
    rw [mgw_t r (pre ++ [(l, t)]) (pre' ++ [(l, t)]) _ _ (by simp [hl]) (fun q => ?_)]
    rw [List.append_assoc, List.append_assoc]
    exact h _
theorem par_s (put : Nat) : ((put + 1) % 2 == 0) = !(put % 2 == 0) := by
  rcases (by omega : put % 2 = 0 ∨ put % 2 = 1) with q | q
  · rw [q, show (put + 1) % 2 = 1 by omega]; rfl
  · rw [q, show (put + 1) % 2 = 0 by omega]; rfl
theorem kgw_mgw {W : kTb → Bool} {n : Nat} (hn : n ≤ 9) (hT : ∀ (pre : kTb) (l : Nat) (q : kTb), W ((pre ++ [(l, 3)]) ++ q) = W ((pre ++ [(l, 1)]) ++ q)) : ∀ r left put (pre : kTb) u, kGi9 n u pre.length → pre.length ≤ 4 → r = min left (min (4 - pre.length) (n - pre.length)) → kgw W n r put pre u = mgw W n left pre u (put % 2 == 0)
  | 0, 0, _, _, _, _, _, _ => rfl
  | 0, left + 1, put, pre, u, hi, h4, hr => by
    simp only [mgw, kgw]
    rw [if_pos]
    by_cases e : pre.length = 4
    · exact Or.inl e
    · exact Or.inr ((hi.full hn).mpr (by omega))
  | r + 1, 0, _, _, _, _, _, hr => by omega
  | r + 1, left + 1, put, pre, u, hi, h4, hr => by
    simp only [mgw, kgw]
    rw [if_neg (show ¬ (pre.length = 4 ∨ u = nI (2 ^ n - 1)) from fun z => z.elim (fun z => by omega) (fun z => by have := (hi.full hn).mp z; omega))]
    rw [kan_c (F := fun l => decide (u >>> (nI l &&& 31) &&& 1 = 0) && kan (fun t => mgw W n left (pre ++ [(l, t)]) (u ||| kbit l) (!(put % 2 == 0)) == (put % 2 == 0)) 4 0) n 0 (fun l _ hl => ?_)]
    by_cases q : kb0 u l
    · rw [decide_eq_true q, Bool.true_and, Bool.true_and]
      rw [kan_43 (by
        show (mgw W n left (pre ++ [(l, 3)]) _ _ == _) = (mgw W n left (pre ++ [(l, 1)]) _ _ == _)
        rw [mgw_t left (pre ++ [(l, 1)]) (pre ++ [(l, 3)]) _ _ (by simp) (fun q => hT pre l q)])]
      refine kan_c 3 0 (fun t _ _ => ?_)
      rw [← par_s, ← kgw_mgw hn hT r left (put + 1) (pre ++ [(l, t)]) (u ||| kbit l) (by rw [List.length_append]; exact hi.put hn (by omega) q) (by rw [List.length_append]; show pre.length + 1 ≤ 4; omega) (by rw [List.length_append]; show r = min left (min (4 - (pre.length + 1)) (n - (pre.length + 1))); omega)]
    · rw [decide_eq_false q, Bool.false_and, Bool.false_and]
theorem kmo_43 {bit : Nat → Bool} {G G' : Nat → Nat → Bool} {n : Nat} (h : ∀ l, l < n → bit l = true → (∀ t, t < 3 → G' l t = G l t) ∧ G' l 3 = G' l 1) : ∀ k l, l + k = n → kmo bit G' 4 k l = kmo bit G 3 k l
  | 0, _, _ => rfl
  | k + 1, l, hl => by
    simp only [kmo]
    rw [kmo_43 h k (l + 1) (by omega)]
    by_cases b : bit l = true
    · rw [if_pos b, if_pos b]
      obtain ⟨h1, h2⟩ := h l (by omega) b
      have : kmi (G' l) l 4 0 = kmi (G l) l 3 0 := by
        simp only [kmi]
        rw [h2, h1 0 (by omega), h1 1 (by omega), h1 2 (by omega)]
        cases G l 0 <;> cases G l 1 <;> cases G l 2 <;> rfl
      rw [this]
    · rw [if_neg b, if_neg b]
theorem kmo_no {bit : Nat → Bool} {G : Nat → Nat → Bool} {T n : Nat} (h : ∀ l, l < n → bit l = false) : ∀ k l, l + k = n → kmo bit G T k l = -3
  | 0, _, _ => rfl
  | k + 1, l, hl => by
    simp only [kmo]
    rw [if_neg (by rw [h l (by omega)]; decide)]
    exact kmo_no h k (l + 1) (by omega)
theorem kpush_31 (x : Int32) : kpush x (nI 3) = kpush x (nI 1) := by
  unfold kpush
  rw [if_neg (by decide), if_neg (by decide), if_neg (by decide), if_neg (by decide)]
theorem kW2_31 (g e lim : Int32) (st tl : Nat → Int32) (pre : kTb) (l : Nat) (q : kTb) : decide (kW2 g e st tl ((pre ++ [(l, 3)]) ++ q) ≤ lim) = decide (kW2 g e st tl ((pre ++ [(l, 1)]) ++ q) ≤ lim) := by
  have : kW2 g e st tl ((pre ++ [(l, 3)]) ++ q) = kW2 g e st tl ((pre ++ [(l, 1)]) ++ q) := by
    unfold kW2
    rw [List.map_append, List.map_append, List.map_append, List.map_append]
    show cwr g e ((pre.map (kent2 st tl) ++ [kent2 st tl (l, 3)]) ++ _) = cwr g e ((pre.map (kent2 st tl) ++ [kent2 st tl (l, 1)]) ++ _)
    rw [show kent2 st tl (l, 3) = kent2 st tl (l, 1) from Prod.ext rfl (kpush_31 (tl l))]
  rw [this]
theorem j_game {X : kX} {d : Nat} (hd : 20 ≤ d) (x : Int32) : kJn X d 0 0 Y_X9_game Y_X10_game [(1, .int x)] := by
  intro c w m v E hRl
  obtain ⟨⟨n, p, r, ⟨⟨hn9, hp4, hr6⟩, ⟨hn, hn'⟩, ⟨hp, hp'⟩, ⟨hr, hr'⟩, hz⟩, hL, hS, hP, hRp, cnt, L, code, en, hu, hL20, hc8, hwf, hs1, hm, hq⟩, hK, hT, hW, hC, hH, hF, hV⟩ := id hRl
  have hA := RlA.of hq hL hS hP
  have hse := hA.1
  have hln : ∀ j, j < p → c.2.1 9 j = nI (c.2.1 9 j).toNatClampNeg ∧ (c.2.1 9 j).toNatClampNeg < n := hP.ls hn9
  have hgi : kGi9 n (kuo (c.2.1 9) p) p := kuo_gi hn9 (fun j hj => (hln j hj).2) (fun i j hi hj e => hP.2 i j hi hj (by show c.2.1 9 i = c.2.1 9 j; rw [(hln i hi).1, (hln j hj).1, e])) p (Nat.le_refl p)
  have hpn : p ≤ n := by have := hgi.2; omega
  have htn : ∀ j, j < p → ∃ t : Nat, t < 4 ∧ c.2.1 10 j = nI t := fun j hj => (hP.1 j hj).2.2
  have htm : ∀ j, j < p → ∃ t : Nat, t < 4 ∧ mtp (m.2.1 81) j = nI t := fun j hj => by
    rw [show mtp (m.2.1 81) j = c.2.1 10 j from (hP.1 j hj).2.1]
    exact htn j hj
  have hkp : kp0 (mlp (m.2.1 81)) (mtp (m.2.1 81)) p = kp0 (c.2.1 9) (c.2.1 10) p := kp0_c (fun j hj => ⟨(hP.1 j hj).1.1, (hP.1 j hj).2.1⟩)
  have hku : kuo (mlp (m.2.1 81)) p = kuo (c.2.1 9) p := kuo_c p (fun j hj => (hP.1 j hj).1.1)
  have hlen : (kp0 (c.2.1 9) (c.2.1 10) p).length = p := kp0_len _ _ _
  have hmem : ∀ x, x ∈ kp0 (c.2.1 9) (c.2.1 10) p → x.1 < n := fun x hx => by
    unfold kp0 at hx
    obtain ⟨j, hj, rfl⟩ := List.mem_map.mp hx
    exact (hln j (List.mem_range.mp hj)).2
  have hWW : ∀ q : kTb, (∀ x, x ∈ q → x.1 < n) → (fun q => decide (mW2 (m.2.1 81) en cnt q ≤ (m.2.1 81) 7)) q = (fun q => decide (kW2 (c.2.1 6 1) (c.2.1 6 2) (fun l => kstr code cnt (c.2.1 6 0) (c.2.1 6 1) (c.2.1 6 2) (c.2.1 2 l) (c.2.1 3 l) l) (c.2.1 4) q ≤ (c.2.1 6 3))) q := fun q hq => by
    show decide _ = decide _
    rw [hA.w2 q hq, hse.2.2.2]
  have rg : ∀ {N : Nat}, 1 ≤ N → N ≤ 3 → 1 ≤ (nI N).toInt ∧ (nI N).toInt ≤ 3 := fun {N} h1 h2 => by
    have := nI_toInt (n := N) (by omega)
    omega
  have hM : ∀ w1 : kZ, WP X d 0 0 Y_X10_game 0 _ [] (HP c w1 m v E) _ := fun w1 => wp_depth (by omega) (s_X10_game (X := X) (d := 0) (c := c) (w := w1) (m := m) (v := v) (E := E) hs1 hc8 hm hn' hn9 hp' hp4 (hP.vm hn9) htm x)
  refine wp_mono ?_ (wp_depth (by omega) (s_X9_game (d := 0) hn hn9 rfl hu hL20 hc8 hwf hL.kd hp hp4 (hP.vp hn9) hV.1 hpn htn x))
  rintro r1 t1 (⟨h, rfl, rfl⟩ | ⟨N, h1, h2, rfl, rfl, w1, rfl, hw, hray⟩)
  · refine ⟨_, c, w, E, rfl, rfl, wp_mono ?_ (hM _)⟩
    rintro r2 t2 (⟨g, rfl, rfl⟩ | ⟨N, h1, h2, rfl, -⟩)
    · exact ⟨rfl, m, v, rfl, hRl⟩
    · exact absurd (rg h1 h2) h
  · refine ⟨_, c, w1, E, rfl, rfl, wp_mono ?_ (hM _)⟩
    rintro r2 t2 (⟨g, rfl, rfl⟩ | ⟨N2, g1, g2, e, rfl, v1, rfl⟩)
    · exact absurd (rg h1 h2) g
    · obtain rfl := nI_ij (by omega) (by omega) e
      refine ⟨?_, m, v1, rfl, hRl.w (hV.f (hw.2.1 72 (by omega)) hray)⟩
      rw [hkp, hku]
      rw [mgw_c hWW N _ _ _ hmem, kgw_mgw (W := (fun q => decide (kW2 (c.2.1 6 1) (c.2.1 6 2) (fun l => kstr code cnt (c.2.1 6 0) (c.2.1 6 1) (c.2.1 6 2) (c.2.1 2 l) (c.2.1 3 l) l) (c.2.1 4) q ≤ (c.2.1 6 3)))) hn9 (fun pre l q => kW2_31 _ _ _ _ _ pre l q) (min N (min (4 - p) (n - p))) N 0 _ _ (by rw [hlen]; exact hgi) (by rw [hlen]; exact hp4) (by rw [hlen])]
      rfl
theorem j_play {X : kX} {d : Nat} (hd : 20 ≤ d) (x : Int32) : kJn X d 0 0 Y_X9_play Y_X10_play [(1, .int x)] := by
  intro c w m v E hRl
  obtain ⟨⟨n, p, r, ⟨⟨hn9, hp4, hr6⟩, ⟨hn, hn'⟩, ⟨hp, hp'⟩, ⟨hr, hr'⟩, hz⟩, hL, hS, hP, hRp, cnt, L, code, en, hu, hL20, hc8, hwf, hs1, hm, hq⟩, hK, hT, hW, hC, hH, hF, hV⟩ := id hRl
  have hA := RlA.of hq hL hS hP
  have hse := hA.1
  have hln : ∀ j, j < p → c.2.1 9 j = nI (c.2.1 9 j).toNatClampNeg ∧ (c.2.1 9 j).toNatClampNeg < n := hP.ls hn9
  have hgi : kGi9 n (kuo (c.2.1 9) p) p := kuo_gi hn9 (fun j hj => (hln j hj).2) (fun i j hi hj e => hP.2 i j hi hj (by show c.2.1 9 i = c.2.1 9 j; rw [(hln i hi).1, (hln j hj).1, e])) p (Nat.le_refl p)
  have hpn : p ≤ n := by have := hgi.2; omega
  have htn : ∀ j, j < p → ∃ t : Nat, t < 4 ∧ c.2.1 10 j = nI t := fun j hj => (hP.1 j hj).2.2
  have htm : ∀ j, j < p → ∃ t : Nat, t < 4 ∧ mtp (m.2.1 81) j = nI t := fun j hj => by
    rw [show mtp (m.2.1 81) j = c.2.1 10 j from (hP.1 j hj).2.1]
    exact htn j hj
  have hkp : kp0 (mlp (m.2.1 81)) (mtp (m.2.1 81)) p = kp0 (c.2.1 9) (c.2.1 10) p := kp0_c (fun j hj => ⟨(hP.1 j hj).1.1, (hP.1 j hj).2.1⟩)
  have hku : kuo (mlp (m.2.1 81)) p = kuo (c.2.1 9) p := kuo_c p (fun j hj => (hP.1 j hj).1.1)
  have hlen : (kp0 (c.2.1 9) (c.2.1 10) p).length = p := kp0_len _ _ _
  have hmem : ∀ x, x ∈ kp0 (c.2.1 9) (c.2.1 10) p → x.1 < n := fun x hx => by
    unfold kp0 at hx
    obtain ⟨j, hj, rfl⟩ := List.mem_map.mp hx
    exact (hln j (List.mem_range.mp hj)).2
  have hWW : ∀ q : kTb, (∀ x, x ∈ q → x.1 < n) → (fun q => decide (mW2 (m.2.1 81) en cnt q ≤ (m.2.1 81) 7)) q = (fun q => decide (kW2 (c.2.1 6 1) (c.2.1 6 2) (fun l => kstr code cnt (c.2.1 6 0) (c.2.1 6 1) (c.2.1 6 2) (c.2.1 2 l) (c.2.1 3 l) l) (c.2.1 4) q ≤ (c.2.1 6 3))) q := fun q hq => by
    show decide _ = decide _
    rw [hA.w2 q hq, hse.2.2.2]
  have rg : ∀ {N : Nat}, 1 ≤ N → N ≤ 3 → 1 ≤ (nI N).toInt ∧ (nI N).toInt ≤ 3 := fun {N} h1 h2 => by
    have := nI_toInt (n := N) (by omega)
    omega
  have hM : ∀ w1 : kZ, WP X d 0 0 Y_X10_play 0 _ [] (HP c w1 m v E) _ := fun w1 => wp_depth (by omega) (s_X10_play (X := X) (d := 0) (c := c) (w := w1) (m := m) (v := v) (E := E) hs1 hc8 hm hn' hn9 hp' hp4 (hP.vm hn9) htm x)
  refine wp_mono ?_ (wp_depth (by omega) (s_X9_play (d := 0) hn hn9 rfl hu hL20 hc8 hwf hL.kd hp hp4 (hP.vp hn9) hV.1 hpn htn x))
  rintro r1 t1 (⟨h, rfl, rfl⟩ | ⟨N, h1, h2, rfl, rfl, w1, rfl, hw, hray⟩)
  · refine ⟨_, c, w, E, rfl, rfl, wp_mono ?_ (hM _)⟩
    rintro r2 t2 (⟨g, rfl, rfl⟩ | ⟨N, h1, h2, rfl, -⟩)
    · exact ⟨rfl, m, v, rfl, hRl⟩
    · exact absurd (rg h1 h2) h
  · refine ⟨_, c, w1, E, rfl, rfl, wp_mono ?_ (hM _)⟩
    rintro r2 t2 (⟨g, rfl, rfl⟩ | ⟨N2, g1, g2, e, rfl, v1, rfl⟩)
    · exact absurd (rg h1 h2) g
    · obtain rfl := nI_ij (by omega) (by omega) e
      refine ⟨?_, m, v1, rfl, hRl.w (hV.f (hw.2.1 72 (by omega)) hray)⟩
      rw [hkp, hku]
      refine congrArg (fun z => some (Value.int z)) ?_
      by_cases e0 : min N (min (4 - p) (n - p)) = 0
      · rw [if_pos e0]
        by_cases e4 : p < 4
        · rw [if_pos e4]
          have hall := (kfre_0 n).mp (by have := hgi.2; omega : kfre (kuo (c.2.1 9) p) n = 0)
          exact kmo_no (n := n) (fun l hl => decide_eq_false (hall l hl)) n 0 (by omega)
        · rw [if_neg e4]
      · rw [if_neg e0, if_pos (by omega)]
        refine kmo_43 (n := n) (fun l hl hb => ?_) n 0 (by omega)
        have hb : kb0 (kuo (c.2.1 9) p) l := of_decide_eq_true hb
        have hm2 : ∀ t, ∀ x, x ∈ kp0 (c.2.1 9) (c.2.1 10) p ++ [(l, t)] → x.1 < n := fun t x hx => by
          rcases List.mem_append.mp hx with z | z
          · exact hmem x z
          · rw [List.mem_singleton.mp z]
            exact hl
        have hK := kgw_mgw (W := (fun q => decide (kW2 (c.2.1 6 1) (c.2.1 6 2) (fun l => kstr code cnt (c.2.1 6 0) (c.2.1 6 1) (c.2.1 6 2) (c.2.1 2 l) (c.2.1 3 l) l) (c.2.1 4) q ≤ (c.2.1 6 3)))) hn9 (fun pre l q => kW2_31 _ _ _ _ _ pre l q)
        rw [mgw_c hWW N _ _ _ hmem]
        constructor
        · intro t ht
          show (mgw _ n (N - 1) _ _ false == _) = (_ == _)
          rw [mgw_c hWW (N - 1) _ _ _ (hm2 t), hK (min N (min (4 - p) (n - p))) N 0 _ _ (by rw [hlen]; exact hgi) (by rw [hlen]; exact hp4) (by rw [hlen]), hK (min N (min (4 - p) (n - p)) - 1) (N - 1) 1 (kp0 (c.2.1 9) (c.2.1 10) p ++ [(l, t)]) (kuo (c.2.1 9) p ||| kbit l) (by rw [List.length_append, hlen]; exact hgi.put hn9 hl hb) (by rw [List.length_append, hlen]; show p + 1 ≤ 4; omega) (by rw [List.length_append, hlen]; show _ = min (N - 1) (min (4 - (p + 1)) (n - (p + 1))); omega)]
          rfl
        · show (mgw _ n (N - 1) _ _ false == _) = (mgw _ n (N - 1) _ _ false == _)
          rw [mgw_c hWW (N - 1) _ _ _ (hm2 3), mgw_c hWW (N - 1) _ _ _ (hm2 1), mgw_t (W := (fun q => decide (kW2 (c.2.1 6 1) (c.2.1 6 2) (fun l => kstr code cnt (c.2.1 6 0) (c.2.1 6 1) (c.2.1 6 2) (c.2.1 2 l) (c.2.1 3 l) l) (c.2.1 4) q ≤ (c.2.1 6 3)))) (N - 1) (kp0 (c.2.1 9) (c.2.1 10) p ++ [(l, 1)]) (kp0 (c.2.1 9) (c.2.1 10) p ++ [(l, 3)]) _ _ (by simp) (fun q => kW2_31 _ _ _ _ _ _ l q)]
