/-! ===== call by call: pairs ===== -/
def sf3 (nl : Nat) : Nat → Int32 → List kTb
  | 0, _ => [[]]
  | k + 1, u => (List.range' 0 nl).flatMap (fun l => if u >>> (nI l &&& 31) &&& 1 = 1 then [] else (List.range' 0 3).flatMap (fun t => (sf3 nl k (u ||| kbit l)).map (fun q => (l, t) :: q)))
def stpP (W : kTb → Int32) (lim : Int32) (P : Nat → Int32) (q : kTb) : Nat → Int32 := if W q ≤ lim then kjn P ((q.map Prod.fst).getD 0 0) ((q.map Prod.fst).getD 1 0) else P
theorem fold_prj {α β γ : Type} (π : β → γ) {f : β → α → β} {g : γ → α → γ} : ∀ (l : List α) (b : β), (∀ x, x ∈ l → ∀ b, π (f b x) = g (π b) x) → π (l.foldl f b) = l.foldl g (π b)
  | [], _, _ => rfl
  | x :: l, b, h => by
    rw [List.foldl_cons, List.foldl_cons, ← h x List.mem_cons_self]
    exact fold_prj π l _ (fun y hy => h y (List.mem_cons_of_mem _ hy))
theorem tfw_prj {n : Nat} {g e lim : Int32} {st tl : Nat → Int32} : ∀ k (pre : kTb) u wy (a : kAl), (tfw (kwg g e lim st tl 2) n 3 wfc k pre u wy a).2.2.2 = (sf3 n k u).foldl (fun P q => stpP (kW2 g e st tl) lim P (pre ++ q)) a.2.2.2
  | 0, pre, u, wy, a => by
    show (if kW2 g e st tl pre ≤ lim ∧ 2 = 2 then kjn a.2.2.2 ((pre.map Prod.fst).getD 0 0) ((pre.map Prod.fst).getD 1 0) else a.2.2.2) = stpP (kW2 g e st tl) lim a.2.2.2 (pre ++ [])
    rw [List.append_nil]
    unfold stpP
    by_cases q : kW2 g e st tl pre ≤ lim
    · rw [if_pos ⟨q, rfl⟩, if_pos q]
    · rw [if_neg (fun z => q z.1), if_neg q]
  | k + 1, pre, u, wy, a => by
    simp only [tfw, sf3]
    rw [fold_fm]
    refine fold_prj (fun a : kAl => a.2.2.2) _ a (fun l _ a => ?_)
    by_cases q : u >>> (nI l &&& 31) &&& 1 = 1
    · rw [if_pos q, if_pos q]
      rfl
    · rw [if_neg q, if_neg q, fold_fm]
      refine fold_prj (fun a : kAl => a.2.2.2) _ a (fun t _ a => ?_)
      show (tfw (kwg g e lim st tl 2) n 3 wfc k (pre ++ [(l, t)]) (u ||| kbit l) (wfc t wy) a).2.2.2 = _
      rw [tfw_prj k, List.foldl_map]
      refine fold_c _ _ (fun q _ P => ?_)
      rw [List.append_assoc]
      rfl
theorem kb1 {u : Int32} {l : Nat} : ¬ (u >>> (nI l &&& 31) &&& 1 = 1) ↔ kb0 u l := by
  rcases k01 (u >>> (nI l &&& 31)) with q | q
  · exact ⟨fun _ => q, fun _ z => absurd (q.symm.trans z) (by decide)⟩
  · exact ⟨fun z => absurd q z, fun z => absurd (z.symm.trans q) (by decide)⟩
theorem kb0_0 {l : Nat} (h : l < 31) : kb0 0 l := (kb0_iff 0 h).mpr (show (0 : Int32).toBitVec.getLsbD l = false from BitVec.getLsbD_zero)
theorem sf3_mem {n : Nat} (hn : n ≤ 9) (q : kTb) : q ∈ sf3 n 2 0 ↔ ∃ l t m t', l < n ∧ t < 3 ∧ m < n ∧ t' < 3 ∧ l ≠ m ∧ q = [(l, t), (m, t')] := by
  constructor
  · intro h
    simp only [sf3] at h
    obtain ⟨l, hl, h⟩ := List.mem_flatMap.mp h
    have hl := (List.mem_range'_1.mp hl).2
    split at h
    · exact absurd h List.not_mem_nil
    · obtain ⟨t, ht, h⟩ := List.mem_flatMap.mp h
      have ht := (List.mem_range'_1.mp ht).2
      obtain ⟨q2, h2, rfl⟩ := List.mem_map.mp h
      obtain ⟨m, hm, h2⟩ := List.mem_flatMap.mp h2
      have hm := (List.mem_range'_1.mp hm).2
      split at h2
      · exact absurd h2 List.not_mem_nil
      · rename_i z
        obtain ⟨t', ht', h2⟩ := List.mem_flatMap.mp h2
        have ht' := (List.mem_range'_1.mp ht').2
        obtain ⟨q3, h3, rfl⟩ := List.mem_map.mp h2
        rw [List.mem_singleton.mp h3]
        have := ((kb0_or 0 (l := l) (i := m) (by omega) (by omega)).mp (kb1.mp z)).2
        exact ⟨l, t, m, t', by omega, by omega, by omega, by omega, fun e => this e.symm, rfl⟩
  · rintro ⟨l, t, m, t', h1, h2, h3, h4, h5, rfl⟩
    simp only [sf3]
    refine List.mem_flatMap.mpr ⟨l, List.mem_range'_1.mpr ⟨by omega, by omega⟩, ?_⟩
    rw [if_neg (kb1.mpr (kb0_0 (by omega)))]
    refine List.mem_flatMap.mpr ⟨t, List.mem_range'_1.mpr ⟨by omega, by omega⟩, List.mem_map.mpr ⟨[(m, t')], ?_, rfl⟩⟩
    refine List.mem_flatMap.mpr ⟨m, List.mem_range'_1.mpr ⟨by omega, by omega⟩, ?_⟩
    rw [if_neg (kb1.mpr ((kb0_or 0 (by omega) (by omega)).mpr ⟨kb0_0 (by omega), fun e => h5 e.symm⟩))]
    exact List.mem_flatMap.mpr ⟨t', List.mem_range'_1.mpr ⟨by omega, by omega⟩, List.mem_map.mpr ⟨[], List.mem_singleton.mpr rfl, rfl⟩⟩
theorem kjn_bit {P : Nat → Int32} {l m x y : Nat} (hl : l < 31) (hm : m < 31) (hy : y < 31) : (kjn P l m x).toBitVec.getLsbD y = true ↔ (P x).toBitVec.getLsbD y = true ∨ (x = l ∧ y = m) ∨ (x = m ∧ y = l) := by
  unfold kjn
  by_cases e1 : x = m
  · subst e1
    rw [upd_s, Int32.toBitVec_or, BitVec.getLsbD_or, kbit_bv hl, Bool.or_eq_true, decide_eq_true_iff]
    by_cases e2 : x = l
    · subst e2
      rw [upd_s, Int32.toBitVec_or, BitVec.getLsbD_or, kbit_bv hl, Bool.or_eq_true, decide_eq_true_iff]
      constructor
      · rintro ((z | z) | z)
        · exact Or.inl z
        · exact Or.inr (Or.inl ⟨rfl, z.symm⟩)
        · exact Or.inr (Or.inl ⟨rfl, z.symm⟩)
      · rintro (z | ⟨-, z⟩ | ⟨-, z⟩)
        · exact Or.inl (Or.inl z)
        · exact Or.inr z.symm
        · exact Or.inr z.symm
    · rw [upd_n _ _ e2]
      constructor
      · rintro (z | z)
        · exact Or.inl z
        · exact Or.inr (Or.inr ⟨rfl, z.symm⟩)
      · rintro (z | ⟨z, -⟩ | ⟨-, z⟩)
        · exact Or.inl z
        · exact absurd z e2
        · exact Or.inr z.symm
  · rw [upd_n _ _ e1]
    by_cases e2 : x = l
    · subst e2
      rw [upd_s, Int32.toBitVec_or, BitVec.getLsbD_or, kbit_bv hm, Bool.or_eq_true, decide_eq_true_iff]
      constructor
      · rintro (z | z)
        · exact Or.inl z
        · exact Or.inr (Or.inl ⟨rfl, z.symm⟩)
      · rintro (z | ⟨-, z⟩ | ⟨z, -⟩)
        · exact Or.inl z
        · exact Or.inr z.symm
        · exact absurd z e1
    · rw [upd_n _ _ e2]
      exact ⟨Or.inl, fun z => z.elim id (fun z => z.elim (fun z => absurd z.1 e2) (fun z => absurd z.1 e1))⟩
abbrev q0 (q : kTb) : Nat := (q.map Prod.fst).getD 0 0
abbrev q1 (q : kTb) : Nat := (q.map Prod.fst).getD 1 0
theorem stpP_bit {W : kTb → Int32} {lim : Int32} {x y : Nat} (hy : y < 31) : ∀ (L : List kTb) (P : Nat → Int32), (∀ q, q ∈ L → q0 q < 31 ∧ q1 q < 31) → (((L.foldl (fun P q => stpP W lim P q) P) x).toBitVec.getLsbD y = true ↔ (P x).toBitVec.getLsbD y = true ∨ ∃ q, q ∈ L ∧ W q ≤ lim ∧ ((x = q0 q ∧ y = q1 q) ∨ (x = q1 q ∧ y = q0 q)))
  | [], P, _ => ⟨Or.inl, fun z => z.elim id (fun ⟨q, h, _⟩ => absurd h List.not_mem_nil)⟩
  | q :: L, P, hq => by
    rw [List.foldl_cons, stpP_bit hy L _ (fun x hx => hq x (List.mem_cons_of_mem _ hx))]
    have h0 := hq q List.mem_cons_self
    by_cases w : W q ≤ lim
    · rw [show stpP W lim P q = kjn P (q0 q) (q1 q) from if_pos w, kjn_bit h0.1 h0.2 hy]
      constructor
      · rintro ((z | z) | ⟨p, p1, p2⟩)
        · exact Or.inl z
        · exact Or.inr ⟨q, List.mem_cons_self, w, z⟩
        · exact Or.inr ⟨p, List.mem_cons_of_mem _ p1, p2⟩
      · rintro (z | ⟨p, p1, p2, p3⟩)
        · exact Or.inl (Or.inl z)
        · rcases List.mem_cons.mp p1 with e | e
          · subst e
            exact Or.inl (Or.inr p3)
          · exact Or.inr ⟨p, e, p2, p3⟩
    · rw [show stpP W lim P q = P from if_neg w]
      constructor
      · rintro (z | ⟨p, p1, p2⟩)
        · exact Or.inl z
        · exact Or.inr ⟨p, List.mem_cons_of_mem _ p1, p2⟩
      · rintro (z | ⟨p, p1, p2, p3⟩)
        · exact Or.inl z
        · rcases List.mem_cons.mp p1 with e | e
          · subst e
            exact absurd p2 w
          · exact Or.inr ⟨p, e, p2, p3⟩
theorem ipb_ex {s : Nat → Int32} {en : Nat → Nat} {cnt a b : Nat} : ∀ k i, ipb s en cnt a b k i = true ↔ ∃ j, i ≤ j ∧ j < i + k ∧ mW2 s en cnt (iTub a b j) ≤ s 7
  | 0, i => ⟨fun h => absurd (show false = true from h) (by decide), fun h => by obtain ⟨j, h1, h2, -⟩ := h; omega⟩
  | k + 1, i => by
    simp only [ipb]
    rw [Bool.or_eq_true, ipb_ex k (i + 1), decide_eq_true_iff]
    constructor
    · rintro (z | ⟨j, h1, h2, h3⟩)
      · exact ⟨i, by omega, by omega, z⟩
      · exact ⟨j, by omega, by omega, h3⟩
    · rintro ⟨j, h1, h2, h3⟩
      by_cases e : j = i
      · subst e
        exact Or.inl h3
      · exact Or.inr ⟨j, by omega, by omega, h3⟩
def n3 (t : Nat) : Nat := if t = 3 then 1 else t
theorem n3_lt {t : Nat} (h : t < 4) : n3 t < 3 := by
  unfold n3
  split <;> omega
theorem kent_n3 (st tl : Nat → Int32) (l t : Nat) : kent2 st tl (l, t) = kent2 st tl (l, n3 t) := by
  unfold n3
  split
  · rename_i e
    subst e
    exact Prod.ext rfl (kpush_31 (tl l))
  · rfl
theorem kW2_n3 (g e : Int32) (st tl : Nat → Int32) (l t m t' : Nat) : kW2 g e st tl [(l, t), (m, t')] = kW2 g e st tl [(l, n3 t), (m, n3 t')] := by
  unfold kW2
  rw [List.map_cons, List.map_cons, List.map_nil, List.map_cons, List.map_cons, List.map_nil, kent_n3 st tl l t, kent_n3 st tl m t']
theorem ipb_iff {s : Nat → Int32} {en : Nat → Nat} {cnt a b n : Nat} {g e lim : Int32} {st tl : Nat → Int32} (ha : a < n) (hb : b < n) (hW : ∀ p : kTb, (∀ x, x ∈ p → x.1 < n) → mW2 s en cnt p = kW2 g e st tl p) (hlim : s 7 = lim) : ipb s en cnt a b 32 0 = true ↔ ∃ t t', t < 3 ∧ t' < 3 ∧ (kW2 g e st tl [(a, t), (b, t')] ≤ lim ∨ kW2 g e st tl [(b, t), (a, t')] ≤ lim) := by
  have hm : ∀ (x y t t' : Nat), x < n → y < n → ∀ z, z ∈ ([(x, t), (y, t')] : kTb) → z.1 < n := fun x y t t' hx hy z hz => by
    rcases List.mem_cons.mp hz with h | h
    · rw [h]; exact hx
    · rw [List.mem_singleton.mp h]; exact hy
  rw [ipb_ex]
  constructor
  · rintro ⟨j, -, h2, h3⟩
    unfold iTub at h3
    by_cases q : j % 2 = 0
    · rw [if_pos q, hW _ (hm a b _ _ ha hb), hlim, kW2_n3] at h3
      exact ⟨n3 (j / 2 % 4), n3 (j / 8), n3_lt (by omega), n3_lt (by omega), Or.inl h3⟩
    · rw [if_neg q, hW _ (hm b a _ _ hb ha), hlim, kW2_n3] at h3
      exact ⟨n3 (j / 8), n3 (j / 2 % 4), n3_lt (by omega), n3_lt (by omega), Or.inr h3⟩
  · rintro ⟨t, t', h1, h2, h3 | h3⟩
    · refine ⟨2 * t + 8 * t', by omega, by omega, ?_⟩
      unfold iTub
      rw [if_pos (by omega), hW _ (hm a b _ _ ha hb), hlim, show (2 * t + 8 * t') / 2 % 4 = t by omega, show (2 * t + 8 * t') / 8 = t' by omega]
      exact h3
    · refine ⟨2 * t' + 8 * t + 1, by omega, by omega, ?_⟩
      unfold iTub
      rw [if_neg (by omega), hW _ (hm b a _ _ hb ha), hlim, show (2 * t' + 8 * t + 1) / 2 % 4 = t' by omega, show (2 * t' + 8 * t + 1) / 8 = t by omega]
      exact h3
theorem kTs_P {A : Nat → Nat → Int32} {code : Nat → Int32} {cnt n : Nat} {f1 : Nat → Int32} (hn : n ≤ 9) (hf : ∀ j, j < 9 → f1 j = 0) {l m : Nat} (hlm : l < m) (hm : m < n) : kb0 ((kTs A code cnt n 2 f1).2.2.2 l) m ↔ ¬ ∃ t t', t < 3 ∧ t' < 3 ∧ (kW2 (A 6 1) (A 6 2) (fun l => kstr code cnt (A 6 0) (A 6 1) (A 6 2) (A 2 l) (A 3 l) l) (A 4) [(l, t), (m, t')] ≤ A 6 3 ∨ kW2 (A 6 1) (A 6 2) (fun l => kstr code cnt (A 6 0) (A 6 1) (A 6 2) (A 2 l) (A 3 l) l) (A 4) [(m, t), (l, t')] ≤ A 6 3) := by
  rw [kb0_iff _ (by omega), tfw_prj 2 [] 0 1, ← Bool.not_eq_true]
  refine not_congr ?_
  show ((List.foldl (fun P q => stpP _ _ P q) f1 (sf3 n 2 0)) l).toBitVec.getLsbD m = true ↔ _
  rw [stpP_bit (by omega) (sf3 n 2 0) f1 (fun q hq => by
    obtain ⟨x, t, y, t', h1, h2, h3, h4, h5, rfl⟩ := (sf3_mem hn q).mp hq
    exact ⟨by show x < 31; omega, by show y < 31; omega⟩), hf l (by omega)]
  constructor
  · rintro (z | ⟨q, p1, p2, p3⟩)
    · rw [show (0 : Int32).toBitVec.getLsbD m = false from BitVec.getLsbD_zero] at z
      cases z
    · obtain ⟨x, t, y, t', h1, h2, h3, h4, h5, rfl⟩ := (sf3_mem hn q).mp p1
      rcases p3 with ⟨a, b⟩ | ⟨a, b⟩
      · have a : l = x := a
        have b : m = y := b
        subst a b
        exact ⟨t, t', h2, h4, Or.inl p2⟩
      · have a : l = y := a
        have b : m = x := b
        subst a b
        exact ⟨t, t', h2, h4, Or.inr p2⟩
  · rintro ⟨t, t', h1, h2, h3 | h3⟩
    · exact Or.inr ⟨_, (sf3_mem hn _).mpr ⟨l, t, m, t', by omega, h1, hm, h2, by omega, rfl⟩, h3, Or.inl ⟨rfl, rfl⟩⟩
    · exact Or.inr ⟨_, (sf3_mem hn _).mpr ⟨m, t, l, t', hm, h1, by omega, h2, by omega, rfl⟩, h3, Or.inr ⟨rfl, rfl⟩⟩
theorem kpf_all {ap g P f2 : Nat → Int32} {n : Nat} (hn : n ≤ 9) (hG : mG ap g n (2 ^ n)) (hP : ∀ l m, l < m → m < n → (P l >>> (nI m &&& 31) &&& 1 = 0 ↔ ap (9 * l + m) = 0)) (hf : ∀ j, j < 9 → f2 j = -3) (g2 : Nat → Int32) : kpf P n n 0 0 f2 (-1, g2) = (g (2 ^ n - 1), mcp ap g n n 0 (2 ^ n - 1) f2) := by
  have hpos := (k2n_b n hn).2
  have hb : ∀ i, (2 ^ n - 1).testBit i = decide (i < n) := fun i => Nat.testBit_two_pow_sub_one n i
  rw [kpf_eq hn hG rfl hP n 0 (2 ^ n - 1) f2 0 (-1, g2) (by omega) (by omega) (fun i hi => absurd hi (by omega)) (fun i _ hi => ⟨fun _ => hf i (by omega), fun _ => by rw [hb i, decide_eq_true hi]⟩) (Nat.le_refl 0) (by show -1 ≤ (-1 : Int32).toInt; decide) (by show (-1 : Int32).toInt ≤ 30; decide)]
  rw [if_neg (by show ¬ _ ≤ (-1 : Int32).toInt; have : (-1 : Int32).toInt = -1 := rfl; omega), Nat.zero_add, ← ((mG_ok hn hG (2 ^ n - 1) (by omega)).1).1]
theorem j_pairs {X : kX} {d : Nat} (hd : 20 ≤ d) : kJn X d 0 0 Y_X9_pairs Y_X10_pairs [] := by
  intro c w m v E hRl
  obtain ⟨⟨n, p, r, ⟨⟨hn9, hp4, hr6⟩, ⟨hn, hn'⟩, ⟨hp, hp'⟩, ⟨hr, hr'⟩, hz⟩, hL, hS, hP, hRp, cnt, L, code, en, hu, hL20, hc8, hwf, hs1, hm, hq⟩, hK, hT, hW, hC, hH, hF, hV⟩ := id hRl
  have hA := RlA.of hq hL hS hP
  have hse := hA.1
  have hPP : ∀ (ap f1 : Nat → Int32), (∀ j, j < 9 → f1 j = 0) → mAP (m.2.1 81) en cnt ap n 0 n → ∀ l k, l < k → k < n → ((kTs c.2.1 code cnt n 2 f1).2.2.2 l >>> (nI k &&& 31) &&& 1 = 0 ↔ ap (9 * l + k) = 0) := fun ap f1 hf hap l k hlk hk => by
    have h1 := kTs_P (A := c.2.1) (code := code) (cnt := cnt) hn9 hf hlk hk
    have h2 := ipb_iff (s := m.2.1 81) (en := en) (cnt := cnt) (a := l) (b := k) (n := n) (by omega) hk (fun p hp => hA.w2 p hp) hse.2.2.2
    rw [hap l k hlk hk (Or.inl (by omega))]
    refine h1.trans ?_
    rw [← h2]
    by_cases q : ipb (m.2.1 81) en cnt l k 32 0 = true
    · rw [kb_t q]
      exact ⟨fun z => absurd q z, fun z => absurd z (by decide)⟩
    · rw [kb_f q]
      exact ⟨fun _ => rfl, fun _ => q⟩
  have hM : ∀ w1 : kZ, WP X d 0 0 Y_X10_pairs 0 _ [] (HP c w1 m v E) _ := fun w1 => wp_depth (by omega) (s_X10_pairs (X := X) (d := 0) (c := c) (w := w1) (m := m) (v := v) (E := E) hs1 hc8 hm hn' hn9)
  refine wp_mono ?_ (wp_depth (by omega) (s_X9_pairs (d := 0) hn hn9 rfl hu hL20 hc8 hwf hL.kd hp hp4 (hP.vp hn9) hV.1))
  rintro r1 t1 ⟨⟨f1, f2, g2, hf1, hf2, rfl⟩, w1, rfl, hw, hray⟩
  refine ⟨_, c, w1, E, rfl, rfl, wp_mono ?_ (hM _)⟩
  rintro r2 t2 ⟨⟨ap, g, hap, hG, rfl⟩, v1, rfl⟩
  refine ⟨?_, m, v1, rfl, hRl.w (hV.f (hw.2.1 72 (by omega)) hray)⟩
  rw [kpf_all hn9 hG (hPP ap f1 hf1 hap) hf2 g2]
theorem j_mate {X : kX} {d : Nat} (hd : 20 ≤ d) (x : Int32) : kJn X d 0 0 Y_X9_mate Y_X10_mate [(1, .int x)] := by
  intro c w m v E hRl
  obtain ⟨⟨n, p, r, ⟨⟨hn9, hp4, hr6⟩, ⟨hn, hn'⟩, ⟨hp, hp'⟩, ⟨hr, hr'⟩, hz⟩, hL, hS, hP, hRp, cnt, L, code, en, hu, hL20, hc8, hwf, hs1, hm, hq⟩, hK, hT, hW, hC, hH, hF, hV⟩ := id hRl
  have hA := RlA.of hq hL hS hP
  have hse := hA.1
  have hPP : ∀ (ap f1 : Nat → Int32), (∀ j, j < 9 → f1 j = 0) → mAP (m.2.1 81) en cnt ap n 0 n → ∀ l k, l < k → k < n → ((kTs c.2.1 code cnt n 2 f1).2.2.2 l >>> (nI k &&& 31) &&& 1 = 0 ↔ ap (9 * l + k) = 0) := fun ap f1 hf hap l k hlk hk => by
    have h1 := kTs_P (A := c.2.1) (code := code) (cnt := cnt) hn9 hf hlk hk
    have h2 := ipb_iff (s := m.2.1 81) (en := en) (cnt := cnt) (a := l) (b := k) (n := n) (by omega) hk (fun p hp => hA.w2 p hp) hse.2.2.2
    rw [hap l k hlk hk (Or.inl (by omega))]
    refine h1.trans ?_
    rw [← h2]
    by_cases q : ipb (m.2.1 81) en cnt l k 32 0 = true
    · rw [kb_t q]
      exact ⟨fun z => absurd q z, fun z => absurd z (by decide)⟩
    · rw [kb_f q]
      exact ⟨fun _ => rfl, fun _ => q⟩
  have hM : ∀ w1 : kZ, WP X d 0 0 Y_X10_mate 0 _ [] (HP c w1 m v E) _ := fun w1 => wp_depth (by omega) (s_X10_mate (X := X) (d := 0) (c := c) (w := w1) (m := m) (v := v) (E := E) hs1 hc8 hm hn' hn9 x)
  refine wp_mono ?_ (wp_depth (by omega) (s_X9_mate (d := 0) hn hn9 rfl hu hL20 hc8 hwf hL.kd hp hp4 (hP.vp hn9) hV.1 x))
  rintro r1 t1 (⟨h, rfl, rfl⟩ | ⟨l, hl, rfl, ⟨f1, f2, g2, hf1, hf2, rfl⟩, w1, rfl, hw, hray⟩)
  · refine ⟨_, c, w, E, rfl, rfl, wp_mono ?_ (hM _)⟩
    rintro r2 t2 (⟨g, rfl, rfl⟩ | ⟨l, hl, rfl, -⟩)
    · exact ⟨rfl, m, v, rfl, hRl⟩
    · exact absurd (nI_rng hl (by omega)) h
  · refine ⟨_, c, w1, E, rfl, rfl, wp_mono ?_ (hM _)⟩
    rintro r2 t2 (⟨g, rfl, rfl⟩ | ⟨l2, hl2, e, ⟨ap, g, hap, hG, rfl⟩, v1, rfl⟩)
    · exact absurd (nI_rng hl (by omega)) g
    · obtain rfl := nI_ij (by omega) (by omega) e
      refine ⟨?_, m, v1, rfl, hRl.w (hV.f (hw.2.1 72 (by omega)) hray)⟩
      rw [kpf_all hn9 hG (hPP ap f1 hf1 hap) hf2 g2]
      show _ = some (Value.int (mcp ap g n n 0 (2 ^ n - 1) f2 l))
      rw [mcp_mmt n 0 _ _ (by omega), hf2 l (by omega)]
