/-! ===== call by call: the ageing eye ===== -/
theorem RlA.w2 {n p cnt : Nat} {code : Nat → Int32} {en : Nat → Nat} {A : Nat → Nat → Int32} {s : Nat → Int32} (h : RlA n p cnt code en A s) (pre : kTb) (hp : ∀ q, q ∈ pre → q.1 < n) : mW2 s en cnt pre = kW2 (A 6 1) (A 6 2) (fun l => kstr code cnt (A 6 0) (A 6 1) (A 6 2) (A 2 l) (A 3 l) l) (A 4) pre := by
  unfold mW2 kW2
  rw [mwr_cwr, h.1.2.1, h.1.2.2.1]
  refine congrArg (cwr _ _) (List.map_congr_left (fun q hq => ?_))
  exact Prod.ext (h.2.1 q.1 (hp q hq)).1 (congrArg (fun z => kpush z (nI q.2)) (h.2.1 q.1 (hp q hq)).2)
theorem kyr_c {M M' : Nat → Nat → Prop} [∀ y T, Decidable (M y T)] [∀ y T, Decidable (M' y T)] {P : Nat} (h : ∀ y T, M y T ↔ M' y T) : ∀ k T, kyr M P k T = kyr M' P k T
  | 0, _ => rfl
  | k + 1, T => by
    simp only [kyr]
    rw [show kyr M P k = kyr M' P k from funext (kyr_c h k)]
    by_cases q : M (20 - k) T
    · rw [if_pos q, if_pos ((h _ _).mp q)]
    · rw [if_neg q, if_neg (fun z => q ((h _ _).mpr z))]
theorem ktn_c {tn tn' : Nat → Int32} : ∀ p, (∀ j, j < p → tn' j = tn j) → ktn tn' p = ktn tn p
  | 0, _ => rfl
  | p + 1, h => by
    simp only [ktn]
    rw [ktn_c p (fun j hj => h j (by omega)), h p (by omega)]
theorem kmx_at (F : Nat → Int32) (T : Nat) : ∀ k p m, (kmx F T k p m = m ∨ ∃ i, p ≤ i ∧ i < p + k ∧ kmx F T k p m = F (kqm T i)) ∧ m ≤ kmx F T k p m
  | 0, _, m => ⟨Or.inl rfl, Int32.le_refl m⟩
  | k + 1, p, m => by
    simp only [kmx]
    split
    · rename_i q
      obtain ⟨h1, h2⟩ := kmx_at F T k (p + 1) (F (kqm T p))
      refine ⟨Or.inr ?_, Int32.le_trans (Int32.le_of_lt q) h2⟩
      rcases h1 with h1 | ⟨i, a, b, e⟩
      · exact ⟨p, by omega, by omega, h1⟩
      · exact ⟨i, by omega, by omega, e⟩
    · obtain ⟨h1, h2⟩ := kmx_at F T k (p + 1) m
      refine ⟨?_, h2⟩
      rcases h1 with h1 | ⟨i, a, b, e⟩
      · exact Or.inl h1
      · exact Or.inr ⟨i, by omega, by omega, e⟩
theorem kyl_at (F : Nat → Int32) (P T : Nat) : kyl F P T = F T ∨ ∃ i, i < P ∧ kyl F P T = F (kqm T i) := by
  rcases (kmx_at F T P 0 (F T)).1 with h | ⟨i, -, b, e⟩
  · exact Or.inl h
  · exact Or.inr ⟨i, by omega, e⟩
theorem kpd_at (F : Nat → Int32) (T : Nat) (due : Int32) : ∀ k pl, (kpd F T due k pl = pl ∧ ∀ i, i < k → F (kqm T i) ≠ due) ∨ (kpd F T due k pl < k ∧ F (kqm T (kpd F T due k pl)) = due) ∨ (kpd F T due k pl = pl ∧ ∃ i, i < k ∧ F (kqm T i) = due ∧ False)
  | 0, pl => Or.inl ⟨rfl, fun i hi => absurd hi (by omega)⟩
  | k + 1, pl => by
    simp only [kpd]
    by_cases q : F (kqm T k) = due
    · rw [if_pos q]
      rcases kpd_at F T due k k with ⟨h1, h2⟩ | ⟨h1, h2⟩ | ⟨h1, i, h2, h3, h4⟩
      · rw [h1]
        exact Or.inr (Or.inl ⟨by omega, q⟩)
      · exact Or.inr (Or.inl ⟨by omega, h2⟩)
      · exact absurd h4 id
    · rw [if_neg q]
      rcases kpd_at F T due k pl with ⟨h1, h2⟩ | ⟨h1, h2⟩ | ⟨h1, i, h2, h3, h4⟩
      · refine Or.inl ⟨h1, fun i hi => ?_⟩
        by_cases e : i = k
        · rw [e]; exact q
        · exact h2 i (by omega)
      · exact Or.inr (Or.inl ⟨by omega, h2⟩)
      · exact absurd h4 id
theorem kyr_b {M : Nat → Nat → Prop} [∀ y T, Decidable (M y T)] {P : Nat} : ∀ k T, k ≤ 21 → 0 ≤ (kyr M P k T).toInt ∧ (kyr M P k T).toInt ≤ (k : Int)
  | 0, _, _ => ⟨Int.le_refl 0, Int.le_refl 0⟩
  | k + 1, T, hk => by
    simp only [kyr]
    split
    · have h : 0 ≤ (kyl (kyr M P k) P T).toInt ∧ (kyl (kyr M P k) P T).toInt ≤ (k : Int) := by
        rcases kyl_at (kyr M P k) P T with e | ⟨i, -, e⟩
        · rw [e]; exact kyr_b k T (by omega)
        · rw [e]; exact kyr_b k _ (by omega)
      have e1 : (1 + kyl (kyr M P k) P T).toInt = 1 + (kyl (kyr M P k) P T).toInt := by
        rw [Int32.toInt_add, show (1 : Int32).toInt = 1 from rfl]
        exact Int.bmod_eq_of_le (by omega) (by omega)
      omega
    · refine ⟨Int.le_refl 0, ?_⟩
      show (0 : Int) ≤ _
      omega
theorem kwy_kwm {M : Nat → Nat → Prop} [∀ y T, Decidable (M y T)] {P : Nat} (hP : P ≤ 4) : ∀ (k y T pl : Nat), 1 ≤ y → y + k ≤ 21 → (k : Int) < (kyr M P (21 - (y - 1)) T).toInt → kwy (fun y T => kyr M P (21 - y) T) P k y T pl = kwm (fun y T => kyr M P (21 - y) T) P k y T pl
  | 0, _, _, _, _, _, _ => rfl
  | k + 1, y, T, pl, h1, h2, h3 => by
    have hs : kyr M P (21 - (y - 1)) T = 1 + kyl (kyr M P (21 - y)) P T ∧ (kyr M P (21 - (y - 1)) T).toInt = 1 + (kyl (kyr M P (21 - y)) P T).toInt := by
      rw [show 21 - (y - 1) = (21 - y) + 1 by omega] at h3 ⊢
      simp only [kyr] at h3 ⊢
      split at h3
      · rename_i q
        rw [if_pos q]
        refine ⟨rfl, ?_⟩
        have h : 0 ≤ (kyl (kyr M P (21 - y)) P T).toInt ∧ (kyl (kyr M P (21 - y)) P T).toInt ≤ 21 := by
          rcases kyl_at (kyr M P (21 - y)) P T with e | ⟨i, -, e⟩
          · rw [e]
            have := kyr_b (M := M) (P := P) (21 - y) T (by omega)
            omega
          · rw [e]
            have := kyr_b (M := M) (P := P) (21 - y) (kqm T i) (by omega)
            omega
        rw [Int32.toInt_add, show (1 : Int32).toInt = 1 from rfl]
        exact Int.bmod_eq_of_le (by omega) (by omega)
      · have : (0 : Int32).toInt = 0 := rfl
        omega
    have hd : kyr M P (21 - (y - 1)) T - 1 = kyl (kyr M P (21 - y)) P T := by
      rw [hs.1, Int32.add_comm, Int32.add_sub_cancel]
    simp only [kwy, kwm]
    rw [hd]
    show kwy _ P k (y + 1) (knx T (kpd (kyr M P (21 - y)) T (kyl (kyr M P (21 - y)) P T) P 4)) _ = kwm _ P k (y + 1) (knx T (kpd (kyr M P (21 - y)) T (kyl (kyr M P (21 - y)) P T) P 4)) _
    refine kwy_kwm hP k (y + 1) _ _ (by omega) (by omega) ?_
    rw [show y + 1 - 1 = y by omega]
    have hv : kyr M P (21 - y) (knx T (kpd (kyr M P (21 - y)) T (kyl (kyr M P (21 - y)) P T) P 4)) = kyl (kyr M P (21 - y)) P T := by
      rcases kpd_at (kyr M P (21 - y)) T (kyl (kyr M P (21 - y)) P T) P 4 with ⟨e1, e2⟩ | ⟨e1, e2⟩ | ⟨-, -, -, -, e4⟩
      · rw [e1]
        show kyr M P (21 - y) T = _
        rcases kyl_at (kyr M P (21 - y)) P T with e | ⟨i, hi, e⟩
        · exact e.symm
        · exact absurd e.symm (e2 i hi)
      · unfold knx
        rw [if_pos (by omega)]
        exact e2
      · exact absurd e4 id
    rw [hv]
    omega
theorem ym_iff {n p cnt : Nat} {code : Nat → Int32} {en : Nat → Nat} {c : kZ} {s : Nat → Int32} (hn : n ≤ 9) (hp : p ≤ 4) (hq : ∀ s' : Nat → Int32, (∀ k, 65 ≤ k → k < 300 → s' k = s k) → ∀ (l : Nat) (kd : Int32), kbent (kfac (s' 4) (s' 5) (s' 6) (s' (9 + 4 * l + 1)) l) code kd (s' (9 + 4 * l + 1)) cnt 0 = mbent s' en l kd (s' (9 + 4 * l + 1)) cnt) (hL : RlL n (c.2.1 2) (c.2.1 3) (c.2.1 4) (c.2.1 5) s) (hS : RlS (c.2.1 6) s) (hP : RlP n p (c.2.1 9) (c.2.1 10) s) {ln : Nat → Nat} (hl : ∀ j, j < p → ln j < n) (y T : Nat) : mYM s en cnt p ln y T ↔ cYM c.2.1 code cnt p ln y T := by
  have hA := RlA.set hn hp hq hL hS hP (k := 2) (by omega) (kEY (s 6) y)
  have e6 : s 6 = c.2.1 6 2 := hS.2.2.1.1
  show mW2 (upd s 6 (kEY (s 6) y)) en cnt (ktt ln T p) ≤ s 7 ↔ _
  rw [show mW2 (upd s 6 (kEY (s 6) y)) en cnt (ktt ln T p) = _ from hA.w2 (ktt ln T p) (fun q hq => by
    unfold ktt at hq
    obtain ⟨j, hj, rfl⟩ := List.mem_map.mp hq
    exact hl j (List.mem_range.mp hj)), e6, hS.2.2.2.1]
  exact Iff.rfl
theorem RlP.ls {n p : Nat} {ln tn s : Nat → Int32} (hn : n ≤ 9) (g : RlP n p ln tn s) : ∀ j, j < p → ln j = nI (ln j).toNatClampNeg ∧ (ln j).toNatClampNeg < n := fun j hj => by
  obtain ⟨l, hl, e⟩ := (g.1 j hj).1.2
  rw [e, nI_clamp (by omega)]
  exact ⟨rfl, hl⟩
theorem j_years {X : kX} {d : Nat} (hd : 20 ≤ d) : kJn X d 0 0 Y_X9_years Y_X10_years [] := by
  intro c w m v E hRl
  obtain ⟨⟨n, p, r, ⟨⟨hn9, hp4, hr6⟩, ⟨hn, hn'⟩, ⟨hp, hp'⟩, ⟨hr, hr'⟩, hz⟩, hL, hS, hP, hRp, cnt, L, code, en, hu, hL20, hc8, hwf, hs1, hm, hq⟩, hK, hT, hW, hC, hH, hF, hV⟩ := id hRl
  have hA := RlA.of hq hL hS hP
  have hse := hA.1
  have hln : ∀ j, j < p → c.2.1 9 j = nI (c.2.1 9 j).toNatClampNeg ∧ (c.2.1 9 j).toNatClampNeg < n := hP.ls hn9
  have hlm : ∀ j, j < p → m.2.1 81 (45 + 2 * j) = nI (c.2.1 9 j).toNatClampNeg ∧ (c.2.1 9 j).toNatClampNeg < n := fun j hj => ⟨(hP.1 j hj).1.1.trans (hln j hj).1, (hln j hj).2⟩
  have htn : ∀ j, j < p → ∃ t : Nat, t < 4 ∧ c.2.1 10 j = nI t := fun j hj => (hP.1 j hj).2.2
  have htm : ∀ j, j < p → ∃ t : Nat, t < 4 ∧ m.2.1 81 (45 + 2 * j + 1) = nI t := fun j hj => by
    rw [(hP.1 j hj).2.1]
    exact htn j hj
  have hym := ym_iff hn9 hp4 hq hL hS hP (ln := fun j => (c.2.1 9 j).toNatClampNeg) (fun j hj => (hln j hj).2)
  have htt : ktn (mtp (m.2.1 81)) p = ktn (c.2.1 10) p := ktn_c p (fun j hj => (hP.1 j hj).2.1)
  have hM : ∀ w1 : kZ, WP X d 0 0 Y_X10_years 0 _ [] (HP c w1 m v E) _ := fun w1 => wp_depth (by omega) (s_X10_years (X := X) (d := 0) (c := c) (w := w1) (m := m) (v := v) (E := E) hs1 hc8 hm hn' hn9 hp' hp4 (hP.vm hn9) hlm htm)
  refine wp_mono ?_ (wp_depth (by omega) (s_X9_years (d := 0) hn hn9 rfl hu hL20 hc8 hwf hL.kd hp hp4 (hP.vp hn9) hV.1 hln htn hV.2))
  rintro r1 t1 ⟨rfl, w1, rfl, hw, hray, hz1⟩
  refine ⟨_, c, w1, E, rfl, rfl, wp_mono ?_ (hM _)⟩
  rintro r2 t2 ⟨rfl, v1, rfl⟩
  refine ⟨?_, m, v1, rfl, hRl.w ⟨hray, hz1⟩⟩
  rw [htt]
  exact congrArg (fun z => some (Value.int z)) (kyr_c hym 21 _)
theorem j_turned {X : kX} {d : Nat} (hd : 20 ≤ d) (x : Int32) : kJn X d 0 0 Y_X9_turned Y_X10_turned [(1, .int x)] := by
  intro c w m v E hRl
  obtain ⟨⟨n, p, r, ⟨⟨hn9, hp4, hr6⟩, ⟨hn, hn'⟩, ⟨hp, hp'⟩, ⟨hr, hr'⟩, hz⟩, hL, hS, hP, hRp, cnt, L, code, en, hu, hL20, hc8, hwf, hs1, hm, hq⟩, hK, hT, hW, hC, hH, hF, hV⟩ := id hRl
  have hA := RlA.of hq hL hS hP
  have hse := hA.1
  have hln : ∀ j, j < p → c.2.1 9 j = nI (c.2.1 9 j).toNatClampNeg ∧ (c.2.1 9 j).toNatClampNeg < n := hP.ls hn9
  have hlm : ∀ j, j < p → m.2.1 81 (45 + 2 * j) = nI (c.2.1 9 j).toNatClampNeg ∧ (c.2.1 9 j).toNatClampNeg < n := fun j hj => ⟨(hP.1 j hj).1.1.trans (hln j hj).1, (hln j hj).2⟩
  have htn : ∀ j, j < p → ∃ t : Nat, t < 4 ∧ c.2.1 10 j = nI t := fun j hj => (hP.1 j hj).2.2
  have htm : ∀ j, j < p → ∃ t : Nat, t < 4 ∧ m.2.1 81 (45 + 2 * j + 1) = nI t := fun j hj => by
    rw [(hP.1 j hj).2.1]
    exact htn j hj
  have hym := ym_iff hn9 hp4 hq hL hS hP (ln := fun j => (c.2.1 9 j).toNatClampNeg) (fun j hj => (hln j hj).2)
  have htt : ktn (mtp (m.2.1 81)) p = ktn (c.2.1 10) p := ktn_c p (fun j hj => (hP.1 j hj).2.1)
  have hM : ∀ w1 : kZ, WP X d 0 0 Y_X10_turned 0 _ [] (HP c w1 m v E) _ := fun w1 => wp_depth (by omega) (s_X10_turned (X := X) (d := 0) (c := c) (w := w1) (m := m) (v := v) (E := E) hs1 hc8 hm hn' hn9 hp' hp4 (hP.vm hn9) hlm htm x)
  have rg : ∀ {N : Nat}, 1 ≤ N → N ≤ 20 → 1 ≤ (nI N).toInt ∧ (nI N).toInt ≤ 20 := fun {N} h1 h2 => by
    have := nI_toInt (n := N) (by omega)
    omega
  refine wp_mono ?_ (wp_depth (by omega) (s_X9_turned (d := 0) hn hn9 rfl hu hL20 hc8 hwf hL.kd hp hp4 (hP.vp hn9) hV.1 hln htn hV.2 x))
  rintro r1 t1 (⟨h, rfl, rfl⟩ | ⟨N, h1, h2, rfl, rfl, w1, rfl, hw, hray, hz1⟩)
  · refine ⟨_, c, w, E, rfl, rfl, wp_mono ?_ (hM _)⟩
    rintro r2 t2 (⟨g, rfl, rfl⟩ | ⟨N, h1, h2, rfl, -⟩)
    · exact ⟨rfl, m, v, rfl, hRl⟩
    · exact absurd (rg h1 h2) h
  · refine ⟨_, c, w1, E, rfl, rfl, wp_mono ?_ (hM _)⟩
    rintro r2 t2 (⟨g, rfl, rfl⟩ | ⟨N2, g1, g2, e, rfl, v1, rfl⟩)
    · exact absurd (rg h1 h2) g
    · obtain rfl := nI_ij (by omega) (by omega) e
      refine ⟨?_, m, v1, rfl, hRl.w ⟨hray, hz1⟩⟩
      rw [htt, show kyr (mYM (m.2.1 81) en cnt p fun j => (c.2.1 9 j).toNatClampNeg) p = kyr (cYM c.2.1 code cnt p fun j => (c.2.1 9 j).toNatClampNeg) p from funext fun k => funext fun T => kyr_c hym k T]
      generalize ktn (c.2.1 10) p = T
      by_cases q : kyr (cYM c.2.1 code cnt p fun j => (c.2.1 9 j).toNatClampNeg) p 21 T ≤ nI N
      · rw [if_pos q, if_pos q]
      · rw [if_neg q, if_neg q]
        refine congrArg (fun z => some (Value.int (nI z))) (kwy_kwm hp4 N 1 T 4 (by omega) (by omega) ?_).symm
        have q2 := Int32.lt_iff_toInt_lt.mp (Int32.not_le.mp q)
        rw [nI_toInt (by omega)] at q2
        exact q2
