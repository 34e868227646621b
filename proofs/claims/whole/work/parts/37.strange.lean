/-! ===== a stranger's lens: the class ===== -/
abbrev kbit (j : Nat) : Int32 := 1 <<< (nI j &&& 31)
/-- the set of those below k that are so, by bits -/
def kbs (P : Nat → Prop) [DecidablePred P] : Nat → Int32
  | 0 => 0
  | k + 1 => if P k then kbs P k ||| kbit k else kbs P k
theorem kbs_none {P : Nat → Prop} [DecidablePred P] (h : ∀ j, ¬ P j) : ∀ k, kbs P k = 0 := by
  intro k
  induction k with
  | zero => rfl
  | succ k ih => simp only [kbs]; rw [if_neg (h k)]; exact ih
theorem k99 (j : Nat) : nI j + (-9) + 9 = nI j := by
  rw [Int32.add_assoc]; exact Int32.add_zero _
theorem kb_1 {P : Prop} [Decidable P] : kb P = 1 ↔ P := by
  unfold kb
  split
  · rename_i h; exact ⟨fun _ => h, fun _ => rfl⟩
  · rename_i h; exact ⟨fun q => absurd q (by decide), fun q => absurd q h⟩
theorem kb_0 {P : Prop} [Decidable P] : kb P = 0 ↔ ¬ P := by
  unfold kb
  split
  · rename_i h; exact ⟨fun q => absurd q (by decide), fun q => absurd h q⟩
  · rename_i h; exact ⟨fun _ => h, fun _ => rfl⟩
/-- report r is so with bend j - 9 -/
abbrev cfP (A : Nat → Nat → Int32) (code : Nat → Int32) (cnt p : Nat) (r : Nat) (j : Nat) : Prop := ¬ nI p ≤ A 11 r ∧ (cwr (A 6 1) (A 6 2) (ktub (A 11 r) (nI j + (-9)) (fun l => kstr code cnt (A 6 0) (A 6 1) (A 6 2) (A 2 l) (A 3 l) l) (A 4) (A 9) (A 10) p) ≤ A 6 3 ↔ A 12 r = 1)
/-- but for light and the reports' bends -/
def kSf (w w' : kZ) : Prop := (∀ k, k < 4200 ∨ 4299 < k → w'.1 k = w.1 k) ∧ (∀ k, k < 43 ∨ 49 < k ∧ k ≠ 73 → w'.2.1 k = w.2.1 k) ∧ w'.2.2 = w.2.2
theorem kSf.rf (w : kZ) : kSf w w := ⟨fun _ _ => rfl, fun _ _ => rfl, rfl⟩
theorem kSf.tr {a b c : kZ} (h : kSf a b) (g : kSf b c) : kSf a c := ⟨fun k hk => (g.1 k hk).trans (h.1 k hk), fun k hk => (g.2.1 k hk).trans (h.2.1 k hk), g.2.2.trans h.2.2⟩
theorem kLa.sf {a b : kZ} (h : kLa a b) : kSf a b := ⟨fun k hk => h.1 k (by omega), fun k hk => h.2.1 k (by omega), h.2.2⟩
def kBd (c w : kZ) (code : Nat → Int32) (cnt p n i : Nat) (w' : kZ) : Prop := kLd w' (c.2.1 6 1) (c.2.1 6 2) (c.2.1 6 3) (fun l => kstr code cnt (c.2.1 6 0) (c.2.1 6 1) (c.2.1 6 2) (c.2.1 2 l) (c.2.1 3 l) l) (c.2.1 4) n ∧ kRay w' [] ∧ kSf w w' ∧ ∀ r, r < i → w'.2.1 73 r = kbs (cfP c.2.1 code cnt p r) 19
theorem kBd.lf {c w w' w2 : kZ} {code : Nat → Int32} {cnt p n i : Nat} (h : kBd c w code cnt p n i w') (g : kLf w' w2) (hr : kRay w2 []) : kBd c w code cnt p n i w2 := ⟨h.1.f g, hr, h.2.2.1.tr g.a.sf, fun r hr2 => by rw [g.2.1 73 (by decide)]; exact h.2.2.2 r hr2⟩
theorem kBd.put {c w w' : kZ} {code : Nat → Int32} {cnt p n i : Nat} (h : kBd c w code cnt p n i w') {x : Int32} (hx : x = kbs (cfP c.2.1 code cnt p i) 19) : kBd c w code cnt p n (i + 1) (setA w' 73 (upd (w'.2.1 73) i x)) := by
  obtain ⟨h1, h2, h3, h4⟩ := h
  refine ⟨h1, kRay_0 h2 (fun k9 h9 h8 => by simp only [setA]; rw [updA_n _ _ (by omega)]), h3.tr ⟨fun _ _ => rfl, fun k9 h9 => by simp only [setA]; rw [updA_n _ _ (by omega)], rfl⟩, fun r hr => ?_⟩
  show upd (w'.2.1 73) i x r = _
  by_cases e : r = i
  · subst e; rw [upd_s]; exact hx
  · rw [upd_n _ _ e]; exact h4 r (by omega)
theorem s_nw_throughWith {X : kX} {d : Nat} {c w m v : kZ} {E : kH} {n p : Nat} (hn9 : n ≤ 9) (hp : c.1 107 = nI p) (hp4 : p ≤ 4) (hln : ∀ j, j < p → vp_in (c.2.1 9 j) n) {g e lim : Int32} {st tl : Nat → Int32} (hd : kLd w g e lim st tl n) (hr : kRay w []) (sx bd : Int32) : WP X (d + 2) 0 0 Y_X5_throughWith 0 [(0, .ref 42), (1, .ref 1), (2, .int sx), (3, .int bd)] [] (HP c w m v E) (fun r1 h1 => r1 = none ∧ ∃ w2 : kZ, h1 = HP c w2 m v E ∧ kLf w w2 ∧ kRay w2 [] ∧ kSeen w2 g e lim (ktub sx bd st tl (c.2.1 9) (c.2.1 10) p)) := by
  refine wp_mono ?_ (s_X5_throughWith hp hp4 (vp9 hn9 hln) sx bd hr)
  rintro r1 h1 ⟨rfl, w2, rfl, hf, hr2, he⟩
  refine ⟨rfl, w2, rfl, hf, hr2.len (j := 0), (hd.f hf).1, (hd.f hf).2.2.1, ?_, by rw [ktub_len]; exact he⟩
  rw [hd.2.1, ktub_congr (n := n) (fun l hl => hd.2.2.2.1 l hl) (fun l hl => hd.2.2.2.2 l (by omega)) hln] at hr2
  exact hr2
theorem s_X9_findBends_i {X : kX} {d : Nat} {c w m v : kZ} {E : kH} {n : Nat} (hn : c.1 100 = nI n) (hn9 : n ≤ 9) {rho cnt ka L : Nat} {code : Nat → Int32} (hrr : c.2.2.1 1 = rho) (hR : kRu E rho cnt ka L code) (hL : L < 2 ^ 20) (hc8 : cnt ≤ 8) (hwf : kWF code L cnt 0) (hk : ∀ j, j < n → 1 ≤ (c.2.1 2 j).toInt ∧ (c.2.1 2 j).toInt ≤ 5) {p : Nat} (hp : c.1 107 = nI p) (hp4 : p ≤ 4) (hln : ∀ j, j < p → vp_in (c.2.1 9 j) n) {rr : Nat} (hrp : c.1 110 = nI rr) (hr6 : rr ≤ 6) {i : Nat} (hi : i < rr) {Q : Option Value → kH → Prop} (K : ∀ w2 : kZ, kBd c w code cnt p n i w2 → WP X (d + 8) 0 0 Y_X9_findBends 116 [(3, .int (kbs (cfP c.2.1 code cnt p i) 19)), (1, .int (nI i)), (0, .ref 0)] [] (HP c w2 m v E) Q) : ∀ (k : Nat) (j : Nat) (w' : kZ), (j + k = 19) → (kBd c w code cnt p n i w') → WP X (d + 8) 0 0 Y_X9_findBends 40 [(4, .int (nI j + (-9))), (3, .int (kbs (cfP c.2.1 code cnt p i) j)), (2, .int ((c.2.1 11) (i))), (1, .int (nI (i))), (0, .ref (0))] [] (HP c w' m v E) Q := by
  intro k
  induction k using Nat.strongRecOn with
  | ind k ih =>
    intro j w' hj hB
    refine wp_iload 0 d_X9_findBends_40 rfl ?_
    refine wp_bipush (v0 := 9) d_X9_findBends_42 (by decide) ?_
    refine wp_icmp_gt 116 d_X9_findBends_44 rfl (fun zc44 => ?_) (fun zc44 => ?_)
    · refine wp_sub [(3, .int (kbs (cfP c.2.1 code cnt p i) j)), (1, .int (nI i)), (0, .ref (0))] [1, 3, 4] rfl ?_
      have e7 : kbs (cfP c.2.1 code cnt p i) j = kbs (cfP c.2.1 code cnt p i) 19 := by
        first
        | (have h9 := Int32.lt_iff_toInt_lt.mp zc44; rw [keye j (by omega), show (9 : Int32).toInt = 9 from by decide] at h9; obtain rfl : j = 19 := (by omega); rfl)
        | rw [kbs_none (fun j9 q9 => q9.1 zc55), kbs_none (fun j9 q9 => q9.1 zc55)]
      rw [e7]
      exact K w' hB
    · have h9 := Int32.le_iff_toInt_le.mp (Int32.not_lt.mp zc44)
      rw [keye j (by omega), show (9 : Int32).toInt = 9 from by decide] at h9
      refine wp_iload_n 2 d_X9_findBends_47 rfl rfl ?_
      refine wp_aload_n 4 d_X9_findBends_48 rfl rfl ?_
      refine wp_getfield (v := .ref (1)) d_X9_findBends_49 gf_X9_12 (hp_0 _ _ _ _ _) rfl ?_
      refine wp_getfield (v := .int (nI (p))) d_X9_findBends_52 gf_X9_191 (hp_1 _ _ _ _ _) (congrArg (fun z => some (Value.int z)) hp) ?_
      refine wp_icmp_ge 116 d_X9_findBends_55 rfl (fun zc55 => ?_) (fun zc55 => ?_)
      · refine wp_sub [(3, .int (kbs (cfP c.2.1 code cnt p i) j)), (1, .int (nI i)), (0, .ref (0))] [1, 3, 4] rfl ?_
        have e7 : kbs (cfP c.2.1 code cnt p i) j = kbs (cfP c.2.1 code cnt p i) 19 := by
          first
          | (have h9 := Int32.lt_iff_toInt_lt.mp zc44; rw [keye j (by omega), show (9 : Int32).toInt = 9 from by decide] at h9; obtain rfl : j = 19 := (by omega); rfl)
          | rw [kbs_none (fun j9 q9 => q9.1 zc55), kbs_none (fun j9 q9 => q9.1 zc55)]
        rw [e7]
        exact K w' hB
      · refine wp_aload_n 4 d_X9_findBends_58 rfl rfl ?_
        refine wp_getfield (v := .ref (42)) d_X9_findBends_59 gf_X9_32 (hp_0 _ _ _ _ _) rfl ?_
        refine wp_aload_n 4 d_X9_findBends_62 rfl rfl ?_
        refine wp_getfield (v := .ref (1)) d_X9_findBends_63 gf_X9_12 (hp_0 _ _ _ _ _) rfl ?_
        refine wp_iload_n 2 d_X9_findBends_66 rfl rfl ?_
        refine wp_iload 0 d_X9_findBends_67 rfl ?_
        refine wp_virtual0 (As := [.ref (1), .int ((c.2.1 11) (i)), .int (nI j + (-9))]) d_X9_findBends_69 lk_X9_377 mv_X5_throughWith in_X5_throughWith se_X5_throughWith (Nat.le_of_ble_eq_true rfl) (Nat.le_of_ble_eq_true rfl) (hp_42 _ _ _ _ _) rfl (s_nw_throughWith (w := w') hn9 hp hp4 hln hB.1 hB.2.1 ((c.2.1 11) (i)) (nI j + (-9))) (fun v69 h69 q69 => ?_)
        obtain ⟨rfl, w2, rfl, hf2, hr2, hs2⟩ := q69
        have hB2 := hB.lf hf2 hr2
        have he2 := hs2.2.2.2
        rw [ktub_len] at he2
        have hW : (kabs (w2.2.1 46 (p + 1)) + kabs (w2.2.1 48 (p + 1)) ≤ w2.1 4205) ↔ cwr (c.2.1 6 1) (c.2.1 6 2) (ktub (c.2.1 11 i) (nI j + (-9)) (fun l => kstr code cnt (c.2.1 6 0) (c.2.1 6 1) (c.2.1 6 2) (c.2.1 2 l) (c.2.1 3 l) l) (c.2.1 4) (c.2.1 9) (c.2.1 10) p) ≤ c.2.1 6 3 := by
          have hA := hs2.a
          have hB := hs2.b
          rw [ktub_len] at hA hB
          rw [hA, hB, hs2.2.1]
          rfl
        show WP _ _ _ _ _ 72 _ [] (HP c w2 m v E) _
        refine wp_aload_n 4 d_X9_findBends_72 rfl rfl ?_
        refine wp_getfield (v := .ref (42)) d_X9_findBends_73 gf_X9_32 (hp_0 _ _ _ _ _) rfl ?_
        refine wp_vrt_i (As := []) (x0 := kb (kabs (w2.2.1 46 (p + 1)) + kabs (w2.2.1 48 (p + 1)) ≤ w2.1 4205)) (h1 := HP c w2 m v E) d_X9_findBends_76 lk_X9_184 mv_X5_isMended in_X5_isMended se_X5_isMended (Nat.le_of_ble_eq_true rfl) (Nat.le_of_ble_eq_true rfl) (hp_42 _ _ _ _ _) rfl (s_X5_isMended (w := w2) he2 (by omega)) ?_
        refine wp_aload_n 4 d_X9_findBends_79 rfl rfl ?_
        refine wp_getfield (v := .ref (1)) d_X9_findBends_80 gf_X9_12 (hp_0 _ _ _ _ _) rfl ?_
        refine wp_getfield (v := .ref (12)) d_X9_findBends_83 gf_X9_267 (hp_1 _ _ _ _ _) rfl ?_
        refine wp_iload_n 3 d_X9_findBends_86 rfl rfl ?_
        refine wp_iaload (v := (c.2.1 12) (i)) d_X9_findBends_87 (hp_12 _ _ _ _ _) (vp_in_nI (by omega) (by omega)) (congrArg ((c.2.1 12)) (nI_clamp (by omega))) ?_
        refine wp_iconst (v0 := 1) d_X9_findBends_88 rfl ?_
        refine wp_icmp_ne 96 d_X9_findBends_89 rfl (fun zc89 => ?_) (fun zc89 => ?_)
        · refine wp_iconst (v0 := 0) d_X9_findBends_96 rfl ?_
          refine wp_icmp_ne 110 d_X9_findBends_97 rfl (fun zc97 => ?_) (fun zc97 => ?_)
          · refine wp_iinc (v0 := (nI j + (-9)) + (1)) [(4, .int ((nI j + (-9)) + (1))), (3, .int (kbs (cfP c.2.1 code cnt p i) j)), (2, .int ((c.2.1 11) (i))), (1, .int (nI (i))), (0, .ref (0))] 0 d_X9_findBends_110 rfl rfl (Nat.le_of_ble_eq_true rfl) rfl ?_
            refine wp_goto 40 d_X9_findBends_113 rfl ?_
            obtain ⟨k1, rfl⟩ : ∃ k1, k = k1 + 1 := ⟨k - 1, by omega⟩
            refine wp_sub [(4, .int ((nI j + (-9)) + (1))), (3, .int (kbs (cfP c.2.1 code cnt p i) j)), (2, .int ((c.2.1 11) (i))), (1, .int (nI (i))), (0, .ref (0))] [0, 1, 2, 3, 4] rfl ?_
            have e8 : nI j + (-9) + 1 = nI (j + 1) + (-9) := by rw [← nI_add j 1, Int32.add_assoc, Int32.add_assoc]; rfl
            have hq : (cfP c.2.1 code cnt p i) j ↔ (kabs (w2.2.1 46 (p + 1)) + kabs (w2.2.1 48 (p + 1)) ≤ w2.1 4205 ↔ c.2.1 12 i = 1) := by
              rw [hW]
              exact ⟨fun q => q.2, fun q => ⟨zc55, q⟩⟩
            have e9 : kbs (cfP c.2.1 code cnt p i) (j + 1) = kbs (cfP c.2.1 code cnt p i) j := by
              simp only [kbs]
              first
              | exact if_neg (fun z9 => zc97 (kb_1.mpr ((hq.mp z9).mpr zc89)))
              | exact if_neg (fun z9 => zc97 (kb_0.mpr (fun z8 => zc89 ((hq.mp z9).mp z8))))
            rw [e8, ← e9]
            exact ih k1 (by omega) (j + 1) _ (by omega) hB2
          · refine wp_iload_n 1 d_X9_findBends_100 rfl rfl ?_
            refine wp_iconst (v0 := 1) d_X9_findBends_101 rfl ?_
            refine wp_iload 0 d_X9_findBends_102 rfl ?_
            refine wp_bipush (v0 := 9) d_X9_findBends_104 (by decide) ?_
            refine wp_iadd d_X9_findBends_106 ?_
            refine wp_v (v0 := nI j) (k99 j) ?_
            refine wp_ishl d_X9_findBends_107 ?_
            refine wp_ior d_X9_findBends_108 ?_
            refine wp_istore_n [(3, .int ((kbs (cfP c.2.1 code cnt p i) j) ||| ((1) <<< ((nI (j)) &&& 31)))), (4, .int (nI j + (-9))), (2, .int ((c.2.1 11) (i))), (1, .int (nI (i))), (0, .ref (0))] d_X9_findBends_109 rfl (Nat.le_of_ble_eq_true rfl) rfl ?_
            refine wp_iinc (v0 := (nI j + (-9)) + (1)) [(4, .int ((nI j + (-9)) + (1))), (3, .int ((kbs (cfP c.2.1 code cnt p i) j) ||| ((1) <<< ((nI (j)) &&& 31)))), (2, .int ((c.2.1 11) (i))), (1, .int (nI (i))), (0, .ref (0))] 1 d_X9_findBends_110 rfl rfl (Nat.le_of_ble_eq_true rfl) rfl ?_
            refine wp_goto 40 d_X9_findBends_113 rfl ?_
            obtain ⟨k1, rfl⟩ : ∃ k1, k = k1 + 1 := ⟨k - 1, by omega⟩
            refine wp_sub [(4, .int ((nI j + (-9)) + (1))), (3, .int ((kbs (cfP c.2.1 code cnt p i) j) ||| ((1) <<< ((nI (j)) &&& 31)))), (2, .int ((c.2.1 11) (i))), (1, .int (nI (i))), (0, .ref (0))] [0, 1, 2, 3, 4] rfl ?_
            have e8 : nI j + (-9) + 1 = nI (j + 1) + (-9) := by rw [← nI_add j 1, Int32.add_assoc, Int32.add_assoc]; rfl
            have hq : (cfP c.2.1 code cnt p i) j ↔ (kabs (w2.2.1 46 (p + 1)) + kabs (w2.2.1 48 (p + 1)) ≤ w2.1 4205 ↔ c.2.1 12 i = 1) := by
              rw [hW]
              exact ⟨fun q => q.2, fun q => ⟨zc55, q⟩⟩
            have e9 : kbs (cfP c.2.1 code cnt p i) (j + 1) = (kbs (cfP c.2.1 code cnt p i) j) ||| ((1) <<< ((nI (j)) &&& 31)) := by
              simp only [kbs]
              first
              | exact if_pos (hq.mpr ⟨fun _ => Classical.not_not.mp zc89, fun _ => kb_1.mp zc97⟩)
              | exact if_pos (hq.mpr ⟨fun z9 => absurd z9 (kb_0.mp zc97), fun z9 => absurd z9 zc89⟩)
              | exact if_pos (hq.mpr ⟨fun _ => zc89, fun _ => kb_1.mp zc97⟩)
            rw [e8, ← e9]
            exact ih k1 (by omega) (j + 1) _ (by omega) hB2
        · refine wp_iconst (v0 := 1) d_X9_findBends_92 rfl ?_
          refine wp_goto 97 d_X9_findBends_93 rfl ?_
          refine wp_icmp_ne 110 d_X9_findBends_97 rfl (fun zc97 => ?_) (fun zc97 => ?_)
          · refine wp_iinc (v0 := (nI j + (-9)) + (1)) [(4, .int ((nI j + (-9)) + (1))), (3, .int (kbs (cfP c.2.1 code cnt p i) j)), (2, .int ((c.2.1 11) (i))), (1, .int (nI (i))), (0, .ref (0))] 0 d_X9_findBends_110 rfl rfl (Nat.le_of_ble_eq_true rfl) rfl ?_
            refine wp_goto 40 d_X9_findBends_113 rfl ?_
            obtain ⟨k1, rfl⟩ : ∃ k1, k = k1 + 1 := ⟨k - 1, by omega⟩
            refine wp_sub [(4, .int ((nI j + (-9)) + (1))), (3, .int (kbs (cfP c.2.1 code cnt p i) j)), (2, .int ((c.2.1 11) (i))), (1, .int (nI (i))), (0, .ref (0))] [0, 1, 2, 3, 4] rfl ?_
            have e8 : nI j + (-9) + 1 = nI (j + 1) + (-9) := by rw [← nI_add j 1, Int32.add_assoc, Int32.add_assoc]; rfl
            have hq : (cfP c.2.1 code cnt p i) j ↔ (kabs (w2.2.1 46 (p + 1)) + kabs (w2.2.1 48 (p + 1)) ≤ w2.1 4205 ↔ c.2.1 12 i = 1) := by
              rw [hW]
              exact ⟨fun q => q.2, fun q => ⟨zc55, q⟩⟩
            have e9 : kbs (cfP c.2.1 code cnt p i) (j + 1) = kbs (cfP c.2.1 code cnt p i) j := by
              simp only [kbs]
              first
              | exact if_neg (fun z9 => zc97 (kb_1.mpr ((hq.mp z9).mpr zc89)))
              | exact if_neg (fun z9 => zc97 (kb_0.mpr (fun z8 => zc89 ((hq.mp z9).mp z8))))
            rw [e8, ← e9]
            exact ih k1 (by omega) (j + 1) _ (by omega) hB2
          · refine wp_iload_n 1 d_X9_findBends_100 rfl rfl ?_
            refine wp_iconst (v0 := 1) d_X9_findBends_101 rfl ?_
            refine wp_iload 0 d_X9_findBends_102 rfl ?_
            refine wp_bipush (v0 := 9) d_X9_findBends_104 (by decide) ?_
            refine wp_iadd d_X9_findBends_106 ?_
            refine wp_v (v0 := nI j) (k99 j) ?_
            refine wp_ishl d_X9_findBends_107 ?_
            refine wp_ior d_X9_findBends_108 ?_
            refine wp_istore_n [(3, .int ((kbs (cfP c.2.1 code cnt p i) j) ||| ((1) <<< ((nI (j)) &&& 31)))), (4, .int (nI j + (-9))), (2, .int ((c.2.1 11) (i))), (1, .int (nI (i))), (0, .ref (0))] d_X9_findBends_109 rfl (Nat.le_of_ble_eq_true rfl) rfl ?_
            refine wp_iinc (v0 := (nI j + (-9)) + (1)) [(4, .int ((nI j + (-9)) + (1))), (3, .int ((kbs (cfP c.2.1 code cnt p i) j) ||| ((1) <<< ((nI (j)) &&& 31)))), (2, .int ((c.2.1 11) (i))), (1, .int (nI (i))), (0, .ref (0))] 1 d_X9_findBends_110 rfl rfl (Nat.le_of_ble_eq_true rfl) rfl ?_
            refine wp_goto 40 d_X9_findBends_113 rfl ?_
            obtain ⟨k1, rfl⟩ : ∃ k1, k = k1 + 1 := ⟨k - 1, by omega⟩
            refine wp_sub [(4, .int ((nI j + (-9)) + (1))), (3, .int ((kbs (cfP c.2.1 code cnt p i) j) ||| ((1) <<< ((nI (j)) &&& 31)))), (2, .int ((c.2.1 11) (i))), (1, .int (nI (i))), (0, .ref (0))] [0, 1, 2, 3, 4] rfl ?_
            have e8 : nI j + (-9) + 1 = nI (j + 1) + (-9) := by rw [← nI_add j 1, Int32.add_assoc, Int32.add_assoc]; rfl
            have hq : (cfP c.2.1 code cnt p i) j ↔ (kabs (w2.2.1 46 (p + 1)) + kabs (w2.2.1 48 (p + 1)) ≤ w2.1 4205 ↔ c.2.1 12 i = 1) := by
              rw [hW]
              exact ⟨fun q => q.2, fun q => ⟨zc55, q⟩⟩
            have e9 : kbs (cfP c.2.1 code cnt p i) (j + 1) = (kbs (cfP c.2.1 code cnt p i) j) ||| ((1) <<< ((nI (j)) &&& 31)) := by
              simp only [kbs]
              first
              | exact if_pos (hq.mpr ⟨fun _ => Classical.not_not.mp zc89, fun _ => kb_1.mp zc97⟩)
              | exact if_pos (hq.mpr ⟨fun z9 => absurd z9 (kb_0.mp zc97), fun z9 => absurd z9 zc89⟩)
              | exact if_pos (hq.mpr ⟨fun _ => zc89, fun _ => kb_1.mp zc97⟩)
            rw [e8, ← e9]
            exact ih k1 (by omega) (j + 1) _ (by omega) hB2
theorem s_X9_findBends_o {X : kX} {d : Nat} {c w m v : kZ} {E : kH} {n : Nat} (hn : c.1 100 = nI n) (hn9 : n ≤ 9) {rho cnt ka L : Nat} {code : Nat → Int32} (hrr : c.2.2.1 1 = rho) (hR : kRu E rho cnt ka L code) (hL : L < 2 ^ 20) (hc8 : cnt ≤ 8) (hwf : kWF code L cnt 0) (hk : ∀ j, j < n → 1 ≤ (c.2.1 2 j).toInt ∧ (c.2.1 2 j).toInt ≤ 5) {p : Nat} (hp : c.1 107 = nI p) (hp4 : p ≤ 4) (hln : ∀ j, j < p → vp_in (c.2.1 9 j) n) {rr : Nat} (hrp : c.1 110 = nI rr) (hr6 : rr ≤ 6) : ∀ (k : Nat) (i : Nat) (w' : kZ), (i + k = rr) → (kBd c w code cnt p n i w') → WP X (d + 8) 0 0 Y_X9_findBends 13 [(1, .int (nI (i))), (0, .ref (0))] [] (HP c w' m v E) (fun r1 h1 => r1 = none ∧ ∃ w1 : kZ, h1 = HP c w1 m v E ∧ kBd c w code cnt p n rr w1) := by
  intro k
  induction k using Nat.strongRecOn with
  | ind k ih =>
    intro i w' hi hB
    refine wp_iload_n 0 d_X9_findBends_13 rfl rfl ?_
    refine wp_aload_n 1 d_X9_findBends_14 rfl rfl ?_
    refine wp_getfield (v := .ref (1)) d_X9_findBends_15 gf_X9_12 (hp_0 _ _ _ _ _) rfl ?_
    refine wp_getfield (v := .int (nI (rr))) d_X9_findBends_18 gf_X9_261 (hp_1 _ _ _ _ _) (congrArg (fun z => some (Value.int z)) hrp) ?_
    refine wp_ncmp_ge (a := i) (b := rr) 129 d_X9_findBends_21 rfl (by omega) (by omega) (fun zc21 => ?_) (fun zc21 => ?_)
    · refine wp_vret d_X9_findBends_129 rfl ?_
      obtain rfl : k = 0 := by omega
      obtain rfl : i = rr := by omega
      exact ⟨rfl, w', rfl, hB⟩
    · refine wp_aload_n 1 d_X9_findBends_24 rfl rfl ?_
      refine wp_getfield (v := .ref (1)) d_X9_findBends_25 gf_X9_12 (hp_0 _ _ _ _ _) rfl ?_
      refine wp_getfield (v := .ref (11)) d_X9_findBends_28 gf_X9_264 (hp_1 _ _ _ _ _) rfl ?_
      refine wp_iload_n 0 d_X9_findBends_31 rfl rfl ?_
      refine wp_iaload (v := (c.2.1 11) (i)) d_X9_findBends_32 (hp_11 _ _ _ _ _) (vp_in_nI (by omega) (by omega)) (congrArg ((c.2.1 11)) (nI_clamp (by omega))) ?_
      refine wp_istore_n [(2, .int ((c.2.1 11) (i))), (1, .int (nI (i))), (0, .ref (0))] d_X9_findBends_33 rfl (Nat.le_of_ble_eq_true rfl) rfl ?_
      refine wp_iconst (v0 := 0) d_X9_findBends_34 rfl ?_
      refine wp_istore_n [(3, .int (0)), (2, .int ((c.2.1 11) (i))), (1, .int (nI (i))), (0, .ref (0))] d_X9_findBends_35 rfl (Nat.le_of_ble_eq_true rfl) rfl ?_
      refine wp_bipush (v0 := -9) d_X9_findBends_36 (by decide) ?_
      refine wp_istore [(4, .int ((-9))), (3, .int (0)), (2, .int ((c.2.1 11) (i))), (1, .int (nI (i))), (0, .ref (0))] d_X9_findBends_38 (Nat.le_of_ble_eq_true rfl) rfl ?_
      refine wp_sub [(4, .int ((-9))), (3, .int (0)), (2, .int ((c.2.1 11) (i))), (1, .int (nI (i))), (0, .ref (0))] [0, 1, 2, 3, 4] rfl ?_
      rw [show (-9 : Int32) = nI 0 + (-9) by decide]
      refine s_X9_findBends_i hn hn9 hrr hR hL hc8 hwf hk hp hp4 hln hrp hr6 (i := i) (by omega) (fun w2 hB2 => ?_) 19 0 w' (by omega) hB
      refine wp_aload_n 2 d_X9_findBends_116 rfl rfl ?_
      refine wp_getfield (v := .ref (73)) d_X9_findBends_117 gf_X9_59 (hp_0 _ _ _ _ _) rfl ?_
      refine wp_iload_n 1 d_X9_findBends_120 rfl rfl ?_
      refine wp_iload_n 0 d_X9_findBends_121 rfl rfl ?_
      refine wp_iastore (h' := HP c (setA w2 73 (upd (w2.2.1 73) (i) (kbs (cfP c.2.1 code cnt p i) 19))) m v E) d_X9_findBends_122 (hp_73 _ _ _ _ _) (vp_in_nI (by omega) (by omega)) (by rw [nI_clamp (by omega)]; exact (hpa_73 _ _ _ _ _ _)) ?_
      refine wp_iinc (v0 := nI ((i) + 1)) [(1, .int (nI ((i) + 1))), (3, .int (kbs (cfP c.2.1 code cnt p i) 19)), (0, .ref (0))] 1 d_X9_findBends_123 rfl (nI_add (i) 1) (Nat.le_of_ble_eq_true rfl) rfl ?_
      refine wp_goto 13 d_X9_findBends_126 rfl ?_
      obtain ⟨k1, rfl⟩ : ∃ k1, k = k1 + 1 := ⟨k - 1, by omega⟩
      refine wp_sub [(1, .int (nI ((i) + 1))), (0, .ref (0))] [0, 2] rfl ?_
      exact ih k1 (by omega) (i + 1) _ (by omega) (hB2.put rfl)
theorem s_X9_findBends {X : kX} {d : Nat} {c w m v : kZ} {E : kH} {n : Nat} (hn : c.1 100 = nI n) (hn9 : n ≤ 9) {rho cnt ka L : Nat} {code : Nat → Int32} (hrr : c.2.2.1 1 = rho) (hR : kRu E rho cnt ka L code) (hL : L < 2 ^ 20) (hc8 : cnt ≤ 8) (hwf : kWF code L cnt 0) (hk : ∀ j, j < n → 1 ≤ (c.2.1 2 j).toInt ∧ (c.2.1 2 j).toInt ≤ 5) {p : Nat} (hp : c.1 107 = nI p) (hp4 : p ≤ 4) (hln : ∀ j, j < p → vp_in (c.2.1 9 j) n) (hr0 : kRay w []) {rr : Nat} (hrp : c.1 110 = nI rr) (hr6 : rr ≤ 6) : WP X (d + 8) 0 0 Y_X9_findBends 0 [(0, .ref (0))] [] (HP c w m v E) (fun r1 h1 => r1 = none ∧ ∃ w1 : kZ, h1 = HP c w1 m v E ∧ kBd c w code cnt p n rr w1) := by
  refine wp_aload_n 0 d_X9_findBends_0 rfl rfl ?_
  refine wp_getfield (v := .ref (42)) d_X9_findBends_1 gf_X9_32 (hp_0 _ _ _ _ _) rfl ?_
  refine wp_aload_n 0 d_X9_findBends_4 rfl rfl ?_
  refine wp_getfield (v := .ref (1)) d_X9_findBends_5 gf_X9_12 (hp_0 _ _ _ _ _) rfl ?_
  refine wp_virtual0 (As := [.ref (1)]) d_X9_findBends_8 lk_X9_121 mv_X5_load in_X5_load se_X5_load (Nat.le_of_ble_eq_true rfl) (Nat.le_of_ble_eq_true rfl) (hp_42 _ _ _ _ _) rfl (s_X5_load hn hn9 hrr hR hL hc8 hwf hk) (fun v8 h8 q8 => ?_)
  obtain ⟨rfl, w1, rfl, hl1, hd1⟩ := q8
  have hB : kBd c w code cnt p n 0 w1 := ⟨hd1, kRay_0 hr0 (fun k9 h9 h8 => by rw [hl1.2.1 k9 (by omega)]), hl1.a.sf, fun r hr => absurd hr (by omega)⟩
  show WP _ _ _ _ _ 11 _ [] (HP c w1 m v E) _
  refine wp_iconst (v0 := 0) d_X9_findBends_11 rfl ?_
  refine wp_istore_n [(1, .int (0)), (0, .ref (0))] d_X9_findBends_12 rfl (Nat.le_of_ble_eq_true rfl) rfl ?_
  refine wp_sub [(1, .int (0)), (0, .ref (0))] [0, 1] rfl ?_
  exact s_X9_findBends_o hn hn9 hrr hR hL hc8 hwf hk hp hp4 hln hrp hr6 rr 0 w1 (by omega) hB
/-- bends that all reports but one have in common -/
def kbf (F : Nat → Int32) (x : Int32) : Nat → Nat → Int32 → Int32
  | 0, _, s => s
  | k + 1, i, s => kbf F x k (i + 1) (if nI i = x then s else s &&& F i)
def klb (s : Int32) : Nat → Nat → Int32
  | 0, j => nI j + (-9)
  | k + 1, j => if s >>> (nI j &&& 31) &&& 1 = 0 then klb s k (j + 1) else nI j + (-9)
def kgb (s : Int32) : Nat → Int32
  | 0 => nI 0 + (-9)
  | j + 1 => if s >>> (nI (j + 1) &&& 31) &&& 1 = 0 then kgb s j else nI (j + 1) + (-9)
def kp1 (x : Int32) : Int32 := x - ((x.toUInt32 >>> ((1 : Int32).toUInt32 &&& Int32.toUInt32 31)).toInt32 &&& 1431655765)
def kp2 (x : Int32) : Int32 := (x &&& 858993459) + ((x.toUInt32 >>> ((2 : Int32).toUInt32 &&& Int32.toUInt32 31)).toInt32 &&& 858993459)
def kp3 (x : Int32) : Int32 := (x + (x.toUInt32 >>> ((4 : Int32).toUInt32 &&& Int32.toUInt32 31)).toInt32) &&& 252645135
def kp4 (x : Int32) : Int32 := x + (x.toUInt32 >>> ((8 : Int32).toUInt32 &&& Int32.toUInt32 31)).toInt32
def kp5 (x : Int32) : Int32 := x + nI (kz16 x)
/-- how many bits, as bitCount() finds it -/
def kpop (x : Int32) : Int32 := kp5 (kp4 (kp3 (kp2 (kp1 x)))) &&& 63
theorem s_X9_bendsThatFit_l {X : kX} {d : Nat} {c w m v : kZ} {E : kH} {rr : Nat} (hrp : c.1 110 = nI rr) (hr6 : rr ≤ 6) (x : Int32) : ∀ (k : Nat) (i : Nat) (z : Int32), (i + k = rr) → WP X d 0 0 Y_X9_bendsThatFit 6 [(3, .int (nI (i))), (2, .int (z)), (0, .ref (0)), (1, .int (x))] [] (HP c w m v E) (kR (some (.int (kbf (w.2.1 73) x k i z))) (HP c w m v E)) := by
  intro k
  induction k using Nat.strongRecOn with
  | ind k ih =>
    intro i z hi
    refine wp_iload_n 0 d_X9_bendsThatFit_6 rfl rfl ?_
    refine wp_aload_n 2 d_X9_bendsThatFit_7 rfl rfl ?_
    refine wp_getfield (v := .ref (1)) d_X9_bendsThatFit_8 gf_X9_12 (hp_0 _ _ _ _ _) rfl ?_
    refine wp_getfield (v := .int (nI (rr))) d_X9_bendsThatFit_11 gf_X9_261 (hp_1 _ _ _ _ _) (congrArg (fun z => some (Value.int z)) hrp) ?_
    refine wp_ncmp_ge (a := i) (b := rr) 37 d_X9_bendsThatFit_14 rfl (by omega) (by omega) (fun zc14 => ?_) (fun zc14 => ?_)
    · refine wp_iload_n 1 d_X9_bendsThatFit_37 rfl rfl ?_
      refine wp_reti d_X9_bendsThatFit_38 rfl ?_
      obtain rfl : k = 0 := by omega
      exact kR_i rfl rfl
    · refine wp_iload_n 0 d_X9_bendsThatFit_17 rfl rfl ?_
      refine wp_iload_n 3 d_X9_bendsThatFit_18 rfl rfl ?_
      refine wp_icmp_eq 31 d_X9_bendsThatFit_19 rfl (fun zc19 => ?_) (fun zc19 => ?_)
      · refine wp_iinc (v0 := nI ((i) + 1)) [(3, .int (nI ((i) + 1))), (2, .int (z)), (0, .ref (0)), (1, .int (x))] 0 d_X9_bendsThatFit_31 rfl (nI_add (i) 1) (Nat.le_of_ble_eq_true rfl) rfl ?_
        refine wp_goto 6 d_X9_bendsThatFit_34 rfl ?_
        obtain ⟨k1, rfl⟩ : ∃ k1, k = k1 + 1 := ⟨k - 1, by omega⟩
        refine wp_sub [(3, .int (nI ((i) + 1))), (2, .int (z)), (0, .ref (0)), (1, .int (x))] [0, 1, 2, 3] rfl ?_
        simp only [kbf]
        rw [if_pos zc19]
        exact ih k1 (by omega) (i + 1) _ (by omega)
      · refine wp_iload_n 1 d_X9_bendsThatFit_22 rfl rfl ?_
        refine wp_aload_n 2 d_X9_bendsThatFit_23 rfl rfl ?_
        refine wp_getfield (v := .ref (73)) d_X9_bendsThatFit_24 gf_X9_59 (hp_0 _ _ _ _ _) rfl ?_
        refine wp_iload_n 0 d_X9_bendsThatFit_27 rfl rfl ?_
        refine wp_iaload (v := (w.2.1 73) (i)) d_X9_bendsThatFit_28 (hp_73 _ _ _ _ _) (vp_in_nI (by omega) (by omega)) (congrArg ((w.2.1 73)) (nI_clamp (by omega))) ?_
        refine wp_iand d_X9_bendsThatFit_29 ?_
        refine wp_istore_n [(2, .int ((z) &&& ((w.2.1 73) (i)))), (3, .int (nI (i))), (0, .ref (0)), (1, .int (x))] d_X9_bendsThatFit_30 rfl (Nat.le_of_ble_eq_true rfl) rfl ?_
        refine wp_iinc (v0 := nI ((i) + 1)) [(3, .int (nI ((i) + 1))), (2, .int ((z) &&& ((w.2.1 73) (i)))), (0, .ref (0)), (1, .int (x))] 1 d_X9_bendsThatFit_31 rfl (nI_add (i) 1) (Nat.le_of_ble_eq_true rfl) rfl ?_
        refine wp_goto 6 d_X9_bendsThatFit_34 rfl ?_
        obtain ⟨k1, rfl⟩ : ∃ k1, k = k1 + 1 := ⟨k - 1, by omega⟩
        refine wp_sub [(3, .int (nI ((i) + 1))), (2, .int ((z) &&& ((w.2.1 73) (i)))), (0, .ref (0)), (1, .int (x))] [0, 1, 2, 3] rfl ?_
        simp only [kbf]
        rw [if_neg zc19]
        exact ih k1 (by omega) (i + 1) _ (by omega)
theorem s_X9_bendsThatFit {X : kX} {d : Nat} {c w m v : kZ} {E : kH} {rr : Nat} (hrp : c.1 110 = nI rr) (hr6 : rr ≤ 6) (x : Int32) : WP X d 0 0 Y_X9_bendsThatFit 0 [(0, .ref (0)), (1, .int (x))] [] (HP c w m v E) (kR (some (.int (kbf (w.2.1 73) x rr 0 524287))) (HP c w m v E)) := by
  refine wp_ldcw (v0 := 524287) d_X9_bendsThatFit_0 ci_X9_381 ?_
  refine wp_istore_n [(2, .int (524287)), (0, .ref (0)), (1, .int (x))] d_X9_bendsThatFit_3 rfl (Nat.le_of_ble_eq_true rfl) rfl ?_
  refine wp_iconst (v0 := 0) d_X9_bendsThatFit_4 rfl ?_
  refine wp_istore_n [(3, .int (0)), (2, .int (524287)), (0, .ref (0)), (1, .int (x))] d_X9_bendsThatFit_5 rfl (Nat.le_of_ble_eq_true rfl) rfl ?_
  refine wp_sub [(3, .int (0)), (2, .int (524287)), (0, .ref (0)), (1, .int (x))] [0, 1, 2, 3] rfl ?_
  exact s_X9_bendsThatFit_l hrp hr6 x rr 0 524287 (by omega)
theorem s_X9_leastBend_l {X : kX} {d : Nat} {c w m v : kZ} {E : kH} (z : Int32) : ∀ (k : Nat) (j : Nat), (j + k = 18) → WP X d 0 0 Y_X9_leastBend 3 [(1, .int (nI j + (-9))), (0, .int (z))] [] (HP c w m v E) (kR (some (.int (klb z k j))) (HP c w m v E)) := by
  intro k
  induction k using Nat.strongRecOn with
  | ind k ih =>
    intro j hj
    refine wp_iload_n 0 d_X9_leastBend_3 rfl rfl ?_
    refine wp_bipush (v0 := 9) d_X9_leastBend_4 (by decide) ?_
    refine wp_icmp_ge 26 d_X9_leastBend_6 rfl (fun zc6 => ?_) (fun zc6 => ?_)
    · refine wp_iload_n 0 d_X9_leastBend_26 rfl rfl ?_
      refine wp_reti d_X9_leastBend_27 rfl ?_
      first
      | (have h9 := Int32.le_iff_toInt_le.mp zc6; rw [keye j (by omega), show (9 : Int32).toInt = 9 from by decide] at h9; obtain rfl : k = 0 := (by omega); exact kR_i rfl rfl)
      | (have h9 := Int32.lt_iff_toInt_lt.mp (Int32.not_le.mp zc6); rw [keye j (by omega), show (9 : Int32).toInt = 9 from by decide] at h9; obtain ⟨k1, rfl⟩ : ∃ k1, k = k1 + 1 := ⟨k - 1, (by omega)⟩; exact kR_i (Eq.symm (if_neg zc17)) rfl)
    · have h9 := Int32.lt_iff_toInt_lt.mp (Int32.not_le.mp zc6)
      rw [keye j (by omega), show (9 : Int32).toInt = 9 from by decide] at h9
      refine wp_iload_n 1 d_X9_leastBend_9 rfl rfl ?_
      refine wp_iload_n 0 d_X9_leastBend_10 rfl rfl ?_
      refine wp_bipush (v0 := 9) d_X9_leastBend_11 (by decide) ?_
      refine wp_iadd d_X9_leastBend_13 ?_
      refine wp_v (v0 := nI j) (k99 j) ?_
      refine wp_ishr d_X9_leastBend_14 ?_
      refine wp_iconst (v0 := 1) d_X9_leastBend_15 rfl ?_
      refine wp_iand d_X9_leastBend_16 ?_
      refine wp_if_ne 26 d_X9_leastBend_17 rfl (fun zc17 => ?_) (fun zc17 => ?_)
      · refine wp_iload_n 0 d_X9_leastBend_26 rfl rfl ?_
        refine wp_reti d_X9_leastBend_27 rfl ?_
        first
        | (have h9 := Int32.le_iff_toInt_le.mp zc6; rw [keye j (by omega), show (9 : Int32).toInt = 9 from by decide] at h9; obtain rfl : k = 0 := (by omega); exact kR_i rfl rfl)
        | (have h9 := Int32.lt_iff_toInt_lt.mp (Int32.not_le.mp zc6); rw [keye j (by omega), show (9 : Int32).toInt = 9 from by decide] at h9; obtain ⟨k1, rfl⟩ : ∃ k1, k = k1 + 1 := ⟨k - 1, (by omega)⟩; exact kR_i (Eq.symm (if_neg zc17)) rfl)
      · refine wp_iinc (v0 := (nI j + (-9)) + (1)) [(1, .int ((nI j + (-9)) + (1))), (0, .int (z))] 0 d_X9_leastBend_20 rfl rfl (Nat.le_of_ble_eq_true rfl) rfl ?_
        refine wp_goto 3 d_X9_leastBend_23 rfl ?_
        obtain ⟨k1, rfl⟩ : ∃ k1, k = k1 + 1 := ⟨k - 1, by omega⟩
        refine wp_sub [(1, .int ((nI j + (-9)) + (1))), (0, .int (z))] [0, 1] rfl ?_
        simp only [klb]
        rw [if_pos zc17]
        have e8 : nI j + (-9) + 1 = nI (j + 1) + (-9) := by rw [← nI_add j 1, Int32.add_assoc, Int32.add_assoc]; rfl
        rw [e8]
        exact ih k1 (by omega) (j + 1) (by omega)
theorem s_X9_leastBend {X : kX} {d : Nat} {c w m v : kZ} {E : kH} (z : Int32) : WP X d 0 0 Y_X9_leastBend 0 [(0, .int (z))] [] (HP c w m v E) (kR (some (.int (klb z 18 0))) (HP c w m v E)) := by
  refine wp_bipush (v0 := -9) d_X9_leastBend_0 (by decide) ?_
  refine wp_istore_n [(1, .int ((-9))), (0, .int (z))] d_X9_leastBend_2 rfl (Nat.le_of_ble_eq_true rfl) rfl ?_
  refine wp_sub [(1, .int ((-9))), (0, .int (z))] [0, 1] rfl ?_
  rw [show (-9 : Int32) = nI 0 + (-9) by decide]
  exact s_X9_leastBend_l z 18 0 (by omega)
theorem s_X9_greatestBend_l {X : kX} {d : Nat} {c w m v : kZ} {E : kH} (z : Int32) : ∀ (j : Nat), (j ≤ 18) → WP X d 0 0 Y_X9_greatestBend 3 [(1, .int (nI j + (-9))), (0, .int z)] [] (HP c w m v E) (kR (some (.int (kgb z j))) (HP c w m v E)) := by
  intro j
  induction j with
  | zero =>
    intro _
    refine wp_iload_n 0 d_X9_greatestBend_3 rfl rfl ?_
    refine wp_bipush (v0 := -9) d_X9_greatestBend_4 (by decide) ?_
    refine wp_icmp_le 26 d_X9_greatestBend_6 rfl (fun zc6 => ?_) (fun zc6 => ?_)
    · refine wp_iload_n 0 d_X9_greatestBend_26 rfl rfl ?_
      refine wp_reti d_X9_greatestBend_27 rfl ?_
      exact kR_i rfl rfl
    · exact absurd (by decide) zc6
  | succ j ih =>
    intro hj
    refine wp_iload_n 0 d_X9_greatestBend_3 rfl rfl ?_
    refine wp_bipush (v0 := -9) d_X9_greatestBend_4 (by decide) ?_
    refine wp_icmp_le 26 d_X9_greatestBend_6 rfl (fun zc6 => ?_) (fun zc6 => ?_)
    · refine wp_iload_n 0 d_X9_greatestBend_26 rfl rfl ?_
      refine wp_reti d_X9_greatestBend_27 rfl ?_
      first
      | exact kR_i (Eq.symm (if_neg zc17)) rfl
      | (exfalso; have h9 := Int32.le_iff_toInt_le.mp zc6; rw [keye (j + 1) (by omega), show (-9 : Int32).toInt = -9 from by decide] at h9; omega)
    · refine wp_iload_n 1 d_X9_greatestBend_9 rfl rfl ?_
      refine wp_iload_n 0 d_X9_greatestBend_10 rfl rfl ?_
      refine wp_bipush (v0 := 9) d_X9_greatestBend_11 (by decide) ?_
      refine wp_iadd d_X9_greatestBend_13 ?_
      refine wp_v (v0 := nI (j + 1)) (k99 (j + 1)) ?_
      refine wp_ishr d_X9_greatestBend_14 ?_
      refine wp_iconst (v0 := 1) d_X9_greatestBend_15 rfl ?_
      refine wp_iand d_X9_greatestBend_16 ?_
      refine wp_if_ne 26 d_X9_greatestBend_17 rfl (fun zc17 => ?_) (fun zc17 => ?_)
      · refine wp_iload_n 0 d_X9_greatestBend_26 rfl rfl ?_
        refine wp_reti d_X9_greatestBend_27 rfl ?_
        first
        | exact kR_i (Eq.symm (if_neg zc17)) rfl
        | (exfalso; have h9 := Int32.le_iff_toInt_le.mp zc6; rw [keye (j + 1) (by omega), show (-9 : Int32).toInt = -9 from by decide] at h9; omega)
      · refine wp_iinc (v0 := (nI (j + 1) + (-9)) + (-1)) [(1, .int ((nI (j + 1) + (-9)) + (-1))), (0, .int (z))] 0 d_X9_greatestBend_20 rfl rfl (Nat.le_of_ble_eq_true rfl) rfl ?_
        refine wp_goto 3 d_X9_greatestBend_23 rfl ?_
        simp only [kgb]
        rw [if_pos zc17]
        have e8 : nI (j + 1) + (-9) + (-1) = nI j + (-9) := by rw [← nI_add j 1, Int32.add_assoc, Int32.add_assoc]; congr 1
        rw [e8]
        exact ih (by omega)
theorem s_X9_greatestBend {X : kX} {d : Nat} {c w m v : kZ} {E : kH} (z : Int32) : WP X d 0 0 Y_X9_greatestBend 0 [(0, .int (z))] [] (HP c w m v E) (kR (some (.int (kgb z 18))) (HP c w m v E)) := by
  refine wp_bipush (v0 := 9) d_X9_greatestBend_0 (by decide) ?_
  refine wp_istore_n [(1, .int (9)), (0, .int (z))] d_X9_greatestBend_2 rfl (Nat.le_of_ble_eq_true rfl) rfl ?_
  refine wp_sub [(1, .int (9)), (0, .int (z))] [0, 1] rfl ?_
  exact s_X9_greatestBend_l z 18 (by omega)
theorem s_bitCount {X : kX} {d : Nat} (h : kH) (x : Int32) : WP X d 0 0 Y_J6_bitCount_0f7a4 0 [(0, .int x)] [] h (kR (some (.int (kpop x))) h) := by
  refine wp_iload_n 0 d_J6_bitCount_0f7a4_0 rfl rfl ?_
  refine wp_iload_n 0 d_J6_bitCount_0f7a4_1 rfl rfl ?_
  refine wp_iconst (v0 := 1) d_J6_bitCount_0f7a4_2 rfl ?_
  refine wp_iushr (v0 := ((x).toUInt32 >>> ((1 : Int32).toUInt32 &&& Int32.toUInt32 31)).toInt32) d_J6_bitCount_0f7a4_3 rfl ?_
  refine wp_ldcw (v0 := 1431655765) d_J6_bitCount_0f7a4_4 ci_J6_265 ?_
  refine wp_iand d_J6_bitCount_0f7a4_7 ?_
  refine wp_isub d_J6_bitCount_0f7a4_8 ?_
  refine wp_v (v0 := kp1 (x)) rfl ?_
  refine wp_istore_n [(0, .int (kp1 (x)))] d_J6_bitCount_0f7a4_9 rfl (Nat.le_of_ble_eq_true rfl) rfl ?_
  refine wp_iload_n 0 d_J6_bitCount_0f7a4_10 rfl rfl ?_
  refine wp_ldcw (v0 := 858993459) d_J6_bitCount_0f7a4_11 ci_J6_266 ?_
  refine wp_iand d_J6_bitCount_0f7a4_14 ?_
  refine wp_iload_n 0 d_J6_bitCount_0f7a4_15 rfl rfl ?_
  refine wp_iconst (v0 := 2) d_J6_bitCount_0f7a4_16 rfl ?_
  refine wp_iushr (v0 := ((kp1 (x)).toUInt32 >>> ((2 : Int32).toUInt32 &&& Int32.toUInt32 31)).toInt32) d_J6_bitCount_0f7a4_17 rfl ?_
  refine wp_ldcw (v0 := 858993459) d_J6_bitCount_0f7a4_18 ci_J6_266 ?_
  refine wp_iand d_J6_bitCount_0f7a4_21 ?_
  refine wp_iadd d_J6_bitCount_0f7a4_22 ?_
  refine wp_v (v0 := kp2 (kp1 x)) rfl ?_
  refine wp_istore_n [(0, .int (kp2 (kp1 x)))] d_J6_bitCount_0f7a4_23 rfl (Nat.le_of_ble_eq_true rfl) rfl ?_
  refine wp_iload_n 0 d_J6_bitCount_0f7a4_24 rfl rfl ?_
  refine wp_iload_n 0 d_J6_bitCount_0f7a4_25 rfl rfl ?_
  refine wp_iconst (v0 := 4) d_J6_bitCount_0f7a4_26 rfl ?_
  refine wp_iushr (v0 := ((kp2 (kp1 x)).toUInt32 >>> ((4 : Int32).toUInt32 &&& Int32.toUInt32 31)).toInt32) d_J6_bitCount_0f7a4_27 rfl ?_
  refine wp_iadd d_J6_bitCount_0f7a4_28 ?_
  refine wp_ldcw (v0 := 252645135) d_J6_bitCount_0f7a4_29 ci_J6_267 ?_
  refine wp_iand d_J6_bitCount_0f7a4_32 ?_
  refine wp_v (v0 := kp3 (kp2 (kp1 x))) rfl ?_
  refine wp_istore_n [(0, .int (kp3 (kp2 (kp1 x))))] d_J6_bitCount_0f7a4_33 rfl (Nat.le_of_ble_eq_true rfl) rfl ?_
  refine wp_iload_n 0 d_J6_bitCount_0f7a4_34 rfl rfl ?_
  refine wp_iload_n 0 d_J6_bitCount_0f7a4_35 rfl rfl ?_
  refine wp_bipush (v0 := 8) d_J6_bitCount_0f7a4_36 (by decide) ?_
  refine wp_iushr (v0 := ((kp3 (kp2 (kp1 x))).toUInt32 >>> ((8 : Int32).toUInt32 &&& Int32.toUInt32 31)).toInt32) d_J6_bitCount_0f7a4_38 rfl ?_
  refine wp_iadd d_J6_bitCount_0f7a4_39 ?_
  refine wp_v (v0 := kp4 (kp3 (kp2 (kp1 x)))) rfl ?_
  refine wp_istore_n [(0, .int (kp4 (kp3 (kp2 (kp1 x)))))] d_J6_bitCount_0f7a4_40 rfl (Nat.le_of_ble_eq_true rfl) rfl ?_
  refine wp_iload_n 0 d_J6_bitCount_0f7a4_41 rfl rfl ?_
  refine wp_iload_n 0 d_J6_bitCount_0f7a4_42 rfl rfl ?_
  refine wp_bipush (v0 := 16) d_J6_bitCount_0f7a4_43 (by decide) ?_
  refine wp_iushr (v0 := nI (kz16 (kp4 (kp3 (kp2 (kp1 x)))))) d_J6_bitCount_0f7a4_45 (kz16_eq _) ?_
  refine wp_iadd d_J6_bitCount_0f7a4_46 ?_
  refine wp_v (v0 := kp5 (kp4 (kp3 (kp2 (kp1 x))))) rfl ?_
  refine wp_istore_n [(0, .int (kp5 (kp4 (kp3 (kp2 (kp1 x))))))] d_J6_bitCount_0f7a4_47 rfl (Nat.le_of_ble_eq_true rfl) rfl ?_
  refine wp_iload_n 0 d_J6_bitCount_0f7a4_48 rfl rfl ?_
  refine wp_bipush (v0 := 63) d_J6_bitCount_0f7a4_49 (by decide) ?_
  refine wp_iand d_J6_bitCount_0f7a4_51 ?_
  refine wp_reti d_J6_bitCount_0f7a4_52 rfl ?_
  exact kR_i rfl rfl
theorem kbf_congr {F G : Nat → Int32} {x : Int32} : ∀ k i s, (∀ j, j < i + k → F j = G j) → kbf F x k i s = kbf G x k i s := by
  intro k
  induction k with
  | zero => intro i s _; rfl
  | succ k ih =>
    intro i s h
    simp only [kbf]
    rw [h i (by omega)]
    exact ih _ _ (fun j hj => h j (by omega))
theorem s_X9_span {X : kX} {d : Nat} {c w m v : kZ} {E : kH} {n : Nat} (hn : c.1 100 = nI n) (hn9 : n ≤ 9) {rho cnt ka L : Nat} {code : Nat → Int32} (hrr : c.2.2.1 1 = rho) (hR : kRu E rho cnt ka L code) (hL : L < 2 ^ 20) (hc8 : cnt ≤ 8) (hwf : kWF code L cnt 0) (hk : ∀ j, j < n → 1 ≤ (c.2.1 2 j).toInt ∧ (c.2.1 2 j).toInt ≤ 5) {p : Nat} (hp : c.1 107 = nI p) (hp4 : p ≤ 4) (hln : ∀ j, j < p → vp_in (c.2.1 9 j) n) (hr0 : kRay w []) {rr : Nat} (hrp : c.1 110 = nI rr) (hr6 : rr ≤ 6) (x : Int32) : WP X (d + 9) 0 0 Y_X9_span 0 [(0, .ref (0)), (1, .int (x))] [] (HP c w m v E) (fun r1 h1 => (¬ (0 ≤ x.toInt ∧ x.toInt ≤ 2) ∧ r1 = some (.int (-1)) ∧ h1 = HP c w m v E) ∨ ((0 ≤ x.toInt ∧ x.toInt ≤ 2) ∧ r1 = some (.int (if x = 0 then kpop (kbf (fun r => kbs (cfP c.2.1 code cnt p r) 19) (-3) rr 0 524287) else if (kbf (fun r => kbs (cfP c.2.1 code cnt p r) 19) (-3) rr 0 524287) = 0 then -3 else 10 + (if x = 1 then klb (kbf (fun r => kbs (cfP c.2.1 code cnt p r) 19) (-3) rr 0 524287) 18 0 else kgb (kbf (fun r => kbs (cfP c.2.1 code cnt p r) 19) (-3) rr 0 524287) 18))) ∧ ∃ w1 : kZ, h1 = HP c w1 m v E ∧ kSf w w1 ∧ kRay w1 [])) := by
  refine wp_iload_n 1 d_X9_span_0 rfl rfl ?_
  refine wp_iconst (v0 := 0) d_X9_span_1 rfl ?_
  refine wp_iconst (v0 := 2) d_X9_span_2 rfl ?_
  refine wp_stc_i (As := [.int (x), .int (0), .int (2)]) (x0 := kb (0 ≤ (x : Int32).toInt ∧ (x : Int32).toInt ≤ 2)) (h1 := HP c w m v E) d_X9_span_3 lk_X9_98 mv_X9_isWithin st_X9_isWithin (Nat.le_of_ble_eq_true rfl) (Nat.le_of_ble_eq_true rfl) (s_X9_isWithin _ (x : Int32) (0 : Int32) (2 : Int32)) ?_
  refine wp_ifb_ne 11 d_X9_span_6 rfl (fun zc6 => ?_) (fun zc6 => ?_)
  · refine wp_aload_n 0 d_X9_span_11 rfl rfl ?_
    refine wp_virtual0 (As := []) d_X9_span_12 lk_X9_270 mv_X9_findBends in_X9_findBends se_X9_findBends (Nat.le_of_ble_eq_true rfl) (Nat.le_of_ble_eq_true rfl) (hp_0 _ _ _ _ _) rfl (s_X9_findBends hn hn9 hrr hR hL hc8 hwf hk hp hp4 hln hr0 hrp hr6) (fun v12 h12 q12 => ?_)
    obtain ⟨rfl, w1, rfl, hB1⟩ := q12
    show WP _ _ _ _ _ 15 _ [] (HP c w1 m v E) _
    refine wp_aload_n 0 d_X9_span_15 rfl rfl ?_
    refine wp_bipush (v0 := -3) d_X9_span_16 (by decide) ?_
    refine wp_vrt_i (As := [.int ((-3))]) (x0 := kbf (w1.2.1 73) ((-3)) rr 0 524287) (h1 := HP c w1 m v E) d_X9_span_18 lk_X9_273 mv_X9_bendsThatFit in_X9_bendsThatFit se_X9_bendsThatFit (Nat.le_of_ble_eq_true rfl) (Nat.le_of_ble_eq_true rfl) (hp_0 _ _ _ _ _) rfl (s_X9_bendsThatFit hrp hr6 ((-3))) ?_
    refine wp_istore_n [(2, .int (kbf (w1.2.1 73) ((-3)) rr 0 524287)), (0, .ref (0)), (1, .int (x))] d_X9_span_21 rfl (Nat.le_of_ble_eq_true rfl) rfl ?_
    refine wp_iload_n 2 d_X9_span_22 rfl rfl ?_
    refine wp_if_ne 31 d_X9_span_23 rfl (fun zc23 => ?_) (fun zc23 => ?_)
    · refine wp_iload_n 0 d_X9_span_31 rfl rfl ?_
      refine wp_if_ne 38 d_X9_span_32 rfl (fun zc32 => ?_) (fun zc32 => ?_)
      · refine wp_bipush (v0 := 10) d_X9_span_38 (by decide) ?_
        refine wp_iload_n 2 d_X9_span_40 rfl rfl ?_
        refine wp_iconst (v0 := 1) d_X9_span_41 rfl ?_
        refine wp_icmp_ne 52 d_X9_span_42 rfl (fun zc42 => ?_) (fun zc42 => ?_)
        · refine wp_iload_n 0 d_X9_span_52 rfl rfl ?_
          refine wp_stc_i (As := [.int (kbf (w1.2.1 73) ((-3)) rr 0 524287)]) (x0 := kgb (kbf (w1.2.1 73) ((-3)) rr 0 524287) 18) (h1 := HP c w1 m v E) d_X9_span_53 lk_X9_284 mv_X9_greatestBend st_X9_greatestBend (Nat.le_of_ble_eq_true rfl) (Nat.le_of_ble_eq_true rfl) (s_X9_greatestBend (kbf (w1.2.1 73) ((-3)) rr 0 524287)) ?_
          refine wp_iadd d_X9_span_56 ?_
          refine wp_reti d_X9_span_57 rfl ?_
          have e5 := kbf_congr (F := w1.2.1 73) (G := fun r => kbs (cfP c.2.1 code cnt p r) 19) (x := -3) rr 0 524287 (fun j hj => hB1.2.2.2 j (by omega))
          refine Or.inr ⟨zc6, congrArg (fun z => some (Value.int z)) ?_, w1, rfl, hB1.2.2.1, hB1.2.1⟩
          rw [e5] at zc32
          rw [if_neg zc23, if_neg zc32, e5]
          rw [if_neg zc42]
        · refine wp_iload_n 0 d_X9_span_45 rfl rfl ?_
          refine wp_stc_i (As := [.int (kbf (w1.2.1 73) ((-3)) rr 0 524287)]) (x0 := klb (kbf (w1.2.1 73) ((-3)) rr 0 524287) 18 0) (h1 := HP c w1 m v E) d_X9_span_46 lk_X9_281 mv_X9_leastBend st_X9_leastBend (Nat.le_of_ble_eq_true rfl) (Nat.le_of_ble_eq_true rfl) (s_X9_leastBend (kbf (w1.2.1 73) ((-3)) rr 0 524287)) ?_
          refine wp_goto 56 d_X9_span_49 rfl ?_
          refine wp_iadd d_X9_span_56 ?_
          refine wp_reti d_X9_span_57 rfl ?_
          have e5 := kbf_congr (F := w1.2.1 73) (G := fun r => kbs (cfP c.2.1 code cnt p r) 19) (x := -3) rr 0 524287 (fun j hj => hB1.2.2.2 j (by omega))
          refine Or.inr ⟨zc6, congrArg (fun z => some (Value.int z)) ?_, w1, rfl, hB1.2.2.1, hB1.2.1⟩
          rw [e5] at zc32
          rw [if_neg zc23, if_neg zc32, e5]
          rw [if_pos zc42]
      · refine wp_bipush (v0 := -3) d_X9_span_35 (by decide) ?_
        refine wp_reti d_X9_span_37 rfl ?_
        have e5 := kbf_congr (F := w1.2.1 73) (G := fun r => kbs (cfP c.2.1 code cnt p r) 19) (x := -3) rr 0 524287 (fun j hj => hB1.2.2.2 j (by omega))
        refine Or.inr ⟨zc6, congrArg (fun z => some (Value.int z)) ?_, w1, rfl, hB1.2.2.1, hB1.2.1⟩
        rw [e5] at zc32
        rw [if_neg zc23, if_pos zc32]
    · refine wp_iload_n 0 d_X9_span_26 rfl rfl ?_
      refine wp_stc_i (As := [.int (kbf (w1.2.1 73) ((-3)) rr 0 524287)]) (x0 := kpop (kbf (w1.2.1 73) ((-3)) rr 0 524287)) (h1 := HP c w1 m v E) d_X9_span_27 lk_X9_276 mv_J6_bitCount_0f7a4 st_J6_bitCount_0f7a4 (Nat.le_of_ble_eq_true rfl) (Nat.le_of_ble_eq_true rfl) (s_bitCount _ (kbf (w1.2.1 73) ((-3)) rr 0 524287)) ?_
      refine wp_reti d_X9_span_30 rfl ?_
      have e5 := kbf_congr (F := w1.2.1 73) (G := fun r => kbs (cfP c.2.1 code cnt p r) 19) (x := -3) rr 0 524287 (fun j hj => hB1.2.2.2 j (by omega))
      refine Or.inr ⟨zc6, congrArg (fun z => some (Value.int z)) ?_, w1, rfl, hB1.2.2.1, hB1.2.1⟩
      rw [if_pos zc23, e5]
  · refine wp_iconst (v0 := -1) d_X9_span_9 rfl ?_
    refine wp_reti d_X9_span_10 rfl ?_
    exact Or.inl ⟨zc6, rfl, rfl⟩
def kli (F : Nat → Int32) (R : Nat) : Nat → Nat → Int32
  | 0, _ => -3
  | k + 1, i => if kbf F (nI i) R 0 524287 = 0 then kli F R k (i + 1) else nI i
theorem kli_congr {F G : Nat → Int32} {R : Nat} (h : ∀ j, j < R → F j = G j) : ∀ k i, kli F R k i = kli G R k i := by
  intro k
  induction k with
  | zero => intro i; rfl
  | succ k ih =>
    intro i
    simp only [kli]
    rw [kbf_congr (F := F) (G := G) R 0 524287 (fun j hj => h j (by omega)), ih]
theorem s_X9_liar_l {X : kX} {d : Nat} {c w m v : kZ} {E : kH} {rr : Nat} (hrp : c.1 110 = nI rr) (hr6 : rr ≤ 6) {w1 : kZ} : ∀ (k : Nat) (i : Nat), (i + k = rr) → WP X (d + 9) 0 0 Y_X9_liar 18 [(1, .int (nI (i))), (0, .ref (0))] [] (HP c w1 m v E) (kR (some (.int (kli (w1.2.1 73) rr k i))) (HP c w1 m v E)) := by
  intro k
  induction k using Nat.strongRecOn with
  | ind k ih =>
    intro i hi
    refine wp_iload_n 0 d_X9_liar_18 rfl rfl ?_
    refine wp_aload_n 1 d_X9_liar_19 rfl rfl ?_
    refine wp_getfield (v := .ref (1)) d_X9_liar_20 gf_X9_12 (hp_0 _ _ _ _ _) rfl ?_
    refine wp_getfield (v := .int (nI (rr))) d_X9_liar_23 gf_X9_261 (hp_1 _ _ _ _ _) (congrArg (fun z => some (Value.int z)) hrp) ?_
    refine wp_ncmp_ge (a := i) (b := rr) 45 d_X9_liar_26 rfl (by omega) (by omega) (fun zc26 => ?_) (fun zc26 => ?_)
    · refine wp_bipush (v0 := -3) d_X9_liar_45 (by decide) ?_
      refine wp_reti d_X9_liar_47 rfl ?_
      obtain rfl : k = 0 := by omega
      exact kR_i rfl rfl
    · refine wp_aload_n 1 d_X9_liar_29 rfl rfl ?_
      refine wp_iload_n 0 d_X9_liar_30 rfl rfl ?_
      refine wp_vrt_i (As := [.int (nI (i))]) (x0 := kbf (w1.2.1 73) (nI (i)) rr 0 524287) (h1 := HP c w1 m v E) d_X9_liar_31 lk_X9_273 mv_X9_bendsThatFit in_X9_bendsThatFit se_X9_bendsThatFit (Nat.le_of_ble_eq_true rfl) (Nat.le_of_ble_eq_true rfl) (hp_0 _ _ _ _ _) rfl (s_X9_bendsThatFit hrp hr6 (nI (i))) ?_
      refine wp_if_eq 39 d_X9_liar_34 rfl (fun zc34 => ?_) (fun zc34 => ?_)
      · refine wp_iinc (v0 := nI ((i) + 1)) [(1, .int (nI ((i) + 1))), (0, .ref (0))] 0 d_X9_liar_39 rfl (nI_add (i) 1) (Nat.le_of_ble_eq_true rfl) rfl ?_
        refine wp_goto 18 d_X9_liar_42 rfl ?_
        obtain ⟨k1, rfl⟩ : ∃ k1, k = k1 + 1 := ⟨k - 1, by omega⟩
        refine wp_sub [(1, .int (nI ((i) + 1))), (0, .ref (0))] [0, 1] rfl ?_
        simp only [kli]
        rw [if_pos zc34]
        exact ih k1 (by omega) (i + 1) (by omega)
      · refine wp_iload_n 0 d_X9_liar_37 rfl rfl ?_
        refine wp_reti d_X9_liar_38 rfl ?_
        obtain ⟨k1, rfl⟩ : ∃ k1, k = k1 + 1 := ⟨k - 1, by omega⟩
        exact kR_i (Eq.symm (if_neg zc34)) rfl
theorem s_X9_liar {X : kX} {d : Nat} {c w m v : kZ} {E : kH} {n : Nat} (hn : c.1 100 = nI n) (hn9 : n ≤ 9) {rho cnt ka L : Nat} {code : Nat → Int32} (hrr : c.2.2.1 1 = rho) (hR : kRu E rho cnt ka L code) (hL : L < 2 ^ 20) (hc8 : cnt ≤ 8) (hwf : kWF code L cnt 0) (hk : ∀ j, j < n → 1 ≤ (c.2.1 2 j).toInt ∧ (c.2.1 2 j).toInt ≤ 5) {p : Nat} (hp : c.1 107 = nI p) (hp4 : p ≤ 4) (hln : ∀ j, j < p → vp_in (c.2.1 9 j) n) (hr0 : kRay w []) {rr : Nat} (hrp : c.1 110 = nI rr) (hr6 : rr ≤ 6) : WP X (d + 9) 0 0 Y_X9_liar 0 [(0, .ref (0))] [] (HP c w m v E) (fun r1 h1 => r1 = some (.int (if (kbf (fun r => kbs (cfP c.2.1 code cnt p r) 19) (-3) rr 0 524287) = 0 then kli (fun r => kbs (cfP c.2.1 code cnt p r) 19) rr rr 0 else -3)) ∧ ∃ w1 : kZ, h1 = HP c w1 m v E ∧ kSf w w1 ∧ kRay w1 []) := by
  refine wp_aload_n 0 d_X9_liar_0 rfl rfl ?_
  refine wp_virtual0 (As := []) d_X9_liar_1 lk_X9_270 mv_X9_findBends in_X9_findBends se_X9_findBends (Nat.le_of_ble_eq_true rfl) (Nat.le_of_ble_eq_true rfl) (hp_0 _ _ _ _ _) rfl (s_X9_findBends hn hn9 hrr hR hL hc8 hwf hk hp hp4 hln hr0 hrp hr6) (fun v1 h1 q1 => ?_)
  obtain ⟨rfl, w1, rfl, hB1⟩ := q1
  show WP _ _ _ _ _ 4 _ [] (HP c w1 m v E) _
  refine wp_aload_n 0 d_X9_liar_4 rfl rfl ?_
  refine wp_bipush (v0 := -3) d_X9_liar_5 (by decide) ?_
  refine wp_vrt_i (As := [.int ((-3))]) (x0 := kbf (w1.2.1 73) ((-3)) rr 0 524287) (h1 := HP c w1 m v E) d_X9_liar_7 lk_X9_273 mv_X9_bendsThatFit in_X9_bendsThatFit se_X9_bendsThatFit (Nat.le_of_ble_eq_true rfl) (Nat.le_of_ble_eq_true rfl) (hp_0 _ _ _ _ _) rfl (s_X9_bendsThatFit hrp hr6 ((-3))) ?_
  refine wp_if_eq 16 d_X9_liar_10 rfl (fun zc10 => ?_) (fun zc10 => ?_)
  · refine wp_iconst (v0 := 0) d_X9_liar_16 rfl ?_
    refine wp_istore_n [(1, .int (0)), (0, .ref (0))] d_X9_liar_17 rfl (Nat.le_of_ble_eq_true rfl) rfl ?_
    refine wp_sub [(1, .int (0)), (0, .ref (0))] [0, 1] rfl ?_
    have e5 := kbf_congr (F := w1.2.1 73) (G := fun r => kbs (cfP c.2.1 code cnt p r) 19) (x := -3) rr 0 524287 (fun j hj => hB1.2.2.2 j (by omega))
    rw [e5] at zc10
    refine wp_mono ?_ (s_X9_liar_l (d := d) (w := w) (w1 := w1) hrp hr6 rr 0 (by omega))
    rintro r1 h1 ⟨rfl, rfl⟩
    exact ⟨by rw [if_pos zc10, kli_congr (G := (fun r => kbs (cfP c.2.1 code cnt p r) 19)) (fun j hj => hB1.2.2.2 j hj)], w1, rfl, hB1.2.2.1, hB1.2.1⟩
  · refine wp_bipush (v0 := -3) d_X9_liar_13 (by decide) ?_
    refine wp_reti d_X9_liar_15 rfl ?_
    have e5 := kbf_congr (F := w1.2.1 73) (G := fun r => kbs (cfP c.2.1 code cnt p r) 19) (x := -3) rr 0 524287 (fun j hj => hB1.2.2.2 j (by omega))
    rw [e5] at zc10
    exact ⟨by rw [if_neg zc10], w1, rfl, hB1.2.2.1, hB1.2.1⟩
