/-! ===== the class: calls that try settings ===== -/
theorem ktub_congr2 {sx bd : Int32} {st st' tl tl' ln ln' tn tn' : Nat → Int32} {n p : Nat} (hst : ∀ l, l < n → st l = st' l) (htl : ∀ l, l < n → tl l = tl' l) (hln : ∀ j, j < p → vp_in (ln' j) n) (hl : ∀ j, j < p → ln j = ln' j) (ht : ∀ j, j < p → tn j = tn' j) : ktub sx bd st tl ln tn p = ktub sx bd st' tl' ln' tn' p := by
  rw [← ktub_congr (n := n) hst htl hln]
  unfold ktub
  apply List.map_congr_left
  intro j hj
  rw [List.mem_range] at hj
  unfold kent
  rw [hl j hj, ht j hj]
/-- the trial is as the bench now, but for setting k -/
def kTr (c w : kZ) (k : Nat) : Prop := (w.1 2500 = c.1 100 ∧ w.1 2507 = c.1 107 ∧ w.2.2.1 25 = c.2.2.1 1) ∧ (∀ j, j < 9 → w.2.1 26 j = c.2.1 2 j) ∧ (∀ j, j < 9 → w.2.1 27 j = c.2.1 3 j) ∧ (∀ j, j < 9 → w.2.1 28 j = c.2.1 4 j) ∧ (∀ j, j < 4 → j ≠ k → w.2.1 30 j = c.2.1 6 j) ∧ (∀ j, j < 4 → w.2.1 33 j = c.2.1 9 j) ∧ (∀ j, j < 4 → w.2.1 34 j = c.2.1 10 j)
theorem kTr.bec {c w : kZ} (h : kBc w 25 c 1) (k : Nat) : kTr c w k := ⟨⟨h.1.1, h.1.2.1, h.2.2.2.2.2.2.2.2.2.2⟩, h.2.1, h.2.2.1, h.2.2.2.1, fun j hj _ => h.2.2.2.2.2.1 j hj, h.2.2.2.2.2.2.1, h.2.2.2.2.2.2.2.1⟩
/-- but for the trial and the light -/
def kWf (w w' : kZ) : Prop := (∀ k, k < 2500 ∨ 2513 < k ∧ k < 4200 ∨ 4299 < k → w'.1 k = w.1 k) ∧ (∀ k, k < 25 ∨ 36 < k ∧ k < 43 ∨ 49 < k → w'.2.1 k = w.2.1 k) ∧ (∀ k, k ≠ 25 → w'.2.2.1 k = w.2.2.1 k) ∧ w'.2.2.2 = w.2.2.2
theorem kWf.rf (w : kZ) : kWf w w := ⟨fun _ _ => rfl, fun _ _ => rfl, fun _ _ => rfl, rfl⟩
theorem kWf.tr {a b c : kZ} (h : kWf a b) (g : kWf b c) : kWf a c := ⟨fun k hk => (g.1 k hk).trans (h.1 k hk), fun k hk => (g.2.1 k hk).trans (h.2.1 k hk), fun k hk => (g.2.2.1 k hk).trans (h.2.2.1 k hk), g.2.2.2.trans h.2.2.2⟩
theorem kLa.wf {a b : kZ} (h : kLa a b) : kWf a b := ⟨fun k hk => h.1 k (by omega), fun k hk => h.2.1 k (by omega), fun k _ => by rw [h.2.2], by rw [h.2.2]⟩
theorem kBf.wf {a b : kZ} (h : kBf a 25 b) : kWf a b := ⟨fun k hk => h.1 k (by omega), fun k hk => h.2.1 k (by omega), h.2.2.1, h.2.2.2⟩
theorem kLa.ktr {c w w' : kZ} {k : Nat} (h : kTr c w k) (g : kLa w w') : kTr c w' k := by
  obtain ⟨⟨a1, a2, a3⟩, a4, a5, a6, a7, a8, a9⟩ := h
  obtain ⟨g1, g2, g3⟩ := g
  refine ⟨⟨(g1 _ (by decide)).trans a1, (g1 _ (by decide)).trans a2, by rw [g3]; exact a3⟩, ?_, ?_, ?_, ?_, ?_, ?_⟩
  · rw [g2 26 (by decide)]; exact a4
  · rw [g2 27 (by decide)]; exact a5
  · rw [g2 28 (by decide)]; exact a6
  · rw [g2 30 (by decide)]; exact a7
  · rw [g2 33 (by decide)]; exact a8
  · rw [g2 34 (by decide)]; exact a9
theorem kTr.set {c w : kZ} {k : Nat} (h : kTr c w k) (x : Int32) : kTr c (setA w 30 (upd (w.2.1 30) k x)) k := by
  obtain ⟨⟨a1, a2, a3⟩, a4, a5, a6, a7, a8, a9⟩ := h
  refine ⟨⟨a1, a2, a3⟩, a4, a5, a6, ?_, a8, a9⟩
  intro j hj hk
  show upd (w.2.1 30) k x j = _
  rw [upd_n _ _ hk]
  exact a7 j hj hk
abbrev kAs (c : kZ) (k : Nat) (x : Int32) : Nat → Nat → Int32 := (setA c 6 (upd (c.2.1 6) k x)).2.1
abbrev cMend (A : Nat → Nat → Int32) (code : Nat → Int32) (cnt p : Nat) : Prop := cwr (A 6 1) (A 6 2) (cTube A 1 code cnt p) ≤ A 6 3
theorem kTr.st {c w : kZ} {k : Nat} (h : kTr c w k) (x : Int32) : ∀ j, j < 4 → (setA w 30 (upd (w.2.1 30) k x)).2.1 30 j = kAs c k x 6 j := by
  intro j hj
  show upd (w.2.1 30) k x j = upd (c.2.1 6) k x j
  by_cases e : j = k
  · subst e; rw [upd_s, upd_s]
  · rw [upd_n _ _ e, upd_n _ _ e]; exact h.2.2.2.2.1 j hj e
theorem kTr.tube {c w : kZ} {k : Nat} (h : kTr c w k) (x : Int32) {n p cnt : Nat} {code : Nat → Int32} (hn9 : n ≤ 9) (hp4 : p ≤ 4) (hln : ∀ j, j < p → vp_in (c.2.1 9 j) n) : cTube (setA w 30 (upd (w.2.1 30) k x)).2.1 25 code cnt p = cTube (kAs c k x) 1 code cnt p := by
  have hs := h.st x
  obtain ⟨⟨a1, a2, a3⟩, a4, a5, a6, a7, a8, a9⟩ := h
  refine ktub_congr2 (n := n) (fun l hl => ?_) (fun l hl => a6 l (by omega)) hln (fun j hj => a8 j (by omega)) (fun j hj => a9 j (by omega))
  rw [show (setA w 30 (upd (w.2.1 30) k x)).2.1 (25 + 5) 0 = kAs c k x 6 0 from hs 0 (by decide), show (setA w 30 (upd (w.2.1 30) k x)).2.1 (25 + 5) 1 = kAs c k x 6 1 from hs 1 (by decide), show (setA w 30 (upd (w.2.1 30) k x)).2.1 (25 + 5) 2 = kAs c k x 6 2 from hs 2 (by decide)]
  rw [show (setA w 30 (upd (w.2.1 30) k x)).2.1 (25 + 1) l = c.2.1 2 l from a4 l (by omega), show (setA w 30 (upd (w.2.1 30) k x)).2.1 (25 + 2) l = c.2.1 3 l from a5 l (by omega)]
  rfl
theorem s_X9_isMendedWith {X : kX} {d : Nat} {c w m v : kZ} {E : kH} {n : Nat} (hn : c.1 100 = nI n) (hn9 : n ≤ 9) {rho cnt ka L : Nat} {code : Nat → Int32} (hrr : c.2.2.1 1 = rho) (hR : kRu E rho cnt ka L code) (hL : L < 2 ^ 20) (hc8 : cnt ≤ 8) (hwf : kWF code L cnt 0) (hk : ∀ j, j < n → 1 ≤ (c.2.1 2 j).toInt ∧ (c.2.1 2 j).toInt ≤ 5) {p : Nat} (hp : c.1 107 = nI p) (hp4 : p ≤ 4) (hln : ∀ j, j < p → vp_in (c.2.1 9 j) n) (hr0 : kRay w []) {k : Nat} (hk4 : k < 4) (ht : kTr c w k) (x : Int32) : WP X (d + 6) 0 0 Y_X9_isMendedWith 0 [(0, .ref (0)), (1, .int (nI (k))), (2, .int (x))] [] (HP c w m v E) (fun r1 h1 => r1 = some (.int (kb (cMend (kAs c k x) code cnt p))) ∧ ∃ w1 : kZ, h1 = HP c w1 m v E ∧ kTr c w1 k ∧ kWf w w1 ∧ kRay w1 []) := by
  have hs0 := ht.st x
  have htb := ht.tube x (code := code) (cnt := cnt) hn9 hp4 hln
  have ht0 := ht.set x
  obtain ⟨⟨a1, a2, a3⟩, a4, a5, a6, a7, a8, a9⟩ := id ht0
  have hr00 : kRay (setA w 30 (upd (w.2.1 30) k x)) [] := kRay_0 hr0 (fun k9 h9 h8 => by simp only [setA]; rw [updA_n _ _ (by omega)])
  refine wp_aload_n 0 d_X9_isMendedWith_0 rfl rfl ?_
  refine wp_getfield (v := .ref (25)) d_X9_isMendedWith_1 gf_X9_19 (hp_0 _ _ _ _ _) rfl ?_
  refine wp_getfield (v := .ref (30)) d_X9_isMendedWith_4 gf_X9_136 (hp_25 _ _ _ _ _) rfl ?_
  refine wp_iload_n 1 d_X9_isMendedWith_7 rfl rfl ?_
  refine wp_iload_n 2 d_X9_isMendedWith_8 rfl rfl ?_
  refine wp_iastore (h' := HP c (setA w 30 (upd (w.2.1 30) (k) (x))) m v E) d_X9_isMendedWith_9 (hp_30 _ _ _ _ _) (vp_in_nI (by omega) (by omega)) (by rw [nI_clamp (by omega)]; exact (hpa_30 _ _ _ _ _ _)) ?_
  refine wp_aload_n 0 d_X9_isMendedWith_10 rfl rfl ?_
  refine wp_getfield (v := .ref (42)) d_X9_isMendedWith_11 gf_X9_32 (hp_0 _ _ _ _ _) rfl ?_
  refine wp_aload_n 0 d_X9_isMendedWith_14 rfl rfl ?_
  refine wp_getfield (v := .ref (25)) d_X9_isMendedWith_15 gf_X9_19 (hp_0 _ _ _ _ _) rfl ?_
  refine wp_virtual0 (As := [.ref (25)]) d_X9_isMendedWith_18 lk_X9_121 mv_X5_load in_X5_load se_X5_load (Nat.le_of_ble_eq_true rfl) (Nat.le_of_ble_eq_true rfl) (hp_42 _ _ _ _ _) rfl (s_X5_load_25 (w := (setA w 30 (upd (w.2.1 30) k x))) (a1.trans hn) hn9 (a3.trans hrr) hR hL hc8 hwf (fun j hj => by rw [show (setA w 30 (upd (w.2.1 30) k x)).2.1 (25 + 1) j = c.2.1 2 j from a4 j (by omega)]; exact hk j hj)) (fun v18 h18 q18 => ?_)
  obtain ⟨rfl, w1, rfl, hl1, hd1⟩ := q18
  have hr1 : kRay w1 [] := kRay_0 hr00 (fun k9 h9 h8 => by rw [hl1.2.1 k9 (by omega)])
  obtain ⟨⟨b1, b2, b3⟩, b4, b5, b6, b7, b8, b9⟩ := hl1.a.ktr ht0
  show WP _ _ _ _ _ 21 _ [] (HP c w1 m v E) _
  refine wp_aload_n 0 d_X9_isMendedWith_21 rfl rfl ?_
  refine wp_getfield (v := .ref (42)) d_X9_isMendedWith_22 gf_X9_32 (hp_0 _ _ _ _ _) rfl ?_
  refine wp_aload_n 0 d_X9_isMendedWith_25 rfl rfl ?_
  refine wp_getfield (v := .ref (25)) d_X9_isMendedWith_26 gf_X9_19 (hp_0 _ _ _ _ _) rfl ?_
  refine wp_virtual0 (As := [.ref (25)]) d_X9_isMendedWith_29 lk_X9_210 mv_X5_through in_X5_through se_X5_through (Nat.le_of_ble_eq_true rfl) (Nat.le_of_ble_eq_true rfl) (hp_42 _ _ _ _ _) rfl (s_X5_through_25 (w := w1) (p := p) (b2.trans hp) hp4 (fun j hj => by rw [show w1.2.1 (25 + 8) j = c.2.1 9 j from b8 j (by omega)]; exact vp9 hn9 hln j hj) hr1) (fun v29 h29 q29 => ?_)
  obtain ⟨rfl, w2, rfl, hf2, hr2, he2⟩ := q29
  have hX : kSeen w2 (kAs c k x 6 1) (kAs c k x 6 2) (kAs c k x 6 3) (cTube (kAs c k x) 1 code cnt p) := by
    refine ⟨((hd1.f hf2).1).trans (hs0 1 (by decide)), ((hd1.f hf2).2.2.1).trans (hs0 3 (by decide)), ?_, by rw [cTube_len]; exact he2⟩
    have hE : w1.1 4204 = kAs c k x 6 2 := hd1.2.1.trans (hs0 2 (by decide))
    rw [hE] at hr2
    rw [← htb]
    rw [ktub_congr (n := n) (fun l hl => hd1.2.2.2.1 l hl) (fun l hl => hd1.2.2.2.2 l (by omega)) (fun j hj => by rw [show w1.2.1 (25 + 8) j = c.2.1 9 j from b8 j (by omega)]; exact hln j hj)] at hr2
    unfold cTube
    rw [← hl1.2.1 (25 + 8) (by decide), ← hl1.2.1 (25 + 9) (by decide)]
    exact hr2
  have he3 := hX.2.2.2
  rw [cTube_len] at he3
  have hA := hX.a
  have hB := hX.b
  rw [cTube_len] at hA hB
  show WP _ _ _ _ _ 32 _ [] (HP c w2 m v E) _
  refine wp_aload_n 0 d_X9_isMendedWith_32 rfl rfl ?_
  refine wp_getfield (v := .ref (42)) d_X9_isMendedWith_33 gf_X9_32 (hp_0 _ _ _ _ _) rfl ?_
  refine wp_vrt_i (As := []) (x0 := kb (kabs (w2.2.1 46 (p + 1)) + kabs (w2.2.1 48 (p + 1)) ≤ w2.1 4205)) (h1 := HP c w2 m v E) d_X9_isMendedWith_36 lk_X9_184 mv_X5_isMended in_X5_isMended se_X5_isMended (Nat.le_of_ble_eq_true rfl) (Nat.le_of_ble_eq_true rfl) (hp_42 _ _ _ _ _) rfl (s_X5_isMended (w := w2) he3 (by omega)) ?_
  refine wp_retb d_X9_isMendedWith_39 rfl ?_
  refine ⟨congrArg (fun z => some (Value.int z)) ?_, w2, rfl, hf2.a.ktr (hl1.a.ktr ht0), ?_, hr2.len (j := 0)⟩
  · rw [hA, hB, hX.2.1]
    rfl
  · refine kWf.tr ?_ (hl1.a.wf.tr hf2.a.wf)
    exact ⟨fun _ _ => rfl, fun k9 h9 => by simp only [setA]; rw [updA_n _ _ (by omega)], fun _ _ => rfl, rfl⟩
/-- up: the first one that is so -/
def kfr (P : Nat → Prop) [DecidablePred P] : Nat → Nat → Int32
  | 0, _ => -3
  | k + 1, j => if P j then nI j else kfr P k (j + 1)
theorem s_X9_heatFor_l {X : kX} {d : Nat} {c w m v : kZ} {E : kH} {n : Nat} (hn : c.1 100 = nI n) (hn9 : n ≤ 9) {rho cnt ka L : Nat} {code : Nat → Int32} (hrr : c.2.2.1 1 = rho) (hR : kRu E rho cnt ka L code) (hL : L < 2 ^ 20) (hc8 : cnt ≤ 8) (hwf : kWF code L cnt 0) (hk : ∀ j, j < n → 1 ≤ (c.2.1 2 j).toInt ∧ (c.2.1 2 j).toInt ≤ 5) {p : Nat} (hp : c.1 107 = nI p) (hp4 : p ≤ 4) (hln : ∀ j, j < p → vp_in (c.2.1 9 j) n) : ∀ (k : Nat) (j : Nat) (w' : kZ), (j + k = 10) → (kTr c w' 0) → (kWf w w') → (kRay w' []) → WP X (d + 8) 0 0 Y_X9_heatFor 13 [(1, .int (nI (j))), (0, .ref (0))] [] (HP c w' m v E) (fun r1 h1 => r1 = some (.int (kfr (fun j => cMend (kAs c 0 (nI j)) code cnt p) k j)) ∧ ∃ w1 : kZ, h1 = HP c w1 m v E ∧ kWf w w1 ∧ kRay w1 []) := by
  intro k
  induction k using Nat.strongRecOn with
  | ind k ih =>
    intro j w' hj ht hf hr
    refine wp_iload_n 0 d_X9_heatFor_13 rfl rfl ?_
    refine wp_getstab 3 d_X9_heatFor_14 (by decide) gs_X9_142 ?_
    refine wp_iconst (v0 := 0) d_X9_heatFor_17 rfl ?_
    refine wp_tabload (v := 9) d_X9_heatFor_18 (by decide) (show vp_in _ 4 from kin rfl) rfl ?_
    refine wp_ncmp_gt (a := j) (b := 9) 39 d_X9_heatFor_19 rfl (by omega) (by omega) (fun c19 => ?_) (fun c19 => ?_)
    · refine wp_bipush (v0 := -3) d_X9_heatFor_39 (by decide) ?_
      refine wp_reti d_X9_heatFor_41 rfl ?_
      obtain rfl : k = 0 := by omega
      exact ⟨rfl, w', rfl, hf, hr⟩
    · refine wp_aload_n 1 d_X9_heatFor_22 rfl rfl ?_
      refine wp_iconst (v0 := 0) d_X9_heatFor_23 rfl ?_
      refine wp_iload_n 0 d_X9_heatFor_24 rfl rfl ?_
      refine wp_virtual0 (As := [.int (0), .int (nI (j))]) d_X9_heatFor_25 lk_X9_213 mv_X9_isMendedWith in_X9_isMendedWith se_X9_isMendedWith (Nat.le_of_ble_eq_true rfl) (Nat.le_of_ble_eq_true rfl) (hp_0 _ _ _ _ _) rfl (s_X9_isMendedWith (w := w') hn hn9 hrr hR hL hc8 hwf hk hp hp4 hln hr (k := 0) (by decide) ht (nI j)) (fun v25 h25 q25 => ?_)
      obtain ⟨rfl, w2, rfl, ht2, hf2, hr2⟩ := q25
      show WP _ _ _ _ _ 28 _ [.int (kb (cMend (kAs c 0 (nI j)) code cnt p))] (HP c w2 m v E) _
      refine wp_ifb_eq 33 d_X9_heatFor_28 rfl (fun c28 => ?_) (fun c28 => ?_)
      · refine wp_iinc (v0 := nI ((j) + 1)) [(1, .int (nI ((j) + 1))), (0, .ref (0))] 0 d_X9_heatFor_33 rfl (nI_add (j) 1) (Nat.le_of_ble_eq_true rfl) rfl ?_
        refine wp_goto 13 d_X9_heatFor_36 rfl ?_
        obtain ⟨k1, rfl⟩ : ∃ k1, k = k1 + 1 := ⟨k - 1, by omega⟩
        simp only [kfr]
        rw [if_neg c28]
        refine wp_sub [(1, .int (nI ((j) + 1))), (0, .ref (0))] [0, 1] rfl ?_
        exact ih k1 (by omega) (j + 1) _ (by omega) ht2 (hf.tr hf2) hr2
      · refine wp_iload_n 0 d_X9_heatFor_31 rfl rfl ?_
        refine wp_reti d_X9_heatFor_32 rfl ?_
        obtain ⟨k1, rfl⟩ : ∃ k1, k = k1 + 1 := ⟨k - 1, by omega⟩
        refine ⟨?_, w2, rfl, hf.tr hf2, hr2⟩
        simp only [kfr]
        rw [if_pos c28]
theorem s_X9_heatFor {X : kX} {d : Nat} {c w m v : kZ} {E : kH} {n : Nat} (hn : c.1 100 = nI n) (hn9 : n ≤ 9) {rho cnt ka L : Nat} {code : Nat → Int32} (hrr : c.2.2.1 1 = rho) (hR : kRu E rho cnt ka L code) (hL : L < 2 ^ 20) (hc8 : cnt ≤ 8) (hwf : kWF code L cnt 0) (hk : ∀ j, j < n → 1 ≤ (c.2.1 2 j).toInt ∧ (c.2.1 2 j).toInt ≤ 5) {p : Nat} (hp : c.1 107 = nI p) (hp4 : p ≤ 4) (hln : ∀ j, j < p → vp_in (c.2.1 9 j) n) (hr0 : kRay w []) : WP X (d + 8) 0 0 Y_X9_heatFor 0 [(0, .ref (0))] [] (HP c w m v E) (fun r1 h1 => r1 = some (.int (kfr (fun j => cMend (kAs c 0 (nI j)) code cnt p) 10 0)) ∧ ∃ w1 : kZ, h1 = HP c w1 m v E ∧ kWf w w1 ∧ kRay w1 []) := by
  refine wp_aload_n 0 d_X9_heatFor_0 rfl rfl ?_
  refine wp_getfield (v := .ref (25)) d_X9_heatFor_1 gf_X9_19 (hp_0 _ _ _ _ _) rfl ?_
  refine wp_aload_n 0 d_X9_heatFor_4 rfl rfl ?_
  refine wp_getfield (v := .ref (1)) d_X9_heatFor_5 gf_X9_12 (hp_0 _ _ _ _ _) rfl ?_
  refine wp_virtual0 (As := [.ref (1)]) d_X9_heatFor_8 lk_X9_207 mv_X1_become in_X1_become se_X1_become (Nat.le_of_ble_eq_true rfl) (Nat.le_of_ble_eq_true rfl) (hp_25 _ _ _ _ _) rfl s_X1_become_25_1 (fun v8 h8 q8 => ?_)
  obtain ⟨rfl, w', rfl, hbc, hbf⟩ := q8
  show WP _ _ _ _ _ 11 _ [] (HP c w' m v E) _
  refine wp_iconst (v0 := 0) d_X9_heatFor_11 rfl ?_
  refine wp_istore_n [(1, .int (0)), (0, .ref (0))] d_X9_heatFor_12 rfl (Nat.le_of_ble_eq_true rfl) rfl ?_
  have ht9 := kTr.bec hbc
  have hf9 := hbf.wf
  have hr9 : kRay w' [] := kRay_0 hr0 (fun k9 h9 h8 => by rw [hbf.2.1 k9 (by omega)])
  refine wp_sub [(1, .int (0)), (0, .ref (0))] [0, 1] rfl ?_
  exact s_X9_heatFor_l hn hn9 hrr hR hL hc8 hwf hk hp hp4 hln 10 0 w' (by decide) (ht9 0) hf9 hr9
theorem s_X9_eyes_l {X : kX} {d : Nat} {c w m v : kZ} {E : kH} {n : Nat} (hn : c.1 100 = nI n) (hn9 : n ≤ 9) {rho cnt ka L : Nat} {code : Nat → Int32} (hrr : c.2.2.1 1 = rho) (hR : kRu E rho cnt ka L code) (hL : L < 2 ^ 20) (hc8 : cnt ≤ 8) (hwf : kWF code L cnt 0) (hk : ∀ j, j < n → 1 ≤ (c.2.1 2 j).toInt ∧ (c.2.1 2 j).toInt ≤ 5) {p : Nat} (hp : c.1 107 = nI p) (hp4 : p ≤ 4) (hln : ∀ j, j < p → vp_in (c.2.1 9 j) n) : ∀ (k : Nat) (j : Nat) (w' : kZ), (j + k = 19) → (kTr c w' 2) → (kWf w w') → (kRay w' []) → WP X (d + 8) 0 0 Y_X9_eyes 19 [(2, .int (nI j + (-9))), (1, .int (kcnt (fun j => cMend (kAs c 2 (nI j + (-9))) code cnt p) j)), (0, .ref (0))] [] (HP c w' m v E) (fun r1 h1 => r1 = some (.int (kcnt (fun j => cMend (kAs c 2 (nI j + (-9))) code cnt p) 19)) ∧ ∃ w1 : kZ, h1 = HP c w1 m v E ∧ kWf w w1 ∧ kRay w1 []) := by
  intro k
  induction k using Nat.strongRecOn with
  | ind k ih =>
    intro j w' hj ht hf hr
    refine wp_iload_n 0 d_X9_eyes_19 rfl rfl ?_
    refine wp_getstab 3 d_X9_eyes_20 (by decide) gs_X9_142 ?_
    refine wp_iconst (v0 := 2) d_X9_eyes_23 rfl ?_
    refine wp_tabload (v := 9) d_X9_eyes_24 (by decide) (show vp_in _ 4 from kin rfl) rfl ?_
    refine wp_icmp_gt 46 d_X9_eyes_25 rfl (fun c25 => ?_) (fun c25 => ?_)
    · refine wp_iload_n 1 d_X9_eyes_46 rfl rfl ?_
      refine wp_reti d_X9_eyes_47 rfl ?_
      have h9 := Int32.lt_iff_toInt_lt.mp c25
      rw [keye j (by omega), show (9 : Int32).toInt = 9 from by decide] at h9
      obtain rfl : j = 19 := by omega
      exact ⟨rfl, w', rfl, hf, hr⟩
    · have h9 := Int32.le_iff_toInt_le.mp (Int32.not_lt.mp c25)
      rw [keye j (by omega), show (9 : Int32).toInt = 9 from by decide] at h9
      refine wp_aload_n 2 d_X9_eyes_28 rfl rfl ?_
      refine wp_iconst (v0 := 2) d_X9_eyes_29 rfl ?_
      refine wp_iload_n 0 d_X9_eyes_30 rfl rfl ?_
      refine wp_virtual0 (As := [.int (2), .int (nI j + (-9))]) d_X9_eyes_31 lk_X9_213 mv_X9_isMendedWith in_X9_isMendedWith se_X9_isMendedWith (Nat.le_of_ble_eq_true rfl) (Nat.le_of_ble_eq_true rfl) (hp_0 _ _ _ _ _) rfl (s_X9_isMendedWith (w := w') hn hn9 hrr hR hL hc8 hwf hk hp hp4 hln hr (k := 2) (by decide) ht (nI j + (-9))) (fun v31 h31 q31 => ?_)
      obtain ⟨rfl, w2, rfl, ht2, hf2, hr2⟩ := q31
      show WP _ _ _ _ _ 34 _ [.int (kb (cMend (kAs c 2 (nI j + (-9))) code cnt p))] (HP c w2 m v E) _
      refine wp_ifb_eq 40 d_X9_eyes_34 rfl (fun c34 => ?_) (fun c34 => ?_)
      · refine wp_iinc (v0 := (nI j + (-9)) + (1)) [(2, .int ((nI j + (-9)) + (1))), (1, .int (kcnt (fun j => cMend (kAs c 2 (nI j + (-9))) code cnt p) j)), (0, .ref (0))] 0 d_X9_eyes_40 rfl rfl (Nat.le_of_ble_eq_true rfl) rfl ?_
        refine wp_goto 19 d_X9_eyes_43 rfl ?_
        obtain ⟨k1, rfl⟩ : ∃ k1, k = k1 + 1 := ⟨k - 1, by omega⟩
        refine wp_sub [(2, .int ((nI j + (-9)) + (1))), (1, .int (kcnt (fun j => cMend (kAs c 2 (nI j + (-9))) code cnt p) j)), (0, .ref (0))] [0, 1, 2] rfl ?_
        have e9 : kcnt (fun j => cMend (kAs c 2 (nI j + (-9))) code cnt p) (j + 1) = kcnt (fun j => cMend (kAs c 2 (nI j + (-9))) code cnt p) j := by
          simp only [kcnt]
          exact if_neg c34
        have e8 : nI j + (-9) + 1 = nI (j + 1) + (-9) := by rw [← nI_add j 1, Int32.add_assoc, Int32.add_assoc]; rfl
        rw [e8, ← e9]
        exact ih k1 (by omega) (j + 1) _ (by omega) ht2 (hf.tr hf2) hr2
      · refine wp_iinc (v0 := (kcnt (fun j => cMend (kAs c 2 (nI j + (-9))) code cnt p) j) + (1)) [(1, .int ((kcnt (fun j => cMend (kAs c 2 (nI j + (-9))) code cnt p) j) + (1))), (2, .int (nI j + (-9))), (0, .ref (0))] 1 d_X9_eyes_37 rfl rfl (Nat.le_of_ble_eq_true rfl) rfl ?_
        refine wp_iinc (v0 := (nI j + (-9)) + (1)) [(2, .int ((nI j + (-9)) + (1))), (1, .int ((kcnt (fun j => cMend (kAs c 2 (nI j + (-9))) code cnt p) j) + (1))), (0, .ref (0))] 1 d_X9_eyes_40 rfl rfl (Nat.le_of_ble_eq_true rfl) rfl ?_
        refine wp_goto 19 d_X9_eyes_43 rfl ?_
        obtain ⟨k1, rfl⟩ : ∃ k1, k = k1 + 1 := ⟨k - 1, by omega⟩
        refine wp_sub [(2, .int ((nI j + (-9)) + (1))), (1, .int ((kcnt (fun j => cMend (kAs c 2 (nI j + (-9))) code cnt p) j) + (1))), (0, .ref (0))] [0, 1, 2] rfl ?_
        have e9 : kcnt (fun j => cMend (kAs c 2 (nI j + (-9))) code cnt p) (j + 1) = (kcnt (fun j => cMend (kAs c 2 (nI j + (-9))) code cnt p) j) + (1) := by
          simp only [kcnt]
          exact if_pos c34
        have e8 : nI j + (-9) + 1 = nI (j + 1) + (-9) := by rw [← nI_add j 1, Int32.add_assoc, Int32.add_assoc]; rfl
        rw [e8, ← e9]
        exact ih k1 (by omega) (j + 1) _ (by omega) ht2 (hf.tr hf2) hr2
theorem s_X9_eyes {X : kX} {d : Nat} {c w m v : kZ} {E : kH} {n : Nat} (hn : c.1 100 = nI n) (hn9 : n ≤ 9) {rho cnt ka L : Nat} {code : Nat → Int32} (hrr : c.2.2.1 1 = rho) (hR : kRu E rho cnt ka L code) (hL : L < 2 ^ 20) (hc8 : cnt ≤ 8) (hwf : kWF code L cnt 0) (hk : ∀ j, j < n → 1 ≤ (c.2.1 2 j).toInt ∧ (c.2.1 2 j).toInt ≤ 5) {p : Nat} (hp : c.1 107 = nI p) (hp4 : p ≤ 4) (hln : ∀ j, j < p → vp_in (c.2.1 9 j) n) (hr0 : kRay w []) : WP X (d + 8) 0 0 Y_X9_eyes 0 [(0, .ref (0))] [] (HP c w m v E) (fun r1 h1 => r1 = some (.int (kcnt (fun j => cMend (kAs c 2 (nI j + (-9))) code cnt p) 19)) ∧ ∃ w1 : kZ, h1 = HP c w1 m v E ∧ kWf w w1 ∧ kRay w1 []) := by
  refine wp_aload_n 0 d_X9_eyes_0 rfl rfl ?_
  refine wp_getfield (v := .ref (25)) d_X9_eyes_1 gf_X9_19 (hp_0 _ _ _ _ _) rfl ?_
  refine wp_aload_n 0 d_X9_eyes_4 rfl rfl ?_
  refine wp_getfield (v := .ref (1)) d_X9_eyes_5 gf_X9_12 (hp_0 _ _ _ _ _) rfl ?_
  refine wp_virtual0 (As := [.ref (1)]) d_X9_eyes_8 lk_X9_207 mv_X1_become in_X1_become se_X1_become (Nat.le_of_ble_eq_true rfl) (Nat.le_of_ble_eq_true rfl) (hp_25 _ _ _ _ _) rfl s_X1_become_25_1 (fun v8 h8 q8 => ?_)
  obtain ⟨rfl, w', rfl, hbc, hbf⟩ := q8
  show WP _ _ _ _ _ 11 _ [] (HP c w' m v E) _
  refine wp_iconst (v0 := 0) d_X9_eyes_11 rfl ?_
  refine wp_istore_n [(1, .int (0)), (0, .ref (0))] d_X9_eyes_12 rfl (Nat.le_of_ble_eq_true rfl) rfl ?_
  refine wp_getstab 2 d_X9_eyes_13 (by decide) gs_X9_139 ?_
  refine wp_iconst (v0 := 2) d_X9_eyes_16 rfl ?_
  refine wp_tabload (v := (-9)) d_X9_eyes_17 (by decide) (show vp_in _ 4 from kin rfl) rfl ?_
  refine wp_istore_n [(2, .int ((-9))), (1, .int (0)), (0, .ref (0))] d_X9_eyes_18 rfl (Nat.le_of_ble_eq_true rfl) rfl ?_
  have ht9 := kTr.bec hbc
  have hf9 := hbf.wf
  have hr9 : kRay w' [] := kRay_0 hr0 (fun k9 h9 h8 => by rw [hbf.2.1 k9 (by omega)])
  refine wp_sub [(2, .int ((-9))), (1, .int (0)), (0, .ref (0))] [0, 1, 2] rfl ?_
  rw [show (-9 : Int32) = nI 0 + (-9) by decide]
  exact s_X9_eyes_l hn hn9 hrr hR hL hc8 hwf hk hp hp4 hln 19 0 w' (by decide) (ht9 2) hf9 hr9
