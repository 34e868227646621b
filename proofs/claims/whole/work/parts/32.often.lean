/-! ===== often ===== -/
def kdz (z : Int32) : Int32 := z * 1103515245 + 12345
def kdt (f : Int32 → Int32) (p : Nat) (z : Int32) (tn : Nat → Int32) : Nat → Int32 := upd tn (kz16 (kdz z) % p) (f (tn (kz16 (kdz z) % p)))
def kof (f : Int32 → Int32) (M : (Nat → Int32) → Prop) [DecidablePred M] (p : Nat) : Nat → Int32 → (Nat → Int32) → Int32 → Int32
  | 0, _, _, s => s
  | k + 1, z, tn, s => kof f M p k (kdz z) (kdt f p z tn) (if M (kdt f p z tn) then s + 1 else s)
abbrev kq4 (t : Int32) : Int32 := t + 1 - (t + 1) / 4 * 4
abbrev kq3 (t : Int32) : Int32 := (t + 1) &&& 3
theorem s_X1_drawn_k {X : kX} {d : Nat} {c w m v : kZ} {E : kH} {p : Nat} (hp : w.1 2507 = nI p) (hp4 : p ≤ 4) : WP X d 0 0 Y_X1_drawn 0 [(0, .ref (25))] [] (HP c w m v E) (fun r h1 => (p = 0 ∧ r = some (.int (-3)) ∧ h1 = HP c w m v E) ∨ (0 < p ∧ ∃ q : Nat, r = some (.int (nI q)) ∧ q < p ∧ h1 = HP c (setA (setS w 2513 (kdz (w.1 2513))) 34 (kdt kq4 p (w.1 2513) (w.2.1 34))) m v E)) := by
  refine wp_mono ?_ (s_X1_drawn_w hp hp4)
  rintro r h1 (h | ⟨h0, rfl, rfl⟩)
  · exact Or.inl h
  · exact Or.inr ⟨h0, _, rfl, Nat.mod_lt _ h0, rfl⟩
theorem kLd.conv {w : kZ} {g e lim g' e' lim' : Int32} {st tl st' tl' : Nat → Int32} {n : Nat} (h : kLd w g e lim st tl n) (hg : g = g') (he : e = e') (hl : lim = lim') (hs : ∀ l, l < n → st l = st' l) (ht : ∀ j, j < 9 → tl j = tl' j) : kLd w g' e' lim' st' tl' n := ⟨h.1.trans hg, h.2.1.trans he, h.2.2.1.trans hl, fun j hj => (h.2.2.2.1 j hj).trans (hs j hj), fun j hj => (h.2.2.2.2 j hj).trans (ht j hj)⟩
def kOx (c w : kZ) (code : Nat → Int32) (cnt n : Nat) (w' : kZ) : Prop := (w'.1 2507 = c.1 107 ∧ (∀ j, j < 4 → w'.2.1 33 j = c.2.1 9 j)) ∧ kLd w' (c.2.1 6 1) (c.2.1 6 2) (c.2.1 6 3) (fun l => kstr code cnt (c.2.1 6 0) (c.2.1 6 1) (c.2.1 6 2) (c.2.1 2 l) (c.2.1 3 l) l) (c.2.1 4) n ∧ kRay w' [] ∧ kWf w w'
theorem kOx.dr {c w w' : kZ} {code : Nat → Int32} {cnt n : Nat} (h : kOx c w code cnt n w') (z : Int32) (F : Nat → Int32) : kOx c w code cnt n (setA (setS w' 2513 z) 34 F) := by
  obtain ⟨⟨h1, h2⟩, h4, h5, h6⟩ := h
  exact ⟨⟨h1, h2⟩, h4, kRay_0 h5 (fun k9 h9 h8 => by simp only [setA, setS]; rw [updA_n _ _ (by omega)]), h6.tr ⟨fun k9 h9 => by simp only [setA, setS]; rw [upd_n _ _ (by omega)], fun k9 h9 => by simp only [setA, setS]; rw [updA_n _ _ (by omega)], fun _ _ => rfl, rfl⟩⟩
theorem kOx.lf {c w w' w2 : kZ} {code : Nat → Int32} {cnt n : Nat} (h : kOx c w code cnt n w') (g : kLf w' w2) (hr : kRay w2 []) : kOx c w code cnt n w2 := by
  obtain ⟨⟨h1, h2⟩, h4, h5, h6⟩ := h
  refine ⟨⟨(g.1 _ (by decide)).trans h1, ?_⟩, h4.f g, hr, h6.tr g.a.wf⟩
  rw [g.2.1 33 (by decide)]; exact h2
abbrev cofM (A : Nat → Nat → Int32) (code : Nat → Int32) (cnt p : Nat) (tn : Nat → Int32) : Prop := cwr (A 6 1) (A 6 2) (ktub (-9) 0 (fun l => kstr code cnt (A 6 0) (A 6 1) (A 6 2) (A 2 l) (A 3 l) l) (A 4) (A 9) tn p) ≤ A 6 3
theorem kdt_agree {f : Int32 → Int32} {p : Nat} {z : Int32} {tn tn' : Nat → Int32} (hp0 : 0 < p) (h : ∀ j, j < p → tn j = tn' j) : ∀ j, j < p → kdt f p z tn j = kdt f p z tn' j := by
  intro j hj
  unfold kdt
  rw [h _ (Nat.mod_lt _ hp0)]
  simp only [upd]
  split
  · rfl
  · exact h j hj
theorem s_X9_often_l {X : kX} {d : Nat} {c w m v : kZ} {E : kH} {n : Nat} (hn : c.1 100 = nI n) (hn9 : n ≤ 9) {rho cnt ka L : Nat} {code : Nat → Int32} (hrr : c.2.2.1 1 = rho) (hR : kRu E rho cnt ka L code) (hL : L < 2 ^ 20) (hc8 : cnt ≤ 8) (hwf : kWF code L cnt 0) (hk : ∀ j, j < n → 1 ≤ (c.2.1 2 j).toInt ∧ (c.2.1 2 j).toInt ≤ 5) {p : Nat} (hp : c.1 107 = nI p) (hp4 : p ≤ 4) (hln : ∀ j, j < p → vp_in (c.2.1 9 j) n) (hp0 : 0 < p) {N : Nat} (hN : N ≤ 60) : ∀ (k : Nat) (i : Nat) (w' : kZ) (z : Int32) (tn : Nat → Int32) (sm : Int32), (i + k = N) → (kOx c w code cnt n w') → (w'.1 2513 = z) → (∀ j, j < p → w'.2.1 34 j = tn j) → WP X (d + 8) 0 0 Y_X9_often 38 [(3, .int (nI (i))), (2, .int (sm)), (0, .ref (0)), (1, .int (nI (N)))] [] (HP c w' m v E) (fun r1 h1 => r1 = some (.int (kof kq4 (cofM c.2.1 code cnt p) p k z tn sm)) ∧ ∃ w1 : kZ, h1 = HP c w1 m v E ∧ kWf w w1 ∧ kRay w1 []) := by
  intro k
  induction k using Nat.strongRecOn with
  | ind k ih =>
    intro i w' z tn sm hi hO hz htn
    refine wp_iload_n 0 d_X9_often_38 rfl rfl ?_
    refine wp_iload_n 3 d_X9_often_39 rfl rfl ?_
    refine wp_ncmp_ge (a := i) (b := N) 87 d_X9_often_40 rfl (by omega) (by omega) (fun c40 => ?_) (fun c40 => ?_)
    · refine wp_iload_n 1 d_X9_often_87 rfl rfl ?_
      refine wp_reti d_X9_often_88 rfl ?_
      obtain rfl : k = 0 := by omega
      exact ⟨rfl, w', rfl, hO.2.2.2, hO.2.2.1⟩
    · refine wp_aload_n 2 d_X9_often_43 rfl rfl ?_
      refine wp_getfield (v := .ref (25)) d_X9_often_44 gf_X9_19 (hp_0 _ _ _ _ _) rfl ?_
      refine wp_virtual0 (As := []) d_X9_often_47 lk_X9_290 mv_X1_drawn in_X1_drawn se_X1_drawn (Nat.le_of_ble_eq_true rfl) (Nat.le_of_ble_eq_true rfl) (hp_25 _ _ _ _ _) rfl (s_X1_drawn_k (w := w') (hO.1.1.trans hp) hp4) (fun v47 h47 q47 => ?_)
      rcases q47 with ⟨h0, -, -⟩ | ⟨-, q9, rfl, hq9, rfl⟩
      · exact absurd h0 (by omega)
      have hO9 := hO.dr (kdz (w'.1 2513)) (kdt kq4 p (w'.1 2513) (w'.2.1 34))
      show WP _ _ _ _ _ 50 _ [.int (nI (q9))] (HP c (setA (setS w' 2513 (kdz (w'.1 2513))) 34 (kdt kq4 p (w'.1 2513) (w'.2.1 34))) m v E) _
      refine wp_bipush (v0 := -3) d_X9_often_50 (by decide) ?_
      refine wp_icmp_ne 57 d_X9_often_52 rfl (fun c52 => ?_) (fun c52 => ?_)
      · refine wp_aload_n 2 d_X9_often_57 rfl rfl ?_
        refine wp_getfield (v := .ref (42)) d_X9_often_58 gf_X9_32 (hp_0 _ _ _ _ _) rfl ?_
        refine wp_aload_n 2 d_X9_often_61 rfl rfl ?_
        refine wp_getfield (v := .ref (25)) d_X9_often_62 gf_X9_19 (hp_0 _ _ _ _ _) rfl ?_
        refine wp_virtual0 (As := [.ref (25)]) d_X9_often_65 lk_X9_210 mv_X5_through in_X5_through se_X5_through (Nat.le_of_ble_eq_true rfl) (Nat.le_of_ble_eq_true rfl) (hp_42 _ _ _ _ _) rfl (s_tr_through (w := (setA (setS w' 2513 (kdz (w'.1 2513))) 34 (kdt kq4 p (w'.1 2513) (w'.2.1 34)))) (ln := c.2.1 9) (tn := kdt kq4 p z tn) hn9 (hO9.1.1.trans hp) hp4 (fun j hj => hO9.1.2 j (by omega)) (fun j hj => by rw [← hz]; exact kdt_agree hp0 htn j hj) hln hO9.2.1 hO9.2.2.1) (fun v65 h65 q65 => ?_)
        obtain ⟨rfl, w2, rfl, hf2, hr2, hd2, hs2⟩ := q65
        have hO2 := hO9.lf hf2 hr2
        have he2 := hs2.2.2.2
        rw [ktub_len] at he2
        have hW : (kabs (w2.2.1 46 (p + 1)) + kabs (w2.2.1 48 (p + 1)) ≤ w2.1 4205) ↔ cofM c.2.1 code cnt p (kdt kq4 p z tn) := by
          have hA := hs2.a
          have hB := hs2.b
          rw [ktub_len] at hA hB
          rw [hA, hB, hs2.2.1]
          rfl
        have ht2 : ∀ j, j < p → w2.2.1 34 j = kdt kq4 p z tn j := by
          rw [hf2.2.1 34 (by decide), ← hz]
          exact kdt_agree hp0 htn
        have hz2 : w2.1 2513 = kdz z := by
          rw [hf2.1 2513 (by decide), ← hz]
          rfl
        show WP _ _ _ _ _ 68 _ [] (HP c w2 m v E) _
        refine wp_aload_n 2 d_X9_often_68 rfl rfl ?_
        refine wp_getfield (v := .ref (42)) d_X9_often_69 gf_X9_32 (hp_0 _ _ _ _ _) rfl ?_
        refine wp_vrt_i (As := []) (x0 := kb (kabs (w2.2.1 46 (p + 1)) + kabs (w2.2.1 48 (p + 1)) ≤ w2.1 4205)) (h1 := HP c w2 m v E) d_X9_often_72 lk_X9_184 mv_X5_isMended in_X5_isMended se_X5_isMended (Nat.le_of_ble_eq_true rfl) (Nat.le_of_ble_eq_true rfl) (hp_42 _ _ _ _ _) rfl (s_X5_isMended (w := w2) he2 (by omega)) ?_
        refine wp_ifb_eq 81 d_X9_often_75 rfl (fun c75 => ?_) (fun c75 => ?_)
        · refine wp_iinc (v0 := nI ((i) + 1)) [(3, .int (nI ((i) + 1))), (2, .int (sm)), (0, .ref (0)), (1, .int (nI (N)))] 0 d_X9_often_81 rfl (nI_add (i) 1) (Nat.le_of_ble_eq_true rfl) rfl ?_
          refine wp_goto 38 d_X9_often_84 rfl ?_
          obtain ⟨k1, rfl⟩ : ∃ k1, k = k1 + 1 := ⟨k - 1, by omega⟩
          refine wp_sub [(3, .int (nI ((i) + 1))), (2, .int (sm)), (0, .ref (0)), (1, .int (nI (N)))] [0, 1, 2, 3] rfl ?_
          have L := ih k1 (by omega) (i + 1) _ (kdz z) (kdt kq4 p z tn) (sm) (by omega) hO2 hz2 ht2
          refine wp_mono ?_ L
          rintro r1 h1 ⟨rfl, w3, rfl, hf3, hr3⟩
          refine ⟨congrArg (fun z => some (Value.int z)) ?_, w3, rfl, hf3, hr3⟩
          simp only [kof]
          rw [if_neg (fun q => c75 (hW.mpr q))]
        · refine wp_iinc (v0 := (sm) + (1)) [(2, .int ((sm) + (1))), (3, .int (nI (i))), (0, .ref (0)), (1, .int (nI (N)))] 1 d_X9_often_78 rfl rfl (Nat.le_of_ble_eq_true rfl) rfl ?_
          refine wp_iinc (v0 := nI ((i) + 1)) [(3, .int (nI ((i) + 1))), (2, .int ((sm) + (1))), (0, .ref (0)), (1, .int (nI (N)))] 1 d_X9_often_81 rfl (nI_add (i) 1) (Nat.le_of_ble_eq_true rfl) rfl ?_
          refine wp_goto 38 d_X9_often_84 rfl ?_
          obtain ⟨k1, rfl⟩ : ∃ k1, k = k1 + 1 := ⟨k - 1, by omega⟩
          refine wp_sub [(3, .int (nI ((i) + 1))), (2, .int ((sm) + (1))), (0, .ref (0)), (1, .int (nI (N)))] [0, 1, 2, 3] rfl ?_
          have L := ih k1 (by omega) (i + 1) _ (kdz z) (kdt kq4 p z tn) ((sm) + (1)) (by omega) hO2 hz2 ht2
          refine wp_mono ?_ L
          rintro r1 h1 ⟨rfl, w3, rfl, hf3, hr3⟩
          refine ⟨congrArg (fun z => some (Value.int z)) ?_, w3, rfl, hf3, hr3⟩
          simp only [kof]
          rw [if_pos (hW.mp c75)]
      · exact absurd c52 (by intro q; have q1 := congrArg Int32.toInt q; rw [nI_toInt (by omega), show (-3 : Int32).toInt = -3 from by decide] at q1; omega)
theorem s_X9_often {X : kX} {d : Nat} {c w m v : kZ} {E : kH} {n : Nat} (hn : c.1 100 = nI n) (hn9 : n ≤ 9) {rho cnt ka L : Nat} {code : Nat → Int32} (hrr : c.2.2.1 1 = rho) (hR : kRu E rho cnt ka L code) (hL : L < 2 ^ 20) (hc8 : cnt ≤ 8) (hwf : kWF code L cnt 0) (hk : ∀ j, j < n → 1 ≤ (c.2.1 2 j).toInt ∧ (c.2.1 2 j).toInt ≤ 5) {p : Nat} (hp : c.1 107 = nI p) (hp4 : p ≤ 4) (hln : ∀ j, j < p → vp_in (c.2.1 9 j) n) (hr0 : kRay w []) (x : Int32) : WP X (d + 8) 0 0 Y_X9_often 0 [(0, .ref (0)), (1, .int (x))] [] (HP c w m v E) (fun r1 h1 => (¬ (1 ≤ x.toInt ∧ x.toInt ≤ 60) ∧ r1 = some (.int (-1)) ∧ h1 = HP c w m v E) ∨ ∃ N : Nat, 1 ≤ N ∧ N ≤ 60 ∧ x = nI N ∧ r1 = some (.int (if p = 0 then 0 else kof kq4 (cofM c.2.1 code cnt p) p N (c.1 113) (c.2.1 10) 0)) ∧ ∃ w1 : kZ, h1 = HP c w1 m v E ∧ kWf w w1 ∧ kRay w1 []) := by
  refine wp_iload_n 1 d_X9_often_0 rfl rfl ?_
  refine wp_iconst (v0 := 1) d_X9_often_1 rfl ?_
  refine wp_bipush (v0 := 60) d_X9_often_2 (by decide) ?_
  refine wp_stc_i (As := [.int (x), .int (1), .int (60)]) (x0 := kb (1 ≤ (x : Int32).toInt ∧ (x : Int32).toInt ≤ 60)) (h1 := HP c w m v E) d_X9_often_4 lk_X9_98 mv_X9_isWithin st_X9_isWithin (Nat.le_of_ble_eq_true rfl) (Nat.le_of_ble_eq_true rfl) (s_X9_isWithin _ (x : Int32) (1 : Int32) (60 : Int32)) ?_
  refine wp_ifb_ne 12 d_X9_often_7 rfl (fun c7 => ?_) (fun c7 => ?_)
  · obtain ⟨N, hN, rfl⟩ := k_natle (n := 60) ⟨by omega, c7.2⟩
    have hN1 : 1 ≤ N := by
      have q9 := c7.1
      rw [nI_toInt (by omega)] at q9
      omega
    refine wp_aload_n 0 d_X9_often_12 rfl rfl ?_
    refine wp_getfield (v := .ref (25)) d_X9_often_13 gf_X9_19 (hp_0 _ _ _ _ _) rfl ?_
    refine wp_aload_n 0 d_X9_often_16 rfl rfl ?_
    refine wp_getfield (v := .ref (1)) d_X9_often_17 gf_X9_12 (hp_0 _ _ _ _ _) rfl ?_
    refine wp_virtual0 (As := [.ref (1)]) d_X9_often_20 lk_X9_207 mv_X1_become in_X1_become se_X1_become (Nat.le_of_ble_eq_true rfl) (Nat.le_of_ble_eq_true rfl) (hp_25 _ _ _ _ _) rfl s_X1_become_25_1 (fun v20 h20 q20 => ?_)
    obtain ⟨rfl, w', rfl, hbc, hbf⟩ := q20
    obtain ⟨⟨a1, a2, a3⟩, a4, a5, a6, a7, a8, a9⟩ := kTr.bec hbc 4
    show WP _ _ _ _ _ 23 _ [] (HP c w' m v E) _
    refine wp_aload_n 0 d_X9_often_23 rfl rfl ?_
    refine wp_getfield (v := .ref (42)) d_X9_often_24 gf_X9_32 (hp_0 _ _ _ _ _) rfl ?_
    refine wp_aload_n 0 d_X9_often_27 rfl rfl ?_
    refine wp_getfield (v := .ref (25)) d_X9_often_28 gf_X9_19 (hp_0 _ _ _ _ _) rfl ?_
    refine wp_virtual0 (As := [.ref (25)]) d_X9_often_31 lk_X9_121 mv_X5_load in_X5_load se_X5_load (Nat.le_of_ble_eq_true rfl) (Nat.le_of_ble_eq_true rfl) (hp_42 _ _ _ _ _) rfl (s_X5_load_25 (w := w') (a1.trans hn) hn9 (a3.trans hrr) hR hL hc8 hwf (fun j hj => by rw [show w'.2.1 (25 + 1) j = c.2.1 2 j from a4 j (by omega)]; exact hk j hj)) (fun v31 h31 q31 => ?_)
    obtain ⟨rfl, w1, rfl, hl1, hd1⟩ := q31
    have hr1 : kRay w1 [] := kRay_0 hr0 (fun k9 h9 h8 => by rw [hl1.2.1 k9 (by omega), hbf.2.1 k9 (by omega)])
    have hO : kOx c w code cnt n w1 := by
      refine ⟨⟨(hl1.1 _ (by decide)).trans a2, ?_⟩, ?_, hr1, hbf.wf.tr hl1.a.wf⟩
      · rw [hl1.2.1 33 (by decide)]; exact a8
      · refine hd1.conv (a7 1 (by decide) (by decide)) (a7 2 (by decide) (by decide)) (a7 3 (by decide) (by decide)) (fun l hl => ?_) (fun j hj => a6 j hj)
        have b0 : w'.2.1 (25 + 5) 0 = c.2.1 6 0 := a7 0 (by decide) (by decide)
        have b1 : w'.2.1 (25 + 5) 1 = c.2.1 6 1 := a7 1 (by decide) (by decide)
        have b2 : w'.2.1 (25 + 5) 2 = c.2.1 6 2 := a7 2 (by decide) (by decide)
        have b3 : w'.2.1 (25 + 1) l = c.2.1 2 l := a4 l (by omega)
        have b4 : w'.2.1 (25 + 2) l = c.2.1 3 l := a5 l (by omega)
        rw [b0, b1, b2, b3, b4]
    have hz1 : w1.1 2513 = c.1 113 := (hl1.1 _ (by decide)).trans hbc.1.2.2.2
    have htn1 : ∀ j, j < p → w1.2.1 34 j = c.2.1 10 j := by
      rw [hl1.2.1 34 (by decide)]
      exact fun j hj => a9 j (by omega)
    show WP _ _ _ _ _ 34 _ [] (HP c w1 m v E) _
    refine wp_iconst (v0 := 0) d_X9_often_34 rfl ?_
    refine wp_istore_n [(2, .int (0)), (0, .ref (0)), (1, .int (nI (N)))] d_X9_often_35 rfl (Nat.le_of_ble_eq_true rfl) rfl ?_
    refine wp_iconst (v0 := 0) d_X9_often_36 rfl ?_
    refine wp_istore_n [(3, .int (0)), (2, .int (0)), (0, .ref (0)), (1, .int (nI (N)))] d_X9_often_37 rfl (Nat.le_of_ble_eq_true rfl) rfl ?_
    rcases Nat.eq_zero_or_pos p with hp0 | hp0
    · refine wp_iload_n 0 d_X9_often_38 rfl rfl ?_
      refine wp_iload_n 3 d_X9_often_39 rfl rfl ?_
      refine wp_ncmp_ge (a := 0) (b := N) 87 d_X9_often_40 rfl (by omega) (by omega) (fun c40 => ?_) (fun c40 => ?_)
      · refine wp_iload_n 1 d_X9_often_87 rfl rfl ?_
        refine wp_reti d_X9_often_88 rfl ?_
        exfalso
        omega
      · refine wp_aload_n 2 d_X9_often_43 rfl rfl ?_
        refine wp_getfield (v := .ref (25)) d_X9_often_44 gf_X9_19 (hp_0 _ _ _ _ _) rfl ?_
        refine wp_virtual0 (As := []) d_X9_often_47 lk_X9_290 mv_X1_drawn in_X1_drawn se_X1_drawn (Nat.le_of_ble_eq_true rfl) (Nat.le_of_ble_eq_true rfl) (hp_25 _ _ _ _ _) rfl (s_X1_drawn_k (w := w1) (hO.1.1.trans hp) hp4) (fun v47 h47 q47 => ?_)
        rcases q47 with ⟨-, rfl, rfl⟩ | ⟨h0, -⟩
        rotate_left
        · exact absurd h0 (by omega)
        show WP _ _ _ _ _ 50 _ [.int ((-3))] (HP c w1 m v E) _
        refine wp_bipush (v0 := -3) d_X9_often_50 (by decide) ?_
        refine wp_icmp_ne 57 d_X9_often_52 rfl (fun z => absurd z (by decide)) (fun _ => ?_)
        refine wp_iconst (v0 := 0) d_X9_often_55 rfl ?_
        refine wp_reti d_X9_often_56 rfl ?_
        refine Or.inr ⟨N, hN1, hN, rfl, ?_, w1, rfl, hO.2.2.2, hO.2.2.1⟩
        rw [if_pos hp0]
    · refine wp_sub [(3, .int (0)), (2, .int (0)), (0, .ref (0)), (1, .int (nI (N)))] [0, 1, 2, 3] rfl ?_
      refine wp_mono ?_ (s_X9_often_l (w := w) hn hn9 hrr hR hL hc8 hwf hk hp hp4 hln hp0 hN N 0 w1 (c.1 113) (c.2.1 10) 0 (by omega) hO hz1 htn1)
      rintro r1 h1 ⟨rfl, w3, rfl, hf3, hr3⟩
      exact Or.inr ⟨N, hN1, hN, rfl, by rw [if_neg (by omega)], w3, rfl, hf3, hr3⟩
  · refine wp_iconst (v0 := -1) d_X9_often_10 rfl ?_
    refine wp_reti d_X9_often_11 rfl ?_
    exact Or.inl ⟨c7, rfl, rfl⟩
