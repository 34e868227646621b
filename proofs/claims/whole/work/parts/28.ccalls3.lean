/-! ===== the class: fix, change ===== -/
theorem s_tr_through {X : kX} {d : Nat} {c w m v : kZ} {E : kH} {n p : Nat} (hn9 : n ≤ 9) (hp : w.1 2507 = nI p) (hp4 : p ≤ 4) {ln tn : Nat → Int32} (hl : ∀ j, j < p → w.2.1 33 j = ln j) (ht : ∀ j, j < p → w.2.1 34 j = tn j) (hln : ∀ j, j < p → vp_in (ln j) n) {g e lim : Int32} {st tl : Nat → Int32} (hd : kLd w g e lim st tl n) (hr : kRay w []) : WP X (d + 3) 0 0 Y_X5_through 0 [(0, .ref 42), (1, .ref 25)] [] (HP c w m v E) (fun r1 h1 => r1 = none ∧ ∃ w2 : kZ, h1 = HP c w2 m v E ∧ kLf w w2 ∧ kRay w2 [] ∧ kLd w2 g e lim st tl n ∧ kSeen w2 g e lim (ktub (-9) 0 st tl ln tn p)) := by
  have hv : ∀ j, j < p → vp_in (w.2.1 (25 + 8) j) n := fun j hj => by rw [show w.2.1 (25 + 8) j = ln j from hl j hj]; exact hln j hj
  have L := s_X5_through_25 (X := X) (d := d) (c := c) (w := w) (m := m) (v := v) (E := E) (p := p) hp hp4 (vp9 hn9 hv) hr
  refine wp_mono ?_ L
  rintro r1 h1 ⟨rfl, w2, rfl, hf, hr2, he⟩
  refine ⟨rfl, w2, rfl, hf, hr2.len (j := 0), hd.f hf, (hd.f hf).1, (hd.f hf).2.2.1, ?_, by rw [ktub_len]; exact he⟩
  rw [hd.2.1] at hr2
  rw [← ktub_congr2 (n := n) (ln := w.2.1 (25 + 8)) (tn := w.2.1 (25 + 9)) (fun l hl => hd.2.2.2.1 l hl) (fun l hl => hd.2.2.2.2 l (by omega)) hln hl ht]
  exact hr2
/-- while fix and change try: light is loaded by the bench, the trial's places are as they were, but for turn q -/
def kFx (c w : kZ) (code : Nat → Int32) (cnt n q : Nat) (w' : kZ) : Prop := (w'.1 2507 = c.1 107 ∧ (∀ j, j < 4 → w'.2.1 33 j = c.2.1 9 j) ∧ (∀ j, j < 4 → j ≠ q → w'.2.1 34 j = c.2.1 10 j)) ∧ kLd w' (c.2.1 6 1) (c.2.1 6 2) (c.2.1 6 3) (fun l => kstr code cnt (c.2.1 6 0) (c.2.1 6 1) (c.2.1 6 2) (c.2.1 2 l) (c.2.1 3 l) l) (c.2.1 4) n ∧ kRay w' [] ∧ kWf w w'
theorem kFx.put {c w w' : kZ} {code : Nat → Int32} {cnt n q i : Nat} (h : kFx c w code cnt n q w') (hq : q = i ∨ 4 ≤ q) (x : Int32) : kFx c w code cnt n i (setA w' 34 (upd (w'.2.1 34) i x)) := by
  obtain ⟨⟨h1, h2, h3⟩, h4, h5, h6⟩ := h
  refine ⟨⟨h1, h2, fun j hj hi => ?_⟩, h4, kRay_0 h5 (fun k9 h9 h8 => by simp only [setA]; rw [updA_n _ _ (by omega)]), h6.tr ⟨fun _ _ => rfl, fun k9 h9 => by simp only [setA]; rw [updA_n _ _ (by omega)], fun _ _ => rfl, rfl⟩⟩
  show upd (w'.2.1 34) i x j = _
  rw [upd_n _ _ hi]
  exact h3 j hj (by omega)
theorem kFx.back {c w w' : kZ} {code : Nat → Int32} {cnt n i : Nat} (h : kFx c w code cnt n i w') : kFx c w code cnt n 4 (setA w' 34 (upd (w'.2.1 34) i (c.2.1 10 i))) := by
  obtain ⟨⟨h1, h2, h3⟩, h4, h5, h6⟩ := h.put (Or.inl rfl) (c.2.1 10 i)
  refine ⟨⟨h1, h2, fun j hj _ => ?_⟩, h4, h5, h6⟩
  by_cases e : j = i
  · subst e
    exact upd_s _ _ _
  · exact h3 j hj e
theorem kFx.lf {c w w' w2 : kZ} {code : Nat → Int32} {cnt n q : Nat} (h : kFx c w code cnt n q w') (g : kLf w' w2) (hr : kRay w2 []) : kFx c w code cnt n q w2 := by
  obtain ⟨⟨h1, h2, h3⟩, h4, h5, h6⟩ := h
  refine ⟨⟨(g.1 _ (by decide)).trans h1, ?_, ?_⟩, h4.f g, hr, h6.tr g.a.wf⟩
  · rw [g.2.1 33 (by decide)]; exact h2
  · rw [g.2.1 34 (by decide)]; exact h3
def cfixW (A : Nat → Nat → Int32) (code : Nat → Int32) (cnt p : Nat) (i t : Nat) : Int32 := cwr (A 6 1) (A 6 2) (ktub (-9) 0 (fun l => kstr code cnt (A 6 0) (A 6 1) (A 6 2) (A 2 l) (A 3 l) l) (A 4) (A 9) (upd (A 10) i (nI t)) p)
def cchgW (A : Nat → Nat → Int32) (code : Nat → Int32) (cnt p : Nat) (i q : Nat) : Int32 := cwr (A 6 1) (A 6 2) (ktub (-9) 0 (fun l => kstr code cnt (A 6 0) (A 6 1) (A 6 2) (A 2 l) (A 3 l) l) (A 4) (swp (A 9) i q) (swp (A 10) i q) p)
theorem s_X9_fix_i {X : kX} {d : Nat} {c w m v : kZ} {E : kH} {n : Nat} (hn : c.1 100 = nI n) (hn9 : n ≤ 9) {rho cnt ka L : Nat} {code : Nat → Int32} (hrr : c.2.2.1 1 = rho) (hR : kRu E rho cnt ka L code) (hL : L < 2 ^ 20) (hc8 : cnt ≤ 8) (hwf : kWF code L cnt 0) (hk : ∀ j, j < n → 1 ≤ (c.2.1 2 j).toInt ∧ (c.2.1 2 j).toInt ≤ 5) {p : Nat} (hp : c.1 107 = nI p) (hp4 : p ≤ 4) (hln : ∀ j, j < p → vp_in (c.2.1 9 j) n) {i : Nat} (hi : i < p) (s0 : kP2) {Q : Option Value → kH → Prop} (K : ∀ w2 : kZ, kFx c w code cnt n i w2 → WP X (d + 8) 0 0 Y_X9_fix 103 [(4, .int 4), (3, .int (nI i)), (2, .int (ksIn (cfixW c.2.1 code cnt p) s0 i 0 4).2), (1, .int (ksIn (cfixW c.2.1 code cnt p) s0 i 0 4).1), (0, .ref 0)] [] (HP c w2 m v E) Q) : ∀ (k : Nat) (t : Nat) (w' : kZ), (t + k = 4) → (∃ q, (q = i ∨ 4 ≤ q) ∧ kFx c w code cnt n q w') → WP X (d + 8) 0 0 Y_X9_fix 42 [(4, .int (nI (t))), (3, .int (nI (i))), (2, .int ((ksIn (cfixW c.2.1 code cnt p) s0 i 0 t).2)), (1, .int ((ksIn (cfixW c.2.1 code cnt p) s0 i 0 t).1)), (0, .ref (0))] [] (HP c w' m v E) Q := by
  intro k
  induction k using Nat.strongRecOn with
  | ind k ih =>
    intro t w' hti hF0
    obtain ⟨q9, hq9, hF⟩ := hF0
    have hF : kFx c w code cnt n i w' := ⟨⟨hF.1.1, hF.1.2.1, fun j hj hji => hF.1.2.2 j hj (by omega)⟩, hF.2⟩
    have hF1 := hF.put (Or.inl rfl) (nI t)
    refine wp_iload 0 d_X9_fix_42 rfl ?_
    refine wp_iconst (v0 := 4) d_X9_fix_44 rfl ?_
    refine wp_ncmp_ge (a := t) (b := 4) 103 d_X9_fix_45 rfl (by omega) (by omega) (fun c45 => ?_) (fun c45 => ?_)
    · obtain rfl : k = 0 := by omega
      obtain rfl : t = 4 := by omega
      exact K w' hF
    · refine wp_aload_n 4 d_X9_fix_48 rfl rfl ?_
      refine wp_getfield (v := .ref (25)) d_X9_fix_49 gf_X9_19 (hp_0 _ _ _ _ _) rfl ?_
      refine wp_getfield (v := .ref (34)) d_X9_fix_52 gf_X9_197 (hp_25 _ _ _ _ _) rfl ?_
      refine wp_iload_n 1 d_X9_fix_55 rfl rfl ?_
      refine wp_iload 0 d_X9_fix_56 rfl ?_
      refine wp_iastore (h' := HP c (setA w' 34 (upd (w'.2.1 34) (i) (nI (t)))) m v E) d_X9_fix_58 (hp_34 _ _ _ _ _) (vp_in_nI (by omega) (by omega)) (by rw [nI_clamp (by omega)]; exact (hpa_34 _ _ _ _ _ _)) ?_
      refine wp_aload_n 4 d_X9_fix_59 rfl rfl ?_
      refine wp_getfield (v := .ref (42)) d_X9_fix_60 gf_X9_32 (hp_0 _ _ _ _ _) rfl ?_
      refine wp_aload_n 4 d_X9_fix_63 rfl rfl ?_
      refine wp_getfield (v := .ref (25)) d_X9_fix_64 gf_X9_19 (hp_0 _ _ _ _ _) rfl ?_
      refine wp_virtual0 (As := [.ref (25)]) d_X9_fix_67 lk_X9_210 mv_X5_through in_X5_through se_X5_through (Nat.le_of_ble_eq_true rfl) (Nat.le_of_ble_eq_true rfl) (hp_42 _ _ _ _ _) rfl (s_tr_through (w := (setA w' 34 (upd (w'.2.1 34) (i) (nI (t))))) (ln := c.2.1 9) (tn := upd (c.2.1 10) i (nI t)) hn9 (hF1.1.1.trans hp) hp4 (fun j hj => hF1.1.2.1 j (by omega)) (fun j hj => by show upd (w'.2.1 34) i (nI t) j = _; by_cases e : j = i; (subst e; rw [upd_s, upd_s]); (rw [upd_n _ _ e, upd_n _ _ e]; exact hF.1.2.2 j (by omega) e)) hln hF1.2.1 hF1.2.2.1) (fun v67 h67 q67 => ?_)
      obtain ⟨rfl, w2, rfl, hf2, hr2, hd2, hs2⟩ := q67
      have hF2 := hF1.lf hf2 hr2
      have he2 := hs2.2.2.2
      rw [ktub_len] at he2
      have hW : kabs (w2.2.1 46 (p + 1)) + kabs (w2.2.1 48 (p + 1)) = cfixW c.2.1 code cnt p i t := by
        have hA := hs2.a
        have hB := hs2.b
        rw [ktub_len] at hA hB
        rw [hA, hB]
        rfl
      show WP _ _ _ _ _ 70 _ [] (HP c w2 m v E) _
      refine wp_aload_n 4 d_X9_fix_70 rfl rfl ?_
      refine wp_getfield (v := .ref (42)) d_X9_fix_71 gf_X9_32 (hp_0 _ _ _ _ _) rfl ?_
      refine wp_vrt_i (As := []) (x0 := cfixW c.2.1 code cnt p i t) (h1 := HP c w2 m v E) d_X9_fix_74 lk_X9_181 mv_X5_wrongSeen in_X5_wrongSeen se_X5_wrongSeen (Nat.le_of_ble_eq_true rfl) (Nat.le_of_ble_eq_true rfl) (hp_42 _ _ _ _ _) rfl (hW ▸ s_X5_wrongSeen (X := X) (c := c) (w := w2) (m := m) (v := v) (E := E) he2 (by omega)) ?_
      refine wp_iload_n 3 d_X9_fix_77 rfl rfl ?_
      refine wp_icmp_ge 97 d_X9_fix_78 rfl (fun c78 => ?_) (fun c78 => ?_)
      · refine wp_iinc (v0 := nI ((t) + 1)) [(4, .int (nI ((t) + 1))), (3, .int (nI (i))), (2, .int ((ksIn (cfixW c.2.1 code cnt p) s0 i 0 t).2)), (1, .int ((ksIn (cfixW c.2.1 code cnt p) s0 i 0 t).1)), (0, .ref (0))] 0 d_X9_fix_97 rfl (nI_add (t) 1) (Nat.le_of_ble_eq_true rfl) rfl ?_
        refine wp_goto 42 d_X9_fix_100 rfl ?_
        obtain ⟨k1, rfl⟩ : ∃ k1, k = k1 + 1 := ⟨k - 1, by omega⟩
        refine wp_sub [(4, .int (nI ((t) + 1))), (3, .int (nI (i))), (2, .int ((ksIn (cfixW c.2.1 code cnt p) s0 i 0 t).2)), (1, .int ((ksIn (cfixW c.2.1 code cnt p) s0 i 0 t).1)), (0, .ref (0))] [0, 1, 2, 3, 4] rfl ?_
        have e9 := ksIn_f (W := (cfixW c.2.1 code cnt p)) (s := s0) (i := i) (a := 0) (k := t) (q := t) (Nat.zero_add t) (Int32.not_lt.mpr c78)
        have L := ih k1 (by omega) (t + 1) _ (by omega) ⟨i, Or.inl rfl, hF2⟩
        rw [e9] at L
        exact L
      · refine wp_aload_n 4 d_X9_fix_81 rfl rfl ?_
        refine wp_getfield (v := .ref (42)) d_X9_fix_82 gf_X9_32 (hp_0 _ _ _ _ _) rfl ?_
        refine wp_vrt_i (As := []) (x0 := cfixW c.2.1 code cnt p i t) (h1 := HP c w2 m v E) d_X9_fix_85 lk_X9_181 mv_X5_wrongSeen in_X5_wrongSeen se_X5_wrongSeen (Nat.le_of_ble_eq_true rfl) (Nat.le_of_ble_eq_true rfl) (hp_42 _ _ _ _ _) rfl (hW ▸ s_X5_wrongSeen (X := X) (c := c) (w := w2) (m := m) (v := v) (E := E) he2 (by omega)) ?_
        refine wp_istore_n [(1, .int (cfixW c.2.1 code cnt p i t)), (4, .int (nI (t))), (3, .int (nI (i))), (2, .int ((ksIn (cfixW c.2.1 code cnt p) s0 i 0 t).2)), (0, .ref (0))] d_X9_fix_88 rfl (Nat.le_of_ble_eq_true rfl) rfl ?_
        refine wp_bipush (v0 := 10) d_X9_fix_89 (by decide) ?_
        refine wp_iload_n 2 d_X9_fix_91 rfl rfl ?_
        refine wp_imul d_X9_fix_92 ?_
        refine wp_v (v0 := nI ((10) * (i))) (pk_mul (10) (i)) ?_
        refine wp_iload 1 d_X9_fix_93 rfl ?_
        refine wp_iadd d_X9_fix_95 ?_
        refine wp_v (v0 := nI (((10) * (i)) + (t))) (nI_add ((10) * (i)) (t)) ?_
        refine wp_istore_n [(2, .int (nI (((10) * (i)) + (t)))), (1, .int (cfixW c.2.1 code cnt p i t)), (4, .int (nI (t))), (3, .int (nI (i))), (0, .ref (0))] d_X9_fix_96 rfl (Nat.le_of_ble_eq_true rfl) rfl ?_
        refine wp_iinc (v0 := nI ((t) + 1)) [(4, .int (nI ((t) + 1))), (2, .int (nI (((10) * (i)) + (t)))), (1, .int (cfixW c.2.1 code cnt p i t)), (3, .int (nI (i))), (0, .ref (0))] 2 d_X9_fix_97 rfl (nI_add (t) 1) (Nat.le_of_ble_eq_true rfl) rfl ?_
        refine wp_goto 42 d_X9_fix_100 rfl ?_
        obtain ⟨k1, rfl⟩ : ∃ k1, k = k1 + 1 := ⟨k - 1, by omega⟩
        refine wp_sub [(4, .int (nI ((t) + 1))), (3, .int (nI (i))), (2, .int (nI (((10) * (i)) + (t)))), (1, .int (cfixW c.2.1 code cnt p i t)), (0, .ref (0))] [0, 3, 1, 2, 4] rfl ?_
        have e9 := ksIn_t (W := (cfixW c.2.1 code cnt p)) (s := s0) (i := i) (a := 0) (k := t) (q := t) (Nat.zero_add t) (Int32.not_le.mp c78)
        have L := ih k1 (by omega) (t + 1) _ (by omega) ⟨i, Or.inl rfl, hF2⟩
        rw [e9] at L
        exact L
theorem s_X9_fix_o {X : kX} {d : Nat} {c w m v : kZ} {E : kH} {n : Nat} (hn : c.1 100 = nI n) (hn9 : n ≤ 9) {rho cnt ka L : Nat} {code : Nat → Int32} (hrr : c.2.2.1 1 = rho) (hR : kRu E rho cnt ka L code) (hL : L < 2 ^ 20) (hc8 : cnt ≤ 8) (hwf : kWF code L cnt 0) (hk : ∀ j, j < n → 1 ≤ (c.2.1 2 j).toInt ∧ (c.2.1 2 j).toInt ≤ 5) {p : Nat} (hp : c.1 107 = nI p) (hp4 : p ≤ 4) (hln : ∀ j, j < p → vp_in (c.2.1 9 j) n) (s0 : kP2) : ∀ (k : Nat) (i : Nat) (w' : kZ), (i + k = p) → (kFx c w code cnt n 4 w') → WP X (d + 8) 0 0 Y_X9_fix 28 [(3, .int (nI (i))), (2, .int ((ksOut (cfixW c.2.1 code cnt p) (fun _ => 0) (fun _ => 4) s0 i).2)), (1, .int ((ksOut (cfixW c.2.1 code cnt p) (fun _ => 0) (fun _ => 4) s0 i).1)), (0, .ref (0))] [] (HP c w' m v E) (fun r1 h1 => r1 = some (.int ((ksOut (cfixW c.2.1 code cnt p) (fun _ => 0) (fun _ => 4) s0 p).2)) ∧ ∃ w1 : kZ, h1 = HP c w1 m v E ∧ kWf w w1 ∧ kRay w1 []) := by
  intro k
  induction k using Nat.strongRecOn with
  | ind k ih =>
    intro i w' hi hF
    refine wp_iload_n 0 d_X9_fix_28 rfl rfl ?_
    refine wp_aload_n 3 d_X9_fix_29 rfl rfl ?_
    refine wp_getfield (v := .ref (1)) d_X9_fix_30 gf_X9_12 (hp_0 _ _ _ _ _) rfl ?_
    refine wp_getfield (v := .int (nI (p))) d_X9_fix_33 gf_X9_191 (hp_1 _ _ _ _ _) (congrArg (fun z => some (Value.int z)) hp) ?_
    refine wp_ncmp_ge (a := i) (b := p) 127 d_X9_fix_36 rfl (by omega) (by omega) (fun c36 => ?_) (fun c36 => ?_)
    · refine wp_iload_n 1 d_X9_fix_127 rfl rfl ?_
      refine wp_reti d_X9_fix_128 rfl ?_
      obtain rfl : k = 0 := by omega
      obtain rfl : i = p := by omega
      exact ⟨rfl, w', rfl, hF.2.2.2, hF.2.2.1⟩
    · refine wp_iconst (v0 := 0) d_X9_fix_39 rfl ?_
      refine wp_istore [(4, .int (0)), (3, .int (nI (i))), (2, .int ((ksOut (cfixW c.2.1 code cnt p) (fun _ => 0) (fun _ => 4) s0 i).2)), (1, .int ((ksOut (cfixW c.2.1 code cnt p) (fun _ => 0) (fun _ => 4) s0 i).1)), (0, .ref (0))] d_X9_fix_40 (Nat.le_of_ble_eq_true rfl) rfl ?_
      refine wp_sub [(4, .int (0)), (3, .int (nI (i))), (2, .int ((ksOut (cfixW c.2.1 code cnt p) (fun _ => 0) (fun _ => 4) s0 i).2)), (1, .int ((ksOut (cfixW c.2.1 code cnt p) (fun _ => 0) (fun _ => 4) s0 i).1)), (0, .ref (0))] [0, 1, 2, 3, 4] rfl ?_
      refine s_X9_fix_i hn hn9 hrr hR hL hc8 hwf hk hp hp4 hln (i := i) (by omega) (ksOut (cfixW c.2.1 code cnt p) (fun _ => 0) (fun _ => 4) s0 i) (fun w2 hF2 => ?_) 4 0 w' (by omega) ⟨4, Or.inr (by decide), hF⟩
      refine wp_aload_n 4 d_X9_fix_103 rfl rfl ?_
      refine wp_getfield (v := .ref (25)) d_X9_fix_104 gf_X9_19 (hp_0 _ _ _ _ _) rfl ?_
      refine wp_getfield (v := .ref (34)) d_X9_fix_107 gf_X9_197 (hp_25 _ _ _ _ _) rfl ?_
      refine wp_iload_n 1 d_X9_fix_110 rfl rfl ?_
      refine wp_aload_n 4 d_X9_fix_111 rfl rfl ?_
      refine wp_getfield (v := .ref (1)) d_X9_fix_112 gf_X9_12 (hp_0 _ _ _ _ _) rfl ?_
      refine wp_getfield (v := .ref (10)) d_X9_fix_115 gf_X9_197 (hp_1 _ _ _ _ _) rfl ?_
      refine wp_iload_n 1 d_X9_fix_118 rfl rfl ?_
      refine wp_iaload (v := (c.2.1 10) (i)) d_X9_fix_119 (hp_10 _ _ _ _ _) (vp_in_nI (by omega) (by omega)) (congrArg ((c.2.1 10)) (nI_clamp (by omega))) ?_
      refine wp_iastore (h' := HP c (setA w2 34 (upd (w2.2.1 34) (i) ((c.2.1 10) (i)))) m v E) d_X9_fix_120 (hp_34 _ _ _ _ _) (vp_in_nI (by omega) (by omega)) (by rw [nI_clamp (by omega)]; exact (hpa_34 _ _ _ _ _ _)) ?_
      refine wp_iinc (v0 := nI ((i) + 1)) [(3, .int (nI ((i) + 1))), (4, .int (4)), (2, .int ((ksIn (cfixW c.2.1 code cnt p) (ksOut (cfixW c.2.1 code cnt p) (fun _ => 0) (fun _ => 4) s0 i) i 0 4).2)), (1, .int ((ksIn (cfixW c.2.1 code cnt p) (ksOut (cfixW c.2.1 code cnt p) (fun _ => 0) (fun _ => 4) s0 i) i 0 4).1)), (0, .ref (0))] 1 d_X9_fix_121 rfl (nI_add (i) 1) (Nat.le_of_ble_eq_true rfl) rfl ?_
      refine wp_goto 28 d_X9_fix_124 rfl ?_
      obtain ⟨k1, rfl⟩ : ∃ k1, k = k1 + 1 := ⟨k - 1, by omega⟩
      refine wp_sub [(3, .int (nI ((i) + 1))), (2, .int ((ksIn (cfixW c.2.1 code cnt p) (ksOut (cfixW c.2.1 code cnt p) (fun _ => 0) (fun _ => 4) s0 i) i 0 4).2)), (1, .int ((ksIn (cfixW c.2.1 code cnt p) (ksOut (cfixW c.2.1 code cnt p) (fun _ => 0) (fun _ => 4) s0 i) i 0 4).1)), (0, .ref (0))] [0, 2, 3, 4] rfl ?_
      exact ih k1 (by omega) (i + 1) _ (by omega) hF2.back
theorem s_X9_fix {X : kX} {d : Nat} {c w m v : kZ} {E : kH} {n : Nat} (hn : c.1 100 = nI n) (hn9 : n ≤ 9) {rho cnt ka L : Nat} {code : Nat → Int32} (hrr : c.2.2.1 1 = rho) (hR : kRu E rho cnt ka L code) (hL : L < 2 ^ 20) (hc8 : cnt ≤ 8) (hwf : kWF code L cnt 0) (hk : ∀ j, j < n → 1 ≤ (c.2.1 2 j).toInt ∧ (c.2.1 2 j).toInt ≤ 5) {p : Nat} (hp : c.1 107 = nI p) (hp4 : p ≤ 4) (hln : ∀ j, j < p → vp_in (c.2.1 9 j) n) (hr0 : kRay w []) : WP X (d + 8) 0 0 Y_X9_fix 0 [(0, .ref (0))] [] (HP c w m v E) (fun r1 h1 => r1 = some (.int ((ksOut (cfixW c.2.1 code cnt p) (fun _ => 0) (fun _ => 4) ((cwr (c.2.1 6 1) (c.2.1 6 2) (cTube c.2.1 1 code cnt p)), -3) p).2)) ∧ ∃ w1 : kZ, h1 = HP c w1 m v E ∧ kWf w w1 ∧ kRay w1 []) := by
  refine wp_aload_n 0 d_X9_fix_0 rfl rfl ?_
  refine wp_virtual0 (As := []) d_X9_fix_1 lk_X9_168 mv_X9_shine in_X9_shine se_X9_shine (Nat.le_of_ble_eq_true rfl) (Nat.le_of_ble_eq_true rfl) (hp_0 _ _ _ _ _) rfl (s_X9_shine hn hn9 hrr hR hL hc8 hwf hk hp hp4 hln hr0) (fun v1 h1 q1 => ?_)
  obtain ⟨rfl, w1, rfl, ha1, hd1, hs1⟩ := q1
  show WP _ _ _ _ _ 4 _ [] (HP c w1 m v E) _
  refine wp_aload_n 0 d_X9_fix_4 rfl rfl ?_
  refine wp_getfield (v := .ref (25)) d_X9_fix_5 gf_X9_19 (hp_0 _ _ _ _ _) rfl ?_
  refine wp_aload_n 0 d_X9_fix_8 rfl rfl ?_
  refine wp_getfield (v := .ref (1)) d_X9_fix_9 gf_X9_12 (hp_0 _ _ _ _ _) rfl ?_
  refine wp_virtual0 (As := [.ref (1)]) d_X9_fix_12 lk_X9_207 mv_X1_become in_X1_become se_X1_become (Nat.le_of_ble_eq_true rfl) (Nat.le_of_ble_eq_true rfl) (hp_25 _ _ _ _ _) rfl s_X1_become_25_1 (fun v12 h12 q12 => ?_)
  obtain ⟨rfl, w2, rfl, hbc, hbf⟩ := q12
  have hg : ∀ k, 42 ≤ k → k ≤ 49 → w2.2.1 k = w1.2.1 k := fun k h1 h2 => hbf.2.1 k (by omega)
  have hh : ∀ k, 4200 ≤ k → w2.1 k = w1.1 k := fun k h1 => hbf.1 k (by omega)
  have hs2 : kSeen w2 (c.2.1 6 1) (c.2.1 6 2) (c.2.1 6 3) (cTube c.2.1 1 code cnt p) := by
    refine ⟨(hh _ (by decide)).trans hs1.1, (hh _ (by decide)).trans hs1.2.1, ?_, (hh _ (by decide)).trans hs1.2.2.2⟩
    exact hs1.2.2.1.f (hh _ (by decide)) (fun k _ => by rw [hg 46 (by decide) (by decide), hg 47 (by decide) (by decide), hg 48 (by decide) (by decide), hg 49 (by decide) (by decide)]; exact ⟨rfl, rfl, rfl, rfl⟩)
  have he2 := hs2.2.2.2
  rw [cTube_len] at he2
  have hW : kabs (w2.2.1 46 (p + 1)) + kabs (w2.2.1 48 (p + 1)) = (cwr (c.2.1 6 1) (c.2.1 6 2) (cTube c.2.1 1 code cnt p)) := by
    have hA := hs2.a
    have hB := hs2.b
    rw [cTube_len] at hA hB
    rw [hA, hB]
    rfl
  have hF : kFx c w code cnt n 4 w2 := by
    refine ⟨⟨hbc.1.2.1, hbc.2.2.2.2.2.2.1, fun j hj _ => hbc.2.2.2.2.2.2.2.1 j hj⟩, ?_, hs2.2.2.1.len (j := 0), ha1.wf.tr hbf.wf⟩
    obtain ⟨d1, d2, d3, d4, d5⟩ := hd1
    exact ⟨(hh _ (by decide)).trans d1, (hh _ (by decide)).trans d2, (hh _ (by decide)).trans d3, fun j hj => by rw [hg 44 (by decide) (by decide)]; exact d4 j hj, fun j hj => by rw [hg 45 (by decide) (by decide)]; exact d5 j hj⟩
  show WP _ _ _ _ _ 15 _ [] (HP c w2 m v E) _
  refine wp_aload_n 0 d_X9_fix_15 rfl rfl ?_
  refine wp_getfield (v := .ref (42)) d_X9_fix_16 gf_X9_32 (hp_0 _ _ _ _ _) rfl ?_
  refine wp_vrt_i (As := []) (x0 := (cwr (c.2.1 6 1) (c.2.1 6 2) (cTube c.2.1 1 code cnt p))) (h1 := HP c w2 m v E) d_X9_fix_19 lk_X9_181 mv_X5_wrongSeen in_X5_wrongSeen se_X5_wrongSeen (Nat.le_of_ble_eq_true rfl) (Nat.le_of_ble_eq_true rfl) (hp_42 _ _ _ _ _) rfl (hW ▸ s_X5_wrongSeen (X := X) (c := c) (w := w2) (m := m) (v := v) (E := E) he2 (by omega)) ?_
  refine wp_istore_n [(1, .int ((cwr (c.2.1 6 1) (c.2.1 6 2) (cTube c.2.1 1 code cnt p)))), (0, .ref (0))] d_X9_fix_22 rfl (Nat.le_of_ble_eq_true rfl) rfl ?_
  refine wp_bipush (v0 := -3) d_X9_fix_23 (by decide) ?_
  refine wp_istore_n [(2, .int ((-3))), (1, .int ((cwr (c.2.1 6 1) (c.2.1 6 2) (cTube c.2.1 1 code cnt p)))), (0, .ref (0))] d_X9_fix_25 rfl (Nat.le_of_ble_eq_true rfl) rfl ?_
  refine wp_iconst (v0 := 0) d_X9_fix_26 rfl ?_
  refine wp_istore_n [(3, .int (0)), (2, .int ((-3))), (1, .int ((cwr (c.2.1 6 1) (c.2.1 6 2) (cTube c.2.1 1 code cnt p)))), (0, .ref (0))] d_X9_fix_27 rfl (Nat.le_of_ble_eq_true rfl) rfl ?_
  refine wp_sub [(3, .int (0)), (2, .int ((-3))), (1, .int ((cwr (c.2.1 6 1) (c.2.1 6 2) (cTube c.2.1 1 code cnt p)))), (0, .ref (0))] [0, 1, 2, 3] rfl ?_
  exact s_X9_fix_o hn hn9 hrr hR hL hc8 hwf hk hp hp4 hln ((cwr (c.2.1 6 1) (c.2.1 6 2) (cTube c.2.1 1 code cnt p)), -3) p 0 w2 (by omega) hF
theorem swp_swp (f : Nat → Int32) (a b : Nat) : swp (swp f a b) a b = f := by
  funext j
  rw [swp_e]
  by_cases h : j = b
  · rw [if_pos h, swp_e]
    by_cases g : a = b
    · rw [if_pos g, h, g]
    · rw [if_neg g, if_pos rfl, h]
  · rw [if_neg h]
    by_cases g : j = a
    · rw [if_pos g, swp_e, if_pos rfl, g]
    · rw [if_neg g, swp_e, if_neg h, if_neg g]
theorem kFx.sw {c w w' w2 : kZ} {code : Nat → Int32} {cnt n i q : Nat} (h : kFx c w code cnt n 4 w') (hf : kLf (setA (setA w' 33 (swp (w'.2.1 33) i q)) 34 (swp (w'.2.1 34) i q)) w2) (hr : kRay w2 []) (hd : kLd w2 (c.2.1 6 1) (c.2.1 6 2) (c.2.1 6 3) (fun l => kstr code cnt (c.2.1 6 0) (c.2.1 6 1) (c.2.1 6 2) (c.2.1 2 l) (c.2.1 3 l) l) (c.2.1 4) n) : kFx c w code cnt n 4 (setA (setA w2 33 (swp (w2.2.1 33) i q)) 34 (swp (w2.2.1 34) i q)) := by
  obtain ⟨⟨h1, h2, h3⟩, h4, h5, h6⟩ := h
  have e3 : w2.2.1 33 = swp (w'.2.1 33) i q := hf.2.1 33 (by decide)
  have e4 : w2.2.1 34 = swp (w'.2.1 34) i q := hf.2.1 34 (by decide)
  refine ⟨⟨(hf.1 _ (by decide)).trans h1, ?_, ?_⟩, hd, hr, ?_⟩
  · show ∀ j, j < 4 → swp (w2.2.1 33) i q j = _
    rw [e3, swp_swp]
    exact h2
  · show ∀ j, j < 4 → j ≠ 4 → swp (w2.2.1 34) i q j = _
    rw [e4, swp_swp]
    exact h3
  · have q1 : kWf w' (setA (setA w' 33 (swp (w'.2.1 33) i q)) 34 (swp (w'.2.1 34) i q)) := ⟨fun _ _ => rfl, fun k9 h9 => by simp only [setA]; rw [updA_n _ _ (by omega), updA_n _ _ (by omega)], fun _ _ => rfl, rfl⟩
    have q2 : kWf w2 (setA (setA w2 33 (swp (w2.2.1 33) i q)) 34 (swp (w2.2.1 34) i q)) := ⟨fun _ _ => rfl, fun k9 h9 => by simp only [setA]; rw [updA_n _ _ (by omega), updA_n _ _ (by omega)], fun _ _ => rfl, rfl⟩
    exact ((h6.tr q1).tr hf.a.wf).tr q2
theorem s_X9_change_i {X : kX} {d : Nat} {c w m v : kZ} {E : kH} {n : Nat} (hn : c.1 100 = nI n) (hn9 : n ≤ 9) {rho cnt ka L : Nat} {code : Nat → Int32} (hrr : c.2.2.1 1 = rho) (hR : kRu E rho cnt ka L code) (hL : L < 2 ^ 20) (hc8 : cnt ≤ 8) (hwf : kWF code L cnt 0) (hk : ∀ j, j < n → 1 ≤ (c.2.1 2 j).toInt ∧ (c.2.1 2 j).toInt ≤ 5) {p : Nat} (hp : c.1 107 = nI p) (hp4 : p ≤ 4) (hln : ∀ j, j < p → vp_in (c.2.1 9 j) n) {i : Nat} (hi : i < p) (s0 : kP2) {Q : Option Value → kH → Prop} (K : ∀ w2 : kZ, kFx c w code cnt n 4 w2 → WP X (d + 8) 0 0 Y_X9_change 120 [(4, .int (nI p)), (3, .int (nI i)), (2, .int (ksIn (cchgW c.2.1 code cnt p) s0 i (i + 1) (p - (i + 1))).2), (1, .int (ksIn (cchgW c.2.1 code cnt p) s0 i (i + 1) (p - (i + 1))).1), (0, .ref 0)] [] (HP c w2 m v E) Q) : ∀ (k : Nat) (t : Nat) (w' : kZ), (i + 1 + t + k = p) → (kFx c w code cnt n 4 w') → WP X (d + 8) 0 0 Y_X9_change 44 [(4, .int (nI (i + 1 + t))), (3, .int (nI (i))), (2, .int ((ksIn (cchgW c.2.1 code cnt p) s0 i (i + 1) t).2)), (1, .int ((ksIn (cchgW c.2.1 code cnt p) s0 i (i + 1) t).1)), (0, .ref (0))] [] (HP c w' m v E) Q := by
  intro k
  induction k using Nat.strongRecOn with
  | ind k ih =>
    intro t w' hti hF
    refine wp_iload 0 d_X9_change_44 rfl ?_
    refine wp_aload_n 4 d_X9_change_46 rfl rfl ?_
    refine wp_getfield (v := .ref (1)) d_X9_change_47 gf_X9_12 (hp_0 _ _ _ _ _) rfl ?_
    refine wp_getfield (v := .int (nI (p))) d_X9_change_50 gf_X9_191 (hp_1 _ _ _ _ _) (congrArg (fun z => some (Value.int z)) hp) ?_
    refine wp_ncmp_ge (a := i + 1 + t) (b := p) 120 d_X9_change_53 rfl (by omega) (by omega) (fun c53 => ?_) (fun c53 => ?_)
    · obtain rfl : k = 0 := by omega
      obtain rfl : i + 1 + t = p := by omega
      have e8 : i + 1 + t - (i + 1) = t := by omega
      have L := K w' hF
      rw [e8] at L
      exact L
    · refine wp_aload_n 4 d_X9_change_56 rfl rfl ?_
      refine wp_getfield (v := .ref (25)) d_X9_change_57 gf_X9_19 (hp_0 _ _ _ _ _) rfl ?_
      refine wp_iload_n 1 d_X9_change_60 rfl rfl ?_
      refine wp_iload 0 d_X9_change_61 rfl ?_
      refine wp_vrt_v (As := [.int (nI (i)), .int (nI (i + 1 + t))]) (h1 := HP c (setA (setA w' 33 (swp (w'.2.1 33) i (i + 1 + t))) 34 (swp (w'.2.1 34) i (i + 1 + t))) m v E) d_X9_change_63 lk_X9_203 mv_X1_swap in_X1_swap se_X1_swap (Nat.le_of_ble_eq_true rfl) (Nat.le_of_ble_eq_true rfl) (hp_25 _ _ _ _ _) rfl (s_X1_swap_w (a := i) (b := i + 1 + t) (by omega) (by omega)) ?_
      refine wp_aload_n 4 d_X9_change_66 rfl rfl ?_
      refine wp_getfield (v := .ref (42)) d_X9_change_67 gf_X9_32 (hp_0 _ _ _ _ _) rfl ?_
      refine wp_aload_n 4 d_X9_change_70 rfl rfl ?_
      refine wp_getfield (v := .ref (25)) d_X9_change_71 gf_X9_19 (hp_0 _ _ _ _ _) rfl ?_
      refine wp_virtual0 (As := [.ref (25)]) d_X9_change_74 lk_X9_210 mv_X5_through in_X5_through se_X5_through (Nat.le_of_ble_eq_true rfl) (Nat.le_of_ble_eq_true rfl) (hp_42 _ _ _ _ _) rfl (s_tr_through (w := (setA (setA w' 33 (swp (w'.2.1 33) i (i + 1 + t))) 34 (swp (w'.2.1 34) i (i + 1 + t)))) (ln := swp (c.2.1 9) i (i + 1 + t)) (tn := swp (c.2.1 10) i (i + 1 + t)) hn9 (hF.1.1.trans hp) hp4 (fun j hj => by show swp (w'.2.1 33) i (i + 1 + t) j = _; rw [swp_e, swp_e, hF.1.2.1 i (by omega), hF.1.2.1 (i + 1 + t) (by omega), hF.1.2.1 j (by omega)]) (fun j hj => by show swp (w'.2.1 34) i (i + 1 + t) j = _; rw [swp_e, swp_e, hF.1.2.2 i (by omega) (by omega), hF.1.2.2 (i + 1 + t) (by omega) (by omega), hF.1.2.2 j (by omega) (by omega)]) (fun j hj => by rw [swp_e]; split; (exact hln i hi); split; (exact hln (i + 1 + t) (by omega)); (exact hln j hj)) hF.2.1 (kRay_0 hF.2.2.1 (fun k9 h9 h8 => by simp only [setA]; rw [updA_n _ _ (by omega), updA_n _ _ (by omega)]))) (fun v74 h74 q74 => ?_)
      obtain ⟨rfl, w2, rfl, hf2, hr2, hd2, hs2⟩ := q74
      have hF2 := hF.sw hf2 hr2 hd2
      have he2 := hs2.2.2.2
      rw [ktub_len] at he2
      have hW : kabs (w2.2.1 46 (p + 1)) + kabs (w2.2.1 48 (p + 1)) = cchgW c.2.1 code cnt p i (i + 1 + t) := by
        have hA := hs2.a
        have hB := hs2.b
        rw [ktub_len] at hA hB
        rw [hA, hB]
        rfl
      show WP _ _ _ _ _ 77 _ [] (HP c w2 m v E) _
      refine wp_aload_n 4 d_X9_change_77 rfl rfl ?_
      refine wp_getfield (v := .ref (25)) d_X9_change_78 gf_X9_19 (hp_0 _ _ _ _ _) rfl ?_
      refine wp_iload_n 1 d_X9_change_81 rfl rfl ?_
      refine wp_iload 0 d_X9_change_82 rfl ?_
      refine wp_vrt_v (As := [.int (nI (i)), .int (nI (i + 1 + t))]) (h1 := HP c (setA (setA w2 33 (swp (w2.2.1 33) i (i + 1 + t))) 34 (swp (w2.2.1 34) i (i + 1 + t))) m v E) d_X9_change_84 lk_X9_203 mv_X1_swap in_X1_swap se_X1_swap (Nat.le_of_ble_eq_true rfl) (Nat.le_of_ble_eq_true rfl) (hp_25 _ _ _ _ _) rfl (s_X1_swap_w (a := i) (b := i + 1 + t) (by omega) (by omega)) ?_
      refine wp_aload_n 4 d_X9_change_87 rfl rfl ?_
      refine wp_getfield (v := .ref (42)) d_X9_change_88 gf_X9_32 (hp_0 _ _ _ _ _) rfl ?_
      refine wp_vrt_i (As := []) (x0 := cchgW c.2.1 code cnt p i (i + 1 + t)) (h1 := HP c (setA (setA w2 33 (swp (w2.2.1 33) i (i + 1 + t))) 34 (swp (w2.2.1 34) i (i + 1 + t))) m v E) d_X9_change_91 lk_X9_181 mv_X5_wrongSeen in_X5_wrongSeen se_X5_wrongSeen (Nat.le_of_ble_eq_true rfl) (Nat.le_of_ble_eq_true rfl) (hp_42 _ _ _ _ _) rfl (hW ▸ s_X5_wrongSeen (X := X) (c := c) (w := (setA (setA w2 33 (swp (w2.2.1 33) i (i + 1 + t))) 34 (swp (w2.2.1 34) i (i + 1 + t)))) (m := m) (v := v) (E := E) he2 (by omega)) ?_
      refine wp_iload_n 3 d_X9_change_94 rfl rfl ?_
      refine wp_icmp_ge 114 d_X9_change_95 rfl (fun c95 => ?_) (fun c95 => ?_)
      · refine wp_iinc (v0 := nI ((i + 1 + t) + 1)) [(4, .int (nI ((i + 1 + t) + 1))), (3, .int (nI (i))), (2, .int ((ksIn (cchgW c.2.1 code cnt p) s0 i (i + 1) t).2)), (1, .int ((ksIn (cchgW c.2.1 code cnt p) s0 i (i + 1) t).1)), (0, .ref (0))] 0 d_X9_change_114 rfl (nI_add (i + 1 + t) 1) (Nat.le_of_ble_eq_true rfl) rfl ?_
        refine wp_goto 44 d_X9_change_117 rfl ?_
        obtain ⟨k1, rfl⟩ : ∃ k1, k = k1 + 1 := ⟨k - 1, by omega⟩
        refine wp_sub [(4, .int (nI ((i + 1 + t) + 1))), (3, .int (nI (i))), (2, .int ((ksIn (cchgW c.2.1 code cnt p) s0 i (i + 1) t).2)), (1, .int ((ksIn (cchgW c.2.1 code cnt p) s0 i (i + 1) t).1)), (0, .ref (0))] [0, 1, 2, 3, 4] rfl ?_
        have e9 := ksIn_f (W := (cchgW c.2.1 code cnt p)) (s := s0) (i := i) (a := i + 1) (k := t) (q := i + 1 + t) rfl (Int32.not_lt.mpr c95)
        have L := ih k1 (by omega) (t + 1) _ (by omega) hF2
        rw [e9] at L
        exact L
      · refine wp_aload_n 4 d_X9_change_98 rfl rfl ?_
        refine wp_getfield (v := .ref (42)) d_X9_change_99 gf_X9_32 (hp_0 _ _ _ _ _) rfl ?_
        refine wp_vrt_i (As := []) (x0 := cchgW c.2.1 code cnt p i (i + 1 + t)) (h1 := HP c (setA (setA w2 33 (swp (w2.2.1 33) i (i + 1 + t))) 34 (swp (w2.2.1 34) i (i + 1 + t))) m v E) d_X9_change_102 lk_X9_181 mv_X5_wrongSeen in_X5_wrongSeen se_X5_wrongSeen (Nat.le_of_ble_eq_true rfl) (Nat.le_of_ble_eq_true rfl) (hp_42 _ _ _ _ _) rfl (hW ▸ s_X5_wrongSeen (X := X) (c := c) (w := (setA (setA w2 33 (swp (w2.2.1 33) i (i + 1 + t))) 34 (swp (w2.2.1 34) i (i + 1 + t)))) (m := m) (v := v) (E := E) he2 (by omega)) ?_
        refine wp_istore_n [(1, .int (cchgW c.2.1 code cnt p i (i + 1 + t))), (4, .int (nI (i + 1 + t))), (3, .int (nI (i))), (2, .int ((ksIn (cchgW c.2.1 code cnt p) s0 i (i + 1) t).2)), (0, .ref (0))] d_X9_change_105 rfl (Nat.le_of_ble_eq_true rfl) rfl ?_
        refine wp_bipush (v0 := 10) d_X9_change_106 (by decide) ?_
        refine wp_iload_n 2 d_X9_change_108 rfl rfl ?_
        refine wp_imul d_X9_change_109 ?_
        refine wp_v (v0 := nI ((10) * (i))) (pk_mul (10) (i)) ?_
        refine wp_iload 1 d_X9_change_110 rfl ?_
        refine wp_iadd d_X9_change_112 ?_
        refine wp_v (v0 := nI (((10) * (i)) + (i + 1 + t))) (nI_add ((10) * (i)) (i + 1 + t)) ?_
        refine wp_istore_n [(2, .int (nI (((10) * (i)) + (i + 1 + t)))), (1, .int (cchgW c.2.1 code cnt p i (i + 1 + t))), (4, .int (nI (i + 1 + t))), (3, .int (nI (i))), (0, .ref (0))] d_X9_change_113 rfl (Nat.le_of_ble_eq_true rfl) rfl ?_
        refine wp_iinc (v0 := nI ((i + 1 + t) + 1)) [(4, .int (nI ((i + 1 + t) + 1))), (2, .int (nI (((10) * (i)) + (i + 1 + t)))), (1, .int (cchgW c.2.1 code cnt p i (i + 1 + t))), (3, .int (nI (i))), (0, .ref (0))] 2 d_X9_change_114 rfl (nI_add (i + 1 + t) 1) (Nat.le_of_ble_eq_true rfl) rfl ?_
        refine wp_goto 44 d_X9_change_117 rfl ?_
        obtain ⟨k1, rfl⟩ : ∃ k1, k = k1 + 1 := ⟨k - 1, by omega⟩
        refine wp_sub [(4, .int (nI ((i + 1 + t) + 1))), (3, .int (nI (i))), (2, .int (nI (((10) * (i)) + (i + 1 + t)))), (1, .int (cchgW c.2.1 code cnt p i (i + 1 + t))), (0, .ref (0))] [0, 3, 1, 2, 4] rfl ?_
        have e9 := ksIn_t (W := (cchgW c.2.1 code cnt p)) (s := s0) (i := i) (a := i + 1) (k := t) (q := i + 1 + t) rfl (Int32.not_le.mp c95)
        have L := ih k1 (by omega) (t + 1) _ (by omega) hF2
        rw [e9] at L
        exact L
theorem s_X9_change_o {X : kX} {d : Nat} {c w m v : kZ} {E : kH} {n : Nat} (hn : c.1 100 = nI n) (hn9 : n ≤ 9) {rho cnt ka L : Nat} {code : Nat → Int32} (hrr : c.2.2.1 1 = rho) (hR : kRu E rho cnt ka L code) (hL : L < 2 ^ 20) (hc8 : cnt ≤ 8) (hwf : kWF code L cnt 0) (hk : ∀ j, j < n → 1 ≤ (c.2.1 2 j).toInt ∧ (c.2.1 2 j).toInt ≤ 5) {p : Nat} (hp : c.1 107 = nI p) (hp4 : p ≤ 4) (hln : ∀ j, j < p → vp_in (c.2.1 9 j) n) (s0 : kP2) : ∀ (k : Nat) (i : Nat) (w' : kZ), (i + k = p) → (kFx c w code cnt n 4 w') → WP X (d + 8) 0 0 Y_X9_change 28 [(3, .int (nI (i))), (2, .int ((ksOut (cchgW c.2.1 code cnt p) (fun i => i + 1) (fun i => p - (i + 1)) s0 i).2)), (1, .int ((ksOut (cchgW c.2.1 code cnt p) (fun i => i + 1) (fun i => p - (i + 1)) s0 i).1)), (0, .ref (0))] [] (HP c w' m v E) (fun r1 h1 => r1 = some (.int ((ksOut (cchgW c.2.1 code cnt p) (fun i => i + 1) (fun i => p - (i + 1)) s0 p).2)) ∧ ∃ w1 : kZ, h1 = HP c w1 m v E ∧ kWf w w1 ∧ kRay w1 []) := by
  intro k
  induction k using Nat.strongRecOn with
  | ind k ih =>
    intro i w' hi hF
    refine wp_iload_n 0 d_X9_change_28 rfl rfl ?_
    refine wp_aload_n 3 d_X9_change_29 rfl rfl ?_
    refine wp_getfield (v := .ref (1)) d_X9_change_30 gf_X9_12 (hp_0 _ _ _ _ _) rfl ?_
    refine wp_getfield (v := .int (nI (p))) d_X9_change_33 gf_X9_191 (hp_1 _ _ _ _ _) (congrArg (fun z => some (Value.int z)) hp) ?_
    refine wp_ncmp_ge (a := i) (b := p) 126 d_X9_change_36 rfl (by omega) (by omega) (fun c36 => ?_) (fun c36 => ?_)
    · refine wp_iload_n 1 d_X9_change_126 rfl rfl ?_
      refine wp_reti d_X9_change_127 rfl ?_
      obtain rfl : k = 0 := by omega
      obtain rfl : i = p := by omega
      exact ⟨rfl, w', rfl, hF.2.2.2, hF.2.2.1⟩
    · refine wp_iload_n 0 d_X9_change_39 rfl rfl ?_
      refine wp_iconst (v0 := 1) d_X9_change_40 rfl ?_
      refine wp_iadd d_X9_change_41 ?_
      refine wp_v (v0 := nI ((i) + (1))) (nI_add (i) (1)) ?_
      refine wp_istore [(4, .int (nI ((i) + (1)))), (3, .int (nI (i))), (2, .int ((ksOut (cchgW c.2.1 code cnt p) (fun i => i + 1) (fun i => p - (i + 1)) s0 i).2)), (1, .int ((ksOut (cchgW c.2.1 code cnt p) (fun i => i + 1) (fun i => p - (i + 1)) s0 i).1)), (0, .ref (0))] d_X9_change_42 (Nat.le_of_ble_eq_true rfl) rfl ?_
      refine wp_sub [(4, .int (nI ((i) + (1)))), (3, .int (nI (i))), (2, .int ((ksOut (cchgW c.2.1 code cnt p) (fun i => i + 1) (fun i => p - (i + 1)) s0 i).2)), (1, .int ((ksOut (cchgW c.2.1 code cnt p) (fun i => i + 1) (fun i => p - (i + 1)) s0 i).1)), (0, .ref (0))] [0, 1, 2, 3, 4] rfl ?_
      refine s_X9_change_i hn hn9 hrr hR hL hc8 hwf hk hp hp4 hln (i := i) (by omega) (ksOut (cchgW c.2.1 code cnt p) (fun i => i + 1) (fun i => p - (i + 1)) s0 i) (fun w2 hF2 => ?_) (p - (i + 1)) 0 w' (by omega) hF
      refine wp_iinc (v0 := nI ((i) + 1)) [(3, .int (nI ((i) + 1))), (4, .int (nI (p))), (2, .int ((ksIn (cchgW c.2.1 code cnt p) (ksOut (cchgW c.2.1 code cnt p) (fun i => i + 1) (fun i => p - (i + 1)) s0 i) i (i + 1) (p - (i + 1))).2)), (1, .int ((ksIn (cchgW c.2.1 code cnt p) (ksOut (cchgW c.2.1 code cnt p) (fun i => i + 1) (fun i => p - (i + 1)) s0 i) i (i + 1) (p - (i + 1))).1)), (0, .ref (0))] 1 d_X9_change_120 rfl (nI_add (i) 1) (Nat.le_of_ble_eq_true rfl) rfl ?_
      refine wp_goto 28 d_X9_change_123 rfl ?_
      obtain ⟨k1, rfl⟩ : ∃ k1, k = k1 + 1 := ⟨k - 1, by omega⟩
      refine wp_sub [(3, .int (nI ((i) + 1))), (2, .int ((ksIn (cchgW c.2.1 code cnt p) (ksOut (cchgW c.2.1 code cnt p) (fun i => i + 1) (fun i => p - (i + 1)) s0 i) i (i + 1) (p - (i + 1))).2)), (1, .int ((ksIn (cchgW c.2.1 code cnt p) (ksOut (cchgW c.2.1 code cnt p) (fun i => i + 1) (fun i => p - (i + 1)) s0 i) i (i + 1) (p - (i + 1))).1)), (0, .ref (0))] [0, 2, 3, 4] rfl ?_
      exact ih k1 (by omega) (i + 1) _ (by omega) hF2
theorem s_X9_change {X : kX} {d : Nat} {c w m v : kZ} {E : kH} {n : Nat} (hn : c.1 100 = nI n) (hn9 : n ≤ 9) {rho cnt ka L : Nat} {code : Nat → Int32} (hrr : c.2.2.1 1 = rho) (hR : kRu E rho cnt ka L code) (hL : L < 2 ^ 20) (hc8 : cnt ≤ 8) (hwf : kWF code L cnt 0) (hk : ∀ j, j < n → 1 ≤ (c.2.1 2 j).toInt ∧ (c.2.1 2 j).toInt ≤ 5) {p : Nat} (hp : c.1 107 = nI p) (hp4 : p ≤ 4) (hln : ∀ j, j < p → vp_in (c.2.1 9 j) n) (hr0 : kRay w []) : WP X (d + 8) 0 0 Y_X9_change 0 [(0, .ref (0))] [] (HP c w m v E) (fun r1 h1 => r1 = some (.int ((ksOut (cchgW c.2.1 code cnt p) (fun i => i + 1) (fun i => p - (i + 1)) ((cwr (c.2.1 6 1) (c.2.1 6 2) (cTube c.2.1 1 code cnt p)), -3) p).2)) ∧ ∃ w1 : kZ, h1 = HP c w1 m v E ∧ kWf w w1 ∧ kRay w1 []) := by
  refine wp_aload_n 0 d_X9_change_0 rfl rfl ?_
  refine wp_virtual0 (As := []) d_X9_change_1 lk_X9_168 mv_X9_shine in_X9_shine se_X9_shine (Nat.le_of_ble_eq_true rfl) (Nat.le_of_ble_eq_true rfl) (hp_0 _ _ _ _ _) rfl (s_X9_shine hn hn9 hrr hR hL hc8 hwf hk hp hp4 hln hr0) (fun v1 h1 q1 => ?_)
  obtain ⟨rfl, w1, rfl, ha1, hd1, hs1⟩ := q1
  show WP _ _ _ _ _ 4 _ [] (HP c w1 m v E) _
  refine wp_aload_n 0 d_X9_change_4 rfl rfl ?_
  refine wp_getfield (v := .ref (25)) d_X9_change_5 gf_X9_19 (hp_0 _ _ _ _ _) rfl ?_
  refine wp_aload_n 0 d_X9_change_8 rfl rfl ?_
  refine wp_getfield (v := .ref (1)) d_X9_change_9 gf_X9_12 (hp_0 _ _ _ _ _) rfl ?_
  refine wp_virtual0 (As := [.ref (1)]) d_X9_change_12 lk_X9_207 mv_X1_become in_X1_become se_X1_become (Nat.le_of_ble_eq_true rfl) (Nat.le_of_ble_eq_true rfl) (hp_25 _ _ _ _ _) rfl s_X1_become_25_1 (fun v12 h12 q12 => ?_)
  obtain ⟨rfl, w2, rfl, hbc, hbf⟩ := q12
  have hg : ∀ k, 42 ≤ k → k ≤ 49 → w2.2.1 k = w1.2.1 k := fun k h1 h2 => hbf.2.1 k (by omega)
  have hh : ∀ k, 4200 ≤ k → w2.1 k = w1.1 k := fun k h1 => hbf.1 k (by omega)
  have hs2 : kSeen w2 (c.2.1 6 1) (c.2.1 6 2) (c.2.1 6 3) (cTube c.2.1 1 code cnt p) := by
    refine ⟨(hh _ (by decide)).trans hs1.1, (hh _ (by decide)).trans hs1.2.1, ?_, (hh _ (by decide)).trans hs1.2.2.2⟩
    exact hs1.2.2.1.f (hh _ (by decide)) (fun k _ => by rw [hg 46 (by decide) (by decide), hg 47 (by decide) (by decide), hg 48 (by decide) (by decide), hg 49 (by decide) (by decide)]; exact ⟨rfl, rfl, rfl, rfl⟩)
  have he2 := hs2.2.2.2
  rw [cTube_len] at he2
  have hW : kabs (w2.2.1 46 (p + 1)) + kabs (w2.2.1 48 (p + 1)) = (cwr (c.2.1 6 1) (c.2.1 6 2) (cTube c.2.1 1 code cnt p)) := by
    have hA := hs2.a
    have hB := hs2.b
    rw [cTube_len] at hA hB
    rw [hA, hB]
    rfl
  have hF : kFx c w code cnt n 4 w2 := by
    refine ⟨⟨hbc.1.2.1, hbc.2.2.2.2.2.2.1, fun j hj _ => hbc.2.2.2.2.2.2.2.1 j hj⟩, ?_, hs2.2.2.1.len (j := 0), ha1.wf.tr hbf.wf⟩
    obtain ⟨d1, d2, d3, d4, d5⟩ := hd1
    exact ⟨(hh _ (by decide)).trans d1, (hh _ (by decide)).trans d2, (hh _ (by decide)).trans d3, fun j hj => by rw [hg 44 (by decide) (by decide)]; exact d4 j hj, fun j hj => by rw [hg 45 (by decide) (by decide)]; exact d5 j hj⟩
  show WP _ _ _ _ _ 15 _ [] (HP c w2 m v E) _
  refine wp_aload_n 0 d_X9_change_15 rfl rfl ?_
  refine wp_getfield (v := .ref (42)) d_X9_change_16 gf_X9_32 (hp_0 _ _ _ _ _) rfl ?_
  refine wp_vrt_i (As := []) (x0 := (cwr (c.2.1 6 1) (c.2.1 6 2) (cTube c.2.1 1 code cnt p))) (h1 := HP c w2 m v E) d_X9_change_19 lk_X9_181 mv_X5_wrongSeen in_X5_wrongSeen se_X5_wrongSeen (Nat.le_of_ble_eq_true rfl) (Nat.le_of_ble_eq_true rfl) (hp_42 _ _ _ _ _) rfl (hW ▸ s_X5_wrongSeen (X := X) (c := c) (w := w2) (m := m) (v := v) (E := E) he2 (by omega)) ?_
  refine wp_istore_n [(1, .int ((cwr (c.2.1 6 1) (c.2.1 6 2) (cTube c.2.1 1 code cnt p)))), (0, .ref (0))] d_X9_change_22 rfl (Nat.le_of_ble_eq_true rfl) rfl ?_
  refine wp_bipush (v0 := -3) d_X9_change_23 (by decide) ?_
  refine wp_istore_n [(2, .int ((-3))), (1, .int ((cwr (c.2.1 6 1) (c.2.1 6 2) (cTube c.2.1 1 code cnt p)))), (0, .ref (0))] d_X9_change_25 rfl (Nat.le_of_ble_eq_true rfl) rfl ?_
  refine wp_iconst (v0 := 0) d_X9_change_26 rfl ?_
  refine wp_istore_n [(3, .int (0)), (2, .int ((-3))), (1, .int ((cwr (c.2.1 6 1) (c.2.1 6 2) (cTube c.2.1 1 code cnt p)))), (0, .ref (0))] d_X9_change_27 rfl (Nat.le_of_ble_eq_true rfl) rfl ?_
  refine wp_sub [(3, .int (0)), (2, .int ((-3))), (1, .int ((cwr (c.2.1 6 1) (c.2.1 6 2) (cTube c.2.1 1 code cnt p)))), (0, .ref (0))] [0, 1, 2, 3] rfl ?_
  exact s_X9_change_o hn hn9 hrr hR hL hc8 hwf hk hp hp4 hln ((cwr (c.2.1 6 1) (c.2.1 6 2) (cTube c.2.1 1 code cnt p)), -3) p 0 w2 (by omega) hF
