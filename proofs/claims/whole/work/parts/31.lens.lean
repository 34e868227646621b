/-! ===== the class: lensOf ===== -/
theorem s_X9_lensOf {X : kX} {d : Nat} {c w m v : kZ} {E : kH} {n : Nat} (hn : c.1 100 = nI n) (hn9 : n ≤ 9) {rho cnt ka L : Nat} {code : Nat → Int32} (hrr : c.2.2.1 1 = rho) (hR : kRu E rho cnt ka L code) (hL : L < 2 ^ 20) (hc8 : cnt ≤ 8) (hwf : kWF code L cnt 0) (hk : ∀ j, j < n → 1 ≤ (c.2.1 2 j).toInt ∧ (c.2.1 2 j).toInt ≤ 5) {p : Nat} (hp : c.1 107 = nI p) (hp4 : p ≤ 4) (x u : Int32) : WP X (d + 6) 0 0 Y_X9_lensOf 0 [(0, .ref (0)), (1, .int (x)), (2, .int (u))] [] (HP c w m v E) (fun r1 h1 => (¬ (0 ≤ x.toInt ∧ x.toInt < (n : Int)) ∧ r1 = some (.int (-1)) ∧ h1 = HP c w m v E) ∨ ∃ l : Nat, l < n ∧ x = nI l ∧ r1 = some (.int (if u = 0 then c.2.1 2 l else if u = 1 then c.2.1 3 l else if u = 2 then c.2.1 4 l else if u = 3 then c.2.1 5 l else if u = 4 then kstr code cnt (c.2.1 6 0) (c.2.1 6 1) (c.2.1 6 2) (c.2.1 2 l) (c.2.1 3 l) l else if u = 5 then kfi (c.2.1 9) (nI l) p 0 else -1)) ∧ ∃ w1 : kZ, h1 = HP c w1 m v E ∧ kWf w w1 ∧ (kRay w [] → kRay w1 [])) := by
  refine wp_aload_n 0 d_X9_lensOf_0 rfl rfl ?_
  refine wp_getfield (v := .ref (1)) d_X9_lensOf_1 gf_X9_12 (hp_0 _ _ _ _ _) rfl ?_
  refine wp_iload_n 1 d_X9_lensOf_4 rfl rfl ?_
  refine wp_vrt_i (As := [.int (x)]) (x0 := kb (0 ≤ ((x) : Int32).toInt ∧ ((x) : Int32).toInt < (n : Int))) (h1 := HP c w m v E) d_X9_lensOf_5 lk_X9_118 mv_X1_hasLens in_X1_hasLens se_X1_hasLens (Nat.le_of_ble_eq_true rfl) (Nat.le_of_ble_eq_true rfl) (hp_1 _ _ _ _ _) rfl (s_X1_hasLens hn (by omega) (x)) ?_
  refine wp_ifb_ne 13 d_X9_lensOf_8 rfl (fun c8 => ?_) (fun c8 => ?_)
  · obtain ⟨l, hl, rfl⟩ := k_nat c8
    refine wp_iload_n 2 d_X9_lensOf_13 rfl rfl ?_
    refine wp_if (P := (u) = 0) (fun c14 => ?_) (fun c14_0 => ?_)
    · refine wp_tableIn 52 d_X9_lensOf_14 (by rw [c14] <;> decide) (by rw [c14] <;> decide) (by rw [c14] <;> rfl) rfl ?_
      refine wp_aload_n 0 d_X9_lensOf_52 rfl rfl ?_
      refine wp_getfield (v := .ref (1)) d_X9_lensOf_53 gf_X9_12 (hp_0 _ _ _ _ _) rfl ?_
      refine wp_getfield (v := .ref (2)) d_X9_lensOf_56 gf_X9_106 (hp_1 _ _ _ _ _) rfl ?_
      refine wp_iload_n 1 d_X9_lensOf_59 rfl rfl ?_
      refine wp_iaload (v := (c.2.1 2) (l)) d_X9_lensOf_60 (hp_2 _ _ _ _ _) (vp_in_nI (by omega) (by omega)) (congrArg ((c.2.1 2)) (nI_clamp (by omega))) ?_
      refine wp_reti d_X9_lensOf_61 rfl ?_
      refine Or.inr ⟨l, hl, rfl, congrArg (fun z => some (Value.int z)) ?_, w, rfl, kWf.rf w, id⟩
      rw [if_pos c14]
    refine wp_if (P := (u) = 1) (fun c14 => ?_) (fun c14_1 => ?_)
    · refine wp_tableIn 62 d_X9_lensOf_14 (by rw [c14] <;> decide) (by rw [c14] <;> decide) (by rw [c14] <;> rfl) rfl ?_
      refine wp_aload_n 0 d_X9_lensOf_62 rfl rfl ?_
      refine wp_getfield (v := .ref (1)) d_X9_lensOf_63 gf_X9_12 (hp_0 _ _ _ _ _) rfl ?_
      refine wp_getfield (v := .ref (3)) d_X9_lensOf_66 gf_X9_109 (hp_1 _ _ _ _ _) rfl ?_
      refine wp_iload_n 1 d_X9_lensOf_69 rfl rfl ?_
      refine wp_iaload (v := (c.2.1 3) (l)) d_X9_lensOf_70 (hp_3 _ _ _ _ _) (vp_in_nI (by omega) (by omega)) (congrArg ((c.2.1 3)) (nI_clamp (by omega))) ?_
      refine wp_reti d_X9_lensOf_71 rfl ?_
      refine Or.inr ⟨l, hl, rfl, congrArg (fun z => some (Value.int z)) ?_, w, rfl, kWf.rf w, id⟩
      rw [if_neg c14_0, if_pos c14]
    refine wp_if (P := (u) = 2) (fun c14 => ?_) (fun c14_2 => ?_)
    · refine wp_tableIn 72 d_X9_lensOf_14 (by rw [c14] <;> decide) (by rw [c14] <;> decide) (by rw [c14] <;> rfl) rfl ?_
      refine wp_aload_n 0 d_X9_lensOf_72 rfl rfl ?_
      refine wp_getfield (v := .ref (1)) d_X9_lensOf_73 gf_X9_12 (hp_0 _ _ _ _ _) rfl ?_
      refine wp_getfield (v := .ref (4)) d_X9_lensOf_76 gf_X9_112 (hp_1 _ _ _ _ _) rfl ?_
      refine wp_iload_n 1 d_X9_lensOf_79 rfl rfl ?_
      refine wp_iaload (v := (c.2.1 4) (l)) d_X9_lensOf_80 (hp_4 _ _ _ _ _) (vp_in_nI (by omega) (by omega)) (congrArg ((c.2.1 4)) (nI_clamp (by omega))) ?_
      refine wp_reti d_X9_lensOf_81 rfl ?_
      refine Or.inr ⟨l, hl, rfl, congrArg (fun z => some (Value.int z)) ?_, w, rfl, kWf.rf w, id⟩
      rw [if_neg c14_0, if_neg c14_1, if_pos c14]
    refine wp_if (P := (u) = 3) (fun c14 => ?_) (fun c14_3 => ?_)
    · refine wp_tableIn 82 d_X9_lensOf_14 (by rw [c14] <;> decide) (by rw [c14] <;> decide) (by rw [c14] <;> rfl) rfl ?_
      refine wp_aload_n 0 d_X9_lensOf_82 rfl rfl ?_
      refine wp_getfield (v := .ref (1)) d_X9_lensOf_83 gf_X9_12 (hp_0 _ _ _ _ _) rfl ?_
      refine wp_getfield (v := .ref (5)) d_X9_lensOf_86 gf_X9_115 (hp_1 _ _ _ _ _) rfl ?_
      refine wp_iload_n 1 d_X9_lensOf_89 rfl rfl ?_
      refine wp_iaload (v := (c.2.1 5) (l)) d_X9_lensOf_90 (hp_5 _ _ _ _ _) (vp_in_nI (by omega) (by omega)) (congrArg ((c.2.1 5)) (nI_clamp (by omega))) ?_
      refine wp_reti d_X9_lensOf_91 rfl ?_
      refine Or.inr ⟨l, hl, rfl, congrArg (fun z => some (Value.int z)) ?_, w, rfl, kWf.rf w, id⟩
      rw [if_neg c14_0, if_neg c14_1, if_neg c14_2, if_pos c14]
    refine wp_if (P := (u) = 4) (fun c14 => ?_) (fun c14_4 => ?_)
    · refine wp_tableIn 92 d_X9_lensOf_14 (by rw [c14] <;> decide) (by rw [c14] <;> decide) (by rw [c14] <;> rfl) rfl ?_
      refine wp_aload_n 0 d_X9_lensOf_92 rfl rfl ?_
      refine wp_getfield (v := .ref (42)) d_X9_lensOf_93 gf_X9_32 (hp_0 _ _ _ _ _) rfl ?_
      refine wp_aload_n 0 d_X9_lensOf_96 rfl rfl ?_
      refine wp_getfield (v := .ref (1)) d_X9_lensOf_97 gf_X9_12 (hp_0 _ _ _ _ _) rfl ?_
      refine wp_virtual0 (As := [.ref (1)]) d_X9_lensOf_100 lk_X9_121 mv_X5_load in_X5_load se_X5_load (Nat.le_of_ble_eq_true rfl) (Nat.le_of_ble_eq_true rfl) (hp_42 _ _ _ _ _) rfl (s_X5_load hn hn9 hrr hR hL hc8 hwf hk) (fun v100 h100 q100 => ?_)
      obtain ⟨rfl, w1, rfl, hl1, hd1⟩ := q100
      show WP _ _ _ _ _ 103 _ [] (HP c w1 m v E) _
      refine wp_aload_n 0 d_X9_lensOf_103 rfl rfl ?_
      refine wp_getfield (v := .ref (42)) d_X9_lensOf_104 gf_X9_32 (hp_0 _ _ _ _ _) rfl ?_
      refine wp_getfield (v := .ref (44)) d_X9_lensOf_107 gf_X9_125 (hp_42 _ _ _ _ _) rfl ?_
      refine wp_iload_n 1 d_X9_lensOf_110 rfl rfl ?_
      refine wp_iaload (v := (w1.2.1 44) (l)) d_X9_lensOf_111 (hp_44 _ _ _ _ _) (vp_in_nI (by omega) (by omega)) (congrArg ((w1.2.1 44)) (nI_clamp (by omega))) ?_
      refine wp_reti d_X9_lensOf_112 rfl ?_
      refine Or.inr ⟨l, hl, rfl, congrArg (fun z => some (Value.int z)) ?_, w1, rfl, hl1.a.wf, fun hr0 => kRay_0 hr0 (fun k9 h9 h8 => by rw [hl1.2.1 k9 (by omega)])⟩
      rw [if_neg c14_0, if_neg c14_1, if_neg c14_2, if_neg c14_3, if_pos c14]
      exact hd1.2.2.2.1 l hl
    refine wp_if (P := (u) = 5) (fun c14 => ?_) (fun c14_5 => ?_)
    · refine wp_tableIn 113 d_X9_lensOf_14 (by rw [c14] <;> decide) (by rw [c14] <;> decide) (by rw [c14] <;> rfl) rfl ?_
      refine wp_aload_n 0 d_X9_lensOf_113 rfl rfl ?_
      refine wp_getfield (v := .ref (1)) d_X9_lensOf_114 gf_X9_12 (hp_0 _ _ _ _ _) rfl ?_
      refine wp_iload_n 1 d_X9_lensOf_117 rfl rfl ?_
      refine wp_vrt_i (As := [.int (nI (l))]) (x0 := kfi (c.2.1 9) (nI (l)) p 0) (h1 := HP c w m v E) d_X9_lensOf_118 lk_X9_128 mv_X1_placeOf in_X1_placeOf se_X1_placeOf (Nat.le_of_ble_eq_true rfl) (Nat.le_of_ble_eq_true rfl) (hp_1 _ _ _ _ _) rfl (s_X1_placeOf hp (by omega) (nI (l))) ?_
      refine wp_reti d_X9_lensOf_121 rfl ?_
      refine Or.inr ⟨l, hl, rfl, congrArg (fun z => some (Value.int z)) ?_, w, rfl, kWf.rf w, id⟩
      rw [if_neg c14_0, if_neg c14_1, if_neg c14_2, if_neg c14_3, if_neg c14_4, if_pos c14]
    refine wp_swd_X9_lensOf_14 c14_0 c14_1 c14_2 c14_3 c14_4 c14_5 ?_
    refine wp_iconst (v0 := -1) d_X9_lensOf_122 rfl ?_
    refine wp_reti d_X9_lensOf_123 rfl ?_
    refine Or.inr ⟨l, hl, rfl, congrArg (fun z => some (Value.int z)) ?_, w, rfl, kWf.rf w, id⟩
    rw [if_neg c14_0, if_neg c14_1, if_neg c14_2, if_neg c14_3, if_neg c14_4, if_neg c14_5]
  · refine wp_iconst (v0 := -1) d_X9_lensOf_11 rfl ?_
    refine wp_reti d_X9_lensOf_12 rfl ?_
    exact Or.inl ⟨c8, rfl, rfl⟩
