/-! ===== call by call: the tape's bytes ===== -/
theorem b255_32 (j : Nat) (h : j < 32) : (255#32).getLsbD j = decide (j < 8) := by
  have : ∀ j : Fin 32, (255#32).getLsbD j.val = decide (j.val < 8) := by decide
  exact this ⟨j, h⟩
theorem b255_64 (j : Nat) (h : j < 32) : (255#64).getLsbD j = decide (j < 8) := by
  have : ∀ j : Fin 32, (255#64).getLsbD j.val = decide (j.val < 8) := by decide
  exact this ⟨j, h⟩
theorem cby_b (x : BitVec 64) {k : Nat} (hk : k ≤ 56) : ((x >>> k).signExtend 32) &&& 255#32 = ((x.sshiftRight k) &&& 255#64).signExtend 32 := by
  apply BitVec.eq_of_getLsbD_eq
  intro j hj
  rw [BitVec.getLsbD_and, BitVec.getLsbD_signExtend, BitVec.getLsbD_signExtend, BitVec.getLsbD_and, BitVec.getLsbD_ushiftRight, BitVec.getLsbD_sshiftRight, b255_32 j hj, b255_64 j hj]
  by_cases h : j < 8
  · simp [h, hj, show j < 64 by omega, show k + j < 64 by omega]
  · simp [h, show j < 64 by omega]
theorem and255 (x : Int32) : 0 ≤ (x &&& 255).toInt ∧ (x &&& 255).toInt ≤ 255 := by
  have h : (x &&& 255).toBitVec.toNat ≤ 255 := by
    rw [Int32.toBitVec_and, BitVec.toNat_and]
    exact Nat.and_le_right
  have e : (x &&& 255).toInt = ((x &&& 255).toBitVec.toNat : Int) := BitVec.toInt_eq_toNat_of_lt (by omega)
  omega
theorem cby_mby (e : Int64) {i : Nat} (hi : i < 8) : cby e i = mby e i := by
  have key : ∀ (a : UInt64) (b : Int64) (k : Nat), k ≤ 56 → (a.toBitVec % 64#64).toNat = k → (b.toBitVec.smod 64#64).toNat = k → ((Int64.toInt32 ((Int64.toUInt64 e >>> a).toInt64)) &&& 255) = Int64.toInt32 ((e >>> b) &&& 255) := by
    intro a b k hk ha hb
    apply Int32.toBitVec_inj.mp
    rw [Int32.toBitVec_and, Int64.toBitVec_toInt32, Int64.toBitVec_toInt32, Int64.toBitVec_and, Int64.toBitVec_shiftRight, UInt64.toBitVec_toInt64, UInt64.toBitVec_shiftRight, Int64.toBitVec_toUInt64]
    show ((e.toBitVec >>> (a.toBitVec % 64#64).toNat).signExtend 32) &&& 255#32 = ((e.toBitVec.sshiftRight (b.toBitVec.smod 64#64).toNat) &&& 255#64).signExtend 32
    rw [ha, hb]
    exact cby_b _ hk
  unfold cby mby
  obtain rfl | rfl | rfl | rfl | rfl | rfl | rfl | rfl : i = 0 ∨ i = 1 ∨ i = 2 ∨ i = 3 ∨ i = 4 ∨ i = 5 ∨ i = 6 ∨ i = 7 := by omega
  · exact key _ _ 0 (by decide) (by decide) (by decide)
  · exact key _ _ 8 (by decide) (by decide) (by decide)
  · exact key _ _ 16 (by decide) (by decide) (by decide)
  · exact key _ _ 24 (by decide) (by decide) (by decide)
  · exact key _ _ 32 (by decide) (by decide) (by decide)
  · exact key _ _ 40 (by decide) (by decide) (by decide)
  · exact key _ _ 48 (by decide) (by decide) (by decide)
  · exact key _ _ 56 (by decide) (by decide) (by decide)
theorem j_feed {X : kX} {d : Nat} (hd : 20 ≤ d) (e : Int64) (x : Int32) : kJn X d 0 0 Y_X9_feed Y_X10_feed [(1, .long e), (3, .int x)] := by
  intro c w m v E hRl
  obtain ⟨hB, hK, ⟨T, hT2, hT, hT', hby⟩, hW, hC, hH, hF, hV⟩ := id hRl
  have hM : ∀ c1 : kZ, WP X d 0 0 Y_X10_feed 0 _ [] (HP c1 w m v E) _ := fun c1 => wp_depth (by omega) (s_X10_feed (X := X) (d := 0) (c := c1) (w := w) (m := m) (v := v) (E := E) hT' hT2 e x)
  refine wp_mono ?_ (wp_depth (by omega) (s_X9_feed (d := 0) hT hT2 e x))
  have rg : ∀ {N : Nat}, 1 ≤ N → N ≤ 8 → 1 ≤ (nI N).toInt ∧ (nI N).toInt ≤ 8 := fun {N} h1 h2 => by
    have := nI_toInt (n := N) (by omega)
    omega
  rintro r1 t1 (⟨h, rfl, rfl⟩ | ⟨N, h1, h2, rfl, ⟨h3, rfl, rfl⟩ | ⟨h3, rfl, f1, rfl, h4, h5⟩⟩)
  · refine ⟨_, c, w, E, rfl, rfl, wp_mono ?_ (hM _)⟩
    rintro r2 t2 (⟨g, rfl, rfl⟩ | ⟨N, h1, h2, rfl, -⟩)
    · exact ⟨rfl, m, v, rfl, hRl⟩
    · exact absurd (rg h1 h2) h
  · refine ⟨_, c, w, E, rfl, rfl, wp_mono ?_ (hM _)⟩
    rintro r2 t2 (⟨g, rfl, rfl⟩ | ⟨N2, g1, g2, e2, ⟨g3, rfl, rfl⟩ | ⟨g3, rfl, f2, rfl, g4, g5⟩⟩)
    · exact absurd (rg h1 h2) g
    · exact ⟨rfl, m, v, rfl, hRl⟩
    · obtain rfl := nI_ij (by omega) (by omega) e2
      omega
  · refine ⟨_, _, w, E, rfl, rfl, wp_mono ?_ (hM _)⟩
    rintro r2 t2 (⟨g, rfl, rfl⟩ | ⟨N2, g1, g2, e2, ⟨g3, rfl, rfl⟩ | ⟨g3, rfl, f2, rfl, g4, g5⟩⟩)
    · exact absurd (rg h1 h2) g
    · obtain rfl := nI_ij (by omega) (by omega) e2
      omega
    · obtain rfl := nI_ij (by omega) (by omega) e2
      refine ⟨rfl, _, v, rfl, ⟨hB, hK, ⟨T + N, h3, rfl, rfl, fun j hj => ?_⟩, hW, hC, hH, hF, hV⟩⟩
      show f2 j = f1 j ∧ 0 ≤ (f1 j).toInt ∧ (f1 j).toInt ≤ 255
      by_cases q : j < T
      · rw [h4 j q, g4 j q]
        exact hby j q
      · obtain ⟨i, rfl⟩ : ∃ i, j = T + i := ⟨j - T, by omega⟩
        rw [h5 i (by omega), g5 i (by omega), cby_mby e (by omega)]
        refine ⟨rfl, ?_⟩
        rw [← cby_mby e (by omega)]
        exact and255 _
