section kMath
variable {X : kX} {d mc ms : Nat} {y : kM} {pc : Nat} {ls : List (Nat × Value)} {st : List Value} {h : kH} {Q : Option Value → kH → Prop}
theorem wp_mmax {idx : Nat} {x0 y0 : Int32} (hd : decode y.2.1 pc = .ok (.invokestatic idx, 3)) (hw : Cond.methodLink y.1.cls idx Lib.Math.max.name ∈ kTB) (hw2 : Cond.static Lib.Math.max.name ∈ kTB) (hw3 : Cond.initialized "java/lang/Math" ∈ kTB) (hw4 : Cond.code Lib.Math.max.name Lib.Math.max.code 2 (some .int) ∈ kTB) (hcat : (st.map fun v => v.category).sum ≤ 8) (kk : WP X (d + 1) mc ms y (pc + 3) ls (.int (if x0 < y0 then y0 else x0) :: st) h Q) : WP X (d + 1) mc ms y pc ls (.int y0 :: .int x0 :: st) h Q := by
  intro p l e R s m args below meth c D ty B sp FQ Cf Sf G H locs cells slots lsA hW hS hcc hss hl
  obtain ⟨hx, hb, hml, hts, hN, hown, -, hK, hSp, hz, hr1, hr2, hsp⟩ := G.1
  have g1 := G.2.1
  have g2 := G.2.2.1
  have hcat2 : ((st.map (kcv B sp)).map fun v => v.category).sum = (st.map fun v => v.category).sum := by simp only [List.map_map, Function.comp_def, kcv_cat hsp]
  exact va_mmax hx hb (hml.trans hl.1.symm) hown (hts _ hw) (hts _ hw2) (hts _ hw3) (hts _ hw4) (by omega) (by omega) (by omega) (by omega) hd (kk p l e R s m args below meth c D ty B sp FQ Cf Sf G H locs cells slots lsA hW hS hcc hss hl)
theorem wp_mmin {idx : Nat} {x0 y0 : Int32} (hd : decode y.2.1 pc = .ok (.invokestatic idx, 3)) (hw : Cond.methodLink y.1.cls idx Lib.Math.min.name ∈ kTB) (hw2 : Cond.static Lib.Math.min.name ∈ kTB) (hw3 : Cond.initialized "java/lang/Math" ∈ kTB) (hw4 : Cond.code Lib.Math.min.name Lib.Math.min.code 2 (some .int) ∈ kTB) (hcat : (st.map fun v => v.category).sum ≤ 8) (kk : WP X (d + 1) mc ms y (pc + 3) ls (.int (if y0 < x0 then y0 else x0) :: st) h Q) : WP X (d + 1) mc ms y pc ls (.int y0 :: .int x0 :: st) h Q := by
  intro p l e R s m args below meth c D ty B sp FQ Cf Sf G H locs cells slots lsA hW hS hcc hss hl
  obtain ⟨hx, hb, hml, hts, hN, hown, -, hK, hSp, hz, hr1, hr2, hsp⟩ := G.1
  have g1 := G.2.1
  have g2 := G.2.2.1
  have hcat2 : ((st.map (kcv B sp)).map fun v => v.category).sum = (st.map fun v => v.category).sum := by simp only [List.map_map, Function.comp_def, kcv_cat hsp]
  exact va_mmin hx hb (hml.trans hl.1.symm) hown (hts _ hw) (hts _ hw2) (hts _ hw3) (hts _ hw4) (by omega) (by omega) (by omega) (by omega) hd (kk p l e R s m args below meth c D ty B sp FQ Cf Sf G H locs cells slots lsA hW hS hcc hss hl)
theorem wp_mabs {idx : Nat} {x0 y0 : Int32} (hd : decode y.2.1 pc = .ok (.invokestatic idx, 3)) (hw : Cond.methodLink y.1.cls idx Lib.Math.abs.name ∈ kTB) (hw2 : Cond.static Lib.Math.abs.name ∈ kTB) (hw3 : Cond.initialized "java/lang/Math" ∈ kTB) (hw4 : Cond.code Lib.Math.abs.name Lib.Math.abs.code 1 (some .int) ∈ kTB) (hcat : (st.map fun v => v.category).sum ≤ 8) (kk : WP X (d + 1) mc ms y (pc + 3) ls (.int (if 0 ≤ x0 then x0 else 0 - x0) :: st) h Q) : WP X (d + 1) mc ms y pc ls (.int x0 :: st) h Q := by
  intro p l e R s m args below meth c D ty B sp FQ Cf Sf G H locs cells slots lsA hW hS hcc hss hl
  obtain ⟨hx, hb, hml, hts, hN, hown, -, hK, hSp, hz, hr1, hr2, hsp⟩ := G.1
  have g1 := G.2.1
  have g2 := G.2.2.1
  have hcat2 : ((st.map (kcv B sp)).map fun v => v.category).sum = (st.map fun v => v.category).sum := by simp only [List.map_map, Function.comp_def, kcv_cat hsp]
  exact va_mabs hx hb (hml.trans hl.1.symm) hown (hts _ hw) (hts _ hw2) (hts _ hw3) (hts _ hw4) (by omega) (by omega) (by omega) (by omega) hd (kk p l e R s m args below meth c D ty B sp FQ Cf Sf G H locs cells slots lsA hW hS hcc hss hl)
end kMath
