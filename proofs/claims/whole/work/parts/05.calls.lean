/-! ===== what stood there before: the script, the tables, the names' text ===== -/
section kRules3
variable {X : kX} {d mc ms : Nat} {y : kM} {pc : Nat} {ls : List (Nat × Value)} {st : List Value} {h : kH} {Q : Option Value → kH → Prop}
theorem wp_sload {i v : Int32} (hd : decode y.2.1 pc = .ok (.iaload, 1)) (hi : vp_in i X.1) (hv : X.2 i.toNatClampNeg = v) (kk : WP X d mc ms y (pc + 1) ls (.int v :: st) h Q) : WP X d mc ms y pc ls (.int i :: .float 0 :: st) h Q := by
  subst hv
  intro p l e R s m args below meth c D ty B sp FQ Cf Sf G H locs cells slots lsA hW hS hcc hss hl
  obtain ⟨hx, hb, -, hts, hN, hown, -, hK, ⟨⟨b, hb0, hX, hbl⟩, -⟩, hz, -⟩ := G.1
  have K := kk p l e R s m args below meth c D ty B sp FQ Cf Sf G H locs cells slots lsA hW hS hcc hss hl
  show W p l e R s m args below meth c H locs cells slots FQ (F0 m pc lsA (.int i :: sp 0 :: st.map (kcv B sp)))
  rw [hb0]
  exact va_sld hx hb hX (Nat.lt_of_lt_of_le hbl hz) (Nat.not_le.mpr hbl) hS hi hd K
theorem wp_slen {v : Int32} (hd : decode y.2.1 pc = .ok (.arraylength, 1)) (hv : Int32.ofNat X.1 = v) (kk : WP X d mc ms y (pc + 1) ls (.int v :: st) h Q) : WP X d mc ms y pc ls (.float 0 :: st) h Q := by
  subst hv
  intro p l e R s m args below meth c D ty B sp FQ Cf Sf G H locs cells slots lsA hW hS hcc hss hl
  obtain ⟨hx, hb, -, hts, hN, hown, -, hK, ⟨⟨b, hb0, hX, hbl⟩, -⟩, hz, -⟩ := G.1
  have K := kk p l e R s m args below meth c D ty B sp FQ Cf Sf G H locs cells slots lsA hW hS hcc hss hl
  show W p l e R s m args below meth c H locs cells slots FQ (F0 m pc lsA (sp 0 :: st.map (kcv B sp)))
  rw [hb0]
  exact va_slen hx hb hX (Nat.lt_of_lt_of_le hbl hz) (Nat.not_le.mpr hbl) hS hd K
theorem kS_tab {B : Nat} {sp : Nat → Value} {U : State} {H : Heap} (hS : kS X B sp U H) {u : Nat} (hu : u = 1 ∨ u = 2 ∨ u = 3) : kS1 B sp u U H := by
  rcases hu with rfl | rfl | rfl
  · exact hS.2.1.1
  · exact hS.2.1.2.1
  · exact hS.2.1.2.2
theorem wp_getstab {idx : Nat} (u : UInt32) (hd : decode y.2.1 pc = .ok (.getstatic idx, 3)) (hu : u.toNat = 1 ∨ u.toNat = 2 ∨ u.toNat = 3) (hw : Cond.fieldLink y.1.cls idx "MendedTube" (kTN u.toNat) "[I" ∈ kTB ∨ ∃ host, Cond.fieldLinkNest y.1.cls idx "MendedTube" (kTN u.toNat) "[I" host ∈ kNB) (kk : WP X d mc ms y (pc + 3) ls (.float u :: st) h Q) : WP X d mc ms y pc ls st h Q := by
  intro p l e R s m args below meth c D ty B sp FQ Cf Sf G H locs cells slots lsA hW hS hcc hss hl
  obtain ⟨hx, hb, -, hts, hN, hown, -, hK, hSp, hz, -⟩ := G.1
  have K := kk p l e R s m args below meth c D ty B sp FQ Cf Sf G H locs cells slots lsA hW hS hcc hss hl
  obtain ⟨t, ht, hT, hZ⟩ := kS_tab hSp hu
  have K : W p l e R s m args below meth c H locs cells slots FQ (F0 m (pc + 3) lsA (sp u.toNat :: st.map (kcv B sp))) := K
  rw [ht] at K
  rcases hw with hw | ⟨host, hw⟩
  · exact va_gets hx hb hZ hS hown (hts _ hw) (fun _ z => z) hd K
  · exact va_getsN hx hb hZ hS hown (va_Nw.use rfl (hN _ hw)) (fun _ z => z) hd K
theorem wp_tabload {u : UInt32} {i v : Int32} (hd : decode y.2.1 pc = .ok (.iaload, 1)) (hu : u.toNat = 1 ∨ u.toNat = 2 ∨ u.toNat = 3) (hi : vp_in i (kTAB u.toNat).length) (hv : (kTAB u.toNat).getD i.toNatClampNeg 0 = v) (kk : WP X d mc ms y (pc + 1) ls (.int v :: st) h Q) : WP X d mc ms y pc ls (.int i :: .float u :: st) h Q := by
  intro p l e R s m args below meth c D ty B sp FQ Cf Sf G H locs cells slots lsA hW hS hcc hss hl
  obtain ⟨hx, hb, -, hts, hN, hown, -, hK, hSp, hz, -⟩ := G.1
  have K := kk p l e R s m args below meth c D ty B sp FQ Cf Sf G H locs cells slots lsA hW hS hcc hss hl
  obtain ⟨t, ht, hT, hZ⟩ := kS_tab hSp hu
  show W p l e R s m args below meth c H locs cells slots FQ (F0 m pc lsA (.int i :: sp u.toNat :: st.map (kcv B sp)))
  rw [ht]
  exact va_ti (v := .int v) hx hb hT hS hi (by rw [hv]) hd K
theorem wp_tablen {u : UInt32} {v : Int32} (hd : decode y.2.1 pc = .ok (.arraylength, 1)) (hu : u.toNat = 1 ∨ u.toNat = 2 ∨ u.toNat = 3) (hv : Int32.ofNat (kTAB u.toNat).length = v) (kk : WP X d mc ms y (pc + 1) ls (.int v :: st) h Q) : WP X d mc ms y pc ls (.float u :: st) h Q := by
  intro p l e R s m args below meth c D ty B sp FQ Cf Sf G H locs cells slots lsA hW hS hcc hss hl
  obtain ⟨hx, hb, -, hts, hN, hown, -, hK, hSp, hz, -⟩ := G.1
  have K := kk p l e R s m args below meth c D ty B sp FQ Cf Sf G H locs cells slots lsA hW hS hcc hss hl
  obtain ⟨t, ht, hT, hZ⟩ := kS_tab hSp hu
  show W p l e R s m args below meth c H locs cells slots FQ (F0 m pc lsA (sp u.toNat :: st.map (kcv B sp)))
  rw [ht]
  exact va_tlen hx hb hT hS hv hd K
theorem wp_ldcS (hd : decode y.2.1 pc = .ok (.ldc 87, 2)) (hy : y.1.cls = "MendedTube$Text") (kk : WP X d mc ms y (pc + 2) ls (.float 4 :: st) h Q) : WP X d mc ms y pc ls st h Q := by
  intro p l e R s m args below meth c D ty B sp FQ Cf Sf G H locs cells slots lsA hW hS hcc hss hl
  obtain ⟨hx, hb, -, hts, hN, hown, -, hK, ⟨-, -, ⟨q, v, h1, h2, h3, -⟩, -⟩, hz, -⟩ := G.1
  have K := kk p l e R s m args below meth c D ty B sp FQ Cf Sf G H locs cells slots lsA hW hS hcc hss hl
  have K : W p l e R s m args below meth c H locs cells slots FQ (F0 m (pc + 2) lsA (sp 4 :: st.map (kcv B sp))) := K
  rw [h1] at K
  rw [hy] at hown
  exact va_ldcS hx hb hown h3 hd K
theorem wp_strval {idx : Nat} (hd : decode y.2.1 pc = .ok (.getfield idx, 3)) (hw : Cond.fieldLink y.1.cls idx "java/lang/String" "value" "[B" ∈ kTB) (kk : WP X d mc ms y (pc + 3) ls (.float 5 :: st) h Q) : WP X d mc ms y pc ls (.float 4 :: st) h Q := by
  intro p l e R s m args below meth c D ty B sp FQ Cf Sf G H locs cells slots lsA hW hS hcc hss hl
  obtain ⟨hx, hb, -, hts, hN, hown, -, hK, ⟨-, -, ⟨q, v, h1, h2, h3, h4, h5, h6, h7⟩, -⟩, hz, -⟩ := G.1
  have K := kk p l e R s m args below meth c D ty B sp FQ Cf Sf G H locs cells slots lsA hW hS hcc hss hl
  have K : W p l e R s m args below meth c H locs cells slots FQ (F0 m (pc + 3) lsA (sp 5 :: st.map (kcv B sp))) := K
  rw [h2] at K
  show W p l e R s m args below meth c H locs cells slots FQ (F0 m pc lsA (sp 4 :: st.map (kcv B sp)))
  rw [h1]
  exact vk_getf hx hb h6 hS hown (hts _ hw) (fun _ z => z) hd K
theorem wp_strcod {idx : Nat} (hd : decode y.2.1 pc = .ok (.getfield idx, 3)) (hw : Cond.fieldLink y.1.cls idx "java/lang/String" "coder" "B" ∈ kTB) (kk : WP X d mc ms y (pc + 3) ls (.int 0 :: st) h Q) : WP X d mc ms y pc ls (.float 4 :: st) h Q := by
  intro p l e R s m args below meth c D ty B sp FQ Cf Sf G H locs cells slots lsA hW hS hcc hss hl
  obtain ⟨hx, hb, -, hts, hN, hown, -, hK, ⟨-, -, ⟨q, v, h1, h2, h3, h4, h5, h6, h7⟩, -⟩, hz, -⟩ := G.1
  have K := kk p l e R s m args below meth c D ty B sp FQ Cf Sf G H locs cells slots lsA hW hS hcc hss hl
  show W p l e R s m args below meth c H locs cells slots FQ (F0 m pc lsA (sp 4 :: st.map (kcv B sp)))
  rw [h1]
  exact vk_getf hx hb h5 hS hown (hts _ hw) (fun _ z => z) hd K
theorem wp_bytlen {v : Int32} (hd : decode y.2.1 pc = .ok (.arraylength, 1)) (hv : Int32.ofNat kBYT.length = v) (kk : WP X d mc ms y (pc + 1) ls (.int v :: st) h Q) : WP X d mc ms y pc ls (.float 5 :: st) h Q := by
  intro p l e R s m args below meth c D ty B sp FQ Cf Sf G H locs cells slots lsA hW hS hcc hss hl
  obtain ⟨hx, hb, -, hts, hN, hown, -, hK, ⟨-, -, ⟨q, v5, h1, h2, h3, h4, h5, h6, h7⟩, -⟩, hz, -⟩ := G.1
  have K := kk p l e R s m args below meth c D ty B sp FQ Cf Sf G H locs cells slots lsA hW hS hcc hss hl
  show W p l e R s m args below meth c H locs cells slots FQ (F0 m pc lsA (sp 5 :: st.map (kcv B sp)))
  rw [h2]
  exact va_tlen hx hb h7 hS hv hd K
theorem wp_bytload {i v : Int32} (hd : decode y.2.1 pc = .ok (.baload, 1)) (hi : vp_in i kBYT.length) (hv : kBYT.getD i.toNatClampNeg 0 = v) (kk : WP X d mc ms y (pc + 1) ls (.int v :: st) h Q) : WP X d mc ms y pc ls (.int i :: .float 5 :: st) h Q := by
  intro p l e R s m args below meth c D ty B sp FQ Cf Sf G H locs cells slots lsA hW hS hcc hss hl
  obtain ⟨hx, hb, -, hts, hN, hown, -, hK, ⟨-, -, ⟨q, v5, h1, h2, h3, h4, h5, h6, h7⟩, -⟩, hz, -⟩ := G.1
  have K := kk p l e R s m args below meth c D ty B sp FQ Cf Sf G H locs cells slots lsA hW hS hcc hss hl
  show W p l e R s m args below meth c H locs cells slots FQ (F0 m pc lsA (.int i :: sp 5 :: st.map (kcv B sp)))
  rw [h2]
  exact va_tb (v := .int v) hx hb h7 hS hi (by rw [hv]) hd K
theorem wp_getcs {idx : Nat} (hd : decode y.2.1 pc = .ok (.getstatic idx, 3)) (hw : Cond.fieldLink y.1.cls idx "java/lang/String" "COMPACT_STRINGS" "Z" ∈ kTB) (kk : WP X d mc ms y (pc + 3) ls (.int 1 :: st) h Q) : WP X d mc ms y pc ls st h Q := by
  intro p l e R s m args below meth c D ty B sp FQ Cf Sf G H locs cells slots lsA hW hS hcc hss hl
  obtain ⟨hx, hb, -, hts, hN, hown, -, hK, ⟨-, -, -, ⟨h1, h2⟩, -⟩, hz, -⟩ := G.1
  exact va_gets hx hb h2 hS hown (hts _ hw) (fun _ z => z) hd (kk p l e R s m args below meth c D ty B sp FQ Cf Sf G H locs cells slots lsA hW hS hcc hss hl)
theorem wp_getsf {idx : Nat} (hd : decode y.2.1 pc = .ok (.getstatic idx, 3)) (hw : Cond.fieldLink y.1.cls idx "jdk/internal/util/Preconditions" "SIOOBE_FORMATTER" "Ljava/util/function/BiFunction;" ∈ kTB) (kk : WP X d mc ms y (pc + 3) ls (.float 6 :: st) h Q) : WP X d mc ms y pc ls st h Q := by
  intro p l e R s m args below meth c D ty B sp FQ Cf Sf G H locs cells slots lsA hW hS hcc hss hl
  obtain ⟨hx, hb, -, hts, hN, hown, -, hK, ⟨-, -, -, ⟨h1, h2⟩, -⟩, hz, -⟩ := G.1
  exact va_gets hx hb h1 hS hown (hts _ hw) (fun _ z => z) hd (kk p l e R s m args below meth c D ty B sp FQ Cf Sf G H locs cells slots lsA hW hS hcc hss hl)
/-! System.arraycopy between arrays of ints -/
theorem wp_arraycopy {idx a a0 n0 n1 : Nat} {f g : Nat → Int32} {sp0 dp n : Int32} {h' : kH} (hd : decode y.2.1 pc = .ok (.invokestatic idx, 3)) (hw : Cond.methodLink y.1.cls idx arraycopyName ∈ kTB) (hw1 : Cond.native arraycopyName ∈ lw_tbl ∧ goodWord (Cond.native arraycopyName) = true) (hw2 : Cond.static arraycopyName ∈ kTB) (hw3 : Cond.initialized "java/lang/System" ∈ kTB)
    (hc0 : h[a0]? = some (.inl (0, n0, .inl f))) (hc1 : h[a]? = some (.inl (0, n1, .inl g))) (h1 : ¬ sp0 < 0) (h2 : ¬ dp < 0) (h3 : ¬ n < 0) (h4 : sp0.toNatClampNeg + n.toNatClampNeg ≤ n0) (h5 : dp.toNatClampNeg + n.toNatClampNeg ≤ n1) (hcat : (st.map fun v => v.category).sum ≤ 8)
    (hh : h.set a (.inl (0, n1, .inl (va_cpy f g sp0.toNatClampNeg dp.toNatClampNeg n.toNatClampNeg))) = h') (kk : WP X (d + 1) mc ms y (pc + 3) ls st h' Q) : WP X (d + 1) mc ms y pc ls (.int n :: .int dp :: .ref a :: .int sp0 :: .ref a0 :: st) h Q := by
  subst hh
  have nn : ∀ z : Int32, ¬ z < 0 → z.toInt = (z.toNatClampNeg : Int) := by
    intro z hz
    have hz0 : (0 : Int) ≤ z.toInt := by
      have := Int32.not_lt.mp hz
      simpa using Int32.le_iff_toInt_le.mp this
    show z.toInt = ((z.toInt.toNat : Nat) : Int)
    omega
  intro p l e R s m args below meth c D ty B sp FQ Cf Sf G H locs cells slots lsA hW hS hcc hss hl
  obtain ⟨hx, hb, hml, hts, hN, hown, -, hK, hSp, hz, hr1, hr2, hsp⟩ := G.1
  have hcat2 : ((st.map (kcv B sp)).map fun v => v.category).sum = (st.map fun v => v.category).sum := by simp only [List.map_map, Function.comp_def, kcv_cat hsp]
  intro T hT X1
  have hc0 : H[B + a0]? = some (vp_cell (ty 0) (n0, .inl f)) := hW.2 a0 _ hc0
  have hc1' : H[B + a]? = some (vp_cell (ty 0) (n1, .inl g)) := hW.2 a _ hc1
  obtain ⟨-, k0, hk0, cm0, hkk0⟩ := (hK.2 0 (ty 0, .int) rfl).1 n0 (fun j => .int (f j))
  obtain ⟨-, k1, hk1, cm1, hkk1⟩ := (hK.2 0 (ty 0, .int) rfl).1 n1 (fun j => .int (g j))
  obtain ⟨vm', X', step⟩ := X1.arraycopy hx hown (hts _ hw) (hts _ (List.mem_filter.mpr hw1)) (hts _ hw2) (hts _ hw3) (src := B + a0) (dst := B + a) (cs := vp_cell (ty 0) (n0, .inl f)) (cd := vp_cell (ty 0) (n1, .inl g)) (srcPos := sp0) (destPos := dp) (n := n) (by rw [hT]; exact hc0) (by rw [hT]; exact hc1')
    (fun _ h => by cases h) (fun _ h => by cases h) (fun h => by cases h) (fun h => by cases h) hk0 hk1 hkk0 hkk1 (by simp [refKind]) h1 h2 h3
    (by rw [nn sp0 h1, nn n h3]; show ¬ _ > ((arrV (ty 0) n0 (fun j => .int (f j))).slots.size : Int); rw [arrV_size]; omega)
    (by rw [nn dp h2, nn n h3]; show ¬ _ > ((arrV (ty 0) n1 (fun j => .int (g j))).slots.size : Int); rw [arrV_size]; omega)
    (fun vm₁ _ i hi => by
      have e9 : (vp_cell (ty 0) (n0, .inl f)).slots.getD (sp0.toNatClampNeg + i) .null = .int (f (sp0.toNatClampNeg + i)) := by
        show (arrV (ty 0) n0 (fun j => .int (f j))).slots.getD _ _ = _
        rw [Array.getD_eq_getD_getElem?, arrV_read _ _ (by omega)]
        rfl
      refine ⟨?_, ?_⟩
      · rw [e9]
        rfl
      · rw [e9]
        exact trivial)
    (g := F0 m pc lsA (.int n :: .int dp :: .ref (B + a) :: .int sp0 :: .ref (B + a0) :: st.map (kcv B sp))) rfl (by rw [hml]; exact hl.1) (rest := st.map (kcv B sp)) rfl (by rw [hb]; exact hd) (by omega) (by
      have hnw : nativeFrameWords "java/lang/System" "arraycopy" 5 ≤ 40 := by decide +kernel
      show 2 * 0 + _ + _ ≤ _
      omega)
  have e1 : copied (vp_cell (ty 0) (n0, .inl f)) (vp_cell (ty 0) (n1, .inl g)) sp0 dp n = vp_cell (ty 0) (n1, .inl (va_cpy f g sp0.toNatClampNeg dp.toNatClampNeg n.toNatClampNeg)) := va_copied (fun z => .int z) (ty 0) (ty 0) f g h4
  rw [e1] at X' step
  have hlt : B + a < H.size := (Array.getElem?_eq_some_iff.mp hc1').1
  have hheap : ((T.setVm vm').setCell (B + a) (vp_cell (ty 0) (n1, .inl (va_cpy f g sp0.toNatClampNeg dp.toNatClampNeg n.toNatClampNeg)))).heap = H.setIfInBounds (B + a) (vp_cell (ty 0) (n1, .inl (va_cpy f g sp0.toNatClampNeg dp.toNatClampNeg n.toNatClampNeg))) := by rw [← hT]; rfl
  have oq : ∀ q : Nat, q ≠ B + a → (H.setIfInBounds (B + a) (vp_cell (ty 0) (n1, .inl (va_cpy f g sp0.toNatClampNeg dp.toNatClampNeg n.toNatClampNeg))))[q]? = H[q]? := fun q hq => by simp [Array.getElem?_setIfInBounds, Ne.symm hq]
  obtain ⟨t, a1, b1⟩ := kk p l e R s m args below meth c D ty B sp FQ Cf Sf G _ _ cells slots lsA (hW.set hc1 (show (H.setIfInBounds (B + a) _)[B + a]? = some _ by simp [Array.getElem?_setIfInBounds, hlt]) (by simp) oq) ⟨by simp; exact hS.1, fun q g1 g2 => by
      rw [oq q (fun e9 => g2 (by rw [e9]; exact Nat.le_add_right B a))]
      exact hS.2.1 q g1 g2, fun q hq => by
      rcases List.mem_append.mp hq with h | h
      · exact hS.2.2 q h
      · obtain ⟨z, -, hz⟩ := List.mem_map.mp h
        rw [← hz]
        exact Nat.le_add_right B a⟩ hcc hss hl _ hheap X'
  exact ⟨t, step t a1, b1⟩
end kRules3
/-! ===== contracts and calls ===== -/
def kPc (X : kX) (D : va_G) (ty : Nat → ClassId) (B : Nat) (sp : Nat → Value) (h : kH) (av : List Value) : Array Value → State → Prop := va_Pc (av.map (kcv B sp)) (fun U => kW D ty B sp h U.heap ∧ va_K D vwCl (kT ty) U ∧ kS X B sp U U.heap ∧ kN U)
def kQc (D : va_G) (ty : Nat → ClassId) (B : Nat) (sp : Nat → Value) (Q : Option Value → kH → Prop) : Array Value → State → Outcome → State → Prop := fun _ st o t => ∃ (v : Option Value) (h : kH), Q v h ∧ o = .returned (v.map (kcv B sp)) ∧ kW D ty B sp h t.heap ∧ va_F (kA B) st t
def kws (y : kM) : List Cond := Cond.code y.1 y.2.1 y.2.2.1 y.2.2.2 :: kTB
/-- what is asked of a method, once: its code's word, its class, its arguments -/
def kMV (y : kM) (n : Nat) : Prop := Cond.code y.1 y.2.1 y.2.2.1 y.2.2.2 ∈ kTB ∧ Cond.initialized y.1.cls ∈ kTB ∧ plainName y.1.cls = true ∧ (y.1.cls ≠ "java/lang/invoke/MethodHandle" ∧ y.1.cls ≠ "java/lang/invoke/VarHandle" ∧ (parseMethodDescriptor y.1.desc).map (fun d => d.parameters.length) = some n) ∧ y.2.2.1 ≤ 40
theorem kls_args {B : Nat} {sp : Nat → Value} (hs : kSp sp) (vs : List Value) : ∀ i, lv_args i (vs.map (kcv B sp)) = kls B sp (lv_args i vs) := by
  induction vs with
  | nil => intro i; rfl
  | cons v t ih =>
    intro i
    simp only [List.map_cons, lv_args, kcv_cat hs]
    rw [ih]
    rfl
theorem ksl_len {B : Nat} {sp : Nat → Value} (hs : kSp sp) (vs : List Value) : (lg_sl (vs.map (kcv B sp))).length = (lg_sl vs).length := by
  induction vs with
  | nil => rfl
  | cons v t ih =>
    simp only [lg_sl, List.map_cons, List.flatMap_cons, List.length_append, kcv_cat hs] at ih ⊢
    rw [ih]
    split <;> rfl
theorem kMet {X : kX} {d mc ms : Nat} {y : kM} {n : Nat} {As : List Value} {h : kH} {Q : Option Value → kH → Prop} (hy : kMV y n) (hlen : (lg_sl As).length ≤ y.2.2.1) (k : WP X d mc ms y 0 (lv_args 0 As) [] h Q) (l : Launch) (D : va_G) (ty : Nat → ClassId) (B : Nat) (sp : Nat → Value) (hs : kSp sp) (h0 : X.1 = X.1) :
    Met l y.1 (kws y) { frames := d, cells := mc, slots := ms, locals := 60 * d } (kPc X D ty B sp h As) (kQc D ty B sp Q) mc ms (kA B) := by
  refine Met.ofW (cc := y.2.1) (maxL := y.2.2.1) (ret := y.2.2.2) hy.2.2.1 rfl ?_
  intro p e s m args below meth c s₁ Bd hml hv
  obtain ⟨rfl, hW, hK, hSp, hN⟩ := hv
  have hts0 := atoms_spec (ws := kws y) Bd.pre
  have hts : ∀ w ∈ kTB, w.before (As.map (kcv B sp)).toArray s = true := fun w hw => hts0 w (List.mem_cons_of_mem _ hw)
  have hown : s.vm.findClass y.1.cls = some m.cls := findClass_of_methodNamed Bd.named
  have hlocks := Bd.notSynchronized
  have hr := Bd.returns
  have hx := Bd.exec
  have hb := Bd.bytes
  have hB : B ≤ s.heap.size := by rw [hW.1]; exact Nat.le_add_right _ _
  have hS : va_S (kA B) s.heap s.heap [] := va_S.rf
  have hl := lv_entry (As.map (kcv B sp)) (n := y.2.2.1) (by rw [ksl_len hs]; exact hlen)
  rw [lg_entry_eq]
  generalize (lg_sl (As.map (kcv B sp)) ++ List.replicate (y.2.2.1 - (lg_sl (As.map (kcv B sp))).length) Slot.unset).toArray = lsA at hl ⊢
  rw [kls_args hs] at hl
  refine k p l e (headSpec (kws y) { frames := d, cells := mc, slots := ms, locals := 60 * d }).room s m _ below meth c D ty B sp _ mc ms ⟨⟨hx, hb, hml, hts, hN, hown, fun hi => by rw [(name_of_methodNamed Bd.named Bd.method).1]; exact hi, hK, hSp, hB, Nat.le_refl _, Nat.le_refl _, hs⟩, Nat.le_refl _, Nat.le_refl _, ?_⟩ s.heap [] 0 0 lsA hW hS (by omega) (by omega) hl
  intro pc lsB v h' H locs cells slots hq hret hW' hS' hc hss
  refine W.widen hc hss ?_
  have hqq : ∀ (w : Option Value) (t : State), w = v.map (kcv B sp) → t.heap = H → kQc D ty B sp Q (As.map (kcv B sp)).toArray s (.returned w) t := fun w t hw ht => ⟨v, h', hq, by rw [hw], by rw [ht]; exact hW', hS'.F ht⟩
  rcases hret with ⟨h1, rfl, h3⟩ | ⟨x, t0, h1, rfl, hn, h3⟩ | ⟨x, h1, rfl, h3⟩ | ⟨t0, a, h1, h2, rfl, h3⟩ | ⟨t0, h1, h2, rfl, h3⟩
  · exact W.vret hx hb (hr.trans h1) (fun t ht _ => hqq _ t rfl ht) hS'.2.2 h3 hlocks
  · exact W.zret hx hb (hr.trans h1) hn (fun t ht _ => hqq _ t rfl ht) hS'.2.2 h3 hlocks
  · exact W.lret hx hb (hr.trans h1) (fun t ht _ => hqq _ t rfl ht) hS'.2.2 h3 hlocks
  · exact W.aret hx hb (hr.trans h1) h2 (Or.inr ⟨B + a, rfl⟩) (fun t ht _ => hqq _ t rfl ht) hS'.2.2 h3 hlocks
  · exact W.aret hx hb (hr.trans h1) h2 (Or.inl rfl) (fun t ht _ => hqq _ t rfl ht) hS'.2.2 h3 hlocks
theorem kPc_blind {X : kX} {D : va_G} {ty : Nat → ClassId} {B : Nat} {sp : Nat → Value} {h : kH} {av : List Value} : FrameBlind (kPc X D ty B sp h av) := fun a U g mk q => by
  obtain ⟨q0, q1, q2, q3, q4⟩ := q
  exact ⟨q0, q1, va_K.moved (u := U) (U := U.calling g mk a) (Vm.Alike.refl U.vm) q2, q3.same rfl, kN.same (u := U) (U := U.calling g mk a) rfl q4⟩
section kCalls
variable {X : kX} {d mc ms mc1 ms1 : Nat} {y y' : kM} {pc : Nat} {ls : List (Nat × Value)} {st As : List Value} {h : kH} {Q Q1 : Option Value → kH → Prop}
/-- behind a call's run -/
theorem kRun {p : Program} {l : Launch} {e : Env} {R : Room} {s : State} {m : MethodId} {args : Array Value} {below : List Frame} {meth : Method} {c : Code} {D : va_G} {ty : Nat → ClassId} {B : Nat} {sp : Nat → Value} {FQ : State → Prop} {H : Heap} {locs : List Loc} {cells slots : Nat} {lsA : Array Slot} {st0 : List Value} {av : Array Value} (hS : va_S (kA B) s.heap H locs)
    (hr : va_Run p l e R s m args below meth c H locs cells slots mc1 ms1 (F0 m pc lsA st0) (st.map (kcv B sp)) (kQc D ty B sp Q1 av) (kA B))
    (kk : ∀ (v : Option Value) (h1 : kH) (H1 : Heap) (locs1 : List Loc), Q1 v h1 → kW D ty B sp h1 H1 → va_S (kA B) s.heap H1 locs1 → W p l e R s m args below meth c H1 locs1 (cells + mc1) (slots + ms1) FQ (F0 m (pc + 3) lsA ((v.toList ++ st).map (kcv B sp)))) : W p l e R s m args below meth c H locs cells slots FQ (F0 m pc lsA st0) := by
  intro T hT X1
  obtain ⟨v0, st₀, t, T', L, h0, X', hL, e1, e2, ⟨v, h1, hq, hv, hW, hF⟩, stp⟩ := hr T hT X1
  cases hv
  have hF1 := hF.1
  have hF2 := hF.2
  rw [h0, ← e1] at hF1 hF2
  obtain ⟨t2, a1, b1⟩ := kk v h1 T'.heap (locs ++ L) hq (by rw [e1]; exact hW) ⟨Nat.le_trans hS.1 hF1, fun q g1 g2 => by
      rw [hF2 q (Nat.lt_of_lt_of_le g1 hS.1) g2]
      exact hS.2.1 q g1 g2, fun q hq => by
      rcases List.mem_append.mp hq with h | h
      · exact hS.2.2 q h
      · exact hL q h⟩ T' rfl X'
  refine ⟨t2, stp t2 ?_, b1⟩
  have e9 : (v.toList ++ st).map (kcv B sp) = (v.map (kcv B sp)).toList ++ st.map (kcv B sp) := by cases v <;> simp
  rw [e9] at a1
  exact a1
theorem kGood (hy : Cond.code y'.1 y'.2.1 y'.2.2.1 y'.2.2.2 ∈ kTB) : GoodIn kTB (kws y') := by
  intro w hw
  have hw' : w ∈ kTB := by
    rcases List.mem_cons.mp hw with h | h
    · rw [h]; exact hy
    · exact h
  exact ⟨hw', good_of_word (kTB_good w hw')⟩
theorem kPre {s : State} {H : Heap} {D : va_G} {ty : Nat → ClassId} {B : Nat} {sp : Nat → Value} {locs : List Loc} (hK : va_K D vwCl (kT ty) s) (hSp : kS X B sp s s.heap) (hN : kN s) (hz : B ≤ s.heap.size) (hW : kW D ty B sp h H) (hS : va_S (kA B) s.heap H locs) (av : List Value) : ∀ U : State, U.heap = H → s.WarmedH U.vm → kPc X D ty B sp h av (av.map (kcv B sp)).toArray U := fun U hU hW1 =>
  ⟨rfl, by rw [hU]; exact hW, va_K.moved hW1.alike hK, by rw [hU]; exact (hSp.kept hz hS.2.1).warm hW1, hN.warm hW1⟩
def kLk (own : String) (idx : Nat) (y' : kM) : Prop := Cond.methodLink own idx y'.1 ∈ kTB ∨ ∃ host, Cond.methodLinkNest own idx y'.1 host ∈ kNB
theorem wp_static {idx : Nat} (hd : decode y.2.1 pc = .ok (.invokestatic idx, 3)) (hk : kLk y.1.cls idx y') (hm : kMV y' As.length) (hst : Cond.static y'.1 ∈ kTB) (hlen : (lg_sl As).length ≤ y'.2.2.1) (hcat : (st.map fun v => v.category).sum ≤ 8) (callee : WP X d mc1 ms1 y' 0 (lv_args 0 As) [] h Q1) (kk : ∀ (v : Option Value) (h1 : kH), Q1 v h1 → WP X (d + 1) mc ms y (pc + 3) ls (v.toList ++ st) h1 Q) : WP X (d + 1) (mc1 + mc) (ms1 + ms) y pc ls (As.reverse ++ st) h Q := by
  intro p l e R s m args below meth c D ty B sp FQ Cf Sf G H locs cells slots lsA hW hS hcc hss hl
  obtain ⟨hx, hb, hml, hts, hN, hown, -, hK, hSp, hz, hr1, hr2, hsp⟩ := G.1
  have g1 := G.2.1
  have g2 := G.2.2.1
  have hcat2 : ((st.map (kcv B sp)).map fun v => v.category).sum = (st.map fun v => v.category).sum := by simp only [List.map_map, Function.comp_def, kcv_cat hsp]
  have hMet := kMet hm hlen callee l D ty B sp hsp rfl
  rw [List.map_append, List.map_reverse]
  have hmax := hm.2.2.2.2
  have hR : d + 1 ≤ R.frames ∧ 8 + (y'.2.2.1 + 11) + 60 * d ≤ R.locals := ⟨hr1, by omega⟩
  have K : ∀ (v : Option Value) (h1 : kH) (H1 : Heap) (locs1 : List Loc), Q1 v h1 → kW D ty B sp h1 H1 → va_S (kA B) s.heap H1 locs1 → W p l e R s m args below meth c H1 locs1 (cells + mc1) (slots + ms1) FQ (F0 m (pc + 3) lsA ((v.toList ++ st).map (kcv B sp))) := fun v h1 H1 locs1 hq hW1 hS1 => kk v h1 hq p l e R s m args below meth c D ty B sp FQ Cf Sf G H1 locs1 _ _ lsA hW1 hS1 (by omega) (by omega) hl
  rcases hk with hk | ⟨host, hk⟩
  · exact kRun hS (va_runS (Ts := kTB) (As := As.map (kcv B sp)) (n := As.length) ⟨hx, hb, hml, hown, hts⟩ hMet ⟨callB_of As.length hts (kGood hm.1) rfl rfl rfl (hts _ hm.2.1) (hts _ hk) hm.2.2.2.1 hR, hts _ hst⟩ ⟨kPc_blind, kPre hK hSp hN hz hW hS As⟩ rfl (List.length_map _) hl.1 rfl (by show 2 * 0 + _ ≤ 8; omega) hd (by omega)) K
  · exact kRun hS (va_runSN (Ts := kTB) (host := host) (As := As.map (kcv B sp)) (n := As.length) ⟨hx, hb, hml, hown, hts⟩ hMet ⟨va_cnB As.length hts (kGood hm.1) rfl rfl rfl (hN _ hk) (hts _ hm.2.1) hm.2.2.2.1 hR, hts _ hst, trivial⟩ ⟨kPc_blind, kPre hK hSp hN hz hW hS As⟩ rfl (List.length_map _) hl.1 rfl (by show 2 * 0 + _ ≤ 8; omega) hd (by omega)) K
theorem kRecv {s : State} {H : Heap} {D : va_G} {ty : Nat → ClassId} {B : Nat} {sp : Nat → Value} {a ci : Nat} {r : vw_C} {fs : List Value} (hK : va_K D vwCl (kT ty) s) (hW : kW D ty B sp h H) (hr : vwCl[ci]? = some r) (hc : h[a]? = some (.inr (ci, fs))) : ∃ cell : Cell, H[B + a]? = some cell ∧ cell.vm.isStatics = false ∧ s.vm.findClass r.1 = some cell.cls :=
  va_recv (ws := [(B + a, kE ty B sp (.inr (ci, fs)))]) (q0 := 0) hK (hW.one hc) hr rfl
theorem wp_virtual {idx a ci : Nat} {r : vw_C} {fs : List Value} (hd : decode y.2.1 pc = .ok (.invokevirtual idx, 3)) (hk : kLk y.1.cls idx y') (hm : kMV y' As.length) (hin : Cond.instanceMethod y'.1 ∈ kTB) (hse : Cond.selects y'.1.cls y'.1 y'.1 ∈ kTB) (hlen : (lg_sl (.ref a :: As)).length ≤ y'.2.2.1) (hcat : (st.map fun v => v.category).sum ≤ 8) (hc : h[a]? = some (.inr (ci, fs))) (hr : vwCl[ci]? = some r) (hrc : r.1 = y'.1.cls) (callee : WP X d mc1 ms1 y' 0 (lv_args 0 (.ref a :: As)) [] h Q1) (kk : ∀ (v : Option Value) (h1 : kH), Q1 v h1 → WP X (d + 1) mc ms y (pc + 3) ls (v.toList ++ st) h1 Q) : WP X (d + 1) (mc1 + mc) (ms1 + ms) y pc ls (As.reverse ++ .ref a :: st) h Q := by
  intro p l e R s m args below meth c D ty B sp FQ Cf Sf G H locs cells slots lsA hW hS hcc hss hl
  obtain ⟨hx, hb, hml, hts, hN, hown, -, hK, hSp, hz, hr1, hr2, hsp⟩ := G.1
  have g1 := G.2.1
  have g2 := G.2.2.1
  have hcat2 : ((st.map (kcv B sp)).map fun v => v.category).sum = (st.map fun v => v.category).sum := by simp only [List.map_map, Function.comp_def, kcv_cat hsp]
  have hMet := kMet (n := As.length) hm hlen callee l D ty B sp hsp rfl
  rw [List.map_append, List.map_reverse]
  have hmax := hm.2.2.2.2
  have hR : d + 1 ≤ R.frames ∧ 8 + (y'.2.2.1 + 11) + 60 * d ≤ R.locals := ⟨hr1, by omega⟩
  have hrec := kRecv hK hW hr hc
  rw [hrc] at hrec
  have K : ∀ (v : Option Value) (h1 : kH) (H1 : Heap) (locs1 : List Loc), Q1 v h1 → kW D ty B sp h1 H1 → va_S (kA B) s.heap H1 locs1 → W p l e R s m args below meth c H1 locs1 (cells + mc1) (slots + ms1) FQ (F0 m (pc + 3) lsA ((v.toList ++ st).map (kcv B sp))) := fun v h1 H1 locs1 hq hW1 hS1 => kk v h1 hq p l e R s m args below meth c D ty B sp FQ Cf Sf G H1 locs1 _ _ lsA hW1 hS1 (by omega) (by omega) hl
  rcases hk with hk | ⟨host, hk⟩
  · exact kRun hS (va_runV (Ts := kTB) (C := y'.1.cls) (b := B + a) (As := As.map (kcv B sp)) (n := As.length) ⟨hx, hb, hml, hown, hts⟩ hMet ⟨callB_of As.length hts (kGood hm.1) rfl rfl rfl (hts _ hm.2.1) (hts _ hk) hm.2.2.2.1 hR, hts _ hin, hts _ hse⟩ ⟨kPc_blind, hrec, kPre hK hSp hN hz hW hS (.ref a :: As)⟩ rfl (List.length_map _) hl.1 rfl (by show 2 * 0 + _ ≤ 8; omega) hd (by omega)) K
  · exact kRun hS (va_runVN (Ts := kTB) (C := y'.1.cls) (host := host) (b := B + a) (As := As.map (kcv B sp)) (n := As.length) ⟨hx, hb, hml, hown, hts⟩ hMet ⟨va_cnB As.length hts (kGood hm.1) rfl rfl rfl (hN _ hk) (hts _ hm.2.1) hm.2.2.2.1 hR, hts _ hin, hts _ hse⟩ ⟨kPc_blind, hrec, kPre hK hSp hN hz hW hS (.ref a :: As)⟩ rfl (List.length_map _) hl.1 rfl (by show 2 * 0 + _ ≤ 8; omega) hd (by omega)) K
theorem wp_virtualS {idx : Nat} (hd : decode y.2.1 pc = .ok (.invokevirtual idx, 3)) (hk : Cond.methodLink y.1.cls idx y'.1 ∈ kTB) (hm : kMV y' As.length) (hin : Cond.instanceMethod y'.1 ∈ kTB) (hse : Cond.selects y'.1.cls y'.1 y'.1 ∈ kTB) (hlen : (lg_sl (.float 4 :: As)).length ≤ y'.2.2.1) (hcat : (st.map fun v => v.category).sum ≤ 8) (hrc : "java/lang/String" = y'.1.cls) (callee : WP X d mc1 ms1 y' 0 (lv_args 0 (.float 4 :: As)) [] h Q1) (kk : ∀ (v : Option Value) (h1 : kH), Q1 v h1 → WP X (d + 1) mc ms y (pc + 3) ls (v.toList ++ st) h1 Q) : WP X (d + 1) (mc1 + mc) (ms1 + ms) y pc ls (As.reverse ++ .float 4 :: st) h Q := by
  intro p l e R s m args below meth c D ty B sp FQ Cf Sf G H locs cells slots lsA hW hS hcc hss hl
  obtain ⟨hx, hb, hml, hts, hN, hown, -, hK, hSp, hz, hr1, hr2, hsp⟩ := G.1
  have g1 := G.2.1
  have g2 := G.2.2.1
  have hcat2 : ((st.map (kcv B sp)).map fun v => v.category).sum = (st.map fun v => v.category).sum := by simp only [List.map_map, Function.comp_def, kcv_cat hsp]
  have hMet := kMet (n := As.length) hm hlen callee l D ty B sp hsp rfl
  rw [List.map_append, List.map_reverse]
  have hmax := hm.2.2.2.2
  have hR : d + 1 ≤ R.frames ∧ 8 + (y'.2.2.1 + 11) + 60 * d ≤ R.locals := ⟨hr1, by omega⟩
  obtain ⟨q, v5, h1, h2, h3, ⟨cell, c1, c2, c3, c4⟩, h5⟩ := hSp.2.2.1
  have hrec : ∃ cell : Cell, H[q]? = some cell ∧ cell.vm.isStatics = false ∧ s.vm.findClass y'.1.cls = some cell.cls := ⟨cell, by rw [hS.2.1 q (Array.getElem?_eq_some_iff.mp c1).1 c4]; exact c1, c2, by rw [← hrc]; exact c3⟩
  have K : ∀ (v : Option Value) (h1 : kH) (H1 : Heap) (locs1 : List Loc), Q1 v h1 → kW D ty B sp h1 H1 → va_S (kA B) s.heap H1 locs1 → W p l e R s m args below meth c H1 locs1 (cells + mc1) (slots + ms1) FQ (F0 m (pc + 3) lsA ((v.toList ++ st).map (kcv B sp))) := fun v h1 H1 locs1 hq hW1 hS1 => kk v h1 hq p l e R s m args below meth c D ty B sp FQ Cf Sf G H1 locs1 _ _ lsA hW1 hS1 (by omega) (by omega) hl
  have hPre := kPre hK hSp hN hz hW hS (.float 4 :: As)
  have e4 : kcv B sp (.float 4) = .ref q := h1
  simp only [List.map_cons, e4] at hPre ⊢
  exact kRun hS (va_runV (Ts := kTB) (C := y'.1.cls) (b := q) (As := As.map (kcv B sp)) (n := As.length) ⟨hx, hb, hml, hown, hts⟩ hMet ⟨callB_of As.length hts (kGood hm.1) rfl rfl rfl (hts _ hm.2.1) (hts _ hk) hm.2.2.2.1 hR, hts _ hin, hts _ hse⟩ ⟨kPc_blind, hrec, hPre⟩ rfl (List.length_map _) hl.1 rfl (by show 2 * 0 + _ ≤ 8; omega) hd (by omega)) K
theorem wp_special {idx a : Nat} (hd : decode y.2.1 pc = .ok (.invokespecial idx, 3)) (hk : kLk y.1.cls idx y') (hm : kMV y' As.length) (hy1 : y'.1.name = "<init>") (hyr : y'.2.2.2 = none) (hin : Cond.instanceMethod y'.1 ∈ kTB) (hlen : (lg_sl (.ref a :: As)).length ≤ y'.2.2.1) (hcat : (st.map fun v => v.category).sum ≤ 8) (callee : WP X d mc1 ms1 y' 0 (lv_args 0 (.ref a :: As)) [] h Q1) (kk : ∀ (v : Option Value) (h1 : kH), Q1 v h1 → WP X (d + 1) mc ms y (pc + 3) ls (v.toList ++ st) h1 Q) : WP X (d + 1) (mc1 + mc) (ms1 + ms) y pc ls (As.reverse ++ .ref a :: st) h Q := by
  intro p l e R s m args below meth c D ty B sp FQ Cf Sf G H locs cells slots lsA hW hS hcc hss hl
  obtain ⟨hx, hb, hml, hts, hN, hown, -, hK, hSp, hz, hr1, hr2, hsp⟩ := G.1
  have g1 := G.2.1
  have g2 := G.2.2.1
  have hcat2 : ((st.map (kcv B sp)).map fun v => v.category).sum = (st.map fun v => v.category).sum := by simp only [List.map_map, Function.comp_def, kcv_cat hsp]
  have hMet := kMet (n := As.length) hm hlen callee l D ty B sp hsp rfl
  rw [List.map_append, List.map_reverse]
  have hmax := hm.2.2.2.2
  have hR : d + 1 ≤ R.frames ∧ 8 + (y'.2.2.1 + 11) + 60 * d ≤ R.locals := ⟨hr1, by omega⟩
  have K : ∀ (v : Option Value) (h1 : kH) (H1 : Heap) (locs1 : List Loc), Q1 v h1 → kW D ty B sp h1 H1 → va_S (kA B) s.heap H1 locs1 → W p l e R s m args below meth c H1 locs1 (cells + mc1) (slots + ms1) FQ (F0 m (pc + 3) lsA ((v.toList ++ st).map (kcv B sp))) := fun v h1 H1 locs1 hq hW1 hS1 => kk v h1 hq p l e R s m args below meth c D ty B sp FQ Cf Sf G H1 locs1 _ _ lsA hW1 hS1 (by omega) (by omega) hl
  have hG := kGood hm.1
  have hws : kws y' = Cond.code y'.1 y'.2.1 y'.2.2.1 none :: kTB := by rw [kws, hyr]
  rcases hk with hk | ⟨host, hk⟩
  · exact kRun hS (va_runI (Ts := kTB) (b := B + a) (As := As.map (kcv B sp)) (n := As.length) ⟨hx, hb, hml, hown, hts⟩ hMet ⟨callB_of As.length hts hG hws rfl rfl (hts _ hm.2.1) (hts _ hk) hm.2.2.2.1 hR, hy1, hts _ hin⟩ ⟨kPc_blind, kPre hK hSp hN hz hW hS (.ref a :: As)⟩ rfl (List.length_map _) hl.1 rfl (by show 2 * 0 + _ ≤ 8; omega) hd (by omega)) K
  · exact kRun hS (va_runIN (Ts := kTB) (host := host) (b := B + a) (As := As.map (kcv B sp)) (n := As.length) ⟨hx, hb, hml, hown, hts⟩ hMet ⟨va_cnB As.length hts hG hws rfl rfl (hN _ hk) (hts _ hm.2.1) hm.2.2.2.1 hR, hy1, hts _ hin⟩ ⟨kPc_blind, kPre hK hSp hN hz hW hS (.ref a :: As)⟩ rfl (List.length_map _) hl.1 rfl (by show 2 * 0 + _ ≤ 8; omega) hd (by omega)) K
end kCalls
