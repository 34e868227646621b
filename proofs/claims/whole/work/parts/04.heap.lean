/-! ===== the classes, together ===== -/
set_option maxRecDepth 100000 in
theorem kin_0 : ∀ w ∈ u_ws RX0 TX0 3, w ∈ kTB := by
  have h : (u_ws RX0 TX0 3).all (fun w => decide (w ∈ lw_tbl) && goodWord w) = true := by decide +kernel
  intro w hw
  have h1 := List.all_eq_true.mp h w hw
  simp only [Bool.and_eq_true, decide_eq_true_eq] at h1
  exact List.mem_filter.mpr h1
set_option maxRecDepth 100000 in
theorem kin_1 : ∀ w ∈ u_ws RX1 TX1 14, w ∈ kTB := by
  have h : (u_ws RX1 TX1 14).all (fun w => decide (w ∈ lw_tbl) && goodWord w) = true := by decide +kernel
  intro w hw
  have h1 := List.all_eq_true.mp h w hw
  simp only [Bool.and_eq_true, decide_eq_true_eq] at h1
  exact List.mem_filter.mpr h1
set_option maxRecDepth 100000 in
theorem kin_2 : ∀ w ∈ u_ws RX2 TX2 5, w ∈ kTB := by
  have h : (u_ws RX2 TX2 5).all (fun w => decide (w ∈ lw_tbl) && goodWord w) = true := by decide +kernel
  intro w hw
  have h1 := List.all_eq_true.mp h w hw
  simp only [Bool.and_eq_true, decide_eq_true_eq] at h1
  exact List.mem_filter.mpr h1
set_option maxRecDepth 100000 in
theorem kin_3 : ∀ w ∈ u_ws RX3 TX3 6, w ∈ kTB := by
  have h : (u_ws RX3 TX3 6).all (fun w => decide (w ∈ lw_tbl) && goodWord w) = true := by decide +kernel
  intro w hw
  have h1 := List.all_eq_true.mp h w hw
  simp only [Bool.and_eq_true, decide_eq_true_eq] at h1
  exact List.mem_filter.mpr h1
set_option maxRecDepth 100000 in
theorem kin_4 : ∀ w ∈ u_ws RX4 TX4 14, w ∈ kTB := by
  have h : (u_ws RX4 TX4 14).all (fun w => decide (w ∈ lw_tbl) && goodWord w) = true := by decide +kernel
  intro w hw
  have h1 := List.all_eq_true.mp h w hw
  simp only [Bool.and_eq_true, decide_eq_true_eq] at h1
  exact List.mem_filter.mpr h1
set_option maxRecDepth 100000 in
theorem kin_5 : ∀ w ∈ u_ws RX5 TX5 11, w ∈ kTB := by
  have h : (u_ws RX5 TX5 11).all (fun w => decide (w ∈ lw_tbl) && goodWord w) = true := by decide +kernel
  intro w hw
  have h1 := List.all_eq_true.mp h w hw
  simp only [Bool.and_eq_true, decide_eq_true_eq] at h1
  exact List.mem_filter.mpr h1
set_option maxRecDepth 100000 in
theorem kin_6 : ∀ w ∈ u_ws RX6 TX6 2, w ∈ kTB := by
  have h : (u_ws RX6 TX6 2).all (fun w => decide (w ∈ lw_tbl) && goodWord w) = true := by decide +kernel
  intro w hw
  have h1 := List.all_eq_true.mp h w hw
  simp only [Bool.and_eq_true, decide_eq_true_eq] at h1
  exact List.mem_filter.mpr h1
set_option maxRecDepth 100000 in
theorem kin_7 : ∀ w ∈ u_ws RX7 TX7 2, w ∈ kTB := by
  have h : (u_ws RX7 TX7 2).all (fun w => decide (w ∈ lw_tbl) && goodWord w) = true := by decide +kernel
  intro w hw
  have h1 := List.all_eq_true.mp h w hw
  simp only [Bool.and_eq_true, decide_eq_true_eq] at h1
  exact List.mem_filter.mpr h1
set_option maxRecDepth 100000 in
theorem kin_8 : ∀ w ∈ u_ws RX8 TX8 9, w ∈ kTB := by
  have h : (u_ws RX8 TX8 9).all (fun w => decide (w ∈ lw_tbl) && goodWord w) = true := by decide +kernel
  intro w hw
  have h1 := List.all_eq_true.mp h w hw
  simp only [Bool.and_eq_true, decide_eq_true_eq] at h1
  exact List.mem_filter.mpr h1
set_option maxRecDepth 100000 in
theorem kin_9 : ∀ w ∈ u_ws RX9 TX9 16, w ∈ kTB := by
  have h : (u_ws RX9 TX9 16).all (fun w => decide (w ∈ lw_tbl) && goodWord w) = true := by decide +kernel
  intro w hw
  have h1 := List.all_eq_true.mp h w hw
  simp only [Bool.and_eq_true, decide_eq_true_eq] at h1
  exact List.mem_filter.mpr h1
set_option maxRecDepth 100000 in
theorem kin_10 : ∀ w ∈ u_ws RX10 TX10 43, w ∈ kTB := by
  have h : (u_ws RX10 TX10 43).all (fun w => decide (w ∈ lw_tbl) && goodWord w) = true := by decide +kernel
  intro w hw
  have h1 := List.all_eq_true.mp h w hw
  simp only [Bool.and_eq_true, decide_eq_true_eq] at h1
  exact List.mem_filter.mpr h1
def kty (ci : Nat) : Nat → FieldType := match ci with
  | 0 => tyX0
  | 1 => tyX1
  | 2 => tyX2
  | 3 => tyX3
  | 4 => tyX4
  | 5 => tyX5
  | 6 => tyX6
  | 7 => tyX7
  | 8 => tyX8
  | 9 => tyX9
  | _ => tyX10
theorem kcl_in {ci : Nat} {r : vw_C} (hc : vwCl[ci]? = some r) : ∀ w ∈ u_ws r.1 r.2.1 r.2.2, w ∈ kTB := by
  match ci, hc with
  | 0, hc => cases hc; exact kin_0
  | 1, hc => cases hc; exact kin_1
  | 2, hc => cases hc; exact kin_2
  | 3, hc => cases hc; exact kin_3
  | 4, hc => cases hc; exact kin_4
  | 5, hc => cases hc; exact kin_5
  | 6, hc => cases hc; exact kin_6
  | 7, hc => cases hc; exact kin_7
  | 8, hc => cases hc; exact kin_8
  | 9, hc => cases hc; exact kin_9
  | 10, hc => cases hc; exact kin_10
  | ci + 11, hc => simp [vwCl] at hc
theorem kcl_ty {ci : Nat} {r : vw_C} (hc : vwCl[ci]? = some r) : ∀ k, k < r.2.2 → parseFieldDescriptor (r.2.1 k).2.2.1 = some (kty ci k) := by
  match ci, hc with
  | 0, hc => cases hc; exact tyX0_ok
  | 1, hc => cases hc; exact tyX1_ok
  | 2, hc => cases hc; exact tyX2_ok
  | 3, hc => cases hc; exact tyX3_ok
  | 4, hc => cases hc; exact tyX4_ok
  | 5, hc => cases hc; exact tyX5_ok
  | 6, hc => cases hc; exact tyX6_ok
  | 7, hc => cases hc; exact tyX7_ok
  | 8, hc => cases hc; exact tyX8_ok
  | 9, hc => cases hc; exact tyX9_ok
  | 10, hc => cases hc; exact tyX10_ok
  | ci + 11, hc => simp [vwCl] at hc
theorem kcl_nm {ci : Nat} {r : vw_C} (hc : vwCl[ci]? = some r) : ∀ a, a < r.2.2 → ∀ b, b < r.2.2 → a ≠ b → (r.2.1 a).2.1 ≠ (r.2.1 b).2.1 := by
  match ci, hc with
  | 0, hc => cases hc; exact nmX0
  | 1, hc => cases hc; exact nmX1
  | 2, hc => cases hc; exact nmX2
  | 3, hc => cases hc; exact nmX3
  | 4, hc => cases hc; exact nmX4
  | 5, hc => cases hc; exact nmX5
  | 6, hc => cases hc; exact nmX6
  | 7, hc => cases hc; exact nmX7
  | 8, hc => cases hc; exact nmX8
  | 9, hc => cases hc; exact nmX9
  | 10, hc => cases hc; exact nmX10
  | ci + 11, hc => simp [vwCl] at hc

/-! ===== the world: reading, writing, making ===== -/
section kWorld
variable {D : va_G} {ty : Nat → ClassId} {B : Nat} {sp : Nat → Value} {h : kH} {H H1 : Heap}
theorem kW.one (hW : kW D ty B sp h H) {k : Nat} {x : kC} (hx : h[k]? = some x) : va_P D vwCl [(B + k, kE ty B sp x)] H := by
  intro i q hq
  have hi : i < 1 := (List.getElem?_eq_some_iff.mp hq).1
  rw [show i = 0 by omega] at hq
  cases hq
  exact hW.2 k x hx
theorem kW.set (hW : kW D ty B sp h H) {a : Nat} {x0 x1 : kC} (hx : h[a]? = some x0) (h1 : va_at D vwCl (B + a, kE ty B sp x1) H1) (hz : H1.size = H.size) (oq : ∀ q : Nat, q ≠ B + a → H1[q]? = H[q]?) : kW D ty B sp (h.set a x1) H1 := by
  have hl := (List.getElem?_eq_some_iff.mp hx).1
  refine ⟨by rw [hz, hW.1, List.length_set], fun k x hk => ?_⟩
  by_cases hka : k = a
  · subst hka
    rw [List.getElem?_set_self hl] at hk
    cases hk
    exact h1
  · rw [List.getElem?_set_ne (Ne.symm hka)] at hk
    exact (hW.2 k x hk).kept (oq _ (by omega))
theorem kW.push (hW : kW D ty B sp h H) {x1 : kC} (h1 : va_at D vwCl (B + h.length, kE ty B sp x1) H1) (hz : H1.size = H.size + 1) (oq : ∀ q : Nat, q < H.size → H1[q]? = H[q]?) : kW D ty B sp (h ++ [x1]) H1 := by
  refine ⟨by rw [hz, hW.1, List.length_append]; simp; omega, fun k x hk => ?_⟩
  by_cases hka : k < h.length
  · rw [List.getElem?_append_left hka] at hk
    exact (hW.2 k x hk).kept (oq _ (by rw [hW.1]; omega))
  · rw [List.getElem?_append_right (by omega)] at hk
    have hz1 : k - h.length < 1 := (List.getElem?_eq_some_iff.mp hk).1
    have hk0 : k = h.length := by omega
    subst hk0
    rw [Nat.sub_self] at hk
    cases hk
    exact h1
theorem kS_push {A : Nat → Prop} {H0 : Heap} {locs : List Loc} (hS : va_S A H0 H locs) (hz : H1.size = H.size + 1) (oq : ∀ q : Nat, q < H.size → H1[q]? = H[q]?) : va_S A H0 H1 locs := ⟨Nat.le_trans hS.1 (by omega), fun x h1 h2 => (oq x (Nat.lt_of_lt_of_le h1 hS.1)).trans (hS.2.1 x h1 h2), hS.2.2⟩
end kWorld
/-- a field's place in the pool, its class and its number in it -/
def kGF (own : String) (idx ci k : Nat) : Prop := ∃ r : vw_C, vwCl[ci]? = some r ∧ k < r.2.2 ∧ (Cond.fieldLink own idx (r.2.1 k).1 (r.2.1 k).2.1 (r.2.1 k).2.2.1 ∈ kTB ∨ ∃ host, Cond.fieldLinkNest own idx (r.2.1 k).1 (r.2.1 k).2.1 (r.2.1 k).2.2.1 host ∈ kNB)
def kGP (own : String) (idx ci k : Nat) : Prop := ∃ r : vw_C, vwCl[ci]? = some r ∧ k < r.2.2 ∧ (r.2.1 k).2.2.2 = false ∧ (Cond.fieldLink own idx (r.2.1 k).1 (r.2.1 k).2.1 (r.2.1 k).2.2.1 ∈ kTB ∨ ∃ host, Cond.fieldLinkNest own idx (r.2.1 k).1 (r.2.1 k).2.1 (r.2.1 k).2.2.1 host ∈ kNB)
/-- a final field, in its class's constructor -/
def kGI (own : String) (idx ci k : Nat) : Prop := ∃ r : vw_C, vwCl[ci]? = some r ∧ k < r.2.2 ∧ (r.2.1 k).2.2.2 = true ∧ (r.2.1 k).1 = own ∧ Cond.fieldLink own idx (r.2.1 k).1 (r.2.1 k).2.1 (r.2.1 k).2.2.1 ∈ kTB
def kfit (t : FieldType) (v : Value) : Prop := ∀ (B : Nat) (sp : Nat → Value), narrow t (kcv B sp v) = kcv B sp v ∧ fits t (kcv B sp v) = true
theorem kfit_i (x : Int32) : kfit .int (.int x) := fun _ _ => ⟨rfl, rfl⟩
theorem kfit_z0 : kfit .boolean (.int 0) := fun _ _ => ⟨(by decide +kernel : narrow .boolean (.int 0) = .int 0), (by decide +kernel : fits .boolean (.int 0) = true)⟩
theorem kfit_z1 : kfit .boolean (.int 1) := fun _ _ => ⟨(by decide +kernel : narrow .boolean (.int 1) = .int 1), (by decide +kernel : fits .boolean (.int 1) = true)⟩
theorem kfit_o {C : String} (a : Nat) : kfit (.object C) (.ref a) := fun _ _ => ⟨rfl, rfl⟩
theorem kfit_oN {C : String} : kfit (.object C) .null := fun _ _ => ⟨rfl, rfl⟩
theorem kfit_a {t : FieldType} (a : Nat) : kfit (.array t) (.ref a) := fun _ _ => ⟨rfl, rfl⟩
section kRules2
variable {X : kX} {d mc ms : Nat} {y : kM} {pc : Nat} {ls : List (Nat × Value)} {st : List Value} {h : kH} {Q : Option Value → kH → Prop}
theorem wp_getfield {idx ci k a : Nat} {fs : List Value} {v : Value} (hd : decode y.2.1 pc = .ok (.getfield idx, 3)) (hg : kGF y.1.cls idx ci k) (hc : h[a]? = some (.inr (ci, fs))) (hv : fs[k]? = some v) (kk : WP X d mc ms y (pc + 3) ls (v :: st) h Q) : WP X d mc ms y pc ls (.ref a :: st) h Q := by
  intro p l e R s m args below meth c D ty B sp FQ Cf Sf G H locs cells slots lsA hW hS hcc hss hl
  obtain ⟨hx, hb, -, hts, hN, hown, -, hK, -⟩ := G.1
  obtain ⟨r, hr, hk, hlk⟩ := hg
  have K := kk p l e R s m args below meth c D ty B sp FQ Cf Sf G H locs cells slots lsA hW hS hcc hss hl
  have hvc : (fs.map (kcv B sp))[k]? = some (kcv B sp v) := by simp [hv]
  rcases hlk with hlk | ⟨host, hlk⟩
  · exact va_get (C := r.1) (T := r.2.1) (N := r.2.2) (ci := ci) hx hb hts (kcl_in hr) hown hK (hW.one hc) 0 (fs := fs.map (kcv B sp)) rfl hr k hk (hts _ hlk) (fun _ z => z) hvc hd K
  · exact va_getN (C := r.1) (T := r.2.1) (N := r.2.2) (ci := ci) hx hb hts (kcl_in hr) hown hK (hW.one hc) 0 (fs := fs.map (kcv B sp)) rfl hr k hk (va_Nw.use rfl (hN _ hlk)) (fun _ z => z) hvc hd K
theorem kput_world {D : va_G} {ty : Nat → ClassId} {B : Nat} {sp : Nat → Value} {H H' : Heap} {s : State} {args : Array Value} {own : String} {ci k a : Nat} {fs : List Value} {v : Value} {r : vw_C} {cell : Cell} (hts : ∀ w ∈ kTB, w.before args s = true) (hK : va_K D vwCl (kT ty) s) (hr : vwCl[ci]? = some r) (hk : k < r.2.2) (hW : kW D ty B sp h H) (hc : h[a]? = some (.inr (ci, fs))) (hl : k < fs.length)
    (q2 : cell.cls = D.1 ci) (q3 : cell.vm = .none) (q4 : ∀ j, j < r.2.2 → cell.slots[D.2 ci j]? = some (vp_V (fs.map (kcv B sp)) j)) (e1 : H'[B + a]? = some (cell.setSlot (D.2 ci k) (kcv B sp v))) (e2 : H'.size = H.size) (e3 : ∀ q, q ≠ B + a → H'[q]? = H[q]?) : kW D ty B sp (h.set a (.inr (ci, fs.set k v))) H' := by
  have hap := va_apart (own := own) (C := r.1) (T := r.2.1) (N := r.2.2) hts (kcl_in hr) (kty ci) (kcl_ty hr) (kcl_nm hr) hK hr
  refine hW.set hc ?_ e2 e3
  show ∃ r', vwCl[ci]? = some r' ∧ t_OB (B + a) (D.1 ci) r'.2.2 (D.2 ci) H' (vp_V ((fs.set k v).map (kcv B sp)))
  rw [List.map_set]
  exact ⟨r, hr, t_OB.to (V := updV (vp_V (fs.map (kcv B sp))) k (kcv B sp v)) ⟨_, e1, q2, q3, t_set q4 hap hk (kcv B sp v)⟩ (fun j _ => vp_updV_set (by rw [List.length_map]; exact hl) (kcv B sp v) j)⟩
theorem wp_putfield {idx ci k a : Nat} {fs : List Value} {v : Value} {h' : kH} (hd : decode y.2.1 pc = .ok (.putfield idx, 3)) (hg : kGP y.1.cls idx ci k) (hf : kfit (kty ci k) v) (hc : h[a]? = some (.inr (ci, fs))) (hkl : k < fs.length) (hh : h.set a (.inr (ci, fs.set k v)) = h') (kk : WP X d mc ms y (pc + 3) ls st h' Q) : WP X d mc ms y pc ls (v :: .ref a :: st) h Q := by
  subst hh
  intro p l e R s m args below meth c D ty B sp FQ Cf Sf G H locs cells slots lsA hW hS hcc hss hl
  obtain ⟨hx, hb, -, hts, hN, hown, -, hK, -⟩ := G.1
  obtain ⟨r, hr, hk, hfin, hlk⟩ := hg
  obtain ⟨r', h1, cell, q1, q2, q3, q4⟩ := hW.2 a _ hc
  cases h1.symm.trans hr
  obtain ⟨hSl, hfc, kC, hkC, hkind⟩ := hK.1 ci _ hr
  obtain ⟨cf, kf, fi, f, hi, hsl⟩ := hSl k hk
  have hlay := hts _ (kcl_in hr _ (u_in_lay hk))
  unfold u_lay at hlay
  rw [if_neg (by rw [hfin]; decide)] at hlay
  have hst := (u_facts hfc hkC (u_lays hts (kcl_in hr) hk) hi).1
  have h6 := u_store hfc hkC hkind hlay hi (kcl_ty hr k hk) (hf B sp).1 (hf B sp).2
  have K := kk p l e R s m args below meth c D ty B sp FQ Cf Sf G
  have fin : ∀ H' : Heap, H'[B + a]? = some (cell.setSlot f.slot (kcv B sp v)) → H'.size = H.size → (∀ q, q ≠ B + a → H'[q]? = H[q]?) → W p l e R s m args below meth c H' (locs ++ [⟨B + a, f.slot⟩]) cells slots FQ (F0 m (pc + 3) lsA (st.map (kcv B sp))) := by
    intro H' e1 e2 e3
    rw [hsl] at e1 ⊢
    exact K H' _ cells slots lsA (kput_world (own := y.1.cls) hts hK hr hk hW hc hkl q2 q3 q4 e1 e2 e3) (hS.put e2 e3 (Nat.le_add_right B a)) hcc hss hl
  rcases hlk with hlk | ⟨host, hlk⟩
  · exact W.putK hx hb (f := f) ⟨hown, hts _ hlk, ⟨_, _, _, hi⟩, hst⟩ (by rw [q2]; exact h6) q1 q3 (by rw [hsl]; exact k2_hasslot (q4 k hk)) rfl rfl hd fin
  · exact va_WputK hx hb (f := f) hown (va_Nw.use rfl (hN _ hlk)) hi hst (by rw [q2]; exact h6) q1 q3 (by rw [hsl]; exact k2_hasslot (q4 k hk)) rfl rfl hd fin
theorem wp_putfinal {idx ci k a : Nat} {fs : List Value} {v : Value} {h' : kH} (hd : decode y.2.1 pc = .ok (.putfield idx, 3)) (hy : y.1.name = "<init>") (hg : kGI y.1.cls idx ci k) (hf : kfit (kty ci k) v) (hc : h[a]? = some (.inr (ci, fs))) (hkl : k < fs.length) (hh : h.set a (.inr (ci, fs.set k v)) = h') (kk : WP X d mc ms y (pc + 3) ls st h' Q) : WP X d mc ms y pc ls (v :: .ref a :: st) h Q := by
  subst hh
  intro p l e R s m args below meth c D ty B sp FQ Cf Sf G H locs cells slots lsA hW hS hcc hss hl
  obtain ⟨hx, hb, -, hts, hN, hown, hin, hK, -⟩ := G.1
  obtain ⟨r, hr, hk, hfin, hdecl, hlk⟩ := hg
  obtain ⟨r', h1, cell, q1, q2, q3, q4⟩ := hW.2 a _ hc
  cases h1.symm.trans hr
  obtain ⟨hSl, hfc, kC, hkC, hkind⟩ := hK.1 ci _ hr
  obtain ⟨cf, kf, fi, f, hi, hsl⟩ := hSl k hk
  have hlay := hts _ (kcl_in hr _ (u_in_lay hk))
  unfold u_lay at hlay
  rw [if_pos hfin] at hlay
  have hst := (u_facts hfc hkC (u_lays hts (kcl_in hr) hk) hi).1
  have hcf : m.cls = cf := by
    obtain ⟨_, _, c', _, _, _, -, -, hf', -, -, -, hown2, -⟩ := Cond.laysFinal_spec hlay
    have e1 : c' = cf := by have := hi.symm.trans hf'; simp at this; exact this.1.symm
    rw [hdecl] at hown2
    rw [← e1]; exact Option.some.inj (hown.symm.trans hown2)
  have h6 := u_fits hfc hkC hkind (Or.inr hlay) hi (kcl_ty hr k hk) (hf B sp).1 (hf B sp).2
  refine W.putFinK hx hb hown (hts _ hlk) hi hst hcf (hin hy) (by rw [q2]; exact h6) q1 q3 (by rw [hsl]; exact k2_hasslot (q4 k hk)) rfl rfl hd fun H' e1 e2 e3 => ?_
  rw [hsl] at e1 ⊢
  exact kk p l e R s m args below meth c D ty B sp FQ Cf Sf G H' _ cells slots lsA (kput_world (own := y.1.cls) hts hK hr hk hW hc hkl q2 q3 q4 e1 e2 e3) (hS.put e2 e3 (Nat.le_add_right B a)) hcc hss hl
/-! arrays of ints, of booleans, of sheets -/
theorem wp_iaload {a n : Nat} {f : Nat → Int32} {i : Int32} {v : Int32} (hd : decode y.2.1 pc = .ok (.iaload, 1)) (hc : h[a]? = some (.inl (0, n, .inl f))) (hi : vp_in i n) (hv : f i.toNatClampNeg = v) (kk : WP X d mc ms y (pc + 1) ls (.int v :: st) h Q) : WP X d mc ms y pc ls (.int i :: .ref a :: st) h Q := by
  subst hv
  intro p l e R s m args below meth c D ty B sp FQ Cf Sf G H locs cells slots lsA hW hS hcc hss hl
  obtain ⟨hx, hb, -, hts, hN, hown, -, hK, -⟩ := G.1
  exact va_iald hx hb hK (hW.one hc) 0 0 rfl rfl hi hd (kk p l e R s m args below meth c D ty B sp FQ Cf Sf G H locs cells slots lsA hW hS hcc hss hl)
theorem wp_zaload {a n : Nat} {f : Nat → Int32} {i : Int32} {v : Int32} (hd : decode y.2.1 pc = .ok (.baload, 1)) (hc : h[a]? = some (.inl (1, n, .inl f))) (hi : vp_in i n) (hv : f i.toNatClampNeg = v) (kk : WP X d mc ms y (pc + 1) ls (.int v :: st) h Q) : WP X d mc ms y pc ls (.int i :: .ref a :: st) h Q := by
  subst hv
  intro p l e R s m args below meth c D ty B sp FQ Cf Sf G H locs cells slots lsA hW hS hcc hss hl
  obtain ⟨hx, hb, -, hts, hN, hown, -, hK, -⟩ := G.1
  exact va_zald hx hb hK (hW.one hc) 0 1 rfl rfl hi hd (kk p l e R s m args below meth c D ty B sp FQ Cf Sf G H locs cells slots lsA hW hS hcc hss hl)
theorem wp_aaload {a n : Nat} {f : Nat → Option Nat} {i : Int32} {v : Value} (hd : decode y.2.1 pc = .ok (.aaload, 1)) (hc : h[a]? = some (.inl (2, n, .inr f))) (hi : vp_in i n) (hv : va_rf (f i.toNatClampNeg) = v) (kk : WP X d mc ms y (pc + 1) ls (v :: st) h Q) : WP X d mc ms y pc ls (.int i :: .ref a :: st) h Q := by
  subst hv
  intro p l e R s m args below meth c D ty B sp FQ Cf Sf G H locs cells slots lsA hW hS hcc hss hl
  obtain ⟨hx, hb, -, hts, hN, hown, -, hK, -⟩ := G.1
  have K := kk p l e R s m args below meth c D ty B sp FQ Cf Sf G H locs cells slots lsA hW hS hcc hss hl
  have e1 : kcv B sp (va_rf (f i.toNatClampNeg)) = va_rf ((f i.toNatClampNeg).map (B + ·)) := by cases f i.toNatClampNeg <;> rfl
  rw [List.map_cons, e1] at K
  exact va_aldq hx hb hK (hW.one hc) 0 2 rfl rfl hi hd K
theorem wp_alen {a t n : Nat} {f : (Nat → Int32) ⊕ (Nat → Option Nat)} {v : Int32} (hd : decode y.2.1 pc = .ok (.arraylength, 1)) (hc : h[a]? = some (.inl (t, n, f))) (ht : t < 3) (hv : Int32.ofNat n = v) (kk : WP X d mc ms y (pc + 1) ls (.int v :: st) h Q) : WP X d mc ms y pc ls (.ref a :: st) h Q := by
  intro p l e R s m args below meth c D ty B sp FQ Cf Sf G H locs cells slots lsA hW hS hcc hss hl
  obtain ⟨hx, hb, -, hts, hN, hown, -, hK, -⟩ := G.1
  have K := kk p l e R s m args below meth c D ty B sp FQ Cf Sf G H locs cells slots lsA hW hS hcc hss hl
  have ht' : ∃ tt, (kT ty)[t]? = some (ty t, tt) := by
    match t, ht with
    | 0, _ => exact ⟨_, rfl⟩
    | 1, _ => exact ⟨_, rfl⟩
    | 2, _ => exact ⟨_, rfl⟩
  obtain ⟨tt, ht'⟩ := ht'
  cases f with
  | inl f => exact va_alen (x := (n, .inl f)) hx hb hK (hW.one hc) 0 t rfl ht' hv hd K
  | inr f => exact va_alen (x := (n, .inr (.inr (.inr (.inr (fun j => (f j).map (B + ·))))))) hx hb hK (hW.one hc) 0 t rfl ht' hv hd K
theorem wp_iastore {a n : Nat} {f : Nat → Int32} {i x : Int32} {h' : kH} (hd : decode y.2.1 pc = .ok (.iastore, 1)) (hc : h[a]? = some (.inl (0, n, .inl f))) (hi : vp_in i n) (hh : h.set a (.inl (0, n, .inl (upd f i.toNatClampNeg x))) = h') (kk : WP X d mc ms y (pc + 1) ls st h' Q) : WP X d mc ms y pc ls (.int x :: .int i :: .ref a :: st) h Q := by
  subst hh
  intro p l e R s m args below meth c D ty B sp FQ Cf Sf G H locs cells slots lsA hW hS hcc hss hl
  obtain ⟨hx, hb, -, hts, hN, hown, -, hK, -⟩ := G.1
  refine W.iast hx hb (hW.2 a _ hc) ((hK.2 0 (ty 0, .int) rfl).1 n (fun j => .int (f j))) (fun q => by cases q) (by show ¬ (i < 0 ∨ (arrV _ _ _).slots.size ≤ _); rw [arrV_size]; exact hi) rfl rfl hd fun H1 e9 z oq => ?_
  refine kk p l e R s m args below meth c D ty B sp FQ Cf Sf G H1 _ cells slots lsA (hW.set hc ?_ z oq) (hS.put z oq (Nat.le_add_right B a)) hcc hss hl
  show H1[B + a]? = some (vp_cell (ty 0) (n, .inl _))
  rw [e9]
  rw [vp_cell_i, vp_cell_i, arrV_store]
  congr 2
  funext q
  by_cases hq : q = i.toNatClampNeg
  · subst hq
    simp [updV, upd]
  · simp [updV, upd, hq]
theorem wp_zastore {a n : Nat} {f : Nat → Int32} {i x : Int32} {h' : kH} (hd : decode y.2.1 pc = .ok (.bastore, 1)) (hc : h[a]? = some (.inl (1, n, .inl f))) (hi : vp_in i n) (hh : h.set a (.inl (1, n, .inl (upd f i.toNatClampNeg (vp_nar .boolean x)))) = h') (kk : WP X d mc ms y (pc + 1) ls st h' Q) : WP X d mc ms y pc ls (.int x :: .int i :: .ref a :: st) h Q := by
  subst hh
  intro p l e R s m args below meth c D ty B sp FQ Cf Sf G H locs cells slots lsA hW hS hcc hss hl
  obtain ⟨hx, hb, -, hts, hN, hown, -, hK, -⟩ := G.1
  refine W.zast hx hb (hW.2 a _ hc) ((hK.2 1 (ty 1, .boolean) rfl).1 n (fun j => .int (f j))) (fun q => by cases q) (by show ¬ (i < 0 ∨ (arrV _ _ _).slots.size ≤ _); rw [arrV_size]; exact hi) rfl rfl hd fun H1 e9 z oq => ?_
  refine kk p l e R s m args below meth c D ty B sp FQ Cf Sf G H1 _ cells slots lsA (hW.set hc ?_ z oq) (hS.put z oq (Nat.le_add_right B a)) hcc hss hl
  show H1[B + a]? = some (vp_cell (ty 1) (n, .inl _))
  rw [e9]
  rw [vp_cell_i, vp_cell_i, arrV_store]
  congr 2
  funext q
  by_cases hq : q = i.toNatClampNeg
  · subst hq
    simp [updV, upd, vp_nar]
    try rfl
  · simp [updV, upd, hq]
theorem wp_aastore {a n v : Nat} {fs : List Value} {f : Nat → Option Nat} {i : Int32} {h' : kH} (hd : decode y.2.1 pc = .ok (.aastore, 1)) (hc : h[a]? = some (.inl (2, n, .inr f))) (hvc : h[v]? = some (.inr (7, fs))) (hi : vp_in i n) (hh : h.set a (.inl (2, n, .inr (va_up f i.toNatClampNeg (some v)))) = h') (kk : WP X d mc ms y (pc + 1) ls st h' Q) : WP X d mc ms y pc ls (.ref v :: .int i :: .ref a :: st) h Q := by
  subst hh
  intro p l e R s m args below meth c D ty B sp FQ Cf Sf G H locs cells slots lsA hW hS hcc hss hl
  obtain ⟨hx, hb, -, hts, hN, hown, -, hK, -⟩ := G.1
  have hlt : i.toNatClampNeg < n := Nat.not_le.mp fun q => hi (Or.inr q)
  have h0 : ¬ i < 0 := fun q => hi (Or.inl q)
  obtain ⟨r', hr', cellV, g1, g2, g3, -⟩ := hW.2 v _ hvc
  have hcls := (hK.1 7 (RX7, TX7, 2) rfl).2
  obtain ⟨kA, comp, k1, k2, k3, -⟩ := (hK.2 2 (ty 2, .object "MendedTube$Sheet") rfl).2
  have hcomp : comp = D.1 7 := Option.some.inj (k3.symm.trans hcls.1)
  subst hcomp
  obtain ⟨kC, hkC, -⟩ := hcls.2
  refine W.aast hx hb (hW.2 a _ hc) (fun q h => by cases h) (fun h => by cases h) k1 k2 rfl hkC ⟨h0, by show _ < (arrV _ _ _).slots.size; rw [arrV_size]; exact hlt⟩ g1 (fun q h => by rw [g3] at h; cases h) (by rw [g2]; exact hkC) (by rw [g2]; exact va_assign hcls) rfl rfl hd fun H1 e9 z oq => ?_
  refine kk p l e R s m args below meth c D ty B sp FQ Cf Sf G H1 _ cells slots lsA (hW.set hc ?_ z oq) (hS.put z oq (Nat.le_add_right B a)) hcc hss hl
  show H1[B + a]? = some (vp_cell (ty 2) (n, .inr (.inr (.inr (.inr _)))))
  rw [e9]
  rw [vp_cell_q, vp_cell_q, arrV_store]
  congr 2
  funext q
  by_cases hq : q = i.toNatClampNeg
  · subst hq
    simp [updV, va_up, va_rf]
  · simp [updV, va_up, hq]
theorem wp_aastoreN {a n : Nat} {f : Nat → Option Nat} {i : Int32} {h' : kH} (hd : decode y.2.1 pc = .ok (.aastore, 1)) (hc : h[a]? = some (.inl (2, n, .inr f))) (hi : vp_in i n) (hh : h.set a (.inl (2, n, .inr (va_up f i.toNatClampNeg none))) = h') (kk : WP X d mc ms y (pc + 1) ls st h' Q) : WP X d mc ms y pc ls (.null :: .int i :: .ref a :: st) h Q := by
  subst hh
  intro p l e R s m args below meth c D ty B sp FQ Cf Sf G H locs cells slots lsA hW hS hcc hss hl
  obtain ⟨hx, hb, -, hts, hN, hown, -, hK, -⟩ := G.1
  refine va_WaastN (C := "MendedTube$Sheet") hx hb (hW.2 a _ hc) ((hK.2 2 (ty 2, .object "MendedTube$Sheet") rfl).1 n (fun j => va_rf ((f j).map (B + ·)))) (fun h => by cases h) (by show ¬ (i < 0 ∨ (arrV _ _ _).slots.size ≤ _); rw [arrV_size]; exact hi) rfl rfl hd fun H1 e9 z oq => ?_
  refine kk p l e R s m args below meth c D ty B sp FQ Cf Sf G H1 _ cells slots lsA (hW.set hc ?_ z oq) (hS.put z oq (Nat.le_add_right B a)) hcc hss hl
  show H1[B + a]? = some (vp_cell (ty 2) (n, .inr (.inr (.inr (.inr _)))))
  rw [e9]
  rw [vp_cell_q, vp_cell_q, arrV_store]
  congr 2
  funext q
  by_cases hq : q = i.toNatClampNeg
  · subst hq
    simp [updV, va_up, va_rf]
  · simp [updV, va_up, hq]
/-! making -/
theorem wp_newarray {n : Int32} {n0 : Nat} (hd : decode y.2.1 pc = .ok (.newarray .int, 2)) (hw : Cond.arrayClass .int ∈ kTB) (h0 : ¬ n < 0) (hn : n.toNatClampNeg = n0) (hb4 : n0 * 4 ≤ 536870912) (kk : WP X d mc ms y (pc + 2) ls (.ref h.length :: st) (h ++ [.inl (0, n0, .inl (fun _ => 0))]) Q) : WP X d (mc + 1) (ms + n0) y pc ls (.int n :: st) h Q := by
  intro p l e R s m args below meth c D ty B sp FQ Cf Sf G H locs cells slots lsA hW hS hcc hss hl
  obtain ⟨hx, hb, -, hts, hN, hown, -, hK, -⟩ := G.1
  have g1 := G.2.1
  have g2 := G.2.2.1
  refine va_newaK hx hb (atype := .int) (hts _ hw) rfl hd rfl h0 hn hb4 (by omega) (by omega) hW.1 fun H1 cA e1 z1 o1 hAr hNm => ?_
  have hcA : cA = ty 0 := by
    have h9 : s.vm.findClass ("[" ++ FieldType.int.toString) = some (ty 0) := (hK.2 0 (ty 0, .int) rfl).2
    exact Option.some.inj (hNm.symm.trans h9)
  subst hcA
  have oq : ∀ q : Nat, q < H.size → H1[q]? = H[q]? := fun q hq => o1 q (by rw [← hW.1]; exact hq)
  exact kk p l e R s m args below meth c D ty B sp FQ Cf Sf G H1 locs (cells + 1) (slots + n0) lsA (hW.push e1 (by rw [z1, hW.1]) oq) (kS_push hS (by rw [z1, hW.1]) oq) (by omega) (by omega) hl
theorem wp_newarrayZ {n : Int32} {n0 : Nat} (hd : decode y.2.1 pc = .ok (.newarray .boolean, 2)) (hw : Cond.arrayClass .boolean ∈ kTB) (h0 : ¬ n < 0) (hn : n.toNatClampNeg = n0) (hb4 : n0 * 1 ≤ 536870912) (kk : WP X d mc ms y (pc + 2) ls (.ref h.length :: st) (h ++ [.inl (1, n0, .inl (fun _ => 0))]) Q) : WP X d (mc + 1) (ms + n0) y pc ls (.int n :: st) h Q := by
  intro p l e R s m args below meth c D ty B sp FQ Cf Sf G H locs cells slots lsA hW hS hcc hss hl
  obtain ⟨hx, hb, -, hts, hN, hown, -, hK, -⟩ := G.1
  have g1 := G.2.1
  have g2 := G.2.2.1
  refine va_newaK hx hb (atype := .boolean) (hts _ hw) rfl hd rfl h0 hn hb4 (by omega) (by omega) hW.1 fun H1 cA e1 z1 o1 hAr hNm => ?_
  have hcA : cA = ty 1 := by
    have h9 : s.vm.findClass ("[" ++ FieldType.boolean.toString) = some (ty 1) := (hK.2 1 (ty 1, .boolean) rfl).2
    exact Option.some.inj (hNm.symm.trans h9)
  subst hcA
  have oq : ∀ q : Nat, q < H.size → H1[q]? = H[q]? := fun q hq => o1 q (by rw [← hW.1]; exact hq)
  exact kk p l e R s m args below meth c D ty B sp FQ Cf Sf G H1 locs (cells + 1) (slots + n0) lsA (hW.push e1 (by rw [z1, hW.1]) oq) (kS_push hS (by rw [z1, hW.1]) oq) (by omega) (by omega) hl
theorem wp_anewarray {idx : Nat} {n : Int32} {n0 : Nat} (hd : decode y.2.1 pc = .ok (.anewarray idx, 3)) (hw : Cond.classLink y.1.cls idx "MendedTube$Sheet" ∈ kTB) (h0 : ¬ n < 0) (hn : n.toNatClampNeg = n0) (hb4 : n0 * 4 ≤ 536870912) (kk : WP X d mc ms y (pc + 3) ls (.ref h.length :: st) (h ++ [.inl (2, n0, .inr (fun _ => none))]) Q) : WP X d (mc + 1) (ms + n0) y pc ls (.int n :: st) h Q := by
  subst hn
  intro p l e R s m args below meth c D ty B sp FQ Cf Sf G H locs cells slots lsA hW hS hcc hss hl
  obtain ⟨hx, hb, -, hts, hN, hown, -, hK, hSp, -⟩ := G.1
  have g1 := G.2.1
  have g2 := G.2.2.1
  refine W.anew hx hb hown (hts _ hw) (va_AO.use hSp.2.2.2.2) rfl hd rfl h0 hb4 (by omega) (by omega) fun cA kA comp f1 f2 f3 f4 => ?_
  generalize hH1 : H.push ({ cls := cA, slots := Array.replicate n.toNatClampNeg .null, vm := .none } : Cell) = H1
  have z1 : H1.size = H.size + 1 := by rw [← hH1, Array.size_push]
  have e1 : H1[H.size]? = some (arrV cA n.toNatClampNeg (fun _ => .null)) := by rw [← hH1, Array.getElem?_push_size, ← arrV_new]
  have oq : ∀ q : Nat, q < H.size → H1[q]? = H[q]? := fun q hq => by rw [← hH1, Array.getElem?_push, if_neg (Nat.ne_of_lt hq)]
  have hcA : cA = ty 2 := by
    obtain ⟨kA2, comp2, -, -, -, h9⟩ := (hK.2 2 (ty 2, .object "MendedTube$Sheet") rfl).2
    exact Option.some.inj (f1.symm.trans h9)
  subst hcA
  have K := kk p l e R s m args below meth c D ty B sp FQ Cf Sf G H1 locs (cells + 1) (slots + n.toNatClampNeg) lsA (hW.push (by rw [← hW.1]; exact e1) z1 oq) (kS_push hS z1 oq) (by omega) (by omega) hl
  show W p l e R s m args below meth c H1 locs (cells + 1) (slots + n.toNatClampNeg) FQ { F0 m pc lsA (.int n :: st.map (kcv B sp)) with pc := pc + 3, stack := .ref H.size :: st.map (kcv B sp) }
  rw [hW.1]
  exact K
theorem wp_new {idx ci : Nat} {r : vw_C} {fs : List Value} (hd : decode y.2.1 pc = .ok (.new idx, 3)) (hr : vwCl[ci]? = some r) (hw : Cond.classLink y.1.cls idx r.1 ∈ kTB) (hw2 : Cond.instantiable r.1 r.2.2 ∈ kTB) (hw3 : Cond.initialized r.1 ∈ kTB) (hfs : fs = (List.range r.2.2).map (fun j => defaultValue (kty ci j))) (hfv : ∀ B sp, fs.map (kcv B sp) = fs) (kk : WP X d mc ms y (pc + 3) ls (.ref h.length :: st) (h ++ [.inr (ci, fs)]) Q) : WP X d (mc + 1) (ms + r.2.2) y pc ls st h Q := by
  intro p l e R s m args below meth c D ty B sp FQ Cf Sf G H locs cells slots lsA hW hS hcc hss hl
  obtain ⟨hx, hb, -, hts, hN, hown, -, hK, hSp, -⟩ := G.1
  have g1 := G.2.1
  have g2 := G.2.2.1
  have hKn := hK.1 ci _ hr
  refine W.newcK hx hb hown (hts _ hw) (hts _ hw2) (hts _ hw3) rfl hd (by omega) (by omega) hKn.2.1 hW.1 fun H1 kC hkC e1 z1 o1 => ?_
  have oq : ∀ q : Nat, q < H.size → H1[q]? = H[q]? := fun q hq => o1 q (by rw [← hW.1]; exact hq)
  refine kk p l e R s m args below meth c D ty B sp FQ Cf Sf G H1 locs (cells + 1) (slots + r.2.2) lsA (hW.push ?_ (by rw [z1, hW.1]) oq) (kS_push hS (by rw [z1, hW.1]) oq) (by omega) (by omega) hl
  show ∃ r', vwCl[ci]? = some r' ∧ t_OB (B + h.length) (D.1 ci) r'.2.2 (D.2 ci) H1 (vp_V (fs.map (kcv B sp)))
  rw [hfv]
  refine ⟨r, hr, (u_born (kty ci) hts (kcl_in hr) hKn hkC e1 (kcl_ty hr)).to fun k hk => ?_⟩
  rw [hfs]
  simp [vp_V, List.getD_eq_getElem?_getD, hk]
theorem wp_objinit {idx a : Nat} (hd : decode y.2.1 pc = .ok (.invokespecial idx, 3)) (hw : Cond.methodLink y.1.cls idx Lib.objectInit ∈ kTB) (hw2 : Cond.instanceMethod Lib.objectInit ∈ kTB) (hw3 : Cond.code Lib.objectInit ⟨#[0xb1]⟩ 1 none ∈ kTB) (hcat : (st.map fun v => v.category).sum ≤ 8) (kk : WP X (d + 1) mc ms y (pc + 3) ls st h Q) : WP X (d + 1) mc ms y pc ls (.ref a :: st) h Q := by
  intro p l e R s m args below meth c D ty B sp FQ Cf Sf G H locs cells slots lsA hW hS hcc hss hl
  obtain ⟨hx, hb, hml, hts, hN, hown, -, hK, hSp, -, hr1, hr2, hsp⟩ := G.1
  have hc2 : ((st.map (kcv B sp)).map fun v => v.category).sum = (st.map fun v => v.category).sum := by simp only [List.map_map, Function.comp_def, kcv_cat hsp]
  exact W.objInit hx hb hown (hts _ hw) (hts _ hw2) (hts _ hw3) rfl (by rw [hml]; exact hl.1) rfl hd (by omega) (by show 2 * 0 + _ + 12 ≤ _; omega) (kk p l e R s m args below meth c D ty B sp FQ Cf Sf G H locs cells slots lsA hW hS hcc hss hl)
end kRules2
