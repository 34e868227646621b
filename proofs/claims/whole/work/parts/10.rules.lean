/-! ===== handier rules: calls with one known end, booleans, named results ===== -/
def kb (P : Prop) [Decidable P] : Int32 := if P then 1 else 0
theorem kb_t {P : Prop} [Decidable P] (h : P) : kb P = 1 := if_pos h
theorem kb_f {P : Prop} [Decidable P] (h : ¬ P) : kb P = 0 := if_neg h
theorem kb_iff {P Q : Prop} [Decidable P] [Decidable Q] (h : P ↔ Q) : kb P = kb Q := by
  by_cases hp : P
  · rw [kb_t hp, kb_t (h.mp hp)]
  · rw [kb_f hp, kb_f (fun q => hp (h.mpr q))]
theorem kb_nar {P : Prop} [Decidable P] : narrow .boolean (.int (kb P)) = .int (kb P) := by
  by_cases hp : P
  · rw [kb_t hp]; decide +kernel
  · rw [kb_f hp]; decide +kernel
theorem k_nar0 : narrow .boolean (.int 0) = .int 0 := by decide +kernel
theorem k_nar1 : narrow .boolean (.int 1) = .int 1 := by decide +kernel
theorem kfit_kb {P : Prop} [Decidable P] : kfit .boolean (.int (kb P)) := by
  by_cases hp : P
  · rw [kb_t hp]; exact kfit_z1
  · rw [kb_f hp]; exact kfit_z0
theorem kin {i : Int32} {n : Nat} (h : decide (0 ≤ i.toInt ∧ i.toInt < (n : Int)) = true) : vp_in i n := vp_in_iff.mpr (of_decide_eq_true h)
/-- one end: this answer, this heap -/
def kR (r : Option Value) (h : kH) : Option Value → kH → Prop := fun v h' => v = r ∧ h' = h
theorem kR_i {x z : Int32} {h h' : kH} (e : x = z) (eh : h' = h) : kR (some (.int z)) h (some (.int x)) h' := ⟨by rw [e], eh⟩
section kRules4
variable {X : kX} {d mc ms : Nat} {y y' : kM} {pc : Nat} {ls : List (Nat × Value)} {st As : List Value} {h h1 : kH} {Q : Option Value → kH → Prop} {r : Option Value}
theorem wp_if {P : Prop} (hp : P → WP X d mc ms y pc ls st h Q) (hn : ¬ P → WP X d mc ms y pc ls st h Q) : WP X d mc ms y pc ls st h Q := by
  by_cases h : P
  · exact hp h
  · exact hn h
theorem wp_static1 {idx : Nat} (hd : decode y.2.1 pc = .ok (.invokestatic idx, 3)) (hk : kLk y.1.cls idx y') (hm : kMV y' As.length) (hst : Cond.static y'.1 ∈ kTB) (hlen : (lg_sl As).length ≤ y'.2.2.1) (hcat : (st.map fun v => v.category).sum ≤ 8) (callee : WP X d 0 0 y' 0 (lv_args 0 As) [] h (kR r h1)) (kk : WP X (d + 1) mc ms y (pc + 3) ls (r.toList ++ st) h1 Q) : WP X (d + 1) mc ms y pc ls (As.reverse ++ st) h Q := by
  have K := wp_static (ls := ls) (st := st) (Q := Q) (mc := mc) (ms := ms) hd hk hm hst hlen hcat callee (fun v h2 hq => by obtain ⟨rfl, rfl⟩ := hq; exact kk)
  rwa [Nat.zero_add, Nat.zero_add] at K
theorem wp_static0 {Q1 : Option Value → kH → Prop} {idx : Nat} (hd : decode y.2.1 pc = .ok (.invokestatic idx, 3)) (hk : kLk y.1.cls idx y') (hm : kMV y' As.length) (hst : Cond.static y'.1 ∈ kTB) (hlen : (lg_sl As).length ≤ y'.2.2.1) (hcat : (st.map fun v => v.category).sum ≤ 8) (callee : WP X d 0 0 y' 0 (lv_args 0 As) [] h Q1) (kk : ∀ v h2, Q1 v h2 → WP X (d + 1) mc ms y (pc + 3) ls (v.toList ++ st) h2 Q) : WP X (d + 1) mc ms y pc ls (As.reverse ++ st) h Q := by
  have K := wp_static (ls := ls) (st := st) (Q := Q) (mc := mc) (ms := ms) hd hk hm hst hlen hcat callee kk
  rwa [Nat.zero_add, Nat.zero_add] at K
theorem wp_virtual1 {idx a ci : Nat} {fs : List Value} (hd : decode y.2.1 pc = .ok (.invokevirtual idx, 3)) (hk : kLk y.1.cls idx y') (hm : kMV y' As.length) (hin : Cond.instanceMethod y'.1 ∈ kTB) (hse : Cond.selects y'.1.cls y'.1 y'.1 ∈ kTB) (hlen : (lg_sl (.ref a :: As)).length ≤ y'.2.2.1) (hcat : (st.map fun v => v.category).sum ≤ 8) (hc : h[a]? = some (.inr (ci, fs))) (hr : (vwCl[ci]?).map (fun z => z.1) = some y'.1.cls) (callee : WP X d 0 0 y' 0 (lv_args 0 (.ref a :: As)) [] h (kR r h1)) (kk : WP X (d + 1) mc ms y (pc + 3) ls (r.toList ++ st) h1 Q) : WP X (d + 1) mc ms y pc ls (As.reverse ++ .ref a :: st) h Q := by
  cases hz : vwCl[ci]? with
  | none => rw [hz] at hr; cases hr
  | some z =>
    rw [hz] at hr
    have K := wp_virtual (ls := ls) (st := st) (Q := Q) (mc := mc) (ms := ms) hd hk hm hin hse hlen hcat hc hz (Option.some.inj hr) callee (fun v h2 hq => by obtain ⟨rfl, rfl⟩ := hq; exact kk)
    rwa [Nat.zero_add, Nat.zero_add] at K
theorem wp_virtual0 {Q1 : Option Value → kH → Prop} {idx a ci : Nat} {fs : List Value} (hd : decode y.2.1 pc = .ok (.invokevirtual idx, 3)) (hk : kLk y.1.cls idx y') (hm : kMV y' As.length) (hin : Cond.instanceMethod y'.1 ∈ kTB) (hse : Cond.selects y'.1.cls y'.1 y'.1 ∈ kTB) (hlen : (lg_sl (.ref a :: As)).length ≤ y'.2.2.1) (hcat : (st.map fun v => v.category).sum ≤ 8) (hc : h[a]? = some (.inr (ci, fs))) (hr : (vwCl[ci]?).map (fun z => z.1) = some y'.1.cls) (callee : WP X d 0 0 y' 0 (lv_args 0 (.ref a :: As)) [] h Q1) (kk : ∀ v h2, Q1 v h2 → WP X (d + 1) mc ms y (pc + 3) ls (v.toList ++ st) h2 Q) : WP X (d + 1) mc ms y pc ls (As.reverse ++ .ref a :: st) h Q := by
  cases hz : vwCl[ci]? with
  | none => rw [hz] at hr; cases hr
  | some z =>
    rw [hz] at hr
    have K := wp_virtual (ls := ls) (st := st) (Q := Q) (mc := mc) (ms := ms) hd hk hm hin hse hlen hcat hc hz (Option.some.inj hr) callee kk
    rwa [Nat.zero_add, Nat.zero_add] at K
theorem wp_ifb_eq {P : Prop} [Decidable P] {off : Int} (tgt : Nat) (hd : decode y.2.1 pc = .ok (.ifCond .eq off, 3)) (ht : (pc : Int) + off = (tgt : Int)) (kt : ¬ P → WP X d mc ms y tgt ls st h Q) (kf : P → WP X d mc ms y (pc + 3) ls st h Q) : WP X d mc ms y pc ls (.int (kb P) :: st) h Q := by
  by_cases hp : P
  · refine wp_if_eq tgt hd ht (fun z => ?_) (fun _ => kf hp)
    rw [kb_t hp] at z
    exact absurd z (by decide)
  · exact wp_if_eq tgt hd ht (fun _ => kt hp) (fun z => absurd (kb_f hp) z)
theorem wp_ifb_ne {P : Prop} [Decidable P] {off : Int} (tgt : Nat) (hd : decode y.2.1 pc = .ok (.ifCond .ne off, 3)) (ht : (pc : Int) + off = (tgt : Int)) (kt : P → WP X d mc ms y tgt ls st h Q) (kf : ¬ P → WP X d mc ms y (pc + 3) ls st h Q) : WP X d mc ms y pc ls (.int (kb P) :: st) h Q := by
  by_cases hp : P
  · refine wp_if_ne tgt hd ht (fun _ => kt hp) (fun z => ?_)
    rw [kb_t hp] at z
    exact absurd z (by decide)
  · exact wp_if_ne tgt hd ht (fun z => absurd (kb_f hp) z) (fun _ => kf hp)
theorem wp_retb {P : Prop} [Decidable P] (hd : decode y.2.1 pc = .ok (.ireturn, 1)) (hr : y.2.2.2 = some .boolean) (hq : Q (some (.int (kb P))) h) : WP X d mc ms y pc ls [.int (kb P)] h Q := wp_iret hd hr kb_nar hq
theorem wp_reti {x0 : Int32} (hd : decode y.2.1 pc = .ok (.ireturn, 1)) (hr : y.2.2.2 = some .int) (hq : Q (some (.int x0)) h) : WP X d mc ms y pc ls [.int x0] h Q := wp_iret hd hr rfl hq
theorem wp_v {x0 v0 : Int32} (e : x0 = v0) (k : WP X d mc ms y pc ls (.int v0 :: st) h Q) : WP X d mc ms y pc ls (.int x0 :: st) h Q := e ▸ k
end kRules4
