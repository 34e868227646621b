/-! THE CLAIM OUT OF ONE WALK OF THE LAW'S BODY. Your part is whole_start (and what it stands on); all else here is the same for every law, but numbers. -/
def R_law : String := "MendedTubeLaw"
def lw_P (b : Addr) (xs : List Int32) (args : Array Value) (s : State) : Prop := args = #[.ref b] ∧ s.IntsAt b xs ∧ xs.length ≤ 2560 ∧ (Jvm.Cond.and given_1 narrow_1).before args s = true
def lw_Q (_ : Array Value) (s : State) (o : Outcome) (t : State) : Prop := o = .returned (some (.int 1)) ∧ Framed s o t [] 600000 7302250
def lw_Z (below : List Frame) (a : Array Value) (s : State) : State → Prop := fun t => ∃ o, t.status = .running ∧ Ended t below o ∧ lw_Q a s o t
/-- the law's own end, with 1 on the stack, nothing written that was there before, its room as the claim has it -/
theorem lw_ret {p : Program} {l : Launch} {e : Env} {s : State} {m : MethodId} {below : List Frame} {meth : Method} {c : Code} {b : Nat} (hx : p.tables.exec = Jvm.exec) (hb : c.code = code) (hr : meth.sig.returnType = ret) (hlocks : meth.locks = false) {pc : Nat} {H : Heap} {ls : Array Slot} (hdg : decode code pc = .ok (.ireturn, 1)) : W p l e room_1 s m #[Value.ref b] below meth c H [] 600000 7302250 (lw_Z below #[Value.ref b] s) (F0 m pc ls [.int 1]) := by
  intro T hT X
  obtain ⟨fs, hret, hrun, hended, hW, hframe⟩ := X.leave (v := some (.int 1)) (hlocks := hlocks) (fun h => by rw [hr] at h; cases h)
  have hmeth' : T.vm.method? m = some meth := X.method'
  refine ⟨T.setFrames fs, ?_, .returned (some (.int 1)), hrun, hended, rfl, ⟨_, rfl⟩, hW, hframe⟩
  jvm_step X.here [X.here.top, hx, hb, hdg, hmeth', hr, ret, narrow_b1]
  (try refine ⟨rfl, ?_⟩); (try refine ⟨rfl, ?_⟩)
  first | (intro acts; rw [hret _ acts rfl rfl rfl]) | rw [hret _ _ rfl rfl rfl]
  exact Steps.refl _
/-- what holds at the law's entry: the machine, the code, the tables' words (any of lw_tbl by 'hts w (by decide +kernel)'), the script of L ints xs at the cell b, what the Statement gives of the start (any of its parts by flat_of_before) -/
def lw_At (p : Program) (s : State) (m : MethodId) (meth : Method) (c : Code) (b L : Nat) (xs : Nat → Int32) : Prop :=
  p.tables.exec = Jvm.exec ∧ c.code = code ∧ meth.sig.returnType = ret ∧ c.maxLocals = 4 ∧ s.vm.findClass R_law = some m.cls ∧ (∀ w ∈ lw_tbl, w.before #[Value.ref b] s = true) ∧ va_X b L xs s s.heap ∧ b < s.heap.size ∧ meth.locks = false ∧ (Jvm.Cond.and given_1 narrow_1).before #[Value.ref b] s = true

/-! ===== from the law's entry into the small calculus ===== -/
abbrev yLaw : kM := (x, code, 4, ret)
theorem k_elems {args : Array Value} {s : State} {tm : Term} {l : List Int32} (h : ∀ c ∈ (List.range l.length).map (fun j => Cond.eq (.elem tm (.int (Int32.ofNat j))) (.int (l.getD j 0))), c.before args s = true) : ∀ j : Nat, j < l.length → (Term.elem tm (.int (Int32.ofNat j))).eval args s none [] s = some (.int (l.getD j 0)) := fun j hj => va_eqt (h _ (List.mem_map.mpr ⟨j, List.mem_range.mpr hj, rfl⟩))
set_option maxRecDepth 100000 in
theorem k_tab1 {args : Array Value} {s : State} (hgv : (Jvm.Cond.and given_1 narrow_1).before args s = true) (hts : ∀ w ∈ lw_tbl, w.before args s = true) : ∃ t : Nat, va_T .int t (kTAB 1).length (fun j => .int ((kTAB 1).getD j 0)) (kA s.heap.size) s s.heap ∧ va_Z "MendedTube" (kTN 1) "[I" (.ref t) (kA s.heap.size) s s.heap := by
  have hs := flat_of_before _ hgv
  have hA : ∀ a : Nat, a < s.heap.size → ¬ kA s.heap.size a := fun a ha => Nat.not_le.mpr ha
  have hal : ((List.range (kTAB 1).length).map (fun j => Cond.eq (.elem (.static "MendedTube" "ABOVE" "[I") (.int (Int32.ofNat j))) (.int ((kTAB 1).getD j 0)))).all (fun c => decide (c ∈ flatC (Jvm.Cond.and given_1 narrow_1))) = true := by decide +kernel
  obtain ⟨t, ht, hT⟩ := va_Tof (tm := .static "MendedTube" "ABOVE" "[I") (ty := .int) (N := (kTAB 1).length) (f := fun j => .int ((kTAB 1).getD j 0)) (A := kA s.heap.size) (by decide) (hs (Cond.arrayOf (.static "MendedTube" "ABOVE" "[I") .int) (by decide +kernel)) (va_eqt (hs (Cond.eq (.length (.static "MendedTube" "ABOVE" "[I")) (.int 6)) (by decide +kernel))) (k_elems (l := kTAB 1) (fun c hc => hs c (by simpa using List.all_eq_true.mp hal c hc))) hA
  exact ⟨t, hT, va_Zref (hts (Cond.laysStatic "MendedTube" "ABOVE" "[I") (by decide +kernel)) (hts (Cond.initialized "MendedTube") (by decide +kernel)) ht hA⟩
set_option maxRecDepth 100000 in
theorem k_tab2 {args : Array Value} {s : State} (hgv : (Jvm.Cond.and given_1 narrow_1).before args s = true) (hts : ∀ w ∈ lw_tbl, w.before args s = true) : ∃ t : Nat, va_T .int t (kTAB 2).length (fun j => .int ((kTAB 2).getD j 0)) (kA s.heap.size) s s.heap ∧ va_Z "MendedTube" (kTN 2) "[I" (.ref t) (kA s.heap.size) s s.heap := by
  have hs := flat_of_before _ hgv
  have hA : ∀ a : Nat, a < s.heap.size → ¬ kA s.heap.size a := fun a ha => Nat.not_le.mpr ha
  have hal : ((List.range (kTAB 2).length).map (fun j => Cond.eq (.elem (.static "MendedTube" "LEAST_SETTING" "[I") (.int (Int32.ofNat j))) (.int ((kTAB 2).getD j 0)))).all (fun c => decide (c ∈ flatC (Jvm.Cond.and given_1 narrow_1))) = true := by decide +kernel
  obtain ⟨t, ht, hT⟩ := va_Tof (tm := .static "MendedTube" "LEAST_SETTING" "[I") (ty := .int) (N := (kTAB 2).length) (f := fun j => .int ((kTAB 2).getD j 0)) (A := kA s.heap.size) (by decide) (hs (Cond.arrayOf (.static "MendedTube" "LEAST_SETTING" "[I") .int) (by decide +kernel)) (va_eqt (hs (Cond.eq (.length (.static "MendedTube" "LEAST_SETTING" "[I")) (.int 4)) (by decide +kernel))) (k_elems (l := kTAB 2) (fun c hc => hs c (by simpa using List.all_eq_true.mp hal c hc))) hA
  exact ⟨t, hT, va_Zref (hts (Cond.laysStatic "MendedTube" "LEAST_SETTING" "[I") (by decide +kernel)) (hts (Cond.initialized "MendedTube") (by decide +kernel)) ht hA⟩
set_option maxRecDepth 100000 in
theorem k_tab3 {args : Array Value} {s : State} (hgv : (Jvm.Cond.and given_1 narrow_1).before args s = true) (hts : ∀ w ∈ lw_tbl, w.before args s = true) : ∃ t : Nat, va_T .int t (kTAB 3).length (fun j => .int ((kTAB 3).getD j 0)) (kA s.heap.size) s s.heap ∧ va_Z "MendedTube" (kTN 3) "[I" (.ref t) (kA s.heap.size) s s.heap := by
  have hs := flat_of_before _ hgv
  have hA : ∀ a : Nat, a < s.heap.size → ¬ kA s.heap.size a := fun a ha => Nat.not_le.mpr ha
  have hal : ((List.range (kTAB 3).length).map (fun j => Cond.eq (.elem (.static "MendedTube" "GREATEST_SETTING" "[I") (.int (Int32.ofNat j))) (.int ((kTAB 3).getD j 0)))).all (fun c => decide (c ∈ flatC (Jvm.Cond.and given_1 narrow_1))) = true := by decide +kernel
  obtain ⟨t, ht, hT⟩ := va_Tof (tm := .static "MendedTube" "GREATEST_SETTING" "[I") (ty := .int) (N := (kTAB 3).length) (f := fun j => .int ((kTAB 3).getD j 0)) (A := kA s.heap.size) (by decide) (hs (Cond.arrayOf (.static "MendedTube" "GREATEST_SETTING" "[I") .int) (by decide +kernel)) (va_eqt (hs (Cond.eq (.length (.static "MendedTube" "GREATEST_SETTING" "[I")) (.int 4)) (by decide +kernel))) (k_elems (l := kTAB 3) (fun c hc => hs c (by simpa using List.all_eq_true.mp hal c hc))) hA
  exact ⟨t, hT, va_Zref (hts (Cond.laysStatic "MendedTube" "GREATEST_SETTING" "[I") (by decide +kernel)) (hts (Cond.initialized "MendedTube") (by decide +kernel)) ht hA⟩
set_option maxRecDepth 100000 in
theorem k_str {args : Array Value} {s : State} (hgv : (Jvm.Cond.and given_1 narrow_1).before args s = true) (hts : ∀ w ∈ lw_tbl, w.before args s = true) : ∃ q v : Nat, vk_R "MendedTube$Text" 87 kTXT q s ∧ va_O "java/lang/String" q (kA s.heap.size) s s.heap ∧ va_OF "java/lang/String" "coder" "B" (.int 0) q (kA s.heap.size) s s.heap ∧ va_OF "java/lang/String" "value" "[B" (.ref v) q (kA s.heap.size) s s.heap ∧ va_T .byte v kBYT.length (fun j => .int (kBYT.getD j 0)) (kA s.heap.size) s s.heap := by
  have hs := flat_of_before _ hgv
  have hA : ∀ a : Nat, a < s.heap.size → ¬ kA s.heap.size a := fun a ha => Nat.not_le.mpr ha
  have hal : ((List.range kBYT.length).map (fun j => Cond.eq (.elem (.field (.string "MendedTube$Text" 87) "java/lang/String" "value" "[B") (.int (Int32.ofNat j))) (.int (kBYT.getD j 0)))).all (fun c => decide (c ∈ flatC (Jvm.Cond.and given_1 narrow_1))) = true := by decide +kernel
  obtain ⟨adK, adV, hS, hE⟩ := vk_Sof (args := args) (s := s) (N := 1) (tm := fun _ => .string "MendedTube$Text" 87) (len := [kBYT.length]) (byt := [kBYT]) (A := kA s.heap.size)
    (fun i hi => by rw [show i = 0 by omega]; decide) (fun i hi => hs (Cond.exactly (.string "MendedTube$Text" 87) "java/lang/String") (by decide +kernel)) (fun i hi => hs (Cond.eq (.field (.string "MendedTube$Text" 87) "java/lang/String" "coder" "B") (.int 0)) (by decide +kernel))
    (fun i hi => hs (Cond.arrayOf (.field (.string "MendedTube$Text" 87) "java/lang/String" "value" "[B") .byte) (by decide +kernel)) (fun i hi => by rw [show i = 0 by omega]; exact hs (Cond.eq (.length (.field (.string "MendedTube$Text" 87) "java/lang/String" "value" "[B")) (.int (Int32.ofNat kBYT.length))) (by decide +kernel))
    (fun i hi j hj => by
      have hi0 : i = 0 := by omega
      subst hi0
      exact hs _ (by simpa using List.all_eq_true.mp hal _ (List.mem_map.mpr ⟨j, List.mem_range.mpr hj, rfl⟩)))
    (fun i j hi hj hij => absurd (by omega) hij) hA
  obtain ⟨h1, h2, h3, h4⟩ := hS.1 0 (by omega)
  exact ⟨adK 0, adV 0, vk_R.of (hts (Cond.stringRef "MendedTube$Text" 87 kTXT) (by decide +kernel)) (hE 0 (by omega)), h1, h2, h3, h4⟩
set_option maxRecDepth 100000 in
set_option maxHeartbeats 4000000 in
/-- the law's walk, out of the small calculus -/
theorem k_start {d : Nat} (hd1 : d ≤ 1400) (hwp : ∀ X : kX, X.1 ≤ 2560 → WP X d 600000 7302250 yLaw 0 [(0, .float 0)] [] [] (fun v _ => v = some (.int 1))) {p : Program} {e : Env} {s : State} {m : MethodId} {below : List Frame} {meth : Method} {c : Code} (l : Launch) {b L : Nat} {xs : Nat → Int32} (hL : L ≤ 2560) (C0 : lw_At p s m meth c b L xs) : W p l e room_1 s m #[Value.ref b] below meth c s.heap [] 0 0 (lw_Z below #[Value.ref b] s) (entryFrame m ([Value.ref b] : List Value).toArray 4) := by
  obtain ⟨hx, hb, hr, hml, hown, hts, hX, hbl, hlocks, hgv⟩ := C0
  have hA : ∀ a : Nat, a < s.heap.size → ¬ kA s.heap.size a := fun a ha => Nat.not_le.mpr ha
  have hs := flat_of_before _ hgv
  obtain ⟨t1, a1, a2⟩ := k_tab1 hgv hts
  obtain ⟨t2, b1, b2⟩ := k_tab2 hgv hts
  obtain ⟨t3, c1, c2⟩ := k_tab3 hgv hts
  obtain ⟨q, v, d1, d2, d3, d4, d5⟩ := k_str hgv hts
  have hcs : va_Z "java/lang/String" "COMPACT_STRINGS" "Z" (.int 1) (kA s.heap.size) s s.heap := va_Zof (hts (Cond.laysStatic "java/lang/String" "COMPACT_STRINGS" "Z") (by decide +kernel)) (hts (Cond.initialized "java/lang/String") (by decide +kernel)) (va_eqi (hs (Cond.eq (.static "java/lang/String" "COMPACT_STRINGS" "Z") (.int 1)) (by decide +kernel))) hA
  obtain ⟨w6, hw6, hz6⟩ : ∃ w : Value, (w = .null ∨ ∃ t : Nat, w = .ref t) ∧ va_Z "jdk/internal/util/Preconditions" "SIOOBE_FORMATTER" "Ljava/util/function/BiFunction;" w (kA s.heap.size) s s.heap := by
    rcases va_Zqof (hts (Cond.laysStatic "jdk/internal/util/Preconditions" "SIOOBE_FORMATTER" "Ljava/util/function/BiFunction;") (by decide +kernel)) (hts (Cond.initialized "jdk/internal/util/Preconditions") (by decide +kernel)) (hs (Cond.isRef (.static "jdk/internal/util/Preconditions" "SIOOBE_FORMATTER" "Ljava/util/function/BiFunction;")) (by decide +kernel)) hA with h | ⟨t, h⟩
    · exact ⟨_, Or.inl rfl, h⟩
    · exact ⟨_, Or.inr ⟨t, rfl⟩, h⟩
  obtain ⟨sp, p0, p1, p2, p3, p4, p5, p6, hsp⟩ : ∃ sp : Nat → Value, sp 0 = .ref b ∧ sp 1 = .ref t1 ∧ sp 2 = .ref t2 ∧ sp 3 = .ref t3 ∧ sp 4 = .ref q ∧ sp 5 = .ref v ∧ sp 6 = w6 ∧ kSp sp := by
    refine ⟨fun u => match u with | 0 => .ref b | 1 => .ref t1 | 2 => .ref t2 | 3 => .ref t3 | 4 => .ref q | 5 => .ref v | 6 => w6 | _ => .null, rfl, rfl, rfl, rfl, rfl, rfl, rfl, fun u => ?_⟩
    match u with
    | 0 => exact Or.inr ⟨_, rfl⟩
    | 1 => exact Or.inr ⟨_, rfl⟩
    | 2 => exact Or.inr ⟨_, rfl⟩
    | 3 => exact Or.inr ⟨_, rfl⟩
    | 4 => exact Or.inr ⟨_, rfl⟩
    | 5 => exact Or.inr ⟨_, rfl⟩
    | 6 => exact hw6
    | u + 7 => exact Or.inl rfl
  have hAO : va_AO "MendedTube$Sheet" s := va_AO.of (hts (Cond.arrayOver (.object "MendedTube$Sheet")) (by decide +kernel))
  have hSp : kS (L, xs) s.heap.size sp s s.heap := ⟨⟨b, p0, hX, hbl⟩, ⟨⟨t1, p1, a1, a2⟩, ⟨t2, p2, b1, b2⟩, ⟨t3, p3, c1, c2⟩⟩, ⟨q, v, p4, p5, d1, d2, d3, d4, d5⟩, ⟨by rw [p6]; exact hz6, hcs⟩, hAO⟩
  have hTB : ∀ w ∈ kTB, w.before #[Value.ref b] s = true := fun w hw => hts w (List.mem_filter.mp hw).1
  obtain ⟨C0, I0, K0⟩ := u_known (C := RX0) (T := TX0) (N := 3) (n := 3) hTB kin_0 (hts (.instantiable RX0 3) (by decide +kernel))
  obtain ⟨C1, I1, K1⟩ := u_known (C := RX1) (T := TX1) (N := 14) (n := 14) hTB kin_1 (hts (.instantiable RX1 14) (by decide +kernel))
  obtain ⟨C2, I2, K2⟩ := u_known (C := RX2) (T := TX2) (N := 5) (n := 5) hTB kin_2 (hts (.instantiable RX2 5) (by decide +kernel))
  obtain ⟨C3, I3, K3⟩ := u_known (C := RX3) (T := TX3) (N := 6) (n := 6) hTB kin_3 (hts (.instantiable RX3 6) (by decide +kernel))
  obtain ⟨C4, I4, K4⟩ := u_known (C := RX4) (T := TX4) (N := 14) (n := 14) hTB kin_4 (hts (.instantiable RX4 14) (by decide +kernel))
  obtain ⟨C5, I5, K5⟩ := u_known (C := RX5) (T := TX5) (N := 11) (n := 11) hTB kin_5 (hts (.instantiable RX5 11) (by decide +kernel))
  obtain ⟨C6, I6, K6⟩ := u_known (C := RX6) (T := TX6) (N := 2) (n := 2) hTB kin_6 (hts (.instantiable RX6 2) (by decide +kernel))
  obtain ⟨C7, I7, K7⟩ := u_known (C := RX7) (T := TX7) (N := 2) (n := 2) hTB kin_7 (hts (.instantiable RX7 2) (by decide +kernel))
  obtain ⟨C8, I8, K8⟩ := u_known (C := RX8) (T := TX8) (N := 9) (n := 9) hTB kin_8 (hts (.instantiable RX8 9) (by decide +kernel))
  obtain ⟨C9, I9, K9⟩ := u_known (C := RX9) (T := TX9) (N := 16) (n := 16) hTB kin_9 (hts (.instantiable RX9 16) (by decide +kernel))
  obtain ⟨C10, I10, K10⟩ := u_known (C := RX10) (T := TX10) (N := 43) (n := 43) hTB kin_10 (hts (.instantiable RX10 43) (by decide +kernel))
  obtain ⟨D, hD⟩ : ∃ D : va_G, ∀ (k : Nat) (q : vw_C), vwCl[k]? = some q → u_Kn s q.1 q.2.1 q.2.2 (D.1 k) (D.2 k) := by
    refine ⟨(fun k => match k with | 0 => C0 | 1 => C1 | 2 => C2 | 3 => C3 | 4 => C4 | 5 => C5 | 6 => C6 | 7 => C7 | 8 => C8 | 9 => C9 | _ => C10, fun k => match k with | 0 => I0 | 1 => I1 | 2 => I2 | 3 => I3 | 4 => I4 | 5 => I5 | 6 => I6 | 7 => I7 | 8 => I8 | 9 => I9 | _ => I10), ?_⟩
    intro k q hq
    match k, hq with
    | 0, hq => cases hq; exact K0
    | 1, hq => cases hq; exact K1
    | 2, hq => cases hq; exact K2
    | 3, hq => cases hq; exact K3
    | 4, hq => cases hq; exact K4
    | 5, hq => cases hq; exact K5
    | 6, hq => cases hq; exact K6
    | 7, hq => cases hq; exact K7
    | 8, hq => cases hq; exact K8
    | 9, hq => cases hq; exact K9
    | 10, hq => cases hq; exact K10
    | k + 11, hq => simp [vwCl] at hq
  obtain ⟨i0, ik0, im0, in0, iq0, ir0⟩ := Cond.arrayClass_spec (hts (Cond.arrayClass .int) (by decide +kernel))
  obtain ⟨z0, zk0, zm0, zn0, zq0, zr0⟩ := Cond.arrayClass_spec (hts (Cond.arrayClass .boolean) (by decide +kernel))
  obtain ⟨o0, oc0, ok0, oh1, oh2, oh3, oh4, oh5⟩ := Cond.arrayOver_spec (va_AO.use (A := #[]) hAO)
  obtain ⟨ty, ty0, ty1, ty2⟩ : ∃ ty : Nat → ClassId, ty 0 = i0 ∧ ty 1 = z0 ∧ ty 2 = oc0 := ⟨fun k => match k with | 0 => i0 | 1 => z0 | _ => oc0, rfl, rfl, rfl⟩
  have hK : va_K D vwCl (kT ty) s := by
    refine ⟨hD, fun k q hq => ?_⟩
    match k, hq with
    | 0, hq =>
      cases hq
      exact ⟨fun n z => ⟨fun k h => (by cases h), ik0, by rw [ty0]; exact iq0, im0, ir0⟩, by rw [ty0]; exact in0⟩
    | 1, hq =>
      cases hq
      exact ⟨fun n z => ⟨fun k h => (by cases h), zk0, by rw [ty1]; exact zq0, zm0, zr0⟩, by rw [ty1]; exact zn0⟩
    | 2, hq =>
      cases hq
      exact ⟨fun n z => ⟨fun k h => (by cases h), ok0, by rw [ty2]; exact oh3, o0, oh4⟩, ok0, o0, by rw [ty2]; exact oh3, oh4, oh1, by rw [ty2]; exact oh5⟩
    | k + 3, hq => simp [kT] at hq
  have hN : kN s := by
    intro w hw
    have h1 := hts w (List.mem_filter.mp hw).1
    have h2 : kIsN w = true := (List.mem_filter.mp hw).2
    cases w <;> first | exact va_Nw.of rfl h1 | cases h2
  have hS : va_S (kA s.heap.size) s.heap s.heap [] := va_S.rf
  have hW : kW D ty s.heap.size sp [] s.heap := ⟨rfl, fun k x hk => by simp at hk⟩
  have hl := lv_entry ([.ref b]) (n := 4) (Nat.le_of_ble_eq_true rfl)
  rw [lg_entry_eq]
  generalize (lg_sl ([.ref b]) ++ List.replicate (4 - (lg_sl ([.ref b])).length) Slot.unset).toArray = lsA at hl ⊢
  have hl : lv_has lsA 4 (kls s.heap.size sp [(0, .float 0)]) := by
    have e0 : kls s.heap.size sp [(0, .float 0)] = [(0, Value.ref b)] := by
      show [(0, sp 0)] = _
      rw [p0]
    rw [e0]
    exact hl
  refine hwp (L, xs) hL p l e room_1 s m #[Value.ref b] below meth c D ty s.heap.size sp (lw_Z below #[Value.ref b] s) 600000 7302250 ⟨⟨hx, hb, hml, hTB, hN, hown, fun hi => absurd hi (by decide), hK, hSp, Nat.le_refl _, by show d ≤ 2048; omega, by show 60 * d ≤ 84000; omega, hsp⟩, Nat.le_refl _, Nat.le_refl _, ?_⟩ s.heap [] 0 0 lsA hW hS (by omega) (by omega) hl
  intro pc lsB v h' H locs cells slots hq hret hW' hS' hc hss
  subst hq
  refine va_forget (fun q hq => hS'.2.2 q hq) ?_
  refine W.widen hc hss ?_
  rcases hret with ⟨h1, h2, h3⟩ | ⟨x1, t0, h1, h2, hn, h3⟩ | ⟨x1, h1, h2, h3⟩ | ⟨t0, a, h1, h2, h4, h3⟩ | ⟨t0, h1, h2, h4, h3⟩
  · cases h2
  · exact lw_ret hx hb hr hlocks h3
  · cases h2
  · cases h4
  · cases h4
