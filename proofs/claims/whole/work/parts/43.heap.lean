/-! ===== tubes from the heap: the class ===== -/
theorem kbt (u : Int32) {l : Nat} (hl : l < 31) : (u >>> (nI l &&& 31) &&& 1 = 1) ↔ u.toBitVec.getLsbD l = true := by
  have e31 : (nI l &&& 31).toBitVec.toNat = l := by
    have := nI_toInt (n := l) (by omega)
    rcases (by omega : l = 0 ∨ l = 1 ∨ l = 2 ∨ l = 3 ∨ l = 4 ∨ l = 5 ∨ l = 6 ∨ l = 7 ∨ l = 8 ∨ l = 9 ∨ l = 10 ∨ l = 11 ∨ l = 12 ∨ l = 13 ∨ l = 14 ∨ l = 15 ∨ l = 16 ∨ l = 17 ∨ l = 18 ∨ l = 19 ∨ l = 20 ∨ l = 21 ∨ l = 22 ∨ l = 23 ∨ l = 24 ∨ l = 25 ∨ l = 26 ∨ l = 27 ∨ l = 28 ∨ l = 29 ∨ l = 30) with e | e | e | e | e | e | e | e | e | e | e | e | e | e | e | e | e | e | e | e | e | e | e | e | e | e | e | e | e | e | e <;> subst e <;> rfl
  have e1 : (u >>> (nI l &&& 31) &&& 1).toBitVec = u.toBitVec.sshiftRight l &&& 1#32 := by
    show BitVec.sshiftRight' _ _ &&& _ = _
    rw [BitVec.sshiftRight']
    show u.toBitVec.sshiftRight ((nI l &&& 31).toBitVec.smod 32#32).toNat &&& _ = _
    have e2 : ((nI l &&& 31).toBitVec.smod 32#32).toNat = l := by
      rcases (by omega : l = 0 ∨ l = 1 ∨ l = 2 ∨ l = 3 ∨ l = 4 ∨ l = 5 ∨ l = 6 ∨ l = 7 ∨ l = 8 ∨ l = 9 ∨ l = 10 ∨ l = 11 ∨ l = 12 ∨ l = 13 ∨ l = 14 ∨ l = 15 ∨ l = 16 ∨ l = 17 ∨ l = 18 ∨ l = 19 ∨ l = 20 ∨ l = 21 ∨ l = 22 ∨ l = 23 ∨ l = 24 ∨ l = 25 ∨ l = 26 ∨ l = 27 ∨ l = 28 ∨ l = 29 ∨ l = 30) with e | e | e | e | e | e | e | e | e | e | e | e | e | e | e | e | e | e | e | e | e | e | e | e | e | e | e | e | e | e | e <;> subst e <;> rfl
    rw [e2]
    rfl
  have e3 : (u.toBitVec.sshiftRight l &&& 1#32 = 1#32) ↔ u.toBitVec.getLsbD l = true := by
    constructor
    · intro h
      have h0 := congrArg (fun b => b.getLsbD 0) h
      simp only [BitVec.getLsbD_and, BitVec.getLsbD_sshiftRight] at h0
      simpa [show l < 32 by omega] using h0
    · intro h
      apply BitVec.eq_of_getLsbD_eq
      intro i hi
      simp only [BitVec.getLsbD_and, BitVec.getLsbD_sshiftRight]
      rcases Nat.eq_zero_or_pos i with e | e
      · subst e; simp [h, show l < 32 by omega]
      · simp [BitVec.getLsbD_one, show ¬ i = 0 by omega]
  rw [← e3, ← e1]
  exact ⟨fun h => congrArg Int32.toBitVec h, fun h => Int32.toBitVec_inj.mp h⟩
theorem kbit_tp {l : Nat} (hl : l < 31) : (kbit l).toBitVec = BitVec.twoPow 32 l := by
  rcases (by omega : l = 0 ∨ l = 1 ∨ l = 2 ∨ l = 3 ∨ l = 4 ∨ l = 5 ∨ l = 6 ∨ l = 7 ∨ l = 8 ∨ l = 9 ∨ l = 10 ∨ l = 11 ∨ l = 12 ∨ l = 13 ∨ l = 14 ∨ l = 15 ∨ l = 16 ∨ l = 17 ∨ l = 18 ∨ l = 19 ∨ l = 20 ∨ l = 21 ∨ l = 22 ∨ l = 23 ∨ l = 24 ∨ l = 25 ∨ l = 26 ∨ l = 27 ∨ l = 28 ∨ l = 29 ∨ l = 30) with e | e | e | e | e | e | e | e | e | e | e | e | e | e | e | e | e | e | e | e | e | e | e | e | e | e | e | e | e | e | e <;> subst e <;> rfl
theorem kbit_bv {l : Nat} (hl : l < 31) (i : Nat) : (kbit l).toBitVec.getLsbD i = decide (l = i) := by
  rw [kbit_tp hl, BitVec.getLsbD_twoPow]
  simp [show l < 32 by omega]
/-- what a lens put into the set takes out again -/
theorem kub (u : Int32) {l : Nat} (hl : l < 31) (h : ¬ (u >>> (nI l &&& 31) &&& 1 = 1)) : (u ||| (1 <<< (nI l &&& 31))) &&& ((1 <<< (nI l &&& 31)) ^^^ (-1)) = u := by
  have hb : u.toBitVec.getLsbD l = false := by
    rw [kbt u hl] at h
    simpa using h
  apply Int32.toBitVec_inj.mp
  rw [Int32.toBitVec_and, Int32.toBitVec_or, Int32.toBitVec_xor]
  apply BitVec.eq_of_getLsbD_eq
  intro i hi
  have e1 : (-1 : Int32).toBitVec = BitVec.allOnes 32 := by decide
  have e2 := kbit_bv hl i
  unfold kbit at e2
  rw [BitVec.getLsbD_and, BitVec.getLsbD_or, BitVec.getLsbD_xor, e1, e2, BitVec.getLsbD_allOnes]
  by_cases e : l = i
  · subst e
    rw [hb]
    simp [hi]
  · simp [e, hi]
theorem k_two {α : Type} {l : List α} (h : l.length = 2) : ∃ a b, l = [a, b] := by
  match l, h with
  | [a, b], _ => exact ⟨a, b, rfl⟩
theorem s_fill {X : kX} {d : Nat} {h : kH} {a n : Nat} {f : Nat → Int32} (hn : n < 2 ^ 20) (hc : h[a]? = some (.inl (0, n, .inl f))) (x : Int32) : WP X d 0 0 Y_J7_fill_53178 0 [(0, .ref a), (1, .int x)] [] h (fun r h1 => r = none ∧ ∃ f1 : Nat → Int32, h1 = h.set a (.inl (0, n, .inl f1)) ∧ ∀ j, j < n → f1 j = x) := by
  have ha : a < h.length := by
    rcases Nat.lt_or_ge a h.length with q | q
    · exact q
    · rw [List.getElem?_eq_none q] at hc; cases hc
  have L : ∀ (k i : Nat) (g : Nat → Int32), i + k = n → (∀ j, j < i → g j = x) → WP X d 0 0 Y_J7_fill_53178 5 [(2, .int (nI i)), (3, .int (nI n)), (0, .ref a), (1, .int x)] [] (h.set a (.inl (0, n, .inl g))) (fun r h1 => r = none ∧ ∃ f1 : Nat → Int32, h1 = h.set a (.inl (0, n, .inl f1)) ∧ ∀ j, j < n → f1 j = x) := by
    intro k
    induction k with
    | zero =>
      intro i g hi hg
      refine wp_iload_n 0 d_J7_fill_53178_5 rfl rfl ?_
      refine wp_iload_n 1 d_J7_fill_53178_6 rfl rfl ?_
      refine wp_ncmp_ge (a := i) (b := n) 20 d_J7_fill_53178_7 rfl (by omega) (by omega) (fun _ => ?_) (fun q => absurd q (by omega))
      exact wp_vret d_J7_fill_53178_20 rfl ⟨rfl, g, rfl, fun j hj => hg j (by omega)⟩
    | succ k ih =>
      intro i g hi hg
      refine wp_iload_n 0 d_J7_fill_53178_5 rfl rfl ?_
      refine wp_iload_n 1 d_J7_fill_53178_6 rfl rfl ?_
      refine wp_ncmp_ge (a := i) (b := n) 20 d_J7_fill_53178_7 rfl (by omega) (by omega) (fun q => absurd q (by omega)) (fun _ => ?_)
      refine wp_aload_n 2 d_J7_fill_53178_10 rfl rfl ?_
      refine wp_iload_n 0 d_J7_fill_53178_11 rfl rfl ?_
      refine wp_iload_n 3 d_J7_fill_53178_12 rfl rfl ?_
      refine wp_iastore (h' := h.set a (.inl (0, n, .inl (upd g i x)))) (f := g) (n := n) d_J7_fill_53178_13 (by rw [List.getElem?_set_self ha]) (vp_in_nI (by omega) (by omega)) (by rw [nI_clamp (by omega), List.set_set]) ?_
      refine wp_iinc (v0 := nI (i + 1)) [(2, .int (nI (i + 1))), (3, .int (nI n)), (0, .ref a), (1, .int x)] 0 d_J7_fill_53178_14 rfl (nI_add i 1) (Nat.le_of_ble_eq_true rfl) rfl ?_
      refine wp_goto 5 d_J7_fill_53178_17 rfl ?_
      refine ih (i + 1) _ (by omega) (fun j hj => ?_)
      by_cases e : j = i
      · subst e; exact upd_s _ _ _
      · rw [upd_n _ _ e]; exact hg j (by omega)
  refine wp_iconst (v0 := 0) d_J7_fill_53178_0 rfl ?_
  refine wp_istore_n [(2, .int 0), (0, .ref a), (1, .int x)] d_J7_fill_53178_1 rfl (Nat.le_of_ble_eq_true rfl) rfl ?_
  refine wp_aload_n 1 d_J7_fill_53178_2 rfl rfl ?_
  refine wp_alen (v := nI n) d_J7_fill_53178_3 hc (Nat.le_of_ble_eq_true rfl) rfl ?_
  refine wp_istore_n [(3, .int (nI n)), (2, .int 0), (0, .ref a), (1, .int x)] d_J7_fill_53178_4 rfl (Nat.le_of_ble_eq_true rfl) rfl ?_
  refine wp_sub [(2, .int (nI 0)), (3, .int (nI n)), (0, .ref a), (1, .int x)] [1, 0, 2, 3] rfl ?_
  have L0 := L n 0 f (by omega) (fun j hj => absurd hj (by omega))
  rw [List_set_same _ _ _ hc] at L0
  exact L0
/-! the tubes' values -/
abbrev kTb : Type := List (Nat × Nat)
abbrev kAl : Type := Int32 × kTb × Int32 × (Nat → Int32)
def kent2 (st tl : Nat → Int32) (q : Nat × Nat) : Int32 × Int32 := (st q.1, kpush (tl q.1) (nI q.2))
def kjn (P : Nat → Int32) (l m : Nat) : Nat → Int32 := upd (upd P l (P l ||| kbit m)) m ((upd P l (P l ||| kbit m)) m ||| kbit l)
def kW2 (g e : Int32) (st tl : Nat → Int32) (pre : kTb) : Int32 := cwr g e (pre.map (kent2 st tl))
def kwg (g e lim : Int32) (st tl : Nat → Int32) (N : Nat) (pre : kTb) (wy : Int32) (a : kAl) : kAl :=
  (if a.1 = -1 ∨ kW2 g e st tl pre < a.1 then kW2 g e st tl pre else a.1, if a.1 = -1 ∨ kW2 g e st tl pre < a.1 then pre else a.2.1, if kW2 g e st tl pre ≤ lim then a.2.2.1 + wy else a.2.2.1, if kW2 g e st tl pre ≤ lim ∧ N = 2 then kjn a.2.2.2 ((pre.map Prod.fst).getD 0 0) ((pre.map Prod.fst).getD 1 0) else a.2.2.2)
def tfw {α : Type} (leaf : kTb → Int32 → α → α) (nl T : Nat) (wf : Nat → Int32 → Int32) : Nat → kTb → Int32 → Int32 → α → α
  | 0, pre, _, wy, a => leaf pre wy a
  | k + 1, pre, u, wy, a => (List.range' 0 nl).foldl (fun a l => if u >>> (nI l &&& 31) &&& 1 = 1 then a else (List.range' 0 T).foldl (fun a t => tfw leaf nl T wf k (pre ++ [(l, t)]) (u ||| kbit l) (wf t wy) a) a) a
/-- but for light and the heap's own -/
def kHf (w w' : kZ) : Prop := (∀ k, k < 4200 ∨ 4299 < k ∧ k < 5001 ∨ 5013 < k → w'.1 k = w.1 k) ∧ (∀ k, k < 43 ∨ 49 < k ∧ k < 51 ∨ 57 < k → w'.2.1 k = w.2.1 k) ∧ w'.2.2 = w.2.2
theorem kHf.rf (w : kZ) : kHf w w := ⟨fun _ _ => rfl, fun _ _ => rfl, rfl⟩
theorem kHf.tr {a b c : kZ} (h : kHf a b) (g : kHf b c) : kHf a c := ⟨fun k hk => (g.1 k hk).trans (h.1 k hk), fun k hk => (g.2.1 k hk).trans (h.2.1 k hk), g.2.2.trans h.2.2⟩
theorem kLa.hf {a b : kZ} (h : kLa a b) : kHf a b := ⟨fun k hk => h.1 k (by omega), fun k hk => h.2.1 k (by omega), h.2.2⟩
def kAr (a : kAl) (w : kZ) : Prop := w.1 5008 = a.1 ∧ w.1 5009 = a.2.2.1 ∧ w.2.1 55 = a.2.2.2 ∧ ∀ j (h : j < a.2.1.length), w.2.1 53 j = nI a.2.1[j].1 ∧ w.2.1 54 j = nI a.2.1[j].2
def kHw (w : kZ) (g e lim : Int32) (st tl : Nat → Int32) (nl N : Nat) (ll : List Nat) (pre : kTb) (u : Int32) (a : kAl) (w' : kZ) : Prop :=
  (w'.1 5001 = nI nl ∧ w'.1 5002 = nI N ∧ w'.1 5003 = u) ∧ kLd w' g e lim st tl nl ∧ kRay w' (pre.map (kent2 st tl)) ∧ (∀ j (h : j < ll.length), w'.2.1 51 j = nI ll[j]) ∧ (∀ j (h : j < pre.length), w'.2.1 52 j = nI pre[j].2) ∧ kAr a w' ∧ kHf w w'
/-- light passed on, behind the first places -/
theorem kHw.lf {w : kZ} {g e lim : Int32} {st tl : Nat → Int32} {nl N : Nat} {ll : List Nat} {pre : kTb} {u : Int32} {a : kAl} {w' w2 : kZ} (h : kHw w g e lim st tl nl N ll pre u a w') (f : kLf w' w2) (hr : kRay w2 (pre.map (kent2 st tl))) : kHw w g e lim st tl nl N ll pre u a w2 := by
  obtain ⟨⟨a1, a2, a3⟩, b, _, c, d, ⟨e1, e2, e3, e4⟩, k⟩ := h
  refine ⟨⟨(f.1 _ (by decide)).trans a1, (f.1 _ (by decide)).trans a2, (f.1 _ (by decide)).trans a3⟩, b.f f, hr, ?_, ?_, ⟨(f.1 _ (by decide)).trans e1, (f.1 _ (by decide)).trans e2, (f.2.1 _ (by decide)).trans e3, ?_⟩, k.tr f.a.hf⟩
  · rw [f.2.1 51 (by decide)]; exact c
  · rw [f.2.1 52 (by decide)]; exact d
  · rw [f.2.1 53 (by decide), f.2.1 54 (by decide)]; exact e4
/-- only what is told of the tubes changes -/
def kAf (w w3 : kZ) : Prop := (∀ k, k ≠ 5008 → k ≠ 5009 → w3.1 k = w.1 k) ∧ (∀ k, k < 53 ∨ 55 < k → w3.2.1 k = w.2.1 k) ∧ w3.2.2 = w.2.2
theorem kHw.al {w : kZ} {g e lim : Int32} {st tl : Nat → Int32} {nl N : Nat} {ll : List Nat} {pre : kTb} {u : Int32} {a a' : kAl} {w2 w3 : kZ} (h : kHw w g e lim st tl nl N ll pre u a w2) (f : kAf w2 w3) (hA : kAr a' w3) : kHw w g e lim st tl nl N ll pre u a' w3 := by
  obtain ⟨⟨a1, a2, a3⟩, ⟨b1, b2, b3, b4, b5⟩, c, d, d2, -, k⟩ := h
  refine ⟨⟨(f.1 _ (by decide) (by decide)).trans a1, (f.1 _ (by decide) (by decide)).trans a2, (f.1 _ (by decide) (by decide)).trans a3⟩, ⟨(f.1 _ (by decide) (by decide)).trans b1, (f.1 _ (by decide) (by decide)).trans b2, (f.1 _ (by decide) (by decide)).trans b3, ?_, ?_⟩, ?_, ?_, ?_, hA, k.tr ⟨fun k9 h9 => f.1 k9 (by omega) (by omega), fun k9 h9 => f.2.1 k9 (by omega), f.2.2⟩⟩
  · rw [f.2.1 44 (by decide)]; exact b4
  · rw [f.2.1 45 (by decide)]; exact b5
  · exact c.f (f.1 _ (by decide) (by decide)) (fun k9 _ => by rw [f.2.1 46 (by decide), f.2.1 47 (by decide), f.2.1 48 (by decide), f.2.1 49 (by decide)]; exact ⟨rfl, rfl, rfl, rfl⟩)
  · rw [f.2.1 51 (by decide)]; exact d
  · rw [f.2.1 52 (by decide)]; exact d2
theorem s_X4_join {X : kX} {d : Nat} {c w m v : kZ} {E : kH} {l m0 : Nat} (hl : l < 9) (hm0 : m0 < 9) : WP X d 0 0 Y_X4_join 0 [(0, .ref (50)), (1, .int (nI (l))), (2, .int (nI (m0)))] [] (HP c w m v E) (kR none (HP c (setA w 55 (kjn (w.2.1 55) l m0)) m v E)) := by
  refine wp_aload_n 0 d_X4_join_0 rfl rfl ?_
  refine wp_getfield (v := .ref (55)) d_X4_join_1 gf_X4_24 (hp_50 _ _ _ _ _) rfl ?_
  refine wp_iload_n 1 d_X4_join_4 rfl rfl ?_
  refine wp_dup2 d_X4_join_5 rfl rfl ?_
  refine wp_iaload (v := (w.2.1 55) (l)) d_X4_join_6 (hp_55 _ _ _ _ _) (vp_in_nI (by omega) (by omega)) (congrArg ((w.2.1 55)) (nI_clamp (by omega))) ?_
  refine wp_iconst (v0 := 1) d_X4_join_7 rfl ?_
  refine wp_iload_n 2 d_X4_join_8 rfl rfl ?_
  refine wp_ishl d_X4_join_9 ?_
  refine wp_ior d_X4_join_10 ?_
  refine wp_iastore (h' := HP c (setA w 55 (upd (w.2.1 55) (l) (((w.2.1 55) (l)) ||| ((1) <<< ((nI (m0)) &&& 31))))) m v E) d_X4_join_11 (hp_55 _ _ _ _ _) (vp_in_nI (by omega) (by omega)) (by rw [nI_clamp (by omega)]; exact (hpa_55 _ _ _ _ _ _)) ?_
  refine wp_aload_n 0 d_X4_join_12 rfl rfl ?_
  refine wp_getfield (v := .ref (55)) d_X4_join_13 gf_X4_24 (hp_50 _ _ _ _ _) rfl ?_
  refine wp_iload_n 2 d_X4_join_16 rfl rfl ?_
  refine wp_dup2 d_X4_join_17 rfl rfl ?_
  refine wp_iaload (v := (upd (w.2.1 55) (l) (((w.2.1 55) (l)) ||| ((1) <<< ((nI (m0)) &&& 31)))) (m0)) d_X4_join_18 (hp_55 _ _ _ _ _) (vp_in_nI (by omega) (by omega)) (congrArg ((upd (w.2.1 55) (l) (((w.2.1 55) (l)) ||| ((1) <<< ((nI (m0)) &&& 31))))) (nI_clamp (by omega))) ?_
  refine wp_iconst (v0 := 1) d_X4_join_19 rfl ?_
  refine wp_iload_n 1 d_X4_join_20 rfl rfl ?_
  refine wp_ishl d_X4_join_21 ?_
  refine wp_ior d_X4_join_22 ?_
  refine wp_iastore (h' := HP c (setA (setA w 55 (upd (w.2.1 55) (l) (((w.2.1 55) (l)) ||| ((1) <<< ((nI (m0)) &&& 31))))) 55 (upd (upd (w.2.1 55) (l) (((w.2.1 55) (l)) ||| ((1) <<< ((nI (m0)) &&& 31)))) (m0) (((upd (w.2.1 55) (l) (((w.2.1 55) (l)) ||| ((1) <<< ((nI (m0)) &&& 31)))) (m0)) ||| ((1) <<< ((nI (l)) &&& 31))))) m v E) d_X4_join_23 (hp_55 _ _ _ _ _) (vp_in_nI (by omega) (by omega)) (by rw [nI_clamp (by omega)]; exact (hpa_55 _ _ _ _ _ _)) ?_
  refine wp_vret d_X4_join_24 rfl ?_
  exact ⟨rfl, by rw [setA_idem]; rfl⟩
theorem s_X4_see {X : kX} {d : Nat} {c w m v : kZ} {E : kH} {w0 : kZ} {g e lim : Int32} {st tl : Nat → Int32} {nl N : Nat} (hN : N ≤ 3) {ll : List Nat} {pre : kTb} {u : Int32} {a : kAl} (hp : pre.length = N) (hI : kHw w0 g e lim st tl nl N ll pre u a w) : WP X (d + 1) 0 0 Y_X5_see 0 [(0, .ref (42)), (1, .int (nI N))] [] (HP c w m v E) (fun r h1 => r = none ∧ ∃ w2 : kZ, h1 = HP c w2 m v E ∧ kHw w0 g e lim st tl nl N ll pre u a w2 ∧ w2.1 4210 = nI (N + 1) ∧ kabs (w2.2.1 46 (N + 1)) + kabs (w2.2.1 48 (N + 1)) = kW2 g e st tl pre ∧ w2.1 4205 = lim) := by
  refine wp_mono ?_ (s_X5_see (p := N) (by omega))
  rintro r h1 ⟨rfl, rfl⟩
  have hd := hI.2.1
  have hr := hI.2.2.1.pass (p := N) (by rw [List.length_map]; exact hp.symm) (w.1 4204) 0
  have hr2 : kRay (setS (kpass w N (w.1 4204) 0) 4210 (nI (N + 1))) (pre.map (kent2 st tl) ++ [(e, 0)]) := by
    have := hr.f (w' := setS (kpass w N (w.1 4204) 0) 4210 (nI (N + 1))) rfl (fun _ _ => ⟨rfl, rfl, rfl, rfl⟩)
    rw [hd.2.1] at this ⊢
    exact this
  have hf : kLf w (setS (kpass w N (w.1 4204) 0) 4210 (nI (N + 1))) := (kpass_f w N _ _).tr ⟨fun k9 h9 => upd_n _ _ h9, fun _ _ => rfl, rfl⟩
  have hs : kSeen (setS (kpass w N (w.1 4204) 0) 4210 (nI (N + 1))) g e lim (pre.map (kent2 st tl)) := ⟨(hd.f hf).1, (hd.f hf).2.2.1, hr2, by rw [List.length_map, hp]; rfl⟩
  refine ⟨rfl, _, rfl, hI.lf hf ?_, rfl, ?_, (hd.f hf).2.2.1⟩
  · have h9 := hr2.len (j := N)
    rw [List.take_append_of_le_length (by rw [List.length_map]; omega), List.take_of_length_le (by rw [List.length_map]; omega)] at h9
    exact h9
  · have hA := hs.a
    have hB := hs.b
    rw [List.length_map, hp] at hA hB
    rw [hA, hB]
    rfl
theorem s_X4_weigh {X : kX} {d : Nat} {c w m v : kZ} {E : kH} {w0 : kZ} {g e lim : Int32} {st tl : Nat → Int32} {nl N : Nat} (hnl : nl ≤ 9) (hN : N ≤ 3) {pre : kTb} {u : Int32} {a : kAl} (hp : pre.length = N) (hv : ∀ q ∈ pre, q.1 < nl) (hI : kHw w0 g e lim st tl nl N (pre.map Prod.fst) pre u a w) (wy : Int32) : WP X (d + 4) 0 0 Y_X4_weigh 0 [(0, .ref (50)), (1, .int (wy))] [] (HP c w m v E) (fun r h1 => r = none ∧ ∃ w1 : kZ, h1 = HP c w1 m v E ∧ kHw w0 g e lim st tl nl N (pre.map Prod.fst) pre u (kwg g e lim st tl N pre wy a) w1) := by
  refine wp_aload_n 0 d_X4_weigh_0 rfl rfl ?_
  refine wp_getfield (v := .ref (42)) d_X4_weigh_1 gf_X4_33 (hp_50 _ _ _ _ _) rfl ?_
  refine wp_aload_n 0 d_X4_weigh_4 rfl rfl ?_
  refine wp_getfield (v := .int (nI (N))) d_X4_weigh_5 gf_X4_50 (hp_50 _ _ _ _ _) (congrArg (fun z => some (Value.int z)) hI.1.2.1) ?_
  refine wp_virtual0 (As := [.int (nI (N))]) d_X4_weigh_8 lk_X4_80 mv_X5_see in_X5_see se_X5_see (Nat.le_of_ble_eq_true rfl) (Nat.le_of_ble_eq_true rfl) (hp_42 _ _ _ _ _) rfl (s_X4_see hN hp hI) (fun v8 h8 q8 => ?_)
  obtain ⟨rfl, w2, rfl, hI2, he2, hW2, hL2⟩ := q8
  obtain ⟨⟨i1, i2, i3⟩, -, -, j1, j2, ⟨k1, k2, k3, k4⟩, -⟩ := id hI2
  have hl0 := j1
  have hz0 : ∀ j (h : j < pre.length), w2.2.1 51 j = nI pre[j].1 := fun j h => by have := j1 j (by rw [List.length_map]; exact h); rw [this, List.getElem_map]
  show WP _ _ _ _ _ 11 _ [] (HP c w2 m v E) _
  refine wp_aload_n 0 d_X4_weigh_11 rfl rfl ?_
  refine wp_getfield (v := .ref (42)) d_X4_weigh_12 gf_X4_33 (hp_50 _ _ _ _ _) rfl ?_
  refine wp_vrt_i (As := []) (x0 := kW2 g e st tl pre) (h1 := HP c w2 m v E) d_X4_weigh_15 lk_X4_83 mv_X5_wrongSeen in_X5_wrongSeen se_X5_wrongSeen (Nat.le_of_ble_eq_true rfl) (Nat.le_of_ble_eq_true rfl) (hp_42 _ _ _ _ _) rfl (hW2 ▸ s_X5_wrongSeen (X := X) (c := c) (w := w2) (m := m) (v := v) (E := E) he2 (by omega)) ?_
  refine wp_istore_n [(2, .int (kW2 g e st tl pre)), (0, .ref (50)), (1, .int (wy))] d_X4_weigh_18 rfl (Nat.le_of_ble_eq_true rfl) rfl ?_
  refine wp_aload_n 1 d_X4_weigh_19 rfl rfl ?_
  refine wp_getfield (v := .ref (42)) d_X4_weigh_20 gf_X4_33 (hp_50 _ _ _ _ _) rfl ?_
  refine wp_vrt_i (As := []) (x0 := kb (kabs (w2.2.1 46 (N + 1)) + kabs (w2.2.1 48 (N + 1)) ≤ w2.1 4205)) (h1 := HP c w2 m v E) d_X4_weigh_23 lk_X4_87 mv_X5_isMended in_X5_isMended se_X5_isMended (Nat.le_of_ble_eq_true rfl) (Nat.le_of_ble_eq_true rfl) (hp_42 _ _ _ _ _) rfl (s_X5_isMended (w := w2) he2 (by omega)) ?_
  refine wp_ifb_eq 63 d_X4_weigh_26 rfl (fun zc26 => ?_) (fun zc26 => ?_)
  · have hM : ¬ kW2 g e st tl pre ≤ lim := by rw [hW2, hL2] at zc26; exact zc26
    refine wp_aload_n 1 d_X4_weigh_63 rfl rfl ?_
    refine wp_getfield (v := .int (a.1)) d_X4_weigh_64 gf_X4_56 (hp_50 _ _ _ _ _) (congrArg (fun z => some (Value.int z)) k1) ?_
    refine wp_iconst (v0 := -1) d_X4_weigh_67 rfl ?_
    refine wp_icmp_eq 79 d_X4_weigh_68 rfl (fun zc68 => ?_) (fun zc68 => ?_)
    · have hU : a.1 = -1 ∨ kW2 g e st tl pre < a.1 := by
        first
          | exact Or.inl zc68
          | exact Or.inr (Int32.not_le.mp zc76)
      refine wp_aload_n 1 d_X4_weigh_79 rfl rfl ?_
      refine wp_iload_n 0 d_X4_weigh_80 rfl rfl ?_
      refine wp_putfield (h' := HP c (setS w2 5008 (kW2 g e st tl pre)) m v E) d_X4_weigh_81 gp_X4_56 (kfit_i _) (hp_50 _ _ _ _ _) (Nat.le_of_ble_eq_true rfl) (hps_50_8 _ _ _ _ _ _) ?_
      refine wp_aload_n 1 d_X4_weigh_84 rfl rfl ?_
      refine wp_getfield (v := .ref (51)) d_X4_weigh_85 gf_X4_9 (hp_50 _ _ _ _ _) rfl ?_
      refine wp_iconst (v0 := 0) d_X4_weigh_88 rfl ?_
      refine wp_aload_n 1 d_X4_weigh_89 rfl rfl ?_
      refine wp_getfield (v := .ref (53)) d_X4_weigh_90 gf_X4_18 (hp_50 _ _ _ _ _) rfl ?_
      refine wp_iconst (v0 := 0) d_X4_weigh_93 rfl ?_
      refine wp_iconst (v0 := 3) d_X4_weigh_94 rfl ?_
      refine wp_arraycopy (h' := HP c (setA (setS w2 5008 (kW2 g e st tl pre)) 53 (va_cpy (w2.2.1 51) (w2.2.1 53) 0 0 3)) m v E) d_X4_weigh_95 ar_X4_94 ar_na ar_st ini_J10 (hp_51 _ _ _ _ _) (hp_53 _ _ _ _ _) (by decide) (by decide) (by decide) (by decide) (by decide) (Nat.le_of_ble_eq_true rfl) (hpa_53 _ _ _ _ _ _) ?_
      refine wp_aload_n 1 d_X4_weigh_98 rfl rfl ?_
      refine wp_getfield (v := .ref (52)) d_X4_weigh_99 gf_X4_15 (hp_50 _ _ _ _ _) rfl ?_
      refine wp_iconst (v0 := 0) d_X4_weigh_102 rfl ?_
      refine wp_aload_n 1 d_X4_weigh_103 rfl rfl ?_
      refine wp_getfield (v := .ref (54)) d_X4_weigh_104 gf_X4_21 (hp_50 _ _ _ _ _) rfl ?_
      refine wp_iconst (v0 := 0) d_X4_weigh_107 rfl ?_
      refine wp_iconst (v0 := 3) d_X4_weigh_108 rfl ?_
      refine wp_arraycopy (h' := HP c (setA (setA (setS w2 5008 (kW2 g e st tl pre)) 53 (va_cpy (w2.2.1 51) (w2.2.1 53) 0 0 3)) 54 (va_cpy (w2.2.1 52) (w2.2.1 54) 0 0 3)) m v E) d_X4_weigh_109 ar_X4_94 ar_na ar_st ini_J10 (hp_52 _ _ _ _ _) (hp_54 _ _ _ _ _) (by decide) (by decide) (by decide) (by decide) (by decide) (Nat.le_of_ble_eq_true rfl) (hpa_54 _ _ _ _ _ _) ?_
      refine wp_vret d_X4_weigh_112 rfl ?_
      have hK : kwg g e lim st tl N pre wy a = (kW2 g e st tl pre, pre, a.2.2.1, a.2.2.2) := by
        unfold kwg
        rw [if_pos hU, if_pos hU, if_neg hM, if_neg (fun q => hM q.1)]
      rw [hK]
      refine ⟨rfl, _, rfl, hI2.al ⟨fun k9 h9 h8 => ?_, fun k9 h9 => ?_, rfl⟩ ⟨?_, ?_, ?_, ?_⟩⟩
      · simp only [setS, setA]; repeat rw [upd_n _ _ (by assumption)]
      · simp only [setS, setA]; repeat rw [updA_n _ _ (by omega)]
      · rfl
      · exact k2
      · exact k3
      · intro j9 h9
        exact ⟨(k_cpy (n := 3) (by have : j9 < pre.length := h9; omega)).trans (hz0 j9 h9), (k_cpy (n := 3) (by have : j9 < pre.length := h9; omega)).trans (j2 j9 h9)⟩
    · refine wp_iload_n 0 d_X4_weigh_71 rfl rfl ?_
      refine wp_aload_n 1 d_X4_weigh_72 rfl rfl ?_
      refine wp_getfield (v := .int (a.1)) d_X4_weigh_73 gf_X4_56 (hp_50 _ _ _ _ _) (congrArg (fun z => some (Value.int z)) k1) ?_
      refine wp_icmp_ge 112 d_X4_weigh_76 rfl (fun zc76 => ?_) (fun zc76 => ?_)
      · have hU : ¬ (a.1 = -1 ∨ kW2 g e st tl pre < a.1) := fun q => q.elim zc68 (fun q => absurd zc76 (Int32.not_le.mpr q))
        refine wp_vret d_X4_weigh_112 rfl ?_
        have hK : kwg g e lim st tl N pre wy a = (a.1, a.2.1, a.2.2.1, a.2.2.2) := by
          unfold kwg
          rw [if_neg hU, if_neg hU, if_neg hM, if_neg (fun q => hM q.1)]
        rw [hK]
        refine ⟨rfl, _, rfl, hI2.al ⟨fun k9 h9 h8 => ?_, fun k9 h9 => ?_, rfl⟩ ⟨?_, ?_, ?_, ?_⟩⟩
        · rfl
        · rfl
        · exact k1
        · exact k2
        · exact k3
        · exact k4
      · have hU : a.1 = -1 ∨ kW2 g e st tl pre < a.1 := by
          first
            | exact Or.inl zc68
            | exact Or.inr (Int32.not_le.mp zc76)
        refine wp_aload_n 1 d_X4_weigh_79 rfl rfl ?_
        refine wp_iload_n 0 d_X4_weigh_80 rfl rfl ?_
        refine wp_putfield (h' := HP c (setS w2 5008 (kW2 g e st tl pre)) m v E) d_X4_weigh_81 gp_X4_56 (kfit_i _) (hp_50 _ _ _ _ _) (Nat.le_of_ble_eq_true rfl) (hps_50_8 _ _ _ _ _ _) ?_
        refine wp_aload_n 1 d_X4_weigh_84 rfl rfl ?_
        refine wp_getfield (v := .ref (51)) d_X4_weigh_85 gf_X4_9 (hp_50 _ _ _ _ _) rfl ?_
        refine wp_iconst (v0 := 0) d_X4_weigh_88 rfl ?_
        refine wp_aload_n 1 d_X4_weigh_89 rfl rfl ?_
        refine wp_getfield (v := .ref (53)) d_X4_weigh_90 gf_X4_18 (hp_50 _ _ _ _ _) rfl ?_
        refine wp_iconst (v0 := 0) d_X4_weigh_93 rfl ?_
        refine wp_iconst (v0 := 3) d_X4_weigh_94 rfl ?_
        refine wp_arraycopy (h' := HP c (setA (setS w2 5008 (kW2 g e st tl pre)) 53 (va_cpy (w2.2.1 51) (w2.2.1 53) 0 0 3)) m v E) d_X4_weigh_95 ar_X4_94 ar_na ar_st ini_J10 (hp_51 _ _ _ _ _) (hp_53 _ _ _ _ _) (by decide) (by decide) (by decide) (by decide) (by decide) (Nat.le_of_ble_eq_true rfl) (hpa_53 _ _ _ _ _ _) ?_
        refine wp_aload_n 1 d_X4_weigh_98 rfl rfl ?_
        refine wp_getfield (v := .ref (52)) d_X4_weigh_99 gf_X4_15 (hp_50 _ _ _ _ _) rfl ?_
        refine wp_iconst (v0 := 0) d_X4_weigh_102 rfl ?_
        refine wp_aload_n 1 d_X4_weigh_103 rfl rfl ?_
        refine wp_getfield (v := .ref (54)) d_X4_weigh_104 gf_X4_21 (hp_50 _ _ _ _ _) rfl ?_
        refine wp_iconst (v0 := 0) d_X4_weigh_107 rfl ?_
        refine wp_iconst (v0 := 3) d_X4_weigh_108 rfl ?_
        refine wp_arraycopy (h' := HP c (setA (setA (setS w2 5008 (kW2 g e st tl pre)) 53 (va_cpy (w2.2.1 51) (w2.2.1 53) 0 0 3)) 54 (va_cpy (w2.2.1 52) (w2.2.1 54) 0 0 3)) m v E) d_X4_weigh_109 ar_X4_94 ar_na ar_st ini_J10 (hp_52 _ _ _ _ _) (hp_54 _ _ _ _ _) (by decide) (by decide) (by decide) (by decide) (by decide) (Nat.le_of_ble_eq_true rfl) (hpa_54 _ _ _ _ _ _) ?_
        refine wp_vret d_X4_weigh_112 rfl ?_
        have hK : kwg g e lim st tl N pre wy a = (kW2 g e st tl pre, pre, a.2.2.1, a.2.2.2) := by
          unfold kwg
          rw [if_pos hU, if_pos hU, if_neg hM, if_neg (fun q => hM q.1)]
        rw [hK]
        refine ⟨rfl, _, rfl, hI2.al ⟨fun k9 h9 h8 => ?_, fun k9 h9 => ?_, rfl⟩ ⟨?_, ?_, ?_, ?_⟩⟩
        · simp only [setS, setA]; repeat rw [upd_n _ _ (by assumption)]
        · simp only [setS, setA]; repeat rw [updA_n _ _ (by omega)]
        · rfl
        · exact k2
        · exact k3
        · intro j9 h9
          exact ⟨(k_cpy (n := 3) (by have : j9 < pre.length := h9; omega)).trans (hz0 j9 h9), (k_cpy (n := 3) (by have : j9 < pre.length := h9; omega)).trans (j2 j9 h9)⟩
  · have hM : kW2 g e st tl pre ≤ lim := by rw [hW2, hL2] at zc26; exact zc26
    refine wp_aload_n 1 d_X4_weigh_29 rfl rfl ?_
    refine wp_dup d_X4_weigh_30 rfl ?_
    refine wp_getfield (v := .int ((w2.1 5009))) d_X4_weigh_31 gf_X4_59 (hp_50 _ _ _ _ _) rfl ?_
    refine wp_iload_n 2 d_X4_weigh_34 rfl rfl ?_
    refine wp_iadd d_X4_weigh_35 ?_
    refine wp_putfield (h' := HP c (setS w2 5009 (((w2.1 5009)) + (wy))) m v E) d_X4_weigh_36 gp_X4_59 (kfit_i _) (hp_50 _ _ _ _ _) (Nat.le_of_ble_eq_true rfl) (hps_50_9 _ _ _ _ _ _) ?_
    refine wp_aload_n 1 d_X4_weigh_39 rfl rfl ?_
    refine wp_getfield (v := .int (nI (N))) d_X4_weigh_40 gf_X4_50 (hp_50 _ _ _ _ _) (congrArg (fun z => some (Value.int z)) i2) ?_
    refine wp_iconst (v0 := 2) d_X4_weigh_43 rfl ?_
    refine wp_ncmp_ne (a := N) (b := 2) 63 d_X4_weigh_44 rfl (by omega) (by omega) (fun zc44 => ?_) (fun zc44 => ?_)
    · refine wp_aload_n 1 d_X4_weigh_63 rfl rfl ?_
      refine wp_getfield (v := .int (a.1)) d_X4_weigh_64 gf_X4_56 (hp_50 _ _ _ _ _) (congrArg (fun z => some (Value.int z)) k1) ?_
      refine wp_iconst (v0 := -1) d_X4_weigh_67 rfl ?_
      refine wp_icmp_eq 79 d_X4_weigh_68 rfl (fun zc68 => ?_) (fun zc68 => ?_)
      · have hU : a.1 = -1 ∨ kW2 g e st tl pre < a.1 := by
          first
            | exact Or.inl zc68
            | exact Or.inr (Int32.not_le.mp zc76)
        refine wp_aload_n 1 d_X4_weigh_79 rfl rfl ?_
        refine wp_iload_n 0 d_X4_weigh_80 rfl rfl ?_
        refine wp_putfield (h' := HP c (setS (setS w2 5009 (((w2.1 5009)) + (wy))) 5008 (kW2 g e st tl pre)) m v E) d_X4_weigh_81 gp_X4_56 (kfit_i _) (hp_50 _ _ _ _ _) (Nat.le_of_ble_eq_true rfl) (hps_50_8 _ _ _ _ _ _) ?_
        refine wp_aload_n 1 d_X4_weigh_84 rfl rfl ?_
        refine wp_getfield (v := .ref (51)) d_X4_weigh_85 gf_X4_9 (hp_50 _ _ _ _ _) rfl ?_
        refine wp_iconst (v0 := 0) d_X4_weigh_88 rfl ?_
        refine wp_aload_n 1 d_X4_weigh_89 rfl rfl ?_
        refine wp_getfield (v := .ref (53)) d_X4_weigh_90 gf_X4_18 (hp_50 _ _ _ _ _) rfl ?_
        refine wp_iconst (v0 := 0) d_X4_weigh_93 rfl ?_
        refine wp_iconst (v0 := 3) d_X4_weigh_94 rfl ?_
        refine wp_arraycopy (h' := HP c (setA (setS (setS w2 5009 (((w2.1 5009)) + (wy))) 5008 (kW2 g e st tl pre)) 53 (va_cpy (w2.2.1 51) (w2.2.1 53) 0 0 3)) m v E) d_X4_weigh_95 ar_X4_94 ar_na ar_st ini_J10 (hp_51 _ _ _ _ _) (hp_53 _ _ _ _ _) (by decide) (by decide) (by decide) (by decide) (by decide) (Nat.le_of_ble_eq_true rfl) (hpa_53 _ _ _ _ _ _) ?_
        refine wp_aload_n 1 d_X4_weigh_98 rfl rfl ?_
        refine wp_getfield (v := .ref (52)) d_X4_weigh_99 gf_X4_15 (hp_50 _ _ _ _ _) rfl ?_
        refine wp_iconst (v0 := 0) d_X4_weigh_102 rfl ?_
        refine wp_aload_n 1 d_X4_weigh_103 rfl rfl ?_
        refine wp_getfield (v := .ref (54)) d_X4_weigh_104 gf_X4_21 (hp_50 _ _ _ _ _) rfl ?_
        refine wp_iconst (v0 := 0) d_X4_weigh_107 rfl ?_
        refine wp_iconst (v0 := 3) d_X4_weigh_108 rfl ?_
        refine wp_arraycopy (h' := HP c (setA (setA (setS (setS w2 5009 (((w2.1 5009)) + (wy))) 5008 (kW2 g e st tl pre)) 53 (va_cpy (w2.2.1 51) (w2.2.1 53) 0 0 3)) 54 (va_cpy (w2.2.1 52) (w2.2.1 54) 0 0 3)) m v E) d_X4_weigh_109 ar_X4_94 ar_na ar_st ini_J10 (hp_52 _ _ _ _ _) (hp_54 _ _ _ _ _) (by decide) (by decide) (by decide) (by decide) (by decide) (Nat.le_of_ble_eq_true rfl) (hpa_54 _ _ _ _ _ _) ?_
        refine wp_vret d_X4_weigh_112 rfl ?_
        have hK : kwg g e lim st tl N pre wy a = (kW2 g e st tl pre, pre, a.2.2.1 + wy, a.2.2.2) := by
          unfold kwg
          rw [if_pos hU, if_pos hU, if_pos hM, if_neg (fun q => zc44 q.2)]
        rw [hK]
        refine ⟨rfl, _, rfl, hI2.al ⟨fun k9 h9 h8 => ?_, fun k9 h9 => ?_, rfl⟩ ⟨?_, ?_, ?_, ?_⟩⟩
        · simp only [setS, setA]; repeat rw [upd_n _ _ (by assumption)]
        · simp only [setS, setA]; repeat rw [updA_n _ _ (by omega)]
        · rfl
        · exact congrArg (· + wy) k2
        · exact k3
        · intro j9 h9
          exact ⟨(k_cpy (n := 3) (by have : j9 < pre.length := h9; omega)).trans (hz0 j9 h9), (k_cpy (n := 3) (by have : j9 < pre.length := h9; omega)).trans (j2 j9 h9)⟩
      · refine wp_iload_n 0 d_X4_weigh_71 rfl rfl ?_
        refine wp_aload_n 1 d_X4_weigh_72 rfl rfl ?_
        refine wp_getfield (v := .int (a.1)) d_X4_weigh_73 gf_X4_56 (hp_50 _ _ _ _ _) (congrArg (fun z => some (Value.int z)) k1) ?_
        refine wp_icmp_ge 112 d_X4_weigh_76 rfl (fun zc76 => ?_) (fun zc76 => ?_)
        · have hU : ¬ (a.1 = -1 ∨ kW2 g e st tl pre < a.1) := fun q => q.elim zc68 (fun q => absurd zc76 (Int32.not_le.mpr q))
          refine wp_vret d_X4_weigh_112 rfl ?_
          have hK : kwg g e lim st tl N pre wy a = (a.1, a.2.1, a.2.2.1 + wy, a.2.2.2) := by
            unfold kwg
            rw [if_neg hU, if_neg hU, if_pos hM, if_neg (fun q => zc44 q.2)]
          rw [hK]
          refine ⟨rfl, _, rfl, hI2.al ⟨fun k9 h9 h8 => ?_, fun k9 h9 => ?_, rfl⟩ ⟨?_, ?_, ?_, ?_⟩⟩
          · simp only [setS, setA]; repeat rw [upd_n _ _ (by assumption)]
          · rfl
          · exact k1
          · exact congrArg (· + wy) k2
          · exact k3
          · exact k4
        · have hU : a.1 = -1 ∨ kW2 g e st tl pre < a.1 := by
            first
              | exact Or.inl zc68
              | exact Or.inr (Int32.not_le.mp zc76)
          refine wp_aload_n 1 d_X4_weigh_79 rfl rfl ?_
          refine wp_iload_n 0 d_X4_weigh_80 rfl rfl ?_
          refine wp_putfield (h' := HP c (setS (setS w2 5009 (((w2.1 5009)) + (wy))) 5008 (kW2 g e st tl pre)) m v E) d_X4_weigh_81 gp_X4_56 (kfit_i _) (hp_50 _ _ _ _ _) (Nat.le_of_ble_eq_true rfl) (hps_50_8 _ _ _ _ _ _) ?_
          refine wp_aload_n 1 d_X4_weigh_84 rfl rfl ?_
          refine wp_getfield (v := .ref (51)) d_X4_weigh_85 gf_X4_9 (hp_50 _ _ _ _ _) rfl ?_
          refine wp_iconst (v0 := 0) d_X4_weigh_88 rfl ?_
          refine wp_aload_n 1 d_X4_weigh_89 rfl rfl ?_
          refine wp_getfield (v := .ref (53)) d_X4_weigh_90 gf_X4_18 (hp_50 _ _ _ _ _) rfl ?_
          refine wp_iconst (v0 := 0) d_X4_weigh_93 rfl ?_
          refine wp_iconst (v0 := 3) d_X4_weigh_94 rfl ?_
          refine wp_arraycopy (h' := HP c (setA (setS (setS w2 5009 (((w2.1 5009)) + (wy))) 5008 (kW2 g e st tl pre)) 53 (va_cpy (w2.2.1 51) (w2.2.1 53) 0 0 3)) m v E) d_X4_weigh_95 ar_X4_94 ar_na ar_st ini_J10 (hp_51 _ _ _ _ _) (hp_53 _ _ _ _ _) (by decide) (by decide) (by decide) (by decide) (by decide) (Nat.le_of_ble_eq_true rfl) (hpa_53 _ _ _ _ _ _) ?_
          refine wp_aload_n 1 d_X4_weigh_98 rfl rfl ?_
          refine wp_getfield (v := .ref (52)) d_X4_weigh_99 gf_X4_15 (hp_50 _ _ _ _ _) rfl ?_
          refine wp_iconst (v0 := 0) d_X4_weigh_102 rfl ?_
          refine wp_aload_n 1 d_X4_weigh_103 rfl rfl ?_
          refine wp_getfield (v := .ref (54)) d_X4_weigh_104 gf_X4_21 (hp_50 _ _ _ _ _) rfl ?_
          refine wp_iconst (v0 := 0) d_X4_weigh_107 rfl ?_
          refine wp_iconst (v0 := 3) d_X4_weigh_108 rfl ?_
          refine wp_arraycopy (h' := HP c (setA (setA (setS (setS w2 5009 (((w2.1 5009)) + (wy))) 5008 (kW2 g e st tl pre)) 53 (va_cpy (w2.2.1 51) (w2.2.1 53) 0 0 3)) 54 (va_cpy (w2.2.1 52) (w2.2.1 54) 0 0 3)) m v E) d_X4_weigh_109 ar_X4_94 ar_na ar_st ini_J10 (hp_52 _ _ _ _ _) (hp_54 _ _ _ _ _) (by decide) (by decide) (by decide) (by decide) (by decide) (Nat.le_of_ble_eq_true rfl) (hpa_54 _ _ _ _ _ _) ?_
          refine wp_vret d_X4_weigh_112 rfl ?_
          have hK : kwg g e lim st tl N pre wy a = (kW2 g e st tl pre, pre, a.2.2.1 + wy, a.2.2.2) := by
            unfold kwg
            rw [if_pos hU, if_pos hU, if_pos hM, if_neg (fun q => zc44 q.2)]
          rw [hK]
          refine ⟨rfl, _, rfl, hI2.al ⟨fun k9 h9 h8 => ?_, fun k9 h9 => ?_, rfl⟩ ⟨?_, ?_, ?_, ?_⟩⟩
          · simp only [setS, setA]; repeat rw [upd_n _ _ (by assumption)]
          · simp only [setS, setA]; repeat rw [updA_n _ _ (by omega)]
          · rfl
          · exact congrArg (· + wy) k2
          · exact k3
          · intro j9 h9
            exact ⟨(k_cpy (n := 3) (by have : j9 < pre.length := h9; omega)).trans (hz0 j9 h9), (k_cpy (n := 3) (by have : j9 < pre.length := h9; omega)).trans (j2 j9 h9)⟩
    · obtain ⟨⟨l0, t0⟩, ⟨l1, t1⟩, hpre⟩ := k_two (hp.trans zc44)
      have hg0 : w2.2.1 51 0 = nI ((pre.map Prod.fst).getD 0 0) := by rw [hz0 0 (by omega)]; subst hpre; rfl
      have hg1 : w2.2.1 51 1 = nI ((pre.map Prod.fst).getD 1 0) := by rw [hz0 1 (by omega)]; subst hpre; rfl
      have hq0 : (pre.map Prod.fst).getD 0 0 < 9 := by have := hv (l0, t0) (by rw [hpre]; simp); subst hpre; simp; omega
      have hq1 : (pre.map Prod.fst).getD 1 0 < 9 := by have := hv (l1, t1) (by rw [hpre]; simp); subst hpre; simp; omega
      refine wp_aload_n 1 d_X4_weigh_47 rfl rfl ?_
      refine wp_aload_n 1 d_X4_weigh_48 rfl rfl ?_
      refine wp_getfield (v := .ref (51)) d_X4_weigh_49 gf_X4_9 (hp_50 _ _ _ _ _) rfl ?_
      refine wp_iconst (v0 := 0) d_X4_weigh_52 rfl ?_
      refine wp_iaload (v := nI ((pre.map Prod.fst).getD 0 0)) d_X4_weigh_53 (hp_51 _ _ _ _ _) (kin rfl) hg0 ?_
      refine wp_aload_n 1 d_X4_weigh_54 rfl rfl ?_
      refine wp_getfield (v := .ref (51)) d_X4_weigh_55 gf_X4_9 (hp_50 _ _ _ _ _) rfl ?_
      refine wp_iconst (v0 := 1) d_X4_weigh_58 rfl ?_
      refine wp_iaload (v := nI ((pre.map Prod.fst).getD 1 0)) d_X4_weigh_59 (hp_51 _ _ _ _ _) (kin rfl) hg1 ?_
      refine wp_vrt_v (As := [.int (nI ((pre.map Prod.fst).getD 0 0)), .int (nI ((pre.map Prod.fst).getD 1 0))]) (h1 := HP c (setA (setS w2 5009 (((w2.1 5009)) + (wy))) 55 (kjn (w2.2.1 55) ((pre.map Prod.fst).getD 0 0) ((pre.map Prod.fst).getD 1 0))) m v E) d_X4_weigh_60 lk_X4_91 mv_X4_join in_X4_join se_X4_join (Nat.le_of_ble_eq_true rfl) (Nat.le_of_ble_eq_true rfl) (hp_50 _ _ _ _ _) rfl (s_X4_join (l := (pre.map Prod.fst).getD 0 0) (m0 := (pre.map Prod.fst).getD 1 0) hq0 hq1) ?_
      refine wp_aload_n 1 d_X4_weigh_63 rfl rfl ?_
      refine wp_getfield (v := .int (a.1)) d_X4_weigh_64 gf_X4_56 (hp_50 _ _ _ _ _) (congrArg (fun z => some (Value.int z)) k1) ?_
      refine wp_iconst (v0 := -1) d_X4_weigh_67 rfl ?_
      refine wp_icmp_eq 79 d_X4_weigh_68 rfl (fun zc68 => ?_) (fun zc68 => ?_)
      · have hU : a.1 = -1 ∨ kW2 g e st tl pre < a.1 := by
          first
            | exact Or.inl zc68
            | exact Or.inr (Int32.not_le.mp zc76)
        refine wp_aload_n 1 d_X4_weigh_79 rfl rfl ?_
        refine wp_iload_n 0 d_X4_weigh_80 rfl rfl ?_
        refine wp_putfield (h' := HP c (setS (setA (setS w2 5009 (((w2.1 5009)) + (wy))) 55 (kjn (w2.2.1 55) ((pre.map Prod.fst).getD 0 0) ((pre.map Prod.fst).getD 1 0))) 5008 (kW2 g e st tl pre)) m v E) d_X4_weigh_81 gp_X4_56 (kfit_i _) (hp_50 _ _ _ _ _) (Nat.le_of_ble_eq_true rfl) (hps_50_8 _ _ _ _ _ _) ?_
        refine wp_aload_n 1 d_X4_weigh_84 rfl rfl ?_
        refine wp_getfield (v := .ref (51)) d_X4_weigh_85 gf_X4_9 (hp_50 _ _ _ _ _) rfl ?_
        refine wp_iconst (v0 := 0) d_X4_weigh_88 rfl ?_
        refine wp_aload_n 1 d_X4_weigh_89 rfl rfl ?_
        refine wp_getfield (v := .ref (53)) d_X4_weigh_90 gf_X4_18 (hp_50 _ _ _ _ _) rfl ?_
        refine wp_iconst (v0 := 0) d_X4_weigh_93 rfl ?_
        refine wp_iconst (v0 := 3) d_X4_weigh_94 rfl ?_
        refine wp_arraycopy (h' := HP c (setA (setS (setA (setS w2 5009 (((w2.1 5009)) + (wy))) 55 (kjn (w2.2.1 55) ((pre.map Prod.fst).getD 0 0) ((pre.map Prod.fst).getD 1 0))) 5008 (kW2 g e st tl pre)) 53 (va_cpy (w2.2.1 51) (w2.2.1 53) 0 0 3)) m v E) d_X4_weigh_95 ar_X4_94 ar_na ar_st ini_J10 (hp_51 _ _ _ _ _) (hp_53 _ _ _ _ _) (by decide) (by decide) (by decide) (by decide) (by decide) (Nat.le_of_ble_eq_true rfl) (hpa_53 _ _ _ _ _ _) ?_
        refine wp_aload_n 1 d_X4_weigh_98 rfl rfl ?_
        refine wp_getfield (v := .ref (52)) d_X4_weigh_99 gf_X4_15 (hp_50 _ _ _ _ _) rfl ?_
        refine wp_iconst (v0 := 0) d_X4_weigh_102 rfl ?_
        refine wp_aload_n 1 d_X4_weigh_103 rfl rfl ?_
        refine wp_getfield (v := .ref (54)) d_X4_weigh_104 gf_X4_21 (hp_50 _ _ _ _ _) rfl ?_
        refine wp_iconst (v0 := 0) d_X4_weigh_107 rfl ?_
        refine wp_iconst (v0 := 3) d_X4_weigh_108 rfl ?_
        refine wp_arraycopy (h' := HP c (setA (setA (setS (setA (setS w2 5009 (((w2.1 5009)) + (wy))) 55 (kjn (w2.2.1 55) ((pre.map Prod.fst).getD 0 0) ((pre.map Prod.fst).getD 1 0))) 5008 (kW2 g e st tl pre)) 53 (va_cpy (w2.2.1 51) (w2.2.1 53) 0 0 3)) 54 (va_cpy (w2.2.1 52) (w2.2.1 54) 0 0 3)) m v E) d_X4_weigh_109 ar_X4_94 ar_na ar_st ini_J10 (hp_52 _ _ _ _ _) (hp_54 _ _ _ _ _) (by decide) (by decide) (by decide) (by decide) (by decide) (Nat.le_of_ble_eq_true rfl) (hpa_54 _ _ _ _ _ _) ?_
        refine wp_vret d_X4_weigh_112 rfl ?_
        have hK : kwg g e lim st tl N pre wy a = (kW2 g e st tl pre, pre, a.2.2.1 + wy, kjn a.2.2.2 ((pre.map Prod.fst).getD 0 0) ((pre.map Prod.fst).getD 1 0)) := by
          unfold kwg
          rw [if_pos hU, if_pos hU, if_pos hM, if_pos ⟨hM, zc44⟩]
        rw [hK]
        refine ⟨rfl, _, rfl, hI2.al ⟨fun k9 h9 h8 => ?_, fun k9 h9 => ?_, rfl⟩ ⟨?_, ?_, ?_, ?_⟩⟩
        · simp only [setS, setA]; repeat rw [upd_n _ _ (by assumption)]
        · simp only [setS, setA]; repeat rw [updA_n _ _ (by omega)]
        · rfl
        · exact congrArg (· + wy) k2
        · exact congrArg (fun z => kjn z ((pre.map Prod.fst).getD 0 0) ((pre.map Prod.fst).getD 1 0)) k3
        · intro j9 h9
          exact ⟨(k_cpy (n := 3) (by have : j9 < pre.length := h9; omega)).trans (hz0 j9 h9), (k_cpy (n := 3) (by have : j9 < pre.length := h9; omega)).trans (j2 j9 h9)⟩
      · refine wp_iload_n 0 d_X4_weigh_71 rfl rfl ?_
        refine wp_aload_n 1 d_X4_weigh_72 rfl rfl ?_
        refine wp_getfield (v := .int (a.1)) d_X4_weigh_73 gf_X4_56 (hp_50 _ _ _ _ _) (congrArg (fun z => some (Value.int z)) k1) ?_
        refine wp_icmp_ge 112 d_X4_weigh_76 rfl (fun zc76 => ?_) (fun zc76 => ?_)
        · have hU : ¬ (a.1 = -1 ∨ kW2 g e st tl pre < a.1) := fun q => q.elim zc68 (fun q => absurd zc76 (Int32.not_le.mpr q))
          refine wp_vret d_X4_weigh_112 rfl ?_
          have hK : kwg g e lim st tl N pre wy a = (a.1, a.2.1, a.2.2.1 + wy, kjn a.2.2.2 ((pre.map Prod.fst).getD 0 0) ((pre.map Prod.fst).getD 1 0)) := by
            unfold kwg
            rw [if_neg hU, if_neg hU, if_pos hM, if_pos ⟨hM, zc44⟩]
          rw [hK]
          refine ⟨rfl, _, rfl, hI2.al ⟨fun k9 h9 h8 => ?_, fun k9 h9 => ?_, rfl⟩ ⟨?_, ?_, ?_, ?_⟩⟩
          · simp only [setS, setA]; repeat rw [upd_n _ _ (by assumption)]
          · simp only [setS, setA]; repeat rw [updA_n _ _ (by omega)]
          · exact k1
          · exact congrArg (· + wy) k2
          · exact congrArg (fun z => kjn z ((pre.map Prod.fst).getD 0 0) ((pre.map Prod.fst).getD 1 0)) k3
          · exact k4
        · have hU : a.1 = -1 ∨ kW2 g e st tl pre < a.1 := by
            first
              | exact Or.inl zc68
              | exact Or.inr (Int32.not_le.mp zc76)
          refine wp_aload_n 1 d_X4_weigh_79 rfl rfl ?_
          refine wp_iload_n 0 d_X4_weigh_80 rfl rfl ?_
          refine wp_putfield (h' := HP c (setS (setA (setS w2 5009 (((w2.1 5009)) + (wy))) 55 (kjn (w2.2.1 55) ((pre.map Prod.fst).getD 0 0) ((pre.map Prod.fst).getD 1 0))) 5008 (kW2 g e st tl pre)) m v E) d_X4_weigh_81 gp_X4_56 (kfit_i _) (hp_50 _ _ _ _ _) (Nat.le_of_ble_eq_true rfl) (hps_50_8 _ _ _ _ _ _) ?_
          refine wp_aload_n 1 d_X4_weigh_84 rfl rfl ?_
          refine wp_getfield (v := .ref (51)) d_X4_weigh_85 gf_X4_9 (hp_50 _ _ _ _ _) rfl ?_
          refine wp_iconst (v0 := 0) d_X4_weigh_88 rfl ?_
          refine wp_aload_n 1 d_X4_weigh_89 rfl rfl ?_
          refine wp_getfield (v := .ref (53)) d_X4_weigh_90 gf_X4_18 (hp_50 _ _ _ _ _) rfl ?_
          refine wp_iconst (v0 := 0) d_X4_weigh_93 rfl ?_
          refine wp_iconst (v0 := 3) d_X4_weigh_94 rfl ?_
          refine wp_arraycopy (h' := HP c (setA (setS (setA (setS w2 5009 (((w2.1 5009)) + (wy))) 55 (kjn (w2.2.1 55) ((pre.map Prod.fst).getD 0 0) ((pre.map Prod.fst).getD 1 0))) 5008 (kW2 g e st tl pre)) 53 (va_cpy (w2.2.1 51) (w2.2.1 53) 0 0 3)) m v E) d_X4_weigh_95 ar_X4_94 ar_na ar_st ini_J10 (hp_51 _ _ _ _ _) (hp_53 _ _ _ _ _) (by decide) (by decide) (by decide) (by decide) (by decide) (Nat.le_of_ble_eq_true rfl) (hpa_53 _ _ _ _ _ _) ?_
          refine wp_aload_n 1 d_X4_weigh_98 rfl rfl ?_
          refine wp_getfield (v := .ref (52)) d_X4_weigh_99 gf_X4_15 (hp_50 _ _ _ _ _) rfl ?_
          refine wp_iconst (v0 := 0) d_X4_weigh_102 rfl ?_
          refine wp_aload_n 1 d_X4_weigh_103 rfl rfl ?_
          refine wp_getfield (v := .ref (54)) d_X4_weigh_104 gf_X4_21 (hp_50 _ _ _ _ _) rfl ?_
          refine wp_iconst (v0 := 0) d_X4_weigh_107 rfl ?_
          refine wp_iconst (v0 := 3) d_X4_weigh_108 rfl ?_
          refine wp_arraycopy (h' := HP c (setA (setA (setS (setA (setS w2 5009 (((w2.1 5009)) + (wy))) 55 (kjn (w2.2.1 55) ((pre.map Prod.fst).getD 0 0) ((pre.map Prod.fst).getD 1 0))) 5008 (kW2 g e st tl pre)) 53 (va_cpy (w2.2.1 51) (w2.2.1 53) 0 0 3)) 54 (va_cpy (w2.2.1 52) (w2.2.1 54) 0 0 3)) m v E) d_X4_weigh_109 ar_X4_94 ar_na ar_st ini_J10 (hp_52 _ _ _ _ _) (hp_54 _ _ _ _ _) (by decide) (by decide) (by decide) (by decide) (by decide) (Nat.le_of_ble_eq_true rfl) (hpa_54 _ _ _ _ _ _) ?_
          refine wp_vret d_X4_weigh_112 rfl ?_
          have hK : kwg g e lim st tl N pre wy a = (kW2 g e st tl pre, pre, a.2.2.1 + wy, kjn a.2.2.2 ((pre.map Prod.fst).getD 0 0) ((pre.map Prod.fst).getD 1 0)) := by
            unfold kwg
            rw [if_pos hU, if_pos hU, if_pos hM, if_pos ⟨hM, zc44⟩]
          rw [hK]
          refine ⟨rfl, _, rfl, hI2.al ⟨fun k9 h9 h8 => ?_, fun k9 h9 => ?_, rfl⟩ ⟨?_, ?_, ?_, ?_⟩⟩
          · simp only [setS, setA]; repeat rw [upd_n _ _ (by assumption)]
          · simp only [setS, setA]; repeat rw [updA_n _ _ (by omega)]
          · rfl
          · exact congrArg (· + wy) k2
          · exact congrArg (fun z => kjn z ((pre.map Prod.fst).getD 0 0) ((pre.map Prod.fst).getD 1 0)) k3
          · intro j9 h9
            exact ⟨(k_cpy (n := 3) (by have : j9 < pre.length := h9; omega)).trans (hz0 j9 h9), (k_cpy (n := 3) (by have : j9 < pre.length := h9; omega)).trans (j2 j9 h9)⟩
theorem kfs {α : Type} (f : α → Nat → α) (a : α) (s k : Nat) : (List.range' s (k + 1)).foldl f a = (List.range' (s + 1) k).foldl f (f a s) := by rw [List.range'_succ, List.foldl_cons]
def wfc (t : Nat) (wy : Int32) : Int32 := if t = 1 then 2 * wy else wy
theorem kHw.enter {w : kZ} {g e lim : Int32} {st tl : Nat → Int32} {nl N : Nat} {pre : kTb} {u : Int32} {a : kAl} {w' : kZ} (h : kHw w g e lim st tl nl N (pre.map Prod.fst) pre u a w') (l : Nat) : kHw w g e lim st tl nl N (pre.map Prod.fst ++ [l]) pre (u ||| kbit l) a (setA (setS w' 5003 (u ||| kbit l)) 51 (upd (w'.2.1 51) pre.length (nI l))) := by
  obtain ⟨⟨a1, a2, a3⟩, b, r, c, d, e1, k⟩ := h
  refine ⟨⟨a1, a2, rfl⟩, b, r, ?_, d, e1, k.tr ⟨fun k9 h9 => upd_n _ _ (by omega), fun k9 h9 => updA_n _ _ (by omega), rfl⟩⟩
  intro j hj
  show upd (w'.2.1 51) pre.length (nI l) j = _
  by_cases q : j = pre.length
  · subst q
    rw [upd_s, List.getElem_append_right (by simp)]
    simp
  · rw [List.length_append, List.length_map] at hj
    simp only [List.length_cons, List.length_nil] at hj
    rw [upd_n _ _ q, List.getElem_append_left (by rw [List.length_map]; omega)]
    exact c j (by rw [List.length_map]; omega)
theorem kHw.leave {w : kZ} {g e lim : Int32} {st tl : Nat → Int32} {nl N : Nat} {pre : kTb} {u u' : Int32} {a : kAl} {w2 : kZ} {l : Nat} (h : kHw w g e lim st tl nl N (pre.map Prod.fst ++ [l]) pre u' a w2) : kHw w g e lim st tl nl N (pre.map Prod.fst) pre u a (setS w2 5003 u) := by
  obtain ⟨⟨a1, a2, a3⟩, b, r, c, d, e1, k⟩ := h
  refine ⟨⟨a1, a2, rfl⟩, b, r, ?_, d, e1, k.tr ⟨fun k9 h9 => upd_n _ _ (by omega), fun _ _ => rfl, rfl⟩⟩
  intro j hj
  have := c j (by rw [List.length_append]; omega)
  rw [List.getElem_append_left hj] at this
  exact this
theorem kHw.push {w : kZ} {g e lim : Int32} {st tl : Nat → Int32} {nl N : Nat} {pre : kTb} {u : Int32} {a : kAl} {w' : kZ} {l t p : Nat} (hp : pre.length = p) (hl : l < nl) (hnl : nl ≤ 9) (h : kHw w g e lim st tl nl N (pre.map Prod.fst ++ [l]) pre u a w') : kHw w g e lim st tl nl N ((pre ++ [(l, t)]).map Prod.fst) (pre ++ [(l, t)]) u a (kpass (setA w' 52 (upd (w'.2.1 52) p (nI t))) p ((setA w' 52 (upd (w'.2.1 52) p (nI t))).2.1 44 l) (kpush ((setA w' 52 (upd (w'.2.1 52) p (nI t))).2.1 45 l) (nI t))) := by
  subst hp
  obtain ⟨⟨a1, a2, a3⟩, b, r, c, d, ⟨e1, e2, e3, e4⟩, k⟩ := h
  have f0 : ∀ k, k < 46 ∨ 49 < k → k ≠ 52 → (kpass (setA w' 52 (upd (w'.2.1 52) pre.length (nI t))) pre.length ((setA w' 52 (upd (w'.2.1 52) pre.length (nI t))).2.1 44 l) (kpush ((setA w' 52 (upd (w'.2.1 52) pre.length (nI t))).2.1 45 l) (nI t))).2.1 k = w'.2.1 k := fun k h1 h2 => ((kpass_f _ _ _ _).2.1 k h1).trans (updA_n _ _ h2)
  have g1 : (setA w' 52 (upd (w'.2.1 52) pre.length (nI t))).2.1 44 l = st l := b.2.2.2.1 l hl
  have g2 : (setA w' 52 (upd (w'.2.1 52) pre.length (nI t))).2.1 45 l = tl l := b.2.2.2.2 l (by omega)
  have r1 : kRay (setA w' 52 (upd (w'.2.1 52) pre.length (nI t))) (pre.map (kent2 st tl)) := r.f rfl (fun _ _ => ⟨rfl, rfl, rfl, rfl⟩)
  have r2 := r1.pass (p := pre.length) (by rw [List.length_map]) (st l) (kpush (tl l) (nI t))
  refine ⟨⟨a1, a2, a3⟩, ⟨b.1, b.2.1, b.2.2.1, ?_, ?_⟩, ?_, ?_, ?_, ⟨e1, e2, ?_, ?_⟩, k.tr ⟨fun _ _ => rfl, fun k9 h9 => f0 k9 (by omega) (by omega), rfl⟩⟩
  · rw [f0 44 (by decide) (by decide)]; exact b.2.2.2.1
  · rw [f0 45 (by decide) (by decide)]; exact b.2.2.2.2
  · rw [g1, g2, List.map_append]; exact r2
  · rw [f0 51 (by decide) (by decide), List.map_append]; exact c
  · intro j hj
    have e9 : (kpass (setA w' 52 (upd (w'.2.1 52) pre.length (nI t))) pre.length ((setA w' 52 (upd (w'.2.1 52) pre.length (nI t))).2.1 44 l) (kpush ((setA w' 52 (upd (w'.2.1 52) pre.length (nI t))).2.1 45 l) (nI t))).2.1 52 = upd (w'.2.1 52) pre.length (nI t) := ((kpass_f _ _ _ _).2.1 52 (by decide)).trans rfl
    rw [e9]
    by_cases q : j = pre.length
    · subst q
      rw [upd_s, List.getElem_append_right (by simp)]
      simp
    · rw [List.length_append] at hj
      simp only [List.length_cons, List.length_nil] at hj
      rw [upd_n _ _ q, List.getElem_append_left (by omega)]
      exact d j (by omega)
  · rw [f0 55 (by decide) (by decide)]; exact e3
  · rw [f0 53 (by decide) (by decide), f0 54 (by decide) (by decide)]; exact e4
theorem kHw.pop {w : kZ} {g e lim : Int32} {st tl : Nat → Int32} {nl N : Nat} {pre : kTb} {u : Int32} {a : kAl} {w1 : kZ} {l t : Nat} (h : kHw w g e lim st tl nl N ((pre ++ [(l, t)]).map Prod.fst) (pre ++ [(l, t)]) u a w1) : kHw w g e lim st tl nl N (pre.map Prod.fst ++ [l]) pre u a w1 := by
  obtain ⟨a1, b, r, c, d, e1, k⟩ := h
  refine ⟨a1, b, ?_, ?_, ?_, e1, k⟩
  · rw [List.map_append] at r
    have := r.len (j := pre.length)
    rw [List.take_append_of_le_length (by simp), List.take_of_length_le (by simp)] at this
    exact this
  · rw [List.map_append] at c
    exact c
  · intro j hj
    have := d j (by rw [List.length_append]; omega)
    rw [List.getElem_append_left hj] at this
    exact this
theorem s_X4_walk_t {X : kX} {d : Nat} {c w m v : kZ} {E : kH} {w0 : kZ} {g e lim : Int32} {st tl : Nat → Int32} {nl N : Nat} (hnl : nl ≤ 9) (hN : N ≤ 3) {kk : Nat} (IH : ∀ (pre : kTb) (p : Nat) (u wy : Int32) (a : kAl) (w' : kZ), pre.length = p → p + kk = N → (∀ q ∈ pre, q.1 < nl) → kHw w0 g e lim st tl nl N (pre.map Prod.fst) pre u a w' → WP X (d + kk + 6) 0 0 Y_X4_walk 0 [(0, .ref 50), (1, .int (nI p)), (2, .int wy)] [] (HP c w' m v E) (fun r h1 => r = none ∧ ∃ w1 : kZ, h1 = HP c w1 m v E ∧ kHw w0 g e lim st tl nl N (pre.map Prod.fst) pre u (tfw (kwg g e lim st tl N) nl 3 wfc kk pre u wy a) w1)) {pre : kTb} {p : Nat} {u : Int32} (hp : pre.length = p) (hpk : p + (kk + 1) = N) (hv : ∀ q ∈ pre, q.1 < nl) (wy : Int32) {l : Nat} (hl : l < nl) {A : kAl} {Q : Option Value → kH → Prop} (K : ∀ w2 : kZ, kHw w0 g e lim st tl nl N (pre.map Prod.fst ++ [l]) pre (u ||| kbit l) A w2 → WP X (d + kk + 7) 0 0 Y_X4_walk 112 [(3, .int (nI l)), (0, .ref 50), (1, .int (nI p)), (2, .int wy)] [] (HP c w2 m v E) Q) : ∀ (k : Nat) (t : Nat) (w' : kZ) (a : kAl), (t + k = 3) → (kHw w0 g e lim st tl nl N (pre.map Prod.fst ++ [l]) pre (u ||| kbit l) a w') → ((List.range' t k).foldl (fun a t => tfw (kwg g e lim st tl N) nl 3 wfc kk (pre ++ [(l, t)]) (u ||| kbit l) (wfc t wy) a) a = A) → WP X (d + kk + 7) 0 0 Y_X4_walk 61 [(4, .int (nI (t))), (3, .int (nI (l))), (0, .ref (50)), (1, .int (nI (p))), (2, .int (wy))] [] (HP c w' m v E) Q := by
  intro k
  induction k using Nat.strongRecOn with
  | ind k ih =>
    intro t w' a ht hI hA
    refine wp_iload 0 d_X4_walk_61 rfl ?_
    refine wp_iconst (v0 := 3) d_X4_walk_63 rfl ?_
    refine wp_ncmp_ge (a := t) (b := 3) 112 d_X4_walk_64 rfl (by omega) (by omega) (fun zc64 => ?_) (fun zc64 => ?_)
    · obtain rfl : k = 0 := by omega
      obtain rfl : a = A := hA
      refine wp_sub [(3, .int (nI l)), (0, .ref 50), (1, .int (nI p)), (2, .int wy)] [1, 2, 3, 4] rfl ?_
      exact K w' hI
    · refine wp_aload_n 2 d_X4_walk_67 rfl rfl ?_
      refine wp_getfield (v := .ref (52)) d_X4_walk_68 gf_X4_15 (hp_50 _ _ _ _ _) rfl ?_
      refine wp_iload_n 3 d_X4_walk_71 rfl rfl ?_
      refine wp_iload 0 d_X4_walk_72 rfl ?_
      refine wp_iastore (h' := HP c (setA w' 52 (upd (w'.2.1 52) (p) (nI (t)))) m v E) d_X4_walk_74 (hp_52 _ _ _ _ _) (vp_in_nI (by omega) (by omega)) (by rw [nI_clamp (by omega)]; exact (hpa_52 _ _ _ _ _ _)) ?_
      refine wp_aload_n 2 d_X4_walk_75 rfl rfl ?_
      refine wp_getfield (v := .ref (42)) d_X4_walk_76 gf_X4_33 (hp_50 _ _ _ _ _) rfl ?_
      refine wp_iload_n 3 d_X4_walk_79 rfl rfl ?_
      refine wp_iload_n 1 d_X4_walk_80 rfl rfl ?_
      refine wp_iload 0 d_X4_walk_81 rfl ?_
      refine wp_vrt_v (As := [.int (nI (p)), .int (nI (l)), .int (nI (t))]) (h1 := HP c (kpass (setA w' 52 (upd (w'.2.1 52) (p) (nI (t)))) p ((setA w' 52 (upd (w'.2.1 52) (p) (nI (t)))).2.1 44 l) (kpush ((setA w' 52 (upd (w'.2.1 52) (p) (nI (t)))).2.1 45 l) (nI (t)))) m v E) d_X4_walk_83 lk_X4_76 mv_X5_put in_X5_put se_X5_put (Nat.le_of_ble_eq_true rfl) (Nat.le_of_ble_eq_true rfl) (hp_42 _ _ _ _ _) rfl (s_X5_put (w := (setA w' 52 (upd (w'.2.1 52) (p) (nI (t))))) (p := p) (l := l) (by omega) (by omega) (nI (t))) ?_
      refine wp_aload_n 2 d_X4_walk_86 rfl rfl ?_
      refine wp_iload_n 3 d_X4_walk_87 rfl rfl ?_
      refine wp_iconst (v0 := 1) d_X4_walk_88 rfl ?_
      refine wp_iadd d_X4_walk_89 ?_
      refine wp_v (v0 := nI ((p) + (1))) (nI_add (p) (1)) ?_
      refine wp_iload 0 d_X4_walk_90 rfl ?_
      refine wp_iconst (v0 := 1) d_X4_walk_92 rfl ?_
      refine wp_ncmp_ne (a := t) (b := 1) 102 d_X4_walk_93 rfl (by omega) (by omega) (fun zc93 => ?_) (fun zc93 => ?_)
      · refine wp_iload_n 4 d_X4_walk_102 rfl rfl ?_
        refine wp_virtual0 (As := [.int (nI ((p) + (1))), .int (wy)]) d_X4_walk_103 lk_X4_68 mv_X4_walk in_X4_walk se_X4_walk (Nat.le_of_ble_eq_true rfl) (Nat.le_of_ble_eq_true rfl) (hp_50 _ _ _ _ _) rfl (IH (pre ++ [(l, t)]) (p + 1) (u ||| kbit l) (wy) a _ (by rw [List.length_append]; simp only [List.length_cons, List.length_nil]; omega) (by omega) (by intro q9 h9; rw [List.mem_append, List.mem_singleton] at h9; rcases h9 with h9 | h9; exact hv q9 h9; rw [h9]; exact hl) (hI.push (t := t) hp hl hnl)) (fun v103 h103 q103 => ?_)
        obtain ⟨rfl, w2, rfl, hI2⟩ := q103
        show WP _ _ _ _ _ 106 _ [] (HP c w2 m v E) _
        refine wp_iinc (v0 := nI ((t) + 1)) [(4, .int (nI ((t) + 1))), (3, .int (nI (l))), (0, .ref (50)), (1, .int (nI (p))), (2, .int (wy))] 0 d_X4_walk_106 rfl (nI_add (t) 1) (Nat.le_of_ble_eq_true rfl) rfl ?_
        refine wp_goto 61 d_X4_walk_109 rfl ?_
        obtain ⟨k1, rfl⟩ : ∃ k1, k = k1 + 1 := ⟨k - 1, by omega⟩
        refine wp_sub [(4, .int (nI ((t) + 1))), (3, .int (nI (l))), (0, .ref (50)), (1, .int (nI (p))), (2, .int (wy))] [0, 1, 2, 3, 4] rfl ?_
        rw [kfs] at hA
        have eF : wfc t wy = wy := by unfold wfc; exact if_neg zc93
        rw [eF] at hA
        exact ih k1 (by omega) (t + 1) w2 _ (by omega) hI2.pop hA
      · refine wp_iconst (v0 := 2) d_X4_walk_96 rfl ?_
        refine wp_iload_n 4 d_X4_walk_97 rfl rfl ?_
        refine wp_imul d_X4_walk_98 ?_
        refine wp_goto 103 d_X4_walk_99 rfl ?_
        refine wp_virtual0 (As := [.int (nI ((p) + (1))), .int ((2) * (wy))]) d_X4_walk_103 lk_X4_68 mv_X4_walk in_X4_walk se_X4_walk (Nat.le_of_ble_eq_true rfl) (Nat.le_of_ble_eq_true rfl) (hp_50 _ _ _ _ _) rfl (IH (pre ++ [(l, t)]) (p + 1) (u ||| kbit l) ((2) * (wy)) a _ (by rw [List.length_append]; simp only [List.length_cons, List.length_nil]; omega) (by omega) (by intro q9 h9; rw [List.mem_append, List.mem_singleton] at h9; rcases h9 with h9 | h9; exact hv q9 h9; rw [h9]; exact hl) (hI.push (t := t) hp hl hnl)) (fun v103 h103 q103 => ?_)
        obtain ⟨rfl, w2, rfl, hI2⟩ := q103
        show WP _ _ _ _ _ 106 _ [] (HP c w2 m v E) _
        refine wp_iinc (v0 := nI ((t) + 1)) [(4, .int (nI ((t) + 1))), (3, .int (nI (l))), (0, .ref (50)), (1, .int (nI (p))), (2, .int (wy))] 0 d_X4_walk_106 rfl (nI_add (t) 1) (Nat.le_of_ble_eq_true rfl) rfl ?_
        refine wp_goto 61 d_X4_walk_109 rfl ?_
        obtain ⟨k1, rfl⟩ : ∃ k1, k = k1 + 1 := ⟨k - 1, by omega⟩
        refine wp_sub [(4, .int (nI ((t) + 1))), (3, .int (nI (l))), (0, .ref (50)), (1, .int (nI (p))), (2, .int (wy))] [0, 1, 2, 3, 4] rfl ?_
        rw [kfs] at hA
        have eF : wfc t wy = 2 * wy := by unfold wfc; exact if_pos zc93
        rw [eF] at hA
        exact ih k1 (by omega) (t + 1) w2 _ (by omega) hI2.pop hA
theorem s_X4_walk_l {X : kX} {d : Nat} {c w m v : kZ} {E : kH} {w0 : kZ} {g e lim : Int32} {st tl : Nat → Int32} {nl N : Nat} (hnl : nl ≤ 9) (hN : N ≤ 3) {kk : Nat} (IH : ∀ (pre : kTb) (p : Nat) (u wy : Int32) (a : kAl) (w' : kZ), pre.length = p → p + kk = N → (∀ q ∈ pre, q.1 < nl) → kHw w0 g e lim st tl nl N (pre.map Prod.fst) pre u a w' → WP X (d + kk + 6) 0 0 Y_X4_walk 0 [(0, .ref 50), (1, .int (nI p)), (2, .int wy)] [] (HP c w' m v E) (fun r h1 => r = none ∧ ∃ w1 : kZ, h1 = HP c w1 m v E ∧ kHw w0 g e lim st tl nl N (pre.map Prod.fst) pre u (tfw (kwg g e lim st tl N) nl 3 wfc kk pre u wy a) w1)) {pre : kTb} {p : Nat} {u : Int32} (hp : pre.length = p) (hpk : p + (kk + 1) = N) (hv : ∀ q ∈ pre, q.1 < nl) (wy : Int32) {A : kAl} : ∀ (k : Nat) (l : Nat) (w' : kZ) (a : kAl), (l + k = nl) → (kHw w0 g e lim st tl nl N (pre.map Prod.fst) pre u a w') → ((List.range' l k).foldl (fun a l => if u >>> (nI l &&& 31) &&& 1 = 1 then a else (List.range' 0 3).foldl (fun a t => tfw (kwg g e lim st tl N) nl 3 wfc kk (pre ++ [(l, t)]) (u ||| kbit l) (wfc t wy) a) a) a = A) → WP X (d + kk + 7) 0 0 Y_X4_walk 16 [(3, .int (nI (l))), (0, .ref (50)), (1, .int (nI (p))), (2, .int (wy))] [] (HP c w' m v E) (fun r h1 => r = none ∧ ∃ w1 : kZ, h1 = HP c w1 m v E ∧ kHw w0 g e lim st tl nl N (pre.map Prod.fst) pre u A w1) := by
  intro k
  induction k using Nat.strongRecOn with
  | ind k ih =>
    intro l w' a hl0 hI hA
    refine wp_iload_n 0 d_X4_walk_16 rfl rfl ?_
    refine wp_aload_n 1 d_X4_walk_17 rfl rfl ?_
    refine wp_getfield (v := .int (nI (nl))) d_X4_walk_18 gf_X4_49 (hp_50 _ _ _ _ _) (congrArg (fun z => some (Value.int z)) hI.1.1) ?_
    refine wp_ncmp_ge (a := l) (b := nl) 132 d_X4_walk_21 rfl (by omega) (by omega) (fun zc21 => ?_) (fun zc21 => ?_)
    · refine wp_vret d_X4_walk_132 rfl ?_
      obtain rfl : k = 0 := by omega
      obtain rfl : a = A := hA
      exact ⟨rfl, w', rfl, hI⟩
    · refine wp_aload_n 1 d_X4_walk_24 rfl rfl ?_
      refine wp_getfield (v := .int (u)) d_X4_walk_25 gf_X4_53 (hp_50 _ _ _ _ _) (congrArg (fun z => some (Value.int z)) hI.1.2.2) ?_
      refine wp_iload_n 0 d_X4_walk_28 rfl rfl ?_
      refine wp_ishr d_X4_walk_29 ?_
      refine wp_iconst (v0 := 1) d_X4_walk_30 rfl ?_
      refine wp_iand d_X4_walk_31 ?_
      refine wp_iconst (v0 := 1) d_X4_walk_32 rfl ?_
      refine wp_icmp_ne 39 d_X4_walk_33 rfl (fun zc33 => ?_) (fun zc33 => ?_)
      · refine wp_aload_n 1 d_X4_walk_39 rfl rfl ?_
        refine wp_dup d_X4_walk_40 rfl ?_
        refine wp_getfield (v := .int (u)) d_X4_walk_41 gf_X4_53 (hp_50 _ _ _ _ _) (congrArg (fun z => some (Value.int z)) hI.1.2.2) ?_
        refine wp_iconst (v0 := 1) d_X4_walk_44 rfl ?_
        refine wp_iload_n 0 d_X4_walk_45 rfl rfl ?_
        refine wp_ishl d_X4_walk_46 ?_
        refine wp_ior d_X4_walk_47 ?_
        refine wp_putfield (h' := HP c (setS w' 5003 ((u) ||| ((1) <<< ((nI (l)) &&& 31)))) m v E) d_X4_walk_48 gp_X4_53 (kfit_i _) (hp_50 _ _ _ _ _) (Nat.le_of_ble_eq_true rfl) (hps_50_3 _ _ _ _ _ _) ?_
        refine wp_aload_n 1 d_X4_walk_51 rfl rfl ?_
        refine wp_getfield (v := .ref (51)) d_X4_walk_52 gf_X4_9 (hp_50 _ _ _ _ _) rfl ?_
        refine wp_iload_n 2 d_X4_walk_55 rfl rfl ?_
        refine wp_iload_n 0 d_X4_walk_56 rfl rfl ?_
        refine wp_iastore (h' := HP c (setA (setS w' 5003 ((u) ||| ((1) <<< ((nI (l)) &&& 31)))) 51 (upd (w'.2.1 51) (p) (nI (l)))) m v E) d_X4_walk_57 (hp_51 _ _ _ _ _) (vp_in_nI (by omega) (by omega)) (by rw [nI_clamp (by omega)]; exact (hpa_51 _ _ _ _ _ _)) ?_
        refine wp_iconst (v0 := 0) d_X4_walk_58 rfl ?_
        refine wp_istore [(4, .int (0)), (3, .int (nI (l))), (0, .ref (50)), (1, .int (nI (p))), (2, .int (wy))] d_X4_walk_59 (Nat.le_of_ble_eq_true rfl) rfl ?_
        refine wp_sub [(4, .int (0)), (3, .int (nI (l))), (0, .ref (50)), (1, .int (nI (p))), (2, .int (wy))] [0, 1, 2, 3, 4] rfl ?_
        skip
        obtain ⟨k1, rfl⟩ : ∃ k1, k = k1 + 1 := ⟨k - 1, by omega⟩
        rw [kfs, if_neg zc33] at hA
        have hE := hI.enter l
        rw [hp] at hE
        refine s_X4_walk_t (w := w) hnl hN IH hp hpk hv wy (l := l) (by omega) (fun w2 hI2 => ?_) 3 0 _ a (by omega) hE rfl
        refine wp_aload_n 1 d_X4_walk_112 rfl rfl ?_
        refine wp_dup d_X4_walk_113 rfl ?_
        refine wp_getfield (v := .int (u ||| kbit l)) d_X4_walk_114 gf_X4_53 (hp_50 _ _ _ _ _) (congrArg (fun z => some (Value.int z)) hI2.1.2.2) ?_
        refine wp_iconst (v0 := 1) d_X4_walk_117 rfl ?_
        refine wp_iload_n 0 d_X4_walk_118 rfl rfl ?_
        refine wp_ishl d_X4_walk_119 ?_
        refine wp_iconst (v0 := -1) d_X4_walk_120 rfl ?_
        refine wp_ixor d_X4_walk_121 ?_
        refine wp_iand d_X4_walk_122 ?_
        refine wp_putfield (h' := HP c (setS w2 5003 ((u ||| kbit l) &&& (((1) <<< ((nI (l)) &&& 31)) ^^^ ((-1))))) m v E) d_X4_walk_123 gp_X4_53 (kfit_i _) (hp_50 _ _ _ _ _) (Nat.le_of_ble_eq_true rfl) (hps_50_3 _ _ _ _ _ _) ?_
        refine wp_iinc (v0 := nI ((l) + 1)) [(3, .int (nI ((l) + 1))), (0, .ref (50)), (1, .int (nI (p))), (2, .int (wy))] 0 d_X4_walk_126 rfl (nI_add (l) 1) (Nat.le_of_ble_eq_true rfl) rfl ?_
        refine wp_goto 16 d_X4_walk_129 rfl ?_
        refine wp_sub [(3, .int (nI ((l) + 1))), (0, .ref (50)), (1, .int (nI (p))), (2, .int (wy))] [0, 1, 2, 3] rfl ?_
        have eu : ((u ||| kbit l) &&& (((1) <<< ((nI (l)) &&& 31)) ^^^ ((-1)))) = u := kub u (by omega) zc33
        rw [eu]
        exact ih k1 (by omega) (l + 1) _ _ (by omega) hI2.leave hA
      · refine wp_goto 126 d_X4_walk_36 rfl ?_
        refine wp_iinc (v0 := nI ((l) + 1)) [(3, .int (nI ((l) + 1))), (0, .ref (50)), (1, .int (nI (p))), (2, .int (wy))] 0 d_X4_walk_126 rfl (nI_add (l) 1) (Nat.le_of_ble_eq_true rfl) rfl ?_
        refine wp_goto 16 d_X4_walk_129 rfl ?_
        obtain ⟨k1, rfl⟩ : ∃ k1, k = k1 + 1 := ⟨k - 1, by omega⟩
        rw [kfs, if_pos zc33] at hA
        refine wp_sub [(3, .int (nI ((l) + 1))), (0, .ref (50)), (1, .int (nI (p))), (2, .int (wy))] [0, 1, 2, 3] rfl ?_
        exact ih k1 (by omega) (l + 1) w' a (by omega) hI hA
theorem s_X4_walk {X : kX} {d : Nat} {c w m v : kZ} {E : kH} {w0 : kZ} {g e lim : Int32} {st tl : Nat → Int32} {nl N : Nat} (hnl : nl ≤ 9) (hN : N ≤ 3) : ∀ (kk : Nat) (pre : kTb) (p : Nat) (u wy : Int32) (a : kAl) (w' : kZ), pre.length = p → p + kk = N → (∀ q ∈ pre, q.1 < nl) → kHw w0 g e lim st tl nl N (pre.map Prod.fst) pre u a w' → WP X (d + kk + 6) 0 0 Y_X4_walk 0 [(0, .ref 50), (1, .int (nI p)), (2, .int wy)] [] (HP c w' m v E) (fun r h1 => r = none ∧ ∃ w1 : kZ, h1 = HP c w1 m v E ∧ kHw w0 g e lim st tl nl N (pre.map Prod.fst) pre u (tfw (kwg g e lim st tl N) nl 3 wfc kk pre u wy a) w1) := by
  intro kk
  induction kk with
  | zero =>
    intro pre p u wy a w' hp hpk hv hI
    refine wp_iload_n 1 d_X4_walk_0 rfl rfl ?_
    refine wp_aload_n 0 d_X4_walk_1 rfl rfl ?_
    refine wp_getfield (v := .int (nI (N))) d_X4_walk_2 gf_X4_50 (hp_50 _ _ _ _ _) (congrArg (fun z => some (Value.int z)) hI.1.2.1) ?_
    refine wp_ncmp_lt (a := p) (b := N) 14 d_X4_walk_5 rfl (by omega) (by omega) (fun zc5 => ?_) (fun zc5 => ?_)
    · exact absurd zc5 (by omega)
    · refine wp_aload_n 0 d_X4_walk_8 rfl rfl ?_
      refine wp_iload_n 2 d_X4_walk_9 rfl rfl ?_
      refine wp_virtual0 (As := [.int (wy)]) d_X4_walk_10 lk_X4_72 mv_X4_weigh in_X4_weigh se_X4_weigh (Nat.le_of_ble_eq_true rfl) (Nat.le_of_ble_eq_true rfl) (hp_50 _ _ _ _ _) rfl (s_X4_weigh (w := w') hnl hN (hp.trans hpk) hv hI wy) (fun v10 h10 q10 => ?_)
      obtain ⟨rfl, w2, rfl, hI2⟩ := q10
      show WP _ _ _ _ _ 13 _ [] (HP c w2 m v E) _
      refine wp_vret d_X4_walk_13 rfl ?_
      exact ⟨rfl, w2, rfl, hI2⟩
  | succ kk IHk =>
    intro pre p u wy a w' hp hpk hv hI
    refine wp_iload_n 1 d_X4_walk_0 rfl rfl ?_
    refine wp_aload_n 0 d_X4_walk_1 rfl rfl ?_
    refine wp_getfield (v := .int (nI (N))) d_X4_walk_2 gf_X4_50 (hp_50 _ _ _ _ _) (congrArg (fun z => some (Value.int z)) hI.1.2.1) ?_
    refine wp_ncmp_lt (a := p) (b := N) 14 d_X4_walk_5 rfl (by omega) (by omega) (fun zc5 => ?_) (fun zc5 => ?_)
    · refine wp_iconst (v0 := 0) d_X4_walk_14 rfl ?_
      refine wp_istore_n [(3, .int (0)), (0, .ref (50)), (1, .int (nI (p))), (2, .int (wy))] d_X4_walk_15 rfl (Nat.le_of_ble_eq_true rfl) rfl ?_
      refine wp_sub [(3, .int (0)), (0, .ref (50)), (1, .int (nI (p))), (2, .int (wy))] [0, 1, 2, 3] rfl ?_
      exact s_X4_walk_l (w := w) hnl hN IHk hp hpk hv wy nl 0 w' a (by omega) hI rfl
    · exact absurd zc5 (by omega)
theorem wp_depth {X : kX} {d d' mc ms : Nat} {y : kM} {pc : Nat} {ls : List (Nat × Value)} {st : List Value} {h : kH} {Q : Option Value → kH → Prop} (hd : d ≤ d') (k : WP X d mc ms y pc ls st h Q) : WP X d' mc ms y pc ls st h Q := by
  intro p l e R s m args below meth c D ty B sp FQ Cf Sf G
  obtain ⟨⟨a1, a2, a3, a4, a5, a6, a7, a8, a9, a10, b1, b2, b3⟩, g⟩ := G
  exact k p l e R s m args below meth c D ty B sp FQ Cf Sf ⟨⟨a1, a2, a3, a4, a5, a6, a7, a8, a9, a10, by omega, by omega, b3⟩, g⟩
/-- what lookAtTubes() comes to -/
abbrev kTs (A : Nat → Nat → Int32) (code : Nat → Int32) (cnt n N : Nat) (f1 : Nat → Int32) : kAl := tfw (kwg (A 6 1) (A 6 2) (A 6 3) (fun l => kstr code cnt (A 6 0) (A 6 1) (A 6 2) (A 2 l) (A 3 l) l) (A 4) N) n 3 wfc N [] 0 1 (-1, [], 0, f1)
theorem s_X4_lookAtTubes {X : kX} {d : Nat} {c w m v : kZ} {E : kH} {n : Nat} (hn : c.1 100 = nI n) (hn9 : n ≤ 9) {rho cnt ka L : Nat} {code : Nat → Int32} (hrr : c.2.2.1 1 = rho) (hR : kRu E rho cnt ka L code) (hL : L < 2 ^ 20) (hc8 : cnt ≤ 8) (hwf : kWF code L cnt 0) (hk : ∀ j, j < n → 1 ≤ (c.2.1 2 j).toInt ∧ (c.2.1 2 j).toInt ≤ 5) {p : Nat} (hp : c.1 107 = nI p) (hp4 : p ≤ 4) (hln : ∀ j, j < p → vp_in (c.2.1 9 j) n) (hr0 : kRay w []) {N : Nat} (hN : N ≤ 3) : WP X (d + 12) 0 0 Y_X4_lookAtTubes 0 [(0, .ref (50)), (1, .ref (1)), (2, .int (nI (N)))] [] (HP c w m v E) (fun r h1 => r = none ∧ ∃ (w1 : kZ) (f1 : Nat → Int32), h1 = HP c w1 m v E ∧ (∀ j, j < 9 → f1 j = 0) ∧ kHw w (c.2.1 6 1) (c.2.1 6 2) (c.2.1 6 3) (fun l => kstr code cnt (c.2.1 6 0) (c.2.1 6 1) (c.2.1 6 2) (c.2.1 2 l) (c.2.1 3 l) l) (c.2.1 4) n N [] [] 0 (kTs c.2.1 code cnt n N f1) w1) := by
  refine wp_aload_n 0 d_X4_lookAtTubes_0 rfl rfl ?_
  refine wp_getfield (v := .ref (42)) d_X4_lookAtTubes_1 gf_X4_33 (hp_50 _ _ _ _ _) rfl ?_
  refine wp_aload_n 1 d_X4_lookAtTubes_4 rfl rfl ?_
  refine wp_virtual0 (As := [.ref (1)]) d_X4_lookAtTubes_5 lk_X4_37 mv_X5_load in_X5_load se_X5_load (Nat.le_of_ble_eq_true rfl) (Nat.le_of_ble_eq_true rfl) (hp_42 _ _ _ _ _) rfl (s_X5_load hn hn9 hrr hR hL hc8 hwf hk) (fun v5 h5 q5 => ?_)
  obtain ⟨rfl, w1, rfl, hl1, hd1⟩ := q5
  show WP _ _ _ _ _ 8 _ [] (HP c w1 m v E) _
  refine wp_aload_n 0 d_X4_lookAtTubes_8 rfl rfl ?_
  refine wp_aload_n 1 d_X4_lookAtTubes_9 rfl rfl ?_
  refine wp_getfield (v := .int (nI (n))) d_X4_lookAtTubes_10 gf_X4_43 (hp_1 _ _ _ _ _) (congrArg (fun z => some (Value.int z)) hn) ?_
  refine wp_putfield (h' := HP c (setS w1 5001 (nI (n))) m v E) d_X4_lookAtTubes_13 gp_X4_49 (kfit_i _) (hp_50 _ _ _ _ _) (Nat.le_of_ble_eq_true rfl) (hps_50_1 _ _ _ _ _ _) ?_
  refine wp_aload_n 0 d_X4_lookAtTubes_16 rfl rfl ?_
  refine wp_iload_n 2 d_X4_lookAtTubes_17 rfl rfl ?_
  refine wp_putfield (h' := HP c (setS (setS w1 5001 (nI (n))) 5002 (nI (N))) m v E) d_X4_lookAtTubes_18 gp_X4_50 (kfit_i _) (hp_50 _ _ _ _ _) (Nat.le_of_ble_eq_true rfl) (hps_50_2 _ _ _ _ _ _) ?_
  refine wp_aload_n 0 d_X4_lookAtTubes_21 rfl rfl ?_
  refine wp_iconst (v0 := 0) d_X4_lookAtTubes_22 rfl ?_
  refine wp_putfield (h' := HP c (setS (setS (setS w1 5001 (nI (n))) 5002 (nI (N))) 5003 (0)) m v E) d_X4_lookAtTubes_23 gp_X4_53 (kfit_i _) (hp_50 _ _ _ _ _) (Nat.le_of_ble_eq_true rfl) (hps_50_3 _ _ _ _ _ _) ?_
  refine wp_aload_n 0 d_X4_lookAtTubes_26 rfl rfl ?_
  refine wp_iconst (v0 := -1) d_X4_lookAtTubes_27 rfl ?_
  refine wp_putfield (h' := HP c (setS (setS (setS (setS w1 5001 (nI (n))) 5002 (nI (N))) 5003 (0)) 5008 ((-1))) m v E) d_X4_lookAtTubes_28 gp_X4_56 (kfit_i _) (hp_50 _ _ _ _ _) (Nat.le_of_ble_eq_true rfl) (hps_50_8 _ _ _ _ _ _) ?_
  refine wp_aload_n 0 d_X4_lookAtTubes_31 rfl rfl ?_
  refine wp_iconst (v0 := 0) d_X4_lookAtTubes_32 rfl ?_
  refine wp_putfield (h' := HP c (setS (setS (setS (setS (setS w1 5001 (nI (n))) 5002 (nI (N))) 5003 (0)) 5008 ((-1))) 5009 (0)) m v E) d_X4_lookAtTubes_33 gp_X4_59 (kfit_i _) (hp_50 _ _ _ _ _) (Nat.le_of_ble_eq_true rfl) (hps_50_9 _ _ _ _ _ _) ?_
  refine wp_aload_n 0 d_X4_lookAtTubes_36 rfl rfl ?_
  refine wp_getfield (v := .ref (55)) d_X4_lookAtTubes_37 gf_X4_24 (hp_50 _ _ _ _ _) rfl ?_
  refine wp_iconst (v0 := 0) d_X4_lookAtTubes_40 rfl ?_
  refine wp_static0 (As := [.ref (55), .int (0)]) d_X4_lookAtTubes_41 lk_X4_62 mv_J7_fill_53178 st_J7_fill_53178 (Nat.le_of_ble_eq_true rfl) (Nat.le_of_ble_eq_true rfl) (s_fill (by decide) (hp_55 _ _ _ _ _) (0)) (fun v41 h41 q41 => ?_)
  obtain ⟨rfl, f1, rfl, hf1⟩ := q41
  rw [hpa_55]
  show WP _ _ _ _ _ 44 _ [] (HP c (setA (setS (setS (setS (setS (setS w1 5001 (nI (n))) 5002 (nI (N))) 5003 (0)) 5008 ((-1))) 5009 (0)) 55 (f1)) m v E) _
  refine wp_aload_n 0 d_X4_lookAtTubes_44 rfl rfl ?_
  refine wp_iconst (v0 := 0) d_X4_lookAtTubes_45 rfl ?_
  refine wp_iconst (v0 := 1) d_X4_lookAtTubes_46 rfl ?_
  have hI0 : kHw w (c.2.1 6 1) (c.2.1 6 2) (c.2.1 6 3) (fun l => kstr code cnt (c.2.1 6 0) (c.2.1 6 1) (c.2.1 6 2) (c.2.1 2 l) (c.2.1 3 l) l) (c.2.1 4) n N ([] : List Nat) [] 0 (-1, [], 0, f1) (setA (setS (setS (setS (setS (setS w1 5001 (nI (n))) 5002 (nI (N))) 5003 (0)) 5008 ((-1))) 5009 (0)) 55 (f1)) := by
    refine ⟨⟨rfl, rfl, rfl⟩, ⟨hd1.1, hd1.2.1, hd1.2.2.1, hd1.2.2.2.1, hd1.2.2.2.2⟩, kRay_0 hr0 (fun k9 h9 h8 => ?_), fun j9 h9 => absurd h9 (by simp), fun j9 h9 => absurd h9 (by simp), ⟨rfl, rfl, rfl, fun j9 h9 => absurd h9 (by simp)⟩, ⟨fun k9 h9 => ?_, fun k9 h9 => ?_, hl1.2.2⟩⟩
    · simp only [setA, setS]; rw [updA_n _ _ (by omega), hl1.2.1 _ (by omega)]
    · simp only [setA, setS]; repeat rw [upd_n _ _ (by omega)]
      exact hl1.1 _ (by omega)
    · simp only [setA, setS]; rw [updA_n _ _ (by omega)]
      exact hl1.2.1 _ (by omega)
  refine wp_virtual0 (As := [.int (0), .int (1)]) d_X4_lookAtTubes_47 lk_X4_68 mv_X4_walk in_X4_walk se_X4_walk (Nat.le_of_ble_eq_true rfl) (Nat.le_of_ble_eq_true rfl) (hp_50 _ _ _ _ _) rfl (wp_depth (d := 0 + N + 6) (by omega) (s_X4_walk (d := 0) (w := w) (w0 := w) hn9 hN N [] 0 0 1 (-1, [], 0, f1) (setA (setS (setS (setS (setS (setS w1 5001 (nI (n))) 5002 (nI (N))) 5003 (0)) 5008 ((-1))) 5009 (0)) 55 (f1)) rfl (by omega) (fun q9 h9 => absurd h9 (by simp)) hI0)) (fun v47 h47 q47 => ?_)
  obtain ⟨rfl, w2, rfl, hI2⟩ := q47
  show WP _ _ _ _ _ 50 _ [] (HP c w2 m v E) _
  refine wp_vret d_X4_lookAtTubes_50 rfl ?_
  exact ⟨rfl, w2, f1, rfl, hf1, hI2⟩
theorem s_X9_least {X : kX} {d : Nat} {c w m v : kZ} {E : kH} {n : Nat} (hn : c.1 100 = nI n) (hn9 : n ≤ 9) {rho cnt ka L : Nat} {code : Nat → Int32} (hrr : c.2.2.1 1 = rho) (hR : kRu E rho cnt ka L code) (hL : L < 2 ^ 20) (hc8 : cnt ≤ 8) (hwf : kWF code L cnt 0) (hk : ∀ j, j < n → 1 ≤ (c.2.1 2 j).toInt ∧ (c.2.1 2 j).toInt ≤ 5) {p : Nat} (hp : c.1 107 = nI p) (hp4 : p ≤ 4) (hln : ∀ j, j < p → vp_in (c.2.1 9 j) n) (hr0 : kRay w []) (x : Int32) : WP X (d + 13) 0 0 Y_X9_least 0 [(0, .ref (0)), (1, .int (x))] [] (HP c w m v E) (fun r h1 => (¬ (1 ≤ x.toInt ∧ x.toInt ≤ 3) ∧ r = some (.int (-1)) ∧ h1 = HP c w m v E) ∨ ∃ N : Nat, 1 ≤ N ∧ N ≤ 3 ∧ x = nI N ∧ ((n < N ∧ r = some (.int (-3)) ∧ h1 = HP c w m v E) ∨ (N ≤ n ∧ (∃ f1 : Nat → Int32, (∀ j, j < 9 → f1 j = 0) ∧ r = some (.int ((kTs c.2.1 code cnt n N f1).1))) ∧ ∃ w1 : kZ, h1 = HP c w1 m v E ∧ kHf w w1 ∧ kRay w1 []))) := by
  refine wp_iload_n 1 d_X9_least_0 rfl rfl ?_
  refine wp_stc_i (As := [.int (x)]) (x0 := kb (1 ≤ (x : Int32).toInt ∧ (x : Int32).toInt ≤ 3)) (h1 := HP c w m v E) d_X9_least_1 lk_X9_217 mv_X9_isPut st_X9_isPut (Nat.le_of_ble_eq_true rfl) (Nat.le_of_ble_eq_true rfl) (s_X9_isPut _ (x : Int32)) ?_
  refine wp_ifb_ne 9 d_X9_least_4 rfl (fun zc4 => ?_) (fun zc4 => ?_)
  · have hN1b := zc4.1
    obtain ⟨N, hN, rfl⟩ := k_natle (n := 3) (x := x) ⟨by omega, zc4.2⟩
    have hN1 : 1 ≤ N := by rw [nI_toInt (by omega)] at hN1b; omega
    refine wp_aload_n 0 d_X9_least_9 rfl rfl ?_
    refine wp_getfield (v := .ref (1)) d_X9_least_10 gf_X9_12 (hp_0 _ _ _ _ _) rfl ?_
    refine wp_getfield (v := .int (nI (n))) d_X9_least_13 gf_X9_102 (hp_1 _ _ _ _ _) (congrArg (fun z => some (Value.int z)) hn) ?_
    refine wp_iload_n 1 d_X9_least_16 rfl rfl ?_
    refine wp_ncmp_ge (a := n) (b := N) 23 d_X9_least_17 rfl (by omega) (by omega) (fun zc17 => ?_) (fun zc17 => ?_)
    · refine wp_aload_n 0 d_X9_least_23 rfl rfl ?_
      refine wp_getfield (v := .ref (50)) d_X9_least_24 gf_X9_41 (hp_0 _ _ _ _ _) rfl ?_
      refine wp_aload_n 0 d_X9_least_27 rfl rfl ?_
      refine wp_getfield (v := .ref (1)) d_X9_least_28 gf_X9_12 (hp_0 _ _ _ _ _) rfl ?_
      refine wp_iload_n 1 d_X9_least_31 rfl rfl ?_
      refine wp_virtual0 (As := [.ref (1), .int (nI (N))]) d_X9_least_32 lk_X9_220 mv_X4_lookAtTubes in_X4_lookAtTubes se_X4_lookAtTubes (Nat.le_of_ble_eq_true rfl) (Nat.le_of_ble_eq_true rfl) (hp_50 _ _ _ _ _) rfl (s_X4_lookAtTubes hn hn9 hrr hR hL hc8 hwf hk hp hp4 hln hr0 (N := N) (by omega)) (fun v32 h32 q32 => ?_)
      obtain ⟨rfl, w1, f1, rfl, hf1, hI1⟩ := q32
      obtain ⟨⟨i1, i2, i3⟩, -, i4, -, -, i5, i6⟩ := id hI1
      show WP _ _ _ _ _ 35 _ [] (HP c w1 m v E) _
      refine wp_aload_n 0 d_X9_least_35 rfl rfl ?_
      refine wp_getfield (v := .ref (50)) d_X9_least_36 gf_X9_41 (hp_0 _ _ _ _ _) rfl ?_
      refine wp_getfield (v := .int ((kTs c.2.1 code cnt n N f1).1)) d_X9_least_39 gf_X9_224 (hp_50 _ _ _ _ _) (congrArg (fun z => some (Value.int z)) i5.1) ?_
      refine wp_reti d_X9_least_42 rfl ?_
      exact Or.inr ⟨N, hN1, hN, rfl, Or.inr ⟨by omega, ⟨f1, hf1, rfl⟩, w1, rfl, i6, i4⟩⟩
    · refine wp_bipush (v0 := -3) d_X9_least_20 (by decide) ?_
      refine wp_reti d_X9_least_22 rfl ?_
      exact Or.inr ⟨N, hN1, hN, rfl, Or.inl ⟨by omega, rfl, rfl⟩⟩
  · refine wp_iconst (v0 := -1) d_X9_least_7 rfl ?_
    refine wp_reti d_X9_least_8 rfl ?_
    exact Or.inl ⟨zc4, rfl, rfl⟩
theorem s_X9_good {X : kX} {d : Nat} {c w m v : kZ} {E : kH} {n : Nat} (hn : c.1 100 = nI n) (hn9 : n ≤ 9) {rho cnt ka L : Nat} {code : Nat → Int32} (hrr : c.2.2.1 1 = rho) (hR : kRu E rho cnt ka L code) (hL : L < 2 ^ 20) (hc8 : cnt ≤ 8) (hwf : kWF code L cnt 0) (hk : ∀ j, j < n → 1 ≤ (c.2.1 2 j).toInt ∧ (c.2.1 2 j).toInt ≤ 5) {p : Nat} (hp : c.1 107 = nI p) (hp4 : p ≤ 4) (hln : ∀ j, j < p → vp_in (c.2.1 9 j) n) (hr0 : kRay w []) (x : Int32) : WP X (d + 13) 0 0 Y_X9_good 0 [(0, .ref (0)), (1, .int (x))] [] (HP c w m v E) (fun r h1 => (¬ (1 ≤ x.toInt ∧ x.toInt ≤ 3) ∧ r = some (.int (-1)) ∧ h1 = HP c w m v E) ∨ ∃ N : Nat, 1 ≤ N ∧ N ≤ 3 ∧ x = nI N ∧ (∃ f1 : Nat → Int32, (∀ j, j < 9 → f1 j = 0) ∧ r = some (.int ((kTs c.2.1 code cnt n N f1).2.2.1))) ∧ ∃ w1 : kZ, h1 = HP c w1 m v E ∧ kHf w w1 ∧ kRay w1 []) := by
  refine wp_iload_n 1 d_X9_good_0 rfl rfl ?_
  refine wp_stc_i (As := [.int (x)]) (x0 := kb (1 ≤ (x : Int32).toInt ∧ (x : Int32).toInt ≤ 3)) (h1 := HP c w m v E) d_X9_good_1 lk_X9_217 mv_X9_isPut st_X9_isPut (Nat.le_of_ble_eq_true rfl) (Nat.le_of_ble_eq_true rfl) (s_X9_isPut _ (x : Int32)) ?_
  refine wp_ifb_ne 9 d_X9_good_4 rfl (fun zc4 => ?_) (fun zc4 => ?_)
  · have hN1b := zc4.1
    obtain ⟨N, hN, rfl⟩ := k_natle (n := 3) (x := x) ⟨by omega, zc4.2⟩
    have hN1 : 1 ≤ N := by rw [nI_toInt (by omega)] at hN1b; omega
    refine wp_aload_n 0 d_X9_good_9 rfl rfl ?_
    refine wp_getfield (v := .ref (50)) d_X9_good_10 gf_X9_41 (hp_0 _ _ _ _ _) rfl ?_
    refine wp_aload_n 0 d_X9_good_13 rfl rfl ?_
    refine wp_getfield (v := .ref (1)) d_X9_good_14 gf_X9_12 (hp_0 _ _ _ _ _) rfl ?_
    refine wp_iload_n 1 d_X9_good_17 rfl rfl ?_
    refine wp_virtual0 (As := [.ref (1), .int (nI (N))]) d_X9_good_18 lk_X9_220 mv_X4_lookAtTubes in_X4_lookAtTubes se_X4_lookAtTubes (Nat.le_of_ble_eq_true rfl) (Nat.le_of_ble_eq_true rfl) (hp_50 _ _ _ _ _) rfl (s_X4_lookAtTubes hn hn9 hrr hR hL hc8 hwf hk hp hp4 hln hr0 (N := N) (by omega)) (fun v18 h18 q18 => ?_)
    obtain ⟨rfl, w1, f1, rfl, hf1, hI1⟩ := q18
    obtain ⟨⟨i1, i2, i3⟩, -, i4, -, -, i5, i6⟩ := id hI1
    show WP _ _ _ _ _ 21 _ [] (HP c w1 m v E) _
    refine wp_aload_n 0 d_X9_good_21 rfl rfl ?_
    refine wp_getfield (v := .ref (50)) d_X9_good_22 gf_X9_41 (hp_0 _ _ _ _ _) rfl ?_
    refine wp_getfield (v := .int ((kTs c.2.1 code cnt n N f1).2.2.1)) d_X9_good_25 gf_X9_233 (hp_50 _ _ _ _ _) (congrArg (fun z => some (Value.int z)) i5.2.1) ?_
    refine wp_reti d_X9_good_28 rfl ?_
    exact Or.inr ⟨N, hN1, hN, rfl, ⟨f1, hf1, rfl⟩, w1, rfl, i6, i4⟩
  · refine wp_iconst (v0 := -1) d_X9_good_7 rfl ?_
    refine wp_reti d_X9_good_8 rfl ?_
    exact Or.inl ⟨zc4, rfl, rfl⟩
theorem s_X9_pick {X : kX} {d : Nat} {c w m v : kZ} {E : kH} {n : Nat} (hn : c.1 100 = nI n) (hn9 : n ≤ 9) {rho cnt ka L : Nat} {code : Nat → Int32} (hrr : c.2.2.1 1 = rho) (hR : kRu E rho cnt ka L code) (hL : L < 2 ^ 20) (hc8 : cnt ≤ 8) (hwf : kWF code L cnt 0) (hk : ∀ j, j < n → 1 ≤ (c.2.1 2 j).toInt ∧ (c.2.1 2 j).toInt ≤ 5) {p : Nat} (hp : c.1 107 = nI p) (hp4 : p ≤ 4) (hln : ∀ j, j < p → vp_in (c.2.1 9 j) n) (hr0 : kRay w []) (x y : Int32) : WP X (d + 13) 0 0 Y_X9_pick 0 [(0, .ref (0)), (1, .int (x)), (2, .int (y))] [] (HP c w m v E) (fun r h1 => (¬ ((1 ≤ x.toInt ∧ x.toInt ≤ 3) ∧ 0 ≤ y.toInt ∧ y.toInt < x.toInt) ∧ r = some (.int (-1)) ∧ h1 = HP c w m v E) ∨ ∃ N i : Nat, 1 ≤ N ∧ N ≤ 3 ∧ x = nI N ∧ i < N ∧ y = nI i ∧ ((n < N ∧ r = some (.int (-3)) ∧ h1 = HP c w m v E) ∨ (N ≤ n ∧ ∃ w1 : kZ, (∃ f1 : Nat → Int32, (∀ j, j < 9 → f1 j = 0) ∧ kAr (kTs c.2.1 code cnt n N f1) w1) ∧ r = some (.int (10 * w1.2.1 53 i + w1.2.1 54 i)) ∧ h1 = HP c w1 m v E ∧ kHf w w1 ∧ kRay w1 []))) := by
  refine wp_iload_n 1 d_X9_pick_0 rfl rfl ?_
  refine wp_stc_i (As := [.int (x)]) (x0 := kb (1 ≤ (x : Int32).toInt ∧ (x : Int32).toInt ≤ 3)) (h1 := HP c w m v E) d_X9_pick_1 lk_X9_217 mv_X9_isPut st_X9_isPut (Nat.le_of_ble_eq_true rfl) (Nat.le_of_ble_eq_true rfl) (s_X9_isPut _ (x : Int32)) ?_
  refine wp_ifb_eq 18 d_X9_pick_4 rfl (fun zc4 => ?_) (fun zc4 => ?_)
  · refine wp_iconst (v0 := -1) d_X9_pick_18 rfl ?_
    refine wp_reti d_X9_pick_19 rfl ?_
    refine Or.inl ⟨?_, rfl, rfl⟩
    rintro ⟨q1, q2, q3⟩
    first
    | exact zc4 q1
    | exact zc15 ⟨q2, by rw [show nI (N - 1) = nI N - 1 from (pk_sub (a := N) (b := 1) (by omega)).symm, kn_pred (by omega)]; rw [nI_toInt (by omega)] at q3; omega⟩
  · have hN1b := zc4.1
    obtain ⟨N, hN, rfl⟩ := k_natle (n := 3) (x := x) ⟨by omega, zc4.2⟩
    have hN1 : 1 ≤ N := by rw [nI_toInt (by omega)] at hN1b; omega
    refine wp_iload_n 2 d_X9_pick_7 rfl rfl ?_
    refine wp_iconst (v0 := 0) d_X9_pick_8 rfl ?_
    refine wp_iload_n 1 d_X9_pick_9 rfl rfl ?_
    refine wp_iconst (v0 := 1) d_X9_pick_10 rfl ?_
    refine wp_isub d_X9_pick_11 ?_
    refine wp_v (v0 := nI ((N) - (1))) (pk_sub (a := N) (b := 1) (by omega)) ?_
    refine wp_stc_i (As := [.int (y), .int (0), .int (nI ((N) - (1)))]) (x0 := kb (0 ≤ (y : Int32).toInt ∧ (y : Int32).toInt ≤ (nI ((N) - (1)) : Int32).toInt)) (h1 := HP c w m v E) d_X9_pick_12 lk_X9_98 mv_X9_isWithin st_X9_isWithin (Nat.le_of_ble_eq_true rfl) (Nat.le_of_ble_eq_true rfl) (s_X9_isWithin _ (y : Int32) (0 : Int32) (nI ((N) - (1)) : Int32)) ?_
    refine wp_ifb_ne 20 d_X9_pick_15 rfl (fun zc15 => ?_) (fun zc15 => ?_)
    · have c15b : 0 ≤ y.toInt ∧ y.toInt < (N : Int) := by
        have q9 := zc15
        rw [show nI (N - 1) = nI N - 1 from (pk_sub (a := N) (b := 1) (by omega)).symm, kn_pred (by omega)] at q9
        exact ⟨q9.1, by omega⟩
      obtain ⟨i, hi, rfl⟩ := k_nat c15b
      refine wp_aload_n 0 d_X9_pick_20 rfl rfl ?_
      refine wp_getfield (v := .ref (1)) d_X9_pick_21 gf_X9_12 (hp_0 _ _ _ _ _) rfl ?_
      refine wp_getfield (v := .int (nI (n))) d_X9_pick_24 gf_X9_102 (hp_1 _ _ _ _ _) (congrArg (fun z => some (Value.int z)) hn) ?_
      refine wp_iload_n 1 d_X9_pick_27 rfl rfl ?_
      refine wp_ncmp_ge (a := n) (b := N) 34 d_X9_pick_28 rfl (by omega) (by omega) (fun zc28 => ?_) (fun zc28 => ?_)
      · refine wp_aload_n 0 d_X9_pick_34 rfl rfl ?_
        refine wp_getfield (v := .ref (50)) d_X9_pick_35 gf_X9_41 (hp_0 _ _ _ _ _) rfl ?_
        refine wp_aload_n 0 d_X9_pick_38 rfl rfl ?_
        refine wp_getfield (v := .ref (1)) d_X9_pick_39 gf_X9_12 (hp_0 _ _ _ _ _) rfl ?_
        refine wp_iload_n 1 d_X9_pick_42 rfl rfl ?_
        refine wp_virtual0 (As := [.ref (1), .int (nI (N))]) d_X9_pick_43 lk_X9_220 mv_X4_lookAtTubes in_X4_lookAtTubes se_X4_lookAtTubes (Nat.le_of_ble_eq_true rfl) (Nat.le_of_ble_eq_true rfl) (hp_50 _ _ _ _ _) rfl (s_X4_lookAtTubes hn hn9 hrr hR hL hc8 hwf hk hp hp4 hln hr0 (N := N) (by omega)) (fun v43 h43 q43 => ?_)
        obtain ⟨rfl, w1, f1, rfl, hf1, hI1⟩ := q43
        obtain ⟨⟨i1, i2, i3⟩, -, i4, -, -, i5, i6⟩ := id hI1
        show WP _ _ _ _ _ 46 _ [] (HP c w1 m v E) _
        refine wp_bipush (v0 := 10) d_X9_pick_46 (by decide) ?_
        refine wp_aload_n 0 d_X9_pick_48 rfl rfl ?_
        refine wp_getfield (v := .ref (50)) d_X9_pick_49 gf_X9_41 (hp_0 _ _ _ _ _) rfl ?_
        refine wp_getfield (v := .ref (53)) d_X9_pick_52 gf_X9_227 (hp_50 _ _ _ _ _) rfl ?_
        refine wp_iload_n 2 d_X9_pick_55 rfl rfl ?_
        refine wp_iaload (v := (w1.2.1 53) (i)) d_X9_pick_56 (hp_53 _ _ _ _ _) (vp_in_nI (by omega) (by omega)) (congrArg ((w1.2.1 53)) (nI_clamp (by omega))) ?_
        refine wp_imul d_X9_pick_57 ?_
        refine wp_aload_n 0 d_X9_pick_58 rfl rfl ?_
        refine wp_getfield (v := .ref (50)) d_X9_pick_59 gf_X9_41 (hp_0 _ _ _ _ _) rfl ?_
        refine wp_getfield (v := .ref (54)) d_X9_pick_62 gf_X9_230 (hp_50 _ _ _ _ _) rfl ?_
        refine wp_iload_n 2 d_X9_pick_65 rfl rfl ?_
        refine wp_iaload (v := (w1.2.1 54) (i)) d_X9_pick_66 (hp_54 _ _ _ _ _) (vp_in_nI (by omega) (by omega)) (congrArg ((w1.2.1 54)) (nI_clamp (by omega))) ?_
        refine wp_iadd d_X9_pick_67 ?_
        refine wp_reti d_X9_pick_68 rfl ?_
        exact Or.inr ⟨N, i, hN1, hN, rfl, hi, rfl, Or.inr ⟨by omega, w1, ⟨f1, hf1, i5⟩, rfl, rfl, i6, i4⟩⟩
      · refine wp_bipush (v0 := -3) d_X9_pick_31 (by decide) ?_
        refine wp_reti d_X9_pick_33 rfl ?_
        exact Or.inr ⟨N, i, hN1, hN, rfl, hi, rfl, Or.inl ⟨by omega, rfl, rfl⟩⟩
    · refine wp_iconst (v0 := -1) d_X9_pick_18 rfl ?_
      refine wp_reti d_X9_pick_19 rfl ?_
      refine Or.inl ⟨?_, rfl, rfl⟩
      rintro ⟨q1, q2, q3⟩
      first
      | exact zc4 q1
      | exact zc15 ⟨q2, by rw [show nI (N - 1) = nI N - 1 from (pk_sub (a := N) (b := 1) (by omega)).symm, kn_pred (by omega)]; rw [nI_toInt (by omega)] at q3; omega⟩
abbrev kMs : Type := Int32 × (Nat → Int32)
def kpf (P : Nat → Int32) (nl : Nat) : Nat → Nat → Nat → (Nat → Int32) → kMs → kMs
  | 0, _, pr, f, s => if nI pr ≤ s.1 then s else (nI pr, f)
  | k + 1, l, pr, f, s => if nI pr + nI (nl - l) / 2 ≤ s.1 then s else
      kpf P nl k (l + 1) pr f (if f l = -3 then (List.range' (l + 1) (nl - (l + 1))).foldl (fun s mm => if f mm ≠ -3 ∨ P l >>> (nI mm &&& 31) &&& 1 = 0 then s else kpf P nl k (l + 1) (pr + 1) (upd (upd f l (nI mm)) mm (nI l)) s) s else s)
def kPf (w w' : kZ) : Prop := (∀ k, k ≠ 5013 → w'.1 k = w.1 k) ∧ (∀ k, k ≠ 56 → k ≠ 57 → w'.2.1 k = w.2.1 k) ∧ w'.2.2 = w.2.2
theorem kPf.rf (w : kZ) : kPf w w := ⟨fun _ _ => rfl, fun _ _ _ => rfl, rfl⟩
theorem kPf.tr {a b c : kZ} (h : kPf a b) (g : kPf b c) : kPf a c := ⟨fun k hk => (g.1 k hk).trans (h.1 k hk), fun k hk h2 => (g.2.1 k hk h2).trans (h.2.1 k hk h2), g.2.2.trans h.2.2⟩
theorem kPf.hf {a b : kZ} (h : kPf a b) : kHf a b := ⟨fun k hk => h.1 k (by omega), fun k hk => h.2.1 k (by omega) (by omega), h.2.2⟩
def kPm (w : kZ) (P : Nat → Int32) (nl : Nat) (f : Nat → Int32) (s : kMs) (w' : kZ) : Prop := (w'.1 5001 = nI nl ∧ w'.2.1 55 = P ∧ w'.2.1 56 = f) ∧ w'.1 5013 = s.1 ∧ (∀ j, j < 9 → w'.2.1 57 j = s.2 j) ∧ kPf w w'
theorem kPm.f {w : kZ} {P : Nat → Int32} {nl : Nat} {f f' : Nat → Int32} {s : kMs} {w' : kZ} (h : kPm w P nl f s w') : kPm w P nl f' s (setA w' 56 f') := ⟨⟨h.1.1, h.1.2.1, rfl⟩, h.2.1, h.2.2.1, h.2.2.2.tr ⟨fun _ _ => rfl, fun k9 h9 _ => updA_n _ _ h9, rfl⟩⟩
theorem kback {f : Nat → Int32} {l mm : Nat} (x y : Int32) (hl : f l = -3) (hm : f mm = -3) : upd (upd (upd (upd f l x) mm y) l (-3)) mm (-3) = f := by
  funext j
  simp only [upd]
  by_cases a : j = mm
  · rw [if_pos a, a, hm]
  · rw [if_neg a]
    by_cases b : j = l
    · rw [if_pos b, b, hl]
    · rw [if_neg b, if_neg a, if_neg b]
theorem s_X4_pairFrom_l {X : kX} {d : Nat} {c w m v : kZ} {E : kH} {w0 : kZ} {P : Nat → Int32} {nl : Nat} (hnl : nl ≤ 9) {kk : Nat} (IH : ∀ (l pr : Nat) (f : Nat → Int32) (s : kMs) (w' : kZ), l + kk = nl → pr ≤ l → kPm w0 P nl f s w' → WP X (d + kk + 1) 0 0 Y_X4_pairFrom 0 [(0, .ref 50), (1, .int (nI l)), (2, .int (nI pr))] [] (HP c w' m v E) (fun r h1 => r = none ∧ ∃ w1 : kZ, h1 = HP c w1 m v E ∧ kPm w0 P nl f (kpf P nl kk l pr f s) w1)) {l pr : Nat} {f : Nat → Int32} (hlk : l + (kk + 1) = nl) (hpr : pr ≤ l) (hl3 : f l = -3) {A : kMs} {Q : Option Value → kH → Prop} (K : ∀ w2 : kZ, kPm w0 P nl f A w2 → WP X (d + kk + 2) 0 0 Y_X4_pairFrom 152 [(0, .ref 50), (1, .int (nI l)), (2, .int (nI pr))] [] (HP c w2 m v E) Q) : ∀ (k : Nat) (mm : Nat) (w' : kZ) (s : kMs), (mm + k = nl) → (l < mm) → (kPm w0 P nl f s w') → ((List.range' mm k).foldl (fun s mm => if f mm ≠ -3 ∨ P l >>> (nI mm &&& 31) &&& 1 = 0 then s else kpf P nl kk (l + 1) (pr + 1) (upd (upd f l (nI mm)) mm (nI l)) s) s = A) → WP X (d + kk + 2) 0 0 Y_X4_pairFrom 71 [(3, .int (nI (mm))), (0, .ref (50)), (1, .int (nI (l))), (2, .int (nI (pr)))] [] (HP c w' m v E) Q := by
  intro k
  induction k using Nat.strongRecOn with
  | ind k ih =>
    intro mm w' s hmk hlm hI hA
    refine wp_iload_n 0 d_X4_pairFrom_71 rfl rfl ?_
    refine wp_aload_n 1 d_X4_pairFrom_72 rfl rfl ?_
    refine wp_getfield (v := .int (nI (nl))) d_X4_pairFrom_73 gf_X4_49 (hp_50 _ _ _ _ _) (congrArg (fun z => some (Value.int z)) hI.1.1) ?_
    refine wp_ncmp_ge (a := mm) (b := nl) 152 d_X4_pairFrom_76 rfl (by omega) (by omega) (fun zc76 => ?_) (fun zc76 => ?_)
    · obtain rfl : k = 0 := by omega
      obtain rfl : s = A := hA
      refine wp_sub [(0, .ref 50), (1, .int (nI l)), (2, .int (nI pr))] [1, 2, 3] rfl ?_
      exact K w' hI
    · refine wp_aload_n 1 d_X4_pairFrom_79 rfl rfl ?_
      refine wp_getfield (v := .ref (56)) d_X4_pairFrom_80 gf_X4_27 (hp_50 _ _ _ _ _) rfl ?_
      refine wp_iload_n 0 d_X4_pairFrom_83 rfl rfl ?_
      refine wp_iaload (v := f mm) d_X4_pairFrom_84 (hp_56 _ _ _ _ _) (vp_in_nI (by omega) (by omega)) ((congrArg ((w'.2.1 56)) (nI_clamp (by omega))).trans (congrFun hI.1.2.2 mm)) ?_
      refine wp_bipush (v0 := -3) d_X4_pairFrom_85 (by decide) ?_
      refine wp_icmp_ne 146 d_X4_pairFrom_87 rfl (fun zc87 => ?_) (fun zc87 => ?_)
      · refine wp_iinc (v0 := nI ((mm) + 1)) [(3, .int (nI ((mm) + 1))), (0, .ref (50)), (1, .int (nI (l))), (2, .int (nI (pr)))] 0 d_X4_pairFrom_146 rfl (nI_add (mm) 1) (Nat.le_of_ble_eq_true rfl) rfl ?_
        refine wp_goto 71 d_X4_pairFrom_149 rfl ?_
        obtain ⟨k1, rfl⟩ : ∃ k1, k = k1 + 1 := ⟨k - 1, by omega⟩
        refine wp_sub [(3, .int (nI ((mm) + 1))), (0, .ref (50)), (1, .int (nI (l))), (2, .int (nI (pr)))] [0, 1, 2, 3] rfl ?_
        rw [kfs] at hA
        first
        | rw [if_pos (Or.inl zc87)] at hA
        | rw [if_pos (Or.inr zc100)] at hA
        exact ih k1 (by omega) (mm + 1) w' s (by omega) (by omega) hI hA
      · refine wp_aload_n 1 d_X4_pairFrom_90 rfl rfl ?_
        refine wp_getfield (v := .ref (55)) d_X4_pairFrom_91 gf_X4_24 (hp_50 _ _ _ _ _) rfl ?_
        refine wp_iload_n 2 d_X4_pairFrom_94 rfl rfl ?_
        refine wp_iaload (v := P l) d_X4_pairFrom_95 (hp_55 _ _ _ _ _) (vp_in_nI (by omega) (by omega)) ((congrArg ((w'.2.1 55)) (nI_clamp (by omega))).trans (congrFun hI.1.2.1 l)) ?_
        refine wp_iload_n 0 d_X4_pairFrom_96 rfl rfl ?_
        refine wp_ishr d_X4_pairFrom_97 ?_
        refine wp_iconst (v0 := 1) d_X4_pairFrom_98 rfl ?_
        refine wp_iand d_X4_pairFrom_99 ?_
        refine wp_if_ne 106 d_X4_pairFrom_100 rfl (fun zc100 => ?_) (fun zc100 => ?_)
        · refine wp_aload_n 1 d_X4_pairFrom_106 rfl rfl ?_
          refine wp_getfield (v := .ref (56)) d_X4_pairFrom_107 gf_X4_27 (hp_50 _ _ _ _ _) rfl ?_
          refine wp_iload_n 2 d_X4_pairFrom_110 rfl rfl ?_
          refine wp_iload_n 0 d_X4_pairFrom_111 rfl rfl ?_
          refine wp_iastore (h' := HP c (setA w' 56 (upd (w'.2.1 56) (l) (nI (mm)))) m v E) d_X4_pairFrom_112 (hp_56 _ _ _ _ _) (vp_in_nI (by omega) (by omega)) (by rw [nI_clamp (by omega)]; exact (hpa_56 _ _ _ _ _ _)) ?_
          refine wp_aload_n 1 d_X4_pairFrom_113 rfl rfl ?_
          refine wp_getfield (v := .ref (56)) d_X4_pairFrom_114 gf_X4_27 (hp_50 _ _ _ _ _) rfl ?_
          refine wp_iload_n 0 d_X4_pairFrom_117 rfl rfl ?_
          refine wp_iload_n 2 d_X4_pairFrom_118 rfl rfl ?_
          refine wp_iastore (h' := HP c (setA (setA w' 56 (upd (w'.2.1 56) (l) (nI (mm)))) 56 (upd (upd (w'.2.1 56) (l) (nI (mm))) (mm) (nI (l)))) m v E) d_X4_pairFrom_119 (hp_56 _ _ _ _ _) (vp_in_nI (by omega) (by omega)) (by rw [nI_clamp (by omega)]; exact (hpa_56 _ _ _ _ _ _)) ?_
          have hE : kPm w0 P nl (upd (upd f l (nI mm)) mm (nI l)) s (setA (setA w' 56 (upd (w'.2.1 56) (l) (nI (mm)))) 56 (upd (upd (w'.2.1 56) (l) (nI (mm))) (mm) (nI (l)))) := by
            have h9 := (hI.f (f' := upd f l (nI mm))).f (f' := upd (upd f l (nI mm)) mm (nI l))
            rw [← hI.1.2.2] at h9 ⊢
            exact h9
          refine wp_aload_n 1 d_X4_pairFrom_120 rfl rfl ?_
          refine wp_iload_n 2 d_X4_pairFrom_121 rfl rfl ?_
          refine wp_iconst (v0 := 1) d_X4_pairFrom_122 rfl ?_
          refine wp_iadd d_X4_pairFrom_123 ?_
          refine wp_v (v0 := nI ((l) + (1))) (nI_add (l) (1)) ?_
          refine wp_iload_n 3 d_X4_pairFrom_124 rfl rfl ?_
          refine wp_iconst (v0 := 1) d_X4_pairFrom_125 rfl ?_
          refine wp_iadd d_X4_pairFrom_126 ?_
          refine wp_v (v0 := nI ((pr) + (1))) (nI_add (pr) (1)) ?_
          refine wp_virtual0 (As := [.int (nI ((l) + (1))), .int (nI ((pr) + (1)))]) d_X4_pairFrom_127 lk_X4_107 mv_X4_pairFrom in_X4_pairFrom se_X4_pairFrom (Nat.le_of_ble_eq_true rfl) (Nat.le_of_ble_eq_true rfl) (hp_50 _ _ _ _ _) rfl (IH (l + 1) (pr + 1) (upd (upd f l (nI mm)) mm (nI l)) s (setA (setA w' 56 (upd (w'.2.1 56) (l) (nI (mm)))) 56 (upd (upd (w'.2.1 56) (l) (nI (mm))) (mm) (nI (l)))) (by omega) (by omega) hE) (fun v127 h127 q127 => ?_)
          obtain ⟨rfl, w2, rfl, hI2⟩ := q127
          show WP _ _ _ _ _ 130 _ [] (HP c w2 m v E) _
          refine wp_aload_n 1 d_X4_pairFrom_130 rfl rfl ?_
          refine wp_getfield (v := .ref (56)) d_X4_pairFrom_131 gf_X4_27 (hp_50 _ _ _ _ _) rfl ?_
          refine wp_iload_n 2 d_X4_pairFrom_134 rfl rfl ?_
          refine wp_bipush (v0 := -3) d_X4_pairFrom_135 (by decide) ?_
          refine wp_iastore (h' := HP c (setA w2 56 (upd (w2.2.1 56) (l) ((-3)))) m v E) d_X4_pairFrom_137 (hp_56 _ _ _ _ _) (vp_in_nI (by omega) (by omega)) (by rw [nI_clamp (by omega)]; exact (hpa_56 _ _ _ _ _ _)) ?_
          refine wp_aload_n 1 d_X4_pairFrom_138 rfl rfl ?_
          refine wp_getfield (v := .ref (56)) d_X4_pairFrom_139 gf_X4_27 (hp_50 _ _ _ _ _) rfl ?_
          refine wp_iload_n 0 d_X4_pairFrom_142 rfl rfl ?_
          refine wp_bipush (v0 := -3) d_X4_pairFrom_143 (by decide) ?_
          refine wp_iastore (h' := HP c (setA (setA w2 56 (upd (w2.2.1 56) (l) ((-3)))) 56 (upd (upd (w2.2.1 56) (l) ((-3))) (mm) ((-3)))) m v E) d_X4_pairFrom_145 (hp_56 _ _ _ _ _) (vp_in_nI (by omega) (by omega)) (by rw [nI_clamp (by omega)]; exact (hpa_56 _ _ _ _ _ _)) ?_
          refine wp_iinc (v0 := nI ((mm) + 1)) [(3, .int (nI ((mm) + 1))), (0, .ref (50)), (1, .int (nI (l))), (2, .int (nI (pr)))] 0 d_X4_pairFrom_146 rfl (nI_add (mm) 1) (Nat.le_of_ble_eq_true rfl) rfl ?_
          refine wp_goto 71 d_X4_pairFrom_149 rfl ?_
          obtain ⟨k1, rfl⟩ : ∃ k1, k = k1 + 1 := ⟨k - 1, by omega⟩
          refine wp_sub [(3, .int (nI ((mm) + 1))), (0, .ref (50)), (1, .int (nI (l))), (2, .int (nI (pr)))] [0, 1, 2, 3] rfl ?_
          rw [kfs] at hA
          rw [if_neg (fun q => q.elim (fun z => z zc87) zc100)] at hA
          refine ih k1 (by omega) (mm + 1) _ _ (by omega) (by omega) ?_ hA
          have h9 := (hI2.f (f' := upd (upd (upd f l (nI mm)) mm (nI l)) l (-3))).f (f' := upd (upd (upd (upd f l (nI mm)) mm (nI l)) l (-3)) mm (-3))
          rw [kback _ _ hl3 zc87] at h9
          rw [hI2.1.2.2]
          rw [kback _ _ hl3 zc87]
          exact h9
        · refine wp_goto 146 d_X4_pairFrom_103 rfl ?_
          refine wp_iinc (v0 := nI ((mm) + 1)) [(3, .int (nI ((mm) + 1))), (0, .ref (50)), (1, .int (nI (l))), (2, .int (nI (pr)))] 0 d_X4_pairFrom_146 rfl (nI_add (mm) 1) (Nat.le_of_ble_eq_true rfl) rfl ?_
          refine wp_goto 71 d_X4_pairFrom_149 rfl ?_
          obtain ⟨k1, rfl⟩ : ∃ k1, k = k1 + 1 := ⟨k - 1, by omega⟩
          refine wp_sub [(3, .int (nI ((mm) + 1))), (0, .ref (50)), (1, .int (nI (l))), (2, .int (nI (pr)))] [0, 1, 2, 3] rfl ?_
          rw [kfs] at hA
          first
          | rw [if_pos (Or.inl zc87)] at hA
          | rw [if_pos (Or.inr zc100)] at hA
          exact ih k1 (by omega) (mm + 1) w' s (by omega) (by omega) hI hA
theorem s_X4_pairFrom {X : kX} {d : Nat} {c w m v : kZ} {E : kH} {w0 : kZ} {P : Nat → Int32} {nl : Nat} (hnl : nl ≤ 9) : ∀ (kk l pr : Nat) (f : Nat → Int32) (s : kMs) (w' : kZ), l + kk = nl → pr ≤ l → kPm w0 P nl f s w' → WP X (d + kk + 1) 0 0 Y_X4_pairFrom 0 [(0, .ref 50), (1, .int (nI l)), (2, .int (nI pr))] [] (HP c w' m v E) (fun r h1 => r = none ∧ ∃ w1 : kZ, h1 = HP c w1 m v E ∧ kPm w0 P nl f (kpf P nl kk l pr f s) w1) := by
  intro kk
  induction kk with
  | zero =>
    intro l pr f s w' hlk hpr hI
    refine wp_iload_n 1 d_X4_pairFrom_0 rfl rfl ?_
    refine wp_aload_n 0 d_X4_pairFrom_1 rfl rfl ?_
    refine wp_getfield (v := .int (nI (nl))) d_X4_pairFrom_2 gf_X4_49 (hp_50 _ _ _ _ _) (congrArg (fun z => some (Value.int z)) hI.1.1) ?_
    refine wp_ncmp_lt (a := l) (b := nl) 38 d_X4_pairFrom_5 rfl (by omega) (by omega) (fun zc5 => ?_) (fun zc5 => ?_)
    · exact absurd zc5 (by omega)
    · refine wp_iload_n 2 d_X4_pairFrom_8 rfl rfl ?_
      refine wp_aload_n 0 d_X4_pairFrom_9 rfl rfl ?_
      refine wp_getfield (v := .int (s.1)) d_X4_pairFrom_10 gf_X4_104 (hp_50 _ _ _ _ _) (congrArg (fun z => some (Value.int z)) hI.2.1) ?_
      refine wp_icmp_gt 17 d_X4_pairFrom_13 rfl (fun zc13 => ?_) (fun zc13 => ?_)
      · refine wp_aload_n 0 d_X4_pairFrom_17 rfl rfl ?_
        refine wp_iload_n 2 d_X4_pairFrom_18 rfl rfl ?_
        refine wp_putfield (h' := HP c (setS w' 5013 (nI (pr))) m v E) d_X4_pairFrom_19 gp_X4_104 (kfit_i _) (hp_50 _ _ _ _ _) (Nat.le_of_ble_eq_true rfl) (hps_50_13 _ _ _ _ _ _) ?_
        refine wp_aload_n 0 d_X4_pairFrom_22 rfl rfl ?_
        refine wp_getfield (v := .ref (56)) d_X4_pairFrom_23 gf_X4_27 (hp_50 _ _ _ _ _) rfl ?_
        refine wp_iconst (v0 := 0) d_X4_pairFrom_26 rfl ?_
        refine wp_aload_n 0 d_X4_pairFrom_27 rfl rfl ?_
        refine wp_getfield (v := .ref (57)) d_X4_pairFrom_28 gf_X4_30 (hp_50 _ _ _ _ _) rfl ?_
        refine wp_iconst (v0 := 0) d_X4_pairFrom_31 rfl ?_
        refine wp_bipush (v0 := 9) d_X4_pairFrom_32 (by decide) ?_
        refine wp_arraycopy (h' := HP c (setA (setS w' 5013 (nI (pr))) 57 (va_cpy (w'.2.1 56) (w'.2.1 57) 0 0 9)) m v E) d_X4_pairFrom_34 ar_X4_94 ar_na ar_st ini_J10 (hp_56 _ _ _ _ _) (hp_57 _ _ _ _ _) (by decide) (by decide) (by decide) (by decide) (by decide) (Nat.le_of_ble_eq_true rfl) (hpa_57 _ _ _ _ _ _) ?_
        refine wp_vret d_X4_pairFrom_37 rfl ?_
        refine ⟨rfl, _, rfl, ?_⟩
        simp only [kpf]
        rw [if_neg (Int32.not_le.mpr zc13)]
        exact ⟨⟨hI.1.1, hI.1.2.1, hI.1.2.2⟩, rfl, fun j9 h9 => (k_cpy h9).trans (congrFun hI.1.2.2 j9), hI.2.2.2.tr ⟨fun k9 h9 => upd_n _ _ h9, fun k9 _ h9 => updA_n _ _ h9, rfl⟩⟩
      · refine wp_vret d_X4_pairFrom_16 rfl ?_
        exact ⟨rfl, w', rfl, by simp only [kpf]; rw [if_pos (Int32.not_lt.mp zc13)]; exact hI⟩
  | succ kk IH =>
    intro l pr f s w' hlk hpr hI
    refine wp_iload_n 1 d_X4_pairFrom_0 rfl rfl ?_
    refine wp_aload_n 0 d_X4_pairFrom_1 rfl rfl ?_
    refine wp_getfield (v := .int (nI (nl))) d_X4_pairFrom_2 gf_X4_49 (hp_50 _ _ _ _ _) (congrArg (fun z => some (Value.int z)) hI.1.1) ?_
    refine wp_ncmp_lt (a := l) (b := nl) 38 d_X4_pairFrom_5 rfl (by omega) (by omega) (fun zc5 => ?_) (fun zc5 => ?_)
    · refine wp_iload_n 2 d_X4_pairFrom_38 rfl rfl ?_
      refine wp_aload_n 0 d_X4_pairFrom_39 rfl rfl ?_
      refine wp_getfield (v := .int (nI (nl))) d_X4_pairFrom_40 gf_X4_49 (hp_50 _ _ _ _ _) (congrArg (fun z => some (Value.int z)) hI.1.1) ?_
      refine wp_iload_n 1 d_X4_pairFrom_43 rfl rfl ?_
      refine wp_isub d_X4_pairFrom_44 ?_
      refine wp_v (v0 := nI ((nl) - (l))) (pk_sub (a := nl) (b := l) (by omega)) ?_
      refine wp_iconst (v0 := 2) d_X4_pairFrom_45 rfl ?_
      refine wp_idiv d_X4_pairFrom_46 (by decide) ?_
      refine wp_iadd d_X4_pairFrom_47 ?_
      refine wp_aload_n 0 d_X4_pairFrom_48 rfl rfl ?_
      refine wp_getfield (v := .int (s.1)) d_X4_pairFrom_49 gf_X4_104 (hp_50 _ _ _ _ _) (congrArg (fun z => some (Value.int z)) hI.2.1) ?_
      refine wp_icmp_gt 56 d_X4_pairFrom_52 rfl (fun zc52 => ?_) (fun zc52 => ?_)
      · refine wp_aload_n 0 d_X4_pairFrom_56 rfl rfl ?_
        refine wp_getfield (v := .ref (56)) d_X4_pairFrom_57 gf_X4_27 (hp_50 _ _ _ _ _) rfl ?_
        refine wp_iload_n 1 d_X4_pairFrom_60 rfl rfl ?_
        refine wp_iaload (v := f l) d_X4_pairFrom_61 (hp_56 _ _ _ _ _) (vp_in_nI (by omega) (by omega)) ((congrArg ((w'.2.1 56)) (nI_clamp (by omega))).trans (congrFun hI.1.2.2 l)) ?_
        refine wp_bipush (v0 := -3) d_X4_pairFrom_62 (by decide) ?_
        refine wp_icmp_ne 152 d_X4_pairFrom_64 rfl (fun zc64 => ?_) (fun zc64 => ?_)
        · refine wp_aload_n 0 d_X4_pairFrom_152 rfl rfl ?_
          refine wp_iload_n 1 d_X4_pairFrom_153 rfl rfl ?_
          refine wp_iconst (v0 := 1) d_X4_pairFrom_154 rfl ?_
          refine wp_iadd d_X4_pairFrom_155 ?_
          refine wp_v (v0 := nI ((l) + (1))) (nI_add (l) (1)) ?_
          refine wp_iload_n 2 d_X4_pairFrom_156 rfl rfl ?_
          refine wp_virtual0 (As := [.int (nI ((l) + (1))), .int (nI (pr))]) d_X4_pairFrom_157 lk_X4_107 mv_X4_pairFrom in_X4_pairFrom se_X4_pairFrom (Nat.le_of_ble_eq_true rfl) (Nat.le_of_ble_eq_true rfl) (hp_50 _ _ _ _ _) rfl (IH (l + 1) pr f _ w' (by omega) (by omega) hI) (fun v157 h157 q157 => ?_)
          obtain ⟨rfl, w3, rfl, hI3⟩ := q157
          show WP _ _ _ _ _ 160 _ [] (HP c w3 m v E) _
          refine wp_vret d_X4_pairFrom_160 rfl ?_
          refine ⟨rfl, w3, rfl, ?_⟩
          simp only [kpf]
          rw [if_neg (Int32.not_le.mpr zc52), if_neg zc64]
          exact hI3
        · refine wp_iload_n 1 d_X4_pairFrom_67 rfl rfl ?_
          refine wp_iconst (v0 := 1) d_X4_pairFrom_68 rfl ?_
          refine wp_iadd d_X4_pairFrom_69 ?_
          refine wp_v (v0 := nI ((l) + (1))) (nI_add (l) (1)) ?_
          refine wp_istore_n [(3, .int (nI ((l) + (1)))), (0, .ref (50)), (1, .int (nI (l))), (2, .int (nI (pr)))] d_X4_pairFrom_70 rfl (Nat.le_of_ble_eq_true rfl) rfl ?_
          refine wp_sub [(3, .int (nI ((l) + (1)))), (0, .ref (50)), (1, .int (nI (l))), (2, .int (nI (pr)))] [0, 1, 2, 3] rfl ?_
          refine s_X4_pairFrom_l (w := w) hnl IH hlk hpr zc64 (fun w2 hI2 => ?_) (nl - (l + 1)) (l + 1) w' s (by omega) (by omega) hI rfl
          refine wp_aload_n 0 d_X4_pairFrom_152 rfl rfl ?_
          refine wp_iload_n 1 d_X4_pairFrom_153 rfl rfl ?_
          refine wp_iconst (v0 := 1) d_X4_pairFrom_154 rfl ?_
          refine wp_iadd d_X4_pairFrom_155 ?_
          refine wp_v (v0 := nI ((l) + (1))) (nI_add (l) (1)) ?_
          refine wp_iload_n 2 d_X4_pairFrom_156 rfl rfl ?_
          refine wp_virtual0 (As := [.int (nI ((l) + (1))), .int (nI (pr))]) d_X4_pairFrom_157 lk_X4_107 mv_X4_pairFrom in_X4_pairFrom se_X4_pairFrom (Nat.le_of_ble_eq_true rfl) (Nat.le_of_ble_eq_true rfl) (hp_50 _ _ _ _ _) rfl (IH (l + 1) pr f _ w2 (by omega) (by omega) hI2) (fun v157 h157 q157 => ?_)
          obtain ⟨rfl, w3, rfl, hI3⟩ := q157
          show WP _ _ _ _ _ 160 _ [] (HP c w3 m v E) _
          refine wp_vret d_X4_pairFrom_160 rfl ?_
          refine ⟨rfl, w3, rfl, ?_⟩
          simp only [kpf]
          rw [if_neg (Int32.not_le.mpr zc52), if_pos zc64]
          exact hI3
      · refine wp_vret d_X4_pairFrom_55 rfl ?_
        refine ⟨rfl, w', rfl, ?_⟩
        simp only [kpf]
        rw [if_pos (Int32.not_lt.mp zc52)]
        exact hI
    · exact absurd zc5 (by omega)
theorem s_X4_match {X : kX} {d : Nat} {c w m v : kZ} {E : kH} {n : Nat} (hn : c.1 100 = nI n) (hn9 : n ≤ 9) {rho cnt ka L : Nat} {code : Nat → Int32} (hrr : c.2.2.1 1 = rho) (hR : kRu E rho cnt ka L code) (hL : L < 2 ^ 20) (hc8 : cnt ≤ 8) (hwf : kWF code L cnt 0) (hk : ∀ j, j < n → 1 ≤ (c.2.1 2 j).toInt ∧ (c.2.1 2 j).toInt ≤ 5) {p : Nat} (hp : c.1 107 = nI p) (hp4 : p ≤ 4) (hln : ∀ j, j < p → vp_in (c.2.1 9 j) n) (hr0 : kRay w []) : WP X (d + 13) 0 0 Y_X4_match 0 [(0, .ref (50)), (1, .ref (1))] [] (HP c w m v E) (fun r h1 => r = none ∧ ∃ (w1 : kZ) (f1 f2 g2 : Nat → Int32), h1 = HP c w1 m v E ∧ (∀ j, j < 9 → f1 j = 0) ∧ (∀ j, j < 9 → f2 j = -3) ∧ w1.1 5013 = (kpf ((kTs c.2.1 code cnt n 2 f1).2.2.2) n n 0 0 f2 (-1, g2)).1 ∧ (∀ j, j < 9 → w1.2.1 57 j = (kpf ((kTs c.2.1 code cnt n 2 f1).2.2.2) n n 0 0 f2 (-1, g2)).2 j) ∧ kHf w w1 ∧ kRay w1 []) := by
  refine wp_aload_n 0 d_X4_match_0 rfl rfl ?_
  refine wp_aload_n 1 d_X4_match_1 rfl rfl ?_
  refine wp_iconst (v0 := 2) d_X4_match_2 rfl ?_
  refine wp_virtual0 (As := [.ref (1), .int (2)]) d_X4_match_3 lk_X4_100 mv_X4_lookAtTubes in_X4_lookAtTubes se_X4_lookAtTubes (Nat.le_of_ble_eq_true rfl) (Nat.le_of_ble_eq_true rfl) (hp_50 _ _ _ _ _) rfl (s_X4_lookAtTubes hn hn9 hrr hR hL hc8 hwf hk hp hp4 hln hr0 (N := 2) (by omega)) (fun v3 h3 q3 => ?_)
  obtain ⟨rfl, w1, f1, rfl, hf1, hI1⟩ := q3
  obtain ⟨⟨i1, i2, i3⟩, -, i4, -, -, i5, i6⟩ := id hI1
  show WP _ _ _ _ _ 6 _ [] (HP c w1 m v E) _
  refine wp_aload_n 0 d_X4_match_6 rfl rfl ?_
  refine wp_iconst (v0 := -1) d_X4_match_7 rfl ?_
  refine wp_putfield (h' := HP c (setS w1 5013 ((-1))) m v E) d_X4_match_8 gp_X4_104 (kfit_i _) (hp_50 _ _ _ _ _) (Nat.le_of_ble_eq_true rfl) (hps_50_13 _ _ _ _ _ _) ?_
  refine wp_aload_n 0 d_X4_match_11 rfl rfl ?_
  refine wp_getfield (v := .ref (56)) d_X4_match_12 gf_X4_27 (hp_50 _ _ _ _ _) rfl ?_
  refine wp_bipush (v0 := -3) d_X4_match_15 (by decide) ?_
  refine wp_static0 (As := [.ref (56), .int ((-3))]) d_X4_match_17 lk_X4_62 mv_J7_fill_53178 st_J7_fill_53178 (Nat.le_of_ble_eq_true rfl) (Nat.le_of_ble_eq_true rfl) (s_fill (by decide) (hp_56 _ _ _ _ _) ((-3))) (fun v17 h17 q17 => ?_)
  obtain ⟨rfl, f2, rfl, hf2⟩ := q17
  rw [hpa_56]
  show WP _ _ _ _ _ 20 _ [] (HP c (setA (setS w1 5013 ((-1))) 56 (f2)) m v E) _
  refine wp_aload_n 0 d_X4_match_20 rfl rfl ?_
  refine wp_iconst (v0 := 0) d_X4_match_21 rfl ?_
  refine wp_iconst (v0 := 0) d_X4_match_22 rfl ?_
  refine wp_virtual0 (As := [.int (0), .int (0)]) d_X4_match_23 lk_X4_107 mv_X4_pairFrom in_X4_pairFrom se_X4_pairFrom (Nat.le_of_ble_eq_true rfl) (Nat.le_of_ble_eq_true rfl) (hp_50 _ _ _ _ _) rfl (wp_depth (d := 0 + n + 1) (by omega) (s_X4_pairFrom (d := 0) (w := w) (w0 := w1) (P := w1.2.1 55) hn9 n 0 0 f2 (-1, w1.2.1 57) (setA (setS w1 5013 ((-1))) 56 (f2)) (by omega) (by omega) ⟨⟨i1, rfl, rfl⟩, rfl, fun _ _ => rfl, ⟨fun k9 h9 => upd_n _ _ h9, fun k9 h9 _ => updA_n _ _ h9, rfl⟩⟩)) (fun v23 h23 q23 => ?_)
  obtain ⟨rfl, w3, rfl, hI3⟩ := q23
  show WP _ _ _ _ _ 26 _ [] (HP c w3 m v E) _
  refine wp_vret d_X4_match_26 rfl ?_
  have e55 := i5.2.2.1
  obtain ⟨-, j2, j3, j4⟩ := hI3
  rw [e55] at j2 j3
  refine ⟨rfl, w3, f1, f2, w1.2.1 57, rfl, hf1, hf2, j2, j3, i6.tr j4.hf, kRay_0 i4 (fun k9 h9 h8 => by rw [j4.2.1 k9 (by omega) (by omega)])⟩
theorem s_X9_pairs {X : kX} {d : Nat} {c w m v : kZ} {E : kH} {n : Nat} (hn : c.1 100 = nI n) (hn9 : n ≤ 9) {rho cnt ka L : Nat} {code : Nat → Int32} (hrr : c.2.2.1 1 = rho) (hR : kRu E rho cnt ka L code) (hL : L < 2 ^ 20) (hc8 : cnt ≤ 8) (hwf : kWF code L cnt 0) (hk : ∀ j, j < n → 1 ≤ (c.2.1 2 j).toInt ∧ (c.2.1 2 j).toInt ≤ 5) {p : Nat} (hp : c.1 107 = nI p) (hp4 : p ≤ 4) (hln : ∀ j, j < p → vp_in (c.2.1 9 j) n) (hr0 : kRay w []) : WP X (d + 14) 0 0 Y_X9_pairs 0 [(0, .ref (0))] [] (HP c w m v E) (fun r h1 => (∃ f1 f2 g2 : Nat → Int32, (∀ j, j < 9 → f1 j = 0) ∧ (∀ j, j < 9 → f2 j = -3) ∧ r = some (.int ((kpf ((kTs c.2.1 code cnt n 2 f1).2.2.2) n n 0 0 f2 (-1, g2)).1))) ∧ ∃ w1 : kZ, h1 = HP c w1 m v E ∧ kHf w w1 ∧ kRay w1 []) := by
  refine wp_aload_n 0 d_X9_pairs_0 rfl rfl ?_
  refine wp_getfield (v := .ref (50)) d_X9_pairs_1 gf_X9_41 (hp_0 _ _ _ _ _) rfl ?_
  refine wp_aload_n 0 d_X9_pairs_4 rfl rfl ?_
  refine wp_getfield (v := .ref (1)) d_X9_pairs_5 gf_X9_12 (hp_0 _ _ _ _ _) rfl ?_
  refine wp_virtual0 (As := [.ref (1)]) d_X9_pairs_8 lk_X9_236 mv_X4_match in_X4_match se_X4_match (Nat.le_of_ble_eq_true rfl) (Nat.le_of_ble_eq_true rfl) (hp_50 _ _ _ _ _) rfl (s_X4_match hn hn9 hrr hR hL hc8 hwf hk hp hp4 hln hr0) (fun v8 h8 q8 => ?_)
  obtain ⟨rfl, w1, f1, f2, g2, rfl, hf1, hf2, m1, m2, i6, i4⟩ := q8
  show WP _ _ _ _ _ 11 _ [] (HP c w1 m v E) _
  refine wp_aload_n 0 d_X9_pairs_11 rfl rfl ?_
  refine wp_getfield (v := .ref (50)) d_X9_pairs_12 gf_X9_41 (hp_0 _ _ _ _ _) rfl ?_
  refine wp_getfield (v := .int ((kpf ((kTs c.2.1 code cnt n 2 f1).2.2.2) n n 0 0 f2 (-1, g2)).1)) d_X9_pairs_15 gf_X9_239 (hp_50 _ _ _ _ _) (congrArg (fun z => some (Value.int z)) m1) ?_
  refine wp_reti d_X9_pairs_18 rfl ?_
  exact ⟨⟨f1, f2, g2, hf1, hf2, rfl⟩, w1, rfl, i6, i4⟩
theorem s_X9_mate {X : kX} {d : Nat} {c w m v : kZ} {E : kH} {n : Nat} (hn : c.1 100 = nI n) (hn9 : n ≤ 9) {rho cnt ka L : Nat} {code : Nat → Int32} (hrr : c.2.2.1 1 = rho) (hR : kRu E rho cnt ka L code) (hL : L < 2 ^ 20) (hc8 : cnt ≤ 8) (hwf : kWF code L cnt 0) (hk : ∀ j, j < n → 1 ≤ (c.2.1 2 j).toInt ∧ (c.2.1 2 j).toInt ≤ 5) {p : Nat} (hp : c.1 107 = nI p) (hp4 : p ≤ 4) (hln : ∀ j, j < p → vp_in (c.2.1 9 j) n) (hr0 : kRay w []) (x : Int32) : WP X (d + 14) 0 0 Y_X9_mate 0 [(0, .ref (0)), (1, .int (x))] [] (HP c w m v E) (fun r h1 => (¬ (0 ≤ x.toInt ∧ x.toInt < (n : Int)) ∧ r = some (.int (-1)) ∧ h1 = HP c w m v E) ∨ ∃ l : Nat, l < n ∧ x = nI l ∧ (∃ f1 f2 g2 : Nat → Int32, (∀ j, j < 9 → f1 j = 0) ∧ (∀ j, j < 9 → f2 j = -3) ∧ r = some (.int ((kpf ((kTs c.2.1 code cnt n 2 f1).2.2.2) n n 0 0 f2 (-1, g2)).2 l))) ∧ ∃ w1 : kZ, h1 = HP c w1 m v E ∧ kHf w w1 ∧ kRay w1 []) := by
  refine wp_aload_n 0 d_X9_mate_0 rfl rfl ?_
  refine wp_getfield (v := .ref (1)) d_X9_mate_1 gf_X9_12 (hp_0 _ _ _ _ _) rfl ?_
  refine wp_iload_n 1 d_X9_mate_4 rfl rfl ?_
  refine wp_vrt_i (As := [.int (x)]) (x0 := kb (0 ≤ ((x) : Int32).toInt ∧ ((x) : Int32).toInt < (n : Int))) (h1 := HP c w m v E) d_X9_mate_5 lk_X9_118 mv_X1_hasLens in_X1_hasLens se_X1_hasLens (Nat.le_of_ble_eq_true rfl) (Nat.le_of_ble_eq_true rfl) (hp_1 _ _ _ _ _) rfl (s_X1_hasLens hn (by omega) (x)) ?_
  refine wp_ifb_ne 13 d_X9_mate_8 rfl (fun zc8 => ?_) (fun zc8 => ?_)
  · obtain ⟨l, hl, rfl⟩ := k_nat zc8
    refine wp_aload_n 0 d_X9_mate_13 rfl rfl ?_
    refine wp_getfield (v := .ref (50)) d_X9_mate_14 gf_X9_41 (hp_0 _ _ _ _ _) rfl ?_
    refine wp_aload_n 0 d_X9_mate_17 rfl rfl ?_
    refine wp_getfield (v := .ref (1)) d_X9_mate_18 gf_X9_12 (hp_0 _ _ _ _ _) rfl ?_
    refine wp_virtual0 (As := [.ref (1)]) d_X9_mate_21 lk_X9_236 mv_X4_match in_X4_match se_X4_match (Nat.le_of_ble_eq_true rfl) (Nat.le_of_ble_eq_true rfl) (hp_50 _ _ _ _ _) rfl (s_X4_match hn hn9 hrr hR hL hc8 hwf hk hp hp4 hln hr0) (fun v21 h21 q21 => ?_)
    obtain ⟨rfl, w1, f1, f2, g2, rfl, hf1, hf2, m1, m2, i6, i4⟩ := q21
    show WP _ _ _ _ _ 24 _ [] (HP c w1 m v E) _
    refine wp_aload_n 0 d_X9_mate_24 rfl rfl ?_
    refine wp_getfield (v := .ref (50)) d_X9_mate_25 gf_X9_41 (hp_0 _ _ _ _ _) rfl ?_
    refine wp_getfield (v := .ref (57)) d_X9_mate_28 gf_X9_242 (hp_50 _ _ _ _ _) rfl ?_
    refine wp_iload_n 1 d_X9_mate_31 rfl rfl ?_
    refine wp_iaload (v := (w1.2.1 57) (l)) d_X9_mate_32 (hp_57 _ _ _ _ _) (vp_in_nI (by omega) (by omega)) (congrArg ((w1.2.1 57)) (nI_clamp (by omega))) ?_
    refine wp_reti d_X9_mate_33 rfl ?_
    exact Or.inr ⟨l, hl, rfl, ⟨f1, f2, g2, hf1, hf2, congrArg (fun z => some (Value.int z)) (m2 l (by omega))⟩, w1, rfl, i6, i4⟩
  · refine wp_iconst (v0 := -1) d_X9_mate_11 rfl ?_
    refine wp_reti d_X9_mate_12 rfl ?_
    exact Or.inl ⟨zc8, rfl, rfl⟩
