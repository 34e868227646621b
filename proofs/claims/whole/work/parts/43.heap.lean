/-! ===== tubes from the heap: the class ===== -/
theorem kbt (u : Int32) {l : Nat} (hl : l < 31) : (u >>> (nI l &&& 31) &&& 1 = 1) ↔ u.toBitVec.getLsbD l = true := by
  have e31 : (nI l &&& 31).toBitVec.toNat = l := by
    have := nI_toInt (n := l) (by omega)
    rcases (by omega : l = 0 ∨ l = 1 ∨ l = 2 ∨ l = 3 ∨ l = 4 ∨ l = 5 ∨ l = 6 ∨ l = 7 ∨ l = 8 ∨ l = 9 ∨ l = 10 ∨ l = 11 ∨ l = 12 ∨ l = 13 ∨ l = 14 ∨ l = 15 ∨ l = 16 ∨ l = 17 ∨ l = 18 ∨ l = 19 ∨ l = 20 ∨ l = 21 ∨ l = 22 ∨ l = 23 ∨ l = 24 ∨ l = 25 ∨ l = 26 ∨ l = 27 ∨ l = 28 ∨ l = 29 ∨ l = 30) with e | e | e | e | e | e | e | e | e | e | e | e | e | e | e | e | e | e | e | e | e | e | e | e | e | e | e | e | e | e | e <;> subst e <;> rfl
  have e1 : (u >>> (nI l &&& 31) &&& 1).toBitVec = u.toBitVec.sshiftRight l &&& 1#32 := by
    show BitVec.sshiftRight' _ _ &&& _ = _
    rw [BitVec.sshiftRight']
    show u.toBitVec.sshiftRight ((nI l &&& 31).toBitVec.smod 32#32).toNat &&& _ = _
    have e2 : ((nI l &&& 31).toBitVec.smod 32#32).toNat = l := by
      rcases (by omega : l = 0 ∨ l = 1 ∨ l = 2 ∨ l = 3 ∨ l = 4 ∨ l = 5 ∨ l = 6 ∨ l = 7 ∨ l = 8 ∨ l = 9 ∨ l = 10 ∨ l = 11 ∨ l = 12 ∨ l = 13 ∨ l = 14 ∨ l = 15 ∨ l = 16 ∨ l = 17 ∨ l = 18 ∨ l = 19 ∨ l = 20 ∨ l = 21 ∨ l = 22 ∨ l = 23 ∨ l = 24 ∨ l = 25 ∨ l = 26 ∨ l = 27 ∨ l = 28 ∨ l = 29 ∨ l = 30) with e | e | e | e | e | e | e | e | e | e | e | e | e | e | e | e | e | e | e | e | e | e | e | e | e | e | e | e | e | e | e <;> subst e <;> rfl
    rw [e2]
    rfl
  have e3 : (u.toBitVec.sshiftRight l &&& 1#32 = 1#32) ↔ u.toBitVec.getLsbD l = true := by
    constructor
    · intro h
      have h0 := congrArg (fun b => b.getLsbD 0) h
      simp only [BitVec.getLsbD_and, BitVec.getLsbD_sshiftRight] at h0
      simpa [show l < 32 by omega] using h0
    · intro h
      apply BitVec.eq_of_getLsbD_eq
      intro i hi
      simp only [BitVec.getLsbD_and, BitVec.getLsbD_sshiftRight]
      rcases Nat.eq_zero_or_pos i with e | e
      · subst e; simp [h, show l < 32 by omega]
      · simp [BitVec.getLsbD_one, show ¬ i = 0 by omega]
  rw [← e3, ← e1]
  exact ⟨fun h => congrArg Int32.toBitVec h, fun h => Int32.toBitVec_inj.mp h⟩
theorem kbit_tp {l : Nat} (hl : l < 31) : (kbit l).toBitVec = BitVec.twoPow 32 l := by
  rcases (by omega : l = 0 ∨ l = 1 ∨ l = 2 ∨ l = 3 ∨ l = 4 ∨ l = 5 ∨ l = 6 ∨ l = 7 ∨ l = 8 ∨ l = 9 ∨ l = 10 ∨ l = 11 ∨ l = 12 ∨ l = 13 ∨ l = 14 ∨ l = 15 ∨ l = 16 ∨ l = 17 ∨ l = 18 ∨ l = 19 ∨ l = 20 ∨ l = 21 ∨ l = 22 ∨ l = 23 ∨ l = 24 ∨ l = 25 ∨ l = 26 ∨ l = 27 ∨ l = 28 ∨ l = 29 ∨ l = 30) with e | e | e | e | e | e | e | e | e | e | e | e | e | e | e | e | e | e | e | e | e | e | e | e | e | e | e | e | e | e | e <;> subst e <;> rfl
theorem kbit_bv {l : Nat} (hl : l < 31) (i : Nat) : (kbit l).toBitVec.getLsbD i = decide (l = i) := by
  rw [kbit_tp hl, BitVec.getLsbD_twoPow]
  simp [show l < 32 by omega]
/-- what a lens put into the set takes out again -/
theorem kub (u : Int32) {l : Nat} (hl : l < 31) (h : ¬ (u >>> (nI l &&& 31) &&& 1 = 1)) : (u ||| (1 <<< (nI l &&& 31))) &&& ((1 <<< (nI l &&& 31)) ^^^ (-1)) = u := by
  have hb : u.toBitVec.getLsbD l = false := by
    rw [kbt u hl] at h
    simpa using h
  apply Int32.toBitVec_inj.mp
  rw [Int32.toBitVec_and, Int32.toBitVec_or, Int32.toBitVec_xor]
  apply BitVec.eq_of_getLsbD_eq
  intro i hi
  have e1 : (-1 : Int32).toBitVec = BitVec.allOnes 32 := by decide
  have e2 := kbit_bv hl i
  unfold kbit at e2
  rw [BitVec.getLsbD_and, BitVec.getLsbD_or, BitVec.getLsbD_xor, e1, e2, BitVec.getLsbD_allOnes]
  by_cases e : l = i
  · subst e
    rw [hb]
    simp [hi]
  · simp [e, hi]
theorem k_two {α : Type} {l : List α} (h : l.length = 2) : ∃ a b, l = [a, b] := by
  match l, h with
  | [a, b], _ => exact ⟨a, b, rfl⟩
theorem s_fill {X : kX} {d : Nat} {h : kH} {a n : Nat} {f : Nat → Int32} (hn : n < 2 ^ 20) (hc : h[a]? = some (.inl (0, n, .inl f))) (x : Int32) : WP X d 0 0 Y_J7_fill_53178 0 [(0, .ref a), (1, .int x)] [] h (fun r h1 => r = none ∧ ∃ f1 : Nat → Int32, h1 = h.set a (.inl (0, n, .inl f1)) ∧ ∀ j, j < n → f1 j = x) := by
  have ha : a < h.length := by
    rcases Nat.lt_or_ge a h.length with q | q
    · exact q
    · rw [List.getElem?_eq_none q] at hc; cases hc
  have L : ∀ (k i : Nat) (g : Nat → Int32), i + k = n → (∀ j, j < i → g j = x) → WP X d 0 0 Y_J7_fill_53178 5 [(2, .int (nI i)), (3, .int (nI n)), (0, .ref a), (1, .int x)] [] (h.set a (.inl (0, n, .inl g))) (fun r h1 => r = none ∧ ∃ f1 : Nat → Int32, h1 = h.set a (.inl (0, n, .inl f1)) ∧ ∀ j, j < n → f1 j = x) := by
    intro k
    induction k with
    | zero =>
      intro i g hi hg
      refine wp_iload_n 0 d_J7_fill_53178_5 rfl rfl ?_
      refine wp_iload_n 1 d_J7_fill_53178_6 rfl rfl ?_
      refine wp_ncmp_ge (a := i) (b := n) 20 d_J7_fill_53178_7 rfl (by omega) (by omega) (fun _ => ?_) (fun q => absurd q (by omega))
      exact wp_vret d_J7_fill_53178_20 rfl ⟨rfl, g, rfl, fun j hj => hg j (by omega)⟩
    | succ k ih =>
      intro i g hi hg
      refine wp_iload_n 0 d_J7_fill_53178_5 rfl rfl ?_
      refine wp_iload_n 1 d_J7_fill_53178_6 rfl rfl ?_
      refine wp_ncmp_ge (a := i) (b := n) 20 d_J7_fill_53178_7 rfl (by omega) (by omega) (fun q => absurd q (by omega)) (fun _ => ?_)
      refine wp_aload_n 2 d_J7_fill_53178_10 rfl rfl ?_
      refine wp_iload_n 0 d_J7_fill_53178_11 rfl rfl ?_
      refine wp_iload_n 3 d_J7_fill_53178_12 rfl rfl ?_
      refine wp_iastore (h' := h.set a (.inl (0, n, .inl (upd g i x)))) (f := g) (n := n) d_J7_fill_53178_13 (by rw [List.getElem?_set_self ha]) (vp_in_nI (by omega) (by omega)) (by rw [nI_clamp (by omega), List.set_set]) ?_
      refine wp_iinc (v0 := nI (i + 1)) [(2, .int (nI (i + 1))), (3, .int (nI n)), (0, .ref a), (1, .int x)] 0 d_J7_fill_53178_14 rfl (nI_add i 1) (Nat.le_of_ble_eq_true rfl) rfl ?_
      refine wp_goto 5 d_J7_fill_53178_17 rfl ?_
      refine ih (i + 1) _ (by omega) (fun j hj => ?_)
      by_cases e : j = i
      · subst e; exact upd_s _ _ _
      · rw [upd_n _ _ e]; exact hg j (by omega)
  refine wp_iconst (v0 := 0) d_J7_fill_53178_0 rfl ?_
  refine wp_istore_n [(2, .int 0), (0, .ref a), (1, .int x)] d_J7_fill_53178_1 rfl (Nat.le_of_ble_eq_true rfl) rfl ?_
  refine wp_aload_n 1 d_J7_fill_53178_2 rfl rfl ?_
  refine wp_alen (v := nI n) d_J7_fill_53178_3 hc (Nat.le_of_ble_eq_true rfl) rfl ?_
  refine wp_istore_n [(3, .int (nI n)), (2, .int 0), (0, .ref a), (1, .int x)] d_J7_fill_53178_4 rfl (Nat.le_of_ble_eq_true rfl) rfl ?_
  refine wp_sub [(2, .int (nI 0)), (3, .int (nI n)), (0, .ref a), (1, .int x)] [1, 0, 2, 3] rfl ?_
  have L0 := L n 0 f (by omega) (fun j hj => absurd hj (by omega))
  rw [List_set_same _ _ _ hc] at L0
  exact L0
/-! the tubes' values -/
abbrev kTb : Type := List (Nat × Nat)
abbrev kAl : Type := Int32 × kTb × Int32 × (Nat → Int32)
def kent2 (st tl : Nat → Int32) (q : Nat × Nat) : Int32 × Int32 := (st q.1, kpush (tl q.1) (nI q.2))
def kjn (P : Nat → Int32) (l m : Nat) : Nat → Int32 := upd (upd P l (P l ||| kbit m)) m ((upd P l (P l ||| kbit m)) m ||| kbit l)
def kW2 (g e : Int32) (st tl : Nat → Int32) (pre : kTb) : Int32 := cwr g e (pre.map (kent2 st tl))
def kwg (g e lim : Int32) (st tl : Nat → Int32) (N : Nat) (pre : kTb) (wy : Int32) (a : kAl) : kAl :=
  (if a.1 = -1 ∨ kW2 g e st tl pre < a.1 then kW2 g e st tl pre else a.1, if a.1 = -1 ∨ kW2 g e st tl pre < a.1 then pre else a.2.1, if kW2 g e st tl pre ≤ lim then a.2.2.1 + wy else a.2.2.1, if kW2 g e st tl pre ≤ lim ∧ N = 2 then kjn a.2.2.2 ((pre.map Prod.fst).getD 0 0) ((pre.map Prod.fst).getD 1 0) else a.2.2.2)
def tfw {α : Type} (leaf : kTb → Int32 → α → α) (nl T : Nat) (wf : Nat → Int32 → Int32) : Nat → kTb → Int32 → Int32 → α → α
  | 0, pre, _, wy, a => leaf pre wy a
  | k + 1, pre, u, wy, a => (List.range' 0 nl).foldl (fun a l => if u >>> (nI l &&& 31) &&& 1 = 1 then a else (List.range' 0 T).foldl (fun a t => tfw leaf nl T wf k (pre ++ [(l, t)]) (u ||| kbit l) (wf t wy) a) a) a
/-- but for light and the heap's own -/
def kHf (w w' : kZ) : Prop := (∀ k, k < 4200 ∨ 4299 < k ∧ k < 5001 ∨ 5013 < k → w'.1 k = w.1 k) ∧ (∀ k, k < 43 ∨ 49 < k ∧ k < 51 ∨ 57 < k → w'.2.1 k = w.2.1 k) ∧ w'.2.2 = w.2.2
theorem kHf.rf (w : kZ) : kHf w w := ⟨fun _ _ => rfl, fun _ _ => rfl, rfl⟩
theorem kHf.tr {a b c : kZ} (h : kHf a b) (g : kHf b c) : kHf a c := ⟨fun k hk => (g.1 k hk).trans (h.1 k hk), fun k hk => (g.2.1 k hk).trans (h.2.1 k hk), g.2.2.trans h.2.2⟩
theorem kLa.hf {a b : kZ} (h : kLa a b) : kHf a b := ⟨fun k hk => h.1 k (by omega), fun k hk => h.2.1 k (by omega), h.2.2⟩
def kAr (a : kAl) (w : kZ) : Prop := w.1 5008 = a.1 ∧ w.1 5009 = a.2.2.1 ∧ w.2.1 55 = a.2.2.2 ∧ ∀ j (h : j < a.2.1.length), w.2.1 53 j = nI a.2.1[j].1 ∧ w.2.1 54 j = nI a.2.1[j].2
def kHw (w : kZ) (g e lim : Int32) (st tl : Nat → Int32) (nl N : Nat) (ll : List Nat) (pre : kTb) (u : Int32) (a : kAl) (w' : kZ) : Prop :=
  (w'.1 5001 = nI nl ∧ w'.1 5002 = nI N ∧ w'.1 5003 = u) ∧ kLd w' g e lim st tl nl ∧ kRay w' (pre.map (kent2 st tl)) ∧ (∀ j (h : j < ll.length), w'.2.1 51 j = nI ll[j]) ∧ (∀ j (h : j < pre.length), w'.2.1 52 j = nI pre[j].2) ∧ kAr a w' ∧ kHf w w'
/-- light passed on, behind the first places -/
theorem kHw.lf {w : kZ} {g e lim : Int32} {st tl : Nat → Int32} {nl N : Nat} {ll : List Nat} {pre : kTb} {u : Int32} {a : kAl} {w' w2 : kZ} (h : kHw w g e lim st tl nl N ll pre u a w') (f : kLf w' w2) (hr : kRay w2 (pre.map (kent2 st tl))) : kHw w g e lim st tl nl N ll pre u a w2 := by
  obtain ⟨⟨a1, a2, a3⟩, b, _, c, d, ⟨e1, e2, e3, e4⟩, k⟩ := h
  refine ⟨⟨(f.1 _ (by decide)).trans a1, (f.1 _ (by decide)).trans a2, (f.1 _ (by decide)).trans a3⟩, b.f f, hr, ?_, ?_, ⟨(f.1 _ (by decide)).trans e1, (f.1 _ (by decide)).trans e2, (f.2.1 _ (by decide)).trans e3, ?_⟩, k.tr f.a.hf⟩
  · rw [f.2.1 51 (by decide)]; exact c
  · rw [f.2.1 52 (by decide)]; exact d
  · rw [f.2.1 53 (by decide), f.2.1 54 (by decide)]; exact e4
/-- only what is told of the tubes changes -/
def kAf (w w3 : kZ) : Prop := (∀ k, k ≠ 5008 → k ≠ 5009 → w3.1 k = w.1 k) ∧ (∀ k, k < 53 ∨ 55 < k → w3.2.1 k = w.2.1 k) ∧ w3.2.2 = w.2.2
theorem kHw.al {w : kZ} {g e lim : Int32} {st tl : Nat → Int32} {nl N : Nat} {ll : List Nat} {pre : kTb} {u : Int32} {a a' : kAl} {w2 w3 : kZ} (h : kHw w g e lim st tl nl N ll pre u a w2) (f : kAf w2 w3) (hA : kAr a' w3) : kHw w g e lim st tl nl N ll pre u a' w3 := by
  obtain ⟨⟨a1, a2, a3⟩, ⟨b1, b2, b3, b4, b5⟩, c, d, d2, -, k⟩ := h
  refine ⟨⟨(f.1 _ (by decide) (by decide)).trans a1, (f.1 _ (by decide) (by decide)).trans a2, (f.1 _ (by decide) (by decide)).trans a3⟩, ⟨(f.1 _ (by decide) (by decide)).trans b1, (f.1 _ (by decide) (by decide)).trans b2, (f.1 _ (by decide) (by decide)).trans b3, ?_, ?_⟩, ?_, ?_, ?_, hA, k.tr ⟨fun k9 h9 => f.1 k9 (by omega) (by omega), fun k9 h9 => f.2.1 k9 (by omega), f.2.2⟩⟩
  · rw [f.2.1 44 (by decide)]; exact b4
  · rw [f.2.1 45 (by decide)]; exact b5
  · exact c.f (f.1 _ (by decide) (by decide)) (fun k9 _ => by rw [f.2.1 46 (by decide), f.2.1 47 (by decide), f.2.1 48 (by decide), f.2.1 49 (by decide)]; exact ⟨rfl, rfl, rfl, rfl⟩)
  · rw [f.2.1 51 (by decide)]; exact d
  · rw [f.2.1 52 (by decide)]; exact d2
theorem s_X4_join {X : kX} {d : Nat} {c w m v : kZ} {E : kH} {l m0 : Nat} (hl : l < 9) (hm0 : m0 < 9) : WP X d 0 0 Y_X4_join 0 [(0, .ref (50)), (1, .int (nI (l))), (2, .int (nI (m0)))] [] (HP c w m v E) (kR none (HP c (setA w 55 (kjn (w.2.1 55) l m0)) m v E)) := by
  refine wp_aload_n 0 d_X4_join_0 rfl rfl ?_
  refine wp_getfield (v := .ref (55)) d_X4_join_1 gf_X4_24 (hp_50 _ _ _ _ _) rfl ?_
  refine wp_iload_n 1 d_X4_join_4 rfl rfl ?_
  refine wp_dup2 d_X4_join_5 rfl rfl ?_
  refine wp_iaload (v := (w.2.1 55) (l)) d_X4_join_6 (hp_55 _ _ _ _ _) (vp_in_nI (by omega) (by omega)) (congrArg ((w.2.1 55)) (nI_clamp (by omega))) ?_
  refine wp_iconst (v0 := 1) d_X4_join_7 rfl ?_
  refine wp_iload_n 2 d_X4_join_8 rfl rfl ?_
  refine wp_ishl d_X4_join_9 ?_
  refine wp_ior d_X4_join_10 ?_
  refine wp_iastore (h' := HP c (setA w 55 (upd (w.2.1 55) (l) (((w.2.1 55) (l)) ||| ((1) <<< ((nI (m0)) &&& 31))))) m v E) d_X4_join_11 (hp_55 _ _ _ _ _) (vp_in_nI (by omega) (by omega)) (by rw [nI_clamp (by omega)]; exact (hpa_55 _ _ _ _ _ _)) ?_
  refine wp_aload_n 0 d_X4_join_12 rfl rfl ?_
  refine wp_getfield (v := .ref (55)) d_X4_join_13 gf_X4_24 (hp_50 _ _ _ _ _) rfl ?_
  refine wp_iload_n 2 d_X4_join_16 rfl rfl ?_
  refine wp_dup2 d_X4_join_17 rfl rfl ?_
  refine wp_iaload (v := (upd (w.2.1 55) (l) (((w.2.1 55) (l)) ||| ((1) <<< ((nI (m0)) &&& 31)))) (m0)) d_X4_join_18 (hp_55 _ _ _ _ _) (vp_in_nI (by omega) (by omega)) (congrArg ((upd (w.2.1 55) (l) (((w.2.1 55) (l)) ||| ((1) <<< ((nI (m0)) &&& 31))))) (nI_clamp (by omega))) ?_
  refine wp_iconst (v0 := 1) d_X4_join_19 rfl ?_
  refine wp_iload_n 1 d_X4_join_20 rfl rfl ?_
  refine wp_ishl d_X4_join_21 ?_
  refine wp_ior d_X4_join_22 ?_
  refine wp_iastore (h' := HP c (setA (setA w 55 (upd (w.2.1 55) (l) (((w.2.1 55) (l)) ||| ((1) <<< ((nI (m0)) &&& 31))))) 55 (upd (upd (w.2.1 55) (l) (((w.2.1 55) (l)) ||| ((1) <<< ((nI (m0)) &&& 31)))) (m0) (((upd (w.2.1 55) (l) (((w.2.1 55) (l)) ||| ((1) <<< ((nI (m0)) &&& 31)))) (m0)) ||| ((1) <<< ((nI (l)) &&& 31))))) m v E) d_X4_join_23 (hp_55 _ _ _ _ _) (vp_in_nI (by omega) (by omega)) (by rw [nI_clamp (by omega)]; exact (hpa_55 _ _ _ _ _ _)) ?_
  refine wp_vret d_X4_join_24 rfl ?_
  exact ⟨rfl, by rw [setA_idem]; rfl⟩
theorem s_X4_see {X : kX} {d : Nat} {c w m v : kZ} {E : kH} {w0 : kZ} {g e lim : Int32} {st tl : Nat → Int32} {nl N : Nat} (hN : N ≤ 3) {ll : List Nat} {pre : kTb} {u : Int32} {a : kAl} (hp : pre.length = N) (hI : kHw w0 g e lim st tl nl N ll pre u a w) : WP X (d + 1) 0 0 Y_X5_see 0 [(0, .ref (42)), (1, .int (nI N))] [] (HP c w m v E) (fun r h1 => r = none ∧ ∃ w2 : kZ, h1 = HP c w2 m v E ∧ kHw w0 g e lim st tl nl N ll pre u a w2 ∧ w2.1 4210 = nI (N + 1) ∧ kabs (w2.2.1 46 (N + 1)) + kabs (w2.2.1 48 (N + 1)) = kW2 g e st tl pre ∧ w2.1 4205 = lim) := by
  refine wp_mono ?_ (s_X5_see (p := N) (by omega))
  rintro r h1 ⟨rfl, rfl⟩
  have hd := hI.2.1
  have hr := hI.2.2.1.pass (p := N) (by rw [List.length_map]; exact hp.symm) (w.1 4204) 0
  have hr2 : kRay (setS (kpass w N (w.1 4204) 0) 4210 (nI (N + 1))) (pre.map (kent2 st tl) ++ [(e, 0)]) := by
    have := hr.f (w' := setS (kpass w N (w.1 4204) 0) 4210 (nI (N + 1))) rfl (fun _ _ => ⟨rfl, rfl, rfl, rfl⟩)
    rw [hd.2.1] at this ⊢
    exact this
  have hf : kLf w (setS (kpass w N (w.1 4204) 0) 4210 (nI (N + 1))) := (kpass_f w N _ _).tr ⟨fun k9 h9 => upd_n _ _ h9, fun _ _ => rfl, rfl⟩
  have hs : kSeen (setS (kpass w N (w.1 4204) 0) 4210 (nI (N + 1))) g e lim (pre.map (kent2 st tl)) := ⟨(hd.f hf).1, (hd.f hf).2.2.1, hr2, by rw [List.length_map, hp]; rfl⟩
  refine ⟨rfl, _, rfl, hI.lf hf ?_, rfl, ?_, (hd.f hf).2.2.1⟩
  · have h9 := hr2.len (j := N)
    rw [List.take_append_of_le_length (by rw [List.length_map]; omega), List.take_of_length_le (by rw [List.length_map]; omega)] at h9
    exact h9
  · have hA := hs.a
    have hB := hs.b
    rw [List.length_map, hp] at hA hB
    rw [hA, hB]
    rfl
theorem s_X4_weigh {X : kX} {d : Nat} {c w m v : kZ} {E : kH} {w0 : kZ} {g e lim : Int32} {st tl : Nat → Int32} {nl N : Nat} (hnl : nl ≤ 9) (hN : N ≤ 3) {pre : kTb} {u : Int32} {a : kAl} (hp : pre.length = N) (hv : ∀ q ∈ pre, q.1 < nl) (hI : kHw w0 g e lim st tl nl N (pre.map Prod.fst) pre u a w) (wy : Int32) : WP X (d + 4) 0 0 Y_X4_weigh 0 [(0, .ref (50)), (1, .int (wy))] [] (HP c w m v E) (fun r h1 => r = none ∧ ∃ w1 : kZ, h1 = HP c w1 m v E ∧ kHw w0 g e lim st tl nl N (pre.map Prod.fst) pre u (kwg g e lim st tl N pre wy a) w1) := by
  refine wp_aload_n 0 d_X4_weigh_0 rfl rfl ?_
  refine wp_getfield (v := .ref (42)) d_X4_weigh_1 gf_X4_33 (hp_50 _ _ _ _ _) rfl ?_
  refine wp_aload_n 0 d_X4_weigh_4 rfl rfl ?_
  refine wp_getfield (v := .int (nI (N))) d_X4_weigh_5 gf_X4_50 (hp_50 _ _ _ _ _) (congrArg (fun z => some (Value.int z)) hI.1.2.1) ?_
  refine wp_virtual0 (As := [.int (nI (N))]) d_X4_weigh_8 lk_X4_80 mv_X5_see in_X5_see se_X5_see (Nat.le_of_ble_eq_true rfl) (Nat.le_of_ble_eq_true rfl) (hp_42 _ _ _ _ _) rfl (s_X4_see hN hp hI) (fun v8 h8 q8 => ?_)
  obtain ⟨rfl, w2, rfl, hI2, he2, hW2, hL2⟩ := q8
  obtain ⟨⟨i1, i2, i3⟩, -, -, j1, j2, ⟨k1, k2, k3, k4⟩, -⟩ := id hI2
  have hl0 := j1
  have hz0 : ∀ j (h : j < pre.length), w2.2.1 51 j = nI pre[j].1 := fun j h => by have := j1 j (by rw [List.length_map]; exact h); rw [this, List.getElem_map]
  show WP _ _ _ _ _ 11 _ [] (HP c w2 m v E) _
  refine wp_aload_n 0 d_X4_weigh_11 rfl rfl ?_
  refine wp_getfield (v := .ref (42)) d_X4_weigh_12 gf_X4_33 (hp_50 _ _ _ _ _) rfl ?_
  refine wp_vrt_i (As := []) (x0 := kW2 g e st tl pre) (h1 := HP c w2 m v E) d_X4_weigh_15 lk_X4_83 mv_X5_wrongSeen in_X5_wrongSeen se_X5_wrongSeen (Nat.le_of_ble_eq_true rfl) (Nat.le_of_ble_eq_true rfl) (hp_42 _ _ _ _ _) rfl (hW2 ▸ s_X5_wrongSeen (X := X) (c := c) (w := w2) (m := m) (v := v) (E := E) he2 (by omega)) ?_
  refine wp_istore_n [(2, .int (kW2 g e st tl pre)), (0, .ref (50)), (1, .int (wy))] d_X4_weigh_18 rfl (Nat.le_of_ble_eq_true rfl) rfl ?_
  refine wp_aload_n 1 d_X4_weigh_19 rfl rfl ?_
  refine wp_getfield (v := .ref (42)) d_X4_weigh_20 gf_X4_33 (hp_50 _ _ _ _ _) rfl ?_
  refine wp_vrt_i (As := []) (x0 := kb (kabs (w2.2.1 46 (N + 1)) + kabs (w2.2.1 48 (N + 1)) ≤ w2.1 4205)) (h1 := HP c w2 m v E) d_X4_weigh_23 lk_X4_87 mv_X5_isMended in_X5_isMended se_X5_isMended (Nat.le_of_ble_eq_true rfl) (Nat.le_of_ble_eq_true rfl) (hp_42 _ _ _ _ _) rfl (s_X5_isMended (w := w2) he2 (by omega)) ?_
  refine wp_ifb_eq 63 d_X4_weigh_26 rfl (fun zc26 => ?_) (fun zc26 => ?_)
  · have hM : ¬ kW2 g e st tl pre ≤ lim := by rw [hW2, hL2] at zc26; exact zc26
    refine wp_aload_n 1 d_X4_weigh_63 rfl rfl ?_
    refine wp_getfield (v := .int (a.1)) d_X4_weigh_64 gf_X4_56 (hp_50 _ _ _ _ _) (congrArg (fun z => some (Value.int z)) k1) ?_
    refine wp_iconst (v0 := -1) d_X4_weigh_67 rfl ?_
    refine wp_icmp_eq 79 d_X4_weigh_68 rfl (fun zc68 => ?_) (fun zc68 => ?_)
    · have hU : a.1 = -1 ∨ kW2 g e st tl pre < a.1 := by
        first
          | exact Or.inl zc68
          | exact Or.inr (Int32.not_le.mp zc76)
      refine wp_aload_n 1 d_X4_weigh_79 rfl rfl ?_
      refine wp_iload_n 0 d_X4_weigh_80 rfl rfl ?_
      refine wp_putfield (h' := HP c (setS w2 5008 (kW2 g e st tl pre)) m v E) d_X4_weigh_81 gp_X4_56 (kfit_i _) (hp_50 _ _ _ _ _) (Nat.le_of_ble_eq_true rfl) (hps_50_8 _ _ _ _ _ _) ?_
      refine wp_aload_n 1 d_X4_weigh_84 rfl rfl ?_
      refine wp_getfield (v := .ref (51)) d_X4_weigh_85 gf_X4_9 (hp_50 _ _ _ _ _) rfl ?_
      refine wp_iconst (v0 := 0) d_X4_weigh_88 rfl ?_
      refine wp_aload_n 1 d_X4_weigh_89 rfl rfl ?_
      refine wp_getfield (v := .ref (53)) d_X4_weigh_90 gf_X4_18 (hp_50 _ _ _ _ _) rfl ?_
      refine wp_iconst (v0 := 0) d_X4_weigh_93 rfl ?_
      refine wp_iconst (v0 := 3) d_X4_weigh_94 rfl ?_
      refine wp_arraycopy (h' := HP c (setA (setS w2 5008 (kW2 g e st tl pre)) 53 (va_cpy (w2.2.1 51) (w2.2.1 53) 0 0 3)) m v E) d_X4_weigh_95 ar_X4_94 ar_na ar_st ini_J10 (hp_51 _ _ _ _ _) (hp_53 _ _ _ _ _) (by decide) (by decide) (by decide) (by decide) (by decide) (Nat.le_of_ble_eq_true rfl) (hpa_53 _ _ _ _ _ _) ?_
      refine wp_aload_n 1 d_X4_weigh_98 rfl rfl ?_
      refine wp_getfield (v := .ref (52)) d_X4_weigh_99 gf_X4_15 (hp_50 _ _ _ _ _) rfl ?_
      refine wp_iconst (v0 := 0) d_X4_weigh_102 rfl ?_
      refine wp_aload_n 1 d_X4_weigh_103 rfl rfl ?_
      refine wp_getfield (v := .ref (54)) d_X4_weigh_104 gf_X4_21 (hp_50 _ _ _ _ _) rfl ?_
      refine wp_iconst (v0 := 0) d_X4_weigh_107 rfl ?_
      refine wp_iconst (v0 := 3) d_X4_weigh_108 rfl ?_
      refine wp_arraycopy (h' := HP c (setA (setA (setS w2 5008 (kW2 g e st tl pre)) 53 (va_cpy (w2.2.1 51) (w2.2.1 53) 0 0 3)) 54 (va_cpy (w2.2.1 52) (w2.2.1 54) 0 0 3)) m v E) d_X4_weigh_109 ar_X4_94 ar_na ar_st ini_J10 (hp_52 _ _ _ _ _) (hp_54 _ _ _ _ _) (by decide) (by decide) (by decide) (by decide) (by decide) (Nat.le_of_ble_eq_true rfl) (hpa_54 _ _ _ _ _ _) ?_
      refine wp_vret d_X4_weigh_112 rfl ?_
      have hK : kwg g e lim st tl N pre wy a = (kW2 g e st tl pre, pre, a.2.2.1, a.2.2.2) := by
        unfold kwg
        rw [if_pos hU, if_pos hU, if_neg hM, if_neg (fun q => hM q.1)]
      rw [hK]
      refine ⟨rfl, _, rfl, hI2.al ⟨fun k9 h9 h8 => ?_, fun k9 h9 => ?_, rfl⟩ ⟨?_, ?_, ?_, ?_⟩⟩
      · simp only [setS, setA]; repeat rw [upd_n _ _ (by assumption)]
      · simp only [setS, setA]; repeat rw [updA_n _ _ (by omega)]
      · rfl
      · exact k2
      · exact k3
      · intro j9 h9
        exact ⟨(k_cpy (n := 3) (by have : j9 < pre.length := h9; omega)).trans (hz0 j9 h9), (k_cpy (n := 3) (by have : j9 < pre.length := h9; omega)).trans (j2 j9 h9)⟩
    · refine wp_iload_n 0 d_X4_weigh_71 rfl rfl ?_
      refine wp_aload_n 1 d_X4_weigh_72 rfl rfl ?_
      refine wp_getfield (v := .int (a.1)) d_X4_weigh_73 gf_X4_56 (hp_50 _ _ _ _ _) (congrArg (fun z => some (Value.int z)) k1) ?_
      refine wp_icmp_ge 112 d_X4_weigh_76 rfl (fun zc76 => ?_) (fun zc76 => ?_)
      · have hU : ¬ (a.1 = -1 ∨ kW2 g e st tl pre < a.1) := fun q => q.elim zc68 (fun q => absurd zc76 (Int32.not_le.mpr q))
        refine wp_vret d_X4_weigh_112 rfl ?_
        have hK : kwg g e lim st tl N pre wy a = (a.1, a.2.1, a.2.2.1, a.2.2.2) := by
          unfold kwg
          rw [if_neg hU, if_neg hU, if_neg hM, if_neg (fun q => hM q.1)]
        rw [hK]
        refine ⟨rfl, _, rfl, hI2.al ⟨fun k9 h9 h8 => ?_, fun k9 h9 => ?_, rfl⟩ ⟨?_, ?_, ?_, ?_⟩⟩
        · rfl
        · rfl
        · exact k1
        · exact k2
        · exact k3
        · exact k4
      · have hU : a.1 = -1 ∨ kW2 g e st tl pre < a.1 := by
          first
            | exact Or.inl zc68
            | exact Or.inr (Int32.not_le.mp zc76)
        refine wp_aload_n 1 d_X4_weigh_79 rfl rfl ?_
        refine wp_iload_n 0 d_X4_weigh_80 rfl rfl ?_
        refine wp_putfield (h' := HP c (setS w2 5008 (kW2 g e st tl pre)) m v E) d_X4_weigh_81 gp_X4_56 (kfit_i _) (hp_50 _ _ _ _ _) (Nat.le_of_ble_eq_true rfl) (hps_50_8 _ _ _ _ _ _) ?_
        refine wp_aload_n 1 d_X4_weigh_84 rfl rfl ?_
        refine wp_getfield (v := .ref (51)) d_X4_weigh_85 gf_X4_9 (hp_50 _ _ _ _ _) rfl ?_
        refine wp_iconst (v0 := 0) d_X4_weigh_88 rfl ?_
        refine wp_aload_n 1 d_X4_weigh_89 rfl rfl ?_
        refine wp_getfield (v := .ref (53)) d_X4_weigh_90 gf_X4_18 (hp_50 _ _ _ _ _) rfl ?_
        refine wp_iconst (v0 := 0) d_X4_weigh_93 rfl ?_
        refine wp_iconst (v0 := 3) d_X4_weigh_94 rfl ?_
        refine wp_arraycopy (h' := HP c (setA (setS w2 5008 (kW2 g e st tl pre)) 53 (va_cpy (w2.2.1 51) (w2.2.1 53) 0 0 3)) m v E) d_X4_weigh_95 ar_X4_94 ar_na ar_st ini_J10 (hp_51 _ _ _ _ _) (hp_53 _ _ _ _ _) (by decide) (by decide) (by decide) (by decide) (by decide) (Nat.le_of_ble_eq_true rfl) (hpa_53 _ _ _ _ _ _) ?_
        refine wp_aload_n 1 d_X4_weigh_98 rfl rfl ?_
        refine wp_getfield (v := .ref (52)) d_X4_weigh_99 gf_X4_15 (hp_50 _ _ _ _ _) rfl ?_
        refine wp_iconst (v0 := 0) d_X4_weigh_102 rfl ?_
        refine wp_aload_n 1 d_X4_weigh_103 rfl rfl ?_
        refine wp_getfield (v := .ref (54)) d_X4_weigh_104 gf_X4_21 (hp_50 _ _ _ _ _) rfl ?_
        refine wp_iconst (v0 := 0) d_X4_weigh_107 rfl ?_
        refine wp_iconst (v0 := 3) d_X4_weigh_108 rfl ?_
        refine wp_arraycopy (h' := HP c (setA (setA (setS w2 5008 (kW2 g e st tl pre)) 53 (va_cpy (w2.2.1 51) (w2.2.1 53) 0 0 3)) 54 (va_cpy (w2.2.1 52) (w2.2.1 54) 0 0 3)) m v E) d_X4_weigh_109 ar_X4_94 ar_na ar_st ini_J10 (hp_52 _ _ _ _ _) (hp_54 _ _ _ _ _) (by decide) (by decide) (by decide) (by decide) (by decide) (Nat.le_of_ble_eq_true rfl) (hpa_54 _ _ _ _ _ _) ?_
        refine wp_vret d_X4_weigh_112 rfl ?_
        have hK : kwg g e lim st tl N pre wy a = (kW2 g e st tl pre, pre, a.2.2.1, a.2.2.2) := by
          unfold kwg
          rw [if_pos hU, if_pos hU, if_neg hM, if_neg (fun q => hM q.1)]
        rw [hK]
        refine ⟨rfl, _, rfl, hI2.al ⟨fun k9 h9 h8 => ?_, fun k9 h9 => ?_, rfl⟩ ⟨?_, ?_, ?_, ?_⟩⟩
        · simp only [setS, setA]; repeat rw [upd_n _ _ (by assumption)]
        · simp only [setS, setA]; repeat rw [updA_n _ _ (by omega)]
        · rfl
        · exact k2
        · exact k3
        · intro j9 h9
          exact ⟨(k_cpy (n := 3) (by have : j9 < pre.length := h9; omega)).trans (hz0 j9 h9), (k_cpy (n := 3) (by have : j9 < pre.length := h9; omega)).trans (j2 j9 h9)⟩
  · have hM : kW2 g e st tl pre ≤ lim := by rw [hW2, hL2] at zc26; exact zc26
    refine wp_aload_n 1 d_X4_weigh_29 rfl rfl ?_
    refine wp_dup d_X4_weigh_30 rfl ?_
    refine wp_getfield (v := .int ((w2.1 5009))) d_X4_weigh_31 gf_X4_59 (hp_50 _ _ _ _ _) rfl ?_
    refine wp_iload_n 2 d_X4_weigh_34 rfl rfl ?_
    refine wp_iadd d_X4_weigh_35 ?_
    refine wp_putfield (h' := HP c (setS w2 5009 (((w2.1 5009)) + (wy))) m v E) d_X4_weigh_36 gp_X4_59 (kfit_i _) (hp_50 _ _ _ _ _) (Nat.le_of_ble_eq_true rfl) (hps_50_9 _ _ _ _ _ _) ?_
    refine wp_aload_n 1 d_X4_weigh_39 rfl rfl ?_
    refine wp_getfield (v := .int (nI (N))) d_X4_weigh_40 gf_X4_50 (hp_50 _ _ _ _ _) (congrArg (fun z => some (Value.int z)) i2) ?_
    refine wp_iconst (v0 := 2) d_X4_weigh_43 rfl ?_
    refine wp_ncmp_ne (a := N) (b := 2) 63 d_X4_weigh_44 rfl (by omega) (by omega) (fun zc44 => ?_) (fun zc44 => ?_)
    · refine wp_aload_n 1 d_X4_weigh_63 rfl rfl ?_
      refine wp_getfield (v := .int (a.1)) d_X4_weigh_64 gf_X4_56 (hp_50 _ _ _ _ _) (congrArg (fun z => some (Value.int z)) k1) ?_
      refine wp_iconst (v0 := -1) d_X4_weigh_67 rfl ?_
      refine wp_icmp_eq 79 d_X4_weigh_68 rfl (fun zc68 => ?_) (fun zc68 => ?_)
      · have hU : a.1 = -1 ∨ kW2 g e st tl pre < a.1 := by
          first
            | exact Or.inl zc68
            | exact Or.inr (Int32.not_le.mp zc76)
        refine wp_aload_n 1 d_X4_weigh_79 rfl rfl ?_
        refine wp_iload_n 0 d_X4_weigh_80 rfl rfl ?_
        refine wp_putfield (h' := HP c (setS (setS w2 5009 (((w2.1 5009)) + (wy))) 5008 (kW2 g e st tl pre)) m v E) d_X4_weigh_81 gp_X4_56 (kfit_i _) (hp_50 _ _ _ _ _) (Nat.le_of_ble_eq_true rfl) (hps_50_8 _ _ _ _ _ _) ?_
        refine wp_aload_n 1 d_X4_weigh_84 rfl rfl ?_
        refine wp_getfield (v := .ref (51)) d_X4_weigh_85 gf_X4_9 (hp_50 _ _ _ _ _) rfl ?_
        refine wp_iconst (v0 := 0) d_X4_weigh_88 rfl ?_
        refine wp_aload_n 1 d_X4_weigh_89 rfl rfl ?_
        refine wp_getfield (v := .ref (53)) d_X4_weigh_90 gf_X4_18 (hp_50 _ _ _ _ _) rfl ?_
        refine wp_iconst (v0 := 0) d_X4_weigh_93 rfl ?_
        refine wp_iconst (v0 := 3) d_X4_weigh_94 rfl ?_
        refine wp_arraycopy (h' := HP c (setA (setS (setS w2 5009 (((w2.1 5009)) + (wy))) 5008 (kW2 g e st tl pre)) 53 (va_cpy (w2.2.1 51) (w2.2.1 53) 0 0 3)) m v E) d_X4_weigh_95 ar_X4_94 ar_na ar_st ini_J10 (hp_51 _ _ _ _ _) (hp_53 _ _ _ _ _) (by decide) (by decide) (by decide) (by decide) (by decide) (Nat.le_of_ble_eq_true rfl) (hpa_53 _ _ _ _ _ _) ?_
        refine wp_aload_n 1 d_X4_weigh_98 rfl rfl ?_
        refine wp_getfield (v := .ref (52)) d_X4_weigh_99 gf_X4_15 (hp_50 _ _ _ _ _) rfl ?_
        refine wp_iconst (v0 := 0) d_X4_weigh_102 rfl ?_
        refine wp_aload_n 1 d_X4_weigh_103 rfl rfl ?_
        refine wp_getfield (v := .ref (54)) d_X4_weigh_104 gf_X4_21 (hp_50 _ _ _ _ _) rfl ?_
        refine wp_iconst (v0 := 0) d_X4_weigh_107 rfl ?_
        refine wp_iconst (v0 := 3) d_X4_weigh_108 rfl ?_
        refine wp_arraycopy (h' := HP c (setA (setA (setS (setS w2 5009 (((w2.1 5009)) + (wy))) 5008 (kW2 g e st tl pre)) 53 (va_cpy (w2.2.1 51) (w2.2.1 53) 0 0 3)) 54 (va_cpy (w2.2.1 52) (w2.2.1 54) 0 0 3)) m v E) d_X4_weigh_109 ar_X4_94 ar_na ar_st ini_J10 (hp_52 _ _ _ _ _) (hp_54 _ _ _ _ _) (by decide) (by decide) (by decide) (by decide) (by decide) (Nat.le_of_ble_eq_true rfl) (hpa_54 _ _ _ _ _ _) ?_
        refine wp_vret d_X4_weigh_112 rfl ?_
        have hK : kwg g e lim st tl N pre wy a = (kW2 g e st tl pre, pre, a.2.2.1 + wy, a.2.2.2) := by
          unfold kwg
          rw [if_pos hU, if_pos hU, if_pos hM, if_neg (fun q => zc44 q.2)]
        rw [hK]
        refine ⟨rfl, _, rfl, hI2.al ⟨fun k9 h9 h8 => ?_, fun k9 h9 => ?_, rfl⟩ ⟨?_, ?_, ?_, ?_⟩⟩
        · simp only [setS, setA]; repeat rw [upd_n _ _ (by assumption)]
        · simp only [setS, setA]; repeat rw [updA_n _ _ (by omega)]
        · rfl
        · exact congrArg (· + wy) k2
        · exact k3
        · intro j9 h9
          exact ⟨(k_cpy (n := 3) (by have : j9 < pre.length := h9; omega)).trans (hz0 j9 h9), (k_cpy (n := 3) (by have : j9 < pre.length := h9; omega)).trans (j2 j9 h9)⟩
      · refine wp_iload_n 0 d_X4_weigh_71 rfl rfl ?_
        refine wp_aload_n 1 d_X4_weigh_72 rfl rfl ?_
        refine wp_getfield (v := .int (a.1)) d_X4_weigh_73 gf_X4_56 (hp_50 _ _ _ _ _) (congrArg (fun z => some (Value.int z)) k1) ?_
        refine wp_icmp_ge 112 d_X4_weigh_76 rfl (fun zc76 => ?_) (fun zc76 => ?_)
        · have hU : ¬ (a.1 = -1 ∨ kW2 g e st tl pre < a.1) := fun q => q.elim zc68 (fun q => absurd zc76 (Int32.not_le.mpr q))
          refine wp_vret d_X4_weigh_112 rfl ?_
          have hK : kwg g e lim st tl N pre wy a = (a.1, a.2.1, a.2.2.1 + wy, a.2.2.2) := by
            unfold kwg
            rw [if_neg hU, if_neg hU, if_pos hM, if_neg (fun q => zc44 q.2)]
          rw [hK]
          refine ⟨rfl, _, rfl, hI2.al ⟨fun k9 h9 h8 => ?_, fun k9 h9 => ?_, rfl⟩ ⟨?_, ?_, ?_, ?_⟩⟩
          · simp only [setS, setA]; repeat rw [upd_n _ _ (by assumption)]
          · rfl
          · exact k1
          · exact congrArg (· + wy) k2
          · exact k3
          · exact k4
        · have hU : a.1 = -1 ∨ kW2 g e st tl pre < a.1 := by
            first
              | exact Or.inl zc68
              | exact Or.inr (Int32.not_le.mp zc76)
          refine wp_aload_n 1 d_X4_weigh_79 rfl rfl ?_
          refine wp_iload_n 0 d_X4_weigh_80 rfl rfl ?_
          refine wp_putfield (h' := HP c (setS (setS w2 5009 (((w2.1 5009)) + (wy))) 5008 (kW2 g e st tl pre)) m v E) d_X4_weigh_81 gp_X4_56 (kfit_i _) (hp_50 _ _ _ _ _) (Nat.le_of_ble_eq_true rfl) (hps_50_8 _ _ _ _ _ _) ?_
          refine wp_aload_n 1 d_X4_weigh_84 rfl rfl ?_
          refine wp_getfield (v := .ref (51)) d_X4_weigh_85 gf_X4_9 (hp_50 _ _ _ _ _) rfl ?_
          refine wp_iconst (v0 := 0) d_X4_weigh_88 rfl ?_
          refine wp_aload_n 1 d_X4_weigh_89 rfl rfl ?_
          refine wp_getfield (v := .ref (53)) d_X4_weigh_90 gf_X4_18 (hp_50 _ _ _ _ _) rfl ?_
          refine wp_iconst (v0 := 0) d_X4_weigh_93 rfl ?_
          refine wp_iconst (v0 := 3) d_X4_weigh_94 rfl ?_
          refine wp_arraycopy (h' := HP c (setA (setS (setS w2 5009 (((w2.1 5009)) + (wy))) 5008 (kW2 g e st tl pre)) 53 (va_cpy (w2.2.1 51) (w2.2.1 53) 0 0 3)) m v E) d_X4_weigh_95 ar_X4_94 ar_na ar_st ini_J10 (hp_51 _ _ _ _ _) (hp_53 _ _ _ _ _) (by decide) (by decide) (by decide) (by decide) (by decide) (Nat.le_of_ble_eq_true rfl) (hpa_53 _ _ _ _ _ _) ?_
          refine wp_aload_n 1 d_X4_weigh_98 rfl rfl ?_
          refine wp_getfield (v := .ref (52)) d_X4_weigh_99 gf_X4_15 (hp_50 _ _ _ _ _) rfl ?_
          refine wp_iconst (v0 := 0) d_X4_weigh_102 rfl ?_
          refine wp_aload_n 1 d_X4_weigh_103 rfl rfl ?_
          refine wp_getfield (v := .ref (54)) d_X4_weigh_104 gf_X4_21 (hp_50 _ _ _ _ _) rfl ?_
          refine wp_iconst (v0 := 0) d_X4_weigh_107 rfl ?_
          refine wp_iconst (v0 := 3) d_X4_weigh_108 rfl ?_
          refine wp_arraycopy (h' := HP c (setA (setA (setS (setS w2 5009 (((w2.1 5009)) + (wy))) 5008 (kW2 g e st tl pre)) 53 (va_cpy (w2.2.1 51) (w2.2.1 53) 0 0 3)) 54 (va_cpy (w2.2.1 52) (w2.2.1 54) 0 0 3)) m v E) d_X4_weigh_109 ar_X4_94 ar_na ar_st ini_J10 (hp_52 _ _ _ _ _) (hp_54 _ _ _ _ _) (by decide) (by decide) (by decide) (by decide) (by decide) (Nat.le_of_ble_eq_true rfl) (hpa_54 _ _ _ _ _ _) ?_
          refine wp_vret d_X4_weigh_112 rfl ?_
          have hK : kwg g e lim st tl N pre wy a = (kW2 g e st tl pre, pre, a.2.2.1 + wy, a.2.2.2) := by
            unfold kwg
            rw [if_pos hU, if_pos hU, if_pos hM, if_neg (fun q => zc44 q.2)]
          rw [hK]
          refine ⟨rfl, _, rfl, hI2.al ⟨fun k9 h9 h8 => ?_, fun k9 h9 => ?_, rfl⟩ ⟨?_, ?_, ?_, ?_⟩⟩
          · simp only [setS, setA]; repeat rw [upd_n _ _ (by assumption)]
          · simp only [setS, setA]; repeat rw [updA_n _ _ (by omega)]
          · rfl
          · exact congrArg (· + wy) k2
          · exact k3
          · intro j9 h9
            exact ⟨(k_cpy (n := 3) (by have : j9 < pre.length := h9; omega)).trans (hz0 j9 h9), (k_cpy (n := 3) (by have : j9 < pre.length := h9; omega)).trans (j2 j9 h9)⟩
    · obtain ⟨⟨l0, t0⟩, ⟨l1, t1⟩, hpre⟩ := k_two (hp.trans zc44)
      have hg0 : w2.2.1 51 0 = nI ((pre.map Prod.fst).getD 0 0) := by rw [hz0 0 (by omega)]; subst hpre; rfl
      have hg1 : w2.2.1 51 1 = nI ((pre.map Prod.fst).getD 1 0) := by rw [hz0 1 (by omega)]; subst hpre; rfl
      have hq0 : (pre.map Prod.fst).getD 0 0 < 9 := by have := hv (l0, t0) (by rw [hpre]; simp); subst hpre; simp; omega
      have hq1 : (pre.map Prod.fst).getD 1 0 < 9 := by have := hv (l1, t1) (by rw [hpre]; simp); subst hpre; simp; omega
      refine wp_aload_n 1 d_X4_weigh_47 rfl rfl ?_
      refine wp_aload_n 1 d_X4_weigh_48 rfl rfl ?_
      refine wp_getfield (v := .ref (51)) d_X4_weigh_49 gf_X4_9 (hp_50 _ _ _ _ _) rfl ?_
      refine wp_iconst (v0 := 0) d_X4_weigh_52 rfl ?_
      refine wp_iaload (v := nI ((pre.map Prod.fst).getD 0 0)) d_X4_weigh_53 (hp_51 _ _ _ _ _) (kin rfl) hg0 ?_
      refine wp_aload_n 1 d_X4_weigh_54 rfl rfl ?_
      refine wp_getfield (v := .ref (51)) d_X4_weigh_55 gf_X4_9 (hp_50 _ _ _ _ _) rfl ?_
      refine wp_iconst (v0 := 1) d_X4_weigh_58 rfl ?_
      refine wp_iaload (v := nI ((pre.map Prod.fst).getD 1 0)) d_X4_weigh_59 (hp_51 _ _ _ _ _) (kin rfl) hg1 ?_
      refine wp_vrt_v (As := [.int (nI ((pre.map Prod.fst).getD 0 0)), .int (nI ((pre.map Prod.fst).getD 1 0))]) (h1 := HP c (setA (setS w2 5009 (((w2.1 5009)) + (wy))) 55 (kjn (w2.2.1 55) ((pre.map Prod.fst).getD 0 0) ((pre.map Prod.fst).getD 1 0))) m v E) d_X4_weigh_60 lk_X4_91 mv_X4_join in_X4_join se_X4_join (Nat.le_of_ble_eq_true rfl) (Nat.le_of_ble_eq_true rfl) (hp_50 _ _ _ _ _) rfl (s_X4_join (l := (pre.map Prod.fst).getD 0 0) (m0 := (pre.map Prod.fst).getD 1 0) hq0 hq1) ?_
      refine wp_aload_n 1 d_X4_weigh_63 rfl rfl ?_
      refine wp_getfield (v := .int (a.1)) d_X4_weigh_64 gf_X4_56 (hp_50 _ _ _ _ _) (congrArg (fun z => some (Value.int z)) k1) ?_
      refine wp_iconst (v0 := -1) d_X4_weigh_67 rfl ?_
      refine wp_icmp_eq 79 d_X4_weigh_68 rfl (fun zc68 => ?_) (fun zc68 => ?_)
      · have hU : a.1 = -1 ∨ kW2 g e st tl pre < a.1 := by
          first
            | exact Or.inl zc68
            | exact Or.inr (Int32.not_le.mp zc76)
        refine wp_aload_n 1 d_X4_weigh_79 rfl rfl ?_
        refine wp_iload_n 0 d_X4_weigh_80 rfl rfl ?_
        refine wp_putfield (h' := HP c (setS (setA (setS w2 5009 (((w2.1 5009)) + (wy))) 55 (kjn (w2.2.1 55) ((pre.map Prod.fst).getD 0 0) ((pre.map Prod.fst).getD 1 0))) 5008 (kW2 g e st tl pre)) m v E) d_X4_weigh_81 gp_X4_56 (kfit_i _) (hp_50 _ _ _ _ _) (Nat.le_of_ble_eq_true rfl) (hps_50_8 _ _ _ _ _ _) ?_
        refine wp_aload_n 1 d_X4_weigh_84 rfl rfl ?_
        refine wp_getfield (v := .ref (51)) d_X4_weigh_85 gf_X4_9 (hp_50 _ _ _ _ _) rfl ?_
        refine wp_iconst (v0 := 0) d_X4_weigh_88 rfl ?_
        refine wp_aload_n 1 d_X4_weigh_89 rfl rfl ?_
        refine wp_getfield (v := .ref (53)) d_X4_weigh_90 gf_X4_18 (hp_50 _ _ _ _ _) rfl ?_
        refine wp_iconst (v0 := 0) d_X4_weigh_93 rfl ?_
        refine wp_iconst (v0 := 3) d_X4_weigh_94 rfl ?_
        refine wp_arraycopy (h' := HP c (setA (setS (setA (setS w2 5009 (((w2.1 5009)) + (wy))) 55 (kjn (w2.2.1 55) ((pre.map Prod.fst).getD 0 0) ((pre.map Prod.fst).getD 1 0))) 5008 (kW2 g e st tl pre)) 53 (va_cpy (w2.2.1 51) (w2.2.1 53) 0 0 3)) m v E) d_X4_weigh_95 ar_X4_94 ar_na ar_st ini_J10 (hp_51 _ _ _ _ _) (hp_53 _ _ _ _ _) (by decide) (by decide) (by decide) (by decide) (by decide) (Nat.le_of_ble_eq_true rfl) (hpa_53 _ _ _ _ _ _) ?_
        refine wp_aload_n 1 d_X4_weigh_98 rfl rfl ?_
        refine wp_getfield (v := .ref (52)) d_X4_weigh_99 gf_X4_15 (hp_50 _ _ _ _ _) rfl ?_
        refine wp_iconst (v0 := 0) d_X4_weigh_102 rfl ?_
        refine wp_aload_n 1 d_X4_weigh_103 rfl rfl ?_
        refine wp_getfield (v := .ref (54)) d_X4_weigh_104 gf_X4_21 (hp_50 _ _ _ _ _) rfl ?_
        refine wp_iconst (v0 := 0) d_X4_weigh_107 rfl ?_
        refine wp_iconst (v0 := 3) d_X4_weigh_108 rfl ?_
        refine wp_arraycopy (h' := HP c (setA (setA (setS (setA (setS w2 5009 (((w2.1 5009)) + (wy))) 55 (kjn (w2.2.1 55) ((pre.map Prod.fst).getD 0 0) ((pre.map Prod.fst).getD 1 0))) 5008 (kW2 g e st tl pre)) 53 (va_cpy (w2.2.1 51) (w2.2.1 53) 0 0 3)) 54 (va_cpy (w2.2.1 52) (w2.2.1 54) 0 0 3)) m v E) d_X4_weigh_109 ar_X4_94 ar_na ar_st ini_J10 (hp_52 _ _ _ _ _) (hp_54 _ _ _ _ _) (by decide) (by decide) (by decide) (by decide) (by decide) (Nat.le_of_ble_eq_true rfl) (hpa_54 _ _ _ _ _ _) ?_
        refine wp_vret d_X4_weigh_112 rfl ?_
        have hK : kwg g e lim st tl N pre wy a = (kW2 g e st tl pre, pre, a.2.2.1 + wy, kjn a.2.2.2 ((pre.map Prod.fst).getD 0 0) ((pre.map Prod.fst).getD 1 0)) := by
          unfold kwg
          rw [if_pos hU, if_pos hU, if_pos hM, if_pos ⟨hM, zc44⟩]
        rw [hK]
        refine ⟨rfl, _, rfl, hI2.al ⟨fun k9 h9 h8 => ?_, fun k9 h9 => ?_, rfl⟩ ⟨?_, ?_, ?_, ?_⟩⟩
        · simp only [setS, setA]; repeat rw [upd_n _ _ (by assumption)]
        · simp only [setS, setA]; repeat rw [updA_n _ _ (by omega)]
        · rfl
        · exact congrArg (· + wy) k2
        · exact congrArg (fun z => kjn z ((pre.map Prod.fst).getD 0 0) ((pre.map Prod.fst).getD 1 0)) k3
        · intro j9 h9
          exact ⟨(k_cpy (n := 3) (by have : j9 < pre.length := h9; omega)).trans (hz0 j9 h9), (k_cpy (n := 3) (by have : j9 < pre.length := h9; omega)).trans (j2 j9 h9)⟩
      · refine wp_iload_n 0 d_X4_weigh_71 rfl rfl ?_
        refine wp_aload_n 1 d_X4_weigh_72 rfl rfl ?_
        refine wp_getfield (v := .int (a.1)) d_X4_weigh_73 gf_X4_56 (hp_50 _ _ _ _ _) (congrArg (fun z => some (Value.int z)) k1) ?_
        refine wp_icmp_ge 112 d_X4_weigh_76 rfl (fun zc76 => ?_) (fun zc76 => ?_)
        · have hU : ¬ (a.1 = -1 ∨ kW2 g e st tl pre < a.1) := fun q => q.elim zc68 (fun q => absurd zc76 (Int32.not_le.mpr q))
          refine wp_vret d_X4_weigh_112 rfl ?_
          have hK : kwg g e lim st tl N pre wy a = (a.1, a.2.1, a.2.2.1 + wy, kjn a.2.2.2 ((pre.map Prod.fst).getD 0 0) ((pre.map Prod.fst).getD 1 0)) := by
            unfold kwg
            rw [if_neg hU, if_neg hU, if_pos hM, if_pos ⟨hM, zc44⟩]
          rw [hK]
          refine ⟨rfl, _, rfl, hI2.al ⟨fun k9 h9 h8 => ?_, fun k9 h9 => ?_, rfl⟩ ⟨?_, ?_, ?_, ?_⟩⟩
          · simp only [setS, setA]; repeat rw [upd_n _ _ (by assumption)]
          · simp only [setS, setA]; repeat rw [updA_n _ _ (by omega)]
          · exact k1
          · exact congrArg (· + wy) k2
          · exact congrArg (fun z => kjn z ((pre.map Prod.fst).getD 0 0) ((pre.map Prod.fst).getD 1 0)) k3
          · exact k4
        · have hU : a.1 = -1 ∨ kW2 g e st tl pre < a.1 := by
            first
              | exact Or.inl zc68
              | exact Or.inr (Int32.not_le.mp zc76)
          refine wp_aload_n 1 d_X4_weigh_79 rfl rfl ?_
          refine wp_iload_n 0 d_X4_weigh_80 rfl rfl ?_
          refine wp_putfield (h' := HP c (setS (setA (setS w2 5009 (((w2.1 5009)) + (wy))) 55 (kjn (w2.2.1 55) ((pre.map Prod.fst).getD 0 0) ((pre.map Prod.fst).getD 1 0))) 5008 (kW2 g e st tl pre)) m v E) d_X4_weigh_81 gp_X4_56 (kfit_i _) (hp_50 _ _ _ _ _) (Nat.le_of_ble_eq_true rfl) (hps_50_8 _ _ _ _ _ _) ?_
          refine wp_aload_n 1 d_X4_weigh_84 rfl rfl ?_
          refine wp_getfield (v := .ref (51)) d_X4_weigh_85 gf_X4_9 (hp_50 _ _ _ _ _) rfl ?_
          refine wp_iconst (v0 := 0) d_X4_weigh_88 rfl ?_
          refine wp_aload_n 1 d_X4_weigh_89 rfl rfl ?_
          refine wp_getfield (v := .ref (53)) d_X4_weigh_90 gf_X4_18 (hp_50 _ _ _ _ _) rfl ?_
          refine wp_iconst (v0 := 0) d_X4_weigh_93 rfl ?_
          refine wp_iconst (v0 := 3) d_X4_weigh_94 rfl ?_
          refine wp_arraycopy (h' := HP c (setA (setS (setA (setS w2 5009 (((w2.1 5009)) + (wy))) 55 (kjn (w2.2.1 55) ((pre.map Prod.fst).getD 0 0) ((pre.map Prod.fst).getD 1 0))) 5008 (kW2 g e st tl pre)) 53 (va_cpy (w2.2.1 51) (w2.2.1 53) 0 0 3)) m v E) d_X4_weigh_95 ar_X4_94 ar_na ar_st ini_J10 (hp_51 _ _ _ _ _) (hp_53 _ _ _ _ _) (by decide) (by decide) (by decide) (by decide) (by decide) (Nat.le_of_ble_eq_true rfl) (hpa_53 _ _ _ _ _ _) ?_
          refine wp_aload_n 1 d_X4_weigh_98 rfl rfl ?_
          refine wp_getfield (v := .ref (52)) d_X4_weigh_99 gf_X4_15 (hp_50 _ _ _ _ _) rfl ?_
          refine wp_iconst (v0 := 0) d_X4_weigh_102 rfl ?_
          refine wp_aload_n 1 d_X4_weigh_103 rfl rfl ?_
          refine wp_getfield (v := .ref (54)) d_X4_weigh_104 gf_X4_21 (hp_50 _ _ _ _ _) rfl ?_
          refine wp_iconst (v0 := 0) d_X4_weigh_107 rfl ?_
          refine wp_iconst (v0 := 3) d_X4_weigh_108 rfl ?_
          refine wp_arraycopy (h' := HP c (setA (setA (setS (setA (setS w2 5009 (((w2.1 5009)) + (wy))) 55 (kjn (w2.2.1 55) ((pre.map Prod.fst).getD 0 0) ((pre.map Prod.fst).getD 1 0))) 5008 (kW2 g e st tl pre)) 53 (va_cpy (w2.2.1 51) (w2.2.1 53) 0 0 3)) 54 (va_cpy (w2.2.1 52) (w2.2.1 54) 0 0 3)) m v E) d_X4_weigh_109 ar_X4_94 ar_na ar_st ini_J10 (hp_52 _ _ _ _ _) (hp_54 _ _ _ _ _) (by decide) (by decide) (by decide) (by decide) (by decide) (Nat.le_of_ble_eq_true rfl) (hpa_54 _ _ _ _ _ _) ?_
          refine wp_vret d_X4_weigh_112 rfl ?_
          have hK : kwg g e lim st tl N pre wy a = (kW2 g e st tl pre, pre, a.2.2.1 + wy, kjn a.2.2.2 ((pre.map Prod.fst).getD 0 0) ((pre.map Prod.fst).getD 1 0)) := by
            unfold kwg
            rw [if_pos hU, if_pos hU, if_pos hM, if_pos ⟨hM, zc44⟩]
          rw [hK]
          refine ⟨rfl, _, rfl, hI2.al ⟨fun k9 h9 h8 => ?_, fun k9 h9 => ?_, rfl⟩ ⟨?_, ?_, ?_, ?_⟩⟩
          · simp only [setS, setA]; repeat rw [upd_n _ _ (by assumption)]
          · simp only [setS, setA]; repeat rw [updA_n _ _ (by omega)]
          · rfl
          · exact congrArg (· + wy) k2
          · exact congrArg (fun z => kjn z ((pre.map Prod.fst).getD 0 0) ((pre.map Prod.fst).getD 1 0)) k3
          · intro j9 h9
            exact ⟨(k_cpy (n := 3) (by have : j9 < pre.length := h9; omega)).trans (hz0 j9 h9), (k_cpy (n := 3) (by have : j9 < pre.length := h9; omega)).trans (j2 j9 h9)⟩
theorem kfs {α : Type} (f : α → Nat → α) (a : α) (s k : Nat) : (List.range' s (k + 1)).foldl f a = (List.range' (s + 1) k).foldl f (f a s) := by rw [List.range'_succ, List.foldl_cons]
def wfc (t : Nat) (wy : Int32) : Int32 := if t = 1 then 2 * wy else wy
theorem kHw.enter {w : kZ} {g e lim : Int32} {st tl : Nat → Int32} {nl N : Nat} {pre : kTb} {u : Int32} {a : kAl} {w' : kZ} (h : kHw w g e lim st tl nl N (pre.map Prod.fst) pre u a w') (l : Nat) : kHw w g e lim st tl nl N (pre.map Prod.fst ++ [l]) pre (u ||| kbit l) a (setA (setS w' 5003 (u ||| kbit l)) 51 (upd (w'.2.1 51) pre.length (nI l))) := by
  obtain ⟨⟨a1, a2, a3⟩, b, r, c, d, e1, k⟩ := h
  refine ⟨⟨a1, a2, rfl⟩, b, r, ?_, d, e1, k.tr ⟨fun k9 h9 => upd_n _ _ (by omega), fun k9 h9 => updA_n _ _ (by omega), rfl⟩⟩
  intro j hj
  show upd (w'.2.1 51) pre.length (nI l) j = _
  by_cases q : j = pre.length
  · subst q
    rw [upd_s, List.getElem_append_right (by simp)]
    simp
  · rw [List.length_append, List.length_map] at hj
    simp only [List.length_cons, List.length_nil] at hj
    rw [upd_n _ _ q, List.getElem_append_left (by rw [List.length_map]; omega)]
    exact c j (by rw [List.length_map]; omega)
theorem kHw.leave {w : kZ} {g e lim : Int32} {st tl : Nat → Int32} {nl N : Nat} {pre : kTb} {u u' : Int32} {a : kAl} {w2 : kZ} {l : Nat} (h : kHw w g e lim st tl nl N (pre.map Prod.fst ++ [l]) pre u' a w2) : kHw w g e lim st tl nl N (pre.map Prod.fst) pre u a (setS w2 5003 u) := by
  obtain ⟨⟨a1, a2, a3⟩, b, r, c, d, e1, k⟩ := h
  refine ⟨⟨a1, a2, rfl⟩, b, r, ?_, d, e1, k.tr ⟨fun k9 h9 => upd_n _ _ (by omega), fun _ _ => rfl, rfl⟩⟩
  intro j hj
  have := c j (by rw [List.length_append]; omega)
  rw [List.getElem_append_left hj] at this
  exact this
theorem kHw.push {w : kZ} {g e lim : Int32} {st tl : Nat → Int32} {nl N : Nat} {pre : kTb} {u : Int32} {a : kAl} {w' : kZ} {l t p : Nat} (hp : pre.length = p) (hl : l < nl) (hnl : nl ≤ 9) (h : kHw w g e lim st tl nl N (pre.map Prod.fst ++ [l]) pre u a w') : kHw w g e lim st tl nl N ((pre ++ [(l, t)]).map Prod.fst) (pre ++ [(l, t)]) u a (kpass (setA w' 52 (upd (w'.2.1 52) p (nI t))) p ((setA w' 52 (upd (w'.2.1 52) p (nI t))).2.1 44 l) (kpush ((setA w' 52 (upd (w'.2.1 52) p (nI t))).2.1 45 l) (nI t))) := by
  subst hp
  obtain ⟨⟨a1, a2, a3⟩, b, r, c, d, ⟨e1, e2, e3, e4⟩, k⟩ := h
  have f0 : ∀ k, k < 46 ∨ 49 < k → k ≠ 52 → (kpass (setA w' 52 (upd (w'.2.1 52) pre.length (nI t))) pre.length ((setA w' 52 (upd (w'.2.1 52) pre.length (nI t))).2.1 44 l) (kpush ((setA w' 52 (upd (w'.2.1 52) pre.length (nI t))).2.1 45 l) (nI t))).2.1 k = w'.2.1 k := fun k h1 h2 => ((kpass_f _ _ _ _).2.1 k h1).trans (updA_n _ _ h2)
  have g1 : (setA w' 52 (upd (w'.2.1 52) pre.length (nI t))).2.1 44 l = st l := b.2.2.2.1 l hl
  have g2 : (setA w' 52 (upd (w'.2.1 52) pre.length (nI t))).2.1 45 l = tl l := b.2.2.2.2 l (by omega)
  have r1 : kRay (setA w' 52 (upd (w'.2.1 52) pre.length (nI t))) (pre.map (kent2 st tl)) := r.f rfl (fun _ _ => ⟨rfl, rfl, rfl, rfl⟩)
  have r2 := r1.pass (p := pre.length) (by rw [List.length_map]) (st l) (kpush (tl l) (nI t))
  refine ⟨⟨a1, a2, a3⟩, ⟨b.1, b.2.1, b.2.2.1, ?_, ?_⟩, ?_, ?_, ?_, ⟨e1, e2, ?_, ?_⟩, k.tr ⟨fun _ _ => rfl, fun k9 h9 => f0 k9 (by omega) (by omega), rfl⟩⟩
  · rw [f0 44 (by decide) (by decide)]; exact b.2.2.2.1
  · rw [f0 45 (by decide) (by decide)]; exact b.2.2.2.2
  · rw [g1, g2, List.map_append]; exact r2
  · rw [f0 51 (by decide) (by decide), List.map_append]; exact c
  · intro j hj
    have e9 : (kpass (setA w' 52 (upd (w'.2.1 52) pre.length (nI t))) pre.length ((setA w' 52 (upd (w'.2.1 52) pre.length (nI t))).2.1 44 l) (kpush ((setA w' 52 (upd (w'.2.1 52) pre.length (nI t))).2.1 45 l) (nI t))).2.1 52 = upd (w'.2.1 52) pre.length (nI t) := ((kpass_f _ _ _ _).2.1 52 (by decide)).trans rfl
    rw [e9]
    by_cases q : j = pre.length
    · subst q
      rw [upd_s, List.getElem_append_right (by simp)]
      simp
    · rw [List.length_append] at hj
      simp only [List.length_cons, List.length_nil] at hj
      rw [upd_n _ _ q, List.getElem_append_left (by omega)]
      exact d j (by omega)
  · rw [f0 55 (by decide) (by decide)]; exact e3
  · rw [f0 53 (by decide) (by decide), f0 54 (by decide) (by decide)]; exact e4
theorem kHw.pop {w : kZ} {g e lim : Int32} {st tl : Nat → Int32} {nl N : Nat} {pre : kTb} {u : Int32} {a : kAl} {w1 : kZ} {l t : Nat} (h : kHw w g e lim st tl nl N ((pre ++ [(l, t)]).map Prod.fst) (pre ++ [(l, t)]) u a w1) : kHw w g e lim st tl nl N (pre.map Prod.fst ++ [l]) pre u a w1 := by
  obtain ⟨a1, b, r, c, d, e1, k⟩ := h
  refine ⟨a1, b, ?_, ?_, ?_, e1, k⟩
  · rw [List.map_append] at r
    have := r.len (j := pre.length)
    rw [List.take_append_of_le_length (by simp), List.take_of_length_le (by simp)] at this
    exact this
  · rw [List.map_append] at c
    exact c
  · intro j hj
    have := d j (by rw [List.length_append]; omega)
    rw [List.getElem_append_left hj] at this
    exact this
theorem s_X4_walk_t {X : kX} {d : Nat} {c w m v : kZ} {E : kH} {w0 : kZ} {g e lim : Int32} {st tl : Nat → Int32} {nl N : Nat} (hnl : nl ≤ 9) (hN : N ≤ 3) {kk : Nat} (IH : ∀ (pre : kTb) (p : Nat) (u wy : Int32) (a : kAl) (w' : kZ), pre.length = p → p + kk = N → (∀ q ∈ pre, q.1 < nl) → kHw w0 g e lim st tl nl N (pre.map Prod.fst) pre u a w' → WP X (d + kk + 6) 0 0 Y_X4_walk 0 [(0, .ref 50), (1, .int (nI p)), (2, .int wy)] [] (HP c w' m v E) (fun r h1 => r = none ∧ ∃ w1 : kZ, h1 = HP c w1 m v E ∧ kHw w0 g e lim st tl nl N (pre.map Prod.fst) pre u (tfw (kwg g e lim st tl N) nl 3 wfc kk pre u wy a) w1)) {pre : kTb} {p : Nat} {u : Int32} (hp : pre.length = p) (hpk : p + (kk + 1) = N) (hv : ∀ q ∈ pre, q.1 < nl) (wy : Int32) {l : Nat} (hl : l < nl) {A : kAl} {Q : Option Value → kH → Prop} (K : ∀ w2 : kZ, kHw w0 g e lim st tl nl N (pre.map Prod.fst ++ [l]) pre (u ||| kbit l) A w2 → WP X (d + kk + 7) 0 0 Y_X4_walk 112 [(3, .int (nI l)), (0, .ref 50), (1, .int (nI p)), (2, .int wy)] [] (HP c w2 m v E) Q) : ∀ (k : Nat) (t : Nat) (w' : kZ) (a : kAl), (t + k = 3) → (kHw w0 g e lim st tl nl N (pre.map Prod.fst ++ [l]) pre (u ||| kbit l) a w') → ((List.range' t k).foldl (fun a t => tfw (kwg g e lim st tl N) nl 3 wfc kk (pre ++ [(l, t)]) (u ||| kbit l) (wfc t wy) a) a = A) → WP X (d + kk + 7) 0 0 Y_X4_walk 61 [(4, .int (nI (t))), (3, .int (nI (l))), (0, .ref (50)), (1, .int (nI (p))), (2, .int (wy))] [] (HP c w' m v E) Q := by
  intro k
  induction k using Nat.strongRecOn with
  | ind k ih =>
    intro t w' a ht hI hA
    refine wp_iload 0 d_X4_walk_61 rfl ?_
    refine wp_iconst (v0 := 3) d_X4_walk_63 rfl ?_
    refine wp_ncmp_ge (a := t) (b := 3) 112 d_X4_walk_64 rfl (by omega) (by omega) (fun zc64 => ?_) (fun zc64 => ?_)
    · obtain rfl : k = 0 := by omega
      obtain rfl : a = A := hA
      refine wp_sub [(3, .int (nI l)), (0, .ref 50), (1, .int (nI p)), (2, .int wy)] [1, 2, 3, 4] rfl ?_
      exact K w' hI
    · refine wp_aload_n 2 d_X4_walk_67 rfl rfl ?_
      refine wp_getfield (v := .ref (52)) d_X4_walk_68 gf_X4_15 (hp_50 _ _ _ _ _) rfl ?_
      refine wp_iload_n 3 d_X4_walk_71 rfl rfl ?_
      refine wp_iload 0 d_X4_walk_72 rfl ?_
      refine wp_iastore (h' := HP c (setA w' 52 (upd (w'.2.1 52) (p) (nI (t)))) m v E) d_X4_walk_74 (hp_52 _ _ _ _ _) (vp_in_nI (by omega) (by omega)) (by rw [nI_clamp (by omega)]; exact (hpa_52 _ _ _ _ _ _)) ?_
      refine wp_aload_n 2 d_X4_walk_75 rfl rfl ?_
      refine wp_getfield (v := .ref (42)) d_X4_walk_76 gf_X4_33 (hp_50 _ _ _ _ _) rfl ?_
      refine wp_iload_n 3 d_X4_walk_79 rfl rfl ?_
      refine wp_iload_n 1 d_X4_walk_80 rfl rfl ?_
      refine wp_iload 0 d_X4_walk_81 rfl ?_
      refine wp_vrt_v (As := [.int (nI (p)), .int (nI (l)), .int (nI (t))]) (h1 := HP c (kpass (setA w' 52 (upd (w'.2.1 52) (p) (nI (t)))) p ((setA w' 52 (upd (w'.2.1 52) (p) (nI (t)))).2.1 44 l) (kpush ((setA w' 52 (upd (w'.2.1 52) (p) (nI (t)))).2.1 45 l) (nI (t)))) m v E) d_X4_walk_83 lk_X4_76 mv_X5_put in_X5_put se_X5_put (Nat.le_of_ble_eq_true rfl) (Nat.le_of_ble_eq_true rfl) (hp_42 _ _ _ _ _) rfl (s_X5_put (w := (setA w' 52 (upd (w'.2.1 52) (p) (nI (t))))) (p := p) (l := l) (by omega) (by omega) (nI (t))) ?_
      refine wp_aload_n 2 d_X4_walk_86 rfl rfl ?_
      refine wp_iload_n 3 d_X4_walk_87 rfl rfl ?_
      refine wp_iconst (v0 := 1) d_X4_walk_88 rfl ?_
      refine wp_iadd d_X4_walk_89 ?_
      refine wp_v (v0 := nI ((p) + (1))) (nI_add (p) (1)) ?_
      refine wp_iload 0 d_X4_walk_90 rfl ?_
      refine wp_iconst (v0 := 1) d_X4_walk_92 rfl ?_
      refine wp_ncmp_ne (a := t) (b := 1) 102 d_X4_walk_93 rfl (by omega) (by omega) (fun zc93 => ?_) (fun zc93 => ?_)
      · refine wp_iload_n 4 d_X4_walk_102 rfl rfl ?_
        refine wp_virtual0 (As := [.int (nI ((p) + (1))), .int (wy)]) d_X4_walk_103 lk_X4_68 mv_X4_walk in_X4_walk se_X4_walk (Nat.le_of_ble_eq_true rfl) (Nat.le_of_ble_eq_true rfl) (hp_50 _ _ _ _ _) rfl (IH (pre ++ [(l, t)]) (p + 1) (u ||| kbit l) (wy) a _ (by rw [List.length_append]; simp only [List.length_cons, List.length_nil]; omega) (by omega) (by intro q9 h9; rw [List.mem_append, List.mem_singleton] at h9; rcases h9 with h9 | h9; exact hv q9 h9; rw [h9]; exact hl) (hI.push (t := t) hp hl hnl)) (fun v103 h103 q103 => ?_)
        obtain ⟨rfl, w2, rfl, hI2⟩ := q103
        show WP _ _ _ _ _ 106 _ [] (HP c w2 m v E) _
        refine wp_iinc (v0 := nI ((t) + 1)) [(4, .int (nI ((t) + 1))), (3, .int (nI (l))), (0, .ref (50)), (1, .int (nI (p))), (2, .int (wy))] 0 d_X4_walk_106 rfl (nI_add (t) 1) (Nat.le_of_ble_eq_true rfl) rfl ?_
        refine wp_goto 61 d_X4_walk_109 rfl ?_
        obtain ⟨k1, rfl⟩ : ∃ k1, k = k1 + 1 := ⟨k - 1, by omega⟩
        refine wp_sub [(4, .int (nI ((t) + 1))), (3, .int (nI (l))), (0, .ref (50)), (1, .int (nI (p))), (2, .int (wy))] [0, 1, 2, 3, 4] rfl ?_
        rw [kfs] at hA
        have eF : wfc t wy = wy := by unfold wfc; exact if_neg zc93
        rw [eF] at hA
        exact ih k1 (by omega) (t + 1) w2 _ (by omega) hI2.pop hA
      · refine wp_iconst (v0 := 2) d_X4_walk_96 rfl ?_
        refine wp_iload_n 4 d_X4_walk_97 rfl rfl ?_
        refine wp_imul d_X4_walk_98 ?_
        refine wp_goto 103 d_X4_walk_99 rfl ?_
        refine wp_virtual0 (As := [.int (nI ((p) + (1))), .int ((2) * (wy))]) d_X4_walk_103 lk_X4_68 mv_X4_walk in_X4_walk se_X4_walk (Nat.le_of_ble_eq_true rfl) (Nat.le_of_ble_eq_true rfl) (hp_50 _ _ _ _ _) rfl (IH (pre ++ [(l, t)]) (p + 1) (u ||| kbit l) ((2) * (wy)) a _ (by rw [List.length_append]; simp only [List.length_cons, List.length_nil]; omega) (by omega) (by intro q9 h9; rw [List.mem_append, List.mem_singleton] at h9; rcases h9 with h9 | h9; exact hv q9 h9; rw [h9]; exact hl) (hI.push (t := t) hp hl hnl)) (fun v103 h103 q103 => ?_)
        obtain ⟨rfl, w2, rfl, hI2⟩ := q103
        show WP _ _ _ _ _ 106 _ [] (HP c w2 m v E) _
        refine wp_iinc (v0 := nI ((t) + 1)) [(4, .int (nI ((t) + 1))), (3, .int (nI (l))), (0, .ref (50)), (1, .int (nI (p))), (2, .int (wy))] 0 d_X4_walk_106 rfl (nI_add (t) 1) (Nat.le_of_ble_eq_true rfl) rfl ?_
        refine wp_goto 61 d_X4_walk_109 rfl ?_
        obtain ⟨k1, rfl⟩ : ∃ k1, k = k1 + 1 := ⟨k - 1, by omega⟩
        refine wp_sub [(4, .int (nI ((t) + 1))), (3, .int (nI (l))), (0, .ref (50)), (1, .int (nI (p))), (2, .int (wy))] [0, 1, 2, 3, 4] rfl ?_
        rw [kfs] at hA
        have eF : wfc t wy = 2 * wy := by unfold wfc; exact if_pos zc93
        rw [eF] at hA
        exact ih k1 (by omega) (t + 1) w2 _ (by omega) hI2.pop hA
theorem s_X4_walk_l {X : kX} {d : Nat} {c w m v : kZ} {E : kH} {w0 : kZ} {g e lim : Int32} {st tl : Nat → Int32} {nl N : Nat} (hnl : nl ≤ 9) (hN : N ≤ 3) {kk : Nat} (IH : ∀ (pre : kTb) (p : Nat) (u wy : Int32) (a : kAl) (w' : kZ), pre.length = p → p + kk = N → (∀ q ∈ pre, q.1 < nl) → kHw w0 g e lim st tl nl N (pre.map Prod.fst) pre u a w' → WP X (d + kk + 6) 0 0 Y_X4_walk 0 [(0, .ref 50), (1, .int (nI p)), (2, .int wy)] [] (HP c w' m v E) (fun r h1 => r = none ∧ ∃ w1 : kZ, h1 = HP c w1 m v E ∧ kHw w0 g e lim st tl nl N (pre.map Prod.fst) pre u (tfw (kwg g e lim st tl N) nl 3 wfc kk pre u wy a) w1)) {pre : kTb} {p : Nat} {u : Int32} (hp : pre.length = p) (hpk : p + (kk + 1) = N) (hv : ∀ q ∈ pre, q.1 < nl) (wy : Int32) {A : kAl} : ∀ (k : Nat) (l : Nat) (w' : kZ) (a : kAl), (l + k = nl) → (kHw w0 g e lim st tl nl N (pre.map Prod.fst) pre u a w') → ((List.range' l k).foldl (fun a l => if u >>> (nI l &&& 31) &&& 1 = 1 then a else (List.range' 0 3).foldl (fun a t => tfw (kwg g e lim st tl N) nl 3 wfc kk (pre ++ [(l, t)]) (u ||| kbit l) (wfc t wy) a) a) a = A) → WP X (d + kk + 7) 0 0 Y_X4_walk 16 [(3, .int (nI (l))), (0, .ref (50)), (1, .int (nI (p))), (2, .int (wy))] [] (HP c w' m v E) (fun r h1 => r = none ∧ ∃ w1 : kZ, h1 = HP c w1 m v E ∧ kHw w0 g e lim st tl nl N (pre.map Prod.fst) pre u A w1) := by
  intro k
  induction k using Nat.strongRecOn with
  | ind k ih =>
    intro l w' a hl0 hI hA
    refine wp_iload_n 0 d_X4_walk_16 rfl rfl ?_
    refine wp_aload_n 1 d_X4_walk_17 rfl rfl ?_
    refine wp_getfield (v := .int (nI (nl))) d_X4_walk_18 gf_X4_49 (hp_50 _ _ _ _ _) (congrArg (fun z => some (Value.int z)) hI.1.1) ?_
    refine wp_ncmp_ge (a := l) (b := nl) 132 d_X4_walk_21 rfl (by omega) (by omega) (fun zc21 => ?_) (fun zc21 => ?_)
    · refine wp_vret d_X4_walk_132 rfl ?_
      obtain rfl : k = 0 := by omega
      obtain rfl : a = A := hA
      exact ⟨rfl, w', rfl, hI⟩
    · refine wp_aload_n 1 d_X4_walk_24 rfl rfl ?_
      refine wp_getfield (v := .int (u)) d_X4_walk_25 gf_X4_53 (hp_50 _ _ _ _ _) (congrArg (fun z => some (Value.int z)) hI.1.2.2) ?_
      refine wp_iload_n 0 d_X4_walk_28 rfl rfl ?_
      refine wp_ishr d_X4_walk_29 ?_
      refine wp_iconst (v0 := 1) d_X4_walk_30 rfl ?_
      refine wp_iand d_X4_walk_31 ?_
      refine wp_iconst (v0 := 1) d_X4_walk_32 rfl ?_
      refine wp_icmp_ne 39 d_X4_walk_33 rfl (fun zc33 => ?_) (fun zc33 => ?_)
      · refine wp_aload_n 1 d_X4_walk_39 rfl rfl ?_
        refine wp_dup d_X4_walk_40 rfl ?_
        refine wp_getfield (v := .int (u)) d_X4_walk_41 gf_X4_53 (hp_50 _ _ _ _ _) (congrArg (fun z => some (Value.int z)) hI.1.2.2) ?_
        refine wp_iconst (v0 := 1) d_X4_walk_44 rfl ?_
        refine wp_iload_n 0 d_X4_walk_45 rfl rfl ?_
        refine wp_ishl d_X4_walk_46 ?_
        refine wp_ior d_X4_walk_47 ?_
        refine wp_putfield (h' := HP c (setS w' 5003 ((u) ||| ((1) <<< ((nI (l)) &&& 31)))) m v E) d_X4_walk_48 gp_X4_53 (kfit_i _) (hp_50 _ _ _ _ _) (Nat.le_of_ble_eq_true rfl) (hps_50_3 _ _ _ _ _ _) ?_
        refine wp_aload_n 1 d_X4_walk_51 rfl rfl ?_
        refine wp_getfield (v := .ref (51)) d_X4_walk_52 gf_X4_9 (hp_50 _ _ _ _ _) rfl ?_
        refine wp_iload_n 2 d_X4_walk_55 rfl rfl ?_
        refine wp_iload_n 0 d_X4_walk_56 rfl rfl ?_
        refine wp_iastore (h' := HP c (setA (setS w' 5003 ((u) ||| ((1) <<< ((nI (l)) &&& 31)))) 51 (upd (w'.2.1 51) (p) (nI (l)))) m v E) d_X4_walk_57 (hp_51 _ _ _ _ _) (vp_in_nI (by omega) (by omega)) (by rw [nI_clamp (by omega)]; exact (hpa_51 _ _ _ _ _ _)) ?_
        refine wp_iconst (v0 := 0) d_X4_walk_58 rfl ?_
        refine wp_istore [(4, .int (0)), (3, .int (nI (l))), (0, .ref (50)), (1, .int (nI (p))), (2, .int (wy))] d_X4_walk_59 (Nat.le_of_ble_eq_true rfl) rfl ?_
        refine wp_sub [(4, .int (0)), (3, .int (nI (l))), (0, .ref (50)), (1, .int (nI (p))), (2, .int (wy))] [0, 1, 2, 3, 4] rfl ?_
        skip
        obtain ⟨k1, rfl⟩ : ∃ k1, k = k1 + 1 := ⟨k - 1, by omega⟩
        rw [kfs, if_neg zc33] at hA
        have hE := hI.enter l
        rw [hp] at hE
        refine s_X4_walk_t (w := w) hnl hN IH hp hpk hv wy (l := l) (by omega) (fun w2 hI2 => ?_) 3 0 _ a (by omega) hE rfl
        refine wp_aload_n 1 d_X4_walk_112 rfl rfl ?_
        refine wp_dup d_X4_walk_113 rfl ?_
        refine wp_getfield (v := .int (u ||| kbit l)) d_X4_walk_114 gf_X4_53 (hp_50 _ _ _ _ _) (congrArg (fun z => some (Value.int z)) hI2.1.2.2) ?_
        refine wp_iconst (v0 := 1) d_X4_walk_117 rfl ?_
        refine wp_iload_n 0 d_X4_walk_118 rfl rfl ?_
        refine wp_ishl d_X4_walk_119 ?_
        refine wp_iconst (v0 := -1) d_X4_walk_120 rfl ?_
        refine wp_ixor d_X4_walk_121 ?_
        refine wp_iand d_X4_walk_122 ?_
        refine wp_putfield (h' := HP c (setS w2 5003 ((u ||| kbit l) &&& (((1) <<< ((nI (l)) &&& 31)) ^^^ ((-1))))) m v E) d_X4_walk_123 gp_X4_53 (kfit_i _) (hp_50 _ _ _ _ _) (Nat.le_of_ble_eq_true rfl) (hps_50_3 _ _ _ _ _ _) ?_
        refine wp_iinc (v0 := nI ((l) + 1)) [(3, .int (nI ((l) + 1))), (0, .ref (50)), (1, .int (nI (p))), (2, .int (wy))] 0 d_X4_walk_126 rfl (nI_add (l) 1) (Nat.le_of_ble_eq_true rfl) rfl ?_
        refine wp_goto 16 d_X4_walk_129 rfl ?_
        refine wp_sub [(3, .int (nI ((l) + 1))), (0, .ref (50)), (1, .int (nI (p))), (2, .int (wy))] [0, 1, 2, 3] rfl ?_
        have eu : ((u ||| kbit l) &&& (((1) <<< ((nI (l)) &&& 31)) ^^^ ((-1)))) = u := kub u (by omega) zc33
        rw [eu]
        exact ih k1 (by omega) (l + 1) _ _ (by omega) hI2.leave hA
      · refine wp_goto 126 d_X4_walk_36 rfl ?_
        refine wp_iinc (v0 := nI ((l) + 1)) [(3, .int (nI ((l) + 1))), (0, .ref (50)), (1, .int (nI (p))), (2, .int (wy))] 0 d_X4_walk_126 rfl (nI_add (l) 1) (Nat.le_of_ble_eq_true rfl) rfl ?_
        refine wp_goto 16 d_X4_walk_129 rfl ?_
        obtain ⟨k1, rfl⟩ : ∃ k1, k = k1 + 1 := ⟨k - 1, by omega⟩
        rw [kfs, if_pos zc33] at hA
        refine wp_sub [(3, .int (nI ((l) + 1))), (0, .ref (50)), (1, .int (nI (p))), (2, .int (wy))] [0, 1, 2, 3] rfl ?_
        exact ih k1 (by omega) (l + 1) w' a (by omega) hI hA
theorem s_X4_walk {X : kX} {d : Nat} {c w m v : kZ} {E : kH} {w0 : kZ} {g e lim : Int32} {st tl : Nat → Int32} {nl N : Nat} (hnl : nl ≤ 9) (hN : N ≤ 3) : ∀ (kk : Nat) (pre : kTb) (p : Nat) (u wy : Int32) (a : kAl) (w' : kZ), pre.length = p → p + kk = N → (∀ q ∈ pre, q.1 < nl) → kHw w0 g e lim st tl nl N (pre.map Prod.fst) pre u a w' → WP X (d + kk + 6) 0 0 Y_X4_walk 0 [(0, .ref 50), (1, .int (nI p)), (2, .int wy)] [] (HP c w' m v E) (fun r h1 => r = none ∧ ∃ w1 : kZ, h1 = HP c w1 m v E ∧ kHw w0 g e lim st tl nl N (pre.map Prod.fst) pre u (tfw (kwg g e lim st tl N) nl 3 wfc kk pre u wy a) w1) := by
  intro kk
  induction kk with
  | zero =>
    intro pre p u wy a w' hp hpk hv hI
    refine wp_iload_n 1 d_X4_walk_0 rfl rfl ?_
    refine wp_aload_n 0 d_X4_walk_1 rfl rfl ?_
    refine wp_getfield (v := .int (nI (N))) d_X4_walk_2 gf_X4_50 (hp_50 _ _ _ _ _) (congrArg (fun z => some (Value.int z)) hI.1.2.1) ?_
    refine wp_ncmp_lt (a := p) (b := N) 14 d_X4_walk_5 rfl (by omega) (by omega) (fun zc5 => ?_) (fun zc5 => ?_)
    · exact absurd zc5 (by omega)
    · refine wp_aload_n 0 d_X4_walk_8 rfl rfl ?_
      refine wp_iload_n 2 d_X4_walk_9 rfl rfl ?_
      refine wp_virtual0 (As := [.int (wy)]) d_X4_walk_10 lk_X4_72 mv_X4_weigh in_X4_weigh se_X4_weigh (Nat.le_of_ble_eq_true rfl) (Nat.le_of_ble_eq_true rfl) (hp_50 _ _ _ _ _) rfl (s_X4_weigh (w := w') hnl hN (hp.trans hpk) hv hI wy) (fun v10 h10 q10 => ?_)
      obtain ⟨rfl, w2, rfl, hI2⟩ := q10
      show WP _ _ _ _ _ 13 _ [] (HP c w2 m v E) _
      refine wp_vret d_X4_walk_13 rfl ?_
      exact ⟨rfl, w2, rfl, hI2⟩
  | succ kk IHk =>
    intro pre p u wy a w' hp hpk hv hI
    refine wp_iload_n 1 d_X4_walk_0 rfl rfl ?_
    refine wp_aload_n 0 d_X4_walk_1 rfl rfl ?_
    refine wp_getfield (v := .int (nI (N))) d_X4_walk_2 gf_X4_50 (hp_50 _ _ _ _ _) (congrArg (fun z => some (Value.int z)) hI.1.2.1) ?_
    refine wp_ncmp_lt (a := p) (b := N) 14 d_X4_walk_5 rfl (by omega) (by omega) (fun zc5 => ?_) (fun zc5 => ?_)
    · refine wp_iconst (v0 := 0) d_X4_walk_14 rfl ?_
      refine wp_istore_n [(3, .int (0)), (0, .ref (50)), (1, .int (nI (p))), (2, .int (wy))] d_X4_walk_15 rfl (Nat.le_of_ble_eq_true rfl) rfl ?_
      refine wp_sub [(3, .int (0)), (0, .ref (50)), (1, .int (nI (p))), (2, .int (wy))] [0, 1, 2, 3] rfl ?_
      exact s_X4_walk_l (w := w) hnl hN IHk hp hpk hv wy nl 0 w' a (by omega) hI rfl
    · exact absurd zc5 (by omega)
/-- what lookAtTubes() comes to -/
def kTs (g e lim : Int32) (st tl : Nat → Int32) (nl N : Nat) : kAl := tfw (kwg g e lim st tl N) nl 3 wfc N [] 0 1 (-1, [], 0, fun _ => 0)
def kAr9 (a : kAl) (w : kZ) : Prop := w.1 5008 = a.1 ∧ w.1 5009 = a.2.2.1 ∧ (∀ j, j < 9 → w.2.1 55 j = a.2.2.2 j) ∧ ∀ j (h : j < a.2.1.length), w.2.1 53 j = nI a.2.1[j].1 ∧ w.2.1 54 j = nI a.2.1[j].2
