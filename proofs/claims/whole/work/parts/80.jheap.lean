/-! ===== call by call: tubes from the heap ===== -/
def stp (W : kTb → Int32) (lim : Int32) (b : mAl) (p : kTb) : mAl := (if b.1 < 0 ∨ W p < b.1 then W p else b.1, if b.1 < 0 ∨ W p < b.1 then p else b.2.1, b.2.2 + kb (W p ≤ lim))
def cntL (W : kTb → Int32) (lim : Int32) : List kTb → Int32
  | [] => 0
  | p :: l => kb (W p ≤ lim) + cntL W lim l
theorem cntL_app (W : kTb → Int32) (lim : Int32) : ∀ l l', cntL W lim (l ++ l') = cntL W lim l + cntL W lim l'
  | [], l' => (Int32.zero_add _).symm
  | p :: l, l' => by
    rw [List.cons_append]
    simp only [cntL]
    rw [cntL_app W lim l l', Int32.add_assoc]
theorem stp_cnt (W : kTb → Int32) (lim : Int32) : ∀ (l : List kTb) (b : mAl), (l.foldl (stp W lim) b).2.2 = b.2.2 + cntL W lim l
  | [], b => (Int32.add_zero _).symm
  | p :: l, b => by
    rw [List.foldl_cons, stp_cnt W lim l]
    simp only [cntL]
    rw [← Int32.add_assoc]
    rfl
theorem stp_skip (W : kTb → Int32) (lim : Int32) : ∀ (l : List kTb) (b : mAl), 0 ≤ b.1.toInt → (∀ p, p ∈ l → ¬ W p < b.1) → (l.foldl (stp W lim) b).1 = b.1 ∧ (l.foldl (stp W lim) b).2.1 = b.2.1
  | [], b, _, _ => ⟨rfl, rfl⟩
  | p :: l, b, h1, h2 => by
    have hc : ¬ (b.1 < 0 ∨ W p < b.1) := fun z => z.elim (fun z => by have := Int32.lt_iff_toInt_lt.mp z; have : (0 : Int32).toInt = 0 := rfl; omega) (h2 p List.mem_cons_self)
    have e1 : (stp W lim b p).1 = b.1 := if_neg hc
    have e2 : (stp W lim b p).2.1 = b.2.1 := if_neg hc
    rw [List.foldl_cons]
    have ih := stp_skip W lim l (stp W lim b p) (by rw [e1]; exact h1) (fun q hq => by rw [e1]; exact h2 q (List.mem_cons_of_mem _ hq))
    rw [e1, e2] at ih
    exact ih
theorem stp_min (W : kTb → Int32) (lim : Int32) : ∀ (l : List kTb) (b : mAl), (∀ p, p ∈ l → 0 ≤ (W p).toInt) → (b.1 = -1 ∨ 0 ≤ b.1.toInt) → (((l.foldl (stp W lim) b).1 = -1 ∨ 0 ≤ (l.foldl (stp W lim) b).1.toInt) ∧ (∀ p, p ∈ l → (l.foldl (stp W lim) b).1.toInt ≤ (W p).toInt ∧ 0 ≤ (l.foldl (stp W lim) b).1.toInt) ∧ (0 ≤ b.1.toInt → (l.foldl (stp W lim) b).1.toInt ≤ b.1.toInt ∧ 0 ≤ (l.foldl (stp W lim) b).1.toInt)) ∧ (((l.foldl (stp W lim) b).1 = b.1 ∧ (l.foldl (stp W lim) b).2.1 = b.2.1) ∨ (l.foldl (stp W lim) b).2.1 ∈ l)
  | [], b, _, h => ⟨⟨h, fun p hp => absurd hp List.not_mem_nil, fun z => ⟨Int.le_refl _, z⟩⟩, Or.inl ⟨rfl, rfl⟩⟩
  | p :: l, b, hp, h => by
    rw [List.foldl_cons]
    have h0 := hp p List.mem_cons_self
    have z0 : (0 : Int32).toInt = 0 := rfl
    have zm : (-1 : Int32).toInt = -1 := rfl
    by_cases hc : b.1 < 0 ∨ W p < b.1
    · have e1 : (stp W lim b p).1 = W p := if_pos hc
      have e2 : (stp W lim b p).2.1 = p := if_pos hc
      obtain ⟨⟨i1, i2, i3⟩, i4⟩ := stp_min W lim l (stp W lim b p) (fun q hq => hp q (List.mem_cons_of_mem _ hq)) (Or.inr (by rw [e1]; exact h0))
      rw [e1] at i3
      obtain ⟨i5, i6⟩ := i3 h0
      refine ⟨⟨i1, fun q hq => ?_, fun z => ⟨?_, i6⟩⟩, ?_⟩
      · rcases List.mem_cons.mp hq with e | e
        · rw [e]
          exact ⟨i5, i6⟩
        · exact i2 q e
      · rcases hc with hc | hc
        · have := Int32.lt_iff_toInt_lt.mp hc
          omega
        · have := Int32.lt_iff_toInt_lt.mp hc
          omega
      · rcases i4 with ⟨-, i4⟩ | i4
        · rw [i4, e2]
          exact Or.inr List.mem_cons_self
        · exact Or.inr (List.mem_cons_of_mem _ i4)
    · have e1 : (stp W lim b p).1 = b.1 := if_neg hc
      have e2 : (stp W lim b p).2.1 = b.2.1 := if_neg hc
      have hb : 0 ≤ b.1.toInt := by
        rcases h with h | h
        · exact absurd (Or.inl (by rw [h]; decide)) hc
        · exact h
      have hw : b.1.toInt ≤ (W p).toInt := by
        have := mt Int32.lt_iff_toInt_lt.mpr (fun z => hc (Or.inr z))
        omega
      obtain ⟨⟨i1, i2, i3⟩, i4⟩ := stp_min W lim l (stp W lim b p) (fun q hq => hp q (List.mem_cons_of_mem _ hq)) (Or.inr (by rw [e1]; exact hb))
      rw [e1] at i3 i4
      rw [e2] at i4
      obtain ⟨i5, i6⟩ := i3 hb
      refine ⟨⟨i1, fun q hq => ?_, fun z => ⟨i5, i6⟩⟩, ?_⟩
      · rcases List.mem_cons.mp hq with e | e
        · rw [e]
          exact ⟨by omega, i6⟩
        · exact i2 q e
      · rcases i4 with i4 | i4
        · exact Or.inl i4
        · exact Or.inr (List.mem_cons_of_mem _ i4)
def kR2 (a : kAl) (b : mAl) : Prop := a.1 = b.1 ∧ a.2.1 = b.2.1 ∧ (b.1 = -1 ∨ 0 ≤ b.1.toInt)
abbrev sfp (n k : Nat) (u : Int32) (pre : kTb) : List kTb := (sfx n k u).map (fun q => pre ++ q)
theorem cntL_c {W : kTb → Int32} {lim : Int32} (f f' : kTb → kTb) : ∀ l : List kTb, (∀ q, q ∈ l → W (f' q) = W (f q)) → cntL W lim (l.map f') = cntL W lim (l.map f)
  | [], _ => rfl
  | q :: l, h => by
    rw [List.map_cons, List.map_cons]
    simp only [cntL]
    rw [h q List.mem_cons_self, cntL_c f f' l (fun x hx => h x (List.mem_cons_of_mem _ hx))]
theorem tfw_eq {n N : Nat} {g e lim : Int32} {st tl : Nat → Int32} (hW : ∀ p : kTb, p.length ≤ 3 → (∀ x, x ∈ p → x.1 < n) → 0 ≤ (kW2 g e st tl p).toInt) : ∀ k (pre : kTb) u wy (a : kAl) (b : mAl), pre.length + k ≤ 3 → (∀ x, x ∈ pre → x.1 < n) → kR2 a b → kR2 (tfw (kwg g e lim st tl N) n 3 wfc k pre u wy a) ((sfp n k u pre).foldl (stp (kW2 g e st tl) lim) b) ∧ (tfw (kwg g e lim st tl N) n 3 wfc k pre u wy a).2.2.1 = a.2.2.1 + wy * cntL (kW2 g e st tl) lim (sfp n k u pre)
  | 0, pre, u, wy, a, b, hl, hp, hR => by
    obtain ⟨h1, h2, h3⟩ := hR
    have hs : sfp n 0 u pre = [pre] := by
      show [pre ++ []] = [pre]
      rw [List.append_nil]
    rw [hs]
    have hw := hW pre (by omega) hp
    have hc : (b.1 < 0 ∨ kW2 g e st tl pre < b.1) ↔ (a.1 = -1 ∨ kW2 g e st tl pre < a.1) := by
      rw [h1]
      rcases h3 with h3 | h3
      · rw [h3]
        exact ⟨fun _ => Or.inl rfl, fun _ => Or.inl (by decide)⟩
      · have z0 : (0 : Int32).toInt = 0 := rfl
        refine ⟨fun z => z.elim (fun z => ?_) Or.inr, fun z => z.elim (fun z => ?_) Or.inr⟩
        · have := Int32.lt_iff_toInt_lt.mp z
          omega
        · rw [z] at h3
          exact absurd h3 (by decide)
    show kR2 (kwg g e lim st tl N pre wy a) (stp (kW2 g e st tl) lim b pre) ∧ (if kW2 g e st tl pre ≤ lim then a.2.2.1 + wy else a.2.2.1) = a.2.2.1 + wy * (kb (kW2 g e st tl pre ≤ lim) + 0)
    refine ⟨?_, ?_⟩
    · unfold kR2 kwg stp
      by_cases q : a.1 = -1 ∨ kW2 g e st tl pre < a.1
      · simp only [if_pos q, if_pos (hc.mpr q)]
        exact ⟨trivial, trivial, Or.inr hw⟩
      · simp only [if_neg q, if_neg (fun z => q (hc.mp z))]
        exact ⟨h1, h2, h3⟩
    · rw [Int32.add_zero]
      by_cases q : kW2 g e st tl pre ≤ lim
      · rw [if_pos q, kb_t q, Int32.mul_one]
      · rw [if_neg q, kb_f q, Int32.mul_zero, Int32.add_zero]
  | k + 1, pre, u, wy, a, b, hl, hp, hR => by
    have hLf : sfp n (k + 1) u pre = (List.range' 0 n).flatMap (fun l => if u >>> (nI l &&& 31) &&& 1 = 1 then [] else (List.range' 0 4).flatMap (fun t => sfp n k (u ||| kbit l) (pre ++ [(l, t)]))) := by
      simp only [sfp, sfx]
      rw [List.map_flatMap]
      congr 1
      funext l
      by_cases q : u >>> (nI l &&& 31) &&& 1 = 1
      · rw [if_pos q, if_pos q]
        rfl
      · rw [if_neg q, if_neg q, List.map_flatMap]
        congr 1
        funext t
        rw [List.map_map]
        congr 1
        funext q
        simp
    rw [hLf]
    show kR2 ((List.range' 0 n).foldl (fun a l => if u >>> (nI l &&& 31) &&& 1 = 1 then a else (List.range' 0 3).foldl (fun a t => tfw (kwg g e lim st tl N) n 3 wfc k (pre ++ [(l, t)]) (u ||| kbit l) (wfc t wy) a) a) a) _ ∧ ((List.range' 0 n).foldl (fun a l => if u >>> (nI l &&& 31) &&& 1 = 1 then a else (List.range' 0 3).foldl (fun a t => tfw (kwg g e lim st tl N) n 3 wfc k (pre ++ [(l, t)]) (u ||| kbit l) (wfc t wy) a) a) a).2.2.1 = _
    have one : ∀ l, l < n → ∀ (a : kAl) (b : mAl), kR2 a b → kR2 (if u >>> (nI l &&& 31) &&& 1 = 1 then a else (List.range' 0 3).foldl (fun a t => tfw (kwg g e lim st tl N) n 3 wfc k (pre ++ [(l, t)]) (u ||| kbit l) (wfc t wy) a) a) ((if u >>> (nI l &&& 31) &&& 1 = 1 then [] else (List.range' 0 4).flatMap (fun t => sfp n k (u ||| kbit l) (pre ++ [(l, t)]))).foldl (stp (kW2 g e st tl) lim) b) ∧ (if u >>> (nI l &&& 31) &&& 1 = 1 then a else (List.range' 0 3).foldl (fun a t => tfw (kwg g e lim st tl N) n 3 wfc k (pre ++ [(l, t)]) (u ||| kbit l) (wfc t wy) a) a).2.2.1 = a.2.2.1 + wy * cntL (kW2 g e st tl) lim (if u >>> (nI l &&& 31) &&& 1 = 1 then [] else (List.range' 0 4).flatMap (fun t => sfp n k (u ||| kbit l) (pre ++ [(l, t)]))) := by
      intro l hln a b hR
      by_cases q : u >>> (nI l &&& 31) &&& 1 = 1
      · rw [if_pos q, if_pos q]
        refine ⟨hR, ?_⟩
        show a.2.2.1 = a.2.2.1 + wy * 0
        rw [Int32.mul_zero, Int32.add_zero]
      · rw [if_neg q, if_neg q]
        have hlen : ∀ t, (pre ++ [(l, t)]).length + k ≤ 3 := fun t => by
          rw [List.length_append]
          show pre.length + 1 + k ≤ 3
          omega
        have hmem : ∀ t, ∀ x, x ∈ pre ++ [(l, t)] → x.1 < n := fun t x hx => by
          rcases List.mem_append.mp hx with z | z
          · exact hp x z
          · rw [List.mem_singleton.mp z]
            exact hln
        have hval : ∀ t, ∀ p, p ∈ sfp n k (u ||| kbit l) (pre ++ [(l, t)]) → 0 ≤ (kW2 g e st tl p).toInt := fun t p hpm => by
          obtain ⟨q, hq, rfl⟩ := List.mem_map.mp hpm
          obtain ⟨h1, h2⟩ := sfx_ok k _ q hq
          refine hW _ (by rw [List.length_append, h1]; exact hlen t) (fun x hx => ?_)
          rcases List.mem_append.mp hx with z | z
          · exact hmem t x z
          · exact h2 x z
        have h31 : ∀ q, kW2 g e st tl ((pre ++ [(l, 3)]) ++ q) = kW2 g e st tl ((pre ++ [(l, 1)]) ++ q) := fun q => by
          unfold kW2
          rw [List.map_append, List.map_append, List.map_append, List.map_append]
          show cwr g e ((pre.map (kent2 st tl) ++ [kent2 st tl (l, 3)]) ++ _) = cwr g e ((pre.map (kent2 st tl) ++ [kent2 st tl (l, 1)]) ++ _)
          rw [show kent2 st tl (l, 3) = kent2 st tl (l, 1) from Prod.ext rfl (kpush_31 (tl l))]
        have hFl : (List.range' 0 4).flatMap (fun t => sfp n k (u ||| kbit l) (pre ++ [(l, t)])) = sfp n k (u ||| kbit l) (pre ++ [(l, 0)]) ++ (sfp n k (u ||| kbit l) (pre ++ [(l, 1)]) ++ (sfp n k (u ||| kbit l) (pre ++ [(l, 2)]) ++ sfp n k (u ||| kbit l) (pre ++ [(l, 3)]))) := by
          show (List.flatMap _ [0, 1, 2, 3]) = _
          simp only [List.flatMap_cons, List.flatMap_nil, List.append_nil]
        rw [hFl, List.foldl_append, List.foldl_append, List.foldl_append, cntL_app, cntL_app, cntL_app]
        show kR2 (tfw (kwg g e lim st tl N) n 3 wfc k (pre ++ [(l, 2)]) (u ||| kbit l) wy (tfw (kwg g e lim st tl N) n 3 wfc k (pre ++ [(l, 1)]) (u ||| kbit l) (2 * wy) (tfw (kwg g e lim st tl N) n 3 wfc k (pre ++ [(l, 0)]) (u ||| kbit l) wy a))) _ ∧ (tfw (kwg g e lim st tl N) n 3 wfc k (pre ++ [(l, 2)]) (u ||| kbit l) wy (tfw (kwg g e lim st tl N) n 3 wfc k (pre ++ [(l, 1)]) (u ||| kbit l) (2 * wy) (tfw (kwg g e lim st tl N) n 3 wfc k (pre ++ [(l, 0)]) (u ||| kbit l) wy a))).2.2.1 = _
        obtain ⟨r0, c0⟩ := tfw_eq hW k (pre ++ [(l, 0)]) (u ||| kbit l) wy a b (hlen 0) (hmem 0) hR
        generalize (sfp n k (u ||| kbit l) (pre ++ [(l, 0)])).foldl (stp (kW2 g e st tl) lim) b = b1 at r0 ⊢
        obtain ⟨r1, c1⟩ := tfw_eq hW k (pre ++ [(l, 1)]) (u ||| kbit l) (2 * wy) _ b1 (hlen 1) (hmem 1) r0
        obtain ⟨⟨m1, m2, m3⟩, -⟩ := stp_min (kW2 g e st tl) lim (sfp n k (u ||| kbit l) (pre ++ [(l, 1)])) b1 (hval 1) r0.2.2
        generalize (sfp n k (u ||| kbit l) (pre ++ [(l, 1)])).foldl (stp (kW2 g e st tl) lim) b1 = b2 at r1 m1 m2 m3 ⊢
        obtain ⟨r2, c2⟩ := tfw_eq hW k (pre ++ [(l, 2)]) (u ||| kbit l) wy _ b2 (hlen 2) (hmem 2) r1
        obtain ⟨⟨n1, n2, n3⟩, -⟩ := stp_min (kW2 g e st tl) lim (sfp n k (u ||| kbit l) (pre ++ [(l, 2)])) b2 (hval 2) r1.2.2
        generalize (sfp n k (u ||| kbit l) (pre ++ [(l, 2)])).foldl (stp (kW2 g e st tl) lim) b2 = b3 at r2 n1 n2 n3 ⊢
        have c3 : cntL (kW2 g e st tl) lim (sfp n k (u ||| kbit l) (pre ++ [(l, 3)])) = cntL (kW2 g e st tl) lim (sfp n k (u ||| kbit l) (pre ++ [(l, 1)])) := cntL_c _ _ _ (fun q _ => h31 q)
        have hsk : ((sfp n k (u ||| kbit l) (pre ++ [(l, 3)])).foldl (stp (kW2 g e st tl) lim) b3).1 = b3.1 ∧ ((sfp n k (u ||| kbit l) (pre ++ [(l, 3)])).foldl (stp (kW2 g e st tl) lim) b3).2.1 = b3.2.1 := by
          cases hs : sfx n k (u ||| kbit l) with
          | nil =>
            simp only [sfp, hs]
            exact ⟨rfl, rfl⟩
          | cons q0 ql =>
            have hq0 : (pre ++ [(l, 1)]) ++ q0 ∈ sfp n k (u ||| kbit l) (pre ++ [(l, 1)]) := List.mem_map.mpr ⟨q0, by rw [hs]; exact List.mem_cons_self, rfl⟩
            have hb2 := (m2 _ hq0).2
            have hb3 := n3 hb2
            refine stp_skip _ _ _ b3 hb3.2 (fun p hpm hlt => ?_)
            obtain ⟨q, hq, rfl⟩ := List.mem_map.mp hpm
            have h5 := m2 _ (List.mem_map.mpr ⟨q, hq, rfl⟩ : (pre ++ [(l, 1)]) ++ q ∈ sfp n k (u ||| kbit l) (pre ++ [(l, 1)]))
            rw [h31 q] at hlt
            have := Int32.lt_iff_toInt_lt.mp hlt
            omega
        refine ⟨⟨r2.1.trans hsk.1.symm, r2.2.1.trans hsk.2.symm, by rw [hsk.1]; exact r2.2.2⟩, ?_⟩
        rw [c2, c1, c0, c3]
        generalize cntL (kW2 g e st tl) lim (sfp n k (u ||| kbit l) (pre ++ [(l, 0)])) = y0
        generalize cntL (kW2 g e st tl) lim (sfp n k (u ||| kbit l) (pre ++ [(l, 1)])) = y1
        generalize cntL (kW2 g e st tl) lim (sfp n k (u ||| kbit l) (pre ++ [(l, 2)])) = y2
        generalize a.2.2.1 = y
        grind
    have all : ∀ (ls : List Nat), (∀ l, l ∈ ls → l < n) → ∀ (a : kAl) (b : mAl), kR2 a b → kR2 (ls.foldl (fun a l => if u >>> (nI l &&& 31) &&& 1 = 1 then a else (List.range' 0 3).foldl (fun a t => tfw (kwg g e lim st tl N) n 3 wfc k (pre ++ [(l, t)]) (u ||| kbit l) (wfc t wy) a) a) a) ((ls.flatMap (fun l => if u >>> (nI l &&& 31) &&& 1 = 1 then [] else (List.range' 0 4).flatMap (fun t => sfp n k (u ||| kbit l) (pre ++ [(l, t)])))).foldl (stp (kW2 g e st tl) lim) b) ∧ (ls.foldl (fun a l => if u >>> (nI l &&& 31) &&& 1 = 1 then a else (List.range' 0 3).foldl (fun a t => tfw (kwg g e lim st tl N) n 3 wfc k (pre ++ [(l, t)]) (u ||| kbit l) (wfc t wy) a) a) a).2.2.1 = a.2.2.1 + wy * cntL (kW2 g e st tl) lim (ls.flatMap (fun l => if u >>> (nI l &&& 31) &&& 1 = 1 then [] else (List.range' 0 4).flatMap (fun t => sfp n k (u ||| kbit l) (pre ++ [(l, t)])))) := by
      intro ls
      induction ls with
      | nil =>
        intro _ a b hR
        refine ⟨hR, ?_⟩
        show a.2.2.1 = a.2.2.1 + wy * 0
        rw [Int32.mul_zero, Int32.add_zero]
      | cons l ls ih =>
        intro hls a b hR
        obtain ⟨o1, o2⟩ := one l (hls l List.mem_cons_self) a b hR
        rw [List.foldl_cons, List.flatMap_cons, List.foldl_append, cntL_app]
        obtain ⟨i1, i2⟩ := ih (fun x hx => hls x (List.mem_cons_of_mem _ hx)) _ _ o1
        refine ⟨i1, ?_⟩
        rw [i2, o2, Int32.mul_add, Int32.add_assoc]
    exact all (List.range' 0 n) (fun l hl => by have := (List.mem_range'_1.mp hl).2; omega) a b hR
theorem fold_c {α β : Type} {f g : β → α → β} : ∀ (l : List α) (b : β), (∀ x, x ∈ l → ∀ b, f b x = g b x) → l.foldl f b = l.foldl g b
  | [], _, _ => rfl
  | x :: l, b, h => by
    rw [List.foldl_cons, List.foldl_cons, h x List.mem_cons_self]
    exact fold_c l _ (fun y hy => h y (List.mem_cons_of_mem _ hy))
theorem kfre_all (n : Nat) (hn : n ≤ 9) : kfre 0 n = n := by
  have h := kuo_gi (n := n) (p := 0) (a := fun _ => 0) hn (fun j hj => absurd hj (by omega)) (fun i j hi => absurd hi (by omega)) 0 (Nat.le_refl 0)
  have := h.2
  exact this
theorem j_least {X : kX} {d : Nat} (hd : 20 ≤ d) (x : Int32) : kJn X d 0 0 Y_X9_least Y_X10_least [(1, .int x)] := by
  intro c w m v E hRl
  obtain ⟨⟨n, p, r, ⟨⟨hn9, hp4, hr6⟩, ⟨hn, hn'⟩, ⟨hp, hp'⟩, ⟨hr, hr'⟩, hz⟩, hL, hS, hP, hRp, cnt, L, code, en, hu, hL20, hc8, hwf, hs1, hm, hq⟩, hK, hT, hW, hC, hH, hF, hV⟩ := id hRl
  have hA := RlA.of hq hL hS hP
  have hse := hA.1
  have hg3 : Ab (c.2.1 6 1) 3 := by
    have := hS.2.1.2
    show -((3 : Nat) : Int) ≤ (c.2.1 (1 + 5) 1).toInt ∧ (c.2.1 (1 + 5) 1).toInt ≤ ((3 : Nat) : Int)
    omega
  have he9 : Ab (c.2.1 6 2) 9 := by
    have := hS.2.2.1.2
    show -((9 : Nat) : Int) ≤ (c.2.1 (1 + 5) 2).toInt ∧ (c.2.1 (1 + 5) 2).toInt ≤ ((9 : Nat) : Int)
    omega
  have ht9 : ∀ l, l < n → Ab (c.2.1 4 l) 9 := fun l hl => by
    have := (hL l hl).2.2.1.2
    show -((9 : Nat) : Int) ≤ (c.2.1 (1 + 3) l).toInt ∧ (c.2.1 (1 + 3) l).toInt ≤ ((9 : Nat) : Int)
    omega
  have hWn := fun (p : kTb) (h1 : p.length ≤ 3) (h2 : ∀ x, x ∈ p → x.1 < n) => kW2_nn (A := c.2.1) (code := code) (cnt := cnt) hg3 he9 ht9 h1 h2
  have hmT : ∀ N, N ≤ 3 → mTs (m.2.1 81) en cnt n N = (sfp n N 0 []).foldl (stp (kW2 (c.2.1 6 1) (c.2.1 6 2) (fun l => kstr code cnt (c.2.1 6 0) (c.2.1 6 1) (c.2.1 6 2) (c.2.1 2 l) (c.2.1 3 l) l) (c.2.1 4)) (c.2.1 6 3)) (-1, [], 0) := fun N hN => by
    show tfw (mwg (m.2.1 81) en cnt) n 4 wfm N [] 0 1 (-1, [], 0) = _
    rw [tfw_sfx, List.foldl_map]
    refine fold_c _ _ (fun q hq b => ?_)
    have hok := sfx_ok N 0 q hq
    show mwg (m.2.1 81) en cnt q 1 b = stp _ _ b q
    unfold mwg stp
    rw [hA.w2 q hok.2, hse.2.2.2]
  have hcT := fun (N : Nat) (hN : N ≤ 3) (f1 : Nat → Int32) => tfw_eq (n := n) (N := N) (lim := c.2.1 6 3) hWn N [] 0 1 (-1, [], 0, f1) (-1, [], 0) (by show 0 + N ≤ 3; omega) (fun x hx => absurd hx List.not_mem_nil) ⟨rfl, rfl, Or.inl rfl⟩
  have hmin := fun (N : Nat) (hN : N ≤ 3) => stp_min (kW2 (c.2.1 6 1) (c.2.1 6 2) (fun l => kstr code cnt (c.2.1 6 0) (c.2.1 6 1) (c.2.1 6 2) (c.2.1 2 l) (c.2.1 3 l) l) (c.2.1 4)) (c.2.1 6 3) (sfp n N 0 []) (-1, [], 0) (fun p hp => by
    obtain ⟨q, hq, rfl⟩ := List.mem_map.mp hp
    have hok := sfx_ok N 0 q hq
    exact hWn q (by omega) hok.2) (Or.inl rfl)
  have hne : ∀ N, N ≤ n → ∃ p, p ∈ sfp n N 0 [] := fun N hN => by
    obtain ⟨q, hq⟩ := List.exists_mem_of_ne_nil _ ((sfx_ne hn9 N 0).1 (by rw [kfre_all n hn9]; exact hN))
    exact ⟨[] ++ q, List.mem_map.mpr ⟨q, hq, rfl⟩⟩
  have hem : ∀ N, n < N → sfp n N 0 [] = [] := fun N hN => by
    show (sfx n N 0).map _ = []
    rw [(sfx_ne hn9 N 0).2 (by rw [kfre_all n hn9]; exact hN)]
    rfl
  have rg : ∀ {N : Nat}, 1 ≤ N → N ≤ 3 → 1 ≤ (nI N).toInt ∧ (nI N).toInt ≤ 3 := fun {N} h1 h2 => by
    have := nI_toInt (n := N) (by omega)
    omega
  have hM : ∀ w1 : kZ, WP X d 0 0 Y_X10_least 0 _ [] (HP c w1 m v E) _ := fun w1 => wp_depth (by omega) (s_X10_least (X := X) (d := 0) (c := c) (w := w1) (m := m) (v := v) (E := E) hs1 hc8 hm hn' hn9 x)
  refine wp_mono ?_ (wp_depth (by omega) (s_X9_least (d := 0) hn hn9 rfl hu hL20 hc8 hwf hL.kd hp hp4 (hP.vp hn9) hV.1 x))
  rintro r1 t1 (⟨h, rfl, rfl⟩ | ⟨N, h1, h2, rfl, ⟨h3, rfl, rfl⟩ | ⟨h3, ⟨f1, -, rfl⟩, w1, rfl, hw, hray⟩⟩)
  · refine ⟨_, c, w, E, rfl, rfl, wp_mono ?_ (hM _)⟩
    rintro r2 t2 (⟨g, rfl, rfl⟩ | ⟨N, h1, h2, rfl, -⟩)
    · exact ⟨rfl, m, v, rfl, hRl⟩
    · exact absurd (rg h1 h2) h
  · refine ⟨_, c, w, E, rfl, rfl, wp_mono ?_ (hM _)⟩
    rintro r2 t2 (⟨g, rfl, rfl⟩ | ⟨N2, g1, g2, e, rfl, v1, rfl⟩)
    · exact absurd (rg h1 h2) g
    · obtain rfl := nI_ij (by omega) (by omega) e
      refine ⟨?_, m, v1, rfl, hRl⟩
      rw [hmT N h2, hem N h3]
      rfl
  · refine ⟨_, c, w1, E, rfl, rfl, wp_mono ?_ (hM _)⟩
    rintro r2 t2 (⟨g, rfl, rfl⟩ | ⟨N2, g1, g2, e, rfl, v1, rfl⟩)
    · exact absurd (rg h1 h2) g
    · obtain rfl := nI_ij (by omega) (by omega) e
      refine ⟨?_, m, v1, rfl, hRl.w (hV.f (hw.2.1 72 (by omega)) hray)⟩
      rw [hmT N h2]
      obtain ⟨p0, hp0⟩ := hne N h3
      have h0 := ((hmin N h2).1.2.1 p0 hp0).2
      rw [if_neg (fun z => by have := Int32.lt_iff_toInt_lt.mp z; have : (0 : Int32).toInt = 0 := rfl; omega)]
      exact congrArg (fun z => some (Value.int z)) (hcT N h2 f1).1.1.symm
theorem j_pick {X : kX} {d : Nat} (hd : 20 ≤ d) (x y : Int32) : kJn X d 0 0 Y_X9_pick Y_X10_pick [(1, .int x), (2, .int y)] := by
  intro c w m v E hRl
  obtain ⟨⟨n, p, r, ⟨⟨hn9, hp4, hr6⟩, ⟨hn, hn'⟩, ⟨hp, hp'⟩, ⟨hr, hr'⟩, hz⟩, hL, hS, hP, hRp, cnt, L, code, en, hu, hL20, hc8, hwf, hs1, hm, hq⟩, hK, hT, hW, hC, hH, hF, hV⟩ := id hRl
  have hA := RlA.of hq hL hS hP
  have hse := hA.1
  have hg3 : Ab (c.2.1 6 1) 3 := by
    have := hS.2.1.2
    show -((3 : Nat) : Int) ≤ (c.2.1 (1 + 5) 1).toInt ∧ (c.2.1 (1 + 5) 1).toInt ≤ ((3 : Nat) : Int)
    omega
  have he9 : Ab (c.2.1 6 2) 9 := by
    have := hS.2.2.1.2
    show -((9 : Nat) : Int) ≤ (c.2.1 (1 + 5) 2).toInt ∧ (c.2.1 (1 + 5) 2).toInt ≤ ((9 : Nat) : Int)
    omega
  have ht9 : ∀ l, l < n → Ab (c.2.1 4 l) 9 := fun l hl => by
    have := (hL l hl).2.2.1.2
    show -((9 : Nat) : Int) ≤ (c.2.1 (1 + 3) l).toInt ∧ (c.2.1 (1 + 3) l).toInt ≤ ((9 : Nat) : Int)
    omega
  have hWn := fun (p : kTb) (h1 : p.length ≤ 3) (h2 : ∀ x, x ∈ p → x.1 < n) => kW2_nn (A := c.2.1) (code := code) (cnt := cnt) hg3 he9 ht9 h1 h2
  have hmT : ∀ N, N ≤ 3 → mTs (m.2.1 81) en cnt n N = (sfp n N 0 []).foldl (stp (kW2 (c.2.1 6 1) (c.2.1 6 2) (fun l => kstr code cnt (c.2.1 6 0) (c.2.1 6 1) (c.2.1 6 2) (c.2.1 2 l) (c.2.1 3 l) l) (c.2.1 4)) (c.2.1 6 3)) (-1, [], 0) := fun N hN => by
    show tfw (mwg (m.2.1 81) en cnt) n 4 wfm N [] 0 1 (-1, [], 0) = _
    rw [tfw_sfx, List.foldl_map]
    refine fold_c _ _ (fun q hq b => ?_)
    have hok := sfx_ok N 0 q hq
    show mwg (m.2.1 81) en cnt q 1 b = stp _ _ b q
    unfold mwg stp
    rw [hA.w2 q hok.2, hse.2.2.2]
  have hcT := fun (N : Nat) (hN : N ≤ 3) (f1 : Nat → Int32) => tfw_eq (n := n) (N := N) (lim := c.2.1 6 3) hWn N [] 0 1 (-1, [], 0, f1) (-1, [], 0) (by show 0 + N ≤ 3; omega) (fun x hx => absurd hx List.not_mem_nil) ⟨rfl, rfl, Or.inl rfl⟩
  have hmin := fun (N : Nat) (hN : N ≤ 3) => stp_min (kW2 (c.2.1 6 1) (c.2.1 6 2) (fun l => kstr code cnt (c.2.1 6 0) (c.2.1 6 1) (c.2.1 6 2) (c.2.1 2 l) (c.2.1 3 l) l) (c.2.1 4)) (c.2.1 6 3) (sfp n N 0 []) (-1, [], 0) (fun p hp => by
    obtain ⟨q, hq, rfl⟩ := List.mem_map.mp hp
    have hok := sfx_ok N 0 q hq
    exact hWn q (by omega) hok.2) (Or.inl rfl)
  have hne : ∀ N, N ≤ n → ∃ p, p ∈ sfp n N 0 [] := fun N hN => by
    obtain ⟨q, hq⟩ := List.exists_mem_of_ne_nil _ ((sfx_ne hn9 N 0).1 (by rw [kfre_all n hn9]; exact hN))
    exact ⟨[] ++ q, List.mem_map.mpr ⟨q, hq, rfl⟩⟩
  have hem : ∀ N, n < N → sfp n N 0 [] = [] := fun N hN => by
    show (sfx n N 0).map _ = []
    rw [(sfx_ne hn9 N 0).2 (by rw [kfre_all n hn9]; exact hN)]
    rfl
  have rg : ∀ {N : Nat}, 1 ≤ N → N ≤ 3 → 1 ≤ (nI N).toInt ∧ (nI N).toInt ≤ 3 := fun {N} h1 h2 => by
    have := nI_toInt (n := N) (by omega)
    omega
  have hM : ∀ w1 : kZ, WP X d 0 0 Y_X10_pick 0 _ [] (HP c w1 m v E) _ := fun w1 => wp_depth (by omega) (s_X10_pick (X := X) (d := 0) (c := c) (w := w1) (m := m) (v := v) (E := E) hs1 hc8 hm hn' hn9 x y)
  refine wp_mono ?_ (wp_depth (by omega) (s_X9_pick (d := 0) hn hn9 rfl hu hL20 hc8 hwf hL.kd hp hp4 (hP.vp hn9) hV.1 x y))
  have rgi : ∀ {N i : Nat}, 1 ≤ N → N ≤ 3 → i < N → (1 ≤ (nI N).toInt ∧ (nI N).toInt ≤ 3) ∧ 0 ≤ (nI i).toInt ∧ (nI i).toInt < (nI N).toInt := fun {N i} h1 h2 h3 => by
    have := nI_toInt (n := N) (by omega)
    have := nI_toInt (n := i) (by omega)
    omega
  rintro r1 t1 (⟨h, rfl, rfl⟩ | ⟨N, i, h1, h2, rfl, hi, rfl, ⟨h3, rfl, rfl⟩ | ⟨h3, w1, ⟨f1, -, hAr⟩, rfl, rfl, hw, hray⟩⟩)
  · refine ⟨_, c, w, E, rfl, rfl, wp_mono ?_ (hM _)⟩
    rintro r2 t2 (⟨g, rfl, rfl⟩ | ⟨N, i, h1, h2, rfl, hi, rfl, -⟩)
    · exact ⟨rfl, m, v, rfl, hRl⟩
    · exact absurd (rgi h1 h2 hi) h
  · refine ⟨_, c, w, E, rfl, rfl, wp_mono ?_ (hM _)⟩
    rintro r2 t2 (⟨g, rfl, rfl⟩ | ⟨N2, i2, g1, g2, e, gi, e2, v1, gT, rfl, rfl⟩)
    · exact absurd (rgi h1 h2 hi) g
    · obtain rfl := nI_ij (by omega) (by omega) e
      refine ⟨?_, m, v1, rfl, hRl⟩
      rw [hmT N h2, hem N h3]
      rfl
  · refine ⟨_, c, w1, E, rfl, rfl, wp_mono ?_ (hM _)⟩
    rintro r2 t2 (⟨g, rfl, rfl⟩ | ⟨N2, i2, g1, g2, e, gi, e2, v1, gT, rfl, rfl⟩)
    · exact absurd (rgi h1 h2 hi) g
    · obtain rfl := nI_ij (by omega) (by omega) e
      obtain rfl := nI_ij (by omega) (by omega) e2
      refine ⟨?_, m, v1, rfl, hRl.w (hV.f (hw.2.1 72 (by omega)) hray)⟩
      obtain ⟨-, -, -, -, -, gT⟩ := gT
      obtain ⟨-, -, -, hAr⟩ := hAr
      have hct := (hcT N h2 f1).1
      rw [hmT N h2] at gT ⊢
      obtain ⟨p0, hp0⟩ := hne N h3
      obtain ⟨⟨-, q2, -⟩, q4⟩ := hmin N h2
      have h0 := (q2 p0 hp0).2
      have hlen : ((sfp n N 0 []).foldl (stp (kW2 (c.2.1 6 1) (c.2.1 6 2) (fun l => kstr code cnt (c.2.1 6 0) (c.2.1 6 1) (c.2.1 6 2) (c.2.1 2 l) (c.2.1 3 l) l) (c.2.1 4)) (c.2.1 6 3)) (-1, [], 0)).2.1.length = N := by
        rcases q4 with ⟨q4, -⟩ | q4
        · rw [q4] at h0
          exact absurd h0 (by decide)
        · obtain ⟨q, hq, he⟩ := List.mem_map.mp q4
          rw [← he]
          exact (sfx_ok N 0 q hq).1
      rw [if_neg (fun z => by have := Int32.lt_iff_toInt_lt.mp z; have : (0 : Int32).toInt = 0 := rfl; omega)]
      obtain ⟨-, e3, -⟩ := hct
      have e3 : (kTs c.2.1 code cnt n N f1).2.1 = _ := e3
      generalize (sfp n N 0 []).foldl (stp (kW2 (c.2.1 6 1) (c.2.1 6 2) (fun l => kstr code cnt (c.2.1 6 0) (c.2.1 6 1) (c.2.1 6 2) (c.2.1 2 l) (c.2.1 3 l) l) (c.2.1 4)) (c.2.1 6 3)) (-1, [], 0) = B at gT hlen e3
      rw [e3] at hAr
      have hi2 : i < B.2.1.length := by rw [hlen]; exact hi
      obtain ⟨k1, k2⟩ := hAr i hi2
      rw [gT i hi2, k1, k2, show (10 : Int32) = nI 10 from rfl, pk_mul, nI_add]
theorem j_good {X : kX} {d : Nat} (hd : 20 ≤ d) (x : Int32) : kJn X d 0 0 Y_X9_good Y_X10_good [(1, .int x)] := by
  intro c w m v E hRl
  obtain ⟨⟨n, p, r, ⟨⟨hn9, hp4, hr6⟩, ⟨hn, hn'⟩, ⟨hp, hp'⟩, ⟨hr, hr'⟩, hz⟩, hL, hS, hP, hRp, cnt, L, code, en, hu, hL20, hc8, hwf, hs1, hm, hq⟩, hK, hT, hW, hC, hH, hF, hV⟩ := id hRl
  have hA := RlA.of hq hL hS hP
  have hse := hA.1
  have hg3 : Ab (c.2.1 6 1) 3 := by
    have := hS.2.1.2
    show -((3 : Nat) : Int) ≤ (c.2.1 (1 + 5) 1).toInt ∧ (c.2.1 (1 + 5) 1).toInt ≤ ((3 : Nat) : Int)
    omega
  have he9 : Ab (c.2.1 6 2) 9 := by
    have := hS.2.2.1.2
    show -((9 : Nat) : Int) ≤ (c.2.1 (1 + 5) 2).toInt ∧ (c.2.1 (1 + 5) 2).toInt ≤ ((9 : Nat) : Int)
    omega
  have ht9 : ∀ l, l < n → Ab (c.2.1 4 l) 9 := fun l hl => by
    have := (hL l hl).2.2.1.2
    show -((9 : Nat) : Int) ≤ (c.2.1 (1 + 3) l).toInt ∧ (c.2.1 (1 + 3) l).toInt ≤ ((9 : Nat) : Int)
    omega
  have hWn := fun (p : kTb) (h1 : p.length ≤ 3) (h2 : ∀ x, x ∈ p → x.1 < n) => kW2_nn (A := c.2.1) (code := code) (cnt := cnt) hg3 he9 ht9 h1 h2
  have hmT : ∀ N, N ≤ 3 → mTs (m.2.1 81) en cnt n N = (sfp n N 0 []).foldl (stp (kW2 (c.2.1 6 1) (c.2.1 6 2) (fun l => kstr code cnt (c.2.1 6 0) (c.2.1 6 1) (c.2.1 6 2) (c.2.1 2 l) (c.2.1 3 l) l) (c.2.1 4)) (c.2.1 6 3)) (-1, [], 0) := fun N hN => by
    show tfw (mwg (m.2.1 81) en cnt) n 4 wfm N [] 0 1 (-1, [], 0) = _
    rw [tfw_sfx, List.foldl_map]
    refine fold_c _ _ (fun q hq b => ?_)
    have hok := sfx_ok N 0 q hq
    show mwg (m.2.1 81) en cnt q 1 b = stp _ _ b q
    unfold mwg stp
    rw [hA.w2 q hok.2, hse.2.2.2]
  have hcT := fun (N : Nat) (hN : N ≤ 3) (f1 : Nat → Int32) => tfw_eq (n := n) (N := N) (lim := c.2.1 6 3) hWn N [] 0 1 (-1, [], 0, f1) (-1, [], 0) (by show 0 + N ≤ 3; omega) (fun x hx => absurd hx List.not_mem_nil) ⟨rfl, rfl, Or.inl rfl⟩
  have hmin := fun (N : Nat) (hN : N ≤ 3) => stp_min (kW2 (c.2.1 6 1) (c.2.1 6 2) (fun l => kstr code cnt (c.2.1 6 0) (c.2.1 6 1) (c.2.1 6 2) (c.2.1 2 l) (c.2.1 3 l) l) (c.2.1 4)) (c.2.1 6 3) (sfp n N 0 []) (-1, [], 0) (fun p hp => by
    obtain ⟨q, hq, rfl⟩ := List.mem_map.mp hp
    have hok := sfx_ok N 0 q hq
    exact hWn q (by omega) hok.2) (Or.inl rfl)
  have hne : ∀ N, N ≤ n → ∃ p, p ∈ sfp n N 0 [] := fun N hN => by
    obtain ⟨q, hq⟩ := List.exists_mem_of_ne_nil _ ((sfx_ne hn9 N 0).1 (by rw [kfre_all n hn9]; exact hN))
    exact ⟨[] ++ q, List.mem_map.mpr ⟨q, hq, rfl⟩⟩
  have hem : ∀ N, n < N → sfp n N 0 [] = [] := fun N hN => by
    show (sfx n N 0).map _ = []
    rw [(sfx_ne hn9 N 0).2 (by rw [kfre_all n hn9]; exact hN)]
    rfl
  have rg : ∀ {N : Nat}, 1 ≤ N → N ≤ 3 → 1 ≤ (nI N).toInt ∧ (nI N).toInt ≤ 3 := fun {N} h1 h2 => by
    have := nI_toInt (n := N) (by omega)
    omega
  have hM : ∀ w1 : kZ, WP X d 0 0 Y_X10_good 0 _ [] (HP c w1 m v E) _ := fun w1 => wp_depth (by omega) (s_X10_good (X := X) (d := 0) (c := c) (w := w1) (m := m) (v := v) (E := E) hs1 hc8 hm hn' hn9 x)
  refine wp_mono ?_ (wp_depth (by omega) (s_X9_good (d := 0) hn hn9 rfl hu hL20 hc8 hwf hL.kd hp hp4 (hP.vp hn9) hV.1 x))
  rintro r1 t1 (⟨h, rfl, rfl⟩ | ⟨N, h1, h2, rfl, ⟨f1, -, rfl⟩, w1, rfl, hw, hray⟩)
  · refine ⟨_, c, w, E, rfl, rfl, wp_mono ?_ (hM _)⟩
    rintro r2 t2 (⟨g, rfl, rfl⟩ | ⟨N, h1, h2, rfl, -⟩)
    · exact ⟨rfl, m, v, rfl, hRl⟩
    · exact absurd (rg h1 h2) h
  · refine ⟨_, c, w1, E, rfl, rfl, wp_mono ?_ (hM _)⟩
    rintro r2 t2 (⟨g, rfl, rfl⟩ | ⟨N2, g1, g2, e, rfl, v1, rfl⟩)
    · exact absurd (rg h1 h2) g
    · obtain rfl := nI_ij (by omega) (by omega) e
      refine ⟨?_, m, v1, rfl, hRl.w (hV.f (hw.2.1 72 (by omega)) hray)⟩
      rw [hmT N h2, stp_cnt]
      have e3 : (kTs c.2.1 code cnt n N f1).2.2.1 = _ := (hcT N h2 f1).2
      rw [e3, Int32.one_mul]
