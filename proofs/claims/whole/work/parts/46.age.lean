/-! ===== aging: the class ===== -/
def kdg (T p : Nat) : Nat := T / 4 ^ p % 4
def kqm (T p : Nat) : Nat := T - kdg T p * 4 ^ p + (kdg T p + 1) % 4 * 4 ^ p
theorem kqm_c (T p : Nat) (hT : T < 256) (hp : p < 4) : (nI T &&& (3 <<< (nI (2 * p) &&& 31) ^^^ -1)) ||| ((nI T >>> (nI (2 * p) &&& 31) + 1 &&& 3) <<< (nI (2 * p) &&& 31)) = nI (kqm T p) := (by decide +kernel : ∀ t : Fin 256, ∀ q : Fin 4, (nI t &&& (3 <<< (nI (2 * q.1) &&& 31) ^^^ -1)) ||| ((nI t >>> (nI (2 * q.1) &&& 31) + 1 &&& 3) <<< (nI (2 * q.1) &&& 31)) = nI (kqm t q)) ⟨T, hT⟩ ⟨p, hp⟩
theorem kqm_m (T p : Nat) (hT : T < 256) (hp : p < 4) : (nI T &&& (3 <<< (nI (2 * p) &&& 31) ^^^ -1)) ||| (((nI T >>> (nI (2 * p) &&& 31) &&& 3) + 1 &&& 3) <<< (nI (2 * p) &&& 31)) = nI (kqm T p) := (by decide +kernel : ∀ t : Fin 256, ∀ q : Fin 4, (nI t &&& (3 <<< (nI (2 * q.1) &&& 31) ^^^ -1)) ||| (((nI t >>> (nI (2 * q.1) &&& 31) &&& 3) + 1 &&& 3) <<< (nI (2 * q.1) &&& 31)) = nI (kqm t q)) ⟨T, hT⟩ ⟨p, hp⟩
theorem kqm_lt (P T p : Nat) (hP : P ≤ 4) (hT : T < 4 ^ P) (hp : p < P) : kqm T p < 4 ^ P := (by decide +kernel : ∀ P : Fin 5, ∀ T : Fin 256, ∀ p : Fin 4, T.1 < 4 ^ P.1 → p.1 < P.1 → kqm T p < 4 ^ P.1) ⟨P, by omega⟩ ⟨T, Nat.lt_of_lt_of_le hT ((by decide : ∀ P : Fin 5, 4 ^ P.1 ≤ 256) ⟨P, by omega⟩)⟩ ⟨p, by omega⟩ hT hp
theorem k4P (P : Nat) (hP : P ≤ 4) : 4 ^ P ≤ 256 ∧ 1 ≤ 4 ^ P := (by decide : ∀ P : Fin 5, 4 ^ P.1 ≤ 256 ∧ 1 ≤ 4 ^ P.1) ⟨P, by omega⟩
theorem k4p (p : Nat) (hp : p < 4) : 4 ^ (p + 1) ≤ 256 ∧ 4 ^ (p + 1) = 4 * 4 ^ p := ⟨(by decide : ∀ P : Fin 4, 4 ^ (P.1 + 1) ≤ 256) ⟨p, hp⟩, by rw [Nat.pow_succ, Nat.mul_comm]⟩
theorem kput_d (p T t : Nat) (hp : p < 4) (hT : T < 4 ^ p) (ht : t < 4) : nI T ||| (nI t <<< (nI (2 * p) &&& 31)) = nI (T + t * 4 ^ p) := (by decide +kernel : ∀ p : Fin 4, ∀ T : Fin 64, ∀ t : Fin 4, T.1 < 4 ^ p.1 → nI T ||| (nI t <<< (nI (2 * p.1) &&& 31)) = nI (T + t * 4 ^ p.1)) ⟨p, hp⟩ ⟨T, Nat.lt_of_lt_of_le hT ((by decide : ∀ P : Fin 4, 4 ^ P.1 ≤ 64) ⟨p, hp⟩)⟩ ⟨t, ht⟩ hT
theorem kdg_lo (p j T t : Nat) (hp : p < 4) (hj : j < p) (hT : T < 4 ^ p) (ht : t < 4) : kdg (T + t * 4 ^ p) j = kdg T j := (by decide +kernel : ∀ p : Fin 4, ∀ j : Fin 4, ∀ T : Fin 64, ∀ t : Fin 4, j.1 < p.1 → T.1 < 4 ^ p.1 → kdg (T + t * 4 ^ p.1) j = kdg T j) ⟨p, hp⟩ ⟨j, by omega⟩ ⟨T, Nat.lt_of_lt_of_le hT ((by decide : ∀ P : Fin 4, 4 ^ P.1 ≤ 64) ⟨p, hp⟩)⟩ ⟨t, ht⟩ hj hT
theorem kdg_hi (p T t : Nat) (hp : p < 4) (hT : T < 4 ^ p) (ht : t < 4) : kdg (T + t * 4 ^ p) p = t := (by decide +kernel : ∀ p : Fin 4, ∀ T : Fin 64, ∀ t : Fin 4, T.1 < 4 ^ p.1 → kdg (T + t * 4 ^ p.1) p = t) ⟨p, hp⟩ ⟨T, Nat.lt_of_lt_of_le hT ((by decide : ∀ P : Fin 4, 4 ^ P.1 ≤ 64) ⟨p, hp⟩)⟩ ⟨t, ht⟩ hT
def kmx (F : Nat → Int32) (T : Nat) : Nat → Nat → Int32 → Int32
  | 0, _, m => m
  | k + 1, p, m => kmx F T k (p + 1) (if m < F (kqm T p) then F (kqm T p) else m)
def kyl (F : Nat → Int32) (P T : Nat) : Int32 := kmx F T P 0 (F T)
theorem kmx_congr {F G : Nat → Int32} {P T : Nat} (hP : P ≤ 4) (hT : T < 4 ^ P) (h : ∀ T, T < 4 ^ P → F T = G T) : ∀ k p m, p + k = P → kmx F T k p m = kmx G T k p m := by
  intro k
  induction k with
  | zero => intro p m _; rfl
  | succ k ih =>
    intro p m hk
    simp only [kmx]
    rw [h _ (kqm_lt P T p hP hT (by omega)), ih _ _ (by omega)]
theorem kyl_congr {F G : Nat → Int32} {P T : Nat} (hP : P ≤ 4) (hT : T < 4 ^ P) (h : ∀ T, T < 4 ^ P → F T = G T) : kyl F P T = kyl G P T := by
  unfold kyl
  rw [h T hT, kmx_congr hP hT h P 0 _ (by omega)]
theorem s_X0_quarterMore {X : kX} {d : Nat} {c w m v : kZ} {E : kH} {T p : Nat} (hT : T < 256) (hp : p < 4) : WP X d 0 0 Y_X0_quarterMore 0 [(0, .int (nI (T))), (1, .int (nI (p)))] [] (HP c w m v E) (kR (some (.int (nI (kqm T p)))) (HP c w m v E)) := by
  refine wp_iload_n 0 d_X0_quarterMore_0 rfl rfl ?_
  refine wp_iconst (v0 := 2) d_X0_quarterMore_1 rfl ?_
  refine wp_iload_n 1 d_X0_quarterMore_2 rfl rfl ?_
  refine wp_imul d_X0_quarterMore_3 ?_
  refine wp_v (v0 := nI ((2) * (p))) (pk_mul (2) (p)) ?_
  refine wp_ishr d_X0_quarterMore_4 ?_
  refine wp_iconst (v0 := 1) d_X0_quarterMore_5 rfl ?_
  refine wp_iadd d_X0_quarterMore_6 ?_
  refine wp_iconst (v0 := 3) d_X0_quarterMore_7 rfl ?_
  refine wp_iand d_X0_quarterMore_8 ?_
  refine wp_istore_n [(2, .int ((((nI (T)) >>> ((nI ((2) * (p))) &&& 31)) + (1)) &&& (3))), (0, .int (nI (T))), (1, .int (nI (p)))] d_X0_quarterMore_9 rfl (Nat.le_of_ble_eq_true rfl) rfl ?_
  refine wp_iload_n 1 d_X0_quarterMore_10 rfl rfl ?_
  refine wp_iconst (v0 := 3) d_X0_quarterMore_11 rfl ?_
  refine wp_iconst (v0 := 2) d_X0_quarterMore_12 rfl ?_
  refine wp_iload_n 2 d_X0_quarterMore_13 rfl rfl ?_
  refine wp_imul d_X0_quarterMore_14 ?_
  refine wp_v (v0 := nI ((2) * (p))) (pk_mul (2) (p)) ?_
  refine wp_ishl d_X0_quarterMore_15 ?_
  refine wp_iconst (v0 := -1) d_X0_quarterMore_16 rfl ?_
  refine wp_ixor d_X0_quarterMore_17 ?_
  refine wp_iand d_X0_quarterMore_18 ?_
  refine wp_iload_n 0 d_X0_quarterMore_19 rfl rfl ?_
  refine wp_iconst (v0 := 2) d_X0_quarterMore_20 rfl ?_
  refine wp_iload_n 2 d_X0_quarterMore_21 rfl rfl ?_
  refine wp_imul d_X0_quarterMore_22 ?_
  refine wp_v (v0 := nI ((2) * (p))) (pk_mul (2) (p)) ?_
  refine wp_ishl d_X0_quarterMore_23 ?_
  refine wp_ior d_X0_quarterMore_24 ?_
  refine wp_reti d_X0_quarterMore_25 rfl ?_
  exact kR_i (kqm_c T p hT hp) rfl
theorem s_X0_longest_l {X : kX} {d : Nat} {c w m v : kZ} {E : kH} {P T y : Nat} (hP : P ≤ 4) (hp : w.1 6007 = nI P) (hy : y ≤ 21) (hT : T < 4 ^ P) : ∀ (k : Nat) (i : Nat) (z : Int32), (i + k = P) → WP X (d + 2) 0 0 Y_X0_longest 16 [(4, .int (nI (i))), (3, .int (z)), (0, .ref (59)), (1, .int (nI (y))), (2, .int (nI (T)))] [] (HP c w m v E) (kR (some (.int (kmx (fun T' => w.2.1 72 (y * 256 + T')) T k i z))) (HP c w m v E)) := by
  intro k
  induction k using Nat.strongRecOn with
  | ind k ih =>
    intro i z hi
    have h4 := k4P P hP
    refine wp_iload 0 d_X0_longest_16 rfl ?_
    refine wp_aload_n 2 d_X0_longest_18 rfl rfl ?_
    refine wp_getfield (v := .ref (60)) d_X0_longest_19 gf_X0_12 (hp_59 _ _ _ _ _) rfl ?_
    refine wp_getfield (v := .int (nI (P))) d_X0_longest_22 gf_X0_55 (hp_60 _ _ _ _ _) (congrArg (fun z => some (Value.int z)) hp) ?_
    refine wp_ncmp_ge (a := i) (b := P) 56 d_X0_longest_25 rfl (by omega) (by omega) (fun zc25 => ?_) (fun zc25 => ?_)
    · refine wp_iload_n 1 d_X0_longest_56 rfl rfl ?_
      refine wp_reti d_X0_longest_57 rfl ?_
      obtain rfl : k = 0 := by omega
      exact kR_i rfl rfl
    · refine wp_iload_n 1 d_X0_longest_28 rfl rfl ?_
      refine wp_aload_n 2 d_X0_longest_29 rfl rfl ?_
      refine wp_getfield (v := .ref (72)) d_X0_longest_30 gf_X0_18 (hp_59 _ _ _ _ _) rfl ?_
      refine wp_iload_n 3 d_X0_longest_33 rfl rfl ?_
      refine wp_sipush (v0 := 256) d_X0_longest_34 (by decide) ?_
      refine wp_imul d_X0_longest_37 ?_
      refine wp_v (v0 := nI ((y) * (256))) (pk_mul (y) (256)) ?_
      refine wp_iload_n 4 d_X0_longest_38 rfl rfl ?_
      refine wp_iload 0 d_X0_longest_39 rfl ?_
      refine wp_stc_i (As := [.int (nI (T)), .int (nI (i))]) (x0 := nI (kqm (T) (i))) (h1 := HP c w m v E) d_X0_longest_41 lk_X0_79 mv_X0_quarterMore st_X0_quarterMore (Nat.le_of_ble_eq_true rfl) (Nat.le_of_ble_eq_true rfl) (s_X0_quarterMore (T := T) (p := i) (by omega) (by omega)) ?_
      have hkl := kqm_lt P T i hP hT (by omega)
      refine wp_iadd d_X0_longest_44 ?_
      refine wp_v (v0 := nI (((y) * (256)) + (kqm (T) (i)))) (nI_add ((y) * (256)) (kqm (T) (i))) ?_
      refine wp_iaload (v := (w.2.1 72) (((y) * (256)) + (kqm (T) (i)))) d_X0_longest_45 (hp_72 _ _ _ _ _) (vp_in_nI (by omega) (by omega)) (congrArg ((w.2.1 72)) (nI_clamp (by omega))) ?_
      refine wp_mmax d_X0_longest_46 mk_X0_82 mst_max ini_J9 mco_max (Nat.le_of_ble_eq_true rfl) ?_
      refine wp_istore_n [(3, .int (if z < (w.2.1 72) (((y) * (256)) + (kqm (T) (i))) then (w.2.1 72) (((y) * (256)) + (kqm (T) (i))) else z)), (4, .int (nI (i))), (0, .ref (59)), (1, .int (nI (y))), (2, .int (nI (T)))] d_X0_longest_49 rfl (Nat.le_of_ble_eq_true rfl) rfl ?_
      refine wp_iinc (v0 := nI ((i) + 1)) [(4, .int (nI ((i) + 1))), (3, .int (if z < (w.2.1 72) (((y) * (256)) + (kqm (T) (i))) then (w.2.1 72) (((y) * (256)) + (kqm (T) (i))) else z)), (0, .ref (59)), (1, .int (nI (y))), (2, .int (nI (T)))] 1 d_X0_longest_50 rfl (nI_add (i) 1) (Nat.le_of_ble_eq_true rfl) rfl ?_
      refine wp_goto 16 d_X0_longest_53 rfl ?_
      obtain ⟨k1, rfl⟩ : ∃ k1, k = k1 + 1 := ⟨k - 1, by omega⟩
      refine wp_sub [(4, .int (nI ((i) + 1))), (3, .int (if z < (w.2.1 72) (((y) * (256)) + (kqm (T) (i))) then (w.2.1 72) (((y) * (256)) + (kqm (T) (i))) else z)), (0, .ref (59)), (1, .int (nI (y))), (2, .int (nI (T)))] [0, 1, 2, 3, 4] rfl ?_
      exact ih k1 (by omega) (i + 1) _ (by omega)
theorem s_X0_longest {X : kX} {d : Nat} {c w m v : kZ} {E : kH} {P T y : Nat} (hP : P ≤ 4) (hp : w.1 6007 = nI P) (hy : y ≤ 21) (hT : T < 4 ^ P) : WP X (d + 2) 0 0 Y_X0_longest 0 [(0, .ref (59)), (1, .int (nI (y))), (2, .int (nI (T)))] [] (HP c w m v E) (kR (some (.int (kyl (fun T' => w.2.1 72 (y * 256 + T')) P T))) (HP c w m v E)) := by
  have h4 := k4P P hP
  refine wp_aload_n 0 d_X0_longest_0 rfl rfl ?_
  refine wp_getfield (v := .ref (72)) d_X0_longest_1 gf_X0_18 (hp_59 _ _ _ _ _) rfl ?_
  refine wp_iload_n 1 d_X0_longest_4 rfl rfl ?_
  refine wp_sipush (v0 := 256) d_X0_longest_5 (by decide) ?_
  refine wp_imul d_X0_longest_8 ?_
  refine wp_v (v0 := nI ((y) * (256))) (pk_mul (y) (256)) ?_
  refine wp_iload_n 2 d_X0_longest_9 rfl rfl ?_
  refine wp_iadd d_X0_longest_10 ?_
  refine wp_v (v0 := nI (((y) * (256)) + (T))) (nI_add ((y) * (256)) (T)) ?_
  refine wp_iaload (v := (w.2.1 72) (((y) * (256)) + (T))) d_X0_longest_11 (hp_72 _ _ _ _ _) (vp_in_nI (by omega) (by omega)) (congrArg ((w.2.1 72)) (nI_clamp (by omega))) ?_
  refine wp_istore_n [(3, .int ((w.2.1 72) (((y) * (256)) + (T)))), (0, .ref (59)), (1, .int (nI (y))), (2, .int (nI (T)))] d_X0_longest_12 rfl (Nat.le_of_ble_eq_true rfl) rfl ?_
  refine wp_iconst (v0 := 0) d_X0_longest_13 rfl ?_
  refine wp_istore [(4, .int (0)), (3, .int ((w.2.1 72) (((y) * (256)) + (T)))), (0, .ref (59)), (1, .int (nI (y))), (2, .int (nI (T)))] d_X0_longest_14 (Nat.le_of_ble_eq_true rfl) rfl ?_
  refine wp_sub [(4, .int (0)), (3, .int ((w.2.1 72) (((y) * (256)) + (T)))), (0, .ref (59)), (1, .int (nI (y))), (2, .int (nI (T)))] [0, 1, 2, 3, 4] rfl ?_
  exact s_X0_longest_l hP hp hy hT P 0 _ (by omega)
def ktt (ln : Nat → Nat) (T p : Nat) : kTb := (List.range p).map fun j => (ln j, kdg T j)
theorem ktt_len (ln : Nat → Nat) (T p : Nat) : (ktt ln T p).length = p := by simp [ktt]
theorem ktt_s (ln : Nat → Nat) {T p t : Nat} (hp : p < 4) (hT : T < 4 ^ p) (ht : t < 4) : ktt ln (T + t * 4 ^ p) (p + 1) = ktt ln T p ++ [(ln p, t)] := by
  unfold ktt
  rw [List.range_succ, List.map_append, List.map_singleton, kdg_hi p T t hp hT ht]
  congr 1
  apply List.map_congr_left
  intro j hj
  rw [List.mem_range] at hj
  rw [kdg_lo p j T t hp hj hT ht]
def kFl (w w' : kZ) : Prop := (∀ k, k ≠ 4210 → w'.1 k = w.1 k) ∧ (∀ k, k < 46 ∨ 49 < k ∧ k ≠ 72 → w'.2.1 k = w.2.1 k) ∧ w'.2.2 = w.2.2
theorem kFl.rf (w : kZ) : kFl w w := ⟨fun _ _ => rfl, fun _ _ => rfl, rfl⟩
theorem kFl.tr {a b c : kZ} (h : kFl a b) (g : kFl b c) : kFl a c := ⟨fun k hk => (g.1 k hk).trans (h.1 k hk), fun k hk => (g.2.1 k hk).trans (h.2.1 k hk), g.2.2.trans h.2.2⟩
theorem kLf.fl {a b : kZ} (h : kLf a b) : kFl a b := ⟨h.1, fun k hk => h.2.1 k (by omega), h.2.2⟩
theorem kLd.fl {w w' : kZ} {g e lim : Int32} {st tl : Nat → Int32} {n : Nat} (h : kLd w g e lim st tl n) (f : kFl w w') : kLd w' g e lim st tl n := by
  obtain ⟨h1, h2, h3, h4, h5⟩ := h
  exact ⟨(f.1 _ (by decide)).trans h1, (f.1 _ (by decide)).trans h2, (f.1 _ (by decide)).trans h3, fun j hj => by rw [f.2.1 _ (by decide)]; exact h4 j hj, fun j hj => by rw [f.2.1 _ (by decide)]; exact h5 j hj⟩
def kFi (w0 : kZ) (g e lim : Int32) (st tl : Nat → Int32) (nl P y : Nat) (ln : Nat → Nat) (V1 : Nat → Int32) (p T : Nat) (w' : kZ) : Prop := kFl w0 w' ∧ kLd w' g e lim st tl nl ∧ kRay w' ((ktt ln T p).map (kent2 st tl)) ∧ ∀ T', T' < 4 ^ P → w'.2.1 72 ((y + 1) * 256 + T') = V1 T'
def kvl (g e lim : Int32) (st tl : Nat → Int32) (P : Nat) (ln : Nat → Nat) (V1 : Nat → Int32) (T : Nat) : Int32 := if kW2 g e st tl (ktt ln T P) ≤ lim then 1 + kyl V1 P T else 0
def kDn (vl : Nat → Int32) (P y p T : Nat) (L L1 : Nat → Int32) : Prop := (∀ T', T' < 4 ^ P → T' % 4 ^ p = T → L1 (y * 256 + T') = vl T') ∧ ∀ i, (∀ T', T' < 4 ^ P → T' % 4 ^ p = T → i ≠ y * 256 + T') → L1 i = L i
theorem s_X0_see {X : kX} {d : Nat} {c w m v : kZ} {E : kH} {w0 : kZ} {g e lim : Int32} {st tl : Nat → Int32} {nl P y : Nat} {ln : Nat → Nat} {V1 : Nat → Int32} (hnl : nl ≤ 9) (hP : P ≤ 4) (hp : w0.1 6007 = nI P) (hy : y ≤ 20) (hln : ∀ j, j < P → w0.2.1 68 j = nI (ln j) ∧ ln j < nl) {T : Nat} (hI : kFi w0 g e lim st tl nl P y ln V1 P T w) : WP X (d + 1) 0 0 Y_X5_see 0 [(0, .ref (42)), (1, .int (nI P))] [] (HP c w m v E) (fun r h1 => r = none ∧ ∃ w2 : kZ, h1 = HP c w2 m v E ∧ kFi w0 g e lim st tl nl P y ln V1 P T w2 ∧ w2.2.1 72 = w.2.1 72 ∧ w2.1 4210 = nI (P + 1) ∧ kabs (w2.2.1 46 (P + 1)) + kabs (w2.2.1 48 (P + 1)) = kW2 g e st tl (ktt ln T P) ∧ w2.1 4205 = lim) := by
  refine wp_mono ?_ (s_X5_see (p := P) (by omega))
  rintro r h1 ⟨rfl, rfl⟩
  obtain ⟨hf0, hd, hr0, hV⟩ := hI
  have hr := hr0.pass (p := P) (by rw [List.length_map, ktt_len]) (w.1 4204) 0
  have hr2 : kRay (setS (kpass w P (w.1 4204) 0) 4210 (nI (P + 1))) ((ktt ln T P).map (kent2 st tl) ++ [(e, 0)]) := by
    have := hr.f (w' := setS (kpass w P (w.1 4204) 0) 4210 (nI (P + 1))) rfl (fun _ _ => ⟨rfl, rfl, rfl, rfl⟩)
    rw [hd.2.1] at this ⊢
    exact this
  have hf : kLf w (setS (kpass w P (w.1 4204) 0) 4210 (nI (P + 1))) := (kpass_f w P _ _).tr ⟨fun k9 h9 => upd_n _ _ h9, fun _ _ => rfl, rfl⟩
  have hs : kSeen (setS (kpass w P (w.1 4204) 0) 4210 (nI (P + 1))) g e lim ((ktt ln T P).map (kent2 st tl)) := ⟨(hd.f hf).1, (hd.f hf).2.2.1, hr2, by rw [List.length_map, ktt_len]; rfl⟩
  refine ⟨rfl, _, rfl, ⟨hf0.tr hf.fl, hd.f hf, ?_, ?_⟩, hf.2.1 72 (by decide), rfl, ?_, (hd.f hf).2.2.1⟩
  · have h9 := hr2.len (j := P)
    rw [List.take_append_of_le_length (by rw [List.length_map, ktt_len]; omega), List.take_of_length_le (by rw [List.length_map, ktt_len]; omega)] at h9
    exact h9
  · rw [hf.2.1 72 (by decide)]; exact hV
  · have hA := hs.a
    have hB := hs.b
    rw [List.length_map, ktt_len] at hA hB
    rw [hA, hB]
    rfl
theorem s_X0_fill_t {X : kX} {d : Nat} {c w m v : kZ} {E : kH} {w0 : kZ} {g e lim : Int32} {st tl : Nat → Int32} {nl P y : Nat} {ln : Nat → Nat} {V1 : Nat → Int32} (hnl : nl ≤ 9) (hP : P ≤ 4) (hp : w0.1 6007 = nI P) (hy : y ≤ 20) (hln : ∀ j, j < P → w0.2.1 68 j = nI (ln j) ∧ ln j < nl) {kk : Nat} (IH : ∀ (p T : Nat) (w' : kZ), p + kk = P → T < 4 ^ p → kFi w0 g e lim st tl nl P y ln V1 p T w' → WP X (d + kk + 5) 0 0 Y_X0_fill 0 [(0, .ref 59), (1, .int (nI y)), (2, .int (nI p)), (3, .int (nI T))] [] (HP c w' m v E) (fun r h1 => r = none ∧ ∃ w1 : kZ, h1 = HP c w1 m v E ∧ kFi w0 g e lim st tl nl P y ln V1 p T w1 ∧ kDn (kvl g e lim st tl P ln V1) P y p T (w'.2.1 72) (w1.2.1 72))) {p T : Nat} (hpk : p + (kk + 1) = P) (hT : T < 4 ^ p) {w9 : kZ} : ∀ (k : Nat) (t : Nat) (w' : kZ), (t + k = 4) → (kFi w0 g e lim st tl nl P y ln V1 p T w') → (∀ T', T' < 4 ^ P → T' % 4 ^ p = T → T' / 4 ^ p % 4 < t → w'.2.1 72 (y * 256 + T') = (kvl g e lim st tl P ln V1) T') → (∀ i, (∀ T', T' < 4 ^ P → T' % 4 ^ p = T → i ≠ y * 256 + T') → w'.2.1 72 i = w9.2.1 72 i) → WP X (d + kk + 6) 0 0 Y_X0_fill 59 [(4, .int (nI (t))), (0, .ref (59)), (1, .int (nI (y))), (2, .int (nI (p))), (3, .int (nI (T)))] [] (HP c w' m v E) (fun r h1 => r = none ∧ ∃ w1 : kZ, h1 = HP c w1 m v E ∧ kFi w0 g e lim st tl nl P y ln V1 p T w1 ∧ kDn (kvl g e lim st tl P ln V1) P y p T (w9.2.1 72) (w1.2.1 72)) := by
  intro k
  induction k using Nat.strongRecOn with
  | ind k ih =>
    intro t w' htk hI hDa hDb
    have hlp : w'.2.1 68 p = nI (ln p) := by rw [hI.1.2.1 68 (by decide)]; exact (hln p (by omega)).1
    have hlp9 := (hln p (by omega)).2
    refine wp_iload 0 d_X0_fill_59 rfl ?_
    refine wp_iconst (v0 := 4) d_X0_fill_61 rfl ?_
    refine wp_ncmp_ge (a := t) (b := 4) 106 d_X0_fill_62 rfl (by omega) (by omega) (fun zc62 => ?_) (fun zc62 => ?_)
    · refine wp_vret d_X0_fill_106 rfl ?_
      obtain rfl : k = 0 := by omega
      exact ⟨rfl, w', rfl, hI, fun T9 h9 h8 => hDa T9 h9 h8 (by have := Nat.mod_lt (T9 / 4 ^ p) (by decide : 0 < 4); omega), hDb⟩
    · refine wp_aload_n 1 d_X0_fill_65 rfl rfl ?_
      refine wp_getfield (v := .ref (42)) d_X0_fill_66 gf_X0_22 (hp_59 _ _ _ _ _) rfl ?_
      refine wp_iload_n 3 d_X0_fill_69 rfl rfl ?_
      refine wp_aload_n 1 d_X0_fill_70 rfl rfl ?_
      refine wp_getfield (v := .ref (60)) d_X0_fill_71 gf_X0_12 (hp_59 _ _ _ _ _) rfl ?_
      refine wp_getfield (v := .ref (68)) d_X0_fill_74 gf_X0_73 (hp_60 _ _ _ _ _) rfl ?_
      refine wp_iload_n 3 d_X0_fill_77 rfl rfl ?_
      refine wp_iaload (v := nI (ln p)) d_X0_fill_78 (hp_68 _ _ _ _ _) (vp_in_nI (by omega) (by omega)) ((congrArg ((w'.2.1 68)) (nI_clamp (by omega))).trans hlp) ?_
      refine wp_iload 0 d_X0_fill_79 rfl ?_
      refine wp_vrt_v (As := [.int (nI (p)), .int (nI (ln p)), .int (nI (t))]) (h1 := HP c (kpass w' p (w'.2.1 44 (ln p)) (kpush (w'.2.1 45 (ln p)) (nI (t)))) m v E) d_X0_fill_81 lk_X0_76 mv_X5_put in_X5_put se_X5_put (Nat.le_of_ble_eq_true rfl) (Nat.le_of_ble_eq_true rfl) (hp_42 _ _ _ _ _) rfl (s_X5_put (w := w') (p := p) (l := ln p) (by omega) (by omega) (nI (t))) ?_
      refine wp_aload_n 1 d_X0_fill_84 rfl rfl ?_
      refine wp_iload_n 2 d_X0_fill_85 rfl rfl ?_
      refine wp_iload_n 3 d_X0_fill_86 rfl rfl ?_
      refine wp_iconst (v0 := 1) d_X0_fill_87 rfl ?_
      refine wp_iadd d_X0_fill_88 ?_
      refine wp_v (v0 := nI ((p) + (1))) (nI_add (p) (1)) ?_
      refine wp_iload_n 4 d_X0_fill_89 rfl rfl ?_
      refine wp_iload 0 d_X0_fill_90 rfl ?_
      refine wp_iconst (v0 := 2) d_X0_fill_92 rfl ?_
      refine wp_iload_n 3 d_X0_fill_93 rfl rfl ?_
      refine wp_imul d_X0_fill_94 ?_
      refine wp_v (v0 := nI ((2) * (p))) (pk_mul (2) (p)) ?_
      refine wp_ishl d_X0_fill_95 ?_
      refine wp_ior d_X0_fill_96 ?_
      have h4p := k4p p (by omega)
      refine wp_v (v0 := nI (T + t * 4 ^ p)) (kput_d p T t (by omega) hT (by omega)) ?_
      have hTt : T + t * 4 ^ p < 4 ^ (p + 1) := by
        rw [h4p.2]
        have : t * 4 ^ p ≤ 3 * 4 ^ p := Nat.mul_le_mul_right _ (by omega)
        omega
      have hE : kFi w0 g e lim st tl nl P y ln V1 (p + 1) (T + t * 4 ^ p) (kpass w' p (w'.2.1 44 (ln p)) (kpush (w'.2.1 45 (ln p)) (nI (t)))) := by
        obtain ⟨a1, a2, a3, a4⟩ := hI
        refine ⟨a1.tr (kpass_f _ _ _ _).fl, a2.f (kpass_f _ _ _ _), ?_, ?_⟩
        · rw [ktt_s ln (by omega) hT (by omega), List.map_append, a2.2.2.2.1 _ (hln p (by omega)).2, a2.2.2.2.2 _ (by have := (hln p (by omega)).2; omega)]
          exact a3.pass (by rw [List.length_map, ktt_len]) _ _
        · rw [(kpass_f _ _ _ _).2.1 72 (by decide)]; exact a4
      refine wp_virtual0 (As := [.int (nI (y)), .int (nI ((p) + (1))), .int (nI (T + t * 4 ^ p))]) d_X0_fill_97 lk_X0_47 mv_X0_fill in_X0_fill se_X0_fill (Nat.le_of_ble_eq_true rfl) (Nat.le_of_ble_eq_true rfl) (hp_59 _ _ _ _ _) rfl (IH (p + 1) (T + t * 4 ^ p) _ (by omega) (by omega) hE) (fun v97 h97 q97 => ?_)
      obtain ⟨rfl, w2, rfl, hI2, hD2⟩ := q97
      show WP _ _ _ _ _ 100 _ [] (HP c w2 m v E) _
      refine wp_iinc (v0 := nI ((t) + 1)) [(4, .int (nI ((t) + 1))), (0, .ref (59)), (1, .int (nI (y))), (2, .int (nI (p))), (3, .int (nI (T)))] 0 d_X0_fill_100 rfl (nI_add (t) 1) (Nat.le_of_ble_eq_true rfl) rfl ?_
      refine wp_goto 59 d_X0_fill_103 rfl ?_
      obtain ⟨k1, rfl⟩ : ∃ k1, k = k1 + 1 := ⟨k - 1, by omega⟩
      refine wp_sub [(4, .int (nI ((t) + 1))), (0, .ref (59)), (1, .int (nI (y))), (2, .int (nI (p))), (3, .int (nI (T)))] [0, 1, 2, 3, 4] rfl ?_
      refine ih k1 (by omega) (t + 1) w2 (by omega) ⟨hI2.1, hI2.2.1, ?_, hI2.2.2.2⟩ (fun T9 h9 h8 h7 => ?_) (fun i9 h9 => ?_)
      · have h6 := hI2.2.2.1.len (j := p)
        rw [ktt_s ln (by omega) hT (by omega), List.map_append, List.take_append_of_le_length (by rw [List.length_map, ktt_len]; omega), List.take_of_length_le (by rw [List.length_map, ktt_len]; omega)] at h6
        exact h6
      · have e9 : T9 % 4 ^ (p + 1) = T9 % 4 ^ p + 4 ^ p * (T9 / 4 ^ p % 4) := by rw [Nat.pow_succ, Nat.mod_mul]
        by_cases q : T9 / 4 ^ p % 4 = t
        · exact hD2.1 T9 h9 (by rw [e9, h8, q, Nat.mul_comm])
        · rw [hD2.2 _ (fun T8 g8 g7 => ?_)]
          · exact hDa T9 h9 h8 (by omega)
          · have e8 : T8 % 4 ^ (p + 1) = T8 % 4 ^ p + 4 ^ p * (T8 / 4 ^ p % 4) := by rw [Nat.pow_succ, Nat.mod_mul]
            intro z9
            obtain rfl : T9 = T8 := by omega
            rw [e9, h8] at g7
            apply q
            have g6 : 4 ^ p * (T9 / 4 ^ p % 4) = 4 ^ p * t := by rw [Nat.mul_comm t] at g7; omega
            exact Nat.eq_of_mul_eq_mul_left (Nat.pow_pos (by decide)) g6
      · rw [hD2.2 i9 (fun T8 g8 g7 => ?_)]
        · exact hDb i9 h9
        · have e8 : T8 % 4 ^ (p + 1) = T8 % 4 ^ p + 4 ^ p * (T8 / 4 ^ p % 4) := by rw [Nat.pow_succ, Nat.mod_mul]
          refine h9 T8 g8 ?_
          have g6 : T8 % 4 ^ p < 4 ^ p := Nat.mod_lt _ (Nat.pow_pos (by decide))
          have g5 : (T8 % 4 ^ p + 4 ^ p * (T8 / 4 ^ p % 4)) % 4 ^ p = (T + t * 4 ^ p) % 4 ^ p := by rw [← e8, g7]
          rw [Nat.add_mul_mod_self_left, Nat.mod_mod, Nat.add_mul_mod_self_right, Nat.mod_eq_of_lt hT] at g5
          exact g5
theorem s_X0_fill {X : kX} {d : Nat} {c w m v : kZ} {E : kH} {w0 : kZ} {g e lim : Int32} {st tl : Nat → Int32} {nl P y : Nat} {ln : Nat → Nat} {V1 : Nat → Int32} (hnl : nl ≤ 9) (hP : P ≤ 4) (hp : w0.1 6007 = nI P) (hy : y ≤ 20) (hln : ∀ j, j < P → w0.2.1 68 j = nI (ln j) ∧ ln j < nl) : ∀ (kk p T : Nat) (w' : kZ), p + kk = P → T < 4 ^ p → kFi w0 g e lim st tl nl P y ln V1 p T w' → WP X (d + kk + 5) 0 0 Y_X0_fill 0 [(0, .ref 59), (1, .int (nI y)), (2, .int (nI p)), (3, .int (nI T))] [] (HP c w' m v E) (fun r h1 => r = none ∧ ∃ w1 : kZ, h1 = HP c w1 m v E ∧ kFi w0 g e lim st tl nl P y ln V1 p T w1 ∧ kDn (kvl g e lim st tl P ln V1) P y p T (w'.2.1 72) (w1.2.1 72)) := by
  intro kk
  induction kk with
  | zero =>
    intro p T w' hpk hT hI
    obtain rfl : P = p := hpk.symm
    have h4 := k4P P hP
    have hpw : w'.1 6007 = nI P := (hI.1.1 _ (by decide)).trans hp
    refine wp_iload_n 2 d_X0_fill_0 rfl rfl ?_
    refine wp_aload_n 0 d_X0_fill_1 rfl rfl ?_
    refine wp_getfield (v := .ref (60)) d_X0_fill_2 gf_X0_12 (hp_59 _ _ _ _ _) rfl ?_
    refine wp_getfield (v := .int (nI (P))) d_X0_fill_5 gf_X0_55 (hp_60 _ _ _ _ _) (congrArg (fun z => some (Value.int z)) hpw) ?_
    refine wp_ncmp_lt (a := P) (b := P) 56 d_X0_fill_8 rfl (by omega) (by omega) (fun zc8 => ?_) (fun zc8 => ?_)
    · exact absurd zc8 (by omega)
    · refine wp_aload_n 0 d_X0_fill_11 rfl rfl ?_
      refine wp_getfield (v := .ref (42)) d_X0_fill_12 gf_X0_22 (hp_59 _ _ _ _ _) rfl ?_
      refine wp_iload_n 2 d_X0_fill_15 rfl rfl ?_
      refine wp_virtual0 (As := [.int (nI (P))]) d_X0_fill_16 lk_X0_62 mv_X5_see in_X5_see se_X5_see (Nat.le_of_ble_eq_true rfl) (Nat.le_of_ble_eq_true rfl) (hp_42 _ _ _ _ _) rfl (s_X0_see (w := w') hnl hP hp hy hln hI) (fun v16 h16 q16 => ?_)
      obtain ⟨rfl, w2, rfl, hI2, h72, he2, hW2, hL2⟩ := q16
      have hp2 : w2.1 6007 = nI P := (hI2.1.1 _ (by decide)).trans hp
      have hV2 := hI2.2.2.2
      show WP _ _ _ _ _ 19 _ [] (HP c w2 m v E) _
      refine wp_aload_n 0 d_X0_fill_19 rfl rfl ?_
      refine wp_getfield (v := .ref (72)) d_X0_fill_20 gf_X0_18 (hp_59 _ _ _ _ _) rfl ?_
      refine wp_iload_n 1 d_X0_fill_23 rfl rfl ?_
      refine wp_sipush (v0 := 256) d_X0_fill_24 (by decide) ?_
      refine wp_imul d_X0_fill_27 ?_
      refine wp_v (v0 := nI ((y) * (256))) (pk_mul (y) (256)) ?_
      refine wp_iload_n 3 d_X0_fill_28 rfl rfl ?_
      refine wp_iadd d_X0_fill_29 ?_
      refine wp_v (v0 := nI (((y) * (256)) + (T))) (nI_add ((y) * (256)) (T)) ?_
      refine wp_aload_n 0 d_X0_fill_30 rfl rfl ?_
      refine wp_getfield (v := .ref (42)) d_X0_fill_31 gf_X0_22 (hp_59 _ _ _ _ _) rfl ?_
      refine wp_vrt_i (As := []) (x0 := kb (kabs (w2.2.1 46 (P + 1)) + kabs (w2.2.1 48 (P + 1)) ≤ w2.1 4205)) (h1 := HP c w2 m v E) d_X0_fill_34 lk_X0_66 mv_X5_isMended in_X5_isMended se_X5_isMended (Nat.le_of_ble_eq_true rfl) (Nat.le_of_ble_eq_true rfl) (hp_42 _ _ _ _ _) rfl (s_X5_isMended (w := w2) he2 (by omega)) ?_
      refine wp_ifb_eq 53 d_X0_fill_37 rfl (fun zc37 => ?_) (fun zc37 => ?_)
      · refine wp_iconst (v0 := 0) d_X0_fill_53 rfl ?_
        refine wp_iastore (h' := HP c (setA w2 72 (upd (w2.2.1 72) (((y) * (256)) + (T)) (0))) m v E) d_X0_fill_54 (hp_72 _ _ _ _ _) (vp_in_nI (by omega) (by omega)) (by rw [nI_clamp (by omega)]; exact (hpa_72 _ _ _ _ _ _)) ?_
        refine wp_vret d_X0_fill_55 rfl ?_
        have hvl : (kvl g e lim st tl P ln V1) T = 0 := by
          unfold kvl
          rw [if_neg (by rw [hW2, hL2] at zc37; exact zc37)]
        refine ⟨rfl, _, rfl, ⟨hI2.1.tr ⟨fun _ _ => rfl, fun k9 h9 => updA_n _ _ (by omega), rfl⟩, hI2.2.1, hI2.2.2.1.f rfl (fun _ _ => ⟨rfl, rfl, rfl, rfl⟩), fun T9 h9 => ?_⟩, fun T9 h9 h8 => ?_, fun i9 h9 => ?_⟩
        · exact (upd_n _ _ (by omega)).trans (hV2 T9 h9)
        · obtain rfl : T9 = T := by rw [Nat.mod_eq_of_lt h9] at h8; exact h8
          rw [hvl]
          exact upd_s _ _ _
        · have h7 := h9 T hT (Nat.mod_eq_of_lt hT)
          exact (upd_n _ _ (by omega)).trans (congrFun h72 i9)
      · refine wp_iconst (v0 := 1) d_X0_fill_40 rfl ?_
        refine wp_aload_n 0 d_X0_fill_41 rfl rfl ?_
        refine wp_iload_n 1 d_X0_fill_42 rfl rfl ?_
        refine wp_iconst (v0 := 1) d_X0_fill_43 rfl ?_
        refine wp_iadd d_X0_fill_44 ?_
        refine wp_v (v0 := nI ((y) + (1))) (nI_add (y) (1)) ?_
        refine wp_iload_n 3 d_X0_fill_45 rfl rfl ?_
        refine wp_vrt_i (As := [.int (nI ((y) + (1))), .int (nI (T))]) (x0 := kyl (fun T' => w2.2.1 72 (((y) + (1)) * 256 + T')) P T) (h1 := HP c w2 m v E) d_X0_fill_46 lk_X0_70 mv_X0_longest in_X0_longest se_X0_longest (Nat.le_of_ble_eq_true rfl) (Nat.le_of_ble_eq_true rfl) (hp_59 _ _ _ _ _) rfl (s_X0_longest (w := w2) (P := P) (T := T) (y := (y) + (1)) hP hp2 (by omega) hT) ?_
        refine wp_iadd d_X0_fill_49 ?_
        refine wp_goto 54 d_X0_fill_50 rfl ?_
        refine wp_iastore (h' := HP c (setA w2 72 (upd (w2.2.1 72) (((y) * (256)) + (T)) ((1) + (kyl (fun T' => w2.2.1 72 (((y) + (1)) * 256 + T')) P T)))) m v E) d_X0_fill_54 (hp_72 _ _ _ _ _) (vp_in_nI (by omega) (by omega)) (by rw [nI_clamp (by omega)]; exact (hpa_72 _ _ _ _ _ _)) ?_
        refine wp_vret d_X0_fill_55 rfl ?_
        have hvl : (kvl g e lim st tl P ln V1) T = 1 + kyl V1 P T := by
          unfold kvl
          rw [if_pos (by rw [hW2, hL2] at zc37; exact zc37)]
        have hky := kyl_congr (F := fun T' => w2.2.1 72 ((y + 1) * 256 + T')) (G := V1) hP hT hV2
        rw [hky]
        refine ⟨rfl, _, rfl, ⟨hI2.1.tr ⟨fun _ _ => rfl, fun k9 h9 => updA_n _ _ (by omega), rfl⟩, hI2.2.1, hI2.2.2.1.f rfl (fun _ _ => ⟨rfl, rfl, rfl, rfl⟩), fun T9 h9 => ?_⟩, fun T9 h9 h8 => ?_, fun i9 h9 => ?_⟩
        · exact (upd_n _ _ (by omega)).trans (hV2 T9 h9)
        · obtain rfl : T9 = T := by rw [Nat.mod_eq_of_lt h9] at h8; exact h8
          rw [hvl]
          exact upd_s _ _ _
        · have h7 := h9 T hT (Nat.mod_eq_of_lt hT)
          exact (upd_n _ _ (by omega)).trans (congrFun h72 i9)
  | succ kk IH =>
    intro p T w' hpk hT hI
    have hpw : w'.1 6007 = nI P := (hI.1.1 _ (by decide)).trans hp
    refine wp_iload_n 2 d_X0_fill_0 rfl rfl ?_
    refine wp_aload_n 0 d_X0_fill_1 rfl rfl ?_
    refine wp_getfield (v := .ref (60)) d_X0_fill_2 gf_X0_12 (hp_59 _ _ _ _ _) rfl ?_
    refine wp_getfield (v := .int (nI (P))) d_X0_fill_5 gf_X0_55 (hp_60 _ _ _ _ _) (congrArg (fun z => some (Value.int z)) hpw) ?_
    refine wp_ncmp_lt (a := p) (b := P) 56 d_X0_fill_8 rfl (by omega) (by omega) (fun zc8 => ?_) (fun zc8 => ?_)
    · refine wp_iconst (v0 := 0) d_X0_fill_56 rfl ?_
      refine wp_istore [(4, .int (0)), (0, .ref (59)), (1, .int (nI (y))), (2, .int (nI (p))), (3, .int (nI (T)))] d_X0_fill_57 (Nat.le_of_ble_eq_true rfl) rfl ?_
      refine wp_sub [(4, .int (0)), (0, .ref (59)), (1, .int (nI (y))), (2, .int (nI (p))), (3, .int (nI (T)))] [0, 1, 2, 3, 4] rfl ?_
      exact s_X0_fill_t (w := w) hnl hP hp hy hln IH hpk hT (w9 := w') 4 0 w' (by omega) hI (fun T9 h9 h8 h7 => absurd h7 (by omega)) (fun i9 h9 => rfl)
    · exact absurd zc8 (by omega)
def kEY (e : Int32) (y : Nat) : Int32 := if e + nI y < 9 then e + nI y else 9
/-- the tube's turns are T in year y: it is mended -/
abbrev cYM (A : Nat → Nat → Int32) (code : Nat → Int32) (cnt P : Nat) (ln : Nat → Nat) (y T : Nat) : Prop := kW2 (A 6 1) (kEY (A 6 2) y) (fun l => kstr code cnt (A 6 0) (A 6 1) (kEY (A 6 2) y) (A 2 l) (A 3 l) l) (A 4) (ktt ln T P) ≤ A 6 3
def kyr (M : Nat → Nat → Prop) [∀ y T, Decidable (M y T)] (P : Nat) : Nat → Nat → Int32
  | 0, _ => 0
  | k + 1, T => if M (20 - k) T then 1 + kyl (kyr M P k) P T else 0
def kTy (c w : kZ) : Prop := (w.1 6000 = c.1 100 ∧ w.1 6007 = c.1 107 ∧ w.2.2.1 60 = c.2.2.1 1) ∧ (∀ j, j < 9 → w.2.1 61 j = c.2.1 2 j) ∧ (∀ j, j < 9 → w.2.1 62 j = c.2.1 3 j) ∧ (∀ j, j < 9 → w.2.1 63 j = c.2.1 4 j) ∧ (∀ j, j < 4 → j ≠ 2 → w.2.1 65 j = c.2.1 6 j) ∧ (∀ j, j < 4 → w.2.1 68 j = c.2.1 9 j) ∧ (∀ j, j < 4 → w.2.1 69 j = c.2.1 10 j)
def kYf (w w' : kZ) : Prop := (∀ k, k < 4200 ∨ 4299 < k ∧ k < 6000 ∨ 6013 < k → w'.1 k = w.1 k) ∧ (∀ k, k < 43 ∨ 49 < k ∧ k < 60 ∨ 72 < k → w'.2.1 k = w.2.1 k) ∧ (∀ k, k ≠ 60 → w'.2.2.1 k = w.2.2.1 k) ∧ w'.2.2.2 = w.2.2.2
theorem kYf.tr {a b c : kZ} (h : kYf a b) (g : kYf b c) : kYf a c := ⟨fun k hk => (g.1 k hk).trans (h.1 k hk), fun k hk => (g.2.1 k hk).trans (h.2.1 k hk), fun k hk => (g.2.2.1 k hk).trans (h.2.2.1 k hk), g.2.2.2.trans h.2.2.2⟩
theorem kLa.yf {a b : kZ} (h : kLa a b) : kYf a b := ⟨fun k hk => h.1 k (by omega), fun k hk => h.2.1 k (by omega), fun k _ => by rw [h.2.2], by rw [h.2.2]⟩
theorem kFl.yf {a b : kZ} (h : kFl a b) : kYf a b := ⟨fun k hk => h.1 k (by omega), fun k hk => h.2.1 k (by omega), fun k _ => by rw [h.2.2], by rw [h.2.2]⟩
theorem kBf.yf {a b : kZ} (h : kBf a 60 b) : kYf a b := ⟨fun k hk => h.1 k (by omega), fun k hk => h.2.1 k (by omega), h.2.2.1, h.2.2.2⟩
theorem kTy.fr {c w w' : kZ} (h : kTy c w) (h1 : ∀ k, 6000 ≤ k → k ≤ 6013 → w'.1 k = w.1 k) (h2 : ∀ k, 60 ≤ k → k ≤ 71 → k ≠ 65 → w'.2.1 k = w.2.1 k) (h3 : ∀ j, j ≠ 2 → w'.2.1 65 j = w.2.1 65 j) (h4 : w'.2.2.1 60 = w.2.2.1 60) : kTy c w' := by
  obtain ⟨⟨a1, a2, a3⟩, a4, a5, a6, a7, a8, a9⟩ := h
  refine ⟨⟨(h1 _ (by decide) (by decide)).trans a1, (h1 _ (by decide) (by decide)).trans a2, h4.trans a3⟩, ?_, ?_, ?_, fun j hj hk => (h3 j hk).trans (a7 j hj hk), ?_, ?_⟩
  · rw [h2 61 (by decide) (by decide) (by decide)]; exact a4
  · rw [h2 62 (by decide) (by decide) (by decide)]; exact a5
  · rw [h2 63 (by decide) (by decide) (by decide)]; exact a6
  · rw [h2 68 (by decide) (by decide) (by decide)]; exact a8
  · rw [h2 69 (by decide) (by decide) (by decide)]; exact a9
def kLs (M : Nat → Nat → Prop) [∀ y T, Decidable (M y T)] (P k : Nat) (L : Nat → Int32) : Prop := ∀ y T, k ≤ y → y ≤ 21 → T < 4 ^ P → L (y * 256 + T) = kyr M P (21 - y) T
def ktn (tn : Nat → Int32) : Nat → Nat
  | 0 => 0
  | p + 1 => ktn tn p + (tn p).toNatClampNeg * 4 ^ p
theorem ktn_lt {tn : Nat → Int32} {P : Nat} (hP : P ≤ 4) : ∀ p, p ≤ P → (∀ j, j < P → ∃ t : Nat, t < 4 ∧ tn j = nI t) → ktn tn p < 4 ^ p := by
  intro p
  induction p with
  | zero => intro _ _; exact Nat.zero_lt_one
  | succ p ih =>
    intro hp h
    have h1 := ih (by omega) h
    obtain ⟨t, ht, e⟩ := h p (by omega)
    have e2 := (k4p p (by omega)).2
    simp only [ktn]
    rw [e, nI_clamp (by omega), e2]
    have : t * 4 ^ p ≤ 3 * 4 ^ p := Nat.mul_le_mul_right _ (by omega)
    omega
theorem s_X0_turnsNow_l {X : kX} {d : Nat} {c w m v : kZ} {E : kH} {P : Nat} {tn : Nat → Int32} (hP : P ≤ 4) (hp : w.1 6007 = nI P) (htn : ∀ j, j < P → ∃ t : Nat, t < 4 ∧ tn j = nI t) (ht : ∀ j, j < P → w.2.1 69 j = tn j) : ∀ (k : Nat) (i : Nat), (i + k = P) → WP X d 0 0 Y_X0_turnsNow 4 [(2, .int (nI (i))), (1, .int (nI (ktn tn i))), (0, .ref (59))] [] (HP c w m v E) (kR (some (.int (nI (ktn tn P)))) (HP c w m v E)) := by
  intro k
  induction k using Nat.strongRecOn with
  | ind k ih =>
    intro i hi
    refine wp_iload_n 0 d_X0_turnsNow_4 rfl rfl ?_
    refine wp_aload_n 2 d_X0_turnsNow_5 rfl rfl ?_
    refine wp_getfield (v := .ref (60)) d_X0_turnsNow_6 gf_X0_12 (hp_59 _ _ _ _ _) rfl ?_
    refine wp_getfield (v := .int (nI (P))) d_X0_turnsNow_9 gf_X0_55 (hp_60 _ _ _ _ _) (congrArg (fun z => some (Value.int z)) hp) ?_
    refine wp_ncmp_ge (a := i) (b := P) 37 d_X0_turnsNow_12 rfl (by omega) (by omega) (fun zc12 => ?_) (fun zc12 => ?_)
    · refine wp_iload_n 1 d_X0_turnsNow_37 rfl rfl ?_
      refine wp_reti d_X0_turnsNow_38 rfl ?_
      obtain rfl : k = 0 := by omega
      obtain rfl : i = P := by omega
      exact kR_i rfl rfl
    · obtain ⟨t9, ht9, ht0⟩ := htn i (by omega)
      have ht1 : w.2.1 69 i = nI t9 := (ht i (by omega)).trans ht0
      refine wp_iload_n 1 d_X0_turnsNow_15 rfl rfl ?_
      refine wp_aload_n 2 d_X0_turnsNow_16 rfl rfl ?_
      refine wp_getfield (v := .ref (60)) d_X0_turnsNow_17 gf_X0_12 (hp_59 _ _ _ _ _) rfl ?_
      refine wp_getfield (v := .ref (69)) d_X0_turnsNow_20 gf_X0_59 (hp_60 _ _ _ _ _) rfl ?_
      refine wp_iload_n 0 d_X0_turnsNow_23 rfl rfl ?_
      refine wp_iaload (v := nI (t9)) d_X0_turnsNow_24 (hp_69 _ _ _ _ _) (vp_in_nI (by omega) (by omega)) ((congrArg ((w.2.1 69)) (nI_clamp (by omega))).trans ht1) ?_
      refine wp_iconst (v0 := 2) d_X0_turnsNow_25 rfl ?_
      refine wp_iload_n 0 d_X0_turnsNow_26 rfl rfl ?_
      refine wp_imul d_X0_turnsNow_27 ?_
      refine wp_v (v0 := nI ((2) * (i))) (pk_mul (2) (i)) ?_
      refine wp_ishl d_X0_turnsNow_28 ?_
      refine wp_ior d_X0_turnsNow_29 ?_
      refine wp_v (v0 := nI (ktn tn i + t9 * 4 ^ i)) (kput_d i (ktn tn i) t9 (by omega) (ktn_lt hP i (by omega) htn) ht9) ?_
      refine wp_istore_n [(1, .int (nI (ktn tn i + t9 * 4 ^ i))), (2, .int (nI (i))), (0, .ref (59))] d_X0_turnsNow_30 rfl (Nat.le_of_ble_eq_true rfl) rfl ?_
      refine wp_iinc (v0 := nI ((i) + 1)) [(2, .int (nI ((i) + 1))), (1, .int (nI (ktn tn i + t9 * 4 ^ i))), (0, .ref (59))] 1 d_X0_turnsNow_31 rfl (nI_add (i) 1) (Nat.le_of_ble_eq_true rfl) rfl ?_
      refine wp_goto 4 d_X0_turnsNow_34 rfl ?_
      obtain ⟨k1, rfl⟩ : ∃ k1, k = k1 + 1 := ⟨k - 1, by omega⟩
      refine wp_sub [(2, .int (nI ((i) + 1))), (1, .int (nI (ktn tn i + t9 * 4 ^ i))), (0, .ref (59))] [0, 1, 2] rfl ?_
      rw [show ktn tn i + t9 * 4 ^ i = ktn tn (i + 1) by simp only [ktn]; rw [ht0, nI_clamp (by omega)]]
      exact ih k1 (by omega) (i + 1) (by omega)
theorem s_X0_turnsNow {X : kX} {d : Nat} {c w m v : kZ} {E : kH} {P : Nat} {tn : Nat → Int32} (hP : P ≤ 4) (hp : w.1 6007 = nI P) (htn : ∀ j, j < P → ∃ t : Nat, t < 4 ∧ tn j = nI t) (ht : ∀ j, j < P → w.2.1 69 j = tn j) : WP X d 0 0 Y_X0_turnsNow 0 [(0, .ref (59))] [] (HP c w m v E) (kR (some (.int (nI (ktn tn P)))) (HP c w m v E)) := by
  refine wp_iconst (v0 := 0) d_X0_turnsNow_0 rfl ?_
  refine wp_istore_n [(1, .int (0)), (0, .ref (59))] d_X0_turnsNow_1 rfl (Nat.le_of_ble_eq_true rfl) rfl ?_
  refine wp_iconst (v0 := 0) d_X0_turnsNow_2 rfl ?_
  refine wp_istore_n [(2, .int (0)), (1, .int (0)), (0, .ref (59))] d_X0_turnsNow_3 rfl (Nat.le_of_ble_eq_true rfl) rfl ?_
  refine wp_sub [(2, .int (0)), (1, .int (0)), (0, .ref (59))] [0, 1, 2] rfl ?_
  exact s_X0_turnsNow_l hP hp htn ht P 0 (by omega)
theorem s_X0_lasting_l {X : kX} {d : Nat} {c w m v : kZ} {E : kH} {n : Nat} (hn : c.1 100 = nI n) (hn9 : n ≤ 9) {rho cnt ka L : Nat} {code : Nat → Int32} (hrr : c.2.2.1 1 = rho) (hR : kRu E rho cnt ka L code) (hL : L < 2 ^ 20) (hc8 : cnt ≤ 8) (hwf : kWF code L cnt 0) (hk : ∀ j, j < n → 1 ≤ (c.2.1 2 j).toInt ∧ (c.2.1 2 j).toInt ≤ 5) {p : Nat} (hp : c.1 107 = nI p) (hp4 : p ≤ 4) (hln : ∀ j, j < p → vp_in (c.2.1 9 j) n) {ln : Nat → Nat} (hlq : ∀ j, j < p → c.2.1 9 j = nI (ln j) ∧ ln j < n) (htn : ∀ j, j < p → ∃ t : Nat, t < 4 ∧ c.2.1 10 j = nI t) : ∀ (k : Nat) (w' : kZ), k ≤ 21 → kTy c w' → kYf w w' → kRay w' [] → kLs (cYM c.2.1 code cnt p ln) p k (w'.2.1 72) → (∀ T, T < 256 → w'.2.1 72 (5376 + T) = 0) → WP X (d + 10) 0 0 Y_X0_lasting 11 [(2, .int (nI k + (-1))), (0, .ref 59), (1, .ref 1)] [] (HP c w' m v E) (fun r h1 => r = some (.int (kyr (cYM c.2.1 code cnt p ln) p 21 (ktn (c.2.1 10) p))) ∧ ∃ w1 : kZ, h1 = HP c w1 m v E ∧ kTy c w1 ∧ kYf w w1 ∧ kRay w1 [] ∧ kLs (cYM c.2.1 code cnt p ln) p 0 (w1.2.1 72) ∧ (∀ T, T < 256 → w1.2.1 72 (5376 + T) = 0)) := by
  intro k
  induction k with
  | zero =>
    intro w' hk21 hY0 hYf hr hLs hz
    rw [show nI 0 + (-1) = (-1 : Int32) by decide]
    refine wp_iload_n 0 d_X0_lasting_11 rfl rfl ?_
    refine wp_if_lt 64 d_X0_lasting_12 rfl (fun _ => ?_) (fun z => absurd z (by decide))
    refine wp_aload_n 1 d_X0_lasting_64 rfl rfl ?_
    refine wp_getfield (v := .ref (72)) d_X0_lasting_65 gf_X0_18 (hp_59 _ _ _ _ _) rfl ?_
    refine wp_aload_n 1 d_X0_lasting_68 rfl rfl ?_
    refine wp_vrt_i (As := []) (x0 := nI (ktn (c.2.1 10) p)) (h1 := HP c w' m v E) d_X0_lasting_69 lk_X0_51 mv_X0_turnsNow in_X0_turnsNow se_X0_turnsNow (Nat.le_of_ble_eq_true rfl) (Nat.le_of_ble_eq_true rfl) (hp_59 _ _ _ _ _) rfl (s_X0_turnsNow (w := w') (P := p) (tn := c.2.1 10) hp4 (hY0.1.2.1.trans hp) htn (fun j hj => hY0.2.2.2.2.2.2 j (by omega))) ?_
    have hkt := ktn_lt hp4 p (Nat.le_refl _) htn
    have h4 := k4P p hp4
    refine wp_iaload (v := (w'.2.1 72) (ktn (c.2.1 10) p)) d_X0_lasting_72 (hp_72 _ _ _ _ _) (vp_in_nI (by omega) (by omega)) (congrArg ((w'.2.1 72)) (nI_clamp (by omega))) ?_
    refine wp_reti d_X0_lasting_73 rfl ?_
    have h9 := hLs 0 (ktn (c.2.1 10) p) (by omega) (by omega) (ktn_lt hp4 p (Nat.le_refl _) htn)
    rw [Nat.zero_mul, Nat.zero_add] at h9
    exact ⟨congrArg (fun z => some (Value.int z)) h9, w', rfl, hY0, hYf, hr, hLs, hz⟩
  | succ y ih =>
    intro w' hk21 hY0 hYf hr hLs hz
    rw [show nI (y + 1) + (-1) = nI y from pk_m1 y]
    refine wp_iload_n 0 d_X0_lasting_11 rfl rfl ?_
    refine wp_nif_lt (a := y) 64 d_X0_lasting_12 rfl (by omega) ?_
    refine wp_aload_n 1 d_X0_lasting_15 rfl rfl ?_
    refine wp_getfield (v := .ref (60)) d_X0_lasting_16 gf_X0_12 (hp_59 _ _ _ _ _) rfl ?_
    refine wp_getfield (v := .ref (65)) d_X0_lasting_19 gf_X0_30 (hp_60 _ _ _ _ _) rfl ?_
    refine wp_iconst (v0 := 2) d_X0_lasting_22 rfl ?_
    refine wp_getstab 3 d_X0_lasting_23 (by decide) gs_X0_33 ?_
    refine wp_iconst (v0 := 2) d_X0_lasting_26 rfl ?_
    refine wp_tabload (v := 9) d_X0_lasting_27 (by decide) (show vp_in _ 4 from kin rfl) rfl ?_
    refine wp_aload_n 2 d_X0_lasting_28 rfl rfl ?_
    refine wp_getfield (v := .ref (6)) d_X0_lasting_29 gf_X0_30 (hp_1 _ _ _ _ _) rfl ?_
    refine wp_iconst (v0 := 2) d_X0_lasting_32 rfl ?_
    refine wp_iaload (v := (c.2.1 6) (2)) d_X0_lasting_33 (hp_6 _ _ _ _ _) (kin rfl) rfl ?_
    refine wp_iload_n 0 d_X0_lasting_34 rfl rfl ?_
    refine wp_iadd d_X0_lasting_35 ?_
    refine wp_mmin d_X0_lasting_36 mk_X0_36 mst_min ini_J9 mco_min (Nat.le_of_ble_eq_true rfl) ?_
    refine wp_v (v0 := (kEY (c.2.1 6 2) y)) rfl ?_
    refine wp_iastore (h' := HP c (setA w' 65 (upd (w'.2.1 65) 2 (kEY (c.2.1 6 2) y))) m v E) d_X0_lasting_39 (hp_65 _ _ _ _ _) (kin rfl) ((hpa_65 _ _ _ _ _ _)) ?_
    have hY : kTy c (setA w' 65 (upd (w'.2.1 65) (2) (kEY (c.2.1 6 2) y))) := hY0.fr (fun _ _ _ => rfl) (fun k9 h9 h8 h7 => updA_n _ _ h7) (fun j9 h9 => upd_n _ _ h9) rfl
    refine wp_aload_n 1 d_X0_lasting_40 rfl rfl ?_
    refine wp_getfield (v := .ref (42)) d_X0_lasting_41 gf_X0_22 (hp_59 _ _ _ _ _) rfl ?_
    refine wp_aload_n 1 d_X0_lasting_44 rfl rfl ?_
    refine wp_getfield (v := .ref (60)) d_X0_lasting_45 gf_X0_12 (hp_59 _ _ _ _ _) rfl ?_
    refine wp_virtual0 (As := [.ref (60)]) d_X0_lasting_48 lk_X0_42 mv_X5_load in_X5_load se_X5_load (Nat.le_of_ble_eq_true rfl) (Nat.le_of_ble_eq_true rfl) (hp_42 _ _ _ _ _) rfl (s_X5_load_60 (w := (setA w' 65 (upd (w'.2.1 65) (2) (kEY (c.2.1 6 2) y)))) (n := n) (hY.1.1.trans hn) hn9 (hY.1.2.2.trans hrr) hR hL hc8 hwf (fun j hj => by rw [show (setA w' 65 (upd (w'.2.1 65) (2) (kEY (c.2.1 6 2) y))).2.1 61 j = c.2.1 2 j from hY.2.1 j (by omega)]; exact hk j hj)) (fun v48 h48 q48 => ?_)
    obtain ⟨rfl, w1, rfl, hl1, hd1⟩ := q48
    have hd2 : kLd w1 (c.2.1 6 1) (kEY (c.2.1 6 2) y) (c.2.1 6 3) (fun l => kstr code cnt (c.2.1 6 0) (c.2.1 6 1) (kEY (c.2.1 6 2) y) (c.2.1 2 l) (c.2.1 3 l) l) (c.2.1 4) n := by
      refine hd1.conv (hY.2.2.2.2.1 1 (by decide) (by decide)) (upd_s (w'.2.1 65) 2 (kEY (c.2.1 6 2) y)) (hY.2.2.2.2.1 3 (by decide) (by decide)) (fun l hl => ?_) (fun j hj => hY.2.2.2.1 j hj)
      have b0 : (setA w' 65 (upd (w'.2.1 65) (2) (kEY (c.2.1 6 2) y))).2.1 65 0 = c.2.1 6 0 := hY.2.2.2.2.1 0 (by decide) (by decide)
      have b1 : (setA w' 65 (upd (w'.2.1 65) (2) (kEY (c.2.1 6 2) y))).2.1 65 1 = c.2.1 6 1 := hY.2.2.2.2.1 1 (by decide) (by decide)
      have b2 : (setA w' 65 (upd (w'.2.1 65) (2) (kEY (c.2.1 6 2) y))).2.1 65 2 = (kEY (c.2.1 6 2) y) := upd_s (w'.2.1 65) 2 (kEY (c.2.1 6 2) y)
      have b3 : (setA w' 65 (upd (w'.2.1 65) (2) (kEY (c.2.1 6 2) y))).2.1 61 l = c.2.1 2 l := hY.2.1 l (by omega)
      have b4 : (setA w' 65 (upd (w'.2.1 65) (2) (kEY (c.2.1 6 2) y))).2.1 62 l = c.2.1 3 l := hY.2.2.1 l (by omega)
      rw [b0, b1, b2, b3, b4]
    have hY1 : kTy c w1 := hY.fr (fun k9 h9 h8 => hl1.1 k9 (by omega)) (fun k9 h9 h8 h7 => hl1.2.1 k9 (by omega)) (fun j9 h9 => by rw [hl1.2.1 65 (by decide)]) (by rw [hl1.2.2])
    have hr1 : kRay w1 [] := kRay_0 hr (fun k9 h9 h8 => by rw [hl1.2.1 k9 (by omega)]; exact congrFun (updA_n _ _ (by omega)) 0)
    have h721 : w1.2.1 72 = w'.2.1 72 := hl1.2.1 72 (by decide)
    have hI0 : kFi w1 (c.2.1 6 1) (kEY (c.2.1 6 2) y) (c.2.1 6 3) (fun l => kstr code cnt (c.2.1 6 0) (c.2.1 6 1) (kEY (c.2.1 6 2) y) (c.2.1 2 l) (c.2.1 3 l) l) (c.2.1 4) n p y ln (kyr (cYM c.2.1 code cnt p ln) p (20 - y)) 0 0 w1 := ⟨kFl.rf _, hd2, hr1, fun T9 h9 => by rw [h721, hLs (y + 1) T9 (by omega) (by omega) h9, show 21 - (y + 1) = 20 - y by omega]⟩
    show WP _ _ _ _ _ 51 _ [] (HP c w1 m v E) _
    refine wp_aload_n 1 d_X0_lasting_51 rfl rfl ?_
    refine wp_iload_n 0 d_X0_lasting_52 rfl rfl ?_
    refine wp_iconst (v0 := 0) d_X0_lasting_53 rfl ?_
    refine wp_iconst (v0 := 0) d_X0_lasting_54 rfl ?_
    refine wp_virtual0 (As := [.int (nI (y)), .int (0), .int (0)]) d_X0_lasting_55 lk_X0_47 mv_X0_fill in_X0_fill se_X0_fill (Nat.le_of_ble_eq_true rfl) (Nat.le_of_ble_eq_true rfl) (hp_59 _ _ _ _ _) rfl (wp_depth (d := 0 + p + 5) (by omega) (s_X0_fill (d := 0) (w := w) (w0 := w1) (nl := n) hn9 hp4 (hY1.1.2.1.trans hp) (by omega) (fun j hj => by rw [hY1.2.2.2.2.2.1 j (by omega)]; exact hlq j hj) p 0 0 w1 (by omega) (by omega) hI0)) (fun v55 h55 q55 => ?_)
    obtain ⟨rfl, w2, rfl, hI2, hD2⟩ := q55
    show WP _ _ _ _ _ 58 _ [] (HP c w2 m v E) _
    refine wp_iinc (v0 := (nI (y)) + (-1)) [(2, .int ((nI (y)) + (-1))), (0, .ref (59)), (1, .ref (1))] 0 d_X0_lasting_58 rfl rfl (Nat.le_of_ble_eq_true rfl) rfl ?_
    refine wp_goto 11 d_X0_lasting_61 rfl ?_
    refine wp_sub [(2, .int ((nI (y)) + (-1))), (0, .ref (59)), (1, .ref (1))] [0, 1, 2] rfl ?_
    refine ih w2 (by omega) ?_ ?_ ?_ ?_ ?_
    · exact hY1.fr (fun k9 h9 h8 => hI2.1.1 k9 (by omega)) (fun k9 h9 h8 h7 => hI2.1.2.1 k9 (by omega)) (fun j9 h9 => by rw [hI2.1.2.1 65 (by decide)]) (by rw [hI2.1.2.2])
    · refine hYf.tr (kYf.tr (b := (setA w' 65 (upd (w'.2.1 65) (2) (kEY (c.2.1 6 2) y)))) ⟨fun _ _ => rfl, fun k9 h9 => updA_n _ _ (by omega), fun _ _ => rfl, rfl⟩ (hl1.a.yf.tr hI2.1.yf))
    · exact hI2.2.2.1
    · intro y9 T9 g1 g2 g3
      rcases Nat.lt_or_ge y y9 with z | z
      · rw [hD2.2 _ (fun T8 g8 _ => by have := (k4P p hp4).1; omega), h721]
        exact hLs y9 T9 (by omega) g2 g3
      · obtain rfl : y9 = y := by omega
        rw [hD2.1 T9 g3 (by rw [Nat.pow_zero, Nat.mod_one]), show 21 - y9 = (20 - y9) + 1 by omega]
        simp only [kyr]
        rw [show 20 - (20 - y9) = y9 by omega]
        rfl
    · intro T9 g1
      rw [hD2.2 _ (fun T8 g8 _ => by have := (k4P p hp4).1; omega), h721]
      exact hz T9 g1
theorem s_X0_lasting {X : kX} {d : Nat} {c w m v : kZ} {E : kH} {n : Nat} (hn : c.1 100 = nI n) (hn9 : n ≤ 9) {rho cnt ka L : Nat} {code : Nat → Int32} (hrr : c.2.2.1 1 = rho) (hR : kRu E rho cnt ka L code) (hL : L < 2 ^ 20) (hc8 : cnt ≤ 8) (hwf : kWF code L cnt 0) (hk : ∀ j, j < n → 1 ≤ (c.2.1 2 j).toInt ∧ (c.2.1 2 j).toInt ≤ 5) {p : Nat} (hp : c.1 107 = nI p) (hp4 : p ≤ 4) (hln : ∀ j, j < p → vp_in (c.2.1 9 j) n) (hr0 : kRay w []) {ln : Nat → Nat} (hlq : ∀ j, j < p → c.2.1 9 j = nI (ln j) ∧ ln j < n) (htn : ∀ j, j < p → ∃ t : Nat, t < 4 ∧ c.2.1 10 j = nI t) (hz : ∀ T, T < 256 → w.2.1 72 (5376 + T) = 0) : WP X (d + 10) 0 0 Y_X0_lasting 0 [(0, .ref (59)), (1, .ref (1))] [] (HP c w m v E) (fun r h1 => r = some (.int (kyr (cYM c.2.1 code cnt p ln) p 21 (ktn (c.2.1 10) p))) ∧ ∃ w1 : kZ, h1 = HP c w1 m v E ∧ kTy c w1 ∧ kYf w w1 ∧ kRay w1 [] ∧ kLs (cYM c.2.1 code cnt p ln) p 0 (w1.2.1 72) ∧ (∀ T, T < 256 → w1.2.1 72 (5376 + T) = 0)) := by
  refine wp_aload_n 0 d_X0_lasting_0 rfl rfl ?_
  refine wp_getfield (v := .ref (60)) d_X0_lasting_1 gf_X0_12 (hp_59 _ _ _ _ _) rfl ?_
  refine wp_aload_n 1 d_X0_lasting_4 rfl rfl ?_
  refine wp_virtual0 (As := [.ref (1)]) d_X0_lasting_5 lk_X0_26 mv_X1_become in_X1_become se_X1_become (Nat.le_of_ble_eq_true rfl) (Nat.le_of_ble_eq_true rfl) (hp_60 _ _ _ _ _) rfl s_X1_become_60_1 (fun v5 h5 q5 => ?_)
  obtain ⟨rfl, w', rfl, hbc, hbf⟩ := q5
  have hY0 : kTy c w' := ⟨⟨hbc.1.1, hbc.1.2.1, hbc.2.2.2.2.2.2.2.2.2.2⟩, hbc.2.1, hbc.2.2.1, hbc.2.2.2.1, fun j hj _ => hbc.2.2.2.2.2.1 j hj, hbc.2.2.2.2.2.2.1, hbc.2.2.2.2.2.2.2.1⟩
  have h72 : w'.2.1 72 = w.2.1 72 := hbf.2.1 72 (by decide)
  show WP _ _ _ _ _ 8 _ [] (HP c w' m v E) _
  refine wp_bipush (v0 := 20) d_X0_lasting_8 (by decide) ?_
  refine wp_istore_n [(2, .int (20)), (0, .ref (59)), (1, .ref (1))] d_X0_lasting_10 rfl (Nat.le_of_ble_eq_true rfl) rfl ?_
  refine wp_sub [(2, .int (20)), (0, .ref (59)), (1, .ref (1))] [0, 1, 2] rfl ?_
  rw [show (20 : Int32) = nI 21 + (-1) by decide]
  refine s_X0_lasting_l hn hn9 hrr hR hL hc8 hwf hk hp hp4 hln hlq htn 21 w' (by decide) hY0 hbf.yf (kRay_0 hr0 (fun k9 h9 h8 => by rw [hbf.2.1 k9 (by omega)])) (fun y9 T9 g1 g2 g3 => ?_) (fun T9 h9 => by rw [h72]; exact hz T9 h9)
  obtain rfl : y9 = 21 := by omega
  rw [h72, show 21 * 256 + T9 = 5376 + T9 by omega, hz T9 (by have := (k4P p hp4).1; omega)]
  rfl
theorem s_X9_years {X : kX} {d : Nat} {c w m v : kZ} {E : kH} {n : Nat} (hn : c.1 100 = nI n) (hn9 : n ≤ 9) {rho cnt ka L : Nat} {code : Nat → Int32} (hrr : c.2.2.1 1 = rho) (hR : kRu E rho cnt ka L code) (hL : L < 2 ^ 20) (hc8 : cnt ≤ 8) (hwf : kWF code L cnt 0) (hk : ∀ j, j < n → 1 ≤ (c.2.1 2 j).toInt ∧ (c.2.1 2 j).toInt ≤ 5) {p : Nat} (hp : c.1 107 = nI p) (hp4 : p ≤ 4) (hln : ∀ j, j < p → vp_in (c.2.1 9 j) n) (hr0 : kRay w []) {ln : Nat → Nat} (hlq : ∀ j, j < p → c.2.1 9 j = nI (ln j) ∧ ln j < n) (htn : ∀ j, j < p → ∃ t : Nat, t < 4 ∧ c.2.1 10 j = nI t) (hz : ∀ T, T < 256 → w.2.1 72 (5376 + T) = 0) : WP X (d + 11) 0 0 Y_X9_years 0 [(0, .ref (0))] [] (HP c w m v E) (fun r h1 => r = some (.int (kyr (cYM c.2.1 code cnt p ln) p 21 (ktn (c.2.1 10) p))) ∧ ∃ w1 : kZ, h1 = HP c w1 m v E ∧ kYf w w1 ∧ kRay w1 [] ∧ (∀ T, T < 256 → w1.2.1 72 (5376 + T) = 0)) := by
  refine wp_aload_n 0 d_X9_years_0 rfl rfl ?_
  refine wp_getfield (v := .ref (59)) d_X9_years_1 gf_X9_55 (hp_0 _ _ _ _ _) rfl ?_
  refine wp_aload_n 0 d_X9_years_4 rfl rfl ?_
  refine wp_getfield (v := .ref (1)) d_X9_years_5 gf_X9_12 (hp_0 _ _ _ _ _) rfl ?_
  refine wp_virtual0 (As := [.ref (1)]) d_X9_years_8 lk_X9_245 mv_X0_lasting in_X0_lasting se_X0_lasting (Nat.le_of_ble_eq_true rfl) (Nat.le_of_ble_eq_true rfl) (hp_59 _ _ _ _ _) rfl (s_X0_lasting hn hn9 hrr hR hL hc8 hwf hk hp hp4 hln hr0 hlq htn hz) (fun v8 h8 q8 => ?_)
  obtain ⟨rfl, w1, rfl, hY1, hYf1, hr1, hLs1, hz1⟩ := q8
  show WP _ _ _ _ _ 11 _ [.int (kyr (cYM c.2.1 code cnt p ln) p 21 (ktn (c.2.1 10) p))] (HP c w1 m v E) _
  refine wp_reti d_X9_years_11 rfl ?_
  exact ⟨rfl, w1, rfl, hYf1, hr1, hz1⟩
def kpd (F : Nat → Int32) (T : Nat) (due : Int32) : Nat → Nat → Nat
  | 0, pl => pl
  | k + 1, pl => kpd F T due k (if F (kqm T k) = due then k else pl)
def knx (T pl : Nat) : Nat := if pl < 4 then kqm T pl else T
def kwy (V : Nat → Nat → Int32) (P : Nat) : Nat → Nat → Nat → Nat → Nat
  | 0, _, _, pl => pl
  | k + 1, y, T, _ => kwy V P k (y + 1) (knx T (kpd (V y) T (kyl (V y) P T) P 4)) (kpd (V y) T (kyl (V y) P T) P 4)
theorem kpd_lt {F : Nat → Int32} {T P : Nat} {due : Int32} : ∀ k pl, k ≤ P → (pl < P ∨ pl = 4) → kpd F T due k pl < P ∨ kpd F T due k pl = 4 := by
  intro k
  induction k with
  | zero => intro pl _ h; exact h
  | succ k ih =>
    intro pl hk h
    simp only [kpd]
    refine ih _ (by omega) ?_
    split
    · exact Or.inl (by omega)
    · exact h
theorem kpd_congr {F G : Nat → Int32} {T P : Nat} {due : Int32} (hP : P ≤ 4) (hT : T < 4 ^ P) (h : ∀ T, T < 4 ^ P → F T = G T) : ∀ k pl, k ≤ P → kpd F T due k pl = kpd G T due k pl := by
  intro k
  induction k with
  | zero => intro pl _; rfl
  | succ k ih =>
    intro pl hk
    simp only [kpd]
    rw [h _ (kqm_lt P T k hP hT (by omega)), ih _ (by omega)]
theorem knx_lt {P T pl : Nat} (hP : P ≤ 4) (hT : T < 4 ^ P) (h : pl < P ∨ pl = 4) : knx T pl < 4 ^ P := by
  unfold knx
  rcases h with h | h
  · rw [if_pos (by omega)]; exact kqm_lt P T pl hP hT h
  · rw [if_neg (by omega)]; exact hT
theorem s_X0_placeTurned_p {X : kX} {d : Nat} {c w m v : kZ} {E : kH} {P : Nat} (hP : P ≤ 4) (hp : w.1 6007 = nI P) {y T N : Nat} (hy : y ≤ 20) (hT : T < 4 ^ P) (due : Int32) {Q : Option Value → kH → Prop} (K : WP X (d + 3) 0 0 Y_X0_placeTurned 75 [(3, .int (nI (kpd (fun T' => w.2.1 72 (y * 256 + T')) T due P 4))), (4, .int (nI y)), (2, .int (nI T)), (0, .ref 59), (1, .int (nI N))] [] (HP c w m v E) Q) : ∀ (k pl : Nat), k ≤ P → kpd (fun T' => w.2.1 72 (y * 256 + T')) T due k pl = kpd (fun T' => w.2.1 72 (y * 256 + T')) T due P 4 → WP X (d + 3) 0 0 Y_X0_placeTurned 38 [(6, .int (nI k + (-1))), (3, .int (nI pl)), (5, .int due), (4, .int (nI y)), (2, .int (nI T)), (0, .ref 59), (1, .int (nI N))] [] (HP c w m v E) Q := by
  have h4 := k4P P hP
  intro k
  induction k with
  | zero =>
    intro pl hk hq
    rw [show nI 0 + (-1) = (-1 : Int32) by decide]
    refine wp_iload 0 d_X0_placeTurned_38 rfl ?_
    refine wp_if_lt 75 d_X0_placeTurned_40 rfl (fun _ => ?_) (fun z => absurd z (by decide))
    refine wp_sub [(3, .int (nI pl)), (4, .int (nI y)), (2, .int (nI T)), (0, .ref 59), (1, .int (nI N))] [1, 3, 4, 5, 6] rfl ?_
    rw [show pl = kpd (fun T' => w.2.1 72 (y * 256 + T')) T due P 4 from hq]
    exact K
  | succ k ih =>
    intro pl hk hq
    rw [show nI (k + 1) + (-1) = nI k from pk_m1 k]
    refine wp_iload 0 d_X0_placeTurned_38 rfl ?_
    refine wp_nif_lt (a := k) 75 d_X0_placeTurned_40 rfl (by omega) ?_
    refine wp_aload_n 5 d_X0_placeTurned_43 rfl rfl ?_
    refine wp_getfield (v := .ref (72)) d_X0_placeTurned_44 gf_X0_18 (hp_59 _ _ _ _ _) rfl ?_
    refine wp_iload 3 d_X0_placeTurned_47 rfl ?_
    refine wp_sipush (v0 := 256) d_X0_placeTurned_49 (by decide) ?_
    refine wp_imul d_X0_placeTurned_52 ?_
    refine wp_v (v0 := nI ((y) * (256))) (pk_mul (y) (256)) ?_
    refine wp_iload_n 4 d_X0_placeTurned_53 rfl rfl ?_
    refine wp_iload 0 d_X0_placeTurned_54 rfl ?_
    refine wp_stc_i (As := [.int (nI (T)), .int (nI (k))]) (x0 := nI (kqm (T) (k))) (h1 := HP c w m v E) d_X0_placeTurned_56 lk_X0_79 mv_X0_quarterMore st_X0_quarterMore (Nat.le_of_ble_eq_true rfl) (Nat.le_of_ble_eq_true rfl) (s_X0_quarterMore (T := T) (p := k) (by omega) (by omega)) ?_
    have hkl := kqm_lt P T k hP hT (by omega)
    refine wp_iadd d_X0_placeTurned_59 ?_
    refine wp_v (v0 := nI (((y) * (256)) + (kqm (T) (k)))) (nI_add ((y) * (256)) (kqm (T) (k))) ?_
    refine wp_iaload (v := (w.2.1 72) (((y) * (256)) + (kqm (T) (k)))) d_X0_placeTurned_60 (hp_72 _ _ _ _ _) (vp_in_nI (by omega) (by omega)) (congrArg ((w.2.1 72)) (nI_clamp (by omega))) ?_
    refine wp_iload 2 d_X0_placeTurned_61 rfl ?_
    refine wp_icmp_ne 69 d_X0_placeTurned_63 rfl (fun zc63 => ?_) (fun zc63 => ?_)
    · refine wp_iinc (v0 := (nI (k)) + (-1)) [(6, .int ((nI (k)) + (-1))), (3, .int (nI (pl))), (5, .int (due)), (4, .int (nI (y))), (2, .int (nI (T))), (0, .ref (59)), (1, .int (nI (N)))] 0 d_X0_placeTurned_69 rfl rfl (Nat.le_of_ble_eq_true rfl) rfl ?_
      refine wp_goto 38 d_X0_placeTurned_72 rfl ?_
      refine wp_sub [(6, .int ((nI (k)) + (-1))), (3, .int (nI (pl))), (5, .int (due)), (4, .int (nI (y))), (2, .int (nI (T))), (0, .ref (59)), (1, .int (nI (N)))] [0, 1, 2, 3, 4, 5, 6] rfl ?_
      simp only [kpd] at hq
      rw [if_neg zc63] at hq
      exact ih pl (by omega) hq
    · refine wp_iload 0 d_X0_placeTurned_66 rfl ?_
      refine wp_istore_n [(3, .int (nI (k))), (6, .int (nI (k))), (5, .int (due)), (4, .int (nI (y))), (2, .int (nI (T))), (0, .ref (59)), (1, .int (nI (N)))] d_X0_placeTurned_68 rfl (Nat.le_of_ble_eq_true rfl) rfl ?_
      refine wp_iinc (v0 := (nI (k)) + (-1)) [(6, .int ((nI (k)) + (-1))), (3, .int (nI (k))), (5, .int (due)), (4, .int (nI (y))), (2, .int (nI (T))), (0, .ref (59)), (1, .int (nI (N)))] 1 d_X0_placeTurned_69 rfl rfl (Nat.le_of_ble_eq_true rfl) rfl ?_
      refine wp_goto 38 d_X0_placeTurned_72 rfl ?_
      refine wp_sub [(6, .int ((nI (k)) + (-1))), (3, .int (nI (k))), (5, .int (due)), (4, .int (nI (y))), (2, .int (nI (T))), (0, .ref (59)), (1, .int (nI (N)))] [0, 1, 2, 3, 4, 5, 6] rfl ?_
      simp only [kpd] at hq
      rw [if_pos zc63] at hq
      exact ih k (by omega) hq
theorem s_X0_placeTurned_y {X : kX} {d : Nat} {c w m v : kZ} {E : kH} {P : Nat} (hP : P ≤ 4) (hp : w.1 6007 = nI P) {N : Nat} (hN : N ≤ 20) {A : Nat} : ∀ (k : Nat) (y : Nat) (T : Nat) (pl0 : Nat), (y + k = N + 1) → (T < 4 ^ P) → (pl0 < P ∨ pl0 = 4) → (kwy (fun y T => w.2.1 72 (y * 256 + T)) P k y T pl0 = A) → WP X (d + 3) 0 0 Y_X0_placeTurned 10 [(4, .int (nI (y))), (3, .int (nI (pl0))), (2, .int (nI (T))), (0, .ref (59)), (1, .int (nI (N)))] [] (HP c w m v E) (kR (some (.int (nI A))) (HP c w m v E)) := by
  intro k
  induction k using Nat.strongRecOn with
  | ind k ih =>
    intro y T pl0 hyk hT hpl0 hA
    have h4 := k4P P hP
    refine wp_iload 0 d_X0_placeTurned_10 rfl ?_
    refine wp_iload_n 4 d_X0_placeTurned_12 rfl rfl ?_
    refine wp_ncmp_gt (a := y) (b := N) 92 d_X0_placeTurned_13 rfl (by omega) (by omega) (fun zc13 => ?_) (fun zc13 => ?_)
    · refine wp_iload_n 1 d_X0_placeTurned_92 rfl rfl ?_
      refine wp_reti d_X0_placeTurned_93 rfl ?_
      obtain rfl : k = 0 := by omega
      obtain rfl : pl0 = A := hA
      exact kR_i rfl rfl
    · refine wp_aload_n 3 d_X0_placeTurned_16 rfl rfl ?_
      refine wp_iload 0 d_X0_placeTurned_17 rfl ?_
      refine wp_iload_n 2 d_X0_placeTurned_19 rfl rfl ?_
      refine wp_vrt_i (As := [.int (nI (y)), .int (nI (T))]) (x0 := kyl (fun T' => w.2.1 72 (y * 256 + T')) P T) (h1 := HP c w m v E) d_X0_placeTurned_20 lk_X0_70 mv_X0_longest in_X0_longest se_X0_longest (Nat.le_of_ble_eq_true rfl) (Nat.le_of_ble_eq_true rfl) (hp_59 _ _ _ _ _) rfl (s_X0_longest (w := w) (P := P) (T := T) (y := y) hP hp (by omega) hT) ?_
      refine wp_istore [(5, .int (kyl (fun T' => w.2.1 72 (y * 256 + T')) P T)), (4, .int (nI (y))), (3, .int (nI (pl0))), (2, .int (nI (T))), (0, .ref (59)), (1, .int (nI (N)))] d_X0_placeTurned_23 (Nat.le_of_ble_eq_true rfl) rfl ?_
      refine wp_iconst (v0 := 4) d_X0_placeTurned_25 rfl ?_
      refine wp_istore_n [(3, .int (4)), (5, .int (kyl (fun T' => w.2.1 72 (y * 256 + T')) P T)), (4, .int (nI (y))), (2, .int (nI (T))), (0, .ref (59)), (1, .int (nI (N)))] d_X0_placeTurned_26 rfl (Nat.le_of_ble_eq_true rfl) rfl ?_
      refine wp_aload_n 4 d_X0_placeTurned_27 rfl rfl ?_
      refine wp_getfield (v := .ref (60)) d_X0_placeTurned_28 gf_X0_12 (hp_59 _ _ _ _ _) rfl ?_
      refine wp_getfield (v := .int (nI (P))) d_X0_placeTurned_31 gf_X0_55 (hp_60 _ _ _ _ _) (congrArg (fun z => some (Value.int z)) hp) ?_
      refine wp_iconst (v0 := 1) d_X0_placeTurned_34 rfl ?_
      refine wp_isub d_X0_placeTurned_35 ?_
      refine wp_v (v0 := nI P + (-1)) (Int32.sub_eq_add_neg _ _) ?_
      refine wp_istore [(6, .int (nI P + (-1))), (3, .int (4)), (5, .int (kyl (fun T' => w.2.1 72 (y * 256 + T')) P T)), (4, .int (nI (y))), (2, .int (nI (T))), (0, .ref (59)), (1, .int (nI (N)))] d_X0_placeTurned_36 (Nat.le_of_ble_eq_true rfl) rfl ?_
      refine wp_sub [(6, .int (nI P + (-1))), (3, .int (nI 4)), (5, .int (kyl (fun T' => w.2.1 72 (y * 256 + T')) P T)), (4, .int (nI y)), (2, .int (nI T)), (0, .ref 59), (1, .int (nI N))] [0, 1, 2, 3, 4, 5, 6] rfl ?_
      refine s_X0_placeTurned_p hP hp (by omega) hT _ ?_ P 4 (Nat.le_refl _) rfl
      have hpl := kpd_lt (F := (fun T' => w.2.1 72 (y * 256 + T'))) (T := T) (P := P) (due := kyl (fun T' => w.2.1 72 (y * 256 + T')) P T) P 4 (Nat.le_refl _) (Or.inr rfl)
      generalize hplv : kpd (fun T' => w.2.1 72 (y * 256 + T')) T (kyl (fun T' => w.2.1 72 (y * 256 + T')) P T) P 4 = pl at hpl ⊢
      refine wp_iload_n 0 d_X0_placeTurned_75 rfl rfl ?_
      refine wp_iconst (v0 := 4) d_X0_placeTurned_76 rfl ?_
      refine wp_ncmp_ge (a := pl) (b := 4) 86 d_X0_placeTurned_77 rfl (by omega) (by omega) (fun zc77 => ?_) (fun zc77 => ?_)
      · refine wp_iinc (v0 := nI ((y) + 1)) [(4, .int (nI ((y) + 1))), (3, .int (nI (pl))), (2, .int (nI (T))), (0, .ref (59)), (1, .int (nI (N)))] 1 d_X0_placeTurned_86 rfl (nI_add (y) 1) (Nat.le_of_ble_eq_true rfl) rfl ?_
        refine wp_goto 10 d_X0_placeTurned_89 rfl ?_
        obtain ⟨k1, rfl⟩ : ∃ k1, k = k1 + 1 := ⟨k - 1, by omega⟩
        refine wp_sub [(4, .int (nI ((y) + 1))), (3, .int (nI (pl))), (2, .int (nI (T))), (0, .ref (59)), (1, .int (nI (N)))] [0, 1, 2, 3, 4] rfl ?_
        have hA2 := hA
        simp only [kwy] at hA2
        rw [hplv] at hA2
        have hkn : knx T pl = T := by unfold knx; exact if_neg (by omega)
        have hkl := knx_lt hP hT hpl
        rw [hkn] at hA2 hkl
        exact ih k1 (by omega) (y + 1) _ pl (by omega) hkl hpl hA2
      · refine wp_iload_n 2 d_X0_placeTurned_80 rfl rfl ?_
        refine wp_iload_n 0 d_X0_placeTurned_81 rfl rfl ?_
        refine wp_stc_i (As := [.int (nI (T)), .int (nI (pl))]) (x0 := nI (kqm (T) (pl))) (h1 := HP c w m v E) d_X0_placeTurned_82 lk_X0_79 mv_X0_quarterMore st_X0_quarterMore (Nat.le_of_ble_eq_true rfl) (Nat.le_of_ble_eq_true rfl) (s_X0_quarterMore (T := T) (p := pl) (by omega) (by omega)) ?_
        refine wp_istore_n [(2, .int (nI (kqm (T) (pl)))), (3, .int (nI (pl))), (4, .int (nI (y))), (0, .ref (59)), (1, .int (nI (N)))] d_X0_placeTurned_85 rfl (Nat.le_of_ble_eq_true rfl) rfl ?_
        refine wp_iinc (v0 := nI ((y) + 1)) [(4, .int (nI ((y) + 1))), (2, .int (nI (kqm (T) (pl)))), (3, .int (nI (pl))), (0, .ref (59)), (1, .int (nI (N)))] 2 d_X0_placeTurned_86 rfl (nI_add (y) 1) (Nat.le_of_ble_eq_true rfl) rfl ?_
        refine wp_goto 10 d_X0_placeTurned_89 rfl ?_
        obtain ⟨k1, rfl⟩ : ∃ k1, k = k1 + 1 := ⟨k - 1, by omega⟩
        refine wp_sub [(4, .int (nI ((y) + 1))), (3, .int (nI (pl))), (2, .int (nI (kqm (T) (pl)))), (0, .ref (59)), (1, .int (nI (N)))] [0, 2, 1, 3, 4] rfl ?_
        have hA2 := hA
        simp only [kwy] at hA2
        rw [hplv] at hA2
        have hkn : knx T pl = kqm T pl := by unfold knx; exact if_pos (by omega)
        have hkl := knx_lt hP hT hpl
        rw [hkn] at hA2 hkl
        exact ih k1 (by omega) (y + 1) _ pl (by omega) hkl hpl hA2
theorem kwy_congr {V V' : Nat → Nat → Int32} {P : Nat} (hP : P ≤ 4) : ∀ k y T pl, y + k ≤ 22 → T < 4 ^ P → (∀ y T, y ≤ 21 → T < 4 ^ P → V y T = V' y T) → kwy V P k y T pl = kwy V' P k y T pl := by
  intro k
  induction k with
  | zero => intro y T pl _ _ _; rfl
  | succ k ih =>
    intro y T pl hy hT h
    have h1 := fun T (hT : T < 4 ^ P) => h y T (by omega) hT
    simp only [kwy]
    rw [kyl_congr hP hT h1, kpd_congr hP hT h1 P 4 (Nat.le_refl _)]
    exact ih _ _ _ (by omega) (knx_lt hP hT (kpd_lt P 4 (Nat.le_refl _) (Or.inr rfl))) h
theorem s_X0_placeTurned {X : kX} {d : Nat} {c w m v : kZ} {E : kH} {P : Nat} (hP : P ≤ 4) (hp : w.1 6007 = nI P) {tn : Nat → Int32} (htn : ∀ j, j < P → ∃ t : Nat, t < 4 ∧ tn j = nI t) (ht : ∀ j, j < P → w.2.1 69 j = tn j) {N : Nat} (hN : N ≤ 20) : WP X (d + 3) 0 0 Y_X0_placeTurned 0 [(0, .ref (59)), (1, .int (nI (N)))] [] (HP c w m v E) (kR (some (.int (nI (kwy (fun y T => w.2.1 72 (y * 256 + T)) P N 1 (ktn tn P) 4)))) (HP c w m v E)) := by
  refine wp_aload_n 0 d_X0_placeTurned_0 rfl rfl ?_
  refine wp_vrt_i (As := []) (x0 := nI (ktn tn P)) (h1 := HP c w m v E) d_X0_placeTurned_1 lk_X0_51 mv_X0_turnsNow in_X0_turnsNow se_X0_turnsNow (Nat.le_of_ble_eq_true rfl) (Nat.le_of_ble_eq_true rfl) (hp_59 _ _ _ _ _) rfl (s_X0_turnsNow (w := w) (P := P) (tn := tn) hP hp htn ht) ?_
  refine wp_istore_n [(2, .int (nI (ktn tn P))), (0, .ref (59)), (1, .int (nI (N)))] d_X0_placeTurned_4 rfl (Nat.le_of_ble_eq_true rfl) rfl ?_
  refine wp_iconst (v0 := 4) d_X0_placeTurned_5 rfl ?_
  refine wp_istore_n [(3, .int (4)), (2, .int (nI (ktn tn P))), (0, .ref (59)), (1, .int (nI (N)))] d_X0_placeTurned_6 rfl (Nat.le_of_ble_eq_true rfl) rfl ?_
  refine wp_iconst (v0 := 1) d_X0_placeTurned_7 rfl ?_
  refine wp_istore [(4, .int (1)), (3, .int (4)), (2, .int (nI (ktn tn P))), (0, .ref (59)), (1, .int (nI (N)))] d_X0_placeTurned_8 (Nat.le_of_ble_eq_true rfl) rfl ?_
  refine wp_sub [(4, .int (1)), (3, .int (4)), (2, .int (nI (ktn tn P))), (0, .ref (59)), (1, .int (nI (N)))] [0, 1, 2, 3, 4] rfl ?_
  exact s_X0_placeTurned_y hP hp hN N 1 (ktn tn P) 4 (by omega) (ktn_lt hP P (Nat.le_refl _) htn) (Or.inr rfl) rfl
theorem s_X9_turned {X : kX} {d : Nat} {c w m v : kZ} {E : kH} {n : Nat} (hn : c.1 100 = nI n) (hn9 : n ≤ 9) {rho cnt ka L : Nat} {code : Nat → Int32} (hrr : c.2.2.1 1 = rho) (hR : kRu E rho cnt ka L code) (hL : L < 2 ^ 20) (hc8 : cnt ≤ 8) (hwf : kWF code L cnt 0) (hk : ∀ j, j < n → 1 ≤ (c.2.1 2 j).toInt ∧ (c.2.1 2 j).toInt ≤ 5) {p : Nat} (hp : c.1 107 = nI p) (hp4 : p ≤ 4) (hln : ∀ j, j < p → vp_in (c.2.1 9 j) n) (hr0 : kRay w []) {ln : Nat → Nat} (hlq : ∀ j, j < p → c.2.1 9 j = nI (ln j) ∧ ln j < n) (htn : ∀ j, j < p → ∃ t : Nat, t < 4 ∧ c.2.1 10 j = nI t) (hz : ∀ T, T < 256 → w.2.1 72 (5376 + T) = 0) (x : Int32) : WP X (d + 11) 0 0 Y_X9_turned 0 [(0, .ref (0)), (1, .int (x))] [] (HP c w m v E) (fun r h1 => (¬ (1 ≤ x.toInt ∧ x.toInt ≤ 20) ∧ r = some (.int (-1)) ∧ h1 = HP c w m v E) ∨ ∃ N : Nat, 1 ≤ N ∧ N ≤ 20 ∧ x = nI N ∧ r = some (.int (if (kyr (cYM c.2.1 code cnt p ln) p 21 (ktn (c.2.1 10) p)) ≤ nI N then -3 else nI (kwy (fun y T => kyr (cYM c.2.1 code cnt p ln) p (21 - y) T) p N 1 (ktn (c.2.1 10) p) 4))) ∧ ∃ w1 : kZ, h1 = HP c w1 m v E ∧ kYf w w1 ∧ kRay w1 [] ∧ (∀ T, T < 256 → w1.2.1 72 (5376 + T) = 0)) := by
  refine wp_iload_n 1 d_X9_turned_0 rfl rfl ?_
  refine wp_iconst (v0 := 1) d_X9_turned_1 rfl ?_
  refine wp_bipush (v0 := 20) d_X9_turned_2 (by decide) ?_
  refine wp_stc_i (As := [.int (x), .int (1), .int (20)]) (x0 := kb (1 ≤ (x : Int32).toInt ∧ (x : Int32).toInt ≤ 20)) (h1 := HP c w m v E) d_X9_turned_4 lk_X9_98 mv_X9_isWithin st_X9_isWithin (Nat.le_of_ble_eq_true rfl) (Nat.le_of_ble_eq_true rfl) (s_X9_isWithin _ (x : Int32) (1 : Int32) (20 : Int32)) ?_
  refine wp_ifb_ne 12 d_X9_turned_7 rfl (fun zc7 => ?_) (fun zc7 => ?_)
  · have hN1b := zc7.1
    obtain ⟨N, hN, rfl⟩ := k_natle (n := 20) (x := x) ⟨by omega, zc7.2⟩
    have hN1 : 1 ≤ N := by rw [nI_toInt (by omega)] at hN1b; omega
    refine wp_aload_n 0 d_X9_turned_12 rfl rfl ?_
    refine wp_getfield (v := .ref (59)) d_X9_turned_13 gf_X9_55 (hp_0 _ _ _ _ _) rfl ?_
    refine wp_aload_n 0 d_X9_turned_16 rfl rfl ?_
    refine wp_getfield (v := .ref (1)) d_X9_turned_17 gf_X9_12 (hp_0 _ _ _ _ _) rfl ?_
    refine wp_virtual0 (As := [.ref (1)]) d_X9_turned_20 lk_X9_245 mv_X0_lasting in_X0_lasting se_X0_lasting (Nat.le_of_ble_eq_true rfl) (Nat.le_of_ble_eq_true rfl) (hp_59 _ _ _ _ _) rfl (s_X0_lasting hn hn9 hrr hR hL hc8 hwf hk hp hp4 hln hr0 hlq htn hz) (fun v20 h20 q20 => ?_)
    obtain ⟨rfl, w1, rfl, hY1, hYf1, hr1, hLs1, hz1⟩ := q20
    show WP _ _ _ _ _ 23 _ [.int (kyr (cYM c.2.1 code cnt p ln) p 21 (ktn (c.2.1 10) p))] (HP c w1 m v E) _
    refine wp_iload_n 1 d_X9_turned_23 rfl rfl ?_
    refine wp_icmp_gt 30 d_X9_turned_24 rfl (fun zc24 => ?_) (fun zc24 => ?_)
    · refine wp_aload_n 0 d_X9_turned_30 rfl rfl ?_
      refine wp_getfield (v := .ref (59)) d_X9_turned_31 gf_X9_55 (hp_0 _ _ _ _ _) rfl ?_
      refine wp_iload_n 1 d_X9_turned_34 rfl rfl ?_
      refine wp_vrt_i (As := [.int (nI (N))]) (x0 := nI (kwy (fun y T => w1.2.1 72 (y * 256 + T)) p N 1 (ktn (c.2.1 10) p) 4)) (h1 := HP c w1 m v E) d_X9_turned_35 lk_X9_249 mv_X0_placeTurned in_X0_placeTurned se_X0_placeTurned (Nat.le_of_ble_eq_true rfl) (Nat.le_of_ble_eq_true rfl) (hp_59 _ _ _ _ _) rfl (s_X0_placeTurned (w := w1) (P := p) (tn := c.2.1 10) hp4 (hY1.1.2.1.trans hp) htn (fun j hj => hY1.2.2.2.2.2.2 j (by omega)) (N := N) (by omega)) ?_
      refine wp_reti d_X9_turned_38 rfl ?_
      have e9 := kwy_congr (V := fun y T => w1.2.1 72 (y * 256 + T)) (V' := fun y T => kyr (cYM c.2.1 code cnt p ln) p (21 - y) T) hp4 N 1 (ktn (c.2.1 10) p) 4 (by omega) (ktn_lt hp4 p (Nat.le_refl _) htn) (fun y9 T9 g1 g2 => hLs1 y9 T9 (by omega) g1 g2)
      exact Or.inr ⟨N, hN1, hN, rfl, by rw [if_neg (Int32.not_le.mpr zc24), e9], w1, rfl, hYf1, hr1, hz1⟩
    · refine wp_bipush (v0 := -3) d_X9_turned_27 (by decide) ?_
      refine wp_reti d_X9_turned_29 rfl ?_
      exact Or.inr ⟨N, hN1, hN, rfl, by rw [if_pos (Int32.not_lt.mp zc24)], w1, rfl, hYf1, hr1, hz1⟩
  · refine wp_iconst (v0 := -1) d_X9_turned_10 rfl ?_
    refine wp_reti d_X9_turned_11 rfl ?_
    exact Or.inl ⟨zc7, rfl, rfl⟩
