/-! ===== rows ===== -/
theorem nI_z {n : Nat} (h : n < 2 ^ 31) : nI n = 0 ↔ n = 0 := by
  constructor
  · intro q
    have h1 := congrArg Int32.toInt q
    rw [nI_toInt h, show (0 : Int32).toInt = 0 from by decide] at h1
    omega
  · rintro rfl
    rfl
theorem wp_nif_ne {X : kX} {d mc ms : Nat} {y : kM} {pc : Nat} {ls : List (Nat × Value)} {st : List Value} {h : kH} {Q : Option Value → kH → Prop} {a : Nat} {off : Int} (tgt : Nat) (hd : decode y.2.1 pc = .ok (.ifCond .ne off, 3)) (ht : (pc : Int) + off = (tgt : Int)) (ha : a < 2 ^ 31) (k1 : a ≠ 0 → WP X d mc ms y tgt ls st h Q) (k2 : a = 0 → WP X d mc ms y (pc + 3) ls st h Q) : WP X d mc ms y pc ls (.int (nI a) :: st) h Q := wp_if_ne tgt hd ht (fun z => k1 (fun e => z ((nI_z ha).mpr e))) (fun z => k2 ((nI_z ha).mp z))
theorem wp_nif_eq {X : kX} {d mc ms : Nat} {y : kM} {pc : Nat} {ls : List (Nat × Value)} {st : List Value} {h : kH} {Q : Option Value → kH → Prop} {a : Nat} {off : Int} (tgt : Nat) (hd : decode y.2.1 pc = .ok (.ifCond .eq off, 3)) (ht : (pc : Int) + off = (tgt : Int)) (ha : a < 2 ^ 31) (k1 : a = 0 → WP X d mc ms y tgt ls st h Q) (k2 : a ≠ 0 → WP X d mc ms y (pc + 3) ls st h Q) : WP X d mc ms y pc ls (.int (nI a) :: st) h Q := wp_if_eq tgt hd ht (fun z => k1 ((nI_z ha).mp z)) (fun z => k2 (fun e => z ((nI_z ha).mpr e)))
/-- what a row came through -/
def cdue (ln : Nat → Int32) (p k : Nat) : Int32 := if k = 0 then -9 else if k ≤ p then ln (k - 1) else 9
/-- the three items of row k of a ray that came at x -/
def crow (g : Int32) (ln : Nat → Int32) (p : Nat) (l : List (Int32 × Int32)) (x : Int32) (k : Nat) : Int32 × Int32 × Int32 := (cdue ln p k, (kray g (l.take k)).1 + x * (kray g (l.take k)).2.2.1, (kray g (l.take k)).2.1 + x * (kray g (l.take k)).2.2.2)
theorem s_X9_dueThrough {X : kX} {d : Nat} {c w m v : kZ} {E : kH} {p : Nat} (hp : c.1 107 = nI p) (hp4 : p ≤ 4) {k : Nat} (hk5 : k ≤ 5) : WP X d 0 0 Y_X9_dueThrough 0 [(0, .ref (0)), (1, .int (nI (k)))] [] (HP c w m v E) (kR (some (.int (cdue (c.2.1 9) p k))) (HP c w m v E)) := by
  refine wp_iload_n 1 d_X9_dueThrough_0 rfl rfl ?_
  refine wp_nif_ne (a := k) 7 d_X9_dueThrough_1 rfl (by omega) (fun c1 => ?_) (fun c1 => ?_)
  · refine wp_iload_n 1 d_X9_dueThrough_7 rfl rfl ?_
    refine wp_aload_n 0 d_X9_dueThrough_8 rfl rfl ?_
    refine wp_getfield (v := .ref (1)) d_X9_dueThrough_9 gf_X9_12 (hp_0 _ _ _ _ _) rfl ?_
    refine wp_getfield (v := .int (nI (p))) d_X9_dueThrough_12 gf_X9_191 (hp_1 _ _ _ _ _) (congrArg (fun z => some (Value.int z)) hp) ?_
    refine wp_ncmp_gt (a := k) (b := p) 32 d_X9_dueThrough_15 rfl (by omega) (by omega) (fun c15 => ?_) (fun c15 => ?_)
    · refine wp_bipush (v0 := 9) d_X9_dueThrough_32 (by decide) ?_
      refine wp_reti d_X9_dueThrough_34 rfl ?_
      refine kR_i ?_ rfl
      unfold cdue
      rw [if_neg c1, if_neg (by omega)]
    · refine wp_aload_n 0 d_X9_dueThrough_18 rfl rfl ?_
      refine wp_getfield (v := .ref (1)) d_X9_dueThrough_19 gf_X9_12 (hp_0 _ _ _ _ _) rfl ?_
      refine wp_getfield (v := .ref (9)) d_X9_dueThrough_22 gf_X9_194 (hp_1 _ _ _ _ _) rfl ?_
      refine wp_iload_n 1 d_X9_dueThrough_25 rfl rfl ?_
      refine wp_iconst (v0 := 1) d_X9_dueThrough_26 rfl ?_
      refine wp_isub d_X9_dueThrough_27 ?_
      refine wp_v (v0 := nI ((k) - (1))) (pk_sub (a := k) (b := 1) (by omega)) ?_
      refine wp_iaload (v := (c.2.1 9) ((k) - (1))) d_X9_dueThrough_28 (hp_9 _ _ _ _ _) (vp_in_nI (by omega) (by omega)) (congrArg ((c.2.1 9)) (nI_clamp (by omega))) ?_
      refine wp_goto 34 d_X9_dueThrough_29 rfl ?_
      refine wp_reti d_X9_dueThrough_34 rfl ?_
      refine kR_i ?_ rfl
      unfold cdue
      rw [if_neg c1, if_pos (by omega)]
  · refine wp_bipush (v0 := -9) d_X9_dueThrough_4 (by decide) ?_
    refine wp_reti d_X9_dueThrough_6 rfl ?_
    refine kR_i ?_ rfl
    unfold cdue
    rw [if_pos c1]
