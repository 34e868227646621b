/-! ===== feed ===== -/
def cby (e : Int64) (i : Nat) : Int32 := (Int64.toInt32 ((Int64.toUInt64 (e) >>> ((Int32.toInt64 (nI (8 * i))).toUInt64 &&& Int64.toUInt64 63)).toInt64)) &&& 255
theorem setSA38 (c : kZ) (f F : Nat → Int32) (a b : Int32) : setS (setA (setS (setA c 38 f) 3701 a) 38 F) 3701 b = setS (setA c 38 F) 3701 b := by
  simp only [setS, setA, updA_idem]
  congr 1
  funext j
  simp only [upd]
  split <;> rfl
theorem s_X8_append {X : kX} {d : Nat} {c w m v : kZ} {E : kH} {T : Nat} (hT : c.1 3701 = nI T) (hT2 : T < 200) (b : Int32) : WP X d 0 0 Y_X8_append 0 [(0, .ref (37)), (1, .int (b))] [] (HP c w m v E) (kR none (HP (setS (setA c 38 (upd (c.2.1 38) T b)) 3701 (nI (T + 1))) w m v E)) := by
  refine wp_aload_n 0 d_X8_append_0 rfl rfl ?_
  refine wp_getfield (v := .int (nI (T))) d_X8_append_1 gf_X8_26 (hp_37 _ _ _ _ _) (congrArg (fun z => some (Value.int z)) hT) ?_
  refine wp_sipush (v0 := 200) d_X8_append_4 (by decide) ?_
  refine wp_ncmp_lt (a := T) (b := 200) 11 d_X8_append_7 rfl (by omega) (by omega) (fun c7 => ?_) (fun c7 => ?_)
  · refine wp_aload_n 0 d_X8_append_11 rfl rfl ?_
    refine wp_getfield (v := .ref (38)) d_X8_append_12 gf_X8_9 (hp_37 _ _ _ _ _) rfl ?_
    refine wp_aload_n 0 d_X8_append_15 rfl rfl ?_
    refine wp_getfield (v := .int (nI (T))) d_X8_append_16 gf_X8_26 (hp_37 _ _ _ _ _) (congrArg (fun z => some (Value.int z)) hT) ?_
    refine wp_iload_n 1 d_X8_append_19 rfl rfl ?_
    refine wp_iastore (h' := HP (setA c 38 (upd (c.2.1 38) (T) (b))) w m v E) d_X8_append_20 (hp_38 _ _ _ _ _) (vp_in_nI (by omega) (by omega)) (by rw [nI_clamp (by omega)]; exact (hpa_38 _ _ _ _ _ _)) ?_
    refine wp_aload_n 0 d_X8_append_21 rfl rfl ?_
    refine wp_dup d_X8_append_22 rfl ?_
    refine wp_getfield (v := .int (nI (T))) d_X8_append_23 gf_X8_26 (hp_37 _ _ _ _ _) (congrArg (fun z => some (Value.int z)) hT) ?_
    refine wp_iconst (v0 := 1) d_X8_append_26 rfl ?_
    refine wp_iadd d_X8_append_27 ?_
    refine wp_v (v0 := nI ((T) + (1))) (nI_add (T) (1)) ?_
    refine wp_putfield (h' := HP (setS (setA c 38 (upd (c.2.1 38) (T) (b))) 3701 (nI ((T) + (1)))) w m v E) d_X8_append_28 gp_X8_26 (kfit_i _) (hp_37 _ _ _ _ _) (Nat.le_of_ble_eq_true rfl) (hps_37_1 _ _ _ _ _ _) ?_
    refine wp_vret d_X8_append_31 rfl ?_
    first
      | exact ⟨rfl, rfl⟩
      | exact absurd hT2 (by omega)
  · refine wp_vret d_X8_append_10 rfl ?_
    first
      | exact ⟨rfl, rfl⟩
      | exact absurd hT2 (by omega)
