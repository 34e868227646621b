/-! ===== sheets ===== -/
/-- an int as an item of a sort -/
def knar (sort v : Int32) : Int32 := if sort = 0 then (Int32.toInt8 v).toInt32 else if sort = 1 then (Int32.toInt16 v).toInt32 else if sort = 4 then (if v = 0 then 0 else 1) else v
theorem s_X10_narrowed {X : kX} {d : Nat} (h : kH) (e x : Int32) : WP X d 0 0 Y_X10_narrowed 0 [(0, .int e), (1, .int x)] [] h (kR (some (.int (knar e x))) h) := by
  refine wp_iload_n 0 d_X10_narrowed_0 rfl rfl ?_
  refine wp_if_ne 9 d_X10_narrowed_1 rfl (fun c1 => ?_) (fun c1 => ?_)
  · refine wp_iload_n 0 d_X10_narrowed_9 rfl rfl ?_
    refine wp_iconst (v0 := 1) d_X10_narrowed_10 rfl ?_
    refine wp_icmp_ne 19 d_X10_narrowed_11 rfl (fun c11 => ?_) (fun c11 => ?_)
    · refine wp_iload_n 0 d_X10_narrowed_19 rfl rfl ?_
      refine wp_iconst (v0 := 4) d_X10_narrowed_20 rfl ?_
      refine wp_icmp_ne 36 d_X10_narrowed_21 rfl (fun c21 => ?_) (fun c21 => ?_)
      · refine wp_iload_n 1 d_X10_narrowed_36 rfl rfl ?_
        refine wp_reti d_X10_narrowed_37 rfl ?_
        refine kR_i ?_ rfl
        simp_all [knar]
      · refine wp_iload_n 1 d_X10_narrowed_24 rfl rfl ?_
        refine wp_if_ne 32 d_X10_narrowed_25 rfl (fun c25 => ?_) (fun c25 => ?_)
        · refine wp_iconst (v0 := 1) d_X10_narrowed_32 rfl ?_
          refine wp_goto 37 d_X10_narrowed_33 rfl ?_
          refine wp_reti d_X10_narrowed_37 rfl ?_
          refine kR_i ?_ rfl
          simp_all [knar]
        · refine wp_iconst (v0 := 0) d_X10_narrowed_28 rfl ?_
          refine wp_goto 37 d_X10_narrowed_29 rfl ?_
          refine wp_reti d_X10_narrowed_37 rfl ?_
          refine kR_i ?_ rfl
          simp_all [knar]
    · refine wp_iload_n 1 d_X10_narrowed_14 rfl rfl ?_
      refine wp_i2s d_X10_narrowed_15 ?_
      refine wp_goto 37 d_X10_narrowed_16 rfl ?_
      refine wp_reti d_X10_narrowed_37 rfl ?_
      refine kR_i ?_ rfl
      simp_all [knar]
  · refine wp_iload_n 1 d_X10_narrowed_4 rfl rfl ?_
    refine wp_i2b d_X10_narrowed_5 ?_
    refine wp_goto 37 d_X10_narrowed_6 rfl ?_
    refine wp_reti d_X10_narrowed_37 rfl ?_
    refine kR_i ?_ rfl
    simp_all [knar]
