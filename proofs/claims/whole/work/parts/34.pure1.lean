/-! ===== pure: the two ways of rays ===== -/
theorem kst_mst (g x : Int32) (q : kQ) (e : Int32 × Int32) : mst g (q.1 + x * q.2.2.1, q.2.1 + x * q.2.2.2) e = ((kst g q e).1 + x * (kst g q e).2.2.1, (kst g q e).2.1 + x * (kst g q e).2.2.2) := by
  obtain ⟨a, b, u, v⟩ := q
  obtain ⟨s, t⟩ := e
  simp only [mst, kst]
  refine Prod.ext ?_ ?_
  · grind
  · grind
theorem kray_mray (g x : Int32) (l : List (Int32 × Int32)) : mray g l x = ((kray g l).1 + x * (kray g l).2.2.1, (kray g l).2.1 + x * (kray g l).2.2.2) := by
  suffices h : ∀ (l : List (Int32 × Int32)) (q : kQ), l.foldl (mst g) (q.1 + x * q.2.2.1, q.2.1 + x * q.2.2.2) = ((l.foldl (kst g) q).1 + x * (l.foldl (kst g) q).2.2.1, (l.foldl (kst g) q).2.1 + x * (l.foldl (kst g) q).2.2.2) by
    have h1 := h l (0, 0, 1, 0)
    have e1 : (0 : Int32) + x * 1 = x := by rw [Int32.mul_one, Int32.zero_add]
    have e2 : (0 : Int32) + x * 0 = 0 := by rw [Int32.mul_zero, Int32.zero_add]
    simp only [e1, e2] at h1
    exact h1
  intro l
  induction l with
  | nil => intro q; rfl
  | cons e l ih =>
    intro q
    simp only [List.foldl_cons]
    rw [kst_mst]
    exact ih _
theorem msee_csee (g e : Int32) (l : List (Int32 × Int32)) (x : Int32) : msee g e l x = (csee g e l).1 + x * (csee g e l).2.2.1 := by
  unfold msee csee
  rw [kray_mray]
theorem mwr_cwr (g e : Int32) (l : List (Int32 × Int32)) : mwr g e l = cwr g e l := by
  unfold mwr cwr
  rw [msee_csee, msee_csee, Int32.zero_mul, Int32.one_mul, Int32.add_zero]
  congr 2
  grind
theorem mrow_crow (g : Int32) (ln : Nat → Int32) (p : Nat) (l : List (Int32 × Int32)) (x : Int32) (k : Nat) : mrow g ln p l x k = crow g ln p l x k := by
  unfold mrow crow
  rw [kray_mray]
