/-! ===== tubes from the heap: the reference ===== -/
theorem kand1 (x : Int32) : x &&& 1 = 0 ∨ x &&& 1 = 1 := by
  have hb : (x &&& 1).toBitVec = x.toBitVec &&& 1#32 := rfl
  cases h : x.toBitVec.getLsbD 0 with
  | false =>
    left
    apply Int32.toBitVec_inj.mp
    rw [hb]
    show _ = 0#32
    apply BitVec.eq_of_getLsbD_eq
    intro i hi
    rw [BitVec.getLsbD_and, BitVec.getLsbD_one]
    by_cases e : i = 0
    · subst e; rw [h]; simp
    · simp [e]
  | true =>
    right
    apply Int32.toBitVec_inj.mp
    rw [hb]
    show _ = 1#32
    apply BitVec.eq_of_getLsbD_eq
    intro i hi
    rw [BitVec.getLsbD_and, BitVec.getLsbD_one]
    by_cases e : i = 0
    · subst e; rw [h]; simp
    · simp [e]
abbrev mAl : Type := Int32 × kTb × Int32
def mW2 (s : Nat → Int32) (en : Nat → Nat) (cnt : Nat) (pre : kTb) : Int32 := mwr (s 5) (s 6) (pre.map (kent2 (fun l => mstr s en cnt l) (mtl s)))
def mwg (s : Nat → Int32) (en : Nat → Nat) (cnt : Nat) (pre : kTb) (_ : Int32) (a : mAl) : mAl :=
  (if a.1 < 0 ∨ mW2 s en cnt pre < a.1 then mW2 s en cnt pre else a.1, if a.1 < 0 ∨ mW2 s en cnt pre < a.1 then pre else a.2.1, a.2.2 + kb (mW2 s en cnt pre ≤ s 7))
def wfm (_ : Nat) (wy : Int32) : Int32 := wy
def mTv (s : Nat → Int32) (en : Nat → Nat) (cnt nl N : Nat) (pre : kTb) (a : mAl) (v : kZ) : Prop := mSt s en cnt nl v ∧ v.1 8008 = nI N ∧ (∀ j (h : j < pre.length), (v.2.1 86 j, v.2.1 87 j) = kent2 (fun l => mstr s en cnt l) (mtl s) pre[j] ∧ v.2.1 88 j = nI (10 * pre[j].1 + pre[j].2)) ∧ v.1 8013 = a.1 ∧ v.1 8014 = a.2.2 ∧ ∀ j (h : j < a.2.1.length), v.2.1 89 j = nI (10 * a.2.1[j].1 + a.2.1[j].2)
theorem mTv.h {s : Nat → Int32} {en : Nat → Nat} {cnt nl N : Nat} {pre : kTb} {a : mAl} {v v' : kZ} (h : mTv s en cnt nl N pre a v) (g : mH v v') : mTv s en cnt nl N pre a v' := by
  obtain ⟨h1, h2, h3, h4, h5, h6⟩ := h
  refine ⟨fun l hl => by rw [g.2]; exact h1 l hl, (g.1 _ (by decide)).trans h2, ?_, (g.1 _ (by decide)).trans h4, (g.1 _ (by decide)).trans h5, ?_⟩
  · rw [g.2]; exact h3
  · rw [g.2]; exact h6
theorem mTv.laid {s : Nat → Int32} {en : Nat → Nat} {cnt nl N : Nat} {pre : kTb} {a : mAl} {v : kZ} (h : mTv s en cnt nl N pre a v) (hp : pre.length = N) : mLaid v (pre.map (kent2 (fun l => mstr s en cnt l) (mtl s))) := by
  refine ⟨by rw [List.length_map, hp]; exact h.2.1, fun j hj => ?_⟩
  rw [List.length_map] at hj
  rw [List.getElem_map]
  exact (h.2.2.1 j hj).1
theorem mTv.push {s : Nat → Int32} {en : Nat → Nat} {cnt nl N : Nat} {pre : kTb} {a : mAl} {v : kZ} {l t p : Nat} (hp : pre.length = p) (hl : l < nl) (h : mTv s en cnt nl N pre a v) : mTv s en cnt nl N (pre ++ [(l, t)]) a (setA (setA (setA v 86 (upd (v.2.1 86) p (v.2.1 85 l))) 87 (upd (v.2.1 87) p (kpush (mtl s l) (nI t)))) 88 (upd (v.2.1 88) p (nI (10 * l + t)))) := by
  subst hp
  obtain ⟨h1, h2, h3, h4, h5, h6⟩ := h
  refine ⟨h1, h2, fun j hj => ?_, h4, h5, h6⟩
  show (upd (v.2.1 86) pre.length _ j, upd (v.2.1 87) pre.length _ j) = _ ∧ upd (v.2.1 88) pre.length _ j = _
  by_cases q : j = pre.length
  · subst q
    have e9 : (pre ++ [(l, t)])[pre.length] = (l, t) := by simp
    rw [upd_s, upd_s, upd_s, h1 l hl]
    refine ⟨?_, ?_⟩ <;> rw [e9] <;> rfl
  · rw [List.length_append] at hj
    simp only [List.length_cons, List.length_nil] at hj
    rw [upd_n _ _ q, upd_n _ _ q, upd_n _ _ q, List.getElem_append_left (by omega)]
    exact h3 j (by omega)
theorem mTv.pop {s : Nat → Int32} {en : Nat → Nat} {cnt nl N : Nat} {pre : kTb} {a : mAl} {v : kZ} {x : Nat × Nat} (h : mTv s en cnt nl N (pre ++ [x]) a v) : mTv s en cnt nl N pre a v := by
  obtain ⟨h1, h2, h3, h4, h5, h6⟩ := h
  refine ⟨h1, h2, fun j hj => ?_, h4, h5, h6⟩
  have := h3 j (by rw [List.length_append]; omega)
  rw [List.getElem_append_left hj] at this
  exact this
theorem kov_at {f g : Nat → Int32} {n k : Nat} (h : k < n) : kov f g n k = g k := if_pos h
theorem s_X10_tries_t {X : kX} {d : Nat} {c w m v : kZ} {E : kH} {cnt : Nat} {en : Nat → Nat} {nl N : Nat} (hn : m.2.1 81 0 = nI nl) (hnl : nl ≤ 9) (hN : N ≤ 3) {kk : Nat} (IH : ∀ (pre : kTb) (p : Nat) (u wy : Int32) (a : mAl) (v' : kZ), pre.length = p → p + kk = N → (∀ q ∈ pre, q.1 < nl) → mTv (m.2.1 81) en cnt nl N pre a v' → WP X (d + kk + 4) 0 0 Y_X10_tries 0 [(0, .ref 80), (1, .int (nI p)), (2, .int u)] [] (HP c w m v' E) (fun r h1 => r = none ∧ ∃ v1 : kZ, h1 = HP c w m v1 E ∧ mTv (m.2.1 81) en cnt nl N pre (tfw (mwg (m.2.1 81) en cnt) nl 4 wfm kk pre u wy a) v1)) {pre : kTb} {p : Nat} (u : Int32) (hp : pre.length = p) (hpk : p + (kk + 1) = N) (hv : ∀ q ∈ pre, q.1 < nl) (wy : Int32) {l : Nat} (hl : l < nl) (hb0 : u >>> (nI l &&& 31) &&& 1 = 0) {A : mAl} {Q : Option Value → kH → Prop} (K : ∀ v2 : kZ, mTv (m.2.1 81) en cnt nl N pre A v2 → WP X (d + kk + 5) 0 0 Y_X10_tries 156 [(3, .int (nI l)), (0, .ref 80), (1, .int (nI p)), (2, .int u)] [] (HP c w m v2 E) Q) : ∀ (k : Nat) (t : Nat) (v' : kZ) (a : mAl), (t + k = 4) → (mTv (m.2.1 81) en cnt nl N pre a v') → ((List.range' t k).foldl (fun a t => tfw (mwg (m.2.1 81) en cnt) nl 4 wfm kk (pre ++ [(l, t)]) (u ||| kbit l) (wfm t wy) a) a = A) → WP X (d + kk + 5) 0 0 Y_X10_tries 103 [(4, .int (nI (t))), (3, .int (nI (l))), (0, .ref (80)), (1, .int (nI (p))), (2, .int (u))] [] (HP c w m v' E) Q := by
  intro k
  induction k using Nat.strongRecOn with
  | ind k ih =>
    intro t v' a ht hI hA
    refine wp_iload 0 d_X10_tries_103 rfl ?_
    refine wp_iconst (v0 := 4) d_X10_tries_105 rfl ?_
    refine wp_ncmp_ge (a := t) (b := 4) 156 d_X10_tries_106 rfl (by omega) (by omega) (fun zc106 => ?_) (fun zc106 => ?_)
    · obtain rfl : k = 0 := by omega
      obtain rfl : a = A := hA
      refine wp_sub [(3, .int (nI l)), (0, .ref 80), (1, .int (nI p)), (2, .int u)] [1, 2, 3, 4] rfl ?_
      exact K v' hI
    · refine wp_iload_n 4 d_X10_tries_109 rfl rfl ?_
      refine wp_iload_n 1 d_X10_tries_110 rfl rfl ?_
      refine wp_ishr d_X10_tries_111 ?_
      refine wp_iconst (v0 := 1) d_X10_tries_112 rfl ?_
      refine wp_iand d_X10_tries_113 ?_
      refine wp_if_ne 156 d_X10_tries_114 rfl (fun zc114 => ?_) (fun zc114 => ?_)
      · exact absurd hb0 zc114
      · refine wp_aload_n 2 d_X10_tries_117 rfl rfl ?_
        refine wp_iload_n 3 d_X10_tries_118 rfl rfl ?_
        refine wp_iload_n 1 d_X10_tries_119 rfl rfl ?_
        refine wp_iload 0 d_X10_tries_120 rfl ?_
        refine wp_vrt_v (As := [.int (nI (p)), .int (nI (l)), .int (nI (t))]) (h1 := HP c w m (setA (setA v' 86 (upd (v'.2.1 86) (p) ((v'.2.1 85) (l)))) 87 (upd (v'.2.1 87) (p) (kpush (mtl (m.2.1 81) (l)) (nI (t))))) E) d_X10_tries_122 lk_X10_139 mv_X10_thinks in_X10_thinks se_X10_thinks (Nat.le_of_ble_eq_true rfl) (Nat.le_of_ble_eq_true rfl) (hp_80 _ _ _ _ _) rfl (s_X10_thinks (p := p) (l := l) (by omega) (by omega) (nI (t))) ?_
        refine wp_aload_n 2 d_X10_tries_125 rfl rfl ?_
        refine wp_getfield (v := .ref (88)) d_X10_tries_126 gf_X10_31 (hp_80 _ _ _ _ _) rfl ?_
        refine wp_iload_n 3 d_X10_tries_129 rfl rfl ?_
        refine wp_bipush (v0 := 10) d_X10_tries_130 (by decide) ?_
        refine wp_iload_n 1 d_X10_tries_132 rfl rfl ?_
        refine wp_imul d_X10_tries_133 ?_
        refine wp_v (v0 := nI ((10) * (l))) (pk_mul (10) (l)) ?_
        refine wp_iload 0 d_X10_tries_134 rfl ?_
        refine wp_iadd d_X10_tries_136 ?_
        refine wp_v (v0 := nI (((10) * (l)) + (t))) (nI_add ((10) * (l)) (t)) ?_
        refine wp_iastore (h' := HP c w m (setA (setA (setA v' 86 (upd (v'.2.1 86) (p) ((v'.2.1 85) (l)))) 87 (upd (v'.2.1 87) (p) (kpush (mtl (m.2.1 81) (l)) (nI (t))))) 88 (upd (v'.2.1 88) (p) (nI (((10) * (l)) + (t))))) E) d_X10_tries_137 (hp_88 _ _ _ _ _) (vp_in_nI (by omega) (by omega)) (by rw [nI_clamp (by omega)]; exact (hpa_88 _ _ _ _ _ _)) ?_
        refine wp_aload_n 2 d_X10_tries_138 rfl rfl ?_
        refine wp_iload_n 3 d_X10_tries_139 rfl rfl ?_
        refine wp_iconst (v0 := 1) d_X10_tries_140 rfl ?_
        refine wp_iadd d_X10_tries_141 ?_
        refine wp_v (v0 := nI ((p) + (1))) (nI_add (p) (1)) ?_
        refine wp_iload_n 4 d_X10_tries_142 rfl rfl ?_
        refine wp_iconst (v0 := 1) d_X10_tries_143 rfl ?_
        refine wp_iload_n 1 d_X10_tries_144 rfl rfl ?_
        refine wp_ishl d_X10_tries_145 ?_
        refine wp_ior d_X10_tries_146 ?_
        refine wp_virtual0 (As := [.int (nI ((p) + (1))), .int ((u) ||| ((1) <<< ((nI (l)) &&& 31)))]) d_X10_tries_147 lk_X10_191 mv_X10_tries in_X10_tries se_X10_tries (Nat.le_of_ble_eq_true rfl) (Nat.le_of_ble_eq_true rfl) (hp_80 _ _ _ _ _) rfl (IH (pre ++ [(l, t)]) (p + 1) (u ||| kbit l) (wfm t wy) a _ (by rw [List.length_append]; simp only [List.length_cons, List.length_nil]; omega) (by omega) (by intro q9 h9; rw [List.mem_append, List.mem_singleton] at h9; rcases h9 with h9 | h9; exact hv q9 h9; rw [h9]; exact hl) (hI.push (t := t) hp hl)) (fun v147 h147 q147 => ?_)
        obtain ⟨rfl, v2, rfl, hI2⟩ := q147
        show WP _ _ _ _ _ 150 _ [] (HP c w m v2 E) _
        refine wp_iinc (v0 := nI ((t) + 1)) [(4, .int (nI ((t) + 1))), (3, .int (nI (l))), (0, .ref (80)), (1, .int (nI (p))), (2, .int (u))] 0 d_X10_tries_150 rfl (nI_add (t) 1) (Nat.le_of_ble_eq_true rfl) rfl ?_
        refine wp_goto 103 d_X10_tries_153 rfl ?_
        obtain ⟨k1, rfl⟩ : ∃ k1, k = k1 + 1 := ⟨k - 1, by omega⟩
        refine wp_sub [(4, .int (nI ((t) + 1))), (3, .int (nI (l))), (0, .ref (80)), (1, .int (nI (p))), (2, .int (u))] [0, 1, 2, 3, 4] rfl ?_
        rw [kfs] at hA
        exact ih k1 (by omega) (t + 1) v2 _ (by omega) hI2.pop hA
theorem s_X10_tries_l {X : kX} {d : Nat} {c w m v : kZ} {E : kH} {cnt : Nat} {en : Nat → Nat} {nl N : Nat} (hn : m.2.1 81 0 = nI nl) (hnl : nl ≤ 9) (hN : N ≤ 3) {kk : Nat} (IH : ∀ (pre : kTb) (p : Nat) (u wy : Int32) (a : mAl) (v' : kZ), pre.length = p → p + kk = N → (∀ q ∈ pre, q.1 < nl) → mTv (m.2.1 81) en cnt nl N pre a v' → WP X (d + kk + 4) 0 0 Y_X10_tries 0 [(0, .ref 80), (1, .int (nI p)), (2, .int u)] [] (HP c w m v' E) (fun r h1 => r = none ∧ ∃ v1 : kZ, h1 = HP c w m v1 E ∧ mTv (m.2.1 81) en cnt nl N pre (tfw (mwg (m.2.1 81) en cnt) nl 4 wfm kk pre u wy a) v1)) {pre : kTb} {p : Nat} (u : Int32) (hp : pre.length = p) (hpk : p + (kk + 1) = N) (hv : ∀ q ∈ pre, q.1 < nl) (wy : Int32) {A : mAl} : ∀ (k : Nat) (l : Nat) (v' : kZ) (a : mAl), (l + k = nl) → (mTv (m.2.1 81) en cnt nl N pre a v') → ((List.range' l k).foldl (fun a l => if u >>> (nI l &&& 31) &&& 1 = 1 then a else (List.range' 0 4).foldl (fun a t => tfw (mwg (m.2.1 81) en cnt) nl 4 wfm kk (pre ++ [(l, t)]) (u ||| kbit l) (wfm t wy) a) a) a = A) → WP X (d + kk + 5) 0 0 Y_X10_tries 90 [(3, .int (nI (l))), (0, .ref (80)), (1, .int (nI (p))), (2, .int (u))] [] (HP c w m v' E) (fun r h1 => r = none ∧ ∃ v1 : kZ, h1 = HP c w m v1 E ∧ mTv (m.2.1 81) en cnt nl N pre A v1) := by
  intro k
  induction k using Nat.strongRecOn with
  | ind k ih =>
    intro l v' a hl0 hI hA
    refine wp_iload_n 0 d_X10_tries_90 rfl rfl ?_
    refine wp_aload_n 1 d_X10_tries_91 rfl rfl ?_
    refine wp_getfield (v := .ref (81)) d_X10_tries_92 gf_X10_7 (hp_80 _ _ _ _ _) rfl ?_
    refine wp_iconst (v0 := 0) d_X10_tries_95 rfl ?_
    refine wp_iaload (v := nI (nl)) d_X10_tries_96 (hp_81 _ _ _ _ _) (kin rfl) hn ?_
    refine wp_ncmp_ge (a := l) (b := nl) 162 d_X10_tries_97 rfl (by omega) (by omega) (fun zc97 => ?_) (fun zc97 => ?_)
    · refine wp_vret d_X10_tries_162 rfl ?_
      obtain rfl : k = 0 := by omega
      obtain rfl : a = A := hA
      exact ⟨rfl, v', rfl, hI⟩
    · refine wp_iconst (v0 := 0) d_X10_tries_100 rfl ?_
      refine wp_istore [(4, .int (0)), (3, .int (nI (l))), (0, .ref (80)), (1, .int (nI (p))), (2, .int (u))] d_X10_tries_101 (Nat.le_of_ble_eq_true rfl) rfl ?_
      obtain ⟨k1, rfl⟩ : ∃ k1, k = k1 + 1 := ⟨k - 1, by omega⟩
      rw [kfs] at hA
      rcases kand1 (u >>> (nI l &&& 31)) with hb0 | hb1
      · rw [if_neg (by rw [hb0]; decide)] at hA
        refine wp_sub [(4, .int (0)), (3, .int (nI (l))), (0, .ref (80)), (1, .int (nI (p))), (2, .int (u))] [0, 1, 2, 3, 4] rfl ?_
        refine s_X10_tries_t (v := v) hn hnl hN IH u hp hpk hv wy (l := l) (by omega) hb0 (fun v2 hI2 => ?_) 4 0 v' a (by omega) hI rfl
        refine wp_iinc (v0 := nI ((l) + 1)) [(3, .int (nI ((l) + 1))), (0, .ref (80)), (1, .int (nI (p))), (2, .int (u))] 0 d_X10_tries_156 rfl (nI_add (l) 1) (Nat.le_of_ble_eq_true rfl) rfl ?_
        refine wp_goto 90 d_X10_tries_159 rfl ?_
        refine wp_sub [(3, .int (nI ((l) + 1))), (0, .ref (80)), (1, .int (nI (p))), (2, .int (u))] [0, 1, 2, 3] rfl ?_
        exact ih k1 (by omega) (l + 1) v2 _ (by omega) hI2 hA
      · rw [if_pos hb1] at hA
        refine wp_iload 0 d_X10_tries_103 rfl ?_
        refine wp_iconst (v0 := 4) d_X10_tries_105 rfl ?_
        refine wp_icmp_ge 156 d_X10_tries_106 rfl (fun z => absurd z (by decide)) (fun _ => ?_)
        refine wp_iload_n 4 d_X10_tries_109 rfl rfl ?_
        refine wp_iload_n 1 d_X10_tries_110 rfl rfl ?_
        refine wp_ishr d_X10_tries_111 ?_
        refine wp_iconst (v0 := 1) d_X10_tries_112 rfl ?_
        refine wp_iand d_X10_tries_113 ?_
        refine wp_if_ne 156 d_X10_tries_114 rfl (fun zc114 => ?_) (fun zc114 => ?_)
        · refine wp_iinc (v0 := nI ((l) + 1)) [(3, .int (nI ((l) + 1))), (4, .int (0)), (0, .ref (80)), (1, .int (nI (p))), (2, .int (u))] 1 d_X10_tries_156 rfl (nI_add (l) 1) (Nat.le_of_ble_eq_true rfl) rfl ?_
          refine wp_goto 90 d_X10_tries_159 rfl ?_
          refine wp_sub [(3, .int (nI ((l) + 1))), (0, .ref (80)), (1, .int (nI (p))), (2, .int (u))] [0, 2, 3, 4] rfl ?_
          exact ih k1 (by omega) (l + 1) v' _ (by omega) hI hA
        · rw [hb1] at zc114
          exact absurd zc114 (by decide)
theorem s_X10_tries_c {X : kX} {d : Nat} {c w m v : kZ} {E : kH} {p : Nat} {u : Int32} (z : Int32) : ∀ (k : Nat) (i : Nat), (i + k = 4) → WP X d 0 0 Y_X10_tries 61 [(4, .int (nI (i))), (0, .ref (80)), (1, .int (nI (p))), (2, .int (u)), (3, .int (z))] [] (HP c w m (setA v 89 (kov (v.2.1 89) (v.2.1 88) i)) E) (kR none (HP c w m (setA v 89 (kov (v.2.1 89) (v.2.1 88) 4)) E)) := by
  intro k
  induction k using Nat.strongRecOn with
  | ind k ih =>
    intro i hi
    refine wp_iload 0 d_X10_tries_61 rfl ?_
    refine wp_iconst (v0 := 4) d_X10_tries_63 rfl ?_
    refine wp_ncmp_ge (a := i) (b := 4) 87 d_X10_tries_64 rfl (by omega) (by omega) (fun zc64 => ?_) (fun zc64 => ?_)
    · refine wp_vret d_X10_tries_87 rfl ?_
      obtain rfl : k = 0 := by omega
      obtain rfl : i = 4 := by omega
      exact ⟨rfl, rfl⟩
    · refine wp_aload_n 1 d_X10_tries_67 rfl rfl ?_
      refine wp_getfield (v := .ref (89)) d_X10_tries_68 gf_X10_34 (hp_80 _ _ _ _ _) rfl ?_
      refine wp_iload 0 d_X10_tries_71 rfl ?_
      refine wp_aload_n 1 d_X10_tries_73 rfl rfl ?_
      refine wp_getfield (v := .ref (88)) d_X10_tries_74 gf_X10_31 (hp_80 _ _ _ _ _) rfl ?_
      refine wp_iload 0 d_X10_tries_77 rfl ?_
      refine wp_iaload (v := (v.2.1 88) (i)) d_X10_tries_79 (hp_88 _ _ _ _ _) (vp_in_nI (by omega) (by omega)) (congrArg ((v.2.1 88)) (nI_clamp (by omega))) ?_
      refine wp_iastore (h' := HP c w m (setA (setA v 89 (kov (v.2.1 89) (v.2.1 88) i)) 89 (upd (kov (v.2.1 89) (v.2.1 88) i) (i) ((v.2.1 88) (i)))) E) d_X10_tries_80 (hp_89 _ _ _ _ _) (vp_in_nI (by omega) (by omega)) (by rw [nI_clamp (by omega)]; exact (hpa_89 _ _ _ _ _ _)) ?_
      refine wp_iinc (v0 := nI ((i) + 1)) [(4, .int (nI ((i) + 1))), (0, .ref (80)), (1, .int (nI (p))), (2, .int (u)), (3, .int (z))] 0 d_X10_tries_81 rfl (nI_add (i) 1) (Nat.le_of_ble_eq_true rfl) rfl ?_
      refine wp_goto 61 d_X10_tries_84 rfl ?_
      obtain ⟨k1, rfl⟩ : ∃ k1, k = k1 + 1 := ⟨k - 1, by omega⟩
      refine wp_sub [(4, .int (nI ((i) + 1))), (0, .ref (80)), (1, .int (nI (p))), (2, .int (u)), (3, .int (z))] [0, 1, 2, 3, 4] rfl ?_
      refine wp_h (h' := HP c w m (setA v 89 (kov (v.2.1 89) (v.2.1 88) (i + 1))) E) (by rw [setA_idem, kov_s]) ?_
      exact ih k1 (by omega) (i + 1) (by omega)
theorem s_X10_tries {X : kX} {d : Nat} {c w m v : kZ} {E : kH} {cnt : Nat} {en : Nat → Nat} {nl N : Nat} (hn : m.2.1 81 0 = nI nl) (hnl : nl ≤ 9) (hN : N ≤ 3) : ∀ (kk : Nat) (pre : kTb) (p : Nat) (u wy : Int32) (a : mAl) (v' : kZ), pre.length = p → p + kk = N → (∀ q ∈ pre, q.1 < nl) → mTv (m.2.1 81) en cnt nl N pre a v' → WP X (d + kk + 4) 0 0 Y_X10_tries 0 [(0, .ref 80), (1, .int (nI p)), (2, .int u)] [] (HP c w m v' E) (fun r h1 => r = none ∧ ∃ v1 : kZ, h1 = HP c w m v1 E ∧ mTv (m.2.1 81) en cnt nl N pre (tfw (mwg (m.2.1 81) en cnt) nl 4 wfm kk pre u wy a) v1) := by
  intro kk
  induction kk with
  | zero =>
    intro pre p u wy a v' hp hpk hv hI
    refine wp_iload_n 1 d_X10_tries_0 rfl rfl ?_
    refine wp_aload_n 0 d_X10_tries_1 rfl rfl ?_
    refine wp_getfield (v := .int (nI (N))) d_X10_tries_2 gf_X10_135 (hp_80 _ _ _ _ _) (congrArg (fun z => some (Value.int z)) hI.2.1) ?_
    refine wp_ncmp_ne (a := p) (b := N) 88 d_X10_tries_5 rfl (by omega) (by omega) (fun zc5 => ?_) (fun zc5 => ?_)
    · exact absurd hpk (by omega)
    · refine wp_aload_n 0 d_X10_tries_8 rfl rfl ?_
      refine wp_virtual0 (As := []) d_X10_tries_9 lk_X10_159 mv_X10_wrongOf in_X10_wrongOf se_X10_wrongOf (Nat.le_of_ble_eq_true rfl) (Nat.le_of_ble_eq_true rfl) (hp_80 _ _ _ _ _) rfl (s_X10_wrongOf (v := v') (l := pre.map (kent2 (fun l => mstr (m.2.1 81) en cnt l) (mtl (m.2.1 81)))) (by rw [List.length_map]; omega) (hI.laid (hp.trans hpk))) (fun v9 h9 q9 => ?_)
      obtain ⟨rfl, u1, rfl, hu1⟩ := q9
      have hI1 := hI.h hu1
      obtain ⟨k1, k2, k3, k4, k5, k6⟩ := id hI1
      show WP _ _ _ _ _ 12 _ [.int (mW2 (m.2.1 81) en cnt pre)] (HP c w m u1 E) _
      refine wp_istore_n [(3, .int (mW2 (m.2.1 81) en cnt pre)), (0, .ref (80)), (1, .int (nI (p))), (2, .int (u))] d_X10_tries_12 rfl (Nat.le_of_ble_eq_true rfl) rfl ?_
      refine wp_aload_n 1 d_X10_tries_13 rfl rfl ?_
      refine wp_dup d_X10_tries_14 rfl ?_
      refine wp_getfield (v := .int (a.2.2)) d_X10_tries_15 gf_X10_185 (hp_80 _ _ _ _ _) (congrArg (fun z => some (Value.int z)) k5) ?_
      refine wp_iload_n 0 d_X10_tries_18 rfl rfl ?_
      refine wp_aload_n 1 d_X10_tries_19 rfl rfl ?_
      refine wp_getfield (v := .ref (81)) d_X10_tries_20 gf_X10_7 (hp_80 _ _ _ _ _) rfl ?_
      refine wp_bipush (v0 := 7) d_X10_tries_23 (by decide) ?_
      refine wp_iaload (v := (m.2.1 81) (7)) d_X10_tries_25 (hp_81 _ _ _ _ _) (kin rfl) rfl ?_
      refine wp_icmp_gt 33 d_X10_tries_26 rfl (fun zc26 => ?_) (fun zc26 => ?_)
      · refine wp_iconst (v0 := 0) d_X10_tries_33 rfl ?_
        refine wp_iadd d_X10_tries_34 ?_
        refine wp_putfield (h' := HP c w m (setS u1 8014 ((a.2.2) + (0))) E) d_X10_tries_35 gp_X10_185 (kfit_i _) (hp_80 _ _ _ _ _) (Nat.le_of_ble_eq_true rfl) (hps_80_14 _ _ _ _ _ _) ?_
        refine wp_aload_n 1 d_X10_tries_38 rfl rfl ?_
        refine wp_getfield (v := .int (a.1)) d_X10_tries_39 gf_X10_188 (hp_80 _ _ _ _ _) (congrArg (fun z => some (Value.int z)) k4) ?_
        refine wp_if_lt 53 d_X10_tries_42 rfl (fun zc42 => ?_) (fun zc42 => ?_)
        · refine wp_aload_n 1 d_X10_tries_53 rfl rfl ?_
          refine wp_iload_n 0 d_X10_tries_54 rfl rfl ?_
          refine wp_putfield (h' := HP c w m (setS (setS u1 8014 ((a.2.2) + (0))) 8013 (mW2 (m.2.1 81) en cnt pre)) E) d_X10_tries_55 gp_X10_188 (kfit_i _) (hp_80 _ _ _ _ _) (Nat.le_of_ble_eq_true rfl) (hps_80_13 _ _ _ _ _ _) ?_
          refine wp_iconst (v0 := 0) d_X10_tries_58 rfl ?_
          refine wp_istore [(4, .int (0)), (3, .int (mW2 (m.2.1 81) en cnt pre)), (0, .ref (80)), (1, .int (nI (p))), (2, .int (u))] d_X10_tries_59 (Nat.le_of_ble_eq_true rfl) rfl ?_
          have hU : a.1 < 0 ∨ mW2 (m.2.1 81) en cnt pre < a.1 := by
            first
              | exact Or.inl zc42
              | exact Or.inr (Int32.not_le.mp zc50)
          have hK : mwg (m.2.1 81) en cnt pre wy a = (mW2 (m.2.1 81) en cnt pre, pre, a.2.2 + 0) := by
            unfold mwg
            rw [if_pos hU, if_pos hU, kb_f (Int32.not_le.mpr zc26)]
          rw [show tfw (mwg (m.2.1 81) en cnt) nl 4 wfm 0 pre u wy a = mwg (m.2.1 81) en cnt pre wy a from rfl, hK]
          refine wp_sub [(4, .int (nI 0)), (0, .ref 80), (1, .int (nI p)), (2, .int u), (3, .int (mW2 (m.2.1 81) en cnt pre))] [0, 2, 3, 4, 1] rfl ?_
          have L := s_X10_tries_c (X := X) (d := d + 0 + 4) (c := c) (w := w) (m := m) (v := (setS (setS u1 8014 ((a.2.2) + (0))) 8013 (mW2 (m.2.1 81) en cnt pre))) (E := E) (p := p) (u := u) (mW2 (m.2.1 81) en cnt pre) 4 0 (by omega)
          rw [kov_0] at L
          rw [show setA (setS (setS u1 8014 ((a.2.2) + (0))) 8013 (mW2 (m.2.1 81) en cnt pre)) 89 (((setS (setS u1 8014 ((a.2.2) + (0))) 8013 (mW2 (m.2.1 81) en cnt pre))).2.1 89) = (setS (setS u1 8014 ((a.2.2) + (0))) 8013 (mW2 (m.2.1 81) en cnt pre)) from setA_self _ 89] at L
          refine wp_mono ?_ L
          rintro r1 h1 ⟨rfl, rfl⟩
          refine ⟨rfl, _, rfl, k1, k2, k3, rfl, rfl, fun j9 h9 => ?_⟩
          have h8 : j9 < pre.length := h9
          exact (kov_at (by omega)).trans (k3 j9 h8).2
        · refine wp_iload_n 0 d_X10_tries_45 rfl rfl ?_
          refine wp_aload_n 1 d_X10_tries_46 rfl rfl ?_
          refine wp_getfield (v := .int (a.1)) d_X10_tries_47 gf_X10_188 (hp_80 _ _ _ _ _) (congrArg (fun z => some (Value.int z)) k4) ?_
          refine wp_icmp_ge 87 d_X10_tries_50 rfl (fun zc50 => ?_) (fun zc50 => ?_)
          · refine wp_vret d_X10_tries_87 rfl ?_
            have hU : ¬ (a.1 < 0 ∨ mW2 (m.2.1 81) en cnt pre < a.1) := fun q => q.elim (fun z => zc42 z) (fun z => absurd zc50 (Int32.not_le.mpr z))
            have hK : mwg (m.2.1 81) en cnt pre wy a = (a.1, a.2.1, a.2.2 + 0) := by
              unfold mwg
              rw [if_neg hU, if_neg hU, kb_f (Int32.not_le.mpr zc26)]
            rw [show tfw (mwg (m.2.1 81) en cnt) nl 4 wfm 0 pre u wy a = mwg (m.2.1 81) en cnt pre wy a from rfl, hK]
            exact ⟨rfl, _, rfl, k1, k2, k3, k4, rfl, k6⟩
          · refine wp_aload_n 1 d_X10_tries_53 rfl rfl ?_
            refine wp_iload_n 0 d_X10_tries_54 rfl rfl ?_
            refine wp_putfield (h' := HP c w m (setS (setS u1 8014 ((a.2.2) + (0))) 8013 (mW2 (m.2.1 81) en cnt pre)) E) d_X10_tries_55 gp_X10_188 (kfit_i _) (hp_80 _ _ _ _ _) (Nat.le_of_ble_eq_true rfl) (hps_80_13 _ _ _ _ _ _) ?_
            refine wp_iconst (v0 := 0) d_X10_tries_58 rfl ?_
            refine wp_istore [(4, .int (0)), (3, .int (mW2 (m.2.1 81) en cnt pre)), (0, .ref (80)), (1, .int (nI (p))), (2, .int (u))] d_X10_tries_59 (Nat.le_of_ble_eq_true rfl) rfl ?_
            have hU : a.1 < 0 ∨ mW2 (m.2.1 81) en cnt pre < a.1 := by
              first
                | exact Or.inl zc42
                | exact Or.inr (Int32.not_le.mp zc50)
            have hK : mwg (m.2.1 81) en cnt pre wy a = (mW2 (m.2.1 81) en cnt pre, pre, a.2.2 + 0) := by
              unfold mwg
              rw [if_pos hU, if_pos hU, kb_f (Int32.not_le.mpr zc26)]
            rw [show tfw (mwg (m.2.1 81) en cnt) nl 4 wfm 0 pre u wy a = mwg (m.2.1 81) en cnt pre wy a from rfl, hK]
            refine wp_sub [(4, .int (nI 0)), (0, .ref 80), (1, .int (nI p)), (2, .int u), (3, .int (mW2 (m.2.1 81) en cnt pre))] [0, 2, 3, 4, 1] rfl ?_
            have L := s_X10_tries_c (X := X) (d := d + 0 + 4) (c := c) (w := w) (m := m) (v := (setS (setS u1 8014 ((a.2.2) + (0))) 8013 (mW2 (m.2.1 81) en cnt pre))) (E := E) (p := p) (u := u) (mW2 (m.2.1 81) en cnt pre) 4 0 (by omega)
            rw [kov_0] at L
            rw [show setA (setS (setS u1 8014 ((a.2.2) + (0))) 8013 (mW2 (m.2.1 81) en cnt pre)) 89 (((setS (setS u1 8014 ((a.2.2) + (0))) 8013 (mW2 (m.2.1 81) en cnt pre))).2.1 89) = (setS (setS u1 8014 ((a.2.2) + (0))) 8013 (mW2 (m.2.1 81) en cnt pre)) from setA_self _ 89] at L
            refine wp_mono ?_ L
            rintro r1 h1 ⟨rfl, rfl⟩
            refine ⟨rfl, _, rfl, k1, k2, k3, rfl, rfl, fun j9 h9 => ?_⟩
            have h8 : j9 < pre.length := h9
            exact (kov_at (by omega)).trans (k3 j9 h8).2
      · refine wp_iconst (v0 := 1) d_X10_tries_29 rfl ?_
        refine wp_goto 34 d_X10_tries_30 rfl ?_
        refine wp_iadd d_X10_tries_34 ?_
        refine wp_putfield (h' := HP c w m (setS u1 8014 ((a.2.2) + (1))) E) d_X10_tries_35 gp_X10_185 (kfit_i _) (hp_80 _ _ _ _ _) (Nat.le_of_ble_eq_true rfl) (hps_80_14 _ _ _ _ _ _) ?_
        refine wp_aload_n 1 d_X10_tries_38 rfl rfl ?_
        refine wp_getfield (v := .int (a.1)) d_X10_tries_39 gf_X10_188 (hp_80 _ _ _ _ _) (congrArg (fun z => some (Value.int z)) k4) ?_
        refine wp_if_lt 53 d_X10_tries_42 rfl (fun zc42 => ?_) (fun zc42 => ?_)
        · refine wp_aload_n 1 d_X10_tries_53 rfl rfl ?_
          refine wp_iload_n 0 d_X10_tries_54 rfl rfl ?_
          refine wp_putfield (h' := HP c w m (setS (setS u1 8014 ((a.2.2) + (1))) 8013 (mW2 (m.2.1 81) en cnt pre)) E) d_X10_tries_55 gp_X10_188 (kfit_i _) (hp_80 _ _ _ _ _) (Nat.le_of_ble_eq_true rfl) (hps_80_13 _ _ _ _ _ _) ?_
          refine wp_iconst (v0 := 0) d_X10_tries_58 rfl ?_
          refine wp_istore [(4, .int (0)), (3, .int (mW2 (m.2.1 81) en cnt pre)), (0, .ref (80)), (1, .int (nI (p))), (2, .int (u))] d_X10_tries_59 (Nat.le_of_ble_eq_true rfl) rfl ?_
          have hU : a.1 < 0 ∨ mW2 (m.2.1 81) en cnt pre < a.1 := by
            first
              | exact Or.inl zc42
              | exact Or.inr (Int32.not_le.mp zc50)
          have hK : mwg (m.2.1 81) en cnt pre wy a = (mW2 (m.2.1 81) en cnt pre, pre, a.2.2 + 1) := by
            unfold mwg
            rw [if_pos hU, if_pos hU, kb_t (Int32.not_lt.mp zc26)]
          rw [show tfw (mwg (m.2.1 81) en cnt) nl 4 wfm 0 pre u wy a = mwg (m.2.1 81) en cnt pre wy a from rfl, hK]
          refine wp_sub [(4, .int (nI 0)), (0, .ref 80), (1, .int (nI p)), (2, .int u), (3, .int (mW2 (m.2.1 81) en cnt pre))] [0, 2, 3, 4, 1] rfl ?_
          have L := s_X10_tries_c (X := X) (d := d + 0 + 4) (c := c) (w := w) (m := m) (v := (setS (setS u1 8014 ((a.2.2) + (1))) 8013 (mW2 (m.2.1 81) en cnt pre))) (E := E) (p := p) (u := u) (mW2 (m.2.1 81) en cnt pre) 4 0 (by omega)
          rw [kov_0] at L
          rw [show setA (setS (setS u1 8014 ((a.2.2) + (1))) 8013 (mW2 (m.2.1 81) en cnt pre)) 89 (((setS (setS u1 8014 ((a.2.2) + (1))) 8013 (mW2 (m.2.1 81) en cnt pre))).2.1 89) = (setS (setS u1 8014 ((a.2.2) + (1))) 8013 (mW2 (m.2.1 81) en cnt pre)) from setA_self _ 89] at L
          refine wp_mono ?_ L
          rintro r1 h1 ⟨rfl, rfl⟩
          refine ⟨rfl, _, rfl, k1, k2, k3, rfl, rfl, fun j9 h9 => ?_⟩
          have h8 : j9 < pre.length := h9
          exact (kov_at (by omega)).trans (k3 j9 h8).2
        · refine wp_iload_n 0 d_X10_tries_45 rfl rfl ?_
          refine wp_aload_n 1 d_X10_tries_46 rfl rfl ?_
          refine wp_getfield (v := .int (a.1)) d_X10_tries_47 gf_X10_188 (hp_80 _ _ _ _ _) (congrArg (fun z => some (Value.int z)) k4) ?_
          refine wp_icmp_ge 87 d_X10_tries_50 rfl (fun zc50 => ?_) (fun zc50 => ?_)
          · refine wp_vret d_X10_tries_87 rfl ?_
            have hU : ¬ (a.1 < 0 ∨ mW2 (m.2.1 81) en cnt pre < a.1) := fun q => q.elim (fun z => zc42 z) (fun z => absurd zc50 (Int32.not_le.mpr z))
            have hK : mwg (m.2.1 81) en cnt pre wy a = (a.1, a.2.1, a.2.2 + 1) := by
              unfold mwg
              rw [if_neg hU, if_neg hU, kb_t (Int32.not_lt.mp zc26)]
            rw [show tfw (mwg (m.2.1 81) en cnt) nl 4 wfm 0 pre u wy a = mwg (m.2.1 81) en cnt pre wy a from rfl, hK]
            exact ⟨rfl, _, rfl, k1, k2, k3, k4, rfl, k6⟩
          · refine wp_aload_n 1 d_X10_tries_53 rfl rfl ?_
            refine wp_iload_n 0 d_X10_tries_54 rfl rfl ?_
            refine wp_putfield (h' := HP c w m (setS (setS u1 8014 ((a.2.2) + (1))) 8013 (mW2 (m.2.1 81) en cnt pre)) E) d_X10_tries_55 gp_X10_188 (kfit_i _) (hp_80 _ _ _ _ _) (Nat.le_of_ble_eq_true rfl) (hps_80_13 _ _ _ _ _ _) ?_
            refine wp_iconst (v0 := 0) d_X10_tries_58 rfl ?_
            refine wp_istore [(4, .int (0)), (3, .int (mW2 (m.2.1 81) en cnt pre)), (0, .ref (80)), (1, .int (nI (p))), (2, .int (u))] d_X10_tries_59 (Nat.le_of_ble_eq_true rfl) rfl ?_
            have hU : a.1 < 0 ∨ mW2 (m.2.1 81) en cnt pre < a.1 := by
              first
                | exact Or.inl zc42
                | exact Or.inr (Int32.not_le.mp zc50)
            have hK : mwg (m.2.1 81) en cnt pre wy a = (mW2 (m.2.1 81) en cnt pre, pre, a.2.2 + 1) := by
              unfold mwg
              rw [if_pos hU, if_pos hU, kb_t (Int32.not_lt.mp zc26)]
            rw [show tfw (mwg (m.2.1 81) en cnt) nl 4 wfm 0 pre u wy a = mwg (m.2.1 81) en cnt pre wy a from rfl, hK]
            refine wp_sub [(4, .int (nI 0)), (0, .ref 80), (1, .int (nI p)), (2, .int u), (3, .int (mW2 (m.2.1 81) en cnt pre))] [0, 2, 3, 4, 1] rfl ?_
            have L := s_X10_tries_c (X := X) (d := d + 0 + 4) (c := c) (w := w) (m := m) (v := (setS (setS u1 8014 ((a.2.2) + (1))) 8013 (mW2 (m.2.1 81) en cnt pre))) (E := E) (p := p) (u := u) (mW2 (m.2.1 81) en cnt pre) 4 0 (by omega)
            rw [kov_0] at L
            rw [show setA (setS (setS u1 8014 ((a.2.2) + (1))) 8013 (mW2 (m.2.1 81) en cnt pre)) 89 (((setS (setS u1 8014 ((a.2.2) + (1))) 8013 (mW2 (m.2.1 81) en cnt pre))).2.1 89) = (setS (setS u1 8014 ((a.2.2) + (1))) 8013 (mW2 (m.2.1 81) en cnt pre)) from setA_self _ 89] at L
            refine wp_mono ?_ L
            rintro r1 h1 ⟨rfl, rfl⟩
            refine ⟨rfl, _, rfl, k1, k2, k3, rfl, rfl, fun j9 h9 => ?_⟩
            have h8 : j9 < pre.length := h9
            exact (kov_at (by omega)).trans (k3 j9 h8).2
  | succ kk IHk =>
    intro pre p u wy a v' hp hpk hv hI
    refine wp_iload_n 1 d_X10_tries_0 rfl rfl ?_
    refine wp_aload_n 0 d_X10_tries_1 rfl rfl ?_
    refine wp_getfield (v := .int (nI (N))) d_X10_tries_2 gf_X10_135 (hp_80 _ _ _ _ _) (congrArg (fun z => some (Value.int z)) hI.2.1) ?_
    refine wp_ncmp_ne (a := p) (b := N) 88 d_X10_tries_5 rfl (by omega) (by omega) (fun zc5 => ?_) (fun zc5 => ?_)
    · refine wp_iconst (v0 := 0) d_X10_tries_88 rfl ?_
      refine wp_istore_n [(3, .int (0)), (0, .ref (80)), (1, .int (nI (p))), (2, .int (u))] d_X10_tries_89 rfl (Nat.le_of_ble_eq_true rfl) rfl ?_
      refine wp_sub [(3, .int (0)), (0, .ref (80)), (1, .int (nI (p))), (2, .int (u))] [0, 1, 2, 3] rfl ?_
      exact s_X10_tries_l (v := v) hn hnl hN IHk u hp hpk hv wy nl 0 v' a (by omega) hI rfl
    · exact absurd zc5 (by omega)
abbrev mTs (s : Nat → Int32) (en : Nat → Nat) (cnt n N : Nat) : mAl := tfw (mwg s en cnt) n 4 wfm N [] 0 1 (-1, [], 0)
theorem s_X10_triesAll {X : kX} {d : Nat} {c w m v : kZ} {E : kH} {cnt : Nat} (hs1 : (m.2.1 81) 1 = nI cnt) (hc8 : cnt ≤ 8) {en : Nat → Nat} (hm : mWF (m.2.1 81) cnt en) {n : Nat} (hn : m.2.1 81 0 = nI n) (hn9 : n ≤ 9) {N : Nat} (hN : N ≤ 3) : WP X (d + 9) 0 0 Y_X10_triesAll 0 [(0, .ref (80)), (1, .int (nI (N)))] [] (HP c w m v E) (fun r h1 => r = none ∧ ∃ v1 : kZ, h1 = HP c w m v1 E ∧ mTv (m.2.1 81) en cnt n N [] (mTs (m.2.1 81) en cnt n N) v1) := by
  refine wp_aload_n 0 d_X10_triesAll_0 rfl rfl ?_
  refine wp_virtual0 (As := []) d_X10_triesAll_1 lk_X10_129 mv_X10_findStrengths in_X10_findStrengths se_X10_findStrengths (Nat.le_of_ble_eq_true rfl) (Nat.le_of_ble_eq_true rfl) (hp_80 _ _ _ _ _) rfl (s_X10_findStrengths hs1 hc8 hm hn hn9) (fun v1 h1 q1 => ?_)
  obtain ⟨rfl, v1, rfl, hf1, hst1⟩ := q1
  show WP _ _ _ _ _ 4 _ [] (HP c w m v1 E) _
  refine wp_aload_n 0 d_X10_triesAll_4 rfl rfl ?_
  refine wp_iload_n 1 d_X10_triesAll_5 rfl rfl ?_
  refine wp_putfield (h' := HP c w m (setS v1 8008 (nI (N))) E) d_X10_triesAll_6 gp_X10_135 (kfit_i _) (hp_80 _ _ _ _ _) (Nat.le_of_ble_eq_true rfl) (hps_80_8 _ _ _ _ _ _) ?_
  refine wp_aload_n 0 d_X10_triesAll_9 rfl rfl ?_
  refine wp_iconst (v0 := -1) d_X10_triesAll_10 rfl ?_
  refine wp_putfield (h' := HP c w m (setS (setS v1 8008 (nI (N))) 8013 ((-1))) E) d_X10_triesAll_11 gp_X10_188 (kfit_i _) (hp_80 _ _ _ _ _) (Nat.le_of_ble_eq_true rfl) (hps_80_13 _ _ _ _ _ _) ?_
  refine wp_aload_n 0 d_X10_triesAll_14 rfl rfl ?_
  refine wp_iconst (v0 := 0) d_X10_triesAll_15 rfl ?_
  refine wp_putfield (h' := HP c w m (setS (setS (setS v1 8008 (nI (N))) 8013 ((-1))) 8014 (0)) E) d_X10_triesAll_16 gp_X10_185 (kfit_i _) (hp_80 _ _ _ _ _) (Nat.le_of_ble_eq_true rfl) (hps_80_14 _ _ _ _ _ _) ?_
  refine wp_aload_n 0 d_X10_triesAll_19 rfl rfl ?_
  refine wp_iconst (v0 := 0) d_X10_triesAll_20 rfl ?_
  refine wp_iconst (v0 := 0) d_X10_triesAll_21 rfl ?_
  refine wp_virtual0 (As := [.int (0), .int (0)]) d_X10_triesAll_22 lk_X10_191 mv_X10_tries in_X10_tries se_X10_tries (Nat.le_of_ble_eq_true rfl) (Nat.le_of_ble_eq_true rfl) (hp_80 _ _ _ _ _) rfl (wp_depth (d := 0 + N + 4) (by omega) (s_X10_tries (d := 0) (v := v) (en := en) (cnt := cnt) hn hn9 hN N [] 0 0 1 (-1, [], 0) (setS (setS (setS v1 8008 (nI (N))) 8013 ((-1))) 8014 (0)) rfl (by omega) (fun q9 h9 => absurd h9 (by simp)) ⟨hst1, rfl, fun j9 h9 => absurd h9 (by simp), rfl, rfl, fun j9 h9 => absurd h9 (by simp)⟩)) (fun v22 h22 q22 => ?_)
  obtain ⟨rfl, v2, rfl, hI2⟩ := q22
  show WP _ _ _ _ _ 25 _ [] (HP c w m v2 E) _
  refine wp_vret d_X10_triesAll_25 rfl ?_
  exact ⟨rfl, v2, rfl, hI2⟩
theorem s_X10_least {X : kX} {d : Nat} {c w m v : kZ} {E : kH} {cnt : Nat} (hs1 : (m.2.1 81) 1 = nI cnt) (hc8 : cnt ≤ 8) {en : Nat → Nat} (hm : mWF (m.2.1 81) cnt en) {n : Nat} (hn : m.2.1 81 0 = nI n) (hn9 : n ≤ 9) (x : Int32) : WP X (d + 10) 0 0 Y_X10_least 0 [(0, .ref (80)), (1, .int (x))] [] (HP c w m v E) (fun r h1 => (¬ (1 ≤ x.toInt ∧ x.toInt ≤ 3) ∧ r = some (.int (-1)) ∧ h1 = HP c w m v E) ∨ ∃ N : Nat, 1 ≤ N ∧ N ≤ 3 ∧ x = nI N ∧ r = some (.int (if (mTs (m.2.1 81) en cnt n N).1 < 0 then -3 else (mTs (m.2.1 81) en cnt n N).1)) ∧ ∃ v1 : kZ, h1 = HP c w m v1 E) := by
  refine wp_iload_n 1 d_X10_least_0 rfl rfl ?_
  refine wp_stc_i (As := [.int (x)]) (x0 := kb (1 ≤ (x : Int32).toInt ∧ (x : Int32).toInt ≤ 3)) (h1 := HP c w m v E) d_X10_least_1 lk_X10_194 mv_X10_isMany st_X10_isMany (Nat.le_of_ble_eq_true rfl) (Nat.le_of_ble_eq_true rfl) (s_X10_isMany _ (x : Int32)) ?_
  refine wp_ifb_ne 9 d_X10_least_4 rfl (fun zc4 => ?_) (fun zc4 => ?_)
  · have hN1b := zc4.1
    obtain ⟨N, hN, rfl⟩ := k_natle (n := 3) (x := x) ⟨by omega, zc4.2⟩
    have hN1 : 1 ≤ N := by rw [nI_toInt (by omega)] at hN1b; omega
    refine wp_aload_n 0 d_X10_least_9 rfl rfl ?_
    refine wp_iload_n 1 d_X10_least_10 rfl rfl ?_
    refine wp_virtual0 (As := [.int (nI (N))]) d_X10_least_11 lk_X10_197 mv_X10_triesAll in_X10_triesAll se_X10_triesAll (Nat.le_of_ble_eq_true rfl) (Nat.le_of_ble_eq_true rfl) (hp_80 _ _ _ _ _) rfl (s_X10_triesAll hs1 hc8 hm hn hn9 (N := N) (by omega)) (fun v11 h11 q11 => ?_)
    obtain ⟨rfl, v1, rfl, hI1⟩ := q11
    obtain ⟨-, -, -, k4, k5, k6⟩ := id hI1
    show WP _ _ _ _ _ 14 _ [] (HP c w m v1 E) _
    refine wp_aload_n 0 d_X10_least_14 rfl rfl ?_
    refine wp_getfield (v := .int ((mTs (m.2.1 81) en cnt n N).1)) d_X10_least_15 gf_X10_188 (hp_80 _ _ _ _ _) (congrArg (fun z => some (Value.int z)) k4) ?_
    refine wp_if_ge 26 d_X10_least_18 rfl (fun zc18 => ?_) (fun zc18 => ?_)
    · refine wp_aload_n 0 d_X10_least_26 rfl rfl ?_
      refine wp_getfield (v := .int ((mTs (m.2.1 81) en cnt n N).1)) d_X10_least_27 gf_X10_188 (hp_80 _ _ _ _ _) (congrArg (fun z => some (Value.int z)) k4) ?_
      refine wp_reti d_X10_least_30 rfl ?_
      exact Or.inr ⟨N, hN1, hN, rfl, by rw [if_neg (Int32.not_lt.mpr zc18)], v1, rfl⟩
    · refine wp_bipush (v0 := -3) d_X10_least_21 (by decide) ?_
      refine wp_goto 30 d_X10_least_23 rfl ?_
      refine wp_reti d_X10_least_30 rfl ?_
      exact Or.inr ⟨N, hN1, hN, rfl, by rw [if_pos (Int32.not_le.mp zc18)], v1, rfl⟩
  · refine wp_iconst (v0 := -1) d_X10_least_7 rfl ?_
    refine wp_reti d_X10_least_8 rfl ?_
    exact Or.inl ⟨zc4, rfl, rfl⟩
theorem s_X10_good {X : kX} {d : Nat} {c w m v : kZ} {E : kH} {cnt : Nat} (hs1 : (m.2.1 81) 1 = nI cnt) (hc8 : cnt ≤ 8) {en : Nat → Nat} (hm : mWF (m.2.1 81) cnt en) {n : Nat} (hn : m.2.1 81 0 = nI n) (hn9 : n ≤ 9) (x : Int32) : WP X (d + 10) 0 0 Y_X10_good 0 [(0, .ref (80)), (1, .int (x))] [] (HP c w m v E) (fun r h1 => (¬ (1 ≤ x.toInt ∧ x.toInt ≤ 3) ∧ r = some (.int (-1)) ∧ h1 = HP c w m v E) ∨ ∃ N : Nat, 1 ≤ N ∧ N ≤ 3 ∧ x = nI N ∧ r = some (.int ((mTs (m.2.1 81) en cnt n N).2.2)) ∧ ∃ v1 : kZ, h1 = HP c w m v1 E) := by
  refine wp_iload_n 1 d_X10_good_0 rfl rfl ?_
  refine wp_stc_i (As := [.int (x)]) (x0 := kb (1 ≤ (x : Int32).toInt ∧ (x : Int32).toInt ≤ 3)) (h1 := HP c w m v E) d_X10_good_1 lk_X10_194 mv_X10_isMany st_X10_isMany (Nat.le_of_ble_eq_true rfl) (Nat.le_of_ble_eq_true rfl) (s_X10_isMany _ (x : Int32)) ?_
  refine wp_ifb_ne 9 d_X10_good_4 rfl (fun zc4 => ?_) (fun zc4 => ?_)
  · have hN1b := zc4.1
    obtain ⟨N, hN, rfl⟩ := k_natle (n := 3) (x := x) ⟨by omega, zc4.2⟩
    have hN1 : 1 ≤ N := by rw [nI_toInt (by omega)] at hN1b; omega
    refine wp_aload_n 0 d_X10_good_9 rfl rfl ?_
    refine wp_iload_n 1 d_X10_good_10 rfl rfl ?_
    refine wp_virtual0 (As := [.int (nI (N))]) d_X10_good_11 lk_X10_197 mv_X10_triesAll in_X10_triesAll se_X10_triesAll (Nat.le_of_ble_eq_true rfl) (Nat.le_of_ble_eq_true rfl) (hp_80 _ _ _ _ _) rfl (s_X10_triesAll hs1 hc8 hm hn hn9 (N := N) (by omega)) (fun v11 h11 q11 => ?_)
    obtain ⟨rfl, v1, rfl, hI1⟩ := q11
    obtain ⟨-, -, -, k4, k5, k6⟩ := id hI1
    show WP _ _ _ _ _ 14 _ [] (HP c w m v1 E) _
    refine wp_aload_n 0 d_X10_good_14 rfl rfl ?_
    refine wp_getfield (v := .int ((mTs (m.2.1 81) en cnt n N).2.2)) d_X10_good_15 gf_X10_185 (hp_80 _ _ _ _ _) (congrArg (fun z => some (Value.int z)) k5) ?_
    refine wp_reti d_X10_good_18 rfl ?_
    exact Or.inr ⟨N, hN1, hN, rfl, rfl, v1, rfl⟩
  · refine wp_iconst (v0 := -1) d_X10_good_7 rfl ?_
    refine wp_reti d_X10_good_8 rfl ?_
    exact Or.inl ⟨zc4, rfl, rfl⟩
theorem s_X10_pick {X : kX} {d : Nat} {c w m v : kZ} {E : kH} {cnt : Nat} (hs1 : (m.2.1 81) 1 = nI cnt) (hc8 : cnt ≤ 8) {en : Nat → Nat} (hm : mWF (m.2.1 81) cnt en) {n : Nat} (hn : m.2.1 81 0 = nI n) (hn9 : n ≤ 9) (x y : Int32) : WP X (d + 10) 0 0 Y_X10_pick 0 [(0, .ref (80)), (1, .int (x)), (2, .int (y))] [] (HP c w m v E) (fun r h1 => (¬ ((1 ≤ x.toInt ∧ x.toInt ≤ 3) ∧ 0 ≤ y.toInt ∧ y.toInt < x.toInt) ∧ r = some (.int (-1)) ∧ h1 = HP c w m v E) ∨ ∃ N i : Nat, 1 ≤ N ∧ N ≤ 3 ∧ x = nI N ∧ i < N ∧ y = nI i ∧ ∃ v1 : kZ, mTv (m.2.1 81) en cnt n N [] (mTs (m.2.1 81) en cnt n N) v1 ∧ r = some (.int (if (mTs (m.2.1 81) en cnt n N).1 < 0 then -3 else v1.2.1 89 i)) ∧ h1 = HP c w m v1 E) := by
  refine wp_iload_n 1 d_X10_pick_0 rfl rfl ?_
  refine wp_stc_i (As := [.int (x)]) (x0 := kb (1 ≤ (x : Int32).toInt ∧ (x : Int32).toInt ≤ 3)) (h1 := HP c w m v E) d_X10_pick_1 lk_X10_194 mv_X10_isMany st_X10_isMany (Nat.le_of_ble_eq_true rfl) (Nat.le_of_ble_eq_true rfl) (s_X10_isMany _ (x : Int32)) ?_
  refine wp_ifb_eq 20 d_X10_pick_4 rfl (fun zc4 => ?_) (fun zc4 => ?_)
  · refine wp_iconst (v0 := -1) d_X10_pick_20 rfl ?_
    refine wp_reti d_X10_pick_21 rfl ?_
    refine Or.inl ⟨?_, rfl, rfl⟩
    rintro ⟨q1, q2, q3⟩
    first
    | exact zc4 q1
    | exact zc17 ⟨by simpa using q2, by rw [show nI (N - 1) = nI N - 1 from (pk_sub (a := N) (b := 1) (by omega)).symm, kn_pred (by omega)]; rw [nI_toInt (by omega)] at q3; omega⟩
  · have hN1b := zc4.1
    obtain ⟨N, hN, rfl⟩ := k_natle (n := 3) (x := x) ⟨by omega, zc4.2⟩
    have hN1 : 1 ≤ N := by rw [nI_toInt (by omega)] at hN1b; omega
    refine wp_iload_n 2 d_X10_pick_7 rfl rfl ?_
    refine wp_i2l d_X10_pick_8 ?_
    refine wp_lconst (v0 := 0) d_X10_pick_9 rfl ?_
    refine wp_iload_n 1 d_X10_pick_10 rfl rfl ?_
    refine wp_iconst (v0 := 1) d_X10_pick_11 rfl ?_
    refine wp_isub d_X10_pick_12 ?_
    refine wp_v (v0 := nI ((N) - (1))) (pk_sub (a := N) (b := 1) (by omega)) ?_
    refine wp_i2l d_X10_pick_13 ?_
    refine wp_stc_i (As := [.long (Int32.toInt64 (y)), .long (0), .long (Int32.toInt64 (nI ((N) - (1))))]) (x0 := kb (0 ≤ (y : Int32).toInt ∧ (y : Int32).toInt ≤ (nI ((N) - (1)) : Int32).toInt)) (h1 := HP c w m v E) d_X10_pick_14 lk_X10_74 mv_X10_in st_X10_in (Nat.le_of_ble_eq_true rfl) (Nat.le_of_ble_eq_true rfl) (s_X10_in_j _ (y) (0) (nI ((N) - (1)))) ?_
    refine wp_ifb_ne 22 d_X10_pick_17 rfl (fun zc17 => ?_) (fun zc17 => ?_)
    · have c17b : 0 ≤ y.toInt ∧ y.toInt < (N : Int) := by
        have q9 := zc17
        rw [show nI (N - 1) = nI N - 1 from (pk_sub (a := N) (b := 1) (by omega)).symm, kn_pred (by omega)] at q9
        exact ⟨by simpa using q9.1, by omega⟩
      obtain ⟨i, hi, rfl⟩ := k_nat c17b
      refine wp_aload_n 0 d_X10_pick_22 rfl rfl ?_
      refine wp_iload_n 1 d_X10_pick_23 rfl rfl ?_
      refine wp_virtual0 (As := [.int (nI (N))]) d_X10_pick_24 lk_X10_197 mv_X10_triesAll in_X10_triesAll se_X10_triesAll (Nat.le_of_ble_eq_true rfl) (Nat.le_of_ble_eq_true rfl) (hp_80 _ _ _ _ _) rfl (s_X10_triesAll hs1 hc8 hm hn hn9 (N := N) (by omega)) (fun v24 h24 q24 => ?_)
      obtain ⟨rfl, v1, rfl, hI1⟩ := q24
      obtain ⟨-, -, -, k4, k5, k6⟩ := id hI1
      show WP _ _ _ _ _ 27 _ [] (HP c w m v1 E) _
      refine wp_aload_n 0 d_X10_pick_27 rfl rfl ?_
      refine wp_getfield (v := .int ((mTs (m.2.1 81) en cnt n N).1)) d_X10_pick_28 gf_X10_188 (hp_80 _ _ _ _ _) (congrArg (fun z => some (Value.int z)) k4) ?_
      refine wp_if_ge 39 d_X10_pick_31 rfl (fun zc31 => ?_) (fun zc31 => ?_)
      · refine wp_aload_n 0 d_X10_pick_39 rfl rfl ?_
        refine wp_getfield (v := .ref (89)) d_X10_pick_40 gf_X10_34 (hp_80 _ _ _ _ _) rfl ?_
        refine wp_iload_n 2 d_X10_pick_43 rfl rfl ?_
        refine wp_iaload (v := (v1.2.1 89) (i)) d_X10_pick_44 (hp_89 _ _ _ _ _) (vp_in_nI (by omega) (by omega)) (congrArg ((v1.2.1 89)) (nI_clamp (by omega))) ?_
        refine wp_reti d_X10_pick_45 rfl ?_
        exact Or.inr ⟨N, i, hN1, hN, rfl, hi, rfl, v1, hI1, by rw [if_neg (Int32.not_lt.mpr zc31)], rfl⟩
      · refine wp_bipush (v0 := -3) d_X10_pick_34 (by decide) ?_
        refine wp_goto 45 d_X10_pick_36 rfl ?_
        refine wp_reti d_X10_pick_45 rfl ?_
        exact Or.inr ⟨N, i, hN1, hN, rfl, hi, rfl, v1, hI1, by rw [if_pos (Int32.not_le.mp zc31)], rfl⟩
    · refine wp_iconst (v0 := -1) d_X10_pick_20 rfl ?_
      refine wp_reti d_X10_pick_21 rfl ?_
      refine Or.inl ⟨?_, rfl, rfl⟩
      rintro ⟨q1, q2, q3⟩
      first
      | exact zc4 q1
      | exact zc17 ⟨by simpa using q2, by rw [show nI (N - 1) = nI N - 1 from (pk_sub (a := N) (b := 1) (by omega)).symm, kn_pred (by omega)]; rw [nI_toInt (by omega)] at q3; omega⟩
