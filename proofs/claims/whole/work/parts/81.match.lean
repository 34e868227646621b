/-! ===== a match: the search and the table ===== -/
theorem kclr_b (S a i : Nat) (hS : S < 512) (ha : a < 9) (hi : i < 9) : (kclr S a).testBit i = (S.testBit i && decide (i ≠ a)) := (by decide +kernel : ∀ s : Fin 512, ∀ a i : Fin 9, (kclr s.1 a.1).testBit i.1 = (s.1.testBit i.1 && decide (i.1 ≠ a.1))) ⟨S, hS⟩ ⟨a, ha⟩ ⟨i, hi⟩
def cb9 (S : Nat) : Nat → Nat
  | 0 => 0
  | k + 1 => cb9 S k + (if S.testBit k = true then 1 else 0)
theorem cb9_lo {S l : Nat} (h : ∀ i, i < l → S.testBit i = false) : ∀ k, cb9 S k ≤ k - l
  | 0 => Nat.zero_le _
  | k + 1 => by
    have ih := cb9_lo h k
    simp only [cb9]
    by_cases q : k < l
    · rw [h k q, if_neg (by decide)]
      omega
    · split <;> omega
theorem cb9_clr {S a : Nat} (hS : S < 512) (ha : a < 9) (hb : S.testBit a = true) : ∀ k, k ≤ 9 → cb9 (kclr S a) k + (if a < k then 1 else 0) = cb9 S k
  | 0, _ => rfl
  | k + 1, hk => by
    have ih := cb9_clr hS ha hb k (by omega)
    simp only [cb9]
    rw [kclr_b S a k hS ha (by omega)]
    by_cases e : k = a
    · subst e
      rw [hb]
      rw [if_neg (by omega)] at ih
      rw [if_pos (by omega : k < k + 1)]
      simp
      omega
    · rw [decide_eq_true e, Bool.and_true]
      by_cases q : a < k
      · rw [if_pos q] at ih
        rw [if_pos (by omega : a < k + 1)]
        omega
      · rw [if_neg q] at ih
        rw [if_neg (by omega : ¬ a < k + 1)]
        omega
abbrev Gm (g : Nat → Int32) (S : Nat) : Nat := (g S).toNatClampNeg
abbrev vld (ap : Nat → Int32) (a rest b : Nat) : Prop := rest.testBit b = true ∧ ap (9 * a + b) ≠ 0
theorem msb_max {ap g : Nat → Int32} {a rest n : Nat} (hg : ∀ b, b < n → vld ap a rest b → g (kclr rest b) = nI (Gm g (kclr rest b)) ∧ Gm g (kclr rest b) ≤ 9) : ∀ k b m0, b + k = n → m0 ≤ 10 → ∃ R, msb ap g a rest k b (nI m0) = nI R ∧ m0 ≤ R ∧ R ≤ 10 ∧ (∀ i, b ≤ i → i < n → vld ap a rest i → 1 + Gm g (kclr rest i) ≤ R) ∧ (R = m0 ∨ ∃ i, b ≤ i ∧ i < n ∧ vld ap a rest i ∧ R = 1 + Gm g (kclr rest i))
  | 0, b, m0, hb, hm => ⟨m0, rfl, Nat.le_refl _, hm, fun i h1 h2 => absurd h2 (by omega), Or.inl rfl⟩
  | k + 1, b, m0, hb, hm => by
    simp only [msb]
    by_cases q : vld ap a rest b
    · rw [if_pos q]
      obtain ⟨e1, e2⟩ := hg b (by omega) q
      have e3 : 1 + g (kclr rest b) = nI (1 + Gm g (kclr rest b)) := by
        rw [e1]
        exact nI_add 1 _
      rw [e3]
      generalize hy : 1 + Gm g (kclr rest b) = y
      have hc : (nI m0 < nI y) ↔ m0 < y := by
        rw [Int32.lt_iff_toInt_lt, nI_toInt (by omega), nI_toInt (by omega)]
        omega
      by_cases z : m0 < y
      · rw [if_pos (hc.mpr z)]
        obtain ⟨R, r1, r2, r3, r4, r5⟩ := msb_max hg k (b + 1) y (by omega) (by omega)
        refine ⟨R, r1, by omega, r3, fun i h1 h2 h3 => ?_, ?_⟩
        · by_cases e : i = b
          · subst e
            omega
          · exact r4 i (by omega) h2 h3
        · rcases r5 with r5 | ⟨i, h1, h2, h3, h4⟩
          · exact Or.inr ⟨b, by omega, by omega, q, by omega⟩
          · exact Or.inr ⟨i, by omega, h2, h3, h4⟩
      · rw [if_neg (fun w => z (hc.mp w))]
        obtain ⟨R, r1, r2, r3, r4, r5⟩ := msb_max hg k (b + 1) m0 (by omega) hm
        refine ⟨R, r1, r2, r3, fun i h1 h2 h3 => ?_, ?_⟩
        · by_cases e : i = b
          · subst e
            omega
          · exact r4 i (by omega) h2 h3
        · rcases r5 with r5 | ⟨i, h1, h2, h3, h4⟩
          · exact Or.inl r5
          · exact Or.inr ⟨i, by omega, h2, h3, h4⟩
    · rw [if_neg q]
      obtain ⟨R, r1, r2, r3, r4, r5⟩ := msb_max hg k (b + 1) m0 (by omega) hm
      refine ⟨R, r1, r2, r3, fun i h1 h2 h3 => ?_, ?_⟩
      · by_cases e : i = b
        · subst e
          exact absurd h3 q
        · exact r4 i (by omega) h2 h3
      · rcases r5 with r5 | ⟨i, h1, h2, h3, h4⟩
        · exact Or.inl r5
        · exact Or.inr ⟨i, by omega, h2, h3, h4⟩
theorem klw_eq {S n l : Nat} (hl : l < n) (hb : S.testBit l = true) (h : ∀ i, i < l → S.testBit i = false) : klw S n 0 = l := by
  obtain ⟨h1, h2, h3, h4⟩ := klw_ok (S := S) (n := n) n 0 (by omega) ⟨l, by omega, hl, hb⟩
  by_cases q : klw S n 0 < l
  · rw [h _ q] at h3
    cases h3
  · by_cases q2 : l < klw S n 0
    · rw [h4 l (by omega) q2] at hb
      cases hb
    · omega
/-- what the table tells of a set with lowest bit l -/
def gStep (ap g : Nat → Int32) (n S l : Nat) : Prop := Gm g (kclr S l) ≤ Gm g S ∧ (∀ b, l < b → b < n → vld ap l (kclr S l) b → 1 + Gm g (kclr (kclr S l) b) ≤ Gm g S) ∧ (Gm g S = Gm g (kclr S l) ∨ ∃ b, l < b ∧ b < n ∧ vld ap l (kclr S l) b ∧ Gm g S = 1 + Gm g (kclr (kclr S l) b))
theorem mG_ok {ap g : Nat → Int32} {n : Nat} (hn : n ≤ 9) (hG : mG ap g n (2 ^ n)) : ∀ S, S < 2 ^ n → (g S = nI (Gm g S) ∧ 2 * Gm g S ≤ cb9 S n) ∧ ∀ l, l < n → S.testBit l = true → (∀ i, i < l → S.testBit i = false) → gStep ap g n S l := by
  intro S
  induction S using Nat.strongRecOn with
  | ind S ih =>
    intro hS
    have h512 := (k2n_b n hn).1
    by_cases h0 : S = 0
    · subst h0
      rw [show Gm g 0 = 0 by unfold Gm; rw [hG.1]; rfl]
      refine ⟨⟨hG.1, Nat.zero_le _⟩, fun l _ hb _ => ?_⟩
      rw [Nat.zero_testBit] at hb
      cases hb
    · obtain ⟨j, -, hj, hjb⟩ := kbit_ex (S := S) (n := n) (by omega) hS
      obtain ⟨k1, -, k3, k4⟩ := klw_ok (S := S) (n := n) n 0 (by omega) ⟨j, by omega, hj, hjb⟩
      have hgS := hG.2 S (by omega) hS
      unfold mst1 at hgS
      generalize klw S n 0 = a at k1 k3 k4 hgS
      have hr : kclr S a < S := kclr_lt k3
      obtain ⟨⟨r1, r2⟩, -⟩ := ih (kclr S a) hr (by omega)
      have c1 := cb9_clr (by omega) (by omega) k3 n hn
      rw [if_pos k1] at c1
      have cS := cb9_lo (S := S) (l := 0) (fun i hi => absurd hi (by omega)) n
      have hsub : ∀ b, b < n → vld ap a (kclr S a) b → (g (kclr (kclr S a) b) = nI (Gm g (kclr (kclr S a) b)) ∧ 2 * Gm g (kclr (kclr S a) b) ≤ cb9 (kclr (kclr S a) b) n) ∧ cb9 (kclr (kclr S a) b) n + 2 = cb9 S n := fun b hb hv => by
        have hlt := kclr_lt hv.1
        obtain ⟨s1, -⟩ := ih (kclr (kclr S a) b) (by omega) (by omega)
        have c2 := cb9_clr (S := kclr S a) (by omega) (by omega) hv.1 n hn
        rw [if_pos hb] at c2
        exact ⟨s1, by omega⟩
      rw [r1] at hgS
      obtain ⟨R, q1, q2, q3, q4, q5⟩ := msb_max (ap := ap) (g := g) (a := a) (rest := kclr S a) (n := n) (fun b hb hv => ⟨(hsub b hb hv).1.1, by have := (hsub b hb hv); omega⟩) (n - (a + 1)) (a + 1) (Gm g (kclr S a)) (by omega) (by omega)
      rw [q1] at hgS
      have hR : Gm g S = R := by
        unfold Gm
        rw [hgS]
        exact nI_clamp (by omega)
      refine ⟨⟨by rw [hR]; exact hgS, ?_⟩, fun l hl hb hlow => ?_⟩
      · rw [hR]
        rcases q5 with q5 | ⟨i, i1, i2, i3, i4⟩
        · omega
        · have := hsub i i2 i3
          omega
      · have hla : l = a := by
          by_cases q : l < a
          · rw [k4 l (by omega) q] at hb
            cases hb
          · by_cases q2 : a < l
            · rw [hlow a q2] at k3
              cases k3
            · omega
        subst hla
        unfold gStep
        rw [hR]
        refine ⟨q2, fun b b1 b2 b3 => q4 b (by omega) b2 b3, ?_⟩
        rcases q5 with q5 | ⟨i, i1, i2, i3, i4⟩
        · exact Or.inl q5
        · exact Or.inr ⟨i, by omega, i2, i3, i4⟩
/-- the greedy match, written down -/
def mcp (ap g : Nat → Int32) (n : Nat) : Nat → Nat → Nat → (Nat → Int32) → (Nat → Int32)
  | 0, _, _, f => f
  | k + 1, a, S, f => if S.testBit a = true then (match mwd ap g a (kclr S a) S (n - (a + 1)) none with
      | none => mcp ap g n k (a + 1) (kclr S a) f
      | some b => mcp ap g n k (a + 1) (kclr (kclr S a) b) (upd (upd f a (nI b)) b (nI a)))
    else mcp ap g n k (a + 1) S f
theorem mcp_mmt {ap g : Nat → Int32} {n lq : Nat} : ∀ k a S f, a + k = n → mcp ap g n k a S f lq = mmt ap g n lq k a S (f lq)
  | 0, _, _, _, _ => rfl
  | k + 1, a, S, f, ha => by
    simp only [mcp, mmt]
    by_cases q : S.testBit a = true
    · rw [if_pos q, if_pos q]
      cases h : mwd ap g a (kclr S a) S (n - (a + 1)) none with
      | none => exact mcp_mmt k (a + 1) _ f (by omega)
      | some b =>
        have hab := mwd_lt (ap := ap) (g := g) (a := a) (rest := kclr S a) (S := S) (n := n) (n - (a + 1)) none (by omega) (fun b h => by cases h) b h
        show mcp ap g n k (a + 1) (kclr (kclr S a) b) (upd (upd f a (nI b)) b (nI a)) lq = mmt ap g n lq k (a + 1) (kclr (kclr S a) b) (if a = lq then nI b else if b = lq then nI a else f lq)
        rw [mcp_mmt k (a + 1) _ _ (by omega)]
        congr 1
        by_cases e1 : b = lq
        · subst e1
          rw [upd_s, if_neg (by omega), if_pos rfl]
        · rw [upd_n _ _ (fun z => e1 z.symm), if_neg e1]
          by_cases e2 : a = lq
          · subst e2
            rw [upd_s, if_pos rfl]
          · rw [upd_n _ _ (fun z => e2 z.symm), if_neg e2]
    · rw [if_neg q, if_neg q]
      exact mcp_mmt k (a + 1) S f (by omega)
theorem mwd_some {ap g : Nat → Int32} {a rest S b0 : Nat} (h1 : a < b0) (h3 : mcd ap g a rest S b0) (h4 : ∀ i, a < i → i < b0 → ¬ mcd ap g a rest S i) : ∀ k wi, (b0 ≤ a + k → mwd ap g a rest S k wi = some b0) ∧ (a + k < b0 → wi = some b0 → mwd ap g a rest S k wi = some b0)
  | 0, wi => ⟨fun h => absurd h (by omega), fun _ h => h⟩
  | k + 1, wi => by
    simp only [mwd]
    constructor
    · intro h
      by_cases e : b0 = a + k + 1
      · subst e
        rw [if_pos h3]
        exact (mwd_some h1 h3 h4 k (some (a + k + 1))).2 (by omega) rfl
      · exact (mwd_some h1 h3 h4 k _).1 (by omega)
    · intro h hw
      rw [if_neg (h4 (a + k + 1) (by omega) (by omega))]
      exact (mwd_some h1 h3 h4 k wi).2 (by omega) hw
theorem mwd_none {ap g : Nat → Int32} {a rest S : Nat} : ∀ k wi, (∀ i, a < i → i ≤ a + k → ¬ mcd ap g a rest S i) → mwd ap g a rest S k wi = wi
  | 0, _, _ => rfl
  | k + 1, wi, h => by
    simp only [mwd]
    rw [if_neg (h (a + k + 1) (by omega) (by omega))]
    exact mwd_none k wi (fun i a b => h i a (by omega))
/-- the best of the options in their order -/
theorem fold_best {n V : Nat} {val : Nat → Prop} [DecidablePred val] {v : Nat → Nat} {c : Nat → (Nat → Int32)} {step : kMs → Nat → kMs} (hV : V ≤ 30) (hv : ∀ i, i < n → val i → v i ≤ V) (hs : ∀ (s : kMs) i, i < n → -1 ≤ s.1.toInt → s.1.toInt ≤ 30 → step s i = if val i then (if ((v i : Nat) : Int) ≤ s.1.toInt then s else (nI (v i), c i)) else s) : ∀ k b (s : kMs), b + k = n → -1 ≤ s.1.toInt → s.1.toInt ≤ 30 → ((V : Int) ≤ s.1.toInt → (List.range' b k).foldl step s = s) ∧ (s.1.toInt < (V : Int) → (∀ b0, b ≤ b0 → b0 < n → val b0 → v b0 = V → (∀ i, b ≤ i → i < b0 → ¬ (val i ∧ v i = V)) → (List.range' b k).foldl step s = (nI V, c b0)) ∧ ((∀ i, b ≤ i → i < n → ¬ (val i ∧ v i = V)) → -1 ≤ ((List.range' b k).foldl step s).1.toInt ∧ ((List.range' b k).foldl step s).1.toInt < (V : Int)))
  | 0, b, s, hb, h1, h2 => ⟨fun _ => rfl, fun h => ⟨fun b0 a1 a2 => absurd a2 (by omega), fun _ => ⟨h1, h⟩⟩⟩
  | k + 1, b, s, hb, h1, h2 => by
    rw [List.range'_succ, List.foldl_cons, hs s b (by omega) h1 h2]
    by_cases q : val b
    · rw [if_pos q]
      have hvb := hv b (by omega) q
      by_cases z : ((v b : Nat) : Int) ≤ s.1.toInt
      · rw [if_pos z]
        obtain ⟨i1, i2⟩ := fold_best hV hv hs k (b + 1) s (by omega) h1 h2
        refine ⟨i1, fun h => ?_⟩
        obtain ⟨i3, i4⟩ := i2 h
        refine ⟨fun b0 a1 a2 a3 a4 a5 => ?_, fun a => i4 (fun i b1 b2 => a i (by omega) b2)⟩
        have : b0 ≠ b := fun e => by
          subst e
          omega
        exact i3 b0 (by omega) a2 a3 a4 (fun i b1 b2 => a5 i (by omega) b2)
      · rw [if_neg z]
        have ht : (nI (v b)).toInt = (v b : Int) := nI_toInt (by omega)
        obtain ⟨i1, i2⟩ := fold_best hV hv hs k (b + 1) (nI (v b), c b) (by omega) (by show -1 ≤ (nI (v b)).toInt; omega) (by show (nI (v b)).toInt ≤ 30; omega)
        refine ⟨fun h => by omega, fun h => ⟨fun b0 a1 a2 a3 a4 a5 => ?_, fun a => ?_⟩⟩
        · by_cases e : b0 = b
          · subst e
            rw [i1 (by show (V : Int) ≤ (nI (v b0)).toInt; omega), a4]
          · have hne : v b ≠ V := fun e2 => a5 b (by omega) (by omega) ⟨q, e2⟩
            exact (i2 (by show (nI (v b)).toInt < (V : Int); omega)).1 b0 (by omega) a2 a3 a4 (fun i b1 b2 => a5 i (by omega) b2)
        · have hne : v b ≠ V := fun e2 => a b (by omega) (by omega) ⟨q, e2⟩
          exact (i2 (by show (nI (v b)).toInt < (V : Int); omega)).2 (fun i b1 b2 => a i (by omega) b2)
    · rw [if_neg q]
      obtain ⟨i1, i2⟩ := fold_best hV hv hs k (b + 1) s (by omega) h1 h2
      refine ⟨i1, fun h => ?_⟩
      obtain ⟨i3, i4⟩ := i2 h
      refine ⟨fun b0 a1 a2 a3 a4 a5 => ?_, fun a => i4 (fun i b1 b2 => a i (by omega) b2)⟩
      have : b0 ≠ b := fun e => q (e ▸ a3)
      exact i3 b0 (by omega) a2 a3 a4 (fun i b1 b2 => a5 i (by omega) b2)
theorem nI_n3 (j : Nat) (h : j < 100) : nI j ≠ -3 := fun e => by
  have := nI_toInt (n := j) (by omega)
  rw [e] at this
  have z : (-3 : Int32).toInt = -3 := rfl
  omega
theorem kpf_eq {ap g P : Nat → Int32} {n : Nat} (hn : n ≤ 9) (hG : mG ap g n (2 ^ n)) {Pl : Nat → Nat → Int32} (hPl : Pl = fun l m => P l >>> (nI m &&& 31) &&& 1) (hP : ∀ l m, l < m → m < n → (P l >>> (nI m &&& 31) &&& 1 = 0 ↔ ap (9 * l + m) = 0)) : ∀ k l S f pr (s : kMs), l + k = n → S < 2 ^ n → (∀ i, i < l → S.testBit i = false) → (∀ i, l ≤ i → i < n → (S.testBit i = true ↔ f i = -3)) → pr ≤ l → -1 ≤ s.1.toInt → s.1.toInt ≤ 30 → kpf P n k l pr f s = if ((pr + Gm g S : Nat) : Int) ≤ s.1.toInt then s else (nI (pr + Gm g S), mcp ap g n k l S f)
  | 0, l, S, f, pr, s, hl, hS, hlow, hf, hpr, h1, h2 => by
    have h0 : S = 0 := Decidable.byContradiction (fun z => by
      obtain ⟨j, -, hj, hjb⟩ := kbit_ex (S := S) (n := n) (by omega) hS
      rw [hlow j (by omega)] at hjb
      cases hjb)
    subst h0
    rw [show Gm g 0 = 0 by unfold Gm; rw [hG.1]; rfl, Nat.add_zero]
    have ht : (nI pr).toInt = (pr : Int) := nI_toInt (by omega)
    simp only [kpf, mcp]
    by_cases q : nI pr ≤ s.1
    · rw [if_pos q, if_pos (by have := Int32.le_iff_toInt_le.mp q; omega)]
    · rw [if_neg q, if_neg (fun z => q (Int32.le_iff_toInt_le.mpr (by omega)))]
  | k + 1, l, S, f, pr, s, hl, hS, hlow, hf, hpr, h1, h2 => by
    have h512 := (k2n_b n hn).1
    obtain ⟨⟨g1, g2⟩, g3⟩ := mG_ok hn hG S hS
    have hcb := cb9_lo hlow n
    simp only [kpf]
    have ep : nI pr + nI (n - l) / 2 = nI (pr + (n - l) / 2) := by
      rw [show (2 : Int32) = nI 2 from rfl, pk_div (by omega) (by omega) (by omega), nI_add]
    rw [ep]
    have ht : (nI (pr + (n - l) / 2)).toInt = ((pr + (n - l) / 2 : Nat) : Int) := nI_toInt (by omega)
    by_cases q : nI (pr + (n - l) / 2) ≤ s.1
    · rw [if_pos q, if_pos (by have := Int32.le_iff_toInt_le.mp q; omega)]
    · rw [if_neg q]
      by_cases e : f l = -3
      · have hb : S.testBit l = true := (hf l (by omega) (by omega)).mpr e
        have hst := g3 l (by omega) hb hlow
        have hrl : kclr S l < S := kclr_lt hb
        have hrb : ∀ i, i < 9 → (kclr S l).testBit i = (S.testBit i && decide (i ≠ l)) := fun i hi => kclr_b S l i (by omega) (by omega) hi
        rw [if_pos e]
        have hms : mcp ap g n (k + 1) l S f = (match mwd ap g l (kclr S l) S (n - (l + 1)) none with
            | none => mcp ap g n k (l + 1) (kclr S l) f
            | some b => mcp ap g n k (l + 1) (kclr (kclr S l) b) (upd (upd f l (nI b)) b (nI l))) := by
          simp only [mcp]
          rw [if_pos hb]
        have hGr := (mG_ok hn hG (kclr S l) (by omega)).1
        have hcr := cb9_clr (by omega) (by omega) hb n hn
        rw [if_pos (by omega : l < n)] at hcr
        have hG9 : Gm g S ≤ 9 := by omega
        have hmcd : ∀ b, l < b → b < n → (mcd ap g l (kclr S l) S b ↔ (vld ap l (kclr S l) b ∧ pr + 1 + Gm g (kclr (kclr S l) b) = pr + Gm g S)) := fun b b1 b2 => by
          constructor
          · rintro ⟨m1, m2, m3⟩
            refine ⟨⟨m1, m2⟩, ?_⟩
            have hlt := kclr_lt m1
            have h9 := (mG_ok hn hG (kclr (kclr S l) b) (by omega)).1
            have hcc := cb9_lo (S := kclr (kclr S l) b) (l := 0) (fun i hi => absurd hi (by omega)) n
            rw [h9.1, g1, show (1 : Int32) = nI 1 from rfl, nI_add] at m3
            have := nI_ij (by omega) (by omega) m3
            omega
          · rintro ⟨⟨m1, m2⟩, m3⟩
            refine ⟨m1, m2, ?_⟩
            have hlt := kclr_lt m1
            have h9 := (mG_ok hn hG (kclr (kclr S l) b) (by omega)).1
            rw [h9.1, g1, show (1 : Int32) = nI 1 from rfl, nI_add]
            exact congrArg nI (by omega)
        have hFB := fold_best (n := n) (V := pr + Gm g S) (val := fun m => l < m ∧ vld ap l (kclr S l) m) (v := fun m => pr + 1 + Gm g (kclr (kclr S l) m)) (c := fun m => mcp ap g n k (l + 1) (kclr (kclr S l) m) (upd (upd f l (nI m)) m (nI l))) (step := fun s mm => if l < mm then (if f mm ≠ -3 ∨ P l >>> (nI mm &&& 31) &&& 1 = 0 then s else kpf P n k (l + 1) (pr + 1) (upd (upd f l (nI mm)) mm (nI l)) s) else s) (by omega) (fun i hi hv => by have := hst.2.1 i hv.1 hi hv.2; omega) (fun s2 i hi a1 a2 => by
          by_cases hli : l < i
          · have hvi : (f i ≠ -3 ∨ P l >>> (nI i &&& 31) &&& 1 = 0) ↔ ¬ (l < i ∧ vld ap l (kclr S l) i) := by
              show (¬ f i = -3 ∨ _) ↔ _
              rw [hP l i hli hi, ← hf i (by omega) hi]
              have hx := hrb i (by omega)
              rw [decide_eq_true (by omega : i ≠ l), Bool.and_true] at hx
              unfold vld
              rw [hx]
              constructor
              · rintro (z | z) ⟨-, y1, y2⟩
                · exact z y1
                · exact y2 z
              · intro z
                by_cases y1 : S.testBit i = true
                · by_cases y2 : ap (9 * l + i) = 0
                  · exact Or.inr y2
                  · exact absurd ⟨hli, y1, y2⟩ z
                · exact Or.inl y1
            rw [if_pos hli]
            by_cases hv : l < i ∧ vld ap l (kclr S l) i
            · rw [if_neg (fun z => hvi.mp z hv), if_pos hv]
              have hlt := kclr_lt hv.2.1
              refine kpf_eq hn hG hPl hP k (l + 1) (kclr (kclr S l) i) _ (pr + 1) s2 (by omega) (by omega) (fun x hx => ?_) (fun x x1 x2 => ?_) (by omega) a1 a2
              · rw [kclr_b (kclr S l) i x (by omega) (by omega) (by omega), hrb x (by omega)]
                by_cases y : x = l
                · subst y
                  simp
                · rw [hlow x (by omega)]
                  rfl
              · rw [kclr_b (kclr S l) i x (by omega) (by omega) (by omega), hrb x (by omega), decide_eq_true (by omega : x ≠ l), Bool.and_true]
                by_cases y : x = i
                · subst y
                  rw [upd_s]
                  refine ⟨fun z => ?_, fun z => absurd z (nI_n3 l (by omega))⟩
                  rw [decide_eq_false (fun y => y rfl), Bool.and_false] at z
                  cases z
                · rw [upd_n _ _ y, upd_n _ _ (by omega), decide_eq_true y, Bool.and_true]
                  exact hf x (by omega) x2
            · rw [if_pos (hvi.mpr hv), if_neg hv]
          · rw [if_neg hli, if_neg (fun z => hli z.1)]) (n - (l + 1)) (l + 1) s (by omega) h1 h2
        have hfold : (List.range' (l + 1) (n - (l + 1))).foldl (fun s mm => if f mm ≠ -3 ∨ P l >>> (nI mm &&& 31) &&& 1 = 0 then s else kpf P n k (l + 1) (pr + 1) (upd (upd f l (nI mm)) mm (nI l)) s) s = (List.range' (l + 1) (n - (l + 1))).foldl (fun s mm => if l < mm then (if f mm ≠ -3 ∨ P l >>> (nI mm &&& 31) &&& 1 = 0 then s else kpf P n k (l + 1) (pr + 1) (upd (upd f l (nI mm)) mm (nI l)) s) else s) s := fold_c _ _ (fun x hx b => by
          have := (List.mem_range'_1.mp hx).1
          rw [if_pos (show l < x by omega)])
        rw [hfold]
        generalize (List.range' (l + 1) (n - (l + 1))).foldl (fun s mm => if l < mm then (if f mm ≠ -3 ∨ P l >>> (nI mm &&& 31) &&& 1 = 0 then s else kpf P n k (l + 1) (pr + 1) (upd (upd f l (nI mm)) mm (nI l)) s) else s) s = s1 at hFB ⊢
        have hlast : ∀ s2 : kMs, -1 ≤ s2.1.toInt → s2.1.toInt ≤ 30 → kpf P n k (l + 1) pr f s2 = if ((pr + Gm g (kclr S l) : Nat) : Int) ≤ s2.1.toInt then s2 else (nI (pr + Gm g (kclr S l)), mcp ap g n k (l + 1) (kclr S l) f) := fun s2 a1 a2 => by
          refine kpf_eq hn hG hPl hP k (l + 1) (kclr S l) f pr s2 (by omega) (by omega) (fun x hx => ?_) (fun x x1 x2 => ?_) (by omega) a1 a2
          · rw [hrb x (by omega)]
            by_cases y : x = l
            · subst y
              simp
            · rw [hlow x (by omega)]
              rfl
          · rw [hrb x (by omega), decide_eq_true (by omega : x ≠ l), Bool.and_true]
            exact hf x (by omega) x2
        obtain ⟨f1, f2⟩ := hFB
        by_cases hc : ((pr + Gm g S : Nat) : Int) ≤ s.1.toInt
        · rw [if_pos hc, f1 hc, hlast s h1 h2, if_pos (by have := hst.1; omega)]
        · rw [if_neg hc, hms]
          obtain ⟨f3, f4⟩ := f2 (by omega)
          by_cases hex : ∃ b, b < n ∧ ((l < b ∧ vld ap l (kclr S l) b) ∧ pr + 1 + Gm g (kclr (kclr S l) b) = pr + Gm g S)
          · obtain ⟨b0, p1, p2, p3⟩ := (p_first (fun b => (l < b ∧ vld ap l (kclr S l) b) ∧ pr + 1 + Gm g (kclr (kclr S l) b) = pr + Gm g S) n).resolve_left (fun z => by obtain ⟨b, b1, b2⟩ := hex; exact z b b1 b2)
            have e1 := f3 b0 (by omega) p1 p2.1 p2.2 (fun i i1 i2 => p3 i i2)
            rw [e1]
            have hw := (mwd_some (ap := ap) (g := g) (a := l) (rest := kclr S l) (S := S) p2.1.1 ((hmcd b0 p2.1.1 p1).mpr ⟨p2.1.2, p2.2⟩) (fun i i1 i2 z => p3 i i2 ⟨⟨i1, ((hmcd i i1 (by omega)).mp z).1⟩, ((hmcd i i1 (by omega)).mp z).2⟩) (n - (l + 1)) none).1 (by omega)
            rw [hw]
            have ht2 : (nI (pr + Gm g S)).toInt = ((pr + Gm g S : Nat) : Int) := nI_toInt (by omega)
            rw [hlast _ (by show -1 ≤ (nI (pr + Gm g S)).toInt; omega) (by show (nI (pr + Gm g S)).toInt ≤ 30; omega), if_pos (by show _ ≤ (nI (pr + Gm g S)).toInt; have := hst.1; omega)]
          · have hno : ∀ i, l + 1 ≤ i → i < n → ¬ ((l < i ∧ vld ap l (kclr S l) i) ∧ pr + 1 + Gm g (kclr (kclr S l) i) = pr + Gm g S) := fun i _ i2 z => hex ⟨i, i2, z⟩
            obtain ⟨e1, e2⟩ := f4 hno
            have hw := mwd_none (ap := ap) (g := g) (a := l) (rest := kclr S l) (S := S) (n - (l + 1)) none (fun i i1 i2 z => hno i (by omega) (by omega) ⟨⟨i1, ((hmcd i i1 (by omega)).mp z).1⟩, ((hmcd i i1 (by omega)).mp z).2⟩)
            rw [hw]
            have hGS : Gm g S = Gm g (kclr S l) := by
              rcases hst.2.2 with z | ⟨b, b1, b2, b3, b4⟩
              · exact z
              · exact absurd ⟨⟨b1, b3⟩, by omega⟩ (hno b (by omega) b2)
            rw [hlast s1 e1 (by omega), if_neg (by omega), hGS]
      · have hb : ¬ S.testBit l = true := fun z => e ((hf l (by omega) (by omega)).mp z)
        rw [if_neg e]
        have hms : mcp ap g n (k + 1) l S f = mcp ap g n k (l + 1) S f := by
          simp only [mcp]
          rw [if_neg hb]
        rw [hms]
        refine kpf_eq hn hG hPl hP k (l + 1) S f pr s (by omega) hS (fun x hx => ?_) (fun x x1 x2 => hf x (by omega) x2) (by omega) h1 h2
        by_cases y : x = l
        · rw [y]
          exact Bool.not_eq_true _ |>.mp hb
        · exact hlow x (by omega)
