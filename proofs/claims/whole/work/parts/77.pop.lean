/-! ===== how many bits ===== -/
def popN (n : Nat) : Nat :=
  (fun d => Nat.land (Nat.add d (Nat.div d (nat_lit 65536))) (nat_lit 63)) ((fun c => Nat.add c (Nat.div c (nat_lit 256))) ((fun b => Nat.land (Nat.add b (Nat.div b (nat_lit 16))) (nat_lit 252645135)) ((fun a => Nat.add (Nat.land a (nat_lit 858993459)) (Nat.land (Nat.div a (nat_lit 4)) (nat_lit 858993459))) (Nat.sub n (Nat.land (Nat.div n (nat_lit 2)) (nat_lit 1431655765))))))
def popT : Nat → Nat → Nat → Bool
  | 0, x, c => Nat.beq (popN x) c
  | k + 1, x, c => and (popT k (Nat.mul (nat_lit 2) x) c) (popT k (Nat.add (Nat.mul (nat_lit 2) x) (nat_lit 1)) (Nat.add c (nat_lit 1)))
theorem popT_0 : popT 16 0 0 = true := by decide +kernel
theorem popT_1 : popT 16 1 1 = true := by decide +kernel
theorem popT_2 : popT 16 2 1 = true := by decide +kernel
theorem popT_3b : popT 16 3 2 = true := by decide +kernel
theorem popT_4 : popT 16 4 1 = true := by decide +kernel
theorem popT_5 : popT 16 5 2 = true := by decide +kernel
theorem popT_6 : popT 16 6 2 = true := by decide +kernel
theorem popT_7 : popT 16 7 3 = true := by decide +kernel
