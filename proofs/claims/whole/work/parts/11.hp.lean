/-! ===== the whole state's heap: class's core c and scratch w, reference's core m and scratch v, what rules() and sheet() made behind ===== -/
abbrev kZ : Type := (Nat → Int32) × (Nat → Nat → Int32) × (Nat → Nat) × (Nat → Nat → Option Nat)
def updA {α : Type} (f : Nat → α) (k : Nat) (g : α) : Nat → α := fun j => if j = k then g else f j
def setS (z : kZ) (k : Nat) (x : Int32) : kZ := (upd z.1 k x, z.2)
def setA (z : kZ) (k : Nat) (g : Nat → Int32) : kZ := (z.1, updA z.2.1 k g, z.2.2)
def setR (z : kZ) (k : Nat) (r : Nat) : kZ := (z.1, z.2.1, updA z.2.2.1 k r, z.2.2.2)
def setQ (z : kZ) (k : Nat) (g : Nat → Option Nat) : kZ := (z.1, z.2.1, z.2.2.1, updA z.2.2.2 k g)
def HP (c w m v : kZ) (E : kH) : kH := (.inr (9, [.ref 1, .ref 13, .int (c.1 2), .ref 25, .ref 37, .ref 42, .ref 50, .ref 58, .ref 59, .ref 73, .ref 74, .int (c.1 11), .ref 75, .ref 76, .ref 77, .ref 78]) : kC) :: (.inr (1, [.int (c.1 100), .ref 2, .ref 3, .ref 4, .ref 5, .ref 6, .ref (c.2.2.1 1), .int (c.1 107), .ref 9, .ref 10, .int (c.1 110), .ref 11, .ref 12, .int (c.1 113)]) : kC) :: (.inl (0, 9, .inl (c.2.1 2)) : kC) :: (.inl (0, 9, .inl (c.2.1 3)) : kC) :: (.inl (0, 9, .inl (c.2.1 4)) : kC) :: (.inl (0, 9, .inl (c.2.1 5)) : kC) :: (.inl (0, 4, .inl (c.2.1 6)) : kC) :: (.inr (6, [.int 0, .ref 8]) : kC) :: (.inl (0, 0, .inl (fun _ => 0)) : kC) :: (.inl (0, 4, .inl (c.2.1 9)) : kC) :: (.inl (0, 4, .inl (c.2.1 10)) : kC) :: (.inl (0, 6, .inl (c.2.1 11)) : kC) :: (.inl (0, 6, .inl (c.2.1 12)) : kC) :: (.inr (1, [.int (c.1 1300), .ref 14, .ref 15, .ref 16, .ref 17, .ref 18, .ref (c.2.2.1 13), .int (c.1 1307), .ref 21, .ref 22, .int (c.1 1310), .ref 23, .ref 24, .int (c.1 1313)]) : kC) :: (.inl (0, 9, .inl (c.2.1 14)) : kC) :: (.inl (0, 9, .inl (c.2.1 15)) : kC) :: (.inl (0, 9, .inl (c.2.1 16)) : kC) :: (.inl (0, 9, .inl (c.2.1 17)) : kC) :: (.inl (0, 4, .inl (c.2.1 18)) : kC) :: (.inr (6, [.int 0, .ref 20]) : kC) :: (.inl (0, 0, .inl (fun _ => 0)) : kC) :: (.inl (0, 4, .inl (c.2.1 21)) : kC) :: (.inl (0, 4, .inl (c.2.1 22)) : kC) :: (.inl (0, 6, .inl (c.2.1 23)) : kC) :: (.inl (0, 6, .inl (c.2.1 24)) : kC) :: (.inr (1, [.int (w.1 2500), .ref 26, .ref 27, .ref 28, .ref 29, .ref 30, .ref (w.2.2.1 25), .int (w.1 2507), .ref 33, .ref 34, .int (w.1 2510), .ref 35, .ref 36, .int (w.1 2513)]) : kC) :: (.inl (0, 9, .inl (w.2.1 26)) : kC) :: (.inl (0, 9, .inl (w.2.1 27)) : kC) :: (.inl (0, 9, .inl (w.2.1 28)) : kC) :: (.inl (0, 9, .inl (w.2.1 29)) : kC) :: (.inl (0, 4, .inl (w.2.1 30)) : kC) :: (.inr (6, [.int 0, .ref 32]) : kC) :: (.inl (0, 0, .inl (fun _ => 0)) : kC) :: (.inl (0, 4, .inl (w.2.1 33)) : kC) :: (.inl (0, 4, .inl (w.2.1 34)) : kC) :: (.inl (0, 6, .inl (w.2.1 35)) : kC) :: (.inl (0, 6, .inl (w.2.1 36)) : kC) :: (.inr (8, [.ref 38, .int (c.1 3701), .ref 39, .ref 40, .int (w.1 3704), .int (w.1 3705), .int (w.1 3706), .ref 41, .int (w.1 3708)]) : kC) :: (.inl (0, 200, .inl (c.2.1 38)) : kC) :: (.inl (0, 201, .inl (w.2.1 39)) : kC) :: (.inl (0, 201, .inl (w.2.1 40)) : kC) :: (.inl (0, 232, .inl (w.2.1 41)) : kC) :: (.inr (5, [.ref 43, .ref 44, .ref 45, .int (w.1 4203), .int (w.1 4204), .int (w.1 4205), .ref 46, .ref 47, .ref 48, .ref 49, .int (w.1 4210)]) : kC) :: (.inl (0, 5, .inl (w.2.1 43)) : kC) :: (.inl (0, 9, .inl (w.2.1 44)) : kC) :: (.inl (0, 9, .inl (w.2.1 45)) : kC) :: (.inl (0, 6, .inl (w.2.1 46)) : kC) :: (.inl (0, 6, .inl (w.2.1 47)) : kC) :: (.inl (0, 6, .inl (w.2.1 48)) : kC) :: (.inl (0, 6, .inl (w.2.1 49)) : kC) :: (.inr (4, [.ref 42, .int (w.1 5001), .int (w.1 5002), .int (w.1 5003), .ref 51, .ref 52, .ref 53, .ref 54, .int (w.1 5008), .int (w.1 5009), .ref 55, .ref 56, .ref 57, .int (w.1 5013)]) : kC) :: (.inl (0, 3, .inl (w.2.1 51)) : kC) :: (.inl (0, 3, .inl (w.2.1 52)) : kC) :: (.inl (0, 3, .inl (w.2.1 53)) : kC) :: (.inl (0, 3, .inl (w.2.1 54)) : kC) :: (.inl (0, 9, .inl (w.2.1 55)) : kC) :: (.inl (0, 9, .inl (w.2.1 56)) : kC) :: (.inl (0, 9, .inl (w.2.1 57)) : kC) :: (.inr (2, [.ref 42, .int (w.1 5801), .int (w.1 5802), .int (w.1 5803), .int (w.1 5804)]) : kC) :: (.inr (0, [.ref 42, .ref 60, .ref 72]) : kC) :: (.inr (1, [.int (w.1 6000), .ref 61, .ref 62, .ref 63, .ref 64, .ref 65, .ref (w.2.2.1 60), .int (w.1 6007), .ref 68, .ref 69, .int (w.1 6010), .ref 70, .ref 71, .int (w.1 6013)]) : kC) :: (.inl (0, 9, .inl (w.2.1 61)) : kC) :: (.inl (0, 9, .inl (w.2.1 62)) : kC) :: (.inl (0, 9, .inl (w.2.1 63)) : kC) :: (.inl (0, 9, .inl (w.2.1 64)) : kC) :: (.inl (0, 4, .inl (w.2.1 65)) : kC) :: (.inr (6, [.int 0, .ref 67]) : kC) :: (.inl (0, 0, .inl (fun _ => 0)) : kC) :: (.inl (0, 4, .inl (w.2.1 68)) : kC) :: (.inl (0, 4, .inl (w.2.1 69)) : kC) :: (.inl (0, 6, .inl (w.2.1 70)) : kC) :: (.inl (0, 6, .inl (w.2.1 71)) : kC) :: (.inl (0, 5632, .inl (w.2.1 72)) : kC) :: (.inl (0, 6, .inl (w.2.1 73)) : kC) :: (.inl (0, 18, .inl (c.2.1 74)) : kC) :: (.inl (2, 4, .inr (c.2.2.2 75)) : kC) :: (.inl (2, 4, .inr (c.2.2.2 76)) : kC) :: (.inl (0, 4, .inl (c.2.1 77)) : kC) :: (.inr (3, [.int (w.1 7800), .int (w.1 7801), .int (w.1 7802), .int (w.1 7803), .ref 79, .int (c.1 7805)]) : kC) :: (.inl (0, 30, .inl (c.2.1 79)) : kC) :: (.inr (10, [.ref 81, .ref 82, .ref 83, .int (m.1 8003), .ref 84, .ref 85, .ref 86, .ref 87, .int (v.1 8008), .int (v.1 8009), .int (v.1 8010), .ref 88, .ref 89, .int (v.1 8013), .int (v.1 8014), .ref 90, .ref 91, .ref 92, .int (v.1 8018), .int (v.1 8019), .int (v.1 8020), .ref 93, .int (m.1 8022), .ref 94, .int (m.1 8024), .int (v.1 8025), .int (v.1 8026), .int (v.1 8027), .int (v.1 8028), .int (v.1 8029), .int (v.1 8030), .ref 95, .ref 96, .ref 97, .ref 98, .ref 99, .ref 100, .ref 101, .int (m.1 8038), .int (v.1 8039), .int (v.1 8040), .int (v.1 8041), .int (v.1 8042)]) : kC) :: (.inl (0, 300, .inl (m.2.1 81)) : kC) :: (.inl (0, 300, .inl (m.2.1 82)) : kC) :: (.inl (0, 300, .inl (v.2.1 83)) : kC) :: (.inl (0, 200, .inl (v.2.1 84)) : kC) :: (.inl (0, 9, .inl (v.2.1 85)) : kC) :: (.inl (0, 4, .inl (v.2.1 86)) : kC) :: (.inl (0, 4, .inl (v.2.1 87)) : kC) :: (.inl (0, 4, .inl (v.2.1 88)) : kC) :: (.inl (0, 4, .inl (v.2.1 89)) : kC) :: (.inl (1, 81, .inl (v.2.1 90)) : kC) :: (.inl (0, 512, .inl (v.2.1 91)) : kC) :: (.inl (0, 5632, .inl (v.2.1 92)) : kC) :: (.inl (0, 18, .inl (m.2.1 93)) : kC) :: (.inl (0, 200, .inl (m.2.1 94)) : kC) :: (.inl (0, 4, .inl (m.2.1 95)) : kC) :: (.inl (0, 4, .inl (m.2.1 96)) : kC) :: (.inl (0, 160, .inl (m.2.1 97)) : kC) :: (.inl (0, 4, .inl (m.2.1 98)) : kC) :: (.inl (0, 4, .inl (m.2.1 99)) : kC) :: (.inl (0, 4, .inl (m.2.1 100)) : kC) :: (.inl (0, 30, .inl (m.2.1 101)) : kC) :: E
section kHP
variable (c w m v : kZ) (E : kH)
theorem hp_0 : (HP c w m v E)[0]? = some (.inr (9, [.ref 1, .ref 13, .int (c.1 2), .ref 25, .ref 37, .ref 42, .ref 50, .ref 58, .ref 59, .ref 73, .ref 74, .int (c.1 11), .ref 75, .ref 76, .ref 77, .ref 78])) := rfl
theorem hp_1 : (HP c w m v E)[1]? = some (.inr (1, [.int (c.1 100), .ref 2, .ref 3, .ref 4, .ref 5, .ref 6, .ref (c.2.2.1 1), .int (c.1 107), .ref 9, .ref 10, .int (c.1 110), .ref 11, .ref 12, .int (c.1 113)])) := rfl
theorem hp_2 : (HP c w m v E)[2]? = some (.inl (0, 9, .inl (c.2.1 2))) := rfl
theorem hp_3 : (HP c w m v E)[3]? = some (.inl (0, 9, .inl (c.2.1 3))) := rfl
theorem hp_4 : (HP c w m v E)[4]? = some (.inl (0, 9, .inl (c.2.1 4))) := rfl
theorem hp_5 : (HP c w m v E)[5]? = some (.inl (0, 9, .inl (c.2.1 5))) := rfl
theorem hp_6 : (HP c w m v E)[6]? = some (.inl (0, 4, .inl (c.2.1 6))) := rfl
theorem hp_7 : (HP c w m v E)[7]? = some (.inr (6, [.int 0, .ref 8])) := rfl
theorem hp_8 : (HP c w m v E)[8]? = some (.inl (0, 0, .inl (fun _ => 0))) := rfl
theorem hp_9 : (HP c w m v E)[9]? = some (.inl (0, 4, .inl (c.2.1 9))) := rfl
theorem hp_10 : (HP c w m v E)[10]? = some (.inl (0, 4, .inl (c.2.1 10))) := rfl
theorem hp_11 : (HP c w m v E)[11]? = some (.inl (0, 6, .inl (c.2.1 11))) := rfl
theorem hp_12 : (HP c w m v E)[12]? = some (.inl (0, 6, .inl (c.2.1 12))) := rfl
theorem hp_13 : (HP c w m v E)[13]? = some (.inr (1, [.int (c.1 1300), .ref 14, .ref 15, .ref 16, .ref 17, .ref 18, .ref (c.2.2.1 13), .int (c.1 1307), .ref 21, .ref 22, .int (c.1 1310), .ref 23, .ref 24, .int (c.1 1313)])) := rfl
theorem hp_14 : (HP c w m v E)[14]? = some (.inl (0, 9, .inl (c.2.1 14))) := rfl
theorem hp_15 : (HP c w m v E)[15]? = some (.inl (0, 9, .inl (c.2.1 15))) := rfl
theorem hp_16 : (HP c w m v E)[16]? = some (.inl (0, 9, .inl (c.2.1 16))) := rfl
theorem hp_17 : (HP c w m v E)[17]? = some (.inl (0, 9, .inl (c.2.1 17))) := rfl
theorem hp_18 : (HP c w m v E)[18]? = some (.inl (0, 4, .inl (c.2.1 18))) := rfl
theorem hp_19 : (HP c w m v E)[19]? = some (.inr (6, [.int 0, .ref 20])) := rfl
theorem hp_20 : (HP c w m v E)[20]? = some (.inl (0, 0, .inl (fun _ => 0))) := rfl
theorem hp_21 : (HP c w m v E)[21]? = some (.inl (0, 4, .inl (c.2.1 21))) := rfl
theorem hp_22 : (HP c w m v E)[22]? = some (.inl (0, 4, .inl (c.2.1 22))) := rfl
theorem hp_23 : (HP c w m v E)[23]? = some (.inl (0, 6, .inl (c.2.1 23))) := rfl
theorem hp_24 : (HP c w m v E)[24]? = some (.inl (0, 6, .inl (c.2.1 24))) := rfl
theorem hp_25 : (HP c w m v E)[25]? = some (.inr (1, [.int (w.1 2500), .ref 26, .ref 27, .ref 28, .ref 29, .ref 30, .ref (w.2.2.1 25), .int (w.1 2507), .ref 33, .ref 34, .int (w.1 2510), .ref 35, .ref 36, .int (w.1 2513)])) := rfl
theorem hp_26 : (HP c w m v E)[26]? = some (.inl (0, 9, .inl (w.2.1 26))) := rfl
theorem hp_27 : (HP c w m v E)[27]? = some (.inl (0, 9, .inl (w.2.1 27))) := rfl
theorem hp_28 : (HP c w m v E)[28]? = some (.inl (0, 9, .inl (w.2.1 28))) := rfl
theorem hp_29 : (HP c w m v E)[29]? = some (.inl (0, 9, .inl (w.2.1 29))) := rfl
theorem hp_30 : (HP c w m v E)[30]? = some (.inl (0, 4, .inl (w.2.1 30))) := rfl
theorem hp_31 : (HP c w m v E)[31]? = some (.inr (6, [.int 0, .ref 32])) := rfl
theorem hp_32 : (HP c w m v E)[32]? = some (.inl (0, 0, .inl (fun _ => 0))) := rfl
theorem hp_33 : (HP c w m v E)[33]? = some (.inl (0, 4, .inl (w.2.1 33))) := rfl
theorem hp_34 : (HP c w m v E)[34]? = some (.inl (0, 4, .inl (w.2.1 34))) := rfl
theorem hp_35 : (HP c w m v E)[35]? = some (.inl (0, 6, .inl (w.2.1 35))) := rfl
theorem hp_36 : (HP c w m v E)[36]? = some (.inl (0, 6, .inl (w.2.1 36))) := rfl
theorem hp_37 : (HP c w m v E)[37]? = some (.inr (8, [.ref 38, .int (c.1 3701), .ref 39, .ref 40, .int (w.1 3704), .int (w.1 3705), .int (w.1 3706), .ref 41, .int (w.1 3708)])) := rfl
theorem hp_38 : (HP c w m v E)[38]? = some (.inl (0, 200, .inl (c.2.1 38))) := rfl
theorem hp_39 : (HP c w m v E)[39]? = some (.inl (0, 201, .inl (w.2.1 39))) := rfl
theorem hp_40 : (HP c w m v E)[40]? = some (.inl (0, 201, .inl (w.2.1 40))) := rfl
theorem hp_41 : (HP c w m v E)[41]? = some (.inl (0, 232, .inl (w.2.1 41))) := rfl
theorem hp_42 : (HP c w m v E)[42]? = some (.inr (5, [.ref 43, .ref 44, .ref 45, .int (w.1 4203), .int (w.1 4204), .int (w.1 4205), .ref 46, .ref 47, .ref 48, .ref 49, .int (w.1 4210)])) := rfl
theorem hp_43 : (HP c w m v E)[43]? = some (.inl (0, 5, .inl (w.2.1 43))) := rfl
theorem hp_44 : (HP c w m v E)[44]? = some (.inl (0, 9, .inl (w.2.1 44))) := rfl
theorem hp_45 : (HP c w m v E)[45]? = some (.inl (0, 9, .inl (w.2.1 45))) := rfl
theorem hp_46 : (HP c w m v E)[46]? = some (.inl (0, 6, .inl (w.2.1 46))) := rfl
theorem hp_47 : (HP c w m v E)[47]? = some (.inl (0, 6, .inl (w.2.1 47))) := rfl
theorem hp_48 : (HP c w m v E)[48]? = some (.inl (0, 6, .inl (w.2.1 48))) := rfl
theorem hp_49 : (HP c w m v E)[49]? = some (.inl (0, 6, .inl (w.2.1 49))) := rfl
theorem hp_50 : (HP c w m v E)[50]? = some (.inr (4, [.ref 42, .int (w.1 5001), .int (w.1 5002), .int (w.1 5003), .ref 51, .ref 52, .ref 53, .ref 54, .int (w.1 5008), .int (w.1 5009), .ref 55, .ref 56, .ref 57, .int (w.1 5013)])) := rfl
theorem hp_51 : (HP c w m v E)[51]? = some (.inl (0, 3, .inl (w.2.1 51))) := rfl
theorem hp_52 : (HP c w m v E)[52]? = some (.inl (0, 3, .inl (w.2.1 52))) := rfl
theorem hp_53 : (HP c w m v E)[53]? = some (.inl (0, 3, .inl (w.2.1 53))) := rfl
theorem hp_54 : (HP c w m v E)[54]? = some (.inl (0, 3, .inl (w.2.1 54))) := rfl
theorem hp_55 : (HP c w m v E)[55]? = some (.inl (0, 9, .inl (w.2.1 55))) := rfl
theorem hp_56 : (HP c w m v E)[56]? = some (.inl (0, 9, .inl (w.2.1 56))) := rfl
theorem hp_57 : (HP c w m v E)[57]? = some (.inl (0, 9, .inl (w.2.1 57))) := rfl
theorem hp_58 : (HP c w m v E)[58]? = some (.inr (2, [.ref 42, .int (w.1 5801), .int (w.1 5802), .int (w.1 5803), .int (w.1 5804)])) := rfl
theorem hp_59 : (HP c w m v E)[59]? = some (.inr (0, [.ref 42, .ref 60, .ref 72])) := rfl
theorem hp_60 : (HP c w m v E)[60]? = some (.inr (1, [.int (w.1 6000), .ref 61, .ref 62, .ref 63, .ref 64, .ref 65, .ref (w.2.2.1 60), .int (w.1 6007), .ref 68, .ref 69, .int (w.1 6010), .ref 70, .ref 71, .int (w.1 6013)])) := rfl
theorem hp_61 : (HP c w m v E)[61]? = some (.inl (0, 9, .inl (w.2.1 61))) := rfl
theorem hp_62 : (HP c w m v E)[62]? = some (.inl (0, 9, .inl (w.2.1 62))) := rfl
theorem hp_63 : (HP c w m v E)[63]? = some (.inl (0, 9, .inl (w.2.1 63))) := rfl
theorem hp_64 : (HP c w m v E)[64]? = some (.inl (0, 9, .inl (w.2.1 64))) := rfl
theorem hp_65 : (HP c w m v E)[65]? = some (.inl (0, 4, .inl (w.2.1 65))) := rfl
theorem hp_66 : (HP c w m v E)[66]? = some (.inr (6, [.int 0, .ref 67])) := rfl
theorem hp_67 : (HP c w m v E)[67]? = some (.inl (0, 0, .inl (fun _ => 0))) := rfl
theorem hp_68 : (HP c w m v E)[68]? = some (.inl (0, 4, .inl (w.2.1 68))) := rfl
theorem hp_69 : (HP c w m v E)[69]? = some (.inl (0, 4, .inl (w.2.1 69))) := rfl
theorem hp_70 : (HP c w m v E)[70]? = some (.inl (0, 6, .inl (w.2.1 70))) := rfl
theorem hp_71 : (HP c w m v E)[71]? = some (.inl (0, 6, .inl (w.2.1 71))) := rfl
theorem hp_72 : (HP c w m v E)[72]? = some (.inl (0, 5632, .inl (w.2.1 72))) := rfl
theorem hp_73 : (HP c w m v E)[73]? = some (.inl (0, 6, .inl (w.2.1 73))) := rfl
theorem hp_74 : (HP c w m v E)[74]? = some (.inl (0, 18, .inl (c.2.1 74))) := rfl
theorem hp_75 : (HP c w m v E)[75]? = some (.inl (2, 4, .inr (c.2.2.2 75))) := rfl
theorem hp_76 : (HP c w m v E)[76]? = some (.inl (2, 4, .inr (c.2.2.2 76))) := rfl
theorem hp_77 : (HP c w m v E)[77]? = some (.inl (0, 4, .inl (c.2.1 77))) := rfl
theorem hp_78 : (HP c w m v E)[78]? = some (.inr (3, [.int (w.1 7800), .int (w.1 7801), .int (w.1 7802), .int (w.1 7803), .ref 79, .int (c.1 7805)])) := rfl
theorem hp_79 : (HP c w m v E)[79]? = some (.inl (0, 30, .inl (c.2.1 79))) := rfl
theorem hp_80 : (HP c w m v E)[80]? = some (.inr (10, [.ref 81, .ref 82, .ref 83, .int (m.1 8003), .ref 84, .ref 85, .ref 86, .ref 87, .int (v.1 8008), .int (v.1 8009), .int (v.1 8010), .ref 88, .ref 89, .int (v.1 8013), .int (v.1 8014), .ref 90, .ref 91, .ref 92, .int (v.1 8018), .int (v.1 8019), .int (v.1 8020), .ref 93, .int (m.1 8022), .ref 94, .int (m.1 8024), .int (v.1 8025), .int (v.1 8026), .int (v.1 8027), .int (v.1 8028), .int (v.1 8029), .int (v.1 8030), .ref 95, .ref 96, .ref 97, .ref 98, .ref 99, .ref 100, .ref 101, .int (m.1 8038), .int (v.1 8039), .int (v.1 8040), .int (v.1 8041), .int (v.1 8042)])) := rfl
theorem hp_81 : (HP c w m v E)[81]? = some (.inl (0, 300, .inl (m.2.1 81))) := rfl
theorem hp_82 : (HP c w m v E)[82]? = some (.inl (0, 300, .inl (m.2.1 82))) := rfl
theorem hp_83 : (HP c w m v E)[83]? = some (.inl (0, 300, .inl (v.2.1 83))) := rfl
theorem hp_84 : (HP c w m v E)[84]? = some (.inl (0, 200, .inl (v.2.1 84))) := rfl
theorem hp_85 : (HP c w m v E)[85]? = some (.inl (0, 9, .inl (v.2.1 85))) := rfl
theorem hp_86 : (HP c w m v E)[86]? = some (.inl (0, 4, .inl (v.2.1 86))) := rfl
theorem hp_87 : (HP c w m v E)[87]? = some (.inl (0, 4, .inl (v.2.1 87))) := rfl
theorem hp_88 : (HP c w m v E)[88]? = some (.inl (0, 4, .inl (v.2.1 88))) := rfl
theorem hp_89 : (HP c w m v E)[89]? = some (.inl (0, 4, .inl (v.2.1 89))) := rfl
theorem hp_90 : (HP c w m v E)[90]? = some (.inl (1, 81, .inl (v.2.1 90))) := rfl
theorem hp_91 : (HP c w m v E)[91]? = some (.inl (0, 512, .inl (v.2.1 91))) := rfl
theorem hp_92 : (HP c w m v E)[92]? = some (.inl (0, 5632, .inl (v.2.1 92))) := rfl
theorem hp_93 : (HP c w m v E)[93]? = some (.inl (0, 18, .inl (m.2.1 93))) := rfl
theorem hp_94 : (HP c w m v E)[94]? = some (.inl (0, 200, .inl (m.2.1 94))) := rfl
theorem hp_95 : (HP c w m v E)[95]? = some (.inl (0, 4, .inl (m.2.1 95))) := rfl
theorem hp_96 : (HP c w m v E)[96]? = some (.inl (0, 4, .inl (m.2.1 96))) := rfl
theorem hp_97 : (HP c w m v E)[97]? = some (.inl (0, 160, .inl (m.2.1 97))) := rfl
theorem hp_98 : (HP c w m v E)[98]? = some (.inl (0, 4, .inl (m.2.1 98))) := rfl
theorem hp_99 : (HP c w m v E)[99]? = some (.inl (0, 4, .inl (m.2.1 99))) := rfl
theorem hp_100 : (HP c w m v E)[100]? = some (.inl (0, 4, .inl (m.2.1 100))) := rfl
theorem hp_101 : (HP c w m v E)[101]? = some (.inl (0, 30, .inl (m.2.1 101))) := rfl
set_option maxRecDepth 10000 in
theorem hps_0_2 (x : Int32) : (HP c w m v E).set 0 (.inr (9, ([.ref 1, .ref 13, .int (c.1 2), .ref 25, .ref 37, .ref 42, .ref 50, .ref 58, .ref 59, .ref 73, .ref 74, .int (c.1 11), .ref 75, .ref 76, .ref 77, .ref 78] : List Value).set 2 (.int x))) = HP (setS c 2 x) w m v E := rfl
set_option maxRecDepth 10000 in
theorem hps_0_11 (x : Int32) : (HP c w m v E).set 0 (.inr (9, ([.ref 1, .ref 13, .int (c.1 2), .ref 25, .ref 37, .ref 42, .ref 50, .ref 58, .ref 59, .ref 73, .ref 74, .int (c.1 11), .ref 75, .ref 76, .ref 77, .ref 78] : List Value).set 11 (.int x))) = HP (setS c 11 x) w m v E := rfl
set_option maxRecDepth 10000 in
theorem hps_1_0 (x : Int32) : (HP c w m v E).set 1 (.inr (1, ([.int (c.1 100), .ref 2, .ref 3, .ref 4, .ref 5, .ref 6, .ref (c.2.2.1 1), .int (c.1 107), .ref 9, .ref 10, .int (c.1 110), .ref 11, .ref 12, .int (c.1 113)] : List Value).set 0 (.int x))) = HP (setS c 100 x) w m v E := rfl
theorem hpr_1_6 (x : Nat) : (HP c w m v E).set 1 (.inr (1, ([.int (c.1 100), .ref 2, .ref 3, .ref 4, .ref 5, .ref 6, .ref (c.2.2.1 1), .int (c.1 107), .ref 9, .ref 10, .int (c.1 110), .ref 11, .ref 12, .int (c.1 113)] : List Value).set 6 (.ref x))) = HP (setR c 1 x) w m v E := rfl
set_option maxRecDepth 10000 in
theorem hps_1_7 (x : Int32) : (HP c w m v E).set 1 (.inr (1, ([.int (c.1 100), .ref 2, .ref 3, .ref 4, .ref 5, .ref 6, .ref (c.2.2.1 1), .int (c.1 107), .ref 9, .ref 10, .int (c.1 110), .ref 11, .ref 12, .int (c.1 113)] : List Value).set 7 (.int x))) = HP (setS c 107 x) w m v E := rfl
set_option maxRecDepth 10000 in
theorem hps_1_10 (x : Int32) : (HP c w m v E).set 1 (.inr (1, ([.int (c.1 100), .ref 2, .ref 3, .ref 4, .ref 5, .ref 6, .ref (c.2.2.1 1), .int (c.1 107), .ref 9, .ref 10, .int (c.1 110), .ref 11, .ref 12, .int (c.1 113)] : List Value).set 10 (.int x))) = HP (setS c 110 x) w m v E := rfl
set_option maxRecDepth 10000 in
theorem hps_1_13 (x : Int32) : (HP c w m v E).set 1 (.inr (1, ([.int (c.1 100), .ref 2, .ref 3, .ref 4, .ref 5, .ref 6, .ref (c.2.2.1 1), .int (c.1 107), .ref 9, .ref 10, .int (c.1 110), .ref 11, .ref 12, .int (c.1 113)] : List Value).set 13 (.int x))) = HP (setS c 113 x) w m v E := rfl
theorem hpa_2 (g : Nat → Int32) : (HP c w m v E).set 2 (.inl (0, 9, .inl g)) = HP (setA c 2 g) w m v E := rfl
theorem hpa_3 (g : Nat → Int32) : (HP c w m v E).set 3 (.inl (0, 9, .inl g)) = HP (setA c 3 g) w m v E := rfl
theorem hpa_4 (g : Nat → Int32) : (HP c w m v E).set 4 (.inl (0, 9, .inl g)) = HP (setA c 4 g) w m v E := rfl
theorem hpa_5 (g : Nat → Int32) : (HP c w m v E).set 5 (.inl (0, 9, .inl g)) = HP (setA c 5 g) w m v E := rfl
theorem hpa_6 (g : Nat → Int32) : (HP c w m v E).set 6 (.inl (0, 4, .inl g)) = HP (setA c 6 g) w m v E := rfl
theorem hpa_9 (g : Nat → Int32) : (HP c w m v E).set 9 (.inl (0, 4, .inl g)) = HP (setA c 9 g) w m v E := rfl
theorem hpa_10 (g : Nat → Int32) : (HP c w m v E).set 10 (.inl (0, 4, .inl g)) = HP (setA c 10 g) w m v E := rfl
theorem hpa_11 (g : Nat → Int32) : (HP c w m v E).set 11 (.inl (0, 6, .inl g)) = HP (setA c 11 g) w m v E := rfl
theorem hpa_12 (g : Nat → Int32) : (HP c w m v E).set 12 (.inl (0, 6, .inl g)) = HP (setA c 12 g) w m v E := rfl
set_option maxRecDepth 10000 in
theorem hps_13_0 (x : Int32) : (HP c w m v E).set 13 (.inr (1, ([.int (c.1 1300), .ref 14, .ref 15, .ref 16, .ref 17, .ref 18, .ref (c.2.2.1 13), .int (c.1 1307), .ref 21, .ref 22, .int (c.1 1310), .ref 23, .ref 24, .int (c.1 1313)] : List Value).set 0 (.int x))) = HP (setS c 1300 x) w m v E := rfl
theorem hpr_13_6 (x : Nat) : (HP c w m v E).set 13 (.inr (1, ([.int (c.1 1300), .ref 14, .ref 15, .ref 16, .ref 17, .ref 18, .ref (c.2.2.1 13), .int (c.1 1307), .ref 21, .ref 22, .int (c.1 1310), .ref 23, .ref 24, .int (c.1 1313)] : List Value).set 6 (.ref x))) = HP (setR c 13 x) w m v E := rfl
set_option maxRecDepth 10000 in
theorem hps_13_7 (x : Int32) : (HP c w m v E).set 13 (.inr (1, ([.int (c.1 1300), .ref 14, .ref 15, .ref 16, .ref 17, .ref 18, .ref (c.2.2.1 13), .int (c.1 1307), .ref 21, .ref 22, .int (c.1 1310), .ref 23, .ref 24, .int (c.1 1313)] : List Value).set 7 (.int x))) = HP (setS c 1307 x) w m v E := rfl
set_option maxRecDepth 10000 in
theorem hps_13_10 (x : Int32) : (HP c w m v E).set 13 (.inr (1, ([.int (c.1 1300), .ref 14, .ref 15, .ref 16, .ref 17, .ref 18, .ref (c.2.2.1 13), .int (c.1 1307), .ref 21, .ref 22, .int (c.1 1310), .ref 23, .ref 24, .int (c.1 1313)] : List Value).set 10 (.int x))) = HP (setS c 1310 x) w m v E := rfl
set_option maxRecDepth 10000 in
theorem hps_13_13 (x : Int32) : (HP c w m v E).set 13 (.inr (1, ([.int (c.1 1300), .ref 14, .ref 15, .ref 16, .ref 17, .ref 18, .ref (c.2.2.1 13), .int (c.1 1307), .ref 21, .ref 22, .int (c.1 1310), .ref 23, .ref 24, .int (c.1 1313)] : List Value).set 13 (.int x))) = HP (setS c 1313 x) w m v E := rfl
theorem hpa_14 (g : Nat → Int32) : (HP c w m v E).set 14 (.inl (0, 9, .inl g)) = HP (setA c 14 g) w m v E := rfl
theorem hpa_15 (g : Nat → Int32) : (HP c w m v E).set 15 (.inl (0, 9, .inl g)) = HP (setA c 15 g) w m v E := rfl
theorem hpa_16 (g : Nat → Int32) : (HP c w m v E).set 16 (.inl (0, 9, .inl g)) = HP (setA c 16 g) w m v E := rfl
theorem hpa_17 (g : Nat → Int32) : (HP c w m v E).set 17 (.inl (0, 9, .inl g)) = HP (setA c 17 g) w m v E := rfl
theorem hpa_18 (g : Nat → Int32) : (HP c w m v E).set 18 (.inl (0, 4, .inl g)) = HP (setA c 18 g) w m v E := rfl
theorem hpa_21 (g : Nat → Int32) : (HP c w m v E).set 21 (.inl (0, 4, .inl g)) = HP (setA c 21 g) w m v E := rfl
theorem hpa_22 (g : Nat → Int32) : (HP c w m v E).set 22 (.inl (0, 4, .inl g)) = HP (setA c 22 g) w m v E := rfl
theorem hpa_23 (g : Nat → Int32) : (HP c w m v E).set 23 (.inl (0, 6, .inl g)) = HP (setA c 23 g) w m v E := rfl
theorem hpa_24 (g : Nat → Int32) : (HP c w m v E).set 24 (.inl (0, 6, .inl g)) = HP (setA c 24 g) w m v E := rfl
set_option maxRecDepth 10000 in
theorem hps_25_0 (x : Int32) : (HP c w m v E).set 25 (.inr (1, ([.int (w.1 2500), .ref 26, .ref 27, .ref 28, .ref 29, .ref 30, .ref (w.2.2.1 25), .int (w.1 2507), .ref 33, .ref 34, .int (w.1 2510), .ref 35, .ref 36, .int (w.1 2513)] : List Value).set 0 (.int x))) = HP c (setS w 2500 x) m v E := rfl
theorem hpr_25_6 (x : Nat) : (HP c w m v E).set 25 (.inr (1, ([.int (w.1 2500), .ref 26, .ref 27, .ref 28, .ref 29, .ref 30, .ref (w.2.2.1 25), .int (w.1 2507), .ref 33, .ref 34, .int (w.1 2510), .ref 35, .ref 36, .int (w.1 2513)] : List Value).set 6 (.ref x))) = HP c (setR w 25 x) m v E := rfl
set_option maxRecDepth 10000 in
theorem hps_25_7 (x : Int32) : (HP c w m v E).set 25 (.inr (1, ([.int (w.1 2500), .ref 26, .ref 27, .ref 28, .ref 29, .ref 30, .ref (w.2.2.1 25), .int (w.1 2507), .ref 33, .ref 34, .int (w.1 2510), .ref 35, .ref 36, .int (w.1 2513)] : List Value).set 7 (.int x))) = HP c (setS w 2507 x) m v E := rfl
set_option maxRecDepth 10000 in
theorem hps_25_10 (x : Int32) : (HP c w m v E).set 25 (.inr (1, ([.int (w.1 2500), .ref 26, .ref 27, .ref 28, .ref 29, .ref 30, .ref (w.2.2.1 25), .int (w.1 2507), .ref 33, .ref 34, .int (w.1 2510), .ref 35, .ref 36, .int (w.1 2513)] : List Value).set 10 (.int x))) = HP c (setS w 2510 x) m v E := rfl
set_option maxRecDepth 10000 in
theorem hps_25_13 (x : Int32) : (HP c w m v E).set 25 (.inr (1, ([.int (w.1 2500), .ref 26, .ref 27, .ref 28, .ref 29, .ref 30, .ref (w.2.2.1 25), .int (w.1 2507), .ref 33, .ref 34, .int (w.1 2510), .ref 35, .ref 36, .int (w.1 2513)] : List Value).set 13 (.int x))) = HP c (setS w 2513 x) m v E := rfl
theorem hpa_26 (g : Nat → Int32) : (HP c w m v E).set 26 (.inl (0, 9, .inl g)) = HP c (setA w 26 g) m v E := rfl
theorem hpa_27 (g : Nat → Int32) : (HP c w m v E).set 27 (.inl (0, 9, .inl g)) = HP c (setA w 27 g) m v E := rfl
theorem hpa_28 (g : Nat → Int32) : (HP c w m v E).set 28 (.inl (0, 9, .inl g)) = HP c (setA w 28 g) m v E := rfl
theorem hpa_29 (g : Nat → Int32) : (HP c w m v E).set 29 (.inl (0, 9, .inl g)) = HP c (setA w 29 g) m v E := rfl
theorem hpa_30 (g : Nat → Int32) : (HP c w m v E).set 30 (.inl (0, 4, .inl g)) = HP c (setA w 30 g) m v E := rfl
theorem hpa_33 (g : Nat → Int32) : (HP c w m v E).set 33 (.inl (0, 4, .inl g)) = HP c (setA w 33 g) m v E := rfl
theorem hpa_34 (g : Nat → Int32) : (HP c w m v E).set 34 (.inl (0, 4, .inl g)) = HP c (setA w 34 g) m v E := rfl
theorem hpa_35 (g : Nat → Int32) : (HP c w m v E).set 35 (.inl (0, 6, .inl g)) = HP c (setA w 35 g) m v E := rfl
theorem hpa_36 (g : Nat → Int32) : (HP c w m v E).set 36 (.inl (0, 6, .inl g)) = HP c (setA w 36 g) m v E := rfl
set_option maxRecDepth 10000 in
theorem hps_37_1 (x : Int32) : (HP c w m v E).set 37 (.inr (8, ([.ref 38, .int (c.1 3701), .ref 39, .ref 40, .int (w.1 3704), .int (w.1 3705), .int (w.1 3706), .ref 41, .int (w.1 3708)] : List Value).set 1 (.int x))) = HP (setS c 3701 x) w m v E := rfl
set_option maxRecDepth 10000 in
theorem hps_37_4 (x : Int32) : (HP c w m v E).set 37 (.inr (8, ([.ref 38, .int (c.1 3701), .ref 39, .ref 40, .int (w.1 3704), .int (w.1 3705), .int (w.1 3706), .ref 41, .int (w.1 3708)] : List Value).set 4 (.int x))) = HP c (setS w 3704 x) m v E := rfl
set_option maxRecDepth 10000 in
theorem hps_37_5 (x : Int32) : (HP c w m v E).set 37 (.inr (8, ([.ref 38, .int (c.1 3701), .ref 39, .ref 40, .int (w.1 3704), .int (w.1 3705), .int (w.1 3706), .ref 41, .int (w.1 3708)] : List Value).set 5 (.int x))) = HP c (setS w 3705 x) m v E := rfl
set_option maxRecDepth 10000 in
theorem hps_37_6 (x : Int32) : (HP c w m v E).set 37 (.inr (8, ([.ref 38, .int (c.1 3701), .ref 39, .ref 40, .int (w.1 3704), .int (w.1 3705), .int (w.1 3706), .ref 41, .int (w.1 3708)] : List Value).set 6 (.int x))) = HP c (setS w 3706 x) m v E := rfl
set_option maxRecDepth 10000 in
theorem hps_37_8 (x : Int32) : (HP c w m v E).set 37 (.inr (8, ([.ref 38, .int (c.1 3701), .ref 39, .ref 40, .int (w.1 3704), .int (w.1 3705), .int (w.1 3706), .ref 41, .int (w.1 3708)] : List Value).set 8 (.int x))) = HP c (setS w 3708 x) m v E := rfl
theorem hpa_38 (g : Nat → Int32) : (HP c w m v E).set 38 (.inl (0, 200, .inl g)) = HP (setA c 38 g) w m v E := rfl
theorem hpa_39 (g : Nat → Int32) : (HP c w m v E).set 39 (.inl (0, 201, .inl g)) = HP c (setA w 39 g) m v E := rfl
theorem hpa_40 (g : Nat → Int32) : (HP c w m v E).set 40 (.inl (0, 201, .inl g)) = HP c (setA w 40 g) m v E := rfl
theorem hpa_41 (g : Nat → Int32) : (HP c w m v E).set 41 (.inl (0, 232, .inl g)) = HP c (setA w 41 g) m v E := rfl
set_option maxRecDepth 10000 in
theorem hps_42_3 (x : Int32) : (HP c w m v E).set 42 (.inr (5, ([.ref 43, .ref 44, .ref 45, .int (w.1 4203), .int (w.1 4204), .int (w.1 4205), .ref 46, .ref 47, .ref 48, .ref 49, .int (w.1 4210)] : List Value).set 3 (.int x))) = HP c (setS w 4203 x) m v E := rfl
set_option maxRecDepth 10000 in
theorem hps_42_4 (x : Int32) : (HP c w m v E).set 42 (.inr (5, ([.ref 43, .ref 44, .ref 45, .int (w.1 4203), .int (w.1 4204), .int (w.1 4205), .ref 46, .ref 47, .ref 48, .ref 49, .int (w.1 4210)] : List Value).set 4 (.int x))) = HP c (setS w 4204 x) m v E := rfl
set_option maxRecDepth 10000 in
theorem hps_42_5 (x : Int32) : (HP c w m v E).set 42 (.inr (5, ([.ref 43, .ref 44, .ref 45, .int (w.1 4203), .int (w.1 4204), .int (w.1 4205), .ref 46, .ref 47, .ref 48, .ref 49, .int (w.1 4210)] : List Value).set 5 (.int x))) = HP c (setS w 4205 x) m v E := rfl
set_option maxRecDepth 10000 in
theorem hps_42_10 (x : Int32) : (HP c w m v E).set 42 (.inr (5, ([.ref 43, .ref 44, .ref 45, .int (w.1 4203), .int (w.1 4204), .int (w.1 4205), .ref 46, .ref 47, .ref 48, .ref 49, .int (w.1 4210)] : List Value).set 10 (.int x))) = HP c (setS w 4210 x) m v E := rfl
theorem hpa_43 (g : Nat → Int32) : (HP c w m v E).set 43 (.inl (0, 5, .inl g)) = HP c (setA w 43 g) m v E := rfl
theorem hpa_44 (g : Nat → Int32) : (HP c w m v E).set 44 (.inl (0, 9, .inl g)) = HP c (setA w 44 g) m v E := rfl
theorem hpa_45 (g : Nat → Int32) : (HP c w m v E).set 45 (.inl (0, 9, .inl g)) = HP c (setA w 45 g) m v E := rfl
theorem hpa_46 (g : Nat → Int32) : (HP c w m v E).set 46 (.inl (0, 6, .inl g)) = HP c (setA w 46 g) m v E := rfl
theorem hpa_47 (g : Nat → Int32) : (HP c w m v E).set 47 (.inl (0, 6, .inl g)) = HP c (setA w 47 g) m v E := rfl
theorem hpa_48 (g : Nat → Int32) : (HP c w m v E).set 48 (.inl (0, 6, .inl g)) = HP c (setA w 48 g) m v E := rfl
theorem hpa_49 (g : Nat → Int32) : (HP c w m v E).set 49 (.inl (0, 6, .inl g)) = HP c (setA w 49 g) m v E := rfl
set_option maxRecDepth 10000 in
theorem hps_50_1 (x : Int32) : (HP c w m v E).set 50 (.inr (4, ([.ref 42, .int (w.1 5001), .int (w.1 5002), .int (w.1 5003), .ref 51, .ref 52, .ref 53, .ref 54, .int (w.1 5008), .int (w.1 5009), .ref 55, .ref 56, .ref 57, .int (w.1 5013)] : List Value).set 1 (.int x))) = HP c (setS w 5001 x) m v E := rfl
set_option maxRecDepth 10000 in
theorem hps_50_2 (x : Int32) : (HP c w m v E).set 50 (.inr (4, ([.ref 42, .int (w.1 5001), .int (w.1 5002), .int (w.1 5003), .ref 51, .ref 52, .ref 53, .ref 54, .int (w.1 5008), .int (w.1 5009), .ref 55, .ref 56, .ref 57, .int (w.1 5013)] : List Value).set 2 (.int x))) = HP c (setS w 5002 x) m v E := rfl
set_option maxRecDepth 10000 in
theorem hps_50_3 (x : Int32) : (HP c w m v E).set 50 (.inr (4, ([.ref 42, .int (w.1 5001), .int (w.1 5002), .int (w.1 5003), .ref 51, .ref 52, .ref 53, .ref 54, .int (w.1 5008), .int (w.1 5009), .ref 55, .ref 56, .ref 57, .int (w.1 5013)] : List Value).set 3 (.int x))) = HP c (setS w 5003 x) m v E := rfl
set_option maxRecDepth 10000 in
theorem hps_50_8 (x : Int32) : (HP c w m v E).set 50 (.inr (4, ([.ref 42, .int (w.1 5001), .int (w.1 5002), .int (w.1 5003), .ref 51, .ref 52, .ref 53, .ref 54, .int (w.1 5008), .int (w.1 5009), .ref 55, .ref 56, .ref 57, .int (w.1 5013)] : List Value).set 8 (.int x))) = HP c (setS w 5008 x) m v E := rfl
set_option maxRecDepth 10000 in
theorem hps_50_9 (x : Int32) : (HP c w m v E).set 50 (.inr (4, ([.ref 42, .int (w.1 5001), .int (w.1 5002), .int (w.1 5003), .ref 51, .ref 52, .ref 53, .ref 54, .int (w.1 5008), .int (w.1 5009), .ref 55, .ref 56, .ref 57, .int (w.1 5013)] : List Value).set 9 (.int x))) = HP c (setS w 5009 x) m v E := rfl
set_option maxRecDepth 10000 in
theorem hps_50_13 (x : Int32) : (HP c w m v E).set 50 (.inr (4, ([.ref 42, .int (w.1 5001), .int (w.1 5002), .int (w.1 5003), .ref 51, .ref 52, .ref 53, .ref 54, .int (w.1 5008), .int (w.1 5009), .ref 55, .ref 56, .ref 57, .int (w.1 5013)] : List Value).set 13 (.int x))) = HP c (setS w 5013 x) m v E := rfl
theorem hpa_51 (g : Nat → Int32) : (HP c w m v E).set 51 (.inl (0, 3, .inl g)) = HP c (setA w 51 g) m v E := rfl
theorem hpa_52 (g : Nat → Int32) : (HP c w m v E).set 52 (.inl (0, 3, .inl g)) = HP c (setA w 52 g) m v E := rfl
theorem hpa_53 (g : Nat → Int32) : (HP c w m v E).set 53 (.inl (0, 3, .inl g)) = HP c (setA w 53 g) m v E := rfl
theorem hpa_54 (g : Nat → Int32) : (HP c w m v E).set 54 (.inl (0, 3, .inl g)) = HP c (setA w 54 g) m v E := rfl
theorem hpa_55 (g : Nat → Int32) : (HP c w m v E).set 55 (.inl (0, 9, .inl g)) = HP c (setA w 55 g) m v E := rfl
theorem hpa_56 (g : Nat → Int32) : (HP c w m v E).set 56 (.inl (0, 9, .inl g)) = HP c (setA w 56 g) m v E := rfl
theorem hpa_57 (g : Nat → Int32) : (HP c w m v E).set 57 (.inl (0, 9, .inl g)) = HP c (setA w 57 g) m v E := rfl
set_option maxRecDepth 10000 in
theorem hps_58_1 (x : Int32) : (HP c w m v E).set 58 (.inr (2, ([.ref 42, .int (w.1 5801), .int (w.1 5802), .int (w.1 5803), .int (w.1 5804)] : List Value).set 1 (.int x))) = HP c (setS w 5801 x) m v E := rfl
set_option maxRecDepth 10000 in
theorem hps_58_2 (x : Int32) : (HP c w m v E).set 58 (.inr (2, ([.ref 42, .int (w.1 5801), .int (w.1 5802), .int (w.1 5803), .int (w.1 5804)] : List Value).set 2 (.int x))) = HP c (setS w 5802 x) m v E := rfl
set_option maxRecDepth 10000 in
theorem hps_58_3 (x : Int32) : (HP c w m v E).set 58 (.inr (2, ([.ref 42, .int (w.1 5801), .int (w.1 5802), .int (w.1 5803), .int (w.1 5804)] : List Value).set 3 (.int x))) = HP c (setS w 5803 x) m v E := rfl
set_option maxRecDepth 10000 in
theorem hps_58_4 (x : Int32) : (HP c w m v E).set 58 (.inr (2, ([.ref 42, .int (w.1 5801), .int (w.1 5802), .int (w.1 5803), .int (w.1 5804)] : List Value).set 4 (.int x))) = HP c (setS w 5804 x) m v E := rfl
set_option maxRecDepth 10000 in
theorem hps_60_0 (x : Int32) : (HP c w m v E).set 60 (.inr (1, ([.int (w.1 6000), .ref 61, .ref 62, .ref 63, .ref 64, .ref 65, .ref (w.2.2.1 60), .int (w.1 6007), .ref 68, .ref 69, .int (w.1 6010), .ref 70, .ref 71, .int (w.1 6013)] : List Value).set 0 (.int x))) = HP c (setS w 6000 x) m v E := rfl
theorem hpr_60_6 (x : Nat) : (HP c w m v E).set 60 (.inr (1, ([.int (w.1 6000), .ref 61, .ref 62, .ref 63, .ref 64, .ref 65, .ref (w.2.2.1 60), .int (w.1 6007), .ref 68, .ref 69, .int (w.1 6010), .ref 70, .ref 71, .int (w.1 6013)] : List Value).set 6 (.ref x))) = HP c (setR w 60 x) m v E := rfl
set_option maxRecDepth 10000 in
theorem hps_60_7 (x : Int32) : (HP c w m v E).set 60 (.inr (1, ([.int (w.1 6000), .ref 61, .ref 62, .ref 63, .ref 64, .ref 65, .ref (w.2.2.1 60), .int (w.1 6007), .ref 68, .ref 69, .int (w.1 6010), .ref 70, .ref 71, .int (w.1 6013)] : List Value).set 7 (.int x))) = HP c (setS w 6007 x) m v E := rfl
set_option maxRecDepth 10000 in
theorem hps_60_10 (x : Int32) : (HP c w m v E).set 60 (.inr (1, ([.int (w.1 6000), .ref 61, .ref 62, .ref 63, .ref 64, .ref 65, .ref (w.2.2.1 60), .int (w.1 6007), .ref 68, .ref 69, .int (w.1 6010), .ref 70, .ref 71, .int (w.1 6013)] : List Value).set 10 (.int x))) = HP c (setS w 6010 x) m v E := rfl
set_option maxRecDepth 10000 in
theorem hps_60_13 (x : Int32) : (HP c w m v E).set 60 (.inr (1, ([.int (w.1 6000), .ref 61, .ref 62, .ref 63, .ref 64, .ref 65, .ref (w.2.2.1 60), .int (w.1 6007), .ref 68, .ref 69, .int (w.1 6010), .ref 70, .ref 71, .int (w.1 6013)] : List Value).set 13 (.int x))) = HP c (setS w 6013 x) m v E := rfl
theorem hpa_61 (g : Nat → Int32) : (HP c w m v E).set 61 (.inl (0, 9, .inl g)) = HP c (setA w 61 g) m v E := rfl
theorem hpa_62 (g : Nat → Int32) : (HP c w m v E).set 62 (.inl (0, 9, .inl g)) = HP c (setA w 62 g) m v E := rfl
theorem hpa_63 (g : Nat → Int32) : (HP c w m v E).set 63 (.inl (0, 9, .inl g)) = HP c (setA w 63 g) m v E := rfl
theorem hpa_64 (g : Nat → Int32) : (HP c w m v E).set 64 (.inl (0, 9, .inl g)) = HP c (setA w 64 g) m v E := rfl
theorem hpa_65 (g : Nat → Int32) : (HP c w m v E).set 65 (.inl (0, 4, .inl g)) = HP c (setA w 65 g) m v E := rfl
theorem hpa_68 (g : Nat → Int32) : (HP c w m v E).set 68 (.inl (0, 4, .inl g)) = HP c (setA w 68 g) m v E := rfl
theorem hpa_69 (g : Nat → Int32) : (HP c w m v E).set 69 (.inl (0, 4, .inl g)) = HP c (setA w 69 g) m v E := rfl
theorem hpa_70 (g : Nat → Int32) : (HP c w m v E).set 70 (.inl (0, 6, .inl g)) = HP c (setA w 70 g) m v E := rfl
theorem hpa_71 (g : Nat → Int32) : (HP c w m v E).set 71 (.inl (0, 6, .inl g)) = HP c (setA w 71 g) m v E := rfl
theorem hpa_72 (g : Nat → Int32) : (HP c w m v E).set 72 (.inl (0, 5632, .inl g)) = HP c (setA w 72 g) m v E := rfl
theorem hpa_73 (g : Nat → Int32) : (HP c w m v E).set 73 (.inl (0, 6, .inl g)) = HP c (setA w 73 g) m v E := rfl
theorem hpa_74 (g : Nat → Int32) : (HP c w m v E).set 74 (.inl (0, 18, .inl g)) = HP (setA c 74 g) w m v E := rfl
theorem hpq_75 (g : Nat → Option Nat) : (HP c w m v E).set 75 (.inl (2, 4, .inr g)) = HP (setQ c 75 g) w m v E := rfl
theorem hpq_76 (g : Nat → Option Nat) : (HP c w m v E).set 76 (.inl (2, 4, .inr g)) = HP (setQ c 76 g) w m v E := rfl
theorem hpa_77 (g : Nat → Int32) : (HP c w m v E).set 77 (.inl (0, 4, .inl g)) = HP (setA c 77 g) w m v E := rfl
set_option maxRecDepth 10000 in
theorem hps_78_0 (x : Int32) : (HP c w m v E).set 78 (.inr (3, ([.int (w.1 7800), .int (w.1 7801), .int (w.1 7802), .int (w.1 7803), .ref 79, .int (c.1 7805)] : List Value).set 0 (.int x))) = HP c (setS w 7800 x) m v E := rfl
set_option maxRecDepth 10000 in
theorem hps_78_1 (x : Int32) : (HP c w m v E).set 78 (.inr (3, ([.int (w.1 7800), .int (w.1 7801), .int (w.1 7802), .int (w.1 7803), .ref 79, .int (c.1 7805)] : List Value).set 1 (.int x))) = HP c (setS w 7801 x) m v E := rfl
set_option maxRecDepth 10000 in
theorem hps_78_2 (x : Int32) : (HP c w m v E).set 78 (.inr (3, ([.int (w.1 7800), .int (w.1 7801), .int (w.1 7802), .int (w.1 7803), .ref 79, .int (c.1 7805)] : List Value).set 2 (.int x))) = HP c (setS w 7802 x) m v E := rfl
set_option maxRecDepth 10000 in
theorem hps_78_3 (x : Int32) : (HP c w m v E).set 78 (.inr (3, ([.int (w.1 7800), .int (w.1 7801), .int (w.1 7802), .int (w.1 7803), .ref 79, .int (c.1 7805)] : List Value).set 3 (.int x))) = HP c (setS w 7803 x) m v E := rfl
set_option maxRecDepth 10000 in
theorem hps_78_5 (x : Int32) : (HP c w m v E).set 78 (.inr (3, ([.int (w.1 7800), .int (w.1 7801), .int (w.1 7802), .int (w.1 7803), .ref 79, .int (c.1 7805)] : List Value).set 5 (.int x))) = HP (setS c 7805 x) w m v E := rfl
theorem hpa_79 (g : Nat → Int32) : (HP c w m v E).set 79 (.inl (0, 30, .inl g)) = HP (setA c 79 g) w m v E := rfl
set_option maxRecDepth 10000 in
theorem hps_80_3 (x : Int32) : (HP c w m v E).set 80 (.inr (10, ([.ref 81, .ref 82, .ref 83, .int (m.1 8003), .ref 84, .ref 85, .ref 86, .ref 87, .int (v.1 8008), .int (v.1 8009), .int (v.1 8010), .ref 88, .ref 89, .int (v.1 8013), .int (v.1 8014), .ref 90, .ref 91, .ref 92, .int (v.1 8018), .int (v.1 8019), .int (v.1 8020), .ref 93, .int (m.1 8022), .ref 94, .int (m.1 8024), .int (v.1 8025), .int (v.1 8026), .int (v.1 8027), .int (v.1 8028), .int (v.1 8029), .int (v.1 8030), .ref 95, .ref 96, .ref 97, .ref 98, .ref 99, .ref 100, .ref 101, .int (m.1 8038), .int (v.1 8039), .int (v.1 8040), .int (v.1 8041), .int (v.1 8042)] : List Value).set 3 (.int x))) = HP c w (setS m 8003 x) v E := rfl
set_option maxRecDepth 10000 in
theorem hps_80_8 (x : Int32) : (HP c w m v E).set 80 (.inr (10, ([.ref 81, .ref 82, .ref 83, .int (m.1 8003), .ref 84, .ref 85, .ref 86, .ref 87, .int (v.1 8008), .int (v.1 8009), .int (v.1 8010), .ref 88, .ref 89, .int (v.1 8013), .int (v.1 8014), .ref 90, .ref 91, .ref 92, .int (v.1 8018), .int (v.1 8019), .int (v.1 8020), .ref 93, .int (m.1 8022), .ref 94, .int (m.1 8024), .int (v.1 8025), .int (v.1 8026), .int (v.1 8027), .int (v.1 8028), .int (v.1 8029), .int (v.1 8030), .ref 95, .ref 96, .ref 97, .ref 98, .ref 99, .ref 100, .ref 101, .int (m.1 8038), .int (v.1 8039), .int (v.1 8040), .int (v.1 8041), .int (v.1 8042)] : List Value).set 8 (.int x))) = HP c w m (setS v 8008 x) E := rfl
set_option maxRecDepth 10000 in
theorem hps_80_9 (x : Int32) : (HP c w m v E).set 80 (.inr (10, ([.ref 81, .ref 82, .ref 83, .int (m.1 8003), .ref 84, .ref 85, .ref 86, .ref 87, .int (v.1 8008), .int (v.1 8009), .int (v.1 8010), .ref 88, .ref 89, .int (v.1 8013), .int (v.1 8014), .ref 90, .ref 91, .ref 92, .int (v.1 8018), .int (v.1 8019), .int (v.1 8020), .ref 93, .int (m.1 8022), .ref 94, .int (m.1 8024), .int (v.1 8025), .int (v.1 8026), .int (v.1 8027), .int (v.1 8028), .int (v.1 8029), .int (v.1 8030), .ref 95, .ref 96, .ref 97, .ref 98, .ref 99, .ref 100, .ref 101, .int (m.1 8038), .int (v.1 8039), .int (v.1 8040), .int (v.1 8041), .int (v.1 8042)] : List Value).set 9 (.int x))) = HP c w m (setS v 8009 x) E := rfl
set_option maxRecDepth 10000 in
theorem hps_80_10 (x : Int32) : (HP c w m v E).set 80 (.inr (10, ([.ref 81, .ref 82, .ref 83, .int (m.1 8003), .ref 84, .ref 85, .ref 86, .ref 87, .int (v.1 8008), .int (v.1 8009), .int (v.1 8010), .ref 88, .ref 89, .int (v.1 8013), .int (v.1 8014), .ref 90, .ref 91, .ref 92, .int (v.1 8018), .int (v.1 8019), .int (v.1 8020), .ref 93, .int (m.1 8022), .ref 94, .int (m.1 8024), .int (v.1 8025), .int (v.1 8026), .int (v.1 8027), .int (v.1 8028), .int (v.1 8029), .int (v.1 8030), .ref 95, .ref 96, .ref 97, .ref 98, .ref 99, .ref 100, .ref 101, .int (m.1 8038), .int (v.1 8039), .int (v.1 8040), .int (v.1 8041), .int (v.1 8042)] : List Value).set 10 (.int x))) = HP c w m (setS v 8010 x) E := rfl
set_option maxRecDepth 10000 in
theorem hps_80_13 (x : Int32) : (HP c w m v E).set 80 (.inr (10, ([.ref 81, .ref 82, .ref 83, .int (m.1 8003), .ref 84, .ref 85, .ref 86, .ref 87, .int (v.1 8008), .int (v.1 8009), .int (v.1 8010), .ref 88, .ref 89, .int (v.1 8013), .int (v.1 8014), .ref 90, .ref 91, .ref 92, .int (v.1 8018), .int (v.1 8019), .int (v.1 8020), .ref 93, .int (m.1 8022), .ref 94, .int (m.1 8024), .int (v.1 8025), .int (v.1 8026), .int (v.1 8027), .int (v.1 8028), .int (v.1 8029), .int (v.1 8030), .ref 95, .ref 96, .ref 97, .ref 98, .ref 99, .ref 100, .ref 101, .int (m.1 8038), .int (v.1 8039), .int (v.1 8040), .int (v.1 8041), .int (v.1 8042)] : List Value).set 13 (.int x))) = HP c w m (setS v 8013 x) E := rfl
set_option maxRecDepth 10000 in
theorem hps_80_14 (x : Int32) : (HP c w m v E).set 80 (.inr (10, ([.ref 81, .ref 82, .ref 83, .int (m.1 8003), .ref 84, .ref 85, .ref 86, .ref 87, .int (v.1 8008), .int (v.1 8009), .int (v.1 8010), .ref 88, .ref 89, .int (v.1 8013), .int (v.1 8014), .ref 90, .ref 91, .ref 92, .int (v.1 8018), .int (v.1 8019), .int (v.1 8020), .ref 93, .int (m.1 8022), .ref 94, .int (m.1 8024), .int (v.1 8025), .int (v.1 8026), .int (v.1 8027), .int (v.1 8028), .int (v.1 8029), .int (v.1 8030), .ref 95, .ref 96, .ref 97, .ref 98, .ref 99, .ref 100, .ref 101, .int (m.1 8038), .int (v.1 8039), .int (v.1 8040), .int (v.1 8041), .int (v.1 8042)] : List Value).set 14 (.int x))) = HP c w m (setS v 8014 x) E := rfl
set_option maxRecDepth 10000 in
theorem hps_80_18 (x : Int32) : (HP c w m v E).set 80 (.inr (10, ([.ref 81, .ref 82, .ref 83, .int (m.1 8003), .ref 84, .ref 85, .ref 86, .ref 87, .int (v.1 8008), .int (v.1 8009), .int (v.1 8010), .ref 88, .ref 89, .int (v.1 8013), .int (v.1 8014), .ref 90, .ref 91, .ref 92, .int (v.1 8018), .int (v.1 8019), .int (v.1 8020), .ref 93, .int (m.1 8022), .ref 94, .int (m.1 8024), .int (v.1 8025), .int (v.1 8026), .int (v.1 8027), .int (v.1 8028), .int (v.1 8029), .int (v.1 8030), .ref 95, .ref 96, .ref 97, .ref 98, .ref 99, .ref 100, .ref 101, .int (m.1 8038), .int (v.1 8039), .int (v.1 8040), .int (v.1 8041), .int (v.1 8042)] : List Value).set 18 (.int x))) = HP c w m (setS v 8018 x) E := rfl
set_option maxRecDepth 10000 in
theorem hps_80_19 (x : Int32) : (HP c w m v E).set 80 (.inr (10, ([.ref 81, .ref 82, .ref 83, .int (m.1 8003), .ref 84, .ref 85, .ref 86, .ref 87, .int (v.1 8008), .int (v.1 8009), .int (v.1 8010), .ref 88, .ref 89, .int (v.1 8013), .int (v.1 8014), .ref 90, .ref 91, .ref 92, .int (v.1 8018), .int (v.1 8019), .int (v.1 8020), .ref 93, .int (m.1 8022), .ref 94, .int (m.1 8024), .int (v.1 8025), .int (v.1 8026), .int (v.1 8027), .int (v.1 8028), .int (v.1 8029), .int (v.1 8030), .ref 95, .ref 96, .ref 97, .ref 98, .ref 99, .ref 100, .ref 101, .int (m.1 8038), .int (v.1 8039), .int (v.1 8040), .int (v.1 8041), .int (v.1 8042)] : List Value).set 19 (.int x))) = HP c w m (setS v 8019 x) E := rfl
set_option maxRecDepth 10000 in
theorem hps_80_20 (x : Int32) : (HP c w m v E).set 80 (.inr (10, ([.ref 81, .ref 82, .ref 83, .int (m.1 8003), .ref 84, .ref 85, .ref 86, .ref 87, .int (v.1 8008), .int (v.1 8009), .int (v.1 8010), .ref 88, .ref 89, .int (v.1 8013), .int (v.1 8014), .ref 90, .ref 91, .ref 92, .int (v.1 8018), .int (v.1 8019), .int (v.1 8020), .ref 93, .int (m.1 8022), .ref 94, .int (m.1 8024), .int (v.1 8025), .int (v.1 8026), .int (v.1 8027), .int (v.1 8028), .int (v.1 8029), .int (v.1 8030), .ref 95, .ref 96, .ref 97, .ref 98, .ref 99, .ref 100, .ref 101, .int (m.1 8038), .int (v.1 8039), .int (v.1 8040), .int (v.1 8041), .int (v.1 8042)] : List Value).set 20 (.int x))) = HP c w m (setS v 8020 x) E := rfl
set_option maxRecDepth 10000 in
theorem hps_80_22 (x : Int32) : (HP c w m v E).set 80 (.inr (10, ([.ref 81, .ref 82, .ref 83, .int (m.1 8003), .ref 84, .ref 85, .ref 86, .ref 87, .int (v.1 8008), .int (v.1 8009), .int (v.1 8010), .ref 88, .ref 89, .int (v.1 8013), .int (v.1 8014), .ref 90, .ref 91, .ref 92, .int (v.1 8018), .int (v.1 8019), .int (v.1 8020), .ref 93, .int (m.1 8022), .ref 94, .int (m.1 8024), .int (v.1 8025), .int (v.1 8026), .int (v.1 8027), .int (v.1 8028), .int (v.1 8029), .int (v.1 8030), .ref 95, .ref 96, .ref 97, .ref 98, .ref 99, .ref 100, .ref 101, .int (m.1 8038), .int (v.1 8039), .int (v.1 8040), .int (v.1 8041), .int (v.1 8042)] : List Value).set 22 (.int x))) = HP c w (setS m 8022 x) v E := rfl
set_option maxRecDepth 10000 in
theorem hps_80_24 (x : Int32) : (HP c w m v E).set 80 (.inr (10, ([.ref 81, .ref 82, .ref 83, .int (m.1 8003), .ref 84, .ref 85, .ref 86, .ref 87, .int (v.1 8008), .int (v.1 8009), .int (v.1 8010), .ref 88, .ref 89, .int (v.1 8013), .int (v.1 8014), .ref 90, .ref 91, .ref 92, .int (v.1 8018), .int (v.1 8019), .int (v.1 8020), .ref 93, .int (m.1 8022), .ref 94, .int (m.1 8024), .int (v.1 8025), .int (v.1 8026), .int (v.1 8027), .int (v.1 8028), .int (v.1 8029), .int (v.1 8030), .ref 95, .ref 96, .ref 97, .ref 98, .ref 99, .ref 100, .ref 101, .int (m.1 8038), .int (v.1 8039), .int (v.1 8040), .int (v.1 8041), .int (v.1 8042)] : List Value).set 24 (.int x))) = HP c w (setS m 8024 x) v E := rfl
set_option maxRecDepth 10000 in
theorem hps_80_25 (x : Int32) : (HP c w m v E).set 80 (.inr (10, ([.ref 81, .ref 82, .ref 83, .int (m.1 8003), .ref 84, .ref 85, .ref 86, .ref 87, .int (v.1 8008), .int (v.1 8009), .int (v.1 8010), .ref 88, .ref 89, .int (v.1 8013), .int (v.1 8014), .ref 90, .ref 91, .ref 92, .int (v.1 8018), .int (v.1 8019), .int (v.1 8020), .ref 93, .int (m.1 8022), .ref 94, .int (m.1 8024), .int (v.1 8025), .int (v.1 8026), .int (v.1 8027), .int (v.1 8028), .int (v.1 8029), .int (v.1 8030), .ref 95, .ref 96, .ref 97, .ref 98, .ref 99, .ref 100, .ref 101, .int (m.1 8038), .int (v.1 8039), .int (v.1 8040), .int (v.1 8041), .int (v.1 8042)] : List Value).set 25 (.int x))) = HP c w m (setS v 8025 x) E := rfl
set_option maxRecDepth 10000 in
theorem hps_80_26 (x : Int32) : (HP c w m v E).set 80 (.inr (10, ([.ref 81, .ref 82, .ref 83, .int (m.1 8003), .ref 84, .ref 85, .ref 86, .ref 87, .int (v.1 8008), .int (v.1 8009), .int (v.1 8010), .ref 88, .ref 89, .int (v.1 8013), .int (v.1 8014), .ref 90, .ref 91, .ref 92, .int (v.1 8018), .int (v.1 8019), .int (v.1 8020), .ref 93, .int (m.1 8022), .ref 94, .int (m.1 8024), .int (v.1 8025), .int (v.1 8026), .int (v.1 8027), .int (v.1 8028), .int (v.1 8029), .int (v.1 8030), .ref 95, .ref 96, .ref 97, .ref 98, .ref 99, .ref 100, .ref 101, .int (m.1 8038), .int (v.1 8039), .int (v.1 8040), .int (v.1 8041), .int (v.1 8042)] : List Value).set 26 (.int x))) = HP c w m (setS v 8026 x) E := rfl
set_option maxRecDepth 10000 in
theorem hps_80_27 (x : Int32) : (HP c w m v E).set 80 (.inr (10, ([.ref 81, .ref 82, .ref 83, .int (m.1 8003), .ref 84, .ref 85, .ref 86, .ref 87, .int (v.1 8008), .int (v.1 8009), .int (v.1 8010), .ref 88, .ref 89, .int (v.1 8013), .int (v.1 8014), .ref 90, .ref 91, .ref 92, .int (v.1 8018), .int (v.1 8019), .int (v.1 8020), .ref 93, .int (m.1 8022), .ref 94, .int (m.1 8024), .int (v.1 8025), .int (v.1 8026), .int (v.1 8027), .int (v.1 8028), .int (v.1 8029), .int (v.1 8030), .ref 95, .ref 96, .ref 97, .ref 98, .ref 99, .ref 100, .ref 101, .int (m.1 8038), .int (v.1 8039), .int (v.1 8040), .int (v.1 8041), .int (v.1 8042)] : List Value).set 27 (.int x))) = HP c w m (setS v 8027 x) E := rfl
set_option maxRecDepth 10000 in
theorem hps_80_28 (x : Int32) : (HP c w m v E).set 80 (.inr (10, ([.ref 81, .ref 82, .ref 83, .int (m.1 8003), .ref 84, .ref 85, .ref 86, .ref 87, .int (v.1 8008), .int (v.1 8009), .int (v.1 8010), .ref 88, .ref 89, .int (v.1 8013), .int (v.1 8014), .ref 90, .ref 91, .ref 92, .int (v.1 8018), .int (v.1 8019), .int (v.1 8020), .ref 93, .int (m.1 8022), .ref 94, .int (m.1 8024), .int (v.1 8025), .int (v.1 8026), .int (v.1 8027), .int (v.1 8028), .int (v.1 8029), .int (v.1 8030), .ref 95, .ref 96, .ref 97, .ref 98, .ref 99, .ref 100, .ref 101, .int (m.1 8038), .int (v.1 8039), .int (v.1 8040), .int (v.1 8041), .int (v.1 8042)] : List Value).set 28 (.int x))) = HP c w m (setS v 8028 x) E := rfl
set_option maxRecDepth 10000 in
theorem hps_80_29 (x : Int32) : (HP c w m v E).set 80 (.inr (10, ([.ref 81, .ref 82, .ref 83, .int (m.1 8003), .ref 84, .ref 85, .ref 86, .ref 87, .int (v.1 8008), .int (v.1 8009), .int (v.1 8010), .ref 88, .ref 89, .int (v.1 8013), .int (v.1 8014), .ref 90, .ref 91, .ref 92, .int (v.1 8018), .int (v.1 8019), .int (v.1 8020), .ref 93, .int (m.1 8022), .ref 94, .int (m.1 8024), .int (v.1 8025), .int (v.1 8026), .int (v.1 8027), .int (v.1 8028), .int (v.1 8029), .int (v.1 8030), .ref 95, .ref 96, .ref 97, .ref 98, .ref 99, .ref 100, .ref 101, .int (m.1 8038), .int (v.1 8039), .int (v.1 8040), .int (v.1 8041), .int (v.1 8042)] : List Value).set 29 (.int x))) = HP c w m (setS v 8029 x) E := rfl
set_option maxRecDepth 10000 in
theorem hps_80_30 (x : Int32) : (HP c w m v E).set 80 (.inr (10, ([.ref 81, .ref 82, .ref 83, .int (m.1 8003), .ref 84, .ref 85, .ref 86, .ref 87, .int (v.1 8008), .int (v.1 8009), .int (v.1 8010), .ref 88, .ref 89, .int (v.1 8013), .int (v.1 8014), .ref 90, .ref 91, .ref 92, .int (v.1 8018), .int (v.1 8019), .int (v.1 8020), .ref 93, .int (m.1 8022), .ref 94, .int (m.1 8024), .int (v.1 8025), .int (v.1 8026), .int (v.1 8027), .int (v.1 8028), .int (v.1 8029), .int (v.1 8030), .ref 95, .ref 96, .ref 97, .ref 98, .ref 99, .ref 100, .ref 101, .int (m.1 8038), .int (v.1 8039), .int (v.1 8040), .int (v.1 8041), .int (v.1 8042)] : List Value).set 30 (.int x))) = HP c w m (setS v 8030 x) E := rfl
set_option maxRecDepth 10000 in
theorem hps_80_38 (x : Int32) : (HP c w m v E).set 80 (.inr (10, ([.ref 81, .ref 82, .ref 83, .int (m.1 8003), .ref 84, .ref 85, .ref 86, .ref 87, .int (v.1 8008), .int (v.1 8009), .int (v.1 8010), .ref 88, .ref 89, .int (v.1 8013), .int (v.1 8014), .ref 90, .ref 91, .ref 92, .int (v.1 8018), .int (v.1 8019), .int (v.1 8020), .ref 93, .int (m.1 8022), .ref 94, .int (m.1 8024), .int (v.1 8025), .int (v.1 8026), .int (v.1 8027), .int (v.1 8028), .int (v.1 8029), .int (v.1 8030), .ref 95, .ref 96, .ref 97, .ref 98, .ref 99, .ref 100, .ref 101, .int (m.1 8038), .int (v.1 8039), .int (v.1 8040), .int (v.1 8041), .int (v.1 8042)] : List Value).set 38 (.int x))) = HP c w (setS m 8038 x) v E := rfl
set_option maxRecDepth 10000 in
theorem hps_80_39 (x : Int32) : (HP c w m v E).set 80 (.inr (10, ([.ref 81, .ref 82, .ref 83, .int (m.1 8003), .ref 84, .ref 85, .ref 86, .ref 87, .int (v.1 8008), .int (v.1 8009), .int (v.1 8010), .ref 88, .ref 89, .int (v.1 8013), .int (v.1 8014), .ref 90, .ref 91, .ref 92, .int (v.1 8018), .int (v.1 8019), .int (v.1 8020), .ref 93, .int (m.1 8022), .ref 94, .int (m.1 8024), .int (v.1 8025), .int (v.1 8026), .int (v.1 8027), .int (v.1 8028), .int (v.1 8029), .int (v.1 8030), .ref 95, .ref 96, .ref 97, .ref 98, .ref 99, .ref 100, .ref 101, .int (m.1 8038), .int (v.1 8039), .int (v.1 8040), .int (v.1 8041), .int (v.1 8042)] : List Value).set 39 (.int x))) = HP c w m (setS v 8039 x) E := rfl
set_option maxRecDepth 10000 in
theorem hps_80_40 (x : Int32) : (HP c w m v E).set 80 (.inr (10, ([.ref 81, .ref 82, .ref 83, .int (m.1 8003), .ref 84, .ref 85, .ref 86, .ref 87, .int (v.1 8008), .int (v.1 8009), .int (v.1 8010), .ref 88, .ref 89, .int (v.1 8013), .int (v.1 8014), .ref 90, .ref 91, .ref 92, .int (v.1 8018), .int (v.1 8019), .int (v.1 8020), .ref 93, .int (m.1 8022), .ref 94, .int (m.1 8024), .int (v.1 8025), .int (v.1 8026), .int (v.1 8027), .int (v.1 8028), .int (v.1 8029), .int (v.1 8030), .ref 95, .ref 96, .ref 97, .ref 98, .ref 99, .ref 100, .ref 101, .int (m.1 8038), .int (v.1 8039), .int (v.1 8040), .int (v.1 8041), .int (v.1 8042)] : List Value).set 40 (.int x))) = HP c w m (setS v 8040 x) E := rfl
set_option maxRecDepth 10000 in
theorem hps_80_41 (x : Int32) : (HP c w m v E).set 80 (.inr (10, ([.ref 81, .ref 82, .ref 83, .int (m.1 8003), .ref 84, .ref 85, .ref 86, .ref 87, .int (v.1 8008), .int (v.1 8009), .int (v.1 8010), .ref 88, .ref 89, .int (v.1 8013), .int (v.1 8014), .ref 90, .ref 91, .ref 92, .int (v.1 8018), .int (v.1 8019), .int (v.1 8020), .ref 93, .int (m.1 8022), .ref 94, .int (m.1 8024), .int (v.1 8025), .int (v.1 8026), .int (v.1 8027), .int (v.1 8028), .int (v.1 8029), .int (v.1 8030), .ref 95, .ref 96, .ref 97, .ref 98, .ref 99, .ref 100, .ref 101, .int (m.1 8038), .int (v.1 8039), .int (v.1 8040), .int (v.1 8041), .int (v.1 8042)] : List Value).set 41 (.int x))) = HP c w m (setS v 8041 x) E := rfl
set_option maxRecDepth 10000 in
theorem hps_80_42 (x : Int32) : (HP c w m v E).set 80 (.inr (10, ([.ref 81, .ref 82, .ref 83, .int (m.1 8003), .ref 84, .ref 85, .ref 86, .ref 87, .int (v.1 8008), .int (v.1 8009), .int (v.1 8010), .ref 88, .ref 89, .int (v.1 8013), .int (v.1 8014), .ref 90, .ref 91, .ref 92, .int (v.1 8018), .int (v.1 8019), .int (v.1 8020), .ref 93, .int (m.1 8022), .ref 94, .int (m.1 8024), .int (v.1 8025), .int (v.1 8026), .int (v.1 8027), .int (v.1 8028), .int (v.1 8029), .int (v.1 8030), .ref 95, .ref 96, .ref 97, .ref 98, .ref 99, .ref 100, .ref 101, .int (m.1 8038), .int (v.1 8039), .int (v.1 8040), .int (v.1 8041), .int (v.1 8042)] : List Value).set 42 (.int x))) = HP c w m (setS v 8042 x) E := rfl
theorem hpa_81 (g : Nat → Int32) : (HP c w m v E).set 81 (.inl (0, 300, .inl g)) = HP c w (setA m 81 g) v E := rfl
theorem hpa_82 (g : Nat → Int32) : (HP c w m v E).set 82 (.inl (0, 300, .inl g)) = HP c w (setA m 82 g) v E := rfl
theorem hpa_83 (g : Nat → Int32) : (HP c w m v E).set 83 (.inl (0, 300, .inl g)) = HP c w m (setA v 83 g) E := rfl
theorem hpa_84 (g : Nat → Int32) : (HP c w m v E).set 84 (.inl (0, 200, .inl g)) = HP c w m (setA v 84 g) E := rfl
theorem hpa_85 (g : Nat → Int32) : (HP c w m v E).set 85 (.inl (0, 9, .inl g)) = HP c w m (setA v 85 g) E := rfl
theorem hpa_86 (g : Nat → Int32) : (HP c w m v E).set 86 (.inl (0, 4, .inl g)) = HP c w m (setA v 86 g) E := rfl
theorem hpa_87 (g : Nat → Int32) : (HP c w m v E).set 87 (.inl (0, 4, .inl g)) = HP c w m (setA v 87 g) E := rfl
theorem hpa_88 (g : Nat → Int32) : (HP c w m v E).set 88 (.inl (0, 4, .inl g)) = HP c w m (setA v 88 g) E := rfl
theorem hpa_89 (g : Nat → Int32) : (HP c w m v E).set 89 (.inl (0, 4, .inl g)) = HP c w m (setA v 89 g) E := rfl
theorem hpa_90 (g : Nat → Int32) : (HP c w m v E).set 90 (.inl (1, 81, .inl g)) = HP c w m (setA v 90 g) E := rfl
theorem hpa_91 (g : Nat → Int32) : (HP c w m v E).set 91 (.inl (0, 512, .inl g)) = HP c w m (setA v 91 g) E := rfl
theorem hpa_92 (g : Nat → Int32) : (HP c w m v E).set 92 (.inl (0, 5632, .inl g)) = HP c w m (setA v 92 g) E := rfl
theorem hpa_93 (g : Nat → Int32) : (HP c w m v E).set 93 (.inl (0, 18, .inl g)) = HP c w (setA m 93 g) v E := rfl
theorem hpa_94 (g : Nat → Int32) : (HP c w m v E).set 94 (.inl (0, 200, .inl g)) = HP c w (setA m 94 g) v E := rfl
theorem hpa_95 (g : Nat → Int32) : (HP c w m v E).set 95 (.inl (0, 4, .inl g)) = HP c w (setA m 95 g) v E := rfl
theorem hpa_96 (g : Nat → Int32) : (HP c w m v E).set 96 (.inl (0, 4, .inl g)) = HP c w (setA m 96 g) v E := rfl
theorem hpa_97 (g : Nat → Int32) : (HP c w m v E).set 97 (.inl (0, 160, .inl g)) = HP c w (setA m 97 g) v E := rfl
theorem hpa_98 (g : Nat → Int32) : (HP c w m v E).set 98 (.inl (0, 4, .inl g)) = HP c w (setA m 98 g) v E := rfl
theorem hpa_99 (g : Nat → Int32) : (HP c w m v E).set 99 (.inl (0, 4, .inl g)) = HP c w (setA m 99 g) v E := rfl
theorem hpa_100 (g : Nat → Int32) : (HP c w m v E).set 100 (.inl (0, 4, .inl g)) = HP c w (setA m 100 g) v E := rfl
theorem hpa_101 (g : Nat → Int32) : (HP c w m v E).set 101 (.inl (0, 30, .inl g)) = HP c w (setA m 101 g) v E := rfl
theorem hp_len : (HP c w m v E).length = 102 + E.length := by simp only [HP, List.length_cons]; omega
theorem hp_E (k : Nat) : (HP c w m v E)[102 + k]? = E[k]? := by rw [Nat.add_comm]; rfl
theorem hp_setE (k : Nat) (x : kC) : (HP c w m v E).set (102 + k) x = HP c w m v (E.set k x) := by rw [Nat.add_comm]; rfl
theorem hp_app (F : kH) : HP c w m v E ++ F = HP c w m v (E ++ F) := rfl
end kHP
