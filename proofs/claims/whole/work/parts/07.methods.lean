theorem kblk : (∀ w ∈ tables_1_1, w ∈ lw_tbl) ∧ (∀ w ∈ tables_1_2, w ∈ lw_tbl) ∧ (∀ w ∈ tables_1_3, w ∈ lw_tbl) ∧ (∀ w ∈ tables_1_4, w ∈ lw_tbl) ∧ (∀ w ∈ tables_1_5, w ∈ lw_tbl) ∧ (∀ w ∈ tables_1_6, w ∈ lw_tbl) ∧ (∀ w ∈ tables_1_7, w ∈ lw_tbl) ∧ (∀ w ∈ tables_1_8, w ∈ lw_tbl) := by
  simp only [lw_tbl, tables_1, List.mem_append]
  refine ⟨?_, ?_, ?_, ?_, ?_, ?_, ?_, ?_⟩ <;> intro w h <;> simp only [h, true_or, or_true]

theorem km1 (i : Nat) {w : Cond} (h : tables_1_1[i]? = some w) (g : goodWord w = true) : w ∈ kTB := List.mem_filter.mpr ⟨kblk.1 w (List.mem_of_getElem? h), g⟩
theorem km2 (i : Nat) {w : Cond} (h : tables_1_2[i]? = some w) (g : goodWord w = true) : w ∈ kTB := List.mem_filter.mpr ⟨kblk.2.1 w (List.mem_of_getElem? h), g⟩
theorem km3 (i : Nat) {w : Cond} (h : tables_1_3[i]? = some w) (g : goodWord w = true) : w ∈ kTB := List.mem_filter.mpr ⟨kblk.2.2.1 w (List.mem_of_getElem? h), g⟩
theorem km4 (i : Nat) {w : Cond} (h : tables_1_4[i]? = some w) (g : goodWord w = true) : w ∈ kTB := List.mem_filter.mpr ⟨kblk.2.2.2.1 w (List.mem_of_getElem? h), g⟩
theorem km5 (i : Nat) {w : Cond} (h : tables_1_5[i]? = some w) (g : goodWord w = true) : w ∈ kTB := List.mem_filter.mpr ⟨kblk.2.2.2.2.1 w (List.mem_of_getElem? h), g⟩
theorem km6 (i : Nat) {w : Cond} (h : tables_1_6[i]? = some w) (g : goodWord w = true) : w ∈ kTB := List.mem_filter.mpr ⟨kblk.2.2.2.2.2.1 w (List.mem_of_getElem? h), g⟩
theorem km7 (i : Nat) {w : Cond} (h : tables_1_7[i]? = some w) (g : goodWord w = true) : w ∈ kTB := List.mem_filter.mpr ⟨kblk.2.2.2.2.2.2.1 w (List.mem_of_getElem? h), g⟩
theorem km8 (i : Nat) {w : Cond} (h : tables_1_8[i]? = some w) (g : goodWord w = true) : w ∈ kTB := List.mem_filter.mpr ⟨kblk.2.2.2.2.2.2.2 w (List.mem_of_getElem? h), g⟩
theorem km0 (i : Nat) {w : Cond} (h : (k2_sels lw_privs)[i]? = some w) (g : goodWord w = true) : w ∈ kTB := List.mem_filter.mpr ⟨List.mem_append_left _ (List.mem_of_getElem? h), g⟩
theorem kmN1 (i : Nat) {w : Cond} (h : tables_1_1[i]? = some w) (g : kIsN w = true) : w ∈ kNB := List.mem_filter.mpr ⟨kblk.1 w (List.mem_of_getElem? h), g⟩
theorem kmL1 (i : Nat) {w : Cond} (h : tables_1_1[i]? = some w) : w ∈ lw_tbl := kblk.1 w (List.mem_of_getElem? h)
theorem kmN2 (i : Nat) {w : Cond} (h : tables_1_2[i]? = some w) (g : kIsN w = true) : w ∈ kNB := List.mem_filter.mpr ⟨kblk.2.1 w (List.mem_of_getElem? h), g⟩
theorem kmL2 (i : Nat) {w : Cond} (h : tables_1_2[i]? = some w) : w ∈ lw_tbl := kblk.2.1 w (List.mem_of_getElem? h)
theorem kmN3 (i : Nat) {w : Cond} (h : tables_1_3[i]? = some w) (g : kIsN w = true) : w ∈ kNB := List.mem_filter.mpr ⟨kblk.2.2.1 w (List.mem_of_getElem? h), g⟩
theorem kmL3 (i : Nat) {w : Cond} (h : tables_1_3[i]? = some w) : w ∈ lw_tbl := kblk.2.2.1 w (List.mem_of_getElem? h)
theorem kmN4 (i : Nat) {w : Cond} (h : tables_1_4[i]? = some w) (g : kIsN w = true) : w ∈ kNB := List.mem_filter.mpr ⟨kblk.2.2.2.1 w (List.mem_of_getElem? h), g⟩
theorem kmL4 (i : Nat) {w : Cond} (h : tables_1_4[i]? = some w) : w ∈ lw_tbl := kblk.2.2.2.1 w (List.mem_of_getElem? h)
theorem kmN5 (i : Nat) {w : Cond} (h : tables_1_5[i]? = some w) (g : kIsN w = true) : w ∈ kNB := List.mem_filter.mpr ⟨kblk.2.2.2.2.1 w (List.mem_of_getElem? h), g⟩
theorem kmL5 (i : Nat) {w : Cond} (h : tables_1_5[i]? = some w) : w ∈ lw_tbl := kblk.2.2.2.2.1 w (List.mem_of_getElem? h)
theorem kmN6 (i : Nat) {w : Cond} (h : tables_1_6[i]? = some w) (g : kIsN w = true) : w ∈ kNB := List.mem_filter.mpr ⟨kblk.2.2.2.2.2.1 w (List.mem_of_getElem? h), g⟩
theorem kmL6 (i : Nat) {w : Cond} (h : tables_1_6[i]? = some w) : w ∈ lw_tbl := kblk.2.2.2.2.2.1 w (List.mem_of_getElem? h)
theorem kmN7 (i : Nat) {w : Cond} (h : tables_1_7[i]? = some w) (g : kIsN w = true) : w ∈ kNB := List.mem_filter.mpr ⟨kblk.2.2.2.2.2.2.1 w (List.mem_of_getElem? h), g⟩
theorem kmL7 (i : Nat) {w : Cond} (h : tables_1_7[i]? = some w) : w ∈ lw_tbl := kblk.2.2.2.2.2.2.1 w (List.mem_of_getElem? h)
theorem kmN8 (i : Nat) {w : Cond} (h : tables_1_8[i]? = some w) (g : kIsN w = true) : w ∈ kNB := List.mem_filter.mpr ⟨kblk.2.2.2.2.2.2.2 w (List.mem_of_getElem? h), g⟩
theorem kmL8 (i : Nat) {w : Cond} (h : tables_1_8[i]? = some w) : w ∈ lw_tbl := kblk.2.2.2.2.2.2.2 w (List.mem_of_getElem? h)
-- methods
abbrev Y_J0_charAt_5068e : kM := (⟨"java/lang/String", "charAt", "(I)C"⟩, prog_16_method_56_code, 2, (some .char))
set_option maxRecDepth 20000 in
theorem mv_J0_charAt_5068e : kMV Y_J0_charAt_5068e 1 := ⟨km3 40 rfl rfl, km1 14 rfl rfl, by decide +kernel, ⟨by decide +kernel, by decide +kernel, by decide +kernel⟩, by decide⟩
set_option maxRecDepth 20000 in
theorem in_J0_charAt_5068e : Cond.instanceMethod Y_J0_charAt_5068e.1 ∈ kTB := km3 38 rfl rfl
set_option maxRecDepth 20000 in
theorem se_J0_charAt_5068e : Cond.selects Y_J0_charAt_5068e.1.cls Y_J0_charAt_5068e.1 Y_J0_charAt_5068e.1 ∈ kTB := km3 39 rfl rfl
abbrev Y_J0_checkIndex_df160 : kM := (⟨"java/lang/String", "checkIndex", "(II)V"⟩, prog_16_method_155_code, 2, none)
set_option maxRecDepth 20000 in
theorem mv_J0_checkIndex_df160 : kMV Y_J0_checkIndex_df160 2 := ⟨km3 50 rfl rfl, km1 14 rfl rfl, by decide +kernel, ⟨by decide +kernel, by decide +kernel, by decide +kernel⟩, by decide⟩
set_option maxRecDepth 20000 in
theorem st_J0_checkIndex_df160 : Cond.static Y_J0_checkIndex_df160.1 ∈ kTB := km3 49 rfl rfl
abbrev Y_J0_coder_7d493 : kM := (⟨"java/lang/String", "coder", "()B"⟩, prog_16_method_152_code, 1, (some .byte))
set_option maxRecDepth 20000 in
theorem mv_J0_coder_7d493 : kMV Y_J0_coder_7d493 0 := ⟨km3 34 rfl rfl, km1 14 rfl rfl, by decide +kernel, ⟨by decide +kernel, by decide +kernel, by decide +kernel⟩, by decide⟩
set_option maxRecDepth 20000 in
theorem in_J0_coder_7d493 : Cond.instanceMethod Y_J0_coder_7d493.1 ∈ kTB := km3 32 rfl rfl
set_option maxRecDepth 20000 in
theorem se_J0_coder_7d493 : Cond.selects Y_J0_coder_7d493.1.cls Y_J0_coder_7d493.1 Y_J0_coder_7d493.1 ∈ kTB := km3 33 rfl rfl
abbrev Y_J0_isLatin1_aae02 : kM := (⟨"java/lang/String", "isLatin1", "()Z"⟩, prog_16_method_154_code, 1, (some .boolean))
set_option maxRecDepth 20000 in
theorem mv_J0_isLatin1_aae02 : kMV Y_J0_isLatin1_aae02 0 := ⟨km3 44 rfl rfl, km1 14 rfl rfl, by decide +kernel, ⟨by decide +kernel, by decide +kernel, by decide +kernel⟩, by decide⟩
set_option maxRecDepth 20000 in
theorem in_J0_isLatin1_aae02 : Cond.instanceMethod Y_J0_isLatin1_aae02.1 ∈ kTB := km3 42 rfl rfl
set_option maxRecDepth 20000 in
theorem se_J0_isLatin1_aae02 : Cond.selects Y_J0_isLatin1_aae02.1.cls Y_J0_isLatin1_aae02.1 Y_J0_isLatin1_aae02.1 ∈ kTB := km3 43 rfl rfl
abbrev Y_J0_length_8abf5 : kM := (⟨"java/lang/String", "length", "()I"⟩, prog_16_method_54_code, 1, (some .int))
set_option maxRecDepth 20000 in
theorem mv_J0_length_8abf5 : kMV Y_J0_length_8abf5 0 := ⟨km3 30 rfl rfl, km1 14 rfl rfl, by decide +kernel, ⟨by decide +kernel, by decide +kernel, by decide +kernel⟩, by decide⟩
set_option maxRecDepth 20000 in
theorem in_J0_length_8abf5 : Cond.instanceMethod Y_J0_length_8abf5.1 ∈ kTB := km3 28 rfl rfl
set_option maxRecDepth 20000 in
theorem se_J0_length_8abf5 : Cond.selects Y_J0_length_8abf5.1.cls Y_J0_length_8abf5.1 Y_J0_length_8abf5.1 ∈ kTB := km3 29 rfl rfl
abbrev Y_J1_charAt_3b067 : kM := (⟨"java/lang/StringLatin1", "charAt", "([BI)C"⟩, prog_17_method_2_code, 2, (some .char))
set_option maxRecDepth 20000 in
theorem mv_J1_charAt_3b067 : kMV Y_J1_charAt_3b067 2 := ⟨km3 47 rfl rfl, km1 15 rfl rfl, by decide +kernel, ⟨by decide +kernel, by decide +kernel, by decide +kernel⟩, by decide⟩
set_option maxRecDepth 20000 in
theorem st_J1_charAt_3b067 : Cond.static Y_J1_charAt_3b067.1 ∈ kTB := km3 46 rfl rfl
abbrev Y_J2_charAt_3b067 : kM := (⟨"java/lang/StringUTF16", "charAt", "([BI)C"⟩, prog_18_method_83_code, 2, (some .char))
set_option maxRecDepth 20000 in
theorem mv_J2_charAt_3b067 : kMV Y_J2_charAt_3b067 2 := ⟨km3 58 rfl rfl, km1 17 rfl rfl, by decide +kernel, ⟨by decide +kernel, by decide +kernel, by decide +kernel⟩, by decide⟩
set_option maxRecDepth 20000 in
theorem st_J2_charAt_3b067 : Cond.static Y_J2_charAt_3b067.1 ∈ kTB := km3 57 rfl rfl
abbrev Y_J2_checkIndex_2214a : kM := (⟨"java/lang/StringUTF16", "checkIndex", "(I[B)V"⟩, prog_18_method_91_code, 2, none)
set_option maxRecDepth 20000 in
theorem mv_J2_checkIndex_2214a : kMV Y_J2_checkIndex_2214a 2 := ⟨km3 61 rfl rfl, km1 17 rfl rfl, by decide +kernel, ⟨by decide +kernel, by decide +kernel, by decide +kernel⟩, by decide⟩
set_option maxRecDepth 20000 in
theorem st_J2_checkIndex_2214a : Cond.static Y_J2_checkIndex_2214a.1 ∈ kTB := km3 60 rfl rfl
abbrev Y_J2_getChar_3b067 : kM := (⟨"java/lang/StringUTF16", "getChar", "([BI)C"⟩, prog_18_method_5_code, 2, (some .char))
set_option maxRecDepth 20000 in
theorem mv_J2_getChar_3b067 : kMV Y_J2_getChar_3b067 2 := ⟨km3 68 rfl rfl, km1 17 rfl rfl, by decide +kernel, ⟨by decide +kernel, by decide +kernel, by decide +kernel⟩, by decide⟩
set_option maxRecDepth 20000 in
theorem st_J2_getChar_3b067 : Cond.static Y_J2_getChar_3b067.1 ∈ kTB := km3 67 rfl rfl
abbrev Y_J2_length_9d52b : kM := (⟨"java/lang/StringUTF16", "length", "([B)I"⟩, prog_18_method_6_code, 1, (some .int))
set_option maxRecDepth 20000 in
theorem mv_J2_length_9d52b : kMV Y_J2_length_9d52b 1 := ⟨km3 64 rfl rfl, km1 17 rfl rfl, by decide +kernel, ⟨by decide +kernel, by decide +kernel, by decide +kernel⟩, by decide⟩
set_option maxRecDepth 20000 in
theorem st_J2_length_9d52b : Cond.static Y_J2_length_9d52b.1 ∈ kTB := km3 63 rfl rfl
abbrev Y_J3_checkIndex_8e157 : kM := (⟨"jdk/internal/util/Preconditions", "checkIndex", "(IILjava/util/function/BiFunction;)I"⟩, prog_21_method_11_code, 3, (some .int))
set_option maxRecDepth 20000 in
theorem mv_J3_checkIndex_8e157 : kMV Y_J3_checkIndex_8e157 3 := ⟨km3 55 rfl rfl, km1 16 rfl rfl, by decide +kernel, ⟨by decide +kernel, by decide +kernel, by decide +kernel⟩, by decide⟩
set_option maxRecDepth 20000 in
theorem st_J3_checkIndex_8e157 : Cond.static Y_J3_checkIndex_8e157.1 ∈ kTB := km3 54 rfl rfl
abbrev Y_J6_bitCount_0f7a4 : kM := (⟨"java/lang/Integer", "bitCount", "(I)I"⟩, prog_14_method_49_code, 1, (some .int))
set_option maxRecDepth 20000 in
theorem mv_J6_bitCount_0f7a4 : kMV Y_J6_bitCount_0f7a4 1 := ⟨km4 188 rfl rfl, km1 18 rfl rfl, by decide +kernel, ⟨by decide +kernel, by decide +kernel, by decide +kernel⟩, by decide⟩
set_option maxRecDepth 20000 in
theorem st_J6_bitCount_0f7a4 : Cond.static Y_J6_bitCount_0f7a4.1 ∈ kTB := km4 187 rfl rfl
abbrev Y_J7_copyOf_59c91 : kM := (⟨"java/util/Arrays", "copyOf", "([II)[I"⟩, prog_20_method_123_code, 3, (some (.array .int)))
set_option maxRecDepth 20000 in
theorem mv_J7_copyOf_59c91 : kMV Y_J7_copyOf_59c91 2 := ⟨km3 133 rfl rfl, km1 10 rfl rfl, by decide +kernel, ⟨by decide +kernel, by decide +kernel, by decide +kernel⟩, by decide⟩
set_option maxRecDepth 20000 in
theorem st_J7_copyOf_59c91 : Cond.static Y_J7_copyOf_59c91.1 ∈ kTB := km3 132 rfl rfl
abbrev Y_J7_fill_53178 : kM := (⟨"java/util/Arrays", "fill", "([II)V"⟩, prog_20_method_103_code, 4, none)
set_option maxRecDepth 20000 in
theorem mv_J7_fill_53178 : kMV Y_J7_fill_53178 2 := ⟨km2 87 rfl rfl, km1 10 rfl rfl, by decide +kernel, ⟨by decide +kernel, by decide +kernel, by decide +kernel⟩, by decide⟩
set_option maxRecDepth 20000 in
theorem st_J7_fill_53178 : Cond.static Y_J7_fill_53178.1 ∈ kTB := km2 86 rfl rfl
abbrev Y_X0_fill : kM := (⟨"MendedTube$Ageing", "fill", "(III)V"⟩, prog_2_method_4_code, 5, none)
set_option maxRecDepth 20000 in
theorem mv_X0_fill : kMV Y_X0_fill 3 := ⟨km4 109 rfl rfl, km1 8 rfl rfl, by decide +kernel, ⟨by decide +kernel, by decide +kernel, by decide +kernel⟩, by decide⟩
set_option maxRecDepth 20000 in
theorem in_X0_fill : Cond.instanceMethod Y_X0_fill.1 ∈ kTB := km4 108 rfl rfl
set_option maxRecDepth 20000 in
theorem se_X0_fill : Cond.selects Y_X0_fill.1.cls Y_X0_fill.1 Y_X0_fill.1 ∈ kTB := km0 47 rfl rfl
abbrev Y_X0_init : kM := (⟨"MendedTube$Ageing", "<init>", "(LMendedTube$Light;)V"⟩, prog_2_method_1_code, 2, none)
set_option maxRecDepth 20000 in
theorem mv_X0_init : kMV Y_X0_init 1 := ⟨km2 41 rfl rfl, km1 8 rfl rfl, by decide +kernel, ⟨by decide +kernel, by decide +kernel, by decide +kernel⟩, by decide⟩
set_option maxRecDepth 20000 in
theorem in_X0_init : Cond.instanceMethod Y_X0_init.1 ∈ kTB := km2 40 rfl rfl
abbrev Y_X0_lasting : kM := (⟨"MendedTube$Ageing", "lasting", "(LMendedTube$Bench;)I"⟩, prog_2_method_2_code, 3, (some .int))
set_option maxRecDepth 20000 in
theorem mv_X0_lasting : kMV Y_X0_lasting 1 := ⟨km4 101 rfl rfl, km1 8 rfl rfl, by decide +kernel, ⟨by decide +kernel, by decide +kernel, by decide +kernel⟩, by decide⟩
set_option maxRecDepth 20000 in
theorem in_X0_lasting : Cond.instanceMethod Y_X0_lasting.1 ∈ kTB := km4 100 rfl rfl
set_option maxRecDepth 20000 in
theorem se_X0_lasting : Cond.selects Y_X0_lasting.1.cls Y_X0_lasting.1 Y_X0_lasting.1 ∈ kTB := km0 46 rfl rfl
abbrev Y_X0_longest : kM := (⟨"MendedTube$Ageing", "longest", "(II)I"⟩, prog_2_method_5_code, 5, (some .int))
set_option maxRecDepth 20000 in
theorem mv_X0_longest : kMV Y_X0_longest 2 := ⟨km4 115 rfl rfl, km1 8 rfl rfl, by decide +kernel, ⟨by decide +kernel, by decide +kernel, by decide +kernel⟩, by decide⟩
set_option maxRecDepth 20000 in
theorem in_X0_longest : Cond.instanceMethod Y_X0_longest.1 ∈ kTB := km4 114 rfl rfl
set_option maxRecDepth 20000 in
theorem se_X0_longest : Cond.selects Y_X0_longest.1.cls Y_X0_longest.1 Y_X0_longest.1 ∈ kTB := km0 48 rfl rfl
abbrev Y_X0_placeTurned : kM := (⟨"MendedTube$Ageing", "placeTurned", "(I)I"⟩, prog_2_method_7_code, 7, (some .int))
set_option maxRecDepth 20000 in
theorem mv_X0_placeTurned : kMV Y_X0_placeTurned 1 := ⟨km4 132 rfl rfl, km1 8 rfl rfl, by decide +kernel, ⟨by decide +kernel, by decide +kernel, by decide +kernel⟩, by decide⟩
set_option maxRecDepth 20000 in
theorem in_X0_placeTurned : Cond.instanceMethod Y_X0_placeTurned.1 ∈ kTB := km4 131 rfl rfl
set_option maxRecDepth 20000 in
theorem se_X0_placeTurned : Cond.selects Y_X0_placeTurned.1.cls Y_X0_placeTurned.1 Y_X0_placeTurned.1 ∈ kTB := km0 50 rfl rfl
abbrev Y_X0_quarterMore : kM := (⟨"MendedTube$Ageing", "quarterMore", "(II)I"⟩, prog_2_method_6_code, 3, (some .int))
set_option maxRecDepth 20000 in
theorem mv_X0_quarterMore : kMV Y_X0_quarterMore 2 := ⟨km4 118 rfl rfl, km1 8 rfl rfl, by decide +kernel, ⟨by decide +kernel, by decide +kernel, by decide +kernel⟩, by decide⟩
set_option maxRecDepth 20000 in
theorem st_X0_quarterMore : Cond.static Y_X0_quarterMore.1 ∈ kTB := km4 117 rfl rfl
abbrev Y_X0_turnsNow : kM := (⟨"MendedTube$Ageing", "turnsNow", "()I"⟩, prog_2_method_3_code, 3, (some .int))
set_option maxRecDepth 20000 in
theorem mv_X0_turnsNow : kMV Y_X0_turnsNow 0 := ⟨km4 124 rfl rfl, km1 8 rfl rfl, by decide +kernel, ⟨by decide +kernel, by decide +kernel, by decide +kernel⟩, by decide⟩
set_option maxRecDepth 20000 in
theorem in_X0_turnsNow : Cond.instanceMethod Y_X0_turnsNow.1 ∈ kTB := km4 123 rfl rfl
set_option maxRecDepth 20000 in
theorem se_X0_turnsNow : Cond.selects Y_X0_turnsNow.1.cls Y_X0_turnsNow.1 Y_X0_turnsNow.1 ∈ kTB := km0 49 rfl rfl
abbrev Y_X10_act : kM := (⟨"MendedTubeModel", "act", "(III)I"⟩, prog_12_method_125_code, 5, (some .int))
set_option maxRecDepth 20000 in
theorem mv_X10_act : kMV Y_X10_act 3 := ⟨km8 59 rfl rfl, km1 11 rfl rfl, by decide +kernel, ⟨by decide +kernel, by decide +kernel, by decide +kernel⟩, by decide⟩
set_option maxRecDepth 20000 in
theorem in_X10_act : Cond.instanceMethod Y_X10_act.1 ∈ kTB := km8 57 rfl rfl
set_option maxRecDepth 20000 in
theorem se_X10_act : Cond.selects Y_X10_act.1.cls Y_X10_act.1 Y_X10_act.1 ∈ kTB := km8 58 rfl rfl
abbrev Y_X10_again : kM := (⟨"MendedTubeModel", "again", "()I"⟩, prog_12_method_130_code, 2, (some .int))
set_option maxRecDepth 20000 in
theorem mv_X10_again : kMV Y_X10_again 0 := ⟨km8 103 rfl rfl, km1 11 rfl rfl, by decide +kernel, ⟨by decide +kernel, by decide +kernel, by decide +kernel⟩, by decide⟩
set_option maxRecDepth 20000 in
theorem in_X10_again : Cond.instanceMethod Y_X10_again.1 ∈ kTB := km8 101 rfl rfl
set_option maxRecDepth 20000 in
theorem se_X10_again : Cond.selects Y_X10_again.1.cls Y_X10_again.1 Y_X10_again.1 ∈ kTB := km8 102 rfl rfl
abbrev Y_X10_all : kM := (⟨"MendedTubeModel", "all", "()V"⟩, prog_12_method_103_code, 1, none)
set_option maxRecDepth 20000 in
theorem mv_X10_all : kMV Y_X10_all 0 := ⟨km7 209 rfl rfl, km1 11 rfl rfl, by decide +kernel, ⟨by decide +kernel, by decide +kernel, by decide +kernel⟩, by decide⟩
set_option maxRecDepth 20000 in
theorem in_X10_all : Cond.instanceMethod Y_X10_all.1 ∈ kTB := km7 208 rfl rfl
set_option maxRecDepth 20000 in
theorem se_X10_all : Cond.selects Y_X10_all.1.cls Y_X10_all.1 Y_X10_all.1 ∈ kTB := km0 118 rfl rfl
abbrev Y_X10_alterRow : kM := (⟨"MendedTubeModel", "alterRow", "(III)I"⟩, prog_12_method_87_code, 5, (some .int))
set_option maxRecDepth 20000 in
theorem mv_X10_alterRow : kMV Y_X10_alterRow 3 := ⟨km7 144 rfl rfl, km1 11 rfl rfl, by decide +kernel, ⟨by decide +kernel, by decide +kernel, by decide +kernel⟩, by decide⟩
set_option maxRecDepth 20000 in
theorem in_X10_alterRow : Cond.instanceMethod Y_X10_alterRow.1 ∈ kTB := km7 142 rfl rfl
set_option maxRecDepth 20000 in
theorem se_X10_alterRow : Cond.selects Y_X10_alterRow.1.cls Y_X10_alterRow.1 Y_X10_alterRow.1 ∈ kTB := km7 143 rfl rfl
abbrev Y_X10_at : kM := (⟨"MendedTubeModel", "at", "(II)I"⟩, prog_12_method_9_code, 2, (some .int))
set_option maxRecDepth 20000 in
theorem mv_X10_at : kMV Y_X10_at 2 := ⟨km6 61 rfl rfl, km1 11 rfl rfl, by decide +kernel, ⟨by decide +kernel, by decide +kernel, by decide +kernel⟩, by decide⟩
set_option maxRecDepth 20000 in
theorem st_X10_at : Cond.static Y_X10_at.1 ∈ kTB := km6 60 rfl rfl
abbrev Y_X10_becomes : kM := (⟨"MendedTubeModel", "becomes", "(II)I"⟩, prog_12_method_8_code, 4, (some .int))
set_option maxRecDepth 20000 in
theorem mv_X10_becomes : kMV Y_X10_becomes 2 := ⟨km6 103 rfl rfl, km1 11 rfl rfl, by decide +kernel, ⟨by decide +kernel, by decide +kernel, by decide +kernel⟩, by decide⟩
set_option maxRecDepth 20000 in
theorem in_X10_becomes : Cond.instanceMethod Y_X10_becomes.1 ∈ kTB := km6 102 rfl rfl
set_option maxRecDepth 20000 in
theorem se_X10_becomes : Cond.selects Y_X10_becomes.1.cls Y_X10_becomes.1 Y_X10_becomes.1 ∈ kTB := km0 82 rfl rfl
abbrev Y_X10_blur : kM := (⟨"MendedTubeModel", "blur", "()I"⟩, prog_12_method_36_code, 2, (some .int))
set_option maxRecDepth 20000 in
theorem mv_X10_blur : kMV Y_X10_blur 0 := ⟨km6 158 rfl rfl, km1 11 rfl rfl, by decide +kernel, ⟨by decide +kernel, by decide +kernel, by decide +kernel⟩, by decide⟩
set_option maxRecDepth 20000 in
theorem in_X10_blur : Cond.instanceMethod Y_X10_blur.1 ∈ kTB := km6 156 rfl rfl
set_option maxRecDepth 20000 in
theorem se_X10_blur : Cond.selects Y_X10_blur.1.cls Y_X10_blur.1 Y_X10_blur.1 ∈ kTB := km6 157 rfl rfl
abbrev Y_X10_byteAt : kM := (⟨"MendedTubeModel", "byteAt", "(I)I"⟩, prog_12_method_90_code, 2, (some .int))
set_option maxRecDepth 20000 in
theorem mv_X10_byteAt : kMV Y_X10_byteAt 1 := ⟨km7 166 rfl rfl, km1 11 rfl rfl, by decide +kernel, ⟨by decide +kernel, by decide +kernel, by decide +kernel⟩, by decide⟩
set_option maxRecDepth 20000 in
theorem in_X10_byteAt : Cond.instanceMethod Y_X10_byteAt.1 ∈ kTB := km7 165 rfl rfl
set_option maxRecDepth 20000 in
theorem se_X10_byteAt : Cond.selects Y_X10_byteAt.1.cls Y_X10_byteAt.1 Y_X10_byteAt.1 ∈ kTB := km0 112 rfl rfl
abbrev Y_X10_change : kM := (⟨"MendedTubeModel", "change", "()I"⟩, prog_12_method_49_code, 6, (some .int))
set_option maxRecDepth 20000 in
theorem mv_X10_change : kMV Y_X10_change 0 := ⟨km6 221 rfl rfl, km1 11 rfl rfl, by decide +kernel, ⟨by decide +kernel, by decide +kernel, by decide +kernel⟩, by decide⟩
set_option maxRecDepth 20000 in
theorem in_X10_change : Cond.instanceMethod Y_X10_change.1 ∈ kTB := km6 219 rfl rfl
set_option maxRecDepth 20000 in
theorem se_X10_change : Cond.selects Y_X10_change.1.cls Y_X10_change.1 Y_X10_change.1 ∈ kTB := km6 220 rfl rfl
abbrev Y_X10_changes : kM := (⟨"MendedTubeModel", "changes", "(II)V"⟩, prog_12_method_45_code, 5, none)
set_option maxRecDepth 20000 in
theorem mv_X10_changes : kMV Y_X10_changes 2 := ⟨km6 209 rfl rfl, km1 11 rfl rfl, by decide +kernel, ⟨by decide +kernel, by decide +kernel, by decide +kernel⟩, by decide⟩
set_option maxRecDepth 20000 in
theorem in_X10_changes : Cond.instanceMethod Y_X10_changes.1 ∈ kTB := km6 208 rfl rfl
set_option maxRecDepth 20000 in
theorem se_X10_changes : Cond.selects Y_X10_changes.1.cls Y_X10_changes.1 Y_X10_changes.1 ∈ kTB := km0 93 rfl rfl
abbrev Y_X10_comes : kM := (⟨"MendedTubeModel", "comes", "(II)V"⟩, prog_12_method_40_code, 3, none)
set_option maxRecDepth 20000 in
theorem mv_X10_comes : kMV Y_X10_comes 2 := ⟨km6 185 rfl rfl, km1 11 rfl rfl, by decide +kernel, ⟨by decide +kernel, by decide +kernel, by decide +kernel⟩, by decide⟩
set_option maxRecDepth 20000 in
theorem in_X10_comes : Cond.instanceMethod Y_X10_comes.1 ∈ kTB := km6 184 rfl rfl
set_option maxRecDepth 20000 in
theorem se_X10_comes : Cond.selects Y_X10_comes.1.cls Y_X10_comes.1 Y_X10_comes.1 ∈ kTB := km0 91 rfl rfl
abbrev Y_X10_comparison : kM := (⟨"MendedTubeModel", "comparison", "()V"⟩, prog_12_method_101_code, 2, none)
set_option maxRecDepth 20000 in
theorem mv_X10_comparison : kMV Y_X10_comparison 0 := ⟨km7 218 rfl rfl, km1 11 rfl rfl, by decide +kernel, ⟨by decide +kernel, by decide +kernel, by decide +kernel⟩, by decide⟩
set_option maxRecDepth 20000 in
theorem in_X10_comparison : Cond.instanceMethod Y_X10_comparison.1 ∈ kTB := km7 217 rfl rfl
set_option maxRecDepth 20000 in
theorem se_X10_comparison : Cond.selects Y_X10_comparison.1.cls Y_X10_comparison.1 Y_X10_comparison.1 ∈ kTB := km0 120 rfl rfl
abbrev Y_X10_condition : kM := (⟨"MendedTubeModel", "condition", "()V"⟩, prog_12_method_104_code, 1, none)
set_option maxRecDepth 20000 in
theorem mv_X10_condition : kMV Y_X10_condition 0 := ⟨km7 205 rfl rfl, km1 11 rfl rfl, by decide +kernel, ⟨by decide +kernel, by decide +kernel, by decide +kernel⟩, by decide⟩
set_option maxRecDepth 20000 in
theorem in_X10_condition : Cond.instanceMethod Y_X10_condition.1 ∈ kTB := km7 204 rfl rfl
set_option maxRecDepth 20000 in
theorem se_X10_condition : Cond.selects Y_X10_condition.1.cls Y_X10_condition.1 Y_X10_condition.1 ∈ kTB := km0 117 rfl rfl
abbrev Y_X10_dims : kM := (⟨"MendedTubeModel", "dims", "(I)I"⟩, prog_12_method_120_code, 3, (some .int))
set_option maxRecDepth 20000 in
theorem mv_X10_dims : kMV Y_X10_dims 1 := ⟨km8 63 rfl rfl, km1 11 rfl rfl, by decide +kernel, ⟨by decide +kernel, by decide +kernel, by decide +kernel⟩, by decide⟩
set_option maxRecDepth 20000 in
theorem in_X10_dims : Cond.instanceMethod Y_X10_dims.1 ∈ kTB := km8 62 rfl rfl
set_option maxRecDepth 20000 in
theorem se_X10_dims : Cond.selects Y_X10_dims.1.cls Y_X10_dims.1 Y_X10_dims.1 ∈ kTB := km0 128 rfl rfl
abbrev Y_X10_draw : kM := (⟨"MendedTubeModel", "draw", "()I"⟩, prog_12_method_81_code, 2, (some .int))
set_option maxRecDepth 20000 in
theorem mv_X10_draw : kMV Y_X10_draw 0 := ⟨km7 109 rfl rfl, km1 11 rfl rfl, by decide +kernel, ⟨by decide +kernel, by decide +kernel, by decide +kernel⟩, by decide⟩
set_option maxRecDepth 20000 in
theorem in_X10_draw : Cond.instanceMethod Y_X10_draw.1 ∈ kTB := km7 107 rfl rfl
set_option maxRecDepth 20000 in
theorem se_X10_draw : Cond.selects Y_X10_draw.1.cls Y_X10_draw.1 Y_X10_draw.1 ∈ kTB := km7 108 rfl rfl
abbrev Y_X10_exchange : kM := (⟨"MendedTubeModel", "exchange", "(II)I"⟩, prog_12_method_46_code, 3, (some .int))
set_option maxRecDepth 20000 in
theorem mv_X10_exchange : kMV Y_X10_exchange 2 := ⟨km6 205 rfl rfl, km1 11 rfl rfl, by decide +kernel, ⟨by decide +kernel, by decide +kernel, by decide +kernel⟩, by decide⟩
set_option maxRecDepth 20000 in
theorem in_X10_exchange : Cond.instanceMethod Y_X10_exchange.1 ∈ kTB := km6 203 rfl rfl
set_option maxRecDepth 20000 in
theorem se_X10_exchange : Cond.selects Y_X10_exchange.1.cls Y_X10_exchange.1 Y_X10_exchange.1 ∈ kTB := km6 204 rfl rfl
abbrev Y_X10_eyes : kM := (⟨"MendedTubeModel", "eyes", "()I"⟩, prog_12_method_51_code, 4, (some .int))
set_option maxRecDepth 20000 in
theorem mv_X10_eyes : kMV Y_X10_eyes 0 := ⟨km6 229 rfl rfl, km1 11 rfl rfl, by decide +kernel, ⟨by decide +kernel, by decide +kernel, by decide +kernel⟩, by decide⟩
set_option maxRecDepth 20000 in
theorem in_X10_eyes : Cond.instanceMethod Y_X10_eyes.1 ∈ kTB := km6 227 rfl rfl
set_option maxRecDepth 20000 in
theorem se_X10_eyes : Cond.selects Y_X10_eyes.1.cls Y_X10_eyes.1 Y_X10_eyes.1 ∈ kTB := km6 228 rfl rfl
abbrev Y_X10_fact : kM := (⟨"MendedTubeModel", "fact", "(II)I"⟩, prog_12_method_15_code, 3, (some .int))
set_option maxRecDepth 20000 in
theorem mv_X10_fact : kMV Y_X10_fact 2 := ⟨km6 88 rfl rfl, km1 11 rfl rfl, by decide +kernel, ⟨by decide +kernel, by decide +kernel, by decide +kernel⟩, by decide⟩
set_option maxRecDepth 20000 in
theorem in_X10_fact : Cond.instanceMethod Y_X10_fact.1 ∈ kTB := km6 87 rfl rfl
set_option maxRecDepth 20000 in
theorem se_X10_fact : Cond.selects Y_X10_fact.1.cls Y_X10_fact.1 Y_X10_fact.1 ∈ kTB := km0 80 rfl rfl
abbrev Y_X10_factHere : kM := (⟨"MendedTubeModel", "factHere", "()I"⟩, prog_12_method_98_code, 3, (some .int))
set_option maxRecDepth 20000 in
theorem mv_X10_factHere : kMV Y_X10_factHere 0 := ⟨km7 226 rfl rfl, km1 11 rfl rfl, by decide +kernel, ⟨by decide +kernel, by decide +kernel, by decide +kernel⟩, by decide⟩
set_option maxRecDepth 20000 in
theorem in_X10_factHere : Cond.instanceMethod Y_X10_factHere.1 ∈ kTB := km7 225 rfl rfl
set_option maxRecDepth 20000 in
theorem se_X10_factHere : Cond.selects Y_X10_factHere.1.cls Y_X10_factHere.1 Y_X10_factHere.1 ∈ kTB := km0 122 rfl rfl
abbrev Y_X10_feed : kM := (⟨"MendedTubeModel", "feed", "(JI)I"⟩, prog_12_method_89_code, 5, (some .int))
set_option maxRecDepth 20000 in
theorem mv_X10_feed : kMV Y_X10_feed 2 := ⟨km7 152 rfl rfl, km1 11 rfl rfl, by decide +kernel, ⟨by decide +kernel, by decide +kernel, by decide +kernel⟩, by decide⟩
set_option maxRecDepth 20000 in
theorem in_X10_feed : Cond.instanceMethod Y_X10_feed.1 ∈ kTB := km7 150 rfl rfl
set_option maxRecDepth 20000 in
theorem se_X10_feed : Cond.selects Y_X10_feed.1.cls Y_X10_feed.1 Y_X10_feed.1 ∈ kTB := km7 151 rfl rfl
abbrev Y_X10_findFits : kM := (⟨"MendedTubeModel", "findFits", "(I)V"⟩, prog_12_method_77_code, 6, none)
set_option maxRecDepth 20000 in
theorem mv_X10_findFits : kMV Y_X10_findFits 1 := ⟨km7 93 rfl rfl, km1 11 rfl rfl, by decide +kernel, ⟨by decide +kernel, by decide +kernel, by decide +kernel⟩, by decide⟩
set_option maxRecDepth 20000 in
theorem in_X10_findFits : Cond.instanceMethod Y_X10_findFits.1 ∈ kTB := km7 92 rfl rfl
set_option maxRecDepth 20000 in
theorem se_X10_findFits : Cond.selects Y_X10_findFits.1.cls Y_X10_findFits.1 Y_X10_findFits.1 ∈ kTB := km0 105 rfl rfl
abbrev Y_X10_findLasting : kM := (⟨"MendedTubeModel", "findLasting", "()V"⟩, prog_12_method_65_code, 4, none)
set_option maxRecDepth 20000 in
theorem mv_X10_findLasting : kMV Y_X10_findLasting 0 := ⟨km7 40 rfl rfl, km1 11 rfl rfl, by decide +kernel, ⟨by decide +kernel, by decide +kernel, by decide +kernel⟩, by decide⟩
set_option maxRecDepth 20000 in
theorem in_X10_findLasting : Cond.instanceMethod Y_X10_findLasting.1 ∈ kTB := km7 39 rfl rfl
set_option maxRecDepth 20000 in
theorem se_X10_findLasting : Cond.selects Y_X10_findLasting.1.cls Y_X10_findLasting.1 Y_X10_findLasting.1 ∈ kTB := km0 99 rfl rfl
abbrev Y_X10_findPairs : kM := (⟨"MendedTubeModel", "findPairs", "()V"⟩, prog_12_method_60_code, 3, none)
set_option maxRecDepth 20000 in
theorem mv_X10_findPairs : kMV Y_X10_findPairs 0 := ⟨km7 20 rfl rfl, km1 11 rfl rfl, by decide +kernel, ⟨by decide +kernel, by decide +kernel, by decide +kernel⟩, by decide⟩
set_option maxRecDepth 20000 in
theorem in_X10_findPairs : Cond.instanceMethod Y_X10_findPairs.1 ∈ kTB := km7 19 rfl rfl
set_option maxRecDepth 20000 in
theorem se_X10_findPairs : Cond.selects Y_X10_findPairs.1.cls Y_X10_findPairs.1 Y_X10_findPairs.1 ∈ kTB := km0 96 rfl rfl
abbrev Y_X10_findStrengths : kM := (⟨"MendedTubeModel", "findStrengths", "()V"⟩, prog_12_method_25_code, 2, none)
set_option maxRecDepth 20000 in
theorem mv_X10_findStrengths : kMV Y_X10_findStrengths 0 := ⟨km6 131 rfl rfl, km1 11 rfl rfl, by decide +kernel, ⟨by decide +kernel, by decide +kernel, by decide +kernel⟩, by decide⟩
set_option maxRecDepth 20000 in
theorem in_X10_findStrengths : Cond.instanceMethod Y_X10_findStrengths.1 ∈ kTB := km6 130 rfl rfl
set_option maxRecDepth 20000 in
theorem se_X10_findStrengths : Cond.selects Y_X10_findStrengths.1.cls Y_X10_findStrengths.1 Y_X10_findStrengths.1 ∈ kTB := km0 84 rfl rfl
abbrev Y_X10_fit : kM := (⟨"MendedTubeModel", "fit", "(II)I"⟩, prog_12_method_41_code, 3, (some .int))
set_option maxRecDepth 20000 in
theorem mv_X10_fit : kMV Y_X10_fit 2 := ⟨km6 178 rfl rfl, km1 11 rfl rfl, by decide +kernel, ⟨by decide +kernel, by decide +kernel, by decide +kernel⟩, by decide⟩
set_option maxRecDepth 20000 in
theorem in_X10_fit : Cond.instanceMethod Y_X10_fit.1 ∈ kTB := km6 176 rfl rfl
set_option maxRecDepth 20000 in
theorem se_X10_fit : Cond.selects Y_X10_fit.1.cls Y_X10_fit.1 Y_X10_fit.1 ∈ kTB := km6 177 rfl rfl
abbrev Y_X10_fits : kM := (⟨"MendedTubeModel", "fits", "(III)I"⟩, prog_12_method_114_code, 7, (some .int))
set_option maxRecDepth 20000 in
theorem mv_X10_fits : kMV Y_X10_fits 3 := ⟨km8 32 rfl rfl, km1 11 rfl rfl, by decide +kernel, ⟨by decide +kernel, by decide +kernel, by decide +kernel⟩, by decide⟩
set_option maxRecDepth 20000 in
theorem in_X10_fits : Cond.instanceMethod Y_X10_fits.1 ∈ kTB := km8 30 rfl rfl
set_option maxRecDepth 20000 in
theorem se_X10_fits : Cond.selects Y_X10_fits.1.cls Y_X10_fits.1 Y_X10_fits.1 ∈ kTB := km8 31 rfl rfl
abbrev Y_X10_fix : kM := (⟨"MendedTubeModel", "fix", "()I"⟩, prog_12_method_48_code, 6, (some .int))
set_option maxRecDepth 20000 in
theorem mv_X10_fix : kMV Y_X10_fix 0 := ⟨km6 217 rfl rfl, km1 11 rfl rfl, by decide +kernel, ⟨by decide +kernel, by decide +kernel, by decide +kernel⟩, by decide⟩
set_option maxRecDepth 20000 in
theorem in_X10_fix : Cond.instanceMethod Y_X10_fix.1 ∈ kTB := km6 215 rfl rfl
set_option maxRecDepth 20000 in
theorem se_X10_fix : Cond.selects Y_X10_fix.1.cls Y_X10_fix.1 Y_X10_fix.1 ∈ kTB := km6 216 rfl rfl
abbrev Y_X10_forget : kM := (⟨"MendedTubeModel", "forget", "()I"⟩, prog_12_method_75_code, 2, (some .int))
set_option maxRecDepth 20000 in
theorem mv_X10_forget : kMV Y_X10_forget 0 := ⟨km7 84 rfl rfl, km1 11 rfl rfl, by decide +kernel, ⟨by decide +kernel, by decide +kernel, by decide +kernel⟩, by decide⟩
set_option maxRecDepth 20000 in
theorem in_X10_forget : Cond.instanceMethod Y_X10_forget.1 ∈ kTB := km7 82 rfl rfl
set_option maxRecDepth 20000 in
theorem se_X10_forget : Cond.selects Y_X10_forget.1.cls Y_X10_forget.1 Y_X10_forget.1 ∈ kTB := km7 83 rfl rfl
abbrev Y_X10_game : kM := (⟨"MendedTubeModel", "game", "(I)I"⟩, prog_12_method_72_code, 2, (some .int))
set_option maxRecDepth 20000 in
theorem mv_X10_game : kMV Y_X10_game 1 := ⟨km7 60 rfl rfl, km1 11 rfl rfl, by decide +kernel, ⟨by decide +kernel, by decide +kernel, by decide +kernel⟩, by decide⟩
set_option maxRecDepth 20000 in
theorem in_X10_game : Cond.instanceMethod Y_X10_game.1 ∈ kTB := km7 58 rfl rfl
set_option maxRecDepth 20000 in
theorem se_X10_game : Cond.selects Y_X10_game.1.cls Y_X10_game.1 Y_X10_game.1 ∈ kTB := km7 59 rfl rfl
abbrev Y_X10_good : kM := (⟨"MendedTubeModel", "good", "(I)I"⟩, prog_12_method_57_code, 2, (some .int))
set_option maxRecDepth 20000 in
theorem mv_X10_good : kMV Y_X10_good 1 := ⟨km7 12 rfl rfl, km1 11 rfl rfl, by decide +kernel, ⟨by decide +kernel, by decide +kernel, by decide +kernel⟩, by decide⟩
set_option maxRecDepth 20000 in
theorem in_X10_good : Cond.instanceMethod Y_X10_good.1 ∈ kTB := km7 10 rfl rfl
set_option maxRecDepth 20000 in
theorem se_X10_good : Cond.selects Y_X10_good.1.cls Y_X10_good.1 Y_X10_good.1 ∈ kTB := km7 11 rfl rfl
abbrev Y_X10_grind : kM := (⟨"MendedTubeModel", "grind", "(III)I"⟩, prog_12_method_21_code, 4, (some .int))
set_option maxRecDepth 20000 in
theorem mv_X10_grind : kMV Y_X10_grind 3 := ⟨km6 99 rfl rfl, km1 11 rfl rfl, by decide +kernel, ⟨by decide +kernel, by decide +kernel, by decide +kernel⟩, by decide⟩
set_option maxRecDepth 20000 in
theorem in_X10_grind : Cond.instanceMethod Y_X10_grind.1 ∈ kTB := km6 97 rfl rfl
set_option maxRecDepth 20000 in
theorem se_X10_grind : Cond.selects Y_X10_grind.1.cls Y_X10_grind.1 Y_X10_grind.1 ∈ kTB := km6 98 rfl rfl
abbrev Y_X10_heatFor : kM := (⟨"MendedTubeModel", "heatFor", "()I"⟩, prog_12_method_50_code, 4, (some .int))
set_option maxRecDepth 20000 in
theorem mv_X10_heatFor : kMV Y_X10_heatFor 0 := ⟨km6 225 rfl rfl, km1 11 rfl rfl, by decide +kernel, ⟨by decide +kernel, by decide +kernel, by decide +kernel⟩, by decide⟩
set_option maxRecDepth 20000 in
theorem in_X10_heatFor : Cond.instanceMethod Y_X10_heatFor.1 ∈ kTB := km6 223 rfl rfl
set_option maxRecDepth 20000 in
theorem se_X10_heatFor : Cond.selects Y_X10_heatFor.1.cls Y_X10_heatFor.1 Y_X10_heatFor.1 ∈ kTB := km6 224 rfl rfl
abbrev Y_X10_in : kM := (⟨"MendedTubeModel", "in", "(JJJ)Z"⟩, prog_12_method_2_code, 6, (some .boolean))
set_option maxRecDepth 20000 in
theorem mv_X10_in : kMV Y_X10_in 3 := ⟨km6 52 rfl rfl, km1 11 rfl rfl, by decide +kernel, ⟨by decide +kernel, by decide +kernel, by decide +kernel⟩, by decide⟩
set_option maxRecDepth 20000 in
theorem st_X10_in : Cond.static Y_X10_in.1 ∈ kTB := km6 51 rfl rfl
abbrev Y_X10_init : kM := (⟨"MendedTubeModel", "<init>", "()V"⟩, prog_12_method_1_code, 1, none)
set_option maxRecDepth 20000 in
theorem mv_X10_init : kMV Y_X10_init 0 := ⟨km5 149 rfl rfl, km1 11 rfl rfl, by decide +kernel, ⟨by decide +kernel, by decide +kernel, by decide +kernel⟩, by decide⟩
set_option maxRecDepth 20000 in
theorem in_X10_init : Cond.instanceMethod Y_X10_init.1 ∈ kTB := km5 148 rfl rfl
abbrev Y_X10_isDigit : kM := (⟨"MendedTubeModel", "isDigit", "(I)Z"⟩, prog_12_method_92_code, 1, (some .boolean))
set_option maxRecDepth 20000 in
theorem mv_X10_isDigit : kMV Y_X10_isDigit 1 := ⟨km7 174 rfl rfl, km1 11 rfl rfl, by decide +kernel, ⟨by decide +kernel, by decide +kernel, by decide +kernel⟩, by decide⟩
set_option maxRecDepth 20000 in
theorem st_X10_isDigit : Cond.static Y_X10_isDigit.1 ∈ kTB := km7 173 rfl rfl
abbrev Y_X10_isHeight : kM := (⟨"MendedTubeModel", "isHeight", "(I)Z"⟩, prog_12_method_33_code, 1, (some .boolean))
set_option maxRecDepth 20000 in
theorem mv_X10_isHeight : kMV Y_X10_isHeight 1 := ⟨km6 123 rfl rfl, km1 11 rfl rfl, by decide +kernel, ⟨by decide +kernel, by decide +kernel, by decide +kernel⟩, by decide⟩
set_option maxRecDepth 20000 in
theorem st_X10_isHeight : Cond.static Y_X10_isHeight.1 ∈ kTB := km6 122 rfl rfl
abbrev Y_X10_isHolding : kM := (⟨"MendedTubeModel", "isHolding", "(III)Z"⟩, prog_12_method_16_code, 3, (some .boolean))
set_option maxRecDepth 20000 in
theorem mv_X10_isHolding : kMV Y_X10_isHolding 3 := ⟨km6 91 rfl rfl, km1 11 rfl rfl, by decide +kernel, ⟨by decide +kernel, by decide +kernel, by decide +kernel⟩, by decide⟩
set_option maxRecDepth 20000 in
theorem st_X10_isHolding : Cond.static Y_X10_isHolding.1 ∈ kTB := km6 90 rfl rfl
abbrev Y_X10_isItem : kM := (⟨"MendedTubeModel", "isItem", "(IJ)Z"⟩, prog_12_method_113_code, 4, (some .boolean))
set_option maxRecDepth 20000 in
theorem mv_X10_isItem : kMV Y_X10_isItem 2 := ⟨km8 36 rfl rfl, km1 11 rfl rfl, by decide +kernel, ⟨by decide +kernel, by decide +kernel, by decide +kernel⟩, by decide⟩
set_option maxRecDepth 20000 in
theorem in_X10_isItem : Cond.instanceMethod Y_X10_isItem.1 ∈ kTB := km8 35 rfl rfl
set_option maxRecDepth 20000 in
theorem se_X10_isItem : Cond.selects Y_X10_isItem.1.cls Y_X10_isItem.1 Y_X10_isItem.1 ∈ kTB := km0 126 rfl rfl
abbrev Y_X10_isKind : kM := (⟨"MendedTubeModel", "isKind", "(I)Z"⟩, prog_12_method_11_code, 1, (some .boolean))
set_option maxRecDepth 20000 in
theorem mv_X10_isKind : kMV Y_X10_isKind 1 := ⟨km6 48 rfl rfl, km1 11 rfl rfl, by decide +kernel, ⟨by decide +kernel, by decide +kernel, by decide +kernel⟩, by decide⟩
set_option maxRecDepth 20000 in
theorem st_X10_isKind : Cond.static Y_X10_isKind.1 ∈ kTB := km6 47 rfl rfl
abbrev Y_X10_isLens : kM := (⟨"MendedTubeModel", "isLens", "(I)Z"⟩, prog_12_method_4_code, 2, (some .boolean))
set_option maxRecDepth 20000 in
theorem mv_X10_isLens : kMV Y_X10_isLens 1 := ⟨km6 69 rfl rfl, km1 11 rfl rfl, by decide +kernel, ⟨by decide +kernel, by decide +kernel, by decide +kernel⟩, by decide⟩
set_option maxRecDepth 20000 in
theorem in_X10_isLens : Cond.instanceMethod Y_X10_isLens.1 ∈ kTB := km6 68 rfl rfl
set_option maxRecDepth 20000 in
theorem se_X10_isLens : Cond.selects Y_X10_isLens.1.cls Y_X10_isLens.1 Y_X10_isLens.1 ∈ kTB := km0 76 rfl rfl
abbrev Y_X10_isLetter : kM := (⟨"MendedTubeModel", "isLetter", "(I)Z"⟩, prog_12_method_91_code, 1, (some .boolean))
set_option maxRecDepth 20000 in
theorem mv_X10_isLetter : kMV Y_X10_isLetter 1 := ⟨km7 169 rfl rfl, km1 11 rfl rfl, by decide +kernel, ⟨by decide +kernel, by decide +kernel, by decide +kernel⟩, by decide⟩
set_option maxRecDepth 20000 in
theorem st_X10_isLetter : Cond.static Y_X10_isLetter.1 ∈ kTB := km7 168 rfl rfl
abbrev Y_X10_isMany : kM := (⟨"MendedTubeModel", "isMany", "(I)Z"⟩, prog_12_method_54_code, 1, (some .boolean))
set_option maxRecDepth 20000 in
theorem mv_X10_isMany : kMV Y_X10_isMany 1 := ⟨km6 236 rfl rfl, km1 11 rfl rfl, by decide +kernel, ⟨by decide +kernel, by decide +kernel, by decide +kernel⟩, by decide⟩
set_option maxRecDepth 20000 in
theorem st_X10_isMany : Cond.static Y_X10_isMany.1 ∈ kTB := km6 235 rfl rfl
abbrev Y_X10_isMended : kM := (⟨"MendedTubeModel", "isMended", "()Z"⟩, prog_12_method_32_code, 1, (some .boolean))
set_option maxRecDepth 20000 in
theorem mv_X10_isMended : kMV Y_X10_isMended 0 := ⟨km6 174 rfl rfl, km1 11 rfl rfl, by decide +kernel, ⟨by decide +kernel, by decide +kernel, by decide +kernel⟩, by decide⟩
set_option maxRecDepth 20000 in
theorem in_X10_isMended : Cond.instanceMethod Y_X10_isMended.1 ∈ kTB := km6 173 rfl rfl
set_option maxRecDepth 20000 in
theorem se_X10_isMended : Cond.selects Y_X10_isMended.1.cls Y_X10_isMended.1 Y_X10_isMended.1 ∈ kTB := km0 90 rfl rfl
abbrev Y_X10_isMendedBy : kM := (⟨"MendedTubeModel", "isMendedBy", "(II)Z"⟩, prog_12_method_76_code, 3, (some .boolean))
set_option maxRecDepth 20000 in
theorem mv_X10_isMendedBy : kMV Y_X10_isMendedBy 2 := ⟨km7 97 rfl rfl, km1 11 rfl rfl, by decide +kernel, ⟨by decide +kernel, by decide +kernel, by decide +kernel⟩, by decide⟩
set_option maxRecDepth 20000 in
theorem in_X10_isMendedBy : Cond.instanceMethod Y_X10_isMendedBy.1 ∈ kTB := km7 96 rfl rfl
set_option maxRecDepth 20000 in
theorem se_X10_isMendedBy : Cond.selects Y_X10_isMendedBy.1.cls Y_X10_isMendedBy.1 Y_X10_isMendedBy.1 ∈ kTB := km0 106 rfl rfl
abbrev Y_X10_isOne : kM := (⟨"MendedTubeModel", "isOne", "(I)Z"⟩, prog_12_method_107_code, 1, (some .boolean))
set_option maxRecDepth 20000 in
theorem mv_X10_isOne : kMV Y_X10_isOne 1 := ⟨km8 11 rfl rfl, km1 11 rfl rfl, by decide +kernel, ⟨by decide +kernel, by decide +kernel, by decide +kernel⟩, by decide⟩
set_option maxRecDepth 20000 in
theorem st_X10_isOne : Cond.static Y_X10_isOne.1 ∈ kTB := km8 10 rfl rfl
abbrev Y_X10_isPair : kM := (⟨"MendedTubeModel", "isPair", "(II)Z"⟩, prog_12_method_58_code, 4, (some .boolean))
set_option maxRecDepth 20000 in
theorem mv_X10_isPair : kMV Y_X10_isPair 2 := ⟨km7 24 rfl rfl, km1 11 rfl rfl, by decide +kernel, ⟨by decide +kernel, by decide +kernel, by decide +kernel⟩, by decide⟩
set_option maxRecDepth 20000 in
theorem in_X10_isPair : Cond.instanceMethod Y_X10_isPair.1 ∈ kTB := km7 23 rfl rfl
set_option maxRecDepth 20000 in
theorem se_X10_isPair : Cond.selects Y_X10_isPair.1.cls Y_X10_isPair.1 Y_X10_isPair.1 ∈ kTB := km0 97 rfl rfl
abbrev Y_X10_isPart : kM := (⟨"MendedTubeModel", "isPart", "(II)Z"⟩, prog_12_method_12_code, 2, (some .boolean))
set_option maxRecDepth 20000 in
theorem mv_X10_isPart : kMV Y_X10_isPart 2 := ⟨km6 55 rfl rfl, km1 11 rfl rfl, by decide +kernel, ⟨by decide +kernel, by decide +kernel, by decide +kernel⟩, by decide⟩
set_option maxRecDepth 20000 in
theorem st_X10_isPart : Cond.static Y_X10_isPart.1 ∈ kTB := km6 54 rfl rfl
abbrev Y_X10_isPlace : kM := (⟨"MendedTubeModel", "isPlace", "(I)Z"⟩, prog_12_method_5_code, 2, (some .boolean))
set_option maxRecDepth 20000 in
theorem mv_X10_isPlace : kMV Y_X10_isPlace 1 := ⟨km6 193 rfl rfl, km1 11 rfl rfl, by decide +kernel, ⟨by decide +kernel, by decide +kernel, by decide +kernel⟩, by decide⟩
set_option maxRecDepth 20000 in
theorem in_X10_isPlace : Cond.instanceMethod Y_X10_isPlace.1 ∈ kTB := km6 192 rfl rfl
set_option maxRecDepth 20000 in
theorem se_X10_isPlace : Cond.selects Y_X10_isPlace.1.cls Y_X10_isPlace.1 Y_X10_isPlace.1 ∈ kTB := km0 92 rfl rfl
abbrev Y_X10_isRow : kM := (⟨"MendedTubeModel", "isRow", "(II)Z"⟩, prog_12_method_85_code, 3, (some .boolean))
set_option maxRecDepth 20000 in
theorem mv_X10_isRow : kMV Y_X10_isRow 2 := ⟨km7 140 rfl rfl, km1 11 rfl rfl, by decide +kernel, ⟨by decide +kernel, by decide +kernel, by decide +kernel⟩, by decide⟩
set_option maxRecDepth 20000 in
theorem in_X10_isRow : Cond.instanceMethod Y_X10_isRow.1 ∈ kTB := km7 139 rfl rfl
set_option maxRecDepth 20000 in
theorem se_X10_isRow : Cond.selects Y_X10_isRow.1.cls Y_X10_isRow.1 Y_X10_isRow.1 ∈ kTB := km0 110 rfl rfl
abbrev Y_X10_isSo : kM := (⟨"MendedTubeModel", "isSo", "(III)Z"⟩, prog_12_method_17_code, 7, (some .boolean))
set_option maxRecDepth 20000 in
theorem mv_X10_isSo : kMV Y_X10_isSo 3 := ⟨km6 84 rfl rfl, km1 11 rfl rfl, by decide +kernel, ⟨by decide +kernel, by decide +kernel, by decide +kernel⟩, by decide⟩
set_option maxRecDepth 20000 in
theorem in_X10_isSo : Cond.instanceMethod Y_X10_isSo.1 ∈ kTB := km6 83 rfl rfl
set_option maxRecDepth 20000 in
theorem se_X10_isSo : Cond.selects Y_X10_isSo.1.cls Y_X10_isSo.1 Y_X10_isSo.1 ∈ kTB := km0 79 rfl rfl
abbrev Y_X10_isTurn : kM := (⟨"MendedTubeModel", "isTurn", "(I)Z"⟩, prog_12_method_39_code, 1, (some .boolean))
set_option maxRecDepth 20000 in
theorem mv_X10_isTurn : kMV Y_X10_isTurn 1 := ⟨km6 181 rfl rfl, km1 11 rfl rfl, by decide +kernel, ⟨by decide +kernel, by decide +kernel, by decide +kernel⟩, by decide⟩
set_option maxRecDepth 20000 in
theorem st_X10_isTurn : Cond.static Y_X10_isTurn.1 ∈ kTB := km6 180 rfl rfl
abbrev Y_X10_isUnder : kM := (⟨"MendedTubeModel", "isUnder", "(II)Z"⟩, prog_12_method_14_code, 2, (some .boolean))
set_option maxRecDepth 20000 in
theorem mv_X10_isUnder : kMV Y_X10_isUnder 2 := ⟨km6 80 rfl rfl, km1 11 rfl rfl, by decide +kernel, ⟨by decide +kernel, by decide +kernel, by decide +kernel⟩, by decide⟩
set_option maxRecDepth 20000 in
theorem st_X10_isUnder : Cond.static Y_X10_isUnder.1 ∈ kTB := km6 79 rfl rfl
abbrev Y_X10_isWon : kM := (⟨"MendedTubeModel", "isWon", "(IIZ)Z"⟩, prog_12_method_69_code, 8, (some .boolean))
set_option maxRecDepth 20000 in
theorem mv_X10_isWon : kMV Y_X10_isWon 3 := ⟨km7 68 rfl rfl, km1 11 rfl rfl, by decide +kernel, ⟨by decide +kernel, by decide +kernel, by decide +kernel⟩, by decide⟩
set_option maxRecDepth 20000 in
theorem in_X10_isWon : Cond.instanceMethod Y_X10_isWon.1 ∈ kTB := km7 67 rfl rfl
set_option maxRecDepth 20000 in
theorem se_X10_isWon : Cond.selects Y_X10_isWon.1.cls Y_X10_isWon.1 Y_X10_isWon.1 ∈ kTB := km0 103 rfl rfl
abbrev Y_X10_isWonBy : kM := (⟨"MendedTubeModel", "isWonBy", "(IIIIZ)Z"⟩, prog_12_method_70_code, 7, (some .boolean))
set_option maxRecDepth 20000 in
theorem mv_X10_isWonBy : kMV Y_X10_isWonBy 5 := ⟨km7 72 rfl rfl, km1 11 rfl rfl, by decide +kernel, ⟨by decide +kernel, by decide +kernel, by decide +kernel⟩, by decide⟩
set_option maxRecDepth 20000 in
theorem in_X10_isWonBy : Cond.instanceMethod Y_X10_isWonBy.1 ∈ kTB := km7 71 rfl rfl
set_option maxRecDepth 20000 in
theorem se_X10_isWonBy : Cond.selects Y_X10_isWonBy.1.cls Y_X10_isWonBy.1 Y_X10_isWonBy.1 ∈ kTB := km0 104 rfl rfl
abbrev Y_X10_item : kM := (⟨"MendedTubeModel", "item", "(III)I"⟩, prog_12_method_112_code, 5, (some .int))
set_option maxRecDepth 20000 in
theorem mv_X10_item : kMV Y_X10_item 3 := ⟨km8 24 rfl rfl, km1 11 rfl rfl, by decide +kernel, ⟨by decide +kernel, by decide +kernel, by decide +kernel⟩, by decide⟩
set_option maxRecDepth 20000 in
theorem in_X10_item : Cond.instanceMethod Y_X10_item.1 ∈ kTB := km8 22 rfl rfl
set_option maxRecDepth 20000 in
theorem se_X10_item : Cond.selects Y_X10_item.1.cls Y_X10_item.1 Y_X10_item.1 ∈ kTB := km8 23 rfl rfl
abbrev Y_X10_its : kM := (⟨"MendedTubeModel", "its", "(II)I"⟩, prog_12_method_10_code, 3, (some .int))
set_option maxRecDepth 20000 in
theorem mv_X10_its : kMV Y_X10_its 2 := ⟨km6 77 rfl rfl, km1 11 rfl rfl, by decide +kernel, ⟨by decide +kernel, by decide +kernel, by decide +kernel⟩, by decide⟩
set_option maxRecDepth 20000 in
theorem in_X10_its : Cond.instanceMethod Y_X10_its.1 ∈ kTB := km6 76 rfl rfl
set_option maxRecDepth 20000 in
theorem se_X10_its : Cond.selects Y_X10_its.1.cls Y_X10_its.1 Y_X10_its.1 ∈ kTB := km0 78 rfl rfl
abbrev Y_X10_judge : kM := (⟨"MendedTubeModel", "judge", "()I"⟩, prog_12_method_88_code, 5, (some .int))
set_option maxRecDepth 20000 in
theorem mv_X10_judge : kMV Y_X10_judge 0 := ⟨km7 148 rfl rfl, km1 11 rfl rfl, by decide +kernel, ⟨by decide +kernel, by decide +kernel, by decide +kernel⟩, by decide⟩
set_option maxRecDepth 20000 in
theorem in_X10_judge : Cond.instanceMethod Y_X10_judge.1 ∈ kTB := km7 146 rfl rfl
set_option maxRecDepth 20000 in
theorem se_X10_judge : Cond.selects Y_X10_judge.1.cls Y_X10_judge.1 Y_X10_judge.1 ∈ kTB := km7 147 rfl rfl
abbrev Y_X10_keep : kM := (⟨"MendedTubeModel", "keep", "()I"⟩, prog_12_method_129_code, 2, (some .int))
set_option maxRecDepth 20000 in
theorem mv_X10_keep : kMV Y_X10_keep 0 := ⟨km8 99 rfl rfl, km1 11 rfl rfl, by decide +kernel, ⟨by decide +kernel, by decide +kernel, by decide +kernel⟩, by decide⟩
set_option maxRecDepth 20000 in
theorem in_X10_keep : Cond.instanceMethod Y_X10_keep.1 ∈ kTB := km8 97 rfl rfl
set_option maxRecDepth 20000 in
theorem se_X10_keep : Cond.selects Y_X10_keep.1.cls Y_X10_keep.1 Y_X10_keep.1 ∈ kTB := km8 98 rfl rfl
abbrev Y_X10_kindHere : kM := (⟨"MendedTubeModel", "kindHere", "()I"⟩, prog_12_method_97_code, 3, (some .int))
set_option maxRecDepth 20000 in
theorem mv_X10_kindHere : kMV Y_X10_kindHere 0 := ⟨km7 184 rfl rfl, km1 11 rfl rfl, by decide +kernel, ⟨by decide +kernel, by decide +kernel, by decide +kernel⟩, by decide⟩
set_option maxRecDepth 20000 in
theorem in_X10_kindHere : Cond.instanceMethod Y_X10_kindHere.1 ∈ kTB := km7 183 rfl rfl
set_option maxRecDepth 20000 in
theorem se_X10_kindHere : Cond.selects Y_X10_kindHere.1.cls Y_X10_kindHere.1 Y_X10_kindHere.1 ∈ kTB := km0 114 rfl rfl
abbrev Y_X10_lastingFrom : kM := (⟨"MendedTubeModel", "lastingFrom", "(II)I"⟩, prog_12_method_64_code, 6, (some .int))
set_option maxRecDepth 20000 in
theorem mv_X10_lastingFrom : kMV Y_X10_lastingFrom 2 := ⟨km7 44 rfl rfl, km1 11 rfl rfl, by decide +kernel, ⟨by decide +kernel, by decide +kernel, by decide +kernel⟩, by decide⟩
set_option maxRecDepth 20000 in
theorem in_X10_lastingFrom : Cond.instanceMethod Y_X10_lastingFrom.1 ∈ kTB := km7 43 rfl rfl
set_option maxRecDepth 20000 in
theorem se_X10_lastingFrom : Cond.selects Y_X10_lastingFrom.1.cls Y_X10_lastingFrom.1 Y_X10_lastingFrom.1 ∈ kTB := km0 100 rfl rfl
abbrev Y_X10_layPlaces : kM := (⟨"MendedTubeModel", "layPlaces", "()V"⟩, prog_12_method_28_code, 2, none)
set_option maxRecDepth 20000 in
theorem mv_X10_layPlaces : kMV Y_X10_layPlaces 0 := ⟨km6 135 rfl rfl, km1 11 rfl rfl, by decide +kernel, ⟨by decide +kernel, by decide +kernel, by decide +kernel⟩, by decide⟩
set_option maxRecDepth 20000 in
theorem in_X10_layPlaces : Cond.instanceMethod Y_X10_layPlaces.1 ∈ kTB := km6 134 rfl rfl
set_option maxRecDepth 20000 in
theorem se_X10_layPlaces : Cond.selects Y_X10_layPlaces.1.cls Y_X10_layPlaces.1 Y_X10_layPlaces.1 ∈ kTB := km0 85 rfl rfl
abbrev Y_X10_layTube : kM := (⟨"MendedTubeModel", "layTube", "()V"⟩, prog_12_method_27_code, 1, none)
set_option maxRecDepth 20000 in
theorem mv_X10_layTube : kMV Y_X10_layTube 0 := ⟨km6 127 rfl rfl, km1 11 rfl rfl, by decide +kernel, ⟨by decide +kernel, by decide +kernel, by decide +kernel⟩, by decide⟩
set_option maxRecDepth 20000 in
theorem in_X10_layTube : Cond.instanceMethod Y_X10_layTube.1 ∈ kTB := km6 126 rfl rfl
set_option maxRecDepth 20000 in
theorem se_X10_layTube : Cond.selects Y_X10_layTube.1.cls Y_X10_layTube.1 Y_X10_layTube.1 ∈ kTB := km0 83 rfl rfl
abbrev Y_X10_lays : kM := (⟨"MendedTubeModel", "lays", "(I)V"⟩, prog_12_method_83_code, 2, none)
set_option maxRecDepth 20000 in
theorem mv_X10_lays : kMV Y_X10_lays 1 := ⟨km7 132 rfl rfl, km1 11 rfl rfl, by decide +kernel, ⟨by decide +kernel, by decide +kernel, by decide +kernel⟩, by decide⟩
set_option maxRecDepth 20000 in
theorem in_X10_lays : Cond.instanceMethod Y_X10_lays.1 ∈ kTB := km7 131 rfl rfl
set_option maxRecDepth 20000 in
theorem se_X10_lays : Cond.selects Y_X10_lays.1.cls Y_X10_lays.1 Y_X10_lays.1 ∈ kTB := km0 109 rfl rfl
abbrev Y_X10_least : kM := (⟨"MendedTubeModel", "least", "(I)I"⟩, prog_12_method_55_code, 2, (some .int))
set_option maxRecDepth 20000 in
theorem mv_X10_least : kMV Y_X10_least 1 := ⟨km6 233 rfl rfl, km1 11 rfl rfl, by decide +kernel, ⟨by decide +kernel, by decide +kernel, by decide +kernel⟩, by decide⟩
set_option maxRecDepth 20000 in
theorem in_X10_least : Cond.instanceMethod Y_X10_least.1 ∈ kTB := km6 231 rfl rfl
set_option maxRecDepth 20000 in
theorem se_X10_least : Cond.selects Y_X10_least.1.cls Y_X10_least.1 Y_X10_least.1 ∈ kTB := km6 232 rfl rfl
abbrev Y_X10_lens : kM := (⟨"MendedTubeModel", "lens", "(IIII)I"⟩, prog_12_method_13_code, 6, (some .int))
set_option maxRecDepth 20000 in
theorem mv_X10_lens : kMV Y_X10_lens 4 := ⟨km6 45 rfl rfl, km1 11 rfl rfl, by decide +kernel, ⟨by decide +kernel, by decide +kernel, by decide +kernel⟩, by decide⟩
set_option maxRecDepth 20000 in
theorem in_X10_lens : Cond.instanceMethod Y_X10_lens.1 ∈ kTB := km6 43 rfl rfl
set_option maxRecDepth 20000 in
theorem se_X10_lens : Cond.selects Y_X10_lens.1.cls Y_X10_lens.1 Y_X10_lens.1 ∈ kTB := km6 44 rfl rfl
abbrev Y_X10_lensOf : kM := (⟨"MendedTubeModel", "lensOf", "(II)I"⟩, prog_12_method_20_code, 3, (some .int))
set_option maxRecDepth 20000 in
theorem mv_X10_lensOf : kMV Y_X10_lensOf 2 := ⟨km6 65 rfl rfl, km1 11 rfl rfl, by decide +kernel, ⟨by decide +kernel, by decide +kernel, by decide +kernel⟩, by decide⟩
set_option maxRecDepth 20000 in
theorem in_X10_lensOf : Cond.instanceMethod Y_X10_lensOf.1 ∈ kTB := km6 63 rfl rfl
set_option maxRecDepth 20000 in
theorem se_X10_lensOf : Cond.selects Y_X10_lensOf.1.cls Y_X10_lensOf.1 Y_X10_lensOf.1 ∈ kTB := km6 64 rfl rfl
abbrev Y_X10_let : kM := (⟨"MendedTubeModel", "let", "(II)I"⟩, prog_12_method_24_code, 4, (some .int))
set_option maxRecDepth 20000 in
theorem mv_X10_let : kMV Y_X10_let 2 := ⟨km6 116 rfl rfl, km1 11 rfl rfl, by decide +kernel, ⟨by decide +kernel, by decide +kernel, by decide +kernel⟩, by decide⟩
set_option maxRecDepth 20000 in
theorem in_X10_let : Cond.instanceMethod Y_X10_let.1 ∈ kTB := km6 114 rfl rfl
set_option maxRecDepth 20000 in
theorem se_X10_let : Cond.selects Y_X10_let.1.cls Y_X10_let.1 Y_X10_let.1 ∈ kTB := km6 115 rfl rfl
abbrev Y_X10_liar : kM := (⟨"MendedTubeModel", "liar", "()I"⟩, prog_12_method_79_code, 3, (some .int))
set_option maxRecDepth 20000 in
theorem mv_X10_liar : kMV Y_X10_liar 0 := ⟨km7 101 rfl rfl, km1 11 rfl rfl, by decide +kernel, ⟨by decide +kernel, by decide +kernel, by decide +kernel⟩, by decide⟩
set_option maxRecDepth 20000 in
theorem in_X10_liar : Cond.instanceMethod Y_X10_liar.1 ∈ kTB := km7 99 rfl rfl
set_option maxRecDepth 20000 in
theorem se_X10_liar : Cond.selects Y_X10_liar.1.cls Y_X10_liar.1 Y_X10_liar.1 ∈ kTB := km7 100 rfl rfl
abbrev Y_X10_many : kM := (⟨"MendedTubeModel", "many", "(I)I"⟩, prog_12_method_128_code, 2, (some .int))
set_option maxRecDepth 20000 in
theorem mv_X10_many : kMV Y_X10_many 1 := ⟨km8 95 rfl rfl, km1 11 rfl rfl, by decide +kernel, ⟨by decide +kernel, by decide +kernel, by decide +kernel⟩, by decide⟩
set_option maxRecDepth 20000 in
theorem in_X10_many : Cond.instanceMethod Y_X10_many.1 ∈ kTB := km8 93 rfl rfl
set_option maxRecDepth 20000 in
theorem se_X10_many : Cond.selects Y_X10_many.1.cls Y_X10_many.1 Y_X10_many.1 ∈ kTB := km8 94 rfl rfl
abbrev Y_X10_mate : kM := (⟨"MendedTubeModel", "mate", "(I)I"⟩, prog_12_method_62_code, 9, (some .int))
set_option maxRecDepth 20000 in
theorem mv_X10_mate : kMV Y_X10_mate 1 := ⟨km7 32 rfl rfl, km1 11 rfl rfl, by decide +kernel, ⟨by decide +kernel, by decide +kernel, by decide +kernel⟩, by decide⟩
set_option maxRecDepth 20000 in
theorem in_X10_mate : Cond.instanceMethod Y_X10_mate.1 ∈ kTB := km7 30 rfl rfl
set_option maxRecDepth 20000 in
theorem se_X10_mate : Cond.selects Y_X10_mate.1.cls Y_X10_mate.1 Y_X10_mate.1 ∈ kTB := km7 31 rfl rfl
abbrev Y_X10_mended : kM := (⟨"MendedTubeModel", "mended", "()I"⟩, prog_12_method_38_code, 1, (some .int))
set_option maxRecDepth 20000 in
theorem mv_X10_mended : kMV Y_X10_mended 0 := ⟨km6 170 rfl rfl, km1 11 rfl rfl, by decide +kernel, ⟨by decide +kernel, by decide +kernel, by decide +kernel⟩, by decide⟩
set_option maxRecDepth 20000 in
theorem in_X10_mended : Cond.instanceMethod Y_X10_mended.1 ∈ kTB := km6 168 rfl rfl
set_option maxRecDepth 20000 in
theorem se_X10_mended : Cond.selects Y_X10_mended.1.cls Y_X10_mended.1 Y_X10_mended.1 ∈ kTB := km6 169 rfl rfl
abbrev Y_X10_mostOf : kM := (⟨"MendedTubeModel", "mostOf", "(I)I"⟩, prog_12_method_59_code, 7, (some .int))
set_option maxRecDepth 20000 in
theorem mv_X10_mostOf : kMV Y_X10_mostOf 1 := ⟨km7 28 rfl rfl, km1 11 rfl rfl, by decide +kernel, ⟨by decide +kernel, by decide +kernel, by decide +kernel⟩, by decide⟩
set_option maxRecDepth 20000 in
theorem in_X10_mostOf : Cond.instanceMethod Y_X10_mostOf.1 ∈ kTB := km7 27 rfl rfl
set_option maxRecDepth 20000 in
theorem se_X10_mostOf : Cond.selects Y_X10_mostOf.1.cls Y_X10_mostOf.1 Y_X10_mostOf.1 ∈ kTB := km0 98 rfl rfl
abbrev Y_X10_narrowed : kM := (⟨"MendedTubeModel", "narrowed", "(II)I"⟩, prog_12_method_109_code, 2, (some .int))
set_option maxRecDepth 20000 in
theorem mv_X10_narrowed : kMV Y_X10_narrowed 2 := ⟨km8 20 rfl rfl, km1 11 rfl rfl, by decide +kernel, ⟨by decide +kernel, by decide +kernel, by decide +kernel⟩, by decide⟩
set_option maxRecDepth 20000 in
theorem st_X10_narrowed : Cond.static Y_X10_narrowed.1 ∈ kTB := km8 19 rfl rfl
abbrev Y_X10_number : kM := (⟨"MendedTubeModel", "number", "(I)V"⟩, prog_12_method_96_code, 4, none)
set_option maxRecDepth 20000 in
theorem mv_X10_number : kMV Y_X10_number 1 := ⟨km7 239 rfl rfl, km1 11 rfl rfl, by decide +kernel, ⟨by decide +kernel, by decide +kernel, by decide +kernel⟩, by decide⟩
set_option maxRecDepth 20000 in
theorem in_X10_number : Cond.instanceMethod Y_X10_number.1 ∈ kTB := km7 238 rfl rfl
set_option maxRecDepth 20000 in
theorem se_X10_number : Cond.selects Y_X10_number.1.cls Y_X10_number.1 Y_X10_number.1 ∈ kTB := km0 124 rfl rfl
abbrev Y_X10_often : kM := (⟨"MendedTubeModel", "often", "(I)I"⟩, prog_12_method_82_code, 5, (some .int))
set_option maxRecDepth 20000 in
theorem mv_X10_often : kMV Y_X10_often 1 := ⟨km7 114 rfl rfl, km1 11 rfl rfl, by decide +kernel, ⟨by decide +kernel, by decide +kernel, by decide +kernel⟩, by decide⟩
set_option maxRecDepth 20000 in
theorem in_X10_often : Cond.instanceMethod Y_X10_often.1 ∈ kTB := km7 112 rfl rfl
set_option maxRecDepth 20000 in
theorem se_X10_often : Cond.selects Y_X10_often.1.cls Y_X10_often.1 Y_X10_often.1 ∈ kTB := km7 113 rfl rfl
abbrev Y_X10_onShelf : kM := (⟨"MendedTubeModel", "onShelf", "(I)I"⟩, prog_12_method_117_code, 2, (some .int))
set_option maxRecDepth 20000 in
theorem mv_X10_onShelf : kMV Y_X10_onShelf 1 := ⟨km8 55 rfl rfl, km1 11 rfl rfl, by decide +kernel, ⟨by decide +kernel, by decide +kernel, by decide +kernel⟩, by decide⟩
set_option maxRecDepth 20000 in
theorem in_X10_onShelf : Cond.instanceMethod Y_X10_onShelf.1 ∈ kTB := km8 54 rfl rfl
set_option maxRecDepth 20000 in
theorem se_X10_onShelf : Cond.selects Y_X10_onShelf.1.cls Y_X10_onShelf.1 Y_X10_onShelf.1 ∈ kTB := km0 127 rfl rfl
abbrev Y_X10_one : kM := (⟨"MendedTubeModel", "one", "()V"⟩, prog_12_method_102_code, 2, none)
set_option maxRecDepth 20000 in
theorem mv_X10_one : kMV Y_X10_one 0 := ⟨km7 213 rfl rfl, km1 11 rfl rfl, by decide +kernel, ⟨by decide +kernel, by decide +kernel, by decide +kernel⟩, by decide⟩
set_option maxRecDepth 20000 in
theorem in_X10_one : Cond.instanceMethod Y_X10_one.1 ∈ kTB := km7 212 rfl rfl
set_option maxRecDepth 20000 in
theorem se_X10_one : Cond.selects Y_X10_one.1.cls Y_X10_one.1 Y_X10_one.1 ∈ kTB := km0 119 rfl rfl
abbrev Y_X10_pairs : kM := (⟨"MendedTubeModel", "pairs", "()I"⟩, prog_12_method_61_code, 1, (some .int))
set_option maxRecDepth 20000 in
theorem mv_X10_pairs : kMV Y_X10_pairs 0 := ⟨km7 16 rfl rfl, km1 11 rfl rfl, by decide +kernel, ⟨by decide +kernel, by decide +kernel, by decide +kernel⟩, by decide⟩
set_option maxRecDepth 20000 in
theorem in_X10_pairs : Cond.instanceMethod Y_X10_pairs.1 ∈ kTB := km7 14 rfl rfl
set_option maxRecDepth 20000 in
theorem se_X10_pairs : Cond.selects Y_X10_pairs.1.cls Y_X10_pairs.1 Y_X10_pairs.1 ∈ kTB := km7 15 rfl rfl
abbrev Y_X10_parts : kM := (⟨"MendedTubeModel", "parts", "(I)I"⟩, prog_12_method_123_code, 3, (some .int))
set_option maxRecDepth 20000 in
theorem mv_X10_parts : kMV Y_X10_parts 1 := ⟨km8 75 rfl rfl, km1 11 rfl rfl, by decide +kernel, ⟨by decide +kernel, by decide +kernel, by decide +kernel⟩, by decide⟩
set_option maxRecDepth 20000 in
theorem in_X10_parts : Cond.instanceMethod Y_X10_parts.1 ∈ kTB := km8 74 rfl rfl
set_option maxRecDepth 20000 in
theorem se_X10_parts : Cond.selects Y_X10_parts.1.cls Y_X10_parts.1 Y_X10_parts.1 ∈ kTB := km0 131 rfl rfl
abbrev Y_X10_pick : kM := (⟨"MendedTubeModel", "pick", "(II)I"⟩, prog_12_method_56_code, 3, (some .int))
set_option maxRecDepth 20000 in
theorem mv_X10_pick : kMV Y_X10_pick 2 := ⟨km7 8 rfl rfl, km1 11 rfl rfl, by decide +kernel, ⟨by decide +kernel, by decide +kernel, by decide +kernel⟩, by decide⟩
set_option maxRecDepth 20000 in
theorem in_X10_pick : Cond.instanceMethod Y_X10_pick.1 ∈ kTB := km7 6 rfl rfl
set_option maxRecDepth 20000 in
theorem se_X10_pick : Cond.selects Y_X10_pick.1.cls Y_X10_pick.1 Y_X10_pick.1 ∈ kTB := km7 7 rfl rfl
abbrev Y_X10_place : kM := (⟨"MendedTubeModel", "place", "(II)I"⟩, prog_12_method_43_code, 3, (some .int))
set_option maxRecDepth 20000 in
theorem mv_X10_place : kMV Y_X10_place 2 := ⟨km6 197 rfl rfl, km1 11 rfl rfl, by decide +kernel, ⟨by decide +kernel, by decide +kernel, by decide +kernel⟩, by decide⟩
set_option maxRecDepth 20000 in
theorem in_X10_place : Cond.instanceMethod Y_X10_place.1 ∈ kTB := km6 195 rfl rfl
set_option maxRecDepth 20000 in
theorem se_X10_place : Cond.selects Y_X10_place.1.cls Y_X10_place.1 Y_X10_place.1 ∈ kTB := km6 196 rfl rfl
abbrev Y_X10_placeOf : kM := (⟨"MendedTubeModel", "placeOf", "(I)I"⟩, prog_12_method_19_code, 3, (some .int))
set_option maxRecDepth 20000 in
theorem mv_X10_placeOf : kMV Y_X10_placeOf 1 := ⟨km6 95 rfl rfl, km1 11 rfl rfl, by decide +kernel, ⟨by decide +kernel, by decide +kernel, by decide +kernel⟩, by decide⟩
set_option maxRecDepth 20000 in
theorem in_X10_placeOf : Cond.instanceMethod Y_X10_placeOf.1 ∈ kTB := km6 94 rfl rfl
set_option maxRecDepth 20000 in
theorem se_X10_placeOf : Cond.selects Y_X10_placeOf.1.cls Y_X10_placeOf.1 Y_X10_placeOf.1 ∈ kTB := km0 81 rfl rfl
abbrev Y_X10_plainParts : kM := (⟨"MendedTubeModel", "plainParts", "(I)I"⟩, prog_12_method_122_code, 2, (some .int))
set_option maxRecDepth 20000 in
theorem mv_X10_plainParts : kMV Y_X10_plainParts 1 := ⟨km8 79 rfl rfl, km1 11 rfl rfl, by decide +kernel, ⟨by decide +kernel, by decide +kernel, by decide +kernel⟩, by decide⟩
set_option maxRecDepth 20000 in
theorem in_X10_plainParts : Cond.instanceMethod Y_X10_plainParts.1 ∈ kTB := km8 78 rfl rfl
set_option maxRecDepth 20000 in
theorem se_X10_plainParts : Cond.selects Y_X10_plainParts.1.cls Y_X10_plainParts.1 Y_X10_plainParts.1 ∈ kTB := km0 132 rfl rfl
abbrev Y_X10_play : kM := (⟨"MendedTubeModel", "play", "(I)I"⟩, prog_12_method_73_code, 6, (some .int))
set_option maxRecDepth 20000 in
theorem mv_X10_play : kMV Y_X10_play 1 := ⟨km7 76 rfl rfl, km1 11 rfl rfl, by decide +kernel, ⟨by decide +kernel, by decide +kernel, by decide +kernel⟩, by decide⟩
set_option maxRecDepth 20000 in
theorem in_X10_play : Cond.instanceMethod Y_X10_play.1 ∈ kTB := km7 74 rfl rfl
set_option maxRecDepth 20000 in
theorem se_X10_play : Cond.selects Y_X10_play.1.cls Y_X10_play.1 Y_X10_play.1 ∈ kTB := km7 75 rfl rfl
abbrev Y_X10_price : kM := (⟨"MendedTubeModel", "price", "()I"⟩, prog_12_method_47_code, 3, (some .int))
set_option maxRecDepth 20000 in
theorem mv_X10_price : kMV Y_X10_price 0 := ⟨km6 213 rfl rfl, km1 11 rfl rfl, by decide +kernel, ⟨by decide +kernel, by decide +kernel, by decide +kernel⟩, by decide⟩
set_option maxRecDepth 20000 in
theorem in_X10_price : Cond.instanceMethod Y_X10_price.1 ∈ kTB := km6 211 rfl rfl
set_option maxRecDepth 20000 in
theorem se_X10_price : Cond.selects Y_X10_price.1.cls Y_X10_price.1 Y_X10_price.1 ∈ kTB := km6 212 rfl rfl
abbrev Y_X10_prove : kM := (⟨"MendedTubeModel", "prove", "(I)I"⟩, prog_12_method_84_code, 3, (some .int))
set_option maxRecDepth 20000 in
theorem mv_X10_prove : kMV Y_X10_prove 1 := ⟨km7 128 rfl rfl, km1 11 rfl rfl, by decide +kernel, ⟨by decide +kernel, by decide +kernel, by decide +kernel⟩, by decide⟩
set_option maxRecDepth 20000 in
theorem in_X10_prove : Cond.instanceMethod Y_X10_prove.1 ∈ kTB := km7 126 rfl rfl
set_option maxRecDepth 20000 in
theorem se_X10_prove : Cond.selects Y_X10_prove.1.cls Y_X10_prove.1 Y_X10_prove.1 ∈ kTB := km7 127 rfl rfl
abbrev Y_X10_puts : kM := (⟨"MendedTubeModel", "puts", "()V"⟩, prog_12_method_6_code, 2, none)
set_option maxRecDepth 20000 in
theorem mv_X10_puts : kMV Y_X10_puts 0 := ⟨km7 119 rfl rfl, km1 11 rfl rfl, by decide +kernel, ⟨by decide +kernel, by decide +kernel, by decide +kernel⟩, by decide⟩
set_option maxRecDepth 20000 in
theorem in_X10_puts : Cond.instanceMethod Y_X10_puts.1 ∈ kTB := km7 118 rfl rfl
set_option maxRecDepth 20000 in
theorem se_X10_puts : Cond.selects Y_X10_puts.1.cls Y_X10_puts.1 Y_X10_puts.1 ∈ kTB := km0 107 rfl rfl
abbrev Y_X10_putsBack : kM := (⟨"MendedTubeModel", "putsBack", "()V"⟩, prog_12_method_7_code, 2, none)
set_option maxRecDepth 20000 in
theorem mv_X10_putsBack : kMV Y_X10_putsBack 0 := ⟨km7 124 rfl rfl, km1 11 rfl rfl, by decide +kernel, ⟨by decide +kernel, by decide +kernel, by decide +kernel⟩, by decide⟩
set_option maxRecDepth 20000 in
theorem in_X10_putsBack : Cond.instanceMethod Y_X10_putsBack.1 ∈ kTB := km7 123 rfl rfl
set_option maxRecDepth 20000 in
theorem se_X10_putsBack : Cond.selects Y_X10_putsBack.1.cls Y_X10_putsBack.1 Y_X10_putsBack.1 ∈ kTB := km0 108 rfl rfl
abbrev Y_X10_quarter : kM := (⟨"MendedTubeModel", "quarter", "(II)I"⟩, prog_12_method_63_code, 3, (some .int))
set_option maxRecDepth 20000 in
theorem mv_X10_quarter : kMV Y_X10_quarter 2 := ⟨km7 47 rfl rfl, km1 11 rfl rfl, by decide +kernel, ⟨by decide +kernel, by decide +kernel, by decide +kernel⟩, by decide⟩
set_option maxRecDepth 20000 in
theorem st_X10_quarter : Cond.static Y_X10_quarter.1 ∈ kTB := km7 46 rfl rfl
abbrev Y_X10_remake : kM := (⟨"MendedTubeModel", "remake", "(II)I"⟩, prog_12_method_22_code, 4, (some .int))
set_option maxRecDepth 20000 in
theorem mv_X10_remake : kMV Y_X10_remake 2 := ⟨km6 107 rfl rfl, km1 11 rfl rfl, by decide +kernel, ⟨by decide +kernel, by decide +kernel, by decide +kernel⟩, by decide⟩
set_option maxRecDepth 20000 in
theorem in_X10_remake : Cond.instanceMethod Y_X10_remake.1 ∈ kTB := km6 105 rfl rfl
set_option maxRecDepth 20000 in
theorem se_X10_remake : Cond.selects Y_X10_remake.1.cls Y_X10_remake.1 Y_X10_remake.1 ∈ kTB := km6 106 rfl rfl
abbrev Y_X10_report : kM := (⟨"MendedTubeModel", "report", "(II)I"⟩, prog_12_method_74_code, 3, (some .int))
set_option maxRecDepth 20000 in
theorem mv_X10_report : kMV Y_X10_report 2 := ⟨km7 80 rfl rfl, km1 11 rfl rfl, by decide +kernel, ⟨by decide +kernel, by decide +kernel, by decide +kernel⟩, by decide⟩
set_option maxRecDepth 20000 in
theorem in_X10_report : Cond.instanceMethod Y_X10_report.1 ∈ kTB := km7 78 rfl rfl
set_option maxRecDepth 20000 in
theorem se_X10_report : Cond.selects Y_X10_report.1.cls Y_X10_report.1 Y_X10_report.1 ∈ kTB := km7 79 rfl rfl
abbrev Y_X10_row : kM := (⟨"MendedTubeModel", "row", "(II)I"⟩, prog_12_method_86_code, 3, (some .int))
set_option maxRecDepth 20000 in
theorem mv_X10_row : kMV Y_X10_row 2 := ⟨km7 136 rfl rfl, km1 11 rfl rfl, by decide +kernel, ⟨by decide +kernel, by decide +kernel, by decide +kernel⟩, by decide⟩
set_option maxRecDepth 20000 in
theorem in_X10_row : Cond.instanceMethod Y_X10_row.1 ∈ kTB := km7 134 rfl rfl
set_option maxRecDepth 20000 in
theorem se_X10_row : Cond.selects Y_X10_row.1.cls Y_X10_row.1 Y_X10_row.1 ∈ kTB := km7 135 rfl rfl
abbrev Y_X10_rule : kM := (⟨"MendedTubeModel", "rule", "()V"⟩, prog_12_method_105_code, 7, none)
set_option maxRecDepth 20000 in
theorem mv_X10_rule : kMV Y_X10_rule 0 := ⟨km7 180 rfl rfl, km1 11 rfl rfl, by decide +kernel, ⟨by decide +kernel, by decide +kernel, by decide +kernel⟩, by decide⟩
set_option maxRecDepth 20000 in
theorem in_X10_rule : Cond.instanceMethod Y_X10_rule.1 ∈ kTB := km7 179 rfl rfl
set_option maxRecDepth 20000 in
theorem se_X10_rule : Cond.selects Y_X10_rule.1.cls Y_X10_rule.1 Y_X10_rule.1 ∈ kTB := km0 113 rfl rfl
abbrev Y_X10_rules : kM := (⟨"MendedTubeModel", "rules", "()I"⟩, prog_12_method_106_code, 1, (some .int))
set_option maxRecDepth 20000 in
theorem mv_X10_rules : kMV Y_X10_rules 0 := ⟨km7 158 rfl rfl, km1 11 rfl rfl, by decide +kernel, ⟨by decide +kernel, by decide +kernel, by decide +kernel⟩, by decide⟩
set_option maxRecDepth 20000 in
theorem in_X10_rules : Cond.instanceMethod Y_X10_rules.1 ∈ kTB := km7 156 rfl rfl
set_option maxRecDepth 20000 in
theorem se_X10_rules : Cond.selects Y_X10_rules.1.cls Y_X10_rules.1 Y_X10_rules.1 ∈ kTB := km7 157 rfl rfl
abbrev Y_X10_runs : kM := (⟨"MendedTubeModel", "runs", "(I)V"⟩, prog_12_method_119_code, 2, none)
set_option maxRecDepth 20000 in
theorem mv_X10_runs : kMV Y_X10_runs 1 := ⟨km8 67 rfl rfl, km1 11 rfl rfl, by decide +kernel, ⟨by decide +kernel, by decide +kernel, by decide +kernel⟩, by decide⟩
set_option maxRecDepth 20000 in
theorem in_X10_runs : Cond.instanceMethod Y_X10_runs.1 ∈ kTB := km8 66 rfl rfl
set_option maxRecDepth 20000 in
theorem se_X10_runs : Cond.selects Y_X10_runs.1.cls Y_X10_runs.1 Y_X10_runs.1 ∈ kTB := km0 129 rfl rfl
abbrev Y_X10_seed : kM := (⟨"MendedTubeModel", "seed", "(I)I"⟩, prog_12_method_80_code, 3, (some .int))
set_option maxRecDepth 20000 in
theorem mv_X10_seed : kMV Y_X10_seed 1 := ⟨km7 105 rfl rfl, km1 11 rfl rfl, by decide +kernel, ⟨by decide +kernel, by decide +kernel, by decide +kernel⟩, by decide⟩
set_option maxRecDepth 20000 in
theorem in_X10_seed : Cond.instanceMethod Y_X10_seed.1 ∈ kTB := km7 103 rfl rfl
set_option maxRecDepth 20000 in
theorem se_X10_seed : Cond.selects Y_X10_seed.1.cls Y_X10_seed.1 Y_X10_seed.1 ∈ kTB := km7 104 rfl rfl
abbrev Y_X10_seen : kM := (⟨"MendedTubeModel", "seen", "(I)I"⟩, prog_12_method_34_code, 2, (some .int))
set_option maxRecDepth 20000 in
theorem mv_X10_seen : kMV Y_X10_seen 1 := ⟨km6 120 rfl rfl, km1 11 rfl rfl, by decide +kernel, ⟨by decide +kernel, by decide +kernel, by decide +kernel⟩, by decide⟩
set_option maxRecDepth 20000 in
theorem in_X10_seen : Cond.instanceMethod Y_X10_seen.1 ∈ kTB := km6 118 rfl rfl
set_option maxRecDepth 20000 in
theorem se_X10_seen : Cond.selects Y_X10_seen.1.cls Y_X10_seen.1 Y_X10_seen.1 ∈ kTB := km6 119 rfl rfl
abbrev Y_X10_seenBy : kM := (⟨"MendedTubeModel", "seenBy", "(I)I"⟩, prog_12_method_30_code, 3, (some .int))
set_option maxRecDepth 20000 in
theorem mv_X10_seenBy : kMV Y_X10_seenBy 1 := ⟨km6 143 rfl rfl, km1 11 rfl rfl, by decide +kernel, ⟨by decide +kernel, by decide +kernel, by decide +kernel⟩, by decide⟩
set_option maxRecDepth 20000 in
theorem in_X10_seenBy : Cond.instanceMethod Y_X10_seenBy.1 ∈ kTB := km6 142 rfl rfl
set_option maxRecDepth 20000 in
theorem se_X10_seenBy : Cond.selects Y_X10_seenBy.1.cls Y_X10_seenBy.1 Y_X10_seenBy.1 ∈ kTB := km0 87 rfl rfl
abbrev Y_X10_setting : kM := (⟨"MendedTubeModel", "setting", "(I)I"⟩, prog_12_method_23_code, 2, (some .int))
set_option maxRecDepth 20000 in
theorem mv_X10_setting : kMV Y_X10_setting 1 := ⟨km6 111 rfl rfl, km1 11 rfl rfl, by decide +kernel, ⟨by decide +kernel, by decide +kernel, by decide +kernel⟩, by decide⟩
set_option maxRecDepth 20000 in
theorem in_X10_setting : Cond.instanceMethod Y_X10_setting.1 ∈ kTB := km6 109 rfl rfl
set_option maxRecDepth 20000 in
theorem se_X10_setting : Cond.selects Y_X10_setting.1.cls Y_X10_setting.1 Y_X10_setting.1 ∈ kTB := km6 110 rfl rfl
abbrev Y_X10_sheet : kM := (⟨"MendedTubeModel", "sheet", "(III)I"⟩, prog_12_method_108_code, 5, (some .int))
set_option maxRecDepth 20000 in
theorem mv_X10_sheet : kMV Y_X10_sheet 3 := ⟨km8 8 rfl rfl, km1 11 rfl rfl, by decide +kernel, ⟨by decide +kernel, by decide +kernel, by decide +kernel⟩, by decide⟩
set_option maxRecDepth 20000 in
theorem in_X10_sheet : Cond.instanceMethod Y_X10_sheet.1 ∈ kTB := km8 6 rfl rfl
set_option maxRecDepth 20000 in
theorem se_X10_sheet : Cond.selects Y_X10_sheet.1.cls Y_X10_sheet.1 Y_X10_sheet.1 ∈ kTB := km8 7 rfl rfl
abbrev Y_X10_shelf : kM := (⟨"MendedTubeModel", "shelf", "(III)I"⟩, prog_12_method_116_code, 4, (some .int))
set_option maxRecDepth 20000 in
theorem mv_X10_shelf : kMV Y_X10_shelf 3 := ⟨km8 45 rfl rfl, km1 11 rfl rfl, by decide +kernel, ⟨by decide +kernel, by decide +kernel, by decide +kernel⟩, by decide⟩
set_option maxRecDepth 20000 in
theorem in_X10_shelf : Cond.instanceMethod Y_X10_shelf.1 ∈ kTB := km8 43 rfl rfl
set_option maxRecDepth 20000 in
theorem se_X10_shelf : Cond.selects Y_X10_shelf.1.cls Y_X10_shelf.1 Y_X10_shelf.1 ∈ kTB := km8 44 rfl rfl
abbrev Y_X10_shift : kM := (⟨"MendedTubeModel", "shift", "()I"⟩, prog_12_method_35_code, 1, (some .int))
set_option maxRecDepth 20000 in
theorem mv_X10_shift : kMV Y_X10_shift 0 := ⟨km6 151 rfl rfl, km1 11 rfl rfl, by decide +kernel, ⟨by decide +kernel, by decide +kernel, by decide +kernel⟩, by decide⟩
set_option maxRecDepth 20000 in
theorem in_X10_shift : Cond.instanceMethod Y_X10_shift.1 ∈ kTB := km6 149 rfl rfl
set_option maxRecDepth 20000 in
theorem se_X10_shift : Cond.selects Y_X10_shift.1.cls Y_X10_shift.1 Y_X10_shift.1 ∈ kTB := km6 150 rfl rfl
abbrev Y_X10_sizeOf : kM := (⟨"MendedTubeModel", "sizeOf", "(I)I"⟩, prog_12_method_3_code, 1, (some .int))
set_option maxRecDepth 20000 in
theorem mv_X10_sizeOf : kMV Y_X10_sizeOf 1 := ⟨km6 154 rfl rfl, km1 11 rfl rfl, by decide +kernel, ⟨by decide +kernel, by decide +kernel, by decide +kernel⟩, by decide⟩
set_option maxRecDepth 20000 in
theorem st_X10_sizeOf : Cond.static Y_X10_sizeOf.1 ∈ kTB := km6 153 rfl rfl
abbrev Y_X10_span : kM := (⟨"MendedTubeModel", "span", "(I)I"⟩, prog_12_method_78_code, 2, (some .int))
set_option maxRecDepth 20000 in
theorem mv_X10_span : kMV Y_X10_span 1 := ⟨km7 88 rfl rfl, km1 11 rfl rfl, by decide +kernel, ⟨by decide +kernel, by decide +kernel, by decide +kernel⟩, by decide⟩
set_option maxRecDepth 20000 in
theorem in_X10_span : Cond.instanceMethod Y_X10_span.1 ∈ kTB := km7 86 rfl rfl
set_option maxRecDepth 20000 in
theorem se_X10_span : Cond.selects Y_X10_span.1.cls Y_X10_span.1 Y_X10_span.1 ∈ kTB := km7 87 rfl rfl
abbrev Y_X10_spread : kM := (⟨"MendedTubeModel", "spread", "(III)I"⟩, prog_12_method_115_code, 10, (some .int))
set_option maxRecDepth 20000 in
theorem mv_X10_spread : kMV Y_X10_spread 3 := ⟨km8 41 rfl rfl, km1 11 rfl rfl, by decide +kernel, ⟨by decide +kernel, by decide +kernel, by decide +kernel⟩, by decide⟩
set_option maxRecDepth 20000 in
theorem in_X10_spread : Cond.instanceMethod Y_X10_spread.1 ∈ kTB := km8 39 rfl rfl
set_option maxRecDepth 20000 in
theorem se_X10_spread : Cond.selects Y_X10_spread.1.cls Y_X10_spread.1 Y_X10_spread.1 ∈ kTB := km8 40 rfl rfl
abbrev Y_X10_strengthOf : kM := (⟨"MendedTubeModel", "strengthOf", "(I)I"⟩, prog_12_method_18_code, 9, (some .int))
set_option maxRecDepth 20000 in
theorem mv_X10_strengthOf : kMV Y_X10_strengthOf 1 := ⟨km6 73 rfl rfl, km1 11 rfl rfl, by decide +kernel, ⟨by decide +kernel, by decide +kernel, by decide +kernel⟩, by decide⟩
set_option maxRecDepth 20000 in
theorem in_X10_strengthOf : Cond.instanceMethod Y_X10_strengthOf.1 ∈ kTB := km6 72 rfl rfl
set_option maxRecDepth 20000 in
theorem se_X10_strengthOf : Cond.selects Y_X10_strengthOf.1.cls Y_X10_strengthOf.1 Y_X10_strengthOf.1 ∈ kTB := km0 77 rfl rfl
abbrev Y_X10_take : kM := (⟨"MendedTubeModel", "take", "(I)I"⟩, prog_12_method_42_code, 4, (some .int))
set_option maxRecDepth 20000 in
theorem mv_X10_take : kMV Y_X10_take 1 := ⟨km6 189 rfl rfl, km1 11 rfl rfl, by decide +kernel, ⟨by decide +kernel, by decide +kernel, by decide +kernel⟩, by decide⟩
set_option maxRecDepth 20000 in
theorem in_X10_take : Cond.instanceMethod Y_X10_take.1 ∈ kTB := km6 187 rfl rfl
set_option maxRecDepth 20000 in
theorem se_X10_take : Cond.selects Y_X10_take.1.cls Y_X10_take.1 Y_X10_take.1 ∈ kTB := km6 188 rfl rfl
abbrev Y_X10_taken : kM := (⟨"MendedTubeModel", "taken", "(II)I"⟩, prog_12_method_118_code, 5, (some .int))
set_option maxRecDepth 20000 in
theorem mv_X10_taken : kMV Y_X10_taken 2 := ⟨km8 49 rfl rfl, km1 11 rfl rfl, by decide +kernel, ⟨by decide +kernel, by decide +kernel, by decide +kernel⟩, by decide⟩
set_option maxRecDepth 20000 in
theorem in_X10_taken : Cond.instanceMethod Y_X10_taken.1 ∈ kTB := km8 47 rfl rfl
set_option maxRecDepth 20000 in
theorem se_X10_taken : Cond.selects Y_X10_taken.1.cls Y_X10_taken.1 Y_X10_taken.1 ∈ kTB := km8 48 rfl rfl
abbrev Y_X10_tells : kM := (⟨"MendedTubeModel", "tells", "(I)I"⟩, prog_12_method_124_code, 3, (some .int))
set_option maxRecDepth 20000 in
theorem mv_X10_tells : kMV Y_X10_tells 1 := ⟨km8 83 rfl rfl, km1 11 rfl rfl, by decide +kernel, ⟨by decide +kernel, by decide +kernel, by decide +kernel⟩, by decide⟩
set_option maxRecDepth 20000 in
theorem in_X10_tells : Cond.instanceMethod Y_X10_tells.1 ∈ kTB := km8 82 rfl rfl
set_option maxRecDepth 20000 in
theorem se_X10_tells : Cond.selects Y_X10_tells.1.cls Y_X10_tells.1 Y_X10_tells.1 ∈ kTB := km0 133 rfl rfl
abbrev Y_X10_thinks : kM := (⟨"MendedTubeModel", "thinks", "(III)V"⟩, prog_12_method_26_code, 4, none)
set_option maxRecDepth 20000 in
theorem mv_X10_thinks : kMV Y_X10_thinks 3 := ⟨km6 139 rfl rfl, km1 11 rfl rfl, by decide +kernel, ⟨by decide +kernel, by decide +kernel, by decide +kernel⟩, by decide⟩
set_option maxRecDepth 20000 in
theorem in_X10_thinks : Cond.instanceMethod Y_X10_thinks.1 ∈ kTB := km6 138 rfl rfl
set_option maxRecDepth 20000 in
theorem se_X10_thinks : Cond.selects Y_X10_thinks.1.cls Y_X10_thinks.1 Y_X10_thinks.1 ∈ kTB := km0 86 rfl rfl
abbrev Y_X10_through : kM := (⟨"MendedTubeModel", "through", "(II)V"⟩, prog_12_method_29_code, 3, none)
set_option maxRecDepth 20000 in
theorem mv_X10_through : kMV Y_X10_through 2 := ⟨km6 147 rfl rfl, km1 11 rfl rfl, by decide +kernel, ⟨by decide +kernel, by decide +kernel, by decide +kernel⟩, by decide⟩
set_option maxRecDepth 20000 in
theorem in_X10_through : Cond.instanceMethod Y_X10_through.1 ∈ kTB := km6 146 rfl rfl
set_option maxRecDepth 20000 in
theorem se_X10_through : Cond.selects Y_X10_through.1.cls Y_X10_through.1 Y_X10_through.1 ∈ kTB := km0 88 rfl rfl
abbrev Y_X10_token : kM := (⟨"MendedTubeModel", "token", "()V"⟩, prog_12_method_93_code, 3, none)
set_option maxRecDepth 20000 in
theorem mv_X10_token : kMV Y_X10_token 0 := ⟨km7 162 rfl rfl, km1 11 rfl rfl, by decide +kernel, ⟨by decide +kernel, by decide +kernel, by decide +kernel⟩, by decide⟩
set_option maxRecDepth 20000 in
theorem in_X10_token : Cond.instanceMethod Y_X10_token.1 ∈ kTB := km7 161 rfl rfl
set_option maxRecDepth 20000 in
theorem se_X10_token : Cond.selects Y_X10_token.1.cls Y_X10_token.1 Y_X10_token.1 ∈ kTB := km0 111 rfl rfl
abbrev Y_X10_trace : kM := (⟨"MendedTubeModel", "trace", "(I)I"⟩, prog_12_method_127_code, 2, (some .int))
set_option maxRecDepth 20000 in
theorem mv_X10_trace : kMV Y_X10_trace 1 := ⟨km8 87 rfl rfl, km1 11 rfl rfl, by decide +kernel, ⟨by decide +kernel, by decide +kernel, by decide +kernel⟩, by decide⟩
set_option maxRecDepth 20000 in
theorem in_X10_trace : Cond.instanceMethod Y_X10_trace.1 ∈ kTB := km8 85 rfl rfl
set_option maxRecDepth 20000 in
theorem se_X10_trace : Cond.selects Y_X10_trace.1.cls Y_X10_trace.1 Y_X10_trace.1 ∈ kTB := km8 86 rfl rfl
abbrev Y_X10_traced : kM := (⟨"MendedTubeModel", "traced", "()I"⟩, prog_12_method_126_code, 1, (some .int))
set_option maxRecDepth 20000 in
theorem mv_X10_traced : kMV Y_X10_traced 0 := ⟨km8 91 rfl rfl, km1 11 rfl rfl, by decide +kernel, ⟨by decide +kernel, by decide +kernel, by decide +kernel⟩, by decide⟩
set_option maxRecDepth 20000 in
theorem in_X10_traced : Cond.instanceMethod Y_X10_traced.1 ∈ kTB := km8 90 rfl rfl
set_option maxRecDepth 20000 in
theorem se_X10_traced : Cond.selects Y_X10_traced.1.cls Y_X10_traced.1 Y_X10_traced.1 ∈ kTB := km0 134 rfl rfl
abbrev Y_X10_tries : kM := (⟨"MendedTubeModel", "tries", "(II)V"⟩, prog_12_method_52_code, 5, none)
set_option maxRecDepth 20000 in
theorem mv_X10_tries : kMV Y_X10_tries 2 := ⟨km7 4 rfl rfl, km1 11 rfl rfl, by decide +kernel, ⟨by decide +kernel, by decide +kernel, by decide +kernel⟩, by decide⟩
set_option maxRecDepth 20000 in
theorem in_X10_tries : Cond.instanceMethod Y_X10_tries.1 ∈ kTB := km7 3 rfl rfl
set_option maxRecDepth 20000 in
theorem se_X10_tries : Cond.selects Y_X10_tries.1.cls Y_X10_tries.1 Y_X10_tries.1 ∈ kTB := km0 95 rfl rfl
abbrev Y_X10_triesAll : kM := (⟨"MendedTubeModel", "triesAll", "(I)V"⟩, prog_12_method_53_code, 2, none)
set_option maxRecDepth 20000 in
theorem mv_X10_triesAll : kMV Y_X10_triesAll 1 := ⟨km7 0 rfl rfl, km1 11 rfl rfl, by decide +kernel, ⟨by decide +kernel, by decide +kernel, by decide +kernel⟩, by decide⟩
set_option maxRecDepth 20000 in
theorem in_X10_triesAll : Cond.instanceMethod Y_X10_triesAll.1 ∈ kTB := km6 239 rfl rfl
set_option maxRecDepth 20000 in
theorem se_X10_triesAll : Cond.selects Y_X10_triesAll.1.cls Y_X10_triesAll.1 Y_X10_triesAll.1 ∈ kTB := km0 94 rfl rfl
abbrev Y_X10_turn : kM := (⟨"MendedTubeModel", "turn", "(II)I"⟩, prog_12_method_44_code, 4, (some .int))
set_option maxRecDepth 20000 in
theorem mv_X10_turn : kMV Y_X10_turn 2 := ⟨km6 201 rfl rfl, km1 11 rfl rfl, by decide +kernel, ⟨by decide +kernel, by decide +kernel, by decide +kernel⟩, by decide⟩
set_option maxRecDepth 20000 in
theorem in_X10_turn : Cond.instanceMethod Y_X10_turn.1 ∈ kTB := km6 199 rfl rfl
set_option maxRecDepth 20000 in
theorem se_X10_turn : Cond.selects Y_X10_turn.1.cls Y_X10_turn.1 Y_X10_turn.1 ∈ kTB := km6 200 rfl rfl
abbrev Y_X10_turned : kM := (⟨"MendedTubeModel", "turned", "(I)I"⟩, prog_12_method_68_code, 7, (some .int))
set_option maxRecDepth 20000 in
theorem mv_X10_turned : kMV Y_X10_turned 1 := ⟨km7 55 rfl rfl, km1 11 rfl rfl, by decide +kernel, ⟨by decide +kernel, by decide +kernel, by decide +kernel⟩, by decide⟩
set_option maxRecDepth 20000 in
theorem in_X10_turned : Cond.instanceMethod Y_X10_turned.1 ∈ kTB := km7 53 rfl rfl
set_option maxRecDepth 20000 in
theorem se_X10_turned : Cond.selects Y_X10_turned.1.cls Y_X10_turned.1 Y_X10_turned.1 ∈ kTB := km7 54 rfl rfl
abbrev Y_X10_turnsNow : kM := (⟨"MendedTubeModel", "turnsNow", "()I"⟩, prog_12_method_66_code, 3, (some .int))
set_option maxRecDepth 20000 in
theorem mv_X10_turnsNow : kMV Y_X10_turnsNow 0 := ⟨km7 51 rfl rfl, km1 11 rfl rfl, by decide +kernel, ⟨by decide +kernel, by decide +kernel, by decide +kernel⟩, by decide⟩
set_option maxRecDepth 20000 in
theorem in_X10_turnsNow : Cond.instanceMethod Y_X10_turnsNow.1 ∈ kTB := km7 50 rfl rfl
set_option maxRecDepth 20000 in
theorem se_X10_turnsNow : Cond.selects Y_X10_turnsNow.1.cls Y_X10_turnsNow.1 Y_X10_turnsNow.1 ∈ kTB := km0 101 rfl rfl
abbrev Y_X10_usedNow : kM := (⟨"MendedTubeModel", "usedNow", "()I"⟩, prog_12_method_71_code, 3, (some .int))
set_option maxRecDepth 20000 in
theorem mv_X10_usedNow : kMV Y_X10_usedNow 0 := ⟨km7 64 rfl rfl, km1 11 rfl rfl, by decide +kernel, ⟨by decide +kernel, by decide +kernel, by decide +kernel⟩, by decide⟩
set_option maxRecDepth 20000 in
theorem in_X10_usedNow : Cond.instanceMethod Y_X10_usedNow.1 ∈ kTB := km7 63 rfl rfl
set_option maxRecDepth 20000 in
theorem se_X10_usedNow : Cond.selects Y_X10_usedNow.1.cls Y_X10_usedNow.1 Y_X10_usedNow.1 ∈ kTB := km0 102 rfl rfl
abbrev Y_X10_valueHere : kM := (⟨"MendedTubeModel", "valueHere", "()V"⟩, prog_12_method_100_code, 2, none)
set_option maxRecDepth 20000 in
theorem mv_X10_valueHere : kMV Y_X10_valueHere 0 := ⟨km7 222 rfl rfl, km1 11 rfl rfl, by decide +kernel, ⟨by decide +kernel, by decide +kernel, by decide +kernel⟩, by decide⟩
set_option maxRecDepth 20000 in
theorem in_X10_valueHere : Cond.instanceMethod Y_X10_valueHere.1 ∈ kTB := km7 221 rfl rfl
set_option maxRecDepth 20000 in
theorem se_X10_valueHere : Cond.selects Y_X10_valueHere.1.cls Y_X10_valueHere.1 Y_X10_valueHere.1 ∈ kTB := km0 121 rfl rfl
abbrev Y_X10_wants : kM := (⟨"MendedTubeModel", "wants", "(Z)V"⟩, prog_12_method_94_code, 2, none)
set_option maxRecDepth 20000 in
theorem mv_X10_wants : kMV Y_X10_wants 1 := ⟨km7 200 rfl rfl, km1 11 rfl rfl, by decide +kernel, ⟨by decide +kernel, by decide +kernel, by decide +kernel⟩, by decide⟩
set_option maxRecDepth 20000 in
theorem in_X10_wants : Cond.instanceMethod Y_X10_wants.1 ∈ kTB := km7 199 rfl rfl
set_option maxRecDepth 20000 in
theorem se_X10_wants : Cond.selects Y_X10_wants.1.cls Y_X10_wants.1 Y_X10_wants.1 ∈ kTB := km0 116 rfl rfl
abbrev Y_X10_whyNot : kM := (⟨"MendedTubeModel", "whyNot", "(II)I"⟩, prog_12_method_111_code, 3, (some .int))
set_option maxRecDepth 20000 in
theorem mv_X10_whyNot : kMV Y_X10_whyNot 2 := ⟨km8 28 rfl rfl, km1 11 rfl rfl, by decide +kernel, ⟨by decide +kernel, by decide +kernel, by decide +kernel⟩, by decide⟩
set_option maxRecDepth 20000 in
theorem in_X10_whyNot : Cond.instanceMethod Y_X10_whyNot.1 ∈ kTB := km8 27 rfl rfl
set_option maxRecDepth 20000 in
theorem se_X10_whyNot : Cond.selects Y_X10_whyNot.1.cls Y_X10_whyNot.1 Y_X10_whyNot.1 ∈ kTB := km0 125 rfl rfl
abbrev Y_X10_widens : kM := (⟨"MendedTubeModel", "widens", "(I)I"⟩, prog_12_method_121_code, 4, (some .int))
set_option maxRecDepth 20000 in
theorem mv_X10_widens : kMV Y_X10_widens 1 := ⟨km8 71 rfl rfl, km1 11 rfl rfl, by decide +kernel, ⟨by decide +kernel, by decide +kernel, by decide +kernel⟩, by decide⟩
set_option maxRecDepth 20000 in
theorem in_X10_widens : Cond.instanceMethod Y_X10_widens.1 ∈ kTB := km8 70 rfl rfl
set_option maxRecDepth 20000 in
theorem se_X10_widens : Cond.selects Y_X10_widens.1.cls Y_X10_widens.1 Y_X10_widens.1 ∈ kTB := km0 130 rfl rfl
abbrev Y_X10_word : kM := (⟨"MendedTubeModel", "word", "()J"⟩, prog_12_method_95_code, 4, (some .long))
set_option maxRecDepth 20000 in
theorem mv_X10_word : kMV Y_X10_word 0 := ⟨km7 188 rfl rfl, km1 11 rfl rfl, by decide +kernel, ⟨by decide +kernel, by decide +kernel, by decide +kernel⟩, by decide⟩
set_option maxRecDepth 20000 in
theorem in_X10_word : Cond.instanceMethod Y_X10_word.1 ∈ kTB := km7 187 rfl rfl
set_option maxRecDepth 20000 in
theorem se_X10_word : Cond.selects Y_X10_word.1.cls Y_X10_word.1 Y_X10_word.1 ∈ kTB := km0 115 rfl rfl
abbrev Y_X10_write : kM := (⟨"MendedTubeModel", "write", "(III)I"⟩, prog_12_method_110_code, 4, (some .int))
set_option maxRecDepth 20000 in
theorem mv_X10_write : kMV Y_X10_write 3 := ⟨km8 17 rfl rfl, km1 11 rfl rfl, by decide +kernel, ⟨by decide +kernel, by decide +kernel, by decide +kernel⟩, by decide⟩
set_option maxRecDepth 20000 in
theorem in_X10_write : Cond.instanceMethod Y_X10_write.1 ∈ kTB := km8 15 rfl rfl
set_option maxRecDepth 20000 in
theorem se_X10_write : Cond.selects Y_X10_write.1.cls Y_X10_write.1 Y_X10_write.1 ∈ kTB := km8 16 rfl rfl
abbrev Y_X10_writes : kM := (⟨"MendedTubeModel", "writes", "(I)V"⟩, prog_12_method_99_code, 2, none)
set_option maxRecDepth 20000 in
theorem mv_X10_writes : kMV Y_X10_writes 1 := ⟨km7 235 rfl rfl, km1 11 rfl rfl, by decide +kernel, ⟨by decide +kernel, by decide +kernel, by decide +kernel⟩, by decide⟩
set_option maxRecDepth 20000 in
theorem in_X10_writes : Cond.instanceMethod Y_X10_writes.1 ∈ kTB := km7 234 rfl rfl
set_option maxRecDepth 20000 in
theorem se_X10_writes : Cond.selects Y_X10_writes.1.cls Y_X10_writes.1 Y_X10_writes.1 ∈ kTB := km0 123 rfl rfl
abbrev Y_X10_wrong : kM := (⟨"MendedTubeModel", "wrong", "()I"⟩, prog_12_method_37_code, 1, (some .int))
set_option maxRecDepth 20000 in
theorem mv_X10_wrong : kMV Y_X10_wrong 0 := ⟨km6 162 rfl rfl, km1 11 rfl rfl, by decide +kernel, ⟨by decide +kernel, by decide +kernel, by decide +kernel⟩, by decide⟩
set_option maxRecDepth 20000 in
theorem in_X10_wrong : Cond.instanceMethod Y_X10_wrong.1 ∈ kTB := km6 160 rfl rfl
set_option maxRecDepth 20000 in
theorem se_X10_wrong : Cond.selects Y_X10_wrong.1.cls Y_X10_wrong.1 Y_X10_wrong.1 ∈ kTB := km6 161 rfl rfl
abbrev Y_X10_wrongOf : kM := (⟨"MendedTubeModel", "wrongOf", "()I"⟩, prog_12_method_31_code, 2, (some .int))
set_option maxRecDepth 20000 in
theorem mv_X10_wrongOf : kMV Y_X10_wrongOf 0 := ⟨km6 166 rfl rfl, km1 11 rfl rfl, by decide +kernel, ⟨by decide +kernel, by decide +kernel, by decide +kernel⟩, by decide⟩
set_option maxRecDepth 20000 in
theorem in_X10_wrongOf : Cond.instanceMethod Y_X10_wrongOf.1 ∈ kTB := km6 165 rfl rfl
set_option maxRecDepth 20000 in
theorem se_X10_wrongOf : Cond.selects Y_X10_wrongOf.1.cls Y_X10_wrongOf.1 Y_X10_wrongOf.1 ∈ kTB := km0 89 rfl rfl
abbrev Y_X10_years : kM := (⟨"MendedTubeModel", "years", "()I"⟩, prog_12_method_67_code, 1, (some .int))
set_option maxRecDepth 20000 in
theorem mv_X10_years : kMV Y_X10_years 0 := ⟨km7 36 rfl rfl, km1 11 rfl rfl, by decide +kernel, ⟨by decide +kernel, by decide +kernel, by decide +kernel⟩, by decide⟩
set_option maxRecDepth 20000 in
theorem in_X10_years : Cond.instanceMethod Y_X10_years.1 ∈ kTB := km7 34 rfl rfl
set_option maxRecDepth 20000 in
theorem se_X10_years : Cond.selects Y_X10_years.1.cls Y_X10_years.1 Y_X10_years.1 ∈ kTB := km7 35 rfl rfl
abbrev Y_X1_become : kM := (⟨"MendedTube$Bench", "become", "(LMendedTube$Bench;)V"⟩, prog_3_method_7_code, 2, none)
set_option maxRecDepth 20000 in
theorem mv_X1_become : kMV Y_X1_become 1 := ⟨km4 21 rfl rfl, km1 2 rfl rfl, by decide +kernel, ⟨by decide +kernel, by decide +kernel, by decide +kernel⟩, by decide⟩
set_option maxRecDepth 20000 in
theorem in_X1_become : Cond.instanceMethod Y_X1_become.1 ∈ kTB := km4 20 rfl rfl
set_option maxRecDepth 20000 in
theorem se_X1_become : Cond.selects Y_X1_become.1.cls Y_X1_become.1 Y_X1_become.1 ∈ kTB := km0 38 rfl rfl
abbrev Y_X1_drawn : kM := (⟨"MendedTube$Bench", "drawn", "()I"⟩, prog_3_method_6_code, 2, (some .int))
set_option maxRecDepth 20000 in
theorem mv_X1_drawn : kMV Y_X1_drawn 0 := ⟨km4 213 rfl rfl, km1 2 rfl rfl, by decide +kernel, ⟨by decide +kernel, by decide +kernel, by decide +kernel⟩, by decide⟩
set_option maxRecDepth 20000 in
theorem in_X1_drawn : Cond.instanceMethod Y_X1_drawn.1 ∈ kTB := km4 212 rfl rfl
set_option maxRecDepth 20000 in
theorem se_X1_drawn : Cond.selects Y_X1_drawn.1.cls Y_X1_drawn.1 Y_X1_drawn.1 ∈ kTB := km0 57 rfl rfl
abbrev Y_X1_hasLens : kM := (⟨"MendedTube$Bench", "hasLens", "(I)Z"⟩, prog_3_method_2_code, 2, (some .boolean))
set_option maxRecDepth 20000 in
theorem mv_X1_hasLens : kMV Y_X1_hasLens 1 := ⟨km2 157 rfl rfl, km1 2 rfl rfl, by decide +kernel, ⟨by decide +kernel, by decide +kernel, by decide +kernel⟩, by decide⟩
set_option maxRecDepth 20000 in
theorem in_X1_hasLens : Cond.instanceMethod Y_X1_hasLens.1 ∈ kTB := km2 156 rfl rfl
set_option maxRecDepth 20000 in
theorem se_X1_hasLens : Cond.selects Y_X1_hasLens.1.cls Y_X1_hasLens.1 Y_X1_hasLens.1 ∈ kTB := km0 0 rfl rfl
abbrev Y_X1_hasPlace : kM := (⟨"MendedTube$Bench", "hasPlace", "(I)Z"⟩, prog_3_method_3_code, 2, (some .boolean))
set_option maxRecDepth 20000 in
theorem mv_X1_hasPlace : kMV Y_X1_hasPlace 1 := ⟨km3 233 rfl rfl, km1 2 rfl rfl, by decide +kernel, ⟨by decide +kernel, by decide +kernel, by decide +kernel⟩, by decide⟩
set_option maxRecDepth 20000 in
theorem in_X1_hasPlace : Cond.instanceMethod Y_X1_hasPlace.1 ∈ kTB := km3 232 rfl rfl
set_option maxRecDepth 20000 in
theorem se_X1_hasPlace : Cond.selects Y_X1_hasPlace.1.cls Y_X1_hasPlace.1 Y_X1_hasPlace.1 ∈ kTB := km0 36 rfl rfl
abbrev Y_X1_init : kM := (⟨"MendedTube$Bench", "<init>", "()V"⟩, prog_3_method_1_code, 1, none)
set_option maxRecDepth 20000 in
theorem mv_X1_init : kMV Y_X1_init 0 := ⟨km1 32 rfl rfl, km1 2 rfl rfl, by decide +kernel, ⟨by decide +kernel, by decide +kernel, by decide +kernel⟩, by decide⟩
set_option maxRecDepth 20000 in
theorem in_X1_init : Cond.instanceMethod Y_X1_init.1 ∈ kTB := km1 31 rfl rfl
abbrev Y_X1_placeOf : kM := (⟨"MendedTube$Bench", "placeOf", "(I)I"⟩, prog_3_method_4_code, 3, (some .int))
set_option maxRecDepth 20000 in
theorem mv_X1_placeOf : kMV Y_X1_placeOf 1 := ⟨km2 200 rfl rfl, km1 2 rfl rfl, by decide +kernel, ⟨by decide +kernel, by decide +kernel, by decide +kernel⟩, by decide⟩
set_option maxRecDepth 20000 in
theorem in_X1_placeOf : Cond.instanceMethod Y_X1_placeOf.1 ∈ kTB := km2 199 rfl rfl
set_option maxRecDepth 20000 in
theorem se_X1_placeOf : Cond.selects Y_X1_placeOf.1.cls Y_X1_placeOf.1 Y_X1_placeOf.1 ∈ kTB := km0 4 rfl rfl
abbrev Y_X1_swap : kM := (⟨"MendedTube$Bench", "swap", "(II)V"⟩, prog_3_method_5_code, 5, none)
set_option maxRecDepth 20000 in
theorem mv_X1_swap : kMV Y_X1_swap 2 := ⟨km4 9 rfl rfl, km1 2 rfl rfl, by decide +kernel, ⟨by decide +kernel, by decide +kernel, by decide +kernel⟩, by decide⟩
set_option maxRecDepth 20000 in
theorem in_X1_swap : Cond.instanceMethod Y_X1_swap.1 ∈ kTB := km4 8 rfl rfl
set_option maxRecDepth 20000 in
theorem se_X1_swap : Cond.selects Y_X1_swap.1.cls Y_X1_swap.1 Y_X1_swap.1 ∈ kTB := km0 37 rfl rfl
abbrev Y_X2_firstMove : kM := (⟨"MendedTube$Contest", "firstMove", "()I"⟩, prog_4_method_5_code, 4, (some .int))
set_option maxRecDepth 20000 in
theorem mv_X2_firstMove : kMV Y_X2_firstMove 0 := ⟨km4 163 rfl rfl, km1 7 rfl rfl, by decide +kernel, ⟨by decide +kernel, by decide +kernel, by decide +kernel⟩, by decide⟩
set_option maxRecDepth 20000 in
theorem in_X2_firstMove : Cond.instanceMethod Y_X2_firstMove.1 ∈ kTB := km4 162 rfl rfl
set_option maxRecDepth 20000 in
theorem se_X2_firstMove : Cond.selects Y_X2_firstMove.1.cls Y_X2_firstMove.1 Y_X2_firstMove.1 ∈ kTB := km0 54 rfl rfl
abbrev Y_X2_firstWins : kM := (⟨"MendedTube$Contest", "firstWins", "(I)Z"⟩, prog_4_method_3_code, 5, (some .boolean))
set_option maxRecDepth 20000 in
theorem mv_X2_firstWins : kMV Y_X2_firstWins 1 := ⟨km4 147 rfl rfl, km1 7 rfl rfl, by decide +kernel, ⟨by decide +kernel, by decide +kernel, by decide +kernel⟩, by decide⟩
set_option maxRecDepth 20000 in
theorem in_X2_firstWins : Cond.instanceMethod Y_X2_firstWins.1 ∈ kTB := km4 146 rfl rfl
set_option maxRecDepth 20000 in
theorem se_X2_firstWins : Cond.selects Y_X2_firstWins.1.cls Y_X2_firstWins.1 Y_X2_firstWins.1 ∈ kTB := km0 52 rfl rfl
abbrev Y_X2_firstWinsBehind : kM := (⟨"MendedTube$Contest", "firstWinsBehind", "(III)Z"⟩, prog_4_method_4_code, 5, (some .boolean))
set_option maxRecDepth 20000 in
theorem mv_X2_firstWinsBehind : kMV Y_X2_firstWinsBehind 3 := ⟨km4 153 rfl rfl, km1 7 rfl rfl, by decide +kernel, ⟨by decide +kernel, by decide +kernel, by decide +kernel⟩, by decide⟩
set_option maxRecDepth 20000 in
theorem in_X2_firstWinsBehind : Cond.instanceMethod Y_X2_firstWinsBehind.1 ∈ kTB := km4 152 rfl rfl
set_option maxRecDepth 20000 in
theorem se_X2_firstWinsBehind : Cond.selects Y_X2_firstWinsBehind.1.cls Y_X2_firstWinsBehind.1 Y_X2_firstWinsBehind.1 ∈ kTB := km0 53 rfl rfl
abbrev Y_X2_init : kM := (⟨"MendedTube$Contest", "<init>", "(LMendedTube$Light;)V"⟩, prog_4_method_1_code, 2, none)
set_option maxRecDepth 20000 in
theorem mv_X2_init : kMV Y_X2_init 1 := ⟨km2 19 rfl rfl, km1 7 rfl rfl, by decide +kernel, ⟨by decide +kernel, by decide +kernel, by decide +kernel⟩, by decide⟩
set_option maxRecDepth 20000 in
theorem in_X2_init : Cond.instanceMethod Y_X2_init.1 ∈ kTB := km2 18 rfl rfl
abbrev Y_X2_open : kM := (⟨"MendedTube$Contest", "open", "(LMendedTube$Bench;I)V"⟩, prog_4_method_2_code, 4, none)
set_option maxRecDepth 20000 in
theorem mv_X2_open : kMV Y_X2_open 2 := ⟨km4 140 rfl rfl, km1 7 rfl rfl, by decide +kernel, ⟨by decide +kernel, by decide +kernel, by decide +kernel⟩, by decide⟩
set_option maxRecDepth 20000 in
theorem in_X2_open : Cond.instanceMethod Y_X2_open.1 ∈ kTB := km4 139 rfl rfl
set_option maxRecDepth 20000 in
theorem se_X2_open : Cond.selects Y_X2_open.1.cls Y_X2_open.1 Y_X2_open.1 ∈ kTB := km0 51 rfl rfl
abbrev Y_X3_begin : kM := (⟨"MendedTube$Deed", "begin", "(I)V"⟩, prog_5_method_3_code, 2, none)
set_option maxRecDepth 20000 in
theorem mv_X3_begin : kMV Y_X3_begin 1 := ⟨km5 93 rfl rfl, km1 9 rfl rfl, by decide +kernel, ⟨by decide +kernel, by decide +kernel, by decide +kernel⟩, by decide⟩
set_option maxRecDepth 20000 in
theorem in_X3_begin : Cond.instanceMethod Y_X3_begin.1 ∈ kTB := km5 92 rfl rfl
set_option maxRecDepth 20000 in
theorem se_X3_begin : Cond.selects Y_X3_begin.1.cls Y_X3_begin.1 Y_X3_begin.1 ∈ kTB := km0 67 rfl rfl
abbrev Y_X3_dims : kM := (⟨"MendedTube$Deed", "dims", "(I)I"⟩, prog_5_method_4_code, 2, (some .int))
set_option maxRecDepth 20000 in
theorem mv_X3_dims : kMV Y_X3_dims 1 := ⟨km5 89 rfl rfl, km1 9 rfl rfl, by decide +kernel, ⟨by decide +kernel, by decide +kernel, by decide +kernel⟩, by decide⟩
set_option maxRecDepth 20000 in
theorem in_X3_dims : Cond.instanceMethod Y_X3_dims.1 ∈ kTB := km5 88 rfl rfl
set_option maxRecDepth 20000 in
theorem se_X3_dims : Cond.selects Y_X3_dims.1.cls Y_X3_dims.1 Y_X3_dims.1 ∈ kTB := km0 66 rfl rfl
abbrev Y_X3_hold : kM := (⟨"MendedTube$Deed", "hold", "(III)V"⟩, prog_5_method_2_code, 4, none)
set_option maxRecDepth 20000 in
theorem mv_X3_hold : kMV Y_X3_hold 3 := ⟨km5 85 rfl rfl, km1 9 rfl rfl, by decide +kernel, ⟨by decide +kernel, by decide +kernel, by decide +kernel⟩, by decide⟩
set_option maxRecDepth 20000 in
theorem in_X3_hold : Cond.instanceMethod Y_X3_hold.1 ∈ kTB := km5 84 rfl rfl
set_option maxRecDepth 20000 in
theorem se_X3_hold : Cond.selects Y_X3_hold.1.cls Y_X3_hold.1 Y_X3_hold.1 ∈ kTB := km0 65 rfl rfl
abbrev Y_X3_init : kM := (⟨"MendedTube$Deed", "<init>", "()V"⟩, prog_5_method_1_code, 1, none)
set_option maxRecDepth 20000 in
theorem mv_X3_init : kMV Y_X3_init 0 := ⟨km2 61 rfl rfl, km1 9 rfl rfl, by decide +kernel, ⟨by decide +kernel, by decide +kernel, by decide +kernel⟩, by decide⟩
set_option maxRecDepth 20000 in
theorem in_X3_init : Cond.instanceMethod Y_X3_init.1 ∈ kTB := km2 60 rfl rfl
abbrev Y_X3_lensDims : kM := (⟨"MendedTube$Deed", "lensDims", "(I)I"⟩, prog_5_method_5_code, 2, (some .int))
set_option maxRecDepth 20000 in
theorem mv_X3_lensDims : kMV Y_X3_lensDims 1 := ⟨km5 97 rfl rfl, km1 9 rfl rfl, by decide +kernel, ⟨by decide +kernel, by decide +kernel, by decide +kernel⟩, by decide⟩
set_option maxRecDepth 20000 in
theorem in_X3_lensDims : Cond.instanceMethod Y_X3_lensDims.1 ∈ kTB := km5 96 rfl rfl
set_option maxRecDepth 20000 in
theorem se_X3_lensDims : Cond.selects Y_X3_lensDims.1.cls Y_X3_lensDims.1 Y_X3_lensDims.1 ∈ kTB := km0 68 rfl rfl
abbrev Y_X3_lensParts : kM := (⟨"MendedTube$Deed", "lensParts", "(I)I"⟩, prog_5_method_10_code, 2, (some .int))
set_option maxRecDepth 20000 in
theorem mv_X3_lensParts : kMV Y_X3_lensParts 1 := ⟨km5 118 rfl rfl, km1 9 rfl rfl, by decide +kernel, ⟨by decide +kernel, by decide +kernel, by decide +kernel⟩, by decide⟩
set_option maxRecDepth 20000 in
theorem in_X3_lensParts : Cond.instanceMethod Y_X3_lensParts.1 ∈ kTB := km5 117 rfl rfl
set_option maxRecDepth 20000 in
theorem se_X3_lensParts : Cond.selects Y_X3_lensParts.1.cls Y_X3_lensParts.1 Y_X3_lensParts.1 ∈ kTB := km0 73 rfl rfl
abbrev Y_X3_lensTells : kM := (⟨"MendedTube$Deed", "lensTells", "(I)I"⟩, prog_5_method_12_code, 2, (some .int))
set_option maxRecDepth 20000 in
theorem mv_X3_lensTells : kMV Y_X3_lensTells 1 := ⟨km5 126 rfl rfl, km1 9 rfl rfl, by decide +kernel, ⟨by decide +kernel, by decide +kernel, by decide +kernel⟩, by decide⟩
set_option maxRecDepth 20000 in
theorem in_X3_lensTells : Cond.instanceMethod Y_X3_lensTells.1 ∈ kTB := km5 125 rfl rfl
set_option maxRecDepth 20000 in
theorem se_X3_lensTells : Cond.selects Y_X3_lensTells.1.cls Y_X3_lensTells.1 Y_X3_lensTells.1 ∈ kTB := km0 75 rfl rfl
abbrev Y_X3_lensWidens : kM := (⟨"MendedTube$Deed", "lensWidens", "(I)I"⟩, prog_5_method_7_code, 2, (some .int))
set_option maxRecDepth 20000 in
theorem mv_X3_lensWidens : kMV Y_X3_lensWidens 1 := ⟨km5 105 rfl rfl, km1 9 rfl rfl, by decide +kernel, ⟨by decide +kernel, by decide +kernel, by decide +kernel⟩, by decide⟩
set_option maxRecDepth 20000 in
theorem in_X3_lensWidens : Cond.instanceMethod Y_X3_lensWidens.1 ∈ kTB := km5 104 rfl rfl
set_option maxRecDepth 20000 in
theorem se_X3_lensWidens : Cond.selects Y_X3_lensWidens.1.cls Y_X3_lensWidens.1 Y_X3_lensWidens.1 ∈ kTB := km0 70 rfl rfl
abbrev Y_X3_parts : kM := (⟨"MendedTube$Deed", "parts", "(I)I"⟩, prog_5_method_8_code, 2, (some .int))
set_option maxRecDepth 20000 in
theorem mv_X3_parts : kMV Y_X3_parts 1 := ⟨km5 110 rfl rfl, km1 9 rfl rfl, by decide +kernel, ⟨by decide +kernel, by decide +kernel, by decide +kernel⟩, by decide⟩
set_option maxRecDepth 20000 in
theorem in_X3_parts : Cond.instanceMethod Y_X3_parts.1 ∈ kTB := km5 109 rfl rfl
set_option maxRecDepth 20000 in
theorem se_X3_parts : Cond.selects Y_X3_parts.1.cls Y_X3_parts.1 Y_X3_parts.1 ∈ kTB := km0 71 rfl rfl
abbrev Y_X3_tells : kM := (⟨"MendedTube$Deed", "tells", "(I)I"⟩, prog_5_method_11_code, 2, (some .int))
set_option maxRecDepth 20000 in
theorem mv_X3_tells : kMV Y_X3_tells 1 := ⟨km5 122 rfl rfl, km1 9 rfl rfl, by decide +kernel, ⟨by decide +kernel, by decide +kernel, by decide +kernel⟩, by decide⟩
set_option maxRecDepth 20000 in
theorem in_X3_tells : Cond.instanceMethod Y_X3_tells.1 ∈ kTB := km5 121 rfl rfl
set_option maxRecDepth 20000 in
theorem se_X3_tells : Cond.selects Y_X3_tells.1.cls Y_X3_tells.1 Y_X3_tells.1 ∈ kTB := km0 74 rfl rfl
abbrev Y_X3_twinParts : kM := (⟨"MendedTube$Deed", "twinParts", "(I)I"⟩, prog_5_method_9_code, 2, (some .int))
set_option maxRecDepth 20000 in
theorem mv_X3_twinParts : kMV Y_X3_twinParts 1 := ⟨km5 114 rfl rfl, km1 9 rfl rfl, by decide +kernel, ⟨by decide +kernel, by decide +kernel, by decide +kernel⟩, by decide⟩
set_option maxRecDepth 20000 in
theorem in_X3_twinParts : Cond.instanceMethod Y_X3_twinParts.1 ∈ kTB := km5 113 rfl rfl
set_option maxRecDepth 20000 in
theorem se_X3_twinParts : Cond.selects Y_X3_twinParts.1.cls Y_X3_twinParts.1 Y_X3_twinParts.1 ∈ kTB := km0 72 rfl rfl
abbrev Y_X3_widens : kM := (⟨"MendedTube$Deed", "widens", "(I)I"⟩, prog_5_method_6_code, 2, (some .int))
set_option maxRecDepth 20000 in
theorem mv_X3_widens : kMV Y_X3_widens 1 := ⟨km5 101 rfl rfl, km1 9 rfl rfl, by decide +kernel, ⟨by decide +kernel, by decide +kernel, by decide +kernel⟩, by decide⟩
set_option maxRecDepth 20000 in
theorem in_X3_widens : Cond.instanceMethod Y_X3_widens.1 ∈ kTB := km5 100 rfl rfl
set_option maxRecDepth 20000 in
theorem se_X3_widens : Cond.selects Y_X3_widens.1.cls Y_X3_widens.1 Y_X3_widens.1 ∈ kTB := km0 69 rfl rfl
abbrev Y_X4_init : kM := (⟨"MendedTube$Heap", "<init>", "(LMendedTube$Light;)V"⟩, prog_6_method_1_code, 2, none)
set_option maxRecDepth 20000 in
theorem mv_X4_init : kMV Y_X4_init 1 := ⟨km1 204 rfl rfl, km1 6 rfl rfl, by decide +kernel, ⟨by decide +kernel, by decide +kernel, by decide +kernel⟩, by decide⟩
set_option maxRecDepth 20000 in
theorem in_X4_init : Cond.instanceMethod Y_X4_init.1 ∈ kTB := km1 203 rfl rfl
abbrev Y_X4_join : kM := (⟨"MendedTube$Heap", "join", "(II)V"⟩, prog_6_method_5_code, 3, none)
set_option maxRecDepth 20000 in
theorem mv_X4_join : kMV Y_X4_join 2 := ⟨km4 66 rfl rfl, km1 6 rfl rfl, by decide +kernel, ⟨by decide +kernel, by decide +kernel, by decide +kernel⟩, by decide⟩
set_option maxRecDepth 20000 in
theorem in_X4_join : Cond.instanceMethod Y_X4_join.1 ∈ kTB := km4 65 rfl rfl
set_option maxRecDepth 20000 in
theorem se_X4_join : Cond.selects Y_X4_join.1.cls Y_X4_join.1 Y_X4_join.1 ∈ kTB := km0 43 rfl rfl
abbrev Y_X4_lookAtTubes : kM := (⟨"MendedTube$Heap", "lookAtTubes", "(LMendedTube$Bench;I)V"⟩, prog_6_method_2_code, 3, none)
set_option maxRecDepth 20000 in
theorem mv_X4_lookAtTubes : kMV Y_X4_lookAtTubes 2 := ⟨km4 49 rfl rfl, km1 6 rfl rfl, by decide +kernel, ⟨by decide +kernel, by decide +kernel, by decide +kernel⟩, by decide⟩
set_option maxRecDepth 20000 in
theorem in_X4_lookAtTubes : Cond.instanceMethod Y_X4_lookAtTubes.1 ∈ kTB := km4 48 rfl rfl
set_option maxRecDepth 20000 in
theorem se_X4_lookAtTubes : Cond.selects Y_X4_lookAtTubes.1.cls Y_X4_lookAtTubes.1 Y_X4_lookAtTubes.1 ∈ kTB := km0 40 rfl rfl
abbrev Y_X4_match : kM := (⟨"MendedTube$Heap", "match", "(LMendedTube$Bench;)V"⟩, prog_6_method_6_code, 2, none)
set_option maxRecDepth 20000 in
theorem mv_X4_match : kMV Y_X4_match 1 := ⟨km4 84 rfl rfl, km1 6 rfl rfl, by decide +kernel, ⟨by decide +kernel, by decide +kernel, by decide +kernel⟩, by decide⟩
set_option maxRecDepth 20000 in
theorem in_X4_match : Cond.instanceMethod Y_X4_match.1 ∈ kTB := km4 83 rfl rfl
set_option maxRecDepth 20000 in
theorem se_X4_match : Cond.selects Y_X4_match.1.cls Y_X4_match.1 Y_X4_match.1 ∈ kTB := km0 44 rfl rfl
abbrev Y_X4_pairFrom : kM := (⟨"MendedTube$Heap", "pairFrom", "(II)V"⟩, prog_6_method_7_code, 4, none)
set_option maxRecDepth 20000 in
theorem mv_X4_pairFrom : kMV Y_X4_pairFrom 2 := ⟨km4 89 rfl rfl, km1 6 rfl rfl, by decide +kernel, ⟨by decide +kernel, by decide +kernel, by decide +kernel⟩, by decide⟩
set_option maxRecDepth 20000 in
theorem in_X4_pairFrom : Cond.instanceMethod Y_X4_pairFrom.1 ∈ kTB := km4 88 rfl rfl
set_option maxRecDepth 20000 in
theorem se_X4_pairFrom : Cond.selects Y_X4_pairFrom.1.cls Y_X4_pairFrom.1 Y_X4_pairFrom.1 ∈ kTB := km0 45 rfl rfl
abbrev Y_X4_walk : kM := (⟨"MendedTube$Heap", "walk", "(II)V"⟩, prog_6_method_3_code, 5, none)
set_option maxRecDepth 20000 in
theorem mv_X4_walk : kMV Y_X4_walk 2 := ⟨km4 55 rfl rfl, km1 6 rfl rfl, by decide +kernel, ⟨by decide +kernel, by decide +kernel, by decide +kernel⟩, by decide⟩
set_option maxRecDepth 20000 in
theorem in_X4_walk : Cond.instanceMethod Y_X4_walk.1 ∈ kTB := km4 54 rfl rfl
set_option maxRecDepth 20000 in
theorem se_X4_walk : Cond.selects Y_X4_walk.1.cls Y_X4_walk.1 Y_X4_walk.1 ∈ kTB := km0 41 rfl rfl
abbrev Y_X4_weigh : kM := (⟨"MendedTube$Heap", "weigh", "(I)V"⟩, prog_6_method_4_code, 3, none)
set_option maxRecDepth 20000 in
theorem mv_X4_weigh : kMV Y_X4_weigh 1 := ⟨km4 59 rfl rfl, km1 6 rfl rfl, by decide +kernel, ⟨by decide +kernel, by decide +kernel, by decide +kernel⟩, by decide⟩
set_option maxRecDepth 20000 in
theorem in_X4_weigh : Cond.instanceMethod Y_X4_weigh.1 ∈ kTB := km4 58 rfl rfl
set_option maxRecDepth 20000 in
theorem se_X4_weigh : Cond.selects Y_X4_weigh.1.cls Y_X4_weigh.1 Y_X4_weigh.1 ∈ kTB := km0 42 rfl rfl
abbrev Y_X5_blurSeen : kM := (⟨"MendedTube$Light", "blurSeen", "()I"⟩, prog_7_method_13_code, 1, (some .int))
set_option maxRecDepth 20000 in
theorem mv_X5_blurSeen : kMV Y_X5_blurSeen 0 := ⟨km3 199 rfl rfl, km1 5 rfl rfl, by decide +kernel, ⟨by decide +kernel, by decide +kernel, by decide +kernel⟩, by decide⟩
set_option maxRecDepth 20000 in
theorem in_X5_blurSeen : Cond.instanceMethod Y_X5_blurSeen.1 ∈ kTB := km3 198 rfl rfl
set_option maxRecDepth 20000 in
theorem se_X5_blurSeen : Cond.selects Y_X5_blurSeen.1.cls Y_X5_blurSeen.1 Y_X5_blurSeen.1 ∈ kTB := km0 33 rfl rfl
abbrev Y_X5_heightAt : kM := (⟨"MendedTube$Light", "heightAt", "(II)I"⟩, prog_7_method_9_code, 3, (some .int))
set_option maxRecDepth 20000 in
theorem mv_X5_heightAt : kMV Y_X5_heightAt 2 := ⟨km3 180 rfl rfl, km1 5 rfl rfl, by decide +kernel, ⟨by decide +kernel, by decide +kernel, by decide +kernel⟩, by decide⟩
set_option maxRecDepth 20000 in
theorem in_X5_heightAt : Cond.instanceMethod Y_X5_heightAt.1 ∈ kTB := km3 179 rfl rfl
set_option maxRecDepth 20000 in
theorem se_X5_heightAt : Cond.selects Y_X5_heightAt.1.cls Y_X5_heightAt.1 Y_X5_heightAt.1 ∈ kTB := km0 31 rfl rfl
abbrev Y_X5_init : kM := (⟨"MendedTube$Light", "<init>", "()V"⟩, prog_7_method_1_code, 1, none)
set_option maxRecDepth 20000 in
theorem mv_X5_init : kMV Y_X5_init 0 := ⟨km1 163 rfl rfl, km1 5 rfl rfl, by decide +kernel, ⟨by decide +kernel, by decide +kernel, by decide +kernel⟩, by decide⟩
set_option maxRecDepth 20000 in
theorem in_X5_init : Cond.instanceMethod Y_X5_init.1 ∈ kTB := km1 162 rfl rfl
abbrev Y_X5_isMended : kM := (⟨"MendedTube$Light", "isMended", "()Z"⟩, prog_7_method_15_code, 1, (some .boolean))
set_option maxRecDepth 20000 in
theorem mv_X5_isMended : kMV Y_X5_isMended 0 := ⟨km3 217 rfl rfl, km1 5 rfl rfl, by decide +kernel, ⟨by decide +kernel, by decide +kernel, by decide +kernel⟩, by decide⟩
set_option maxRecDepth 20000 in
theorem in_X5_isMended : Cond.instanceMethod Y_X5_isMended.1 ∈ kTB := km3 216 rfl rfl
set_option maxRecDepth 20000 in
theorem se_X5_isMended : Cond.selects Y_X5_isMended.1.cls Y_X5_isMended.1 Y_X5_isMended.1 ∈ kTB := km0 35 rfl rfl
abbrev Y_X5_load : kM := (⟨"MendedTube$Light", "load", "(LMendedTube$Bench;)V"⟩, prog_7_method_2_code, 3, none)
set_option maxRecDepth 20000 in
theorem mv_X5_load : kMV Y_X5_load 1 := ⟨km2 162 rfl rfl, km1 5 rfl rfl, by decide +kernel, ⟨by decide +kernel, by decide +kernel, by decide +kernel⟩, by decide⟩
set_option maxRecDepth 20000 in
theorem in_X5_load : Cond.instanceMethod Y_X5_load.1 ∈ kTB := km2 161 rfl rfl
set_option maxRecDepth 20000 in
theorem se_X5_load : Cond.selects Y_X5_load.1.cls Y_X5_load.1 Y_X5_load.1 ∈ kTB := km0 1 rfl rfl
abbrev Y_X5_pass : kM := (⟨"MendedTube$Light", "pass", "(III)V"⟩, prog_7_method_7_code, 4, none)
set_option maxRecDepth 20000 in
theorem mv_X5_pass : kMV Y_X5_pass 3 := ⟨km3 164 rfl rfl, km1 5 rfl rfl, by decide +kernel, ⟨by decide +kernel, by decide +kernel, by decide +kernel⟩, by decide⟩
set_option maxRecDepth 20000 in
theorem in_X5_pass : Cond.instanceMethod Y_X5_pass.1 ∈ kTB := km3 163 rfl rfl
set_option maxRecDepth 20000 in
theorem se_X5_pass : Cond.selects Y_X5_pass.1.cls Y_X5_pass.1 Y_X5_pass.1 ∈ kTB := km0 27 rfl rfl
abbrev Y_X5_put : kM := (⟨"MendedTube$Light", "put", "(III)V"⟩, prog_7_method_6_code, 5, none)
set_option maxRecDepth 20000 in
theorem mv_X5_put : kMV Y_X5_put 3 := ⟨km3 168 rfl rfl, km1 5 rfl rfl, by decide +kernel, ⟨by decide +kernel, by decide +kernel, by decide +kernel⟩, by decide⟩
set_option maxRecDepth 20000 in
theorem in_X5_put : Cond.instanceMethod Y_X5_put.1 ∈ kTB := km3 167 rfl rfl
set_option maxRecDepth 20000 in
theorem se_X5_put : Cond.selects Y_X5_put.1.cls Y_X5_put.1 Y_X5_put.1 ∈ kTB := km0 28 rfl rfl
abbrev Y_X5_see : kM := (⟨"MendedTube$Light", "see", "(I)V"⟩, prog_7_method_8_code, 2, none)
set_option maxRecDepth 20000 in
theorem mv_X5_see : kMV Y_X5_see 1 := ⟨km3 172 rfl rfl, km1 5 rfl rfl, by decide +kernel, ⟨by decide +kernel, by decide +kernel, by decide +kernel⟩, by decide⟩
set_option maxRecDepth 20000 in
theorem in_X5_see : Cond.instanceMethod Y_X5_see.1 ∈ kTB := km3 171 rfl rfl
set_option maxRecDepth 20000 in
theorem se_X5_see : Cond.selects Y_X5_see.1.cls Y_X5_see.1 Y_X5_see.1 ∈ kTB := km0 29 rfl rfl
abbrev Y_X5_seenOf : kM := (⟨"MendedTube$Light", "seenOf", "(I)I"⟩, prog_7_method_11_code, 2, (some .int))
set_option maxRecDepth 20000 in
theorem mv_X5_seenOf : kMV Y_X5_seenOf 1 := ⟨km3 176 rfl rfl, km1 5 rfl rfl, by decide +kernel, ⟨by decide +kernel, by decide +kernel, by decide +kernel⟩, by decide⟩
set_option maxRecDepth 20000 in
theorem in_X5_seenOf : Cond.instanceMethod Y_X5_seenOf.1 ∈ kTB := km3 175 rfl rfl
set_option maxRecDepth 20000 in
theorem se_X5_seenOf : Cond.selects Y_X5_seenOf.1.cls Y_X5_seenOf.1 Y_X5_seenOf.1 ∈ kTB := km0 30 rfl rfl
abbrev Y_X5_shiftSeen : kM := (⟨"MendedTube$Light", "shiftSeen", "()I"⟩, prog_7_method_12_code, 1, (some .int))
set_option maxRecDepth 20000 in
theorem mv_X5_shiftSeen : kMV Y_X5_shiftSeen 0 := ⟨km3 188 rfl rfl, km1 5 rfl rfl, by decide +kernel, ⟨by decide +kernel, by decide +kernel, by decide +kernel⟩, by decide⟩
set_option maxRecDepth 20000 in
theorem in_X5_shiftSeen : Cond.instanceMethod Y_X5_shiftSeen.1 ∈ kTB := km3 187 rfl rfl
set_option maxRecDepth 20000 in
theorem se_X5_shiftSeen : Cond.selects Y_X5_shiftSeen.1.cls Y_X5_shiftSeen.1 Y_X5_shiftSeen.1 ∈ kTB := km0 32 rfl rfl
abbrev Y_X5_slopeAt : kM := (⟨"MendedTube$Light", "slopeAt", "(II)I"⟩, prog_7_method_10_code, 3, (some .int))
set_option maxRecDepth 20000 in
theorem mv_X5_slopeAt : kMV Y_X5_slopeAt 2 := ⟨km4 231 rfl rfl, km1 5 rfl rfl, by decide +kernel, ⟨by decide +kernel, by decide +kernel, by decide +kernel⟩, by decide⟩
set_option maxRecDepth 20000 in
theorem in_X5_slopeAt : Cond.instanceMethod Y_X5_slopeAt.1 ∈ kTB := km4 230 rfl rfl
set_option maxRecDepth 20000 in
theorem se_X5_slopeAt : Cond.selects Y_X5_slopeAt.1.cls Y_X5_slopeAt.1 Y_X5_slopeAt.1 ∈ kTB := km0 59 rfl rfl
abbrev Y_X5_strengthOf : kM := (⟨"MendedTube$Light", "strengthOf", "(III)I"⟩, prog_7_method_3_code, 4, (some .int))
set_option maxRecDepth 20000 in
theorem mv_X5_strengthOf : kMV Y_X5_strengthOf 3 := ⟨km2 190 rfl rfl, km1 5 rfl rfl, by decide +kernel, ⟨by decide +kernel, by decide +kernel, by decide +kernel⟩, by decide⟩
set_option maxRecDepth 20000 in
theorem st_X5_strengthOf : Cond.static Y_X5_strengthOf.1 ∈ kTB := km2 189 rfl rfl
abbrev Y_X5_through : kM := (⟨"MendedTube$Light", "through", "(LMendedTube$Bench;)V"⟩, prog_7_method_4_code, 2, none)
set_option maxRecDepth 20000 in
theorem mv_X5_through : kMV Y_X5_through 1 := ⟨km3 156 rfl rfl, km1 5 rfl rfl, by decide +kernel, ⟨by decide +kernel, by decide +kernel, by decide +kernel⟩, by decide⟩
set_option maxRecDepth 20000 in
theorem in_X5_through : Cond.instanceMethod Y_X5_through.1 ∈ kTB := km3 155 rfl rfl
set_option maxRecDepth 20000 in
theorem se_X5_through : Cond.selects Y_X5_through.1.cls Y_X5_through.1 Y_X5_through.1 ∈ kTB := km0 25 rfl rfl
abbrev Y_X5_throughWith : kM := (⟨"MendedTube$Light", "throughWith", "(LMendedTube$Bench;II)V"⟩, prog_7_method_5_code, 5, none)
set_option maxRecDepth 20000 in
theorem mv_X5_throughWith : kMV Y_X5_throughWith 3 := ⟨km3 160 rfl rfl, km1 5 rfl rfl, by decide +kernel, ⟨by decide +kernel, by decide +kernel, by decide +kernel⟩, by decide⟩
set_option maxRecDepth 20000 in
theorem in_X5_throughWith : Cond.instanceMethod Y_X5_throughWith.1 ∈ kTB := km3 159 rfl rfl
set_option maxRecDepth 20000 in
theorem se_X5_throughWith : Cond.selects Y_X5_throughWith.1.cls Y_X5_throughWith.1 Y_X5_throughWith.1 ∈ kTB := km0 26 rfl rfl
abbrev Y_X5_wrongSeen : kM := (⟨"MendedTube$Light", "wrongSeen", "()I"⟩, prog_7_method_14_code, 1, (some .int))
set_option maxRecDepth 20000 in
theorem mv_X5_wrongSeen : kMV Y_X5_wrongSeen 0 := ⟨km3 207 rfl rfl, km1 5 rfl rfl, by decide +kernel, ⟨by decide +kernel, by decide +kernel, by decide +kernel⟩, by decide⟩
set_option maxRecDepth 20000 in
theorem in_X5_wrongSeen : Cond.instanceMethod Y_X5_wrongSeen.1 ∈ kTB := km3 206 rfl rfl
set_option maxRecDepth 20000 in
theorem se_X5_wrongSeen : Cond.selects Y_X5_wrongSeen.1.cls Y_X5_wrongSeen.1 Y_X5_wrongSeen.1 ∈ kTB := km0 34 rfl rfl
abbrev Y_X6_bent : kM := (⟨"MendedTube$Rules", "bent", "(I[I)I"⟩, prog_8_method_3_code, 7, (some .int))
set_option maxRecDepth 20000 in
theorem mv_X6_bent : kMV Y_X6_bent 2 := ⟨km2 169 rfl rfl, km1 3 rfl rfl, by decide +kernel, ⟨by decide +kernel, by decide +kernel, by decide +kernel⟩, by decide⟩
set_option maxRecDepth 20000 in
theorem in_X6_bent : Cond.instanceMethod Y_X6_bent.1 ∈ kTB := km2 168 rfl rfl
set_option maxRecDepth 20000 in
theorem se_X6_bent : Cond.selects Y_X6_bent.1.cls Y_X6_bent.1 Y_X6_bent.1 ∈ kTB := km0 2 rfl rfl
abbrev Y_X6_changed : kM := (⟨"MendedTube$Rules", "changed", "(III)I"⟩, prog_8_method_4_code, 3, (some .int))
set_option maxRecDepth 20000 in
theorem mv_X6_changed : kMV Y_X6_changed 3 := ⟨km2 187 rfl rfl, km1 3 rfl rfl, by decide +kernel, ⟨by decide +kernel, by decide +kernel, by decide +kernel⟩, by decide⟩
set_option maxRecDepth 20000 in
theorem st_X6_changed : Cond.static Y_X6_changed.1 ∈ kTB := km2 186 rfl rfl
abbrev Y_X6_compares : kM := (⟨"MendedTube$Rules", "compares", "(I[I)Z"⟩, prog_8_method_6_code, 4, (some .boolean))
set_option maxRecDepth 20000 in
theorem mv_X6_compares : kMV Y_X6_compares 2 := ⟨km2 181 rfl rfl, km1 3 rfl rfl, by decide +kernel, ⟨by decide +kernel, by decide +kernel, by decide +kernel⟩, by decide⟩
set_option maxRecDepth 20000 in
theorem st_X6_compares : Cond.static Y_X6_compares.1 ∈ kTB := km2 180 rfl rfl
abbrev Y_X6_comparison : kM := (⟨"MendedTube$Rules", "comparison", "(III)I"⟩, prog_8_method_2_code, 3, (some .int))
set_option maxRecDepth 20000 in
theorem mv_X6_comparison : kMV Y_X6_comparison 3 := ⟨km3 121 rfl rfl, km1 3 rfl rfl, by decide +kernel, ⟨by decide +kernel, by decide +kernel, by decide +kernel⟩, by decide⟩
set_option maxRecDepth 20000 in
theorem st_X6_comparison : Cond.static Y_X6_comparison.1 ∈ kTB := km3 120 rfl rfl
abbrev Y_X6_holds : kM := (⟨"MendedTube$Rules", "holds", "(II[I)Z"⟩, prog_8_method_5_code, 7, (some .boolean))
set_option maxRecDepth 20000 in
theorem mv_X6_holds : kMV Y_X6_holds 3 := ⟨km2 178 rfl rfl, km1 3 rfl rfl, by decide +kernel, ⟨by decide +kernel, by decide +kernel, by decide +kernel⟩, by decide⟩
set_option maxRecDepth 20000 in
theorem in_X6_holds : Cond.instanceMethod Y_X6_holds.1 ∈ kTB := km2 177 rfl rfl
set_option maxRecDepth 20000 in
theorem se_X6_holds : Cond.selects Y_X6_holds.1.cls Y_X6_holds.1 Y_X6_holds.1 ∈ kTB := km0 3 rfl rfl
abbrev Y_X6_init : kM := (⟨"MendedTube$Rules", "<init>", "(I[I)V"⟩, prog_8_method_1_code, 3, none)
set_option maxRecDepth 20000 in
theorem mv_X6_init : kMV Y_X6_init 2 := ⟨km1 38 rfl rfl, km1 3 rfl rfl, by decide +kernel, ⟨by decide +kernel, by decide +kernel, by decide +kernel⟩, by decide⟩
set_option maxRecDepth 20000 in
theorem in_X6_init : Cond.instanceMethod Y_X6_init.1 ∈ kTB := km1 37 rfl rfl
abbrev Y_X6_valueOf : kM := (⟨"MendedTube$Rules", "valueOf", "(I[I)I"⟩, prog_8_method_7_code, 3, (some .int))
set_option maxRecDepth 20000 in
theorem mv_X6_valueOf : kMV Y_X6_valueOf 2 := ⟨km2 184 rfl rfl, km1 3 rfl rfl, by decide +kernel, ⟨by decide +kernel, by decide +kernel, by decide +kernel⟩, by decide⟩
set_option maxRecDepth 20000 in
theorem st_X6_valueOf : Cond.static Y_X6_valueOf.1 ∈ kTB := km2 183 rfl rfl
abbrev Y_X7_hasItem : kM := (⟨"MendedTube$Sheet", "hasItem", "(I)Z"⟩, prog_9_method_2_code, 2, (some .boolean))
set_option maxRecDepth 20000 in
theorem mv_X7_hasItem : kMV Y_X7_hasItem 1 := ⟨km5 43 rfl rfl, km1 19 rfl rfl, by decide +kernel, ⟨by decide +kernel, by decide +kernel, by decide +kernel⟩, by decide⟩
set_option maxRecDepth 20000 in
theorem in_X7_hasItem : Cond.instanceMethod Y_X7_hasItem.1 ∈ kTB := km5 42 rfl rfl
set_option maxRecDepth 20000 in
theorem se_X7_hasItem : Cond.selects Y_X7_hasItem.1.cls Y_X7_hasItem.1 Y_X7_hasItem.1 ∈ kTB := km0 62 rfl rfl
abbrev Y_X7_init : kM := (⟨"MendedTube$Sheet", "<init>", "(II)V"⟩, prog_9_method_1_code, 3, none)
set_option maxRecDepth 20000 in
theorem mv_X7_init : kMV Y_X7_init 2 := ⟨km5 25 rfl rfl, km1 19 rfl rfl, by decide +kernel, ⟨by decide +kernel, by decide +kernel, by decide +kernel⟩, by decide⟩
set_option maxRecDepth 20000 in
theorem in_X7_init : Cond.instanceMethod Y_X7_init.1 ∈ kTB := km5 24 rfl rfl
abbrev Y_X7_narrowed : kM := (⟨"MendedTube$Sheet", "narrowed", "(I)I"⟩, prog_9_method_3_code, 2, (some .int))
set_option maxRecDepth 20000 in
theorem mv_X7_narrowed : kMV Y_X7_narrowed 1 := ⟨km5 48 rfl rfl, km1 19 rfl rfl, by decide +kernel, ⟨by decide +kernel, by decide +kernel, by decide +kernel⟩, by decide⟩
set_option maxRecDepth 20000 in
theorem in_X7_narrowed : Cond.instanceMethod Y_X7_narrowed.1 ∈ kTB := km5 47 rfl rfl
set_option maxRecDepth 20000 in
theorem se_X7_narrowed : Cond.selects Y_X7_narrowed.1.cls Y_X7_narrowed.1 Y_X7_narrowed.1 ∈ kTB := km0 63 rfl rfl
abbrev Y_X8_append : kM := (⟨"MendedTube$Text", "append", "(I)V"⟩, prog_10_method_2_code, 2, none)
set_option maxRecDepth 20000 in
theorem mv_X8_append : kMV Y_X8_append 1 := ⟨km2 231 rfl rfl, km1 4 rfl rfl, by decide +kernel, ⟨by decide +kernel, by decide +kernel, by decide +kernel⟩, by decide⟩
set_option maxRecDepth 20000 in
theorem in_X8_append : Cond.instanceMethod Y_X8_append.1 ∈ kTB := km2 230 rfl rfl
set_option maxRecDepth 20000 in
theorem se_X8_append : Cond.selects Y_X8_append.1.cls Y_X8_append.1 Y_X8_append.1 ∈ kTB := km0 5 rfl rfl
abbrev Y_X8_emit : kM := (⟨"MendedTube$Text", "emit", "(I)V"⟩, prog_10_method_16_code, 2, none)
set_option maxRecDepth 20000 in
theorem mv_X8_emit : kMV Y_X8_emit 1 := ⟨km3 89 rfl rfl, km1 4 rfl rfl, by decide +kernel, ⟨by decide +kernel, by decide +kernel, by decide +kernel⟩, by decide⟩
set_option maxRecDepth 20000 in
theorem in_X8_emit : Cond.instanceMethod Y_X8_emit.1 ∈ kTB := km3 88 rfl rfl
set_option maxRecDepth 20000 in
theorem se_X8_emit : Cond.selects Y_X8_emit.1.cls Y_X8_emit.1 Y_X8_emit.1 ∈ kTB := km0 14 rfl rfl
abbrev Y_X8_endOfWord : kM := (⟨"MendedTube$Text", "endOfWord", "(I)I"⟩, prog_10_method_6_code, 3, (some .int))
set_option maxRecDepth 20000 in
theorem mv_X8_endOfWord : kMV Y_X8_endOfWord 1 := ⟨km3 17 rfl rfl, km1 4 rfl rfl, by decide +kernel, ⟨by decide +kernel, by decide +kernel, by decide +kernel⟩, by decide⟩
set_option maxRecDepth 20000 in
theorem in_X8_endOfWord : Cond.instanceMethod Y_X8_endOfWord.1 ∈ kTB := km3 16 rfl rfl
set_option maxRecDepth 20000 in
theorem se_X8_endOfWord : Cond.selects Y_X8_endOfWord.1.cls Y_X8_endOfWord.1 Y_X8_endOfWord.1 ∈ kTB := km0 9 rfl rfl
abbrev Y_X8_expect : kM := (⟨"MendedTube$Text", "expect", "(I)V"⟩, prog_10_method_15_code, 2, none)
set_option maxRecDepth 20000 in
theorem mv_X8_expect : kMV Y_X8_expect 1 := ⟨km3 125 rfl rfl, km1 4 rfl rfl, by decide +kernel, ⟨by decide +kernel, by decide +kernel, by decide +kernel⟩, by decide⟩
set_option maxRecDepth 20000 in
theorem in_X8_expect : Cond.instanceMethod Y_X8_expect.1 ∈ kTB := km3 124 rfl rfl
set_option maxRecDepth 20000 in
theorem se_X8_expect : Cond.selects Y_X8_expect.1.cls Y_X8_expect.1 Y_X8_expect.1 ∈ kTB := km0 22 rfl rfl
abbrev Y_X8_fail : kM := (⟨"MendedTube$Text", "fail", "()V"⟩, prog_10_method_14_code, 1, none)
set_option maxRecDepth 20000 in
theorem mv_X8_fail : kMV Y_X8_fail 0 := ⟨km3 94 rfl rfl, km1 4 rfl rfl, by decide +kernel, ⟨by decide +kernel, by decide +kernel, by decide +kernel⟩, by decide⟩
set_option maxRecDepth 20000 in
theorem in_X8_fail : Cond.instanceMethod Y_X8_fail.1 ∈ kTB := km3 93 rfl rfl
set_option maxRecDepth 20000 in
theorem se_X8_fail : Cond.selects Y_X8_fail.1.cls Y_X8_fail.1 Y_X8_fail.1 ∈ kTB := km0 15 rfl rfl
abbrev Y_X8_init : kM := (⟨"MendedTube$Text", "<init>", "()V"⟩, prog_10_method_1_code, 1, none)
set_option maxRecDepth 20000 in
theorem mv_X8_init : kMV Y_X8_init 0 := ⟨km1 127 rfl rfl, km1 4 rfl rfl, by decide +kernel, ⟨by decide +kernel, by decide +kernel, by decide +kernel⟩, by decide⟩
set_option maxRecDepth 20000 in
theorem in_X8_init : Cond.instanceMethod Y_X8_init.1 ∈ kTB := km1 126 rfl rfl
abbrev Y_X8_isDigit : kM := (⟨"MendedTube$Text", "isDigit", "(I)Z"⟩, prog_10_method_9_code, 1, (some .boolean))
set_option maxRecDepth 20000 in
theorem mv_X8_isDigit : kMV Y_X8_isDigit 1 := ⟨km3 13 rfl rfl, km1 4 rfl rfl, by decide +kernel, ⟨by decide +kernel, by decide +kernel, by decide +kernel⟩, by decide⟩
set_option maxRecDepth 20000 in
theorem st_X8_isDigit : Cond.static Y_X8_isDigit.1 ∈ kTB := km3 12 rfl rfl
abbrev Y_X8_isInWord : kM := (⟨"MendedTube$Text", "isInWord", "(I)Z"⟩, prog_10_method_5_code, 2, (some .boolean))
set_option maxRecDepth 20000 in
theorem mv_X8_isInWord : kMV Y_X8_isInWord 1 := ⟨km3 7 rfl rfl, km1 4 rfl rfl, by decide +kernel, ⟨by decide +kernel, by decide +kernel, by decide +kernel⟩, by decide⟩
set_option maxRecDepth 20000 in
theorem in_X8_isInWord : Cond.instanceMethod Y_X8_isInWord.1 ∈ kTB := km3 6 rfl rfl
set_option maxRecDepth 20000 in
theorem se_X8_isInWord : Cond.selects Y_X8_isInWord.1.cls Y_X8_isInWord.1 Y_X8_isInWord.1 ∈ kTB := km0 8 rfl rfl
abbrev Y_X8_isLetter : kM := (⟨"MendedTube$Text", "isLetter", "(I)Z"⟩, prog_10_method_8_code, 1, (some .boolean))
set_option maxRecDepth 20000 in
theorem mv_X8_isLetter : kMV Y_X8_isLetter 1 := ⟨km3 10 rfl rfl, km1 4 rfl rfl, by decide +kernel, ⟨by decide +kernel, by decide +kernel, by decide +kernel⟩, by decide⟩
set_option maxRecDepth 20000 in
theorem st_X8_isLetter : Cond.static Y_X8_isLetter.1 ∈ kTB := km3 9 rfl rfl
abbrev Y_X8_isSign : kM := (⟨"MendedTube$Text", "isSign", "(I)Z"⟩, prog_10_method_10_code, 1, (some .boolean))
set_option maxRecDepth 20000 in
theorem mv_X8_isSign : kMV Y_X8_isSign 1 := ⟨km3 81 rfl rfl, km1 4 rfl rfl, by decide +kernel, ⟨by decide +kernel, by decide +kernel, by decide +kernel⟩, by decide⟩
set_option maxRecDepth 20000 in
theorem st_X8_isSign : Cond.static Y_X8_isSign.1 ∈ kTB := km3 80 rfl rfl
abbrev Y_X8_nameAt : kM := (⟨"MendedTube$Text", "nameAt", "(II)I"⟩, prog_10_method_12_code, 8, (some .int))
set_option maxRecDepth 20000 in
theorem mv_X8_nameAt : kMV Y_X8_nameAt 2 := ⟨km3 25 rfl rfl, km1 4 rfl rfl, by decide +kernel, ⟨by decide +kernel, by decide +kernel, by decide +kernel⟩, by decide⟩
set_option maxRecDepth 20000 in
theorem in_X8_nameAt : Cond.instanceMethod Y_X8_nameAt.1 ∈ kTB := km3 24 rfl rfl
set_option maxRecDepth 20000 in
theorem se_X8_nameAt : Cond.selects Y_X8_nameAt.1.cls Y_X8_nameAt.1 Y_X8_nameAt.1 ∈ kTB := km0 11 rfl rfl
abbrev Y_X8_numberAt : kM := (⟨"MendedTube$Text", "numberAt", "(II)I"⟩, prog_10_method_11_code, 5, (some .int))
set_option maxRecDepth 20000 in
theorem mv_X8_numberAt : kMV Y_X8_numberAt 2 := ⟨km3 78 rfl rfl, km1 4 rfl rfl, by decide +kernel, ⟨by decide +kernel, by decide +kernel, by decide +kernel⟩, by decide⟩
set_option maxRecDepth 20000 in
theorem in_X8_numberAt : Cond.instanceMethod Y_X8_numberAt.1 ∈ kTB := km3 77 rfl rfl
set_option maxRecDepth 20000 in
theorem se_X8_numberAt : Cond.selects Y_X8_numberAt.1.cls Y_X8_numberAt.1 Y_X8_numberAt.1 ∈ kTB := km0 12 rfl rfl
abbrev Y_X8_readAll : kM := (⟨"MendedTube$Text", "readAll", "(I)V"⟩, prog_10_method_20_code, 3, none)
set_option maxRecDepth 20000 in
theorem mv_X8_readAll : kMV Y_X8_readAll 1 := ⟨km3 106 rfl rfl, km1 4 rfl rfl, by decide +kernel, ⟨by decide +kernel, by decide +kernel, by decide +kernel⟩, by decide⟩
set_option maxRecDepth 20000 in
theorem in_X8_readAll : Cond.instanceMethod Y_X8_readAll.1 ∈ kTB := km3 105 rfl rfl
set_option maxRecDepth 20000 in
theorem se_X8_readAll : Cond.selects Y_X8_readAll.1.cls Y_X8_readAll.1 Y_X8_readAll.1 ∈ kTB := km0 18 rfl rfl
abbrev Y_X8_readCondition : kM := (⟨"MendedTube$Text", "readCondition", "(I)V"⟩, prog_10_method_19_code, 3, none)
set_option maxRecDepth 20000 in
theorem mv_X8_readCondition : kMV Y_X8_readCondition 1 := ⟨km3 102 rfl rfl, km1 4 rfl rfl, by decide +kernel, ⟨by decide +kernel, by decide +kernel, by decide +kernel⟩, by decide⟩
set_option maxRecDepth 20000 in
theorem in_X8_readCondition : Cond.instanceMethod Y_X8_readCondition.1 ∈ kTB := km3 101 rfl rfl
set_option maxRecDepth 20000 in
theorem se_X8_readCondition : Cond.selects Y_X8_readCondition.1.cls Y_X8_readCondition.1 Y_X8_readCondition.1 ∈ kTB := km0 17 rfl rfl
abbrev Y_X8_readDoing : kM := (⟨"MendedTube$Text", "readDoing", "(I)V"⟩, prog_10_method_18_code, 3, none)
set_option maxRecDepth 20000 in
theorem mv_X8_readDoing : kMV Y_X8_readDoing 1 := ⟨km3 129 rfl rfl, km1 4 rfl rfl, by decide +kernel, ⟨by decide +kernel, by decide +kernel, by decide +kernel⟩, by decide⟩
set_option maxRecDepth 20000 in
theorem in_X8_readDoing : Cond.instanceMethod Y_X8_readDoing.1 ∈ kTB := km3 128 rfl rfl
set_option maxRecDepth 20000 in
theorem se_X8_readDoing : Cond.selects Y_X8_readDoing.1.cls Y_X8_readDoing.1 Y_X8_readDoing.1 ∈ kTB := km0 23 rfl rfl
abbrev Y_X8_readOne : kM := (⟨"MendedTube$Text", "readOne", "(I)V"⟩, prog_10_method_21_code, 5, none)
set_option maxRecDepth 20000 in
theorem mv_X8_readOne : kMV Y_X8_readOne 1 := ⟨km3 110 rfl rfl, km1 4 rfl rfl, by decide +kernel, ⟨by decide +kernel, by decide +kernel, by decide +kernel⟩, by decide⟩
set_option maxRecDepth 20000 in
theorem in_X8_readOne : Cond.instanceMethod Y_X8_readOne.1 ∈ kTB := km3 109 rfl rfl
set_option maxRecDepth 20000 in
theorem se_X8_readOne : Cond.selects Y_X8_readOne.1.cls Y_X8_readOne.1 Y_X8_readOne.1 ∈ kTB := km0 19 rfl rfl
abbrev Y_X8_readRule : kM := (⟨"MendedTube$Text", "readRule", "()V"⟩, prog_10_method_17_code, 3, none)
set_option maxRecDepth 20000 in
theorem mv_X8_readRule : kMV Y_X8_readRule 0 := ⟨km3 85 rfl rfl, km1 4 rfl rfl, by decide +kernel, ⟨by decide +kernel, by decide +kernel, by decide +kernel⟩, by decide⟩
set_option maxRecDepth 20000 in
theorem in_X8_readRule : Cond.instanceMethod Y_X8_readRule.1 ∈ kTB := km3 84 rfl rfl
set_option maxRecDepth 20000 in
theorem se_X8_readRule : Cond.selects Y_X8_readRule.1.cls Y_X8_readRule.1 Y_X8_readRule.1 ∈ kTB := km0 13 rfl rfl
abbrev Y_X8_readSign : kM := (⟨"MendedTube$Text", "readSign", "()I"⟩, prog_10_method_22_code, 2, (some .int))
set_option maxRecDepth 20000 in
theorem mv_X8_readSign : kMV Y_X8_readSign 0 := ⟨km3 118 rfl rfl, km1 4 rfl rfl, by decide +kernel, ⟨by decide +kernel, by decide +kernel, by decide +kernel⟩, by decide⟩
set_option maxRecDepth 20000 in
theorem in_X8_readSign : Cond.instanceMethod Y_X8_readSign.1 ∈ kTB := km3 117 rfl rfl
set_option maxRecDepth 20000 in
theorem se_X8_readSign : Cond.selects Y_X8_readSign.1.cls Y_X8_readSign.1 Y_X8_readSign.1 ∈ kTB := km0 21 rfl rfl
abbrev Y_X8_readValue : kM := (⟨"MendedTube$Text", "readValue", "()I"⟩, prog_10_method_23_code, 2, (some .int))
set_option maxRecDepth 20000 in
theorem mv_X8_readValue : kMV Y_X8_readValue 0 := ⟨km3 114 rfl rfl, km1 4 rfl rfl, by decide +kernel, ⟨by decide +kernel, by decide +kernel, by decide +kernel⟩, by decide⟩
set_option maxRecDepth 20000 in
theorem in_X8_readValue : Cond.instanceMethod Y_X8_readValue.1 ∈ kTB := km3 113 rfl rfl
set_option maxRecDepth 20000 in
theorem se_X8_readValue : Cond.selects Y_X8_readValue.1.cls Y_X8_readValue.1 Y_X8_readValue.1 ∈ kTB := km0 20 rfl rfl
abbrev Y_X8_split : kM := (⟨"MendedTube$Text", "split", "()V"⟩, prog_10_method_4_code, 3, none)
set_option maxRecDepth 20000 in
theorem mv_X8_split : kMV Y_X8_split 0 := ⟨km3 3 rfl rfl, km1 4 rfl rfl, by decide +kernel, ⟨by decide +kernel, by decide +kernel, by decide +kernel⟩, by decide⟩
set_option maxRecDepth 20000 in
theorem in_X8_split : Cond.instanceMethod Y_X8_split.1 ∈ kTB := km3 2 rfl rfl
set_option maxRecDepth 20000 in
theorem se_X8_split : Cond.selects Y_X8_split.1.cls Y_X8_split.1 Y_X8_split.1 ∈ kTB := km0 7 rfl rfl
abbrev Y_X8_step : kM := (⟨"MendedTube$Text", "step", "()V"⟩, prog_10_method_13_code, 1, none)
set_option maxRecDepth 20000 in
theorem mv_X8_step : kMV Y_X8_step 0 := ⟨km3 98 rfl rfl, km1 4 rfl rfl, by decide +kernel, ⟨by decide +kernel, by decide +kernel, by decide +kernel⟩, by decide⟩
set_option maxRecDepth 20000 in
theorem in_X8_step : Cond.instanceMethod Y_X8_step.1 ∈ kTB := km3 97 rfl rfl
set_option maxRecDepth 20000 in
theorem se_X8_step : Cond.selects Y_X8_step.1.cls Y_X8_step.1 Y_X8_step.1 ∈ kTB := km0 16 rfl rfl
abbrev Y_X8_told : kM := (⟨"MendedTube$Text", "told", "()LMendedTube$Rules;"⟩, prog_10_method_3_code, 2, (some (.object "MendedTube$Rules")))
set_option maxRecDepth 20000 in
theorem mv_X8_told : kMV Y_X8_told 0 := ⟨km2 239 rfl rfl, km1 4 rfl rfl, by decide +kernel, ⟨by decide +kernel, by decide +kernel, by decide +kernel⟩, by decide⟩
set_option maxRecDepth 20000 in
theorem in_X8_told : Cond.instanceMethod Y_X8_told.1 ∈ kTB := km2 238 rfl rfl
set_option maxRecDepth 20000 in
theorem se_X8_told : Cond.selects Y_X8_told.1.cls Y_X8_told.1 Y_X8_told.1 ∈ kTB := km0 6 rfl rfl
abbrev Y_X8_wordAt : kM := (⟨"MendedTube$Text", "wordAt", "(II)I"⟩, prog_10_method_7_code, 3, (some .int))
set_option maxRecDepth 20000 in
theorem mv_X8_wordAt : kMV Y_X8_wordAt 2 := ⟨km3 21 rfl rfl, km1 4 rfl rfl, by decide +kernel, ⟨by decide +kernel, by decide +kernel, by decide +kernel⟩, by decide⟩
set_option maxRecDepth 20000 in
theorem in_X8_wordAt : Cond.instanceMethod Y_X8_wordAt.1 ∈ kTB := km3 20 rfl rfl
set_option maxRecDepth 20000 in
theorem se_X8_wordAt : Cond.selects Y_X8_wordAt.1.cls Y_X8_wordAt.1 Y_X8_wordAt.1 ∈ kTB := km0 10 rfl rfl
abbrev Y_X9_act : kM := (⟨"MendedTube", "act", "(III)I"⟩, prog_1_method_52_code, 6, (some .int))
set_option maxRecDepth 20000 in
theorem mv_X9_act : kMV Y_X9_act 3 := ⟨km5 81 rfl rfl, km1 1 rfl rfl, by decide +kernel, ⟨by decide +kernel, by decide +kernel, by decide +kernel⟩, by decide⟩
set_option maxRecDepth 20000 in
theorem in_X9_act : Cond.instanceMethod Y_X9_act.1 ∈ kTB := km5 79 rfl rfl
set_option maxRecDepth 20000 in
theorem se_X9_act : Cond.selects Y_X9_act.1.cls Y_X9_act.1 Y_X9_act.1 ∈ kTB := km5 80 rfl rfl
abbrev Y_X9_again : kM := (⟨"MendedTube", "again", "()I"⟩, prog_1_method_56_code, 1, (some .int))
set_option maxRecDepth 20000 in
theorem mv_X9_again : kMV Y_X9_again 0 := ⟨km5 144 rfl rfl, km1 1 rfl rfl, by decide +kernel, ⟨by decide +kernel, by decide +kernel, by decide +kernel⟩, by decide⟩
set_option maxRecDepth 20000 in
theorem in_X9_again : Cond.instanceMethod Y_X9_again.1 ∈ kTB := km5 142 rfl rfl
set_option maxRecDepth 20000 in
theorem se_X9_again : Cond.selects Y_X9_again.1.cls Y_X9_again.1 Y_X9_again.1 ∈ kTB := km5 143 rfl rfl
abbrev Y_X9_alterRow : kM := (⟨"MendedTube", "alterRow", "(III)I"⟩, prog_1_method_43_code, 4, (some .int))
set_option maxRecDepth 20000 in
theorem mv_X9_alterRow : kMV Y_X9_alterRow 3 := ⟨km5 3 rfl rfl, km1 1 rfl rfl, by decide +kernel, ⟨by decide +kernel, by decide +kernel, by decide +kernel⟩, by decide⟩
set_option maxRecDepth 20000 in
theorem in_X9_alterRow : Cond.instanceMethod Y_X9_alterRow.1 ∈ kTB := km5 1 rfl rfl
set_option maxRecDepth 20000 in
theorem se_X9_alterRow : Cond.selects Y_X9_alterRow.1.cls Y_X9_alterRow.1 Y_X9_alterRow.1 ∈ kTB := km5 2 rfl rfl
abbrev Y_X9_bendsThatFit : kM := (⟨"MendedTube", "bendsThatFit", "(I)I"⟩, prog_1_method_70_code, 4, (some .int))
set_option maxRecDepth 20000 in
theorem mv_X9_bendsThatFit : kMV Y_X9_bendsThatFit 1 := ⟨km4 184 rfl rfl, km1 1 rfl rfl, by decide +kernel, ⟨by decide +kernel, by decide +kernel, by decide +kernel⟩, by decide⟩
set_option maxRecDepth 20000 in
theorem in_X9_bendsThatFit : Cond.instanceMethod Y_X9_bendsThatFit.1 ∈ kTB := km4 183 rfl rfl
set_option maxRecDepth 20000 in
theorem se_X9_bendsThatFit : Cond.selects Y_X9_bendsThatFit.1.cls Y_X9_bendsThatFit.1 Y_X9_bendsThatFit.1 ∈ kTB := km0 56 rfl rfl
abbrev Y_X9_blur : kM := (⟨"MendedTube", "blur", "()I"⟩, prog_1_method_12_code, 1, (some .int))
set_option maxRecDepth 20000 in
theorem mv_X9_blur : kMV Y_X9_blur 0 := ⟨km3 195 rfl rfl, km1 1 rfl rfl, by decide +kernel, ⟨by decide +kernel, by decide +kernel, by decide +kernel⟩, by decide⟩
set_option maxRecDepth 20000 in
theorem in_X9_blur : Cond.instanceMethod Y_X9_blur.1 ∈ kTB := km3 193 rfl rfl
set_option maxRecDepth 20000 in
theorem se_X9_blur : Cond.selects Y_X9_blur.1.cls Y_X9_blur.1 Y_X9_blur.1 ∈ kTB := km3 194 rfl rfl
abbrev Y_X9_change : kM := (⟨"MendedTube", "change", "()I"⟩, prog_1_method_22_code, 5, (some .int))
set_option maxRecDepth 20000 in
theorem mv_X9_change : kMV Y_X9_change 0 := ⟨km4 26 rfl rfl, km1 1 rfl rfl, by decide +kernel, ⟨by decide +kernel, by decide +kernel, by decide +kernel⟩, by decide⟩
set_option maxRecDepth 20000 in
theorem in_X9_change : Cond.instanceMethod Y_X9_change.1 ∈ kTB := km4 24 rfl rfl
set_option maxRecDepth 20000 in
theorem se_X9_change : Cond.selects Y_X9_change.1.cls Y_X9_change.1 Y_X9_change.1 ∈ kTB := km4 25 rfl rfl
abbrev Y_X9_draw : kM := (⟨"MendedTube", "draw", "()I"⟩, prog_1_method_39_code, 1, (some .int))
set_option maxRecDepth 20000 in
theorem mv_X9_draw : kMV Y_X9_draw 0 := ⟨km4 209 rfl rfl, km1 1 rfl rfl, by decide +kernel, ⟨by decide +kernel, by decide +kernel, by decide +kernel⟩, by decide⟩
set_option maxRecDepth 20000 in
theorem in_X9_draw : Cond.instanceMethod Y_X9_draw.1 ∈ kTB := km4 207 rfl rfl
set_option maxRecDepth 20000 in
theorem se_X9_draw : Cond.selects Y_X9_draw.1.cls Y_X9_draw.1 Y_X9_draw.1 ∈ kTB := km4 208 rfl rfl
abbrev Y_X9_dueThrough : kM := (⟨"MendedTube", "dueThrough", "(I)I"⟩, prog_1_method_74_code, 2, (some .int))
set_option maxRecDepth 20000 in
theorem mv_X9_dueThrough : kMV Y_X9_dueThrough 1 := ⟨km4 226 rfl rfl, km1 1 rfl rfl, by decide +kernel, ⟨by decide +kernel, by decide +kernel, by decide +kernel⟩, by decide⟩
set_option maxRecDepth 20000 in
theorem in_X9_dueThrough : Cond.instanceMethod Y_X9_dueThrough.1 ∈ kTB := km4 225 rfl rfl
set_option maxRecDepth 20000 in
theorem se_X9_dueThrough : Cond.selects Y_X9_dueThrough.1.cls Y_X9_dueThrough.1 Y_X9_dueThrough.1 ∈ kTB := km0 58 rfl rfl
abbrev Y_X9_exchange : kM := (⟨"MendedTube", "exchange", "(II)I"⟩, prog_1_method_19_code, 3, (some .int))
set_option maxRecDepth 20000 in
theorem mv_X9_exchange : kMV Y_X9_exchange 2 := ⟨km4 5 rfl rfl, km1 1 rfl rfl, by decide +kernel, ⟨by decide +kernel, by decide +kernel, by decide +kernel⟩, by decide⟩
set_option maxRecDepth 20000 in
theorem in_X9_exchange : Cond.instanceMethod Y_X9_exchange.1 ∈ kTB := km4 3 rfl rfl
set_option maxRecDepth 20000 in
theorem se_X9_exchange : Cond.selects Y_X9_exchange.1.cls Y_X9_exchange.1 Y_X9_exchange.1 ∈ kTB := km4 4 rfl rfl
abbrev Y_X9_eyes : kM := (⟨"MendedTube", "eyes", "()I"⟩, prog_1_method_24_code, 3, (some .int))
set_option maxRecDepth 20000 in
theorem mv_X9_eyes : kMV Y_X9_eyes 0 := ⟨km4 38 rfl rfl, km1 1 rfl rfl, by decide +kernel, ⟨by decide +kernel, by decide +kernel, by decide +kernel⟩, by decide⟩
set_option maxRecDepth 20000 in
theorem in_X9_eyes : Cond.instanceMethod Y_X9_eyes.1 ∈ kTB := km4 36 rfl rfl
set_option maxRecDepth 20000 in
theorem se_X9_eyes : Cond.selects Y_X9_eyes.1.cls Y_X9_eyes.1 Y_X9_eyes.1 ∈ kTB := km4 37 rfl rfl
abbrev Y_X9_feed : kM := (⟨"MendedTube", "feed", "(JI)I"⟩, prog_1_method_8_code, 5, (some .int))
set_option maxRecDepth 20000 in
theorem mv_X9_feed : kMV Y_X9_feed 2 := ⟨km2 227 rfl rfl, km1 1 rfl rfl, by decide +kernel, ⟨by decide +kernel, by decide +kernel, by decide +kernel⟩, by decide⟩
set_option maxRecDepth 20000 in
theorem in_X9_feed : Cond.instanceMethod Y_X9_feed.1 ∈ kTB := km2 225 rfl rfl
set_option maxRecDepth 20000 in
theorem se_X9_feed : Cond.selects Y_X9_feed.1.cls Y_X9_feed.1 Y_X9_feed.1 ∈ kTB := km2 226 rfl rfl
abbrev Y_X9_findBends : kM := (⟨"MendedTube", "findBends", "()V"⟩, prog_1_method_69_code, 5, none)
set_option maxRecDepth 20000 in
theorem mv_X9_findBends : kMV Y_X9_findBends 0 := ⟨km4 179 rfl rfl, km1 1 rfl rfl, by decide +kernel, ⟨by decide +kernel, by decide +kernel, by decide +kernel⟩, by decide⟩
set_option maxRecDepth 20000 in
theorem in_X9_findBends : Cond.instanceMethod Y_X9_findBends.1 ∈ kTB := km4 178 rfl rfl
set_option maxRecDepth 20000 in
theorem se_X9_findBends : Cond.selects Y_X9_findBends.1.cls Y_X9_findBends.1 Y_X9_findBends.1 ∈ kTB := km0 55 rfl rfl
abbrev Y_X9_fit : kM := (⟨"MendedTube", "fit", "(II)I"⟩, prog_1_method_15_code, 4, (some .int))
set_option maxRecDepth 20000 in
theorem mv_X9_fit : kMV Y_X9_fit 2 := ⟨km3 222 rfl rfl, km1 1 rfl rfl, by decide +kernel, ⟨by decide +kernel, by decide +kernel, by decide +kernel⟩, by decide⟩
set_option maxRecDepth 20000 in
theorem in_X9_fit : Cond.instanceMethod Y_X9_fit.1 ∈ kTB := km3 220 rfl rfl
set_option maxRecDepth 20000 in
theorem se_X9_fit : Cond.selects Y_X9_fit.1.cls Y_X9_fit.1 Y_X9_fit.1 ∈ kTB := km3 221 rfl rfl
abbrev Y_X9_fits : kM := (⟨"MendedTube", "fits", "(III)I"⟩, prog_1_method_48_code, 7, (some .int))
set_option maxRecDepth 20000 in
theorem mv_X9_fits : kMV Y_X9_fits 3 := ⟨km5 56 rfl rfl, km1 1 rfl rfl, by decide +kernel, ⟨by decide +kernel, by decide +kernel, by decide +kernel⟩, by decide⟩
set_option maxRecDepth 20000 in
theorem in_X9_fits : Cond.instanceMethod Y_X9_fits.1 ∈ kTB := km5 54 rfl rfl
set_option maxRecDepth 20000 in
theorem se_X9_fits : Cond.selects Y_X9_fits.1.cls Y_X9_fits.1 Y_X9_fits.1 ∈ kTB := km5 55 rfl rfl
abbrev Y_X9_fix : kM := (⟨"MendedTube", "fix", "()I"⟩, prog_1_method_21_code, 5, (some .int))
set_option maxRecDepth 20000 in
theorem mv_X9_fix : kMV Y_X9_fix 0 := ⟨km4 17 rfl rfl, km1 1 rfl rfl, by decide +kernel, ⟨by decide +kernel, by decide +kernel, by decide +kernel⟩, by decide⟩
set_option maxRecDepth 20000 in
theorem in_X9_fix : Cond.instanceMethod Y_X9_fix.1 ∈ kTB := km4 15 rfl rfl
set_option maxRecDepth 20000 in
theorem se_X9_fix : Cond.selects Y_X9_fix.1.cls Y_X9_fix.1 Y_X9_fix.1 ∈ kTB := km4 16 rfl rfl
abbrev Y_X9_forget : kM := (⟨"MendedTube", "forget", "()I"⟩, prog_1_method_35_code, 2, (some .int))
set_option maxRecDepth 20000 in
theorem mv_X9_forget : kMV Y_X9_forget 0 := ⟨km4 171 rfl rfl, km1 1 rfl rfl, by decide +kernel, ⟨by decide +kernel, by decide +kernel, by decide +kernel⟩, by decide⟩
set_option maxRecDepth 20000 in
theorem in_X9_forget : Cond.instanceMethod Y_X9_forget.1 ∈ kTB := km4 169 rfl rfl
set_option maxRecDepth 20000 in
theorem se_X9_forget : Cond.selects Y_X9_forget.1.cls Y_X9_forget.1 Y_X9_forget.1 ∈ kTB := km4 170 rfl rfl
abbrev Y_X9_game : kM := (⟨"MendedTube", "game", "(I)I"⟩, prog_1_method_32_code, 2, (some .int))
set_option maxRecDepth 20000 in
theorem mv_X9_game : kMV Y_X9_game 1 := ⟨km4 136 rfl rfl, km1 1 rfl rfl, by decide +kernel, ⟨by decide +kernel, by decide +kernel, by decide +kernel⟩, by decide⟩
set_option maxRecDepth 20000 in
theorem in_X9_game : Cond.instanceMethod Y_X9_game.1 ∈ kTB := km4 134 rfl rfl
set_option maxRecDepth 20000 in
theorem se_X9_game : Cond.selects Y_X9_game.1.cls Y_X9_game.1 Y_X9_game.1 ∈ kTB := km4 135 rfl rfl
abbrev Y_X9_good : kM := (⟨"MendedTube", "good", "(I)I"⟩, prog_1_method_27_code, 2, (some .int))
set_option maxRecDepth 20000 in
theorem mv_X9_good : kMV Y_X9_good 1 := ⟨km4 76 rfl rfl, km1 1 rfl rfl, by decide +kernel, ⟨by decide +kernel, by decide +kernel, by decide +kernel⟩, by decide⟩
set_option maxRecDepth 20000 in
theorem in_X9_good : Cond.instanceMethod Y_X9_good.1 ∈ kTB := km4 74 rfl rfl
set_option maxRecDepth 20000 in
theorem se_X9_good : Cond.selects Y_X9_good.1.cls Y_X9_good.1 Y_X9_good.1 ∈ kTB := km4 75 rfl rfl
abbrev Y_X9_greatestBend : kM := (⟨"MendedTube", "greatestBend", "(I)I"⟩, prog_1_method_72_code, 2, (some .int))
set_option maxRecDepth 20000 in
theorem mv_X9_greatestBend : kMV Y_X9_greatestBend 1 := ⟨km4 197 rfl rfl, km1 1 rfl rfl, by decide +kernel, ⟨by decide +kernel, by decide +kernel, by decide +kernel⟩, by decide⟩
set_option maxRecDepth 20000 in
theorem st_X9_greatestBend : Cond.static Y_X9_greatestBend.1 ∈ kTB := km4 196 rfl rfl
abbrev Y_X9_grind : kM := (⟨"MendedTube", "grind", "(III)I"⟩, prog_1_method_4_code, 4, (some .int))
set_option maxRecDepth 20000 in
theorem mv_X9_grind : kMV Y_X9_grind 3 := ⟨km2 204 rfl rfl, km1 1 rfl rfl, by decide +kernel, ⟨by decide +kernel, by decide +kernel, by decide +kernel⟩, by decide⟩
set_option maxRecDepth 20000 in
theorem in_X9_grind : Cond.instanceMethod Y_X9_grind.1 ∈ kTB := km2 202 rfl rfl
set_option maxRecDepth 20000 in
theorem se_X9_grind : Cond.selects Y_X9_grind.1.cls Y_X9_grind.1 Y_X9_grind.1 ∈ kTB := km2 203 rfl rfl
abbrev Y_X9_heatFor : kM := (⟨"MendedTube", "heatFor", "()I"⟩, prog_1_method_23_code, 2, (some .int))
set_option maxRecDepth 20000 in
theorem mv_X9_heatFor : kMV Y_X9_heatFor 0 := ⟨km4 30 rfl rfl, km1 1 rfl rfl, by decide +kernel, ⟨by decide +kernel, by decide +kernel, by decide +kernel⟩, by decide⟩
set_option maxRecDepth 20000 in
theorem in_X9_heatFor : Cond.instanceMethod Y_X9_heatFor.1 ∈ kTB := km4 28 rfl rfl
set_option maxRecDepth 20000 in
theorem se_X9_heatFor : Cond.selects Y_X9_heatFor.1.cls Y_X9_heatFor.1 Y_X9_heatFor.1 ∈ kTB := km4 29 rfl rfl
abbrev Y_X9_init : kM := (⟨"MendedTube", "<init>", "()V"⟩, prog_1_method_1_code, 1, none)
set_option maxRecDepth 20000 in
theorem mv_X9_init : kMV Y_X9_init 0 := ⟨km1 24 rfl rfl, km1 1 rfl rfl, by decide +kernel, ⟨by decide +kernel, by decide +kernel, by decide +kernel⟩, by decide⟩
set_option maxRecDepth 20000 in
theorem in_X9_init : Cond.instanceMethod Y_X9_init.1 ∈ kTB := km1 23 rfl rfl
abbrev Y_X9_isInRows : kM := (⟨"MendedTube", "isInRows", "(II)Z"⟩, prog_1_method_73_code, 3, (some .boolean))
set_option maxRecDepth 20000 in
theorem mv_X9_isInRows : kMV Y_X9_isInRows 2 := ⟨km4 239 rfl rfl, km1 1 rfl rfl, by decide +kernel, ⟨by decide +kernel, by decide +kernel, by decide +kernel⟩, by decide⟩
set_option maxRecDepth 20000 in
theorem in_X9_isInRows : Cond.instanceMethod Y_X9_isInRows.1 ∈ kTB := km4 238 rfl rfl
set_option maxRecDepth 20000 in
theorem se_X9_isInRows : Cond.selects Y_X9_isInRows.1.cls Y_X9_isInRows.1 Y_X9_isInRows.1 ∈ kTB := km0 60 rfl rfl
abbrev Y_X9_isMadeKind : kM := (⟨"MendedTube", "isMadeKind", "(I)Z"⟩, prog_1_method_59_code, 1, (some .boolean))
set_option maxRecDepth 20000 in
theorem mv_X9_isMadeKind : kMV Y_X9_isMadeKind 1 := ⟨km2 143 rfl rfl, km1 1 rfl rfl, by decide +kernel, ⟨by decide +kernel, by decide +kernel, by decide +kernel⟩, by decide⟩
set_option maxRecDepth 20000 in
theorem st_X9_isMadeKind : Cond.static Y_X9_isMadeKind.1 ∈ kTB := km2 142 rfl rfl
abbrev Y_X9_isMendedWith : kM := (⟨"MendedTube", "isMendedWith", "(II)Z"⟩, prog_1_method_68_code, 3, (some .boolean))
set_option maxRecDepth 20000 in
theorem mv_X9_isMendedWith : kMV Y_X9_isMendedWith 2 := ⟨km4 34 rfl rfl, km1 1 rfl rfl, by decide +kernel, ⟨by decide +kernel, by decide +kernel, by decide +kernel⟩, by decide⟩
set_option maxRecDepth 20000 in
theorem in_X9_isMendedWith : Cond.instanceMethod Y_X9_isMendedWith.1 ∈ kTB := km4 33 rfl rfl
set_option maxRecDepth 20000 in
theorem se_X9_isMendedWith : Cond.selects Y_X9_isMendedWith.1.cls Y_X9_isMendedWith.1 Y_X9_isMendedWith.1 ∈ kTB := km0 39 rfl rfl
abbrev Y_X9_isPut : kM := (⟨"MendedTube", "isPut", "(I)Z"⟩, prog_1_method_61_code, 1, (some .boolean))
set_option maxRecDepth 20000 in
theorem mv_X9_isPut : kMV Y_X9_isPut 1 := ⟨km4 45 rfl rfl, km1 1 rfl rfl, by decide +kernel, ⟨by decide +kernel, by decide +kernel, by decide +kernel⟩, by decide⟩
set_option maxRecDepth 20000 in
theorem st_X9_isPut : Cond.static Y_X9_isPut.1 ∈ kTB := km4 44 rfl rfl
abbrev Y_X9_isRightRow : kM := (⟨"MendedTube", "isRightRow", "(II)Z"⟩, prog_1_method_75_code, 4, (some .boolean))
set_option maxRecDepth 20000 in
theorem mv_X9_isRightRow : kMV Y_X9_isRightRow 2 := ⟨km5 11 rfl rfl, km1 1 rfl rfl, by decide +kernel, ⟨by decide +kernel, by decide +kernel, by decide +kernel⟩, by decide⟩
set_option maxRecDepth 20000 in
theorem in_X9_isRightRow : Cond.instanceMethod Y_X9_isRightRow.1 ∈ kTB := km5 10 rfl rfl
set_option maxRecDepth 20000 in
theorem se_X9_isRightRow : Cond.selects Y_X9_isRightRow.1.cls Y_X9_isRightRow.1 Y_X9_isRightRow.1 ∈ kTB := km0 61 rfl rfl
abbrev Y_X9_isSheet : kM := (⟨"MendedTube", "isSheet", "(I)Z"⟩, prog_1_method_62_code, 1, (some .boolean))
set_option maxRecDepth 20000 in
theorem mv_X9_isSheet : kMV Y_X9_isSheet 1 := ⟨km5 18 rfl rfl, km1 1 rfl rfl, by decide +kernel, ⟨by decide +kernel, by decide +kernel, by decide +kernel⟩, by decide⟩
set_option maxRecDepth 20000 in
theorem st_X9_isSheet : Cond.static Y_X9_isSheet.1 ∈ kTB := km5 17 rfl rfl
abbrev Y_X9_isShelf : kM := (⟨"MendedTube", "isShelf", "(I)Z"⟩, prog_1_method_63_code, 1, (some .boolean))
set_option maxRecDepth 20000 in
theorem mv_X9_isShelf : kMV Y_X9_isShelf 1 := ⟨km5 68 rfl rfl, km1 1 rfl rfl, by decide +kernel, ⟨by decide +kernel, by decide +kernel, by decide +kernel⟩, by decide⟩
set_option maxRecDepth 20000 in
theorem st_X9_isShelf : Cond.static Y_X9_isShelf.1 ∈ kTB := km5 67 rfl rfl
abbrev Y_X9_isSmall : kM := (⟨"MendedTube", "isSmall", "(I)Z"⟩, prog_1_method_58_code, 1, (some .boolean))
set_option maxRecDepth 20000 in
theorem mv_X9_isSmall : kMV Y_X9_isSmall 1 := ⟨km2 149 rfl rfl, km1 1 rfl rfl, by decide +kernel, ⟨by decide +kernel, by decide +kernel, by decide +kernel⟩, by decide⟩
set_option maxRecDepth 20000 in
theorem st_X9_isSmall : Cond.static Y_X9_isSmall.1 ∈ kTB := km2 148 rfl rfl
abbrev Y_X9_isSort : kM := (⟨"MendedTube", "isSort", "(I)Z"⟩, prog_1_method_64_code, 1, (some .boolean))
set_option maxRecDepth 20000 in
theorem mv_X9_isSort : kMV Y_X9_isSort 1 := ⟨km5 21 rfl rfl, km1 1 rfl rfl, by decide +kernel, ⟨by decide +kernel, by decide +kernel, by decide +kernel⟩, by decide⟩
set_option maxRecDepth 20000 in
theorem st_X9_isSort : Cond.static Y_X9_isSort.1 ∈ kTB := km5 20 rfl rfl
abbrev Y_X9_isTurn : kM := (⟨"MendedTube", "isTurn", "(I)Z"⟩, prog_1_method_60_code, 1, (some .boolean))
set_option maxRecDepth 20000 in
theorem mv_X9_isTurn : kMV Y_X9_isTurn 1 := ⟨km3 225 rfl rfl, km1 1 rfl rfl, by decide +kernel, ⟨by decide +kernel, by decide +kernel, by decide +kernel⟩, by decide⟩
set_option maxRecDepth 20000 in
theorem st_X9_isTurn : Cond.static Y_X9_isTurn.1 ∈ kTB := km3 224 rfl rfl
abbrev Y_X9_isUnder : kM := (⟨"MendedTube", "isUnder", "(II)Z"⟩, prog_1_method_65_code, 4, (some .boolean))
set_option maxRecDepth 20000 in
theorem mv_X9_isUnder : kMV Y_X9_isUnder 2 := ⟨km2 172 rfl rfl, km1 1 rfl rfl, by decide +kernel, ⟨by decide +kernel, by decide +kernel, by decide +kernel⟩, by decide⟩
set_option maxRecDepth 20000 in
theorem st_X9_isUnder : Cond.static Y_X9_isUnder.1 ∈ kTB := km2 171 rfl rfl
abbrev Y_X9_isWithin : kM := (⟨"MendedTube", "isWithin", "(III)Z"⟩, prog_1_method_57_code, 3, (some .boolean))
set_option maxRecDepth 20000 in
theorem mv_X9_isWithin : kMV Y_X9_isWithin 3 := ⟨km2 146 rfl rfl, km1 1 rfl rfl, by decide +kernel, ⟨by decide +kernel, by decide +kernel, by decide +kernel⟩, by decide⟩
set_option maxRecDepth 20000 in
theorem st_X9_isWithin : Cond.static Y_X9_isWithin.1 ∈ kTB := km2 145 rfl rfl
abbrev Y_X9_item : kM := (⟨"MendedTube", "item", "(III)I"⟩, prog_1_method_47_code, 5, (some .int))
set_option maxRecDepth 20000 in
theorem mv_X9_item : kMV Y_X9_item 3 := ⟨km5 52 rfl rfl, km1 1 rfl rfl, by decide +kernel, ⟨by decide +kernel, by decide +kernel, by decide +kernel⟩, by decide⟩
set_option maxRecDepth 20000 in
theorem in_X9_item : Cond.instanceMethod Y_X9_item.1 ∈ kTB := km5 50 rfl rfl
set_option maxRecDepth 20000 in
theorem se_X9_item : Cond.selects Y_X9_item.1.cls Y_X9_item.1 Y_X9_item.1 ∈ kTB := km5 51 rfl rfl
abbrev Y_X9_judge : kM := (⟨"MendedTube", "judge", "()I"⟩, prog_1_method_44_code, 3, (some .int))
set_option maxRecDepth 20000 in
theorem mv_X9_judge : kMV Y_X9_judge 0 := ⟨km5 7 rfl rfl, km1 1 rfl rfl, by decide +kernel, ⟨by decide +kernel, by decide +kernel, by decide +kernel⟩, by decide⟩
set_option maxRecDepth 20000 in
theorem in_X9_judge : Cond.instanceMethod Y_X9_judge.1 ∈ kTB := km5 5 rfl rfl
set_option maxRecDepth 20000 in
theorem se_X9_judge : Cond.selects Y_X9_judge.1.cls Y_X9_judge.1 Y_X9_judge.1 ∈ kTB := km5 6 rfl rfl
abbrev Y_X9_keep : kM := (⟨"MendedTube", "keep", "()I"⟩, prog_1_method_55_code, 1, (some .int))
set_option maxRecDepth 20000 in
theorem mv_X9_keep : kMV Y_X9_keep 0 := ⟨km5 140 rfl rfl, km1 1 rfl rfl, by decide +kernel, ⟨by decide +kernel, by decide +kernel, by decide +kernel⟩, by decide⟩
set_option maxRecDepth 20000 in
theorem in_X9_keep : Cond.instanceMethod Y_X9_keep.1 ∈ kTB := km5 138 rfl rfl
set_option maxRecDepth 20000 in
theorem se_X9_keep : Cond.selects Y_X9_keep.1.cls Y_X9_keep.1 Y_X9_keep.1 ∈ kTB := km5 139 rfl rfl
abbrev Y_X9_least : kM := (⟨"MendedTube", "least", "(I)I"⟩, prog_1_method_25_code, 2, (some .int))
set_option maxRecDepth 20000 in
theorem mv_X9_least : kMV Y_X9_least 1 := ⟨km4 42 rfl rfl, km1 1 rfl rfl, by decide +kernel, ⟨by decide +kernel, by decide +kernel, by decide +kernel⟩, by decide⟩
set_option maxRecDepth 20000 in
theorem in_X9_least : Cond.instanceMethod Y_X9_least.1 ∈ kTB := km4 40 rfl rfl
set_option maxRecDepth 20000 in
theorem se_X9_least : Cond.selects Y_X9_least.1.cls Y_X9_least.1 Y_X9_least.1 ∈ kTB := km4 41 rfl rfl
abbrev Y_X9_leastBend : kM := (⟨"MendedTube", "leastBend", "(I)I"⟩, prog_1_method_71_code, 2, (some .int))
set_option maxRecDepth 20000 in
theorem mv_X9_leastBend : kMV Y_X9_leastBend 1 := ⟨km4 194 rfl rfl, km1 1 rfl rfl, by decide +kernel, ⟨by decide +kernel, by decide +kernel, by decide +kernel⟩, by decide⟩
set_option maxRecDepth 20000 in
theorem st_X9_leastBend : Cond.static Y_X9_leastBend.1 ∈ kTB := km4 193 rfl rfl
abbrev Y_X9_lens : kM := (⟨"MendedTube", "lens", "(IIII)I"⟩, prog_1_method_2_code, 6, (some .int))
set_option maxRecDepth 20000 in
theorem mv_X9_lens : kMV Y_X9_lens 4 := ⟨km2 140 rfl rfl, km1 1 rfl rfl, by decide +kernel, ⟨by decide +kernel, by decide +kernel, by decide +kernel⟩, by decide⟩
set_option maxRecDepth 20000 in
theorem in_X9_lens : Cond.instanceMethod Y_X9_lens.1 ∈ kTB := km2 138 rfl rfl
set_option maxRecDepth 20000 in
theorem se_X9_lens : Cond.selects Y_X9_lens.1.cls Y_X9_lens.1 Y_X9_lens.1 ∈ kTB := km2 139 rfl rfl
abbrev Y_X9_lensOf : kM := (⟨"MendedTube", "lensOf", "(II)I"⟩, prog_1_method_3_code, 3, (some .int))
set_option maxRecDepth 20000 in
theorem mv_X9_lensOf : kMV Y_X9_lensOf 2 := ⟨km2 153 rfl rfl, km1 1 rfl rfl, by decide +kernel, ⟨by decide +kernel, by decide +kernel, by decide +kernel⟩, by decide⟩
set_option maxRecDepth 20000 in
theorem in_X9_lensOf : Cond.instanceMethod Y_X9_lensOf.1 ∈ kTB := km2 151 rfl rfl
set_option maxRecDepth 20000 in
theorem se_X9_lensOf : Cond.selects Y_X9_lensOf.1.cls Y_X9_lensOf.1 Y_X9_lensOf.1 ∈ kTB := km2 152 rfl rfl
abbrev Y_X9_let : kM := (⟨"MendedTube", "let", "(II)I"⟩, prog_1_method_7_code, 3, (some .int))
set_option maxRecDepth 20000 in
theorem mv_X9_let : kMV Y_X9_let 2 := ⟨km2 219 rfl rfl, km1 1 rfl rfl, by decide +kernel, ⟨by decide +kernel, by decide +kernel, by decide +kernel⟩, by decide⟩
set_option maxRecDepth 20000 in
theorem in_X9_let : Cond.instanceMethod Y_X9_let.1 ∈ kTB := km2 217 rfl rfl
set_option maxRecDepth 20000 in
theorem se_X9_let : Cond.selects Y_X9_let.1.cls Y_X9_let.1 Y_X9_let.1 ∈ kTB := km2 218 rfl rfl
abbrev Y_X9_liar : kM := (⟨"MendedTube", "liar", "()I"⟩, prog_1_method_37_code, 2, (some .int))
set_option maxRecDepth 20000 in
theorem mv_X9_liar : kMV Y_X9_liar 0 := ⟨km4 201 rfl rfl, km1 1 rfl rfl, by decide +kernel, ⟨by decide +kernel, by decide +kernel, by decide +kernel⟩, by decide⟩
set_option maxRecDepth 20000 in
theorem in_X9_liar : Cond.instanceMethod Y_X9_liar.1 ∈ kTB := km4 199 rfl rfl
set_option maxRecDepth 20000 in
theorem se_X9_liar : Cond.selects Y_X9_liar.1.cls Y_X9_liar.1 Y_X9_liar.1 ∈ kTB := km4 200 rfl rfl
abbrev Y_X9_many : kM := (⟨"MendedTube", "many", "(I)I"⟩, prog_1_method_54_code, 2, (some .int))
set_option maxRecDepth 20000 in
theorem mv_X9_many : kMV Y_X9_many 1 := ⟨km5 136 rfl rfl, km1 1 rfl rfl, by decide +kernel, ⟨by decide +kernel, by decide +kernel, by decide +kernel⟩, by decide⟩
set_option maxRecDepth 20000 in
theorem in_X9_many : Cond.instanceMethod Y_X9_many.1 ∈ kTB := km5 134 rfl rfl
set_option maxRecDepth 20000 in
theorem se_X9_many : Cond.selects Y_X9_many.1.cls Y_X9_many.1 Y_X9_many.1 ∈ kTB := km5 135 rfl rfl
abbrev Y_X9_mate : kM := (⟨"MendedTube", "mate", "(I)I"⟩, prog_1_method_29_code, 2, (some .int))
set_option maxRecDepth 20000 in
theorem mv_X9_mate : kMV Y_X9_mate 1 := ⟨km4 93 rfl rfl, km1 1 rfl rfl, by decide +kernel, ⟨by decide +kernel, by decide +kernel, by decide +kernel⟩, by decide⟩
set_option maxRecDepth 20000 in
theorem in_X9_mate : Cond.instanceMethod Y_X9_mate.1 ∈ kTB := km4 91 rfl rfl
set_option maxRecDepth 20000 in
theorem se_X9_mate : Cond.selects Y_X9_mate.1.cls Y_X9_mate.1 Y_X9_mate.1 ∈ kTB := km4 92 rfl rfl
abbrev Y_X9_mended : kM := (⟨"MendedTube", "mended", "()I"⟩, prog_1_method_14_code, 1, (some .int))
set_option maxRecDepth 20000 in
theorem mv_X9_mended : kMV Y_X9_mended 0 := ⟨km3 213 rfl rfl, km1 1 rfl rfl, by decide +kernel, ⟨by decide +kernel, by decide +kernel, by decide +kernel⟩, by decide⟩
set_option maxRecDepth 20000 in
theorem in_X9_mended : Cond.instanceMethod Y_X9_mended.1 ∈ kTB := km3 211 rfl rfl
set_option maxRecDepth 20000 in
theorem se_X9_mended : Cond.selects Y_X9_mended.1.cls Y_X9_mended.1 Y_X9_mended.1 ∈ kTB := km3 212 rfl rfl
abbrev Y_X9_often : kM := (⟨"MendedTube", "often", "(I)I"⟩, prog_1_method_40_code, 4, (some .int))
set_option maxRecDepth 20000 in
theorem mv_X9_often : kMV Y_X9_often 1 := ⟨km4 218 rfl rfl, km1 1 rfl rfl, by decide +kernel, ⟨by decide +kernel, by decide +kernel, by decide +kernel⟩, by decide⟩
set_option maxRecDepth 20000 in
theorem in_X9_often : Cond.instanceMethod Y_X9_often.1 ∈ kTB := km4 216 rfl rfl
set_option maxRecDepth 20000 in
theorem se_X9_often : Cond.selects Y_X9_often.1.cls Y_X9_often.1 Y_X9_often.1 ∈ kTB := km4 217 rfl rfl
abbrev Y_X9_pairs : kM := (⟨"MendedTube", "pairs", "()I"⟩, prog_1_method_28_code, 1, (some .int))
set_option maxRecDepth 20000 in
theorem mv_X9_pairs : kMV Y_X9_pairs 0 := ⟨km4 80 rfl rfl, km1 1 rfl rfl, by decide +kernel, ⟨by decide +kernel, by decide +kernel, by decide +kernel⟩, by decide⟩
set_option maxRecDepth 20000 in
theorem in_X9_pairs : Cond.instanceMethod Y_X9_pairs.1 ∈ kTB := km4 78 rfl rfl
set_option maxRecDepth 20000 in
theorem se_X9_pairs : Cond.selects Y_X9_pairs.1.cls Y_X9_pairs.1 Y_X9_pairs.1 ∈ kTB := km4 79 rfl rfl
abbrev Y_X9_pick : kM := (⟨"MendedTube", "pick", "(II)I"⟩, prog_1_method_26_code, 3, (some .int))
set_option maxRecDepth 20000 in
theorem mv_X9_pick : kMV Y_X9_pick 2 := ⟨km4 72 rfl rfl, km1 1 rfl rfl, by decide +kernel, ⟨by decide +kernel, by decide +kernel, by decide +kernel⟩, by decide⟩
set_option maxRecDepth 20000 in
theorem in_X9_pick : Cond.instanceMethod Y_X9_pick.1 ∈ kTB := km4 70 rfl rfl
set_option maxRecDepth 20000 in
theorem se_X9_pick : Cond.selects Y_X9_pick.1.cls Y_X9_pick.1 Y_X9_pick.1 ∈ kTB := km4 71 rfl rfl
abbrev Y_X9_place : kM := (⟨"MendedTube", "place", "(II)I"⟩, prog_1_method_17_code, 3, (some .int))
set_option maxRecDepth 20000 in
theorem mv_X9_place : kMV Y_X9_place 2 := ⟨km3 237 rfl rfl, km1 1 rfl rfl, by decide +kernel, ⟨by decide +kernel, by decide +kernel, by decide +kernel⟩, by decide⟩
set_option maxRecDepth 20000 in
theorem in_X9_place : Cond.instanceMethod Y_X9_place.1 ∈ kTB := km3 235 rfl rfl
set_option maxRecDepth 20000 in
theorem se_X9_place : Cond.selects Y_X9_place.1.cls Y_X9_place.1 Y_X9_place.1 ∈ kTB := km3 236 rfl rfl
abbrev Y_X9_play : kM := (⟨"MendedTube", "play", "(I)I"⟩, prog_1_method_33_code, 2, (some .int))
set_option maxRecDepth 20000 in
theorem mv_X9_play : kMV Y_X9_play 1 := ⟨km4 159 rfl rfl, km1 1 rfl rfl, by decide +kernel, ⟨by decide +kernel, by decide +kernel, by decide +kernel⟩, by decide⟩
set_option maxRecDepth 20000 in
theorem in_X9_play : Cond.instanceMethod Y_X9_play.1 ∈ kTB := km4 157 rfl rfl
set_option maxRecDepth 20000 in
theorem se_X9_play : Cond.selects Y_X9_play.1.cls Y_X9_play.1 Y_X9_play.1 ∈ kTB := km4 158 rfl rfl
abbrev Y_X9_price : kM := (⟨"MendedTube", "price", "()I"⟩, prog_1_method_20_code, 3, (some .int))
set_option maxRecDepth 20000 in
theorem mv_X9_price : kMV Y_X9_price 0 := ⟨km4 13 rfl rfl, km1 1 rfl rfl, by decide +kernel, ⟨by decide +kernel, by decide +kernel, by decide +kernel⟩, by decide⟩
set_option maxRecDepth 20000 in
theorem in_X9_price : Cond.instanceMethod Y_X9_price.1 ∈ kTB := km4 11 rfl rfl
set_option maxRecDepth 20000 in
theorem se_X9_price : Cond.selects Y_X9_price.1.cls Y_X9_price.1 Y_X9_price.1 ∈ kTB := km4 12 rfl rfl
abbrev Y_X9_prove : kM := (⟨"MendedTube", "prove", "(I)I"⟩, prog_1_method_41_code, 3, (some .int))
set_option maxRecDepth 20000 in
theorem mv_X9_prove : kMV Y_X9_prove 1 := ⟨km4 222 rfl rfl, km1 1 rfl rfl, by decide +kernel, ⟨by decide +kernel, by decide +kernel, by decide +kernel⟩, by decide⟩
set_option maxRecDepth 20000 in
theorem in_X9_prove : Cond.instanceMethod Y_X9_prove.1 ∈ kTB := km4 220 rfl rfl
set_option maxRecDepth 20000 in
theorem se_X9_prove : Cond.selects Y_X9_prove.1.cls Y_X9_prove.1 Y_X9_prove.1 ∈ kTB := km4 221 rfl rfl
abbrev Y_X9_putOnShelf : kM := (⟨"MendedTube", "putOnShelf", "(IILMendedTube$Sheet;)I"⟩, prog_1_method_76_code, 4, (some .int))
set_option maxRecDepth 20000 in
theorem mv_X9_putOnShelf : kMV Y_X9_putOnShelf 3 := ⟨km5 72 rfl rfl, km1 1 rfl rfl, by decide +kernel, ⟨by decide +kernel, by decide +kernel, by decide +kernel⟩, by decide⟩
set_option maxRecDepth 20000 in
theorem in_X9_putOnShelf : Cond.instanceMethod Y_X9_putOnShelf.1 ∈ kTB := km5 71 rfl rfl
set_option maxRecDepth 20000 in
theorem se_X9_putOnShelf : Cond.selects Y_X9_putOnShelf.1.cls Y_X9_putOnShelf.1 Y_X9_putOnShelf.1 ∈ kTB := km0 64 rfl rfl
abbrev Y_X9_remake : kM := (⟨"MendedTube", "remake", "(II)I"⟩, prog_1_method_5_code, 4, (some .int))
set_option maxRecDepth 20000 in
theorem mv_X9_remake : kMV Y_X9_remake 2 := ⟨km2 211 rfl rfl, km1 1 rfl rfl, by decide +kernel, ⟨by decide +kernel, by decide +kernel, by decide +kernel⟩, by decide⟩
set_option maxRecDepth 20000 in
theorem in_X9_remake : Cond.instanceMethod Y_X9_remake.1 ∈ kTB := km2 209 rfl rfl
set_option maxRecDepth 20000 in
theorem se_X9_remake : Cond.selects Y_X9_remake.1.cls Y_X9_remake.1 Y_X9_remake.1 ∈ kTB := km2 210 rfl rfl
abbrev Y_X9_report : kM := (⟨"MendedTube", "report", "(II)I"⟩, prog_1_method_34_code, 4, (some .int))
set_option maxRecDepth 20000 in
theorem mv_X9_report : kMV Y_X9_report 2 := ⟨km4 167 rfl rfl, km1 1 rfl rfl, by decide +kernel, ⟨by decide +kernel, by decide +kernel, by decide +kernel⟩, by decide⟩
set_option maxRecDepth 20000 in
theorem in_X9_report : Cond.instanceMethod Y_X9_report.1 ∈ kTB := km4 165 rfl rfl
set_option maxRecDepth 20000 in
theorem se_X9_report : Cond.selects Y_X9_report.1.cls Y_X9_report.1 Y_X9_report.1 ∈ kTB := km4 166 rfl rfl
abbrev Y_X9_row : kM := (⟨"MendedTube", "row", "(II)I"⟩, prog_1_method_42_code, 3, (some .int))
set_option maxRecDepth 20000 in
theorem mv_X9_row : kMV Y_X9_row 2 := ⟨km4 235 rfl rfl, km1 1 rfl rfl, by decide +kernel, ⟨by decide +kernel, by decide +kernel, by decide +kernel⟩, by decide⟩
set_option maxRecDepth 20000 in
theorem in_X9_row : Cond.instanceMethod Y_X9_row.1 ∈ kTB := km4 233 rfl rfl
set_option maxRecDepth 20000 in
theorem se_X9_row : Cond.selects Y_X9_row.1.cls Y_X9_row.1 Y_X9_row.1 ∈ kTB := km4 234 rfl rfl
abbrev Y_X9_rules : kM := (⟨"MendedTube", "rules", "()I"⟩, prog_1_method_9_code, 2, (some .int))
set_option maxRecDepth 20000 in
theorem mv_X9_rules : kMV Y_X9_rules 0 := ⟨km2 235 rfl rfl, km1 1 rfl rfl, by decide +kernel, ⟨by decide +kernel, by decide +kernel, by decide +kernel⟩, by decide⟩
set_option maxRecDepth 20000 in
theorem in_X9_rules : Cond.instanceMethod Y_X9_rules.1 ∈ kTB := km2 233 rfl rfl
set_option maxRecDepth 20000 in
theorem se_X9_rules : Cond.selects Y_X9_rules.1.cls Y_X9_rules.1 Y_X9_rules.1 ∈ kTB := km2 234 rfl rfl
abbrev Y_X9_seed : kM := (⟨"MendedTube", "seed", "(I)I"⟩, prog_1_method_38_code, 3, (some .int))
set_option maxRecDepth 20000 in
theorem mv_X9_seed : kMV Y_X9_seed 1 := ⟨km4 205 rfl rfl, km1 1 rfl rfl, by decide +kernel, ⟨by decide +kernel, by decide +kernel, by decide +kernel⟩, by decide⟩
set_option maxRecDepth 20000 in
theorem in_X9_seed : Cond.instanceMethod Y_X9_seed.1 ∈ kTB := km4 203 rfl rfl
set_option maxRecDepth 20000 in
theorem se_X9_seed : Cond.selects Y_X9_seed.1.cls Y_X9_seed.1 Y_X9_seed.1 ∈ kTB := km4 204 rfl rfl
abbrev Y_X9_seen : kM := (⟨"MendedTube", "seen", "(I)I"⟩, prog_1_method_10_code, 2, (some .int))
set_option maxRecDepth 20000 in
theorem mv_X9_seen : kMV Y_X9_seen 1 := ⟨km3 148 rfl rfl, km1 1 rfl rfl, by decide +kernel, ⟨by decide +kernel, by decide +kernel, by decide +kernel⟩, by decide⟩
set_option maxRecDepth 20000 in
theorem in_X9_seen : Cond.instanceMethod Y_X9_seen.1 ∈ kTB := km3 146 rfl rfl
set_option maxRecDepth 20000 in
theorem se_X9_seen : Cond.selects Y_X9_seen.1.cls Y_X9_seen.1 Y_X9_seen.1 ∈ kTB := km3 147 rfl rfl
abbrev Y_X9_setting : kM := (⟨"MendedTube", "setting", "(I)I"⟩, prog_1_method_6_code, 2, (some .int))
set_option maxRecDepth 20000 in
theorem mv_X9_setting : kMV Y_X9_setting 1 := ⟨km2 215 rfl rfl, km1 1 rfl rfl, by decide +kernel, ⟨by decide +kernel, by decide +kernel, by decide +kernel⟩, by decide⟩
set_option maxRecDepth 20000 in
theorem in_X9_setting : Cond.instanceMethod Y_X9_setting.1 ∈ kTB := km2 213 rfl rfl
set_option maxRecDepth 20000 in
theorem se_X9_setting : Cond.selects Y_X9_setting.1.cls Y_X9_setting.1 Y_X9_setting.1 ∈ kTB := km2 214 rfl rfl
abbrev Y_X9_sheet : kM := (⟨"MendedTube", "sheet", "(III)I"⟩, prog_1_method_45_code, 4, (some .int))
set_option maxRecDepth 20000 in
theorem mv_X9_sheet : kMV Y_X9_sheet 3 := ⟨km5 15 rfl rfl, km1 1 rfl rfl, by decide +kernel, ⟨by decide +kernel, by decide +kernel, by decide +kernel⟩, by decide⟩
set_option maxRecDepth 20000 in
theorem in_X9_sheet : Cond.instanceMethod Y_X9_sheet.1 ∈ kTB := km5 13 rfl rfl
set_option maxRecDepth 20000 in
theorem se_X9_sheet : Cond.selects Y_X9_sheet.1.cls Y_X9_sheet.1 Y_X9_sheet.1 ∈ kTB := km5 14 rfl rfl
abbrev Y_X9_shelf : kM := (⟨"MendedTube", "shelf", "(III)I"⟩, prog_1_method_50_code, 4, (some .int))
set_option maxRecDepth 20000 in
theorem mv_X9_shelf : kMV Y_X9_shelf 3 := ⟨km5 65 rfl rfl, km1 1 rfl rfl, by decide +kernel, ⟨by decide +kernel, by decide +kernel, by decide +kernel⟩, by decide⟩
set_option maxRecDepth 20000 in
theorem in_X9_shelf : Cond.instanceMethod Y_X9_shelf.1 ∈ kTB := km5 63 rfl rfl
set_option maxRecDepth 20000 in
theorem se_X9_shelf : Cond.selects Y_X9_shelf.1.cls Y_X9_shelf.1 Y_X9_shelf.1 ∈ kTB := km5 64 rfl rfl
abbrev Y_X9_shift : kM := (⟨"MendedTube", "shift", "()I"⟩, prog_1_method_11_code, 1, (some .int))
set_option maxRecDepth 20000 in
theorem mv_X9_shift : kMV Y_X9_shift 0 := ⟨km3 184 rfl rfl, km1 1 rfl rfl, by decide +kernel, ⟨by decide +kernel, by decide +kernel, by decide +kernel⟩, by decide⟩
set_option maxRecDepth 20000 in
theorem in_X9_shift : Cond.instanceMethod Y_X9_shift.1 ∈ kTB := km3 182 rfl rfl
set_option maxRecDepth 20000 in
theorem se_X9_shift : Cond.selects Y_X9_shift.1.cls Y_X9_shift.1 Y_X9_shift.1 ∈ kTB := km3 183 rfl rfl
abbrev Y_X9_shine : kM := (⟨"MendedTube", "shine", "()V"⟩, prog_1_method_67_code, 1, none)
set_option maxRecDepth 20000 in
theorem mv_X9_shine : kMV Y_X9_shine 0 := ⟨km3 152 rfl rfl, km1 1 rfl rfl, by decide +kernel, ⟨by decide +kernel, by decide +kernel, by decide +kernel⟩, by decide⟩
set_option maxRecDepth 20000 in
theorem in_X9_shine : Cond.instanceMethod Y_X9_shine.1 ∈ kTB := km3 151 rfl rfl
set_option maxRecDepth 20000 in
theorem se_X9_shine : Cond.selects Y_X9_shine.1.cls Y_X9_shine.1 Y_X9_shine.1 ∈ kTB := km0 24 rfl rfl
abbrev Y_X9_span : kM := (⟨"MendedTube", "span", "(I)I"⟩, prog_1_method_36_code, 3, (some .int))
set_option maxRecDepth 20000 in
theorem mv_X9_span : kMV Y_X9_span 1 := ⟨km4 175 rfl rfl, km1 1 rfl rfl, by decide +kernel, ⟨by decide +kernel, by decide +kernel, by decide +kernel⟩, by decide⟩
set_option maxRecDepth 20000 in
theorem in_X9_span : Cond.instanceMethod Y_X9_span.1 ∈ kTB := km4 173 rfl rfl
set_option maxRecDepth 20000 in
theorem se_X9_span : Cond.selects Y_X9_span.1.cls Y_X9_span.1 Y_X9_span.1 ∈ kTB := km4 174 rfl rfl
abbrev Y_X9_spread : kM := (⟨"MendedTube", "spread", "(III)I"⟩, prog_1_method_49_code, 9, (some .int))
set_option maxRecDepth 20000 in
theorem mv_X9_spread : kMV Y_X9_spread 3 := ⟨km5 61 rfl rfl, km1 1 rfl rfl, by decide +kernel, ⟨by decide +kernel, by decide +kernel, by decide +kernel⟩, by decide⟩
set_option maxRecDepth 20000 in
theorem in_X9_spread : Cond.instanceMethod Y_X9_spread.1 ∈ kTB := km5 59 rfl rfl
set_option maxRecDepth 20000 in
theorem se_X9_spread : Cond.selects Y_X9_spread.1.cls Y_X9_spread.1 Y_X9_spread.1 ∈ kTB := km5 60 rfl rfl
abbrev Y_X9_store : kM := (⟨"MendedTube", "store", "([III)I"⟩, prog_1_method_66_code, 3, (some .int))
set_option maxRecDepth 20000 in
theorem mv_X9_store : kMV Y_X9_store 3 := ⟨km2 207 rfl rfl, km1 1 rfl rfl, by decide +kernel, ⟨by decide +kernel, by decide +kernel, by decide +kernel⟩, by decide⟩
set_option maxRecDepth 20000 in
theorem st_X9_store : Cond.static Y_X9_store.1 ∈ kTB := km2 206 rfl rfl
abbrev Y_X9_take : kM := (⟨"MendedTube", "take", "(I)I"⟩, prog_1_method_16_code, 4, (some .int))
set_option maxRecDepth 20000 in
theorem mv_X9_take : kMV Y_X9_take 1 := ⟨km3 229 rfl rfl, km1 1 rfl rfl, by decide +kernel, ⟨by decide +kernel, by decide +kernel, by decide +kernel⟩, by decide⟩
set_option maxRecDepth 20000 in
theorem in_X9_take : Cond.instanceMethod Y_X9_take.1 ∈ kTB := km3 227 rfl rfl
set_option maxRecDepth 20000 in
theorem se_X9_take : Cond.selects Y_X9_take.1.cls Y_X9_take.1 Y_X9_take.1 ∈ kTB := km3 228 rfl rfl
abbrev Y_X9_taken : kM := (⟨"MendedTube", "taken", "(II)I"⟩, prog_1_method_51_code, 6, (some .int))
set_option maxRecDepth 20000 in
theorem mv_X9_taken : kMV Y_X9_taken 2 := ⟨km5 76 rfl rfl, km1 1 rfl rfl, by decide +kernel, ⟨by decide +kernel, by decide +kernel, by decide +kernel⟩, by decide⟩
set_option maxRecDepth 20000 in
theorem in_X9_taken : Cond.instanceMethod Y_X9_taken.1 ∈ kTB := km5 74 rfl rfl
set_option maxRecDepth 20000 in
theorem se_X9_taken : Cond.selects Y_X9_taken.1.cls Y_X9_taken.1 Y_X9_taken.1 ∈ kTB := km5 75 rfl rfl
abbrev Y_X9_trace : kM := (⟨"MendedTube", "trace", "(I)I"⟩, prog_1_method_53_code, 2, (some .int))
set_option maxRecDepth 20000 in
theorem mv_X9_trace : kMV Y_X9_trace 1 := ⟨km5 132 rfl rfl, km1 1 rfl rfl, by decide +kernel, ⟨by decide +kernel, by decide +kernel, by decide +kernel⟩, by decide⟩
set_option maxRecDepth 20000 in
theorem in_X9_trace : Cond.instanceMethod Y_X9_trace.1 ∈ kTB := km5 130 rfl rfl
set_option maxRecDepth 20000 in
theorem se_X9_trace : Cond.selects Y_X9_trace.1.cls Y_X9_trace.1 Y_X9_trace.1 ∈ kTB := km5 131 rfl rfl
abbrev Y_X9_turn : kM := (⟨"MendedTube", "turn", "(II)I"⟩, prog_1_method_18_code, 4, (some .int))
set_option maxRecDepth 20000 in
theorem mv_X9_turn : kMV Y_X9_turn 2 := ⟨km4 1 rfl rfl, km1 1 rfl rfl, by decide +kernel, ⟨by decide +kernel, by decide +kernel, by decide +kernel⟩, by decide⟩
set_option maxRecDepth 20000 in
theorem in_X9_turn : Cond.instanceMethod Y_X9_turn.1 ∈ kTB := km3 239 rfl rfl
set_option maxRecDepth 20000 in
theorem se_X9_turn : Cond.selects Y_X9_turn.1.cls Y_X9_turn.1 Y_X9_turn.1 ∈ kTB := km4 0 rfl rfl
abbrev Y_X9_turned : kM := (⟨"MendedTube", "turned", "(I)I"⟩, prog_1_method_31_code, 2, (some .int))
set_option maxRecDepth 20000 in
theorem mv_X9_turned : kMV Y_X9_turned 1 := ⟨km4 128 rfl rfl, km1 1 rfl rfl, by decide +kernel, ⟨by decide +kernel, by decide +kernel, by decide +kernel⟩, by decide⟩
set_option maxRecDepth 20000 in
theorem in_X9_turned : Cond.instanceMethod Y_X9_turned.1 ∈ kTB := km4 126 rfl rfl
set_option maxRecDepth 20000 in
theorem se_X9_turned : Cond.selects Y_X9_turned.1.cls Y_X9_turned.1 Y_X9_turned.1 ∈ kTB := km4 127 rfl rfl
abbrev Y_X9_write : kM := (⟨"MendedTube", "write", "(III)I"⟩, prog_1_method_46_code, 5, (some .int))
set_option maxRecDepth 20000 in
theorem mv_X9_write : kMV Y_X9_write 3 := ⟨km5 39 rfl rfl, km1 1 rfl rfl, by decide +kernel, ⟨by decide +kernel, by decide +kernel, by decide +kernel⟩, by decide⟩
set_option maxRecDepth 20000 in
theorem in_X9_write : Cond.instanceMethod Y_X9_write.1 ∈ kTB := km5 37 rfl rfl
set_option maxRecDepth 20000 in
theorem se_X9_write : Cond.selects Y_X9_write.1.cls Y_X9_write.1 Y_X9_write.1 ∈ kTB := km5 38 rfl rfl
abbrev Y_X9_wrong : kM := (⟨"MendedTube", "wrong", "()I"⟩, prog_1_method_13_code, 1, (some .int))
set_option maxRecDepth 20000 in
theorem mv_X9_wrong : kMV Y_X9_wrong 0 := ⟨km3 203 rfl rfl, km1 1 rfl rfl, by decide +kernel, ⟨by decide +kernel, by decide +kernel, by decide +kernel⟩, by decide⟩
set_option maxRecDepth 20000 in
theorem in_X9_wrong : Cond.instanceMethod Y_X9_wrong.1 ∈ kTB := km3 201 rfl rfl
set_option maxRecDepth 20000 in
theorem se_X9_wrong : Cond.selects Y_X9_wrong.1.cls Y_X9_wrong.1 Y_X9_wrong.1 ∈ kTB := km3 202 rfl rfl
abbrev Y_X9_years : kM := (⟨"MendedTube", "years", "()I"⟩, prog_1_method_30_code, 1, (some .int))
set_option maxRecDepth 20000 in
theorem mv_X9_years : kMV Y_X9_years 0 := ⟨km4 97 rfl rfl, km1 1 rfl rfl, by decide +kernel, ⟨by decide +kernel, by decide +kernel, by decide +kernel⟩, by decide⟩
set_option maxRecDepth 20000 in
theorem in_X9_years : Cond.instanceMethod Y_X9_years.1 ∈ kTB := km4 95 rfl rfl
set_option maxRecDepth 20000 in
theorem se_X9_years : Cond.selects Y_X9_years.1.cls Y_X9_years.1 Y_X9_years.1 ∈ kTB := km4 96 rfl rfl
