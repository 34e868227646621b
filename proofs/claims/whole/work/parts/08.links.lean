-- links
set_option maxRecDepth 20000 in
theorem ini_L : Cond.initialized "MendedTubeLaw" ∈ kTB := km1 0 rfl rfl
set_option maxRecDepth 20000 in
theorem ini_X9 : Cond.initialized "MendedTube" ∈ kTB := km1 1 rfl rfl
set_option maxRecDepth 20000 in
theorem ini_X1 : Cond.initialized "MendedTube$Bench" ∈ kTB := km1 2 rfl rfl
set_option maxRecDepth 20000 in
theorem ini_X6 : Cond.initialized "MendedTube$Rules" ∈ kTB := km1 3 rfl rfl
set_option maxRecDepth 20000 in
theorem ini_X8 : Cond.initialized "MendedTube$Text" ∈ kTB := km1 4 rfl rfl
set_option maxRecDepth 20000 in
theorem ini_X5 : Cond.initialized "MendedTube$Light" ∈ kTB := km1 5 rfl rfl
set_option maxRecDepth 20000 in
theorem ini_X4 : Cond.initialized "MendedTube$Heap" ∈ kTB := km1 6 rfl rfl
set_option maxRecDepth 20000 in
theorem ini_X2 : Cond.initialized "MendedTube$Contest" ∈ kTB := km1 7 rfl rfl
set_option maxRecDepth 20000 in
theorem ini_X0 : Cond.initialized "MendedTube$Ageing" ∈ kTB := km1 8 rfl rfl
set_option maxRecDepth 20000 in
theorem ini_X3 : Cond.initialized "MendedTube$Deed" ∈ kTB := km1 9 rfl rfl
set_option maxRecDepth 20000 in
theorem ini_J7 : Cond.initialized "java/util/Arrays" ∈ kTB := km1 10 rfl rfl
set_option maxRecDepth 20000 in
theorem ini_X10 : Cond.initialized "MendedTubeModel" ∈ kTB := km1 11 rfl rfl
set_option maxRecDepth 20000 in
theorem ini_J10 : Cond.initialized "java/lang/System" ∈ kTB := km1 12 rfl rfl
set_option maxRecDepth 20000 in
theorem ini_J9 : Cond.initialized "java/lang/Math" ∈ kTB := km1 13 rfl rfl
set_option maxRecDepth 20000 in
theorem ini_J0 : Cond.initialized "java/lang/String" ∈ kTB := km1 14 rfl rfl
set_option maxRecDepth 20000 in
theorem ini_J1 : Cond.initialized "java/lang/StringLatin1" ∈ kTB := km1 15 rfl rfl
set_option maxRecDepth 20000 in
theorem ini_J3 : Cond.initialized "jdk/internal/util/Preconditions" ∈ kTB := km1 16 rfl rfl
set_option maxRecDepth 20000 in
theorem ini_J2 : Cond.initialized "java/lang/StringUTF16" ∈ kTB := km1 17 rfl rfl
set_option maxRecDepth 20000 in
theorem ini_J6 : Cond.initialized "java/lang/Integer" ∈ kTB := km1 18 rfl rfl
set_option maxRecDepth 20000 in
theorem ini_X7 : Cond.initialized "MendedTube$Sheet" ∈ kTB := km1 19 rfl rfl
set_option maxRecDepth 20000 in
theorem nw_L_7 : Cond.classLink "MendedTubeLaw" 7 "MendedTube" ∈ kTB := km1 20 rfl rfl
set_option maxRecDepth 20000 in
theorem ins_X9 : Cond.instantiable "MendedTube" 16 ∈ kTB := km1 21 rfl rfl
theorem lk_L_9 : kLk "MendedTubeLaw" 9 Y_X9_init := Or.inl (km1 22 rfl rfl)
set_option maxRecDepth 20000 in
theorem nw_X9_9 : Cond.classLink "MendedTube" 9 "MendedTube$Bench" ∈ kTB := km1 28 rfl rfl
set_option maxRecDepth 20000 in
theorem ins_X1 : Cond.instantiable "MendedTube$Bench" 14 ∈ kTB := km1 29 rfl rfl
set_option maxRecDepth 20000 in
theorem lk_X9_11 : kLk "MendedTube" 11 Y_X1_init := Or.inr ⟨"MendedTube", kmN1 30 rfl rfl⟩
set_option maxRecDepth 20000 in
theorem nw_X1_27 : Cond.classLink "MendedTube$Bench" 27 "MendedTube$Rules" ∈ kTB := km1 34 rfl rfl
set_option maxRecDepth 20000 in
theorem ins_X6 : Cond.instantiable "MendedTube$Rules" 2 ∈ kTB := km1 35 rfl rfl
set_option maxRecDepth 20000 in
theorem lk_X1_29 : kLk "MendedTube$Bench" 29 Y_X6_init := Or.inr ⟨"MendedTube", kmN1 36 rfl rfl⟩
theorem gf_X6_7 : kGF "MendedTube$Rules" 7 6 0 := ⟨(RX6, TX6, 2), rfl, by decide, Or.inl (km1 40 rfl rfl)⟩
set_option maxRecDepth 20000 in
theorem gi_X6_7 : kGI "MendedTube$Rules" 7 6 0 := ⟨(RX6, TX6, 2), rfl, by decide, rfl, rfl, km1 40 rfl rfl⟩
set_option maxRecDepth 20000 in
theorem gf_X9_163 : kGF "MendedTube" 163 6 0 := ⟨(RX6, TX6, 2), rfl, by decide, Or.inr ⟨"MendedTube", kmN1 41 rfl rfl⟩⟩
theorem gf_X6_13 : kGF "MendedTube$Rules" 13 6 1 := ⟨(RX6, TX6, 2), rfl, by decide, Or.inl (km1 42 rfl rfl)⟩
set_option maxRecDepth 20000 in
theorem gi_X6_13 : kGI "MendedTube$Rules" 13 6 1 := ⟨(RX6, TX6, 2), rfl, by decide, rfl, rfl, km1 42 rfl rfl⟩
set_option maxRecDepth 20000 in
theorem ac_int : Cond.arrayClass .int ∈ kTB := km1 48 rfl rfl
theorem gf_X1_52 : kGF "MendedTube$Bench" 52 1 0 := ⟨(RX1, TX1, 14), rfl, by decide, Or.inl (km1 49 rfl rfl)⟩
theorem gp_X1_52 : kGP "MendedTube$Bench" 52 1 0 := ⟨(RX1, TX1, 14), rfl, by decide, rfl, Or.inl (km1 49 rfl rfl)⟩
set_option maxRecDepth 20000 in
theorem gf_X4_43 : kGF "MendedTube$Heap" 43 1 0 := ⟨(RX1, TX1, 14), rfl, by decide, Or.inr ⟨"MendedTube", kmN1 50 rfl rfl⟩⟩
set_option maxRecDepth 20000 in
theorem gp_X4_43 : kGP "MendedTube$Heap" 43 1 0 := ⟨(RX1, TX1, 14), rfl, by decide, rfl, Or.inr ⟨"MendedTube", kmN1 50 rfl rfl⟩⟩
set_option maxRecDepth 20000 in
theorem gf_X2_24 : kGF "MendedTube$Contest" 24 1 0 := ⟨(RX1, TX1, 14), rfl, by decide, Or.inr ⟨"MendedTube", kmN1 51 rfl rfl⟩⟩
set_option maxRecDepth 20000 in
theorem gp_X2_24 : kGP "MendedTube$Contest" 24 1 0 := ⟨(RX1, TX1, 14), rfl, by decide, rfl, Or.inr ⟨"MendedTube", kmN1 51 rfl rfl⟩⟩
set_option maxRecDepth 20000 in
theorem gf_X9_102 : kGF "MendedTube" 102 1 0 := ⟨(RX1, TX1, 14), rfl, by decide, Or.inr ⟨"MendedTube", kmN1 52 rfl rfl⟩⟩
set_option maxRecDepth 20000 in
theorem gp_X9_102 : kGP "MendedTube" 102 1 0 := ⟨(RX1, TX1, 14), rfl, by decide, rfl, Or.inr ⟨"MendedTube", kmN1 52 rfl rfl⟩⟩
set_option maxRecDepth 20000 in
theorem gf_X5_57 : kGF "MendedTube$Light" 57 1 0 := ⟨(RX1, TX1, 14), rfl, by decide, Or.inr ⟨"MendedTube", kmN1 53 rfl rfl⟩⟩
set_option maxRecDepth 20000 in
theorem gp_X5_57 : kGP "MendedTube$Light" 57 1 0 := ⟨(RX1, TX1, 14), rfl, by decide, rfl, Or.inr ⟨"MendedTube", kmN1 53 rfl rfl⟩⟩
theorem gf_X1_9 : kGF "MendedTube$Bench" 9 1 1 := ⟨(RX1, TX1, 14), rfl, by decide, Or.inl (km1 54 rfl rfl)⟩
set_option maxRecDepth 20000 in
theorem gi_X1_9 : kGI "MendedTube$Bench" 9 1 1 := ⟨(RX1, TX1, 14), rfl, by decide, rfl, rfl, km1 54 rfl rfl⟩
set_option maxRecDepth 20000 in
theorem gf_X9_106 : kGF "MendedTube" 106 1 1 := ⟨(RX1, TX1, 14), rfl, by decide, Or.inr ⟨"MendedTube", kmN1 55 rfl rfl⟩⟩
set_option maxRecDepth 20000 in
theorem gf_X5_63 : kGF "MendedTube$Light" 63 1 1 := ⟨(RX1, TX1, 14), rfl, by decide, Or.inr ⟨"MendedTube", kmN1 56 rfl rfl⟩⟩
theorem gf_X1_15 : kGF "MendedTube$Bench" 15 1 2 := ⟨(RX1, TX1, 14), rfl, by decide, Or.inl (km1 57 rfl rfl)⟩
set_option maxRecDepth 20000 in
theorem gi_X1_15 : kGI "MendedTube$Bench" 15 1 2 := ⟨(RX1, TX1, 14), rfl, by decide, rfl, rfl, km1 57 rfl rfl⟩
set_option maxRecDepth 20000 in
theorem gf_X9_109 : kGF "MendedTube" 109 1 2 := ⟨(RX1, TX1, 14), rfl, by decide, Or.inr ⟨"MendedTube", kmN1 58 rfl rfl⟩⟩
set_option maxRecDepth 20000 in
theorem gf_X5_60 : kGF "MendedTube$Light" 60 1 2 := ⟨(RX1, TX1, 14), rfl, by decide, Or.inr ⟨"MendedTube", kmN1 59 rfl rfl⟩⟩
theorem gf_X1_18 : kGF "MendedTube$Bench" 18 1 3 := ⟨(RX1, TX1, 14), rfl, by decide, Or.inl (km1 60 rfl rfl)⟩
set_option maxRecDepth 20000 in
theorem gi_X1_18 : kGI "MendedTube$Bench" 18 1 3 := ⟨(RX1, TX1, 14), rfl, by decide, rfl, rfl, km1 60 rfl rfl⟩
set_option maxRecDepth 20000 in
theorem gf_X5_56 : kGF "MendedTube$Light" 56 1 3 := ⟨(RX1, TX1, 14), rfl, by decide, Or.inr ⟨"MendedTube", kmN1 61 rfl rfl⟩⟩
set_option maxRecDepth 20000 in
theorem gf_X9_112 : kGF "MendedTube" 112 1 3 := ⟨(RX1, TX1, 14), rfl, by decide, Or.inr ⟨"MendedTube", kmN1 62 rfl rfl⟩⟩
theorem gf_X1_21 : kGF "MendedTube$Bench" 21 1 4 := ⟨(RX1, TX1, 14), rfl, by decide, Or.inl (km1 63 rfl rfl)⟩
set_option maxRecDepth 20000 in
theorem gi_X1_21 : kGI "MendedTube$Bench" 21 1 4 := ⟨(RX1, TX1, 14), rfl, by decide, rfl, rfl, km1 63 rfl rfl⟩
set_option maxRecDepth 20000 in
theorem gf_X9_115 : kGF "MendedTube" 115 1 4 := ⟨(RX1, TX1, 14), rfl, by decide, Or.inr ⟨"MendedTube", kmN1 64 rfl rfl⟩⟩
theorem gf_X1_24 : kGF "MendedTube$Bench" 24 1 5 := ⟨(RX1, TX1, 14), rfl, by decide, Or.inl (km1 65 rfl rfl)⟩
set_option maxRecDepth 20000 in
theorem gi_X1_24 : kGI "MendedTube$Bench" 24 1 5 := ⟨(RX1, TX1, 14), rfl, by decide, rfl, rfl, km1 65 rfl rfl⟩
set_option maxRecDepth 20000 in
theorem gf_X5_35 : kGF "MendedTube$Light" 35 1 5 := ⟨(RX1, TX1, 14), rfl, by decide, Or.inr ⟨"MendedTube", kmN1 66 rfl rfl⟩⟩
set_option maxRecDepth 20000 in
theorem gf_X0_30 : kGF "MendedTube$Ageing" 30 1 5 := ⟨(RX1, TX1, 14), rfl, by decide, Or.inr ⟨"MendedTube", kmN1 67 rfl rfl⟩⟩
set_option maxRecDepth 20000 in
theorem gf_X9_136 : kGF "MendedTube" 136 1 5 := ⟨(RX1, TX1, 14), rfl, by decide, Or.inr ⟨"MendedTube", kmN1 68 rfl rfl⟩⟩
theorem gf_X1_32 : kGF "MendedTube$Bench" 32 1 6 := ⟨(RX1, TX1, 14), rfl, by decide, Or.inl (km1 69 rfl rfl)⟩
theorem gp_X1_32 : kGP "MendedTube$Bench" 32 1 6 := ⟨(RX1, TX1, 14), rfl, by decide, rfl, Or.inl (km1 69 rfl rfl)⟩
set_option maxRecDepth 20000 in
theorem gf_X5_66 : kGF "MendedTube$Light" 66 1 6 := ⟨(RX1, TX1, 14), rfl, by decide, Or.inr ⟨"MendedTube", kmN1 70 rfl rfl⟩⟩
set_option maxRecDepth 20000 in
theorem gp_X5_66 : kGP "MendedTube$Light" 66 1 6 := ⟨(RX1, TX1, 14), rfl, by decide, rfl, Or.inr ⟨"MendedTube", kmN1 70 rfl rfl⟩⟩
set_option maxRecDepth 20000 in
theorem gf_X9_159 : kGF "MendedTube" 159 1 6 := ⟨(RX1, TX1, 14), rfl, by decide, Or.inr ⟨"MendedTube", kmN1 71 rfl rfl⟩⟩
set_option maxRecDepth 20000 in
theorem gp_X9_159 : kGP "MendedTube" 159 1 6 := ⟨(RX1, TX1, 14), rfl, by decide, rfl, Or.inr ⟨"MendedTube", kmN1 71 rfl rfl⟩⟩
set_option maxRecDepth 20000 in
theorem gf_X2_31 : kGF "MendedTube$Contest" 31 1 7 := ⟨(RX1, TX1, 14), rfl, by decide, Or.inr ⟨"MendedTube", kmN1 72 rfl rfl⟩⟩
set_option maxRecDepth 20000 in
theorem gp_X2_31 : kGP "MendedTube$Contest" 31 1 7 := ⟨(RX1, TX1, 14), rfl, by decide, rfl, Or.inr ⟨"MendedTube", kmN1 72 rfl rfl⟩⟩
theorem gf_X1_59 : kGF "MendedTube$Bench" 59 1 7 := ⟨(RX1, TX1, 14), rfl, by decide, Or.inl (km1 73 rfl rfl)⟩
theorem gp_X1_59 : kGP "MendedTube$Bench" 59 1 7 := ⟨(RX1, TX1, 14), rfl, by decide, rfl, Or.inl (km1 73 rfl rfl)⟩
set_option maxRecDepth 20000 in
theorem gf_X0_55 : kGF "MendedTube$Ageing" 55 1 7 := ⟨(RX1, TX1, 14), rfl, by decide, Or.inr ⟨"MendedTube", kmN1 74 rfl rfl⟩⟩
set_option maxRecDepth 20000 in
theorem gp_X0_55 : kGP "MendedTube$Ageing" 55 1 7 := ⟨(RX1, TX1, 14), rfl, by decide, rfl, Or.inr ⟨"MendedTube", kmN1 74 rfl rfl⟩⟩
set_option maxRecDepth 20000 in
theorem gf_X5_91 : kGF "MendedTube$Light" 91 1 7 := ⟨(RX1, TX1, 14), rfl, by decide, Or.inr ⟨"MendedTube", kmN1 75 rfl rfl⟩⟩
set_option maxRecDepth 20000 in
theorem gp_X5_91 : kGP "MendedTube$Light" 91 1 7 := ⟨(RX1, TX1, 14), rfl, by decide, rfl, Or.inr ⟨"MendedTube", kmN1 75 rfl rfl⟩⟩
set_option maxRecDepth 20000 in
theorem gf_X9_191 : kGF "MendedTube" 191 1 7 := ⟨(RX1, TX1, 14), rfl, by decide, Or.inr ⟨"MendedTube", kmN1 76 rfl rfl⟩⟩
set_option maxRecDepth 20000 in
theorem gp_X9_191 : kGP "MendedTube" 191 1 7 := ⟨(RX1, TX1, 14), rfl, by decide, rfl, Or.inr ⟨"MendedTube", kmN1 76 rfl rfl⟩⟩
theorem gf_X1_36 : kGF "MendedTube$Bench" 36 1 8 := ⟨(RX1, TX1, 14), rfl, by decide, Or.inl (km1 77 rfl rfl)⟩
set_option maxRecDepth 20000 in
theorem gi_X1_36 : kGI "MendedTube$Bench" 36 1 8 := ⟨(RX1, TX1, 14), rfl, by decide, rfl, rfl, km1 77 rfl rfl⟩
set_option maxRecDepth 20000 in
theorem gf_X2_38 : kGF "MendedTube$Contest" 38 1 8 := ⟨(RX1, TX1, 14), rfl, by decide, Or.inr ⟨"MendedTube", kmN1 78 rfl rfl⟩⟩
set_option maxRecDepth 20000 in
theorem gf_X0_73 : kGF "MendedTube$Ageing" 73 1 8 := ⟨(RX1, TX1, 14), rfl, by decide, Or.inr ⟨"MendedTube", kmN1 79 rfl rfl⟩⟩
set_option maxRecDepth 20000 in
theorem gf_X5_98 : kGF "MendedTube$Light" 98 1 8 := ⟨(RX1, TX1, 14), rfl, by decide, Or.inr ⟨"MendedTube", kmN1 80 rfl rfl⟩⟩
set_option maxRecDepth 20000 in
theorem gf_X9_194 : kGF "MendedTube" 194 1 8 := ⟨(RX1, TX1, 14), rfl, by decide, Or.inr ⟨"MendedTube", kmN1 81 rfl rfl⟩⟩
theorem gf_X1_39 : kGF "MendedTube$Bench" 39 1 9 := ⟨(RX1, TX1, 14), rfl, by decide, Or.inl (km1 82 rfl rfl)⟩
set_option maxRecDepth 20000 in
theorem gi_X1_39 : kGI "MendedTube$Bench" 39 1 9 := ⟨(RX1, TX1, 14), rfl, by decide, rfl, rfl, km1 82 rfl rfl⟩
set_option maxRecDepth 20000 in
theorem gf_X0_59 : kGF "MendedTube$Ageing" 59 1 9 := ⟨(RX1, TX1, 14), rfl, by decide, Or.inr ⟨"MendedTube", kmN1 83 rfl rfl⟩⟩
set_option maxRecDepth 20000 in
theorem gf_X5_101 : kGF "MendedTube$Light" 101 1 9 := ⟨(RX1, TX1, 14), rfl, by decide, Or.inr ⟨"MendedTube", kmN1 84 rfl rfl⟩⟩
set_option maxRecDepth 20000 in
theorem gf_X9_197 : kGF "MendedTube" 197 1 9 := ⟨(RX1, TX1, 14), rfl, by decide, Or.inr ⟨"MendedTube", kmN1 85 rfl rfl⟩⟩
theorem gf_X1_69 : kGF "MendedTube$Bench" 69 1 10 := ⟨(RX1, TX1, 14), rfl, by decide, Or.inl (km1 86 rfl rfl)⟩
theorem gp_X1_69 : kGP "MendedTube$Bench" 69 1 10 := ⟨(RX1, TX1, 14), rfl, by decide, rfl, Or.inl (km1 86 rfl rfl)⟩
set_option maxRecDepth 20000 in
theorem gf_X9_261 : kGF "MendedTube" 261 1 10 := ⟨(RX1, TX1, 14), rfl, by decide, Or.inr ⟨"MendedTube", kmN1 87 rfl rfl⟩⟩
set_option maxRecDepth 20000 in
theorem gp_X9_261 : kGP "MendedTube" 261 1 10 := ⟨(RX1, TX1, 14), rfl, by decide, rfl, Or.inr ⟨"MendedTube", kmN1 87 rfl rfl⟩⟩
theorem gf_X1_42 : kGF "MendedTube$Bench" 42 1 11 := ⟨(RX1, TX1, 14), rfl, by decide, Or.inl (km1 88 rfl rfl)⟩
set_option maxRecDepth 20000 in
theorem gi_X1_42 : kGI "MendedTube$Bench" 42 1 11 := ⟨(RX1, TX1, 14), rfl, by decide, rfl, rfl, km1 88 rfl rfl⟩
set_option maxRecDepth 20000 in
theorem gf_X9_264 : kGF "MendedTube" 264 1 11 := ⟨(RX1, TX1, 14), rfl, by decide, Or.inr ⟨"MendedTube", kmN1 89 rfl rfl⟩⟩
theorem gf_X1_45 : kGF "MendedTube$Bench" 45 1 12 := ⟨(RX1, TX1, 14), rfl, by decide, Or.inl (km1 90 rfl rfl)⟩
set_option maxRecDepth 20000 in
theorem gi_X1_45 : kGI "MendedTube$Bench" 45 1 12 := ⟨(RX1, TX1, 14), rfl, by decide, rfl, rfl, km1 90 rfl rfl⟩
set_option maxRecDepth 20000 in
theorem gf_X9_267 : kGF "MendedTube" 267 1 12 := ⟨(RX1, TX1, 14), rfl, by decide, Or.inr ⟨"MendedTube", kmN1 91 rfl rfl⟩⟩
theorem gf_X1_48 : kGF "MendedTube$Bench" 48 1 13 := ⟨(RX1, TX1, 14), rfl, by decide, Or.inl (km1 92 rfl rfl)⟩
theorem gp_X1_48 : kGP "MendedTube$Bench" 48 1 13 := ⟨(RX1, TX1, 14), rfl, by decide, rfl, Or.inl (km1 92 rfl rfl)⟩
set_option maxRecDepth 20000 in
theorem gf_X9_287 : kGF "MendedTube" 287 1 13 := ⟨(RX1, TX1, 14), rfl, by decide, Or.inr ⟨"MendedTube", kmN1 93 rfl rfl⟩⟩
set_option maxRecDepth 20000 in
theorem gp_X9_287 : kGP "MendedTube" 287 1 13 := ⟨(RX1, TX1, 14), rfl, by decide, rfl, Or.inr ⟨"MendedTube", kmN1 93 rfl rfl⟩⟩
set_option maxRecDepth 20000 in
theorem nw_X9_22 : Cond.classLink "MendedTube" 22 "MendedTube$Text" ∈ kTB := km1 123 rfl rfl
set_option maxRecDepth 20000 in
theorem ins_X8 : Cond.instantiable "MendedTube$Text" 9 ∈ kTB := km1 124 rfl rfl
set_option maxRecDepth 20000 in
theorem lk_X9_24 : kLk "MendedTube" 24 Y_X8_init := Or.inr ⟨"MendedTube", kmN1 125 rfl rfl⟩
theorem gf_X8_9 : kGF "MendedTube$Text" 9 8 0 := ⟨(RX8, TX8, 9), rfl, by decide, Or.inl (km1 129 rfl rfl)⟩
set_option maxRecDepth 20000 in
theorem gi_X8_9 : kGI "MendedTube$Text" 9 8 0 := ⟨(RX8, TX8, 9), rfl, by decide, rfl, rfl, km1 129 rfl rfl⟩
theorem gf_X8_26 : kGF "MendedTube$Text" 26 8 1 := ⟨(RX8, TX8, 9), rfl, by decide, Or.inl (km1 130 rfl rfl)⟩
theorem gp_X8_26 : kGP "MendedTube$Text" 26 8 1 := ⟨(RX8, TX8, 9), rfl, by decide, rfl, Or.inl (km1 130 rfl rfl)⟩
set_option maxRecDepth 20000 in
theorem gf_X9_145 : kGF "MendedTube" 145 8 1 := ⟨(RX8, TX8, 9), rfl, by decide, Or.inr ⟨"MendedTube", kmN1 131 rfl rfl⟩⟩
set_option maxRecDepth 20000 in
theorem gp_X9_145 : kGP "MendedTube" 145 8 1 := ⟨(RX8, TX8, 9), rfl, by decide, rfl, Or.inr ⟨"MendedTube", kmN1 131 rfl rfl⟩⟩
theorem gf_X8_15 : kGF "MendedTube$Text" 15 8 2 := ⟨(RX8, TX8, 9), rfl, by decide, Or.inl (km1 132 rfl rfl)⟩
set_option maxRecDepth 20000 in
theorem gi_X8_15 : kGI "MendedTube$Text" 15 8 2 := ⟨(RX8, TX8, 9), rfl, by decide, rfl, rfl, km1 132 rfl rfl⟩
theorem gf_X8_18 : kGF "MendedTube$Text" 18 8 3 := ⟨(RX8, TX8, 9), rfl, by decide, Or.inl (km1 133 rfl rfl)⟩
set_option maxRecDepth 20000 in
theorem gi_X8_18 : kGI "MendedTube$Text" 18 8 3 := ⟨(RX8, TX8, 9), rfl, by decide, rfl, rfl, km1 133 rfl rfl⟩
theorem gf_X8_33 : kGF "MendedTube$Text" 33 8 4 := ⟨(RX8, TX8, 9), rfl, by decide, Or.inl (km1 134 rfl rfl)⟩
theorem gp_X8_33 : kGP "MendedTube$Text" 33 8 4 := ⟨(RX8, TX8, 9), rfl, by decide, rfl, Or.inl (km1 134 rfl rfl)⟩
theorem gf_X8_36 : kGF "MendedTube$Text" 36 8 5 := ⟨(RX8, TX8, 9), rfl, by decide, Or.inl (km1 135 rfl rfl)⟩
theorem gp_X8_36 : kGP "MendedTube$Text" 36 8 5 := ⟨(RX8, TX8, 9), rfl, by decide, rfl, Or.inl (km1 135 rfl rfl)⟩
theorem gf_X8_39 : kGF "MendedTube$Text" 39 8 6 := ⟨(RX8, TX8, 9), rfl, by decide, Or.inl (km1 136 rfl rfl)⟩
theorem gp_X8_39 : kGP "MendedTube$Text" 39 8 6 := ⟨(RX8, TX8, 9), rfl, by decide, rfl, Or.inl (km1 136 rfl rfl)⟩
set_option maxRecDepth 20000 in
theorem gf_X9_156 : kGF "MendedTube" 156 8 6 := ⟨(RX8, TX8, 9), rfl, by decide, Or.inr ⟨"MendedTube", kmN1 137 rfl rfl⟩⟩
set_option maxRecDepth 20000 in
theorem gp_X9_156 : kGP "MendedTube" 156 8 6 := ⟨(RX8, TX8, 9), rfl, by decide, rfl, Or.inr ⟨"MendedTube", kmN1 137 rfl rfl⟩⟩
theorem gf_X8_23 : kGF "MendedTube$Text" 23 8 7 := ⟨(RX8, TX8, 9), rfl, by decide, Or.inl (km1 138 rfl rfl)⟩
set_option maxRecDepth 20000 in
theorem gi_X8_23 : kGI "MendedTube$Text" 23 8 7 := ⟨(RX8, TX8, 9), rfl, by decide, rfl, rfl, km1 138 rfl rfl⟩
theorem gf_X8_42 : kGF "MendedTube$Text" 42 8 8 := ⟨(RX8, TX8, 9), rfl, by decide, Or.inl (km1 139 rfl rfl)⟩
theorem gp_X8_42 : kGP "MendedTube$Text" 42 8 8 := ⟨(RX8, TX8, 9), rfl, by decide, rfl, Or.inl (km1 139 rfl rfl)⟩
set_option maxRecDepth 20000 in
theorem nw_X9_29 : Cond.classLink "MendedTube" 29 "MendedTube$Light" ∈ kTB := km1 159 rfl rfl
set_option maxRecDepth 20000 in
theorem ins_X5 : Cond.instantiable "MendedTube$Light" 11 ∈ kTB := km1 160 rfl rfl
set_option maxRecDepth 20000 in
theorem lk_X9_31 : kLk "MendedTube" 31 Y_X5_init := Or.inr ⟨"MendedTube", kmN1 161 rfl rfl⟩
theorem gf_X5_11 : kGF "MendedTube$Light" 11 5 0 := ⟨(RX5, TX5, 11), rfl, by decide, Or.inl (km1 165 rfl rfl)⟩
set_option maxRecDepth 20000 in
theorem gi_X5_11 : kGI "MendedTube$Light" 11 5 0 := ⟨(RX5, TX5, 11), rfl, by decide, rfl, rfl, km1 165 rfl rfl⟩
theorem gf_X5_17 : kGF "MendedTube$Light" 17 5 1 := ⟨(RX5, TX5, 11), rfl, by decide, Or.inl (km1 166 rfl rfl)⟩
set_option maxRecDepth 20000 in
theorem gi_X5_17 : kGI "MendedTube$Light" 17 5 1 := ⟨(RX5, TX5, 11), rfl, by decide, rfl, rfl, km1 166 rfl rfl⟩
set_option maxRecDepth 20000 in
theorem gf_X9_125 : kGF "MendedTube" 125 5 1 := ⟨(RX5, TX5, 11), rfl, by decide, Or.inr ⟨"MendedTube", kmN1 167 rfl rfl⟩⟩
theorem gf_X5_20 : kGF "MendedTube$Light" 20 5 2 := ⟨(RX5, TX5, 11), rfl, by decide, Or.inl (km1 168 rfl rfl)⟩
set_option maxRecDepth 20000 in
theorem gi_X5_20 : kGI "MendedTube$Light" 20 5 2 := ⟨(RX5, TX5, 11), rfl, by decide, rfl, rfl, km1 168 rfl rfl⟩
theorem gf_X5_40 : kGF "MendedTube$Light" 40 5 3 := ⟨(RX5, TX5, 11), rfl, by decide, Or.inl (km1 169 rfl rfl)⟩
theorem gp_X5_40 : kGP "MendedTube$Light" 40 5 3 := ⟨(RX5, TX5, 11), rfl, by decide, rfl, Or.inl (km1 169 rfl rfl)⟩
theorem gf_X5_44 : kGF "MendedTube$Light" 44 5 4 := ⟨(RX5, TX5, 11), rfl, by decide, Or.inl (km1 170 rfl rfl)⟩
theorem gp_X5_44 : kGP "MendedTube$Light" 44 5 4 := ⟨(RX5, TX5, 11), rfl, by decide, rfl, Or.inl (km1 170 rfl rfl)⟩
theorem gf_X5_47 : kGF "MendedTube$Light" 47 5 5 := ⟨(RX5, TX5, 11), rfl, by decide, Or.inl (km1 171 rfl rfl)⟩
theorem gp_X5_47 : kGP "MendedTube$Light" 47 5 5 := ⟨(RX5, TX5, 11), rfl, by decide, rfl, Or.inl (km1 171 rfl rfl)⟩
theorem gf_X5_23 : kGF "MendedTube$Light" 23 5 6 := ⟨(RX5, TX5, 11), rfl, by decide, Or.inl (km1 172 rfl rfl)⟩
set_option maxRecDepth 20000 in
theorem gi_X5_23 : kGI "MendedTube$Light" 23 5 6 := ⟨(RX5, TX5, 11), rfl, by decide, rfl, rfl, km1 172 rfl rfl⟩
theorem gf_X5_26 : kGF "MendedTube$Light" 26 5 7 := ⟨(RX5, TX5, 11), rfl, by decide, Or.inl (km1 173 rfl rfl)⟩
set_option maxRecDepth 20000 in
theorem gi_X5_26 : kGI "MendedTube$Light" 26 5 7 := ⟨(RX5, TX5, 11), rfl, by decide, rfl, rfl, km1 173 rfl rfl⟩
theorem gf_X5_29 : kGF "MendedTube$Light" 29 5 8 := ⟨(RX5, TX5, 11), rfl, by decide, Or.inl (km1 174 rfl rfl)⟩
set_option maxRecDepth 20000 in
theorem gi_X5_29 : kGI "MendedTube$Light" 29 5 8 := ⟨(RX5, TX5, 11), rfl, by decide, rfl, rfl, km1 174 rfl rfl⟩
theorem gf_X5_32 : kGF "MendedTube$Light" 32 5 9 := ⟨(RX5, TX5, 11), rfl, by decide, Or.inl (km1 175 rfl rfl)⟩
set_option maxRecDepth 20000 in
theorem gi_X5_32 : kGI "MendedTube$Light" 32 5 9 := ⟨(RX5, TX5, 11), rfl, by decide, rfl, rfl, km1 175 rfl rfl⟩
theorem gf_X5_111 : kGF "MendedTube$Light" 111 5 10 := ⟨(RX5, TX5, 11), rfl, by decide, Or.inl (km1 176 rfl rfl)⟩
theorem gp_X5_111 : kGP "MendedTube$Light" 111 5 10 := ⟨(RX5, TX5, 11), rfl, by decide, rfl, Or.inl (km1 176 rfl rfl)⟩
set_option maxRecDepth 20000 in
theorem nw_X9_36 : Cond.classLink "MendedTube" 36 "MendedTube$Heap" ∈ kTB := km1 200 rfl rfl
set_option maxRecDepth 20000 in
theorem ins_X4 : Cond.instantiable "MendedTube$Heap" 14 ∈ kTB := km1 201 rfl rfl
set_option maxRecDepth 20000 in
theorem lk_X9_38 : kLk "MendedTube" 38 Y_X4_init := Or.inr ⟨"MendedTube", kmN1 202 rfl rfl⟩
theorem gf_X4_33 : kGF "MendedTube$Heap" 33 4 0 := ⟨(RX4, TX4, 14), rfl, by decide, Or.inl (km1 206 rfl rfl)⟩
set_option maxRecDepth 20000 in
theorem gi_X4_33 : kGI "MendedTube$Heap" 33 4 0 := ⟨(RX4, TX4, 14), rfl, by decide, rfl, rfl, km1 206 rfl rfl⟩
theorem gf_X4_49 : kGF "MendedTube$Heap" 49 4 1 := ⟨(RX4, TX4, 14), rfl, by decide, Or.inl (km1 207 rfl rfl)⟩
theorem gp_X4_49 : kGP "MendedTube$Heap" 49 4 1 := ⟨(RX4, TX4, 14), rfl, by decide, rfl, Or.inl (km1 207 rfl rfl)⟩
theorem gf_X4_50 : kGF "MendedTube$Heap" 50 4 2 := ⟨(RX4, TX4, 14), rfl, by decide, Or.inl (km1 208 rfl rfl)⟩
theorem gp_X4_50 : kGP "MendedTube$Heap" 50 4 2 := ⟨(RX4, TX4, 14), rfl, by decide, rfl, Or.inl (km1 208 rfl rfl)⟩
theorem gf_X4_53 : kGF "MendedTube$Heap" 53 4 3 := ⟨(RX4, TX4, 14), rfl, by decide, Or.inl (km1 209 rfl rfl)⟩
theorem gp_X4_53 : kGP "MendedTube$Heap" 53 4 3 := ⟨(RX4, TX4, 14), rfl, by decide, rfl, Or.inl (km1 209 rfl rfl)⟩
theorem gf_X4_9 : kGF "MendedTube$Heap" 9 4 4 := ⟨(RX4, TX4, 14), rfl, by decide, Or.inl (km1 210 rfl rfl)⟩
set_option maxRecDepth 20000 in
theorem gi_X4_9 : kGI "MendedTube$Heap" 9 4 4 := ⟨(RX4, TX4, 14), rfl, by decide, rfl, rfl, km1 210 rfl rfl⟩
theorem gf_X4_15 : kGF "MendedTube$Heap" 15 4 5 := ⟨(RX4, TX4, 14), rfl, by decide, Or.inl (km1 211 rfl rfl)⟩
set_option maxRecDepth 20000 in
theorem gi_X4_15 : kGI "MendedTube$Heap" 15 4 5 := ⟨(RX4, TX4, 14), rfl, by decide, rfl, rfl, km1 211 rfl rfl⟩
theorem gf_X4_18 : kGF "MendedTube$Heap" 18 4 6 := ⟨(RX4, TX4, 14), rfl, by decide, Or.inl (km1 212 rfl rfl)⟩
set_option maxRecDepth 20000 in
theorem gi_X4_18 : kGI "MendedTube$Heap" 18 4 6 := ⟨(RX4, TX4, 14), rfl, by decide, rfl, rfl, km1 212 rfl rfl⟩
set_option maxRecDepth 20000 in
theorem gf_X9_227 : kGF "MendedTube" 227 4 6 := ⟨(RX4, TX4, 14), rfl, by decide, Or.inr ⟨"MendedTube", kmN1 213 rfl rfl⟩⟩
theorem gf_X4_21 : kGF "MendedTube$Heap" 21 4 7 := ⟨(RX4, TX4, 14), rfl, by decide, Or.inl (km1 214 rfl rfl)⟩
set_option maxRecDepth 20000 in
theorem gi_X4_21 : kGI "MendedTube$Heap" 21 4 7 := ⟨(RX4, TX4, 14), rfl, by decide, rfl, rfl, km1 214 rfl rfl⟩
set_option maxRecDepth 20000 in
theorem gf_X9_230 : kGF "MendedTube" 230 4 7 := ⟨(RX4, TX4, 14), rfl, by decide, Or.inr ⟨"MendedTube", kmN1 215 rfl rfl⟩⟩
theorem gf_X4_56 : kGF "MendedTube$Heap" 56 4 8 := ⟨(RX4, TX4, 14), rfl, by decide, Or.inl (km1 216 rfl rfl)⟩
theorem gp_X4_56 : kGP "MendedTube$Heap" 56 4 8 := ⟨(RX4, TX4, 14), rfl, by decide, rfl, Or.inl (km1 216 rfl rfl)⟩
set_option maxRecDepth 20000 in
theorem gf_X9_224 : kGF "MendedTube" 224 4 8 := ⟨(RX4, TX4, 14), rfl, by decide, Or.inr ⟨"MendedTube", kmN1 217 rfl rfl⟩⟩
set_option maxRecDepth 20000 in
theorem gp_X9_224 : kGP "MendedTube" 224 4 8 := ⟨(RX4, TX4, 14), rfl, by decide, rfl, Or.inr ⟨"MendedTube", kmN1 217 rfl rfl⟩⟩
theorem gf_X4_59 : kGF "MendedTube$Heap" 59 4 9 := ⟨(RX4, TX4, 14), rfl, by decide, Or.inl (km1 218 rfl rfl)⟩
theorem gp_X4_59 : kGP "MendedTube$Heap" 59 4 9 := ⟨(RX4, TX4, 14), rfl, by decide, rfl, Or.inl (km1 218 rfl rfl)⟩
set_option maxRecDepth 20000 in
theorem gf_X9_233 : kGF "MendedTube" 233 4 9 := ⟨(RX4, TX4, 14), rfl, by decide, Or.inr ⟨"MendedTube", kmN1 219 rfl rfl⟩⟩
set_option maxRecDepth 20000 in
theorem gp_X9_233 : kGP "MendedTube" 233 4 9 := ⟨(RX4, TX4, 14), rfl, by decide, rfl, Or.inr ⟨"MendedTube", kmN1 219 rfl rfl⟩⟩
theorem gf_X4_24 : kGF "MendedTube$Heap" 24 4 10 := ⟨(RX4, TX4, 14), rfl, by decide, Or.inl (km1 220 rfl rfl)⟩
set_option maxRecDepth 20000 in
theorem gi_X4_24 : kGI "MendedTube$Heap" 24 4 10 := ⟨(RX4, TX4, 14), rfl, by decide, rfl, rfl, km1 220 rfl rfl⟩
theorem gf_X4_27 : kGF "MendedTube$Heap" 27 4 11 := ⟨(RX4, TX4, 14), rfl, by decide, Or.inl (km1 221 rfl rfl)⟩
set_option maxRecDepth 20000 in
theorem gi_X4_27 : kGI "MendedTube$Heap" 27 4 11 := ⟨(RX4, TX4, 14), rfl, by decide, rfl, rfl, km1 221 rfl rfl⟩
theorem gf_X4_30 : kGF "MendedTube$Heap" 30 4 12 := ⟨(RX4, TX4, 14), rfl, by decide, Or.inl (km1 222 rfl rfl)⟩
set_option maxRecDepth 20000 in
theorem gi_X4_30 : kGI "MendedTube$Heap" 30 4 12 := ⟨(RX4, TX4, 14), rfl, by decide, rfl, rfl, km1 222 rfl rfl⟩
set_option maxRecDepth 20000 in
theorem gf_X9_242 : kGF "MendedTube" 242 4 12 := ⟨(RX4, TX4, 14), rfl, by decide, Or.inr ⟨"MendedTube", kmN1 223 rfl rfl⟩⟩
theorem gf_X4_104 : kGF "MendedTube$Heap" 104 4 13 := ⟨(RX4, TX4, 14), rfl, by decide, Or.inl (km1 224 rfl rfl)⟩
theorem gp_X4_104 : kGP "MendedTube$Heap" 104 4 13 := ⟨(RX4, TX4, 14), rfl, by decide, rfl, Or.inl (km1 224 rfl rfl)⟩
set_option maxRecDepth 20000 in
theorem gf_X9_239 : kGF "MendedTube" 239 4 13 := ⟨(RX4, TX4, 14), rfl, by decide, Or.inr ⟨"MendedTube", kmN1 225 rfl rfl⟩⟩
set_option maxRecDepth 20000 in
theorem gp_X9_239 : kGP "MendedTube" 239 4 13 := ⟨(RX4, TX4, 14), rfl, by decide, rfl, Or.inr ⟨"MendedTube", kmN1 225 rfl rfl⟩⟩
set_option maxRecDepth 20000 in
theorem nw_X9_45 : Cond.classLink "MendedTube" 45 "MendedTube$Contest" ∈ kTB := km2 15 rfl rfl
set_option maxRecDepth 20000 in
theorem ins_X2 : Cond.instantiable "MendedTube$Contest" 5 ∈ kTB := km2 16 rfl rfl
set_option maxRecDepth 20000 in
theorem lk_X9_47 : kLk "MendedTube" 47 Y_X2_init := Or.inr ⟨"MendedTube", kmN2 17 rfl rfl⟩
theorem gf_X2_9 : kGF "MendedTube$Contest" 9 2 0 := ⟨(RX2, TX2, 5), rfl, by decide, Or.inl (km2 21 rfl rfl)⟩
set_option maxRecDepth 20000 in
theorem gi_X2_9 : kGI "MendedTube$Contest" 9 2 0 := ⟨(RX2, TX2, 5), rfl, by decide, rfl, rfl, km2 21 rfl rfl⟩
theorem gf_X2_30 : kGF "MendedTube$Contest" 30 2 1 := ⟨(RX2, TX2, 5), rfl, by decide, Or.inl (km2 22 rfl rfl)⟩
theorem gp_X2_30 : kGP "MendedTube$Contest" 30 2 1 := ⟨(RX2, TX2, 5), rfl, by decide, rfl, Or.inl (km2 22 rfl rfl)⟩
theorem gf_X2_35 : kGF "MendedTube$Contest" 35 2 2 := ⟨(RX2, TX2, 5), rfl, by decide, Or.inl (km2 23 rfl rfl)⟩
theorem gp_X2_35 : kGP "MendedTube$Contest" 35 2 2 := ⟨(RX2, TX2, 5), rfl, by decide, rfl, Or.inl (km2 23 rfl rfl)⟩
theorem gf_X2_34 : kGF "MendedTube$Contest" 34 2 3 := ⟨(RX2, TX2, 5), rfl, by decide, Or.inl (km2 24 rfl rfl)⟩
theorem gp_X2_34 : kGP "MendedTube$Contest" 34 2 3 := ⟨(RX2, TX2, 5), rfl, by decide, rfl, Or.inl (km2 24 rfl rfl)⟩
theorem gf_X2_48 : kGF "MendedTube$Contest" 48 2 4 := ⟨(RX2, TX2, 5), rfl, by decide, Or.inl (km2 25 rfl rfl)⟩
theorem gp_X2_48 : kGP "MendedTube$Contest" 48 2 4 := ⟨(RX2, TX2, 5), rfl, by decide, rfl, Or.inl (km2 25 rfl rfl)⟩
set_option maxRecDepth 20000 in
theorem nw_X9_52 : Cond.classLink "MendedTube" 52 "MendedTube$Ageing" ∈ kTB := km2 37 rfl rfl
set_option maxRecDepth 20000 in
theorem ins_X0 : Cond.instantiable "MendedTube$Ageing" 3 ∈ kTB := km2 38 rfl rfl
set_option maxRecDepth 20000 in
theorem lk_X9_54 : kLk "MendedTube" 54 Y_X0_init := Or.inr ⟨"MendedTube", kmN2 39 rfl rfl⟩
set_option maxRecDepth 20000 in
theorem nw_X0_9 : Cond.classLink "MendedTube$Ageing" 9 "MendedTube$Bench" ∈ kTB := km2 43 rfl rfl
set_option maxRecDepth 20000 in
theorem lk_X0_11 : kLk "MendedTube$Ageing" 11 Y_X1_init := Or.inr ⟨"MendedTube", kmN2 44 rfl rfl⟩
theorem gf_X0_22 : kGF "MendedTube$Ageing" 22 0 0 := ⟨(RX0, TX0, 3), rfl, by decide, Or.inl (km2 45 rfl rfl)⟩
set_option maxRecDepth 20000 in
theorem gi_X0_22 : kGI "MendedTube$Ageing" 22 0 0 := ⟨(RX0, TX0, 3), rfl, by decide, rfl, rfl, km2 45 rfl rfl⟩
theorem gf_X0_12 : kGF "MendedTube$Ageing" 12 0 1 := ⟨(RX0, TX0, 3), rfl, by decide, Or.inl (km2 46 rfl rfl)⟩
set_option maxRecDepth 20000 in
theorem gi_X0_12 : kGI "MendedTube$Ageing" 12 0 1 := ⟨(RX0, TX0, 3), rfl, by decide, rfl, rfl, km2 46 rfl rfl⟩
theorem gf_X0_18 : kGF "MendedTube$Ageing" 18 0 2 := ⟨(RX0, TX0, 3), rfl, by decide, Or.inl (km2 47 rfl rfl)⟩
set_option maxRecDepth 20000 in
theorem gi_X0_18 : kGI "MendedTube$Ageing" 18 0 2 := ⟨(RX0, TX0, 3), rfl, by decide, rfl, rfl, km2 47 rfl rfl⟩
set_option maxRecDepth 20000 in
theorem nw_X9_66 : Cond.classLink "MendedTube" 66 "MendedTube$Sheet" ∈ kTB := km2 55 rfl rfl
set_option maxRecDepth 20000 in
theorem nw_X9_78 : Cond.classLink "MendedTube" 78 "MendedTube$Deed" ∈ kTB := km2 57 rfl rfl
set_option maxRecDepth 20000 in
theorem ins_X3 : Cond.instantiable "MendedTube$Deed" 6 ∈ kTB := km2 58 rfl rfl
set_option maxRecDepth 20000 in
theorem lk_X9_80 : kLk "MendedTube" 80 Y_X3_init := Or.inr ⟨"MendedTube", kmN2 59 rfl rfl⟩
theorem gf_X3_15 : kGF "MendedTube$Deed" 15 3 0 := ⟨(RX3, TX3, 6), rfl, by decide, Or.inl (km2 63 rfl rfl)⟩
theorem gp_X3_15 : kGP "MendedTube$Deed" 15 3 0 := ⟨(RX3, TX3, 6), rfl, by decide, rfl, Or.inl (km2 63 rfl rfl)⟩
theorem gf_X3_19 : kGF "MendedTube$Deed" 19 3 1 := ⟨(RX3, TX3, 6), rfl, by decide, Or.inl (km2 64 rfl rfl)⟩
theorem gp_X3_19 : kGP "MendedTube$Deed" 19 3 1 := ⟨(RX3, TX3, 6), rfl, by decide, rfl, Or.inl (km2 64 rfl rfl)⟩
theorem gf_X3_22 : kGF "MendedTube$Deed" 22 3 2 := ⟨(RX3, TX3, 6), rfl, by decide, Or.inl (km2 65 rfl rfl)⟩
theorem gp_X3_22 : kGP "MendedTube$Deed" 22 3 2 := ⟨(RX3, TX3, 6), rfl, by decide, rfl, Or.inl (km2 65 rfl rfl)⟩
theorem gf_X3_25 : kGF "MendedTube$Deed" 25 3 3 := ⟨(RX3, TX3, 6), rfl, by decide, Or.inl (km2 66 rfl rfl)⟩
theorem gp_X3_25 : kGP "MendedTube$Deed" 25 3 3 := ⟨(RX3, TX3, 6), rfl, by decide, rfl, Or.inl (km2 66 rfl rfl)⟩
set_option maxRecDepth 20000 in
theorem gf_X9_364 : kGF "MendedTube" 364 3 3 := ⟨(RX3, TX3, 6), rfl, by decide, Or.inr ⟨"MendedTube", kmN2 67 rfl rfl⟩⟩
set_option maxRecDepth 20000 in
theorem gp_X9_364 : kGP "MendedTube" 364 3 3 := ⟨(RX3, TX3, 6), rfl, by decide, rfl, Or.inr ⟨"MendedTube", kmN2 67 rfl rfl⟩⟩
theorem gf_X3_9 : kGF "MendedTube$Deed" 9 3 4 := ⟨(RX3, TX3, 6), rfl, by decide, Or.inl (km2 68 rfl rfl)⟩
set_option maxRecDepth 20000 in
theorem gi_X3_9 : kGI "MendedTube$Deed" 9 3 4 := ⟨(RX3, TX3, 6), rfl, by decide, rfl, rfl, km2 68 rfl rfl⟩
set_option maxRecDepth 20000 in
theorem gf_X9_368 : kGF "MendedTube" 368 3 4 := ⟨(RX3, TX3, 6), rfl, by decide, Or.inr ⟨"MendedTube", kmN2 69 rfl rfl⟩⟩
theorem gf_X3_29 : kGF "MendedTube$Deed" 29 3 5 := ⟨(RX3, TX3, 6), rfl, by decide, Or.inl (km2 70 rfl rfl)⟩
theorem gp_X3_29 : kGP "MendedTube$Deed" 29 3 5 := ⟨(RX3, TX3, 6), rfl, by decide, rfl, Or.inl (km2 70 rfl rfl)⟩
set_option maxRecDepth 20000 in
theorem gf_X9_345 : kGF "MendedTube" 345 3 5 := ⟨(RX3, TX3, 6), rfl, by decide, Or.inr ⟨"MendedTube", kmN2 71 rfl rfl⟩⟩
set_option maxRecDepth 20000 in
theorem gp_X9_345 : kGP "MendedTube" 345 3 5 := ⟨(RX3, TX3, 6), rfl, by decide, rfl, Or.inr ⟨"MendedTube", kmN2 71 rfl rfl⟩⟩
theorem lk_X9_85 : kLk "MendedTube" 85 Y_J7_fill_53178 := Or.inl (km2 85 rfl rfl)
theorem gf_X9_12 : kGF "MendedTube" 12 9 0 := ⟨(RX9, TX9, 16), rfl, by decide, Or.inl (km2 88 rfl rfl)⟩
set_option maxRecDepth 20000 in
theorem gi_X9_12 : kGI "MendedTube" 12 9 0 := ⟨(RX9, TX9, 16), rfl, by decide, rfl, rfl, km2 88 rfl rfl⟩
theorem gf_X9_16 : kGF "MendedTube" 16 9 1 := ⟨(RX9, TX9, 16), rfl, by decide, Or.inl (km2 89 rfl rfl)⟩
set_option maxRecDepth 20000 in
theorem gi_X9_16 : kGI "MendedTube" 16 9 1 := ⟨(RX9, TX9, 16), rfl, by decide, rfl, rfl, km2 89 rfl rfl⟩
theorem gf_X9_371 : kGF "MendedTube" 371 9 2 := ⟨(RX9, TX9, 16), rfl, by decide, Or.inl (km2 90 rfl rfl)⟩
theorem gp_X9_371 : kGP "MendedTube" 371 9 2 := ⟨(RX9, TX9, 16), rfl, by decide, rfl, Or.inl (km2 90 rfl rfl)⟩
theorem gf_X9_19 : kGF "MendedTube" 19 9 3 := ⟨(RX9, TX9, 16), rfl, by decide, Or.inl (km2 91 rfl rfl)⟩
set_option maxRecDepth 20000 in
theorem gi_X9_19 : kGI "MendedTube" 19 9 3 := ⟨(RX9, TX9, 16), rfl, by decide, rfl, rfl, km2 91 rfl rfl⟩
theorem gf_X9_25 : kGF "MendedTube" 25 9 4 := ⟨(RX9, TX9, 16), rfl, by decide, Or.inl (km2 92 rfl rfl)⟩
set_option maxRecDepth 20000 in
theorem gi_X9_25 : kGI "MendedTube" 25 9 4 := ⟨(RX9, TX9, 16), rfl, by decide, rfl, rfl, km2 92 rfl rfl⟩
theorem gf_X9_32 : kGF "MendedTube" 32 9 5 := ⟨(RX9, TX9, 16), rfl, by decide, Or.inl (km2 93 rfl rfl)⟩
set_option maxRecDepth 20000 in
theorem gi_X9_32 : kGI "MendedTube" 32 9 5 := ⟨(RX9, TX9, 16), rfl, by decide, rfl, rfl, km2 93 rfl rfl⟩
theorem gf_X9_41 : kGF "MendedTube" 41 9 6 := ⟨(RX9, TX9, 16), rfl, by decide, Or.inl (km2 94 rfl rfl)⟩
set_option maxRecDepth 20000 in
theorem gi_X9_41 : kGI "MendedTube" 41 9 6 := ⟨(RX9, TX9, 16), rfl, by decide, rfl, rfl, km2 94 rfl rfl⟩
theorem gf_X9_48 : kGF "MendedTube" 48 9 7 := ⟨(RX9, TX9, 16), rfl, by decide, Or.inl (km2 95 rfl rfl)⟩
set_option maxRecDepth 20000 in
theorem gi_X9_48 : kGI "MendedTube" 48 9 7 := ⟨(RX9, TX9, 16), rfl, by decide, rfl, rfl, km2 95 rfl rfl⟩
theorem gf_X9_55 : kGF "MendedTube" 55 9 8 := ⟨(RX9, TX9, 16), rfl, by decide, Or.inl (km2 96 rfl rfl)⟩
set_option maxRecDepth 20000 in
theorem gi_X9_55 : kGI "MendedTube" 55 9 8 := ⟨(RX9, TX9, 16), rfl, by decide, rfl, rfl, km2 96 rfl rfl⟩
theorem gf_X9_59 : kGF "MendedTube" 59 9 9 := ⟨(RX9, TX9, 16), rfl, by decide, Or.inl (km2 97 rfl rfl)⟩
set_option maxRecDepth 20000 in
theorem gi_X9_59 : kGI "MendedTube" 59 9 9 := ⟨(RX9, TX9, 16), rfl, by decide, rfl, rfl, km2 97 rfl rfl⟩
theorem gf_X9_63 : kGF "MendedTube" 63 9 10 := ⟨(RX9, TX9, 16), rfl, by decide, Or.inl (km2 98 rfl rfl)⟩
set_option maxRecDepth 20000 in
theorem gi_X9_63 : kGI "MendedTube" 63 9 10 := ⟨(RX9, TX9, 16), rfl, by decide, rfl, rfl, km2 98 rfl rfl⟩
theorem gf_X9_293 : kGF "MendedTube" 293 9 11 := ⟨(RX9, TX9, 16), rfl, by decide, Or.inl (km2 99 rfl rfl)⟩
theorem gp_X9_293 : kGP "MendedTube" 293 9 11 := ⟨(RX9, TX9, 16), rfl, by decide, rfl, Or.inl (km2 99 rfl rfl)⟩
theorem gf_X9_68 : kGF "MendedTube" 68 9 12 := ⟨(RX9, TX9, 16), rfl, by decide, Or.inl (km2 100 rfl rfl)⟩
set_option maxRecDepth 20000 in
theorem gi_X9_68 : kGI "MendedTube" 68 9 12 := ⟨(RX9, TX9, 16), rfl, by decide, rfl, rfl, km2 100 rfl rfl⟩
theorem gf_X9_72 : kGF "MendedTube" 72 9 13 := ⟨(RX9, TX9, 16), rfl, by decide, Or.inl (km2 101 rfl rfl)⟩
set_option maxRecDepth 20000 in
theorem gi_X9_72 : kGI "MendedTube" 72 9 13 := ⟨(RX9, TX9, 16), rfl, by decide, rfl, rfl, km2 101 rfl rfl⟩
theorem gf_X9_75 : kGF "MendedTube" 75 9 14 := ⟨(RX9, TX9, 16), rfl, by decide, Or.inl (km2 102 rfl rfl)⟩
set_option maxRecDepth 20000 in
theorem gi_X9_75 : kGI "MendedTube" 75 9 14 := ⟨(RX9, TX9, 16), rfl, by decide, rfl, rfl, km2 102 rfl rfl⟩
theorem gf_X9_81 : kGF "MendedTube" 81 9 15 := ⟨(RX9, TX9, 16), rfl, by decide, Or.inl (km2 103 rfl rfl)⟩
set_option maxRecDepth 20000 in
theorem gi_X9_81 : kGI "MendedTube" 81 9 15 := ⟨(RX9, TX9, 16), rfl, by decide, rfl, rfl, km2 103 rfl rfl⟩
theorem lk_L_13 : kLk "MendedTubeLaw" 13 Y_X9_lens := Or.inl (km2 137 rfl rfl)
theorem lk_X9_91 : kLk "MendedTube" 91 Y_X9_isMadeKind := Or.inl (km2 141 rfl rfl)
theorem lk_X9_98 : kLk "MendedTube" 98 Y_X9_isWithin := Or.inl (km2 144 rfl rfl)
theorem lk_X9_95 : kLk "MendedTube" 95 Y_X9_isSmall := Or.inl (km2 147 rfl rfl)
theorem lk_L_18 : kLk "MendedTubeLaw" 18 Y_X9_lensOf := Or.inl (km2 150 rfl rfl)
set_option maxRecDepth 20000 in
theorem lk_X9_118 : kLk "MendedTube" 118 Y_X1_hasLens := Or.inr ⟨"MendedTube", kmN2 154 rfl rfl⟩
set_option maxRecDepth 20000 in
theorem lk_X1_55 : kLk "MendedTube$Bench" 55 Y_X9_isWithin := Or.inr ⟨"MendedTube", kmN2 158 rfl rfl⟩
set_option maxRecDepth 20000 in
theorem lk_X9_121 : kLk "MendedTube" 121 Y_X5_load := Or.inr ⟨"MendedTube", kmN2 159 rfl rfl⟩
set_option maxRecDepth 20000 in
theorem lk_X5_70 : kLk "MendedTube$Light" 70 Y_X6_bent := Or.inr ⟨"MendedTube", kmN2 166 rfl rfl⟩
set_option maxRecDepth 20000 in
theorem lk_X6_17 : kLk "MendedTube$Rules" 17 Y_X9_isUnder := Or.inr ⟨"MendedTube", kmN2 170 rfl rfl⟩
theorem lk_X6_23 : kLk "MendedTube$Rules" 23 Y_X6_holds := Or.inl (km2 175 rfl rfl)
theorem lk_X6_31 : kLk "MendedTube$Rules" 31 Y_X6_compares := Or.inl (km2 179 rfl rfl)
theorem lk_X6_35 : kLk "MendedTube$Rules" 35 Y_X6_valueOf := Or.inl (km2 182 rfl rfl)
theorem lk_X6_27 : kLk "MendedTube$Rules" 27 Y_X6_changed := Or.inl (km2 185 rfl rfl)
theorem lk_X5_74 : kLk "MendedTube$Light" 74 Y_X5_strengthOf := Or.inl (km2 188 rfl rfl)
set_option maxRecDepth 20000 in
theorem mk_X5_78 : Cond.methodLink "MendedTube$Light" 78 Lib.Math.min.name ∈ kTB := km2 191 rfl rfl
set_option maxRecDepth 20000 in
theorem mk_X5_84 : Cond.methodLink "MendedTube$Light" 84 Lib.Math.max.name ∈ kTB := km2 194 rfl rfl
set_option maxRecDepth 20000 in
theorem lk_X9_128 : kLk "MendedTube" 128 Y_X1_placeOf := Or.inr ⟨"MendedTube", kmN2 197 rfl rfl⟩
theorem lk_L_23 : kLk "MendedTubeLaw" 23 Y_X9_grind := Or.inl (km2 201 rfl rfl)
theorem lk_X9_132 : kLk "MendedTube" 132 Y_X9_store := Or.inl (km2 205 rfl rfl)
theorem lk_L_28 : kLk "MendedTubeLaw" 28 Y_X9_remake := Or.inl (km2 208 rfl rfl)
theorem lk_L_32 : kLk "MendedTubeLaw" 32 Y_X9_setting := Or.inl (km2 212 rfl rfl)
theorem lk_L_37 : kLk "MendedTubeLaw" 37 Y_X9_let := Or.inl (km2 216 rfl rfl)
theorem lk_L_43 : kLk "MendedTubeLaw" 43 Y_X9_feed := Or.inl (km2 224 rfl rfl)
set_option maxRecDepth 20000 in
theorem lk_X9_148 : kLk "MendedTube" 148 Y_X8_append := Or.inr ⟨"MendedTube", kmN2 228 rfl rfl⟩
theorem lk_L_48 : kLk "MendedTubeLaw" 48 Y_X9_rules := Or.inl (km2 232 rfl rfl)
set_option maxRecDepth 20000 in
theorem lk_X9_152 : kLk "MendedTube" 152 Y_X8_told := Or.inr ⟨"MendedTube", kmN2 236 rfl rfl⟩
theorem lk_X8_30 : kLk "MendedTube$Text" 30 Y_X8_split := Or.inl (km3 0 rfl rfl)
theorem lk_X8_60 : kLk "MendedTube$Text" 60 Y_X8_isInWord := Or.inl (km3 4 rfl rfl)
theorem lk_X8_72 : kLk "MendedTube$Text" 72 Y_X8_isLetter := Or.inl (km3 8 rfl rfl)
theorem lk_X8_75 : kLk "MendedTube$Text" 75 Y_X8_isDigit := Or.inl (km3 11 rfl rfl)
theorem lk_X8_64 : kLk "MendedTube$Text" 64 Y_X8_endOfWord := Or.inl (km3 14 rfl rfl)
theorem lk_X8_68 : kLk "MendedTube$Text" 68 Y_X8_wordAt := Or.inl (km3 18 rfl rfl)
theorem lk_X8_78 : kLk "MendedTube$Text" 78 Y_X8_nameAt := Or.inl (km3 22 rfl rfl)
theorem lk_X8_89 : kLk "MendedTube$Text" 89 Y_J0_length_8abf5 := Or.inl (km3 27 rfl rfl)
theorem lk_J0_335 : kLk "java/lang/String" 335 Y_J0_coder_7d493 := Or.inl (km3 31 rfl rfl)
theorem lk_X8_94 : kLk "MendedTube$Text" 94 Y_J0_charAt_5068e := Or.inl (km3 37 rfl rfl)
theorem lk_J0_492 : kLk "java/lang/String" 492 Y_J0_isLatin1_aae02 := Or.inl (km3 41 rfl rfl)
theorem lk_J0_495 : kLk "java/lang/String" 495 Y_J1_charAt_3b067 := Or.inl (km3 45 rfl rfl)
theorem lk_J1_9 : kLk "java/lang/StringLatin1" 9 Y_J0_checkIndex_df160 := Or.inl (km3 48 rfl rfl)
theorem lk_J0_1059 : kLk "java/lang/String" 1059 Y_J3_checkIndex_8e157 := Or.inl (km3 53 rfl rfl)
theorem lk_J0_498 : kLk "java/lang/String" 498 Y_J2_charAt_3b067 := Or.inl (km3 56 rfl rfl)
theorem lk_J2_67 : kLk "java/lang/StringUTF16" 67 Y_J2_checkIndex_2214a := Or.inl (km3 59 rfl rfl)
theorem lk_J2_48 : kLk "java/lang/StringUTF16" 48 Y_J2_length_9d52b := Or.inl (km3 62 rfl rfl)
theorem lk_J2_414 : kLk "java/lang/StringUTF16" 414 Y_J0_checkIndex_df160 := Or.inl (km3 65 rfl rfl)
theorem lk_J2_71 : kLk "java/lang/StringUTF16" 71 Y_J2_getChar_3b067 := Or.inl (km3 66 rfl rfl)
theorem lk_X8_81 : kLk "MendedTube$Text" 81 Y_X8_numberAt := Or.inl (km3 75 rfl rfl)
theorem lk_X8_84 : kLk "MendedTube$Text" 84 Y_X8_isSign := Or.inl (km3 79 rfl rfl)
theorem lk_X8_45 : kLk "MendedTube$Text" 45 Y_X8_readRule := Or.inl (km3 82 rfl rfl)
theorem lk_X8_101 : kLk "MendedTube$Text" 101 Y_X8_emit := Or.inl (km3 86 rfl rfl)
set_option maxRecDepth 20000 in
theorem lk_X8_105 : kLk "MendedTube$Text" 105 Y_X9_isWithin := Or.inr ⟨"MendedTube", kmN3 90 rfl rfl⟩
theorem lk_X8_48 : kLk "MendedTube$Text" 48 Y_X8_fail := Or.inl (km3 91 rfl rfl)
theorem lk_X8_98 : kLk "MendedTube$Text" 98 Y_X8_step := Or.inl (km3 95 rfl rfl)
theorem lk_X8_109 : kLk "MendedTube$Text" 109 Y_X8_readCondition := Or.inl (km3 99 rfl rfl)
theorem lk_X8_118 : kLk "MendedTube$Text" 118 Y_X8_readAll := Or.inl (km3 103 rfl rfl)
theorem lk_X8_121 : kLk "MendedTube$Text" 121 Y_X8_readOne := Or.inl (km3 107 rfl rfl)
theorem lk_X8_124 : kLk "MendedTube$Text" 124 Y_X8_readValue := Or.inl (km3 111 rfl rfl)
theorem lk_X8_127 : kLk "MendedTube$Text" 127 Y_X8_readSign := Or.inl (km3 115 rfl rfl)
set_option maxRecDepth 20000 in
theorem lk_X8_130 : kLk "MendedTube$Text" 130 Y_X6_comparison := Or.inr ⟨"MendedTube", kmN3 119 rfl rfl⟩
theorem lk_X8_115 : kLk "MendedTube$Text" 115 Y_X8_expect := Or.inl (km3 122 rfl rfl)
theorem lk_X8_112 : kLk "MendedTube$Text" 112 Y_X8_readDoing := Or.inl (km3 126 rfl rfl)
set_option maxRecDepth 20000 in
theorem nw_X8_21 : Cond.classLink "MendedTube$Text" 21 "MendedTube$Rules" ∈ kTB := km3 130 rfl rfl
theorem lk_X8_51 : kLk "MendedTube$Text" 51 Y_J7_copyOf_59c91 := Or.inl (km3 131 rfl rfl)
set_option maxRecDepth 20000 in
theorem nw_J7_317 : Cond.classLink "java/util/Arrays" 317 "[I" ∈ kTB := km3 140 rfl rfl
set_option maxRecDepth 20000 in
theorem mk_J7_304 : Cond.methodLink "java/util/Arrays" 304 Lib.Math.min.name ∈ kTB := km3 141 rfl rfl
set_option maxRecDepth 20000 in
theorem lk_X8_57 : kLk "MendedTube$Text" 57 Y_X6_init := Or.inr ⟨"MendedTube", kmN3 143 rfl rfl⟩
set_option maxRecDepth 20000 in
theorem ac_byte : Cond.arrayClass .byte ∈ kTB := km3 144 rfl rfl
theorem lk_L_53 : kLk "MendedTubeLaw" 53 Y_X9_seen := Or.inl (km3 145 rfl rfl)
theorem lk_X9_168 : kLk "MendedTube" 168 Y_X9_shine := Or.inl (km3 149 rfl rfl)
set_option maxRecDepth 20000 in
theorem lk_X9_210 : kLk "MendedTube" 210 Y_X5_through := Or.inr ⟨"MendedTube", kmN3 153 rfl rfl⟩
theorem lk_X5_87 : kLk "MendedTube$Light" 87 Y_X5_throughWith := Or.inl (km3 157 rfl rfl)
theorem lk_X5_94 : kLk "MendedTube$Light" 94 Y_X5_pass := Or.inl (km3 161 rfl rfl)
theorem lk_X5_104 : kLk "MendedTube$Light" 104 Y_X5_put := Or.inl (km3 165 rfl rfl)
theorem lk_X5_107 : kLk "MendedTube$Light" 107 Y_X5_see := Or.inl (km3 169 rfl rfl)
set_option maxRecDepth 20000 in
theorem lk_X9_171 : kLk "MendedTube" 171 Y_X5_seenOf := Or.inr ⟨"MendedTube", kmN3 173 rfl rfl⟩
theorem lk_X5_114 : kLk "MendedTube$Light" 114 Y_X5_heightAt := Or.inl (km3 177 rfl rfl)
theorem lk_L_57 : kLk "MendedTubeLaw" 57 Y_X9_shift := Or.inl (km3 181 rfl rfl)
set_option maxRecDepth 20000 in
theorem lk_X9_174 : kLk "MendedTube" 174 Y_X5_shiftSeen := Or.inr ⟨"MendedTube", kmN3 185 rfl rfl⟩
set_option maxRecDepth 20000 in
theorem mk_X5_117 : Cond.methodLink "MendedTube$Light" 117 Lib.Math.abs.name ∈ kTB := km3 189 rfl rfl
theorem lk_L_61 : kLk "MendedTubeLaw" 61 Y_X9_blur := Or.inl (km3 192 rfl rfl)
set_option maxRecDepth 20000 in
theorem lk_X9_178 : kLk "MendedTube" 178 Y_X5_blurSeen := Or.inr ⟨"MendedTube", kmN3 196 rfl rfl⟩
theorem lk_L_65 : kLk "MendedTubeLaw" 65 Y_X9_wrong := Or.inl (km3 200 rfl rfl)
set_option maxRecDepth 20000 in
theorem lk_X9_181 : kLk "MendedTube" 181 Y_X5_wrongSeen := Or.inr ⟨"MendedTube", kmN3 204 rfl rfl⟩
theorem lk_X5_121 : kLk "MendedTube$Light" 121 Y_X5_shiftSeen := Or.inl (km3 208 rfl rfl)
theorem lk_X5_125 : kLk "MendedTube$Light" 125 Y_X5_blurSeen := Or.inl (km3 209 rfl rfl)
theorem lk_L_69 : kLk "MendedTubeLaw" 69 Y_X9_mended := Or.inl (km3 210 rfl rfl)
set_option maxRecDepth 20000 in
theorem lk_X9_184 : kLk "MendedTube" 184 Y_X5_isMended := Or.inr ⟨"MendedTube", kmN3 214 rfl rfl⟩
theorem lk_X5_128 : kLk "MendedTube$Light" 128 Y_X5_wrongSeen := Or.inl (km3 218 rfl rfl)
theorem lk_L_73 : kLk "MendedTubeLaw" 73 Y_X9_fit := Or.inl (km3 219 rfl rfl)
theorem lk_X9_188 : kLk "MendedTube" 188 Y_X9_isTurn := Or.inl (km3 223 rfl rfl)
theorem lk_L_77 : kLk "MendedTubeLaw" 77 Y_X9_take := Or.inl (km3 226 rfl rfl)
set_option maxRecDepth 20000 in
theorem lk_X9_200 : kLk "MendedTube" 200 Y_X1_hasPlace := Or.inr ⟨"MendedTube", kmN3 230 rfl rfl⟩
theorem lk_L_81 : kLk "MendedTubeLaw" 81 Y_X9_place := Or.inl (km3 234 rfl rfl)
theorem lk_L_85 : kLk "MendedTubeLaw" 85 Y_X9_turn := Or.inl (km3 238 rfl rfl)
theorem lk_L_89 : kLk "MendedTubeLaw" 89 Y_X9_exchange := Or.inl (km4 2 rfl rfl)
set_option maxRecDepth 20000 in
theorem lk_X9_203 : kLk "MendedTube" 203 Y_X1_swap := Or.inr ⟨"MendedTube", kmN4 6 rfl rfl⟩
theorem lk_L_93 : kLk "MendedTubeLaw" 93 Y_X9_price := Or.inl (km4 10 rfl rfl)
theorem lk_L_97 : kLk "MendedTubeLaw" 97 Y_X9_fix := Or.inl (km4 14 rfl rfl)
set_option maxRecDepth 20000 in
theorem lk_X9_207 : kLk "MendedTube" 207 Y_X1_become := Or.inr ⟨"MendedTube", kmN4 18 rfl rfl⟩
theorem lk_L_101 : kLk "MendedTubeLaw" 101 Y_X9_change := Or.inl (km4 23 rfl rfl)
theorem lk_L_105 : kLk "MendedTubeLaw" 105 Y_X9_heatFor := Or.inl (km4 27 rfl rfl)
theorem lk_X9_213 : kLk "MendedTube" 213 Y_X9_isMendedWith := Or.inl (km4 31 rfl rfl)
theorem lk_L_109 : kLk "MendedTubeLaw" 109 Y_X9_eyes := Or.inl (km4 35 rfl rfl)
theorem lk_L_113 : kLk "MendedTubeLaw" 113 Y_X9_least := Or.inl (km4 39 rfl rfl)
theorem lk_X9_217 : kLk "MendedTube" 217 Y_X9_isPut := Or.inl (km4 43 rfl rfl)
set_option maxRecDepth 20000 in
theorem lk_X9_220 : kLk "MendedTube" 220 Y_X4_lookAtTubes := Or.inr ⟨"MendedTube", kmN4 46 rfl rfl⟩
set_option maxRecDepth 20000 in
theorem lk_X4_37 : kLk "MendedTube$Heap" 37 Y_X5_load := Or.inr ⟨"MendedTube", kmN4 50 rfl rfl⟩
theorem lk_X4_62 : kLk "MendedTube$Heap" 62 Y_J7_fill_53178 := Or.inl (km4 51 rfl rfl)
theorem lk_X4_68 : kLk "MendedTube$Heap" 68 Y_X4_walk := Or.inl (km4 52 rfl rfl)
theorem lk_X4_72 : kLk "MendedTube$Heap" 72 Y_X4_weigh := Or.inl (km4 56 rfl rfl)
set_option maxRecDepth 20000 in
theorem lk_X4_80 : kLk "MendedTube$Heap" 80 Y_X5_see := Or.inr ⟨"MendedTube", kmN4 60 rfl rfl⟩
set_option maxRecDepth 20000 in
theorem lk_X4_83 : kLk "MendedTube$Heap" 83 Y_X5_wrongSeen := Or.inr ⟨"MendedTube", kmN4 61 rfl rfl⟩
set_option maxRecDepth 20000 in
theorem lk_X4_87 : kLk "MendedTube$Heap" 87 Y_X5_isMended := Or.inr ⟨"MendedTube", kmN4 62 rfl rfl⟩
theorem lk_X4_91 : kLk "MendedTube$Heap" 91 Y_X4_join := Or.inl (km4 63 rfl rfl)
set_option maxRecDepth 20000 in
theorem lk_X4_76 : kLk "MendedTube$Heap" 76 Y_X5_put := Or.inr ⟨"MendedTube", kmN4 68 rfl rfl⟩
theorem lk_L_117 : kLk "MendedTubeLaw" 117 Y_X9_pick := Or.inl (km4 69 rfl rfl)
theorem lk_L_121 : kLk "MendedTubeLaw" 121 Y_X9_good := Or.inl (km4 73 rfl rfl)
theorem lk_L_125 : kLk "MendedTubeLaw" 125 Y_X9_pairs := Or.inl (km4 77 rfl rfl)
set_option maxRecDepth 20000 in
theorem lk_X9_236 : kLk "MendedTube" 236 Y_X4_match := Or.inr ⟨"MendedTube", kmN4 81 rfl rfl⟩
theorem lk_X4_100 : kLk "MendedTube$Heap" 100 Y_X4_lookAtTubes := Or.inl (km4 85 rfl rfl)
theorem lk_X4_107 : kLk "MendedTube$Heap" 107 Y_X4_pairFrom := Or.inl (km4 86 rfl rfl)
theorem lk_L_129 : kLk "MendedTubeLaw" 129 Y_X9_mate := Or.inl (km4 90 rfl rfl)
theorem lk_L_133 : kLk "MendedTubeLaw" 133 Y_X9_years := Or.inl (km4 94 rfl rfl)
set_option maxRecDepth 20000 in
theorem lk_X9_245 : kLk "MendedTube" 245 Y_X0_lasting := Or.inr ⟨"MendedTube", kmN4 98 rfl rfl⟩
set_option maxRecDepth 20000 in
theorem lk_X0_26 : kLk "MendedTube$Ageing" 26 Y_X1_become := Or.inr ⟨"MendedTube", kmN4 102 rfl rfl⟩
set_option maxRecDepth 20000 in
theorem mk_X0_36 : Cond.methodLink "MendedTube$Ageing" 36 Lib.Math.min.name ∈ kTB := km4 104 rfl rfl
set_option maxRecDepth 20000 in
theorem lk_X0_42 : kLk "MendedTube$Ageing" 42 Y_X5_load := Or.inr ⟨"MendedTube", kmN4 105 rfl rfl⟩
theorem lk_X0_47 : kLk "MendedTube$Ageing" 47 Y_X0_fill := Or.inl (km4 106 rfl rfl)
set_option maxRecDepth 20000 in
theorem lk_X0_62 : kLk "MendedTube$Ageing" 62 Y_X5_see := Or.inr ⟨"MendedTube", kmN4 110 rfl rfl⟩
set_option maxRecDepth 20000 in
theorem lk_X0_66 : kLk "MendedTube$Ageing" 66 Y_X5_isMended := Or.inr ⟨"MendedTube", kmN4 111 rfl rfl⟩
theorem lk_X0_70 : kLk "MendedTube$Ageing" 70 Y_X0_longest := Or.inl (km4 112 rfl rfl)
theorem lk_X0_79 : kLk "MendedTube$Ageing" 79 Y_X0_quarterMore := Or.inl (km4 116 rfl rfl)
set_option maxRecDepth 20000 in
theorem mk_X0_82 : Cond.methodLink "MendedTube$Ageing" 82 Lib.Math.max.name ∈ kTB := km4 119 rfl rfl
set_option maxRecDepth 20000 in
theorem lk_X0_76 : kLk "MendedTube$Ageing" 76 Y_X5_put := Or.inr ⟨"MendedTube", kmN4 120 rfl rfl⟩
theorem lk_X0_51 : kLk "MendedTube$Ageing" 51 Y_X0_turnsNow := Or.inl (km4 121 rfl rfl)
theorem lk_L_137 : kLk "MendedTubeLaw" 137 Y_X9_turned := Or.inl (km4 125 rfl rfl)
set_option maxRecDepth 20000 in
theorem lk_X9_249 : kLk "MendedTube" 249 Y_X0_placeTurned := Or.inr ⟨"MendedTube", kmN4 129 rfl rfl⟩
theorem lk_L_141 : kLk "MendedTubeLaw" 141 Y_X9_game := Or.inl (km4 133 rfl rfl)
set_option maxRecDepth 20000 in
theorem lk_X9_252 : kLk "MendedTube" 252 Y_X2_open := Or.inr ⟨"MendedTube", kmN4 137 rfl rfl⟩
set_option maxRecDepth 20000 in
theorem lk_X2_15 : kLk "MendedTube$Contest" 15 Y_X5_load := Or.inr ⟨"MendedTube", kmN4 141 rfl rfl⟩
set_option maxRecDepth 20000 in
theorem lk_X2_21 : kLk "MendedTube$Contest" 21 Y_X5_through := Or.inr ⟨"MendedTube", kmN4 142 rfl rfl⟩
set_option maxRecDepth 20000 in
theorem mk_X2_42 : Cond.methodLink "MendedTube$Contest" 42 Lib.Math.min.name ∈ kTB := km4 143 rfl rfl
set_option maxRecDepth 20000 in
theorem lk_X9_255 : kLk "MendedTube" 255 Y_X2_firstWins := Or.inr ⟨"MendedTube", kmN4 144 rfl rfl⟩
set_option maxRecDepth 20000 in
theorem lk_X2_51 : kLk "MendedTube$Contest" 51 Y_X5_see := Or.inr ⟨"MendedTube", kmN4 148 rfl rfl⟩
set_option maxRecDepth 20000 in
theorem lk_X2_55 : kLk "MendedTube$Contest" 55 Y_X5_isMended := Or.inr ⟨"MendedTube", kmN4 149 rfl rfl⟩
theorem lk_X2_59 : kLk "MendedTube$Contest" 59 Y_X2_firstWinsBehind := Or.inl (km4 150 rfl rfl)
set_option maxRecDepth 20000 in
theorem lk_X2_63 : kLk "MendedTube$Contest" 63 Y_X5_put := Or.inr ⟨"MendedTube", kmN4 154 rfl rfl⟩
theorem lk_X2_67 : kLk "MendedTube$Contest" 67 Y_X2_firstWins := Or.inl (km4 155 rfl rfl)
theorem lk_L_145 : kLk "MendedTubeLaw" 145 Y_X9_play := Or.inl (km4 156 rfl rfl)
set_option maxRecDepth 20000 in
theorem lk_X9_258 : kLk "MendedTube" 258 Y_X2_firstMove := Or.inr ⟨"MendedTube", kmN4 160 rfl rfl⟩
theorem lk_L_149 : kLk "MendedTubeLaw" 149 Y_X9_report := Or.inl (km4 164 rfl rfl)
theorem lk_L_153 : kLk "MendedTubeLaw" 153 Y_X9_forget := Or.inl (km4 168 rfl rfl)
theorem lk_L_157 : kLk "MendedTubeLaw" 157 Y_X9_span := Or.inl (km4 172 rfl rfl)
theorem lk_X9_270 : kLk "MendedTube" 270 Y_X9_findBends := Or.inl (km4 176 rfl rfl)
set_option maxRecDepth 20000 in
theorem lk_X9_377 : kLk "MendedTube" 377 Y_X5_throughWith := Or.inr ⟨"MendedTube", kmN4 180 rfl rfl⟩
theorem lk_X9_273 : kLk "MendedTube" 273 Y_X9_bendsThatFit := Or.inl (km4 181 rfl rfl)
set_option maxRecDepth 20000 in
theorem ci_X9_381 : Cond.constant "MendedTube" 381 (524287) ∈ kTB := km4 185 rfl rfl
theorem lk_X9_276 : kLk "MendedTube" 276 Y_J6_bitCount_0f7a4 := Or.inl (km4 186 rfl rfl)
set_option maxRecDepth 20000 in
theorem ci_J6_265 : Cond.constant "java/lang/Integer" 265 (1431655765) ∈ kTB := km4 189 rfl rfl
set_option maxRecDepth 20000 in
theorem ci_J6_266 : Cond.constant "java/lang/Integer" 266 (858993459) ∈ kTB := km4 190 rfl rfl
set_option maxRecDepth 20000 in
theorem ci_J6_267 : Cond.constant "java/lang/Integer" 267 (252645135) ∈ kTB := km4 191 rfl rfl
theorem lk_X9_281 : kLk "MendedTube" 281 Y_X9_leastBend := Or.inl (km4 192 rfl rfl)
theorem lk_X9_284 : kLk "MendedTube" 284 Y_X9_greatestBend := Or.inl (km4 195 rfl rfl)
theorem lk_L_161 : kLk "MendedTubeLaw" 161 Y_X9_liar := Or.inl (km4 198 rfl rfl)
theorem lk_L_165 : kLk "MendedTubeLaw" 165 Y_X9_seed := Or.inl (km4 202 rfl rfl)
theorem lk_L_169 : kLk "MendedTubeLaw" 169 Y_X9_draw := Or.inl (km4 206 rfl rfl)
set_option maxRecDepth 20000 in
theorem lk_X9_290 : kLk "MendedTube" 290 Y_X1_drawn := Or.inr ⟨"MendedTube", kmN4 210 rfl rfl⟩
set_option maxRecDepth 20000 in
theorem ci_X1_62 : Cond.constant "MendedTube$Bench" 62 (1103515245) ∈ kTB := km4 214 rfl rfl
theorem lk_L_173 : kLk "MendedTubeLaw" 173 Y_X9_often := Or.inl (km4 215 rfl rfl)
theorem lk_L_177 : kLk "MendedTubeLaw" 177 Y_X9_prove := Or.inl (km4 219 rfl rfl)
theorem lk_X9_296 : kLk "MendedTube" 296 Y_X9_dueThrough := Or.inl (km4 223 rfl rfl)
set_option maxRecDepth 20000 in
theorem lk_X9_299 : kLk "MendedTube" 299 Y_X5_heightAt := Or.inr ⟨"MendedTube", kmN4 227 rfl rfl⟩
set_option maxRecDepth 20000 in
theorem lk_X9_303 : kLk "MendedTube" 303 Y_X5_slopeAt := Or.inr ⟨"MendedTube", kmN4 228 rfl rfl⟩
theorem lk_L_181 : kLk "MendedTubeLaw" 181 Y_X9_row := Or.inl (km4 232 rfl rfl)
theorem lk_X9_306 : kLk "MendedTube" 306 Y_X9_isInRows := Or.inl (km4 236 rfl rfl)
theorem lk_L_185 : kLk "MendedTubeLaw" 185 Y_X9_alterRow := Or.inl (km5 0 rfl rfl)
theorem lk_L_189 : kLk "MendedTubeLaw" 189 Y_X9_judge := Or.inl (km5 4 rfl rfl)
theorem lk_X9_309 : kLk "MendedTube" 309 Y_X9_isRightRow := Or.inl (km5 8 rfl rfl)
theorem lk_L_193 : kLk "MendedTubeLaw" 193 Y_X9_sheet := Or.inl (km5 12 rfl rfl)
theorem lk_X9_312 : kLk "MendedTube" 312 Y_X9_isSheet := Or.inl (km5 16 rfl rfl)
theorem lk_X9_315 : kLk "MendedTube" 315 Y_X9_isSort := Or.inl (km5 19 rfl rfl)
set_option maxRecDepth 20000 in
theorem ins_X7 : Cond.instantiable "MendedTube$Sheet" 2 ∈ kTB := km5 22 rfl rfl
set_option maxRecDepth 20000 in
theorem lk_X9_318 : kLk "MendedTube" 318 Y_X7_init := Or.inr ⟨"MendedTube", kmN5 23 rfl rfl⟩
theorem gf_X7_9 : kGF "MendedTube$Sheet" 9 7 0 := ⟨(RX7, TX7, 2), rfl, by decide, Or.inl (km5 27 rfl rfl)⟩
set_option maxRecDepth 20000 in
theorem gi_X7_9 : kGI "MendedTube$Sheet" 9 7 0 := ⟨(RX7, TX7, 2), rfl, by decide, rfl, rfl, km5 27 rfl rfl⟩
set_option maxRecDepth 20000 in
theorem gf_X9_329 : kGF "MendedTube" 329 7 0 := ⟨(RX7, TX7, 2), rfl, by decide, Or.inr ⟨"MendedTube", kmN5 28 rfl rfl⟩⟩
theorem gf_X7_15 : kGF "MendedTube$Sheet" 15 7 1 := ⟨(RX7, TX7, 2), rfl, by decide, Or.inl (km5 29 rfl rfl)⟩
set_option maxRecDepth 20000 in
theorem gi_X7_15 : kGI "MendedTube$Sheet" 15 7 1 := ⟨(RX7, TX7, 2), rfl, by decide, rfl, rfl, km5 29 rfl rfl⟩
set_option maxRecDepth 20000 in
theorem gf_X9_323 : kGF "MendedTube" 323 7 1 := ⟨(RX7, TX7, 2), rfl, by decide, Or.inr ⟨"MendedTube", kmN5 30 rfl rfl⟩⟩
theorem lk_L_197 : kLk "MendedTubeLaw" 197 Y_X9_write := Or.inl (km5 36 rfl rfl)
set_option maxRecDepth 20000 in
theorem lk_X9_320 : kLk "MendedTube" 320 Y_X7_hasItem := Or.inr ⟨"MendedTube", kmN5 40 rfl rfl⟩
set_option maxRecDepth 20000 in
theorem lk_X7_19 : kLk "MendedTube$Sheet" 19 Y_X9_isWithin := Or.inr ⟨"MendedTube", kmN5 44 rfl rfl⟩
set_option maxRecDepth 20000 in
theorem lk_X9_326 : kLk "MendedTube" 326 Y_X7_narrowed := Or.inr ⟨"MendedTube", kmN5 45 rfl rfl⟩
theorem lk_L_201 : kLk "MendedTubeLaw" 201 Y_X9_item := Or.inl (km5 49 rfl rfl)
theorem lk_L_205 : kLk "MendedTubeLaw" 205 Y_X9_fits := Or.inl (km5 53 rfl rfl)
theorem lk_X9_332 : kLk "MendedTube" 332 Y_X9_fit := Or.inl (km5 57 rfl rfl)
theorem lk_L_209 : kLk "MendedTubeLaw" 209 Y_X9_spread := Or.inl (km5 58 rfl rfl)
theorem lk_L_213 : kLk "MendedTubeLaw" 213 Y_X9_shelf := Or.inl (km5 62 rfl rfl)
theorem lk_X9_335 : kLk "MendedTube" 335 Y_X9_isShelf := Or.inl (km5 66 rfl rfl)
theorem lk_X9_338 : kLk "MendedTube" 338 Y_X9_putOnShelf := Or.inl (km5 69 rfl rfl)
theorem lk_L_217 : kLk "MendedTubeLaw" 217 Y_X9_taken := Or.inl (km5 73 rfl rfl)
theorem lk_X9_342 : kLk "MendedTube" 342 Y_X9_isUnder := Or.inl (km5 77 rfl rfl)
theorem lk_L_221 : kLk "MendedTubeLaw" 221 Y_X9_act := Or.inl (km5 78 rfl rfl)
set_option maxRecDepth 20000 in
theorem lk_X9_348 : kLk "MendedTube" 348 Y_X3_hold := Or.inr ⟨"MendedTube", kmN5 82 rfl rfl⟩
set_option maxRecDepth 20000 in
theorem lk_X9_352 : kLk "MendedTube" 352 Y_X3_dims := Or.inr ⟨"MendedTube", kmN5 86 rfl rfl⟩
theorem lk_X3_32 : kLk "MendedTube$Deed" 32 Y_X3_begin := Or.inl (km5 90 rfl rfl)
theorem lk_X3_36 : kLk "MendedTube$Deed" 36 Y_X3_lensDims := Or.inl (km5 94 rfl rfl)
set_option maxRecDepth 20000 in
theorem lk_X9_355 : kLk "MendedTube" 355 Y_X3_widens := Or.inr ⟨"MendedTube", kmN5 98 rfl rfl⟩
theorem lk_X3_40 : kLk "MendedTube$Deed" 40 Y_X3_lensWidens := Or.inl (km5 102 rfl rfl)
theorem lk_X3_43 : kLk "MendedTube$Deed" 43 Y_X3_dims := Or.inl (km5 106 rfl rfl)
set_option maxRecDepth 20000 in
theorem lk_X9_358 : kLk "MendedTube" 358 Y_X3_parts := Or.inr ⟨"MendedTube", kmN5 107 rfl rfl⟩
theorem lk_X3_46 : kLk "MendedTube$Deed" 46 Y_X3_twinParts := Or.inl (km5 111 rfl rfl)
theorem lk_X3_49 : kLk "MendedTube$Deed" 49 Y_X3_lensParts := Or.inl (km5 115 rfl rfl)
set_option maxRecDepth 20000 in
theorem lk_X9_361 : kLk "MendedTube" 361 Y_X3_tells := Or.inr ⟨"MendedTube", kmN5 119 rfl rfl⟩
theorem lk_X3_52 : kLk "MendedTube$Deed" 52 Y_X3_lensTells := Or.inl (km5 123 rfl rfl)
theorem lk_X3_58 : kLk "MendedTube$Deed" 58 Y_X3_widens := Or.inl (km5 127 rfl rfl)
theorem lk_X3_55 : kLk "MendedTube$Deed" 55 Y_X3_parts := Or.inl (km5 128 rfl rfl)
theorem lk_L_225 : kLk "MendedTubeLaw" 225 Y_X9_trace := Or.inl (km5 129 rfl rfl)
theorem lk_L_229 : kLk "MendedTubeLaw" 229 Y_X9_many := Or.inl (km5 133 rfl rfl)
theorem lk_L_233 : kLk "MendedTubeLaw" 233 Y_X9_keep := Or.inl (km5 137 rfl rfl)
theorem lk_L_237 : kLk "MendedTubeLaw" 237 Y_X9_again := Or.inl (km5 141 rfl rfl)
set_option maxRecDepth 20000 in
theorem nw_L_10 : Cond.classLink "MendedTubeLaw" 10 "MendedTubeModel" ∈ kTB := km5 145 rfl rfl
set_option maxRecDepth 20000 in
theorem ins_X10 : Cond.instantiable "MendedTubeModel" 43 ∈ kTB := km5 146 rfl rfl
theorem lk_L_12 : kLk "MendedTubeLaw" 12 Y_X10_init := Or.inl (km5 147 rfl rfl)
theorem gf_X10_7 : kGF "MendedTubeModel" 7 10 0 := ⟨(RX10, TX10, 43), rfl, by decide, Or.inl (km5 151 rfl rfl)⟩
set_option maxRecDepth 20000 in
theorem gi_X10_7 : kGI "MendedTubeModel" 7 10 0 := ⟨(RX10, TX10, 43), rfl, by decide, rfl, rfl, km5 151 rfl rfl⟩
theorem gf_X10_13 : kGF "MendedTubeModel" 13 10 1 := ⟨(RX10, TX10, 43), rfl, by decide, Or.inl (km5 152 rfl rfl)⟩
set_option maxRecDepth 20000 in
theorem gi_X10_13 : kGI "MendedTubeModel" 13 10 1 := ⟨(RX10, TX10, 43), rfl, by decide, rfl, rfl, km5 152 rfl rfl⟩
theorem gf_X10_16 : kGF "MendedTubeModel" 16 10 2 := ⟨(RX10, TX10, 43), rfl, by decide, Or.inl (km5 153 rfl rfl)⟩
set_option maxRecDepth 20000 in
theorem gi_X10_16 : kGI "MendedTubeModel" 16 10 2 := ⟨(RX10, TX10, 43), rfl, by decide, rfl, rfl, km5 153 rfl rfl⟩
theorem gf_X10_460 : kGF "MendedTubeModel" 460 10 3 := ⟨(RX10, TX10, 43), rfl, by decide, Or.inl (km5 154 rfl rfl)⟩
theorem gp_X10_460 : kGP "MendedTubeModel" 460 10 3 := ⟨(RX10, TX10, 43), rfl, by decide, rfl, Or.inl (km5 154 rfl rfl)⟩
theorem gf_X10_19 : kGF "MendedTubeModel" 19 10 4 := ⟨(RX10, TX10, 43), rfl, by decide, Or.inl (km5 155 rfl rfl)⟩
set_option maxRecDepth 20000 in
theorem gi_X10_19 : kGI "MendedTubeModel" 19 10 4 := ⟨(RX10, TX10, 43), rfl, by decide, rfl, rfl, km5 155 rfl rfl⟩
theorem gf_X10_22 : kGF "MendedTubeModel" 22 10 5 := ⟨(RX10, TX10, 43), rfl, by decide, Or.inl (km5 156 rfl rfl)⟩
set_option maxRecDepth 20000 in
theorem gi_X10_22 : kGI "MendedTubeModel" 22 10 5 := ⟨(RX10, TX10, 43), rfl, by decide, rfl, rfl, km5 156 rfl rfl⟩
theorem gf_X10_25 : kGF "MendedTubeModel" 25 10 6 := ⟨(RX10, TX10, 43), rfl, by decide, Or.inl (km5 157 rfl rfl)⟩
set_option maxRecDepth 20000 in
theorem gi_X10_25 : kGI "MendedTubeModel" 25 10 6 := ⟨(RX10, TX10, 43), rfl, by decide, rfl, rfl, km5 157 rfl rfl⟩
theorem gf_X10_28 : kGF "MendedTubeModel" 28 10 7 := ⟨(RX10, TX10, 43), rfl, by decide, Or.inl (km5 158 rfl rfl)⟩
set_option maxRecDepth 20000 in
theorem gi_X10_28 : kGI "MendedTubeModel" 28 10 7 := ⟨(RX10, TX10, 43), rfl, by decide, rfl, rfl, km5 158 rfl rfl⟩
theorem gf_X10_135 : kGF "MendedTubeModel" 135 10 8 := ⟨(RX10, TX10, 43), rfl, by decide, Or.inl (km5 159 rfl rfl)⟩
theorem gp_X10_135 : kGP "MendedTubeModel" 135 10 8 := ⟨(RX10, TX10, 43), rfl, by decide, rfl, Or.inl (km5 159 rfl rfl)⟩
theorem gf_X10_146 : kGF "MendedTubeModel" 146 10 9 := ⟨(RX10, TX10, 43), rfl, by decide, Or.inl (km5 160 rfl rfl)⟩
theorem gp_X10_146 : kGP "MendedTubeModel" 146 10 9 := ⟨(RX10, TX10, 43), rfl, by decide, rfl, Or.inl (km5 160 rfl rfl)⟩
theorem gf_X10_143 : kGF "MendedTubeModel" 143 10 10 := ⟨(RX10, TX10, 43), rfl, by decide, Or.inl (km5 161 rfl rfl)⟩
theorem gp_X10_143 : kGP "MendedTubeModel" 143 10 10 := ⟨(RX10, TX10, 43), rfl, by decide, rfl, Or.inl (km5 161 rfl rfl)⟩
theorem gf_X10_31 : kGF "MendedTubeModel" 31 10 11 := ⟨(RX10, TX10, 43), rfl, by decide, Or.inl (km5 162 rfl rfl)⟩
set_option maxRecDepth 20000 in
theorem gi_X10_31 : kGI "MendedTubeModel" 31 10 11 := ⟨(RX10, TX10, 43), rfl, by decide, rfl, rfl, km5 162 rfl rfl⟩
theorem gf_X10_34 : kGF "MendedTubeModel" 34 10 12 := ⟨(RX10, TX10, 43), rfl, by decide, Or.inl (km5 163 rfl rfl)⟩
set_option maxRecDepth 20000 in
theorem gi_X10_34 : kGI "MendedTubeModel" 34 10 12 := ⟨(RX10, TX10, 43), rfl, by decide, rfl, rfl, km5 163 rfl rfl⟩
theorem gf_X10_188 : kGF "MendedTubeModel" 188 10 13 := ⟨(RX10, TX10, 43), rfl, by decide, Or.inl (km5 164 rfl rfl)⟩
theorem gp_X10_188 : kGP "MendedTubeModel" 188 10 13 := ⟨(RX10, TX10, 43), rfl, by decide, rfl, Or.inl (km5 164 rfl rfl)⟩
theorem gf_X10_185 : kGF "MendedTubeModel" 185 10 14 := ⟨(RX10, TX10, 43), rfl, by decide, Or.inl (km5 165 rfl rfl)⟩
theorem gp_X10_185 : kGP "MendedTubeModel" 185 10 14 := ⟨(RX10, TX10, 43), rfl, by decide, rfl, Or.inl (km5 165 rfl rfl)⟩
theorem gf_X10_37 : kGF "MendedTubeModel" 37 10 15 := ⟨(RX10, TX10, 43), rfl, by decide, Or.inl (km5 166 rfl rfl)⟩
set_option maxRecDepth 20000 in
theorem gi_X10_37 : kGI "MendedTubeModel" 37 10 15 := ⟨(RX10, TX10, 43), rfl, by decide, rfl, rfl, km5 166 rfl rfl⟩
theorem gf_X10_41 : kGF "MendedTubeModel" 41 10 16 := ⟨(RX10, TX10, 43), rfl, by decide, Or.inl (km5 167 rfl rfl)⟩
set_option maxRecDepth 20000 in
theorem gi_X10_41 : kGI "MendedTubeModel" 41 10 16 := ⟨(RX10, TX10, 43), rfl, by decide, rfl, rfl, km5 167 rfl rfl⟩
theorem gf_X10_44 : kGF "MendedTubeModel" 44 10 17 := ⟨(RX10, TX10, 43), rfl, by decide, Or.inl (km5 168 rfl rfl)⟩
set_option maxRecDepth 20000 in
theorem gi_X10_44 : kGI "MendedTubeModel" 44 10 17 := ⟨(RX10, TX10, 43), rfl, by decide, rfl, rfl, km5 168 rfl rfl⟩
theorem gf_X10_235 : kGF "MendedTubeModel" 235 10 18 := ⟨(RX10, TX10, 43), rfl, by decide, Or.inl (km5 169 rfl rfl)⟩
theorem gp_X10_235 : kGP "MendedTubeModel" 235 10 18 := ⟨(RX10, TX10, 43), rfl, by decide, rfl, Or.inl (km5 169 rfl rfl)⟩
theorem gf_X10_241 : kGF "MendedTubeModel" 241 10 19 := ⟨(RX10, TX10, 43), rfl, by decide, Or.inl (km5 170 rfl rfl)⟩
theorem gp_X10_241 : kGP "MendedTubeModel" 241 10 19 := ⟨(RX10, TX10, 43), rfl, by decide, rfl, Or.inl (km5 170 rfl rfl)⟩
theorem gf_X10_244 : kGF "MendedTubeModel" 244 10 20 := ⟨(RX10, TX10, 43), rfl, by decide, Or.inl (km5 171 rfl rfl)⟩
theorem gp_X10_244 : kGP "MendedTubeModel" 244 10 20 := ⟨(RX10, TX10, 43), rfl, by decide, rfl, Or.inl (km5 171 rfl rfl)⟩
theorem gf_X10_47 : kGF "MendedTubeModel" 47 10 21 := ⟨(RX10, TX10, 43), rfl, by decide, Or.inl (km5 172 rfl rfl)⟩
set_option maxRecDepth 20000 in
theorem gi_X10_47 : kGI "MendedTubeModel" 47 10 21 := ⟨(RX10, TX10, 43), rfl, by decide, rfl, rfl, km5 172 rfl rfl⟩
theorem gf_X10_264 : kGF "MendedTubeModel" 264 10 22 := ⟨(RX10, TX10, 43), rfl, by decide, Or.inl (km5 173 rfl rfl)⟩
theorem gp_X10_264 : kGP "MendedTubeModel" 264 10 22 := ⟨(RX10, TX10, 43), rfl, by decide, rfl, Or.inl (km5 173 rfl rfl)⟩
theorem gf_X10_50 : kGF "MendedTubeModel" 50 10 23 := ⟨(RX10, TX10, 43), rfl, by decide, Or.inl (km5 174 rfl rfl)⟩
set_option maxRecDepth 20000 in
theorem gi_X10_50 : kGI "MendedTubeModel" 50 10 23 := ⟨(RX10, TX10, 43), rfl, by decide, rfl, rfl, km5 174 rfl rfl⟩
theorem gf_X10_275 : kGF "MendedTubeModel" 275 10 24 := ⟨(RX10, TX10, 43), rfl, by decide, Or.inl (km5 175 rfl rfl)⟩
theorem gp_X10_275 : kGP "MendedTubeModel" 275 10 24 := ⟨(RX10, TX10, 43), rfl, by decide, rfl, Or.inl (km5 175 rfl rfl)⟩
theorem gf_X10_291 : kGF "MendedTubeModel" 291 10 25 := ⟨(RX10, TX10, 43), rfl, by decide, Or.inl (km5 176 rfl rfl)⟩
theorem gp_X10_291 : kGP "MendedTubeModel" 291 10 25 := ⟨(RX10, TX10, 43), rfl, by decide, rfl, Or.inl (km5 176 rfl rfl)⟩
theorem gf_X10_288 : kGF "MendedTubeModel" 288 10 26 := ⟨(RX10, TX10, 43), rfl, by decide, Or.inl (km5 177 rfl rfl)⟩
theorem gp_X10_288 : kGP "MendedTubeModel" 288 10 26 := ⟨(RX10, TX10, 43), rfl, by decide, rfl, Or.inl (km5 177 rfl rfl)⟩
theorem gf_X10_314 : kGF "MendedTubeModel" 314 10 27 := ⟨(RX10, TX10, 43), rfl, by decide, Or.inl (km5 178 rfl rfl)⟩
theorem gp_X10_314 : kGP "MendedTubeModel" 314 10 27 := ⟨(RX10, TX10, 43), rfl, by decide, rfl, Or.inl (km5 178 rfl rfl)⟩
theorem gf_X10_364 : kGF "MendedTubeModel" 364 10 28 := ⟨(RX10, TX10, 43), rfl, by decide, Or.inl (km5 179 rfl rfl)⟩
theorem gp_X10_364 : kGP "MendedTubeModel" 364 10 28 := ⟨(RX10, TX10, 43), rfl, by decide, rfl, Or.inl (km5 179 rfl rfl)⟩
theorem gf_X10_347 : kGF "MendedTubeModel" 347 10 29 := ⟨(RX10, TX10, 43), rfl, by decide, Or.inl (km5 180 rfl rfl)⟩
theorem gp_X10_347 : kGP "MendedTubeModel" 347 10 29 := ⟨(RX10, TX10, 43), rfl, by decide, rfl, Or.inl (km5 180 rfl rfl)⟩
theorem gf_X10_303 : kGF "MendedTubeModel" 303 10 30 := ⟨(RX10, TX10, 43), rfl, by decide, Or.inl (km5 181 rfl rfl)⟩
theorem gp_X10_303 : kGP "MendedTubeModel" 303 10 30 := ⟨(RX10, TX10, 43), rfl, by decide, rfl, Or.inl (km5 181 rfl rfl)⟩
theorem gf_X10_53 : kGF "MendedTubeModel" 53 10 31 := ⟨(RX10, TX10, 43), rfl, by decide, Or.inl (km5 182 rfl rfl)⟩
set_option maxRecDepth 20000 in
theorem gi_X10_53 : kGI "MendedTubeModel" 53 10 31 := ⟨(RX10, TX10, 43), rfl, by decide, rfl, rfl, km5 182 rfl rfl⟩
theorem gf_X10_56 : kGF "MendedTubeModel" 56 10 32 := ⟨(RX10, TX10, 43), rfl, by decide, Or.inl (km5 183 rfl rfl)⟩
set_option maxRecDepth 20000 in
theorem gi_X10_56 : kGI "MendedTubeModel" 56 10 32 := ⟨(RX10, TX10, 43), rfl, by decide, rfl, rfl, km5 183 rfl rfl⟩
theorem gf_X10_59 : kGF "MendedTubeModel" 59 10 33 := ⟨(RX10, TX10, 43), rfl, by decide, Or.inl (km5 184 rfl rfl)⟩
set_option maxRecDepth 20000 in
theorem gi_X10_59 : kGI "MendedTubeModel" 59 10 33 := ⟨(RX10, TX10, 43), rfl, by decide, rfl, rfl, km5 184 rfl rfl⟩
theorem gf_X10_62 : kGF "MendedTubeModel" 62 10 34 := ⟨(RX10, TX10, 43), rfl, by decide, Or.inl (km5 185 rfl rfl)⟩
set_option maxRecDepth 20000 in
theorem gi_X10_62 : kGI "MendedTubeModel" 62 10 34 := ⟨(RX10, TX10, 43), rfl, by decide, rfl, rfl, km5 185 rfl rfl⟩
theorem gf_X10_65 : kGF "MendedTubeModel" 65 10 35 := ⟨(RX10, TX10, 43), rfl, by decide, Or.inl (km5 186 rfl rfl)⟩
set_option maxRecDepth 20000 in
theorem gi_X10_65 : kGI "MendedTubeModel" 65 10 35 := ⟨(RX10, TX10, 43), rfl, by decide, rfl, rfl, km5 186 rfl rfl⟩
theorem gf_X10_68 : kGF "MendedTubeModel" 68 10 36 := ⟨(RX10, TX10, 43), rfl, by decide, Or.inl (km5 187 rfl rfl)⟩
set_option maxRecDepth 20000 in
theorem gi_X10_68 : kGI "MendedTubeModel" 68 10 36 := ⟨(RX10, TX10, 43), rfl, by decide, rfl, rfl, km5 187 rfl rfl⟩
theorem gf_X10_71 : kGF "MendedTubeModel" 71 10 37 := ⟨(RX10, TX10, 43), rfl, by decide, Or.inl (km5 188 rfl rfl)⟩
set_option maxRecDepth 20000 in
theorem gi_X10_71 : kGI "MendedTubeModel" 71 10 37 := ⟨(RX10, TX10, 43), rfl, by decide, rfl, rfl, km5 188 rfl rfl⟩
theorem gf_X10_427 : kGF "MendedTubeModel" 427 10 38 := ⟨(RX10, TX10, 43), rfl, by decide, Or.inl (km5 189 rfl rfl)⟩
theorem gp_X10_427 : kGP "MendedTubeModel" 427 10 38 := ⟨(RX10, TX10, 43), rfl, by decide, rfl, Or.inl (km5 189 rfl rfl)⟩
theorem gf_X10_439 : kGF "MendedTubeModel" 439 10 39 := ⟨(RX10, TX10, 43), rfl, by decide, Or.inl (km5 190 rfl rfl)⟩
theorem gp_X10_439 : kGP "MendedTubeModel" 439 10 39 := ⟨(RX10, TX10, 43), rfl, by decide, rfl, Or.inl (km5 190 rfl rfl)⟩
theorem gf_X10_436 : kGF "MendedTubeModel" 436 10 40 := ⟨(RX10, TX10, 43), rfl, by decide, Or.inl (km5 191 rfl rfl)⟩
theorem gp_X10_436 : kGP "MendedTubeModel" 436 10 40 := ⟨(RX10, TX10, 43), rfl, by decide, rfl, Or.inl (km5 191 rfl rfl)⟩
theorem gf_X10_430 : kGF "MendedTubeModel" 430 10 41 := ⟨(RX10, TX10, 43), rfl, by decide, Or.inl (km5 192 rfl rfl)⟩
theorem gp_X10_430 : kGP "MendedTubeModel" 430 10 41 := ⟨(RX10, TX10, 43), rfl, by decide, rfl, Or.inl (km5 192 rfl rfl)⟩
theorem gf_X10_424 : kGF "MendedTubeModel" 424 10 42 := ⟨(RX10, TX10, 43), rfl, by decide, Or.inl (km5 193 rfl rfl)⟩
theorem gp_X10_424 : kGP "MendedTubeModel" 424 10 42 := ⟨(RX10, TX10, 43), rfl, by decide, rfl, Or.inl (km5 193 rfl rfl)⟩
set_option maxRecDepth 20000 in
theorem ac_boolean : Cond.arrayClass .boolean ∈ kTB := km6 41 rfl rfl
theorem lk_L_17 : kLk "MendedTubeLaw" 17 Y_X10_lens := Or.inl (km6 42 rfl rfl)
theorem lk_X10_90 : kLk "MendedTubeModel" 90 Y_X10_isKind := Or.inl (km6 46 rfl rfl)
set_option maxRecDepth 20000 in
theorem cl_X10_82 : Cond.constantLong "MendedTubeModel" 82 (5) ∈ kTB := km6 49 rfl rfl
theorem lk_X10_74 : kLk "MendedTubeModel" 74 Y_X10_in := Or.inl (km6 50 rfl rfl)
theorem lk_X10_94 : kLk "MendedTubeModel" 94 Y_X10_isPart := Or.inl (km6 53 rfl rfl)
set_option maxRecDepth 20000 in
theorem cl_X10_84 : Cond.constantLong "MendedTubeModel" 84 (-9) ∈ kTB := km6 56 rfl rfl
set_option maxRecDepth 20000 in
theorem cl_X10_86 : Cond.constantLong "MendedTubeModel" 86 (9) ∈ kTB := km6 57 rfl rfl
set_option maxRecDepth 20000 in
theorem cl_X10_88 : Cond.constantLong "MendedTubeModel" 88 (999) ∈ kTB := km6 58 rfl rfl
theorem lk_X10_78 : kLk "MendedTubeModel" 78 Y_X10_at := Or.inl (km6 59 rfl rfl)
theorem lk_L_22 : kLk "MendedTubeLaw" 22 Y_X10_lensOf := Or.inl (km6 62 rfl rfl)
theorem lk_X10_114 : kLk "MendedTubeModel" 114 Y_X10_isLens := Or.inl (km6 66 rfl rfl)
theorem lk_X10_117 : kLk "MendedTubeModel" 117 Y_X10_strengthOf := Or.inl (km6 70 rfl rfl)
theorem lk_X10_98 : kLk "MendedTubeModel" 98 Y_X10_its := Or.inl (km6 74 rfl rfl)
theorem lk_X10_108 : kLk "MendedTubeModel" 108 Y_X10_isUnder := Or.inl (km6 78 rfl rfl)
theorem lk_X10_111 : kLk "MendedTubeModel" 111 Y_X10_isSo := Or.inl (km6 81 rfl rfl)
theorem lk_X10_101 : kLk "MendedTubeModel" 101 Y_X10_fact := Or.inl (km6 85 rfl rfl)
theorem lk_X10_104 : kLk "MendedTubeModel" 104 Y_X10_isHolding := Or.inl (km6 89 rfl rfl)
theorem lk_X10_121 : kLk "MendedTubeModel" 121 Y_X10_placeOf := Or.inl (km6 92 rfl rfl)
theorem lk_L_27 : kLk "MendedTubeLaw" 27 Y_X10_grind := Or.inl (km6 96 rfl rfl)
theorem lk_X10_124 : kLk "MendedTubeModel" 124 Y_X10_becomes := Or.inl (km6 100 rfl rfl)
theorem lk_L_31 : kLk "MendedTubeLaw" 31 Y_X10_remake := Or.inl (km6 104 rfl rfl)
theorem lk_L_36 : kLk "MendedTubeLaw" 36 Y_X10_setting := Or.inl (km6 108 rfl rfl)
set_option maxRecDepth 20000 in
theorem cl_X10_127 : Cond.constantLong "MendedTubeModel" 127 (3) ∈ kTB := km6 112 rfl rfl
theorem lk_L_40 : kLk "MendedTubeLaw" 40 Y_X10_let := Or.inl (km6 113 rfl rfl)
theorem lk_L_56 : kLk "MendedTubeLaw" 56 Y_X10_seen := Or.inl (km6 117 rfl rfl)
theorem lk_X10_163 : kLk "MendedTubeModel" 163 Y_X10_isHeight := Or.inl (km6 121 rfl rfl)
theorem lk_X10_166 : kLk "MendedTubeModel" 166 Y_X10_layTube := Or.inl (km6 124 rfl rfl)
theorem lk_X10_129 : kLk "MendedTubeModel" 129 Y_X10_findStrengths := Or.inl (km6 128 rfl rfl)
theorem lk_X10_132 : kLk "MendedTubeModel" 132 Y_X10_layPlaces := Or.inl (km6 132 rfl rfl)
theorem lk_X10_139 : kLk "MendedTubeModel" 139 Y_X10_thinks := Or.inl (km6 136 rfl rfl)
theorem lk_X10_153 : kLk "MendedTubeModel" 153 Y_X10_seenBy := Or.inl (km6 140 rfl rfl)
theorem lk_X10_149 : kLk "MendedTubeModel" 149 Y_X10_through := Or.inl (km6 144 rfl rfl)
theorem lk_L_60 : kLk "MendedTubeLaw" 60 Y_X10_shift := Or.inl (km6 148 rfl rfl)
theorem lk_X10_156 : kLk "MendedTubeModel" 156 Y_X10_sizeOf := Or.inl (km6 152 rfl rfl)
theorem lk_L_64 : kLk "MendedTubeLaw" 64 Y_X10_blur := Or.inl (km6 155 rfl rfl)
theorem lk_L_68 : kLk "MendedTubeLaw" 68 Y_X10_wrong := Or.inl (km6 159 rfl rfl)
theorem lk_X10_159 : kLk "MendedTubeModel" 159 Y_X10_wrongOf := Or.inl (km6 163 rfl rfl)
theorem lk_L_72 : kLk "MendedTubeLaw" 72 Y_X10_mended := Or.inl (km6 167 rfl rfl)
theorem lk_X10_169 : kLk "MendedTubeModel" 169 Y_X10_isMended := Or.inl (km6 171 rfl rfl)
theorem lk_L_76 : kLk "MendedTubeLaw" 76 Y_X10_fit := Or.inl (km6 175 rfl rfl)
theorem lk_X10_173 : kLk "MendedTubeModel" 173 Y_X10_isTurn := Or.inl (km6 179 rfl rfl)
theorem lk_X10_176 : kLk "MendedTubeModel" 176 Y_X10_comes := Or.inl (km6 182 rfl rfl)
theorem lk_L_80 : kLk "MendedTubeLaw" 80 Y_X10_take := Or.inl (km6 186 rfl rfl)
theorem lk_X10_179 : kLk "MendedTubeModel" 179 Y_X10_isPlace := Or.inl (km6 190 rfl rfl)
theorem lk_L_84 : kLk "MendedTubeLaw" 84 Y_X10_place := Or.inl (km6 194 rfl rfl)
theorem lk_L_88 : kLk "MendedTubeLaw" 88 Y_X10_turn := Or.inl (km6 198 rfl rfl)
theorem lk_L_92 : kLk "MendedTubeLaw" 92 Y_X10_exchange := Or.inl (km6 202 rfl rfl)
theorem lk_X10_182 : kLk "MendedTubeModel" 182 Y_X10_changes := Or.inl (km6 206 rfl rfl)
theorem lk_L_96 : kLk "MendedTubeLaw" 96 Y_X10_price := Or.inl (km6 210 rfl rfl)
theorem lk_L_100 : kLk "MendedTubeLaw" 100 Y_X10_fix := Or.inl (km6 214 rfl rfl)
theorem lk_L_104 : kLk "MendedTubeLaw" 104 Y_X10_change := Or.inl (km6 218 rfl rfl)
theorem lk_L_108 : kLk "MendedTubeLaw" 108 Y_X10_heatFor := Or.inl (km6 222 rfl rfl)
theorem lk_L_112 : kLk "MendedTubeLaw" 112 Y_X10_eyes := Or.inl (km6 226 rfl rfl)
theorem lk_L_116 : kLk "MendedTubeLaw" 116 Y_X10_least := Or.inl (km6 230 rfl rfl)
theorem lk_X10_194 : kLk "MendedTubeModel" 194 Y_X10_isMany := Or.inl (km6 234 rfl rfl)
theorem lk_X10_197 : kLk "MendedTubeModel" 197 Y_X10_triesAll := Or.inl (km6 237 rfl rfl)
theorem lk_X10_191 : kLk "MendedTubeModel" 191 Y_X10_tries := Or.inl (km7 1 rfl rfl)
theorem lk_L_120 : kLk "MendedTubeLaw" 120 Y_X10_pick := Or.inl (km7 5 rfl rfl)
theorem lk_L_124 : kLk "MendedTubeLaw" 124 Y_X10_good := Or.inl (km7 9 rfl rfl)
theorem lk_L_128 : kLk "MendedTubeLaw" 128 Y_X10_pairs := Or.inl (km7 13 rfl rfl)
theorem lk_X10_207 : kLk "MendedTubeModel" 207 Y_X10_findPairs := Or.inl (km7 17 rfl rfl)
theorem lk_X10_201 : kLk "MendedTubeModel" 201 Y_X10_isPair := Or.inl (km7 21 rfl rfl)
theorem lk_X10_204 : kLk "MendedTubeModel" 204 Y_X10_mostOf := Or.inl (km7 25 rfl rfl)
theorem lk_L_132 : kLk "MendedTubeLaw" 132 Y_X10_mate := Or.inl (km7 29 rfl rfl)
theorem lk_L_136 : kLk "MendedTubeLaw" 136 Y_X10_years := Or.inl (km7 33 rfl rfl)
theorem lk_X10_216 : kLk "MendedTubeModel" 216 Y_X10_findLasting := Or.inl (km7 37 rfl rfl)
theorem lk_X10_213 : kLk "MendedTubeModel" 213 Y_X10_lastingFrom := Or.inl (km7 41 rfl rfl)
theorem lk_X10_210 : kLk "MendedTubeModel" 210 Y_X10_quarter := Or.inl (km7 45 rfl rfl)
theorem lk_X10_219 : kLk "MendedTubeModel" 219 Y_X10_turnsNow := Or.inl (km7 48 rfl rfl)
theorem lk_L_140 : kLk "MendedTubeLaw" 140 Y_X10_turned := Or.inl (km7 52 rfl rfl)
set_option maxRecDepth 20000 in
theorem cl_X10_222 : Cond.constantLong "MendedTubeModel" 222 (20) ∈ kTB := km7 56 rfl rfl
theorem lk_L_144 : kLk "MendedTubeLaw" 144 Y_X10_game := Or.inl (km7 57 rfl rfl)
theorem lk_X10_232 : kLk "MendedTubeModel" 232 Y_X10_usedNow := Or.inl (km7 61 rfl rfl)
theorem lk_X10_228 : kLk "MendedTubeModel" 228 Y_X10_isWon := Or.inl (km7 65 rfl rfl)
theorem lk_X10_224 : kLk "MendedTubeModel" 224 Y_X10_isWonBy := Or.inl (km7 69 rfl rfl)
theorem lk_L_148 : kLk "MendedTubeLaw" 148 Y_X10_play := Or.inl (km7 73 rfl rfl)
theorem lk_L_152 : kLk "MendedTubeLaw" 152 Y_X10_report := Or.inl (km7 77 rfl rfl)
theorem lk_L_156 : kLk "MendedTubeLaw" 156 Y_X10_forget := Or.inl (km7 81 rfl rfl)
theorem lk_L_160 : kLk "MendedTubeLaw" 160 Y_X10_span := Or.inl (km7 85 rfl rfl)
set_option maxRecDepth 20000 in
theorem cl_X10_247 : Cond.constantLong "MendedTubeModel" 247 (2) ∈ kTB := km7 89 rfl rfl
theorem lk_X10_249 : kLk "MendedTubeModel" 249 Y_X10_findFits := Or.inl (km7 90 rfl rfl)
theorem lk_X10_238 : kLk "MendedTubeModel" 238 Y_X10_isMendedBy := Or.inl (km7 94 rfl rfl)
theorem lk_L_164 : kLk "MendedTubeLaw" 164 Y_X10_liar := Or.inl (km7 98 rfl rfl)
theorem lk_L_168 : kLk "MendedTubeLaw" 168 Y_X10_seed := Or.inl (km7 102 rfl rfl)
theorem lk_L_172 : kLk "MendedTubeLaw" 172 Y_X10_draw := Or.inl (km7 106 rfl rfl)
set_option maxRecDepth 20000 in
theorem ci_X10_252 : Cond.constant "MendedTubeModel" 252 (1103515245) ∈ kTB := km7 110 rfl rfl
theorem lk_L_176 : kLk "MendedTubeLaw" 176 Y_X10_often := Or.inl (km7 111 rfl rfl)
set_option maxRecDepth 20000 in
theorem cl_X10_253 : Cond.constantLong "MendedTubeModel" 253 (60) ∈ kTB := km7 115 rfl rfl
theorem lk_X10_255 : kLk "MendedTubeModel" 255 Y_X10_puts := Or.inl (km7 116 rfl rfl)
theorem lk_X10_258 : kLk "MendedTubeModel" 258 Y_X10_draw := Or.inl (km7 120 rfl rfl)
theorem lk_X10_261 : kLk "MendedTubeModel" 261 Y_X10_putsBack := Or.inl (km7 121 rfl rfl)
theorem lk_L_180 : kLk "MendedTubeLaw" 180 Y_X10_prove := Or.inl (km7 125 rfl rfl)
theorem lk_X10_267 : kLk "MendedTubeModel" 267 Y_X10_lays := Or.inl (km7 129 rfl rfl)
theorem lk_L_184 : kLk "MendedTubeLaw" 184 Y_X10_row := Or.inl (km7 133 rfl rfl)
theorem lk_X10_270 : kLk "MendedTubeModel" 270 Y_X10_isRow := Or.inl (km7 137 rfl rfl)
theorem lk_L_188 : kLk "MendedTubeLaw" 188 Y_X10_alterRow := Or.inl (km7 141 rfl rfl)
theorem lk_L_192 : kLk "MendedTubeLaw" 192 Y_X10_judge := Or.inl (km7 145 rfl rfl)
theorem lk_L_47 : kLk "MendedTubeLaw" 47 Y_X10_feed := Or.inl (km7 149 rfl rfl)
set_option maxRecDepth 20000 in
theorem cl_X10_273 : Cond.constantLong "MendedTubeModel" 273 (8) ∈ kTB := km7 153 rfl rfl
set_option maxRecDepth 20000 in
theorem cl_X10_278 : Cond.constantLong "MendedTubeModel" 278 (255) ∈ kTB := km7 154 rfl rfl
theorem lk_L_52 : kLk "MendedTubeLaw" 52 Y_X10_rules := Or.inl (km7 155 rfl rfl)
theorem lk_X10_307 : kLk "MendedTubeModel" 307 Y_X10_token := Or.inl (km7 159 rfl rfl)
theorem lk_X10_294 : kLk "MendedTubeModel" 294 Y_X10_byteAt := Or.inl (km7 163 rfl rfl)
theorem lk_X10_297 : kLk "MendedTubeModel" 297 Y_X10_isLetter := Or.inl (km7 167 rfl rfl)
set_option maxRecDepth 20000 in
theorem cl_X10_280 : Cond.constantLong "MendedTubeModel" 280 (97) ∈ kTB := km7 170 rfl rfl
set_option maxRecDepth 20000 in
theorem cl_X10_282 : Cond.constantLong "MendedTubeModel" 282 (122) ∈ kTB := km7 171 rfl rfl
theorem lk_X10_300 : kLk "MendedTubeModel" 300 Y_X10_isDigit := Or.inl (km7 172 rfl rfl)
set_option maxRecDepth 20000 in
theorem cl_X10_284 : Cond.constantLong "MendedTubeModel" 284 (48) ∈ kTB := km7 175 rfl rfl
set_option maxRecDepth 20000 in
theorem cl_X10_286 : Cond.constantLong "MendedTubeModel" 286 (57) ∈ kTB := km7 176 rfl rfl
theorem lk_X10_394 : kLk "MendedTubeModel" 394 Y_X10_rule := Or.inl (km7 177 rfl rfl)
theorem lk_X10_383 : kLk "MendedTubeModel" 383 Y_X10_kindHere := Or.inl (km7 181 rfl rfl)
theorem lk_X10_321 : kLk "MendedTubeModel" 321 Y_X10_word := Or.inl (km7 185 rfl rfl)
set_option maxRecDepth 20000 in
theorem cl_X10_310 : Cond.constantLong "MendedTubeModel" 310 (36028797018963967) ∈ kTB := km7 189 rfl rfl
set_option maxRecDepth 20000 in
theorem cl_X10_312 : Cond.constantLong "MendedTubeModel" 312 (32) ∈ kTB := km7 190 rfl rfl
set_option maxRecDepth 20000 in
theorem cl_X10_325 : Cond.constantLong "MendedTubeModel" 325 (398803) ∈ kTB := km7 191 rfl rfl
set_option maxRecDepth 20000 in
theorem cl_X10_327 : Cond.constantLong "MendedTubeModel" 327 (21013182128292) ∈ kTB := km7 192 rfl rfl
set_option maxRecDepth 20000 in
theorem cl_X10_329 : Cond.constantLong "MendedTubeModel" 329 (755277) ∈ kTB := km7 193 rfl rfl
set_option maxRecDepth 20000 in
theorem cl_X10_331 : Cond.constantLong "MendedTubeModel" 331 (4902553) ∈ kTB := km7 194 rfl rfl
set_option maxRecDepth 20000 in
theorem cl_X10_333 : Cond.constantLong "MendedTubeModel" 333 (679214) ∈ kTB := km7 195 rfl rfl
set_option maxRecDepth 20000 in
theorem cl_X10_335 : Cond.constantLong "MendedTubeModel" 335 (680939684) ∈ kTB := km7 196 rfl rfl
theorem lk_X10_317 : kLk "MendedTubeModel" 317 Y_X10_wants := Or.inl (km7 197 rfl rfl)
set_option maxRecDepth 20000 in
theorem cl_X10_386 : Cond.constantLong "MendedTubeModel" 386 (294) ∈ kTB := km7 201 rfl rfl
theorem lk_X10_367 : kLk "MendedTubeModel" 367 Y_X10_condition := Or.inl (km7 202 rfl rfl)
theorem lk_X10_378 : kLk "MendedTubeModel" 378 Y_X10_all := Or.inl (km7 206 rfl rfl)
theorem lk_X10_373 : kLk "MendedTubeModel" 373 Y_X10_one := Or.inl (km7 210 rfl rfl)
set_option maxRecDepth 20000 in
theorem cl_X10_362 : Cond.constantLong "MendedTubeModel" 362 (14836) ∈ kTB := km7 214 rfl rfl
theorem lk_X10_370 : kLk "MendedTubeModel" 370 Y_X10_comparison := Or.inl (km7 215 rfl rfl)
theorem lk_X10_359 : kLk "MendedTubeModel" 359 Y_X10_valueHere := Or.inl (km7 219 rfl rfl)
theorem lk_X10_350 : kLk "MendedTubeModel" 350 Y_X10_factHere := Or.inl (km7 223 rfl rfl)
set_option maxRecDepth 20000 in
theorem cl_X10_337 : Cond.constantLong "MendedTubeModel" 337 (267316) ∈ kTB := km7 227 rfl rfl
set_option maxRecDepth 20000 in
theorem cl_X10_339 : Cond.constantLong "MendedTubeModel" 339 (7216) ∈ kTB := km7 228 rfl rfl
set_option maxRecDepth 20000 in
theorem cl_X10_341 : Cond.constantLong "MendedTubeModel" 341 (5925) ∈ kTB := km7 229 rfl rfl
set_option maxRecDepth 20000 in
theorem cl_X10_343 : Cond.constantLong "MendedTubeModel" 343 (71108) ∈ kTB := km7 230 rfl rfl
set_option maxRecDepth 20000 in
theorem cl_X10_345 : Cond.constantLong "MendedTubeModel" 345 (492210354) ∈ kTB := km7 231 rfl rfl
theorem lk_X10_353 : kLk "MendedTubeModel" 353 Y_X10_writes := Or.inl (km7 232 rfl rfl)
theorem lk_X10_356 : kLk "MendedTubeModel" 356 Y_X10_number := Or.inl (km7 236 rfl rfl)
set_option maxRecDepth 20000 in
theorem cl_X10_376 : Cond.constantLong "MendedTubeModel" 376 (1476) ∈ kTB := km8 0 rfl rfl
set_option maxRecDepth 20000 in
theorem cl_X10_381 : Cond.constantLong "MendedTubeModel" 381 (498) ∈ kTB := km8 1 rfl rfl
set_option maxRecDepth 20000 in
theorem cl_X10_388 : Cond.constantLong "MendedTubeModel" 388 (441925) ∈ kTB := km8 2 rfl rfl
set_option maxRecDepth 20000 in
theorem cl_X10_390 : Cond.constantLong "MendedTubeModel" 390 (398963) ∈ kTB := km8 3 rfl rfl
set_option maxRecDepth 20000 in
theorem cl_X10_392 : Cond.constantLong "MendedTubeModel" 392 (208948) ∈ kTB := km8 4 rfl rfl
theorem lk_L_196 : kLk "MendedTubeLaw" 196 Y_X10_sheet := Or.inl (km8 5 rfl rfl)
theorem lk_X10_397 : kLk "MendedTubeModel" 397 Y_X10_isOne := Or.inl (km8 9 rfl rfl)
set_option maxRecDepth 20000 in
theorem cl_X10_400 : Cond.constantLong "MendedTubeModel" 400 (-1) ∈ kTB := km8 12 rfl rfl
set_option maxRecDepth 20000 in
theorem cl_X10_402 : Cond.constantLong "MendedTubeModel" 402 (4) ∈ kTB := km8 13 rfl rfl
theorem lk_L_200 : kLk "MendedTubeLaw" 200 Y_X10_write := Or.inl (km8 14 rfl rfl)
theorem lk_X10_404 : kLk "MendedTubeModel" 404 Y_X10_narrowed := Or.inl (km8 18 rfl rfl)
theorem lk_L_204 : kLk "MendedTubeLaw" 204 Y_X10_item := Or.inl (km8 21 rfl rfl)
theorem lk_X10_407 : kLk "MendedTubeModel" 407 Y_X10_whyNot := Or.inl (km8 25 rfl rfl)
theorem lk_L_208 : kLk "MendedTubeLaw" 208 Y_X10_fits := Or.inl (km8 29 rfl rfl)
theorem lk_X10_410 : kLk "MendedTubeModel" 410 Y_X10_isItem := Or.inl (km8 33 rfl rfl)
theorem lk_X10_414 : kLk "MendedTubeModel" 414 Y_X10_fit := Or.inl (km8 37 rfl rfl)
theorem lk_L_212 : kLk "MendedTubeLaw" 212 Y_X10_spread := Or.inl (km8 38 rfl rfl)
theorem lk_L_216 : kLk "MendedTubeLaw" 216 Y_X10_shelf := Or.inl (km8 42 rfl rfl)
theorem lk_L_220 : kLk "MendedTubeLaw" 220 Y_X10_taken := Or.inl (km8 46 rfl rfl)
set_option maxRecDepth 20000 in
theorem cl_X10_417 : Cond.constantLong "MendedTubeModel" 417 (10) ∈ kTB := km8 50 rfl rfl
set_option maxRecDepth 20000 in
theorem cl_X10_419 : Cond.constantLong "MendedTubeModel" 419 (14) ∈ kTB := km8 51 rfl rfl
theorem lk_X10_421 : kLk "MendedTubeModel" 421 Y_X10_onShelf := Or.inl (km8 52 rfl rfl)
theorem lk_L_224 : kLk "MendedTubeLaw" 224 Y_X10_act := Or.inl (km8 56 rfl rfl)
theorem lk_X10_442 : kLk "MendedTubeModel" 442 Y_X10_dims := Or.inl (km8 60 rfl rfl)
theorem lk_X10_433 : kLk "MendedTubeModel" 433 Y_X10_runs := Or.inl (km8 64 rfl rfl)
theorem lk_X10_448 : kLk "MendedTubeModel" 448 Y_X10_widens := Or.inl (km8 68 rfl rfl)
theorem lk_X10_451 : kLk "MendedTubeModel" 451 Y_X10_parts := Or.inl (km8 72 rfl rfl)
theorem lk_X10_445 : kLk "MendedTubeModel" 445 Y_X10_plainParts := Or.inl (km8 76 rfl rfl)
theorem lk_X10_454 : kLk "MendedTubeModel" 454 Y_X10_tells := Or.inl (km8 80 rfl rfl)
theorem lk_L_228 : kLk "MendedTubeLaw" 228 Y_X10_trace := Or.inl (km8 84 rfl rfl)
theorem lk_X10_457 : kLk "MendedTubeModel" 457 Y_X10_traced := Or.inl (km8 88 rfl rfl)
theorem lk_L_232 : kLk "MendedTubeLaw" 232 Y_X10_many := Or.inl (km8 92 rfl rfl)
theorem lk_L_236 : kLk "MendedTubeLaw" 236 Y_X10_keep := Or.inl (km8 96 rfl rfl)
theorem lk_L_240 : kLk "MendedTubeLaw" 240 Y_X10_again := Or.inl (km8 100 rfl rfl)
set_option maxRecDepth 20000 in
theorem cl_L_41 : Cond.constantLong "MendedTubeLaw" 41 (4294967295) ∈ kTB := km8 104 rfl rfl
set_option maxRecDepth 20000 in
theorem oi_in : Cond.instanceMethod Lib.objectInit ∈ kTB := km1 26 rfl rfl
set_option maxRecDepth 20000 in
theorem oi_co : Cond.code Lib.objectInit ⟨#[0xb1]⟩ 1 none ∈ kTB := km1 27 rfl rfl
set_option maxRecDepth 20000 in
theorem oi_X9_3 : Cond.methodLink "MendedTube" 3 Lib.objectInit ∈ kTB := km1 25 rfl rfl
set_option maxRecDepth 20000 in
theorem oi_X1_3 : Cond.methodLink "MendedTube$Bench" 3 Lib.objectInit ∈ kTB := km1 33 rfl rfl
set_option maxRecDepth 20000 in
theorem oi_X6_1 : Cond.methodLink "MendedTube$Rules" 1 Lib.objectInit ∈ kTB := km1 39 rfl rfl
set_option maxRecDepth 20000 in
theorem oi_X8_3 : Cond.methodLink "MendedTube$Text" 3 Lib.objectInit ∈ kTB := km1 128 rfl rfl
set_option maxRecDepth 20000 in
theorem oi_X5_3 : Cond.methodLink "MendedTube$Light" 3 Lib.objectInit ∈ kTB := km1 164 rfl rfl
set_option maxRecDepth 20000 in
theorem oi_X4_3 : Cond.methodLink "MendedTube$Heap" 3 Lib.objectInit ∈ kTB := km1 205 rfl rfl
set_option maxRecDepth 20000 in
theorem oi_X2_3 : Cond.methodLink "MendedTube$Contest" 3 Lib.objectInit ∈ kTB := km2 20 rfl rfl
set_option maxRecDepth 20000 in
theorem oi_X0_3 : Cond.methodLink "MendedTube$Ageing" 3 Lib.objectInit ∈ kTB := km2 42 rfl rfl
set_option maxRecDepth 20000 in
theorem oi_X3_3 : Cond.methodLink "MendedTube$Deed" 3 Lib.objectInit ∈ kTB := km2 62 rfl rfl
set_option maxRecDepth 20000 in
theorem oi_X7_3 : Cond.methodLink "MendedTube$Sheet" 3 Lib.objectInit ∈ kTB := km5 26 rfl rfl
set_option maxRecDepth 20000 in
theorem oi_X10_1 : Cond.methodLink "MendedTubeModel" 1 Lib.objectInit ∈ kTB := km5 150 rfl rfl
set_option maxRecDepth 20000 in
theorem mst_min : Cond.static Lib.Math.min.name ∈ kTB := km2 192 rfl rfl
set_option maxRecDepth 20000 in
theorem mco_min : Cond.code Lib.Math.min.name Lib.Math.min.code 2 (some .int) ∈ kTB := km2 193 rfl rfl
set_option maxRecDepth 20000 in
theorem mst_max : Cond.static Lib.Math.max.name ∈ kTB := km2 195 rfl rfl
set_option maxRecDepth 20000 in
theorem mco_max : Cond.code Lib.Math.max.name Lib.Math.max.code 2 (some .int) ∈ kTB := km2 196 rfl rfl
set_option maxRecDepth 20000 in
theorem mst_abs : Cond.static Lib.Math.abs.name ∈ kTB := km3 190 rfl rfl
set_option maxRecDepth 20000 in
theorem mco_abs : Cond.code Lib.Math.abs.name Lib.Math.abs.code 1 (some .int) ∈ kTB := km3 191 rfl rfl
theorem ar_na : Cond.native arraycopyName ∈ lw_tbl ∧ goodWord (Cond.native arraycopyName) = true := ⟨kmL2 165 rfl, by decide +kernel⟩
set_option maxRecDepth 20000 in
theorem ar_st : Cond.static arraycopyName ∈ kTB := km2 164 rfl rfl
set_option maxRecDepth 20000 in
theorem ar_X5_50 : Cond.methodLink "MendedTube$Light" 50 arraycopyName ∈ kTB := km2 163 rfl rfl
set_option maxRecDepth 20000 in
theorem ar_J7_150 : Cond.methodLink "java/util/Arrays" 150 arraycopyName ∈ kTB := km3 142 rfl rfl
set_option maxRecDepth 20000 in
theorem ar_X1_63 : Cond.methodLink "MendedTube$Bench" 63 arraycopyName ∈ kTB := km4 22 rfl rfl
set_option maxRecDepth 20000 in
theorem ar_X4_94 : Cond.methodLink "MendedTube$Heap" 94 arraycopyName ∈ kTB := km4 67 rfl rfl
theorem gs_X9_374 : Cond.fieldLink "MendedTube" 374 "MendedTube" (kTN (UInt32.toNat 1)) "[I" ∈ kTB ∨ ∃ host, Cond.fieldLinkNest "MendedTube" 374 "MendedTube" (kTN (UInt32.toNat 1)) "[I" host ∈ kNB := Or.inl (km2 173 rfl rfl)
theorem gs_X9_139 : Cond.fieldLink "MendedTube" 139 "MendedTube" (kTN (UInt32.toNat 2)) "[I" ∈ kTB ∨ ∃ host, Cond.fieldLinkNest "MendedTube" 139 "MendedTube" (kTN (UInt32.toNat 2)) "[I" host ∈ kNB := Or.inl (km2 220 rfl rfl)
theorem gs_X9_142 : Cond.fieldLink "MendedTube" 142 "MendedTube" (kTN (UInt32.toNat 3)) "[I" ∈ kTB ∨ ∃ host, Cond.fieldLinkNest "MendedTube" 142 "MendedTube" (kTN (UInt32.toNat 3)) "[I" host ∈ kNB := Or.inl (km2 222 rfl rfl)
set_option maxRecDepth 20000 in
theorem gj_J0_38 : Cond.fieldLink "java/lang/String" 38 "java/lang/String" "COMPACT_STRINGS" "Z" ∈ kTB := km3 35 rfl rfl
set_option maxRecDepth 20000 in
theorem gj_J0_1053 : Cond.fieldLink "java/lang/String" 1053 "jdk/internal/util/Preconditions" "SIOOBE_FORMATTER" "Ljava/util/function/BiFunction;" ∈ kTB := km3 51 rfl rfl
set_option maxRecDepth 20000 in
theorem gj_J2_44 : Cond.fieldLink "java/lang/StringUTF16" 44 "java/lang/StringUTF16" "$assertionsDisabled" "Z" ∈ kTB := km3 69 rfl rfl
set_option maxRecDepth 20000 in
theorem gj_J2_59 : Cond.fieldLink "java/lang/StringUTF16" 59 "java/lang/StringUTF16" "HI_BYTE_SHIFT" "I" ∈ kTB := km3 71 rfl rfl
set_option maxRecDepth 20000 in
theorem gj_J2_63 : Cond.fieldLink "java/lang/StringUTF16" 63 "java/lang/StringUTF16" "LO_BYTE_SHIFT" "I" ∈ kTB := km3 73 rfl rfl
set_option maxRecDepth 20000 in
theorem gs_X0_33 : Cond.fieldLink "MendedTube$Ageing" 33 "MendedTube" (kTN (UInt32.toNat 3)) "[I" ∈ kTB ∨ ∃ host, Cond.fieldLinkNest "MendedTube$Ageing" 33 "MendedTube" (kTN (UInt32.toNat 3)) "[I" host ∈ kNB := Or.inr ⟨"MendedTube", kmN4 103 rfl rfl⟩
set_option maxRecDepth 20000 in
theorem gj_J0_9 : Cond.fieldLink "java/lang/String" 9 "java/lang/String" "value" "[B" ∈ kTB := km8 105 rfl rfl
set_option maxRecDepth 20000 in
theorem gj_J0_15 : Cond.fieldLink "java/lang/String" 15 "java/lang/String" "coder" "B" ∈ kTB := km8 106 rfl rfl

