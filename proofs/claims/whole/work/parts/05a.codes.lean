/-! the tables agree with the code, method by method -/
set_option maxRecDepth 100000 in
theorem pk_0 : pgok 0 := by unfold pgok; decide +kernel
set_option maxRecDepth 100000 in
theorem pk_1 : pgok 1 := by unfold pgok; decide +kernel
set_option maxRecDepth 100000 in
theorem pk_2 : pgok 2 := by unfold pgok; decide +kernel
set_option maxRecDepth 100000 in
theorem pk_3 : pgok 3 := by unfold pgok; decide +kernel
set_option maxRecDepth 100000 in
theorem pk_4 : pgok 4 := by unfold pgok; decide +kernel
set_option maxRecDepth 100000 in
theorem pk_5 : pgok 5 := by unfold pgok; decide +kernel
set_option maxRecDepth 100000 in
theorem pk_6 : pgok 6 := by unfold pgok; decide +kernel
set_option maxRecDepth 100000 in
theorem pk_7 : pgok 7 := by unfold pgok; decide +kernel
set_option maxRecDepth 100000 in
theorem pk_8 : pgok 8 := by unfold pgok; decide +kernel
set_option maxRecDepth 100000 in
theorem pk_9 : pgok 9 := by unfold pgok; decide +kernel
set_option maxRecDepth 100000 in
theorem pk_10 : pgok 10 := by unfold pgok; decide +kernel
set_option maxRecDepth 100000 in
theorem pk_11 : pgok 11 := by unfold pgok; decide +kernel
set_option maxRecDepth 100000 in
theorem pk_12 : pgok 12 := by unfold pgok; decide +kernel
set_option maxRecDepth 100000 in
theorem pk_13 : pgok 13 := by unfold pgok; decide +kernel
set_option maxRecDepth 100000 in
theorem pk_14 : pgok 14 := by unfold pgok; decide +kernel
set_option maxRecDepth 100000 in
theorem pk_15 : pgok 15 := by unfold pgok; decide +kernel
set_option maxRecDepth 100000 in
theorem pk_16 : pgok 16 := by unfold pgok; decide +kernel
set_option maxRecDepth 100000 in
theorem pk_17 : pgok 17 := by unfold pgok; decide +kernel
set_option maxRecDepth 100000 in
theorem pk_18 : pgok 18 := by unfold pgok; decide +kernel
set_option maxRecDepth 100000 in
theorem pk_19 : pgok 19 := by unfold pgok; decide +kernel
set_option maxRecDepth 100000 in
theorem pk_20 : pgok 20 := by unfold pgok; decide +kernel
set_option maxRecDepth 100000 in
theorem pk_21 : pgok 21 := by unfold pgok; decide +kernel
set_option maxRecDepth 100000 in
theorem pk_22 : pgok 22 := by unfold pgok; decide +kernel
set_option maxRecDepth 100000 in
theorem pk_23 : pgok 23 := by unfold pgok; decide +kernel
set_option maxRecDepth 100000 in
theorem pk_24 : pgok 24 := by unfold pgok; decide +kernel
set_option maxRecDepth 100000 in
theorem pk_25 : pgok 25 := by unfold pgok; decide +kernel
set_option maxRecDepth 100000 in
theorem pk_26 : pgok 26 := by unfold pgok; decide +kernel
set_option maxRecDepth 100000 in
theorem pk_27 : pgok 27 := by unfold pgok; decide +kernel
set_option maxRecDepth 100000 in
theorem pk_28 : pgok 28 := by unfold pgok; decide +kernel
set_option maxRecDepth 100000 in
theorem pk_29 : pgok 29 := by unfold pgok; decide +kernel
set_option maxRecDepth 100000 in
theorem pk_30 : pgok 30 := by unfold pgok; decide +kernel
set_option maxRecDepth 100000 in
theorem pk_31 : pgok 31 := by unfold pgok; decide +kernel
set_option maxRecDepth 100000 in
theorem pk_32 : pgok 32 := by unfold pgok; decide +kernel
set_option maxRecDepth 100000 in
theorem pk_33 : pgok 33 := by unfold pgok; decide +kernel
set_option maxRecDepth 100000 in
theorem pk_34 : pgok 34 := by unfold pgok; decide +kernel
set_option maxRecDepth 100000 in
theorem pk_35 : pgok 35 := by unfold pgok; decide +kernel
set_option maxRecDepth 100000 in
theorem pk_36 : pgok 36 := by unfold pgok; decide +kernel
set_option maxRecDepth 100000 in
theorem pk_37 : pgok 37 := by unfold pgok; decide +kernel
set_option maxRecDepth 100000 in
theorem pk_38 : pgok 38 := by unfold pgok; decide +kernel
set_option maxRecDepth 100000 in
theorem pk_39 : pgok 39 := by unfold pgok; decide +kernel
set_option maxRecDepth 100000 in
theorem pk_40 : pgok 40 := by unfold pgok; decide +kernel
set_option maxRecDepth 100000 in
theorem pk_41 : pgok 41 := by unfold pgok; decide +kernel
set_option maxRecDepth 100000 in
theorem pk_42 : pgok 42 := by unfold pgok; decide +kernel
set_option maxRecDepth 100000 in
theorem pk_43 : pgok 43 := by unfold pgok; decide +kernel
set_option maxRecDepth 100000 in
theorem pk_44 : pgok 44 := by unfold pgok; decide +kernel
set_option maxRecDepth 100000 in
theorem pk_45 : pgok 45 := by unfold pgok; decide +kernel
set_option maxRecDepth 100000 in
theorem pk_46 : pgok 46 := by unfold pgok; decide +kernel
set_option maxRecDepth 100000 in
theorem pk_47 : pgok 47 := by unfold pgok; decide +kernel
set_option maxRecDepth 100000 in
theorem pk_48 : pgok 48 := by unfold pgok; decide +kernel
set_option maxRecDepth 100000 in
theorem pk_49 : pgok 49 := by unfold pgok; decide +kernel
set_option maxRecDepth 100000 in
theorem pk_51 : pgok 51 := by unfold pgok; decide +kernel
set_option maxRecDepth 100000 in
theorem pk_52 : pgok 52 := by unfold pgok; decide +kernel
set_option maxRecDepth 100000 in
theorem pk_53 : pgok 53 := by unfold pgok; decide +kernel
set_option maxRecDepth 100000 in
theorem pk_54 : pgok 54 := by unfold pgok; decide +kernel
set_option maxRecDepth 100000 in
theorem pk_55 : pgok 55 := by unfold pgok; decide +kernel
set_option maxRecDepth 100000 in
theorem pk_56 : pgok 56 := by unfold pgok; decide +kernel
set_option maxRecDepth 100000 in
theorem pk_57 : pgok 57 := by unfold pgok; decide +kernel
set_option maxRecDepth 100000 in
theorem pk_58 : pgok 58 := by unfold pgok; decide +kernel
set_option maxRecDepth 100000 in
theorem pk_59 : pgok 59 := by unfold pgok; decide +kernel
set_option maxRecDepth 100000 in
theorem pk_60 : pgok 60 := by unfold pgok; decide +kernel
set_option maxRecDepth 100000 in
theorem pk_61 : pgok 61 := by unfold pgok; decide +kernel
set_option maxRecDepth 100000 in
theorem pk_62 : pgok 62 := by unfold pgok; decide +kernel
set_option maxRecDepth 100000 in
theorem pk_63 : pgok 63 := by unfold pgok; decide +kernel
set_option maxRecDepth 100000 in
theorem pk_64 : pgok 64 := by unfold pgok; decide +kernel
set_option maxRecDepth 100000 in
theorem pk_65 : pgok 65 := by unfold pgok; decide +kernel
set_option maxRecDepth 100000 in
theorem pk_66 : pgok 66 := by unfold pgok; decide +kernel
set_option maxRecDepth 100000 in
theorem pk_67 : pgok 67 := by unfold pgok; decide +kernel
set_option maxRecDepth 100000 in
theorem pk_68 : pgok 68 := by unfold pgok; decide +kernel
set_option maxRecDepth 100000 in
theorem pk_186 : pgok 186 := by unfold pgok; decide +kernel
set_option maxRecDepth 100000 in
theorem pk_187 : pgok 187 := by unfold pgok; decide +kernel
set_option maxRecDepth 100000 in
theorem pk_188 : pgok 188 := by unfold pgok; decide +kernel
set_option maxRecDepth 100000 in
theorem pk_189 : pgok 189 := by unfold pgok; decide +kernel
set_option maxRecDepth 100000 in
theorem pk_190 : pgok 190 := by unfold pgok; decide +kernel
set_option maxRecDepth 100000 in
theorem pk_191 : pgok 191 := by unfold pgok; decide +kernel
set_option maxRecDepth 100000 in
theorem pk_194 : pgok 194 := by unfold pgok; decide +kernel
set_option maxRecDepth 100000 in
theorem pk_195 : pgok 195 := by unfold pgok; decide +kernel
set_option maxRecDepth 100000 in
theorem pk_196 : pgok 196 := by unfold pgok; decide +kernel
set_option maxRecDepth 100000 in
theorem pk_197 : pgok 197 := by unfold pgok; decide +kernel
set_option maxRecDepth 100000 in
theorem pk_198 : pgok 198 := by unfold pgok; decide +kernel
set_option maxRecDepth 100000 in
theorem pk_200 : pgok 200 := by unfold pgok; decide +kernel
