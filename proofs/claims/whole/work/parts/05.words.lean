/-! the words of the tables, a row each -/
theorem fk_tab {w : Cond} (h : w ∈ tables_1) : w ∈ lw_tbl := List.mem_append_right _ h
theorem fk_sel {q : MethodName × Nat} (h : q ∈ lw_privs) : Cond.selects q.1.cls q.1 q.1 ∈ fk_G := fk_in (List.mem_append_left _ (List.mem_map.mpr ⟨q, h, rfl⟩)) rfl
theorem fw_0 : Jvm.Cond.initialized "FootprintNetLaw" ∈ fk_G := fk_in (fk_tab (List.mem_of_getElem? (i := 0) (by decide +kernel))) rfl
theorem fw_1 : Jvm.Cond.initialized "FootprintNet" ∈ fk_G := fk_in (fk_tab (List.mem_of_getElem? (i := 1) (by decide +kernel))) rfl
theorem fw_2 : Jvm.Cond.initialized "FootprintNet$Log" ∈ fk_G := fk_in (fk_tab (List.mem_of_getElem? (i := 2) (by decide +kernel))) rfl
theorem fw_3 : Jvm.Cond.initialized "FootprintNet$Net" ∈ fk_G := fk_in (fk_tab (List.mem_of_getElem? (i := 3) (by decide +kernel))) rfl
theorem fw_4 : Jvm.Cond.initialized "FootprintNet$Miner" ∈ fk_G := fk_in (fk_tab (List.mem_of_getElem? (i := 4) (by decide +kernel))) rfl
theorem fw_5 : Jvm.Cond.initialized "FootprintNet$Reach" ∈ fk_G := fk_in (fk_tab (List.mem_of_getElem? (i := 5) (by decide +kernel))) rfl
theorem fw_6 : Jvm.Cond.initialized "FootprintNet$Player" ∈ fk_G := fk_in (fk_tab (List.mem_of_getElem? (i := 6) (by decide +kernel))) rfl
theorem fw_7 : Jvm.Cond.initialized "FootprintNetModel" ∈ fk_G := fk_in (fk_tab (List.mem_of_getElem? (i := 7) (by decide +kernel))) rfl
theorem fw_8 : Jvm.Cond.initialized "java/util/Arrays" ∈ fk_G := fk_in (fk_tab (List.mem_of_getElem? (i := 8) (by decide +kernel))) rfl
theorem fw_9 : Jvm.Cond.initialized "java/lang/Integer" ∈ fk_G := fk_in (fk_tab (List.mem_of_getElem? (i := 9) (by decide +kernel))) rfl
theorem fw_10 : Jvm.Cond.classLink "FootprintNetLaw" (7 : Nat) "FootprintNet" ∈ fk_G := fk_in (fk_tab (List.mem_of_getElem? (i := 10) (by decide +kernel))) rfl
theorem fw_11 : Jvm.Cond.instantiable "FootprintNet" (6 : Nat) ∈ fk_G := fk_in (fk_tab (List.mem_of_getElem? (i := 11) (by decide +kernel))) rfl
theorem fw_12 : Jvm.Cond.methodLink "FootprintNetLaw" (9 : Nat) fy_F_init ∈ fk_G := fk_in (fk_tab (List.mem_of_getElem? (i := 12) (by decide +kernel))) rfl
theorem fw_13 : Jvm.Cond.instanceMethod fy_F_init ∈ fk_G := fk_in (fk_tab (List.mem_of_getElem? (i := 13) (by decide +kernel))) rfl
theorem fw_14 : Jvm.Cond.code fy_F_init prog_1_method_1_code (1 : Nat) (Option.none : Option Jvm.ClassFile.FieldType) ∈ fk_G := fk_in (fk_tab (List.mem_of_getElem? (i := 14) (by decide +kernel))) rfl
theorem fw_15 : Jvm.Cond.methodLink "FootprintNet" (3 : Nat) fy_Ob_init ∈ fk_G := fk_in (fk_tab (List.mem_of_getElem? (i := 15) (by decide +kernel))) rfl
theorem fw_16 : Jvm.Cond.instanceMethod fy_Ob_init ∈ fk_G := fk_in (fk_tab (List.mem_of_getElem? (i := 16) (by decide +kernel))) rfl
theorem fw_17 : Jvm.Cond.code fy_Ob_init object_method_1_code (1 : Nat) (Option.none : Option Jvm.ClassFile.FieldType) ∈ fk_G := fk_in (fk_tab (List.mem_of_getElem? (i := 17) (by decide +kernel))) rfl
theorem fw_18 : Jvm.Cond.classLink "FootprintNet" (9 : Nat) "FootprintNet$Log" ∈ fk_G := fk_in (fk_tab (List.mem_of_getElem? (i := 18) (by decide +kernel))) rfl
theorem fw_19 : Jvm.Cond.instantiable "FootprintNet$Log" (4 : Nat) ∈ fk_G := fk_in (fk_tab (List.mem_of_getElem? (i := 19) (by decide +kernel))) rfl
theorem fw_20 : Jvm.Cond.methodLink "FootprintNet" (11 : Nat) fy_Lg_init ∈ fk_G := fk_in (fk_tab (List.mem_of_getElem? (i := 20) (by decide +kernel))) rfl
theorem fw_21 : Jvm.Cond.instanceMethod fy_Lg_init ∈ fk_G := fk_in (fk_tab (List.mem_of_getElem? (i := 21) (by decide +kernel))) rfl
theorem fw_22 : Jvm.Cond.code fy_Lg_init prog_2_method_1_code (1 : Nat) (Option.none : Option Jvm.ClassFile.FieldType) ∈ fk_G := fk_in (fk_tab (List.mem_of_getElem? (i := 22) (by decide +kernel))) rfl
theorem fw_23 : Jvm.Cond.methodLink "FootprintNet$Log" (3 : Nat) fy_Ob_init ∈ fk_G := fk_in (fk_tab (List.mem_of_getElem? (i := 23) (by decide +kernel))) rfl
theorem fw_24 : Jvm.Cond.fieldLink "FootprintNet$Log" (9 : Nat) "FootprintNet$Log" "lengths" "[I" ∈ fk_G := fk_in (fk_tab (List.mem_of_getElem? (i := 24) (by decide +kernel))) rfl
theorem fw_25 : Jvm.Cond.fieldLink "FootprintNet$Log" (15 : Nat) "FootprintNet$Log" "events" "[I" ∈ fk_G := fk_in (fk_tab (List.mem_of_getElem? (i := 25) (by decide +kernel))) rfl
theorem fw_26 : Jvm.Cond.fieldLink "FootprintNet$Log" (18 : Nat) "FootprintNet$Log" "followers" "[I" ∈ fk_G := fk_in (fk_tab (List.mem_of_getElem? (i := 26) (by decide +kernel))) rfl
theorem fw_27 : Jvm.Cond.fieldLink "FootprintNet$Log" (21 : Nat) "FootprintNet$Log" "traces" "I" ∈ fk_G := fk_in (fk_tab (List.mem_of_getElem? (i := 27) (by decide +kernel))) rfl
theorem fw_28 : Jvm.Cond.laysFinal "FootprintNet$Log" "FootprintNet$Log" "lengths" "[I" ∈ fk_G := fk_in (fk_tab (List.mem_of_getElem? (i := 28) (by decide +kernel))) rfl
theorem fw_29 : Jvm.Cond.soleField "FootprintNet$Log" "lengths" ∈ fk_G := fk_in (fk_tab (List.mem_of_getElem? (i := 29) (by decide +kernel))) rfl
theorem fw_30 : Jvm.Cond.laysFinal "FootprintNet$Log" "FootprintNet$Log" "events" "[I" ∈ fk_G := fk_in (fk_tab (List.mem_of_getElem? (i := 30) (by decide +kernel))) rfl
theorem fw_31 : Jvm.Cond.soleField "FootprintNet$Log" "events" ∈ fk_G := fk_in (fk_tab (List.mem_of_getElem? (i := 31) (by decide +kernel))) rfl
theorem fw_32 : Jvm.Cond.laysFinal "FootprintNet$Log" "FootprintNet$Log" "followers" "[I" ∈ fk_G := fk_in (fk_tab (List.mem_of_getElem? (i := 32) (by decide +kernel))) rfl
theorem fw_33 : Jvm.Cond.soleField "FootprintNet$Log" "followers" ∈ fk_G := fk_in (fk_tab (List.mem_of_getElem? (i := 33) (by decide +kernel))) rfl
theorem fw_34 : Jvm.Cond.lays "FootprintNet$Log" "FootprintNet$Log" "traces" "I" ∈ fk_G := fk_in (fk_tab (List.mem_of_getElem? (i := 34) (by decide +kernel))) rfl
theorem fw_35 : Jvm.Cond.soleField "FootprintNet$Log" "traces" ∈ fk_G := fk_in (fk_tab (List.mem_of_getElem? (i := 35) (by decide +kernel))) rfl
theorem fw_36 : Jvm.Cond.superclass "FootprintNet$Log" "java/lang/Object" ∈ fk_G := fk_in (fk_tab (List.mem_of_getElem? (i := 36) (by decide +kernel))) rfl
theorem fw_37 : Jvm.Cond.arrayClass Jvm.ClassFile.FieldType.int ∈ fk_G := fk_in (fk_tab (List.mem_of_getElem? (i := 37) (by decide +kernel))) rfl
theorem fw_38 : Jvm.Cond.classLink "FootprintNet" (16 : Nat) "FootprintNet$Net" ∈ fk_G := fk_in (fk_tab (List.mem_of_getElem? (i := 38) (by decide +kernel))) rfl
theorem fw_39 : Jvm.Cond.instantiable "FootprintNet$Net" (9 : Nat) ∈ fk_G := fk_in (fk_tab (List.mem_of_getElem? (i := 39) (by decide +kernel))) rfl
theorem fw_40 : Jvm.Cond.methodLink "FootprintNet" (18 : Nat) fy_Nt_init ∈ fk_G := fk_in (fk_tab (List.mem_of_getElem? (i := 40) (by decide +kernel))) rfl
theorem fw_41 : Jvm.Cond.instanceMethod fy_Nt_init ∈ fk_G := fk_in (fk_tab (List.mem_of_getElem? (i := 41) (by decide +kernel))) rfl
theorem fw_42 : Jvm.Cond.code fy_Nt_init prog_4_method_1_code (1 : Nat) (Option.none : Option Jvm.ClassFile.FieldType) ∈ fk_G := fk_in (fk_tab (List.mem_of_getElem? (i := 42) (by decide +kernel))) rfl
theorem fw_43 : Jvm.Cond.methodLink "FootprintNet$Net" (3 : Nat) fy_Ob_init ∈ fk_G := fk_in (fk_tab (List.mem_of_getElem? (i := 43) (by decide +kernel))) rfl
theorem fw_44 : Jvm.Cond.fieldLink "FootprintNet$Net" (9 : Nat) "FootprintNet$Net" "ins" "[I" ∈ fk_G := fk_in (fk_tab (List.mem_of_getElem? (i := 44) (by decide +kernel))) rfl
theorem fw_45 : Jvm.Cond.fieldLink "FootprintNet$Net" (15 : Nat) "FootprintNet$Net" "outs" "[I" ∈ fk_G := fk_in (fk_tab (List.mem_of_getElem? (i := 45) (by decide +kernel))) rfl
theorem fw_46 : Jvm.Cond.fieldLink "FootprintNet$Net" (18 : Nat) "FootprintNet$Net" "takes" "[J" ∈ fk_G := fk_in (fk_tab (List.mem_of_getElem? (i := 46) (by decide +kernel))) rfl
theorem fw_47 : Jvm.Cond.fieldLink "FootprintNet$Net" (22 : Nat) "FootprintNet$Net" "puts" "[J" ∈ fk_G := fk_in (fk_tab (List.mem_of_getElem? (i := 47) (by decide +kernel))) rfl
theorem fw_48 : Jvm.Cond.fieldLink "FootprintNet$Net" (25 : Nat) "FootprintNet$Net" "count" "I" ∈ fk_G := fk_in (fk_tab (List.mem_of_getElem? (i := 48) (by decide +kernel))) rfl
theorem fw_49 : Jvm.Cond.fieldLink "FootprintNet$Net" (29 : Nat) "FootprintNet$Net" "first" "I" ∈ fk_G := fk_in (fk_tab (List.mem_of_getElem? (i := 49) (by decide +kernel))) rfl
theorem fw_50 : Jvm.Cond.fieldLink "FootprintNet$Net" (32 : Nat) "FootprintNet$Net" "last" "I" ∈ fk_G := fk_in (fk_tab (List.mem_of_getElem? (i := 50) (by decide +kernel))) rfl
theorem fw_51 : Jvm.Cond.fieldLink "FootprintNet$Net" (35 : Nat) "FootprintNet$Net" "loose" "I" ∈ fk_G := fk_in (fk_tab (List.mem_of_getElem? (i := 51) (by decide +kernel))) rfl
theorem fw_52 : Jvm.Cond.fieldLink "FootprintNet$Net" (38 : Nat) "FootprintNet$Net" "members" "I" ∈ fk_G := fk_in (fk_tab (List.mem_of_getElem? (i := 52) (by decide +kernel))) rfl
theorem fw_53 : Jvm.Cond.laysFinal "FootprintNet$Net" "FootprintNet$Net" "ins" "[I" ∈ fk_G := fk_in (fk_tab (List.mem_of_getElem? (i := 53) (by decide +kernel))) rfl
theorem fw_54 : Jvm.Cond.soleField "FootprintNet$Net" "ins" ∈ fk_G := fk_in (fk_tab (List.mem_of_getElem? (i := 54) (by decide +kernel))) rfl
theorem fw_55 : Jvm.Cond.laysFinal "FootprintNet$Net" "FootprintNet$Net" "outs" "[I" ∈ fk_G := fk_in (fk_tab (List.mem_of_getElem? (i := 55) (by decide +kernel))) rfl
theorem fw_56 : Jvm.Cond.soleField "FootprintNet$Net" "outs" ∈ fk_G := fk_in (fk_tab (List.mem_of_getElem? (i := 56) (by decide +kernel))) rfl
theorem fw_57 : Jvm.Cond.laysFinal "FootprintNet$Net" "FootprintNet$Net" "takes" "[J" ∈ fk_G := fk_in (fk_tab (List.mem_of_getElem? (i := 57) (by decide +kernel))) rfl
theorem fw_58 : Jvm.Cond.soleField "FootprintNet$Net" "takes" ∈ fk_G := fk_in (fk_tab (List.mem_of_getElem? (i := 58) (by decide +kernel))) rfl
theorem fw_59 : Jvm.Cond.laysFinal "FootprintNet$Net" "FootprintNet$Net" "puts" "[J" ∈ fk_G := fk_in (fk_tab (List.mem_of_getElem? (i := 59) (by decide +kernel))) rfl
theorem fw_60 : Jvm.Cond.soleField "FootprintNet$Net" "puts" ∈ fk_G := fk_in (fk_tab (List.mem_of_getElem? (i := 60) (by decide +kernel))) rfl
theorem fw_61 : Jvm.Cond.lays "FootprintNet$Net" "FootprintNet$Net" "count" "I" ∈ fk_G := fk_in (fk_tab (List.mem_of_getElem? (i := 61) (by decide +kernel))) rfl
theorem fw_62 : Jvm.Cond.soleField "FootprintNet$Net" "count" ∈ fk_G := fk_in (fk_tab (List.mem_of_getElem? (i := 62) (by decide +kernel))) rfl
theorem fw_63 : Jvm.Cond.lays "FootprintNet$Net" "FootprintNet$Net" "first" "I" ∈ fk_G := fk_in (fk_tab (List.mem_of_getElem? (i := 63) (by decide +kernel))) rfl
theorem fw_64 : Jvm.Cond.soleField "FootprintNet$Net" "first" ∈ fk_G := fk_in (fk_tab (List.mem_of_getElem? (i := 64) (by decide +kernel))) rfl
theorem fw_65 : Jvm.Cond.lays "FootprintNet$Net" "FootprintNet$Net" "last" "I" ∈ fk_G := fk_in (fk_tab (List.mem_of_getElem? (i := 65) (by decide +kernel))) rfl
theorem fw_66 : Jvm.Cond.soleField "FootprintNet$Net" "last" ∈ fk_G := fk_in (fk_tab (List.mem_of_getElem? (i := 66) (by decide +kernel))) rfl
theorem fw_67 : Jvm.Cond.lays "FootprintNet$Net" "FootprintNet$Net" "loose" "I" ∈ fk_G := fk_in (fk_tab (List.mem_of_getElem? (i := 67) (by decide +kernel))) rfl
theorem fw_68 : Jvm.Cond.soleField "FootprintNet$Net" "loose" ∈ fk_G := fk_in (fk_tab (List.mem_of_getElem? (i := 68) (by decide +kernel))) rfl
theorem fw_69 : Jvm.Cond.lays "FootprintNet$Net" "FootprintNet$Net" "members" "I" ∈ fk_G := fk_in (fk_tab (List.mem_of_getElem? (i := 69) (by decide +kernel))) rfl
theorem fw_70 : Jvm.Cond.soleField "FootprintNet$Net" "members" ∈ fk_G := fk_in (fk_tab (List.mem_of_getElem? (i := 70) (by decide +kernel))) rfl
theorem fw_71 : Jvm.Cond.superclass "FootprintNet$Net" "java/lang/Object" ∈ fk_G := fk_in (fk_tab (List.mem_of_getElem? (i := 71) (by decide +kernel))) rfl
theorem fw_72 : Jvm.Cond.arrayClass Jvm.ClassFile.FieldType.long ∈ fk_G := fk_in (fk_tab (List.mem_of_getElem? (i := 72) (by decide +kernel))) rfl
theorem fw_73 : Jvm.Cond.classLink "FootprintNet" (26 : Nat) "FootprintNet$Miner" ∈ fk_G := fk_in (fk_tab (List.mem_of_getElem? (i := 73) (by decide +kernel))) rfl
theorem fw_74 : Jvm.Cond.instantiable "FootprintNet$Miner" (5 : Nat) ∈ fk_G := fk_in (fk_tab (List.mem_of_getElem? (i := 74) (by decide +kernel))) rfl
theorem fw_75 : Jvm.Cond.methodLink "FootprintNet" (28 : Nat) fy_Mi_init ∈ fk_G := fk_in (fk_tab (List.mem_of_getElem? (i := 75) (by decide +kernel))) rfl
theorem fw_76 : Jvm.Cond.instanceMethod fy_Mi_init ∈ fk_G := fk_in (fk_tab (List.mem_of_getElem? (i := 76) (by decide +kernel))) rfl
theorem fw_77 : Jvm.Cond.code fy_Mi_init prog_3_method_1_code (1 : Nat) (Option.none : Option Jvm.ClassFile.FieldType) ∈ fk_G := fk_in (fk_tab (List.mem_of_getElem? (i := 77) (by decide +kernel))) rfl
theorem fw_78 : Jvm.Cond.methodLink "FootprintNet$Miner" (3 : Nat) fy_Ob_init ∈ fk_G := fk_in (fk_tab (List.mem_of_getElem? (i := 78) (by decide +kernel))) rfl
theorem fw_79 : Jvm.Cond.fieldLink "FootprintNet$Miner" (9 : Nat) "FootprintNet$Miner" "effects" "[I" ∈ fk_G := fk_in (fk_tab (List.mem_of_getElem? (i := 79) (by decide +kernel))) rfl
theorem fw_80 : Jvm.Cond.fieldLink "FootprintNet$Miner" (15 : Nat) "FootprintNet$Miner" "strange" "[Z" ∈ fk_G := fk_in (fk_tab (List.mem_of_getElem? (i := 80) (by decide +kernel))) rfl
theorem fw_81 : Jvm.Cond.fieldLink "FootprintNet$Miner" (19 : Nat) "FootprintNet$Miner" "pairIns" "[I" ∈ fk_G := fk_in (fk_tab (List.mem_of_getElem? (i := 81) (by decide +kernel))) rfl
theorem fw_82 : Jvm.Cond.fieldLink "FootprintNet$Miner" (22 : Nat) "FootprintNet$Miner" "pairOuts" "[I" ∈ fk_G := fk_in (fk_tab (List.mem_of_getElem? (i := 82) (by decide +kernel))) rfl
theorem fw_83 : Jvm.Cond.fieldLink "FootprintNet$Miner" (25 : Nat) "FootprintNet$Miner" "pairs" "I" ∈ fk_G := fk_in (fk_tab (List.mem_of_getElem? (i := 83) (by decide +kernel))) rfl
theorem fw_84 : Jvm.Cond.laysFinal "FootprintNet$Miner" "FootprintNet$Miner" "effects" "[I" ∈ fk_G := fk_in (fk_tab (List.mem_of_getElem? (i := 84) (by decide +kernel))) rfl
theorem fw_85 : Jvm.Cond.soleField "FootprintNet$Miner" "effects" ∈ fk_G := fk_in (fk_tab (List.mem_of_getElem? (i := 85) (by decide +kernel))) rfl
theorem fw_86 : Jvm.Cond.laysFinal "FootprintNet$Miner" "FootprintNet$Miner" "strange" "[Z" ∈ fk_G := fk_in (fk_tab (List.mem_of_getElem? (i := 86) (by decide +kernel))) rfl
theorem fw_87 : Jvm.Cond.soleField "FootprintNet$Miner" "strange" ∈ fk_G := fk_in (fk_tab (List.mem_of_getElem? (i := 87) (by decide +kernel))) rfl
theorem fw_88 : Jvm.Cond.laysFinal "FootprintNet$Miner" "FootprintNet$Miner" "pairIns" "[I" ∈ fk_G := fk_in (fk_tab (List.mem_of_getElem? (i := 88) (by decide +kernel))) rfl
theorem fw_89 : Jvm.Cond.soleField "FootprintNet$Miner" "pairIns" ∈ fk_G := fk_in (fk_tab (List.mem_of_getElem? (i := 89) (by decide +kernel))) rfl
theorem fw_90 : Jvm.Cond.laysFinal "FootprintNet$Miner" "FootprintNet$Miner" "pairOuts" "[I" ∈ fk_G := fk_in (fk_tab (List.mem_of_getElem? (i := 90) (by decide +kernel))) rfl
theorem fw_91 : Jvm.Cond.soleField "FootprintNet$Miner" "pairOuts" ∈ fk_G := fk_in (fk_tab (List.mem_of_getElem? (i := 91) (by decide +kernel))) rfl
theorem fw_92 : Jvm.Cond.lays "FootprintNet$Miner" "FootprintNet$Miner" "pairs" "I" ∈ fk_G := fk_in (fk_tab (List.mem_of_getElem? (i := 92) (by decide +kernel))) rfl
theorem fw_93 : Jvm.Cond.soleField "FootprintNet$Miner" "pairs" ∈ fk_G := fk_in (fk_tab (List.mem_of_getElem? (i := 93) (by decide +kernel))) rfl
theorem fw_94 : Jvm.Cond.superclass "FootprintNet$Miner" "java/lang/Object" ∈ fk_G := fk_in (fk_tab (List.mem_of_getElem? (i := 94) (by decide +kernel))) rfl
theorem fw_95 : Jvm.Cond.arrayClass Jvm.ClassFile.FieldType.boolean ∈ fk_G := fk_in (fk_tab (List.mem_of_getElem? (i := 95) (by decide +kernel))) rfl
theorem fw_96 : Jvm.Cond.classLink "FootprintNet" (33 : Nat) "FootprintNet$Reach" ∈ fk_G := fk_in (fk_tab (List.mem_of_getElem? (i := 96) (by decide +kernel))) rfl
theorem fw_97 : Jvm.Cond.instantiable "FootprintNet$Reach" (6 : Nat) ∈ fk_G := fk_in (fk_tab (List.mem_of_getElem? (i := 97) (by decide +kernel))) rfl
theorem fw_98 : Jvm.Cond.methodLink "FootprintNet" (35 : Nat) fy_Re_init ∈ fk_G := fk_in (fk_tab (List.mem_of_getElem? (i := 98) (by decide +kernel))) rfl
theorem fw_99 : Jvm.Cond.instanceMethod fy_Re_init ∈ fk_G := fk_in (fk_tab (List.mem_of_getElem? (i := 99) (by decide +kernel))) rfl
theorem fw_100 : Jvm.Cond.code fy_Re_init prog_6_method_1_code (1 : Nat) (Option.none : Option Jvm.ClassFile.FieldType) ∈ fk_G := fk_in (fk_tab (List.mem_of_getElem? (i := 100) (by decide +kernel))) rfl
theorem fw_101 : Jvm.Cond.methodLink "FootprintNet$Reach" (3 : Nat) fy_Ob_init ∈ fk_G := fk_in (fk_tab (List.mem_of_getElem? (i := 101) (by decide +kernel))) rfl
theorem fw_102 : Jvm.Cond.fieldLink "FootprintNet$Reach" (9 : Nat) "FootprintNet$Reach" "seen" "[J" ∈ fk_G := fk_in (fk_tab (List.mem_of_getElem? (i := 102) (by decide +kernel))) rfl
theorem fw_103 : Jvm.Cond.fieldLink "FootprintNet$Reach" (15 : Nat) "FootprintNet$Reach" "slots" "[I" ∈ fk_G := fk_in (fk_tab (List.mem_of_getElem? (i := 103) (by decide +kernel))) rfl
theorem fw_104 : Jvm.Cond.fieldLink "FootprintNet$Reach" (19 : Nat) "FootprintNet$Reach" "next" "[I" ∈ fk_G := fk_in (fk_tab (List.mem_of_getElem? (i := 104) (by decide +kernel))) rfl
theorem fw_105 : Jvm.Cond.fieldLink "FootprintNet$Reach" (22 : Nat) "FootprintNet$Reach" "ending" "[Z" ∈ fk_G := fk_in (fk_tab (List.mem_of_getElem? (i := 105) (by decide +kernel))) rfl
theorem fw_106 : Jvm.Cond.fieldLink "FootprintNet$Reach" (26 : Nat) "FootprintNet$Reach" "count" "I" ∈ fk_G := fk_in (fk_tab (List.mem_of_getElem? (i := 106) (by decide +kernel))) rfl
theorem fw_107 : Jvm.Cond.fieldLink "FootprintNet$Reach" (30 : Nat) "FootprintNet$Reach" "everEnabled" "I" ∈ fk_G := fk_in (fk_tab (List.mem_of_getElem? (i := 107) (by decide +kernel))) rfl
theorem fw_108 : Jvm.Cond.laysFinal "FootprintNet$Reach" "FootprintNet$Reach" "seen" "[J" ∈ fk_G := fk_in (fk_tab (List.mem_of_getElem? (i := 108) (by decide +kernel))) rfl
theorem fw_109 : Jvm.Cond.soleField "FootprintNet$Reach" "seen" ∈ fk_G := fk_in (fk_tab (List.mem_of_getElem? (i := 109) (by decide +kernel))) rfl
theorem fw_110 : Jvm.Cond.laysFinal "FootprintNet$Reach" "FootprintNet$Reach" "slots" "[I" ∈ fk_G := fk_in (fk_tab (List.mem_of_getElem? (i := 110) (by decide +kernel))) rfl
theorem fw_111 : Jvm.Cond.soleField "FootprintNet$Reach" "slots" ∈ fk_G := fk_in (fk_tab (List.mem_of_getElem? (i := 111) (by decide +kernel))) rfl
theorem fw_112 : Jvm.Cond.laysFinal "FootprintNet$Reach" "FootprintNet$Reach" "next" "[I" ∈ fk_G := fk_in (fk_tab (List.mem_of_getElem? (i := 112) (by decide +kernel))) rfl
theorem fw_113 : Jvm.Cond.soleField "FootprintNet$Reach" "next" ∈ fk_G := fk_in (fk_tab (List.mem_of_getElem? (i := 113) (by decide +kernel))) rfl
theorem fw_114 : Jvm.Cond.laysFinal "FootprintNet$Reach" "FootprintNet$Reach" "ending" "[Z" ∈ fk_G := fk_in (fk_tab (List.mem_of_getElem? (i := 114) (by decide +kernel))) rfl
theorem fw_115 : Jvm.Cond.soleField "FootprintNet$Reach" "ending" ∈ fk_G := fk_in (fk_tab (List.mem_of_getElem? (i := 115) (by decide +kernel))) rfl
theorem fw_116 : Jvm.Cond.lays "FootprintNet$Reach" "FootprintNet$Reach" "count" "I" ∈ fk_G := fk_in (fk_tab (List.mem_of_getElem? (i := 116) (by decide +kernel))) rfl
theorem fw_117 : Jvm.Cond.soleField "FootprintNet$Reach" "count" ∈ fk_G := fk_in (fk_tab (List.mem_of_getElem? (i := 117) (by decide +kernel))) rfl
theorem fw_118 : Jvm.Cond.lays "FootprintNet$Reach" "FootprintNet$Reach" "everEnabled" "I" ∈ fk_G := fk_in (fk_tab (List.mem_of_getElem? (i := 118) (by decide +kernel))) rfl
theorem fw_119 : Jvm.Cond.soleField "FootprintNet$Reach" "everEnabled" ∈ fk_G := fk_in (fk_tab (List.mem_of_getElem? (i := 119) (by decide +kernel))) rfl
theorem fw_120 : Jvm.Cond.superclass "FootprintNet$Reach" "java/lang/Object" ∈ fk_G := fk_in (fk_tab (List.mem_of_getElem? (i := 120) (by decide +kernel))) rfl
theorem fw_121 : Jvm.Cond.classLink "FootprintNet" (40 : Nat) "FootprintNet$Player" ∈ fk_G := fk_in (fk_tab (List.mem_of_getElem? (i := 121) (by decide +kernel))) rfl
theorem fw_122 : Jvm.Cond.instantiable "FootprintNet$Player" (2 : Nat) ∈ fk_G := fk_in (fk_tab (List.mem_of_getElem? (i := 122) (by decide +kernel))) rfl
theorem fw_123 : Jvm.Cond.methodLink "FootprintNet" (42 : Nat) fy_Pl_init ∈ fk_G := fk_in (fk_tab (List.mem_of_getElem? (i := 123) (by decide +kernel))) rfl
theorem fw_124 : Jvm.Cond.instanceMethod fy_Pl_init ∈ fk_G := fk_in (fk_tab (List.mem_of_getElem? (i := 124) (by decide +kernel))) rfl
theorem fw_125 : Jvm.Cond.code fy_Pl_init prog_5_method_1_code (1 : Nat) (Option.none : Option Jvm.ClassFile.FieldType) ∈ fk_G := fk_in (fk_tab (List.mem_of_getElem? (i := 125) (by decide +kernel))) rfl
theorem fw_126 : Jvm.Cond.methodLink "FootprintNet$Player" (3 : Nat) fy_Ob_init ∈ fk_G := fk_in (fk_tab (List.mem_of_getElem? (i := 126) (by decide +kernel))) rfl
theorem fw_127 : Jvm.Cond.fieldLink "FootprintNet$Player" (9 : Nat) "FootprintNet$Player" "fired" "[I" ∈ fk_G := fk_in (fk_tab (List.mem_of_getElem? (i := 127) (by decide +kernel))) rfl
theorem fw_128 : Jvm.Cond.fieldLink "FootprintNet$Player" (15 : Nat) "FootprintNet$Player" "count" "I" ∈ fk_G := fk_in (fk_tab (List.mem_of_getElem? (i := 128) (by decide +kernel))) rfl
theorem fw_129 : Jvm.Cond.laysFinal "FootprintNet$Player" "FootprintNet$Player" "fired" "[I" ∈ fk_G := fk_in (fk_tab (List.mem_of_getElem? (i := 129) (by decide +kernel))) rfl
theorem fw_130 : Jvm.Cond.soleField "FootprintNet$Player" "fired" ∈ fk_G := fk_in (fk_tab (List.mem_of_getElem? (i := 130) (by decide +kernel))) rfl
theorem fw_131 : Jvm.Cond.lays "FootprintNet$Player" "FootprintNet$Player" "count" "I" ∈ fk_G := fk_in (fk_tab (List.mem_of_getElem? (i := 131) (by decide +kernel))) rfl
theorem fw_132 : Jvm.Cond.soleField "FootprintNet$Player" "count" ∈ fk_G := fk_in (fk_tab (List.mem_of_getElem? (i := 132) (by decide +kernel))) rfl
theorem fw_133 : Jvm.Cond.superclass "FootprintNet$Player" "java/lang/Object" ∈ fk_G := fk_in (fk_tab (List.mem_of_getElem? (i := 133) (by decide +kernel))) rfl
theorem fw_134 : Jvm.Cond.fieldLink "FootprintNet" (12 : Nat) "FootprintNet" "log" "LFootprintNet$Log;" ∈ fk_G := fk_in (fk_tab (List.mem_of_getElem? (i := 134) (by decide +kernel))) rfl
theorem fw_135 : Jvm.Cond.fieldLink "FootprintNet" (19 : Nat) "FootprintNet" "given" "LFootprintNet$Net;" ∈ fk_G := fk_in (fk_tab (List.mem_of_getElem? (i := 135) (by decide +kernel))) rfl
theorem fw_136 : Jvm.Cond.fieldLink "FootprintNet" (23 : Nat) "FootprintNet" "found" "LFootprintNet$Net;" ∈ fk_G := fk_in (fk_tab (List.mem_of_getElem? (i := 136) (by decide +kernel))) rfl
theorem fw_137 : Jvm.Cond.fieldLink "FootprintNet" (29 : Nat) "FootprintNet" "miner" "LFootprintNet$Miner;" ∈ fk_G := fk_in (fk_tab (List.mem_of_getElem? (i := 137) (by decide +kernel))) rfl
theorem fw_138 : Jvm.Cond.fieldLink "FootprintNet" (36 : Nat) "FootprintNet" "reach" "LFootprintNet$Reach;" ∈ fk_G := fk_in (fk_tab (List.mem_of_getElem? (i := 138) (by decide +kernel))) rfl
theorem fw_139 : Jvm.Cond.fieldLink "FootprintNet" (43 : Nat) "FootprintNet" "player" "LFootprintNet$Player;" ∈ fk_G := fk_in (fk_tab (List.mem_of_getElem? (i := 139) (by decide +kernel))) rfl
theorem fw_140 : Jvm.Cond.laysFinal "FootprintNet" "FootprintNet" "log" "LFootprintNet$Log;" ∈ fk_G := fk_in (fk_tab (List.mem_of_getElem? (i := 140) (by decide +kernel))) rfl
theorem fw_141 : Jvm.Cond.soleField "FootprintNet" "log" ∈ fk_G := fk_in (fk_tab (List.mem_of_getElem? (i := 141) (by decide +kernel))) rfl
theorem fw_142 : Jvm.Cond.laysFinal "FootprintNet" "FootprintNet" "given" "LFootprintNet$Net;" ∈ fk_G := fk_in (fk_tab (List.mem_of_getElem? (i := 142) (by decide +kernel))) rfl
theorem fw_143 : Jvm.Cond.soleField "FootprintNet" "given" ∈ fk_G := fk_in (fk_tab (List.mem_of_getElem? (i := 143) (by decide +kernel))) rfl
theorem fw_144 : Jvm.Cond.laysFinal "FootprintNet" "FootprintNet" "found" "LFootprintNet$Net;" ∈ fk_G := fk_in (fk_tab (List.mem_of_getElem? (i := 144) (by decide +kernel))) rfl
theorem fw_145 : Jvm.Cond.soleField "FootprintNet" "found" ∈ fk_G := fk_in (fk_tab (List.mem_of_getElem? (i := 145) (by decide +kernel))) rfl
theorem fw_146 : Jvm.Cond.laysFinal "FootprintNet" "FootprintNet" "miner" "LFootprintNet$Miner;" ∈ fk_G := fk_in (fk_tab (List.mem_of_getElem? (i := 146) (by decide +kernel))) rfl
theorem fw_147 : Jvm.Cond.soleField "FootprintNet" "miner" ∈ fk_G := fk_in (fk_tab (List.mem_of_getElem? (i := 147) (by decide +kernel))) rfl
theorem fw_148 : Jvm.Cond.laysFinal "FootprintNet" "FootprintNet" "reach" "LFootprintNet$Reach;" ∈ fk_G := fk_in (fk_tab (List.mem_of_getElem? (i := 148) (by decide +kernel))) rfl
theorem fw_149 : Jvm.Cond.soleField "FootprintNet" "reach" ∈ fk_G := fk_in (fk_tab (List.mem_of_getElem? (i := 149) (by decide +kernel))) rfl
theorem fw_150 : Jvm.Cond.laysFinal "FootprintNet" "FootprintNet" "player" "LFootprintNet$Player;" ∈ fk_G := fk_in (fk_tab (List.mem_of_getElem? (i := 150) (by decide +kernel))) rfl
theorem fw_151 : Jvm.Cond.soleField "FootprintNet" "player" ∈ fk_G := fk_in (fk_tab (List.mem_of_getElem? (i := 151) (by decide +kernel))) rfl
theorem fw_152 : Jvm.Cond.superclass "FootprintNet" "java/lang/Object" ∈ fk_G := fk_in (fk_tab (List.mem_of_getElem? (i := 152) (by decide +kernel))) rfl
theorem fw_153 : Jvm.Cond.methodLink "FootprintNetLaw" (13 : Nat) fy_F_begin ∈ fk_G := fk_in (fk_tab (List.mem_of_getElem? (i := 153) (by decide +kernel))) rfl
theorem fw_154 : Jvm.Cond.instanceMethod fy_F_begin ∈ fk_G := fk_in (fk_tab (List.mem_of_getElem? (i := 154) (by decide +kernel))) rfl
theorem fw_155 : Jvm.Cond.selects "FootprintNet" fy_F_begin fy_F_begin ∈ fk_G := fk_in (fk_tab (List.mem_of_getElem? (i := 155) (by decide +kernel))) rfl
theorem fw_156 : Jvm.Cond.code fy_F_begin prog_1_method_2_code (1 : Nat) (Option.some Jvm.ClassFile.FieldType.int) ∈ fk_G := fk_in (fk_tab (List.mem_of_getElem? (i := 156) (by decide +kernel))) rfl
theorem fw_157 : Jvm.Cond.methodLink "FootprintNet" (47 : Nat) fy_Lg_addTrace ∈ fk_G := fk_in (fk_tab (List.mem_of_getElem? (i := 157) (by decide +kernel))) rfl
theorem fw_158 : Jvm.Cond.instanceMethod fy_Lg_addTrace ∈ fk_G := fk_in (fk_tab (List.mem_of_getElem? (i := 158) (by decide +kernel))) rfl
theorem fw_159 : Jvm.Cond.selects "FootprintNet$Log" fy_Lg_addTrace fy_Lg_addTrace ∈ fk_G := fk_in (fk_tab (List.mem_of_getElem? (i := 159) (by decide +kernel))) rfl
theorem fw_160 : Jvm.Cond.code fy_Lg_addTrace prog_2_method_7_code (1 : Nat) (Option.some Jvm.ClassFile.FieldType.int) ∈ fk_G := fk_in (fk_tab (List.mem_of_getElem? (i := 160) (by decide +kernel))) rfl
theorem fw_161 : Jvm.Cond.methodLink "FootprintNet$Log" (29 : Nat) fy_Lg_isFull ∈ fk_G := fk_in (fk_tab (List.mem_of_getElem? (i := 161) (by decide +kernel))) rfl
theorem fw_162 : Jvm.Cond.instanceMethod fy_Lg_isFull ∈ fk_G := fk_in (fk_tab (List.mem_of_getElem? (i := 162) (by decide +kernel))) rfl
theorem fw_163 : Jvm.Cond.selects "FootprintNet$Log" fy_Lg_isFull fy_Lg_isFull ∈ fk_G := fk_in (fk_tab (List.mem_of_getElem? (i := 163) (by decide +kernel))) rfl
theorem fw_164 : Jvm.Cond.code fy_Lg_isFull prog_2_method_2_code (1 : Nat) (Option.some Jvm.ClassFile.FieldType.boolean) ∈ fk_G := fk_in (fk_tab (List.mem_of_getElem? (i := 164) (by decide +kernel))) rfl
theorem fw_165 : Jvm.Cond.methodLink "FootprintNetLaw" (18 : Nat) fy_F_event ∈ fk_G := fk_in (fk_tab (List.mem_of_getElem? (i := 165) (by decide +kernel))) rfl
theorem fw_166 : Jvm.Cond.instanceMethod fy_F_event ∈ fk_G := fk_in (fk_tab (List.mem_of_getElem? (i := 166) (by decide +kernel))) rfl
theorem fw_167 : Jvm.Cond.selects "FootprintNet" fy_F_event fy_F_event ∈ fk_G := fk_in (fk_tab (List.mem_of_getElem? (i := 167) (by decide +kernel))) rfl
theorem fw_168 : Jvm.Cond.code fy_F_event prog_1_method_3_code (2 : Nat) (Option.some Jvm.ClassFile.FieldType.boolean) ∈ fk_G := fk_in (fk_tab (List.mem_of_getElem? (i := 168) (by decide +kernel))) rfl
theorem fw_169 : Jvm.Cond.methodLink "FootprintNet" (51 : Nat) fy_Lg_append ∈ fk_G := fk_in (fk_tab (List.mem_of_getElem? (i := 169) (by decide +kernel))) rfl
theorem fw_170 : Jvm.Cond.instanceMethod fy_Lg_append ∈ fk_G := fk_in (fk_tab (List.mem_of_getElem? (i := 170) (by decide +kernel))) rfl
theorem fw_171 : Jvm.Cond.selects "FootprintNet$Log" fy_Lg_append fy_Lg_append ∈ fk_G := fk_in (fk_tab (List.mem_of_getElem? (i := 171) (by decide +kernel))) rfl
theorem fw_172 : Jvm.Cond.code fy_Lg_append prog_2_method_8_code (4 : Nat) (Option.some Jvm.ClassFile.FieldType.boolean) ∈ fk_G := fk_in (fk_tab (List.mem_of_getElem? (i := 172) (by decide +kernel))) rfl
theorem fw_173 : Jvm.Cond.methodLinkNest "FootprintNet$Log" (33 : Nat) fy_F_isActivity "FootprintNet" ∈ fk_N := fk_inN (fk_tab (List.mem_of_getElem? (i := 173) (by decide +kernel))) rfl
theorem fw_174 : Jvm.Cond.static fy_F_isActivity ∈ fk_G := fk_in (fk_tab (List.mem_of_getElem? (i := 174) (by decide +kernel))) rfl
theorem fw_175 : Jvm.Cond.code fy_F_isActivity prog_1_method_21_code (1 : Nat) (Option.some Jvm.ClassFile.FieldType.boolean) ∈ fk_G := fk_in (fk_tab (List.mem_of_getElem? (i := 175) (by decide +kernel))) rfl
theorem fw_176 : Jvm.Cond.methodLink "FootprintNet$Log" (36 : Nat) fy_Lg_activityAt ∈ fk_G := fk_in (fk_tab (List.mem_of_getElem? (i := 176) (by decide +kernel))) rfl
theorem fw_177 : Jvm.Cond.instanceMethod fy_Lg_activityAt ∈ fk_G := fk_in (fk_tab (List.mem_of_getElem? (i := 177) (by decide +kernel))) rfl
theorem fw_178 : Jvm.Cond.selects "FootprintNet$Log" fy_Lg_activityAt fy_Lg_activityAt ∈ fk_G := fk_in (fk_tab (List.mem_of_getElem? (i := 178) (by decide +kernel))) rfl
theorem fw_179 : Jvm.Cond.code fy_Lg_activityAt prog_2_method_6_code (3 : Nat) (Option.some Jvm.ClassFile.FieldType.int) ∈ fk_G := fk_in (fk_tab (List.mem_of_getElem? (i := 179) (by decide +kernel))) rfl
theorem fw_180 : Jvm.Cond.methodLink "FootprintNetLaw" (23 : Nat) fy_F_clear ∈ fk_G := fk_in (fk_tab (List.mem_of_getElem? (i := 180) (by decide +kernel))) rfl
theorem fw_181 : Jvm.Cond.instanceMethod fy_F_clear ∈ fk_G := fk_in (fk_tab (List.mem_of_getElem? (i := 181) (by decide +kernel))) rfl
theorem fw_182 : Jvm.Cond.selects "FootprintNet" fy_F_clear fy_F_clear ∈ fk_G := fk_in (fk_tab (List.mem_of_getElem? (i := 182) (by decide +kernel))) rfl
theorem fw_183 : Jvm.Cond.code fy_F_clear prog_1_method_4_code (1 : Nat) (Option.none : Option Jvm.ClassFile.FieldType) ∈ fk_G := fk_in (fk_tab (List.mem_of_getElem? (i := 183) (by decide +kernel))) rfl
theorem fw_184 : Jvm.Cond.methodLink "FootprintNet" (55 : Nat) fy_Lg_removeTraces ∈ fk_G := fk_in (fk_tab (List.mem_of_getElem? (i := 184) (by decide +kernel))) rfl
theorem fw_185 : Jvm.Cond.instanceMethod fy_Lg_removeTraces ∈ fk_G := fk_in (fk_tab (List.mem_of_getElem? (i := 185) (by decide +kernel))) rfl
theorem fw_186 : Jvm.Cond.selects "FootprintNet$Log" fy_Lg_removeTraces fy_Lg_removeTraces ∈ fk_G := fk_in (fk_tab (List.mem_of_getElem? (i := 186) (by decide +kernel))) rfl
theorem fw_187 : Jvm.Cond.code fy_Lg_removeTraces prog_2_method_9_code (1 : Nat) (Option.none : Option Jvm.ClassFile.FieldType) ∈ fk_G := fk_in (fk_tab (List.mem_of_getElem? (i := 187) (by decide +kernel))) rfl
theorem fw_188 : Jvm.Cond.methodLink "FootprintNet$Log" (40 : Nat) fy_Ar_fillI ∈ fk_G := fk_in (fk_tab (List.mem_of_getElem? (i := 188) (by decide +kernel))) rfl
theorem fw_189 : Jvm.Cond.static fy_Ar_fillI ∈ fk_G := fk_in (fk_tab (List.mem_of_getElem? (i := 189) (by decide +kernel))) rfl
theorem fw_190 : Jvm.Cond.code fy_Ar_fillI prog_10_method_103_code (4 : Nat) (Option.none : Option Jvm.ClassFile.FieldType) ∈ fk_G := fk_in (fk_tab (List.mem_of_getElem? (i := 190) (by decide +kernel))) rfl
theorem fw_191 : Jvm.Cond.methodLink "FootprintNetLaw" (27 : Nat) fy_F_length ∈ fk_G := fk_in (fk_tab (List.mem_of_getElem? (i := 191) (by decide +kernel))) rfl
theorem fw_192 : Jvm.Cond.instanceMethod fy_F_length ∈ fk_G := fk_in (fk_tab (List.mem_of_getElem? (i := 192) (by decide +kernel))) rfl
theorem fw_193 : Jvm.Cond.selects "FootprintNet" fy_F_length fy_F_length ∈ fk_G := fk_in (fk_tab (List.mem_of_getElem? (i := 193) (by decide +kernel))) rfl
theorem fw_194 : Jvm.Cond.code fy_F_length prog_1_method_5_code (2 : Nat) (Option.some Jvm.ClassFile.FieldType.int) ∈ fk_G := fk_in (fk_tab (List.mem_of_getElem? (i := 194) (by decide +kernel))) rfl
theorem fw_195 : Jvm.Cond.methodLink "FootprintNet" (58 : Nat) fy_Lg_hasTrace ∈ fk_G := fk_in (fk_tab (List.mem_of_getElem? (i := 195) (by decide +kernel))) rfl
theorem fw_196 : Jvm.Cond.instanceMethod fy_Lg_hasTrace ∈ fk_G := fk_in (fk_tab (List.mem_of_getElem? (i := 196) (by decide +kernel))) rfl
theorem fw_197 : Jvm.Cond.selects "FootprintNet$Log" fy_Lg_hasTrace fy_Lg_hasTrace ∈ fk_G := fk_in (fk_tab (List.mem_of_getElem? (i := 197) (by decide +kernel))) rfl
theorem fw_198 : Jvm.Cond.code fy_Lg_hasTrace prog_2_method_3_code (2 : Nat) (Option.some Jvm.ClassFile.FieldType.boolean) ∈ fk_G := fk_in (fk_tab (List.mem_of_getElem? (i := 198) (by decide +kernel))) rfl
theorem fw_199 : Jvm.Cond.methodLink "FootprintNet" (61 : Nat) fy_Lg_lengthOf ∈ fk_G := fk_in (fk_tab (List.mem_of_getElem? (i := 199) (by decide +kernel))) rfl
theorem fw_200 : Jvm.Cond.instanceMethod fy_Lg_lengthOf ∈ fk_G := fk_in (fk_tab (List.mem_of_getElem? (i := 200) (by decide +kernel))) rfl
theorem fw_201 : Jvm.Cond.selects "FootprintNet$Log" fy_Lg_lengthOf fy_Lg_lengthOf ∈ fk_G := fk_in (fk_tab (List.mem_of_getElem? (i := 201) (by decide +kernel))) rfl
theorem fw_202 : Jvm.Cond.code fy_Lg_lengthOf prog_2_method_5_code (2 : Nat) (Option.some Jvm.ClassFile.FieldType.int) ∈ fk_G := fk_in (fk_tab (List.mem_of_getElem? (i := 202) (by decide +kernel))) rfl
theorem fw_203 : Jvm.Cond.methodLink "FootprintNetLaw" (32 : Nat) fy_F_at ∈ fk_G := fk_in (fk_tab (List.mem_of_getElem? (i := 203) (by decide +kernel))) rfl
theorem fw_204 : Jvm.Cond.instanceMethod fy_F_at ∈ fk_G := fk_in (fk_tab (List.mem_of_getElem? (i := 204) (by decide +kernel))) rfl
theorem fw_205 : Jvm.Cond.selects "FootprintNet" fy_F_at fy_F_at ∈ fk_G := fk_in (fk_tab (List.mem_of_getElem? (i := 205) (by decide +kernel))) rfl
theorem fw_206 : Jvm.Cond.code fy_F_at prog_1_method_6_code (3 : Nat) (Option.some Jvm.ClassFile.FieldType.int) ∈ fk_G := fk_in (fk_tab (List.mem_of_getElem? (i := 206) (by decide +kernel))) rfl
theorem fw_207 : Jvm.Cond.methodLink "FootprintNet" (65 : Nat) fy_Lg_hasEvent ∈ fk_G := fk_in (fk_tab (List.mem_of_getElem? (i := 207) (by decide +kernel))) rfl
theorem fw_208 : Jvm.Cond.instanceMethod fy_Lg_hasEvent ∈ fk_G := fk_in (fk_tab (List.mem_of_getElem? (i := 208) (by decide +kernel))) rfl
theorem fw_209 : Jvm.Cond.selects "FootprintNet$Log" fy_Lg_hasEvent fy_Lg_hasEvent ∈ fk_G := fk_in (fk_tab (List.mem_of_getElem? (i := 209) (by decide +kernel))) rfl
theorem fw_210 : Jvm.Cond.code fy_Lg_hasEvent prog_2_method_4_code (3 : Nat) (Option.some Jvm.ClassFile.FieldType.boolean) ∈ fk_G := fk_in (fk_tab (List.mem_of_getElem? (i := 210) (by decide +kernel))) rfl
theorem fw_211 : Jvm.Cond.methodLink "FootprintNet$Log" (25 : Nat) fy_Lg_hasTrace ∈ fk_G := fk_in (fk_tab (List.mem_of_getElem? (i := 211) (by decide +kernel))) rfl
theorem fw_212 : Jvm.Cond.methodLink "FootprintNet" (69 : Nat) fy_Lg_activityAt ∈ fk_G := fk_in (fk_tab (List.mem_of_getElem? (i := 212) (by decide +kernel))) rfl
theorem fw_213 : Jvm.Cond.methodLink "FootprintNetLaw" (37 : Nat) fy_F_relation ∈ fk_G := fk_in (fk_tab (List.mem_of_getElem? (i := 213) (by decide +kernel))) rfl
theorem fw_214 : Jvm.Cond.instanceMethod fy_F_relation ∈ fk_G := fk_in (fk_tab (List.mem_of_getElem? (i := 214) (by decide +kernel))) rfl
theorem fw_215 : Jvm.Cond.selects "FootprintNet" fy_F_relation fy_F_relation ∈ fk_G := fk_in (fk_tab (List.mem_of_getElem? (i := 215) (by decide +kernel))) rfl
theorem fw_216 : Jvm.Cond.code fy_F_relation prog_1_method_7_code (5 : Nat) (Option.some Jvm.ClassFile.FieldType.int) ∈ fk_G := fk_in (fk_tab (List.mem_of_getElem? (i := 216) (by decide +kernel))) rfl
theorem fw_217 : Jvm.Cond.methodLink "FootprintNet" (73 : Nat) fy_F_isActivity ∈ fk_G := fk_in (fk_tab (List.mem_of_getElem? (i := 217) (by decide +kernel))) rfl
theorem fw_218 : Jvm.Cond.methodLink "FootprintNet" (76 : Nat) fy_Lg_isFollowed ∈ fk_G := fk_in (fk_tab (List.mem_of_getElem? (i := 218) (by decide +kernel))) rfl
theorem fw_219 : Jvm.Cond.instanceMethod fy_Lg_isFollowed ∈ fk_G := fk_in (fk_tab (List.mem_of_getElem? (i := 219) (by decide +kernel))) rfl
theorem fw_220 : Jvm.Cond.selects "FootprintNet$Log" fy_Lg_isFollowed fy_Lg_isFollowed ∈ fk_G := fk_in (fk_tab (List.mem_of_getElem? (i := 220) (by decide +kernel))) rfl
theorem fw_221 : Jvm.Cond.code fy_Lg_isFollowed prog_2_method_10_code (3 : Nat) (Option.some Jvm.ClassFile.FieldType.boolean) ∈ fk_G := fk_in (fk_tab (List.mem_of_getElem? (i := 221) (by decide +kernel))) rfl
theorem fw_222 : Jvm.Cond.methodLinkNest "FootprintNet$Log" (46 : Nat) fy_F_isIn "FootprintNet" ∈ fk_N := fk_inN (fk_tab (List.mem_of_getElem? (i := 222) (by decide +kernel))) rfl
theorem fw_223 : Jvm.Cond.static fy_F_isIn ∈ fk_G := fk_in (fk_tab (List.mem_of_getElem? (i := 223) (by decide +kernel))) rfl
theorem fw_224 : Jvm.Cond.code fy_F_isIn prog_1_method_23_code (2 : Nat) (Option.some Jvm.ClassFile.FieldType.boolean) ∈ fk_G := fk_in (fk_tab (List.mem_of_getElem? (i := 224) (by decide +kernel))) rfl
theorem fw_225 : Jvm.Cond.methodLink "FootprintNetLaw" (41 : Nat) fy_F_mine ∈ fk_G := fk_in (fk_tab (List.mem_of_getElem? (i := 225) (by decide +kernel))) rfl
theorem fw_226 : Jvm.Cond.instanceMethod fy_F_mine ∈ fk_G := fk_in (fk_tab (List.mem_of_getElem? (i := 226) (by decide +kernel))) rfl
theorem fw_227 : Jvm.Cond.selects "FootprintNet" fy_F_mine fy_F_mine ∈ fk_G := fk_in (fk_tab (List.mem_of_getElem? (i := 227) (by decide +kernel))) rfl
theorem fw_228 : Jvm.Cond.code fy_F_mine prog_1_method_8_code (1 : Nat) (Option.some Jvm.ClassFile.FieldType.int) ∈ fk_G := fk_in (fk_tab (List.mem_of_getElem? (i := 228) (by decide +kernel))) rfl
theorem fw_229 : Jvm.Cond.methodLink "FootprintNet" (79 : Nat) fy_Mi_findPairs ∈ fk_G := fk_in (fk_tab (List.mem_of_getElem? (i := 229) (by decide +kernel))) rfl
theorem fw_230 : Jvm.Cond.instanceMethod fy_Mi_findPairs ∈ fk_G := fk_in (fk_tab (List.mem_of_getElem? (i := 230) (by decide +kernel))) rfl
theorem fw_231 : Jvm.Cond.selects "FootprintNet$Miner" fy_Mi_findPairs fy_Mi_findPairs ∈ fk_G := fk_in (fk_tab (List.mem_of_getElem? (i := 231) (by decide +kernel))) rfl
theorem fw_232 : Jvm.Cond.code fy_Mi_findPairs prog_3_method_2_code (3 : Nat) (Option.some Jvm.ClassFile.FieldType.boolean) ∈ fk_G := fk_in (fk_tab (List.mem_of_getElem? (i := 232) (by decide +kernel))) rfl
theorem fw_233 : Jvm.Cond.methodLink "FootprintNet$Miner" (29 : Nat) fy_Mi_prepareSets ∈ fk_G := fk_in (fk_tab (List.mem_of_getElem? (i := 233) (by decide +kernel))) rfl
theorem fw_235 : Jvm.Cond.instanceMethod fy_Mi_prepareSets ∈ fk_G := fk_in (fk_tab (List.mem_of_getElem? (i := 235) (by decide +kernel))) rfl
theorem fw_236 : Jvm.Cond.code fy_Mi_prepareSets prog_3_method_4_code (8 : Nat) (Option.none : Option Jvm.ClassFile.FieldType) ∈ fk_G := fk_in (fk_tab (List.mem_of_getElem? (i := 236) (by decide +kernel))) rfl
theorem fw_237 : Jvm.Cond.methodLink "FootprintNet$Miner" (66 : Nat) fy_Mi_causedBy ∈ fk_G := fk_in (fk_tab (List.mem_of_getElem? (i := 237) (by decide +kernel))) rfl
theorem fw_238 : Jvm.Cond.static fy_Mi_causedBy ∈ fk_G := fk_in (fk_tab (List.mem_of_getElem? (i := 238) (by decide +kernel))) rfl
theorem fw_239 : Jvm.Cond.code fy_Mi_causedBy prog_3_method_5_code (4 : Nat) (Option.some Jvm.ClassFile.FieldType.int) ∈ fk_G := fk_in (fk_tab (List.mem_of_getElem? (i := 239) (by decide +kernel))) rfl
theorem fw_240 : Jvm.Cond.methodLink "FootprintNet$Miner" (73 : Nat) fy_Lg_isFollowed ∈ fk_G := fk_in (fk_tab (List.mem_of_getElem? (i := 240) (by decide +kernel))) rfl
theorem fw_241 : Jvm.Cond.methodLink "FootprintNet$Miner" (70 : Nat) fy_Mi_knownTo ∈ fk_G := fk_in (fk_tab (List.mem_of_getElem? (i := 241) (by decide +kernel))) rfl
theorem fw_242 : Jvm.Cond.static fy_Mi_knownTo ∈ fk_G := fk_in (fk_tab (List.mem_of_getElem? (i := 242) (by decide +kernel))) rfl
theorem fw_243 : Jvm.Cond.code fy_Mi_knownTo prog_3_method_6_code (4 : Nat) (Option.some Jvm.ClassFile.FieldType.int) ∈ fk_G := fk_in (fk_tab (List.mem_of_getElem? (i := 243) (by decide +kernel))) rfl
theorem fw_244 : Jvm.Cond.methodLink "FootprintNet$Miner" (33 : Nat) fy_Mi_addPairsOf ∈ fk_G := fk_in (fk_tab (List.mem_of_getElem? (i := 244) (by decide +kernel))) rfl
theorem fw_246 : Jvm.Cond.instanceMethod fy_Mi_addPairsOf ∈ fk_G := fk_in (fk_tab (List.mem_of_getElem? (i := 246) (by decide +kernel))) rfl
theorem fw_247 : Jvm.Cond.code fy_Mi_addPairsOf prog_3_method_7_code (3 : Nat) (Option.some Jvm.ClassFile.FieldType.boolean) ∈ fk_G := fk_in (fk_tab (List.mem_of_getElem? (i := 247) (by decide +kernel))) rfl
theorem fw_248 : Jvm.Cond.methodLink "FootprintNet$Miner" (76 : Nat) fy_Mi_isCausal ∈ fk_G := fk_in (fk_tab (List.mem_of_getElem? (i := 248) (by decide +kernel))) rfl
theorem fw_250 : Jvm.Cond.instanceMethod fy_Mi_isCausal ∈ fk_G := fk_in (fk_tab (List.mem_of_getElem? (i := 250) (by decide +kernel))) rfl
theorem fw_251 : Jvm.Cond.code fy_Mi_isCausal prog_3_method_8_code (3 : Nat) (Option.some Jvm.ClassFile.FieldType.boolean) ∈ fk_G := fk_in (fk_tab (List.mem_of_getElem? (i := 251) (by decide +kernel))) rfl
theorem fw_252 : Jvm.Cond.methodLink "FootprintNet$Miner" (79 : Nat) fy_Mi_isGreatest ∈ fk_G := fk_in (fk_tab (List.mem_of_getElem? (i := 252) (by decide +kernel))) rfl
theorem fw_254 : Jvm.Cond.instanceMethod fy_Mi_isGreatest ∈ fk_G := fk_in (fk_tab (List.mem_of_getElem? (i := 254) (by decide +kernel))) rfl
theorem fw_255 : Jvm.Cond.code fy_Mi_isGreatest prog_3_method_9_code (5 : Nat) (Option.some Jvm.ClassFile.FieldType.boolean) ∈ fk_G := fk_in (fk_tab (List.mem_of_getElem? (i := 255) (by decide +kernel))) rfl
theorem fw_256 : Jvm.Cond.methodLink "FootprintNet" (83 : Nat) fy_Mi_writeNet ∈ fk_G := fk_in (fk_tab (List.mem_of_getElem? (i := 256) (by decide +kernel))) rfl
theorem fw_257 : Jvm.Cond.instanceMethod fy_Mi_writeNet ∈ fk_G := fk_in (fk_tab (List.mem_of_getElem? (i := 257) (by decide +kernel))) rfl
theorem fw_258 : Jvm.Cond.selects "FootprintNet$Miner" fy_Mi_writeNet fy_Mi_writeNet ∈ fk_G := fk_in (fk_tab (List.mem_of_getElem? (i := 258) (by decide +kernel))) rfl
theorem fw_259 : Jvm.Cond.code fy_Mi_writeNet prog_3_method_3_code (4 : Nat) (Option.none : Option Jvm.ClassFile.FieldType) ∈ fk_G := fk_in (fk_tab (List.mem_of_getElem? (i := 259) (by decide +kernel))) rfl
theorem fw_260 : Jvm.Cond.methodLink "FootprintNet$Miner" (37 : Nat) fy_Nt_removeAll ∈ fk_G := fk_in (fk_tab (List.mem_of_getElem? (i := 260) (by decide +kernel))) rfl
theorem fw_261 : Jvm.Cond.instanceMethod fy_Nt_removeAll ∈ fk_G := fk_in (fk_tab (List.mem_of_getElem? (i := 261) (by decide +kernel))) rfl
theorem fw_262 : Jvm.Cond.selects "FootprintNet$Net" fy_Nt_removeAll fy_Nt_removeAll ∈ fk_G := fk_in (fk_tab (List.mem_of_getElem? (i := 262) (by decide +kernel))) rfl
theorem fw_263 : Jvm.Cond.code fy_Nt_removeAll prog_4_method_12_code (1 : Nat) (Option.none : Option Jvm.ClassFile.FieldType) ∈ fk_G := fk_in (fk_tab (List.mem_of_getElem? (i := 263) (by decide +kernel))) rfl
theorem fw_264 : Jvm.Cond.methodLink "FootprintNet$Net" (44 : Nat) fy_Nt_setEnds ∈ fk_G := fk_in (fk_tab (List.mem_of_getElem? (i := 264) (by decide +kernel))) rfl
theorem fw_265 : Jvm.Cond.instanceMethod fy_Nt_setEnds ∈ fk_G := fk_in (fk_tab (List.mem_of_getElem? (i := 265) (by decide +kernel))) rfl
theorem fw_266 : Jvm.Cond.selects "FootprintNet$Net" fy_Nt_setEnds fy_Nt_setEnds ∈ fk_G := fk_in (fk_tab (List.mem_of_getElem? (i := 266) (by decide +kernel))) rfl
theorem fw_267 : Jvm.Cond.code fy_Nt_setEnds prog_4_method_10_code (3 : Nat) (Option.none : Option Jvm.ClassFile.FieldType) ∈ fk_G := fk_in (fk_tab (List.mem_of_getElem? (i := 267) (by decide +kernel))) rfl
theorem fw_268 : Jvm.Cond.methodLink "FootprintNet$Net" (41 : Nat) fy_Nt_prepareFiring ∈ fk_G := fk_in (fk_tab (List.mem_of_getElem? (i := 268) (by decide +kernel))) rfl
theorem fw_270 : Jvm.Cond.instanceMethod fy_Nt_prepareFiring ∈ fk_G := fk_in (fk_tab (List.mem_of_getElem? (i := 270) (by decide +kernel))) rfl
theorem fw_271 : Jvm.Cond.code fy_Nt_prepareFiring prog_4_method_13_code (2 : Nat) (Option.none : Option Jvm.ClassFile.FieldType) ∈ fk_G := fk_in (fk_tab (List.mem_of_getElem? (i := 271) (by decide +kernel))) rfl
theorem fw_272 : Jvm.Cond.methodLink "FootprintNet$Net" (48 : Nat) fy_Ar_fillJ ∈ fk_G := fk_in (fk_tab (List.mem_of_getElem? (i := 272) (by decide +kernel))) rfl
theorem fw_273 : Jvm.Cond.static fy_Ar_fillJ ∈ fk_G := fk_in (fk_tab (List.mem_of_getElem? (i := 273) (by decide +kernel))) rfl
theorem fw_274 : Jvm.Cond.code fy_Ar_fillJ prog_10_method_101_code (5 : Nat) (Option.none : Option Jvm.ClassFile.FieldType) ∈ fk_G := fk_in (fk_tab (List.mem_of_getElem? (i := 274) (by decide +kernel))) rfl
theorem fw_275 : Jvm.Cond.methodLink "FootprintNet$Net" (54 : Nat) fy_Nt_connect ∈ fk_G := fk_in (fk_tab (List.mem_of_getElem? (i := 275) (by decide +kernel))) rfl
theorem fw_277 : Jvm.Cond.instanceMethod fy_Nt_connect ∈ fk_G := fk_in (fk_tab (List.mem_of_getElem? (i := 277) (by decide +kernel))) rfl
theorem fw_278 : Jvm.Cond.code fy_Nt_connect prog_4_method_14_code (6 : Nat) (Option.none : Option Jvm.ClassFile.FieldType) ∈ fk_G := fk_in (fk_tab (List.mem_of_getElem? (i := 278) (by decide +kernel))) rfl
theorem fw_279 : Jvm.Cond.methodLinkNest "FootprintNet$Net" (60 : Nat) fy_F_isIn "FootprintNet" ∈ fk_N := fk_inN (fk_tab (List.mem_of_getElem? (i := 279) (by decide +kernel))) rfl
theorem fw_280 : Jvm.Cond.constantLong "FootprintNet$Net" (58 : Nat) (16 : Int64) ∈ fk_G := fk_in (fk_tab (List.mem_of_getElem? (i := 280) (by decide +kernel))) rfl
theorem fw_281 : Jvm.Cond.methodLink "FootprintNet$Miner" (42 : Nat) fy_Nt_addPlace ∈ fk_G := fk_in (fk_tab (List.mem_of_getElem? (i := 281) (by decide +kernel))) rfl
theorem fw_282 : Jvm.Cond.instanceMethod fy_Nt_addPlace ∈ fk_G := fk_in (fk_tab (List.mem_of_getElem? (i := 282) (by decide +kernel))) rfl
theorem fw_283 : Jvm.Cond.selects "FootprintNet$Net" fy_Nt_addPlace fy_Nt_addPlace ∈ fk_G := fk_in (fk_tab (List.mem_of_getElem? (i := 283) (by decide +kernel))) rfl
theorem fw_284 : Jvm.Cond.code fy_Nt_addPlace prog_4_method_9_code (3 : Nat) (Option.some Jvm.ClassFile.FieldType.boolean) ∈ fk_G := fk_in (fk_tab (List.mem_of_getElem? (i := 284) (by decide +kernel))) rfl
theorem fw_285 : Jvm.Cond.methodLink "FootprintNet$Miner" (46 : Nat) fy_Lg_beginners ∈ fk_G := fk_in (fk_tab (List.mem_of_getElem? (i := 285) (by decide +kernel))) rfl
theorem fw_286 : Jvm.Cond.instanceMethod fy_Lg_beginners ∈ fk_G := fk_in (fk_tab (List.mem_of_getElem? (i := 286) (by decide +kernel))) rfl
theorem fw_287 : Jvm.Cond.selects "FootprintNet$Log" fy_Lg_beginners fy_Lg_beginners ∈ fk_G := fk_in (fk_tab (List.mem_of_getElem? (i := 287) (by decide +kernel))) rfl
theorem fw_288 : Jvm.Cond.code fy_Lg_beginners prog_2_method_12_code (3 : Nat) (Option.some Jvm.ClassFile.FieldType.int) ∈ fk_G := fk_in (fk_tab (List.mem_of_getElem? (i := 288) (by decide +kernel))) rfl
theorem fw_289 : Jvm.Cond.methodLink "FootprintNet$Miner" (52 : Nat) fy_Lg_enders ∈ fk_G := fk_in (fk_tab (List.mem_of_getElem? (i := 289) (by decide +kernel))) rfl
theorem fw_290 : Jvm.Cond.instanceMethod fy_Lg_enders ∈ fk_G := fk_in (fk_tab (List.mem_of_getElem? (i := 290) (by decide +kernel))) rfl
theorem fw_291 : Jvm.Cond.selects "FootprintNet$Log" fy_Lg_enders fy_Lg_enders ∈ fk_G := fk_in (fk_tab (List.mem_of_getElem? (i := 291) (by decide +kernel))) rfl
theorem fw_292 : Jvm.Cond.code fy_Lg_enders prog_2_method_13_code (3 : Nat) (Option.some Jvm.ClassFile.FieldType.int) ∈ fk_G := fk_in (fk_tab (List.mem_of_getElem? (i := 292) (by decide +kernel))) rfl
theorem fw_293 : Jvm.Cond.methodLink "FootprintNet$Miner" (55 : Nat) fy_Nt_setEnds ∈ fk_G := fk_in (fk_tab (List.mem_of_getElem? (i := 293) (by decide +kernel))) rfl
theorem fw_294 : Jvm.Cond.methodLink "FootprintNet$Miner" (59 : Nat) fy_Lg_occurring ∈ fk_G := fk_in (fk_tab (List.mem_of_getElem? (i := 294) (by decide +kernel))) rfl
theorem fw_295 : Jvm.Cond.instanceMethod fy_Lg_occurring ∈ fk_G := fk_in (fk_tab (List.mem_of_getElem? (i := 295) (by decide +kernel))) rfl
theorem fw_296 : Jvm.Cond.selects "FootprintNet$Log" fy_Lg_occurring fy_Lg_occurring ∈ fk_G := fk_in (fk_tab (List.mem_of_getElem? (i := 296) (by decide +kernel))) rfl
theorem fw_297 : Jvm.Cond.code fy_Lg_occurring prog_2_method_11_code (4 : Nat) (Option.some Jvm.ClassFile.FieldType.int) ∈ fk_G := fk_in (fk_tab (List.mem_of_getElem? (i := 297) (by decide +kernel))) rfl
theorem fw_298 : Jvm.Cond.methodLink "FootprintNet$Miner" (62 : Nat) fy_Nt_setLoose ∈ fk_G := fk_in (fk_tab (List.mem_of_getElem? (i := 298) (by decide +kernel))) rfl
theorem fw_299 : Jvm.Cond.instanceMethod fy_Nt_setLoose ∈ fk_G := fk_in (fk_tab (List.mem_of_getElem? (i := 299) (by decide +kernel))) rfl
theorem fw_300 : Jvm.Cond.selects "FootprintNet$Net" fy_Nt_setLoose fy_Nt_setLoose ∈ fk_G := fk_in (fk_tab (List.mem_of_getElem? (i := 300) (by decide +kernel))) rfl
theorem fw_301 : Jvm.Cond.code fy_Nt_setLoose prog_4_method_11_code (2 : Nat) (Option.none : Option Jvm.ClassFile.FieldType) ∈ fk_G := fk_in (fk_tab (List.mem_of_getElem? (i := 301) (by decide +kernel))) rfl
theorem fw_302 : Jvm.Cond.methodLink "FootprintNet" (87 : Nat) fy_Nt_placeCount ∈ fk_G := fk_in (fk_tab (List.mem_of_getElem? (i := 302) (by decide +kernel))) rfl
theorem fw_303 : Jvm.Cond.instanceMethod fy_Nt_placeCount ∈ fk_G := fk_in (fk_tab (List.mem_of_getElem? (i := 303) (by decide +kernel))) rfl
theorem fw_304 : Jvm.Cond.selects "FootprintNet$Net" fy_Nt_placeCount fy_Nt_placeCount ∈ fk_G := fk_in (fk_tab (List.mem_of_getElem? (i := 304) (by decide +kernel))) rfl
theorem fw_305 : Jvm.Cond.code fy_Nt_placeCount prog_4_method_2_code (1 : Nat) (Option.some Jvm.ClassFile.FieldType.int) ∈ fk_G := fk_in (fk_tab (List.mem_of_getElem? (i := 305) (by decide +kernel))) rfl
theorem fw_306 : Jvm.Cond.methodLink "FootprintNetLaw" (45 : Nat) fy_F_place ∈ fk_G := fk_in (fk_tab (List.mem_of_getElem? (i := 306) (by decide +kernel))) rfl
theorem fw_307 : Jvm.Cond.instanceMethod fy_F_place ∈ fk_G := fk_in (fk_tab (List.mem_of_getElem? (i := 307) (by decide +kernel))) rfl
theorem fw_308 : Jvm.Cond.selects "FootprintNet" fy_F_place fy_F_place ∈ fk_G := fk_in (fk_tab (List.mem_of_getElem? (i := 308) (by decide +kernel))) rfl
theorem fw_309 : Jvm.Cond.code fy_F_place prog_1_method_9_code (3 : Nat) (Option.some Jvm.ClassFile.FieldType.int) ∈ fk_G := fk_in (fk_tab (List.mem_of_getElem? (i := 309) (by decide +kernel))) rfl
theorem fw_310 : Jvm.Cond.methodLink "FootprintNet" (90 : Nat) fy_F_isSet ∈ fk_G := fk_in (fk_tab (List.mem_of_getElem? (i := 310) (by decide +kernel))) rfl
theorem fw_311 : Jvm.Cond.static fy_F_isSet ∈ fk_G := fk_in (fk_tab (List.mem_of_getElem? (i := 311) (by decide +kernel))) rfl
theorem fw_312 : Jvm.Cond.code fy_F_isSet prog_1_method_22_code (1 : Nat) (Option.some Jvm.ClassFile.FieldType.boolean) ∈ fk_G := fk_in (fk_tab (List.mem_of_getElem? (i := 312) (by decide +kernel))) rfl
theorem fw_313 : Jvm.Cond.methodLink "FootprintNet" (93 : Nat) fy_Nt_hasPlace ∈ fk_G := fk_in (fk_tab (List.mem_of_getElem? (i := 313) (by decide +kernel))) rfl
theorem fw_314 : Jvm.Cond.instanceMethod fy_Nt_hasPlace ∈ fk_G := fk_in (fk_tab (List.mem_of_getElem? (i := 314) (by decide +kernel))) rfl
theorem fw_315 : Jvm.Cond.selects "FootprintNet$Net" fy_Nt_hasPlace fy_Nt_hasPlace ∈ fk_G := fk_in (fk_tab (List.mem_of_getElem? (i := 315) (by decide +kernel))) rfl
theorem fw_316 : Jvm.Cond.code fy_Nt_hasPlace prog_4_method_8_code (4 : Nat) (Option.some Jvm.ClassFile.FieldType.boolean) ∈ fk_G := fk_in (fk_tab (List.mem_of_getElem? (i := 316) (by decide +kernel))) rfl
theorem fw_317 : Jvm.Cond.methodLink "FootprintNet" (96 : Nat) fy_Nt_addPlace ∈ fk_G := fk_in (fk_tab (List.mem_of_getElem? (i := 317) (by decide +kernel))) rfl
theorem fw_318 : Jvm.Cond.methodLink "FootprintNetLaw" (49 : Nat) fy_F_ends ∈ fk_G := fk_in (fk_tab (List.mem_of_getElem? (i := 318) (by decide +kernel))) rfl
theorem fw_319 : Jvm.Cond.instanceMethod fy_F_ends ∈ fk_G := fk_in (fk_tab (List.mem_of_getElem? (i := 319) (by decide +kernel))) rfl
theorem fw_320 : Jvm.Cond.selects "FootprintNet" fy_F_ends fy_F_ends ∈ fk_G := fk_in (fk_tab (List.mem_of_getElem? (i := 320) (by decide +kernel))) rfl
theorem fw_321 : Jvm.Cond.code fy_F_ends prog_1_method_10_code (3 : Nat) (Option.some Jvm.ClassFile.FieldType.boolean) ∈ fk_G := fk_in (fk_tab (List.mem_of_getElem? (i := 321) (by decide +kernel))) rfl
theorem fw_322 : Jvm.Cond.methodLink "FootprintNet" (99 : Nat) fy_Nt_setEnds ∈ fk_G := fk_in (fk_tab (List.mem_of_getElem? (i := 322) (by decide +kernel))) rfl
theorem fw_323 : Jvm.Cond.methodLink "FootprintNetLaw" (54 : Nat) fy_F_reset ∈ fk_G := fk_in (fk_tab (List.mem_of_getElem? (i := 323) (by decide +kernel))) rfl
theorem fw_324 : Jvm.Cond.instanceMethod fy_F_reset ∈ fk_G := fk_in (fk_tab (List.mem_of_getElem? (i := 324) (by decide +kernel))) rfl
theorem fw_325 : Jvm.Cond.selects "FootprintNet" fy_F_reset fy_F_reset ∈ fk_G := fk_in (fk_tab (List.mem_of_getElem? (i := 325) (by decide +kernel))) rfl
theorem fw_326 : Jvm.Cond.code fy_F_reset prog_1_method_11_code (1 : Nat) (Option.none : Option Jvm.ClassFile.FieldType) ∈ fk_G := fk_in (fk_tab (List.mem_of_getElem? (i := 326) (by decide +kernel))) rfl
theorem fw_327 : Jvm.Cond.methodLink "FootprintNet" (103 : Nat) fy_Nt_removeAll ∈ fk_G := fk_in (fk_tab (List.mem_of_getElem? (i := 327) (by decide +kernel))) rfl
theorem fw_328 : Jvm.Cond.methodLink "FootprintNetLaw" (58 : Nat) fy_F_places ∈ fk_G := fk_in (fk_tab (List.mem_of_getElem? (i := 328) (by decide +kernel))) rfl
theorem fw_329 : Jvm.Cond.instanceMethod fy_F_places ∈ fk_G := fk_in (fk_tab (List.mem_of_getElem? (i := 329) (by decide +kernel))) rfl
theorem fw_330 : Jvm.Cond.selects "FootprintNet" fy_F_places fy_F_places ∈ fk_G := fk_in (fk_tab (List.mem_of_getElem? (i := 330) (by decide +kernel))) rfl
theorem fw_331 : Jvm.Cond.code fy_F_places prog_1_method_12_code (3 : Nat) (Option.some Jvm.ClassFile.FieldType.int) ∈ fk_G := fk_in (fk_tab (List.mem_of_getElem? (i := 331) (by decide +kernel))) rfl
theorem fw_332 : Jvm.Cond.methodLink "FootprintNet" (106 : Nat) fy_F_netOf ∈ fk_G := fk_in (fk_tab (List.mem_of_getElem? (i := 332) (by decide +kernel))) rfl
theorem fw_334 : Jvm.Cond.instanceMethod fy_F_netOf ∈ fk_G := fk_in (fk_tab (List.mem_of_getElem? (i := 334) (by decide +kernel))) rfl
theorem fw_335 : Jvm.Cond.code fy_F_netOf prog_1_method_24_code (2 : Nat) (Option.some (Jvm.ClassFile.FieldType.object "FootprintNet$Net")) ∈ fk_G := fk_in (fk_tab (List.mem_of_getElem? (i := 335) (by decide +kernel))) rfl
theorem fw_336 : Jvm.Cond.methodLink "FootprintNetLaw" (62 : Nat) fy_F_inputs ∈ fk_G := fk_in (fk_tab (List.mem_of_getElem? (i := 336) (by decide +kernel))) rfl
theorem fw_337 : Jvm.Cond.instanceMethod fy_F_inputs ∈ fk_G := fk_in (fk_tab (List.mem_of_getElem? (i := 337) (by decide +kernel))) rfl
theorem fw_338 : Jvm.Cond.selects "FootprintNet" fy_F_inputs fy_F_inputs ∈ fk_G := fk_in (fk_tab (List.mem_of_getElem? (i := 338) (by decide +kernel))) rfl
theorem fw_339 : Jvm.Cond.code fy_F_inputs prog_1_method_13_code (4 : Nat) (Option.some Jvm.ClassFile.FieldType.int) ∈ fk_G := fk_in (fk_tab (List.mem_of_getElem? (i := 339) (by decide +kernel))) rfl
theorem fw_340 : Jvm.Cond.methodLink "FootprintNet" (110 : Nat) fy_Nt_lastOnes ∈ fk_G := fk_in (fk_tab (List.mem_of_getElem? (i := 340) (by decide +kernel))) rfl
theorem fw_341 : Jvm.Cond.instanceMethod fy_Nt_lastOnes ∈ fk_G := fk_in (fk_tab (List.mem_of_getElem? (i := 341) (by decide +kernel))) rfl
theorem fw_342 : Jvm.Cond.selects "FootprintNet$Net" fy_Nt_lastOnes fy_Nt_lastOnes ∈ fk_G := fk_in (fk_tab (List.mem_of_getElem? (i := 342) (by decide +kernel))) rfl
theorem fw_343 : Jvm.Cond.code fy_Nt_lastOnes prog_4_method_6_code (1 : Nat) (Option.some Jvm.ClassFile.FieldType.int) ∈ fk_G := fk_in (fk_tab (List.mem_of_getElem? (i := 343) (by decide +kernel))) rfl
theorem fw_344 : Jvm.Cond.methodLink "FootprintNet" (113 : Nat) fy_Nt_inputsOf ∈ fk_G := fk_in (fk_tab (List.mem_of_getElem? (i := 344) (by decide +kernel))) rfl
theorem fw_345 : Jvm.Cond.instanceMethod fy_Nt_inputsOf ∈ fk_G := fk_in (fk_tab (List.mem_of_getElem? (i := 345) (by decide +kernel))) rfl
theorem fw_346 : Jvm.Cond.selects "FootprintNet$Net" fy_Nt_inputsOf fy_Nt_inputsOf ∈ fk_G := fk_in (fk_tab (List.mem_of_getElem? (i := 346) (by decide +kernel))) rfl
theorem fw_347 : Jvm.Cond.code fy_Nt_inputsOf prog_4_method_3_code (2 : Nat) (Option.some Jvm.ClassFile.FieldType.int) ∈ fk_G := fk_in (fk_tab (List.mem_of_getElem? (i := 347) (by decide +kernel))) rfl
theorem fw_348 : Jvm.Cond.methodLink "FootprintNetLaw" (66 : Nat) fy_F_outputs ∈ fk_G := fk_in (fk_tab (List.mem_of_getElem? (i := 348) (by decide +kernel))) rfl
theorem fw_349 : Jvm.Cond.instanceMethod fy_F_outputs ∈ fk_G := fk_in (fk_tab (List.mem_of_getElem? (i := 349) (by decide +kernel))) rfl
theorem fw_350 : Jvm.Cond.selects "FootprintNet" fy_F_outputs fy_F_outputs ∈ fk_G := fk_in (fk_tab (List.mem_of_getElem? (i := 350) (by decide +kernel))) rfl
theorem fw_351 : Jvm.Cond.code fy_F_outputs prog_1_method_14_code (4 : Nat) (Option.some Jvm.ClassFile.FieldType.int) ∈ fk_G := fk_in (fk_tab (List.mem_of_getElem? (i := 351) (by decide +kernel))) rfl
theorem fw_352 : Jvm.Cond.methodLink "FootprintNet" (116 : Nat) fy_Nt_firstOnes ∈ fk_G := fk_in (fk_tab (List.mem_of_getElem? (i := 352) (by decide +kernel))) rfl
theorem fw_353 : Jvm.Cond.instanceMethod fy_Nt_firstOnes ∈ fk_G := fk_in (fk_tab (List.mem_of_getElem? (i := 353) (by decide +kernel))) rfl
theorem fw_354 : Jvm.Cond.selects "FootprintNet$Net" fy_Nt_firstOnes fy_Nt_firstOnes ∈ fk_G := fk_in (fk_tab (List.mem_of_getElem? (i := 354) (by decide +kernel))) rfl
theorem fw_355 : Jvm.Cond.code fy_Nt_firstOnes prog_4_method_5_code (1 : Nat) (Option.some Jvm.ClassFile.FieldType.int) ∈ fk_G := fk_in (fk_tab (List.mem_of_getElem? (i := 355) (by decide +kernel))) rfl
theorem fw_356 : Jvm.Cond.methodLink "FootprintNet" (119 : Nat) fy_Nt_outputsOf ∈ fk_G := fk_in (fk_tab (List.mem_of_getElem? (i := 356) (by decide +kernel))) rfl
theorem fw_357 : Jvm.Cond.instanceMethod fy_Nt_outputsOf ∈ fk_G := fk_in (fk_tab (List.mem_of_getElem? (i := 357) (by decide +kernel))) rfl
theorem fw_358 : Jvm.Cond.selects "FootprintNet$Net" fy_Nt_outputsOf fy_Nt_outputsOf ∈ fk_G := fk_in (fk_tab (List.mem_of_getElem? (i := 358) (by decide +kernel))) rfl
theorem fw_359 : Jvm.Cond.code fy_Nt_outputsOf prog_4_method_4_code (2 : Nat) (Option.some Jvm.ClassFile.FieldType.int) ∈ fk_G := fk_in (fk_tab (List.mem_of_getElem? (i := 359) (by decide +kernel))) rfl
theorem fw_360 : Jvm.Cond.methodLink "FootprintNetLaw" (70 : Nat) fy_F_fits ∈ fk_G := fk_in (fk_tab (List.mem_of_getElem? (i := 360) (by decide +kernel))) rfl
theorem fw_361 : Jvm.Cond.instanceMethod fy_F_fits ∈ fk_G := fk_in (fk_tab (List.mem_of_getElem? (i := 361) (by decide +kernel))) rfl
theorem fw_362 : Jvm.Cond.selects "FootprintNet" fy_F_fits fy_F_fits ∈ fk_G := fk_in (fk_tab (List.mem_of_getElem? (i := 362) (by decide +kernel))) rfl
theorem fw_363 : Jvm.Cond.code fy_F_fits prog_1_method_15_code (4 : Nat) (Option.some Jvm.ClassFile.FieldType.boolean) ∈ fk_G := fk_in (fk_tab (List.mem_of_getElem? (i := 363) (by decide +kernel))) rfl
theorem fw_364 : Jvm.Cond.methodLink "FootprintNet" (122 : Nat) fy_F_replays ∈ fk_G := fk_in (fk_tab (List.mem_of_getElem? (i := 364) (by decide +kernel))) rfl
theorem fw_366 : Jvm.Cond.instanceMethod fy_F_replays ∈ fk_G := fk_in (fk_tab (List.mem_of_getElem? (i := 366) (by decide +kernel))) rfl
theorem fw_367 : Jvm.Cond.code fy_F_replays prog_1_method_25_code (7 : Nat) (Option.some Jvm.ClassFile.FieldType.boolean) ∈ fk_G := fk_in (fk_tab (List.mem_of_getElem? (i := 367) (by decide +kernel))) rfl
theorem fw_368 : Jvm.Cond.methodLink "FootprintNet" (162 : Nat) fy_Nt_enabledIn ∈ fk_G := fk_in (fk_tab (List.mem_of_getElem? (i := 368) (by decide +kernel))) rfl
theorem fw_369 : Jvm.Cond.instanceMethod fy_Nt_enabledIn ∈ fk_G := fk_in (fk_tab (List.mem_of_getElem? (i := 369) (by decide +kernel))) rfl
theorem fw_370 : Jvm.Cond.selects "FootprintNet$Net" fy_Nt_enabledIn fy_Nt_enabledIn ∈ fk_G := fk_in (fk_tab (List.mem_of_getElem? (i := 370) (by decide +kernel))) rfl
theorem fw_371 : Jvm.Cond.code fy_Nt_enabledIn prog_4_method_15_code (7 : Nat) (Option.some Jvm.ClassFile.FieldType.int) ∈ fk_G := fk_in (fk_tab (List.mem_of_getElem? (i := 371) (by decide +kernel))) rfl
theorem fw_372 : Jvm.Cond.constantLong "FootprintNet$Net" (64 : Nat) (1229782938247303441 : Int64) ∈ fk_G := fk_in (fk_tab (List.mem_of_getElem? (i := 372) (by decide +kernel))) rfl
theorem fw_373 : Jvm.Cond.constantLong "FootprintNet$Net" (66 : Nat) (-1 : Int64) ∈ fk_G := fk_in (fk_tab (List.mem_of_getElem? (i := 373) (by decide +kernel))) rfl
theorem fw_374 : Jvm.Cond.methodLink "FootprintNet" (166 : Nat) fy_F_isIn ∈ fk_G := fk_in (fk_tab (List.mem_of_getElem? (i := 374) (by decide +kernel))) rfl
theorem fw_375 : Jvm.Cond.methodLink "FootprintNet" (169 : Nat) fy_Nt_afterFiring ∈ fk_G := fk_in (fk_tab (List.mem_of_getElem? (i := 375) (by decide +kernel))) rfl
theorem fw_376 : Jvm.Cond.instanceMethod fy_Nt_afterFiring ∈ fk_G := fk_in (fk_tab (List.mem_of_getElem? (i := 376) (by decide +kernel))) rfl
theorem fw_377 : Jvm.Cond.selects "FootprintNet$Net" fy_Nt_afterFiring fy_Nt_afterFiring ∈ fk_G := fk_in (fk_tab (List.mem_of_getElem? (i := 377) (by decide +kernel))) rfl
theorem fw_378 : Jvm.Cond.code fy_Nt_afterFiring prog_4_method_16_code (4 : Nat) (Option.some Jvm.ClassFile.FieldType.long) ∈ fk_G := fk_in (fk_tab (List.mem_of_getElem? (i := 378) (by decide +kernel))) rfl
theorem fw_379 : Jvm.Cond.constantLong "FootprintNet" (173 : Nat) (16 : Int64) ∈ fk_G := fk_in (fk_tab (List.mem_of_getElem? (i := 379) (by decide +kernel))) rfl
theorem fw_380 : Jvm.Cond.methodLink "FootprintNetLaw" (74 : Nat) fy_F_markings ∈ fk_G := fk_in (fk_tab (List.mem_of_getElem? (i := 380) (by decide +kernel))) rfl
theorem fw_381 : Jvm.Cond.instanceMethod fy_F_markings ∈ fk_G := fk_in (fk_tab (List.mem_of_getElem? (i := 381) (by decide +kernel))) rfl
theorem fw_382 : Jvm.Cond.selects "FootprintNet" fy_F_markings fy_F_markings ∈ fk_G := fk_in (fk_tab (List.mem_of_getElem? (i := 382) (by decide +kernel))) rfl
theorem fw_383 : Jvm.Cond.code fy_F_markings prog_1_method_16_code (3 : Nat) (Option.some Jvm.ClassFile.FieldType.int) ∈ fk_G := fk_in (fk_tab (List.mem_of_getElem? (i := 383) (by decide +kernel))) rfl
theorem fw_384 : Jvm.Cond.methodLink "FootprintNet" (126 : Nat) fy_Re_explore ∈ fk_G := fk_in (fk_tab (List.mem_of_getElem? (i := 384) (by decide +kernel))) rfl
theorem fw_385 : Jvm.Cond.instanceMethod fy_Re_explore ∈ fk_G := fk_in (fk_tab (List.mem_of_getElem? (i := 385) (by decide +kernel))) rfl
theorem fw_386 : Jvm.Cond.selects "FootprintNet$Reach" fy_Re_explore fy_Re_explore ∈ fk_G := fk_in (fk_tab (List.mem_of_getElem? (i := 386) (by decide +kernel))) rfl
theorem fw_387 : Jvm.Cond.code fy_Re_explore prog_6_method_3_code (3 : Nat) (Option.some Jvm.ClassFile.FieldType.boolean) ∈ fk_G := fk_in (fk_tab (List.mem_of_getElem? (i := 387) (by decide +kernel))) rfl
theorem fw_388 : Jvm.Cond.methodLink "FootprintNet$Reach" (33 : Nat) fy_Ar_fillI ∈ fk_G := fk_in (fk_tab (List.mem_of_getElem? (i := 388) (by decide +kernel))) rfl
theorem fw_389 : Jvm.Cond.methodLink "FootprintNet$Reach" (39 : Nat) fy_Re_indexOf ∈ fk_G := fk_in (fk_tab (List.mem_of_getElem? (i := 389) (by decide +kernel))) rfl
theorem fw_391 : Jvm.Cond.instanceMethod fy_Re_indexOf ∈ fk_G := fk_in (fk_tab (List.mem_of_getElem? (i := 391) (by decide +kernel))) rfl
theorem fw_392 : Jvm.Cond.code fy_Re_indexOf prog_6_method_5_code (6 : Nat) (Option.some Jvm.ClassFile.FieldType.int) ∈ fk_G := fk_in (fk_tab (List.mem_of_getElem? (i := 392) (by decide +kernel))) rfl
theorem fw_393 : Jvm.Cond.constantLong "FootprintNet$Reach" (62 : Nat) (-7046029254386353131 : Int64) ∈ fk_G := fk_in (fk_tab (List.mem_of_getElem? (i := 393) (by decide +kernel))) rfl
theorem fw_394 : Jvm.Cond.methodLink "FootprintNet$Reach" (64 : Nat) fy_Re_addAt ∈ fk_G := fk_in (fk_tab (List.mem_of_getElem? (i := 394) (by decide +kernel))) rfl
theorem fw_396 : Jvm.Cond.instanceMethod fy_Re_addAt ∈ fk_G := fk_in (fk_tab (List.mem_of_getElem? (i := 396) (by decide +kernel))) rfl
theorem fw_397 : Jvm.Cond.code fy_Re_addAt prog_6_method_6_code (4 : Nat) (Option.some Jvm.ClassFile.FieldType.int) ∈ fk_G := fk_in (fk_tab (List.mem_of_getElem? (i := 397) (by decide +kernel))) rfl
theorem fw_398 : Jvm.Cond.methodLink "FootprintNet$Reach" (43 : Nat) fy_Re_addNextOf ∈ fk_G := fk_in (fk_tab (List.mem_of_getElem? (i := 398) (by decide +kernel))) rfl
theorem fw_400 : Jvm.Cond.instanceMethod fy_Re_addNextOf ∈ fk_G := fk_in (fk_tab (List.mem_of_getElem? (i := 400) (by decide +kernel))) rfl
theorem fw_401 : Jvm.Cond.code fy_Re_addNextOf prog_6_method_4_code (8 : Nat) (Option.some Jvm.ClassFile.FieldType.boolean) ∈ fk_G := fk_in (fk_tab (List.mem_of_getElem? (i := 401) (by decide +kernel))) rfl
theorem fw_402 : Jvm.Cond.methodLink "FootprintNet$Reach" (47 : Nat) fy_Nt_enabledIn ∈ fk_G := fk_in (fk_tab (List.mem_of_getElem? (i := 402) (by decide +kernel))) rfl
theorem fw_403 : Jvm.Cond.methodLinkNest "FootprintNet$Reach" (52 : Nat) fy_F_isIn "FootprintNet" ∈ fk_N := fk_inN (fk_tab (List.mem_of_getElem? (i := 403) (by decide +kernel))) rfl
theorem fw_404 : Jvm.Cond.methodLink "FootprintNet$Reach" (56 : Nat) fy_Nt_afterFiring ∈ fk_G := fk_in (fk_tab (List.mem_of_getElem? (i := 404) (by decide +kernel))) rfl
theorem fw_405 : Jvm.Cond.constantLong "FootprintNet$Reach" (60 : Nat) (-8608480567731124088 : Int64) ∈ fk_G := fk_in (fk_tab (List.mem_of_getElem? (i := 405) (by decide +kernel))) rfl
theorem fw_406 : Jvm.Cond.methodLink "FootprintNet" (130 : Nat) fy_Re_markingCount ∈ fk_G := fk_in (fk_tab (List.mem_of_getElem? (i := 406) (by decide +kernel))) rfl
theorem fw_407 : Jvm.Cond.instanceMethod fy_Re_markingCount ∈ fk_G := fk_in (fk_tab (List.mem_of_getElem? (i := 407) (by decide +kernel))) rfl
theorem fw_408 : Jvm.Cond.selects "FootprintNet$Reach" fy_Re_markingCount fy_Re_markingCount ∈ fk_G := fk_in (fk_tab (List.mem_of_getElem? (i := 408) (by decide +kernel))) rfl
theorem fw_409 : Jvm.Cond.code fy_Re_markingCount prog_6_method_2_code (1 : Nat) (Option.some Jvm.ClassFile.FieldType.int) ∈ fk_G := fk_in (fk_tab (List.mem_of_getElem? (i := 409) (by decide +kernel))) rfl
theorem fw_410 : Jvm.Cond.methodLink "FootprintNetLaw" (78 : Nat) fy_F_sound ∈ fk_G := fk_in (fk_tab (List.mem_of_getElem? (i := 410) (by decide +kernel))) rfl
theorem fw_411 : Jvm.Cond.instanceMethod fy_F_sound ∈ fk_G := fk_in (fk_tab (List.mem_of_getElem? (i := 411) (by decide +kernel))) rfl
theorem fw_412 : Jvm.Cond.selects "FootprintNet" fy_F_sound fy_F_sound ∈ fk_G := fk_in (fk_tab (List.mem_of_getElem? (i := 412) (by decide +kernel))) rfl
theorem fw_413 : Jvm.Cond.code fy_F_sound prog_1_method_17_code (3 : Nat) (Option.some Jvm.ClassFile.FieldType.int) ∈ fk_G := fk_in (fk_tab (List.mem_of_getElem? (i := 413) (by decide +kernel))) rfl
theorem fw_414 : Jvm.Cond.methodLink "FootprintNet" (133 : Nat) fy_Re_provesSound ∈ fk_G := fk_in (fk_tab (List.mem_of_getElem? (i := 414) (by decide +kernel))) rfl
theorem fw_415 : Jvm.Cond.instanceMethod fy_Re_provesSound ∈ fk_G := fk_in (fk_tab (List.mem_of_getElem? (i := 415) (by decide +kernel))) rfl
theorem fw_416 : Jvm.Cond.selects "FootprintNet$Reach" fy_Re_provesSound fy_Re_provesSound ∈ fk_G := fk_in (fk_tab (List.mem_of_getElem? (i := 416) (by decide +kernel))) rfl
theorem fw_417 : Jvm.Cond.code fy_Re_provesSound prog_6_method_7_code (2 : Nat) (Option.some Jvm.ClassFile.FieldType.boolean) ∈ fk_G := fk_in (fk_tab (List.mem_of_getElem? (i := 417) (by decide +kernel))) rfl
theorem fw_418 : Jvm.Cond.methodLink "FootprintNet$Reach" (68 : Nat) fy_Nt_activitySet ∈ fk_G := fk_in (fk_tab (List.mem_of_getElem? (i := 418) (by decide +kernel))) rfl
theorem fw_419 : Jvm.Cond.instanceMethod fy_Nt_activitySet ∈ fk_G := fk_in (fk_tab (List.mem_of_getElem? (i := 419) (by decide +kernel))) rfl
theorem fw_420 : Jvm.Cond.selects "FootprintNet$Net" fy_Nt_activitySet fy_Nt_activitySet ∈ fk_G := fk_in (fk_tab (List.mem_of_getElem? (i := 420) (by decide +kernel))) rfl
theorem fw_421 : Jvm.Cond.code fy_Nt_activitySet prog_4_method_7_code (1 : Nat) (Option.some Jvm.ClassFile.FieldType.int) ∈ fk_G := fk_in (fk_tab (List.mem_of_getElem? (i := 421) (by decide +kernel))) rfl
theorem fw_422 : Jvm.Cond.methodLink "FootprintNet$Reach" (72 : Nat) fy_Re_sinkMeansFinal ∈ fk_G := fk_in (fk_tab (List.mem_of_getElem? (i := 422) (by decide +kernel))) rfl
theorem fw_424 : Jvm.Cond.instanceMethod fy_Re_sinkMeansFinal ∈ fk_G := fk_in (fk_tab (List.mem_of_getElem? (i := 424) (by decide +kernel))) rfl
theorem fw_425 : Jvm.Cond.code fy_Re_sinkMeansFinal prog_6_method_8_code (2 : Nat) (Option.some Jvm.ClassFile.FieldType.boolean) ∈ fk_G := fk_in (fk_tab (List.mem_of_getElem? (i := 425) (by decide +kernel))) rfl
theorem fw_426 : Jvm.Cond.constantLong "FootprintNet$Reach" (79 : Nat) (240 : Int64) ∈ fk_G := fk_in (fk_tab (List.mem_of_getElem? (i := 426) (by decide +kernel))) rfl
theorem fw_427 : Jvm.Cond.constantLong "FootprintNet$Reach" (81 : Nat) (16 : Int64) ∈ fk_G := fk_in (fk_tab (List.mem_of_getElem? (i := 427) (by decide +kernel))) rfl
theorem fw_428 : Jvm.Cond.methodLink "FootprintNet$Reach" (76 : Nat) fy_Re_allCanEnd ∈ fk_G := fk_in (fk_tab (List.mem_of_getElem? (i := 428) (by decide +kernel))) rfl
theorem fw_430 : Jvm.Cond.instanceMethod fy_Re_allCanEnd ∈ fk_G := fk_in (fk_tab (List.mem_of_getElem? (i := 430) (by decide +kernel))) rfl
theorem fw_431 : Jvm.Cond.code fy_Re_allCanEnd prog_6_method_9_code (4 : Nat) (Option.some Jvm.ClassFile.FieldType.boolean) ∈ fk_G := fk_in (fk_tab (List.mem_of_getElem? (i := 431) (by decide +kernel))) rfl
theorem fw_432 : Jvm.Cond.methodLink "FootprintNet$Reach" (83 : Nat) fy_Re_spreadEnding ∈ fk_G := fk_in (fk_tab (List.mem_of_getElem? (i := 432) (by decide +kernel))) rfl
theorem fw_434 : Jvm.Cond.instanceMethod fy_Re_spreadEnding ∈ fk_G := fk_in (fk_tab (List.mem_of_getElem? (i := 434) (by decide +kernel))) rfl
theorem fw_435 : Jvm.Cond.code fy_Re_spreadEnding prog_6_method_10_code (3 : Nat) (Option.some Jvm.ClassFile.FieldType.int) ∈ fk_G := fk_in (fk_tab (List.mem_of_getElem? (i := 435) (by decide +kernel))) rfl
theorem fw_436 : Jvm.Cond.methodLink "FootprintNet$Reach" (86 : Nat) fy_Re_leadsToEnding ∈ fk_G := fk_in (fk_tab (List.mem_of_getElem? (i := 436) (by decide +kernel))) rfl
theorem fw_438 : Jvm.Cond.instanceMethod fy_Re_leadsToEnding ∈ fk_G := fk_in (fk_tab (List.mem_of_getElem? (i := 438) (by decide +kernel))) rfl
theorem fw_439 : Jvm.Cond.code fy_Re_leadsToEnding prog_6_method_11_code (4 : Nat) (Option.some Jvm.ClassFile.FieldType.boolean) ∈ fk_G := fk_in (fk_tab (List.mem_of_getElem? (i := 439) (by decide +kernel))) rfl
theorem fw_440 : Jvm.Cond.methodLink "FootprintNetLaw" (82 : Nat) fy_F_shape ∈ fk_G := fk_in (fk_tab (List.mem_of_getElem? (i := 440) (by decide +kernel))) rfl
theorem fw_441 : Jvm.Cond.instanceMethod fy_F_shape ∈ fk_G := fk_in (fk_tab (List.mem_of_getElem? (i := 441) (by decide +kernel))) rfl
theorem fw_442 : Jvm.Cond.selects "FootprintNet" fy_F_shape fy_F_shape ∈ fk_G := fk_in (fk_tab (List.mem_of_getElem? (i := 442) (by decide +kernel))) rfl
theorem fw_443 : Jvm.Cond.code fy_F_shape prog_1_method_18_code (6 : Nat) (Option.some Jvm.ClassFile.FieldType.int) ∈ fk_G := fk_in (fk_tab (List.mem_of_getElem? (i := 443) (by decide +kernel))) rfl
theorem fw_444 : Jvm.Cond.methodLink "FootprintNet" (136 : Nat) fy_Nt_hasSelfLoop ∈ fk_G := fk_in (fk_tab (List.mem_of_getElem? (i := 444) (by decide +kernel))) rfl
theorem fw_445 : Jvm.Cond.instanceMethod fy_Nt_hasSelfLoop ∈ fk_G := fk_in (fk_tab (List.mem_of_getElem? (i := 445) (by decide +kernel))) rfl
theorem fw_446 : Jvm.Cond.selects "FootprintNet$Net" fy_Nt_hasSelfLoop fy_Nt_hasSelfLoop ∈ fk_G := fk_in (fk_tab (List.mem_of_getElem? (i := 446) (by decide +kernel))) rfl
theorem fw_447 : Jvm.Cond.code fy_Nt_hasSelfLoop prog_4_method_17_code (2 : Nat) (Option.some Jvm.ClassFile.FieldType.boolean) ∈ fk_G := fk_in (fk_tab (List.mem_of_getElem? (i := 447) (by decide +kernel))) rfl
theorem fw_448 : Jvm.Cond.methodLink "FootprintNet" (140 : Nat) fy_Nt_hasShortLoop ∈ fk_G := fk_in (fk_tab (List.mem_of_getElem? (i := 448) (by decide +kernel))) rfl
theorem fw_449 : Jvm.Cond.instanceMethod fy_Nt_hasShortLoop ∈ fk_G := fk_in (fk_tab (List.mem_of_getElem? (i := 449) (by decide +kernel))) rfl
theorem fw_450 : Jvm.Cond.selects "FootprintNet$Net" fy_Nt_hasShortLoop fy_Nt_hasShortLoop ∈ fk_G := fk_in (fk_tab (List.mem_of_getElem? (i := 450) (by decide +kernel))) rfl
theorem fw_451 : Jvm.Cond.code fy_Nt_hasShortLoop prog_4_method_18_code (5 : Nat) (Option.some Jvm.ClassFile.FieldType.boolean) ∈ fk_G := fk_in (fk_tab (List.mem_of_getElem? (i := 451) (by decide +kernel))) rfl
theorem fw_452 : Jvm.Cond.methodLink "FootprintNet$Net" (68 : Nat) fy_It_bitCount ∈ fk_G := fk_in (fk_tab (List.mem_of_getElem? (i := 452) (by decide +kernel))) rfl
theorem fw_453 : Jvm.Cond.static fy_It_bitCount ∈ fk_G := fk_in (fk_tab (List.mem_of_getElem? (i := 453) (by decide +kernel))) rfl
theorem fw_454 : Jvm.Cond.code fy_It_bitCount prog_9_method_49_code (1 : Nat) (Option.some Jvm.ClassFile.FieldType.int) ∈ fk_G := fk_in (fk_tab (List.mem_of_getElem? (i := 454) (by decide +kernel))) rfl
theorem fw_455 : Jvm.Cond.constant "java/lang/Integer" (265 : Nat) (1431655765 : Int32) ∈ fk_G := fk_in (fk_tab (List.mem_of_getElem? (i := 455) (by decide +kernel))) rfl
theorem fw_456 : Jvm.Cond.constant "java/lang/Integer" (266 : Nat) (858993459 : Int32) ∈ fk_G := fk_in (fk_tab (List.mem_of_getElem? (i := 456) (by decide +kernel))) rfl
theorem fw_457 : Jvm.Cond.constant "java/lang/Integer" (267 : Nat) (252645135 : Int32) ∈ fk_G := fk_in (fk_tab (List.mem_of_getElem? (i := 457) (by decide +kernel))) rfl
theorem fw_458 : Jvm.Cond.methodLink "FootprintNet" (143 : Nat) fy_Nt_hasMixedChoice ∈ fk_G := fk_in (fk_tab (List.mem_of_getElem? (i := 458) (by decide +kernel))) rfl
theorem fw_459 : Jvm.Cond.instanceMethod fy_Nt_hasMixedChoice ∈ fk_G := fk_in (fk_tab (List.mem_of_getElem? (i := 459) (by decide +kernel))) rfl
theorem fw_460 : Jvm.Cond.selects "FootprintNet$Net" fy_Nt_hasMixedChoice fy_Nt_hasMixedChoice ∈ fk_G := fk_in (fk_tab (List.mem_of_getElem? (i := 460) (by decide +kernel))) rfl
theorem fw_461 : Jvm.Cond.code fy_Nt_hasMixedChoice prog_4_method_19_code (3 : Nat) (Option.some Jvm.ClassFile.FieldType.boolean) ∈ fk_G := fk_in (fk_tab (List.mem_of_getElem? (i := 461) (by decide +kernel))) rfl
theorem fw_462 : Jvm.Cond.methodLink "FootprintNet$Net" (74 : Nat) fy_Nt_sharesOutputs ∈ fk_G := fk_in (fk_tab (List.mem_of_getElem? (i := 462) (by decide +kernel))) rfl
theorem fw_464 : Jvm.Cond.instanceMethod fy_Nt_sharesOutputs ∈ fk_G := fk_in (fk_tab (List.mem_of_getElem? (i := 464) (by decide +kernel))) rfl
theorem fw_465 : Jvm.Cond.code fy_Nt_sharesOutputs prog_4_method_20_code (5 : Nat) (Option.some Jvm.ClassFile.FieldType.boolean) ∈ fk_G := fk_in (fk_tab (List.mem_of_getElem? (i := 465) (by decide +kernel))) rfl
theorem fw_466 : Jvm.Cond.methodLink "FootprintNetLaw" (88 : Nat) fy_F_play ∈ fk_G := fk_in (fk_tab (List.mem_of_getElem? (i := 466) (by decide +kernel))) rfl
theorem fw_467 : Jvm.Cond.instanceMethod fy_F_play ∈ fk_G := fk_in (fk_tab (List.mem_of_getElem? (i := 467) (by decide +kernel))) rfl
theorem fw_468 : Jvm.Cond.selects "FootprintNet" fy_F_play fy_F_play ∈ fk_G := fk_in (fk_tab (List.mem_of_getElem? (i := 468) (by decide +kernel))) rfl
theorem fw_469 : Jvm.Cond.code fy_F_play prog_1_method_19_code (5 : Nat) (Option.some Jvm.ClassFile.FieldType.int) ∈ fk_G := fk_in (fk_tab (List.mem_of_getElem? (i := 469) (by decide +kernel))) rfl
theorem fw_470 : Jvm.Cond.methodLink "FootprintNet" (146 : Nat) fy_Lg_isFull ∈ fk_G := fk_in (fk_tab (List.mem_of_getElem? (i := 470) (by decide +kernel))) rfl
theorem fw_471 : Jvm.Cond.methodLink "FootprintNet" (149 : Nat) fy_Pl_reachesFinal ∈ fk_G := fk_in (fk_tab (List.mem_of_getElem? (i := 471) (by decide +kernel))) rfl
theorem fw_472 : Jvm.Cond.instanceMethod fy_Pl_reachesFinal ∈ fk_G := fk_in (fk_tab (List.mem_of_getElem? (i := 472) (by decide +kernel))) rfl
theorem fw_473 : Jvm.Cond.selects "FootprintNet$Player" fy_Pl_reachesFinal fy_Pl_reachesFinal ∈ fk_G := fk_in (fk_tab (List.mem_of_getElem? (i := 473) (by decide +kernel))) rfl
theorem fw_474 : Jvm.Cond.code fy_Pl_reachesFinal prog_5_method_4_code (10 : Nat) (Option.some Jvm.ClassFile.FieldType.boolean) ∈ fk_G := fk_in (fk_tab (List.mem_of_getElem? (i := 474) (by decide +kernel))) rfl
theorem fw_475 : Jvm.Cond.constantLong "FootprintNet$Player" (19 : Nat) (16 : Int64) ∈ fk_G := fk_in (fk_tab (List.mem_of_getElem? (i := 475) (by decide +kernel))) rfl
theorem fw_476 : Jvm.Cond.methodLink "FootprintNet$Player" (21 : Nat) fy_Nt_enabledIn ∈ fk_G := fk_in (fk_tab (List.mem_of_getElem? (i := 476) (by decide +kernel))) rfl
theorem fw_477 : Jvm.Cond.constantLong "FootprintNet$Player" (27 : Nat) (7 : Int64) ∈ fk_G := fk_in (fk_tab (List.mem_of_getElem? (i := 477) (by decide +kernel))) rfl
theorem fw_478 : Jvm.Cond.methodLink "FootprintNet$Player" (29 : Nat) fy_Pl_chosenOf ∈ fk_G := fk_in (fk_tab (List.mem_of_getElem? (i := 478) (by decide +kernel))) rfl
theorem fw_479 : Jvm.Cond.static fy_Pl_chosenOf ∈ fk_G := fk_in (fk_tab (List.mem_of_getElem? (i := 479) (by decide +kernel))) rfl
theorem fw_480 : Jvm.Cond.code fy_Pl_chosenOf prog_5_method_5_code (5 : Nat) (Option.some Jvm.ClassFile.FieldType.int) ∈ fk_G := fk_in (fk_tab (List.mem_of_getElem? (i := 480) (by decide +kernel))) rfl
theorem fw_481 : Jvm.Cond.methodLink "FootprintNet$Player" (37 : Nat) fy_It_bitCount ∈ fk_G := fk_in (fk_tab (List.mem_of_getElem? (i := 481) (by decide +kernel))) rfl
theorem fw_482 : Jvm.Cond.methodLinkNest "FootprintNet$Player" (43 : Nat) fy_F_isIn "FootprintNet" ∈ fk_N := fk_inN (fk_tab (List.mem_of_getElem? (i := 482) (by decide +kernel))) rfl
theorem fw_483 : Jvm.Cond.methodLink "FootprintNet$Player" (33 : Nat) fy_Nt_afterFiring ∈ fk_G := fk_in (fk_tab (List.mem_of_getElem? (i := 483) (by decide +kernel))) rfl
theorem fw_484 : Jvm.Cond.methodLink "FootprintNet" (153 : Nat) fy_Pl_firedCount ∈ fk_G := fk_in (fk_tab (List.mem_of_getElem? (i := 484) (by decide +kernel))) rfl
theorem fw_485 : Jvm.Cond.instanceMethod fy_Pl_firedCount ∈ fk_G := fk_in (fk_tab (List.mem_of_getElem? (i := 485) (by decide +kernel))) rfl
theorem fw_486 : Jvm.Cond.selects "FootprintNet$Player" fy_Pl_firedCount fy_Pl_firedCount ∈ fk_G := fk_in (fk_tab (List.mem_of_getElem? (i := 486) (by decide +kernel))) rfl
theorem fw_487 : Jvm.Cond.code fy_Pl_firedCount prog_5_method_2_code (1 : Nat) (Option.some Jvm.ClassFile.FieldType.int) ∈ fk_G := fk_in (fk_tab (List.mem_of_getElem? (i := 487) (by decide +kernel))) rfl
theorem fw_488 : Jvm.Cond.methodLink "FootprintNet" (156 : Nat) fy_Pl_firedAt ∈ fk_G := fk_in (fk_tab (List.mem_of_getElem? (i := 488) (by decide +kernel))) rfl
theorem fw_489 : Jvm.Cond.instanceMethod fy_Pl_firedAt ∈ fk_G := fk_in (fk_tab (List.mem_of_getElem? (i := 489) (by decide +kernel))) rfl
theorem fw_490 : Jvm.Cond.selects "FootprintNet$Player" fy_Pl_firedAt fy_Pl_firedAt ∈ fk_G := fk_in (fk_tab (List.mem_of_getElem? (i := 490) (by decide +kernel))) rfl
theorem fw_491 : Jvm.Cond.code fy_Pl_firedAt prog_5_method_3_code (2 : Nat) (Option.some Jvm.ClassFile.FieldType.int) ∈ fk_G := fk_in (fk_tab (List.mem_of_getElem? (i := 491) (by decide +kernel))) rfl
theorem fw_492 : Jvm.Cond.methodLink "FootprintNetLaw" (93 : Nat) fy_F_same ∈ fk_G := fk_in (fk_tab (List.mem_of_getElem? (i := 492) (by decide +kernel))) rfl
theorem fw_493 : Jvm.Cond.instanceMethod fy_F_same ∈ fk_G := fk_in (fk_tab (List.mem_of_getElem? (i := 493) (by decide +kernel))) rfl
theorem fw_494 : Jvm.Cond.selects "FootprintNet" fy_F_same fy_F_same ∈ fk_G := fk_in (fk_tab (List.mem_of_getElem? (i := 494) (by decide +kernel))) rfl
theorem fw_495 : Jvm.Cond.code fy_F_same prog_1_method_20_code (1 : Nat) (Option.some Jvm.ClassFile.FieldType.boolean) ∈ fk_G := fk_in (fk_tab (List.mem_of_getElem? (i := 495) (by decide +kernel))) rfl
theorem fw_496 : Jvm.Cond.methodLink "FootprintNet" (159 : Nat) fy_Nt_isLike ∈ fk_G := fk_in (fk_tab (List.mem_of_getElem? (i := 496) (by decide +kernel))) rfl
theorem fw_497 : Jvm.Cond.instanceMethod fy_Nt_isLike ∈ fk_G := fk_in (fk_tab (List.mem_of_getElem? (i := 497) (by decide +kernel))) rfl
theorem fw_498 : Jvm.Cond.selects "FootprintNet$Net" fy_Nt_isLike fy_Nt_isLike ∈ fk_G := fk_in (fk_tab (List.mem_of_getElem? (i := 498) (by decide +kernel))) rfl
theorem fw_499 : Jvm.Cond.code fy_Nt_isLike prog_4_method_21_code (3 : Nat) (Option.some Jvm.ClassFile.FieldType.boolean) ∈ fk_G := fk_in (fk_tab (List.mem_of_getElem? (i := 499) (by decide +kernel))) rfl
theorem fw_500 : Jvm.Cond.methodLink "FootprintNet$Net" (77 : Nat) fy_Nt_hasPlace ∈ fk_G := fk_in (fk_tab (List.mem_of_getElem? (i := 500) (by decide +kernel))) rfl
theorem fw_501 : Jvm.Cond.classLink "FootprintNetLaw" (10 : Nat) "FootprintNetModel" ∈ fk_G := fk_in (fk_tab (List.mem_of_getElem? (i := 501) (by decide +kernel))) rfl
theorem fw_502 : Jvm.Cond.instantiable "FootprintNetModel" (19 : Nat) ∈ fk_G := fk_in (fk_tab (List.mem_of_getElem? (i := 502) (by decide +kernel))) rfl
theorem fw_503 : Jvm.Cond.methodLink "FootprintNetLaw" (12 : Nat) fy_Md_init ∈ fk_G := fk_in (fk_tab (List.mem_of_getElem? (i := 503) (by decide +kernel))) rfl
theorem fw_504 : Jvm.Cond.instanceMethod fy_Md_init ∈ fk_G := fk_in (fk_tab (List.mem_of_getElem? (i := 504) (by decide +kernel))) rfl
theorem fw_505 : Jvm.Cond.code fy_Md_init prog_8_method_1_code (1 : Nat) (Option.none : Option Jvm.ClassFile.FieldType) ∈ fk_G := fk_in (fk_tab (List.mem_of_getElem? (i := 505) (by decide +kernel))) rfl
theorem fw_506 : Jvm.Cond.methodLink "FootprintNetModel" (1 : Nat) fy_Ob_init ∈ fk_G := fk_in (fk_tab (List.mem_of_getElem? (i := 506) (by decide +kernel))) rfl
theorem fw_507 : Jvm.Cond.fieldLink "FootprintNetModel" (58 : Nat) "FootprintNetModel" "traces" "I" ∈ fk_G := fk_in (fk_tab (List.mem_of_getElem? (i := 507) (by decide +kernel))) rfl
theorem fw_508 : Jvm.Cond.fieldLink "FootprintNetModel" (7 : Nat) "FootprintNetModel" "lengths" "[I" ∈ fk_G := fk_in (fk_tab (List.mem_of_getElem? (i := 508) (by decide +kernel))) rfl
theorem fw_509 : Jvm.Cond.fieldLink "FootprintNetModel" (13 : Nat) "FootprintNetModel" "log" "[I" ∈ fk_G := fk_in (fk_tab (List.mem_of_getElem? (i := 509) (by decide +kernel))) rfl
theorem fw_510 : Jvm.Cond.fieldLink "FootprintNetModel" (16 : Nat) "FootprintNetModel" "count" "[I" ∈ fk_G := fk_in (fk_tab (List.mem_of_getElem? (i := 510) (by decide +kernel))) rfl
theorem fw_511 : Jvm.Cond.fieldLink "FootprintNetModel" (19 : Nat) "FootprintNetModel" "ins" "[I" ∈ fk_G := fk_in (fk_tab (List.mem_of_getElem? (i := 511) (by decide +kernel))) rfl
theorem fw_512 : Jvm.Cond.fieldLink "FootprintNetModel" (22 : Nat) "FootprintNetModel" "outs" "[I" ∈ fk_G := fk_in (fk_tab (List.mem_of_getElem? (i := 512) (by decide +kernel))) rfl
theorem fw_513 : Jvm.Cond.fieldLink "FootprintNetModel" (25 : Nat) "FootprintNetModel" "first" "[I" ∈ fk_G := fk_in (fk_tab (List.mem_of_getElem? (i := 513) (by decide +kernel))) rfl
theorem fw_514 : Jvm.Cond.fieldLink "FootprintNetModel" (28 : Nat) "FootprintNetModel" "last" "[I" ∈ fk_G := fk_in (fk_tab (List.mem_of_getElem? (i := 514) (by decide +kernel))) rfl
theorem fw_515 : Jvm.Cond.fieldLink "FootprintNetModel" (31 : Nat) "FootprintNetModel" "acts" "[I" ∈ fk_G := fk_in (fk_tab (List.mem_of_getElem? (i := 515) (by decide +kernel))) rfl
theorem fw_516 : Jvm.Cond.fieldLink "FootprintNetModel" (34 : Nat) "FootprintNetModel" "table" "[I" ∈ fk_G := fk_in (fk_tab (List.mem_of_getElem? (i := 516) (by decide +kernel))) rfl
theorem fw_517 : Jvm.Cond.fieldLink "FootprintNetModel" (72 : Nat) "FootprintNetModel" "found" "I" ∈ fk_G := fk_in (fk_tab (List.mem_of_getElem? (i := 517) (by decide +kernel))) rfl
theorem fw_518 : Jvm.Cond.fieldLink "FootprintNetModel" (37 : Nat) "FootprintNetModel" "foundIn" "[I" ∈ fk_G := fk_in (fk_tab (List.mem_of_getElem? (i := 518) (by decide +kernel))) rfl
theorem fw_519 : Jvm.Cond.fieldLink "FootprintNetModel" (40 : Nat) "FootprintNetModel" "foundOut" "[I" ∈ fk_G := fk_in (fk_tab (List.mem_of_getElem? (i := 519) (by decide +kernel))) rfl
theorem fw_520 : Jvm.Cond.fieldLink "FootprintNetModel" (43 : Nat) "FootprintNetModel" "tokens" "[I" ∈ fk_G := fk_in (fk_tab (List.mem_of_getElem? (i := 520) (by decide +kernel))) rfl
theorem fw_521 : Jvm.Cond.fieldLink "FootprintNetModel" (111 : Nat) "FootprintNetModel" "many" "I" ∈ fk_G := fk_in (fk_tab (List.mem_of_getElem? (i := 521) (by decide +kernel))) rfl
theorem fw_522 : Jvm.Cond.fieldLink "FootprintNetModel" (114 : Nat) "FootprintNetModel" "wide" "Z" ∈ fk_G := fk_in (fk_tab (List.mem_of_getElem? (i := 522) (by decide +kernel))) rfl
theorem fw_523 : Jvm.Cond.fieldLink "FootprintNetModel" (46 : Nat) "FootprintNetModel" "marks" "[B" ∈ fk_G := fk_in (fk_tab (List.mem_of_getElem? (i := 523) (by decide +kernel))) rfl
theorem fw_524 : Jvm.Cond.fieldLink "FootprintNetModel" (50 : Nat) "FootprintNetModel" "next" "[S" ∈ fk_G := fk_in (fk_tab (List.mem_of_getElem? (i := 524) (by decide +kernel))) rfl
theorem fw_525 : Jvm.Cond.fieldLink "FootprintNetModel" (54 : Nat) "FootprintNetModel" "good" "[Z" ∈ fk_G := fk_in (fk_tab (List.mem_of_getElem? (i := 525) (by decide +kernel))) rfl
theorem fw_526 : Jvm.Cond.lays "FootprintNetModel" "FootprintNetModel" "traces" "I" ∈ fk_G := fk_in (fk_tab (List.mem_of_getElem? (i := 526) (by decide +kernel))) rfl
theorem fw_527 : Jvm.Cond.soleField "FootprintNetModel" "traces" ∈ fk_G := fk_in (fk_tab (List.mem_of_getElem? (i := 527) (by decide +kernel))) rfl
theorem fw_528 : Jvm.Cond.laysFinal "FootprintNetModel" "FootprintNetModel" "lengths" "[I" ∈ fk_G := fk_in (fk_tab (List.mem_of_getElem? (i := 528) (by decide +kernel))) rfl
theorem fw_529 : Jvm.Cond.soleField "FootprintNetModel" "lengths" ∈ fk_G := fk_in (fk_tab (List.mem_of_getElem? (i := 529) (by decide +kernel))) rfl
theorem fw_530 : Jvm.Cond.laysFinal "FootprintNetModel" "FootprintNetModel" "log" "[I" ∈ fk_G := fk_in (fk_tab (List.mem_of_getElem? (i := 530) (by decide +kernel))) rfl
theorem fw_531 : Jvm.Cond.soleField "FootprintNetModel" "log" ∈ fk_G := fk_in (fk_tab (List.mem_of_getElem? (i := 531) (by decide +kernel))) rfl
theorem fw_532 : Jvm.Cond.laysFinal "FootprintNetModel" "FootprintNetModel" "count" "[I" ∈ fk_G := fk_in (fk_tab (List.mem_of_getElem? (i := 532) (by decide +kernel))) rfl
theorem fw_533 : Jvm.Cond.soleField "FootprintNetModel" "count" ∈ fk_G := fk_in (fk_tab (List.mem_of_getElem? (i := 533) (by decide +kernel))) rfl
theorem fw_534 : Jvm.Cond.laysFinal "FootprintNetModel" "FootprintNetModel" "ins" "[I" ∈ fk_G := fk_in (fk_tab (List.mem_of_getElem? (i := 534) (by decide +kernel))) rfl
theorem fw_535 : Jvm.Cond.soleField "FootprintNetModel" "ins" ∈ fk_G := fk_in (fk_tab (List.mem_of_getElem? (i := 535) (by decide +kernel))) rfl
theorem fw_536 : Jvm.Cond.laysFinal "FootprintNetModel" "FootprintNetModel" "outs" "[I" ∈ fk_G := fk_in (fk_tab (List.mem_of_getElem? (i := 536) (by decide +kernel))) rfl
theorem fw_537 : Jvm.Cond.soleField "FootprintNetModel" "outs" ∈ fk_G := fk_in (fk_tab (List.mem_of_getElem? (i := 537) (by decide +kernel))) rfl
theorem fw_538 : Jvm.Cond.laysFinal "FootprintNetModel" "FootprintNetModel" "first" "[I" ∈ fk_G := fk_in (fk_tab (List.mem_of_getElem? (i := 538) (by decide +kernel))) rfl
theorem fw_539 : Jvm.Cond.soleField "FootprintNetModel" "first" ∈ fk_G := fk_in (fk_tab (List.mem_of_getElem? (i := 539) (by decide +kernel))) rfl
theorem fw_540 : Jvm.Cond.laysFinal "FootprintNetModel" "FootprintNetModel" "last" "[I" ∈ fk_G := fk_in (fk_tab (List.mem_of_getElem? (i := 540) (by decide +kernel))) rfl
theorem fw_541 : Jvm.Cond.soleField "FootprintNetModel" "last" ∈ fk_G := fk_in (fk_tab (List.mem_of_getElem? (i := 541) (by decide +kernel))) rfl
theorem fw_542 : Jvm.Cond.laysFinal "FootprintNetModel" "FootprintNetModel" "acts" "[I" ∈ fk_G := fk_in (fk_tab (List.mem_of_getElem? (i := 542) (by decide +kernel))) rfl
theorem fw_543 : Jvm.Cond.soleField "FootprintNetModel" "acts" ∈ fk_G := fk_in (fk_tab (List.mem_of_getElem? (i := 543) (by decide +kernel))) rfl
theorem fw_544 : Jvm.Cond.laysFinal "FootprintNetModel" "FootprintNetModel" "table" "[I" ∈ fk_G := fk_in (fk_tab (List.mem_of_getElem? (i := 544) (by decide +kernel))) rfl
theorem fw_545 : Jvm.Cond.soleField "FootprintNetModel" "table" ∈ fk_G := fk_in (fk_tab (List.mem_of_getElem? (i := 545) (by decide +kernel))) rfl
theorem fw_546 : Jvm.Cond.lays "FootprintNetModel" "FootprintNetModel" "found" "I" ∈ fk_G := fk_in (fk_tab (List.mem_of_getElem? (i := 546) (by decide +kernel))) rfl
theorem fw_547 : Jvm.Cond.soleField "FootprintNetModel" "found" ∈ fk_G := fk_in (fk_tab (List.mem_of_getElem? (i := 547) (by decide +kernel))) rfl
theorem fw_548 : Jvm.Cond.laysFinal "FootprintNetModel" "FootprintNetModel" "foundIn" "[I" ∈ fk_G := fk_in (fk_tab (List.mem_of_getElem? (i := 548) (by decide +kernel))) rfl
theorem fw_549 : Jvm.Cond.soleField "FootprintNetModel" "foundIn" ∈ fk_G := fk_in (fk_tab (List.mem_of_getElem? (i := 549) (by decide +kernel))) rfl
theorem fw_550 : Jvm.Cond.laysFinal "FootprintNetModel" "FootprintNetModel" "foundOut" "[I" ∈ fk_G := fk_in (fk_tab (List.mem_of_getElem? (i := 550) (by decide +kernel))) rfl
theorem fw_551 : Jvm.Cond.soleField "FootprintNetModel" "foundOut" ∈ fk_G := fk_in (fk_tab (List.mem_of_getElem? (i := 551) (by decide +kernel))) rfl
theorem fw_552 : Jvm.Cond.laysFinal "FootprintNetModel" "FootprintNetModel" "tokens" "[I" ∈ fk_G := fk_in (fk_tab (List.mem_of_getElem? (i := 552) (by decide +kernel))) rfl
theorem fw_553 : Jvm.Cond.soleField "FootprintNetModel" "tokens" ∈ fk_G := fk_in (fk_tab (List.mem_of_getElem? (i := 553) (by decide +kernel))) rfl
theorem fw_554 : Jvm.Cond.lays "FootprintNetModel" "FootprintNetModel" "many" "I" ∈ fk_G := fk_in (fk_tab (List.mem_of_getElem? (i := 554) (by decide +kernel))) rfl
theorem fw_555 : Jvm.Cond.soleField "FootprintNetModel" "many" ∈ fk_G := fk_in (fk_tab (List.mem_of_getElem? (i := 555) (by decide +kernel))) rfl
theorem fw_556 : Jvm.Cond.lays "FootprintNetModel" "FootprintNetModel" "wide" "Z" ∈ fk_G := fk_in (fk_tab (List.mem_of_getElem? (i := 556) (by decide +kernel))) rfl
theorem fw_557 : Jvm.Cond.soleField "FootprintNetModel" "wide" ∈ fk_G := fk_in (fk_tab (List.mem_of_getElem? (i := 557) (by decide +kernel))) rfl
theorem fw_558 : Jvm.Cond.laysFinal "FootprintNetModel" "FootprintNetModel" "marks" "[B" ∈ fk_G := fk_in (fk_tab (List.mem_of_getElem? (i := 558) (by decide +kernel))) rfl
theorem fw_559 : Jvm.Cond.soleField "FootprintNetModel" "marks" ∈ fk_G := fk_in (fk_tab (List.mem_of_getElem? (i := 559) (by decide +kernel))) rfl
theorem fw_560 : Jvm.Cond.laysFinal "FootprintNetModel" "FootprintNetModel" "next" "[S" ∈ fk_G := fk_in (fk_tab (List.mem_of_getElem? (i := 560) (by decide +kernel))) rfl
theorem fw_561 : Jvm.Cond.soleField "FootprintNetModel" "next" ∈ fk_G := fk_in (fk_tab (List.mem_of_getElem? (i := 561) (by decide +kernel))) rfl
theorem fw_562 : Jvm.Cond.laysFinal "FootprintNetModel" "FootprintNetModel" "good" "[Z" ∈ fk_G := fk_in (fk_tab (List.mem_of_getElem? (i := 562) (by decide +kernel))) rfl
theorem fw_563 : Jvm.Cond.soleField "FootprintNetModel" "good" ∈ fk_G := fk_in (fk_tab (List.mem_of_getElem? (i := 563) (by decide +kernel))) rfl
theorem fw_564 : Jvm.Cond.superclass "FootprintNetModel" "java/lang/Object" ∈ fk_G := fk_in (fk_tab (List.mem_of_getElem? (i := 564) (by decide +kernel))) rfl
theorem fw_565 : Jvm.Cond.arrayClass Jvm.ClassFile.FieldType.byte ∈ fk_G := fk_in (fk_tab (List.mem_of_getElem? (i := 565) (by decide +kernel))) rfl
theorem fw_566 : Jvm.Cond.arrayClass Jvm.ClassFile.FieldType.short ∈ fk_G := fk_in (fk_tab (List.mem_of_getElem? (i := 566) (by decide +kernel))) rfl
theorem fw_567 : Jvm.Cond.methodLink "FootprintNetLaw" (17 : Nat) fy_Md_begin ∈ fk_G := fk_in (fk_tab (List.mem_of_getElem? (i := 567) (by decide +kernel))) rfl
theorem fw_568 : Jvm.Cond.instanceMethod fy_Md_begin ∈ fk_G := fk_in (fk_tab (List.mem_of_getElem? (i := 568) (by decide +kernel))) rfl
theorem fw_569 : Jvm.Cond.selects "FootprintNetModel" fy_Md_begin fy_Md_begin ∈ fk_G := fk_in (fk_tab (List.mem_of_getElem? (i := 569) (by decide +kernel))) rfl
theorem fw_570 : Jvm.Cond.code fy_Md_begin prog_8_method_2_code (1 : Nat) (Option.some Jvm.ClassFile.FieldType.int) ∈ fk_G := fk_in (fk_tab (List.mem_of_getElem? (i := 570) (by decide +kernel))) rfl
theorem fw_571 : Jvm.Cond.methodLink "FootprintNetLaw" (22 : Nat) fy_Md_event ∈ fk_G := fk_in (fk_tab (List.mem_of_getElem? (i := 571) (by decide +kernel))) rfl
theorem fw_572 : Jvm.Cond.instanceMethod fy_Md_event ∈ fk_G := fk_in (fk_tab (List.mem_of_getElem? (i := 572) (by decide +kernel))) rfl
theorem fw_573 : Jvm.Cond.selects "FootprintNetModel" fy_Md_event fy_Md_event ∈ fk_G := fk_in (fk_tab (List.mem_of_getElem? (i := 573) (by decide +kernel))) rfl
theorem fw_574 : Jvm.Cond.code fy_Md_event prog_8_method_3_code (2 : Nat) (Option.some Jvm.ClassFile.FieldType.boolean) ∈ fk_G := fk_in (fk_tab (List.mem_of_getElem? (i := 574) (by decide +kernel))) rfl
theorem fw_575 : Jvm.Cond.methodLink "FootprintNetLaw" (26 : Nat) fy_Md_clear ∈ fk_G := fk_in (fk_tab (List.mem_of_getElem? (i := 575) (by decide +kernel))) rfl
theorem fw_576 : Jvm.Cond.instanceMethod fy_Md_clear ∈ fk_G := fk_in (fk_tab (List.mem_of_getElem? (i := 576) (by decide +kernel))) rfl
theorem fw_577 : Jvm.Cond.selects "FootprintNetModel" fy_Md_clear fy_Md_clear ∈ fk_G := fk_in (fk_tab (List.mem_of_getElem? (i := 577) (by decide +kernel))) rfl
theorem fw_578 : Jvm.Cond.code fy_Md_clear prog_8_method_4_code (1 : Nat) (Option.none : Option Jvm.ClassFile.FieldType) ∈ fk_G := fk_in (fk_tab (List.mem_of_getElem? (i := 578) (by decide +kernel))) rfl
theorem fw_579 : Jvm.Cond.methodLink "FootprintNetLaw" (31 : Nat) fy_Md_length ∈ fk_G := fk_in (fk_tab (List.mem_of_getElem? (i := 579) (by decide +kernel))) rfl
theorem fw_580 : Jvm.Cond.instanceMethod fy_Md_length ∈ fk_G := fk_in (fk_tab (List.mem_of_getElem? (i := 580) (by decide +kernel))) rfl
theorem fw_581 : Jvm.Cond.selects "FootprintNetModel" fy_Md_length fy_Md_length ∈ fk_G := fk_in (fk_tab (List.mem_of_getElem? (i := 581) (by decide +kernel))) rfl
theorem fw_582 : Jvm.Cond.code fy_Md_length prog_8_method_5_code (2 : Nat) (Option.some Jvm.ClassFile.FieldType.int) ∈ fk_G := fk_in (fk_tab (List.mem_of_getElem? (i := 582) (by decide +kernel))) rfl
theorem fw_583 : Jvm.Cond.methodLink "FootprintNetLaw" (36 : Nat) fy_Md_at ∈ fk_G := fk_in (fk_tab (List.mem_of_getElem? (i := 583) (by decide +kernel))) rfl
theorem fw_584 : Jvm.Cond.instanceMethod fy_Md_at ∈ fk_G := fk_in (fk_tab (List.mem_of_getElem? (i := 584) (by decide +kernel))) rfl
theorem fw_585 : Jvm.Cond.selects "FootprintNetModel" fy_Md_at fy_Md_at ∈ fk_G := fk_in (fk_tab (List.mem_of_getElem? (i := 585) (by decide +kernel))) rfl
theorem fw_586 : Jvm.Cond.code fy_Md_at prog_8_method_6_code (3 : Nat) (Option.some Jvm.ClassFile.FieldType.int) ∈ fk_G := fk_in (fk_tab (List.mem_of_getElem? (i := 586) (by decide +kernel))) rfl
theorem fw_587 : Jvm.Cond.methodLink "FootprintNetLaw" (40 : Nat) fy_Md_relation ∈ fk_G := fk_in (fk_tab (List.mem_of_getElem? (i := 587) (by decide +kernel))) rfl
theorem fw_588 : Jvm.Cond.instanceMethod fy_Md_relation ∈ fk_G := fk_in (fk_tab (List.mem_of_getElem? (i := 588) (by decide +kernel))) rfl
theorem fw_589 : Jvm.Cond.selects "FootprintNetModel" fy_Md_relation fy_Md_relation ∈ fk_G := fk_in (fk_tab (List.mem_of_getElem? (i := 589) (by decide +kernel))) rfl
theorem fw_590 : Jvm.Cond.code fy_Md_relation prog_8_method_8_code (3 : Nat) (Option.some Jvm.ClassFile.FieldType.int) ∈ fk_G := fk_in (fk_tab (List.mem_of_getElem? (i := 590) (by decide +kernel))) rfl
theorem fw_591 : Jvm.Cond.methodLink "FootprintNetModel" (62 : Nat) fy_Md_followed ∈ fk_G := fk_in (fk_tab (List.mem_of_getElem? (i := 591) (by decide +kernel))) rfl
theorem fw_593 : Jvm.Cond.instanceMethod fy_Md_followed ∈ fk_G := fk_in (fk_tab (List.mem_of_getElem? (i := 593) (by decide +kernel))) rfl
theorem fw_594 : Jvm.Cond.code fy_Md_followed prog_8_method_7_code (5 : Nat) (Option.some Jvm.ClassFile.FieldType.boolean) ∈ fk_G := fk_in (fk_tab (List.mem_of_getElem? (i := 594) (by decide +kernel))) rfl
theorem fw_595 : Jvm.Cond.methodLink "FootprintNetLaw" (44 : Nat) fy_Md_mine ∈ fk_G := fk_in (fk_tab (List.mem_of_getElem? (i := 595) (by decide +kernel))) rfl
theorem fw_596 : Jvm.Cond.instanceMethod fy_Md_mine ∈ fk_G := fk_in (fk_tab (List.mem_of_getElem? (i := 596) (by decide +kernel))) rfl
theorem fw_597 : Jvm.Cond.selects "FootprintNetModel" fy_Md_mine fy_Md_mine ∈ fk_G := fk_in (fk_tab (List.mem_of_getElem? (i := 597) (by decide +kernel))) rfl
theorem fw_598 : Jvm.Cond.code fy_Md_mine prog_8_method_12_code (4 : Nat) (Option.some Jvm.ClassFile.FieldType.int) ∈ fk_G := fk_in (fk_tab (List.mem_of_getElem? (i := 598) (by decide +kernel))) rfl
theorem fw_599 : Jvm.Cond.methodLink "FootprintNetModel" (75 : Nat) fy_Md_relation ∈ fk_G := fk_in (fk_tab (List.mem_of_getElem? (i := 599) (by decide +kernel))) rfl
theorem fw_600 : Jvm.Cond.methodLink "FootprintNetModel" (69 : Nat) fy_Md_causal ∈ fk_G := fk_in (fk_tab (List.mem_of_getElem? (i := 600) (by decide +kernel))) rfl
theorem fw_602 : Jvm.Cond.instanceMethod fy_Md_causal ∈ fk_G := fk_in (fk_tab (List.mem_of_getElem? (i := 602) (by decide +kernel))) rfl
theorem fw_603 : Jvm.Cond.code fy_Md_causal prog_8_method_10_code (7 : Nat) (Option.some Jvm.ClassFile.FieldType.boolean) ∈ fk_G := fk_in (fk_tab (List.mem_of_getElem? (i := 603) (by decide +kernel))) rfl
theorem fw_604 : Jvm.Cond.methodLink "FootprintNetModel" (66 : Nat) fy_Md_has ∈ fk_G := fk_in (fk_tab (List.mem_of_getElem? (i := 604) (by decide +kernel))) rfl
theorem fw_605 : Jvm.Cond.static fy_Md_has ∈ fk_G := fk_in (fk_tab (List.mem_of_getElem? (i := 605) (by decide +kernel))) rfl
theorem fw_606 : Jvm.Cond.code fy_Md_has prog_8_method_9_code (2 : Nat) (Option.some Jvm.ClassFile.FieldType.boolean) ∈ fk_G := fk_in (fk_tab (List.mem_of_getElem? (i := 606) (by decide +kernel))) rfl
theorem fw_607 : Jvm.Cond.methodLink "FootprintNetModel" (79 : Nat) fy_Md_greatest ∈ fk_G := fk_in (fk_tab (List.mem_of_getElem? (i := 607) (by decide +kernel))) rfl
theorem fw_609 : Jvm.Cond.instanceMethod fy_Md_greatest ∈ fk_G := fk_in (fk_tab (List.mem_of_getElem? (i := 609) (by decide +kernel))) rfl
theorem fw_610 : Jvm.Cond.code fy_Md_greatest prog_8_method_11_code (5 : Nat) (Option.some Jvm.ClassFile.FieldType.boolean) ∈ fk_G := fk_in (fk_tab (List.mem_of_getElem? (i := 610) (by decide +kernel))) rfl
theorem fw_611 : Jvm.Cond.methodLink "FootprintNetLaw" (48 : Nat) fy_Md_place ∈ fk_G := fk_in (fk_tab (List.mem_of_getElem? (i := 611) (by decide +kernel))) rfl
theorem fw_612 : Jvm.Cond.instanceMethod fy_Md_place ∈ fk_G := fk_in (fk_tab (List.mem_of_getElem? (i := 612) (by decide +kernel))) rfl
theorem fw_613 : Jvm.Cond.selects "FootprintNetModel" fy_Md_place fy_Md_place ∈ fk_G := fk_in (fk_tab (List.mem_of_getElem? (i := 613) (by decide +kernel))) rfl
theorem fw_614 : Jvm.Cond.code fy_Md_place prog_8_method_14_code (4 : Nat) (Option.some Jvm.ClassFile.FieldType.int) ∈ fk_G := fk_in (fk_tab (List.mem_of_getElem? (i := 614) (by decide +kernel))) rfl
theorem fw_615 : Jvm.Cond.methodLink "FootprintNetLaw" (53 : Nat) fy_Md_ends ∈ fk_G := fk_in (fk_tab (List.mem_of_getElem? (i := 615) (by decide +kernel))) rfl
theorem fw_616 : Jvm.Cond.instanceMethod fy_Md_ends ∈ fk_G := fk_in (fk_tab (List.mem_of_getElem? (i := 616) (by decide +kernel))) rfl
theorem fw_617 : Jvm.Cond.selects "FootprintNetModel" fy_Md_ends fy_Md_ends ∈ fk_G := fk_in (fk_tab (List.mem_of_getElem? (i := 617) (by decide +kernel))) rfl
theorem fw_618 : Jvm.Cond.code fy_Md_ends prog_8_method_15_code (3 : Nat) (Option.some Jvm.ClassFile.FieldType.boolean) ∈ fk_G := fk_in (fk_tab (List.mem_of_getElem? (i := 618) (by decide +kernel))) rfl
theorem fw_619 : Jvm.Cond.methodLink "FootprintNetLaw" (57 : Nat) fy_Md_reset ∈ fk_G := fk_in (fk_tab (List.mem_of_getElem? (i := 619) (by decide +kernel))) rfl
theorem fw_620 : Jvm.Cond.instanceMethod fy_Md_reset ∈ fk_G := fk_in (fk_tab (List.mem_of_getElem? (i := 620) (by decide +kernel))) rfl
theorem fw_621 : Jvm.Cond.selects "FootprintNetModel" fy_Md_reset fy_Md_reset ∈ fk_G := fk_in (fk_tab (List.mem_of_getElem? (i := 621) (by decide +kernel))) rfl
theorem fw_622 : Jvm.Cond.code fy_Md_reset prog_8_method_16_code (1 : Nat) (Option.none : Option Jvm.ClassFile.FieldType) ∈ fk_G := fk_in (fk_tab (List.mem_of_getElem? (i := 622) (by decide +kernel))) rfl
theorem fw_623 : Jvm.Cond.methodLink "FootprintNetLaw" (61 : Nat) fy_Md_places ∈ fk_G := fk_in (fk_tab (List.mem_of_getElem? (i := 623) (by decide +kernel))) rfl
theorem fw_624 : Jvm.Cond.instanceMethod fy_Md_places ∈ fk_G := fk_in (fk_tab (List.mem_of_getElem? (i := 624) (by decide +kernel))) rfl
theorem fw_625 : Jvm.Cond.selects "FootprintNetModel" fy_Md_places fy_Md_places ∈ fk_G := fk_in (fk_tab (List.mem_of_getElem? (i := 625) (by decide +kernel))) rfl
theorem fw_626 : Jvm.Cond.code fy_Md_places prog_8_method_17_code (2 : Nat) (Option.some Jvm.ClassFile.FieldType.int) ∈ fk_G := fk_in (fk_tab (List.mem_of_getElem? (i := 626) (by decide +kernel))) rfl
theorem fw_627 : Jvm.Cond.methodLink "FootprintNetModel" (82 : Nat) fy_Md_notNet ∈ fk_G := fk_in (fk_tab (List.mem_of_getElem? (i := 627) (by decide +kernel))) rfl
theorem fw_628 : Jvm.Cond.static fy_Md_notNet ∈ fk_G := fk_in (fk_tab (List.mem_of_getElem? (i := 628) (by decide +kernel))) rfl
theorem fw_629 : Jvm.Cond.code fy_Md_notNet prog_8_method_13_code (1 : Nat) (Option.some Jvm.ClassFile.FieldType.boolean) ∈ fk_G := fk_in (fk_tab (List.mem_of_getElem? (i := 629) (by decide +kernel))) rfl
theorem fw_630 : Jvm.Cond.methodLink "FootprintNetLaw" (65 : Nat) fy_Md_inputs ∈ fk_G := fk_in (fk_tab (List.mem_of_getElem? (i := 630) (by decide +kernel))) rfl
theorem fw_631 : Jvm.Cond.instanceMethod fy_Md_inputs ∈ fk_G := fk_in (fk_tab (List.mem_of_getElem? (i := 631) (by decide +kernel))) rfl
theorem fw_632 : Jvm.Cond.selects "FootprintNetModel" fy_Md_inputs fy_Md_inputs ∈ fk_G := fk_in (fk_tab (List.mem_of_getElem? (i := 632) (by decide +kernel))) rfl
theorem fw_633 : Jvm.Cond.code fy_Md_inputs prog_8_method_18_code (3 : Nat) (Option.some Jvm.ClassFile.FieldType.int) ∈ fk_G := fk_in (fk_tab (List.mem_of_getElem? (i := 633) (by decide +kernel))) rfl
theorem fw_634 : Jvm.Cond.methodLink "FootprintNetLaw" (69 : Nat) fy_Md_outputs ∈ fk_G := fk_in (fk_tab (List.mem_of_getElem? (i := 634) (by decide +kernel))) rfl
theorem fw_635 : Jvm.Cond.instanceMethod fy_Md_outputs ∈ fk_G := fk_in (fk_tab (List.mem_of_getElem? (i := 635) (by decide +kernel))) rfl
theorem fw_636 : Jvm.Cond.selects "FootprintNetModel" fy_Md_outputs fy_Md_outputs ∈ fk_G := fk_in (fk_tab (List.mem_of_getElem? (i := 636) (by decide +kernel))) rfl
theorem fw_637 : Jvm.Cond.code fy_Md_outputs prog_8_method_19_code (3 : Nat) (Option.some Jvm.ClassFile.FieldType.int) ∈ fk_G := fk_in (fk_tab (List.mem_of_getElem? (i := 637) (by decide +kernel))) rfl
theorem fw_638 : Jvm.Cond.methodLink "FootprintNetLaw" (73 : Nat) fy_Md_fits ∈ fk_G := fk_in (fk_tab (List.mem_of_getElem? (i := 638) (by decide +kernel))) rfl
theorem fw_639 : Jvm.Cond.instanceMethod fy_Md_fits ∈ fk_G := fk_in (fk_tab (List.mem_of_getElem? (i := 639) (by decide +kernel))) rfl
theorem fw_640 : Jvm.Cond.selects "FootprintNetModel" fy_Md_fits fy_Md_fits ∈ fk_G := fk_in (fk_tab (List.mem_of_getElem? (i := 640) (by decide +kernel))) rfl
theorem fw_641 : Jvm.Cond.code fy_Md_fits prog_8_method_27_code (5 : Nat) (Option.some Jvm.ClassFile.FieldType.boolean) ∈ fk_G := fk_in (fk_tab (List.mem_of_getElem? (i := 641) (by decide +kernel))) rfl
theorem fw_642 : Jvm.Cond.methodLink "FootprintNetModel" (97 : Nat) fy_Md_initial ∈ fk_G := fk_in (fk_tab (List.mem_of_getElem? (i := 642) (by decide +kernel))) rfl
theorem fw_644 : Jvm.Cond.instanceMethod fy_Md_initial ∈ fk_G := fk_in (fk_tab (List.mem_of_getElem? (i := 644) (by decide +kernel))) rfl
theorem fw_645 : Jvm.Cond.code fy_Md_initial prog_8_method_21_code (2 : Nat) (Option.none : Option Jvm.ClassFile.FieldType) ∈ fk_G := fk_in (fk_tab (List.mem_of_getElem? (i := 645) (by decide +kernel))) rfl
theorem fw_646 : Jvm.Cond.methodLink "FootprintNetModel" (100 : Nat) fy_Md_enabled ∈ fk_G := fk_in (fk_tab (List.mem_of_getElem? (i := 646) (by decide +kernel))) rfl
theorem fw_648 : Jvm.Cond.instanceMethod fy_Md_enabled ∈ fk_G := fk_in (fk_tab (List.mem_of_getElem? (i := 648) (by decide +kernel))) rfl
theorem fw_649 : Jvm.Cond.code fy_Md_enabled prog_8_method_25_code (5 : Nat) (Option.some Jvm.ClassFile.FieldType.boolean) ∈ fk_G := fk_in (fk_tab (List.mem_of_getElem? (i := 649) (by decide +kernel))) rfl
theorem fw_650 : Jvm.Cond.methodLink "FootprintNetModel" (86 : Nat) fy_Md_activities ∈ fk_G := fk_in (fk_tab (List.mem_of_getElem? (i := 650) (by decide +kernel))) rfl
theorem fw_652 : Jvm.Cond.instanceMethod fy_Md_activities ∈ fk_G := fk_in (fk_tab (List.mem_of_getElem? (i := 652) (by decide +kernel))) rfl
theorem fw_653 : Jvm.Cond.code fy_Md_activities prog_8_method_20_code (4 : Nat) (Option.some Jvm.ClassFile.FieldType.int) ∈ fk_G := fk_in (fk_tab (List.mem_of_getElem? (i := 653) (by decide +kernel))) rfl
theorem fw_654 : Jvm.Cond.methodLink "FootprintNetModel" (90 : Nat) fy_Md_takes ∈ fk_G := fk_in (fk_tab (List.mem_of_getElem? (i := 654) (by decide +kernel))) rfl
theorem fw_656 : Jvm.Cond.instanceMethod fy_Md_takes ∈ fk_G := fk_in (fk_tab (List.mem_of_getElem? (i := 656) (by decide +kernel))) rfl
theorem fw_657 : Jvm.Cond.code fy_Md_takes prog_8_method_23_code (4 : Nat) (Option.some Jvm.ClassFile.FieldType.boolean) ∈ fk_G := fk_in (fk_tab (List.mem_of_getElem? (i := 657) (by decide +kernel))) rfl
theorem fw_658 : Jvm.Cond.methodLink "FootprintNetModel" (103 : Nat) fy_Md_fire ∈ fk_G := fk_in (fk_tab (List.mem_of_getElem? (i := 658) (by decide +kernel))) rfl
theorem fw_660 : Jvm.Cond.instanceMethod fy_Md_fire ∈ fk_G := fk_in (fk_tab (List.mem_of_getElem? (i := 660) (by decide +kernel))) rfl
theorem fw_661 : Jvm.Cond.code fy_Md_fire prog_8_method_26_code (4 : Nat) (Option.none : Option Jvm.ClassFile.FieldType) ∈ fk_G := fk_in (fk_tab (List.mem_of_getElem? (i := 661) (by decide +kernel))) rfl
theorem fw_662 : Jvm.Cond.methodLink "FootprintNetModel" (94 : Nat) fy_Md_gives ∈ fk_G := fk_in (fk_tab (List.mem_of_getElem? (i := 662) (by decide +kernel))) rfl
theorem fw_664 : Jvm.Cond.instanceMethod fy_Md_gives ∈ fk_G := fk_in (fk_tab (List.mem_of_getElem? (i := 664) (by decide +kernel))) rfl
theorem fw_665 : Jvm.Cond.code fy_Md_gives prog_8_method_24_code (4 : Nat) (Option.some Jvm.ClassFile.FieldType.boolean) ∈ fk_G := fk_in (fk_tab (List.mem_of_getElem? (i := 665) (by decide +kernel))) rfl
theorem fw_666 : Jvm.Cond.methodLink "FootprintNetModel" (107 : Nat) fy_Md_isFinal ∈ fk_G := fk_in (fk_tab (List.mem_of_getElem? (i := 666) (by decide +kernel))) rfl
theorem fw_668 : Jvm.Cond.instanceMethod fy_Md_isFinal ∈ fk_G := fk_in (fk_tab (List.mem_of_getElem? (i := 668) (by decide +kernel))) rfl
theorem fw_669 : Jvm.Cond.code fy_Md_isFinal prog_8_method_22_code (3 : Nat) (Option.some Jvm.ClassFile.FieldType.boolean) ∈ fk_G := fk_in (fk_tab (List.mem_of_getElem? (i := 669) (by decide +kernel))) rfl
theorem fw_670 : Jvm.Cond.methodLink "FootprintNetLaw" (77 : Nat) fy_Md_markings ∈ fk_G := fk_in (fk_tab (List.mem_of_getElem? (i := 670) (by decide +kernel))) rfl
theorem fw_671 : Jvm.Cond.instanceMethod fy_Md_markings ∈ fk_G := fk_in (fk_tab (List.mem_of_getElem? (i := 671) (by decide +kernel))) rfl
theorem fw_672 : Jvm.Cond.selects "FootprintNetModel" fy_Md_markings fy_Md_markings ∈ fk_G := fk_in (fk_tab (List.mem_of_getElem? (i := 672) (by decide +kernel))) rfl
theorem fw_673 : Jvm.Cond.code fy_Md_markings prog_8_method_31_code (2 : Nat) (Option.some Jvm.ClassFile.FieldType.int) ∈ fk_G := fk_in (fk_tab (List.mem_of_getElem? (i := 673) (by decide +kernel))) rfl
theorem fw_674 : Jvm.Cond.methodLink "FootprintNetModel" (126 : Nat) fy_Md_explore ∈ fk_G := fk_in (fk_tab (List.mem_of_getElem? (i := 674) (by decide +kernel))) rfl
theorem fw_676 : Jvm.Cond.instanceMethod fy_Md_explore ∈ fk_G := fk_in (fk_tab (List.mem_of_getElem? (i := 676) (by decide +kernel))) rfl
theorem fw_677 : Jvm.Cond.code fy_Md_explore prog_8_method_30_code (4 : Nat) (Option.none : Option Jvm.ClassFile.FieldType) ∈ fk_G := fk_in (fk_tab (List.mem_of_getElem? (i := 677) (by decide +kernel))) rfl
theorem fw_678 : Jvm.Cond.methodLink "FootprintNetModel" (118 : Nat) fy_Md_number ∈ fk_G := fk_in (fk_tab (List.mem_of_getElem? (i := 678) (by decide +kernel))) rfl
theorem fw_680 : Jvm.Cond.instanceMethod fy_Md_number ∈ fk_G := fk_in (fk_tab (List.mem_of_getElem? (i := 680) (by decide +kernel))) rfl
theorem fw_681 : Jvm.Cond.code fy_Md_number prog_8_method_29_code (4 : Nat) (Option.some Jvm.ClassFile.FieldType.int) ∈ fk_G := fk_in (fk_tab (List.mem_of_getElem? (i := 681) (by decide +kernel))) rfl
theorem fw_682 : Jvm.Cond.methodLink "FootprintNetModel" (122 : Nat) fy_Md_load ∈ fk_G := fk_in (fk_tab (List.mem_of_getElem? (i := 682) (by decide +kernel))) rfl
theorem fw_684 : Jvm.Cond.instanceMethod fy_Md_load ∈ fk_G := fk_in (fk_tab (List.mem_of_getElem? (i := 684) (by decide +kernel))) rfl
theorem fw_685 : Jvm.Cond.code fy_Md_load prog_8_method_28_code (3 : Nat) (Option.none : Option Jvm.ClassFile.FieldType) ∈ fk_G := fk_in (fk_tab (List.mem_of_getElem? (i := 685) (by decide +kernel))) rfl
theorem fw_686 : Jvm.Cond.methodLink "FootprintNetLaw" (81 : Nat) fy_Md_sound ∈ fk_G := fk_in (fk_tab (List.mem_of_getElem? (i := 686) (by decide +kernel))) rfl
theorem fw_687 : Jvm.Cond.instanceMethod fy_Md_sound ∈ fk_G := fk_in (fk_tab (List.mem_of_getElem? (i := 687) (by decide +kernel))) rfl
theorem fw_688 : Jvm.Cond.selects "FootprintNetModel" fy_Md_sound fy_Md_sound ∈ fk_G := fk_in (fk_tab (List.mem_of_getElem? (i := 688) (by decide +kernel))) rfl
theorem fw_689 : Jvm.Cond.code fy_Md_sound prog_8_method_32_code (8 : Nat) (Option.some Jvm.ClassFile.FieldType.int) ∈ fk_G := fk_in (fk_tab (List.mem_of_getElem? (i := 689) (by decide +kernel))) rfl
theorem fw_690 : Jvm.Cond.methodLink "FootprintNetLaw" (85 : Nat) fy_Md_shape ∈ fk_G := fk_in (fk_tab (List.mem_of_getElem? (i := 690) (by decide +kernel))) rfl
theorem fw_691 : Jvm.Cond.instanceMethod fy_Md_shape ∈ fk_G := fk_in (fk_tab (List.mem_of_getElem? (i := 691) (by decide +kernel))) rfl
theorem fw_692 : Jvm.Cond.selects "FootprintNetModel" fy_Md_shape fy_Md_shape ∈ fk_G := fk_in (fk_tab (List.mem_of_getElem? (i := 692) (by decide +kernel))) rfl
theorem fw_693 : Jvm.Cond.code fy_Md_shape prog_8_method_35_code (4 : Nat) (Option.some Jvm.ClassFile.FieldType.int) ∈ fk_G := fk_in (fk_tab (List.mem_of_getElem? (i := 693) (by decide +kernel))) rfl
theorem fw_694 : Jvm.Cond.methodLink "FootprintNetModel" (129 : Nat) fy_Md_loops ∈ fk_G := fk_in (fk_tab (List.mem_of_getElem? (i := 694) (by decide +kernel))) rfl
theorem fw_696 : Jvm.Cond.instanceMethod fy_Md_loops ∈ fk_G := fk_in (fk_tab (List.mem_of_getElem? (i := 696) (by decide +kernel))) rfl
theorem fw_697 : Jvm.Cond.code fy_Md_loops prog_8_method_33_code (7 : Nat) (Option.some Jvm.ClassFile.FieldType.boolean) ∈ fk_G := fk_in (fk_tab (List.mem_of_getElem? (i := 697) (by decide +kernel))) rfl
theorem fw_698 : Jvm.Cond.methodLink "FootprintNetModel" (132 : Nat) fy_Md_mixed ∈ fk_G := fk_in (fk_tab (List.mem_of_getElem? (i := 698) (by decide +kernel))) rfl
theorem fw_700 : Jvm.Cond.instanceMethod fy_Md_mixed ∈ fk_G := fk_in (fk_tab (List.mem_of_getElem? (i := 700) (by decide +kernel))) rfl
theorem fw_701 : Jvm.Cond.code fy_Md_mixed prog_8_method_34_code (8 : Nat) (Option.some Jvm.ClassFile.FieldType.boolean) ∈ fk_G := fk_in (fk_tab (List.mem_of_getElem? (i := 701) (by decide +kernel))) rfl
theorem fw_702 : Jvm.Cond.methodLink "FootprintNetLaw" (92 : Nat) fy_Md_play ∈ fk_G := fk_in (fk_tab (List.mem_of_getElem? (i := 702) (by decide +kernel))) rfl
theorem fw_703 : Jvm.Cond.instanceMethod fy_Md_play ∈ fk_G := fk_in (fk_tab (List.mem_of_getElem? (i := 703) (by decide +kernel))) rfl
theorem fw_704 : Jvm.Cond.selects "FootprintNetModel" fy_Md_play fy_Md_play ∈ fk_G := fk_in (fk_tab (List.mem_of_getElem? (i := 704) (by decide +kernel))) rfl
theorem fw_705 : Jvm.Cond.code fy_Md_play prog_8_method_36_code (7 : Nat) (Option.some Jvm.ClassFile.FieldType.int) ∈ fk_G := fk_in (fk_tab (List.mem_of_getElem? (i := 705) (by decide +kernel))) rfl
theorem fw_706 : Jvm.Cond.constantLong "FootprintNetModel" (135 : Nat) (7 : Int64) ∈ fk_G := fk_in (fk_tab (List.mem_of_getElem? (i := 706) (by decide +kernel))) rfl
theorem fw_707 : Jvm.Cond.methodLink "FootprintNetLaw" (97 : Nat) fy_Md_same ∈ fk_G := fk_in (fk_tab (List.mem_of_getElem? (i := 707) (by decide +kernel))) rfl
theorem fw_708 : Jvm.Cond.instanceMethod fy_Md_same ∈ fk_G := fk_in (fk_tab (List.mem_of_getElem? (i := 708) (by decide +kernel))) rfl
theorem fw_709 : Jvm.Cond.selects "FootprintNetModel" fy_Md_same fy_Md_same ∈ fk_G := fk_in (fk_tab (List.mem_of_getElem? (i := 709) (by decide +kernel))) rfl
theorem fw_710 : Jvm.Cond.code fy_Md_same prog_8_method_37_code (5 : Nat) (Option.some Jvm.ClassFile.FieldType.boolean) ∈ fk_G := fk_in (fk_tab (List.mem_of_getElem? (i := 710) (by decide +kernel))) rfl
theorem fw_711 : Jvm.Cond.constantLong "FootprintNetLaw" (86 : Nat) (4294967295 : Int64) ∈ fk_G := fk_in (fk_tab (List.mem_of_getElem? (i := 711) (by decide +kernel))) rfl
theorem fw_p0 : Cond.selects "FootprintNet$Miner" fy_Mi_prepareSets fy_Mi_prepareSets ∈ fk_G := fk_sel (q := (fy_Mi_prepareSets, 5)) (List.mem_of_getElem? (i := 0) (by decide +kernel))
theorem fw_p1 : Cond.selects "FootprintNet$Miner" fy_Mi_addPairsOf fy_Mi_addPairsOf ∈ fk_G := fk_sel (q := (fy_Mi_addPairsOf, 5)) (List.mem_of_getElem? (i := 1) (by decide +kernel))
theorem fw_p2 : Cond.selects "FootprintNet$Miner" fy_Mi_isCausal fy_Mi_isCausal ∈ fk_G := fk_sel (q := (fy_Mi_isCausal, 5)) (List.mem_of_getElem? (i := 2) (by decide +kernel))
theorem fw_p3 : Cond.selects "FootprintNet$Miner" fy_Mi_isGreatest fy_Mi_isGreatest ∈ fk_G := fk_sel (q := (fy_Mi_isGreatest, 5)) (List.mem_of_getElem? (i := 3) (by decide +kernel))
theorem fw_p4 : Cond.selects "FootprintNet$Net" fy_Nt_prepareFiring fy_Nt_prepareFiring ∈ fk_G := fk_sel (q := (fy_Nt_prepareFiring, 9)) (List.mem_of_getElem? (i := 4) (by decide +kernel))
theorem fw_p5 : Cond.selects "FootprintNet$Net" fy_Nt_connect fy_Nt_connect ∈ fk_G := fk_sel (q := (fy_Nt_connect, 9)) (List.mem_of_getElem? (i := 5) (by decide +kernel))
theorem fw_p6 : Cond.selects "FootprintNet" fy_F_netOf fy_F_netOf ∈ fk_G := fk_sel (q := (fy_F_netOf, 6)) (List.mem_of_getElem? (i := 6) (by decide +kernel))
theorem fw_p7 : Cond.selects "FootprintNet" fy_F_replays fy_F_replays ∈ fk_G := fk_sel (q := (fy_F_replays, 6)) (List.mem_of_getElem? (i := 7) (by decide +kernel))
theorem fw_p8 : Cond.selects "FootprintNet$Reach" fy_Re_indexOf fy_Re_indexOf ∈ fk_G := fk_sel (q := (fy_Re_indexOf, 6)) (List.mem_of_getElem? (i := 8) (by decide +kernel))
theorem fw_p9 : Cond.selects "FootprintNet$Reach" fy_Re_addAt fy_Re_addAt ∈ fk_G := fk_sel (q := (fy_Re_addAt, 6)) (List.mem_of_getElem? (i := 9) (by decide +kernel))
theorem fw_p10 : Cond.selects "FootprintNet$Reach" fy_Re_addNextOf fy_Re_addNextOf ∈ fk_G := fk_sel (q := (fy_Re_addNextOf, 6)) (List.mem_of_getElem? (i := 10) (by decide +kernel))
theorem fw_p11 : Cond.selects "FootprintNet$Reach" fy_Re_sinkMeansFinal fy_Re_sinkMeansFinal ∈ fk_G := fk_sel (q := (fy_Re_sinkMeansFinal, 6)) (List.mem_of_getElem? (i := 11) (by decide +kernel))
theorem fw_p12 : Cond.selects "FootprintNet$Reach" fy_Re_allCanEnd fy_Re_allCanEnd ∈ fk_G := fk_sel (q := (fy_Re_allCanEnd, 6)) (List.mem_of_getElem? (i := 12) (by decide +kernel))
theorem fw_p13 : Cond.selects "FootprintNet$Reach" fy_Re_spreadEnding fy_Re_spreadEnding ∈ fk_G := fk_sel (q := (fy_Re_spreadEnding, 6)) (List.mem_of_getElem? (i := 13) (by decide +kernel))
theorem fw_p14 : Cond.selects "FootprintNet$Reach" fy_Re_leadsToEnding fy_Re_leadsToEnding ∈ fk_G := fk_sel (q := (fy_Re_leadsToEnding, 6)) (List.mem_of_getElem? (i := 14) (by decide +kernel))
theorem fw_p15 : Cond.selects "FootprintNet$Net" fy_Nt_sharesOutputs fy_Nt_sharesOutputs ∈ fk_G := fk_sel (q := (fy_Nt_sharesOutputs, 9)) (List.mem_of_getElem? (i := 15) (by decide +kernel))
theorem fw_p16 : Cond.selects "FootprintNetModel" fy_Md_followed fy_Md_followed ∈ fk_G := fk_sel (q := (fy_Md_followed, 19)) (List.mem_of_getElem? (i := 16) (by decide +kernel))
theorem fw_p17 : Cond.selects "FootprintNetModel" fy_Md_causal fy_Md_causal ∈ fk_G := fk_sel (q := (fy_Md_causal, 19)) (List.mem_of_getElem? (i := 17) (by decide +kernel))
theorem fw_p18 : Cond.selects "FootprintNetModel" fy_Md_greatest fy_Md_greatest ∈ fk_G := fk_sel (q := (fy_Md_greatest, 19)) (List.mem_of_getElem? (i := 18) (by decide +kernel))
theorem fw_p19 : Cond.selects "FootprintNetModel" fy_Md_initial fy_Md_initial ∈ fk_G := fk_sel (q := (fy_Md_initial, 19)) (List.mem_of_getElem? (i := 19) (by decide +kernel))
theorem fw_p20 : Cond.selects "FootprintNetModel" fy_Md_enabled fy_Md_enabled ∈ fk_G := fk_sel (q := (fy_Md_enabled, 19)) (List.mem_of_getElem? (i := 20) (by decide +kernel))
theorem fw_p21 : Cond.selects "FootprintNetModel" fy_Md_activities fy_Md_activities ∈ fk_G := fk_sel (q := (fy_Md_activities, 19)) (List.mem_of_getElem? (i := 21) (by decide +kernel))
theorem fw_p22 : Cond.selects "FootprintNetModel" fy_Md_takes fy_Md_takes ∈ fk_G := fk_sel (q := (fy_Md_takes, 19)) (List.mem_of_getElem? (i := 22) (by decide +kernel))
theorem fw_p23 : Cond.selects "FootprintNetModel" fy_Md_fire fy_Md_fire ∈ fk_G := fk_sel (q := (fy_Md_fire, 19)) (List.mem_of_getElem? (i := 23) (by decide +kernel))
theorem fw_p24 : Cond.selects "FootprintNetModel" fy_Md_gives fy_Md_gives ∈ fk_G := fk_sel (q := (fy_Md_gives, 19)) (List.mem_of_getElem? (i := 24) (by decide +kernel))
theorem fw_p25 : Cond.selects "FootprintNetModel" fy_Md_isFinal fy_Md_isFinal ∈ fk_G := fk_sel (q := (fy_Md_isFinal, 19)) (List.mem_of_getElem? (i := 25) (by decide +kernel))
theorem fw_p26 : Cond.selects "FootprintNetModel" fy_Md_explore fy_Md_explore ∈ fk_G := fk_sel (q := (fy_Md_explore, 19)) (List.mem_of_getElem? (i := 26) (by decide +kernel))
theorem fw_p27 : Cond.selects "FootprintNetModel" fy_Md_number fy_Md_number ∈ fk_G := fk_sel (q := (fy_Md_number, 19)) (List.mem_of_getElem? (i := 27) (by decide +kernel))
theorem fw_p28 : Cond.selects "FootprintNetModel" fy_Md_load fy_Md_load ∈ fk_G := fk_sel (q := (fy_Md_load, 19)) (List.mem_of_getElem? (i := 28) (by decide +kernel))
theorem fw_p29 : Cond.selects "FootprintNetModel" fy_Md_loops fy_Md_loops ∈ fk_G := fk_sel (q := (fy_Md_loops, 19)) (List.mem_of_getElem? (i := 29) (by decide +kernel))
theorem fw_p30 : Cond.selects "FootprintNetModel" fy_Md_mixed fy_Md_mixed ∈ fk_G := fk_sel (q := (fy_Md_mixed, 19)) (List.mem_of_getElem? (i := 30) (by decide +kernel))
theorem fh_F : ∀ x ∈ u_ws fR_F fF_F 6, x ∈ fk_G := fun x hx => fk_in (fk_tab (of_decide_eq_true (List.all_eq_true.mp (by decide +kernel : (u_ws fR_F fF_F 6).all (fun x => decide (x ∈ tables_1)) = true) x hx))) (List.all_eq_true.mp (by decide +kernel : (u_ws fR_F fF_F 6).all goodWord = true) x hx)
theorem fh_Lg : ∀ x ∈ u_ws fR_Lg fF_Lg 4, x ∈ fk_G := fun x hx => fk_in (fk_tab (of_decide_eq_true (List.all_eq_true.mp (by decide +kernel : (u_ws fR_Lg fF_Lg 4).all (fun x => decide (x ∈ tables_1)) = true) x hx))) (List.all_eq_true.mp (by decide +kernel : (u_ws fR_Lg fF_Lg 4).all goodWord = true) x hx)
theorem fh_Nt : ∀ x ∈ u_ws fR_Nt fF_Nt 9, x ∈ fk_G := fun x hx => fk_in (fk_tab (of_decide_eq_true (List.all_eq_true.mp (by decide +kernel : (u_ws fR_Nt fF_Nt 9).all (fun x => decide (x ∈ tables_1)) = true) x hx))) (List.all_eq_true.mp (by decide +kernel : (u_ws fR_Nt fF_Nt 9).all goodWord = true) x hx)
theorem fh_Mi : ∀ x ∈ u_ws fR_Mi fF_Mi 5, x ∈ fk_G := fun x hx => fk_in (fk_tab (of_decide_eq_true (List.all_eq_true.mp (by decide +kernel : (u_ws fR_Mi fF_Mi 5).all (fun x => decide (x ∈ tables_1)) = true) x hx))) (List.all_eq_true.mp (by decide +kernel : (u_ws fR_Mi fF_Mi 5).all goodWord = true) x hx)
theorem fh_Re : ∀ x ∈ u_ws fR_Re fF_Re 6, x ∈ fk_G := fun x hx => fk_in (fk_tab (of_decide_eq_true (List.all_eq_true.mp (by decide +kernel : (u_ws fR_Re fF_Re 6).all (fun x => decide (x ∈ tables_1)) = true) x hx))) (List.all_eq_true.mp (by decide +kernel : (u_ws fR_Re fF_Re 6).all goodWord = true) x hx)
theorem fh_Pl : ∀ x ∈ u_ws fR_Pl fF_Pl 2, x ∈ fk_G := fun x hx => fk_in (fk_tab (of_decide_eq_true (List.all_eq_true.mp (by decide +kernel : (u_ws fR_Pl fF_Pl 2).all (fun x => decide (x ∈ tables_1)) = true) x hx))) (List.all_eq_true.mp (by decide +kernel : (u_ws fR_Pl fF_Pl 2).all goodWord = true) x hx)
theorem fh_Md : ∀ x ∈ u_ws fR_Md fF_Md 19, x ∈ fk_G := fun x hx => fk_in (fk_tab (of_decide_eq_true (List.all_eq_true.mp (by decide +kernel : (u_ws fR_Md fF_Md 19).all (fun x => decide (x ∈ tables_1)) = true) x hx))) (List.all_eq_true.mp (by decide +kernel : (u_ws fR_Md fF_Md 19).all goodWord = true) x hx)
theorem fz_F_init : fk_Y fy_F_init prog_1_method_1_code 1 none 0 := ⟨fw_14, fw_1, by decide, by decide, by decide +kernel⟩
theorem fz_F_at : fk_Y fy_F_at prog_1_method_6_code 3 (some .int) 2 := ⟨fw_206, fw_1, by decide, by decide, by decide +kernel⟩
theorem fz_F_begin : fk_Y fy_F_begin prog_1_method_2_code 1 (some .int) 0 := ⟨fw_156, fw_1, by decide, by decide, by decide +kernel⟩
theorem fz_F_clear : fk_Y fy_F_clear prog_1_method_4_code 1 none 0 := ⟨fw_183, fw_1, by decide, by decide, by decide +kernel⟩
theorem fz_F_ends : fk_Y fy_F_ends prog_1_method_10_code 3 (some .boolean) 2 := ⟨fw_321, fw_1, by decide, by decide, by decide +kernel⟩
theorem fz_F_event : fk_Y fy_F_event prog_1_method_3_code 2 (some .boolean) 1 := ⟨fw_168, fw_1, by decide, by decide, by decide +kernel⟩
theorem fz_F_fits : fk_Y fy_F_fits prog_1_method_15_code 4 (some .boolean) 2 := ⟨fw_363, fw_1, by decide, by decide, by decide +kernel⟩
theorem fz_F_inputs : fk_Y fy_F_inputs prog_1_method_13_code 4 (some .int) 2 := ⟨fw_339, fw_1, by decide, by decide, by decide +kernel⟩
theorem fz_F_isActivity : fk_Y fy_F_isActivity prog_1_method_21_code 1 (some .boolean) 1 := ⟨fw_175, fw_1, by decide, by decide, by decide +kernel⟩
theorem fz_F_isIn : fk_Y fy_F_isIn prog_1_method_23_code 2 (some .boolean) 2 := ⟨fw_224, fw_1, by decide, by decide, by decide +kernel⟩
theorem fz_F_isSet : fk_Y fy_F_isSet prog_1_method_22_code 1 (some .boolean) 1 := ⟨fw_312, fw_1, by decide, by decide, by decide +kernel⟩
theorem fz_F_length : fk_Y fy_F_length prog_1_method_5_code 2 (some .int) 1 := ⟨fw_194, fw_1, by decide, by decide, by decide +kernel⟩
theorem fz_F_markings : fk_Y fy_F_markings prog_1_method_16_code 3 (some .int) 1 := ⟨fw_383, fw_1, by decide, by decide, by decide +kernel⟩
theorem fz_F_mine : fk_Y fy_F_mine prog_1_method_8_code 1 (some .int) 0 := ⟨fw_228, fw_1, by decide, by decide, by decide +kernel⟩
theorem fz_F_netOf : fk_Y fy_F_netOf prog_1_method_24_code 2 (some (.object "FootprintNet$Net")) 1 := ⟨fw_335, fw_1, by decide, by decide, by decide +kernel⟩
theorem fz_F_outputs : fk_Y fy_F_outputs prog_1_method_14_code 4 (some .int) 2 := ⟨fw_351, fw_1, by decide, by decide, by decide +kernel⟩
theorem fz_F_place : fk_Y fy_F_place prog_1_method_9_code 3 (some .int) 2 := ⟨fw_309, fw_1, by decide, by decide, by decide +kernel⟩
theorem fz_F_places : fk_Y fy_F_places prog_1_method_12_code 3 (some .int) 1 := ⟨fw_331, fw_1, by decide, by decide, by decide +kernel⟩
theorem fz_F_play : fk_Y fy_F_play prog_1_method_19_code 5 (some .int) 1 := ⟨fw_469, fw_1, by decide, by decide, by decide +kernel⟩
theorem fz_F_relation : fk_Y fy_F_relation prog_1_method_7_code 5 (some .int) 2 := ⟨fw_216, fw_1, by decide, by decide, by decide +kernel⟩
theorem fz_F_replays : fk_Y fy_F_replays prog_1_method_25_code 7 (some .boolean) 2 := ⟨fw_367, fw_1, by decide, by decide, by decide +kernel⟩
theorem fz_F_reset : fk_Y fy_F_reset prog_1_method_11_code 1 none 0 := ⟨fw_326, fw_1, by decide, by decide, by decide +kernel⟩
theorem fz_F_same : fk_Y fy_F_same prog_1_method_20_code 1 (some .boolean) 0 := ⟨fw_495, fw_1, by decide, by decide, by decide +kernel⟩
theorem fz_F_shape : fk_Y fy_F_shape prog_1_method_18_code 6 (some .int) 1 := ⟨fw_443, fw_1, by decide, by decide, by decide +kernel⟩
theorem fz_F_sound : fk_Y fy_F_sound prog_1_method_17_code 3 (some .int) 1 := ⟨fw_413, fw_1, by decide, by decide, by decide +kernel⟩
theorem fz_Lg_init : fk_Y fy_Lg_init prog_2_method_1_code 1 none 0 := ⟨fw_22, fw_2, by decide, by decide, by decide +kernel⟩
theorem fz_Lg_activityAt : fk_Y fy_Lg_activityAt prog_2_method_6_code 3 (some .int) 2 := ⟨fw_179, fw_2, by decide, by decide, by decide +kernel⟩
theorem fz_Lg_addTrace : fk_Y fy_Lg_addTrace prog_2_method_7_code 1 (some .int) 0 := ⟨fw_160, fw_2, by decide, by decide, by decide +kernel⟩
theorem fz_Lg_append : fk_Y fy_Lg_append prog_2_method_8_code 4 (some .boolean) 1 := ⟨fw_172, fw_2, by decide, by decide, by decide +kernel⟩
theorem fz_Lg_beginners : fk_Y fy_Lg_beginners prog_2_method_12_code 3 (some .int) 0 := ⟨fw_288, fw_2, by decide, by decide, by decide +kernel⟩
theorem fz_Lg_enders : fk_Y fy_Lg_enders prog_2_method_13_code 3 (some .int) 0 := ⟨fw_292, fw_2, by decide, by decide, by decide +kernel⟩
theorem fz_Lg_hasEvent : fk_Y fy_Lg_hasEvent prog_2_method_4_code 3 (some .boolean) 2 := ⟨fw_210, fw_2, by decide, by decide, by decide +kernel⟩
theorem fz_Lg_hasTrace : fk_Y fy_Lg_hasTrace prog_2_method_3_code 2 (some .boolean) 1 := ⟨fw_198, fw_2, by decide, by decide, by decide +kernel⟩
theorem fz_Lg_isFollowed : fk_Y fy_Lg_isFollowed prog_2_method_10_code 3 (some .boolean) 2 := ⟨fw_221, fw_2, by decide, by decide, by decide +kernel⟩
theorem fz_Lg_isFull : fk_Y fy_Lg_isFull prog_2_method_2_code 1 (some .boolean) 0 := ⟨fw_164, fw_2, by decide, by decide, by decide +kernel⟩
theorem fz_Lg_lengthOf : fk_Y fy_Lg_lengthOf prog_2_method_5_code 2 (some .int) 1 := ⟨fw_202, fw_2, by decide, by decide, by decide +kernel⟩
theorem fz_Lg_occurring : fk_Y fy_Lg_occurring prog_2_method_11_code 4 (some .int) 0 := ⟨fw_297, fw_2, by decide, by decide, by decide +kernel⟩
theorem fz_Lg_removeTraces : fk_Y fy_Lg_removeTraces prog_2_method_9_code 1 none 0 := ⟨fw_187, fw_2, by decide, by decide, by decide +kernel⟩
theorem fz_Mi_init : fk_Y fy_Mi_init prog_3_method_1_code 1 none 0 := ⟨fw_77, fw_4, by decide, by decide, by decide +kernel⟩
theorem fz_Mi_addPairsOf : fk_Y fy_Mi_addPairsOf prog_3_method_7_code 3 (some .boolean) 1 := ⟨fw_247, fw_4, by decide, by decide, by decide +kernel⟩
theorem fz_Mi_causedBy : fk_Y fy_Mi_causedBy prog_3_method_5_code 4 (some .int) 2 := ⟨fw_239, fw_4, by decide, by decide, by decide +kernel⟩
theorem fz_Mi_findPairs : fk_Y fy_Mi_findPairs prog_3_method_2_code 3 (some .boolean) 1 := ⟨fw_232, fw_4, by decide, by decide, by decide +kernel⟩
theorem fz_Mi_isCausal : fk_Y fy_Mi_isCausal prog_3_method_8_code 3 (some .boolean) 2 := ⟨fw_251, fw_4, by decide, by decide, by decide +kernel⟩
theorem fz_Mi_isGreatest : fk_Y fy_Mi_isGreatest prog_3_method_9_code 5 (some .boolean) 2 := ⟨fw_255, fw_4, by decide, by decide, by decide +kernel⟩
theorem fz_Mi_knownTo : fk_Y fy_Mi_knownTo prog_3_method_6_code 4 (some .int) 2 := ⟨fw_243, fw_4, by decide, by decide, by decide +kernel⟩
theorem fz_Mi_prepareSets : fk_Y fy_Mi_prepareSets prog_3_method_4_code 8 none 1 := ⟨fw_236, fw_4, by decide, by decide, by decide +kernel⟩
theorem fz_Mi_writeNet : fk_Y fy_Mi_writeNet prog_3_method_3_code 4 none 2 := ⟨fw_259, fw_4, by decide, by decide, by decide +kernel⟩
theorem fz_Nt_init : fk_Y fy_Nt_init prog_4_method_1_code 1 none 0 := ⟨fw_42, fw_3, by decide, by decide, by decide +kernel⟩
theorem fz_Nt_activitySet : fk_Y fy_Nt_activitySet prog_4_method_7_code 1 (some .int) 0 := ⟨fw_421, fw_3, by decide, by decide, by decide +kernel⟩
theorem fz_Nt_addPlace : fk_Y fy_Nt_addPlace prog_4_method_9_code 3 (some .boolean) 2 := ⟨fw_284, fw_3, by decide, by decide, by decide +kernel⟩
theorem fz_Nt_afterFiring : fk_Y fy_Nt_afterFiring prog_4_method_16_code 4 (some .long) 2 := ⟨fw_378, fw_3, by decide, by decide, by decide +kernel⟩
theorem fz_Nt_connect : fk_Y fy_Nt_connect prog_4_method_14_code 6 none 3 := ⟨fw_278, fw_3, by decide, by decide, by decide +kernel⟩
theorem fz_Nt_enabledIn : fk_Y fy_Nt_enabledIn prog_4_method_15_code 7 (some .int) 1 := ⟨fw_371, fw_3, by decide, by decide, by decide +kernel⟩
theorem fz_Nt_firstOnes : fk_Y fy_Nt_firstOnes prog_4_method_5_code 1 (some .int) 0 := ⟨fw_355, fw_3, by decide, by decide, by decide +kernel⟩
theorem fz_Nt_hasMixedChoice : fk_Y fy_Nt_hasMixedChoice prog_4_method_19_code 3 (some .boolean) 0 := ⟨fw_461, fw_3, by decide, by decide, by decide +kernel⟩
theorem fz_Nt_hasPlace : fk_Y fy_Nt_hasPlace prog_4_method_8_code 4 (some .boolean) 2 := ⟨fw_316, fw_3, by decide, by decide, by decide +kernel⟩
theorem fz_Nt_hasSelfLoop : fk_Y fy_Nt_hasSelfLoop prog_4_method_17_code 2 (some .boolean) 0 := ⟨fw_447, fw_3, by decide, by decide, by decide +kernel⟩
theorem fz_Nt_hasShortLoop : fk_Y fy_Nt_hasShortLoop prog_4_method_18_code 5 (some .boolean) 0 := ⟨fw_451, fw_3, by decide, by decide, by decide +kernel⟩
theorem fz_Nt_inputsOf : fk_Y fy_Nt_inputsOf prog_4_method_3_code 2 (some .int) 1 := ⟨fw_347, fw_3, by decide, by decide, by decide +kernel⟩
theorem fz_Nt_isLike : fk_Y fy_Nt_isLike prog_4_method_21_code 3 (some .boolean) 1 := ⟨fw_499, fw_3, by decide, by decide, by decide +kernel⟩
theorem fz_Nt_lastOnes : fk_Y fy_Nt_lastOnes prog_4_method_6_code 1 (some .int) 0 := ⟨fw_343, fw_3, by decide, by decide, by decide +kernel⟩
theorem fz_Nt_outputsOf : fk_Y fy_Nt_outputsOf prog_4_method_4_code 2 (some .int) 1 := ⟨fw_359, fw_3, by decide, by decide, by decide +kernel⟩
theorem fz_Nt_placeCount : fk_Y fy_Nt_placeCount prog_4_method_2_code 1 (some .int) 0 := ⟨fw_305, fw_3, by decide, by decide, by decide +kernel⟩
theorem fz_Nt_prepareFiring : fk_Y fy_Nt_prepareFiring prog_4_method_13_code 2 none 0 := ⟨fw_271, fw_3, by decide, by decide, by decide +kernel⟩
theorem fz_Nt_removeAll : fk_Y fy_Nt_removeAll prog_4_method_12_code 1 none 0 := ⟨fw_263, fw_3, by decide, by decide, by decide +kernel⟩
theorem fz_Nt_setEnds : fk_Y fy_Nt_setEnds prog_4_method_10_code 3 none 2 := ⟨fw_267, fw_3, by decide, by decide, by decide +kernel⟩
theorem fz_Nt_setLoose : fk_Y fy_Nt_setLoose prog_4_method_11_code 2 none 1 := ⟨fw_301, fw_3, by decide, by decide, by decide +kernel⟩
theorem fz_Nt_sharesOutputs : fk_Y fy_Nt_sharesOutputs prog_4_method_20_code 5 (some .boolean) 2 := ⟨fw_465, fw_3, by decide, by decide, by decide +kernel⟩
theorem fz_Pl_init : fk_Y fy_Pl_init prog_5_method_1_code 1 none 0 := ⟨fw_125, fw_6, by decide, by decide, by decide +kernel⟩
theorem fz_Pl_chosenOf : fk_Y fy_Pl_chosenOf prog_5_method_5_code 5 (some .int) 2 := ⟨fw_480, fw_6, by decide, by decide, by decide +kernel⟩
theorem fz_Pl_firedAt : fk_Y fy_Pl_firedAt prog_5_method_3_code 2 (some .int) 1 := ⟨fw_491, fw_6, by decide, by decide, by decide +kernel⟩
theorem fz_Pl_firedCount : fk_Y fy_Pl_firedCount prog_5_method_2_code 1 (some .int) 0 := ⟨fw_487, fw_6, by decide, by decide, by decide +kernel⟩
theorem fz_Pl_reachesFinal : fk_Y fy_Pl_reachesFinal prog_5_method_4_code 10 (some .boolean) 2 := ⟨fw_474, fw_6, by decide, by decide, by decide +kernel⟩
theorem fz_Re_init : fk_Y fy_Re_init prog_6_method_1_code 1 none 0 := ⟨fw_100, fw_5, by decide, by decide, by decide +kernel⟩
theorem fz_Re_addAt : fk_Y fy_Re_addAt prog_6_method_6_code 4 (some .int) 2 := ⟨fw_397, fw_5, by decide, by decide, by decide +kernel⟩
theorem fz_Re_addNextOf : fk_Y fy_Re_addNextOf prog_6_method_4_code 8 (some .boolean) 2 := ⟨fw_401, fw_5, by decide, by decide, by decide +kernel⟩
theorem fz_Re_allCanEnd : fk_Y fy_Re_allCanEnd prog_6_method_9_code 4 (some .boolean) 0 := ⟨fw_431, fw_5, by decide, by decide, by decide +kernel⟩
theorem fz_Re_explore : fk_Y fy_Re_explore prog_6_method_3_code 3 (some .boolean) 1 := ⟨fw_387, fw_5, by decide, by decide, by decide +kernel⟩
theorem fz_Re_indexOf : fk_Y fy_Re_indexOf prog_6_method_5_code 6 (some .int) 1 := ⟨fw_392, fw_5, by decide, by decide, by decide +kernel⟩
theorem fz_Re_leadsToEnding : fk_Y fy_Re_leadsToEnding prog_6_method_11_code 4 (some .boolean) 1 := ⟨fw_439, fw_5, by decide, by decide, by decide +kernel⟩
theorem fz_Re_markingCount : fk_Y fy_Re_markingCount prog_6_method_2_code 1 (some .int) 0 := ⟨fw_409, fw_5, by decide, by decide, by decide +kernel⟩
theorem fz_Re_provesSound : fk_Y fy_Re_provesSound prog_6_method_7_code 2 (some .boolean) 1 := ⟨fw_417, fw_5, by decide, by decide, by decide +kernel⟩
theorem fz_Re_sinkMeansFinal : fk_Y fy_Re_sinkMeansFinal prog_6_method_8_code 2 (some .boolean) 0 := ⟨fw_425, fw_5, by decide, by decide, by decide +kernel⟩
theorem fz_Re_spreadEnding : fk_Y fy_Re_spreadEnding prog_6_method_10_code 3 (some .int) 0 := ⟨fw_435, fw_5, by decide, by decide, by decide +kernel⟩
theorem fz_Md_init : fk_Y fy_Md_init prog_8_method_1_code 1 none 0 := ⟨fw_505, fw_7, by decide, by decide, by decide +kernel⟩
theorem fz_Md_activities : fk_Y fy_Md_activities prog_8_method_20_code 4 (some .int) 1 := ⟨fw_653, fw_7, by decide, by decide, by decide +kernel⟩
theorem fz_Md_at : fk_Y fy_Md_at prog_8_method_6_code 3 (some .int) 2 := ⟨fw_586, fw_7, by decide, by decide, by decide +kernel⟩
theorem fz_Md_begin : fk_Y fy_Md_begin prog_8_method_2_code 1 (some .int) 0 := ⟨fw_570, fw_7, by decide, by decide, by decide +kernel⟩
theorem fz_Md_causal : fk_Y fy_Md_causal prog_8_method_10_code 7 (some .boolean) 2 := ⟨fw_603, fw_7, by decide, by decide, by decide +kernel⟩
theorem fz_Md_clear : fk_Y fy_Md_clear prog_8_method_4_code 1 none 0 := ⟨fw_578, fw_7, by decide, by decide, by decide +kernel⟩
theorem fz_Md_enabled : fk_Y fy_Md_enabled prog_8_method_25_code 5 (some .boolean) 2 := ⟨fw_649, fw_7, by decide, by decide, by decide +kernel⟩
theorem fz_Md_ends : fk_Y fy_Md_ends prog_8_method_15_code 3 (some .boolean) 2 := ⟨fw_618, fw_7, by decide, by decide, by decide +kernel⟩
theorem fz_Md_event : fk_Y fy_Md_event prog_8_method_3_code 2 (some .boolean) 1 := ⟨fw_574, fw_7, by decide, by decide, by decide +kernel⟩
theorem fz_Md_explore : fk_Y fy_Md_explore prog_8_method_30_code 4 none 1 := ⟨fw_677, fw_7, by decide, by decide, by decide +kernel⟩
theorem fz_Md_fire : fk_Y fy_Md_fire prog_8_method_26_code 4 none 2 := ⟨fw_661, fw_7, by decide, by decide, by decide +kernel⟩
theorem fz_Md_fits : fk_Y fy_Md_fits prog_8_method_27_code 5 (some .boolean) 2 := ⟨fw_641, fw_7, by decide, by decide, by decide +kernel⟩
theorem fz_Md_followed : fk_Y fy_Md_followed prog_8_method_7_code 5 (some .boolean) 2 := ⟨fw_594, fw_7, by decide, by decide, by decide +kernel⟩
theorem fz_Md_gives : fk_Y fy_Md_gives prog_8_method_24_code 4 (some .boolean) 3 := ⟨fw_665, fw_7, by decide, by decide, by decide +kernel⟩
theorem fz_Md_greatest : fk_Y fy_Md_greatest prog_8_method_11_code 5 (some .boolean) 2 := ⟨fw_610, fw_7, by decide, by decide, by decide +kernel⟩
theorem fz_Md_has : fk_Y fy_Md_has prog_8_method_9_code 2 (some .boolean) 2 := ⟨fw_606, fw_7, by decide, by decide, by decide +kernel⟩
theorem fz_Md_initial : fk_Y fy_Md_initial prog_8_method_21_code 2 none 0 := ⟨fw_645, fw_7, by decide, by decide, by decide +kernel⟩
theorem fz_Md_inputs : fk_Y fy_Md_inputs prog_8_method_18_code 3 (some .int) 2 := ⟨fw_633, fw_7, by decide, by decide, by decide +kernel⟩
theorem fz_Md_isFinal : fk_Y fy_Md_isFinal prog_8_method_22_code 3 (some .boolean) 0 := ⟨fw_669, fw_7, by decide, by decide, by decide +kernel⟩
theorem fz_Md_length : fk_Y fy_Md_length prog_8_method_5_code 2 (some .int) 1 := ⟨fw_582, fw_7, by decide, by decide, by decide +kernel⟩
theorem fz_Md_load : fk_Y fy_Md_load prog_8_method_28_code 3 none 1 := ⟨fw_685, fw_7, by decide, by decide, by decide +kernel⟩
theorem fz_Md_loops : fk_Y fy_Md_loops prog_8_method_33_code 7 (some .boolean) 1 := ⟨fw_697, fw_7, by decide, by decide, by decide +kernel⟩
theorem fz_Md_markings : fk_Y fy_Md_markings prog_8_method_31_code 2 (some .int) 1 := ⟨fw_673, fw_7, by decide, by decide, by decide +kernel⟩
theorem fz_Md_mine : fk_Y fy_Md_mine prog_8_method_12_code 4 (some .int) 0 := ⟨fw_598, fw_7, by decide, by decide, by decide +kernel⟩
theorem fz_Md_mixed : fk_Y fy_Md_mixed prog_8_method_34_code 8 (some .boolean) 1 := ⟨fw_701, fw_7, by decide, by decide, by decide +kernel⟩
theorem fz_Md_notNet : fk_Y fy_Md_notNet prog_8_method_13_code 1 (some .boolean) 1 := ⟨fw_629, fw_7, by decide, by decide, by decide +kernel⟩
theorem fz_Md_number : fk_Y fy_Md_number prog_8_method_29_code 4 (some .int) 0 := ⟨fw_681, fw_7, by decide, by decide, by decide +kernel⟩
theorem fz_Md_outputs : fk_Y fy_Md_outputs prog_8_method_19_code 3 (some .int) 2 := ⟨fw_637, fw_7, by decide, by decide, by decide +kernel⟩
theorem fz_Md_place : fk_Y fy_Md_place prog_8_method_14_code 4 (some .int) 2 := ⟨fw_614, fw_7, by decide, by decide, by decide +kernel⟩
theorem fz_Md_places : fk_Y fy_Md_places prog_8_method_17_code 2 (some .int) 1 := ⟨fw_626, fw_7, by decide, by decide, by decide +kernel⟩
theorem fz_Md_play : fk_Y fy_Md_play prog_8_method_36_code 7 (some .int) 1 := ⟨fw_705, fw_7, by decide, by decide, by decide +kernel⟩
theorem fz_Md_relation : fk_Y fy_Md_relation prog_8_method_8_code 3 (some .int) 2 := ⟨fw_590, fw_7, by decide, by decide, by decide +kernel⟩
theorem fz_Md_reset : fk_Y fy_Md_reset prog_8_method_16_code 1 none 0 := ⟨fw_622, fw_7, by decide, by decide, by decide +kernel⟩
theorem fz_Md_same : fk_Y fy_Md_same prog_8_method_37_code 5 (some .boolean) 0 := ⟨fw_710, fw_7, by decide, by decide, by decide +kernel⟩
theorem fz_Md_shape : fk_Y fy_Md_shape prog_8_method_35_code 4 (some .int) 1 := ⟨fw_693, fw_7, by decide, by decide, by decide +kernel⟩
theorem fz_Md_sound : fk_Y fy_Md_sound prog_8_method_32_code 8 (some .int) 1 := ⟨fw_689, fw_7, by decide, by decide, by decide +kernel⟩
theorem fz_Md_takes : fk_Y fy_Md_takes prog_8_method_23_code 4 (some .boolean) 3 := ⟨fw_657, fw_7, by decide, by decide, by decide +kernel⟩
theorem fz_It_bitCount : fk_Y fy_It_bitCount prog_9_method_49_code 1 (some .int) 1 := ⟨fw_454, fw_9, by decide, by decide, by decide +kernel⟩
theorem fz_Ar_fillI : fk_Y fy_Ar_fillI prog_10_method_103_code 4 none 2 := ⟨fw_190, fw_8, by decide, by decide, by decide +kernel⟩
theorem fz_Ar_fillJ : fk_Y fy_Ar_fillJ prog_10_method_101_code 5 none 2 := ⟨fw_274, fw_8, by decide, by decide, by decide +kernel⟩
