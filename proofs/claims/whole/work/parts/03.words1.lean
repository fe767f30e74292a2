theorem m_0 : Jvm.Cond.initialized "ArithmeticRowsLaw" ∈ TT := TT_in (List.mem_of_getElem? (i := 42) (by decide +kernel)) rfl
theorem m_1 : Jvm.Cond.initialized "ArithmeticRows" ∈ TT := TT_in (List.mem_of_getElem? (i := 43) (by decide +kernel)) rfl
theorem m_2 : Jvm.Cond.initialized "java/lang/Math" ∈ TT := TT_in (List.mem_of_getElem? (i := 44) (by decide +kernel)) rfl
theorem m_3 : Jvm.Cond.initialized "ArithmeticRows$Side" ∈ TT := TT_in (List.mem_of_getElem? (i := 45) (by decide +kernel)) rfl
theorem m_4 : Jvm.Cond.initialized "ArithmeticRows$Row" ∈ TT := TT_in (List.mem_of_getElem? (i := 46) (by decide +kernel)) rfl
theorem m_5 : Jvm.Cond.initialized "ArithmeticRows$Encoder" ∈ TT := TT_in (List.mem_of_getElem? (i := 47) (by decide +kernel)) rfl
theorem m_6 : Jvm.Cond.initialized "ArithmeticRows$Decoder" ∈ TT := TT_in (List.mem_of_getElem? (i := 48) (by decide +kernel)) rfl
theorem m_7 : Jvm.Cond.initialized "ArithmeticRowsModel" ∈ TT := TT_in (List.mem_of_getElem? (i := 49) (by decide +kernel)) rfl
theorem m_8 : Jvm.Cond.initialized "java/lang/Throwable" ∈ TT := TT_in (List.mem_of_getElem? (i := 50) (by decide +kernel)) rfl
theorem m_9 : Jvm.Cond.initialized "java/lang/Exception" ∈ TT := TT_in (List.mem_of_getElem? (i := 51) (by decide +kernel)) rfl
theorem m_10 : Jvm.Cond.initialized "java/lang/RuntimeException" ∈ TT := TT_in (List.mem_of_getElem? (i := 52) (by decide +kernel)) rfl
theorem m_11 : Jvm.Cond.initialized "java/lang/IndexOutOfBoundsException" ∈ TT := TT_in (List.mem_of_getElem? (i := 53) (by decide +kernel)) rfl
theorem m_12 : Jvm.Cond.initialized "java/lang/IllegalStateException" ∈ TT := TT_in (List.mem_of_getElem? (i := 54) (by decide +kernel)) rfl
theorem m_13 : Jvm.Cond.initialized "java/lang/IllegalArgumentException" ∈ TT := TT_in (List.mem_of_getElem? (i := 55) (by decide +kernel)) rfl
theorem m_14 : Jvm.Cond.initialized "ArithmeticRows$Table" ∈ TT := TT_in (List.mem_of_getElem? (i := 56) (by decide +kernel)) rfl
theorem m_15 : Jvm.Cond.initialized "java/lang/System" ∈ TT := TT_in (List.mem_of_getElem? (i := 57) (by decide +kernel)) rfl
theorem m_16 : Jvm.Cond.initialized "java/util/Arrays" ∈ TT := TT_in (List.mem_of_getElem? (i := 58) (by decide +kernel)) rfl
theorem m_17 : Jvm.Cond.classLink "ArithmeticRowsLaw" (8 : Nat) "ArithmeticRows" ∈ TT := TT_in (List.mem_of_getElem? (i := 59) (by decide +kernel)) rfl
theorem m_18 : Jvm.Cond.instantiable "ArithmeticRows" (10 : Nat) ∈ TT := TT_in (List.mem_of_getElem? (i := 60) (by decide +kernel)) rfl
theorem m_19 : Jvm.Cond.methodLink "ArithmeticRowsLaw" (52 : Nat) ({ cls := "ArithmeticRows", name := "<init>", desc := "(I)V" } : Jvm.MethodName) ∈ TT := TT_in (List.mem_of_getElem? (i := 61) (by decide +kernel)) rfl
theorem m_20 : Jvm.Cond.instanceMethod ({ cls := "ArithmeticRows", name := "<init>", desc := "(I)V" } : Jvm.MethodName) ∈ TT := TT_in (List.mem_of_getElem? (i := 62) (by decide +kernel)) rfl
set_option maxRecDepth 20000 in
theorem m_21 : Jvm.Cond.code ({ cls := "ArithmeticRows", name := "<init>", desc := "(I)V" } : Jvm.MethodName) prog_1_method_1_code (2 : Nat) (Option.none : Option Jvm.ClassFile.FieldType) ∈ TT := TT_in (List.mem_of_getElem? (i := 63) rfl) rfl
theorem m_22 : Jvm.Cond.methodLink "ArithmeticRows" (1 : Nat) ({ cls := "java/lang/Object", name := "<init>", desc := "()V" } : Jvm.MethodName) ∈ TT := TT_in (List.mem_of_getElem? (i := 64) (by decide +kernel)) rfl
theorem m_23 : Jvm.Cond.instanceMethod ({ cls := "java/lang/Object", name := "<init>", desc := "()V" } : Jvm.MethodName) ∈ TT := TT_in (List.mem_of_getElem? (i := 65) (by decide +kernel)) rfl
set_option maxRecDepth 20000 in
theorem m_24 : Jvm.Cond.code ({ cls := "java/lang/Object", name := "<init>", desc := "()V" } : Jvm.MethodName) object_method_1_code (1 : Nat) (Option.none : Option Jvm.ClassFile.FieldType) ∈ TT := TT_in (List.mem_of_getElem? (i := 66) rfl) rfl
theorem m_25 : Jvm.Cond.constant "ArithmeticRows" (9 : Nat) (65536 : Int32) ∈ TT := TT_in (List.mem_of_getElem? (i := 67) (by decide +kernel)) rfl
theorem m_26 : Jvm.Cond.methodLink "ArithmeticRows" (10 : Nat) ({ cls := "java/lang/Math", name := "min", desc := "(II)I" } : Jvm.MethodName) ∈ TT := TT_in (List.mem_of_getElem? (i := 68) (by decide +kernel)) rfl
theorem m_27 : Jvm.Cond.static ({ cls := "java/lang/Math", name := "min", desc := "(II)I" } : Jvm.MethodName) ∈ TT := TT_in (List.mem_of_getElem? (i := 69) (by decide +kernel)) rfl
set_option maxRecDepth 20000 in
theorem m_28 : Jvm.Cond.code ({ cls := "java/lang/Math", name := "min", desc := "(II)I" } : Jvm.MethodName) prog_13_method_69_code (2 : Nat) (Option.some Jvm.ClassFile.FieldType.int) ∈ TT := TT_in (List.mem_of_getElem? (i := 70) rfl) rfl
theorem m_29 : Jvm.Cond.methodLink "ArithmeticRows" (16 : Nat) ({ cls := "java/lang/Math", name := "max", desc := "(II)I" } : Jvm.MethodName) ∈ TT := TT_in (List.mem_of_getElem? (i := 71) (by decide +kernel)) rfl
theorem m_30 : Jvm.Cond.static ({ cls := "java/lang/Math", name := "max", desc := "(II)I" } : Jvm.MethodName) ∈ TT := TT_in (List.mem_of_getElem? (i := 72) (by decide +kernel)) rfl
set_option maxRecDepth 20000 in
theorem m_31 : Jvm.Cond.code ({ cls := "java/lang/Math", name := "max", desc := "(II)I" } : Jvm.MethodName) prog_13_method_65_code (2 : Nat) (Option.some Jvm.ClassFile.FieldType.int) ∈ TT := TT_in (List.mem_of_getElem? (i := 73) rfl) rfl
theorem m_32 : Jvm.Cond.classLink "ArithmeticRows" (23 : Nat) "ArithmeticRows$Side" ∈ TT := TT_in (List.mem_of_getElem? (i := 74) (by decide +kernel)) rfl
theorem m_33 : Jvm.Cond.instantiable "ArithmeticRows$Side" (2 : Nat) ∈ TT := TT_in (List.mem_of_getElem? (i := 75) (by decide +kernel)) rfl
theorem m_34 : Jvm.Cond.methodLink "ArithmeticRows" (25 : Nat) ({ cls := "ArithmeticRows$Side", name := "<init>", desc := "(I)V" } : Jvm.MethodName) ∈ TT := TT_in (List.mem_of_getElem? (i := 76) (by decide +kernel)) rfl
theorem m_35 : Jvm.Cond.instanceMethod ({ cls := "ArithmeticRows$Side", name := "<init>", desc := "(I)V" } : Jvm.MethodName) ∈ TT := TT_in (List.mem_of_getElem? (i := 77) (by decide +kernel)) rfl
set_option maxRecDepth 20000 in
theorem m_36 : Jvm.Cond.code ({ cls := "ArithmeticRows$Side", name := "<init>", desc := "(I)V" } : Jvm.MethodName) prog_5_method_1_code (2 : Nat) (Option.none : Option Jvm.ClassFile.FieldType) ∈ TT := TT_in (List.mem_of_getElem? (i := 78) rfl) rfl
theorem m_37 : Jvm.Cond.methodLink "ArithmeticRows$Side" (3 : Nat) ({ cls := "java/lang/Object", name := "<init>", desc := "()V" } : Jvm.MethodName) ∈ TT := TT_in (List.mem_of_getElem? (i := 79) (by decide +kernel)) rfl
theorem m_38 : Jvm.Cond.fieldLink "ArithmeticRows$Side" (9 : Nat) "ArithmeticRows$Side" "own" "[I" ∈ TT := TT_in (List.mem_of_getElem? (i := 80) (by decide +kernel)) rfl
theorem m_39 : Jvm.Cond.fieldLinkNest "ArithmeticRows" (85 : Nat) "ArithmeticRows$Side" "own" "[I" "ArithmeticRows" ∈ lw_tbl := List.mem_of_getElem? (i := 81) (by decide +kernel)
theorem m_40 : Jvm.Cond.fieldLink "ArithmeticRows$Side" (15 : Nat) "ArithmeticRows$Side" "sets" "[I" ∈ TT := TT_in (List.mem_of_getElem? (i := 82) (by decide +kernel)) rfl
theorem m_41 : Jvm.Cond.fieldLinkNest "ArithmeticRows" (204 : Nat) "ArithmeticRows$Side" "sets" "[I" "ArithmeticRows" ∈ lw_tbl := List.mem_of_getElem? (i := 83) (by decide +kernel)
theorem m_42 : Jvm.Cond.laysFinal "ArithmeticRows$Side" "ArithmeticRows$Side" "own" "[I" ∈ TT := TT_in (List.mem_of_getElem? (i := 84) (by decide +kernel)) rfl
theorem m_43 : Jvm.Cond.soleField "ArithmeticRows$Side" "own" ∈ TT := TT_in (List.mem_of_getElem? (i := 85) (by decide +kernel)) rfl
theorem m_44 : Jvm.Cond.laysFinal "ArithmeticRows$Side" "ArithmeticRows$Side" "sets" "[I" ∈ TT := TT_in (List.mem_of_getElem? (i := 86) (by decide +kernel)) rfl
theorem m_45 : Jvm.Cond.soleField "ArithmeticRows$Side" "sets" ∈ TT := TT_in (List.mem_of_getElem? (i := 87) (by decide +kernel)) rfl
theorem m_46 : Jvm.Cond.superclass "ArithmeticRows$Side" "java/lang/Object" ∈ TT := TT_in (List.mem_of_getElem? (i := 88) (by decide +kernel)) rfl
theorem m_47 : Jvm.Cond.arrayClass Jvm.ClassFile.FieldType.int ∈ TT := TT_in (List.mem_of_getElem? (i := 89) (by decide +kernel)) rfl
theorem m_48 : Jvm.Cond.classLink "ArithmeticRows" (35 : Nat) "ArithmeticRows$Row" ∈ TT := TT_in (List.mem_of_getElem? (i := 90) (by decide +kernel)) rfl
theorem m_49 : Jvm.Cond.instantiable "ArithmeticRows$Row" (6 : Nat) ∈ TT := TT_in (List.mem_of_getElem? (i := 91) (by decide +kernel)) rfl
theorem m_50 : Jvm.Cond.methodLink "ArithmeticRows" (37 : Nat) ({ cls := "ArithmeticRows$Row", name := "<init>", desc := "()V" } : Jvm.MethodName) ∈ TT := TT_in (List.mem_of_getElem? (i := 92) (by decide +kernel)) rfl
theorem m_51 : Jvm.Cond.instanceMethod ({ cls := "ArithmeticRows$Row", name := "<init>", desc := "()V" } : Jvm.MethodName) ∈ TT := TT_in (List.mem_of_getElem? (i := 93) (by decide +kernel)) rfl
set_option maxRecDepth 20000 in
theorem m_52 : Jvm.Cond.code ({ cls := "ArithmeticRows$Row", name := "<init>", desc := "()V" } : Jvm.MethodName) prog_4_method_1_code (1 : Nat) (Option.none : Option Jvm.ClassFile.FieldType) ∈ TT := TT_in (List.mem_of_getElem? (i := 94) rfl) rfl
theorem m_53 : Jvm.Cond.methodLink "ArithmeticRows$Row" (1 : Nat) ({ cls := "java/lang/Object", name := "<init>", desc := "()V" } : Jvm.MethodName) ∈ TT := TT_in (List.mem_of_getElem? (i := 95) (by decide +kernel)) rfl
theorem m_54 : Jvm.Cond.constant "ArithmeticRows$Row" (9 : Nat) (42000 : Int32) ∈ TT := TT_in (List.mem_of_getElem? (i := 96) (by decide +kernel)) rfl
theorem m_55 : Jvm.Cond.fieldLink "ArithmeticRows$Row" (10 : Nat) "ArithmeticRows$Row" "bytes" "[I" ∈ TT := TT_in (List.mem_of_getElem? (i := 97) (by decide +kernel)) rfl
theorem m_56 : Jvm.Cond.fieldLink "ArithmeticRows$Row" (14 : Nat) "ArithmeticRows$Row" "starts" "[I" ∈ TT := TT_in (List.mem_of_getElem? (i := 98) (by decide +kernel)) rfl
theorem m_57 : Jvm.Cond.fieldLink "ArithmeticRows$Row" (17 : Nat) "ArithmeticRows$Row" "plain" "[Z" ∈ TT := TT_in (List.mem_of_getElem? (i := 99) (by decide +kernel)) rfl
theorem m_58 : Jvm.Cond.fieldLink "ArithmeticRows$Row" (21 : Nat) "ArithmeticRows$Row" "size" "I" ∈ TT := TT_in (List.mem_of_getElem? (i := 100) (by decide +kernel)) rfl
theorem m_59 : Jvm.Cond.fieldLink "ArithmeticRows$Row" (25 : Nat) "ArithmeticRows$Row" "segments" "I" ∈ TT := TT_in (List.mem_of_getElem? (i := 101) (by decide +kernel)) rfl
theorem m_60 : Jvm.Cond.fieldLink "ArithmeticRows$Row" (28 : Nat) "ArithmeticRows$Row" "lastStart" "I" ∈ TT := TT_in (List.mem_of_getElem? (i := 102) (by decide +kernel)) rfl
theorem m_61 : Jvm.Cond.laysFinal "ArithmeticRows$Row" "ArithmeticRows$Row" "bytes" "[I" ∈ TT := TT_in (List.mem_of_getElem? (i := 103) (by decide +kernel)) rfl
theorem m_62 : Jvm.Cond.soleField "ArithmeticRows$Row" "bytes" ∈ TT := TT_in (List.mem_of_getElem? (i := 104) (by decide +kernel)) rfl
theorem m_63 : Jvm.Cond.laysFinal "ArithmeticRows$Row" "ArithmeticRows$Row" "starts" "[I" ∈ TT := TT_in (List.mem_of_getElem? (i := 105) (by decide +kernel)) rfl
theorem m_64 : Jvm.Cond.soleField "ArithmeticRows$Row" "starts" ∈ TT := TT_in (List.mem_of_getElem? (i := 106) (by decide +kernel)) rfl
theorem m_65 : Jvm.Cond.laysFinal "ArithmeticRows$Row" "ArithmeticRows$Row" "plain" "[Z" ∈ TT := TT_in (List.mem_of_getElem? (i := 107) (by decide +kernel)) rfl
theorem m_66 : Jvm.Cond.soleField "ArithmeticRows$Row" "plain" ∈ TT := TT_in (List.mem_of_getElem? (i := 108) (by decide +kernel)) rfl
theorem m_67 : Jvm.Cond.lays "ArithmeticRows$Row" "ArithmeticRows$Row" "size" "I" ∈ TT := TT_in (List.mem_of_getElem? (i := 109) (by decide +kernel)) rfl
theorem m_68 : Jvm.Cond.soleField "ArithmeticRows$Row" "size" ∈ TT := TT_in (List.mem_of_getElem? (i := 110) (by decide +kernel)) rfl
theorem m_69 : Jvm.Cond.lays "ArithmeticRows$Row" "ArithmeticRows$Row" "segments" "I" ∈ TT := TT_in (List.mem_of_getElem? (i := 111) (by decide +kernel)) rfl
theorem m_70 : Jvm.Cond.soleField "ArithmeticRows$Row" "segments" ∈ TT := TT_in (List.mem_of_getElem? (i := 112) (by decide +kernel)) rfl
theorem m_71 : Jvm.Cond.lays "ArithmeticRows$Row" "ArithmeticRows$Row" "lastStart" "I" ∈ TT := TT_in (List.mem_of_getElem? (i := 113) (by decide +kernel)) rfl
theorem m_72 : Jvm.Cond.soleField "ArithmeticRows$Row" "lastStart" ∈ TT := TT_in (List.mem_of_getElem? (i := 114) (by decide +kernel)) rfl
theorem m_73 : Jvm.Cond.superclass "ArithmeticRows$Row" "java/lang/Object" ∈ TT := TT_in (List.mem_of_getElem? (i := 115) (by decide +kernel)) rfl
theorem m_74 : Jvm.Cond.arrayClass Jvm.ClassFile.FieldType.boolean ∈ TT := TT_in (List.mem_of_getElem? (i := 116) (by decide +kernel)) rfl
theorem m_75 : Jvm.Cond.classLink "ArithmeticRows" (42 : Nat) "ArithmeticRows$Encoder" ∈ TT := TT_in (List.mem_of_getElem? (i := 117) (by decide +kernel)) rfl
theorem m_76 : Jvm.Cond.instantiable "ArithmeticRows$Encoder" (8 : Nat) ∈ TT := TT_in (List.mem_of_getElem? (i := 118) (by decide +kernel)) rfl
theorem m_77 : Jvm.Cond.methodLink "ArithmeticRows" (44 : Nat) ({ cls := "ArithmeticRows$Encoder", name := "<init>", desc := "(LArithmeticRows$Row;)V" } : Jvm.MethodName) ∈ TT := TT_in (List.mem_of_getElem? (i := 119) (by decide +kernel)) rfl
theorem m_78 : Jvm.Cond.instanceMethod ({ cls := "ArithmeticRows$Encoder", name := "<init>", desc := "(LArithmeticRows$Row;)V" } : Jvm.MethodName) ∈ TT := TT_in (List.mem_of_getElem? (i := 120) (by decide +kernel)) rfl
set_option maxRecDepth 20000 in
theorem m_79 : Jvm.Cond.code ({ cls := "ArithmeticRows$Encoder", name := "<init>", desc := "(LArithmeticRows$Row;)V" } : Jvm.MethodName) prog_3_method_1_code (2 : Nat) (Option.none : Option Jvm.ClassFile.FieldType) ∈ TT := TT_in (List.mem_of_getElem? (i := 121) rfl) rfl
theorem m_80 : Jvm.Cond.methodLink "ArithmeticRows$Encoder" (3 : Nat) ({ cls := "java/lang/Object", name := "<init>", desc := "()V" } : Jvm.MethodName) ∈ TT := TT_in (List.mem_of_getElem? (i := 122) (by decide +kernel)) rfl
theorem m_81 : Jvm.Cond.methodLink "ArithmeticRows$Encoder" (15 : Nat) ({ cls := "ArithmeticRows$Encoder", name := "begin", desc := "(Z)V" } : Jvm.MethodName) ∈ TT := TT_in (List.mem_of_getElem? (i := 123) (by decide +kernel)) rfl
theorem m_82 : Jvm.Cond.instanceMethod ({ cls := "ArithmeticRows$Encoder", name := "begin", desc := "(Z)V" } : Jvm.MethodName) ∈ TT := TT_in (List.mem_of_getElem? (i := 124) (by decide +kernel)) rfl
theorem m_83 : Jvm.Cond.selects "ArithmeticRows$Encoder" ({ cls := "ArithmeticRows$Encoder", name := "begin", desc := "(Z)V" } : Jvm.MethodName) ({ cls := "ArithmeticRows$Encoder", name := "begin", desc := "(Z)V" } : Jvm.MethodName) ∈ TT := TT_in (List.mem_of_getElem? (i := 125) (by decide +kernel)) rfl
set_option maxRecDepth 20000 in
theorem m_84 : Jvm.Cond.code ({ cls := "ArithmeticRows$Encoder", name := "begin", desc := "(Z)V" } : Jvm.MethodName) prog_3_method_2_code (2 : Nat) (Option.none : Option Jvm.ClassFile.FieldType) ∈ TT := TT_in (List.mem_of_getElem? (i := 126) rfl) rfl
theorem m_85 : Jvm.Cond.constant "ArithmeticRows$Encoder" (23 : Nat) (32768 : Int32) ∈ TT := TT_in (List.mem_of_getElem? (i := 127) (by decide +kernel)) rfl
theorem m_86 : Jvm.Cond.fieldLink "ArithmeticRows$Encoder" (9 : Nat) "ArithmeticRows$Encoder" "row" "LArithmeticRows$Row;" ∈ TT := TT_in (List.mem_of_getElem? (i := 128) (by decide +kernel)) rfl
theorem m_87 : Jvm.Cond.fieldLink "ArithmeticRows$Encoder" (19 : Nat) "ArithmeticRows$Encoder" "plain" "Z" ∈ TT := TT_in (List.mem_of_getElem? (i := 129) (by decide +kernel)) rfl
theorem m_88 : Jvm.Cond.fieldLink "ArithmeticRows$Encoder" (24 : Nat) "ArithmeticRows$Encoder" "a" "I" ∈ TT := TT_in (List.mem_of_getElem? (i := 130) (by decide +kernel)) rfl
theorem m_89 : Jvm.Cond.fieldLink "ArithmeticRows$Encoder" (28 : Nat) "ArithmeticRows$Encoder" "c" "I" ∈ TT := TT_in (List.mem_of_getElem? (i := 131) (by decide +kernel)) rfl
theorem m_90 : Jvm.Cond.fieldLink "ArithmeticRows$Encoder" (31 : Nat) "ArithmeticRows$Encoder" "t" "I" ∈ TT := TT_in (List.mem_of_getElem? (i := 132) (by decide +kernel)) rfl
theorem m_91 : Jvm.Cond.fieldLink "ArithmeticRows$Encoder" (34 : Nat) "ArithmeticRows$Encoder" "begun" "I" ∈ TT := TT_in (List.mem_of_getElem? (i := 133) (by decide +kernel)) rfl
theorem m_92 : Jvm.Cond.fieldLink "ArithmeticRows$Encoder" (37 : Nat) "ArithmeticRows$Encoder" "begunBits" "I" ∈ TT := TT_in (List.mem_of_getElem? (i := 134) (by decide +kernel)) rfl
theorem m_93 : Jvm.Cond.fieldLink "ArithmeticRows$Encoder" (40 : Nat) "ArithmeticRows$Encoder" "roomForBits" "I" ∈ TT := TT_in (List.mem_of_getElem? (i := 135) (by decide +kernel)) rfl
theorem m_94 : Jvm.Cond.laysFinal "ArithmeticRows$Encoder" "ArithmeticRows$Encoder" "row" "LArithmeticRows$Row;" ∈ TT := TT_in (List.mem_of_getElem? (i := 136) (by decide +kernel)) rfl
theorem m_95 : Jvm.Cond.soleField "ArithmeticRows$Encoder" "row" ∈ TT := TT_in (List.mem_of_getElem? (i := 137) (by decide +kernel)) rfl
theorem m_96 : Jvm.Cond.lays "ArithmeticRows$Encoder" "ArithmeticRows$Encoder" "plain" "Z" ∈ TT := TT_in (List.mem_of_getElem? (i := 138) (by decide +kernel)) rfl
theorem m_97 : Jvm.Cond.soleField "ArithmeticRows$Encoder" "plain" ∈ TT := TT_in (List.mem_of_getElem? (i := 139) (by decide +kernel)) rfl
theorem m_98 : Jvm.Cond.lays "ArithmeticRows$Encoder" "ArithmeticRows$Encoder" "a" "I" ∈ TT := TT_in (List.mem_of_getElem? (i := 140) (by decide +kernel)) rfl
theorem m_99 : Jvm.Cond.soleField "ArithmeticRows$Encoder" "a" ∈ TT := TT_in (List.mem_of_getElem? (i := 141) (by decide +kernel)) rfl
theorem m_100 : Jvm.Cond.lays "ArithmeticRows$Encoder" "ArithmeticRows$Encoder" "c" "I" ∈ TT := TT_in (List.mem_of_getElem? (i := 142) (by decide +kernel)) rfl
theorem m_101 : Jvm.Cond.soleField "ArithmeticRows$Encoder" "c" ∈ TT := TT_in (List.mem_of_getElem? (i := 143) (by decide +kernel)) rfl
theorem m_102 : Jvm.Cond.lays "ArithmeticRows$Encoder" "ArithmeticRows$Encoder" "t" "I" ∈ TT := TT_in (List.mem_of_getElem? (i := 144) (by decide +kernel)) rfl
theorem m_103 : Jvm.Cond.soleField "ArithmeticRows$Encoder" "t" ∈ TT := TT_in (List.mem_of_getElem? (i := 145) (by decide +kernel)) rfl
theorem m_104 : Jvm.Cond.lays "ArithmeticRows$Encoder" "ArithmeticRows$Encoder" "begun" "I" ∈ TT := TT_in (List.mem_of_getElem? (i := 146) (by decide +kernel)) rfl
theorem m_105 : Jvm.Cond.soleField "ArithmeticRows$Encoder" "begun" ∈ TT := TT_in (List.mem_of_getElem? (i := 147) (by decide +kernel)) rfl
theorem m_106 : Jvm.Cond.lays "ArithmeticRows$Encoder" "ArithmeticRows$Encoder" "begunBits" "I" ∈ TT := TT_in (List.mem_of_getElem? (i := 148) (by decide +kernel)) rfl
theorem m_107 : Jvm.Cond.soleField "ArithmeticRows$Encoder" "begunBits" ∈ TT := TT_in (List.mem_of_getElem? (i := 149) (by decide +kernel)) rfl
theorem m_108 : Jvm.Cond.lays "ArithmeticRows$Encoder" "ArithmeticRows$Encoder" "roomForBits" "I" ∈ TT := TT_in (List.mem_of_getElem? (i := 150) (by decide +kernel)) rfl
theorem m_109 : Jvm.Cond.soleField "ArithmeticRows$Encoder" "roomForBits" ∈ TT := TT_in (List.mem_of_getElem? (i := 151) (by decide +kernel)) rfl
theorem m_110 : Jvm.Cond.superclass "ArithmeticRows$Encoder" "java/lang/Object" ∈ TT := TT_in (List.mem_of_getElem? (i := 152) (by decide +kernel)) rfl
theorem m_111 : Jvm.Cond.classLink "ArithmeticRows" (51 : Nat) "ArithmeticRows$Decoder" ∈ TT := TT_in (List.mem_of_getElem? (i := 153) (by decide +kernel)) rfl
theorem m_112 : Jvm.Cond.instantiable "ArithmeticRows$Decoder" (11 : Nat) ∈ TT := TT_in (List.mem_of_getElem? (i := 154) (by decide +kernel)) rfl
theorem m_113 : Jvm.Cond.methodLink "ArithmeticRows" (53 : Nat) ({ cls := "ArithmeticRows$Decoder", name := "<init>", desc := "(LArithmeticRows$Row;)V" } : Jvm.MethodName) ∈ TT := TT_in (List.mem_of_getElem? (i := 155) (by decide +kernel)) rfl
theorem m_114 : Jvm.Cond.instanceMethod ({ cls := "ArithmeticRows$Decoder", name := "<init>", desc := "(LArithmeticRows$Row;)V" } : Jvm.MethodName) ∈ TT := TT_in (List.mem_of_getElem? (i := 156) (by decide +kernel)) rfl
set_option maxRecDepth 20000 in
theorem m_115 : Jvm.Cond.code ({ cls := "ArithmeticRows$Decoder", name := "<init>", desc := "(LArithmeticRows$Row;)V" } : Jvm.MethodName) prog_2_method_1_code (2 : Nat) (Option.none : Option Jvm.ClassFile.FieldType) ∈ TT := TT_in (List.mem_of_getElem? (i := 157) rfl) rfl
theorem m_116 : Jvm.Cond.methodLink "ArithmeticRows$Decoder" (3 : Nat) ({ cls := "java/lang/Object", name := "<init>", desc := "()V" } : Jvm.MethodName) ∈ TT := TT_in (List.mem_of_getElem? (i := 158) (by decide +kernel)) rfl
theorem m_117 : Jvm.Cond.fieldLink "ArithmeticRows$Decoder" (9 : Nat) "ArithmeticRows$Decoder" "row" "LArithmeticRows$Row;" ∈ TT := TT_in (List.mem_of_getElem? (i := 159) (by decide +kernel)) rfl
theorem m_118 : Jvm.Cond.fieldLink "ArithmeticRows$Decoder" (15 : Nat) "ArithmeticRows$Decoder" "segment" "I" ∈ TT := TT_in (List.mem_of_getElem? (i := 160) (by decide +kernel)) rfl
theorem m_119 : Jvm.Cond.fieldLink "ArithmeticRows$Decoder" (19 : Nat) "ArithmeticRows$Decoder" "plain" "Z" ∈ TT := TT_in (List.mem_of_getElem? (i := 161) (by decide +kernel)) rfl
theorem m_120 : Jvm.Cond.fieldLink "ArithmeticRows$Decoder" (23 : Nat) "ArithmeticRows$Decoder" "started" "Z" ∈ TT := TT_in (List.mem_of_getElem? (i := 162) (by decide +kernel)) rfl
theorem m_121 : Jvm.Cond.fieldLink "ArithmeticRows$Decoder" (49 : Nat) "ArithmeticRows$Decoder" "end" "I" ∈ TT := TT_in (List.mem_of_getElem? (i := 163) (by decide +kernel)) rfl
theorem m_122 : Jvm.Cond.fieldLink "ArithmeticRows$Decoder" (46 : Nat) "ArithmeticRows$Decoder" "position" "I" ∈ TT := TT_in (List.mem_of_getElem? (i := 164) (by decide +kernel)) rfl
theorem m_123 : Jvm.Cond.fieldLink "ArithmeticRows$Decoder" (26 : Nat) "ArithmeticRows$Decoder" "latest" "I" ∈ TT := TT_in (List.mem_of_getElem? (i := 165) (by decide +kernel)) rfl
theorem m_124 : Jvm.Cond.fieldLink "ArithmeticRows$Decoder" (88 : Nat) "ArithmeticRows$Decoder" "a" "I" ∈ TT := TT_in (List.mem_of_getElem? (i := 166) (by decide +kernel)) rfl
theorem m_125 : Jvm.Cond.fieldLink "ArithmeticRows$Decoder" (78 : Nat) "ArithmeticRows$Decoder" "c" "I" ∈ TT := TT_in (List.mem_of_getElem? (i := 167) (by decide +kernel)) rfl
theorem m_126 : Jvm.Cond.fieldLink "ArithmeticRows$Decoder" (84 : Nat) "ArithmeticRows$Decoder" "t" "I" ∈ TT := TT_in (List.mem_of_getElem? (i := 168) (by decide +kernel)) rfl
theorem m_127 : Jvm.Cond.fieldLink "ArithmeticRows$Decoder" (35 : Nat) "ArithmeticRows$Decoder" "bitsLeft" "I" ∈ TT := TT_in (List.mem_of_getElem? (i := 169) (by decide +kernel)) rfl
theorem m_128 : Jvm.Cond.laysFinal "ArithmeticRows$Decoder" "ArithmeticRows$Decoder" "row" "LArithmeticRows$Row;" ∈ TT := TT_in (List.mem_of_getElem? (i := 170) (by decide +kernel)) rfl
theorem m_129 : Jvm.Cond.soleField "ArithmeticRows$Decoder" "row" ∈ TT := TT_in (List.mem_of_getElem? (i := 171) (by decide +kernel)) rfl
theorem m_130 : Jvm.Cond.lays "ArithmeticRows$Decoder" "ArithmeticRows$Decoder" "segment" "I" ∈ TT := TT_in (List.mem_of_getElem? (i := 172) (by decide +kernel)) rfl
theorem m_131 : Jvm.Cond.soleField "ArithmeticRows$Decoder" "segment" ∈ TT := TT_in (List.mem_of_getElem? (i := 173) (by decide +kernel)) rfl
theorem m_132 : Jvm.Cond.lays "ArithmeticRows$Decoder" "ArithmeticRows$Decoder" "plain" "Z" ∈ TT := TT_in (List.mem_of_getElem? (i := 174) (by decide +kernel)) rfl
theorem m_133 : Jvm.Cond.soleField "ArithmeticRows$Decoder" "plain" ∈ TT := TT_in (List.mem_of_getElem? (i := 175) (by decide +kernel)) rfl
theorem m_134 : Jvm.Cond.lays "ArithmeticRows$Decoder" "ArithmeticRows$Decoder" "started" "Z" ∈ TT := TT_in (List.mem_of_getElem? (i := 176) (by decide +kernel)) rfl
theorem m_135 : Jvm.Cond.soleField "ArithmeticRows$Decoder" "started" ∈ TT := TT_in (List.mem_of_getElem? (i := 177) (by decide +kernel)) rfl
theorem m_136 : Jvm.Cond.lays "ArithmeticRows$Decoder" "ArithmeticRows$Decoder" "end" "I" ∈ TT := TT_in (List.mem_of_getElem? (i := 178) (by decide +kernel)) rfl
theorem m_137 : Jvm.Cond.soleField "ArithmeticRows$Decoder" "end" ∈ TT := TT_in (List.mem_of_getElem? (i := 179) (by decide +kernel)) rfl
theorem m_138 : Jvm.Cond.lays "ArithmeticRows$Decoder" "ArithmeticRows$Decoder" "position" "I" ∈ TT := TT_in (List.mem_of_getElem? (i := 180) (by decide +kernel)) rfl
theorem m_139 : Jvm.Cond.soleField "ArithmeticRows$Decoder" "position" ∈ TT := TT_in (List.mem_of_getElem? (i := 181) (by decide +kernel)) rfl
theorem m_140 : Jvm.Cond.lays "ArithmeticRows$Decoder" "ArithmeticRows$Decoder" "latest" "I" ∈ TT := TT_in (List.mem_of_getElem? (i := 182) (by decide +kernel)) rfl
theorem m_141 : Jvm.Cond.soleField "ArithmeticRows$Decoder" "latest" ∈ TT := TT_in (List.mem_of_getElem? (i := 183) (by decide +kernel)) rfl
theorem m_142 : Jvm.Cond.lays "ArithmeticRows$Decoder" "ArithmeticRows$Decoder" "a" "I" ∈ TT := TT_in (List.mem_of_getElem? (i := 184) (by decide +kernel)) rfl
theorem m_143 : Jvm.Cond.soleField "ArithmeticRows$Decoder" "a" ∈ TT := TT_in (List.mem_of_getElem? (i := 185) (by decide +kernel)) rfl
theorem m_144 : Jvm.Cond.lays "ArithmeticRows$Decoder" "ArithmeticRows$Decoder" "c" "I" ∈ TT := TT_in (List.mem_of_getElem? (i := 186) (by decide +kernel)) rfl
theorem m_145 : Jvm.Cond.soleField "ArithmeticRows$Decoder" "c" ∈ TT := TT_in (List.mem_of_getElem? (i := 187) (by decide +kernel)) rfl
theorem m_146 : Jvm.Cond.lays "ArithmeticRows$Decoder" "ArithmeticRows$Decoder" "t" "I" ∈ TT := TT_in (List.mem_of_getElem? (i := 188) (by decide +kernel)) rfl
theorem m_147 : Jvm.Cond.soleField "ArithmeticRows$Decoder" "t" ∈ TT := TT_in (List.mem_of_getElem? (i := 189) (by decide +kernel)) rfl
theorem m_148 : Jvm.Cond.lays "ArithmeticRows$Decoder" "ArithmeticRows$Decoder" "bitsLeft" "I" ∈ TT := TT_in (List.mem_of_getElem? (i := 190) (by decide +kernel)) rfl
theorem m_149 : Jvm.Cond.soleField "ArithmeticRows$Decoder" "bitsLeft" ∈ TT := TT_in (List.mem_of_getElem? (i := 191) (by decide +kernel)) rfl
theorem m_150 : Jvm.Cond.superclass "ArithmeticRows$Decoder" "java/lang/Object" ∈ TT := TT_in (List.mem_of_getElem? (i := 192) (by decide +kernel)) rfl
theorem m_151 : Jvm.Cond.fieldLink "ArithmeticRows" (19 : Nat) "ArithmeticRows" "contexts" "I" ∈ TT := TT_in (List.mem_of_getElem? (i := 193) (by decide +kernel)) rfl
theorem m_152 : Jvm.Cond.fieldLink "ArithmeticRows" (28 : Nat) "ArithmeticRows" "encoderSide" "LArithmeticRows$Side;" ∈ TT := TT_in (List.mem_of_getElem? (i := 194) (by decide +kernel)) rfl
theorem m_153 : Jvm.Cond.fieldLink "ArithmeticRows" (32 : Nat) "ArithmeticRows" "decoderSide" "LArithmeticRows$Side;" ∈ TT := TT_in (List.mem_of_getElem? (i := 195) (by decide +kernel)) rfl
theorem m_154 : Jvm.Cond.fieldLink "ArithmeticRows" (38 : Nat) "ArithmeticRows" "row" "LArithmeticRows$Row;" ∈ TT := TT_in (List.mem_of_getElem? (i := 196) (by decide +kernel)) rfl
theorem m_155 : Jvm.Cond.fieldLink "ArithmeticRows" (47 : Nat) "ArithmeticRows" "encoder" "LArithmeticRows$Encoder;" ∈ TT := TT_in (List.mem_of_getElem? (i := 197) (by decide +kernel)) rfl
theorem m_156 : Jvm.Cond.fieldLink "ArithmeticRows" (54 : Nat) "ArithmeticRows" "decoder" "LArithmeticRows$Decoder;" ∈ TT := TT_in (List.mem_of_getElem? (i := 198) (by decide +kernel)) rfl
theorem m_157 : Jvm.Cond.fieldLink "ArithmeticRows" (58 : Nat) "ArithmeticRows" "kept" "[I" ∈ TT := TT_in (List.mem_of_getElem? (i := 199) (by decide +kernel)) rfl
theorem m_158 : Jvm.Cond.fieldLink "ArithmeticRows" (62 : Nat) "ArithmeticRows" "keptCount" "I" ∈ TT := TT_in (List.mem_of_getElem? (i := 200) (by decide +kernel)) rfl
theorem m_159 : Jvm.Cond.fieldLink "ArithmeticRows" (65 : Nat) "ArithmeticRows" "decoding" "Z" ∈ TT := TT_in (List.mem_of_getElem? (i := 201) (by decide +kernel)) rfl
theorem m_160 : Jvm.Cond.fieldLink "ArithmeticRows" (69 : Nat) "ArithmeticRows" "path" "I" ∈ TT := TT_in (List.mem_of_getElem? (i := 202) (by decide +kernel)) rfl
theorem m_161 : Jvm.Cond.laysFinal "ArithmeticRows" "ArithmeticRows" "contexts" "I" ∈ TT := TT_in (List.mem_of_getElem? (i := 203) (by decide +kernel)) rfl
theorem m_162 : Jvm.Cond.soleField "ArithmeticRows" "contexts" ∈ TT := TT_in (List.mem_of_getElem? (i := 204) (by decide +kernel)) rfl
theorem m_163 : Jvm.Cond.laysFinal "ArithmeticRows" "ArithmeticRows" "encoderSide" "LArithmeticRows$Side;" ∈ TT := TT_in (List.mem_of_getElem? (i := 205) (by decide +kernel)) rfl
theorem m_164 : Jvm.Cond.soleField "ArithmeticRows" "encoderSide" ∈ TT := TT_in (List.mem_of_getElem? (i := 206) (by decide +kernel)) rfl
theorem m_165 : Jvm.Cond.laysFinal "ArithmeticRows" "ArithmeticRows" "decoderSide" "LArithmeticRows$Side;" ∈ TT := TT_in (List.mem_of_getElem? (i := 207) (by decide +kernel)) rfl
theorem m_166 : Jvm.Cond.soleField "ArithmeticRows" "decoderSide" ∈ TT := TT_in (List.mem_of_getElem? (i := 208) (by decide +kernel)) rfl
theorem m_167 : Jvm.Cond.laysFinal "ArithmeticRows" "ArithmeticRows" "row" "LArithmeticRows$Row;" ∈ TT := TT_in (List.mem_of_getElem? (i := 209) (by decide +kernel)) rfl
theorem m_168 : Jvm.Cond.soleField "ArithmeticRows" "row" ∈ TT := TT_in (List.mem_of_getElem? (i := 210) (by decide +kernel)) rfl
theorem m_169 : Jvm.Cond.laysFinal "ArithmeticRows" "ArithmeticRows" "encoder" "LArithmeticRows$Encoder;" ∈ TT := TT_in (List.mem_of_getElem? (i := 211) (by decide +kernel)) rfl
theorem m_170 : Jvm.Cond.soleField "ArithmeticRows" "encoder" ∈ TT := TT_in (List.mem_of_getElem? (i := 212) (by decide +kernel)) rfl
theorem m_171 : Jvm.Cond.laysFinal "ArithmeticRows" "ArithmeticRows" "decoder" "LArithmeticRows$Decoder;" ∈ TT := TT_in (List.mem_of_getElem? (i := 213) (by decide +kernel)) rfl
theorem m_172 : Jvm.Cond.soleField "ArithmeticRows" "decoder" ∈ TT := TT_in (List.mem_of_getElem? (i := 214) (by decide +kernel)) rfl
theorem m_173 : Jvm.Cond.laysFinal "ArithmeticRows" "ArithmeticRows" "kept" "[I" ∈ TT := TT_in (List.mem_of_getElem? (i := 215) (by decide +kernel)) rfl
theorem m_174 : Jvm.Cond.soleField "ArithmeticRows" "kept" ∈ TT := TT_in (List.mem_of_getElem? (i := 216) (by decide +kernel)) rfl
theorem m_175 : Jvm.Cond.lays "ArithmeticRows" "ArithmeticRows" "keptCount" "I" ∈ TT := TT_in (List.mem_of_getElem? (i := 217) (by decide +kernel)) rfl
theorem m_176 : Jvm.Cond.soleField "ArithmeticRows" "keptCount" ∈ TT := TT_in (List.mem_of_getElem? (i := 218) (by decide +kernel)) rfl
theorem m_177 : Jvm.Cond.lays "ArithmeticRows" "ArithmeticRows" "decoding" "Z" ∈ TT := TT_in (List.mem_of_getElem? (i := 219) (by decide +kernel)) rfl
theorem m_178 : Jvm.Cond.soleField "ArithmeticRows" "decoding" ∈ TT := TT_in (List.mem_of_getElem? (i := 220) (by decide +kernel)) rfl
theorem m_179 : Jvm.Cond.lays "ArithmeticRows" "ArithmeticRows" "path" "I" ∈ TT := TT_in (List.mem_of_getElem? (i := 221) (by decide +kernel)) rfl
theorem m_180 : Jvm.Cond.soleField "ArithmeticRows" "path" ∈ TT := TT_in (List.mem_of_getElem? (i := 222) (by decide +kernel)) rfl
theorem m_181 : Jvm.Cond.superclass "ArithmeticRows" "java/lang/Object" ∈ TT := TT_in (List.mem_of_getElem? (i := 223) (by decide +kernel)) rfl
theorem m_182 : Jvm.Cond.methodLink "ArithmeticRowsLaw" (91 : Nat) ({ cls := "ArithmeticRows", name := "back", desc := "(I)Z" } : Jvm.MethodName) ∈ TT := TT_in (List.mem_of_getElem? (i := 224) (by decide +kernel)) rfl
theorem m_183 : Jvm.Cond.instanceMethod ({ cls := "ArithmeticRows", name := "back", desc := "(I)Z" } : Jvm.MethodName) ∈ TT := TT_in (List.mem_of_getElem? (i := 225) (by decide +kernel)) rfl
theorem m_184 : Jvm.Cond.selects "ArithmeticRows" ({ cls := "ArithmeticRows", name := "back", desc := "(I)Z" } : Jvm.MethodName) ({ cls := "ArithmeticRows", name := "back", desc := "(I)Z" } : Jvm.MethodName) ∈ TT := TT_in (List.mem_of_getElem? (i := 226) (by decide +kernel)) rfl
set_option maxRecDepth 20000 in
theorem m_185 : Jvm.Cond.code ({ cls := "ArithmeticRows", name := "back", desc := "(I)Z" } : Jvm.MethodName) prog_1_method_11_code (2 : Nat) (Option.some Jvm.ClassFile.FieldType.boolean) ∈ TT := TT_in (List.mem_of_getElem? (i := 227) rfl) rfl
theorem m_186 : Jvm.Cond.methodLink "ArithmeticRows" (168 : Nat) ({ cls := "ArithmeticRows", name := "sideAtWork", desc := "()LArithmeticRows$Side;" } : Jvm.MethodName) ∈ TT := TT_in (List.mem_of_getElem? (i := 228) (by decide +kernel)) rfl
theorem m_187 : Jvm.Cond.privateMethod ({ cls := "ArithmeticRows", name := "sideAtWork", desc := "()LArithmeticRows$Side;" } : Jvm.MethodName) ∈ lw_tbl := List.mem_of_getElem? (i := 229) (by decide +kernel)
theorem m_188 : Jvm.Cond.instanceMethod ({ cls := "ArithmeticRows", name := "sideAtWork", desc := "()LArithmeticRows$Side;" } : Jvm.MethodName) ∈ TT := TT_in (List.mem_of_getElem? (i := 230) (by decide +kernel)) rfl
set_option maxRecDepth 20000 in
theorem m_189 : Jvm.Cond.code ({ cls := "ArithmeticRows", name := "sideAtWork", desc := "()LArithmeticRows$Side;" } : Jvm.MethodName) prog_1_method_19_code (1 : Nat) (Option.some (Jvm.ClassFile.FieldType.object "ArithmeticRows$Side")) ∈ TT := TT_in (List.mem_of_getElem? (i := 231) rfl) rfl
theorem m_190 : Jvm.Cond.methodLink "ArithmeticRows" (172 : Nat) ({ cls := "java/lang/System", name := "arraycopy", desc := "(Ljava/lang/Object;ILjava/lang/Object;II)V" } : Jvm.MethodName) ∈ TT := TT_in (List.mem_of_getElem? (i := 232) (by decide +kernel)) rfl
theorem m_191 : Jvm.Cond.static ({ cls := "java/lang/System", name := "arraycopy", desc := "(Ljava/lang/Object;ILjava/lang/Object;II)V" } : Jvm.MethodName) ∈ TT := TT_in (List.mem_of_getElem? (i := 233) (by decide +kernel)) rfl
theorem m_192 : Jvm.Cond.native ({ cls := "java/lang/System", name := "arraycopy", desc := "(Ljava/lang/Object;ILjava/lang/Object;II)V" } : Jvm.MethodName) ∈ TT := TT_in (List.mem_of_getElem? (i := 234) (by decide +kernel)) rfl
theorem m_193 : Jvm.Cond.methodLink "ArithmeticRowsLaw" (95 : Nat) ({ cls := "ArithmeticRows", name := "raw", desc := "(Z)Z" } : Jvm.MethodName) ∈ TT := TT_in (List.mem_of_getElem? (i := 235) (by decide +kernel)) rfl
theorem m_194 : Jvm.Cond.instanceMethod ({ cls := "ArithmeticRows", name := "raw", desc := "(Z)Z" } : Jvm.MethodName) ∈ TT := TT_in (List.mem_of_getElem? (i := 236) (by decide +kernel)) rfl
theorem m_195 : Jvm.Cond.selects "ArithmeticRows" ({ cls := "ArithmeticRows", name := "raw", desc := "(Z)Z" } : Jvm.MethodName) ({ cls := "ArithmeticRows", name := "raw", desc := "(Z)Z" } : Jvm.MethodName) ∈ TT := TT_in (List.mem_of_getElem? (i := 237) (by decide +kernel)) rfl
set_option maxRecDepth 20000 in
theorem m_196 : Jvm.Cond.code ({ cls := "ArithmeticRows", name := "raw", desc := "(Z)Z" } : Jvm.MethodName) prog_1_method_12_code (2 : Nat) (Option.some Jvm.ClassFile.FieldType.boolean) ∈ TT := TT_in (List.mem_of_getElem? (i := 238) rfl) rfl
theorem m_197 : Jvm.Cond.methodLink "ArithmeticRows" (178 : Nat) ({ cls := "ArithmeticRows$Decoder", name := "goOn", desc := "(Z)Z" } : Jvm.MethodName) ∈ TT := TT_in (List.mem_of_getElem? (i := 239) (by decide +kernel)) rfl
theorem m_198 : Jvm.Cond.instanceMethod ({ cls := "ArithmeticRows$Decoder", name := "goOn", desc := "(Z)Z" } : Jvm.MethodName) ∈ TT := TT_in (List.mem_of_getElem? (i := 240) (by decide +kernel)) rfl
theorem m_199 : Jvm.Cond.selects "ArithmeticRows$Decoder" ({ cls := "ArithmeticRows$Decoder", name := "goOn", desc := "(Z)Z" } : Jvm.MethodName) ({ cls := "ArithmeticRows$Decoder", name := "goOn", desc := "(Z)Z" } : Jvm.MethodName) ∈ TT := TT_in (List.mem_of_getElem? (i := 241) (by decide +kernel)) rfl
set_option maxRecDepth 20000 in
theorem m_200 : Jvm.Cond.code ({ cls := "ArithmeticRows$Decoder", name := "goOn", desc := "(Z)Z" } : Jvm.MethodName) prog_2_method_3_code (3 : Nat) (Option.some Jvm.ClassFile.FieldType.boolean) ∈ TT := TT_in (List.mem_of_getElem? (i := 242) rfl) rfl
theorem m_201 : Jvm.Cond.methodLink "ArithmeticRows$Decoder" (38 : Nat) ({ cls := "ArithmeticRows$Row", name := "segmentCount", desc := "()I" } : Jvm.MethodName) ∈ TT := TT_in (List.mem_of_getElem? (i := 243) (by decide +kernel)) rfl
theorem m_202 : Jvm.Cond.instanceMethod ({ cls := "ArithmeticRows$Row", name := "segmentCount", desc := "()I" } : Jvm.MethodName) ∈ TT := TT_in (List.mem_of_getElem? (i := 244) (by decide +kernel)) rfl
theorem m_203 : Jvm.Cond.selects "ArithmeticRows$Row" ({ cls := "ArithmeticRows$Row", name := "segmentCount", desc := "()I" } : Jvm.MethodName) ({ cls := "ArithmeticRows$Row", name := "segmentCount", desc := "()I" } : Jvm.MethodName) ∈ TT := TT_in (List.mem_of_getElem? (i := 245) (by decide +kernel)) rfl
set_option maxRecDepth 20000 in
theorem m_204 : Jvm.Cond.code ({ cls := "ArithmeticRows$Row", name := "segmentCount", desc := "()I" } : Jvm.MethodName) prog_4_method_4_code (1 : Nat) (Option.some Jvm.ClassFile.FieldType.int) ∈ TT := TT_in (List.mem_of_getElem? (i := 246) rfl) rfl
theorem m_205 : Jvm.Cond.methodLink "ArithmeticRows$Decoder" (29 : Nat) ({ cls := "ArithmeticRows$Row", name := "isPlain", desc := "(I)Z" } : Jvm.MethodName) ∈ TT := TT_in (List.mem_of_getElem? (i := 247) (by decide +kernel)) rfl
theorem m_206 : Jvm.Cond.instanceMethod ({ cls := "ArithmeticRows$Row", name := "isPlain", desc := "(I)Z" } : Jvm.MethodName) ∈ TT := TT_in (List.mem_of_getElem? (i := 248) (by decide +kernel)) rfl
theorem m_207 : Jvm.Cond.selects "ArithmeticRows$Row" ({ cls := "ArithmeticRows$Row", name := "isPlain", desc := "(I)Z" } : Jvm.MethodName) ({ cls := "ArithmeticRows$Row", name := "isPlain", desc := "(I)Z" } : Jvm.MethodName) ∈ TT := TT_in (List.mem_of_getElem? (i := 249) (by decide +kernel)) rfl
set_option maxRecDepth 20000 in
theorem m_208 : Jvm.Cond.code ({ cls := "ArithmeticRows$Row", name := "isPlain", desc := "(I)Z" } : Jvm.MethodName) prog_4_method_6_code (2 : Nat) (Option.some Jvm.ClassFile.FieldType.boolean) ∈ TT := TT_in (List.mem_of_getElem? (i := 250) rfl) rfl
theorem m_209 : Jvm.Cond.methodLink "ArithmeticRows$Row" (31 : Nat) ({ cls := "ArithmeticRows$Row", name := "has", desc := "(I)Z" } : Jvm.MethodName) ∈ TT := TT_in (List.mem_of_getElem? (i := 251) (by decide +kernel)) rfl
theorem m_210 : Jvm.Cond.privateMethod ({ cls := "ArithmeticRows$Row", name := "has", desc := "(I)Z" } : Jvm.MethodName) ∈ lw_tbl := List.mem_of_getElem? (i := 252) (by decide +kernel)
theorem m_211 : Jvm.Cond.instanceMethod ({ cls := "ArithmeticRows$Row", name := "has", desc := "(I)Z" } : Jvm.MethodName) ∈ TT := TT_in (List.mem_of_getElem? (i := 253) (by decide +kernel)) rfl
set_option maxRecDepth 20000 in
theorem m_212 : Jvm.Cond.code ({ cls := "ArithmeticRows$Row", name := "has", desc := "(I)Z" } : Jvm.MethodName) prog_4_method_5_code (2 : Nat) (Option.some Jvm.ClassFile.FieldType.boolean) ∈ TT := TT_in (List.mem_of_getElem? (i := 254) rfl) rfl
theorem m_213 : Jvm.Cond.methodLink "ArithmeticRows$Decoder" (42 : Nat) ({ cls := "ArithmeticRows$Decoder", name := "open", desc := "(I)V" } : Jvm.MethodName) ∈ TT := TT_in (List.mem_of_getElem? (i := 255) (by decide +kernel)) rfl
theorem m_214 : Jvm.Cond.instanceMethod ({ cls := "ArithmeticRows$Decoder", name := "open", desc := "(I)V" } : Jvm.MethodName) ∈ TT := TT_in (List.mem_of_getElem? (i := 256) (by decide +kernel)) rfl
theorem m_215 : Jvm.Cond.selects "ArithmeticRows$Decoder" ({ cls := "ArithmeticRows$Decoder", name := "open", desc := "(I)V" } : Jvm.MethodName) ({ cls := "ArithmeticRows$Decoder", name := "open", desc := "(I)V" } : Jvm.MethodName) ∈ TT := TT_in (List.mem_of_getElem? (i := 257) (by decide +kernel)) rfl
set_option maxRecDepth 20000 in
theorem m_216 : Jvm.Cond.code ({ cls := "ArithmeticRows$Decoder", name := "open", desc := "(I)V" } : Jvm.MethodName) prog_2_method_2_code (2 : Nat) (Option.none : Option Jvm.ClassFile.FieldType) ∈ TT := TT_in (List.mem_of_getElem? (i := 258) rfl) rfl
theorem m_217 : Jvm.Cond.methodLink "ArithmeticRows" (182 : Nat) ({ cls := "ArithmeticRows$Encoder", name := "turn", desc := "(Z)Z" } : Jvm.MethodName) ∈ TT := TT_in (List.mem_of_getElem? (i := 259) (by decide +kernel)) rfl
theorem m_218 : Jvm.Cond.instanceMethod ({ cls := "ArithmeticRows$Encoder", name := "turn", desc := "(Z)Z" } : Jvm.MethodName) ∈ TT := TT_in (List.mem_of_getElem? (i := 260) (by decide +kernel)) rfl
theorem m_219 : Jvm.Cond.selects "ArithmeticRows$Encoder" ({ cls := "ArithmeticRows$Encoder", name := "turn", desc := "(Z)Z" } : Jvm.MethodName) ({ cls := "ArithmeticRows$Encoder", name := "turn", desc := "(Z)Z" } : Jvm.MethodName) ∈ TT := TT_in (List.mem_of_getElem? (i := 261) (by decide +kernel)) rfl
set_option maxRecDepth 20000 in
theorem m_220 : Jvm.Cond.code ({ cls := "ArithmeticRows$Encoder", name := "turn", desc := "(Z)Z" } : Jvm.MethodName) prog_3_method_3_code (2 : Nat) (Option.some Jvm.ClassFile.FieldType.boolean) ∈ TT := TT_in (List.mem_of_getElem? (i := 262) rfl) rfl
theorem m_221 : Jvm.Cond.methodLink "ArithmeticRows$Encoder" (43 : Nat) ({ cls := "ArithmeticRows$Encoder", name := "endSegment", desc := "()V" } : Jvm.MethodName) ∈ TT := TT_in (List.mem_of_getElem? (i := 263) (by decide +kernel)) rfl
theorem m_222 : Jvm.Cond.instanceMethod ({ cls := "ArithmeticRows$Encoder", name := "endSegment", desc := "()V" } : Jvm.MethodName) ∈ TT := TT_in (List.mem_of_getElem? (i := 264) (by decide +kernel)) rfl
theorem m_223 : Jvm.Cond.selects "ArithmeticRows$Encoder" ({ cls := "ArithmeticRows$Encoder", name := "endSegment", desc := "()V" } : Jvm.MethodName) ({ cls := "ArithmeticRows$Encoder", name := "endSegment", desc := "()V" } : Jvm.MethodName) ∈ TT := TT_in (List.mem_of_getElem? (i := 265) (by decide +kernel)) rfl
set_option maxRecDepth 20000 in
theorem m_224 : Jvm.Cond.code ({ cls := "ArithmeticRows$Encoder", name := "endSegment", desc := "()V" } : Jvm.MethodName) prog_3_method_5_code (1 : Nat) (Option.none : Option Jvm.ClassFile.FieldType) ∈ TT := TT_in (List.mem_of_getElem? (i := 266) rfl) rfl
theorem m_225 : Jvm.Cond.methodLink "ArithmeticRows$Encoder" (59 : Nat) ({ cls := "ArithmeticRows$Encoder", name := "fillByte", desc := "()V" } : Jvm.MethodName) ∈ TT := TT_in (List.mem_of_getElem? (i := 267) (by decide +kernel)) rfl
theorem m_226 : Jvm.Cond.privateMethod ({ cls := "ArithmeticRows$Encoder", name := "fillByte", desc := "()V" } : Jvm.MethodName) ∈ lw_tbl := List.mem_of_getElem? (i := 268) (by decide +kernel)
theorem m_227 : Jvm.Cond.instanceMethod ({ cls := "ArithmeticRows$Encoder", name := "fillByte", desc := "()V" } : Jvm.MethodName) ∈ TT := TT_in (List.mem_of_getElem? (i := 269) (by decide +kernel)) rfl
set_option maxRecDepth 20000 in
theorem m_228 : Jvm.Cond.code ({ cls := "ArithmeticRows$Encoder", name := "fillByte", desc := "()V" } : Jvm.MethodName) prog_3_method_11_code (2 : Nat) (Option.none : Option Jvm.ClassFile.FieldType) ∈ TT := TT_in (List.mem_of_getElem? (i := 270) rfl) rfl
theorem m_229 : Jvm.Cond.methodLink "ArithmeticRows$Encoder" (51 : Nat) ({ cls := "ArithmeticRows$Encoder", name := "putPlain", desc := "(I)V" } : Jvm.MethodName) ∈ TT := TT_in (List.mem_of_getElem? (i := 271) (by decide +kernel)) rfl
theorem m_230 : Jvm.Cond.privateMethod ({ cls := "ArithmeticRows$Encoder", name := "putPlain", desc := "(I)V" } : Jvm.MethodName) ∈ lw_tbl := List.mem_of_getElem? (i := 272) (by decide +kernel)
theorem m_231 : Jvm.Cond.instanceMethod ({ cls := "ArithmeticRows$Encoder", name := "putPlain", desc := "(I)V" } : Jvm.MethodName) ∈ TT := TT_in (List.mem_of_getElem? (i := 273) (by decide +kernel)) rfl
set_option maxRecDepth 20000 in
theorem m_232 : Jvm.Cond.code ({ cls := "ArithmeticRows$Encoder", name := "putPlain", desc := "(I)V" } : Jvm.MethodName) prog_3_method_10_code (2 : Nat) (Option.none : Option Jvm.ClassFile.FieldType) ∈ TT := TT_in (List.mem_of_getElem? (i := 274) rfl) rfl
theorem m_233 : Jvm.Cond.methodLink "ArithmeticRows$Encoder" (95 : Nat) ({ cls := "ArithmeticRows$Row", name := "add", desc := "(I)V" } : Jvm.MethodName) ∈ TT := TT_in (List.mem_of_getElem? (i := 275) (by decide +kernel)) rfl
theorem m_234 : Jvm.Cond.instanceMethod ({ cls := "ArithmeticRows$Row", name := "add", desc := "(I)V" } : Jvm.MethodName) ∈ TT := TT_in (List.mem_of_getElem? (i := 276) (by decide +kernel)) rfl
theorem m_235 : Jvm.Cond.selects "ArithmeticRows$Row" ({ cls := "ArithmeticRows$Row", name := "add", desc := "(I)V" } : Jvm.MethodName) ({ cls := "ArithmeticRows$Row", name := "add", desc := "(I)V" } : Jvm.MethodName) ∈ TT := TT_in (List.mem_of_getElem? (i := 277) (by decide +kernel)) rfl
set_option maxRecDepth 20000 in
theorem m_236 : Jvm.Cond.code ({ cls := "ArithmeticRows$Row", name := "add", desc := "(I)V" } : Jvm.MethodName) prog_4_method_10_code (2 : Nat) (Option.none : Option Jvm.ClassFile.FieldType) ∈ TT := TT_in (List.mem_of_getElem? (i := 278) rfl) rfl
theorem m_237 : Jvm.Cond.methodLink "ArithmeticRows$Encoder" (62 : Nat) ({ cls := "ArithmeticRows$Encoder", name := "flush", desc := "()V" } : Jvm.MethodName) ∈ TT := TT_in (List.mem_of_getElem? (i := 279) (by decide +kernel)) rfl
theorem m_238 : Jvm.Cond.privateMethod ({ cls := "ArithmeticRows$Encoder", name := "flush", desc := "()V" } : Jvm.MethodName) ∈ lw_tbl := List.mem_of_getElem? (i := 280) (by decide +kernel)
theorem m_239 : Jvm.Cond.instanceMethod ({ cls := "ArithmeticRows$Encoder", name := "flush", desc := "()V" } : Jvm.MethodName) ∈ TT := TT_in (List.mem_of_getElem? (i := 281) (by decide +kernel)) rfl
set_option maxRecDepth 20000 in
theorem m_240 : Jvm.Cond.code ({ cls := "ArithmeticRows$Encoder", name := "flush", desc := "()V" } : Jvm.MethodName) prog_3_method_9_code (2 : Nat) (Option.none : Option Jvm.ClassFile.FieldType) ∈ TT := TT_in (List.mem_of_getElem? (i := 282) rfl) rfl
theorem m_241 : Jvm.Cond.constant "ArithmeticRows$Encoder" (100 : Nat) (65535 : Int32) ∈ TT := TT_in (List.mem_of_getElem? (i := 283) (by decide +kernel)) rfl
theorem m_242 : Jvm.Cond.methodLink "ArithmeticRows$Encoder" (83 : Nat) ({ cls := "ArithmeticRows$Encoder", name := "putOut", desc := "()V" } : Jvm.MethodName) ∈ TT := TT_in (List.mem_of_getElem? (i := 284) (by decide +kernel)) rfl
theorem m_243 : Jvm.Cond.privateMethod ({ cls := "ArithmeticRows$Encoder", name := "putOut", desc := "()V" } : Jvm.MethodName) ∈ lw_tbl := List.mem_of_getElem? (i := 285) (by decide +kernel)
theorem m_244 : Jvm.Cond.instanceMethod ({ cls := "ArithmeticRows$Encoder", name := "putOut", desc := "()V" } : Jvm.MethodName) ∈ TT := TT_in (List.mem_of_getElem? (i := 286) (by decide +kernel)) rfl
set_option maxRecDepth 20000 in
theorem m_245 : Jvm.Cond.code ({ cls := "ArithmeticRows$Encoder", name := "putOut", desc := "()V" } : Jvm.MethodName) prog_3_method_8_code (2 : Nat) (Option.none : Option Jvm.ClassFile.FieldType) ∈ TT := TT_in (List.mem_of_getElem? (i := 287) rfl) rfl
theorem m_246 : Jvm.Cond.methodLink "ArithmeticRows$Encoder" (86 : Nat) ({ cls := "ArithmeticRows$Row", name := "last", desc := "()I" } : Jvm.MethodName) ∈ TT := TT_in (List.mem_of_getElem? (i := 288) (by decide +kernel)) rfl
theorem m_247 : Jvm.Cond.instanceMethod ({ cls := "ArithmeticRows$Row", name := "last", desc := "()I" } : Jvm.MethodName) ∈ TT := TT_in (List.mem_of_getElem? (i := 289) (by decide +kernel)) rfl
theorem m_248 : Jvm.Cond.selects "ArithmeticRows$Row" ({ cls := "ArithmeticRows$Row", name := "last", desc := "()I" } : Jvm.MethodName) ({ cls := "ArithmeticRows$Row", name := "last", desc := "()I" } : Jvm.MethodName) ∈ TT := TT_in (List.mem_of_getElem? (i := 290) (by decide +kernel)) rfl
set_option maxRecDepth 20000 in
theorem m_249 : Jvm.Cond.code ({ cls := "ArithmeticRows$Row", name := "last", desc := "()I" } : Jvm.MethodName) prog_4_method_12_code (2 : Nat) (Option.some Jvm.ClassFile.FieldType.int) ∈ TT := TT_in (List.mem_of_getElem? (i := 291) rfl) rfl
theorem m_250 : Jvm.Cond.constant "ArithmeticRows$Encoder" (90 : Nat) (134217728 : Int32) ∈ TT := TT_in (List.mem_of_getElem? (i := 292) (by decide +kernel)) rfl
theorem m_251 : Jvm.Cond.methodLink "ArithmeticRows$Encoder" (91 : Nat) ({ cls := "ArithmeticRows$Row", name := "raiseLast", desc := "()V" } : Jvm.MethodName) ∈ TT := TT_in (List.mem_of_getElem? (i := 293) (by decide +kernel)) rfl
theorem m_252 : Jvm.Cond.instanceMethod ({ cls := "ArithmeticRows$Row", name := "raiseLast", desc := "()V" } : Jvm.MethodName) ∈ TT := TT_in (List.mem_of_getElem? (i := 294) (by decide +kernel)) rfl
theorem m_253 : Jvm.Cond.selects "ArithmeticRows$Row" ({ cls := "ArithmeticRows$Row", name := "raiseLast", desc := "()V" } : Jvm.MethodName) ({ cls := "ArithmeticRows$Row", name := "raiseLast", desc := "()V" } : Jvm.MethodName) ∈ TT := TT_in (List.mem_of_getElem? (i := 295) (by decide +kernel)) rfl
set_option maxRecDepth 20000 in
theorem m_254 : Jvm.Cond.code ({ cls := "ArithmeticRows$Row", name := "raiseLast", desc := "()V" } : Jvm.MethodName) prog_4_method_13_code (2 : Nat) (Option.none : Option Jvm.ClassFile.FieldType) ∈ TT := TT_in (List.mem_of_getElem? (i := 296) rfl) rfl
theorem m_255 : Jvm.Cond.constant "ArithmeticRows$Encoder" (94 : Nat) (134217727 : Int32) ∈ TT := TT_in (List.mem_of_getElem? (i := 297) (by decide +kernel)) rfl
theorem m_256 : Jvm.Cond.constant "ArithmeticRows$Encoder" (98 : Nat) (1048575 : Int32) ∈ TT := TT_in (List.mem_of_getElem? (i := 298) (by decide +kernel)) rfl
theorem m_257 : Jvm.Cond.constant "ArithmeticRows$Encoder" (99 : Nat) (524287 : Int32) ∈ TT := TT_in (List.mem_of_getElem? (i := 299) (by decide +kernel)) rfl
theorem m_258 : Jvm.Cond.methodLink "ArithmeticRows$Encoder" (65 : Nat) ({ cls := "ArithmeticRows$Row", name := "dropLastIfFull", desc := "()V" } : Jvm.MethodName) ∈ TT := TT_in (List.mem_of_getElem? (i := 300) (by decide +kernel)) rfl
theorem m_259 : Jvm.Cond.instanceMethod ({ cls := "ArithmeticRows$Row", name := "dropLastIfFull", desc := "()V" } : Jvm.MethodName) ∈ TT := TT_in (List.mem_of_getElem? (i := 301) (by decide +kernel)) rfl
theorem m_260 : Jvm.Cond.selects "ArithmeticRows$Row" ({ cls := "ArithmeticRows$Row", name := "dropLastIfFull", desc := "()V" } : Jvm.MethodName) ({ cls := "ArithmeticRows$Row", name := "dropLastIfFull", desc := "()V" } : Jvm.MethodName) ∈ TT := TT_in (List.mem_of_getElem? (i := 302) (by decide +kernel)) rfl
set_option maxRecDepth 20000 in
theorem m_261 : Jvm.Cond.code ({ cls := "ArithmeticRows$Row", name := "dropLastIfFull", desc := "()V" } : Jvm.MethodName) prog_4_method_14_code (1 : Nat) (Option.none : Option Jvm.ClassFile.FieldType) ∈ TT := TT_in (List.mem_of_getElem? (i := 303) rfl) rfl
theorem m_262 : Jvm.Cond.methodLink "ArithmeticRows$Row" (39 : Nat) ({ cls := "ArithmeticRows$Row", name := "last", desc := "()I" } : Jvm.MethodName) ∈ TT := TT_in (List.mem_of_getElem? (i := 304) (by decide +kernel)) rfl
theorem m_263 : Jvm.Cond.methodLink "ArithmeticRows$Encoder" (46 : Nat) ({ cls := "ArithmeticRows$Row", name := "beginSegment", desc := "(Z)V" } : Jvm.MethodName) ∈ TT := TT_in (List.mem_of_getElem? (i := 305) (by decide +kernel)) rfl
theorem m_264 : Jvm.Cond.instanceMethod ({ cls := "ArithmeticRows$Row", name := "beginSegment", desc := "(Z)V" } : Jvm.MethodName) ∈ TT := TT_in (List.mem_of_getElem? (i := 306) (by decide +kernel)) rfl
theorem m_265 : Jvm.Cond.selects "ArithmeticRows$Row" ({ cls := "ArithmeticRows$Row", name := "beginSegment", desc := "(Z)V" } : Jvm.MethodName) ({ cls := "ArithmeticRows$Row", name := "beginSegment", desc := "(Z)V" } : Jvm.MethodName) ∈ TT := TT_in (List.mem_of_getElem? (i := 307) (by decide +kernel)) rfl
set_option maxRecDepth 20000 in
theorem m_266 : Jvm.Cond.code ({ cls := "ArithmeticRows$Row", name := "beginSegment", desc := "(Z)V" } : Jvm.MethodName) prog_4_method_7_code (2 : Nat) (Option.none : Option Jvm.ClassFile.FieldType) ∈ TT := TT_in (List.mem_of_getElem? (i := 308) rfl) rfl
theorem m_267 : Jvm.Cond.methodLink "ArithmeticRowsLaw" (100 : Nat) ({ cls := "ArithmeticRows", name := "beyond", desc := "()I" } : Jvm.MethodName) ∈ TT := TT_in (List.mem_of_getElem? (i := 309) (by decide +kernel)) rfl
theorem m_268 : Jvm.Cond.instanceMethod ({ cls := "ArithmeticRows", name := "beyond", desc := "()I" } : Jvm.MethodName) ∈ TT := TT_in (List.mem_of_getElem? (i := 310) (by decide +kernel)) rfl
theorem m_269 : Jvm.Cond.selects "ArithmeticRows" ({ cls := "ArithmeticRows", name := "beyond", desc := "()I" } : Jvm.MethodName) ({ cls := "ArithmeticRows", name := "beyond", desc := "()I" } : Jvm.MethodName) ∈ TT := TT_in (List.mem_of_getElem? (i := 311) (by decide +kernel)) rfl
set_option maxRecDepth 20000 in
theorem m_270 : Jvm.Cond.code ({ cls := "ArithmeticRows", name := "beyond", desc := "()I" } : Jvm.MethodName) prog_1_method_13_code (1 : Nat) (Option.some Jvm.ClassFile.FieldType.int) ∈ TT := TT_in (List.mem_of_getElem? (i := 312) rfl) rfl
theorem m_271 : Jvm.Cond.methodLink "ArithmeticRows" (185 : Nat) ({ cls := "ArithmeticRows$Decoder", name := "takenBeyond", desc := "()I" } : Jvm.MethodName) ∈ TT := TT_in (List.mem_of_getElem? (i := 313) (by decide +kernel)) rfl
theorem m_272 : Jvm.Cond.instanceMethod ({ cls := "ArithmeticRows$Decoder", name := "takenBeyond", desc := "()I" } : Jvm.MethodName) ∈ TT := TT_in (List.mem_of_getElem? (i := 314) (by decide +kernel)) rfl
theorem m_273 : Jvm.Cond.selects "ArithmeticRows$Decoder" ({ cls := "ArithmeticRows$Decoder", name := "takenBeyond", desc := "()I" } : Jvm.MethodName) ({ cls := "ArithmeticRows$Decoder", name := "takenBeyond", desc := "()I" } : Jvm.MethodName) ∈ TT := TT_in (List.mem_of_getElem? (i := 315) (by decide +kernel)) rfl
set_option maxRecDepth 20000 in
theorem m_274 : Jvm.Cond.code ({ cls := "ArithmeticRows$Decoder", name := "takenBeyond", desc := "()I" } : Jvm.MethodName) prog_2_method_5_code (1 : Nat) (Option.some Jvm.ClassFile.FieldType.int) ∈ TT := TT_in (List.mem_of_getElem? (i := 316) rfl) rfl
theorem m_275 : Jvm.Cond.methodLink "ArithmeticRows$Decoder" (52 : Nat) ({ cls := "java/lang/Math", name := "max", desc := "(II)I" } : Jvm.MethodName) ∈ TT := TT_in (List.mem_of_getElem? (i := 317) (by decide +kernel)) rfl
theorem m_276 : Jvm.Cond.methodLink "ArithmeticRowsLaw" (104 : Nat) ({ cls := "ArithmeticRows", name := "reset", desc := "()V" } : Jvm.MethodName) ∈ TT := TT_in (List.mem_of_getElem? (i := 318) (by decide +kernel)) rfl
theorem m_277 : Jvm.Cond.instanceMethod ({ cls := "ArithmeticRows", name := "reset", desc := "()V" } : Jvm.MethodName) ∈ TT := TT_in (List.mem_of_getElem? (i := 319) (by decide +kernel)) rfl
theorem m_278 : Jvm.Cond.selects "ArithmeticRows" ({ cls := "ArithmeticRows", name := "reset", desc := "()V" } : Jvm.MethodName) ({ cls := "ArithmeticRows", name := "reset", desc := "()V" } : Jvm.MethodName) ∈ TT := TT_in (List.mem_of_getElem? (i := 320) (by decide +kernel)) rfl
set_option maxRecDepth 20000 in
theorem m_279 : Jvm.Cond.code ({ cls := "ArithmeticRows", name := "reset", desc := "()V" } : Jvm.MethodName) prog_1_method_14_code (1 : Nat) (Option.none : Option Jvm.ClassFile.FieldType) ∈ TT := TT_in (List.mem_of_getElem? (i := 321) rfl) rfl
theorem m_280 : Jvm.Cond.methodLink "ArithmeticRows" (188 : Nat) ({ cls := "ArithmeticRows$Side", name := "clear", desc := "()V" } : Jvm.MethodName) ∈ TT := TT_in (List.mem_of_getElem? (i := 322) (by decide +kernel)) rfl
theorem m_281 : Jvm.Cond.instanceMethod ({ cls := "ArithmeticRows$Side", name := "clear", desc := "()V" } : Jvm.MethodName) ∈ TT := TT_in (List.mem_of_getElem? (i := 323) (by decide +kernel)) rfl
theorem m_282 : Jvm.Cond.selects "ArithmeticRows$Side" ({ cls := "ArithmeticRows$Side", name := "clear", desc := "()V" } : Jvm.MethodName) ({ cls := "ArithmeticRows$Side", name := "clear", desc := "()V" } : Jvm.MethodName) ∈ TT := TT_in (List.mem_of_getElem? (i := 324) (by decide +kernel)) rfl
set_option maxRecDepth 20000 in
theorem m_283 : Jvm.Cond.code ({ cls := "ArithmeticRows$Side", name := "clear", desc := "()V" } : Jvm.MethodName) prog_5_method_2_code (1 : Nat) (Option.none : Option Jvm.ClassFile.FieldType) ∈ TT := TT_in (List.mem_of_getElem? (i := 325) rfl) rfl
theorem m_284 : Jvm.Cond.methodLink "ArithmeticRows$Side" (18 : Nat) ({ cls := "java/util/Arrays", name := "fill", desc := "([II)V" } : Jvm.MethodName) ∈ TT := TT_in (List.mem_of_getElem? (i := 326) (by decide +kernel)) rfl
theorem m_285 : Jvm.Cond.static ({ cls := "java/util/Arrays", name := "fill", desc := "([II)V" } : Jvm.MethodName) ∈ TT := TT_in (List.mem_of_getElem? (i := 327) (by decide +kernel)) rfl
set_option maxRecDepth 20000 in
theorem m_286 : Jvm.Cond.code ({ cls := "java/util/Arrays", name := "fill", desc := "([II)V" } : Jvm.MethodName) prog_18_method_103_code (4 : Nat) (Option.none : Option Jvm.ClassFile.FieldType) ∈ TT := TT_in (List.mem_of_getElem? (i := 328) rfl) rfl
theorem m_287 : Jvm.Cond.methodLink "ArithmeticRows" (191 : Nat) ({ cls := "ArithmeticRows$Row", name := "clear", desc := "()V" } : Jvm.MethodName) ∈ TT := TT_in (List.mem_of_getElem? (i := 329) (by decide +kernel)) rfl
theorem m_288 : Jvm.Cond.instanceMethod ({ cls := "ArithmeticRows$Row", name := "clear", desc := "()V" } : Jvm.MethodName) ∈ TT := TT_in (List.mem_of_getElem? (i := 330) (by decide +kernel)) rfl
theorem m_289 : Jvm.Cond.selects "ArithmeticRows$Row" ({ cls := "ArithmeticRows$Row", name := "clear", desc := "()V" } : Jvm.MethodName) ({ cls := "ArithmeticRows$Row", name := "clear", desc := "()V" } : Jvm.MethodName) ∈ TT := TT_in (List.mem_of_getElem? (i := 331) (by decide +kernel)) rfl
set_option maxRecDepth 20000 in
theorem m_290 : Jvm.Cond.code ({ cls := "ArithmeticRows$Row", name := "clear", desc := "()V" } : Jvm.MethodName) prog_4_method_2_code (1 : Nat) (Option.none : Option Jvm.ClassFile.FieldType) ∈ TT := TT_in (List.mem_of_getElem? (i := 332) rfl) rfl
theorem m_291 : Jvm.Cond.methodLink "ArithmeticRows" (192 : Nat) ({ cls := "ArithmeticRows$Encoder", name := "begin", desc := "(Z)V" } : Jvm.MethodName) ∈ TT := TT_in (List.mem_of_getElem? (i := 333) (by decide +kernel)) rfl
theorem m_292 : Jvm.Cond.methodLink "ArithmeticRows" (99 : Nat) ({ cls := "ArithmeticRows$Decoder", name := "open", desc := "(I)V" } : Jvm.MethodName) ∈ TT := TT_in (List.mem_of_getElem? (i := 334) (by decide +kernel)) rfl
theorem m_293 : Jvm.Cond.methodLink "ArithmeticRowsLaw" (46 : Nat) ({ cls := "ArithmeticRowsLaw", name := "cell", desc := "([II)I" } : Jvm.MethodName) ∈ TT := TT_in (List.mem_of_getElem? (i := 335) (by decide +kernel)) rfl
theorem m_294 : Jvm.Cond.static ({ cls := "ArithmeticRowsLaw", name := "cell", desc := "([II)I" } : Jvm.MethodName) ∈ TT := TT_in (List.mem_of_getElem? (i := 336) (by decide +kernel)) rfl
set_option maxRecDepth 20000 in
theorem m_295 : Jvm.Cond.code ({ cls := "ArithmeticRowsLaw", name := "cell", desc := "([II)I" } : Jvm.MethodName) method_2_code (2 : Nat) (Option.some Jvm.ClassFile.FieldType.int) ∈ TT := TT_in (List.mem_of_getElem? (i := 337) rfl) rfl
theorem m_296 : Jvm.Cond.methodLink "ArithmeticRowsLaw" (58 : Nat) ({ cls := "ArithmeticRowsLaw", name := "encode", desc := "(LArithmeticRows;II[J)I" } : Jvm.MethodName) ∈ TT := TT_in (List.mem_of_getElem? (i := 338) (by decide +kernel)) rfl
theorem m_297 : Jvm.Cond.static ({ cls := "ArithmeticRowsLaw", name := "encode", desc := "(LArithmeticRows;II[J)I" } : Jvm.MethodName) ∈ TT := TT_in (List.mem_of_getElem? (i := 339) (by decide +kernel)) rfl
set_option maxRecDepth 20000 in
theorem m_298 : Jvm.Cond.codeWith ({ cls := "ArithmeticRowsLaw", name := "encode", desc := "(LArithmeticRows;II[J)I" } : Jvm.MethodName) method_3_code (5 : Nat) (Option.some Jvm.ClassFile.FieldType.int) [((0 : Nat), (10 : Nat), (13 : Nat), (13 : Nat)), ((0 : Nat), (10 : Nat), (17 : Nat), (15 : Nat)), ((0 : Nat), (10 : Nat), (21 : Nat), (17 : Nat))] ∈ TT := TT_in (List.mem_of_getElem? (i := 340) rfl) rfl
theorem m_299 : Jvm.Cond.classLink "ArithmeticRowsLaw" (13 : Nat) "java/lang/IndexOutOfBoundsException" ∈ TT := TT_in (List.mem_of_getElem? (i := 341) (by decide +kernel)) rfl
theorem m_300 : Jvm.Cond.classLink "ArithmeticRowsLaw" (15 : Nat) "java/lang/IllegalStateException" ∈ TT := TT_in (List.mem_of_getElem? (i := 342) (by decide +kernel)) rfl
theorem m_301 : Jvm.Cond.classLink "ArithmeticRowsLaw" (17 : Nat) "java/lang/IllegalArgumentException" ∈ TT := TT_in (List.mem_of_getElem? (i := 343) (by decide +kernel)) rfl
theorem m_302 : Jvm.Cond.methodLink "ArithmeticRowsLaw" (7 : Nat) ({ cls := "ArithmeticRows", name := "encode", desc := "(II)I" } : Jvm.MethodName) ∈ TT := TT_in (List.mem_of_getElem? (i := 344) (by decide +kernel)) rfl
theorem m_303 : Jvm.Cond.instanceMethod ({ cls := "ArithmeticRows", name := "encode", desc := "(II)I" } : Jvm.MethodName) ∈ TT := TT_in (List.mem_of_getElem? (i := 345) (by decide +kernel)) rfl
theorem m_304 : Jvm.Cond.selects "ArithmeticRows" ({ cls := "ArithmeticRows", name := "encode", desc := "(II)I" } : Jvm.MethodName) ({ cls := "ArithmeticRows", name := "encode", desc := "(II)I" } : Jvm.MethodName) ∈ TT := TT_in (List.mem_of_getElem? (i := 346) (by decide +kernel)) rfl
set_option maxRecDepth 20000 in
theorem m_305 : Jvm.Cond.code ({ cls := "ArithmeticRows", name := "encode", desc := "(II)I" } : Jvm.MethodName) prog_1_method_2_code (3 : Nat) (Option.some Jvm.ClassFile.FieldType.int) ∈ TT := TT_in (List.mem_of_getElem? (i := 347) rfl) rfl
theorem m_306 : Jvm.Cond.methodLink "ArithmeticRows" (72 : Nat) ({ cls := "ArithmeticRows", name := "needContext", desc := "(I)V" } : Jvm.MethodName) ∈ TT := TT_in (List.mem_of_getElem? (i := 348) (by decide +kernel)) rfl
theorem m_307 : Jvm.Cond.privateMethod ({ cls := "ArithmeticRows", name := "needContext", desc := "(I)V" } : Jvm.MethodName) ∈ lw_tbl := List.mem_of_getElem? (i := 349) (by decide +kernel)
theorem m_308 : Jvm.Cond.instanceMethod ({ cls := "ArithmeticRows", name := "needContext", desc := "(I)V" } : Jvm.MethodName) ∈ TT := TT_in (List.mem_of_getElem? (i := 350) (by decide +kernel)) rfl
set_option maxRecDepth 20000 in
theorem m_309 : Jvm.Cond.code ({ cls := "ArithmeticRows", name := "needContext", desc := "(I)V" } : Jvm.MethodName) prog_1_method_15_code (2 : Nat) (Option.none : Option Jvm.ClassFile.FieldType) ∈ TT := TT_in (List.mem_of_getElem? (i := 351) rfl) rfl
theorem m_310 : Jvm.Cond.classLink "ArithmeticRows" (102 : Nat) "java/lang/IndexOutOfBoundsException" ∈ TT := TT_in (List.mem_of_getElem? (i := 352) (by decide +kernel)) rfl
theorem m_311 : Jvm.Cond.instantiable "java/lang/IndexOutOfBoundsException" (6 : Nat) ∈ TT := TT_in (List.mem_of_getElem? (i := 353) (by decide +kernel)) rfl
theorem m_312 : Jvm.Cond.castable "java/lang/IndexOutOfBoundsException" "java/lang/IndexOutOfBoundsException" ∈ lw_tbl := List.mem_of_getElem? (i := 354) (by decide +kernel)
theorem m_313 : Jvm.Cond.declares ({ cls := "java/lang/RuntimeException", name := "<init>", desc := "()V" } : Jvm.MethodName) ∈ lw_tbl := List.mem_of_getElem? (i := 355) (by decide +kernel)
theorem m_314 : Jvm.Cond.declares ({ cls := "java/lang/RuntimeException", name := "<init>", desc := "(Ljava/lang/String;)V" } : Jvm.MethodName) ∈ lw_tbl := List.mem_of_getElem? (i := 356) (by decide +kernel)
theorem m_315 : Jvm.Cond.declares ({ cls := "java/lang/Exception", name := "<init>", desc := "()V" } : Jvm.MethodName) ∈ lw_tbl := List.mem_of_getElem? (i := 357) (by decide +kernel)
theorem m_316 : Jvm.Cond.declares ({ cls := "java/lang/Exception", name := "<init>", desc := "(Ljava/lang/String;)V" } : Jvm.MethodName) ∈ lw_tbl := List.mem_of_getElem? (i := 358) (by decide +kernel)
theorem m_317 : Jvm.Cond.declares ({ cls := "java/lang/Throwable", name := "<init>", desc := "()V" } : Jvm.MethodName) ∈ lw_tbl := List.mem_of_getElem? (i := 359) (by decide +kernel)
theorem m_318 : Jvm.Cond.declares ({ cls := "java/lang/Throwable", name := "<init>", desc := "(Ljava/lang/String;)V" } : Jvm.MethodName) ∈ lw_tbl := List.mem_of_getElem? (i := 360) (by decide +kernel)
theorem m_319 : Jvm.Cond.selects "java/lang/IndexOutOfBoundsException" ({ cls := "java/lang/Throwable", name := "fillInStackTrace", desc := "(I)Ljava/lang/Throwable;" } : Jvm.MethodName) ({ cls := "java/lang/Throwable", name := "fillInStackTrace", desc := "(I)Ljava/lang/Throwable;" } : Jvm.MethodName) ∈ TT := TT_in (List.mem_of_getElem? (i := 361) (by decide +kernel)) rfl
theorem m_320 : Jvm.Cond.selects "java/lang/IndexOutOfBoundsException" ({ cls := "java/lang/Throwable", name := "fillInStackTrace", desc := "()Ljava/lang/Throwable;" } : Jvm.MethodName) ({ cls := "java/lang/Throwable", name := "fillInStackTrace", desc := "()Ljava/lang/Throwable;" } : Jvm.MethodName) ∈ TT := TT_in (List.mem_of_getElem? (i := 362) (by decide +kernel)) rfl
theorem m_321 : Jvm.Cond.lays "java/lang/IndexOutOfBoundsException" "java/lang/Throwable" "cause" "Ljava/lang/Throwable;" ∈ TT := TT_in (List.mem_of_getElem? (i := 363) (by decide +kernel)) rfl
theorem m_322 : Jvm.Cond.lays "java/lang/Throwable" "java/lang/Throwable" "cause" "Ljava/lang/Throwable;" ∈ TT := TT_in (List.mem_of_getElem? (i := 364) (by decide +kernel)) rfl
theorem m_323 : Jvm.Cond.lays "java/lang/IndexOutOfBoundsException" "java/lang/Throwable" "stackTrace" "[Ljava/lang/StackTraceElement;" ∈ TT := TT_in (List.mem_of_getElem? (i := 365) (by decide +kernel)) rfl
theorem m_324 : Jvm.Cond.lays "java/lang/Throwable" "java/lang/Throwable" "stackTrace" "[Ljava/lang/StackTraceElement;" ∈ TT := TT_in (List.mem_of_getElem? (i := 366) (by decide +kernel)) rfl
theorem m_325 : Jvm.Cond.lays "java/lang/IndexOutOfBoundsException" "java/lang/Throwable" "suppressedExceptions" "Ljava/util/List;" ∈ TT := TT_in (List.mem_of_getElem? (i := 367) (by decide +kernel)) rfl
theorem m_326 : Jvm.Cond.lays "java/lang/Throwable" "java/lang/Throwable" "suppressedExceptions" "Ljava/util/List;" ∈ TT := TT_in (List.mem_of_getElem? (i := 368) (by decide +kernel)) rfl
theorem m_327 : Jvm.Cond.lays "java/lang/IndexOutOfBoundsException" "java/lang/Throwable" "detailMessage" "Ljava/lang/String;" ∈ TT := TT_in (List.mem_of_getElem? (i := 369) (by decide +kernel)) rfl
theorem m_328 : Jvm.Cond.lays "java/lang/Throwable" "java/lang/Throwable" "detailMessage" "Ljava/lang/String;" ∈ TT := TT_in (List.mem_of_getElem? (i := 370) (by decide +kernel)) rfl
theorem m_329 : Jvm.Cond.lays "java/lang/IndexOutOfBoundsException" "java/lang/Throwable" "backtrace" "Ljava/lang/Object;" ∈ TT := TT_in (List.mem_of_getElem? (i := 371) (by decide +kernel)) rfl
theorem m_330 : Jvm.Cond.lays "java/lang/Throwable" "java/lang/Throwable" "backtrace" "Ljava/lang/Object;" ∈ TT := TT_in (List.mem_of_getElem? (i := 372) (by decide +kernel)) rfl
theorem m_331 : Jvm.Cond.fieldLink "java/lang/Throwable" (198 : Nat) "java/lang/Throwable" "backtrace" "Ljava/lang/Object;" ∈ TT := TT_in (List.mem_of_getElem? (i := 373) (by decide +kernel)) rfl
theorem m_332 : Jvm.Cond.superclass "java/lang/Throwable" "java/lang/Object" ∈ TT := TT_in (List.mem_of_getElem? (i := 374) (by decide +kernel)) rfl
theorem m_333 : Jvm.Cond.instanceMethod ({ cls := "java/lang/Throwable", name := "<init>", desc := "()V" } : Jvm.MethodName) ∈ TT := TT_in (List.mem_of_getElem? (i := 375) (by decide +kernel)) rfl
set_option maxRecDepth 20000 in
theorem m_334 : Jvm.Cond.code ({ cls := "java/lang/Throwable", name := "<init>", desc := "()V" } : Jvm.MethodName) prog_17_method_1_code (1 : Nat) (Option.none : Option Jvm.ClassFile.FieldType) ∈ TT := TT_in (List.mem_of_getElem? (i := 376) rfl) rfl
theorem m_335 : Jvm.Cond.methodLink "java/lang/Throwable" (1 : Nat) ({ cls := "java/lang/Object", name := "<init>", desc := "()V" } : Jvm.MethodName) ∈ TT := TT_in (List.mem_of_getElem? (i := 377) (by decide +kernel)) rfl
theorem m_336 : Jvm.Cond.fieldLink "java/lang/Throwable" (13 : Nat) "java/lang/Throwable" "UNASSIGNED_STACK" "[Ljava/lang/StackTraceElement;" ∈ TT := TT_in (List.mem_of_getElem? (i := 378) (by decide +kernel)) rfl
theorem m_337 : Jvm.Cond.laysStatic "java/lang/Throwable" "UNASSIGNED_STACK" "[Ljava/lang/StackTraceElement;" ∈ lw_tbl := List.mem_of_getElem? (i := 379) (by decide +kernel)
theorem m_338 : Jvm.Cond.fieldLink "java/lang/Throwable" (20 : Nat) "java/lang/Throwable" "SUPPRESSED_SENTINEL" "Ljava/util/List;" ∈ TT := TT_in (List.mem_of_getElem? (i := 380) (by decide +kernel)) rfl
theorem m_339 : Jvm.Cond.laysStatic "java/lang/Throwable" "SUPPRESSED_SENTINEL" "Ljava/util/List;" ∈ lw_tbl := List.mem_of_getElem? (i := 381) (by decide +kernel)
theorem m_340 : Jvm.Cond.methodLink "java/lang/Throwable" (27 : Nat) ({ cls := "java/lang/Throwable", name := "fillInStackTrace", desc := "()Ljava/lang/Throwable;" } : Jvm.MethodName) ∈ TT := TT_in (List.mem_of_getElem? (i := 382) (by decide +kernel)) rfl
theorem m_341 : Jvm.Cond.instanceMethod ({ cls := "java/lang/Throwable", name := "fillInStackTrace", desc := "()Ljava/lang/Throwable;" } : Jvm.MethodName) ∈ TT := TT_in (List.mem_of_getElem? (i := 383) (by decide +kernel)) rfl
theorem m_342 : Jvm.Cond.sameMethod "java/lang/Throwable" "java/lang/Throwable" "fillInStackTrace" "()Ljava/lang/Throwable;" ∈ TT := TT_in (List.mem_of_getElem? (i := 384) (by decide +kernel)) rfl
theorem m_343 : Jvm.Cond.selects "java/lang/IllegalArgumentException" ({ cls := "java/lang/Throwable", name := "fillInStackTrace", desc := "()Ljava/lang/Throwable;" } : Jvm.MethodName) ({ cls := "java/lang/Throwable", name := "fillInStackTrace", desc := "()Ljava/lang/Throwable;" } : Jvm.MethodName) ∈ TT := TT_in (List.mem_of_getElem? (i := 385) (by decide +kernel)) rfl
theorem m_344 : Jvm.Cond.selects "java/lang/IllegalStateException" ({ cls := "java/lang/Throwable", name := "fillInStackTrace", desc := "()Ljava/lang/Throwable;" } : Jvm.MethodName) ({ cls := "java/lang/Throwable", name := "fillInStackTrace", desc := "()Ljava/lang/Throwable;" } : Jvm.MethodName) ∈ TT := TT_in (List.mem_of_getElem? (i := 386) (by decide +kernel)) rfl
theorem m_345 : Jvm.Cond.codeSync ({ cls := "java/lang/Throwable", name := "fillInStackTrace", desc := "()Ljava/lang/Throwable;" } : Jvm.MethodName) prog_17_method_18_code (1 : Nat) (Option.some (Jvm.ClassFile.FieldType.object "java/lang/Throwable")) ∈ TT := TT_in (List.mem_of_getElem? (i := 387) (by decide +kernel)) rfl
theorem m_346 : Jvm.Cond.methodLink "java/lang/Throwable" (202 : Nat) ({ cls := "java/lang/Throwable", name := "fillInStackTrace", desc := "(I)Ljava/lang/Throwable;" } : Jvm.MethodName) ∈ TT := TT_in (List.mem_of_getElem? (i := 388) (by decide +kernel)) rfl
theorem m_347 : Jvm.Cond.privateMethod ({ cls := "java/lang/Throwable", name := "fillInStackTrace", desc := "(I)Ljava/lang/Throwable;" } : Jvm.MethodName) ∈ lw_tbl := List.mem_of_getElem? (i := 389) (by decide +kernel)
theorem m_348 : Jvm.Cond.instanceMethod ({ cls := "java/lang/Throwable", name := "fillInStackTrace", desc := "(I)Ljava/lang/Throwable;" } : Jvm.MethodName) ∈ TT := TT_in (List.mem_of_getElem? (i := 390) (by decide +kernel)) rfl
theorem m_349 : Jvm.Cond.instantiable "java/lang/Throwable" (6 : Nat) ∈ TT := TT_in (List.mem_of_getElem? (i := 391) (by decide +kernel)) rfl
theorem m_350 : Jvm.Cond.native ({ cls := "java/lang/Throwable", name := "fillInStackTrace", desc := "(I)Ljava/lang/Throwable;" } : Jvm.MethodName) ∈ TT := TT_in (List.mem_of_getElem? (i := 392) (by decide +kernel)) rfl
theorem m_351 : Jvm.Cond.stringRef "ArithmeticRows" (196 : Nat) "there is no such context" ∈ lw_tbl := List.mem_of_getElem? (i := 393) (by decide +kernel)
theorem m_352 : Jvm.Cond.methodLink "ArithmeticRows" (106 : Nat) ({ cls := "java/lang/IndexOutOfBoundsException", name := "<init>", desc := "(Ljava/lang/String;)V" } : Jvm.MethodName) ∈ TT := TT_in (List.mem_of_getElem? (i := 394) (by decide +kernel)) rfl
theorem m_353 : Jvm.Cond.instanceMethod ({ cls := "java/lang/IndexOutOfBoundsException", name := "<init>", desc := "(Ljava/lang/String;)V" } : Jvm.MethodName) ∈ TT := TT_in (List.mem_of_getElem? (i := 395) (by decide +kernel)) rfl
set_option maxRecDepth 20000 in
theorem m_354 : Jvm.Cond.code ({ cls := "java/lang/IndexOutOfBoundsException", name := "<init>", desc := "(Ljava/lang/String;)V" } : Jvm.MethodName) prog_12_method_2_code (2 : Nat) (Option.none : Option Jvm.ClassFile.FieldType) ∈ TT := TT_in (List.mem_of_getElem? (i := 396) rfl) rfl
theorem m_355 : Jvm.Cond.methodLink "java/lang/IndexOutOfBoundsException" (7 : Nat) ({ cls := "java/lang/RuntimeException", name := "<init>", desc := "(Ljava/lang/String;)V" } : Jvm.MethodName) ∈ TT := TT_in (List.mem_of_getElem? (i := 397) (by decide +kernel)) rfl
theorem m_356 : Jvm.Cond.instanceMethod ({ cls := "java/lang/RuntimeException", name := "<init>", desc := "(Ljava/lang/String;)V" } : Jvm.MethodName) ∈ TT := TT_in (List.mem_of_getElem? (i := 398) (by decide +kernel)) rfl
set_option maxRecDepth 20000 in
theorem m_357 : Jvm.Cond.code ({ cls := "java/lang/RuntimeException", name := "<init>", desc := "(Ljava/lang/String;)V" } : Jvm.MethodName) prog_14_method_2_code (2 : Nat) (Option.none : Option Jvm.ClassFile.FieldType) ∈ TT := TT_in (List.mem_of_getElem? (i := 399) rfl) rfl
theorem m_358 : Jvm.Cond.methodLink "java/lang/RuntimeException" (7 : Nat) ({ cls := "java/lang/Exception", name := "<init>", desc := "(Ljava/lang/String;)V" } : Jvm.MethodName) ∈ TT := TT_in (List.mem_of_getElem? (i := 400) (by decide +kernel)) rfl
theorem m_359 : Jvm.Cond.instanceMethod ({ cls := "java/lang/Exception", name := "<init>", desc := "(Ljava/lang/String;)V" } : Jvm.MethodName) ∈ TT := TT_in (List.mem_of_getElem? (i := 401) (by decide +kernel)) rfl
set_option maxRecDepth 20000 in
theorem m_360 : Jvm.Cond.code ({ cls := "java/lang/Exception", name := "<init>", desc := "(Ljava/lang/String;)V" } : Jvm.MethodName) prog_9_method_2_code (2 : Nat) (Option.none : Option Jvm.ClassFile.FieldType) ∈ TT := TT_in (List.mem_of_getElem? (i := 402) rfl) rfl
theorem m_361 : Jvm.Cond.methodLink "java/lang/Exception" (7 : Nat) ({ cls := "java/lang/Throwable", name := "<init>", desc := "(Ljava/lang/String;)V" } : Jvm.MethodName) ∈ TT := TT_in (List.mem_of_getElem? (i := 403) (by decide +kernel)) rfl
theorem m_362 : Jvm.Cond.instanceMethod ({ cls := "java/lang/Throwable", name := "<init>", desc := "(Ljava/lang/String;)V" } : Jvm.MethodName) ∈ TT := TT_in (List.mem_of_getElem? (i := 404) (by decide +kernel)) rfl
set_option maxRecDepth 20000 in
theorem m_363 : Jvm.Cond.code ({ cls := "java/lang/Throwable", name := "<init>", desc := "(Ljava/lang/String;)V" } : Jvm.MethodName) prog_17_method_2_code (2 : Nat) (Option.none : Option Jvm.ClassFile.FieldType) ∈ TT := TT_in (List.mem_of_getElem? (i := 405) rfl) rfl
theorem m_364 : Jvm.Cond.fieldLink "java/lang/Throwable" (198 : Nat) "java/lang/Throwable" "backtrace" "Ljava/lang/Object;" ∈ TT := TT_in (List.mem_of_getElem? (i := 406) (by decide +kernel)) rfl
theorem m_365 : Jvm.Cond.fieldLink "java/lang/Throwable" (31 : Nat) "java/lang/Throwable" "detailMessage" "Ljava/lang/String;" ∈ TT := TT_in (List.mem_of_getElem? (i := 407) (by decide +kernel)) rfl
theorem m_366 : Jvm.Cond.fieldLink "java/lang/Throwable" (7 : Nat) "java/lang/Throwable" "cause" "Ljava/lang/Throwable;" ∈ TT := TT_in (List.mem_of_getElem? (i := 408) (by decide +kernel)) rfl
theorem m_367 : Jvm.Cond.fieldLink "java/lang/Throwable" (17 : Nat) "java/lang/Throwable" "stackTrace" "[Ljava/lang/StackTraceElement;" ∈ TT := TT_in (List.mem_of_getElem? (i := 409) (by decide +kernel)) rfl
theorem m_368 : Jvm.Cond.fieldLink "java/lang/Throwable" (24 : Nat) "java/lang/Throwable" "suppressedExceptions" "Ljava/util/List;" ∈ TT := TT_in (List.mem_of_getElem? (i := 410) (by decide +kernel)) rfl
theorem m_369 : Jvm.Cond.soleField "java/lang/Throwable" "backtrace" ∈ TT := TT_in (List.mem_of_getElem? (i := 411) (by decide +kernel)) rfl
theorem m_370 : Jvm.Cond.soleField "java/lang/Throwable" "detailMessage" ∈ TT := TT_in (List.mem_of_getElem? (i := 412) (by decide +kernel)) rfl
theorem m_371 : Jvm.Cond.soleField "java/lang/Throwable" "cause" ∈ TT := TT_in (List.mem_of_getElem? (i := 413) (by decide +kernel)) rfl
theorem m_372 : Jvm.Cond.soleField "java/lang/Throwable" "stackTrace" ∈ TT := TT_in (List.mem_of_getElem? (i := 414) (by decide +kernel)) rfl
theorem m_373 : Jvm.Cond.lays "java/lang/IndexOutOfBoundsException" "java/lang/Throwable" "depth" "I" ∈ TT := TT_in (List.mem_of_getElem? (i := 415) (by decide +kernel)) rfl
theorem m_374 : Jvm.Cond.soleField "java/lang/Throwable" "depth" ∈ TT := TT_in (List.mem_of_getElem? (i := 416) (by decide +kernel)) rfl
theorem m_375 : Jvm.Cond.soleField "java/lang/Throwable" "suppressedExceptions" ∈ TT := TT_in (List.mem_of_getElem? (i := 417) (by decide +kernel)) rfl
theorem m_376 : Jvm.Cond.superclass "java/lang/IndexOutOfBoundsException" "java/lang/RuntimeException" ∈ TT := TT_in (List.mem_of_getElem? (i := 418) (by decide +kernel)) rfl
theorem m_377 : Jvm.Cond.arrayClass Jvm.ClassFile.FieldType.byte ∈ TT := TT_in (List.mem_of_getElem? (i := 419) (by decide +kernel)) rfl
theorem m_378 : Jvm.Cond.methodLink "ArithmeticRows" (75 : Nat) ({ cls := "ArithmeticRows", name := "needEncoding", desc := "()V" } : Jvm.MethodName) ∈ TT := TT_in (List.mem_of_getElem? (i := 420) (by decide +kernel)) rfl
theorem m_379 : Jvm.Cond.privateMethod ({ cls := "ArithmeticRows", name := "needEncoding", desc := "()V" } : Jvm.MethodName) ∈ lw_tbl := List.mem_of_getElem? (i := 421) (by decide +kernel)
theorem m_380 : Jvm.Cond.instanceMethod ({ cls := "ArithmeticRows", name := "needEncoding", desc := "()V" } : Jvm.MethodName) ∈ TT := TT_in (List.mem_of_getElem? (i := 422) (by decide +kernel)) rfl
set_option maxRecDepth 20000 in
theorem m_381 : Jvm.Cond.code ({ cls := "ArithmeticRows", name := "needEncoding", desc := "()V" } : Jvm.MethodName) prog_1_method_17_code (1 : Nat) (Option.none : Option Jvm.ClassFile.FieldType) ∈ TT := TT_in (List.mem_of_getElem? (i := 423) rfl) rfl
theorem m_382 : Jvm.Cond.classLink "ArithmeticRows" (114 : Nat) "java/lang/IllegalStateException" ∈ TT := TT_in (List.mem_of_getElem? (i := 424) (by decide +kernel)) rfl
theorem m_383 : Jvm.Cond.instantiable "java/lang/IllegalStateException" (6 : Nat) ∈ TT := TT_in (List.mem_of_getElem? (i := 425) (by decide +kernel)) rfl
theorem m_384 : Jvm.Cond.castable "java/lang/IllegalStateException" "java/lang/IllegalStateException" ∈ lw_tbl := List.mem_of_getElem? (i := 426) (by decide +kernel)
theorem m_385 : Jvm.Cond.selects "java/lang/IllegalStateException" ({ cls := "java/lang/Throwable", name := "fillInStackTrace", desc := "(I)Ljava/lang/Throwable;" } : Jvm.MethodName) ({ cls := "java/lang/Throwable", name := "fillInStackTrace", desc := "(I)Ljava/lang/Throwable;" } : Jvm.MethodName) ∈ TT := TT_in (List.mem_of_getElem? (i := 427) (by decide +kernel)) rfl
theorem m_386 : Jvm.Cond.lays "java/lang/IllegalStateException" "java/lang/Throwable" "cause" "Ljava/lang/Throwable;" ∈ TT := TT_in (List.mem_of_getElem? (i := 428) (by decide +kernel)) rfl
theorem m_387 : Jvm.Cond.lays "java/lang/IllegalStateException" "java/lang/Throwable" "stackTrace" "[Ljava/lang/StackTraceElement;" ∈ TT := TT_in (List.mem_of_getElem? (i := 429) (by decide +kernel)) rfl
theorem m_388 : Jvm.Cond.lays "java/lang/IllegalStateException" "java/lang/Throwable" "suppressedExceptions" "Ljava/util/List;" ∈ TT := TT_in (List.mem_of_getElem? (i := 430) (by decide +kernel)) rfl
theorem m_389 : Jvm.Cond.lays "java/lang/IllegalStateException" "java/lang/Throwable" "detailMessage" "Ljava/lang/String;" ∈ TT := TT_in (List.mem_of_getElem? (i := 431) (by decide +kernel)) rfl
theorem m_390 : Jvm.Cond.lays "java/lang/IllegalStateException" "java/lang/Throwable" "backtrace" "Ljava/lang/Object;" ∈ TT := TT_in (List.mem_of_getElem? (i := 432) (by decide +kernel)) rfl
theorem m_391 : Jvm.Cond.stringRef "ArithmeticRows" (200 : Nat) "it is decoding" ∈ lw_tbl := List.mem_of_getElem? (i := 433) (by decide +kernel)
theorem m_392 : Jvm.Cond.methodLink "ArithmeticRows" (118 : Nat) ({ cls := "java/lang/IllegalStateException", name := "<init>", desc := "(Ljava/lang/String;)V" } : Jvm.MethodName) ∈ TT := TT_in (List.mem_of_getElem? (i := 434) (by decide +kernel)) rfl
theorem m_393 : Jvm.Cond.instanceMethod ({ cls := "java/lang/IllegalStateException", name := "<init>", desc := "(Ljava/lang/String;)V" } : Jvm.MethodName) ∈ TT := TT_in (List.mem_of_getElem? (i := 435) (by decide +kernel)) rfl
set_option maxRecDepth 20000 in
theorem m_394 : Jvm.Cond.code ({ cls := "java/lang/IllegalStateException", name := "<init>", desc := "(Ljava/lang/String;)V" } : Jvm.MethodName) prog_11_method_2_code (2 : Nat) (Option.none : Option Jvm.ClassFile.FieldType) ∈ TT := TT_in (List.mem_of_getElem? (i := 436) rfl) rfl
theorem m_395 : Jvm.Cond.methodLink "java/lang/IllegalStateException" (7 : Nat) ({ cls := "java/lang/RuntimeException", name := "<init>", desc := "(Ljava/lang/String;)V" } : Jvm.MethodName) ∈ TT := TT_in (List.mem_of_getElem? (i := 437) (by decide +kernel)) rfl
theorem m_396 : Jvm.Cond.lays "java/lang/IllegalStateException" "java/lang/Throwable" "depth" "I" ∈ TT := TT_in (List.mem_of_getElem? (i := 438) (by decide +kernel)) rfl
theorem m_397 : Jvm.Cond.superclass "java/lang/IllegalStateException" "java/lang/RuntimeException" ∈ TT := TT_in (List.mem_of_getElem? (i := 439) (by decide +kernel)) rfl
theorem m_398 : Jvm.Cond.classLink "ArithmeticRows" (78 : Nat) "java/lang/IllegalArgumentException" ∈ TT := TT_in (List.mem_of_getElem? (i := 440) (by decide +kernel)) rfl
theorem m_399 : Jvm.Cond.instantiable "java/lang/IllegalArgumentException" (6 : Nat) ∈ TT := TT_in (List.mem_of_getElem? (i := 441) (by decide +kernel)) rfl
theorem m_400 : Jvm.Cond.castable "java/lang/IllegalArgumentException" "java/lang/IllegalArgumentException" ∈ lw_tbl := List.mem_of_getElem? (i := 442) (by decide +kernel)
theorem m_401 : Jvm.Cond.selects "java/lang/IllegalArgumentException" ({ cls := "java/lang/Throwable", name := "fillInStackTrace", desc := "(I)Ljava/lang/Throwable;" } : Jvm.MethodName) ({ cls := "java/lang/Throwable", name := "fillInStackTrace", desc := "(I)Ljava/lang/Throwable;" } : Jvm.MethodName) ∈ TT := TT_in (List.mem_of_getElem? (i := 443) (by decide +kernel)) rfl
theorem m_402 : Jvm.Cond.lays "java/lang/IllegalArgumentException" "java/lang/Throwable" "cause" "Ljava/lang/Throwable;" ∈ TT := TT_in (List.mem_of_getElem? (i := 444) (by decide +kernel)) rfl
theorem m_403 : Jvm.Cond.lays "java/lang/IllegalArgumentException" "java/lang/Throwable" "stackTrace" "[Ljava/lang/StackTraceElement;" ∈ TT := TT_in (List.mem_of_getElem? (i := 445) (by decide +kernel)) rfl
theorem m_404 : Jvm.Cond.lays "java/lang/IllegalArgumentException" "java/lang/Throwable" "suppressedExceptions" "Ljava/util/List;" ∈ TT := TT_in (List.mem_of_getElem? (i := 446) (by decide +kernel)) rfl
theorem m_405 : Jvm.Cond.lays "java/lang/IllegalArgumentException" "java/lang/Throwable" "detailMessage" "Ljava/lang/String;" ∈ TT := TT_in (List.mem_of_getElem? (i := 447) (by decide +kernel)) rfl
theorem m_406 : Jvm.Cond.lays "java/lang/IllegalArgumentException" "java/lang/Throwable" "backtrace" "Ljava/lang/Object;" ∈ TT := TT_in (List.mem_of_getElem? (i := 448) (by decide +kernel)) rfl
theorem m_407 : Jvm.Cond.stringRef "ArithmeticRows" (80 : Nat) "a bit is 0 or 1" ∈ lw_tbl := List.mem_of_getElem? (i := 449) (by decide +kernel)
theorem m_408 : Jvm.Cond.methodLink "ArithmeticRows" (82 : Nat) ({ cls := "java/lang/IllegalArgumentException", name := "<init>", desc := "(Ljava/lang/String;)V" } : Jvm.MethodName) ∈ TT := TT_in (List.mem_of_getElem? (i := 450) (by decide +kernel)) rfl
theorem m_409 : Jvm.Cond.instanceMethod ({ cls := "java/lang/IllegalArgumentException", name := "<init>", desc := "(Ljava/lang/String;)V" } : Jvm.MethodName) ∈ TT := TT_in (List.mem_of_getElem? (i := 451) (by decide +kernel)) rfl
set_option maxRecDepth 20000 in
theorem m_410 : Jvm.Cond.code ({ cls := "java/lang/IllegalArgumentException", name := "<init>", desc := "(Ljava/lang/String;)V" } : Jvm.MethodName) prog_10_method_2_code (2 : Nat) (Option.none : Option Jvm.ClassFile.FieldType) ∈ TT := TT_in (List.mem_of_getElem? (i := 452) rfl) rfl
theorem m_411 : Jvm.Cond.methodLink "java/lang/IllegalArgumentException" (7 : Nat) ({ cls := "java/lang/RuntimeException", name := "<init>", desc := "(Ljava/lang/String;)V" } : Jvm.MethodName) ∈ TT := TT_in (List.mem_of_getElem? (i := 453) (by decide +kernel)) rfl
theorem m_412 : Jvm.Cond.lays "java/lang/IllegalArgumentException" "java/lang/Throwable" "depth" "I" ∈ TT := TT_in (List.mem_of_getElem? (i := 454) (by decide +kernel)) rfl
theorem m_413 : Jvm.Cond.superclass "java/lang/IllegalArgumentException" "java/lang/RuntimeException" ∈ TT := TT_in (List.mem_of_getElem? (i := 455) (by decide +kernel)) rfl
theorem m_414 : Jvm.Cond.methodLink "ArithmeticRows" (88 : Nat) ({ cls := "ArithmeticRows$Encoder", name := "put", desc := "([III)V" } : Jvm.MethodName) ∈ TT := TT_in (List.mem_of_getElem? (i := 456) (by decide +kernel)) rfl
theorem m_415 : Jvm.Cond.instanceMethod ({ cls := "ArithmeticRows$Encoder", name := "put", desc := "([III)V" } : Jvm.MethodName) ∈ TT := TT_in (List.mem_of_getElem? (i := 457) (by decide +kernel)) rfl
theorem m_416 : Jvm.Cond.selects "ArithmeticRows$Encoder" ({ cls := "ArithmeticRows$Encoder", name := "put", desc := "([III)V" } : Jvm.MethodName) ({ cls := "ArithmeticRows$Encoder", name := "put", desc := "([III)V" } : Jvm.MethodName) ∈ TT := TT_in (List.mem_of_getElem? (i := 458) (by decide +kernel)) rfl
set_option maxRecDepth 20000 in
theorem m_417 : Jvm.Cond.code ({ cls := "ArithmeticRows$Encoder", name := "put", desc := "([III)V" } : Jvm.MethodName) prog_3_method_4_code (4 : Nat) (Option.none : Option Jvm.ClassFile.FieldType) ∈ TT := TT_in (List.mem_of_getElem? (i := 459) rfl) rfl
theorem m_418 : Jvm.Cond.methodLink "ArithmeticRows$Encoder" (55 : Nat) ({ cls := "ArithmeticRows$Encoder", name := "code", desc := "([III)V" } : Jvm.MethodName) ∈ TT := TT_in (List.mem_of_getElem? (i := 460) (by decide +kernel)) rfl
theorem m_419 : Jvm.Cond.privateMethod ({ cls := "ArithmeticRows$Encoder", name := "code", desc := "([III)V" } : Jvm.MethodName) ∈ lw_tbl := List.mem_of_getElem? (i := 461) (by decide +kernel)
theorem m_420 : Jvm.Cond.instanceMethod ({ cls := "ArithmeticRows$Encoder", name := "code", desc := "([III)V" } : Jvm.MethodName) ∈ TT := TT_in (List.mem_of_getElem? (i := 462) (by decide +kernel)) rfl
set_option maxRecDepth 20000 in
theorem m_421 : Jvm.Cond.code ({ cls := "ArithmeticRows$Encoder", name := "code", desc := "([III)V" } : Jvm.MethodName) prog_3_method_6_code (7 : Nat) (Option.none : Option Jvm.ClassFile.FieldType) ∈ TT := TT_in (List.mem_of_getElem? (i := 463) rfl) rfl
theorem m_422 : Jvm.Cond.methodLink "ArithmeticRows$Encoder" (68 : Nat) ({ cls := "ArithmeticRows$Table", name := "q", desc := "(I)I" } : Jvm.MethodName) ∈ TT := TT_in (List.mem_of_getElem? (i := 464) (by decide +kernel)) rfl
theorem m_423 : Jvm.Cond.static ({ cls := "ArithmeticRows$Table", name := "q", desc := "(I)I" } : Jvm.MethodName) ∈ TT := TT_in (List.mem_of_getElem? (i := 465) (by decide +kernel)) rfl
set_option maxRecDepth 20000 in
theorem m_424 : Jvm.Cond.code ({ cls := "ArithmeticRows$Table", name := "q", desc := "(I)I" } : Jvm.MethodName) prog_6_method_2_code (1 : Nat) (Option.some Jvm.ClassFile.FieldType.int) ∈ TT := TT_in (List.mem_of_getElem? (i := 466) rfl) rfl
theorem m_425 : Jvm.Cond.fieldLink "ArithmeticRows$Table" (7 : Nat) "ArithmeticRows$Table" "Q" "[I" ∈ TT := TT_in (List.mem_of_getElem? (i := 467) (by decide +kernel)) rfl
theorem m_426 : Jvm.Cond.laysStatic "ArithmeticRows$Table" "Q" "[I" ∈ lw_tbl := List.mem_of_getElem? (i := 468) (by decide +kernel)
theorem m_427 : Jvm.Cond.methodLinkNest "ArithmeticRows$Table" (13 : Nat) ({ cls := "ArithmeticRows", name := "at", desc := "([II)I" } : Jvm.MethodName) "ArithmeticRows" ∈ lw_tbl := List.mem_of_getElem? (i := 469) (by decide +kernel)
theorem m_428 : Jvm.Cond.static ({ cls := "ArithmeticRows", name := "at", desc := "([II)I" } : Jvm.MethodName) ∈ TT := TT_in (List.mem_of_getElem? (i := 470) (by decide +kernel)) rfl
set_option maxRecDepth 20000 in
theorem m_429 : Jvm.Cond.code ({ cls := "ArithmeticRows", name := "at", desc := "([II)I" } : Jvm.MethodName) prog_1_method_24_code (2 : Nat) (Option.some Jvm.ClassFile.FieldType.int) ∈ TT := TT_in (List.mem_of_getElem? (i := 471) rfl) rfl
theorem m_430 : Jvm.Cond.methodLink "ArithmeticRows$Encoder" (74 : Nat) ({ cls := "ArithmeticRows$Table", name := "behindLikely", desc := "(I)I" } : Jvm.MethodName) ∈ TT := TT_in (List.mem_of_getElem? (i := 472) (by decide +kernel)) rfl
theorem m_431 : Jvm.Cond.static ({ cls := "ArithmeticRows$Table", name := "behindLikely", desc := "(I)I" } : Jvm.MethodName) ∈ TT := TT_in (List.mem_of_getElem? (i := 473) (by decide +kernel)) rfl
set_option maxRecDepth 20000 in
theorem m_432 : Jvm.Cond.code ({ cls := "ArithmeticRows$Table", name := "behindLikely", desc := "(I)I" } : Jvm.MethodName) prog_6_method_3_code (1 : Nat) (Option.some Jvm.ClassFile.FieldType.int) ∈ TT := TT_in (List.mem_of_getElem? (i := 474) rfl) rfl
theorem m_433 : Jvm.Cond.fieldLink "ArithmeticRows$Table" (19 : Nat) "ArithmeticRows$Table" "BEHIND_LIKELY" "[I" ∈ TT := TT_in (List.mem_of_getElem? (i := 475) (by decide +kernel)) rfl
theorem m_434 : Jvm.Cond.laysStatic "ArithmeticRows$Table" "BEHIND_LIKELY" "[I" ∈ lw_tbl := List.mem_of_getElem? (i := 476) (by decide +kernel)
theorem m_435 : Jvm.Cond.methodLink "ArithmeticRows$Encoder" (77 : Nat) ({ cls := "ArithmeticRows$Table", name := "behindOther", desc := "(I)I" } : Jvm.MethodName) ∈ TT := TT_in (List.mem_of_getElem? (i := 477) (by decide +kernel)) rfl
theorem m_436 : Jvm.Cond.static ({ cls := "ArithmeticRows$Table", name := "behindOther", desc := "(I)I" } : Jvm.MethodName) ∈ TT := TT_in (List.mem_of_getElem? (i := 478) (by decide +kernel)) rfl
set_option maxRecDepth 20000 in
theorem m_437 : Jvm.Cond.code ({ cls := "ArithmeticRows$Table", name := "behindOther", desc := "(I)I" } : Jvm.MethodName) prog_6_method_4_code (4 : Nat) (Option.some Jvm.ClassFile.FieldType.int) ∈ TT := TT_in (List.mem_of_getElem? (i := 479) rfl) rfl
theorem m_438 : Jvm.Cond.fieldLink "ArithmeticRows$Table" (22 : Nat) "ArithmeticRows$Table" "BEHIND_OTHER" "[I" ∈ TT := TT_in (List.mem_of_getElem? (i := 480) (by decide +kernel)) rfl
theorem m_439 : Jvm.Cond.laysStatic "ArithmeticRows$Table" "BEHIND_OTHER" "[I" ∈ lw_tbl := List.mem_of_getElem? (i := 481) (by decide +kernel)
theorem m_440 : Jvm.Cond.methodLink "ArithmeticRows$Encoder" (80 : Nat) ({ cls := "ArithmeticRows$Encoder", name := "renew", desc := "()V" } : Jvm.MethodName) ∈ TT := TT_in (List.mem_of_getElem? (i := 482) (by decide +kernel)) rfl
theorem m_441 : Jvm.Cond.privateMethod ({ cls := "ArithmeticRows$Encoder", name := "renew", desc := "()V" } : Jvm.MethodName) ∈ lw_tbl := List.mem_of_getElem? (i := 483) (by decide +kernel)
theorem m_442 : Jvm.Cond.instanceMethod ({ cls := "ArithmeticRows$Encoder", name := "renew", desc := "()V" } : Jvm.MethodName) ∈ TT := TT_in (List.mem_of_getElem? (i := 484) (by decide +kernel)) rfl
set_option maxRecDepth 20000 in
theorem m_443 : Jvm.Cond.code ({ cls := "ArithmeticRows$Encoder", name := "renew", desc := "()V" } : Jvm.MethodName) prog_3_method_7_code (2 : Nat) (Option.none : Option Jvm.ClassFile.FieldType) ∈ TT := TT_in (List.mem_of_getElem? (i := 485) rfl) rfl
theorem m_444 : Jvm.Cond.methodLink "ArithmeticRows" (92 : Nat) ({ cls := "ArithmeticRows$Row", name := "length", desc := "()I" } : Jvm.MethodName) ∈ TT := TT_in (List.mem_of_getElem? (i := 486) (by decide +kernel)) rfl
theorem m_445 : Jvm.Cond.instanceMethod ({ cls := "ArithmeticRows$Row", name := "length", desc := "()I" } : Jvm.MethodName) ∈ TT := TT_in (List.mem_of_getElem? (i := 487) (by decide +kernel)) rfl
theorem m_446 : Jvm.Cond.selects "ArithmeticRows$Row" ({ cls := "ArithmeticRows$Row", name := "length", desc := "()I" } : Jvm.MethodName) ({ cls := "ArithmeticRows$Row", name := "length", desc := "()I" } : Jvm.MethodName) ∈ TT := TT_in (List.mem_of_getElem? (i := 488) (by decide +kernel)) rfl
set_option maxRecDepth 20000 in
theorem m_447 : Jvm.Cond.code ({ cls := "ArithmeticRows$Row", name := "length", desc := "()I" } : Jvm.MethodName) prog_4_method_3_code (1 : Nat) (Option.some Jvm.ClassFile.FieldType.int) ∈ TT := TT_in (List.mem_of_getElem? (i := 489) rfl) rfl
theorem m_448 : Jvm.Cond.methodLink "ArithmeticRowsLaw" (65 : Nat) ({ cls := "ArithmeticRowsLaw", name := "finish", desc := "(LArithmeticRows;[J)I" } : Jvm.MethodName) ∈ TT := TT_in (List.mem_of_getElem? (i := 490) (by decide +kernel)) rfl
theorem m_449 : Jvm.Cond.static ({ cls := "ArithmeticRowsLaw", name := "finish", desc := "(LArithmeticRows;[J)I" } : Jvm.MethodName) ∈ TT := TT_in (List.mem_of_getElem? (i := 491) (by decide +kernel)) rfl
