theorem tb_0 {w : Cond} (h : w ∈ k2_sels lw_privs) : w ∈ lw_tbl := List.mem_append_left _ h
theorem tb_1 {w : Cond} (h : w ∈ tables_1_1) : w ∈ lw_tbl := List.mem_append_right _ (List.mem_append_left _ h)
theorem tb_2 {w : Cond} (h : w ∈ tables_1_2) : w ∈ lw_tbl := List.mem_append_right _ (List.mem_append_right _ (List.mem_append_left _ h))
theorem tb_3 {w : Cond} (h : w ∈ tables_1_3) : w ∈ lw_tbl := List.mem_append_right _ (List.mem_append_right _ (List.mem_append_right _ (List.mem_append_left _ h)))
theorem tb_4 {w : Cond} (h : w ∈ tables_1_4) : w ∈ lw_tbl := List.mem_append_right _ (List.mem_append_right _ (List.mem_append_right _ (List.mem_append_right _ (List.mem_append_left _ h))))
theorem tb_5 {w : Cond} (h : w ∈ tables_1_5) : w ∈ lw_tbl := List.mem_append_right _ (List.mem_append_right _ (List.mem_append_right _ (List.mem_append_right _ (List.mem_append_right _ (List.mem_append_left _ h)))))
theorem tb_6 {w : Cond} (h : w ∈ tables_1_6) : w ∈ lw_tbl := List.mem_append_right _ (List.mem_append_right _ (List.mem_append_right _ (List.mem_append_right _ (List.mem_append_right _ (List.mem_append_right _ (List.mem_append_left _ h))))))
theorem tb_7 {w : Cond} (h : w ∈ tables_1_7) : w ∈ lw_tbl := List.mem_append_right _ (List.mem_append_right _ (List.mem_append_right _ (List.mem_append_right _ (List.mem_append_right _ (List.mem_append_right _ (List.mem_append_right _ (h)))))))
theorem W_1_0 : (Cond.initialized "HashgraphDeskLaw") ∈ GW := gw_in (tb_1 (List.mem_of_getElem? (i := 0) rfl)) rfl
theorem W_1_1 : (Cond.initialized "HashgraphDesk") ∈ GW := gw_in (tb_1 (List.mem_of_getElem? (i := 1) rfl)) rfl
theorem W_1_2 : (Cond.initialized "HashgraphDesk$Waiting") ∈ GW := gw_in (tb_1 (List.mem_of_getElem? (i := 2) rfl)) rfl
theorem W_1_3 : (Cond.initialized "HashgraphDesk$Events") ∈ GW := gw_in (tb_1 (List.mem_of_getElem? (i := 3) rfl)) rfl
theorem W_1_4 : (Cond.initialized "HashgraphDesk$Sha256") ∈ GW := gw_in (tb_1 (List.mem_of_getElem? (i := 4) rfl)) rfl
theorem W_1_5 : (Cond.initialized "HashgraphDesk$BitTable") ∈ GW := gw_in (tb_1 (List.mem_of_getElem? (i := 5) rfl)) rfl
theorem W_1_6 : (Cond.initialized "HashgraphDesk$Graph") ∈ GW := gw_in (tb_1 (List.mem_of_getElem? (i := 6) rfl)) rfl
theorem W_1_7 : (Cond.initialized "HashgraphDesk$Election") ∈ GW := gw_in (tb_1 (List.mem_of_getElem? (i := 7) rfl)) rfl
theorem W_1_8 : (Cond.initialized "HashgraphDesk$View") ∈ GW := gw_in (tb_1 (List.mem_of_getElem? (i := 8) rfl)) rfl
theorem W_1_9 : (Cond.initialized "java/util/Arrays") ∈ GW := gw_in (tb_1 (List.mem_of_getElem? (i := 9) rfl)) rfl
theorem W_1_10 : (Cond.initialized "java/lang/System") ∈ GW := gw_in (tb_1 (List.mem_of_getElem? (i := 10) rfl)) rfl
theorem W_1_11 : (Cond.initialized "java/lang/Throwable") ∈ GW := gw_in (tb_1 (List.mem_of_getElem? (i := 11) rfl)) rfl
theorem W_1_12 : (Cond.initialized "java/lang/Exception") ∈ GW := gw_in (tb_1 (List.mem_of_getElem? (i := 12) rfl)) rfl
theorem W_1_13 : (Cond.initialized "java/lang/RuntimeException") ∈ GW := gw_in (tb_1 (List.mem_of_getElem? (i := 13) rfl)) rfl
theorem W_1_14 : (Cond.initialized "java/lang/IllegalArgumentException") ∈ GW := gw_in (tb_1 (List.mem_of_getElem? (i := 14) rfl)) rfl
theorem W_1_15 : (Cond.initialized "java/lang/AbstractStringBuilder") ∈ GW := gw_in (tb_1 (List.mem_of_getElem? (i := 15) rfl)) rfl
theorem W_1_16 : (Cond.initialized "java/lang/StringBuilder") ∈ GW := gw_in (tb_1 (List.mem_of_getElem? (i := 16) rfl)) rfl
theorem W_1_17 : (Cond.initialized "java/lang/String") ∈ GW := gw_in (tb_1 (List.mem_of_getElem? (i := 17) rfl)) rfl
theorem W_1_18 : (Cond.initialized "java/lang/StringUTF16") ∈ GW := gw_in (tb_1 (List.mem_of_getElem? (i := 18) rfl)) rfl
theorem W_1_19 : (Cond.initialized "jdk/internal/util/ArraysSupport") ∈ GW := gw_in (tb_1 (List.mem_of_getElem? (i := 19) rfl)) rfl
theorem W_1_20 : (Cond.initialized "java/lang/Math") ∈ GW := gw_in (tb_1 (List.mem_of_getElem? (i := 20) rfl)) rfl
theorem W_1_21 : (Cond.initialized "jdk/internal/util/Preconditions") ∈ GW := gw_in (tb_1 (List.mem_of_getElem? (i := 21) rfl)) rfl
theorem W_1_22 : (Cond.initialized "java/lang/StringLatin1") ∈ GW := gw_in (tb_1 (List.mem_of_getElem? (i := 22) rfl)) rfl
theorem W_1_23 : (Cond.initialized "java/lang/Number") ∈ GW := gw_in (tb_1 (List.mem_of_getElem? (i := 23) rfl)) rfl
theorem W_1_24 : (Cond.initialized "java/lang/Integer") ∈ GW := gw_in (tb_1 (List.mem_of_getElem? (i := 24) rfl)) rfl
theorem W_1_25 : (Cond.initialized "java/lang/IndexOutOfBoundsException") ∈ GW := gw_in (tb_1 (List.mem_of_getElem? (i := 25) rfl)) rfl
theorem W_1_26 : (Cond.initialized "java/lang/ArrayIndexOutOfBoundsException") ∈ GW := gw_in (tb_1 (List.mem_of_getElem? (i := 26) rfl)) rfl
theorem W_1_27 : (Cond.initialized "java/lang/Long") ∈ GW := gw_in (tb_1 (List.mem_of_getElem? (i := 27) rfl)) rfl
theorem W_1_28 : (Cond.initialized "HashgraphDeskModel") ∈ GW := gw_in (tb_1 (List.mem_of_getElem? (i := 28) rfl)) rfl
theorem W_1_29 : (Cond.initialized "java/lang/IllegalStateException") ∈ GW := gw_in (tb_1 (List.mem_of_getElem? (i := 29) rfl)) rfl
theorem W_1_30 : (Cond.initialized "java/lang/UnsupportedOperationException") ∈ GW := gw_in (tb_1 (List.mem_of_getElem? (i := 30) rfl)) rfl
theorem W_1_31 : (Cond.classLink "HashgraphDeskLaw" (8 : Nat) "HashgraphDesk") ∈ GW := gw_in (tb_1 (List.mem_of_getElem? (i := 31) rfl)) rfl
theorem W_1_32 : (Cond.instantiable "HashgraphDesk" (7 : Nat)) ∈ GW := gw_in (tb_1 (List.mem_of_getElem? (i := 32) rfl)) rfl
theorem W_1_33 : (Cond.methodLink "HashgraphDeskLaw" (67 : Nat) yX7_init) ∈ GW := gw_in (tb_1 (List.mem_of_getElem? (i := 33) rfl)) rfl
theorem W_1_34 : (Cond.instanceMethod yX7_init) ∈ GW := gw_in (tb_1 (List.mem_of_getElem? (i := 34) rfl)) rfl
theorem W_1_35 : (Cond.code yX7_init prog_1_method_1_code (2 : Nat) (Option.none : Option Jvm.ClassFile.FieldType)) ∈ GW := gw_in (tb_1 (List.mem_of_getElem? (i := 35) rfl)) rfl
theorem W_1_36 : (Cond.methodLink "HashgraphDesk" (1 : Nat) ({ cls := "java/lang/Object", name := "<init>", desc := "()V" } : Jvm.MethodName)) ∈ GW := gw_in (tb_1 (List.mem_of_getElem? (i := 36) rfl)) rfl
theorem W_1_37 : (Cond.instanceMethod ({ cls := "java/lang/Object", name := "<init>", desc := "()V" } : Jvm.MethodName)) ∈ GW := gw_in (tb_1 (List.mem_of_getElem? (i := 37) rfl)) rfl
theorem W_1_38 : (Cond.code ({ cls := "java/lang/Object", name := "<init>", desc := "()V" } : Jvm.MethodName) object_method_1_code (1 : Nat) (Option.none : Option Jvm.ClassFile.FieldType)) ∈ GW := gw_in (tb_1 (List.mem_of_getElem? (i := 38) rfl)) rfl
theorem W_1_39 : (Cond.classLink "HashgraphDesk" (7 : Nat) "HashgraphDesk$Waiting") ∈ GW := gw_in (tb_1 (List.mem_of_getElem? (i := 39) rfl)) rfl
theorem W_1_40 : (Cond.instantiable "HashgraphDesk$Waiting" (3 : Nat)) ∈ GW := gw_in (tb_1 (List.mem_of_getElem? (i := 40) rfl)) rfl
theorem W_1_42 : (Cond.instanceMethod yX6_init) ∈ GW := gw_in (tb_1 (List.mem_of_getElem? (i := 42) rfl)) rfl
theorem W_1_43 : (Cond.code yX6_init prog_8_method_1_code (1 : Nat) (Option.none : Option Jvm.ClassFile.FieldType)) ∈ GW := gw_in (tb_1 (List.mem_of_getElem? (i := 43) rfl)) rfl
theorem W_1_44 : (Cond.methodLink "HashgraphDesk$Waiting" (3 : Nat) ({ cls := "java/lang/Object", name := "<init>", desc := "()V" } : Jvm.MethodName)) ∈ GW := gw_in (tb_1 (List.mem_of_getElem? (i := 44) rfl)) rfl
theorem W_1_45 : (Cond.fieldLink "HashgraphDesk$Waiting" (11 : Nat) "HashgraphDesk$Waiting" "to" "[I") ∈ GW := gw_in (tb_1 (List.mem_of_getElem? (i := 45) rfl)) rfl
theorem W_1_46 : (Cond.fieldLink "HashgraphDesk$Waiting" (15 : Nat) "HashgraphDesk$Waiting" "amount" "[I") ∈ GW := gw_in (tb_1 (List.mem_of_getElem? (i := 46) rfl)) rfl
theorem W_1_47 : (Cond.fieldLink "HashgraphDesk$Waiting" (18 : Nat) "HashgraphDesk$Waiting" "length" "[I") ∈ GW := gw_in (tb_1 (List.mem_of_getElem? (i := 47) rfl)) rfl
theorem W_1_49 : (Cond.laysFinal "HashgraphDesk$Waiting" "HashgraphDesk$Waiting" "to" "[I") ∈ GW := gw_in (tb_1 (List.mem_of_getElem? (i := 49) rfl)) rfl
theorem W_1_51 : (Cond.laysFinal "HashgraphDesk$Waiting" "HashgraphDesk$Waiting" "amount" "[I") ∈ GW := gw_in (tb_1 (List.mem_of_getElem? (i := 51) rfl)) rfl
theorem W_1_53 : (Cond.laysFinal "HashgraphDesk$Waiting" "HashgraphDesk$Waiting" "length" "[I") ∈ GW := gw_in (tb_1 (List.mem_of_getElem? (i := 53) rfl)) rfl
theorem W_1_56 : (Cond.arrayClass Jvm.ClassFile.FieldType.int) ∈ GW := gw_in (tb_1 (List.mem_of_getElem? (i := 56) rfl)) rfl
theorem W_1_57 : (Cond.classLink "HashgraphDesk" (16 : Nat) "HashgraphDesk$Events") ∈ GW := gw_in (tb_1 (List.mem_of_getElem? (i := 57) rfl)) rfl
theorem W_1_58 : (Cond.instantiable "HashgraphDesk$Events" (11 : Nat)) ∈ GW := gw_in (tb_1 (List.mem_of_getElem? (i := 58) rfl)) rfl
theorem W_1_60 : (Cond.instanceMethod yX2_init) ∈ GW := gw_in (tb_1 (List.mem_of_getElem? (i := 60) rfl)) rfl
theorem W_1_61 : (Cond.code yX2_init prog_4_method_1_code (1 : Nat) (Option.none : Option Jvm.ClassFile.FieldType)) ∈ GW := gw_in (tb_1 (List.mem_of_getElem? (i := 61) rfl)) rfl
theorem W_1_62 : (Cond.methodLink "HashgraphDesk$Events" (3 : Nat) ({ cls := "java/lang/Object", name := "<init>", desc := "()V" } : Jvm.MethodName)) ∈ GW := gw_in (tb_1 (List.mem_of_getElem? (i := 62) rfl)) rfl
theorem W_1_63 : (Cond.classLink "HashgraphDesk$Events" (9 : Nat) "HashgraphDesk$Sha256") ∈ GW := gw_in (tb_1 (List.mem_of_getElem? (i := 63) rfl)) rfl
theorem W_1_64 : (Cond.instantiable "HashgraphDesk$Sha256" (4 : Nat)) ∈ GW := gw_in (tb_1 (List.mem_of_getElem? (i := 64) rfl)) rfl
theorem W_1_66 : (Cond.instanceMethod yX4_init) ∈ GW := gw_in (tb_1 (List.mem_of_getElem? (i := 66) rfl)) rfl
theorem W_1_67 : (Cond.code yX4_init prog_6_method_1_code (1 : Nat) (Option.none : Option Jvm.ClassFile.FieldType)) ∈ GW := gw_in (tb_1 (List.mem_of_getElem? (i := 67) rfl)) rfl
theorem W_1_68 : (Cond.methodLink "HashgraphDesk$Sha256" (3 : Nat) ({ cls := "java/lang/Object", name := "<init>", desc := "()V" } : Jvm.MethodName)) ∈ GW := gw_in (tb_1 (List.mem_of_getElem? (i := 68) rfl)) rfl
theorem W_1_69 : (Cond.fieldLink "HashgraphDesk$Sha256" (11 : Nat) "HashgraphDesk$Sha256" "message" "[I") ∈ GW := gw_in (tb_1 (List.mem_of_getElem? (i := 69) rfl)) rfl
theorem W_1_70 : (Cond.fieldLink "HashgraphDesk$Sha256" (15 : Nat) "HashgraphDesk$Sha256" "schedule" "[I") ∈ GW := gw_in (tb_1 (List.mem_of_getElem? (i := 70) rfl)) rfl
theorem W_1_71 : (Cond.fieldLink "HashgraphDesk$Sha256" (18 : Nat) "HashgraphDesk$Sha256" "state" "[I") ∈ GW := gw_in (tb_1 (List.mem_of_getElem? (i := 71) rfl)) rfl
theorem W_1_72 : (Cond.fieldLink "HashgraphDesk$Sha256" (27 : Nat) "HashgraphDesk$Sha256" "length" "I") ∈ GW := gw_in (tb_1 (List.mem_of_getElem? (i := 72) rfl)) rfl
theorem W_1_73 : (Cond.laysFinal "HashgraphDesk$Sha256" "HashgraphDesk$Sha256" "message" "[I") ∈ GW := gw_in (tb_1 (List.mem_of_getElem? (i := 73) rfl)) rfl
theorem W_1_75 : (Cond.laysFinal "HashgraphDesk$Sha256" "HashgraphDesk$Sha256" "schedule" "[I") ∈ GW := gw_in (tb_1 (List.mem_of_getElem? (i := 75) rfl)) rfl
theorem W_1_77 : (Cond.laysFinal "HashgraphDesk$Sha256" "HashgraphDesk$Sha256" "state" "[I") ∈ GW := gw_in (tb_1 (List.mem_of_getElem? (i := 77) rfl)) rfl
theorem W_1_79 : (Cond.lays "HashgraphDesk$Sha256" "HashgraphDesk$Sha256" "length" "I") ∈ GW := gw_in (tb_1 (List.mem_of_getElem? (i := 79) rfl)) rfl
theorem W_1_82 : (Cond.classLink "HashgraphDesk$Events" (44 : Nat) "HashgraphDesk$BitTable") ∈ GW := gw_in (tb_1 (List.mem_of_getElem? (i := 82) rfl)) rfl
theorem W_1_83 : (Cond.instantiable "HashgraphDesk$BitTable" (2 : Nat)) ∈ GW := gw_in (tb_1 (List.mem_of_getElem? (i := 83) rfl)) rfl
theorem W_1_84 : (Cond.methodLink "HashgraphDesk$Events" (46 : Nat) yX0_init) ∈ GW := gw_in (tb_1 (List.mem_of_getElem? (i := 84) rfl)) rfl
theorem W_1_85 : (Cond.instanceMethod yX0_init) ∈ GW := gw_in (tb_1 (List.mem_of_getElem? (i := 85) rfl)) rfl
theorem W_1_86 : (Cond.code yX0_init prog_2_method_1_code (2 : Nat) (Option.none : Option Jvm.ClassFile.FieldType)) ∈ GW := gw_in (tb_1 (List.mem_of_getElem? (i := 86) rfl)) rfl
theorem W_1_87 : (Cond.methodLink "HashgraphDesk$BitTable" (3 : Nat) ({ cls := "java/lang/Object", name := "<init>", desc := "()V" } : Jvm.MethodName)) ∈ GW := gw_in (tb_1 (List.mem_of_getElem? (i := 87) rfl)) rfl
theorem W_1_88 : (Cond.fieldLink "HashgraphDesk$BitTable" (9 : Nat) "HashgraphDesk$BitTable" "rows" "I") ∈ GW := gw_in (tb_1 (List.mem_of_getElem? (i := 88) rfl)) rfl
theorem W_1_89 : (Cond.fieldLink "HashgraphDesk$BitTable" (15 : Nat) "HashgraphDesk$BitTable" "words" "[J") ∈ GW := gw_in (tb_1 (List.mem_of_getElem? (i := 89) rfl)) rfl
theorem W_1_90 : (Cond.laysFinal "HashgraphDesk$BitTable" "HashgraphDesk$BitTable" "rows" "I") ∈ GW := gw_in (tb_1 (List.mem_of_getElem? (i := 90) rfl)) rfl
theorem W_1_92 : (Cond.laysFinal "HashgraphDesk$BitTable" "HashgraphDesk$BitTable" "words" "[J") ∈ GW := gw_in (tb_1 (List.mem_of_getElem? (i := 92) rfl)) rfl
theorem W_1_95 : (Cond.arrayClass Jvm.ClassFile.FieldType.long) ∈ GW := gw_in (tb_1 (List.mem_of_getElem? (i := 95) rfl)) rfl
theorem W_1_96 : (Cond.fieldLink "HashgraphDesk$Events" (12 : Nat) "HashgraphDesk$Events" "sha" "LHashgraphDesk$Sha256;") ∈ GW := gw_in (tb_1 (List.mem_of_getElem? (i := 96) rfl)) rfl
theorem W_1_97 : (Cond.fieldLink "HashgraphDesk$Events" (18 : Nat) "HashgraphDesk$Events" "creator" "[I") ∈ GW := gw_in (tb_1 (List.mem_of_getElem? (i := 97) rfl)) rfl
theorem W_1_101 : (Cond.fieldLink "HashgraphDesk$Events" (22 : Nat) "HashgraphDesk$Events" "self" "[I") ∈ GW := gw_in (tb_1 (List.mem_of_getElem? (i := 101) rfl)) rfl
theorem W_1_105 : (Cond.fieldLink "HashgraphDesk$Events" (25 : Nat) "HashgraphDesk$Events" "other" "[I") ∈ GW := gw_in (tb_1 (List.mem_of_getElem? (i := 105) rfl)) rfl
theorem W_1_108 : (Cond.fieldLink "HashgraphDesk$Events" (28 : Nat) "HashgraphDesk$Events" "time" "[J") ∈ GW := gw_in (tb_1 (List.mem_of_getElem? (i := 108) rfl)) rfl
theorem W_1_110 : (Cond.fieldLink "HashgraphDesk$Events" (32 : Nat) "HashgraphDesk$Events" "transactions" "[I") ∈ GW := gw_in (tb_1 (List.mem_of_getElem? (i := 110) rfl)) rfl
theorem W_1_113 : (Cond.fieldLink "HashgraphDesk$Events" (35 : Nat) "HashgraphDesk$Events" "to" "[I") ∈ GW := gw_in (tb_1 (List.mem_of_getElem? (i := 113) rfl)) rfl
theorem W_1_115 : (Cond.fieldLink "HashgraphDesk$Events" (38 : Nat) "HashgraphDesk$Events" "amount" "[I") ∈ GW := gw_in (tb_1 (List.mem_of_getElem? (i := 115) rfl)) rfl
theorem W_1_117 : (Cond.fieldLink "HashgraphDesk$Events" (41 : Nat) "HashgraphDesk$Events" "hashes" "[I") ∈ GW := gw_in (tb_1 (List.mem_of_getElem? (i := 117) rfl)) rfl
theorem W_1_118 : (Cond.fieldLink "HashgraphDesk$Events" (49 : Nat) "HashgraphDesk$Events" "holdings" "LHashgraphDesk$BitTable;") ∈ GW := gw_in (tb_1 (List.mem_of_getElem? (i := 118) rfl)) rfl
theorem W_1_121 : (Cond.fieldLink "HashgraphDesk$Events" (53 : Nat) "HashgraphDesk$Events" "size" "I") ∈ GW := gw_in (tb_1 (List.mem_of_getElem? (i := 121) rfl)) rfl
theorem W_1_124 : (Cond.laysFinal "HashgraphDesk$Events" "HashgraphDesk$Events" "sha" "LHashgraphDesk$Sha256;") ∈ GW := gw_in (tb_1 (List.mem_of_getElem? (i := 124) rfl)) rfl
theorem W_1_126 : (Cond.laysFinal "HashgraphDesk$Events" "HashgraphDesk$Events" "creator" "[I") ∈ GW := gw_in (tb_1 (List.mem_of_getElem? (i := 126) rfl)) rfl
theorem W_1_128 : (Cond.laysFinal "HashgraphDesk$Events" "HashgraphDesk$Events" "self" "[I") ∈ GW := gw_in (tb_1 (List.mem_of_getElem? (i := 128) rfl)) rfl
theorem W_1_130 : (Cond.laysFinal "HashgraphDesk$Events" "HashgraphDesk$Events" "other" "[I") ∈ GW := gw_in (tb_1 (List.mem_of_getElem? (i := 130) rfl)) rfl
theorem W_1_132 : (Cond.laysFinal "HashgraphDesk$Events" "HashgraphDesk$Events" "time" "[J") ∈ GW := gw_in (tb_1 (List.mem_of_getElem? (i := 132) rfl)) rfl
theorem W_1_134 : (Cond.laysFinal "HashgraphDesk$Events" "HashgraphDesk$Events" "transactions" "[I") ∈ GW := gw_in (tb_1 (List.mem_of_getElem? (i := 134) rfl)) rfl
theorem W_1_136 : (Cond.laysFinal "HashgraphDesk$Events" "HashgraphDesk$Events" "to" "[I") ∈ GW := gw_in (tb_1 (List.mem_of_getElem? (i := 136) rfl)) rfl
theorem W_1_138 : (Cond.laysFinal "HashgraphDesk$Events" "HashgraphDesk$Events" "amount" "[I") ∈ GW := gw_in (tb_1 (List.mem_of_getElem? (i := 138) rfl)) rfl
theorem W_1_140 : (Cond.laysFinal "HashgraphDesk$Events" "HashgraphDesk$Events" "hashes" "[I") ∈ GW := gw_in (tb_1 (List.mem_of_getElem? (i := 140) rfl)) rfl
theorem W_1_142 : (Cond.laysFinal "HashgraphDesk$Events" "HashgraphDesk$Events" "holdings" "LHashgraphDesk$BitTable;") ∈ GW := gw_in (tb_1 (List.mem_of_getElem? (i := 142) rfl)) rfl
theorem W_1_144 : (Cond.lays "HashgraphDesk$Events" "HashgraphDesk$Events" "size" "I") ∈ GW := gw_in (tb_1 (List.mem_of_getElem? (i := 144) rfl)) rfl
theorem W_1_147 : (Cond.classLink "HashgraphDesk" (23 : Nat) "HashgraphDesk$Graph") ∈ GW := gw_in (tb_1 (List.mem_of_getElem? (i := 147) rfl)) rfl
theorem W_1_148 : (Cond.instantiable "HashgraphDesk$Graph" (14 : Nat)) ∈ GW := gw_in (tb_1 (List.mem_of_getElem? (i := 148) rfl)) rfl
theorem W_1_149 : (Cond.methodLink "HashgraphDesk" (25 : Nat) yX3_init) ∈ GW := gw_in (tb_1 (List.mem_of_getElem? (i := 149) rfl)) rfl
theorem W_1_150 : (Cond.instanceMethod yX3_init) ∈ GW := gw_in (tb_1 (List.mem_of_getElem? (i := 150) rfl)) rfl
theorem W_1_151 : (Cond.code yX3_init prog_5_method_1_code (2 : Nat) (Option.none : Option Jvm.ClassFile.FieldType)) ∈ GW := gw_in (tb_1 (List.mem_of_getElem? (i := 151) rfl)) rfl
theorem W_1_152 : (Cond.methodLink "HashgraphDesk$Graph" (3 : Nat) ({ cls := "java/lang/Object", name := "<init>", desc := "()V" } : Jvm.MethodName)) ∈ GW := gw_in (tb_1 (List.mem_of_getElem? (i := 152) rfl)) rfl
theorem W_1_153 : (Cond.classLink "HashgraphDesk$Graph" (9 : Nat) "HashgraphDesk$BitTable") ∈ GW := gw_in (tb_1 (List.mem_of_getElem? (i := 153) rfl)) rfl
theorem W_1_154 : (Cond.methodLink "HashgraphDesk$Graph" (11 : Nat) yX0_init) ∈ GW := gw_in (tb_1 (List.mem_of_getElem? (i := 154) rfl)) rfl
theorem W_1_155 : (Cond.fieldLink "HashgraphDesk$Graph" (49 : Nat) "HashgraphDesk$Graph" "events" "LHashgraphDesk$Events;") ∈ GW := gw_in (tb_1 (List.mem_of_getElem? (i := 155) rfl)) rfl
theorem W_1_156 : (Cond.fieldLink "HashgraphDesk$Graph" (14 : Nat) "HashgraphDesk$Graph" "ancestors" "LHashgraphDesk$BitTable;") ∈ GW := gw_in (tb_1 (List.mem_of_getElem? (i := 156) rfl)) rfl
theorem W_1_159 : (Cond.fieldLink "HashgraphDesk$Graph" (20 : Nat) "HashgraphDesk$Graph" "seen" "LHashgraphDesk$BitTable;") ∈ GW := gw_in (tb_1 (List.mem_of_getElem? (i := 159) rfl)) rfl
theorem W_1_162 : (Cond.fieldLink "HashgraphDesk$Graph" (23 : Nat) "HashgraphDesk$Graph" "stronglySeen" "LHashgraphDesk$BitTable;") ∈ GW := gw_in (tb_1 (List.mem_of_getElem? (i := 162) rfl)) rfl
theorem W_1_165 : (Cond.fieldLink "HashgraphDesk$Graph" (26 : Nat) "HashgraphDesk$Graph" "seenThrough" "LHashgraphDesk$BitTable;") ∈ GW := gw_in (tb_1 (List.mem_of_getElem? (i := 165) rfl)) rfl
theorem W_1_166 : (Cond.fieldLink "HashgraphDesk$Graph" (29 : Nat) "HashgraphDesk$Graph" "depth" "[I") ∈ GW := gw_in (tb_1 (List.mem_of_getElem? (i := 166) rfl)) rfl
theorem W_1_167 : (Cond.fieldLink "HashgraphDesk$Graph" (33 : Nat) "HashgraphDesk$Graph" "round" "[I") ∈ GW := gw_in (tb_1 (List.mem_of_getElem? (i := 167) rfl)) rfl
theorem W_1_171 : (Cond.fieldLink "HashgraphDesk$Graph" (36 : Nat) "HashgraphDesk$Graph" "witness" "[Z") ∈ GW := gw_in (tb_1 (List.mem_of_getElem? (i := 171) rfl)) rfl
theorem W_1_174 : (Cond.fieldLink "HashgraphDesk$Graph" (40 : Nat) "HashgraphDesk$Graph" "madeBy" "[I") ∈ GW := gw_in (tb_1 (List.mem_of_getElem? (i := 174) rfl)) rfl
theorem W_1_175 : (Cond.fieldLink "HashgraphDesk$Graph" (43 : Nat) "HashgraphDesk$Graph" "amongAncestors" "[I") ∈ GW := gw_in (tb_1 (List.mem_of_getElem? (i := 175) rfl)) rfl
theorem W_1_176 : (Cond.fieldLink "HashgraphDesk$Graph" (46 : Nat) "HashgraphDesk$Graph" "deepest" "[I") ∈ GW := gw_in (tb_1 (List.mem_of_getElem? (i := 176) rfl)) rfl
theorem W_1_177 : (Cond.fieldLink "HashgraphDesk$Graph" (53 : Nat) "HashgraphDesk$Graph" "nodes" "I") ∈ GW := gw_in (tb_1 (List.mem_of_getElem? (i := 177) rfl)) rfl
theorem W_1_178 : (Cond.fieldLink "HashgraphDesk$Graph" (57 : Nat) "HashgraphDesk$Graph" "forks" "I") ∈ GW := gw_in (tb_1 (List.mem_of_getElem? (i := 178) rfl)) rfl
theorem W_1_180 : (Cond.fieldLink "HashgraphDesk$Graph" (60 : Nat) "HashgraphDesk$Graph" "greatestRound" "I") ∈ GW := gw_in (tb_1 (List.mem_of_getElem? (i := 180) rfl)) rfl
theorem W_1_183 : (Cond.laysFinal "HashgraphDesk$Graph" "HashgraphDesk$Graph" "events" "LHashgraphDesk$Events;") ∈ GW := gw_in (tb_1 (List.mem_of_getElem? (i := 183) rfl)) rfl
theorem W_1_185 : (Cond.laysFinal "HashgraphDesk$Graph" "HashgraphDesk$Graph" "ancestors" "LHashgraphDesk$BitTable;") ∈ GW := gw_in (tb_1 (List.mem_of_getElem? (i := 185) rfl)) rfl
theorem W_1_187 : (Cond.laysFinal "HashgraphDesk$Graph" "HashgraphDesk$Graph" "seen" "LHashgraphDesk$BitTable;") ∈ GW := gw_in (tb_1 (List.mem_of_getElem? (i := 187) rfl)) rfl
theorem W_1_189 : (Cond.laysFinal "HashgraphDesk$Graph" "HashgraphDesk$Graph" "stronglySeen" "LHashgraphDesk$BitTable;") ∈ GW := gw_in (tb_1 (List.mem_of_getElem? (i := 189) rfl)) rfl
theorem W_1_191 : (Cond.laysFinal "HashgraphDesk$Graph" "HashgraphDesk$Graph" "seenThrough" "LHashgraphDesk$BitTable;") ∈ GW := gw_in (tb_1 (List.mem_of_getElem? (i := 191) rfl)) rfl
theorem W_1_193 : (Cond.laysFinal "HashgraphDesk$Graph" "HashgraphDesk$Graph" "depth" "[I") ∈ GW := gw_in (tb_1 (List.mem_of_getElem? (i := 193) rfl)) rfl
theorem W_1_195 : (Cond.laysFinal "HashgraphDesk$Graph" "HashgraphDesk$Graph" "round" "[I") ∈ GW := gw_in (tb_1 (List.mem_of_getElem? (i := 195) rfl)) rfl
theorem W_1_197 : (Cond.laysFinal "HashgraphDesk$Graph" "HashgraphDesk$Graph" "witness" "[Z") ∈ GW := gw_in (tb_1 (List.mem_of_getElem? (i := 197) rfl)) rfl
theorem W_1_199 : (Cond.laysFinal "HashgraphDesk$Graph" "HashgraphDesk$Graph" "madeBy" "[I") ∈ GW := gw_in (tb_1 (List.mem_of_getElem? (i := 199) rfl)) rfl
theorem W_1_201 : (Cond.laysFinal "HashgraphDesk$Graph" "HashgraphDesk$Graph" "amongAncestors" "[I") ∈ GW := gw_in (tb_1 (List.mem_of_getElem? (i := 201) rfl)) rfl
theorem W_1_203 : (Cond.laysFinal "HashgraphDesk$Graph" "HashgraphDesk$Graph" "deepest" "[I") ∈ GW := gw_in (tb_1 (List.mem_of_getElem? (i := 203) rfl)) rfl
theorem W_1_205 : (Cond.lays "HashgraphDesk$Graph" "HashgraphDesk$Graph" "nodes" "I") ∈ GW := gw_in (tb_1 (List.mem_of_getElem? (i := 205) rfl)) rfl
theorem W_1_207 : (Cond.lays "HashgraphDesk$Graph" "HashgraphDesk$Graph" "forks" "I") ∈ GW := gw_in (tb_1 (List.mem_of_getElem? (i := 207) rfl)) rfl
theorem W_1_209 : (Cond.lays "HashgraphDesk$Graph" "HashgraphDesk$Graph" "greatestRound" "I") ∈ GW := gw_in (tb_1 (List.mem_of_getElem? (i := 209) rfl)) rfl
theorem W_1_212 : (Cond.arrayClass Jvm.ClassFile.FieldType.boolean) ∈ GW := gw_in (tb_1 (List.mem_of_getElem? (i := 212) rfl)) rfl
theorem W_1_213 : (Cond.classLink "HashgraphDesk" (32 : Nat) "HashgraphDesk$Election") ∈ GW := gw_in (tb_1 (List.mem_of_getElem? (i := 213) rfl)) rfl
theorem W_1_214 : (Cond.instantiable "HashgraphDesk$Election" (8 : Nat)) ∈ GW := gw_in (tb_1 (List.mem_of_getElem? (i := 214) rfl)) rfl
theorem W_1_215 : (Cond.methodLink "HashgraphDesk" (34 : Nat) yX1_init) ∈ GW := gw_in (tb_1 (List.mem_of_getElem? (i := 215) rfl)) rfl
theorem W_1_216 : (Cond.instanceMethod yX1_init) ∈ GW := gw_in (tb_1 (List.mem_of_getElem? (i := 216) rfl)) rfl
theorem W_1_217 : (Cond.code yX1_init prog_3_method_1_code (3 : Nat) (Option.none : Option Jvm.ClassFile.FieldType)) ∈ GW := gw_in (tb_1 (List.mem_of_getElem? (i := 217) rfl)) rfl
theorem W_1_218 : (Cond.methodLink "HashgraphDesk$Election" (3 : Nat) ({ cls := "java/lang/Object", name := "<init>", desc := "()V" } : Jvm.MethodName)) ∈ GW := gw_in (tb_1 (List.mem_of_getElem? (i := 218) rfl)) rfl
theorem W_1_219 : (Cond.classLink "HashgraphDesk$Election" (15 : Nat) "HashgraphDesk$BitTable") ∈ GW := gw_in (tb_1 (List.mem_of_getElem? (i := 219) rfl)) rfl
theorem W_1_220 : (Cond.methodLink "HashgraphDesk$Election" (17 : Nat) yX0_init) ∈ GW := gw_in (tb_1 (List.mem_of_getElem? (i := 220) rfl)) rfl
theorem W_1_221 : (Cond.fieldLink "HashgraphDesk$Election" (30 : Nat) "HashgraphDesk$Election" "events" "LHashgraphDesk$Events;") ∈ GW := gw_in (tb_1 (List.mem_of_getElem? (i := 221) rfl)) rfl
theorem W_1_222 : (Cond.fieldLink "HashgraphDesk$Election" (34 : Nat) "HashgraphDesk$Election" "graph" "LHashgraphDesk$Graph;") ∈ GW := gw_in (tb_1 (List.mem_of_getElem? (i := 222) rfl)) rfl
theorem W_1_223 : (Cond.fieldLink "HashgraphDesk$Election" (9 : Nat) "HashgraphDesk$Election" "witnesses" "[I") ∈ GW := gw_in (tb_1 (List.mem_of_getElem? (i := 223) rfl)) rfl
theorem W_1_225 : (Cond.fieldLink "HashgraphDesk$Election" (20 : Nat) "HashgraphDesk$Election" "electors" "LHashgraphDesk$BitTable;") ∈ GW := gw_in (tb_1 (List.mem_of_getElem? (i := 225) rfl)) rfl
theorem W_1_226 : (Cond.fieldLink "HashgraphDesk$Election" (24 : Nat) "HashgraphDesk$Election" "yesVotes" "LHashgraphDesk$BitTable;") ∈ GW := gw_in (tb_1 (List.mem_of_getElem? (i := 226) rfl)) rfl
theorem W_1_227 : (Cond.fieldLink "HashgraphDesk$Election" (27 : Nat) "HashgraphDesk$Election" "decisions" "LHashgraphDesk$BitTable;") ∈ GW := gw_in (tb_1 (List.mem_of_getElem? (i := 227) rfl)) rfl
theorem W_1_228 : (Cond.fieldLink "HashgraphDesk$Election" (42 : Nat) "HashgraphDesk$Election" "size" "I") ∈ GW := gw_in (tb_1 (List.mem_of_getElem? (i := 228) rfl)) rfl
theorem W_1_230 : (Cond.fieldLink "HashgraphDesk$Election" (38 : Nat) "HashgraphDesk$Election" "nodes" "I") ∈ GW := gw_in (tb_1 (List.mem_of_getElem? (i := 230) rfl)) rfl
theorem W_1_231 : (Cond.laysFinal "HashgraphDesk$Election" "HashgraphDesk$Election" "events" "LHashgraphDesk$Events;") ∈ GW := gw_in (tb_1 (List.mem_of_getElem? (i := 231) rfl)) rfl
theorem W_1_233 : (Cond.laysFinal "HashgraphDesk$Election" "HashgraphDesk$Election" "graph" "LHashgraphDesk$Graph;") ∈ GW := gw_in (tb_1 (List.mem_of_getElem? (i := 233) rfl)) rfl
theorem W_1_235 : (Cond.laysFinal "HashgraphDesk$Election" "HashgraphDesk$Election" "witnesses" "[I") ∈ GW := gw_in (tb_1 (List.mem_of_getElem? (i := 235) rfl)) rfl
theorem W_1_237 : (Cond.laysFinal "HashgraphDesk$Election" "HashgraphDesk$Election" "electors" "LHashgraphDesk$BitTable;") ∈ GW := gw_in (tb_1 (List.mem_of_getElem? (i := 237) rfl)) rfl
theorem W_1_239 : (Cond.laysFinal "HashgraphDesk$Election" "HashgraphDesk$Election" "yesVotes" "LHashgraphDesk$BitTable;") ∈ GW := gw_in (tb_1 (List.mem_of_getElem? (i := 239) rfl)) rfl
theorem W_2_1 : (Cond.laysFinal "HashgraphDesk$Election" "HashgraphDesk$Election" "decisions" "LHashgraphDesk$BitTable;") ∈ GW := gw_in (tb_2 (List.mem_of_getElem? (i := 1) rfl)) rfl
theorem W_2_3 : (Cond.lays "HashgraphDesk$Election" "HashgraphDesk$Election" "size" "I") ∈ GW := gw_in (tb_2 (List.mem_of_getElem? (i := 3) rfl)) rfl
theorem W_2_5 : (Cond.lays "HashgraphDesk$Election" "HashgraphDesk$Election" "nodes" "I") ∈ GW := gw_in (tb_2 (List.mem_of_getElem? (i := 5) rfl)) rfl
theorem W_2_8 : (Cond.classLink "HashgraphDesk" (41 : Nat) "HashgraphDesk$View") ∈ GW := gw_in (tb_2 (List.mem_of_getElem? (i := 8) rfl)) rfl
theorem W_2_10 : (Cond.instantiable "HashgraphDesk$View" (18 : Nat)) ∈ GW := gw_in (tb_2 (List.mem_of_getElem? (i := 10) rfl)) rfl
theorem W_2_11 : (Cond.methodLink "HashgraphDesk" (51 : Nat) yX5_init) ∈ GW := gw_in (tb_2 (List.mem_of_getElem? (i := 11) rfl)) rfl
theorem W_2_12 : (Cond.instanceMethod yX5_init) ∈ GW := gw_in (tb_2 (List.mem_of_getElem? (i := 12) rfl)) rfl
theorem W_2_13 : (Cond.code yX5_init prog_7_method_1_code (5 : Nat) (Option.none : Option Jvm.ClassFile.FieldType)) ∈ GW := gw_in (tb_2 (List.mem_of_getElem? (i := 13) rfl)) rfl
theorem W_2_14 : (Cond.methodLink "HashgraphDesk$View" (3 : Nat) ({ cls := "java/lang/Object", name := "<init>", desc := "()V" } : Jvm.MethodName)) ∈ GW := gw_in (tb_2 (List.mem_of_getElem? (i := 14) rfl)) rfl
theorem W_2_15 : (Cond.fieldLink "HashgraphDesk$View" (47 : Nat) "HashgraphDesk$View" "node" "I") ∈ GW := gw_in (tb_2 (List.mem_of_getElem? (i := 15) rfl)) rfl
theorem W_2_16 : (Cond.fieldLink "HashgraphDesk$View" (51 : Nat) "HashgraphDesk$View" "events" "LHashgraphDesk$Events;") ∈ GW := gw_in (tb_2 (List.mem_of_getElem? (i := 16) rfl)) rfl
theorem W_2_17 : (Cond.fieldLink "HashgraphDesk$View" (55 : Nat) "HashgraphDesk$View" "graph" "LHashgraphDesk$Graph;") ∈ GW := gw_in (tb_2 (List.mem_of_getElem? (i := 17) rfl)) rfl
theorem W_2_18 : (Cond.fieldLink "HashgraphDesk$View" (59 : Nat) "HashgraphDesk$View" "election" "LHashgraphDesk$Election;") ∈ GW := gw_in (tb_2 (List.mem_of_getElem? (i := 18) rfl)) rfl
theorem W_2_19 : (Cond.fieldLink "HashgraphDesk$View" (9 : Nat) "HashgraphDesk$View" "fame" "[I") ∈ GW := gw_in (tb_2 (List.mem_of_getElem? (i := 19) rfl)) rfl
theorem W_2_21 : (Cond.fieldLink "HashgraphDesk$View" (15 : Nat) "HashgraphDesk$View" "received" "[I") ∈ GW := gw_in (tb_2 (List.mem_of_getElem? (i := 21) rfl)) rfl
theorem W_2_23 : (Cond.fieldLink "HashgraphDesk$View" (18 : Nat) "HashgraphDesk$View" "stamps" "[J") ∈ GW := gw_in (tb_2 (List.mem_of_getElem? (i := 23) rfl)) rfl
theorem W_2_25 : (Cond.fieldLink "HashgraphDesk$View" (22 : Nat) "HashgraphDesk$View" "place" "[I") ∈ GW := gw_in (tb_2 (List.mem_of_getElem? (i := 25) rfl)) rfl
theorem W_2_27 : (Cond.fieldLink "HashgraphDesk$View" (25 : Nat) "HashgraphDesk$View" "sequence" "[I") ∈ GW := gw_in (tb_2 (List.mem_of_getElem? (i := 27) rfl)) rfl
theorem W_2_29 : (Cond.fieldLink "HashgraphDesk$View" (28 : Nat) "HashgraphDesk$View" "balances" "[I") ∈ GW := gw_in (tb_2 (List.mem_of_getElem? (i := 29) rfl)) rfl
theorem W_2_31 : (Cond.fieldLink "HashgraphDesk$View" (31 : Nat) "HashgraphDesk$View" "uniques" "[I") ∈ GW := gw_in (tb_2 (List.mem_of_getElem? (i := 31) rfl)) rfl
theorem W_2_32 : (Cond.fieldLink "HashgraphDesk$View" (34 : Nat) "HashgraphDesk$View" "uniqueCount" "[I") ∈ GW := gw_in (tb_2 (List.mem_of_getElem? (i := 32) rfl)) rfl
theorem W_2_33 : (Cond.fieldLink "HashgraphDesk$View" (37 : Nat) "HashgraphDesk$View" "turnedBits" "[I") ∈ GW := gw_in (tb_2 (List.mem_of_getElem? (i := 33) rfl)) rfl
theorem W_2_34 : (Cond.fieldLink "HashgraphDesk$View" (40 : Nat) "HashgraphDesk$View" "settled" "[Z") ∈ GW := gw_in (tb_2 (List.mem_of_getElem? (i := 34) rfl)) rfl
theorem W_2_35 : (Cond.fieldLink "HashgraphDesk$View" (44 : Nat) "HashgraphDesk$View" "times" "[J") ∈ GW := gw_in (tb_2 (List.mem_of_getElem? (i := 35) rfl)) rfl
theorem W_2_37 : (Cond.fieldLink "HashgraphDesk$View" (183 : Nat) "HashgraphDesk$View" "length" "I") ∈ GW := gw_in (tb_2 (List.mem_of_getElem? (i := 37) rfl)) rfl
theorem W_2_38 : (Cond.fieldLink "HashgraphDesk$View" (149 : Nat) "HashgraphDesk$View" "settledRounds" "I") ∈ GW := gw_in (tb_2 (List.mem_of_getElem? (i := 38) rfl)) rfl
theorem W_2_40 : (Cond.fieldLink "HashgraphDesk$View" (82 : Nat) "HashgraphDesk$View" "stale" "Z") ∈ GW := gw_in (tb_2 (List.mem_of_getElem? (i := 40) rfl)) rfl
theorem W_2_42 : (Cond.laysFinal "HashgraphDesk$View" "HashgraphDesk$View" "node" "I") ∈ GW := gw_in (tb_2 (List.mem_of_getElem? (i := 42) rfl)) rfl
theorem W_2_44 : (Cond.laysFinal "HashgraphDesk$View" "HashgraphDesk$View" "events" "LHashgraphDesk$Events;") ∈ GW := gw_in (tb_2 (List.mem_of_getElem? (i := 44) rfl)) rfl
theorem W_2_46 : (Cond.laysFinal "HashgraphDesk$View" "HashgraphDesk$View" "graph" "LHashgraphDesk$Graph;") ∈ GW := gw_in (tb_2 (List.mem_of_getElem? (i := 46) rfl)) rfl
theorem W_2_48 : (Cond.laysFinal "HashgraphDesk$View" "HashgraphDesk$View" "election" "LHashgraphDesk$Election;") ∈ GW := gw_in (tb_2 (List.mem_of_getElem? (i := 48) rfl)) rfl
theorem W_2_50 : (Cond.laysFinal "HashgraphDesk$View" "HashgraphDesk$View" "fame" "[I") ∈ GW := gw_in (tb_2 (List.mem_of_getElem? (i := 50) rfl)) rfl
theorem W_2_52 : (Cond.laysFinal "HashgraphDesk$View" "HashgraphDesk$View" "received" "[I") ∈ GW := gw_in (tb_2 (List.mem_of_getElem? (i := 52) rfl)) rfl
theorem W_2_54 : (Cond.laysFinal "HashgraphDesk$View" "HashgraphDesk$View" "stamps" "[J") ∈ GW := gw_in (tb_2 (List.mem_of_getElem? (i := 54) rfl)) rfl
theorem W_2_56 : (Cond.laysFinal "HashgraphDesk$View" "HashgraphDesk$View" "place" "[I") ∈ GW := gw_in (tb_2 (List.mem_of_getElem? (i := 56) rfl)) rfl
theorem W_2_58 : (Cond.laysFinal "HashgraphDesk$View" "HashgraphDesk$View" "sequence" "[I") ∈ GW := gw_in (tb_2 (List.mem_of_getElem? (i := 58) rfl)) rfl
theorem W_2_60 : (Cond.laysFinal "HashgraphDesk$View" "HashgraphDesk$View" "balances" "[I") ∈ GW := gw_in (tb_2 (List.mem_of_getElem? (i := 60) rfl)) rfl
theorem W_2_62 : (Cond.laysFinal "HashgraphDesk$View" "HashgraphDesk$View" "uniques" "[I") ∈ GW := gw_in (tb_2 (List.mem_of_getElem? (i := 62) rfl)) rfl
theorem W_2_64 : (Cond.laysFinal "HashgraphDesk$View" "HashgraphDesk$View" "uniqueCount" "[I") ∈ GW := gw_in (tb_2 (List.mem_of_getElem? (i := 64) rfl)) rfl
theorem W_2_66 : (Cond.laysFinal "HashgraphDesk$View" "HashgraphDesk$View" "turnedBits" "[I") ∈ GW := gw_in (tb_2 (List.mem_of_getElem? (i := 66) rfl)) rfl
theorem W_2_68 : (Cond.laysFinal "HashgraphDesk$View" "HashgraphDesk$View" "settled" "[Z") ∈ GW := gw_in (tb_2 (List.mem_of_getElem? (i := 68) rfl)) rfl
theorem W_2_70 : (Cond.laysFinal "HashgraphDesk$View" "HashgraphDesk$View" "times" "[J") ∈ GW := gw_in (tb_2 (List.mem_of_getElem? (i := 70) rfl)) rfl
theorem W_2_72 : (Cond.lays "HashgraphDesk$View" "HashgraphDesk$View" "length" "I") ∈ GW := gw_in (tb_2 (List.mem_of_getElem? (i := 72) rfl)) rfl
theorem W_2_74 : (Cond.lays "HashgraphDesk$View" "HashgraphDesk$View" "settledRounds" "I") ∈ GW := gw_in (tb_2 (List.mem_of_getElem? (i := 74) rfl)) rfl
theorem W_2_76 : (Cond.lays "HashgraphDesk$View" "HashgraphDesk$View" "stale" "Z") ∈ GW := gw_in (tb_2 (List.mem_of_getElem? (i := 76) rfl)) rfl
theorem W_2_79 : (Cond.methodLink "HashgraphDesk" (54 : Nat) yX7_startAnew) ∈ GW := gw_in (tb_2 (List.mem_of_getElem? (i := 79) rfl)) rfl
theorem W_2_81 : (Cond.instanceMethod yX7_startAnew) ∈ GW := gw_in (tb_2 (List.mem_of_getElem? (i := 81) rfl)) rfl
theorem W_2_82 : (Cond.code yX7_startAnew prog_1_method_16_code (3 : Nat) (Option.none : Option Jvm.ClassFile.FieldType)) ∈ GW := gw_in (tb_2 (List.mem_of_getElem? (i := 82) rfl)) rfl
theorem W_2_83 : (Cond.methodLink "HashgraphDesk" (213 : Nat) yX6_clear) ∈ GW := gw_in (tb_2 (List.mem_of_getElem? (i := 83) rfl)) rfl
theorem W_2_84 : (Cond.instanceMethod yX6_clear) ∈ GW := gw_in (tb_2 (List.mem_of_getElem? (i := 84) rfl)) rfl
theorem W_2_85 : (Cond.selects "HashgraphDesk$Waiting" yX6_clear yX6_clear) ∈ GW := gw_in (tb_2 (List.mem_of_getElem? (i := 85) rfl)) rfl
theorem W_2_86 : (Cond.code yX6_clear prog_8_method_2_code (1 : Nat) (Option.none : Option Jvm.ClassFile.FieldType)) ∈ GW := gw_in (tb_2 (List.mem_of_getElem? (i := 86) rfl)) rfl
theorem W_2_87 : (Cond.methodLink "HashgraphDesk$Waiting" (21 : Nat) yJ7_fill_53178) ∈ GW := gw_in (tb_2 (List.mem_of_getElem? (i := 87) rfl)) rfl
theorem W_2_88 : (Cond.static yJ7_fill_53178) ∈ GW := gw_in (tb_2 (List.mem_of_getElem? (i := 88) rfl)) rfl
theorem W_2_89 : (Cond.code yJ7_fill_53178 prog_30_method_103_code (4 : Nat) (Option.none : Option Jvm.ClassFile.FieldType)) ∈ GW := gw_in (tb_2 (List.mem_of_getElem? (i := 89) rfl)) rfl
theorem W_2_90 : (Cond.methodLink "HashgraphDesk" (216 : Nat) yX2_clear) ∈ GW := gw_in (tb_2 (List.mem_of_getElem? (i := 90) rfl)) rfl
theorem W_2_91 : (Cond.instanceMethod yX2_clear) ∈ GW := gw_in (tb_2 (List.mem_of_getElem? (i := 91) rfl)) rfl
theorem W_2_92 : (Cond.selects "HashgraphDesk$Events" yX2_clear yX2_clear) ∈ GW := gw_in (tb_2 (List.mem_of_getElem? (i := 92) rfl)) rfl
theorem W_2_93 : (Cond.code yX2_clear prog_4_method_2_code (1 : Nat) (Option.none : Option Jvm.ClassFile.FieldType)) ∈ GW := gw_in (tb_2 (List.mem_of_getElem? (i := 93) rfl)) rfl
theorem W_2_94 : (Cond.methodLink "HashgraphDesk$Events" (57 : Nat) yX0_clear) ∈ GW := gw_in (tb_2 (List.mem_of_getElem? (i := 94) rfl)) rfl
theorem W_2_95 : (Cond.instanceMethod yX0_clear) ∈ GW := gw_in (tb_2 (List.mem_of_getElem? (i := 95) rfl)) rfl
theorem W_2_96 : (Cond.selects "HashgraphDesk$BitTable" yX0_clear yX0_clear) ∈ GW := gw_in (tb_2 (List.mem_of_getElem? (i := 96) rfl)) rfl
theorem W_2_97 : (Cond.code yX0_clear prog_2_method_2_code (1 : Nat) (Option.none : Option Jvm.ClassFile.FieldType)) ∈ GW := gw_in (tb_2 (List.mem_of_getElem? (i := 97) rfl)) rfl
theorem W_2_98 : (Cond.methodLink "HashgraphDesk$BitTable" (19 : Nat) yJ7_fill_d0a16) ∈ GW := gw_in (tb_2 (List.mem_of_getElem? (i := 98) rfl)) rfl
theorem W_2_99 : (Cond.static yJ7_fill_d0a16) ∈ GW := gw_in (tb_2 (List.mem_of_getElem? (i := 99) rfl)) rfl
theorem W_2_100 : (Cond.code yJ7_fill_d0a16 prog_30_method_101_code (5 : Nat) (Option.none : Option Jvm.ClassFile.FieldType)) ∈ GW := gw_in (tb_2 (List.mem_of_getElem? (i := 100) rfl)) rfl
theorem W_2_101 : (Cond.methodLink "HashgraphDesk" (217 : Nat) yX3_clear) ∈ GW := gw_in (tb_2 (List.mem_of_getElem? (i := 101) rfl)) rfl
theorem W_2_102 : (Cond.instanceMethod yX3_clear) ∈ GW := gw_in (tb_2 (List.mem_of_getElem? (i := 102) rfl)) rfl
theorem W_2_103 : (Cond.selects "HashgraphDesk$Graph" yX3_clear yX3_clear) ∈ GW := gw_in (tb_2 (List.mem_of_getElem? (i := 103) rfl)) rfl
theorem W_2_104 : (Cond.code yX3_clear prog_5_method_2_code (2 : Nat) (Option.none : Option Jvm.ClassFile.FieldType)) ∈ GW := gw_in (tb_2 (List.mem_of_getElem? (i := 104) rfl)) rfl
theorem W_2_105 : (Cond.methodLink "HashgraphDesk$Graph" (63 : Nat) yJ7_fill_53178) ∈ GW := gw_in (tb_2 (List.mem_of_getElem? (i := 105) rfl)) rfl
theorem W_2_106 : (Cond.methodLink "HashgraphDesk" (219 : Nat) yX1_clear) ∈ GW := gw_in (tb_2 (List.mem_of_getElem? (i := 106) rfl)) rfl
theorem W_2_107 : (Cond.instanceMethod yX1_clear) ∈ GW := gw_in (tb_2 (List.mem_of_getElem? (i := 107) rfl)) rfl
theorem W_2_108 : (Cond.selects "HashgraphDesk$Election" yX1_clear yX1_clear) ∈ GW := gw_in (tb_2 (List.mem_of_getElem? (i := 108) rfl)) rfl
theorem W_2_109 : (Cond.code yX1_clear prog_3_method_2_code (2 : Nat) (Option.none : Option Jvm.ClassFile.FieldType)) ∈ GW := gw_in (tb_2 (List.mem_of_getElem? (i := 109) rfl)) rfl
theorem W_2_110 : (Cond.methodLink "HashgraphDesk" (97 : Nat) yX7_makeEvent) ∈ GW := gw_in (tb_2 (List.mem_of_getElem? (i := 110) rfl)) rfl
theorem W_2_112 : (Cond.instanceMethod yX7_makeEvent) ∈ GW := gw_in (tb_2 (List.mem_of_getElem? (i := 112) rfl)) rfl
theorem W_2_113 : (Cond.code yX7_makeEvent prog_1_method_17_code (9 : Nat) (Option.some Jvm.ClassFile.FieldType.int)) ∈ GW := gw_in (tb_2 (List.mem_of_getElem? (i := 113) rfl)) rfl
theorem W_2_114 : (Cond.methodLink "HashgraphDesk" (220 : Nat) yX2_open) ∈ GW := gw_in (tb_2 (List.mem_of_getElem? (i := 114) rfl)) rfl
theorem W_2_115 : (Cond.instanceMethod yX2_open) ∈ GW := gw_in (tb_2 (List.mem_of_getElem? (i := 115) rfl)) rfl
theorem W_2_116 : (Cond.selects "HashgraphDesk$Events" yX2_open yX2_open) ∈ GW := gw_in (tb_2 (List.mem_of_getElem? (i := 116) rfl)) rfl
theorem W_2_117 : (Cond.code yX2_open prog_4_method_4_code (7 : Nat) (Option.some Jvm.ClassFile.FieldType.int)) ∈ GW := gw_in (tb_2 (List.mem_of_getElem? (i := 117) rfl)) rfl
theorem W_2_118 : (Cond.methodLink "HashgraphDesk" (224 : Nat) yX6_firstTo) ∈ GW := gw_in (tb_2 (List.mem_of_getElem? (i := 118) rfl)) rfl
theorem W_2_119 : (Cond.instanceMethod yX6_firstTo) ∈ GW := gw_in (tb_2 (List.mem_of_getElem? (i := 119) rfl)) rfl
theorem W_2_120 : (Cond.selects "HashgraphDesk$Waiting" yX6_firstTo yX6_firstTo) ∈ GW := gw_in (tb_2 (List.mem_of_getElem? (i := 120) rfl)) rfl
theorem W_2_121 : (Cond.code yX6_firstTo prog_8_method_5_code (2 : Nat) (Option.some Jvm.ClassFile.FieldType.int)) ∈ GW := gw_in (tb_2 (List.mem_of_getElem? (i := 121) rfl)) rfl
theorem W_2_122 : (Cond.methodLink "HashgraphDesk" (227 : Nat) yX6_firstAmount) ∈ GW := gw_in (tb_2 (List.mem_of_getElem? (i := 122) rfl)) rfl
theorem W_2_123 : (Cond.instanceMethod yX6_firstAmount) ∈ GW := gw_in (tb_2 (List.mem_of_getElem? (i := 123) rfl)) rfl
theorem W_2_124 : (Cond.selects "HashgraphDesk$Waiting" yX6_firstAmount yX6_firstAmount) ∈ GW := gw_in (tb_2 (List.mem_of_getElem? (i := 124) rfl)) rfl
theorem W_2_125 : (Cond.code yX6_firstAmount prog_8_method_6_code (2 : Nat) (Option.some Jvm.ClassFile.FieldType.int)) ∈ GW := gw_in (tb_2 (List.mem_of_getElem? (i := 125) rfl)) rfl
theorem W_2_126 : (Cond.methodLink "HashgraphDesk" (230 : Nat) yX2_addTransaction) ∈ GW := gw_in (tb_2 (List.mem_of_getElem? (i := 126) rfl)) rfl
theorem W_2_127 : (Cond.instanceMethod yX2_addTransaction) ∈ GW := gw_in (tb_2 (List.mem_of_getElem? (i := 127) rfl)) rfl
theorem W_2_128 : (Cond.selects "HashgraphDesk$Events" yX2_addTransaction yX2_addTransaction) ∈ GW := gw_in (tb_2 (List.mem_of_getElem? (i := 128) rfl)) rfl
theorem W_2_129 : (Cond.code yX2_addTransaction prog_4_method_5_code (5 : Nat) (Option.none : Option Jvm.ClassFile.FieldType)) ∈ GW := gw_in (tb_2 (List.mem_of_getElem? (i := 129) rfl)) rfl
theorem W_2_130 : (Cond.methodLink "HashgraphDesk" (233 : Nat) yX6_dropFirst) ∈ GW := gw_in (tb_2 (List.mem_of_getElem? (i := 130) rfl)) rfl
theorem W_2_131 : (Cond.instanceMethod yX6_dropFirst) ∈ GW := gw_in (tb_2 (List.mem_of_getElem? (i := 131) rfl)) rfl
theorem W_2_132 : (Cond.selects "HashgraphDesk$Waiting" yX6_dropFirst yX6_dropFirst) ∈ GW := gw_in (tb_2 (List.mem_of_getElem? (i := 132) rfl)) rfl
theorem W_2_133 : (Cond.code yX6_dropFirst prog_8_method_7_code (3 : Nat) (Option.none : Option Jvm.ClassFile.FieldType)) ∈ GW := gw_in (tb_2 (List.mem_of_getElem? (i := 133) rfl)) rfl
theorem W_2_134 : (Cond.methodLink "HashgraphDesk$Waiting" (27 : Nat) ({ cls := "java/lang/System", name := "arraycopy", desc := "(Ljava/lang/Object;ILjava/lang/Object;II)V" } : Jvm.MethodName)) ∈ GW := gw_in (tb_2 (List.mem_of_getElem? (i := 134) rfl)) rfl
theorem W_2_135 : (Cond.static ({ cls := "java/lang/System", name := "arraycopy", desc := "(Ljava/lang/Object;ILjava/lang/Object;II)V" } : Jvm.MethodName)) ∈ GW := gw_in (tb_2 (List.mem_of_getElem? (i := 135) rfl)) rfl
theorem W_2_136 : (Cond.native ({ cls := "java/lang/System", name := "arraycopy", desc := "(Ljava/lang/Object;ILjava/lang/Object;II)V" } : Jvm.MethodName)) ∈ GW := gw_in (tb_2 (List.mem_of_getElem? (i := 136) rfl)) rfl
theorem W_2_137 : (Cond.methodLink "HashgraphDesk" (236 : Nat) yX2_close) ∈ GW := gw_in (tb_2 (List.mem_of_getElem? (i := 137) rfl)) rfl
theorem W_2_138 : (Cond.instanceMethod yX2_close) ∈ GW := gw_in (tb_2 (List.mem_of_getElem? (i := 138) rfl)) rfl
theorem W_2_139 : (Cond.selects "HashgraphDesk$Events" yX2_close yX2_close) ∈ GW := gw_in (tb_2 (List.mem_of_getElem? (i := 139) rfl)) rfl
theorem W_2_140 : (Cond.code yX2_close prog_4_method_6_code (3 : Nat) (Option.none : Option Jvm.ClassFile.FieldType)) ∈ GW := gw_in (tb_2 (List.mem_of_getElem? (i := 140) rfl)) rfl
theorem W_2_141 : (Cond.methodLink "HashgraphDesk$Events" (60 : Nat) yX4_start) ∈ GW := gw_in (tb_2 (List.mem_of_getElem? (i := 141) rfl)) rfl
theorem W_2_142 : (Cond.instanceMethod yX4_start) ∈ GW := gw_in (tb_2 (List.mem_of_getElem? (i := 142) rfl)) rfl
theorem W_2_143 : (Cond.selects "HashgraphDesk$Sha256" yX4_start yX4_start) ∈ GW := gw_in (tb_2 (List.mem_of_getElem? (i := 143) rfl)) rfl
theorem W_2_144 : (Cond.code yX4_start prog_6_method_2_code (1 : Nat) (Option.none : Option Jvm.ClassFile.FieldType)) ∈ GW := gw_in (tb_2 (List.mem_of_getElem? (i := 144) rfl)) rfl
theorem W_2_145 : (Cond.methodLink "HashgraphDesk$Sha256" (21 : Nat) yJ7_fill_53178) ∈ GW := gw_in (tb_2 (List.mem_of_getElem? (i := 145) rfl)) rfl
theorem W_2_146 : (Cond.methodLink "HashgraphDesk$Events" (63 : Nat) yX4_putOctet) ∈ GW := gw_in (tb_2 (List.mem_of_getElem? (i := 146) rfl)) rfl
theorem W_2_147 : (Cond.instanceMethod yX4_putOctet) ∈ GW := gw_in (tb_2 (List.mem_of_getElem? (i := 147) rfl)) rfl
theorem W_2_148 : (Cond.selects "HashgraphDesk$Sha256" yX4_putOctet yX4_putOctet) ∈ GW := gw_in (tb_2 (List.mem_of_getElem? (i := 148) rfl)) rfl
theorem W_2_149 : (Cond.code yX4_putOctet prog_6_method_3_code (2 : Nat) (Option.none : Option Jvm.ClassFile.FieldType)) ∈ GW := gw_in (tb_2 (List.mem_of_getElem? (i := 149) rfl)) rfl
theorem W_2_150 : (Cond.methodLink "HashgraphDesk$Events" (66 : Nat) yX2_putParentHash) ∈ GW := gw_in (tb_2 (List.mem_of_getElem? (i := 150) rfl)) rfl
theorem W_2_152 : (Cond.instanceMethod yX2_putParentHash) ∈ GW := gw_in (tb_2 (List.mem_of_getElem? (i := 152) rfl)) rfl
theorem W_2_153 : (Cond.code yX2_putParentHash prog_4_method_7_code (3 : Nat) (Option.none : Option Jvm.ClassFile.FieldType)) ∈ GW := gw_in (tb_2 (List.mem_of_getElem? (i := 153) rfl)) rfl
theorem W_2_154 : (Cond.methodLink "HashgraphDesk$Events" (80 : Nat) yX2_hashWord) ∈ GW := gw_in (tb_2 (List.mem_of_getElem? (i := 154) rfl)) rfl
theorem W_2_155 : (Cond.instanceMethod yX2_hashWord) ∈ GW := gw_in (tb_2 (List.mem_of_getElem? (i := 155) rfl)) rfl
theorem W_2_156 : (Cond.selects "HashgraphDesk$Events" yX2_hashWord yX2_hashWord) ∈ GW := gw_in (tb_2 (List.mem_of_getElem? (i := 156) rfl)) rfl
theorem W_2_157 : (Cond.code yX2_hashWord prog_4_method_8_code (3 : Nat) (Option.some Jvm.ClassFile.FieldType.int)) ∈ GW := gw_in (tb_2 (List.mem_of_getElem? (i := 157) rfl)) rfl
theorem W_2_158 : (Cond.methodLink "HashgraphDesk$Events" (73 : Nat) yX4_putInt) ∈ GW := gw_in (tb_2 (List.mem_of_getElem? (i := 158) rfl)) rfl
theorem W_2_159 : (Cond.instanceMethod yX4_putInt) ∈ GW := gw_in (tb_2 (List.mem_of_getElem? (i := 159) rfl)) rfl
theorem W_2_160 : (Cond.selects "HashgraphDesk$Sha256" yX4_putInt yX4_putInt) ∈ GW := gw_in (tb_2 (List.mem_of_getElem? (i := 160) rfl)) rfl
theorem W_2_161 : (Cond.code yX4_putInt prog_6_method_4_code (3 : Nat) (Option.none : Option Jvm.ClassFile.FieldType)) ∈ GW := gw_in (tb_2 (List.mem_of_getElem? (i := 161) rfl)) rfl
theorem W_2_162 : (Cond.methodLink "HashgraphDesk$Sha256" (31 : Nat) yX4_putOctet) ∈ GW := gw_in (tb_2 (List.mem_of_getElem? (i := 162) rfl)) rfl
theorem W_2_163 : (Cond.methodLink "HashgraphDesk$Events" (69 : Nat) yX4_putLong) ∈ GW := gw_in (tb_2 (List.mem_of_getElem? (i := 163) rfl)) rfl
theorem W_2_164 : (Cond.instanceMethod yX4_putLong) ∈ GW := gw_in (tb_2 (List.mem_of_getElem? (i := 164) rfl)) rfl
theorem W_2_165 : (Cond.selects "HashgraphDesk$Sha256" yX4_putLong yX4_putLong) ∈ GW := gw_in (tb_2 (List.mem_of_getElem? (i := 165) rfl)) rfl
theorem W_2_166 : (Cond.code yX4_putLong prog_6_method_5_code (3 : Nat) (Option.none : Option Jvm.ClassFile.FieldType)) ∈ GW := gw_in (tb_2 (List.mem_of_getElem? (i := 166) rfl)) rfl
theorem W_2_167 : (Cond.methodLink "HashgraphDesk$Sha256" (35 : Nat) yX4_putInt) ∈ GW := gw_in (tb_2 (List.mem_of_getElem? (i := 167) rfl)) rfl
theorem W_2_168 : (Cond.methodLink "HashgraphDesk$Events" (76 : Nat) yX4_finishInto) ∈ GW := gw_in (tb_2 (List.mem_of_getElem? (i := 168) rfl)) rfl
theorem W_2_169 : (Cond.instanceMethod yX4_finishInto) ∈ GW := gw_in (tb_2 (List.mem_of_getElem? (i := 169) rfl)) rfl
theorem W_2_170 : (Cond.selects "HashgraphDesk$Sha256" yX4_finishInto yX4_finishInto) ∈ GW := gw_in (tb_2 (List.mem_of_getElem? (i := 170) rfl)) rfl
theorem W_2_171 : (Cond.code yX4_finishInto prog_6_method_6_code (4 : Nat) (Option.none : Option Jvm.ClassFile.FieldType)) ∈ GW := gw_in (tb_2 (List.mem_of_getElem? (i := 171) rfl)) rfl
theorem W_2_172 : (Cond.fieldLink "HashgraphDesk$Sha256" (38 : Nat) "HashgraphDesk$Sha256" "FIRST_STATE" "[I") ∈ GW := gw_in (tb_2 (List.mem_of_getElem? (i := 172) rfl)) rfl
theorem W_2_174 : (Cond.methodLink "HashgraphDesk$Sha256" (41 : Nat) ({ cls := "java/lang/System", name := "arraycopy", desc := "(Ljava/lang/Object;ILjava/lang/Object;II)V" } : Jvm.MethodName)) ∈ GW := gw_in (tb_2 (List.mem_of_getElem? (i := 174) rfl)) rfl
theorem W_2_175 : (Cond.methodLink "HashgraphDesk$Sha256" (47 : Nat) yX4_fillSchedule) ∈ GW := gw_in (tb_2 (List.mem_of_getElem? (i := 175) rfl)) rfl
theorem W_2_177 : (Cond.instanceMethod yX4_fillSchedule) ∈ GW := gw_in (tb_2 (List.mem_of_getElem? (i := 177) rfl)) rfl
theorem W_2_178 : (Cond.code yX4_fillSchedule prog_6_method_7_code (7 : Nat) (Option.none : Option Jvm.ClassFile.FieldType)) ∈ GW := gw_in (tb_2 (List.mem_of_getElem? (i := 178) rfl)) rfl
theorem W_2_179 : (Cond.methodLink "HashgraphDesk$Sha256" (53 : Nat) yX4_turned) ∈ GW := gw_in (tb_2 (List.mem_of_getElem? (i := 179) rfl)) rfl
theorem W_2_180 : (Cond.static yX4_turned) ∈ GW := gw_in (tb_2 (List.mem_of_getElem? (i := 180) rfl)) rfl
theorem W_2_181 : (Cond.code yX4_turned prog_6_method_9_code (2 : Nat) (Option.some Jvm.ClassFile.FieldType.int)) ∈ GW := gw_in (tb_2 (List.mem_of_getElem? (i := 181) rfl)) rfl
theorem W_2_182 : (Cond.methodLink "HashgraphDesk$Sha256" (50 : Nat) yX4_mixSchedule) ∈ GW := gw_in (tb_2 (List.mem_of_getElem? (i := 182) rfl)) rfl
theorem W_2_184 : (Cond.instanceMethod yX4_mixSchedule) ∈ GW := gw_in (tb_2 (List.mem_of_getElem? (i := 184) rfl)) rfl
theorem W_2_185 : (Cond.code yX4_mixSchedule prog_6_method_8_code (15 : Nat) (Option.none : Option Jvm.ClassFile.FieldType)) ∈ GW := gw_in (tb_2 (List.mem_of_getElem? (i := 185) rfl)) rfl
theorem W_2_186 : (Cond.fieldLink "HashgraphDesk$Sha256" (57 : Nat) "HashgraphDesk$Sha256" "ROUND_WORDS" "[I") ∈ GW := gw_in (tb_2 (List.mem_of_getElem? (i := 186) rfl)) rfl
theorem W_2_188 : (Cond.methodLink "HashgraphDesk" (239 : Nat) yX3_take) ∈ GW := gw_in (tb_2 (List.mem_of_getElem? (i := 188) rfl)) rfl
theorem W_2_189 : (Cond.instanceMethod yX3_take) ∈ GW := gw_in (tb_2 (List.mem_of_getElem? (i := 189) rfl)) rfl
theorem W_2_190 : (Cond.selects "HashgraphDesk$Graph" yX3_take yX3_take) ∈ GW := gw_in (tb_2 (List.mem_of_getElem? (i := 190) rfl)) rfl
theorem W_2_191 : (Cond.code yX3_take prog_5_method_3_code (2 : Nat) (Option.none : Option Jvm.ClassFile.FieldType)) ∈ GW := gw_in (tb_2 (List.mem_of_getElem? (i := 191) rfl)) rfl
theorem W_2_192 : (Cond.methodLink "HashgraphDesk$Graph" (69 : Nat) yX3_findAncestors) ∈ GW := gw_in (tb_2 (List.mem_of_getElem? (i := 192) rfl)) rfl
theorem W_2_194 : (Cond.instanceMethod yX3_findAncestors) ∈ GW := gw_in (tb_2 (List.mem_of_getElem? (i := 194) rfl)) rfl
theorem W_2_195 : (Cond.code yX3_findAncestors prog_5_method_4_code (4 : Nat) (Option.none : Option Jvm.ClassFile.FieldType)) ∈ GW := gw_in (tb_2 (List.mem_of_getElem? (i := 195) rfl)) rfl
theorem W_2_196 : (Cond.methodLink "HashgraphDesk$Graph" (92 : Nat) yX0_clearRow) ∈ GW := gw_in (tb_2 (List.mem_of_getElem? (i := 196) rfl)) rfl
theorem W_2_197 : (Cond.instanceMethod yX0_clearRow) ∈ GW := gw_in (tb_2 (List.mem_of_getElem? (i := 197) rfl)) rfl
theorem W_2_198 : (Cond.selects "HashgraphDesk$BitTable" yX0_clearRow yX0_clearRow) ∈ GW := gw_in (tb_2 (List.mem_of_getElem? (i := 198) rfl)) rfl
theorem W_2_199 : (Cond.code yX0_clearRow prog_2_method_3_code (2 : Nat) (Option.none : Option Jvm.ClassFile.FieldType)) ∈ GW := gw_in (tb_2 (List.mem_of_getElem? (i := 199) rfl)) rfl
theorem W_2_200 : (Cond.methodLink "HashgraphDesk$BitTable" (25 : Nat) yJ7_fill_bad5a) ∈ GW := gw_in (tb_2 (List.mem_of_getElem? (i := 200) rfl)) rfl
theorem W_2_201 : (Cond.static yJ7_fill_bad5a) ∈ GW := gw_in (tb_2 (List.mem_of_getElem? (i := 201) rfl)) rfl
theorem W_2_202 : (Cond.code yJ7_fill_bad5a prog_30_method_102_code (6 : Nat) (Option.none : Option Jvm.ClassFile.FieldType)) ∈ GW := gw_in (tb_2 (List.mem_of_getElem? (i := 202) rfl)) rfl
theorem W_2_203 : (Cond.methodLink "java/util/Arrays" (13 : Nat) yJ7_rangeCheck_23922) ∈ GW := gw_in (tb_2 (List.mem_of_getElem? (i := 203) rfl)) rfl
theorem W_2_204 : (Cond.static yJ7_rangeCheck_23922) ∈ GW := gw_in (tb_2 (List.mem_of_getElem? (i := 204) rfl)) rfl
theorem W_2_205 : (Cond.code yJ7_rangeCheck_23922 prog_30_method_30_code (3 : Nat) (Option.none : Option Jvm.ClassFile.FieldType)) ∈ GW := gw_in (tb_2 (List.mem_of_getElem? (i := 205) rfl)) rfl
theorem W_2_206 : (Cond.classLink "java/util/Arrays" (43 : Nat) "java/lang/IllegalArgumentException") ∈ GW := gw_in (tb_2 (List.mem_of_getElem? (i := 206) rfl)) rfl
theorem W_2_207 : (Cond.instantiable "java/lang/IllegalArgumentException" (6 : Nat)) ∈ GW := gw_in (tb_2 (List.mem_of_getElem? (i := 207) rfl)) rfl
theorem W_2_215 : (Cond.selects "java/lang/IllegalArgumentException" ({ cls := "java/lang/Throwable", name := "fillInStackTrace", desc := "(I)Ljava/lang/Throwable;" } : Jvm.MethodName) ({ cls := "java/lang/Throwable", name := "fillInStackTrace", desc := "(I)Ljava/lang/Throwable;" } : Jvm.MethodName)) ∈ GW := gw_in (tb_2 (List.mem_of_getElem? (i := 215) rfl)) rfl
theorem W_2_216 : (Cond.selects "java/lang/IllegalArgumentException" ({ cls := "java/lang/Throwable", name := "fillInStackTrace", desc := "()Ljava/lang/Throwable;" } : Jvm.MethodName) ({ cls := "java/lang/Throwable", name := "fillInStackTrace", desc := "()Ljava/lang/Throwable;" } : Jvm.MethodName)) ∈ GW := gw_in (tb_2 (List.mem_of_getElem? (i := 216) rfl)) rfl
theorem W_2_217 : (Cond.lays "java/lang/IllegalArgumentException" "java/lang/Throwable" "cause" "Ljava/lang/Throwable;") ∈ GW := gw_in (tb_2 (List.mem_of_getElem? (i := 217) rfl)) rfl
theorem W_2_218 : (Cond.lays "java/lang/Throwable" "java/lang/Throwable" "cause" "Ljava/lang/Throwable;") ∈ GW := gw_in (tb_2 (List.mem_of_getElem? (i := 218) rfl)) rfl
theorem W_2_219 : (Cond.lays "java/lang/IllegalArgumentException" "java/lang/Throwable" "stackTrace" "[Ljava/lang/StackTraceElement;") ∈ GW := gw_in (tb_2 (List.mem_of_getElem? (i := 219) rfl)) rfl
theorem W_2_220 : (Cond.lays "java/lang/Throwable" "java/lang/Throwable" "stackTrace" "[Ljava/lang/StackTraceElement;") ∈ GW := gw_in (tb_2 (List.mem_of_getElem? (i := 220) rfl)) rfl
theorem W_2_221 : (Cond.lays "java/lang/IllegalArgumentException" "java/lang/Throwable" "suppressedExceptions" "Ljava/util/List;") ∈ GW := gw_in (tb_2 (List.mem_of_getElem? (i := 221) rfl)) rfl
theorem W_2_222 : (Cond.lays "java/lang/Throwable" "java/lang/Throwable" "suppressedExceptions" "Ljava/util/List;") ∈ GW := gw_in (tb_2 (List.mem_of_getElem? (i := 222) rfl)) rfl
theorem W_2_223 : (Cond.lays "java/lang/IllegalArgumentException" "java/lang/Throwable" "detailMessage" "Ljava/lang/String;") ∈ GW := gw_in (tb_2 (List.mem_of_getElem? (i := 223) rfl)) rfl
theorem W_2_224 : (Cond.lays "java/lang/Throwable" "java/lang/Throwable" "detailMessage" "Ljava/lang/String;") ∈ GW := gw_in (tb_2 (List.mem_of_getElem? (i := 224) rfl)) rfl
theorem W_2_225 : (Cond.lays "java/lang/IllegalArgumentException" "java/lang/Throwable" "backtrace" "Ljava/lang/Object;") ∈ GW := gw_in (tb_2 (List.mem_of_getElem? (i := 225) rfl)) rfl
theorem W_2_226 : (Cond.lays "java/lang/Throwable" "java/lang/Throwable" "backtrace" "Ljava/lang/Object;") ∈ GW := gw_in (tb_2 (List.mem_of_getElem? (i := 226) rfl)) rfl
theorem W_2_227 : (Cond.fieldLink "java/lang/Throwable" (198 : Nat) "java/lang/Throwable" "backtrace" "Ljava/lang/Object;") ∈ GW := gw_in (tb_2 (List.mem_of_getElem? (i := 227) rfl)) rfl
theorem W_2_229 : (Cond.instanceMethod ({ cls := "java/lang/Throwable", name := "<init>", desc := "()V" } : Jvm.MethodName)) ∈ GW := gw_in (tb_2 (List.mem_of_getElem? (i := 229) rfl)) rfl
theorem W_2_230 : (Cond.code ({ cls := "java/lang/Throwable", name := "<init>", desc := "()V" } : Jvm.MethodName) prog_28_method_1_code (1 : Nat) (Option.none : Option Jvm.ClassFile.FieldType)) ∈ GW := gw_in (tb_2 (List.mem_of_getElem? (i := 230) rfl)) rfl
theorem W_2_231 : (Cond.methodLink "java/lang/Throwable" (1 : Nat) ({ cls := "java/lang/Object", name := "<init>", desc := "()V" } : Jvm.MethodName)) ∈ GW := gw_in (tb_2 (List.mem_of_getElem? (i := 231) rfl)) rfl
theorem W_2_232 : (Cond.fieldLink "java/lang/Throwable" (13 : Nat) "java/lang/Throwable" "UNASSIGNED_STACK" "[Ljava/lang/StackTraceElement;") ∈ GW := gw_in (tb_2 (List.mem_of_getElem? (i := 232) rfl)) rfl
theorem W_2_234 : (Cond.fieldLink "java/lang/Throwable" (20 : Nat) "java/lang/Throwable" "SUPPRESSED_SENTINEL" "Ljava/util/List;") ∈ GW := gw_in (tb_2 (List.mem_of_getElem? (i := 234) rfl)) rfl
theorem W_2_236 : (Cond.methodLink "java/lang/Throwable" (27 : Nat) ({ cls := "java/lang/Throwable", name := "fillInStackTrace", desc := "()Ljava/lang/Throwable;" } : Jvm.MethodName)) ∈ GW := gw_in (tb_2 (List.mem_of_getElem? (i := 236) rfl)) rfl
theorem W_2_237 : (Cond.instanceMethod ({ cls := "java/lang/Throwable", name := "fillInStackTrace", desc := "()Ljava/lang/Throwable;" } : Jvm.MethodName)) ∈ GW := gw_in (tb_2 (List.mem_of_getElem? (i := 237) rfl)) rfl
theorem W_2_239 : (Cond.selects "java/lang/ArrayIndexOutOfBoundsException" ({ cls := "java/lang/Throwable", name := "fillInStackTrace", desc := "()Ljava/lang/Throwable;" } : Jvm.MethodName) ({ cls := "java/lang/Throwable", name := "fillInStackTrace", desc := "()Ljava/lang/Throwable;" } : Jvm.MethodName)) ∈ GW := gw_in (tb_2 (List.mem_of_getElem? (i := 239) rfl)) rfl
theorem W_3_0 : (Cond.selects "java/lang/IllegalStateException" ({ cls := "java/lang/Throwable", name := "fillInStackTrace", desc := "()Ljava/lang/Throwable;" } : Jvm.MethodName) ({ cls := "java/lang/Throwable", name := "fillInStackTrace", desc := "()Ljava/lang/Throwable;" } : Jvm.MethodName)) ∈ GW := gw_in (tb_3 (List.mem_of_getElem? (i := 0) rfl)) rfl
theorem W_3_1 : (Cond.selects "java/lang/IndexOutOfBoundsException" ({ cls := "java/lang/Throwable", name := "fillInStackTrace", desc := "()Ljava/lang/Throwable;" } : Jvm.MethodName) ({ cls := "java/lang/Throwable", name := "fillInStackTrace", desc := "()Ljava/lang/Throwable;" } : Jvm.MethodName)) ∈ GW := gw_in (tb_3 (List.mem_of_getElem? (i := 1) rfl)) rfl
theorem W_3_2 : (Cond.selects "java/lang/UnsupportedOperationException" ({ cls := "java/lang/Throwable", name := "fillInStackTrace", desc := "()Ljava/lang/Throwable;" } : Jvm.MethodName) ({ cls := "java/lang/Throwable", name := "fillInStackTrace", desc := "()Ljava/lang/Throwable;" } : Jvm.MethodName)) ∈ GW := gw_in (tb_3 (List.mem_of_getElem? (i := 2) rfl)) rfl
theorem W_3_4 : (Cond.methodLink "java/lang/Throwable" (202 : Nat) ({ cls := "java/lang/Throwable", name := "fillInStackTrace", desc := "(I)Ljava/lang/Throwable;" } : Jvm.MethodName)) ∈ GW := gw_in (tb_3 (List.mem_of_getElem? (i := 4) rfl)) rfl
theorem W_3_6 : (Cond.instanceMethod ({ cls := "java/lang/Throwable", name := "fillInStackTrace", desc := "(I)Ljava/lang/Throwable;" } : Jvm.MethodName)) ∈ GW := gw_in (tb_3 (List.mem_of_getElem? (i := 6) rfl)) rfl
theorem W_3_7 : (Cond.instantiable "java/lang/Throwable" (6 : Nat)) ∈ GW := gw_in (tb_3 (List.mem_of_getElem? (i := 7) rfl)) rfl
theorem W_3_8 : (Cond.native ({ cls := "java/lang/Throwable", name := "fillInStackTrace", desc := "(I)Ljava/lang/Throwable;" } : Jvm.MethodName)) ∈ GW := gw_in (tb_3 (List.mem_of_getElem? (i := 8) rfl)) rfl
theorem W_3_9 : (Cond.classLink "java/util/Arrays" (45 : Nat) "java/lang/StringBuilder") ∈ GW := gw_in (tb_3 (List.mem_of_getElem? (i := 9) rfl)) rfl
theorem W_3_10 : (Cond.instantiable "java/lang/StringBuilder" (4 : Nat)) ∈ GW := gw_in (tb_3 (List.mem_of_getElem? (i := 10) rfl)) rfl
theorem W_3_31 : (Cond.lays "java/lang/StringBuilder" "java/lang/AbstractStringBuilder" "value" "[B") ∈ GW := gw_in (tb_3 (List.mem_of_getElem? (i := 31) rfl)) rfl
theorem W_3_33 : (Cond.lays "java/lang/StringBuilder" "java/lang/AbstractStringBuilder" "coder" "B") ∈ GW := gw_in (tb_3 (List.mem_of_getElem? (i := 33) rfl)) rfl
theorem W_3_35 : (Cond.lays "java/lang/StringBuilder" "java/lang/AbstractStringBuilder" "maybeLatin1" "Z") ∈ GW := gw_in (tb_3 (List.mem_of_getElem? (i := 35) rfl)) rfl
theorem W_3_37 : (Cond.lays "java/lang/StringBuilder" "java/lang/AbstractStringBuilder" "count" "I") ∈ GW := gw_in (tb_3 (List.mem_of_getElem? (i := 37) rfl)) rfl
theorem W_3_40 : (Cond.arrayClass Jvm.ClassFile.FieldType.byte) ∈ GW := gw_in (tb_3 (List.mem_of_getElem? (i := 40) rfl)) rfl
theorem W_3_62 : (Cond.static yJ8_newLength_cabcc) ∈ GW := gw_in (tb_3 (List.mem_of_getElem? (i := 62) rfl)) rfl
theorem W_3_63 : (Cond.code yJ8_newLength_cabcc prog_31_method_27_code (4 : Nat) (Option.some Jvm.ClassFile.FieldType.int)) ∈ GW := gw_in (tb_3 (List.mem_of_getElem? (i := 63) rfl)) rfl
theorem W_3_64 : (Cond.methodLink "jdk/internal/util/ArraysSupport" (194 : Nat) yJ9_max_7cf53) ∈ GW := gw_in (tb_3 (List.mem_of_getElem? (i := 64) rfl)) rfl
theorem W_3_65 : (Cond.static yJ9_max_7cf53) ∈ GW := gw_in (tb_3 (List.mem_of_getElem? (i := 65) rfl)) rfl
theorem W_3_66 : (Cond.code yJ9_max_7cf53 prog_20_method_65_code (2 : Nat) (Option.some Jvm.ClassFile.FieldType.int)) ∈ GW := gw_in (tb_3 (List.mem_of_getElem? (i := 66) rfl)) rfl
theorem W_3_67 : (Cond.constant "jdk/internal/util/ArraysSupport" (200 : Nat) (2147483639 : Int32)) ∈ GW := gw_in (tb_3 (List.mem_of_getElem? (i := 67) rfl)) rfl
theorem W_3_68 : (Cond.methodLink "jdk/internal/util/ArraysSupport" (201 : Nat) yJ8_hugeLength_7cf53) ∈ GW := gw_in (tb_3 (List.mem_of_getElem? (i := 68) rfl)) rfl
theorem W_3_69 : (Cond.static yJ8_hugeLength_7cf53) ∈ GW := gw_in (tb_3 (List.mem_of_getElem? (i := 69) rfl)) rfl
theorem W_3_70 : (Cond.code yJ8_hugeLength_7cf53 prog_31_method_28_code (3 : Nat) (Option.some Jvm.ClassFile.FieldType.int)) ∈ GW := gw_in (tb_3 (List.mem_of_getElem? (i := 70) rfl)) rfl
theorem W_3_73 : (Cond.static yJ7_copyOf_9075b) ∈ GW := gw_in (tb_3 (List.mem_of_getElem? (i := 73) rfl)) rfl
theorem W_3_74 : (Cond.code yJ7_copyOf_9075b prog_30_method_121_code (3 : Nat) (Option.some (Jvm.ClassFile.FieldType.array Jvm.ClassFile.FieldType.byte))) ∈ GW := gw_in (tb_3 (List.mem_of_getElem? (i := 74) rfl)) rfl
theorem W_3_75 : (Cond.methodLink "java/util/Arrays" (310 : Nat) ({ cls := "[B", name := "clone", desc := "()Ljava/lang/Object;" } : Jvm.MethodName)) ∈ GW := gw_in (tb_3 (List.mem_of_getElem? (i := 75) rfl)) rfl
theorem W_3_77 : (Cond.native ({ cls := "java/lang/Object", name := "clone", desc := "()Ljava/lang/Object;" } : Jvm.MethodName)) ∈ GW := gw_in (tb_3 (List.mem_of_getElem? (i := 77) rfl)) rfl
theorem W_3_78 : (Cond.instanceMethod ({ cls := "java/lang/Object", name := "clone", desc := "()Ljava/lang/Object;" } : Jvm.MethodName)) ∈ GW := gw_in (tb_3 (List.mem_of_getElem? (i := 78) rfl)) rfl
theorem W_3_79 : (Cond.selects "[B" ({ cls := "[B", name := "clone", desc := "()Ljava/lang/Object;" } : Jvm.MethodName) ({ cls := "java/lang/Object", name := "clone", desc := "()Ljava/lang/Object;" } : Jvm.MethodName)) ∈ GW := gw_in (tb_3 (List.mem_of_getElem? (i := 79) rfl)) rfl
theorem W_3_81 : (Cond.classLink "java/util/Arrays" (311 : Nat) "[B") ∈ GW := gw_in (tb_3 (List.mem_of_getElem? (i := 81) rfl)) rfl
theorem W_3_82 : (Cond.methodLink "java/util/Arrays" (304 : Nat) yJ9_min_7cf53) ∈ GW := gw_in (tb_3 (List.mem_of_getElem? (i := 82) rfl)) rfl
theorem W_3_83 : (Cond.static yJ9_min_7cf53) ∈ GW := gw_in (tb_3 (List.mem_of_getElem? (i := 83) rfl)) rfl
theorem W_3_84 : (Cond.code yJ9_min_7cf53 prog_20_method_69_code (2 : Nat) (Option.some Jvm.ClassFile.FieldType.int)) ∈ GW := gw_in (tb_3 (List.mem_of_getElem? (i := 84) rfl)) rfl
theorem W_3_85 : (Cond.methodLink "java/util/Arrays" (150 : Nat) ({ cls := "java/lang/System", name := "arraycopy", desc := "(Ljava/lang/Object;ILjava/lang/Object;II)V" } : Jvm.MethodName)) ∈ GW := gw_in (tb_3 (List.mem_of_getElem? (i := 85) rfl)) rfl
theorem W_3_106 : (Cond.static yJ3_checkFromToIndex_8c36e) ∈ GW := gw_in (tb_3 (List.mem_of_getElem? (i := 106) rfl)) rfl
theorem W_3_107 : (Cond.code yJ3_checkFromToIndex_8c36e prog_32_method_12_code (4 : Nat) (Option.some Jvm.ClassFile.FieldType.int)) ∈ GW := gw_in (tb_3 (List.mem_of_getElem? (i := 107) rfl)) rfl
theorem W_3_152 : (Cond.static yJ3_checkFromIndexSize_8c36e) ∈ GW := gw_in (tb_3 (List.mem_of_getElem? (i := 152) rfl)) rfl
theorem W_3_153 : (Cond.code yJ3_checkFromIndexSize_8c36e prog_32_method_13_code (4 : Nat) (Option.some Jvm.ClassFile.FieldType.int)) ∈ GW := gw_in (tb_3 (List.mem_of_getElem? (i := 153) rfl)) rfl
theorem W_3_168 : (Cond.static yJ6_stringSize_0f7a4) ∈ GW := gw_in (tb_3 (List.mem_of_getElem? (i := 168) rfl)) rfl
theorem W_3_169 : (Cond.code yJ6_stringSize_0f7a4 prog_18_method_13_code (4 : Nat) (Option.some Jvm.ClassFile.FieldType.int)) ∈ GW := gw_in (tb_3 (List.mem_of_getElem? (i := 169) rfl)) rfl
theorem W_3_171 : (Cond.static yJ6_getChars_ba4f3) ∈ GW := gw_in (tb_3 (List.mem_of_getElem? (i := 171) rfl)) rfl
theorem W_3_172 : (Cond.code yJ6_getChars_ba4f3 prog_18_method_12_code (7 : Nat) (Option.some Jvm.ClassFile.FieldType.int)) ∈ GW := gw_in (tb_3 (List.mem_of_getElem? (i := 172) rfl)) rfl
theorem W_3_173 : (Cond.fieldLink "java/lang/Integer" (83 : Nat) "java/lang/Integer" "DigitOnes" "[B") ∈ GW := gw_in (tb_3 (List.mem_of_getElem? (i := 173) rfl)) rfl
theorem W_3_175 : (Cond.fieldLink "java/lang/Integer" (87 : Nat) "java/lang/Integer" "DigitTens" "[B") ∈ GW := gw_in (tb_3 (List.mem_of_getElem? (i := 175) rfl)) rfl
theorem W_3_191 : (Cond.classLink "java/lang/StringBuilder" (18 : Nat) "java/lang/String") ∈ GW := gw_in (tb_3 (List.mem_of_getElem? (i := 191) rfl)) rfl
theorem W_3_192 : (Cond.instantiable "java/lang/String" (4 : Nat)) ∈ GW := gw_in (tb_3 (List.mem_of_getElem? (i := 192) rfl)) rfl
theorem W_3_215 : (Cond.static yJ7_copyOfRange_39247) ∈ GW := gw_in (tb_3 (List.mem_of_getElem? (i := 215) rfl)) rfl
theorem W_3_216 : (Cond.code yJ7_copyOfRange_39247 prog_30_method_132_code (3 : Nat) (Option.some (Jvm.ClassFile.FieldType.array Jvm.ClassFile.FieldType.byte))) ∈ GW := gw_in (tb_3 (List.mem_of_getElem? (i := 216) rfl)) rfl
theorem W_3_217 : (Cond.methodLink "java/util/Arrays" (339 : Nat) yJ7_copyOfRangeByte_39247) ∈ GW := gw_in (tb_3 (List.mem_of_getElem? (i := 217) rfl)) rfl
theorem W_3_218 : (Cond.static yJ7_copyOfRangeByte_39247) ∈ GW := gw_in (tb_3 (List.mem_of_getElem? (i := 218) rfl)) rfl
theorem W_3_219 : (Cond.code yJ7_copyOfRangeByte_39247 prog_30_method_133_code (5 : Nat) (Option.some (Jvm.ClassFile.FieldType.array Jvm.ClassFile.FieldType.byte))) ∈ GW := gw_in (tb_3 (List.mem_of_getElem? (i := 219) rfl)) rfl
theorem W_3_220 : (Cond.methodLink "java/util/Arrays" (343 : Nat) yJ7_checkLength_df160) ∈ GW := gw_in (tb_3 (List.mem_of_getElem? (i := 220) rfl)) rfl
theorem W_3_221 : (Cond.static yJ7_checkLength_df160) ∈ GW := gw_in (tb_3 (List.mem_of_getElem? (i := 221) rfl)) rfl
theorem W_3_222 : (Cond.code yJ7_checkLength_df160 prog_30_method_131_code (2 : Nat) (Option.none : Option Jvm.ClassFile.FieldType)) ∈ GW := gw_in (tb_3 (List.mem_of_getElem? (i := 222) rfl)) rfl
theorem W_3_224 : (Cond.methodLink "java/util/Arrays" (65 : Nat) ({ cls := "java/lang/IllegalArgumentException", name := "<init>", desc := "(Ljava/lang/String;)V" } : Jvm.MethodName)) ∈ GW := gw_in (tb_3 (List.mem_of_getElem? (i := 224) rfl)) rfl
theorem W_3_225 : (Cond.instanceMethod ({ cls := "java/lang/IllegalArgumentException", name := "<init>", desc := "(Ljava/lang/String;)V" } : Jvm.MethodName)) ∈ GW := gw_in (tb_3 (List.mem_of_getElem? (i := 225) rfl)) rfl
theorem W_3_226 : (Cond.code ({ cls := "java/lang/IllegalArgumentException", name := "<init>", desc := "(Ljava/lang/String;)V" } : Jvm.MethodName) prog_15_method_2_code (2 : Nat) (Option.none : Option Jvm.ClassFile.FieldType)) ∈ GW := gw_in (tb_3 (List.mem_of_getElem? (i := 226) rfl)) rfl
theorem W_3_227 : (Cond.methodLink "java/lang/IllegalArgumentException" (7 : Nat) ({ cls := "java/lang/RuntimeException", name := "<init>", desc := "(Ljava/lang/String;)V" } : Jvm.MethodName)) ∈ GW := gw_in (tb_3 (List.mem_of_getElem? (i := 227) rfl)) rfl
theorem W_3_228 : (Cond.instanceMethod ({ cls := "java/lang/RuntimeException", name := "<init>", desc := "(Ljava/lang/String;)V" } : Jvm.MethodName)) ∈ GW := gw_in (tb_3 (List.mem_of_getElem? (i := 228) rfl)) rfl
theorem W_3_229 : (Cond.code ({ cls := "java/lang/RuntimeException", name := "<init>", desc := "(Ljava/lang/String;)V" } : Jvm.MethodName) prog_22_method_2_code (2 : Nat) (Option.none : Option Jvm.ClassFile.FieldType)) ∈ GW := gw_in (tb_3 (List.mem_of_getElem? (i := 229) rfl)) rfl
theorem W_3_230 : (Cond.methodLink "java/lang/RuntimeException" (7 : Nat) ({ cls := "java/lang/Exception", name := "<init>", desc := "(Ljava/lang/String;)V" } : Jvm.MethodName)) ∈ GW := gw_in (tb_3 (List.mem_of_getElem? (i := 230) rfl)) rfl
theorem W_3_231 : (Cond.instanceMethod ({ cls := "java/lang/Exception", name := "<init>", desc := "(Ljava/lang/String;)V" } : Jvm.MethodName)) ∈ GW := gw_in (tb_3 (List.mem_of_getElem? (i := 231) rfl)) rfl
theorem W_3_232 : (Cond.code ({ cls := "java/lang/Exception", name := "<init>", desc := "(Ljava/lang/String;)V" } : Jvm.MethodName) prog_14_method_2_code (2 : Nat) (Option.none : Option Jvm.ClassFile.FieldType)) ∈ GW := gw_in (tb_3 (List.mem_of_getElem? (i := 232) rfl)) rfl
theorem W_3_233 : (Cond.methodLink "java/lang/Exception" (7 : Nat) ({ cls := "java/lang/Throwable", name := "<init>", desc := "(Ljava/lang/String;)V" } : Jvm.MethodName)) ∈ GW := gw_in (tb_3 (List.mem_of_getElem? (i := 233) rfl)) rfl
theorem W_3_234 : (Cond.instanceMethod ({ cls := "java/lang/Throwable", name := "<init>", desc := "(Ljava/lang/String;)V" } : Jvm.MethodName)) ∈ GW := gw_in (tb_3 (List.mem_of_getElem? (i := 234) rfl)) rfl
theorem W_3_235 : (Cond.code ({ cls := "java/lang/Throwable", name := "<init>", desc := "(Ljava/lang/String;)V" } : Jvm.MethodName) prog_28_method_2_code (2 : Nat) (Option.none : Option Jvm.ClassFile.FieldType)) ∈ GW := gw_in (tb_3 (List.mem_of_getElem? (i := 235) rfl)) rfl
theorem W_3_237 : (Cond.fieldLink "java/lang/Throwable" (31 : Nat) "java/lang/Throwable" "detailMessage" "Ljava/lang/String;") ∈ GW := gw_in (tb_3 (List.mem_of_getElem? (i := 237) rfl)) rfl
theorem W_3_238 : (Cond.fieldLink "java/lang/Throwable" (7 : Nat) "java/lang/Throwable" "cause" "Ljava/lang/Throwable;") ∈ GW := gw_in (tb_3 (List.mem_of_getElem? (i := 238) rfl)) rfl
theorem W_3_239 : (Cond.fieldLink "java/lang/Throwable" (17 : Nat) "java/lang/Throwable" "stackTrace" "[Ljava/lang/StackTraceElement;") ∈ GW := gw_in (tb_3 (List.mem_of_getElem? (i := 239) rfl)) rfl
theorem W_4_0 : (Cond.fieldLink "java/lang/Throwable" (24 : Nat) "java/lang/Throwable" "suppressedExceptions" "Ljava/util/List;") ∈ GW := gw_in (tb_4 (List.mem_of_getElem? (i := 0) rfl)) rfl
theorem W_4_5 : (Cond.lays "java/lang/IllegalArgumentException" "java/lang/Throwable" "depth" "I") ∈ GW := gw_in (tb_4 (List.mem_of_getElem? (i := 5) rfl)) rfl
theorem W_4_24 : (Cond.laysFinal "java/lang/String" "java/lang/String" "value" "[B") ∈ GW := gw_in (tb_4 (List.mem_of_getElem? (i := 24) rfl)) rfl
theorem W_4_26 : (Cond.laysFinal "java/lang/String" "java/lang/String" "coder" "B") ∈ GW := gw_in (tb_4 (List.mem_of_getElem? (i := 26) rfl)) rfl
theorem W_4_28 : (Cond.lays "java/lang/String" "java/lang/String" "hash" "I") ∈ GW := gw_in (tb_4 (List.mem_of_getElem? (i := 28) rfl)) rfl
theorem W_4_30 : (Cond.lays "java/lang/String" "java/lang/String" "hashIsZero" "Z") ∈ GW := gw_in (tb_4 (List.mem_of_getElem? (i := 30) rfl)) rfl
theorem W_4_33 : (Cond.classLink "java/util/Arrays" (68 : Nat) "java/lang/ArrayIndexOutOfBoundsException") ∈ GW := gw_in (tb_4 (List.mem_of_getElem? (i := 33) rfl)) rfl
theorem W_4_34 : (Cond.instantiable "java/lang/ArrayIndexOutOfBoundsException" (6 : Nat)) ∈ GW := gw_in (tb_4 (List.mem_of_getElem? (i := 34) rfl)) rfl
theorem W_4_38 : (Cond.selects "java/lang/ArrayIndexOutOfBoundsException" ({ cls := "java/lang/Throwable", name := "fillInStackTrace", desc := "(I)Ljava/lang/Throwable;" } : Jvm.MethodName) ({ cls := "java/lang/Throwable", name := "fillInStackTrace", desc := "(I)Ljava/lang/Throwable;" } : Jvm.MethodName)) ∈ GW := gw_in (tb_4 (List.mem_of_getElem? (i := 38) rfl)) rfl
theorem W_4_39 : (Cond.lays "java/lang/ArrayIndexOutOfBoundsException" "java/lang/Throwable" "cause" "Ljava/lang/Throwable;") ∈ GW := gw_in (tb_4 (List.mem_of_getElem? (i := 39) rfl)) rfl
theorem W_4_40 : (Cond.lays "java/lang/ArrayIndexOutOfBoundsException" "java/lang/Throwable" "stackTrace" "[Ljava/lang/StackTraceElement;") ∈ GW := gw_in (tb_4 (List.mem_of_getElem? (i := 40) rfl)) rfl
theorem W_4_41 : (Cond.lays "java/lang/ArrayIndexOutOfBoundsException" "java/lang/Throwable" "suppressedExceptions" "Ljava/util/List;") ∈ GW := gw_in (tb_4 (List.mem_of_getElem? (i := 41) rfl)) rfl
theorem W_4_42 : (Cond.lays "java/lang/ArrayIndexOutOfBoundsException" "java/lang/Throwable" "detailMessage" "Ljava/lang/String;") ∈ GW := gw_in (tb_4 (List.mem_of_getElem? (i := 42) rfl)) rfl
theorem W_4_43 : (Cond.lays "java/lang/ArrayIndexOutOfBoundsException" "java/lang/Throwable" "backtrace" "Ljava/lang/Object;") ∈ GW := gw_in (tb_4 (List.mem_of_getElem? (i := 43) rfl)) rfl
theorem W_4_44 : (Cond.methodLink "java/util/Arrays" (70 : Nat) yJx00060_init_d00df) ∈ GW := gw_in (tb_4 (List.mem_of_getElem? (i := 44) rfl)) rfl
theorem W_4_45 : (Cond.instanceMethod yJx00060_init_d00df) ∈ GW := gw_in (tb_4 (List.mem_of_getElem? (i := 45) rfl)) rfl
theorem W_4_46 : (Cond.code yJx00060_init_d00df prog_12_method_3_code (2 : Nat) (Option.none : Option Jvm.ClassFile.FieldType)) ∈ GW := gw_in (tb_4 (List.mem_of_getElem? (i := 46) rfl)) rfl
theorem W_4_47 : (Cond.classLink "java/lang/ArrayIndexOutOfBoundsException" (10 : Nat) "java/lang/StringBuilder") ∈ GW := gw_in (tb_4 (List.mem_of_getElem? (i := 47) rfl)) rfl
theorem W_4_53 : (Cond.methodLink "java/lang/ArrayIndexOutOfBoundsException" (7 : Nat) ({ cls := "java/lang/IndexOutOfBoundsException", name := "<init>", desc := "(Ljava/lang/String;)V" } : Jvm.MethodName)) ∈ GW := gw_in (tb_4 (List.mem_of_getElem? (i := 53) rfl)) rfl
theorem W_4_54 : (Cond.instanceMethod ({ cls := "java/lang/IndexOutOfBoundsException", name := "<init>", desc := "(Ljava/lang/String;)V" } : Jvm.MethodName)) ∈ GW := gw_in (tb_4 (List.mem_of_getElem? (i := 54) rfl)) rfl
theorem W_4_55 : (Cond.code ({ cls := "java/lang/IndexOutOfBoundsException", name := "<init>", desc := "(Ljava/lang/String;)V" } : Jvm.MethodName) prog_17_method_2_code (2 : Nat) (Option.none : Option Jvm.ClassFile.FieldType)) ∈ GW := gw_in (tb_4 (List.mem_of_getElem? (i := 55) rfl)) rfl
theorem W_4_56 : (Cond.methodLink "java/lang/IndexOutOfBoundsException" (7 : Nat) ({ cls := "java/lang/RuntimeException", name := "<init>", desc := "(Ljava/lang/String;)V" } : Jvm.MethodName)) ∈ GW := gw_in (tb_4 (List.mem_of_getElem? (i := 56) rfl)) rfl
theorem W_4_57 : (Cond.lays "java/lang/ArrayIndexOutOfBoundsException" "java/lang/Throwable" "depth" "I") ∈ GW := gw_in (tb_4 (List.mem_of_getElem? (i := 57) rfl)) rfl
theorem W_4_59 : (Cond.methodLink "HashgraphDesk$Graph" (95 : Nat) yX0_put) ∈ GW := gw_in (tb_4 (List.mem_of_getElem? (i := 59) rfl)) rfl
theorem W_4_60 : (Cond.instanceMethod yX0_put) ∈ GW := gw_in (tb_4 (List.mem_of_getElem? (i := 60) rfl)) rfl
theorem W_4_61 : (Cond.selects "HashgraphDesk$BitTable" yX0_put yX0_put) ∈ GW := gw_in (tb_4 (List.mem_of_getElem? (i := 61) rfl)) rfl
theorem W_4_62 : (Cond.code yX0_put prog_2_method_5_code (3 : Nat) (Option.none : Option Jvm.ClassFile.FieldType)) ∈ GW := gw_in (tb_4 (List.mem_of_getElem? (i := 62) rfl)) rfl
theorem W_4_63 : (Cond.methodLink "HashgraphDesk$Graph" (99 : Nat) yX0_join) ∈ GW := gw_in (tb_4 (List.mem_of_getElem? (i := 63) rfl)) rfl
theorem W_4_64 : (Cond.instanceMethod yX0_join) ∈ GW := gw_in (tb_4 (List.mem_of_getElem? (i := 64) rfl)) rfl
theorem W_4_65 : (Cond.selects "HashgraphDesk$BitTable" yX0_join yX0_join) ∈ GW := gw_in (tb_4 (List.mem_of_getElem? (i := 65) rfl)) rfl
theorem W_4_66 : (Cond.code yX0_join prog_2_method_6_code (5 : Nat) (Option.none : Option Jvm.ClassFile.FieldType)) ∈ GW := gw_in (tb_4 (List.mem_of_getElem? (i := 66) rfl)) rfl
theorem W_4_67 : (Cond.methodLink "HashgraphDesk$Graph" (72 : Nat) yX3_countForks) ∈ GW := gw_in (tb_4 (List.mem_of_getElem? (i := 67) rfl)) rfl
theorem W_4_69 : (Cond.instanceMethod yX3_countForks) ∈ GW := gw_in (tb_4 (List.mem_of_getElem? (i := 69) rfl)) rfl
theorem W_4_70 : (Cond.code yX3_countForks prog_5_method_5_code (3 : Nat) (Option.none : Option Jvm.ClassFile.FieldType)) ∈ GW := gw_in (tb_4 (List.mem_of_getElem? (i := 70) rfl)) rfl
theorem W_4_71 : (Cond.methodLink "HashgraphDesk$Graph" (75 : Nat) yX3_findSeen) ∈ GW := gw_in (tb_4 (List.mem_of_getElem? (i := 71) rfl)) rfl
theorem W_4_73 : (Cond.instanceMethod yX3_findSeen) ∈ GW := gw_in (tb_4 (List.mem_of_getElem? (i := 73) rfl)) rfl
theorem W_4_74 : (Cond.code yX3_findSeen prog_5_method_6_code (3 : Nat) (Option.none : Option Jvm.ClassFile.FieldType)) ∈ GW := gw_in (tb_4 (List.mem_of_getElem? (i := 74) rfl)) rfl
theorem W_4_75 : (Cond.methodLink "HashgraphDesk$Graph" (106 : Nat) yX3_countAncestorsByCreator) ∈ GW := gw_in (tb_4 (List.mem_of_getElem? (i := 75) rfl)) rfl
theorem W_4_77 : (Cond.instanceMethod yX3_countAncestorsByCreator) ∈ GW := gw_in (tb_4 (List.mem_of_getElem? (i := 77) rfl)) rfl
theorem W_4_78 : (Cond.code yX3_countAncestorsByCreator prog_5_method_7_code (4 : Nat) (Option.none : Option Jvm.ClassFile.FieldType)) ∈ GW := gw_in (tb_4 (List.mem_of_getElem? (i := 78) rfl)) rfl
theorem W_4_79 : (Cond.methodLink "HashgraphDesk$Graph" (109 : Nat) yX0_has) ∈ GW := gw_in (tb_4 (List.mem_of_getElem? (i := 79) rfl)) rfl
theorem W_4_80 : (Cond.instanceMethod yX0_has) ∈ GW := gw_in (tb_4 (List.mem_of_getElem? (i := 80) rfl)) rfl
theorem W_4_81 : (Cond.selects "HashgraphDesk$BitTable" yX0_has yX0_has) ∈ GW := gw_in (tb_4 (List.mem_of_getElem? (i := 81) rfl)) rfl
theorem W_4_82 : (Cond.code yX0_has prog_2_method_4_code (3 : Nat) (Option.some Jvm.ClassFile.FieldType.boolean)) ∈ GW := gw_in (tb_4 (List.mem_of_getElem? (i := 82) rfl)) rfl
theorem W_4_83 : (Cond.methodLink "HashgraphDesk$Graph" (117 : Nat) yJ9_max_7cf53) ∈ GW := gw_in (tb_4 (List.mem_of_getElem? (i := 83) rfl)) rfl
theorem W_4_84 : (Cond.methodLink "HashgraphDesk$Graph" (113 : Nat) yX3_isForker) ∈ GW := gw_in (tb_4 (List.mem_of_getElem? (i := 84) rfl)) rfl
theorem W_4_86 : (Cond.instanceMethod yX3_isForker) ∈ GW := gw_in (tb_4 (List.mem_of_getElem? (i := 86) rfl)) rfl
theorem W_4_87 : (Cond.code yX3_isForker prog_5_method_8_code (2 : Nat) (Option.some Jvm.ClassFile.FieldType.boolean)) ∈ GW := gw_in (tb_4 (List.mem_of_getElem? (i := 87) rfl)) rfl
theorem W_4_88 : (Cond.methodLink "HashgraphDesk$Graph" (78 : Nat) yX3_findStronglySeen) ∈ GW := gw_in (tb_4 (List.mem_of_getElem? (i := 88) rfl)) rfl
theorem W_4_90 : (Cond.instanceMethod yX3_findStronglySeen) ∈ GW := gw_in (tb_4 (List.mem_of_getElem? (i := 90) rfl)) rfl
theorem W_4_91 : (Cond.code yX3_findStronglySeen prog_5_method_9_code (3 : Nat) (Option.none : Option Jvm.ClassFile.FieldType)) ∈ GW := gw_in (tb_4 (List.mem_of_getElem? (i := 91) rfl)) rfl
theorem W_4_92 : (Cond.methodLink "HashgraphDesk$Graph" (123 : Nat) yX0_clear) ∈ GW := gw_in (tb_4 (List.mem_of_getElem? (i := 92) rfl)) rfl
theorem W_4_93 : (Cond.methodLink "HashgraphDesk$Graph" (126 : Nat) yX0_rowsWith) ∈ GW := gw_in (tb_4 (List.mem_of_getElem? (i := 93) rfl)) rfl
theorem W_4_94 : (Cond.instanceMethod yX0_rowsWith) ∈ GW := gw_in (tb_4 (List.mem_of_getElem? (i := 94) rfl)) rfl
theorem W_4_95 : (Cond.selects "HashgraphDesk$BitTable" yX0_rowsWith yX0_rowsWith) ∈ GW := gw_in (tb_4 (List.mem_of_getElem? (i := 95) rfl)) rfl
theorem W_4_96 : (Cond.code yX0_rowsWith prog_2_method_9_code (4 : Nat) (Option.some Jvm.ClassFile.FieldType.int)) ∈ GW := gw_in (tb_4 (List.mem_of_getElem? (i := 96) rfl)) rfl
theorem W_4_97 : (Cond.methodLink "HashgraphDesk$BitTable" (38 : Nat) yX0_has) ∈ GW := gw_in (tb_4 (List.mem_of_getElem? (i := 97) rfl)) rfl
theorem W_4_99 : (Cond.static yX7_isMost) ∈ GW := gw_in (tb_4 (List.mem_of_getElem? (i := 99) rfl)) rfl
theorem W_4_100 : (Cond.code yX7_isMost prog_1_method_23_code (2 : Nat) (Option.some Jvm.ClassFile.FieldType.boolean)) ∈ GW := gw_in (tb_4 (List.mem_of_getElem? (i := 100) rfl)) rfl
theorem W_4_101 : (Cond.methodLink "HashgraphDesk$Graph" (81 : Nat) yX3_findRound) ∈ GW := gw_in (tb_4 (List.mem_of_getElem? (i := 101) rfl)) rfl
theorem W_4_103 : (Cond.instanceMethod yX3_findRound) ∈ GW := gw_in (tb_4 (List.mem_of_getElem? (i := 103) rfl)) rfl
theorem W_4_104 : (Cond.code yX3_findRound prog_5_method_10_code (6 : Nat) (Option.none : Option Jvm.ClassFile.FieldType)) ∈ GW := gw_in (tb_4 (List.mem_of_getElem? (i := 104) rfl)) rfl
theorem W_4_105 : (Cond.methodLink "HashgraphDesk$Graph" (133 : Nat) yX3_stronglySeesMostOf) ∈ GW := gw_in (tb_4 (List.mem_of_getElem? (i := 105) rfl)) rfl
theorem W_4_107 : (Cond.instanceMethod yX3_stronglySeesMostOf) ∈ GW := gw_in (tb_4 (List.mem_of_getElem? (i := 107) rfl)) rfl
theorem W_4_108 : (Cond.code yX3_stronglySeesMostOf prog_5_method_11_code (5 : Nat) (Option.some Jvm.ClassFile.FieldType.boolean)) ∈ GW := gw_in (tb_4 (List.mem_of_getElem? (i := 108) rfl)) rfl
theorem W_4_109 : (Cond.methodLink "HashgraphDesk$Graph" (136 : Nat) yJ6_bitCount_0f7a4) ∈ GW := gw_in (tb_4 (List.mem_of_getElem? (i := 109) rfl)) rfl
theorem W_4_110 : (Cond.static yJ6_bitCount_0f7a4) ∈ GW := gw_in (tb_4 (List.mem_of_getElem? (i := 110) rfl)) rfl
theorem W_4_111 : (Cond.code yJ6_bitCount_0f7a4 prog_18_method_49_code (1 : Nat) (Option.some Jvm.ClassFile.FieldType.int)) ∈ GW := gw_in (tb_4 (List.mem_of_getElem? (i := 111) rfl)) rfl
theorem W_4_112 : (Cond.constant "java/lang/Integer" (265 : Nat) (1431655765 : Int32)) ∈ GW := gw_in (tb_4 (List.mem_of_getElem? (i := 112) rfl)) rfl
theorem W_4_113 : (Cond.constant "java/lang/Integer" (266 : Nat) (858993459 : Int32)) ∈ GW := gw_in (tb_4 (List.mem_of_getElem? (i := 113) rfl)) rfl
theorem W_4_114 : (Cond.constant "java/lang/Integer" (267 : Nat) (252645135 : Int32)) ∈ GW := gw_in (tb_4 (List.mem_of_getElem? (i := 114) rfl)) rfl
theorem W_4_115 : (Cond.methodLink "HashgraphDesk" (242 : Nat) yX1_take) ∈ GW := gw_in (tb_4 (List.mem_of_getElem? (i := 115) rfl)) rfl
theorem W_4_116 : (Cond.instanceMethod yX1_take) ∈ GW := gw_in (tb_4 (List.mem_of_getElem? (i := 116) rfl)) rfl
theorem W_4_117 : (Cond.selects "HashgraphDesk$Election" yX1_take yX1_take) ∈ GW := gw_in (tb_4 (List.mem_of_getElem? (i := 117) rfl)) rfl
theorem W_4_118 : (Cond.code yX1_take prog_3_method_5_code (3 : Nat) (Option.none : Option Jvm.ClassFile.FieldType)) ∈ GW := gw_in (tb_4 (List.mem_of_getElem? (i := 118) rfl)) rfl
theorem W_4_119 : (Cond.methodLink "HashgraphDesk$Election" (55 : Nat) yX1_findElectors) ∈ GW := gw_in (tb_4 (List.mem_of_getElem? (i := 119) rfl)) rfl
theorem W_4_121 : (Cond.instanceMethod yX1_findElectors) ∈ GW := gw_in (tb_4 (List.mem_of_getElem? (i := 121) rfl)) rfl
theorem W_4_122 : (Cond.code yX1_findElectors prog_3_method_6_code (4 : Nat) (Option.none : Option Jvm.ClassFile.FieldType)) ∈ GW := gw_in (tb_4 (List.mem_of_getElem? (i := 122) rfl)) rfl
theorem W_4_123 : (Cond.methodLink "HashgraphDesk$Election" (58 : Nat) yX0_clearRow) ∈ GW := gw_in (tb_4 (List.mem_of_getElem? (i := 123) rfl)) rfl
theorem W_4_124 : (Cond.methodLink "HashgraphDesk$Election" (45 : Nat) yX0_has) ∈ GW := gw_in (tb_4 (List.mem_of_getElem? (i := 124) rfl)) rfl
theorem W_4_125 : (Cond.methodLink "HashgraphDesk$Election" (71 : Nat) yX0_put) ∈ GW := gw_in (tb_4 (List.mem_of_getElem? (i := 125) rfl)) rfl
theorem W_4_126 : (Cond.methodLink "HashgraphDesk$Election" (64 : Nat) yX1_castVote) ∈ GW := gw_in (tb_4 (List.mem_of_getElem? (i := 126) rfl)) rfl
theorem W_4_128 : (Cond.instanceMethod yX1_castVote) ∈ GW := gw_in (tb_4 (List.mem_of_getElem? (i := 128) rfl)) rfl
theorem W_4_129 : (Cond.code yX1_castVote prog_3_method_7_code (8 : Nat) (Option.none : Option Jvm.ClassFile.FieldType)) ∈ GW := gw_in (tb_4 (List.mem_of_getElem? (i := 129) rfl)) rfl
theorem W_4_130 : (Cond.methodLink "HashgraphDesk$Election" (77 : Nat) yX1_write) ∈ GW := gw_in (tb_4 (List.mem_of_getElem? (i := 130) rfl)) rfl
theorem W_4_132 : (Cond.instanceMethod yX1_write) ∈ GW := gw_in (tb_4 (List.mem_of_getElem? (i := 132) rfl)) rfl
theorem W_4_133 : (Cond.code yX1_write prog_3_method_8_code (5 : Nat) (Option.none : Option Jvm.ClassFile.FieldType)) ∈ GW := gw_in (tb_4 (List.mem_of_getElem? (i := 133) rfl)) rfl
theorem W_4_134 : (Cond.methodLink "HashgraphDesk$Election" (81 : Nat) yX0_sizeInCommon) ∈ GW := gw_in (tb_4 (List.mem_of_getElem? (i := 134) rfl)) rfl
theorem W_4_135 : (Cond.instanceMethod yX0_sizeInCommon) ∈ GW := gw_in (tb_4 (List.mem_of_getElem? (i := 135) rfl)) rfl
theorem W_4_136 : (Cond.selects "HashgraphDesk$BitTable" yX0_sizeInCommon yX0_sizeInCommon) ∈ GW := gw_in (tb_4 (List.mem_of_getElem? (i := 136) rfl)) rfl
theorem W_4_137 : (Cond.code yX0_sizeInCommon prog_2_method_8_code (6 : Nat) (Option.some Jvm.ClassFile.FieldType.int)) ∈ GW := gw_in (tb_4 (List.mem_of_getElem? (i := 137) rfl)) rfl
theorem W_4_138 : (Cond.methodLink "HashgraphDesk$BitTable" (32 : Nat) yJ13_bitCount_95d88) ∈ GW := gw_in (tb_4 (List.mem_of_getElem? (i := 138) rfl)) rfl
theorem W_4_139 : (Cond.static yJ13_bitCount_95d88) ∈ GW := gw_in (tb_4 (List.mem_of_getElem? (i := 139) rfl)) rfl
theorem W_4_140 : (Cond.code yJ13_bitCount_95d88 prog_19_method_50_code (2 : Nat) (Option.some Jvm.ClassFile.FieldType.int)) ∈ GW := gw_in (tb_4 (List.mem_of_getElem? (i := 140) rfl)) rfl
theorem W_4_141 : (Cond.constantLong "java/lang/Long" (314 : Nat) (6148914691236517205 : Int64)) ∈ GW := gw_in (tb_4 (List.mem_of_getElem? (i := 141) rfl)) rfl
theorem W_4_142 : (Cond.constantLong "java/lang/Long" (316 : Nat) (3689348814741910323 : Int64)) ∈ GW := gw_in (tb_4 (List.mem_of_getElem? (i := 142) rfl)) rfl
theorem W_4_143 : (Cond.constantLong "java/lang/Long" (318 : Nat) (1085102592571150095 : Int64)) ∈ GW := gw_in (tb_4 (List.mem_of_getElem? (i := 143) rfl)) rfl
theorem W_4_144 : (Cond.methodLink "HashgraphDesk$Election" (85 : Nat) yX0_size) ∈ GW := gw_in (tb_4 (List.mem_of_getElem? (i := 144) rfl)) rfl
theorem W_4_145 : (Cond.instanceMethod yX0_size) ∈ GW := gw_in (tb_4 (List.mem_of_getElem? (i := 145) rfl)) rfl
theorem W_4_146 : (Cond.selects "HashgraphDesk$BitTable" yX0_size yX0_size) ∈ GW := gw_in (tb_4 (List.mem_of_getElem? (i := 146) rfl)) rfl
theorem W_4_147 : (Cond.code yX0_size prog_2_method_7_code (2 : Nat) (Option.some Jvm.ClassFile.FieldType.int)) ∈ GW := gw_in (tb_4 (List.mem_of_getElem? (i := 147) rfl)) rfl
theorem W_4_148 : (Cond.methodLink "HashgraphDesk$BitTable" (28 : Nat) yX0_sizeInCommon) ∈ GW := gw_in (tb_4 (List.mem_of_getElem? (i := 148) rfl)) rfl
theorem W_4_149 : (Cond.methodLink "HashgraphDesk$Election" (88 : Nat) yJ9_max_7cf53) ∈ GW := gw_in (tb_4 (List.mem_of_getElem? (i := 149) rfl)) rfl
theorem W_4_151 : (Cond.methodLink "HashgraphDesk$Election" (97 : Nat) yX2_hashWord) ∈ GW := gw_in (tb_4 (List.mem_of_getElem? (i := 151) rfl)) rfl
theorem W_4_152 : (Cond.methodLink "HashgraphDesk" (101 : Nat) yX7_give) ∈ GW := gw_in (tb_4 (List.mem_of_getElem? (i := 152) rfl)) rfl
theorem W_4_154 : (Cond.instanceMethod yX7_give) ∈ GW := gw_in (tb_4 (List.mem_of_getElem? (i := 154) rfl)) rfl
theorem W_4_155 : (Cond.code yX7_give prog_1_method_18_code (3 : Nat) (Option.none : Option Jvm.ClassFile.FieldType)) ∈ GW := gw_in (tb_4 (List.mem_of_getElem? (i := 155) rfl)) rfl
theorem W_4_156 : (Cond.methodLink "HashgraphDesk" (243 : Nat) yX0_put) ∈ GW := gw_in (tb_4 (List.mem_of_getElem? (i := 156) rfl)) rfl
theorem W_4_157 : (Cond.fieldLink "HashgraphDesk" (10 : Nat) "HashgraphDesk" "waiting" "LHashgraphDesk$Waiting;") ∈ GW := gw_in (tb_4 (List.mem_of_getElem? (i := 157) rfl)) rfl
theorem W_4_158 : (Cond.fieldLink "HashgraphDesk" (19 : Nat) "HashgraphDesk" "events" "LHashgraphDesk$Events;") ∈ GW := gw_in (tb_4 (List.mem_of_getElem? (i := 158) rfl)) rfl
theorem W_4_159 : (Cond.fieldLink "HashgraphDesk" (28 : Nat) "HashgraphDesk" "graph" "LHashgraphDesk$Graph;") ∈ GW := gw_in (tb_4 (List.mem_of_getElem? (i := 159) rfl)) rfl
theorem W_4_160 : (Cond.fieldLink "HashgraphDesk" (37 : Nat) "HashgraphDesk" "election" "LHashgraphDesk$Election;") ∈ GW := gw_in (tb_4 (List.mem_of_getElem? (i := 160) rfl)) rfl
theorem W_4_161 : (Cond.fieldLink "HashgraphDesk" (43 : Nat) "HashgraphDesk" "views" "[LHashgraphDesk$View;") ∈ GW := gw_in (tb_4 (List.mem_of_getElem? (i := 161) rfl)) rfl
theorem W_4_162 : (Cond.fieldLink "HashgraphDesk" (47 : Nat) "HashgraphDesk" "latest" "[I") ∈ GW := gw_in (tb_4 (List.mem_of_getElem? (i := 162) rfl)) rfl
theorem W_4_163 : (Cond.fieldLink "HashgraphDesk" (195 : Nat) "HashgraphDesk" "nodes" "I") ∈ GW := gw_in (tb_4 (List.mem_of_getElem? (i := 163) rfl)) rfl
theorem W_4_164 : (Cond.laysFinal "HashgraphDesk" "HashgraphDesk" "waiting" "LHashgraphDesk$Waiting;") ∈ GW := gw_in (tb_4 (List.mem_of_getElem? (i := 164) rfl)) rfl
theorem W_4_166 : (Cond.laysFinal "HashgraphDesk" "HashgraphDesk" "events" "LHashgraphDesk$Events;") ∈ GW := gw_in (tb_4 (List.mem_of_getElem? (i := 166) rfl)) rfl
theorem W_4_168 : (Cond.laysFinal "HashgraphDesk" "HashgraphDesk" "graph" "LHashgraphDesk$Graph;") ∈ GW := gw_in (tb_4 (List.mem_of_getElem? (i := 168) rfl)) rfl
theorem W_4_170 : (Cond.laysFinal "HashgraphDesk" "HashgraphDesk" "election" "LHashgraphDesk$Election;") ∈ GW := gw_in (tb_4 (List.mem_of_getElem? (i := 170) rfl)) rfl
theorem W_4_172 : (Cond.laysFinal "HashgraphDesk" "HashgraphDesk" "views" "[LHashgraphDesk$View;") ∈ GW := gw_in (tb_4 (List.mem_of_getElem? (i := 172) rfl)) rfl
theorem W_4_174 : (Cond.laysFinal "HashgraphDesk" "HashgraphDesk" "latest" "[I") ∈ GW := gw_in (tb_4 (List.mem_of_getElem? (i := 174) rfl)) rfl
theorem W_4_176 : (Cond.lays "HashgraphDesk" "HashgraphDesk" "nodes" "I") ∈ GW := gw_in (tb_4 (List.mem_of_getElem? (i := 176) rfl)) rfl
theorem W_4_179 : (Cond.methodLink "HashgraphDeskLaw" (71 : Nat) yL_begin) ∈ GW := gw_in (tb_4 (List.mem_of_getElem? (i := 179) rfl)) rfl
theorem W_4_180 : (Cond.static yL_begin) ∈ GW := gw_in (tb_4 (List.mem_of_getElem? (i := 180) rfl)) rfl
theorem W_4_181 : (Cond.codeWith yL_begin method_3_code (3 : Nat) (Option.some Jvm.ClassFile.FieldType.int) [((0 : Nat), (5 : Nat), (8 : Nat), (13 : Nat))]) ∈ GW := gw_in (tb_4 (List.mem_of_getElem? (i := 181) rfl)) rfl
theorem W_4_182 : (Cond.classLink "HashgraphDeskLaw" (13 : Nat) "java/lang/IllegalArgumentException") ∈ GW := gw_in (tb_4 (List.mem_of_getElem? (i := 182) rfl)) rfl
theorem W_4_183 : (Cond.methodLink "HashgraphDeskLaw" (7 : Nat) yX7_begin) ∈ GW := gw_in (tb_4 (List.mem_of_getElem? (i := 183) rfl)) rfl
theorem W_4_184 : (Cond.instanceMethod yX7_begin) ∈ GW := gw_in (tb_4 (List.mem_of_getElem? (i := 184) rfl)) rfl
theorem W_4_185 : (Cond.selects "HashgraphDesk" yX7_begin yX7_begin) ∈ GW := gw_in (tb_4 (List.mem_of_getElem? (i := 185) rfl)) rfl
theorem W_4_186 : (Cond.code yX7_begin prog_1_method_2_code (2 : Nat) (Option.none : Option Jvm.ClassFile.FieldType)) ∈ GW := gw_in (tb_4 (List.mem_of_getElem? (i := 186) rfl)) rfl
theorem W_4_187 : (Cond.classLink "HashgraphDesk" (58 : Nat) "java/lang/IllegalArgumentException") ∈ GW := gw_in (tb_4 (List.mem_of_getElem? (i := 187) rfl)) rfl
theorem W_4_188 : (Cond.methodLink "HashgraphDesk" (60 : Nat) ({ cls := "java/lang/IllegalArgumentException", name := "<init>", desc := "()V" } : Jvm.MethodName)) ∈ GW := gw_in (tb_4 (List.mem_of_getElem? (i := 188) rfl)) rfl
theorem W_4_189 : (Cond.instanceMethod ({ cls := "java/lang/IllegalArgumentException", name := "<init>", desc := "()V" } : Jvm.MethodName)) ∈ GW := gw_in (tb_4 (List.mem_of_getElem? (i := 189) rfl)) rfl
theorem W_4_190 : (Cond.code ({ cls := "java/lang/IllegalArgumentException", name := "<init>", desc := "()V" } : Jvm.MethodName) prog_15_method_1_code (1 : Nat) (Option.none : Option Jvm.ClassFile.FieldType)) ∈ GW := gw_in (tb_4 (List.mem_of_getElem? (i := 190) rfl)) rfl
theorem W_4_191 : (Cond.methodLink "java/lang/IllegalArgumentException" (1 : Nat) ({ cls := "java/lang/RuntimeException", name := "<init>", desc := "()V" } : Jvm.MethodName)) ∈ GW := gw_in (tb_4 (List.mem_of_getElem? (i := 191) rfl)) rfl
theorem W_4_192 : (Cond.instanceMethod ({ cls := "java/lang/RuntimeException", name := "<init>", desc := "()V" } : Jvm.MethodName)) ∈ GW := gw_in (tb_4 (List.mem_of_getElem? (i := 192) rfl)) rfl
theorem W_4_193 : (Cond.code ({ cls := "java/lang/RuntimeException", name := "<init>", desc := "()V" } : Jvm.MethodName) prog_22_method_1_code (1 : Nat) (Option.none : Option Jvm.ClassFile.FieldType)) ∈ GW := gw_in (tb_4 (List.mem_of_getElem? (i := 193) rfl)) rfl
theorem W_4_194 : (Cond.methodLink "java/lang/RuntimeException" (1 : Nat) ({ cls := "java/lang/Exception", name := "<init>", desc := "()V" } : Jvm.MethodName)) ∈ GW := gw_in (tb_4 (List.mem_of_getElem? (i := 194) rfl)) rfl
theorem W_4_195 : (Cond.instanceMethod ({ cls := "java/lang/Exception", name := "<init>", desc := "()V" } : Jvm.MethodName)) ∈ GW := gw_in (tb_4 (List.mem_of_getElem? (i := 195) rfl)) rfl
theorem W_4_196 : (Cond.code ({ cls := "java/lang/Exception", name := "<init>", desc := "()V" } : Jvm.MethodName) prog_14_method_1_code (1 : Nat) (Option.none : Option Jvm.ClassFile.FieldType)) ∈ GW := gw_in (tb_4 (List.mem_of_getElem? (i := 196) rfl)) rfl
theorem W_4_197 : (Cond.methodLink "java/lang/Exception" (1 : Nat) ({ cls := "java/lang/Throwable", name := "<init>", desc := "()V" } : Jvm.MethodName)) ∈ GW := gw_in (tb_4 (List.mem_of_getElem? (i := 197) rfl)) rfl
theorem W_4_198 : (Cond.methodLink "HashgraphDeskLaw" (81 : Nat) yL_submit) ∈ GW := gw_in (tb_4 (List.mem_of_getElem? (i := 198) rfl)) rfl
theorem W_4_199 : (Cond.static yL_submit) ∈ GW := gw_in (tb_4 (List.mem_of_getElem? (i := 199) rfl)) rfl
theorem W_4_200 : (Cond.codeWith yL_submit method_4_code (6 : Nat) (Option.some Jvm.ClassFile.FieldType.int) [((0 : Nat), (12 : Nat), (15 : Nat), (13 : Nat)), ((0 : Nat), (12 : Nat), (19 : Nat), (19 : Nat))]) ∈ GW := gw_in (tb_4 (List.mem_of_getElem? (i := 200) rfl)) rfl
theorem W_4_201 : (Cond.classLink "HashgraphDeskLaw" (19 : Nat) "java/lang/IndexOutOfBoundsException") ∈ GW := gw_in (tb_4 (List.mem_of_getElem? (i := 201) rfl)) rfl
theorem W_4_202 : (Cond.methodLink "HashgraphDeskLaw" (15 : Nat) yX7_submit) ∈ GW := gw_in (tb_4 (List.mem_of_getElem? (i := 202) rfl)) rfl
theorem W_4_203 : (Cond.instanceMethod yX7_submit) ∈ GW := gw_in (tb_4 (List.mem_of_getElem? (i := 203) rfl)) rfl
theorem W_4_204 : (Cond.selects "HashgraphDesk" yX7_submit yX7_submit) ∈ GW := gw_in (tb_4 (List.mem_of_getElem? (i := 204) rfl)) rfl
theorem W_4_205 : (Cond.code yX7_submit prog_1_method_3_code (4 : Nat) (Option.some Jvm.ClassFile.FieldType.int)) ∈ GW := gw_in (tb_4 (List.mem_of_getElem? (i := 205) rfl)) rfl
theorem W_4_206 : (Cond.methodLink "HashgraphDesk" (61 : Nat) yX7_isNode) ∈ GW := gw_in (tb_4 (List.mem_of_getElem? (i := 206) rfl)) rfl
theorem W_4_208 : (Cond.instanceMethod yX7_isNode) ∈ GW := gw_in (tb_4 (List.mem_of_getElem? (i := 208) rfl)) rfl
theorem W_4_209 : (Cond.code yX7_isNode prog_1_method_20_code (2 : Nat) (Option.some Jvm.ClassFile.FieldType.boolean)) ∈ GW := gw_in (tb_4 (List.mem_of_getElem? (i := 209) rfl)) rfl
theorem W_4_210 : (Cond.constant "HashgraphDesk" (65 : Nat) (1000000 : Int32)) ∈ GW := gw_in (tb_4 (List.mem_of_getElem? (i := 210) rfl)) rfl
theorem W_4_211 : (Cond.methodLink "HashgraphDesk" (66 : Nat) yX6_isFull) ∈ GW := gw_in (tb_4 (List.mem_of_getElem? (i := 211) rfl)) rfl
theorem W_4_212 : (Cond.instanceMethod yX6_isFull) ∈ GW := gw_in (tb_4 (List.mem_of_getElem? (i := 212) rfl)) rfl
theorem W_4_213 : (Cond.selects "HashgraphDesk$Waiting" yX6_isFull yX6_isFull) ∈ GW := gw_in (tb_4 (List.mem_of_getElem? (i := 213) rfl)) rfl
theorem W_4_214 : (Cond.code yX6_isFull prog_8_method_3_code (2 : Nat) (Option.some Jvm.ClassFile.FieldType.boolean)) ∈ GW := gw_in (tb_4 (List.mem_of_getElem? (i := 214) rfl)) rfl
theorem W_4_215 : (Cond.classLink "HashgraphDesk" (69 : Nat) "java/lang/IndexOutOfBoundsException") ∈ GW := gw_in (tb_4 (List.mem_of_getElem? (i := 215) rfl)) rfl
theorem W_4_216 : (Cond.instantiable "java/lang/IndexOutOfBoundsException" (6 : Nat)) ∈ GW := gw_in (tb_4 (List.mem_of_getElem? (i := 216) rfl)) rfl
theorem W_4_218 : (Cond.selects "java/lang/IndexOutOfBoundsException" ({ cls := "java/lang/Throwable", name := "fillInStackTrace", desc := "(I)Ljava/lang/Throwable;" } : Jvm.MethodName) ({ cls := "java/lang/Throwable", name := "fillInStackTrace", desc := "(I)Ljava/lang/Throwable;" } : Jvm.MethodName)) ∈ GW := gw_in (tb_4 (List.mem_of_getElem? (i := 218) rfl)) rfl
theorem W_4_219 : (Cond.lays "java/lang/IndexOutOfBoundsException" "java/lang/Throwable" "cause" "Ljava/lang/Throwable;") ∈ GW := gw_in (tb_4 (List.mem_of_getElem? (i := 219) rfl)) rfl
theorem W_4_220 : (Cond.lays "java/lang/IndexOutOfBoundsException" "java/lang/Throwable" "stackTrace" "[Ljava/lang/StackTraceElement;") ∈ GW := gw_in (tb_4 (List.mem_of_getElem? (i := 220) rfl)) rfl
theorem W_4_221 : (Cond.lays "java/lang/IndexOutOfBoundsException" "java/lang/Throwable" "suppressedExceptions" "Ljava/util/List;") ∈ GW := gw_in (tb_4 (List.mem_of_getElem? (i := 221) rfl)) rfl
theorem W_4_222 : (Cond.lays "java/lang/IndexOutOfBoundsException" "java/lang/Throwable" "detailMessage" "Ljava/lang/String;") ∈ GW := gw_in (tb_4 (List.mem_of_getElem? (i := 222) rfl)) rfl
theorem W_4_223 : (Cond.lays "java/lang/IndexOutOfBoundsException" "java/lang/Throwable" "backtrace" "Ljava/lang/Object;") ∈ GW := gw_in (tb_4 (List.mem_of_getElem? (i := 223) rfl)) rfl
theorem W_4_224 : (Cond.methodLink "HashgraphDesk" (71 : Nat) ({ cls := "java/lang/IndexOutOfBoundsException", name := "<init>", desc := "()V" } : Jvm.MethodName)) ∈ GW := gw_in (tb_4 (List.mem_of_getElem? (i := 224) rfl)) rfl
theorem W_4_225 : (Cond.instanceMethod ({ cls := "java/lang/IndexOutOfBoundsException", name := "<init>", desc := "()V" } : Jvm.MethodName)) ∈ GW := gw_in (tb_4 (List.mem_of_getElem? (i := 225) rfl)) rfl
theorem W_4_226 : (Cond.code ({ cls := "java/lang/IndexOutOfBoundsException", name := "<init>", desc := "()V" } : Jvm.MethodName) prog_17_method_1_code (1 : Nat) (Option.none : Option Jvm.ClassFile.FieldType)) ∈ GW := gw_in (tb_4 (List.mem_of_getElem? (i := 226) rfl)) rfl
theorem W_4_227 : (Cond.methodLink "java/lang/IndexOutOfBoundsException" (1 : Nat) ({ cls := "java/lang/RuntimeException", name := "<init>", desc := "()V" } : Jvm.MethodName)) ∈ GW := gw_in (tb_4 (List.mem_of_getElem? (i := 227) rfl)) rfl
theorem W_4_228 : (Cond.lays "java/lang/IndexOutOfBoundsException" "java/lang/Throwable" "depth" "I") ∈ GW := gw_in (tb_4 (List.mem_of_getElem? (i := 228) rfl)) rfl
theorem W_4_230 : (Cond.methodLink "HashgraphDesk" (72 : Nat) yX6_join) ∈ GW := gw_in (tb_4 (List.mem_of_getElem? (i := 230) rfl)) rfl
theorem W_4_231 : (Cond.instanceMethod yX6_join) ∈ GW := gw_in (tb_4 (List.mem_of_getElem? (i := 231) rfl)) rfl
theorem W_4_232 : (Cond.selects "HashgraphDesk$Waiting" yX6_join yX6_join) ∈ GW := gw_in (tb_4 (List.mem_of_getElem? (i := 232) rfl)) rfl
theorem W_4_233 : (Cond.code yX6_join prog_8_method_4_code (5 : Nat) (Option.none : Option Jvm.ClassFile.FieldType)) ∈ GW := gw_in (tb_4 (List.mem_of_getElem? (i := 233) rfl)) rfl
theorem W_4_234 : (Cond.methodLink "HashgraphDeskLaw" (87 : Nat) yL_sync) ∈ GW := gw_in (tb_4 (List.mem_of_getElem? (i := 234) rfl)) rfl
theorem W_4_235 : (Cond.static yL_sync) ∈ GW := gw_in (tb_4 (List.mem_of_getElem? (i := 235) rfl)) rfl
theorem W_4_236 : (Cond.codeWith yL_sync method_5_code (7 : Nat) (Option.some Jvm.ClassFile.FieldType.int) [((0 : Nat), (12 : Nat), (15 : Nat), (13 : Nat)), ((0 : Nat), (12 : Nat), (19 : Nat), (19 : Nat))]) ∈ GW := gw_in (tb_4 (List.mem_of_getElem? (i := 236) rfl)) rfl
theorem W_4_237 : (Cond.methodLink "HashgraphDeskLaw" (21 : Nat) yX7_sync) ∈ GW := gw_in (tb_4 (List.mem_of_getElem? (i := 237) rfl)) rfl
theorem W_4_238 : (Cond.instanceMethod yX7_sync) ∈ GW := gw_in (tb_4 (List.mem_of_getElem? (i := 238) rfl)) rfl
theorem W_4_239 : (Cond.selects "HashgraphDesk" yX7_sync yX7_sync) ∈ GW := gw_in (tb_4 (List.mem_of_getElem? (i := 239) rfl)) rfl
theorem W_5_0 : (Cond.code yX7_sync prog_1_method_4_code (6 : Nat) (Option.some Jvm.ClassFile.FieldType.int)) ∈ GW := gw_in (tb_5 (List.mem_of_getElem? (i := 0) rfl)) rfl
theorem W_5_1 : (Cond.methodLink "HashgraphDesk" (79 : Nat) yX2_isFull) ∈ GW := gw_in (tb_5 (List.mem_of_getElem? (i := 1) rfl)) rfl
theorem W_5_2 : (Cond.instanceMethod yX2_isFull) ∈ GW := gw_in (tb_5 (List.mem_of_getElem? (i := 2) rfl)) rfl
theorem W_5_3 : (Cond.selects "HashgraphDesk$Events" yX2_isFull yX2_isFull) ∈ GW := gw_in (tb_5 (List.mem_of_getElem? (i := 3) rfl)) rfl
theorem W_5_4 : (Cond.code yX2_isFull prog_4_method_3_code (1 : Nat) (Option.some Jvm.ClassFile.FieldType.boolean)) ∈ GW := gw_in (tb_5 (List.mem_of_getElem? (i := 4) rfl)) rfl
theorem W_5_5 : (Cond.methodLink "HashgraphDesk" (86 : Nat) yX0_join) ∈ GW := gw_in (tb_5 (List.mem_of_getElem? (i := 5) rfl)) rfl
theorem W_5_6 : (Cond.methodLink "HashgraphDesk" (91 : Nat) yJ9_min_7cf53) ∈ GW := gw_in (tb_5 (List.mem_of_getElem? (i := 6) rfl)) rfl
theorem W_5_7 : (Cond.methodLink "HashgraphDeskLaw" (91 : Nat) yL_inject) ∈ GW := gw_in (tb_5 (List.mem_of_getElem? (i := 7) rfl)) rfl
theorem W_5_8 : (Cond.static yL_inject) ∈ GW := gw_in (tb_5 (List.mem_of_getElem? (i := 8) rfl)) rfl
theorem W_5_9 : (Cond.codeWith yL_inject method_6_code (9 : Nat) (Option.some Jvm.ClassFile.FieldType.int) [((0 : Nat), (16 : Nat), (19 : Nat), (13 : Nat)), ((0 : Nat), (16 : Nat), (23 : Nat), (29 : Nat)), ((0 : Nat), (16 : Nat), (27 : Nat), (19 : Nat))]) ∈ GW := gw_in (tb_5 (List.mem_of_getElem? (i := 9) rfl)) rfl
theorem W_5_10 : (Cond.classLink "HashgraphDeskLaw" (29 : Nat) "java/lang/IllegalStateException") ∈ GW := gw_in (tb_5 (List.mem_of_getElem? (i := 10) rfl)) rfl
theorem W_5_11 : (Cond.methodLink "HashgraphDeskLaw" (25 : Nat) yX7_inject) ∈ GW := gw_in (tb_5 (List.mem_of_getElem? (i := 11) rfl)) rfl
theorem W_5_12 : (Cond.instanceMethod yX7_inject) ∈ GW := gw_in (tb_5 (List.mem_of_getElem? (i := 12) rfl)) rfl
theorem W_5_13 : (Cond.selects "HashgraphDesk" yX7_inject yX7_inject) ∈ GW := gw_in (tb_5 (List.mem_of_getElem? (i := 13) rfl)) rfl
theorem W_5_14 : (Cond.code yX7_inject prog_1_method_5_code (8 : Nat) (Option.some Jvm.ClassFile.FieldType.int)) ∈ GW := gw_in (tb_5 (List.mem_of_getElem? (i := 14) rfl)) rfl
theorem W_5_15 : (Cond.methodLink "HashgraphDesk" (105 : Nat) yX7_isHeld) ∈ GW := gw_in (tb_5 (List.mem_of_getElem? (i := 15) rfl)) rfl
theorem W_5_17 : (Cond.instanceMethod yX7_isHeld) ∈ GW := gw_in (tb_5 (List.mem_of_getElem? (i := 17) rfl)) rfl
theorem W_5_18 : (Cond.code yX7_isHeld prog_1_method_22_code (3 : Nat) (Option.some Jvm.ClassFile.FieldType.boolean)) ∈ GW := gw_in (tb_5 (List.mem_of_getElem? (i := 18) rfl)) rfl
theorem W_5_19 : (Cond.methodLink "HashgraphDesk" (119 : Nat) yX7_isEvent) ∈ GW := gw_in (tb_5 (List.mem_of_getElem? (i := 19) rfl)) rfl
theorem W_5_21 : (Cond.instanceMethod yX7_isEvent) ∈ GW := gw_in (tb_5 (List.mem_of_getElem? (i := 21) rfl)) rfl
theorem W_5_22 : (Cond.code yX7_isEvent prog_1_method_21_code (2 : Nat) (Option.some Jvm.ClassFile.FieldType.boolean)) ∈ GW := gw_in (tb_5 (List.mem_of_getElem? (i := 22) rfl)) rfl
theorem W_5_23 : (Cond.methodLink "HashgraphDesk" (154 : Nat) yX0_has) ∈ GW := gw_in (tb_5 (List.mem_of_getElem? (i := 23) rfl)) rfl
theorem W_5_24 : (Cond.methodLink "HashgraphDesk" (112 : Nat) yX2_hasOneOf) ∈ GW := gw_in (tb_5 (List.mem_of_getElem? (i := 24) rfl)) rfl
theorem W_5_25 : (Cond.instanceMethod yX2_hasOneOf) ∈ GW := gw_in (tb_5 (List.mem_of_getElem? (i := 25) rfl)) rfl
theorem W_5_26 : (Cond.selects "HashgraphDesk$Events" yX2_hasOneOf yX2_hasOneOf) ∈ GW := gw_in (tb_5 (List.mem_of_getElem? (i := 26) rfl)) rfl
theorem W_5_27 : (Cond.code yX2_hasOneOf prog_4_method_9_code (7 : Nat) (Option.some Jvm.ClassFile.FieldType.boolean)) ∈ GW := gw_in (tb_5 (List.mem_of_getElem? (i := 27) rfl)) rfl
theorem W_5_28 : (Cond.classLink "HashgraphDesk" (116 : Nat) "java/lang/IllegalStateException") ∈ GW := gw_in (tb_5 (List.mem_of_getElem? (i := 28) rfl)) rfl
theorem W_5_29 : (Cond.instantiable "java/lang/IllegalStateException" (6 : Nat)) ∈ GW := gw_in (tb_5 (List.mem_of_getElem? (i := 29) rfl)) rfl
theorem W_5_31 : (Cond.selects "java/lang/IllegalStateException" ({ cls := "java/lang/Throwable", name := "fillInStackTrace", desc := "(I)Ljava/lang/Throwable;" } : Jvm.MethodName) ({ cls := "java/lang/Throwable", name := "fillInStackTrace", desc := "(I)Ljava/lang/Throwable;" } : Jvm.MethodName)) ∈ GW := gw_in (tb_5 (List.mem_of_getElem? (i := 31) rfl)) rfl
theorem W_5_32 : (Cond.lays "java/lang/IllegalStateException" "java/lang/Throwable" "cause" "Ljava/lang/Throwable;") ∈ GW := gw_in (tb_5 (List.mem_of_getElem? (i := 32) rfl)) rfl
theorem W_5_33 : (Cond.lays "java/lang/IllegalStateException" "java/lang/Throwable" "stackTrace" "[Ljava/lang/StackTraceElement;") ∈ GW := gw_in (tb_5 (List.mem_of_getElem? (i := 33) rfl)) rfl
theorem W_5_34 : (Cond.lays "java/lang/IllegalStateException" "java/lang/Throwable" "suppressedExceptions" "Ljava/util/List;") ∈ GW := gw_in (tb_5 (List.mem_of_getElem? (i := 34) rfl)) rfl
theorem W_5_35 : (Cond.lays "java/lang/IllegalStateException" "java/lang/Throwable" "detailMessage" "Ljava/lang/String;") ∈ GW := gw_in (tb_5 (List.mem_of_getElem? (i := 35) rfl)) rfl
theorem W_5_36 : (Cond.lays "java/lang/IllegalStateException" "java/lang/Throwable" "backtrace" "Ljava/lang/Object;") ∈ GW := gw_in (tb_5 (List.mem_of_getElem? (i := 36) rfl)) rfl
theorem W_5_37 : (Cond.methodLink "HashgraphDesk" (118 : Nat) ({ cls := "java/lang/IllegalStateException", name := "<init>", desc := "()V" } : Jvm.MethodName)) ∈ GW := gw_in (tb_5 (List.mem_of_getElem? (i := 37) rfl)) rfl
theorem W_5_38 : (Cond.instanceMethod ({ cls := "java/lang/IllegalStateException", name := "<init>", desc := "()V" } : Jvm.MethodName)) ∈ GW := gw_in (tb_5 (List.mem_of_getElem? (i := 38) rfl)) rfl
theorem W_5_39 : (Cond.code ({ cls := "java/lang/IllegalStateException", name := "<init>", desc := "()V" } : Jvm.MethodName) prog_16_method_1_code (1 : Nat) (Option.none : Option Jvm.ClassFile.FieldType)) ∈ GW := gw_in (tb_5 (List.mem_of_getElem? (i := 39) rfl)) rfl
theorem W_5_40 : (Cond.methodLink "java/lang/IllegalStateException" (1 : Nat) ({ cls := "java/lang/RuntimeException", name := "<init>", desc := "()V" } : Jvm.MethodName)) ∈ GW := gw_in (tb_5 (List.mem_of_getElem? (i := 40) rfl)) rfl
theorem W_5_41 : (Cond.lays "java/lang/IllegalStateException" "java/lang/Throwable" "depth" "I") ∈ GW := gw_in (tb_5 (List.mem_of_getElem? (i := 41) rfl)) rfl
theorem W_5_43 : (Cond.methodLink "HashgraphDeskLaw" (95 : Nat) yL_event) ∈ GW := gw_in (tb_5 (List.mem_of_getElem? (i := 43) rfl)) rfl
theorem W_5_44 : (Cond.static yL_event) ∈ GW := gw_in (tb_5 (List.mem_of_getElem? (i := 44) rfl)) rfl
theorem W_5_45 : (Cond.codeWith yL_event method_7_code (5 : Nat) (Option.some Jvm.ClassFile.FieldType.int) [((0 : Nat), (10 : Nat), (13 : Nat), (13 : Nat)), ((0 : Nat), (10 : Nat), (17 : Nat), (19 : Nat))]) ∈ GW := gw_in (tb_5 (List.mem_of_getElem? (i := 45) rfl)) rfl
theorem W_5_46 : (Cond.methodLink "HashgraphDeskLaw" (31 : Nat) yX7_event) ∈ GW := gw_in (tb_5 (List.mem_of_getElem? (i := 46) rfl)) rfl
theorem W_5_47 : (Cond.instanceMethod yX7_event) ∈ GW := gw_in (tb_5 (List.mem_of_getElem? (i := 47) rfl)) rfl
theorem W_5_48 : (Cond.selects "HashgraphDesk" yX7_event yX7_event) ∈ GW := gw_in (tb_5 (List.mem_of_getElem? (i := 48) rfl)) rfl
theorem W_5_49 : (Cond.code yX7_event prog_1_method_6_code (3 : Nat) (Option.some Jvm.ClassFile.FieldType.int)) ∈ GW := gw_in (tb_5 (List.mem_of_getElem? (i := 49) rfl)) rfl
theorem W_5_50 : (Cond.methodLink "HashgraphDesk" (138 : Nat) yX0_rowsWith) ∈ GW := gw_in (tb_5 (List.mem_of_getElem? (i := 50) rfl)) rfl
theorem W_5_51 : (Cond.methodLink "HashgraphDesk" (145 : Nat) yX0_size) ∈ GW := gw_in (tb_5 (List.mem_of_getElem? (i := 51) rfl)) rfl
theorem W_5_52 : (Cond.methodLink "HashgraphDeskLaw" (99 : Nat) yL_hash) ∈ GW := gw_in (tb_5 (List.mem_of_getElem? (i := 52) rfl)) rfl
theorem W_5_53 : (Cond.static yL_hash) ∈ GW := gw_in (tb_5 (List.mem_of_getElem? (i := 53) rfl)) rfl
theorem W_5_54 : (Cond.codeWith yL_hash method_8_code (5 : Nat) (Option.some Jvm.ClassFile.FieldType.int) [((0 : Nat), (10 : Nat), (13 : Nat), (19 : Nat))]) ∈ GW := gw_in (tb_5 (List.mem_of_getElem? (i := 54) rfl)) rfl
theorem W_5_55 : (Cond.methodLink "HashgraphDeskLaw" (35 : Nat) yX7_hash) ∈ GW := gw_in (tb_5 (List.mem_of_getElem? (i := 55) rfl)) rfl
theorem W_5_56 : (Cond.instanceMethod yX7_hash) ∈ GW := gw_in (tb_5 (List.mem_of_getElem? (i := 56) rfl)) rfl
theorem W_5_57 : (Cond.selects "HashgraphDesk" yX7_hash yX7_hash) ∈ GW := gw_in (tb_5 (List.mem_of_getElem? (i := 57) rfl)) rfl
theorem W_5_58 : (Cond.code yX7_hash prog_1_method_7_code (3 : Nat) (Option.some Jvm.ClassFile.FieldType.int)) ∈ GW := gw_in (tb_5 (List.mem_of_getElem? (i := 58) rfl)) rfl
theorem W_5_59 : (Cond.methodLink "HashgraphDesk" (148 : Nat) yX2_hashWord) ∈ GW := gw_in (tb_5 (List.mem_of_getElem? (i := 59) rfl)) rfl
theorem W_5_60 : (Cond.methodLink "HashgraphDeskLaw" (102 : Nat) yL_sees) ∈ GW := gw_in (tb_5 (List.mem_of_getElem? (i := 60) rfl)) rfl
theorem W_5_61 : (Cond.static yL_sees) ∈ GW := gw_in (tb_5 (List.mem_of_getElem? (i := 61) rfl)) rfl
theorem W_5_62 : (Cond.codeWith yL_sees method_9_code (6 : Nat) (Option.some Jvm.ClassFile.FieldType.int) [((0 : Nat), (19 : Nat), (22 : Nat), (19 : Nat))]) ∈ GW := gw_in (tb_5 (List.mem_of_getElem? (i := 62) rfl)) rfl
theorem W_5_63 : (Cond.methodLink "HashgraphDeskLaw" (38 : Nat) yX7_sees) ∈ GW := gw_in (tb_5 (List.mem_of_getElem? (i := 63) rfl)) rfl
theorem W_5_64 : (Cond.instanceMethod yX7_sees) ∈ GW := gw_in (tb_5 (List.mem_of_getElem? (i := 64) rfl)) rfl
theorem W_5_65 : (Cond.selects "HashgraphDesk" yX7_sees yX7_sees) ∈ GW := gw_in (tb_5 (List.mem_of_getElem? (i := 65) rfl)) rfl
theorem W_5_66 : (Cond.code yX7_sees prog_1_method_8_code (4 : Nat) (Option.some Jvm.ClassFile.FieldType.boolean)) ∈ GW := gw_in (tb_5 (List.mem_of_getElem? (i := 66) rfl)) rfl
theorem W_5_67 : (Cond.methodLink "HashgraphDeskLaw" (106 : Nat) yL_vote) ∈ GW := gw_in (tb_5 (List.mem_of_getElem? (i := 67) rfl)) rfl
theorem W_5_68 : (Cond.static yL_vote) ∈ GW := gw_in (tb_5 (List.mem_of_getElem? (i := 68) rfl)) rfl
theorem W_5_69 : (Cond.codeWith yL_vote method_10_code (5 : Nat) (Option.some Jvm.ClassFile.FieldType.int) [((0 : Nat), (10 : Nat), (13 : Nat), (19 : Nat)), ((0 : Nat), (10 : Nat), (17 : Nat), (13 : Nat))]) ∈ GW := gw_in (tb_5 (List.mem_of_getElem? (i := 69) rfl)) rfl
theorem W_5_70 : (Cond.methodLink "HashgraphDeskLaw" (42 : Nat) yX7_vote) ∈ GW := gw_in (tb_5 (List.mem_of_getElem? (i := 70) rfl)) rfl
theorem W_5_71 : (Cond.instanceMethod yX7_vote) ∈ GW := gw_in (tb_5 (List.mem_of_getElem? (i := 71) rfl)) rfl
theorem W_5_72 : (Cond.selects "HashgraphDesk" yX7_vote yX7_vote) ∈ GW := gw_in (tb_5 (List.mem_of_getElem? (i := 72) rfl)) rfl
theorem W_5_73 : (Cond.code yX7_vote prog_1_method_9_code (3 : Nat) (Option.some Jvm.ClassFile.FieldType.int)) ∈ GW := gw_in (tb_5 (List.mem_of_getElem? (i := 73) rfl)) rfl
theorem W_5_74 : (Cond.methodLink "HashgraphDesk" (160 : Nat) yX1_isYes) ∈ GW := gw_in (tb_5 (List.mem_of_getElem? (i := 74) rfl)) rfl
theorem W_5_75 : (Cond.instanceMethod yX1_isYes) ∈ GW := gw_in (tb_5 (List.mem_of_getElem? (i := 75) rfl)) rfl
theorem W_5_76 : (Cond.selects "HashgraphDesk$Election" yX1_isYes yX1_isYes) ∈ GW := gw_in (tb_5 (List.mem_of_getElem? (i := 76) rfl)) rfl
theorem W_5_77 : (Cond.code yX1_isYes prog_3_method_3_code (3 : Nat) (Option.some Jvm.ClassFile.FieldType.boolean)) ∈ GW := gw_in (tb_5 (List.mem_of_getElem? (i := 77) rfl)) rfl
theorem W_5_78 : (Cond.methodLink "HashgraphDesk" (163 : Nat) yX1_decides) ∈ GW := gw_in (tb_5 (List.mem_of_getElem? (i := 78) rfl)) rfl
theorem W_5_79 : (Cond.instanceMethod yX1_decides) ∈ GW := gw_in (tb_5 (List.mem_of_getElem? (i := 79) rfl)) rfl
theorem W_5_80 : (Cond.selects "HashgraphDesk$Election" yX1_decides yX1_decides) ∈ GW := gw_in (tb_5 (List.mem_of_getElem? (i := 80) rfl)) rfl
theorem W_5_81 : (Cond.code yX1_decides prog_3_method_4_code (3 : Nat) (Option.some Jvm.ClassFile.FieldType.boolean)) ∈ GW := gw_in (tb_5 (List.mem_of_getElem? (i := 81) rfl)) rfl
theorem W_5_82 : (Cond.methodLink "HashgraphDeskLaw" (109 : Nat) yL_found) ∈ GW := gw_in (tb_5 (List.mem_of_getElem? (i := 82) rfl)) rfl
theorem W_5_83 : (Cond.static yL_found) ∈ GW := gw_in (tb_5 (List.mem_of_getElem? (i := 83) rfl)) rfl
theorem W_5_84 : (Cond.codeWith yL_found method_11_code (6 : Nat) (Option.some Jvm.ClassFile.FieldType.int) [((0 : Nat), (12 : Nat), (15 : Nat), (13 : Nat)), ((0 : Nat), (12 : Nat), (19 : Nat), (19 : Nat))]) ∈ GW := gw_in (tb_5 (List.mem_of_getElem? (i := 84) rfl)) rfl
theorem W_5_85 : (Cond.methodLink "HashgraphDeskLaw" (45 : Nat) yX7_found) ∈ GW := gw_in (tb_5 (List.mem_of_getElem? (i := 85) rfl)) rfl
theorem W_5_86 : (Cond.instanceMethod yX7_found) ∈ GW := gw_in (tb_5 (List.mem_of_getElem? (i := 86) rfl)) rfl
theorem W_5_87 : (Cond.selects "HashgraphDesk" yX7_found yX7_found) ∈ GW := gw_in (tb_5 (List.mem_of_getElem? (i := 87) rfl)) rfl
theorem W_5_88 : (Cond.code yX7_found prog_1_method_10_code (4 : Nat) (Option.some Jvm.ClassFile.FieldType.int)) ∈ GW := gw_in (tb_5 (List.mem_of_getElem? (i := 88) rfl)) rfl
theorem W_5_89 : (Cond.methodLink "HashgraphDesk" (166 : Nat) yX7_freshView) ∈ GW := gw_in (tb_5 (List.mem_of_getElem? (i := 89) rfl)) rfl
theorem W_5_91 : (Cond.instanceMethod yX7_freshView) ∈ GW := gw_in (tb_5 (List.mem_of_getElem? (i := 91) rfl)) rfl
theorem W_5_92 : (Cond.code yX7_freshView prog_1_method_19_code (3 : Nat) (Option.some (Jvm.ClassFile.FieldType.object "HashgraphDesk$View"))) ∈ GW := gw_in (tb_5 (List.mem_of_getElem? (i := 92) rfl)) rfl
theorem W_5_93 : (Cond.methodLink "HashgraphDesk" (250 : Nat) yX5_findAll) ∈ GW := gw_in (tb_5 (List.mem_of_getElem? (i := 93) rfl)) rfl
theorem W_5_94 : (Cond.instanceMethod yX5_findAll) ∈ GW := gw_in (tb_5 (List.mem_of_getElem? (i := 94) rfl)) rfl
theorem W_5_95 : (Cond.selects "HashgraphDesk$View" yX5_findAll yX5_findAll) ∈ GW := gw_in (tb_5 (List.mem_of_getElem? (i := 95) rfl)) rfl
theorem W_5_96 : (Cond.code yX5_findAll prog_7_method_2_code (2 : Nat) (Option.none : Option Jvm.ClassFile.FieldType)) ∈ GW := gw_in (tb_5 (List.mem_of_getElem? (i := 96) rfl)) rfl
theorem W_5_97 : (Cond.methodLink "HashgraphDesk$View" (63 : Nat) yX5_findFame) ∈ GW := gw_in (tb_5 (List.mem_of_getElem? (i := 97) rfl)) rfl
theorem W_5_99 : (Cond.instanceMethod yX5_findFame) ∈ GW := gw_in (tb_5 (List.mem_of_getElem? (i := 99) rfl)) rfl
theorem W_5_100 : (Cond.code yX5_findFame prog_7_method_4_code (4 : Nat) (Option.none : Option Jvm.ClassFile.FieldType)) ∈ GW := gw_in (tb_5 (List.mem_of_getElem? (i := 100) rfl)) rfl
theorem W_5_101 : (Cond.methodLink "HashgraphDesk$View" (98 : Nat) yJ7_fill_53178) ∈ GW := gw_in (tb_5 (List.mem_of_getElem? (i := 101) rfl)) rfl
theorem W_5_102 : (Cond.methodLink "HashgraphDesk$View" (112 : Nat) yX5_holds) ∈ GW := gw_in (tb_5 (List.mem_of_getElem? (i := 102) rfl)) rfl
theorem W_5_104 : (Cond.instanceMethod yX5_holds) ∈ GW := gw_in (tb_5 (List.mem_of_getElem? (i := 104) rfl)) rfl
theorem W_5_105 : (Cond.code yX5_holds prog_7_method_3_code (2 : Nat) (Option.some Jvm.ClassFile.FieldType.boolean)) ∈ GW := gw_in (tb_5 (List.mem_of_getElem? (i := 105) rfl)) rfl
theorem W_5_106 : (Cond.methodLink "HashgraphDesk$View" (92 : Nat) yX0_has) ∈ GW := gw_in (tb_5 (List.mem_of_getElem? (i := 106) rfl)) rfl
theorem W_5_107 : (Cond.methodLink "HashgraphDesk$View" (116 : Nat) yX5_deciderOf) ∈ GW := gw_in (tb_5 (List.mem_of_getElem? (i := 107) rfl)) rfl
theorem W_5_109 : (Cond.instanceMethod yX5_deciderOf) ∈ GW := gw_in (tb_5 (List.mem_of_getElem? (i := 109) rfl)) rfl
theorem W_5_110 : (Cond.code yX5_deciderOf prog_7_method_5_code (6 : Nat) (Option.some Jvm.ClassFile.FieldType.int)) ∈ GW := gw_in (tb_5 (List.mem_of_getElem? (i := 110) rfl)) rfl
theorem W_5_111 : (Cond.methodLink "HashgraphDesk$View" (128 : Nat) yX1_decides) ∈ GW := gw_in (tb_5 (List.mem_of_getElem? (i := 111) rfl)) rfl
theorem W_5_112 : (Cond.methodLink "HashgraphDesk$View" (120 : Nat) yX1_isYes) ∈ GW := gw_in (tb_5 (List.mem_of_getElem? (i := 112) rfl)) rfl
theorem W_5_113 : (Cond.methodLink "HashgraphDesk$View" (66 : Nat) yX5_findUniques) ∈ GW := gw_in (tb_5 (List.mem_of_getElem? (i := 113) rfl)) rfl
theorem W_5_115 : (Cond.instanceMethod yX5_findUniques) ∈ GW := gw_in (tb_5 (List.mem_of_getElem? (i := 115) rfl)) rfl
theorem W_5_116 : (Cond.code yX5_findUniques prog_7_method_6_code (3 : Nat) (Option.none : Option Jvm.ClassFile.FieldType)) ∈ GW := gw_in (tb_5 (List.mem_of_getElem? (i := 116) rfl)) rfl
theorem W_5_117 : (Cond.methodLink "HashgraphDesk$View" (131 : Nat) yX5_isOnlyFamousOne) ∈ GW := gw_in (tb_5 (List.mem_of_getElem? (i := 117) rfl)) rfl
theorem W_5_119 : (Cond.instanceMethod yX5_isOnlyFamousOne) ∈ GW := gw_in (tb_5 (List.mem_of_getElem? (i := 119) rfl)) rfl
theorem W_5_120 : (Cond.code yX5_isOnlyFamousOne prog_7_method_7_code (4 : Nat) (Option.some Jvm.ClassFile.FieldType.boolean)) ∈ GW := gw_in (tb_5 (List.mem_of_getElem? (i := 120) rfl)) rfl
theorem W_5_121 : (Cond.methodLink "HashgraphDesk$View" (134 : Nat) yX5_addUnique) ∈ GW := gw_in (tb_5 (List.mem_of_getElem? (i := 121) rfl)) rfl
theorem W_5_123 : (Cond.instanceMethod yX5_addUnique) ∈ GW := gw_in (tb_5 (List.mem_of_getElem? (i := 123) rfl)) rfl
theorem W_5_124 : (Cond.code yX5_addUnique prog_7_method_8_code (4 : Nat) (Option.none : Option Jvm.ClassFile.FieldType)) ∈ GW := gw_in (tb_5 (List.mem_of_getElem? (i := 124) rfl)) rfl
theorem W_5_125 : (Cond.methodLink "HashgraphDesk$View" (141 : Nat) yX2_hashWord) ∈ GW := gw_in (tb_5 (List.mem_of_getElem? (i := 125) rfl)) rfl
theorem W_5_126 : (Cond.methodLink "HashgraphDesk$View" (69 : Nat) yX5_settleRounds) ∈ GW := gw_in (tb_5 (List.mem_of_getElem? (i := 126) rfl)) rfl
theorem W_5_128 : (Cond.instanceMethod yX5_settleRounds) ∈ GW := gw_in (tb_5 (List.mem_of_getElem? (i := 128) rfl)) rfl
theorem W_5_129 : (Cond.code yX5_settleRounds prog_7_method_9_code (3 : Nat) (Option.none : Option Jvm.ClassFile.FieldType)) ∈ GW := gw_in (tb_5 (List.mem_of_getElem? (i := 129) rfl)) rfl
theorem W_5_130 : (Cond.methodLink "HashgraphDesk$View" (145 : Nat) yX5_leastOpenRound) ∈ GW := gw_in (tb_5 (List.mem_of_getElem? (i := 130) rfl)) rfl
theorem W_5_132 : (Cond.instanceMethod yX5_leastOpenRound) ∈ GW := gw_in (tb_5 (List.mem_of_getElem? (i := 132) rfl)) rfl
theorem W_5_133 : (Cond.code yX5_leastOpenRound prog_7_method_10_code (4 : Nat) (Option.some Jvm.ClassFile.FieldType.int)) ∈ GW := gw_in (tb_5 (List.mem_of_getElem? (i := 133) rfl)) rfl
theorem W_5_134 : (Cond.methodLink "HashgraphDesk$View" (152 : Nat) yJ9_min_7cf53) ∈ GW := gw_in (tb_5 (List.mem_of_getElem? (i := 134) rfl)) rfl
theorem W_5_135 : (Cond.methodLink "HashgraphDesk$View" (72 : Nat) yX5_findReceived) ∈ GW := gw_in (tb_5 (List.mem_of_getElem? (i := 135) rfl)) rfl
theorem W_5_137 : (Cond.instanceMethod yX5_findReceived) ∈ GW := gw_in (tb_5 (List.mem_of_getElem? (i := 137) rfl)) rfl
theorem W_5_138 : (Cond.code yX5_findReceived prog_7_method_11_code (2 : Nat) (Option.none : Option Jvm.ClassFile.FieldType)) ∈ GW := gw_in (tb_5 (List.mem_of_getElem? (i := 138) rfl)) rfl
theorem W_5_139 : (Cond.methodLink "HashgraphDesk$View" (158 : Nat) yX5_roundReceiving) ∈ GW := gw_in (tb_5 (List.mem_of_getElem? (i := 139) rfl)) rfl
theorem W_5_141 : (Cond.instanceMethod yX5_roundReceiving) ∈ GW := gw_in (tb_5 (List.mem_of_getElem? (i := 141) rfl)) rfl
theorem W_5_142 : (Cond.code yX5_roundReceiving prog_7_method_12_code (3 : Nat) (Option.some Jvm.ClassFile.FieldType.int)) ∈ GW := gw_in (tb_5 (List.mem_of_getElem? (i := 142) rfl)) rfl
theorem W_5_143 : (Cond.methodLink "HashgraphDesk$View" (168 : Nat) yX5_isBelowAllUniques) ∈ GW := gw_in (tb_5 (List.mem_of_getElem? (i := 143) rfl)) rfl
theorem W_5_145 : (Cond.instanceMethod yX5_isBelowAllUniques) ∈ GW := gw_in (tb_5 (List.mem_of_getElem? (i := 145) rfl)) rfl
theorem W_5_146 : (Cond.code yX5_isBelowAllUniques prog_7_method_13_code (4 : Nat) (Option.some Jvm.ClassFile.FieldType.boolean)) ∈ GW := gw_in (tb_5 (List.mem_of_getElem? (i := 146) rfl)) rfl
theorem W_5_147 : (Cond.methodLink "HashgraphDesk$View" (161 : Nat) yX5_stampIn) ∈ GW := gw_in (tb_5 (List.mem_of_getElem? (i := 147) rfl)) rfl
theorem W_5_149 : (Cond.instanceMethod yX5_stampIn) ∈ GW := gw_in (tb_5 (List.mem_of_getElem? (i := 149) rfl)) rfl
theorem W_5_150 : (Cond.code yX5_stampIn prog_7_method_14_code (7 : Nat) (Option.some Jvm.ClassFile.FieldType.long)) ∈ GW := gw_in (tb_5 (List.mem_of_getElem? (i := 150) rfl)) rfl
theorem W_5_151 : (Cond.methodLink "HashgraphDesk$View" (177 : Nat) yX5_firstAbove) ∈ GW := gw_in (tb_5 (List.mem_of_getElem? (i := 151) rfl)) rfl
theorem W_5_153 : (Cond.instanceMethod yX5_firstAbove) ∈ GW := gw_in (tb_5 (List.mem_of_getElem? (i := 153) rfl)) rfl
theorem W_5_154 : (Cond.code yX5_firstAbove prog_7_method_15_code (6 : Nat) (Option.some Jvm.ClassFile.FieldType.int)) ∈ GW := gw_in (tb_5 (List.mem_of_getElem? (i := 154) rfl)) rfl
theorem W_5_155 : (Cond.methodLink "HashgraphDesk$View" (75 : Nat) yX5_findOrder) ∈ GW := gw_in (tb_5 (List.mem_of_getElem? (i := 155) rfl)) rfl
theorem W_5_157 : (Cond.instanceMethod yX5_findOrder) ∈ GW := gw_in (tb_5 (List.mem_of_getElem? (i := 157) rfl)) rfl
theorem W_5_158 : (Cond.code yX5_findOrder prog_7_method_16_code (2 : Nat) (Option.none : Option Jvm.ClassFile.FieldType)) ∈ GW := gw_in (tb_5 (List.mem_of_getElem? (i := 158) rfl)) rfl
theorem W_5_159 : (Cond.methodLink "HashgraphDesk$View" (186 : Nat) yX5_insert) ∈ GW := gw_in (tb_5 (List.mem_of_getElem? (i := 159) rfl)) rfl
theorem W_5_161 : (Cond.instanceMethod yX5_insert) ∈ GW := gw_in (tb_5 (List.mem_of_getElem? (i := 161) rfl)) rfl
theorem W_5_162 : (Cond.code yX5_insert prog_7_method_17_code (3 : Nat) (Option.none : Option Jvm.ClassFile.FieldType)) ∈ GW := gw_in (tb_5 (List.mem_of_getElem? (i := 162) rfl)) rfl
theorem W_5_163 : (Cond.methodLink "HashgraphDesk$View" (189 : Nat) yX5_isBefore) ∈ GW := gw_in (tb_5 (List.mem_of_getElem? (i := 163) rfl)) rfl
theorem W_5_165 : (Cond.instanceMethod yX5_isBefore) ∈ GW := gw_in (tb_5 (List.mem_of_getElem? (i := 165) rfl)) rfl
theorem W_5_166 : (Cond.code yX5_isBefore prog_7_method_18_code (7 : Nat) (Option.some Jvm.ClassFile.FieldType.boolean)) ∈ GW := gw_in (tb_5 (List.mem_of_getElem? (i := 166) rfl)) rfl
theorem W_5_167 : (Cond.constant "HashgraphDesk$View" (194 : Nat) (-2147483648 : Int32)) ∈ GW := gw_in (tb_5 (List.mem_of_getElem? (i := 167) rfl)) rfl
theorem W_5_168 : (Cond.methodLink "HashgraphDesk$View" (78 : Nat) yX5_findBalances) ∈ GW := gw_in (tb_5 (List.mem_of_getElem? (i := 168) rfl)) rfl
theorem W_5_170 : (Cond.instanceMethod yX5_findBalances) ∈ GW := gw_in (tb_5 (List.mem_of_getElem? (i := 170) rfl)) rfl
theorem W_5_171 : (Cond.code yX5_findBalances prog_7_method_19_code (6 : Nat) (Option.none : Option Jvm.ClassFile.FieldType)) ∈ GW := gw_in (tb_5 (List.mem_of_getElem? (i := 171) rfl)) rfl
theorem W_5_172 : (Cond.constant "HashgraphDesk$View" (195 : Nat) (1000000 : Int32)) ∈ GW := gw_in (tb_5 (List.mem_of_getElem? (i := 172) rfl)) rfl
theorem W_5_173 : (Cond.methodLink "HashgraphDesk$View" (196 : Nat) yJ7_fill_fda19) ∈ GW := gw_in (tb_5 (List.mem_of_getElem? (i := 173) rfl)) rfl
theorem W_5_174 : (Cond.static yJ7_fill_fda19) ∈ GW := gw_in (tb_5 (List.mem_of_getElem? (i := 174) rfl)) rfl
theorem W_5_175 : (Cond.code yJ7_fill_fda19 prog_30_method_104_code (5 : Nat) (Option.none : Option Jvm.ClassFile.FieldType)) ∈ GW := gw_in (tb_5 (List.mem_of_getElem? (i := 175) rfl)) rfl
theorem W_5_176 : (Cond.methodLink "HashgraphDesk$View" (208 : Nat) yX5_pay) ∈ GW := gw_in (tb_5 (List.mem_of_getElem? (i := 176) rfl)) rfl
theorem W_5_178 : (Cond.instanceMethod yX5_pay) ∈ GW := gw_in (tb_5 (List.mem_of_getElem? (i := 178) rfl)) rfl
theorem W_5_179 : (Cond.code yX5_pay prog_7_method_20_code (4 : Nat) (Option.none : Option Jvm.ClassFile.FieldType)) ∈ GW := gw_in (tb_5 (List.mem_of_getElem? (i := 179) rfl)) rfl
theorem W_5_180 : (Cond.methodLink "HashgraphDeskLaw" (112 : Nat) yL_stamp) ∈ GW := gw_in (tb_5 (List.mem_of_getElem? (i := 180) rfl)) rfl
theorem W_5_181 : (Cond.static yL_stamp) ∈ GW := gw_in (tb_5 (List.mem_of_getElem? (i := 181) rfl)) rfl
theorem W_5_182 : (Cond.codeWith yL_stamp method_12_code (5 : Nat) (Option.some Jvm.ClassFile.FieldType.int) [((0 : Nat), (9 : Nat), (12 : Nat), (13 : Nat)), ((0 : Nat), (9 : Nat), (16 : Nat), (19 : Nat)), ((0 : Nat), (9 : Nat), (20 : Nat), (52 : Nat))]) ∈ GW := gw_in (tb_5 (List.mem_of_getElem? (i := 182) rfl)) rfl
theorem W_5_183 : (Cond.classLink "HashgraphDeskLaw" (52 : Nat) "java/lang/UnsupportedOperationException") ∈ GW := gw_in (tb_5 (List.mem_of_getElem? (i := 183) rfl)) rfl
theorem W_5_184 : (Cond.methodLink "HashgraphDeskLaw" (48 : Nat) yX7_stamp) ∈ GW := gw_in (tb_5 (List.mem_of_getElem? (i := 184) rfl)) rfl
theorem W_5_185 : (Cond.instanceMethod yX7_stamp) ∈ GW := gw_in (tb_5 (List.mem_of_getElem? (i := 185) rfl)) rfl
theorem W_5_186 : (Cond.selects "HashgraphDesk" yX7_stamp yX7_stamp) ∈ GW := gw_in (tb_5 (List.mem_of_getElem? (i := 186) rfl)) rfl
theorem W_5_187 : (Cond.code yX7_stamp prog_1_method_11_code (4 : Nat) (Option.some Jvm.ClassFile.FieldType.long)) ∈ GW := gw_in (tb_5 (List.mem_of_getElem? (i := 187) rfl)) rfl
theorem W_5_188 : (Cond.classLink "HashgraphDesk" (179 : Nat) "java/lang/UnsupportedOperationException") ∈ GW := gw_in (tb_5 (List.mem_of_getElem? (i := 188) rfl)) rfl
theorem W_5_189 : (Cond.instantiable "java/lang/UnsupportedOperationException" (6 : Nat)) ∈ GW := gw_in (tb_5 (List.mem_of_getElem? (i := 189) rfl)) rfl
theorem W_5_191 : (Cond.selects "java/lang/UnsupportedOperationException" ({ cls := "java/lang/Throwable", name := "fillInStackTrace", desc := "(I)Ljava/lang/Throwable;" } : Jvm.MethodName) ({ cls := "java/lang/Throwable", name := "fillInStackTrace", desc := "(I)Ljava/lang/Throwable;" } : Jvm.MethodName)) ∈ GW := gw_in (tb_5 (List.mem_of_getElem? (i := 191) rfl)) rfl
theorem W_5_192 : (Cond.lays "java/lang/UnsupportedOperationException" "java/lang/Throwable" "cause" "Ljava/lang/Throwable;") ∈ GW := gw_in (tb_5 (List.mem_of_getElem? (i := 192) rfl)) rfl
theorem W_5_193 : (Cond.lays "java/lang/UnsupportedOperationException" "java/lang/Throwable" "stackTrace" "[Ljava/lang/StackTraceElement;") ∈ GW := gw_in (tb_5 (List.mem_of_getElem? (i := 193) rfl)) rfl
theorem W_5_194 : (Cond.lays "java/lang/UnsupportedOperationException" "java/lang/Throwable" "suppressedExceptions" "Ljava/util/List;") ∈ GW := gw_in (tb_5 (List.mem_of_getElem? (i := 194) rfl)) rfl
theorem W_5_195 : (Cond.lays "java/lang/UnsupportedOperationException" "java/lang/Throwable" "detailMessage" "Ljava/lang/String;") ∈ GW := gw_in (tb_5 (List.mem_of_getElem? (i := 195) rfl)) rfl
theorem W_5_196 : (Cond.lays "java/lang/UnsupportedOperationException" "java/lang/Throwable" "backtrace" "Ljava/lang/Object;") ∈ GW := gw_in (tb_5 (List.mem_of_getElem? (i := 196) rfl)) rfl
theorem W_5_197 : (Cond.methodLink "HashgraphDesk" (181 : Nat) ({ cls := "java/lang/UnsupportedOperationException", name := "<init>", desc := "()V" } : Jvm.MethodName)) ∈ GW := gw_in (tb_5 (List.mem_of_getElem? (i := 197) rfl)) rfl
theorem W_5_198 : (Cond.instanceMethod ({ cls := "java/lang/UnsupportedOperationException", name := "<init>", desc := "()V" } : Jvm.MethodName)) ∈ GW := gw_in (tb_5 (List.mem_of_getElem? (i := 198) rfl)) rfl
theorem W_5_199 : (Cond.code ({ cls := "java/lang/UnsupportedOperationException", name := "<init>", desc := "()V" } : Jvm.MethodName) prog_29_method_1_code (1 : Nat) (Option.none : Option Jvm.ClassFile.FieldType)) ∈ GW := gw_in (tb_5 (List.mem_of_getElem? (i := 199) rfl)) rfl
theorem W_5_200 : (Cond.methodLink "java/lang/UnsupportedOperationException" (1 : Nat) ({ cls := "java/lang/RuntimeException", name := "<init>", desc := "()V" } : Jvm.MethodName)) ∈ GW := gw_in (tb_5 (List.mem_of_getElem? (i := 200) rfl)) rfl
theorem W_5_201 : (Cond.lays "java/lang/UnsupportedOperationException" "java/lang/Throwable" "depth" "I") ∈ GW := gw_in (tb_5 (List.mem_of_getElem? (i := 201) rfl)) rfl
theorem W_5_203 : (Cond.methodLink "HashgraphDeskLaw" (115 : Nat) yL_order) ∈ GW := gw_in (tb_5 (List.mem_of_getElem? (i := 203) rfl)) rfl
theorem W_5_204 : (Cond.static yL_order) ∈ GW := gw_in (tb_5 (List.mem_of_getElem? (i := 204) rfl)) rfl
theorem W_5_205 : (Cond.codeWith yL_order method_13_code (4 : Nat) (Option.some Jvm.ClassFile.FieldType.int) [((0 : Nat), (9 : Nat), (12 : Nat), (13 : Nat))]) ∈ GW := gw_in (tb_5 (List.mem_of_getElem? (i := 205) rfl)) rfl
theorem W_5_206 : (Cond.methodLink "HashgraphDeskLaw" (54 : Nat) yX7_order) ∈ GW := gw_in (tb_5 (List.mem_of_getElem? (i := 206) rfl)) rfl
theorem W_5_207 : (Cond.instanceMethod yX7_order) ∈ GW := gw_in (tb_5 (List.mem_of_getElem? (i := 207) rfl)) rfl
theorem W_5_208 : (Cond.selects "HashgraphDesk" yX7_order yX7_order) ∈ GW := gw_in (tb_5 (List.mem_of_getElem? (i := 208) rfl)) rfl
theorem W_5_209 : (Cond.code yX7_order prog_1_method_12_code (2 : Nat) (Option.some Jvm.ClassFile.FieldType.int)) ∈ GW := gw_in (tb_5 (List.mem_of_getElem? (i := 209) rfl)) rfl
theorem W_5_210 : (Cond.methodLink "HashgraphDeskLaw" (119 : Nat) yL_at) ∈ GW := gw_in (tb_5 (List.mem_of_getElem? (i := 210) rfl)) rfl
theorem W_5_211 : (Cond.static yL_at) ∈ GW := gw_in (tb_5 (List.mem_of_getElem? (i := 211) rfl)) rfl
theorem W_5_212 : (Cond.codeWith yL_at method_14_code (5 : Nat) (Option.some Jvm.ClassFile.FieldType.int) [((0 : Nat), (10 : Nat), (13 : Nat), (13 : Nat)), ((0 : Nat), (10 : Nat), (17 : Nat), (19 : Nat))]) ∈ GW := gw_in (tb_5 (List.mem_of_getElem? (i := 212) rfl)) rfl
theorem W_5_213 : (Cond.methodLink "HashgraphDeskLaw" (58 : Nat) yX7_at) ∈ GW := gw_in (tb_5 (List.mem_of_getElem? (i := 213) rfl)) rfl
theorem W_5_214 : (Cond.instanceMethod yX7_at) ∈ GW := gw_in (tb_5 (List.mem_of_getElem? (i := 214) rfl)) rfl
theorem W_5_215 : (Cond.selects "HashgraphDesk" yX7_at yX7_at) ∈ GW := gw_in (tb_5 (List.mem_of_getElem? (i := 215) rfl)) rfl
theorem W_5_216 : (Cond.code yX7_at prog_1_method_13_code (4 : Nat) (Option.some Jvm.ClassFile.FieldType.int)) ∈ GW := gw_in (tb_5 (List.mem_of_getElem? (i := 216) rfl)) rfl
theorem W_5_217 : (Cond.methodLink "HashgraphDeskLaw" (122 : Nat) yL_balance) ∈ GW := gw_in (tb_5 (List.mem_of_getElem? (i := 217) rfl)) rfl
theorem W_5_218 : (Cond.static yL_balance) ∈ GW := gw_in (tb_5 (List.mem_of_getElem? (i := 218) rfl)) rfl
theorem W_5_219 : (Cond.codeWith yL_balance method_15_code (5 : Nat) (Option.some Jvm.ClassFile.FieldType.int) [((0 : Nat), (10 : Nat), (13 : Nat), (13 : Nat))]) ∈ GW := gw_in (tb_5 (List.mem_of_getElem? (i := 219) rfl)) rfl
theorem W_5_220 : (Cond.methodLink "HashgraphDeskLaw" (61 : Nat) yX7_balance) ∈ GW := gw_in (tb_5 (List.mem_of_getElem? (i := 220) rfl)) rfl
theorem W_5_221 : (Cond.instanceMethod yX7_balance) ∈ GW := gw_in (tb_5 (List.mem_of_getElem? (i := 221) rfl)) rfl
theorem W_5_222 : (Cond.selects "HashgraphDesk" yX7_balance yX7_balance) ∈ GW := gw_in (tb_5 (List.mem_of_getElem? (i := 222) rfl)) rfl
theorem W_5_223 : (Cond.code yX7_balance prog_1_method_14_code (3 : Nat) (Option.some Jvm.ClassFile.FieldType.int)) ∈ GW := gw_in (tb_5 (List.mem_of_getElem? (i := 223) rfl)) rfl
theorem W_5_224 : (Cond.methodLink "HashgraphDeskLaw" (125 : Nat) yL_count) ∈ GW := gw_in (tb_5 (List.mem_of_getElem? (i := 224) rfl)) rfl
theorem W_5_225 : (Cond.static yL_count) ∈ GW := gw_in (tb_5 (List.mem_of_getElem? (i := 225) rfl)) rfl
theorem W_5_226 : (Cond.codeWith yL_count method_16_code (4 : Nat) (Option.some Jvm.ClassFile.FieldType.int) [((0 : Nat), (9 : Nat), (12 : Nat), (13 : Nat))]) ∈ GW := gw_in (tb_5 (List.mem_of_getElem? (i := 226) rfl)) rfl
theorem W_5_227 : (Cond.methodLink "HashgraphDeskLaw" (64 : Nat) yX7_count) ∈ GW := gw_in (tb_5 (List.mem_of_getElem? (i := 227) rfl)) rfl
theorem W_5_228 : (Cond.instanceMethod yX7_count) ∈ GW := gw_in (tb_5 (List.mem_of_getElem? (i := 228) rfl)) rfl
theorem W_5_229 : (Cond.selects "HashgraphDesk" yX7_count yX7_count) ∈ GW := gw_in (tb_5 (List.mem_of_getElem? (i := 229) rfl)) rfl
theorem W_5_230 : (Cond.code yX7_count prog_1_method_15_code (2 : Nat) (Option.some Jvm.ClassFile.FieldType.int)) ∈ GW := gw_in (tb_5 (List.mem_of_getElem? (i := 230) rfl)) rfl
theorem W_5_231 : (Cond.methodLink "HashgraphDesk" (209 : Nat) yX6_lengthOfAll) ∈ GW := gw_in (tb_5 (List.mem_of_getElem? (i := 231) rfl)) rfl
theorem W_5_232 : (Cond.instanceMethod yX6_lengthOfAll) ∈ GW := gw_in (tb_5 (List.mem_of_getElem? (i := 232) rfl)) rfl
theorem W_5_233 : (Cond.selects "HashgraphDesk$Waiting" yX6_lengthOfAll yX6_lengthOfAll) ∈ GW := gw_in (tb_5 (List.mem_of_getElem? (i := 233) rfl)) rfl
theorem W_5_234 : (Cond.code yX6_lengthOfAll prog_8_method_8_code (3 : Nat) (Option.some Jvm.ClassFile.FieldType.int)) ∈ GW := gw_in (tb_5 (List.mem_of_getElem? (i := 234) rfl)) rfl
theorem W_5_235 : (Cond.classLink "HashgraphDeskLaw" (68 : Nat) "HashgraphDeskModel") ∈ GW := gw_in (tb_5 (List.mem_of_getElem? (i := 235) rfl)) rfl
theorem W_5_236 : (Cond.instantiable "HashgraphDeskModel" (39 : Nat)) ∈ GW := gw_in (tb_5 (List.mem_of_getElem? (i := 236) rfl)) rfl
theorem W_5_237 : (Cond.methodLink "HashgraphDeskLaw" (70 : Nat) yX8_init) ∈ GW := gw_in (tb_5 (List.mem_of_getElem? (i := 237) rfl)) rfl
theorem W_5_238 : (Cond.instanceMethod yX8_init) ∈ GW := gw_in (tb_5 (List.mem_of_getElem? (i := 238) rfl)) rfl
theorem W_5_239 : (Cond.code yX8_init prog_10_method_1_code (1 : Nat) (Option.none : Option Jvm.ClassFile.FieldType)) ∈ GW := gw_in (tb_5 (List.mem_of_getElem? (i := 239) rfl)) rfl
theorem W_6_0 : (Cond.methodLink "HashgraphDeskModel" (1 : Nat) ({ cls := "java/lang/Object", name := "<init>", desc := "()V" } : Jvm.MethodName)) ∈ GW := gw_in (tb_6 (List.mem_of_getElem? (i := 0) rfl)) rfl
theorem W_6_1 : (Cond.constant "HashgraphDeskModel" (50 : Nat) (57600 : Int32)) ∈ GW := gw_in (tb_6 (List.mem_of_getElem? (i := 1) rfl)) rfl
theorem W_6_2 : (Cond.constant "HashgraphDeskModel" (105 : Nat) (1116352408 : Int32)) ∈ GW := gw_in (tb_6 (List.mem_of_getElem? (i := 2) rfl)) rfl
theorem W_6_3 : (Cond.constant "HashgraphDeskModel" (106 : Nat) (1899447441 : Int32)) ∈ GW := gw_in (tb_6 (List.mem_of_getElem? (i := 3) rfl)) rfl
theorem W_6_4 : (Cond.constant "HashgraphDeskModel" (107 : Nat) (-1245643825 : Int32)) ∈ GW := gw_in (tb_6 (List.mem_of_getElem? (i := 4) rfl)) rfl
theorem W_6_5 : (Cond.constant "HashgraphDeskModel" (108 : Nat) (-373957723 : Int32)) ∈ GW := gw_in (tb_6 (List.mem_of_getElem? (i := 5) rfl)) rfl
theorem W_6_6 : (Cond.constant "HashgraphDeskModel" (109 : Nat) (961987163 : Int32)) ∈ GW := gw_in (tb_6 (List.mem_of_getElem? (i := 6) rfl)) rfl
theorem W_6_7 : (Cond.constant "HashgraphDeskModel" (110 : Nat) (1508970993 : Int32)) ∈ GW := gw_in (tb_6 (List.mem_of_getElem? (i := 7) rfl)) rfl
theorem W_6_8 : (Cond.constant "HashgraphDeskModel" (111 : Nat) (-1841331548 : Int32)) ∈ GW := gw_in (tb_6 (List.mem_of_getElem? (i := 8) rfl)) rfl
theorem W_6_9 : (Cond.constant "HashgraphDeskModel" (112 : Nat) (-1424204075 : Int32)) ∈ GW := gw_in (tb_6 (List.mem_of_getElem? (i := 9) rfl)) rfl
theorem W_6_10 : (Cond.constant "HashgraphDeskModel" (113 : Nat) (-670586216 : Int32)) ∈ GW := gw_in (tb_6 (List.mem_of_getElem? (i := 10) rfl)) rfl
theorem W_6_11 : (Cond.constant "HashgraphDeskModel" (114 : Nat) (310598401 : Int32)) ∈ GW := gw_in (tb_6 (List.mem_of_getElem? (i := 11) rfl)) rfl
theorem W_6_12 : (Cond.constant "HashgraphDeskModel" (115 : Nat) (607225278 : Int32)) ∈ GW := gw_in (tb_6 (List.mem_of_getElem? (i := 12) rfl)) rfl
theorem W_6_13 : (Cond.constant "HashgraphDeskModel" (116 : Nat) (1426881987 : Int32)) ∈ GW := gw_in (tb_6 (List.mem_of_getElem? (i := 13) rfl)) rfl
theorem W_6_14 : (Cond.constant "HashgraphDeskModel" (117 : Nat) (1925078388 : Int32)) ∈ GW := gw_in (tb_6 (List.mem_of_getElem? (i := 14) rfl)) rfl
theorem W_6_15 : (Cond.constant "HashgraphDeskModel" (118 : Nat) (-2132889090 : Int32)) ∈ GW := gw_in (tb_6 (List.mem_of_getElem? (i := 15) rfl)) rfl
theorem W_6_16 : (Cond.constant "HashgraphDeskModel" (119 : Nat) (-1680079193 : Int32)) ∈ GW := gw_in (tb_6 (List.mem_of_getElem? (i := 16) rfl)) rfl
theorem W_6_17 : (Cond.constant "HashgraphDeskModel" (120 : Nat) (-1046744716 : Int32)) ∈ GW := gw_in (tb_6 (List.mem_of_getElem? (i := 17) rfl)) rfl
theorem W_6_18 : (Cond.constant "HashgraphDeskModel" (121 : Nat) (-459576895 : Int32)) ∈ GW := gw_in (tb_6 (List.mem_of_getElem? (i := 18) rfl)) rfl
theorem W_6_19 : (Cond.constant "HashgraphDeskModel" (122 : Nat) (-272742522 : Int32)) ∈ GW := gw_in (tb_6 (List.mem_of_getElem? (i := 19) rfl)) rfl
theorem W_6_20 : (Cond.constant "HashgraphDeskModel" (123 : Nat) (264347078 : Int32)) ∈ GW := gw_in (tb_6 (List.mem_of_getElem? (i := 20) rfl)) rfl
theorem W_6_21 : (Cond.constant "HashgraphDeskModel" (124 : Nat) (604807628 : Int32)) ∈ GW := gw_in (tb_6 (List.mem_of_getElem? (i := 21) rfl)) rfl
theorem W_6_22 : (Cond.constant "HashgraphDeskModel" (125 : Nat) (770255983 : Int32)) ∈ GW := gw_in (tb_6 (List.mem_of_getElem? (i := 22) rfl)) rfl
theorem W_6_23 : (Cond.constant "HashgraphDeskModel" (126 : Nat) (1249150122 : Int32)) ∈ GW := gw_in (tb_6 (List.mem_of_getElem? (i := 23) rfl)) rfl
theorem W_6_24 : (Cond.constant "HashgraphDeskModel" (127 : Nat) (1555081692 : Int32)) ∈ GW := gw_in (tb_6 (List.mem_of_getElem? (i := 24) rfl)) rfl
theorem W_6_25 : (Cond.constant "HashgraphDeskModel" (128 : Nat) (1996064986 : Int32)) ∈ GW := gw_in (tb_6 (List.mem_of_getElem? (i := 25) rfl)) rfl
theorem W_6_26 : (Cond.constant "HashgraphDeskModel" (129 : Nat) (-1740746414 : Int32)) ∈ GW := gw_in (tb_6 (List.mem_of_getElem? (i := 26) rfl)) rfl
theorem W_6_27 : (Cond.constant "HashgraphDeskModel" (130 : Nat) (-1473132947 : Int32)) ∈ GW := gw_in (tb_6 (List.mem_of_getElem? (i := 27) rfl)) rfl
theorem W_6_28 : (Cond.constant "HashgraphDeskModel" (131 : Nat) (-1341970488 : Int32)) ∈ GW := gw_in (tb_6 (List.mem_of_getElem? (i := 28) rfl)) rfl
theorem W_6_29 : (Cond.constant "HashgraphDeskModel" (132 : Nat) (-1084653625 : Int32)) ∈ GW := gw_in (tb_6 (List.mem_of_getElem? (i := 29) rfl)) rfl
theorem W_6_30 : (Cond.constant "HashgraphDeskModel" (133 : Nat) (-958395405 : Int32)) ∈ GW := gw_in (tb_6 (List.mem_of_getElem? (i := 30) rfl)) rfl
theorem W_6_31 : (Cond.constant "HashgraphDeskModel" (134 : Nat) (-710438585 : Int32)) ∈ GW := gw_in (tb_6 (List.mem_of_getElem? (i := 31) rfl)) rfl
theorem W_6_32 : (Cond.constant "HashgraphDeskModel" (135 : Nat) (113926993 : Int32)) ∈ GW := gw_in (tb_6 (List.mem_of_getElem? (i := 32) rfl)) rfl
theorem W_6_33 : (Cond.constant "HashgraphDeskModel" (136 : Nat) (338241895 : Int32)) ∈ GW := gw_in (tb_6 (List.mem_of_getElem? (i := 33) rfl)) rfl
theorem W_6_34 : (Cond.constant "HashgraphDeskModel" (137 : Nat) (666307205 : Int32)) ∈ GW := gw_in (tb_6 (List.mem_of_getElem? (i := 34) rfl)) rfl
theorem W_6_35 : (Cond.constant "HashgraphDeskModel" (138 : Nat) (773529912 : Int32)) ∈ GW := gw_in (tb_6 (List.mem_of_getElem? (i := 35) rfl)) rfl
theorem W_6_36 : (Cond.constant "HashgraphDeskModel" (139 : Nat) (1294757372 : Int32)) ∈ GW := gw_in (tb_6 (List.mem_of_getElem? (i := 36) rfl)) rfl
theorem W_6_37 : (Cond.constant "HashgraphDeskModel" (140 : Nat) (1396182291 : Int32)) ∈ GW := gw_in (tb_6 (List.mem_of_getElem? (i := 37) rfl)) rfl
theorem W_6_38 : (Cond.constant "HashgraphDeskModel" (141 : Nat) (1695183700 : Int32)) ∈ GW := gw_in (tb_6 (List.mem_of_getElem? (i := 38) rfl)) rfl
theorem W_6_39 : (Cond.constant "HashgraphDeskModel" (142 : Nat) (1986661051 : Int32)) ∈ GW := gw_in (tb_6 (List.mem_of_getElem? (i := 39) rfl)) rfl
theorem W_6_40 : (Cond.constant "HashgraphDeskModel" (143 : Nat) (-2117940946 : Int32)) ∈ GW := gw_in (tb_6 (List.mem_of_getElem? (i := 40) rfl)) rfl
theorem W_6_41 : (Cond.constant "HashgraphDeskModel" (144 : Nat) (-1838011259 : Int32)) ∈ GW := gw_in (tb_6 (List.mem_of_getElem? (i := 41) rfl)) rfl
theorem W_6_42 : (Cond.constant "HashgraphDeskModel" (145 : Nat) (-1564481375 : Int32)) ∈ GW := gw_in (tb_6 (List.mem_of_getElem? (i := 42) rfl)) rfl
theorem W_6_43 : (Cond.constant "HashgraphDeskModel" (146 : Nat) (-1474664885 : Int32)) ∈ GW := gw_in (tb_6 (List.mem_of_getElem? (i := 43) rfl)) rfl
theorem W_6_44 : (Cond.constant "HashgraphDeskModel" (147 : Nat) (-1035236496 : Int32)) ∈ GW := gw_in (tb_6 (List.mem_of_getElem? (i := 44) rfl)) rfl
theorem W_6_45 : (Cond.constant "HashgraphDeskModel" (148 : Nat) (-949202525 : Int32)) ∈ GW := gw_in (tb_6 (List.mem_of_getElem? (i := 45) rfl)) rfl
theorem W_6_46 : (Cond.constant "HashgraphDeskModel" (149 : Nat) (-778901479 : Int32)) ∈ GW := gw_in (tb_6 (List.mem_of_getElem? (i := 46) rfl)) rfl
theorem W_6_47 : (Cond.constant "HashgraphDeskModel" (150 : Nat) (-694614492 : Int32)) ∈ GW := gw_in (tb_6 (List.mem_of_getElem? (i := 47) rfl)) rfl
theorem W_6_48 : (Cond.constant "HashgraphDeskModel" (151 : Nat) (-200395387 : Int32)) ∈ GW := gw_in (tb_6 (List.mem_of_getElem? (i := 48) rfl)) rfl
theorem W_6_49 : (Cond.constant "HashgraphDeskModel" (152 : Nat) (275423344 : Int32)) ∈ GW := gw_in (tb_6 (List.mem_of_getElem? (i := 49) rfl)) rfl
theorem W_6_50 : (Cond.constant "HashgraphDeskModel" (153 : Nat) (430227734 : Int32)) ∈ GW := gw_in (tb_6 (List.mem_of_getElem? (i := 50) rfl)) rfl
theorem W_6_51 : (Cond.constant "HashgraphDeskModel" (154 : Nat) (506948616 : Int32)) ∈ GW := gw_in (tb_6 (List.mem_of_getElem? (i := 51) rfl)) rfl
theorem W_6_52 : (Cond.constant "HashgraphDeskModel" (155 : Nat) (659060556 : Int32)) ∈ GW := gw_in (tb_6 (List.mem_of_getElem? (i := 52) rfl)) rfl
theorem W_6_53 : (Cond.constant "HashgraphDeskModel" (156 : Nat) (883997877 : Int32)) ∈ GW := gw_in (tb_6 (List.mem_of_getElem? (i := 53) rfl)) rfl
theorem W_6_54 : (Cond.constant "HashgraphDeskModel" (157 : Nat) (958139571 : Int32)) ∈ GW := gw_in (tb_6 (List.mem_of_getElem? (i := 54) rfl)) rfl
theorem W_6_55 : (Cond.constant "HashgraphDeskModel" (158 : Nat) (1322822218 : Int32)) ∈ GW := gw_in (tb_6 (List.mem_of_getElem? (i := 55) rfl)) rfl
theorem W_6_56 : (Cond.constant "HashgraphDeskModel" (159 : Nat) (1537002063 : Int32)) ∈ GW := gw_in (tb_6 (List.mem_of_getElem? (i := 56) rfl)) rfl
theorem W_6_57 : (Cond.constant "HashgraphDeskModel" (160 : Nat) (1747873779 : Int32)) ∈ GW := gw_in (tb_6 (List.mem_of_getElem? (i := 57) rfl)) rfl
theorem W_6_58 : (Cond.constant "HashgraphDeskModel" (161 : Nat) (1955562222 : Int32)) ∈ GW := gw_in (tb_6 (List.mem_of_getElem? (i := 58) rfl)) rfl
theorem W_6_59 : (Cond.constant "HashgraphDeskModel" (162 : Nat) (2024104815 : Int32)) ∈ GW := gw_in (tb_6 (List.mem_of_getElem? (i := 59) rfl)) rfl
theorem W_6_60 : (Cond.constant "HashgraphDeskModel" (163 : Nat) (-2067236844 : Int32)) ∈ GW := gw_in (tb_6 (List.mem_of_getElem? (i := 60) rfl)) rfl
theorem W_6_61 : (Cond.constant "HashgraphDeskModel" (164 : Nat) (-1933114872 : Int32)) ∈ GW := gw_in (tb_6 (List.mem_of_getElem? (i := 61) rfl)) rfl
theorem W_6_62 : (Cond.constant "HashgraphDeskModel" (165 : Nat) (-1866530822 : Int32)) ∈ GW := gw_in (tb_6 (List.mem_of_getElem? (i := 62) rfl)) rfl
theorem W_6_63 : (Cond.constant "HashgraphDeskModel" (166 : Nat) (-1538233109 : Int32)) ∈ GW := gw_in (tb_6 (List.mem_of_getElem? (i := 63) rfl)) rfl
theorem W_6_64 : (Cond.constant "HashgraphDeskModel" (167 : Nat) (-1090935817 : Int32)) ∈ GW := gw_in (tb_6 (List.mem_of_getElem? (i := 64) rfl)) rfl
theorem W_6_65 : (Cond.constant "HashgraphDeskModel" (168 : Nat) (-965641998 : Int32)) ∈ GW := gw_in (tb_6 (List.mem_of_getElem? (i := 65) rfl)) rfl
theorem W_6_66 : (Cond.constant "HashgraphDeskModel" (175 : Nat) (1779033703 : Int32)) ∈ GW := gw_in (tb_6 (List.mem_of_getElem? (i := 66) rfl)) rfl
theorem W_6_67 : (Cond.constant "HashgraphDeskModel" (176 : Nat) (-1150833019 : Int32)) ∈ GW := gw_in (tb_6 (List.mem_of_getElem? (i := 67) rfl)) rfl
theorem W_6_68 : (Cond.constant "HashgraphDeskModel" (177 : Nat) (1013904242 : Int32)) ∈ GW := gw_in (tb_6 (List.mem_of_getElem? (i := 68) rfl)) rfl
theorem W_6_69 : (Cond.constant "HashgraphDeskModel" (178 : Nat) (-1521486534 : Int32)) ∈ GW := gw_in (tb_6 (List.mem_of_getElem? (i := 69) rfl)) rfl
theorem W_6_70 : (Cond.constant "HashgraphDeskModel" (179 : Nat) (1359893119 : Int32)) ∈ GW := gw_in (tb_6 (List.mem_of_getElem? (i := 70) rfl)) rfl
theorem W_6_71 : (Cond.constant "HashgraphDeskModel" (180 : Nat) (-1694144372 : Int32)) ∈ GW := gw_in (tb_6 (List.mem_of_getElem? (i := 71) rfl)) rfl
theorem W_6_72 : (Cond.constant "HashgraphDeskModel" (181 : Nat) (528734635 : Int32)) ∈ GW := gw_in (tb_6 (List.mem_of_getElem? (i := 72) rfl)) rfl
theorem W_6_73 : (Cond.constant "HashgraphDeskModel" (182 : Nat) (1541459225 : Int32)) ∈ GW := gw_in (tb_6 (List.mem_of_getElem? (i := 73) rfl)) rfl
theorem W_6_74 : (Cond.methodLink "HashgraphDeskModel" (186 : Nat) yX8_anew) ∈ GW := gw_in (tb_6 (List.mem_of_getElem? (i := 74) rfl)) rfl
theorem W_6_76 : (Cond.instanceMethod yX8_anew) ∈ GW := gw_in (tb_6 (List.mem_of_getElem? (i := 76) rfl)) rfl
theorem W_6_77 : (Cond.code yX8_anew prog_10_method_8_code (3 : Nat) (Option.none : Option Jvm.ClassFile.FieldType)) ∈ GW := gw_in (tb_6 (List.mem_of_getElem? (i := 77) rfl)) rfl
theorem W_6_78 : (Cond.methodLink "HashgraphDeskModel" (207 : Nat) yX8_make) ∈ GW := gw_in (tb_6 (List.mem_of_getElem? (i := 78) rfl)) rfl
theorem W_6_80 : (Cond.instanceMethod yX8_make) ∈ GW := gw_in (tb_6 (List.mem_of_getElem? (i := 80) rfl)) rfl
theorem W_6_81 : (Cond.code yX8_make prog_10_method_9_code (10 : Nat) (Option.some Jvm.ClassFile.FieldType.int)) ∈ GW := gw_in (tb_6 (List.mem_of_getElem? (i := 81) rfl)) rfl
theorem W_6_82 : (Cond.methodLink "HashgraphDeskModel" (211 : Nat) yX8_hash) ∈ GW := gw_in (tb_6 (List.mem_of_getElem? (i := 82) rfl)) rfl
theorem W_6_84 : (Cond.instanceMethod yX8_hash) ∈ GW := gw_in (tb_6 (List.mem_of_getElem? (i := 84) rfl)) rfl
theorem W_6_85 : (Cond.code yX8_hash prog_10_method_19_code (4 : Nat) (Option.none : Option Jvm.ClassFile.FieldType)) ∈ GW := gw_in (tb_6 (List.mem_of_getElem? (i := 85) rfl)) rfl
theorem W_6_86 : (Cond.methodLink "HashgraphDeskModel" (247 : Nat) yX8_octet) ∈ GW := gw_in (tb_6 (List.mem_of_getElem? (i := 86) rfl)) rfl
theorem W_6_88 : (Cond.instanceMethod yX8_octet) ∈ GW := gw_in (tb_6 (List.mem_of_getElem? (i := 88) rfl)) rfl
theorem W_6_89 : (Cond.code yX8_octet prog_10_method_17_code (2 : Nat) (Option.none : Option Jvm.ClassFile.FieldType)) ∈ GW := gw_in (tb_6 (List.mem_of_getElem? (i := 89) rfl)) rfl
theorem W_6_90 : (Cond.methodLink "HashgraphDeskModel" (250 : Nat) yX8_four) ∈ GW := gw_in (tb_6 (List.mem_of_getElem? (i := 90) rfl)) rfl
theorem W_6_92 : (Cond.instanceMethod yX8_four) ∈ GW := gw_in (tb_6 (List.mem_of_getElem? (i := 92) rfl)) rfl
theorem W_6_93 : (Cond.code yX8_four prog_10_method_18_code (3 : Nat) (Option.none : Option Jvm.ClassFile.FieldType)) ∈ GW := gw_in (tb_6 (List.mem_of_getElem? (i := 93) rfl)) rfl
theorem W_6_94 : (Cond.methodLink "HashgraphDeskModel" (253 : Nat) yX8_compress) ∈ GW := gw_in (tb_6 (List.mem_of_getElem? (i := 94) rfl)) rfl
theorem W_6_96 : (Cond.instanceMethod yX8_compress) ∈ GW := gw_in (tb_6 (List.mem_of_getElem? (i := 96) rfl)) rfl
theorem W_6_97 : (Cond.code yX8_compress prog_10_method_21_code (13 : Nat) (Option.none : Option Jvm.ClassFile.FieldType)) ∈ GW := gw_in (tb_6 (List.mem_of_getElem? (i := 97) rfl)) rfl
theorem W_6_98 : (Cond.methodLink "HashgraphDeskModel" (256 : Nat) yX8_turn) ∈ GW := gw_in (tb_6 (List.mem_of_getElem? (i := 98) rfl)) rfl
theorem W_6_99 : (Cond.static yX8_turn) ∈ GW := gw_in (tb_6 (List.mem_of_getElem? (i := 99) rfl)) rfl
theorem W_6_100 : (Cond.code yX8_turn prog_10_method_20_code (2 : Nat) (Option.some Jvm.ClassFile.FieldType.int)) ∈ GW := gw_in (tb_6 (List.mem_of_getElem? (i := 100) rfl)) rfl
theorem W_6_101 : (Cond.methodLink "HashgraphDeskModel" (214 : Nat) yX8_isForked) ∈ GW := gw_in (tb_6 (List.mem_of_getElem? (i := 101) rfl)) rfl
theorem W_6_103 : (Cond.instanceMethod yX8_isForked) ∈ GW := gw_in (tb_6 (List.mem_of_getElem? (i := 103) rfl)) rfl
theorem W_6_104 : (Cond.code yX8_isForked prog_10_method_13_code (5 : Nat) (Option.some Jvm.ClassFile.FieldType.boolean)) ∈ GW := gw_in (tb_6 (List.mem_of_getElem? (i := 104) rfl)) rfl
theorem W_6_105 : (Cond.methodLink "HashgraphDeskModel" (234 : Nat) yX8_isFork) ∈ GW := gw_in (tb_6 (List.mem_of_getElem? (i := 105) rfl)) rfl
theorem W_6_107 : (Cond.instanceMethod yX8_isFork) ∈ GW := gw_in (tb_6 (List.mem_of_getElem? (i := 107) rfl)) rfl
theorem W_6_108 : (Cond.code yX8_isFork prog_10_method_12_code (3 : Nat) (Option.some Jvm.ClassFile.FieldType.boolean)) ∈ GW := gw_in (tb_6 (List.mem_of_getElem? (i := 108) rfl)) rfl
theorem W_6_109 : (Cond.methodLink "HashgraphDeskModel" (231 : Nat) yX8_isSelf) ∈ GW := gw_in (tb_6 (List.mem_of_getElem? (i := 109) rfl)) rfl
theorem W_6_111 : (Cond.instanceMethod yX8_isSelf) ∈ GW := gw_in (tb_6 (List.mem_of_getElem? (i := 111) rfl)) rfl
theorem W_6_112 : (Cond.code yX8_isSelf prog_10_method_11_code (4 : Nat) (Option.some Jvm.ClassFile.FieldType.boolean)) ∈ GW := gw_in (tb_6 (List.mem_of_getElem? (i := 112) rfl)) rfl
theorem W_6_113 : (Cond.methodLink "HashgraphDeskModel" (218 : Nat) yX8_strongly) ∈ GW := gw_in (tb_6 (List.mem_of_getElem? (i := 113) rfl)) rfl
theorem W_6_115 : (Cond.instanceMethod yX8_strongly) ∈ GW := gw_in (tb_6 (List.mem_of_getElem? (i := 115) rfl)) rfl
theorem W_6_116 : (Cond.code yX8_strongly prog_10_method_15_code (6 : Nat) (Option.some Jvm.ClassFile.FieldType.boolean)) ∈ GW := gw_in (tb_6 (List.mem_of_getElem? (i := 116) rfl)) rfl
theorem W_6_117 : (Cond.methodLink "HashgraphDeskModel" (237 : Nat) yX8_sees) ∈ GW := gw_in (tb_6 (List.mem_of_getElem? (i := 117) rfl)) rfl
theorem W_6_119 : (Cond.instanceMethod yX8_sees) ∈ GW := gw_in (tb_6 (List.mem_of_getElem? (i := 119) rfl)) rfl
theorem W_6_120 : (Cond.code yX8_sees prog_10_method_14_code (3 : Nat) (Option.some Jvm.ClassFile.FieldType.boolean)) ∈ GW := gw_in (tb_6 (List.mem_of_getElem? (i := 120) rfl)) rfl
theorem W_6_121 : (Cond.methodLink "HashgraphDeskModel" (221 : Nat) yJ6_bitCount_0f7a4) ∈ GW := gw_in (tb_6 (List.mem_of_getElem? (i := 121) rfl)) rfl
theorem W_6_122 : (Cond.methodLink "HashgraphDeskModel" (227 : Nat) yX8_isMost) ∈ GW := gw_in (tb_6 (List.mem_of_getElem? (i := 122) rfl)) rfl
theorem W_6_124 : (Cond.instanceMethod yX8_isMost) ∈ GW := gw_in (tb_6 (List.mem_of_getElem? (i := 124) rfl)) rfl
theorem W_6_125 : (Cond.code yX8_isMost prog_10_method_10_code (2 : Nat) (Option.some Jvm.ClassFile.FieldType.boolean)) ∈ GW := gw_in (tb_6 (List.mem_of_getElem? (i := 125) rfl)) rfl
theorem W_6_126 : (Cond.fieldLink "HashgraphDeskModel" (190 : Nat) "HashgraphDeskModel" "err" "I") ∈ GW := gw_in (tb_6 (List.mem_of_getElem? (i := 126) rfl)) rfl
theorem W_6_127 : (Cond.fieldLink "HashgraphDeskModel" (193 : Nat) "HashgraphDeskModel" "n" "I") ∈ GW := gw_in (tb_6 (List.mem_of_getElem? (i := 127) rfl)) rfl
theorem W_6_128 : (Cond.fieldLink "HashgraphDeskModel" (200 : Nat) "HashgraphDeskModel" "events" "I") ∈ GW := gw_in (tb_6 (List.mem_of_getElem? (i := 128) rfl)) rfl
theorem W_6_129 : (Cond.fieldLink "HashgraphDeskModel" (9 : Nat) "HashgraphDeskModel" "creator" "[I") ∈ GW := gw_in (tb_6 (List.mem_of_getElem? (i := 129) rfl)) rfl
theorem W_6_130 : (Cond.fieldLink "HashgraphDeskModel" (13 : Nat) "HashgraphDeskModel" "selfP" "[I") ∈ GW := gw_in (tb_6 (List.mem_of_getElem? (i := 130) rfl)) rfl
theorem W_6_131 : (Cond.fieldLink "HashgraphDeskModel" (16 : Nat) "HashgraphDeskModel" "otherP" "[I") ∈ GW := gw_in (tb_6 (List.mem_of_getElem? (i := 131) rfl)) rfl
theorem W_6_132 : (Cond.fieldLink "HashgraphDeskModel" (19 : Nat) "HashgraphDeskModel" "txN" "[I") ∈ GW := gw_in (tb_6 (List.mem_of_getElem? (i := 132) rfl)) rfl
theorem W_6_133 : (Cond.fieldLink "HashgraphDeskModel" (22 : Nat) "HashgraphDeskModel" "txTo" "[I") ∈ GW := gw_in (tb_6 (List.mem_of_getElem? (i := 133) rfl)) rfl
theorem W_6_134 : (Cond.fieldLink "HashgraphDeskModel" (25 : Nat) "HashgraphDeskModel" "txAmount" "[I") ∈ GW := gw_in (tb_6 (List.mem_of_getElem? (i := 134) rfl)) rfl
theorem W_6_135 : (Cond.fieldLink "HashgraphDeskModel" (28 : Nat) "HashgraphDeskModel" "round" "[I") ∈ GW := gw_in (tb_6 (List.mem_of_getElem? (i := 135) rfl)) rfl
theorem W_6_136 : (Cond.fieldLink "HashgraphDeskModel" (31 : Nat) "HashgraphDeskModel" "hashes" "[I") ∈ GW := gw_in (tb_6 (List.mem_of_getElem? (i := 136) rfl)) rfl
theorem W_6_137 : (Cond.fieldLink "HashgraphDeskModel" (34 : Nat) "HashgraphDeskModel" "latest" "[I") ∈ GW := gw_in (tb_6 (List.mem_of_getElem? (i := 137) rfl)) rfl
theorem W_6_138 : (Cond.fieldLink "HashgraphDeskModel" (37 : Nat) "HashgraphDeskModel" "waits" "[I") ∈ GW := gw_in (tb_6 (List.mem_of_getElem? (i := 138) rfl)) rfl
theorem W_6_139 : (Cond.fieldLink "HashgraphDeskModel" (40 : Nat) "HashgraphDeskModel" "waitTo" "[I") ∈ GW := gw_in (tb_6 (List.mem_of_getElem? (i := 139) rfl)) rfl
theorem W_6_140 : (Cond.fieldLink "HashgraphDeskModel" (43 : Nat) "HashgraphDeskModel" "waitAmount" "[I") ∈ GW := gw_in (tb_6 (List.mem_of_getElem? (i := 140) rfl)) rfl
theorem W_6_141 : (Cond.fieldLink "HashgraphDeskModel" (46 : Nat) "HashgraphDeskModel" "time" "[J") ∈ GW := gw_in (tb_6 (List.mem_of_getElem? (i := 141) rfl)) rfl
theorem W_6_142 : (Cond.fieldLink "HashgraphDeskModel" (51 : Nat) "HashgraphDeskModel" "above" "[Z") ∈ GW := gw_in (tb_6 (List.mem_of_getElem? (i := 142) rfl)) rfl
theorem W_6_143 : (Cond.fieldLink "HashgraphDeskModel" (55 : Nat) "HashgraphDeskModel" "held" "[Z") ∈ GW := gw_in (tb_6 (List.mem_of_getElem? (i := 143) rfl)) rfl
theorem W_6_144 : (Cond.fieldLink "HashgraphDeskModel" (58 : Nat) "HashgraphDeskModel" "forked" "[Z") ∈ GW := gw_in (tb_6 (List.mem_of_getElem? (i := 144) rfl)) rfl
theorem W_6_145 : (Cond.fieldLink "HashgraphDeskModel" (61 : Nat) "HashgraphDeskModel" "witness" "[Z") ∈ GW := gw_in (tb_6 (List.mem_of_getElem? (i := 145) rfl)) rfl
theorem W_6_146 : (Cond.fieldLink "HashgraphDeskModel" (64 : Nat) "HashgraphDeskModel" "strong" "[B") ∈ GW := gw_in (tb_6 (List.mem_of_getElem? (i := 146) rfl)) rfl
theorem W_6_147 : (Cond.fieldLink "HashgraphDeskModel" (68 : Nat) "HashgraphDeskModel" "votes" "[B") ∈ GW := gw_in (tb_6 (List.mem_of_getElem? (i := 147) rfl)) rfl
theorem W_6_148 : (Cond.fieldLink "HashgraphDeskModel" (71 : Nat) "HashgraphDeskModel" "foundFor" "I") ∈ GW := gw_in (tb_6 (List.mem_of_getElem? (i := 148) rfl)) rfl
theorem W_6_149 : (Cond.fieldLink "HashgraphDeskModel" (269 : Nat) "HashgraphDeskModel" "ordered" "I") ∈ GW := gw_in (tb_6 (List.mem_of_getElem? (i := 149) rfl)) rfl
theorem W_6_150 : (Cond.fieldLink "HashgraphDeskModel" (272 : Nat) "HashgraphDeskModel" "settled" "I") ∈ GW := gw_in (tb_6 (List.mem_of_getElem? (i := 150) rfl)) rfl
theorem W_6_151 : (Cond.fieldLink "HashgraphDeskModel" (75 : Nat) "HashgraphDeskModel" "state" "[I") ∈ GW := gw_in (tb_6 (List.mem_of_getElem? (i := 151) rfl)) rfl
theorem W_6_152 : (Cond.fieldLink "HashgraphDeskModel" (78 : Nat) "HashgraphDeskModel" "received" "[I") ∈ GW := gw_in (tb_6 (List.mem_of_getElem? (i := 152) rfl)) rfl
theorem W_6_153 : (Cond.fieldLink "HashgraphDeskModel" (81 : Nat) "HashgraphDeskModel" "place" "[I") ∈ GW := gw_in (tb_6 (List.mem_of_getElem? (i := 153) rfl)) rfl
theorem W_6_154 : (Cond.fieldLink "HashgraphDeskModel" (84 : Nat) "HashgraphDeskModel" "list" "[I") ∈ GW := gw_in (tb_6 (List.mem_of_getElem? (i := 154) rfl)) rfl
theorem W_6_155 : (Cond.fieldLink "HashgraphDeskModel" (87 : Nat) "HashgraphDeskModel" "balance" "[I") ∈ GW := gw_in (tb_6 (List.mem_of_getElem? (i := 155) rfl)) rfl
theorem W_6_156 : (Cond.fieldLink "HashgraphDeskModel" (90 : Nat) "HashgraphDeskModel" "white" "[I") ∈ GW := gw_in (tb_6 (List.mem_of_getElem? (i := 156) rfl)) rfl
theorem W_6_157 : (Cond.fieldLink "HashgraphDeskModel" (93 : Nat) "HashgraphDeskModel" "stamps" "[J") ∈ GW := gw_in (tb_6 (List.mem_of_getElem? (i := 157) rfl)) rfl
theorem W_6_158 : (Cond.fieldLink "HashgraphDeskModel" (96 : Nat) "HashgraphDeskModel" "some" "[J") ∈ GW := gw_in (tb_6 (List.mem_of_getElem? (i := 158) rfl)) rfl
theorem W_6_159 : (Cond.fieldLink "HashgraphDeskModel" (99 : Nat) "HashgraphDeskModel" "block" "[I") ∈ GW := gw_in (tb_6 (List.mem_of_getElem? (i := 159) rfl)) rfl
theorem W_6_160 : (Cond.fieldLink "HashgraphDeskModel" (102 : Nat) "HashgraphDeskModel" "w" "[I") ∈ GW := gw_in (tb_6 (List.mem_of_getElem? (i := 160) rfl)) rfl
theorem W_6_161 : (Cond.fieldLink "HashgraphDeskModel" (169 : Nat) "HashgraphDeskModel" "primes" "[I") ∈ GW := gw_in (tb_6 (List.mem_of_getElem? (i := 161) rfl)) rfl
theorem W_6_162 : (Cond.fieldLink "HashgraphDeskModel" (244 : Nat) "HashgraphDeskModel" "octets" "I") ∈ GW := gw_in (tb_6 (List.mem_of_getElem? (i := 162) rfl)) rfl
theorem W_6_163 : (Cond.fieldLink "HashgraphDeskModel" (172 : Nat) "HashgraphDeskModel" "h" "[I") ∈ GW := gw_in (tb_6 (List.mem_of_getElem? (i := 163) rfl)) rfl
theorem W_6_164 : (Cond.fieldLink "HashgraphDeskModel" (183 : Nat) "HashgraphDeskModel" "first" "[I") ∈ GW := gw_in (tb_6 (List.mem_of_getElem? (i := 164) rfl)) rfl
theorem W_6_165 : (Cond.lays "HashgraphDeskModel" "HashgraphDeskModel" "err" "I") ∈ GW := gw_in (tb_6 (List.mem_of_getElem? (i := 165) rfl)) rfl
theorem W_6_167 : (Cond.lays "HashgraphDeskModel" "HashgraphDeskModel" "n" "I") ∈ GW := gw_in (tb_6 (List.mem_of_getElem? (i := 167) rfl)) rfl
theorem W_6_169 : (Cond.lays "HashgraphDeskModel" "HashgraphDeskModel" "events" "I") ∈ GW := gw_in (tb_6 (List.mem_of_getElem? (i := 169) rfl)) rfl
theorem W_6_171 : (Cond.laysFinal "HashgraphDeskModel" "HashgraphDeskModel" "creator" "[I") ∈ GW := gw_in (tb_6 (List.mem_of_getElem? (i := 171) rfl)) rfl
theorem W_6_173 : (Cond.laysFinal "HashgraphDeskModel" "HashgraphDeskModel" "selfP" "[I") ∈ GW := gw_in (tb_6 (List.mem_of_getElem? (i := 173) rfl)) rfl
theorem W_6_175 : (Cond.laysFinal "HashgraphDeskModel" "HashgraphDeskModel" "otherP" "[I") ∈ GW := gw_in (tb_6 (List.mem_of_getElem? (i := 175) rfl)) rfl
theorem W_6_177 : (Cond.laysFinal "HashgraphDeskModel" "HashgraphDeskModel" "txN" "[I") ∈ GW := gw_in (tb_6 (List.mem_of_getElem? (i := 177) rfl)) rfl
theorem W_6_179 : (Cond.laysFinal "HashgraphDeskModel" "HashgraphDeskModel" "txTo" "[I") ∈ GW := gw_in (tb_6 (List.mem_of_getElem? (i := 179) rfl)) rfl
theorem W_6_181 : (Cond.laysFinal "HashgraphDeskModel" "HashgraphDeskModel" "txAmount" "[I") ∈ GW := gw_in (tb_6 (List.mem_of_getElem? (i := 181) rfl)) rfl
theorem W_6_183 : (Cond.laysFinal "HashgraphDeskModel" "HashgraphDeskModel" "round" "[I") ∈ GW := gw_in (tb_6 (List.mem_of_getElem? (i := 183) rfl)) rfl
theorem W_6_185 : (Cond.laysFinal "HashgraphDeskModel" "HashgraphDeskModel" "hashes" "[I") ∈ GW := gw_in (tb_6 (List.mem_of_getElem? (i := 185) rfl)) rfl
theorem W_6_187 : (Cond.laysFinal "HashgraphDeskModel" "HashgraphDeskModel" "latest" "[I") ∈ GW := gw_in (tb_6 (List.mem_of_getElem? (i := 187) rfl)) rfl
theorem W_6_189 : (Cond.laysFinal "HashgraphDeskModel" "HashgraphDeskModel" "waits" "[I") ∈ GW := gw_in (tb_6 (List.mem_of_getElem? (i := 189) rfl)) rfl
theorem W_6_191 : (Cond.laysFinal "HashgraphDeskModel" "HashgraphDeskModel" "waitTo" "[I") ∈ GW := gw_in (tb_6 (List.mem_of_getElem? (i := 191) rfl)) rfl
theorem W_6_193 : (Cond.laysFinal "HashgraphDeskModel" "HashgraphDeskModel" "waitAmount" "[I") ∈ GW := gw_in (tb_6 (List.mem_of_getElem? (i := 193) rfl)) rfl
theorem W_6_195 : (Cond.laysFinal "HashgraphDeskModel" "HashgraphDeskModel" "time" "[J") ∈ GW := gw_in (tb_6 (List.mem_of_getElem? (i := 195) rfl)) rfl
theorem W_6_197 : (Cond.laysFinal "HashgraphDeskModel" "HashgraphDeskModel" "above" "[Z") ∈ GW := gw_in (tb_6 (List.mem_of_getElem? (i := 197) rfl)) rfl
theorem W_6_199 : (Cond.laysFinal "HashgraphDeskModel" "HashgraphDeskModel" "held" "[Z") ∈ GW := gw_in (tb_6 (List.mem_of_getElem? (i := 199) rfl)) rfl
theorem W_6_201 : (Cond.laysFinal "HashgraphDeskModel" "HashgraphDeskModel" "forked" "[Z") ∈ GW := gw_in (tb_6 (List.mem_of_getElem? (i := 201) rfl)) rfl
theorem W_6_203 : (Cond.laysFinal "HashgraphDeskModel" "HashgraphDeskModel" "witness" "[Z") ∈ GW := gw_in (tb_6 (List.mem_of_getElem? (i := 203) rfl)) rfl
theorem W_6_205 : (Cond.laysFinal "HashgraphDeskModel" "HashgraphDeskModel" "strong" "[B") ∈ GW := gw_in (tb_6 (List.mem_of_getElem? (i := 205) rfl)) rfl
theorem W_6_207 : (Cond.laysFinal "HashgraphDeskModel" "HashgraphDeskModel" "votes" "[B") ∈ GW := gw_in (tb_6 (List.mem_of_getElem? (i := 207) rfl)) rfl
theorem W_6_209 : (Cond.lays "HashgraphDeskModel" "HashgraphDeskModel" "foundFor" "I") ∈ GW := gw_in (tb_6 (List.mem_of_getElem? (i := 209) rfl)) rfl
theorem W_6_211 : (Cond.lays "HashgraphDeskModel" "HashgraphDeskModel" "ordered" "I") ∈ GW := gw_in (tb_6 (List.mem_of_getElem? (i := 211) rfl)) rfl
theorem W_6_213 : (Cond.lays "HashgraphDeskModel" "HashgraphDeskModel" "settled" "I") ∈ GW := gw_in (tb_6 (List.mem_of_getElem? (i := 213) rfl)) rfl
theorem W_6_215 : (Cond.laysFinal "HashgraphDeskModel" "HashgraphDeskModel" "state" "[I") ∈ GW := gw_in (tb_6 (List.mem_of_getElem? (i := 215) rfl)) rfl
theorem W_6_217 : (Cond.laysFinal "HashgraphDeskModel" "HashgraphDeskModel" "received" "[I") ∈ GW := gw_in (tb_6 (List.mem_of_getElem? (i := 217) rfl)) rfl
theorem W_6_219 : (Cond.laysFinal "HashgraphDeskModel" "HashgraphDeskModel" "place" "[I") ∈ GW := gw_in (tb_6 (List.mem_of_getElem? (i := 219) rfl)) rfl
theorem W_6_221 : (Cond.laysFinal "HashgraphDeskModel" "HashgraphDeskModel" "list" "[I") ∈ GW := gw_in (tb_6 (List.mem_of_getElem? (i := 221) rfl)) rfl
theorem W_6_223 : (Cond.laysFinal "HashgraphDeskModel" "HashgraphDeskModel" "balance" "[I") ∈ GW := gw_in (tb_6 (List.mem_of_getElem? (i := 223) rfl)) rfl
theorem W_6_225 : (Cond.laysFinal "HashgraphDeskModel" "HashgraphDeskModel" "white" "[I") ∈ GW := gw_in (tb_6 (List.mem_of_getElem? (i := 225) rfl)) rfl
theorem W_6_227 : (Cond.laysFinal "HashgraphDeskModel" "HashgraphDeskModel" "stamps" "[J") ∈ GW := gw_in (tb_6 (List.mem_of_getElem? (i := 227) rfl)) rfl
theorem W_6_229 : (Cond.laysFinal "HashgraphDeskModel" "HashgraphDeskModel" "some" "[J") ∈ GW := gw_in (tb_6 (List.mem_of_getElem? (i := 229) rfl)) rfl
theorem W_6_231 : (Cond.laysFinal "HashgraphDeskModel" "HashgraphDeskModel" "block" "[I") ∈ GW := gw_in (tb_6 (List.mem_of_getElem? (i := 231) rfl)) rfl
theorem W_6_233 : (Cond.laysFinal "HashgraphDeskModel" "HashgraphDeskModel" "w" "[I") ∈ GW := gw_in (tb_6 (List.mem_of_getElem? (i := 233) rfl)) rfl
theorem W_6_235 : (Cond.laysFinal "HashgraphDeskModel" "HashgraphDeskModel" "primes" "[I") ∈ GW := gw_in (tb_6 (List.mem_of_getElem? (i := 235) rfl)) rfl
theorem W_6_237 : (Cond.lays "HashgraphDeskModel" "HashgraphDeskModel" "octets" "I") ∈ GW := gw_in (tb_6 (List.mem_of_getElem? (i := 237) rfl)) rfl
theorem W_6_239 : (Cond.laysFinal "HashgraphDeskModel" "HashgraphDeskModel" "h" "[I") ∈ GW := gw_in (tb_6 (List.mem_of_getElem? (i := 239) rfl)) rfl
theorem W_7_1 : (Cond.laysFinal "HashgraphDeskModel" "HashgraphDeskModel" "first" "[I") ∈ GW := gw_in (tb_7 (List.mem_of_getElem? (i := 1) rfl)) rfl
theorem W_7_4 : (Cond.methodLink "HashgraphDeskLaw" (77 : Nat) yX8_thrown) ∈ GW := gw_in (tb_7 (List.mem_of_getElem? (i := 4) rfl)) rfl
theorem W_7_5 : (Cond.instanceMethod yX8_thrown) ∈ GW := gw_in (tb_7 (List.mem_of_getElem? (i := 5) rfl)) rfl
theorem W_7_6 : (Cond.selects "HashgraphDeskModel" yX8_thrown yX8_thrown) ∈ GW := gw_in (tb_7 (List.mem_of_getElem? (i := 6) rfl)) rfl
theorem W_7_7 : (Cond.code yX8_thrown prog_10_method_2_code (1 : Nat) (Option.some Jvm.ClassFile.FieldType.int)) ∈ GW := gw_in (tb_7 (List.mem_of_getElem? (i := 7) rfl)) rfl
theorem W_7_8 : (Cond.methodLink "HashgraphDeskLaw" (76 : Nat) yX8_begin) ∈ GW := gw_in (tb_7 (List.mem_of_getElem? (i := 8) rfl)) rfl
theorem W_7_9 : (Cond.instanceMethod yX8_begin) ∈ GW := gw_in (tb_7 (List.mem_of_getElem? (i := 9) rfl)) rfl
theorem W_7_10 : (Cond.selects "HashgraphDeskModel" yX8_begin yX8_begin) ∈ GW := gw_in (tb_7 (List.mem_of_getElem? (i := 10) rfl)) rfl
theorem W_7_11 : (Cond.code yX8_begin prog_10_method_7_code (2 : Nat) (Option.none : Option Jvm.ClassFile.FieldType)) ∈ GW := gw_in (tb_7 (List.mem_of_getElem? (i := 11) rfl)) rfl
theorem W_7_12 : (Cond.methodLink "HashgraphDeskModel" (196 : Nat) yX8_in) ∈ GW := gw_in (tb_7 (List.mem_of_getElem? (i := 12) rfl)) rfl
theorem W_7_13 : (Cond.static yX8_in) ∈ GW := gw_in (tb_7 (List.mem_of_getElem? (i := 13) rfl)) rfl
theorem W_7_14 : (Cond.code yX8_in prog_10_method_3_code (3 : Nat) (Option.some Jvm.ClassFile.FieldType.boolean)) ∈ GW := gw_in (tb_7 (List.mem_of_getElem? (i := 14) rfl)) rfl
theorem W_7_15 : (Cond.methodLink "HashgraphDeskModel" (203 : Nat) yX8_fails) ∈ GW := gw_in (tb_7 (List.mem_of_getElem? (i := 15) rfl)) rfl
theorem W_7_17 : (Cond.instanceMethod yX8_fails) ∈ GW := gw_in (tb_7 (List.mem_of_getElem? (i := 17) rfl)) rfl
theorem W_7_18 : (Cond.code yX8_fails prog_10_method_4_code (3 : Nat) (Option.some Jvm.ClassFile.FieldType.boolean)) ∈ GW := gw_in (tb_7 (List.mem_of_getElem? (i := 18) rfl)) rfl
theorem W_7_19 : (Cond.methodLink "HashgraphDeskLaw" (84 : Nat) yX8_submit) ∈ GW := gw_in (tb_7 (List.mem_of_getElem? (i := 19) rfl)) rfl
theorem W_7_20 : (Cond.instanceMethod yX8_submit) ∈ GW := gw_in (tb_7 (List.mem_of_getElem? (i := 20) rfl)) rfl
theorem W_7_21 : (Cond.selects "HashgraphDeskModel" yX8_submit yX8_submit) ∈ GW := gw_in (tb_7 (List.mem_of_getElem? (i := 21) rfl)) rfl
theorem W_7_22 : (Cond.code yX8_submit prog_10_method_22_code (4 : Nat) (Option.some Jvm.ClassFile.FieldType.int)) ∈ GW := gw_in (tb_7 (List.mem_of_getElem? (i := 22) rfl)) rfl
theorem W_7_23 : (Cond.methodLink "HashgraphDeskModel" (259 : Nat) yX8_isNode) ∈ GW := gw_in (tb_7 (List.mem_of_getElem? (i := 23) rfl)) rfl
theorem W_7_25 : (Cond.instanceMethod yX8_isNode) ∈ GW := gw_in (tb_7 (List.mem_of_getElem? (i := 25) rfl)) rfl
theorem W_7_26 : (Cond.code yX8_isNode prog_10_method_5_code (2 : Nat) (Option.some Jvm.ClassFile.FieldType.boolean)) ∈ GW := gw_in (tb_7 (List.mem_of_getElem? (i := 26) rfl)) rfl
theorem W_7_27 : (Cond.constant "HashgraphDeskModel" (262 : Nat) (1000000 : Int32)) ∈ GW := gw_in (tb_7 (List.mem_of_getElem? (i := 27) rfl)) rfl
theorem W_7_28 : (Cond.methodLink "HashgraphDeskLaw" (90 : Nat) yX8_sync) ∈ GW := gw_in (tb_7 (List.mem_of_getElem? (i := 28) rfl)) rfl
theorem W_7_29 : (Cond.instanceMethod yX8_sync) ∈ GW := gw_in (tb_7 (List.mem_of_getElem? (i := 29) rfl)) rfl
theorem W_7_30 : (Cond.selects "HashgraphDeskModel" yX8_sync yX8_sync) ∈ GW := gw_in (tb_7 (List.mem_of_getElem? (i := 30) rfl)) rfl
theorem W_7_31 : (Cond.code yX8_sync prog_10_method_23_code (7 : Nat) (Option.some Jvm.ClassFile.FieldType.int)) ∈ GW := gw_in (tb_7 (List.mem_of_getElem? (i := 31) rfl)) rfl
theorem W_7_32 : (Cond.methodLink "HashgraphDeskLaw" (94 : Nat) yX8_inject) ∈ GW := gw_in (tb_7 (List.mem_of_getElem? (i := 32) rfl)) rfl
theorem W_7_33 : (Cond.instanceMethod yX8_inject) ∈ GW := gw_in (tb_7 (List.mem_of_getElem? (i := 33) rfl)) rfl
theorem W_7_34 : (Cond.selects "HashgraphDeskModel" yX8_inject yX8_inject) ∈ GW := gw_in (tb_7 (List.mem_of_getElem? (i := 34) rfl)) rfl
theorem W_7_35 : (Cond.code yX8_inject prog_10_method_25_code (8 : Nat) (Option.some Jvm.ClassFile.FieldType.int)) ∈ GW := gw_in (tb_7 (List.mem_of_getElem? (i := 35) rfl)) rfl
theorem W_7_36 : (Cond.methodLink "HashgraphDeskModel" (266 : Nat) yX8_holds) ∈ GW := gw_in (tb_7 (List.mem_of_getElem? (i := 36) rfl)) rfl
theorem W_7_38 : (Cond.instanceMethod yX8_holds) ∈ GW := gw_in (tb_7 (List.mem_of_getElem? (i := 38) rfl)) rfl
theorem W_7_39 : (Cond.code yX8_holds prog_10_method_24_code (3 : Nat) (Option.some Jvm.ClassFile.FieldType.boolean)) ∈ GW := gw_in (tb_7 (List.mem_of_getElem? (i := 39) rfl)) rfl
theorem W_7_40 : (Cond.methodLink "HashgraphDeskModel" (263 : Nat) yX8_isEvent) ∈ GW := gw_in (tb_7 (List.mem_of_getElem? (i := 40) rfl)) rfl
theorem W_7_42 : (Cond.instanceMethod yX8_isEvent) ∈ GW := gw_in (tb_7 (List.mem_of_getElem? (i := 42) rfl)) rfl
theorem W_7_43 : (Cond.code yX8_isEvent prog_10_method_6_code (2 : Nat) (Option.some Jvm.ClassFile.FieldType.boolean)) ∈ GW := gw_in (tb_7 (List.mem_of_getElem? (i := 43) rfl)) rfl
theorem W_7_44 : (Cond.methodLink "HashgraphDeskLaw" (98 : Nat) yX8_event) ∈ GW := gw_in (tb_7 (List.mem_of_getElem? (i := 44) rfl)) rfl
theorem W_7_45 : (Cond.instanceMethod yX8_event) ∈ GW := gw_in (tb_7 (List.mem_of_getElem? (i := 45) rfl)) rfl
theorem W_7_46 : (Cond.selects "HashgraphDeskModel" yX8_event yX8_event) ∈ GW := gw_in (tb_7 (List.mem_of_getElem? (i := 46) rfl)) rfl
theorem W_7_47 : (Cond.code yX8_event prog_10_method_26_code (5 : Nat) (Option.some Jvm.ClassFile.FieldType.int)) ∈ GW := gw_in (tb_7 (List.mem_of_getElem? (i := 47) rfl)) rfl
theorem W_7_48 : (Cond.methodLink "HashgraphDeskLaw" (101 : Nat) yX8_hash_) ∈ GW := gw_in (tb_7 (List.mem_of_getElem? (i := 48) rfl)) rfl
theorem W_7_49 : (Cond.instanceMethod yX8_hash_) ∈ GW := gw_in (tb_7 (List.mem_of_getElem? (i := 49) rfl)) rfl
theorem W_7_50 : (Cond.selects "HashgraphDeskModel" yX8_hash_ yX8_hash_) ∈ GW := gw_in (tb_7 (List.mem_of_getElem? (i := 50) rfl)) rfl
theorem W_7_51 : (Cond.code yX8_hash_ prog_10_method_27_code (3 : Nat) (Option.some Jvm.ClassFile.FieldType.int)) ∈ GW := gw_in (tb_7 (List.mem_of_getElem? (i := 51) rfl)) rfl
theorem W_7_52 : (Cond.methodLink "HashgraphDeskLaw" (105 : Nat) yX8_sees_) ∈ GW := gw_in (tb_7 (List.mem_of_getElem? (i := 52) rfl)) rfl
theorem W_7_53 : (Cond.instanceMethod yX8_sees_) ∈ GW := gw_in (tb_7 (List.mem_of_getElem? (i := 53) rfl)) rfl
theorem W_7_54 : (Cond.selects "HashgraphDeskModel" yX8_sees_ yX8_sees_) ∈ GW := gw_in (tb_7 (List.mem_of_getElem? (i := 54) rfl)) rfl
theorem W_7_55 : (Cond.code yX8_sees_ prog_10_method_28_code (4 : Nat) (Option.some Jvm.ClassFile.FieldType.boolean)) ∈ GW := gw_in (tb_7 (List.mem_of_getElem? (i := 55) rfl)) rfl
theorem W_7_56 : (Cond.methodLink "HashgraphDeskLaw" (108 : Nat) yX8_vote) ∈ GW := gw_in (tb_7 (List.mem_of_getElem? (i := 56) rfl)) rfl
theorem W_7_57 : (Cond.instanceMethod yX8_vote) ∈ GW := gw_in (tb_7 (List.mem_of_getElem? (i := 57) rfl)) rfl
theorem W_7_58 : (Cond.selects "HashgraphDeskModel" yX8_vote yX8_vote) ∈ GW := gw_in (tb_7 (List.mem_of_getElem? (i := 58) rfl)) rfl
theorem W_7_59 : (Cond.code yX8_vote prog_10_method_29_code (3 : Nat) (Option.some Jvm.ClassFile.FieldType.int)) ∈ GW := gw_in (tb_7 (List.mem_of_getElem? (i := 59) rfl)) rfl
theorem W_7_60 : (Cond.methodLink "HashgraphDeskModel" (240 : Nat) yX8_voteOf) ∈ GW := gw_in (tb_7 (List.mem_of_getElem? (i := 60) rfl)) rfl
theorem W_7_62 : (Cond.instanceMethod yX8_voteOf) ∈ GW := gw_in (tb_7 (List.mem_of_getElem? (i := 62) rfl)) rfl
theorem W_7_63 : (Cond.code yX8_voteOf prog_10_method_16_code (9 : Nat) (Option.some Jvm.ClassFile.FieldType.int)) ∈ GW := gw_in (tb_7 (List.mem_of_getElem? (i := 63) rfl)) rfl
theorem W_7_64 : (Cond.methodLink "HashgraphDeskLaw" (111 : Nat) yX8_found) ∈ GW := gw_in (tb_7 (List.mem_of_getElem? (i := 64) rfl)) rfl
theorem W_7_65 : (Cond.instanceMethod yX8_found) ∈ GW := gw_in (tb_7 (List.mem_of_getElem? (i := 65) rfl)) rfl
theorem W_7_66 : (Cond.selects "HashgraphDeskModel" yX8_found yX8_found) ∈ GW := gw_in (tb_7 (List.mem_of_getElem? (i := 66) rfl)) rfl
theorem W_7_67 : (Cond.code yX8_found prog_10_method_34_code (5 : Nat) (Option.some Jvm.ClassFile.FieldType.int)) ∈ GW := gw_in (tb_7 (List.mem_of_getElem? (i := 67) rfl)) rfl
theorem W_7_68 : (Cond.methodLink "HashgraphDeskModel" (287 : Nat) yX8_find) ∈ GW := gw_in (tb_7 (List.mem_of_getElem? (i := 68) rfl)) rfl
theorem W_7_70 : (Cond.instanceMethod yX8_find) ∈ GW := gw_in (tb_7 (List.mem_of_getElem? (i := 70) rfl)) rfl
theorem W_7_71 : (Cond.code yX8_find prog_10_method_30_code (9 : Nat) (Option.none : Option Jvm.ClassFile.FieldType)) ∈ GW := gw_in (tb_7 (List.mem_of_getElem? (i := 71) rfl)) rfl
theorem W_7_72 : (Cond.methodLink "HashgraphDeskModel" (275 : Nat) yX8_receive) ∈ GW := gw_in (tb_7 (List.mem_of_getElem? (i := 72) rfl)) rfl
theorem W_7_74 : (Cond.instanceMethod yX8_receive) ∈ GW := gw_in (tb_7 (List.mem_of_getElem? (i := 74) rfl)) rfl
theorem W_7_75 : (Cond.code yX8_receive prog_10_method_32_code (10 : Nat) (Option.none : Option Jvm.ClassFile.FieldType)) ∈ GW := gw_in (tb_7 (List.mem_of_getElem? (i := 75) rfl)) rfl
theorem W_7_76 : (Cond.methodLink "HashgraphDeskModel" (279 : Nat) yX8_isUnique) ∈ GW := gw_in (tb_7 (List.mem_of_getElem? (i := 76) rfl)) rfl
theorem W_7_78 : (Cond.instanceMethod yX8_isUnique) ∈ GW := gw_in (tb_7 (List.mem_of_getElem? (i := 78) rfl)) rfl
theorem W_7_79 : (Cond.code yX8_isUnique prog_10_method_31_code (3 : Nat) (Option.some Jvm.ClassFile.FieldType.boolean)) ∈ GW := gw_in (tb_7 (List.mem_of_getElem? (i := 79) rfl)) rfl
theorem W_7_80 : (Cond.methodLink "HashgraphDeskModel" (282 : Nat) yX8_comesBefore) ∈ GW := gw_in (tb_7 (List.mem_of_getElem? (i := 80) rfl)) rfl
theorem W_7_82 : (Cond.instanceMethod yX8_comesBefore) ∈ GW := gw_in (tb_7 (List.mem_of_getElem? (i := 82) rfl)) rfl
theorem W_7_83 : (Cond.code yX8_comesBefore prog_10_method_33_code (8 : Nat) (Option.some Jvm.ClassFile.FieldType.boolean)) ∈ GW := gw_in (tb_7 (List.mem_of_getElem? (i := 83) rfl)) rfl
theorem W_7_84 : (Cond.constantLong "HashgraphDeskModel" (285 : Nat) (4294967295 : Int64)) ∈ GW := gw_in (tb_7 (List.mem_of_getElem? (i := 84) rfl)) rfl
theorem W_7_85 : (Cond.methodLink "HashgraphDeskLaw" (114 : Nat) yX8_stamp) ∈ GW := gw_in (tb_7 (List.mem_of_getElem? (i := 85) rfl)) rfl
theorem W_7_86 : (Cond.instanceMethod yX8_stamp) ∈ GW := gw_in (tb_7 (List.mem_of_getElem? (i := 86) rfl)) rfl
theorem W_7_87 : (Cond.selects "HashgraphDeskModel" yX8_stamp yX8_stamp) ∈ GW := gw_in (tb_7 (List.mem_of_getElem? (i := 87) rfl)) rfl
theorem W_7_88 : (Cond.code yX8_stamp prog_10_method_35_code (3 : Nat) (Option.some Jvm.ClassFile.FieldType.long)) ∈ GW := gw_in (tb_7 (List.mem_of_getElem? (i := 88) rfl)) rfl
theorem W_7_89 : (Cond.methodLink "HashgraphDeskLaw" (118 : Nat) yX8_order) ∈ GW := gw_in (tb_7 (List.mem_of_getElem? (i := 89) rfl)) rfl
theorem W_7_90 : (Cond.instanceMethod yX8_order) ∈ GW := gw_in (tb_7 (List.mem_of_getElem? (i := 90) rfl)) rfl
theorem W_7_91 : (Cond.selects "HashgraphDeskModel" yX8_order yX8_order) ∈ GW := gw_in (tb_7 (List.mem_of_getElem? (i := 91) rfl)) rfl
theorem W_7_92 : (Cond.code yX8_order prog_10_method_36_code (2 : Nat) (Option.some Jvm.ClassFile.FieldType.int)) ∈ GW := gw_in (tb_7 (List.mem_of_getElem? (i := 92) rfl)) rfl
theorem W_7_93 : (Cond.methodLink "HashgraphDeskLaw" (121 : Nat) yX8_at) ∈ GW := gw_in (tb_7 (List.mem_of_getElem? (i := 93) rfl)) rfl
theorem W_7_94 : (Cond.instanceMethod yX8_at) ∈ GW := gw_in (tb_7 (List.mem_of_getElem? (i := 94) rfl)) rfl
theorem W_7_95 : (Cond.selects "HashgraphDeskModel" yX8_at yX8_at) ∈ GW := gw_in (tb_7 (List.mem_of_getElem? (i := 95) rfl)) rfl
theorem W_7_96 : (Cond.code yX8_at prog_10_method_37_code (3 : Nat) (Option.some Jvm.ClassFile.FieldType.int)) ∈ GW := gw_in (tb_7 (List.mem_of_getElem? (i := 96) rfl)) rfl
theorem W_7_97 : (Cond.methodLink "HashgraphDeskLaw" (124 : Nat) yX8_balance) ∈ GW := gw_in (tb_7 (List.mem_of_getElem? (i := 97) rfl)) rfl
theorem W_7_98 : (Cond.instanceMethod yX8_balance) ∈ GW := gw_in (tb_7 (List.mem_of_getElem? (i := 98) rfl)) rfl
theorem W_7_99 : (Cond.selects "HashgraphDeskModel" yX8_balance yX8_balance) ∈ GW := gw_in (tb_7 (List.mem_of_getElem? (i := 99) rfl)) rfl
theorem W_7_100 : (Cond.code yX8_balance prog_10_method_38_code (3 : Nat) (Option.some Jvm.ClassFile.FieldType.int)) ∈ GW := gw_in (tb_7 (List.mem_of_getElem? (i := 100) rfl)) rfl
theorem W_7_101 : (Cond.methodLink "HashgraphDeskLaw" (127 : Nat) yX8_count) ∈ GW := gw_in (tb_7 (List.mem_of_getElem? (i := 101) rfl)) rfl
theorem W_7_102 : (Cond.instanceMethod yX8_count) ∈ GW := gw_in (tb_7 (List.mem_of_getElem? (i := 102) rfl)) rfl
theorem W_7_103 : (Cond.selects "HashgraphDeskModel" yX8_count yX8_count) ∈ GW := gw_in (tb_7 (List.mem_of_getElem? (i := 103) rfl)) rfl
theorem W_7_104 : (Cond.code yX8_count prog_10_method_39_code (5 : Nat) (Option.some Jvm.ClassFile.FieldType.int)) ∈ GW := gw_in (tb_7 (List.mem_of_getElem? (i := 104) rfl)) rfl
theorem W_7_105 : (Cond.constantLong "HashgraphDeskLaw" (85 : Nat) (4294967295 : Int64)) ∈ GW := gw_in (tb_7 (List.mem_of_getElem? (i := 105) rfl)) rfl
theorem W_0_0 : Cond.selects yX7_startAnew.cls yX7_startAnew yX7_startAnew ∈ GW := gw_in (tb_0 (List.mem_of_getElem? (i := 0) rfl)) rfl
theorem W_0_1 : Cond.selects yX7_makeEvent.cls yX7_makeEvent yX7_makeEvent ∈ GW := gw_in (tb_0 (List.mem_of_getElem? (i := 1) rfl)) rfl
theorem W_0_2 : Cond.selects yX2_putParentHash.cls yX2_putParentHash yX2_putParentHash ∈ GW := gw_in (tb_0 (List.mem_of_getElem? (i := 2) rfl)) rfl
theorem W_0_3 : Cond.selects yX4_fillSchedule.cls yX4_fillSchedule yX4_fillSchedule ∈ GW := gw_in (tb_0 (List.mem_of_getElem? (i := 3) rfl)) rfl
theorem W_0_4 : Cond.selects yX4_mixSchedule.cls yX4_mixSchedule yX4_mixSchedule ∈ GW := gw_in (tb_0 (List.mem_of_getElem? (i := 4) rfl)) rfl
theorem W_0_5 : Cond.selects yX3_findAncestors.cls yX3_findAncestors yX3_findAncestors ∈ GW := gw_in (tb_0 (List.mem_of_getElem? (i := 5) rfl)) rfl
theorem W_0_6 : Cond.selects (⟨"java/lang/Throwable", "fillInStackTrace", "(I)Ljava/lang/Throwable;"⟩ : MethodName).cls (⟨"java/lang/Throwable", "fillInStackTrace", "(I)Ljava/lang/Throwable;"⟩ : MethodName) (⟨"java/lang/Throwable", "fillInStackTrace", "(I)Ljava/lang/Throwable;"⟩ : MethodName) ∈ GW := gw_in (tb_0 (List.mem_of_getElem? (i := 6) rfl)) rfl
theorem W_0_7 : Cond.selects yX3_countForks.cls yX3_countForks yX3_countForks ∈ GW := gw_in (tb_0 (List.mem_of_getElem? (i := 7) rfl)) rfl
theorem W_0_8 : Cond.selects yX3_findSeen.cls yX3_findSeen yX3_findSeen ∈ GW := gw_in (tb_0 (List.mem_of_getElem? (i := 8) rfl)) rfl
theorem W_0_9 : Cond.selects yX3_countAncestorsByCreator.cls yX3_countAncestorsByCreator yX3_countAncestorsByCreator ∈ GW := gw_in (tb_0 (List.mem_of_getElem? (i := 9) rfl)) rfl
theorem W_0_10 : Cond.selects yX3_isForker.cls yX3_isForker yX3_isForker ∈ GW := gw_in (tb_0 (List.mem_of_getElem? (i := 10) rfl)) rfl
theorem W_0_11 : Cond.selects yX3_findStronglySeen.cls yX3_findStronglySeen yX3_findStronglySeen ∈ GW := gw_in (tb_0 (List.mem_of_getElem? (i := 11) rfl)) rfl
theorem W_0_12 : Cond.selects yX3_findRound.cls yX3_findRound yX3_findRound ∈ GW := gw_in (tb_0 (List.mem_of_getElem? (i := 12) rfl)) rfl
theorem W_0_13 : Cond.selects yX3_stronglySeesMostOf.cls yX3_stronglySeesMostOf yX3_stronglySeesMostOf ∈ GW := gw_in (tb_0 (List.mem_of_getElem? (i := 13) rfl)) rfl
theorem W_0_14 : Cond.selects yX1_findElectors.cls yX1_findElectors yX1_findElectors ∈ GW := gw_in (tb_0 (List.mem_of_getElem? (i := 14) rfl)) rfl
theorem W_0_15 : Cond.selects yX1_castVote.cls yX1_castVote yX1_castVote ∈ GW := gw_in (tb_0 (List.mem_of_getElem? (i := 15) rfl)) rfl
theorem W_0_16 : Cond.selects yX1_write.cls yX1_write yX1_write ∈ GW := gw_in (tb_0 (List.mem_of_getElem? (i := 16) rfl)) rfl
theorem W_0_17 : Cond.selects yX7_give.cls yX7_give yX7_give ∈ GW := gw_in (tb_0 (List.mem_of_getElem? (i := 17) rfl)) rfl
theorem W_0_18 : Cond.selects yX7_isNode.cls yX7_isNode yX7_isNode ∈ GW := gw_in (tb_0 (List.mem_of_getElem? (i := 18) rfl)) rfl
theorem W_0_19 : Cond.selects yX7_isHeld.cls yX7_isHeld yX7_isHeld ∈ GW := gw_in (tb_0 (List.mem_of_getElem? (i := 19) rfl)) rfl
theorem W_0_20 : Cond.selects yX7_isEvent.cls yX7_isEvent yX7_isEvent ∈ GW := gw_in (tb_0 (List.mem_of_getElem? (i := 20) rfl)) rfl
theorem W_0_21 : Cond.selects yX7_freshView.cls yX7_freshView yX7_freshView ∈ GW := gw_in (tb_0 (List.mem_of_getElem? (i := 21) rfl)) rfl
theorem W_0_22 : Cond.selects yX5_findFame.cls yX5_findFame yX5_findFame ∈ GW := gw_in (tb_0 (List.mem_of_getElem? (i := 22) rfl)) rfl
theorem W_0_23 : Cond.selects yX5_holds.cls yX5_holds yX5_holds ∈ GW := gw_in (tb_0 (List.mem_of_getElem? (i := 23) rfl)) rfl
theorem W_0_24 : Cond.selects yX5_deciderOf.cls yX5_deciderOf yX5_deciderOf ∈ GW := gw_in (tb_0 (List.mem_of_getElem? (i := 24) rfl)) rfl
theorem W_0_25 : Cond.selects yX5_findUniques.cls yX5_findUniques yX5_findUniques ∈ GW := gw_in (tb_0 (List.mem_of_getElem? (i := 25) rfl)) rfl
theorem W_0_26 : Cond.selects yX5_isOnlyFamousOne.cls yX5_isOnlyFamousOne yX5_isOnlyFamousOne ∈ GW := gw_in (tb_0 (List.mem_of_getElem? (i := 26) rfl)) rfl
theorem W_0_27 : Cond.selects yX5_addUnique.cls yX5_addUnique yX5_addUnique ∈ GW := gw_in (tb_0 (List.mem_of_getElem? (i := 27) rfl)) rfl
theorem W_0_28 : Cond.selects yX5_settleRounds.cls yX5_settleRounds yX5_settleRounds ∈ GW := gw_in (tb_0 (List.mem_of_getElem? (i := 28) rfl)) rfl
theorem W_0_29 : Cond.selects yX5_leastOpenRound.cls yX5_leastOpenRound yX5_leastOpenRound ∈ GW := gw_in (tb_0 (List.mem_of_getElem? (i := 29) rfl)) rfl
theorem W_0_30 : Cond.selects yX5_findReceived.cls yX5_findReceived yX5_findReceived ∈ GW := gw_in (tb_0 (List.mem_of_getElem? (i := 30) rfl)) rfl
theorem W_0_31 : Cond.selects yX5_roundReceiving.cls yX5_roundReceiving yX5_roundReceiving ∈ GW := gw_in (tb_0 (List.mem_of_getElem? (i := 31) rfl)) rfl
theorem W_0_32 : Cond.selects yX5_isBelowAllUniques.cls yX5_isBelowAllUniques yX5_isBelowAllUniques ∈ GW := gw_in (tb_0 (List.mem_of_getElem? (i := 32) rfl)) rfl
theorem W_0_33 : Cond.selects yX5_stampIn.cls yX5_stampIn yX5_stampIn ∈ GW := gw_in (tb_0 (List.mem_of_getElem? (i := 33) rfl)) rfl
theorem W_0_34 : Cond.selects yX5_firstAbove.cls yX5_firstAbove yX5_firstAbove ∈ GW := gw_in (tb_0 (List.mem_of_getElem? (i := 34) rfl)) rfl
theorem W_0_35 : Cond.selects yX5_findOrder.cls yX5_findOrder yX5_findOrder ∈ GW := gw_in (tb_0 (List.mem_of_getElem? (i := 35) rfl)) rfl
theorem W_0_36 : Cond.selects yX5_insert.cls yX5_insert yX5_insert ∈ GW := gw_in (tb_0 (List.mem_of_getElem? (i := 36) rfl)) rfl
theorem W_0_37 : Cond.selects yX5_isBefore.cls yX5_isBefore yX5_isBefore ∈ GW := gw_in (tb_0 (List.mem_of_getElem? (i := 37) rfl)) rfl
theorem W_0_38 : Cond.selects yX5_findBalances.cls yX5_findBalances yX5_findBalances ∈ GW := gw_in (tb_0 (List.mem_of_getElem? (i := 38) rfl)) rfl
theorem W_0_39 : Cond.selects yX5_pay.cls yX5_pay yX5_pay ∈ GW := gw_in (tb_0 (List.mem_of_getElem? (i := 39) rfl)) rfl
theorem W_0_40 : Cond.selects yX8_anew.cls yX8_anew yX8_anew ∈ GW := gw_in (tb_0 (List.mem_of_getElem? (i := 40) rfl)) rfl
theorem W_0_41 : Cond.selects yX8_make.cls yX8_make yX8_make ∈ GW := gw_in (tb_0 (List.mem_of_getElem? (i := 41) rfl)) rfl
theorem W_0_42 : Cond.selects yX8_hash.cls yX8_hash yX8_hash ∈ GW := gw_in (tb_0 (List.mem_of_getElem? (i := 42) rfl)) rfl
theorem W_0_43 : Cond.selects yX8_octet.cls yX8_octet yX8_octet ∈ GW := gw_in (tb_0 (List.mem_of_getElem? (i := 43) rfl)) rfl
theorem W_0_44 : Cond.selects yX8_four.cls yX8_four yX8_four ∈ GW := gw_in (tb_0 (List.mem_of_getElem? (i := 44) rfl)) rfl
theorem W_0_45 : Cond.selects yX8_compress.cls yX8_compress yX8_compress ∈ GW := gw_in (tb_0 (List.mem_of_getElem? (i := 45) rfl)) rfl
theorem W_0_46 : Cond.selects yX8_isForked.cls yX8_isForked yX8_isForked ∈ GW := gw_in (tb_0 (List.mem_of_getElem? (i := 46) rfl)) rfl
theorem W_0_47 : Cond.selects yX8_isFork.cls yX8_isFork yX8_isFork ∈ GW := gw_in (tb_0 (List.mem_of_getElem? (i := 47) rfl)) rfl
theorem W_0_48 : Cond.selects yX8_isSelf.cls yX8_isSelf yX8_isSelf ∈ GW := gw_in (tb_0 (List.mem_of_getElem? (i := 48) rfl)) rfl
theorem W_0_49 : Cond.selects yX8_strongly.cls yX8_strongly yX8_strongly ∈ GW := gw_in (tb_0 (List.mem_of_getElem? (i := 49) rfl)) rfl
theorem W_0_50 : Cond.selects yX8_sees.cls yX8_sees yX8_sees ∈ GW := gw_in (tb_0 (List.mem_of_getElem? (i := 50) rfl)) rfl
theorem W_0_51 : Cond.selects yX8_isMost.cls yX8_isMost yX8_isMost ∈ GW := gw_in (tb_0 (List.mem_of_getElem? (i := 51) rfl)) rfl
theorem W_0_52 : Cond.selects yX8_fails.cls yX8_fails yX8_fails ∈ GW := gw_in (tb_0 (List.mem_of_getElem? (i := 52) rfl)) rfl
theorem W_0_53 : Cond.selects yX8_isNode.cls yX8_isNode yX8_isNode ∈ GW := gw_in (tb_0 (List.mem_of_getElem? (i := 53) rfl)) rfl
theorem W_0_54 : Cond.selects yX8_holds.cls yX8_holds yX8_holds ∈ GW := gw_in (tb_0 (List.mem_of_getElem? (i := 54) rfl)) rfl
theorem W_0_55 : Cond.selects yX8_isEvent.cls yX8_isEvent yX8_isEvent ∈ GW := gw_in (tb_0 (List.mem_of_getElem? (i := 55) rfl)) rfl
theorem W_0_56 : Cond.selects yX8_voteOf.cls yX8_voteOf yX8_voteOf ∈ GW := gw_in (tb_0 (List.mem_of_getElem? (i := 56) rfl)) rfl
theorem W_0_57 : Cond.selects yX8_find.cls yX8_find yX8_find ∈ GW := gw_in (tb_0 (List.mem_of_getElem? (i := 57) rfl)) rfl
theorem W_0_58 : Cond.selects yX8_receive.cls yX8_receive yX8_receive ∈ GW := gw_in (tb_0 (List.mem_of_getElem? (i := 58) rfl)) rfl
theorem W_0_59 : Cond.selects yX8_isUnique.cls yX8_isUnique yX8_isUnique ∈ GW := gw_in (tb_0 (List.mem_of_getElem? (i := 59) rfl)) rfl
theorem W_0_60 : Cond.selects yX8_comesBefore.cls yX8_comesBefore yX8_comesBefore ∈ GW := gw_in (tb_0 (List.mem_of_getElem? (i := 60) rfl)) rfl
theorem hinX0 : ∀ w ∈ u_ws RX0 TX0 2, w ∈ GW := by
  intro w hw
  obtain ⟨k, hk, rfl⟩ := List.mem_map.mp hw
  have hk := List.mem_range.mp hk
  match k, hk with
  | 0, _ => exact W_1_90
  | 1, _ => exact W_1_92
  | q + 2, h => exact absurd h (by omega)
theorem hinX1 : ∀ w ∈ u_ws RX1 TX1 8, w ∈ GW := by
  intro w hw
  obtain ⟨k, hk, rfl⟩ := List.mem_map.mp hw
  have hk := List.mem_range.mp hk
  match k, hk with
  | 0, _ => exact W_1_231
  | 1, _ => exact W_1_233
  | 2, _ => exact W_1_235
  | 3, _ => exact W_1_237
  | 4, _ => exact W_1_239
  | 5, _ => exact W_2_1
  | 6, _ => exact W_2_3
  | 7, _ => exact W_2_5
  | q + 8, h => exact absurd h (by omega)
theorem hinX2 : ∀ w ∈ u_ws RX2 TX2 11, w ∈ GW := by
  intro w hw
  obtain ⟨k, hk, rfl⟩ := List.mem_map.mp hw
  have hk := List.mem_range.mp hk
  match k, hk with
  | 0, _ => exact W_1_124
  | 1, _ => exact W_1_126
  | 2, _ => exact W_1_128
  | 3, _ => exact W_1_130
  | 4, _ => exact W_1_132
  | 5, _ => exact W_1_134
  | 6, _ => exact W_1_136
  | 7, _ => exact W_1_138
  | 8, _ => exact W_1_140
  | 9, _ => exact W_1_142
  | 10, _ => exact W_1_144
  | q + 11, h => exact absurd h (by omega)
theorem hinX3 : ∀ w ∈ u_ws RX3 TX3 14, w ∈ GW := by
  intro w hw
  obtain ⟨k, hk, rfl⟩ := List.mem_map.mp hw
  have hk := List.mem_range.mp hk
  match k, hk with
  | 0, _ => exact W_1_183
  | 1, _ => exact W_1_185
  | 2, _ => exact W_1_187
  | 3, _ => exact W_1_189
  | 4, _ => exact W_1_191
  | 5, _ => exact W_1_193
  | 6, _ => exact W_1_195
  | 7, _ => exact W_1_197
  | 8, _ => exact W_1_199
  | 9, _ => exact W_1_201
  | 10, _ => exact W_1_203
  | 11, _ => exact W_1_205
  | 12, _ => exact W_1_207
  | 13, _ => exact W_1_209
  | q + 14, h => exact absurd h (by omega)
theorem hinX4 : ∀ w ∈ u_ws RX4 TX4 4, w ∈ GW := by
  intro w hw
  obtain ⟨k, hk, rfl⟩ := List.mem_map.mp hw
  have hk := List.mem_range.mp hk
  match k, hk with
  | 0, _ => exact W_1_73
  | 1, _ => exact W_1_75
  | 2, _ => exact W_1_77
  | 3, _ => exact W_1_79
  | q + 4, h => exact absurd h (by omega)
theorem hinX5 : ∀ w ∈ u_ws RX5 TX5 18, w ∈ GW := by
  intro w hw
  obtain ⟨k, hk, rfl⟩ := List.mem_map.mp hw
  have hk := List.mem_range.mp hk
  match k, hk with
  | 0, _ => exact W_2_42
  | 1, _ => exact W_2_44
  | 2, _ => exact W_2_46
  | 3, _ => exact W_2_48
  | 4, _ => exact W_2_50
  | 5, _ => exact W_2_52
  | 6, _ => exact W_2_54
  | 7, _ => exact W_2_56
  | 8, _ => exact W_2_58
  | 9, _ => exact W_2_60
  | 10, _ => exact W_2_62
  | 11, _ => exact W_2_64
  | 12, _ => exact W_2_66
  | 13, _ => exact W_2_68
  | 14, _ => exact W_2_70
  | 15, _ => exact W_2_72
  | 16, _ => exact W_2_74
  | 17, _ => exact W_2_76
  | q + 18, h => exact absurd h (by omega)
theorem hinX6 : ∀ w ∈ u_ws RX6 TX6 3, w ∈ GW := by
  intro w hw
  obtain ⟨k, hk, rfl⟩ := List.mem_map.mp hw
  have hk := List.mem_range.mp hk
  match k, hk with
  | 0, _ => exact W_1_49
  | 1, _ => exact W_1_51
  | 2, _ => exact W_1_53
  | q + 3, h => exact absurd h (by omega)
theorem hinX7 : ∀ w ∈ u_ws RX7 TX7 7, w ∈ GW := by
  intro w hw
  obtain ⟨k, hk, rfl⟩ := List.mem_map.mp hw
  have hk := List.mem_range.mp hk
  match k, hk with
  | 0, _ => exact W_4_164
  | 1, _ => exact W_4_166
  | 2, _ => exact W_4_168
  | 3, _ => exact W_4_170
  | 4, _ => exact W_4_172
  | 5, _ => exact W_4_174
  | 6, _ => exact W_4_176
  | q + 7, h => exact absurd h (by omega)
theorem hinX8 : ∀ w ∈ u_ws RX8 TX8 39, w ∈ GW := by
  intro w hw
  obtain ⟨k, hk, rfl⟩ := List.mem_map.mp hw
  have hk := List.mem_range.mp hk
  match k, hk with
  | 0, _ => exact W_6_165
  | 1, _ => exact W_6_167
  | 2, _ => exact W_6_169
  | 3, _ => exact W_6_171
  | 4, _ => exact W_6_173
  | 5, _ => exact W_6_175
  | 6, _ => exact W_6_177
  | 7, _ => exact W_6_179
  | 8, _ => exact W_6_181
  | 9, _ => exact W_6_183
  | 10, _ => exact W_6_185
  | 11, _ => exact W_6_187
  | 12, _ => exact W_6_189
  | 13, _ => exact W_6_191
  | 14, _ => exact W_6_193
  | 15, _ => exact W_6_195
  | 16, _ => exact W_6_197
  | 17, _ => exact W_6_199
  | 18, _ => exact W_6_201
  | 19, _ => exact W_6_203
  | 20, _ => exact W_6_205
  | 21, _ => exact W_6_207
  | 22, _ => exact W_6_209
  | 23, _ => exact W_6_211
  | 24, _ => exact W_6_213
  | 25, _ => exact W_6_215
  | 26, _ => exact W_6_217
  | 27, _ => exact W_6_219
  | 28, _ => exact W_6_221
  | 29, _ => exact W_6_223
  | 30, _ => exact W_6_225
  | 31, _ => exact W_6_227
  | 32, _ => exact W_6_229
  | 33, _ => exact W_6_231
  | 34, _ => exact W_6_233
  | 35, _ => exact W_6_235
  | 36, _ => exact W_6_237
  | 37, _ => exact W_6_239
  | 38, _ => exact W_7_1
  | q + 39, h => exact absurd h (by omega)
