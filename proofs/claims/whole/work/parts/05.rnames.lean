/-! the reference: names, words, decode rows, by program -/
abbrev b_R_thrown : ByteArray := prog_14_method_2_code
abbrev y_R_thrown : MethodName := ({ cls := "NovaDeskModel", name := "thrown", desc := "()I" } : Jvm.MethodName)
abbrev b_R_fails : ByteArray := prog_14_method_3_code
abbrev y_R_fails : MethodName := ({ cls := "NovaDeskModel", name := "fails", desc := "(ZI)Z" } : Jvm.MethodName)
abbrev b_R_within : ByteArray := prog_14_method_4_code
abbrev y_R_within : MethodName := ({ cls := "NovaDeskModel", name := "within", desc := "(III)Z" } : Jvm.MethodName)
abbrev b_R_put : ByteArray := prog_14_method_5_code
abbrev y_R_put : MethodName := ({ cls := "NovaDeskModel", name := "put", desc := "(II)I" } : Jvm.MethodName)
abbrev b_R_word : ByteArray := prog_14_method_6_code
abbrev y_R_word : MethodName := ({ cls := "NovaDeskModel", name := "word", desc := "(I)I" } : Jvm.MethodName)
abbrev b_R_registerOf : ByteArray := prog_14_method_7_code
abbrev y_R_registerOf : MethodName := ({ cls := "NovaDeskModel", name := "registerOf", desc := "(I)I" } : Jvm.MethodName)
abbrev b_R_set : ByteArray := prog_14_method_8_code
abbrev y_R_set : MethodName := ({ cls := "NovaDeskModel", name := "set", desc := "(II)I" } : Jvm.MethodName)
abbrev b_R_register : ByteArray := prog_14_method_9_code
abbrev y_R_register : MethodName := ({ cls := "NovaDeskModel", name := "register", desc := "(I)I" } : Jvm.MethodName)
abbrev b_R_device : ByteArray := prog_14_method_10_code
abbrev y_R_device : MethodName := ({ cls := "NovaDeskModel", name := "device", desc := "(II)I" } : Jvm.MethodName)
abbrev b_R_tape : ByteArray := prog_14_method_11_code
abbrev y_R_tape : MethodName := ({ cls := "NovaDeskModel", name := "tape", desc := "(I)I" } : Jvm.MethodName)
abbrev b_R_printed : ByteArray := prog_14_method_12_code
abbrev y_R_printed : MethodName := ({ cls := "NovaDeskModel", name := "printed", desc := "(I)I" } : Jvm.MethodName)
abbrev b_R_tear : ByteArray := prog_14_method_13_code
abbrev y_R_tear : MethodName := ({ cls := "NovaDeskModel", name := "tear", desc := "()I" } : Jvm.MethodName)
abbrev b_R_reset : ByteArray := prog_14_method_14_code
abbrev y_R_reset : MethodName := ({ cls := "NovaDeskModel", name := "reset", desc := "()V" } : Jvm.MethodName)
abbrev b_R_chase : ByteArray := prog_14_method_15_code
abbrev y_R_chase : MethodName := ({ cls := "NovaDeskModel", name := "chase", desc := "(I)I" } : Jvm.MethodName)
abbrev b_R_addressOf : ByteArray := prog_14_method_16_code
abbrev y_R_addressOf : MethodName := ({ cls := "NovaDeskModel", name := "addressOf", desc := "(I)I" } : Jvm.MethodName)
abbrev b_R_asks : ByteArray := prog_14_method_17_code
abbrev y_R_asks : MethodName := ({ cls := "NovaDeskModel", name := "asks", desc := "(I)Z" } : Jvm.MethodName)
abbrev b_R_asking : ByteArray := prog_14_method_18_code
abbrev y_R_asking : MethodName := ({ cls := "NovaDeskModel", name := "asking", desc := "()I" } : Jvm.MethodName)
abbrev b_R_reckons : ByteArray := prog_14_method_19_code
abbrev y_R_reckons : MethodName := ({ cls := "NovaDeskModel", name := "reckons", desc := "(I)Z" } : Jvm.MethodName)
abbrev b_R_machine : ByteArray := prog_14_method_20_code
abbrev y_R_machine : MethodName := ({ cls := "NovaDeskModel", name := "machine", desc := "(II)Z" } : Jvm.MethodName)
abbrev b_R_devices : ByteArray := prog_14_method_21_code
abbrev y_R_devices : MethodName := ({ cls := "NovaDeskModel", name := "devices", desc := "(I)Z" } : Jvm.MethodName)
abbrev b_R_tick : ByteArray := prog_14_method_22_code
abbrev y_R_tick : MethodName := ({ cls := "NovaDeskModel", name := "tick", desc := "()V" } : Jvm.MethodName)
abbrev b_R_step : ByteArray := prog_14_method_23_code
abbrev y_R_step : MethodName := ({ cls := "NovaDeskModel", name := "step", desc := "()Z" } : Jvm.MethodName)
abbrev b_R_run : ByteArray := prog_14_method_24_code
abbrev y_R_run : MethodName := ({ cls := "NovaDeskModel", name := "run", desc := "(I)I" } : Jvm.MethodName)
abbrev b_R_why : ByteArray := prog_14_method_25_code
abbrev y_R_why : MethodName := ({ cls := "NovaDeskModel", name := "why", desc := "()I" } : Jvm.MethodName)
abbrev b_R_feed : ByteArray := prog_14_method_26_code
abbrev y_R_feed : MethodName := ({ cls := "NovaDeskModel", name := "feed", desc := "(IIIII)I" } : Jvm.MethodName)
abbrev b_R_end : ByteArray := prog_14_method_27_code
abbrev y_R_end : MethodName := ({ cls := "NovaDeskModel", name := "end", desc := "(I)V" } : Jvm.MethodName)
abbrev b_R_stop : ByteArray := prog_14_method_28_code
abbrev y_R_stop : MethodName := ({ cls := "NovaDeskModel", name := "stop", desc := "(I)Z" } : Jvm.MethodName)
abbrev b_R_isLetter : ByteArray := prog_14_method_29_code
abbrev y_R_isLetter : MethodName := ({ cls := "NovaDeskModel", name := "isLetter", desc := "(I)Z" } : Jvm.MethodName)
abbrev b_R_isDigit : ByteArray := prog_14_method_30_code
abbrev y_R_isDigit : MethodName := ({ cls := "NovaDeskModel", name := "isDigit", desc := "(I)Z" } : Jvm.MethodName)
abbrev b_R_next : ByteArray := prog_14_method_31_code
abbrev y_R_next : MethodName := ({ cls := "NovaDeskModel", name := "next", desc := "()Z" } : Jvm.MethodName)
abbrev b_R_isSign : ByteArray := prog_14_method_32_code
abbrev y_R_isSign : MethodName := ({ cls := "NovaDeskModel", name := "isSign", desc := "(I)Z" } : Jvm.MethodName)
abbrev b_R_sizeOf : ByteArray := prog_14_method_33_code
abbrev y_R_sizeOf : MethodName := ({ cls := "NovaDeskModel", name := "sizeOf", desc := "(J)I" } : Jvm.MethodName)
abbrev b_R_front : ByteArray := prog_14_method_34_code
abbrev y_R_front : MethodName := ({ cls := "NovaDeskModel", name := "front", desc := "(JI)J" } : Jvm.MethodName)
abbrev b_R_letter : ByteArray := prog_14_method_35_code
abbrev y_R_letter : MethodName := ({ cls := "NovaDeskModel", name := "letter", desc := "(JI)I" } : Jvm.MethodName)
abbrev b_R_among : ByteArray := prog_14_method_36_code
abbrev y_R_among : MethodName := ({ cls := "NovaDeskModel", name := "among", desc := "(JJJJJ)I" } : Jvm.MethodName)
abbrev b_R_functionOf : ByteArray := prog_14_method_37_code
abbrev y_R_functionOf : MethodName := ({ cls := "NovaDeskModel", name := "functionOf", desc := "(J)I" } : Jvm.MethodName)
abbrev b_R_whatOf : ByteArray := prog_14_method_38_code
abbrev y_R_whatOf : MethodName := ({ cls := "NovaDeskModel", name := "whatOf", desc := "(J)I" } : Jvm.MethodName)
abbrev b_R_suffix : ByteArray := prog_14_method_39_code
abbrev y_R_suffix : MethodName := ({ cls := "NovaDeskModel", name := "suffix", desc := "(IIII)I" } : Jvm.MethodName)
abbrev b_R_suffixed : ByteArray := prog_14_method_43_code
abbrev y_R_suffixed : MethodName := ({ cls := "NovaDeskModel", name := "suffixed", desc := "(JI)V" } : Jvm.MethodName)
abbrev b_R_single : ByteArray := prog_14_method_41_code
abbrev y_R_single : MethodName := ({ cls := "NovaDeskModel", name := "single", desc := "(II)V" } : Jvm.MethodName)
abbrev b_R_special : ByteArray := prog_14_method_42_code
abbrev y_R_special : MethodName := ({ cls := "NovaDeskModel", name := "special", desc := "(J)V" } : Jvm.MethodName)
abbrev b_R_classify : ByteArray := prog_14_method_40_code
abbrev y_R_classify : MethodName := ({ cls := "NovaDeskModel", name := "classify", desc := "(J)V" } : Jvm.MethodName)
abbrev b_R_fixed : ByteArray := prog_14_method_44_code
abbrev y_R_fixed : MethodName := ({ cls := "NovaDeskModel", name := "fixed", desc := "(J)I" } : Jvm.MethodName)
abbrev b_R_labelOf : ByteArray := prog_14_method_45_code
abbrev y_R_labelOf : MethodName := ({ cls := "NovaDeskModel", name := "labelOf", desc := "(J)I" } : Jvm.MethodName)
abbrev b_R_numberOf : ByteArray := prog_14_method_46_code
abbrev y_R_numberOf : MethodName := ({ cls := "NovaDeskModel", name := "numberOf", desc := "(J)I" } : Jvm.MethodName)
abbrev b_R_term : ByteArray := prog_14_method_47_code
abbrev y_R_term : MethodName := ({ cls := "NovaDeskModel", name := "term", desc := "()I" } : Jvm.MethodName)
abbrev b_R_expression : ByteArray := prog_14_method_48_code
abbrev y_R_expression : MethodName := ({ cls := "NovaDeskModel", name := "expression", desc := "()I" } : Jvm.MethodName)
abbrev b_R_comma : ByteArray := prog_14_method_49_code
abbrev y_R_comma : MethodName := ({ cls := "NovaDeskModel", name := "comma", desc := "()V" } : Jvm.MethodName)
abbrev b_R_bounded : ByteArray := prog_14_method_50_code
abbrev y_R_bounded : MethodName := ({ cls := "NovaDeskModel", name := "bounded", desc := "(I)I" } : Jvm.MethodName)
abbrev b_R_address : ByteArray := prog_14_method_51_code
abbrev y_R_address : MethodName := ({ cls := "NovaDeskModel", name := "address", desc := "()I" } : Jvm.MethodName)
abbrev b_R_statement : ByteArray := prog_14_method_52_code
abbrev y_R_statement : MethodName := ({ cls := "NovaDeskModel", name := "statement", desc := "()I" } : Jvm.MethodName)
abbrev b_R_finish : ByteArray := prog_14_method_53_code
abbrev y_R_finish : MethodName := ({ cls := "NovaDeskModel", name := "finish", desc := "()V" } : Jvm.MethodName)
abbrev b_R_addLabel : ByteArray := prog_14_method_54_code
abbrev y_R_addLabel : MethodName := ({ cls := "NovaDeskModel", name := "addLabel", desc := "(J)V" } : Jvm.MethodName)
abbrev b_R_moves : ByteArray := prog_14_method_55_code
abbrev y_R_moves : MethodName := ({ cls := "NovaDeskModel", name := "moves", desc := "()V" } : Jvm.MethodName)
abbrev b_R_goOn : ByteArray := prog_14_method_56_code
abbrev y_R_goOn : MethodName := ({ cls := "NovaDeskModel", name := "goOn", desc := "()V" } : Jvm.MethodName)
abbrev b_R_keep : ByteArray := prog_14_method_59_code
abbrev y_R_keep : MethodName := ({ cls := "NovaDeskModel", name := "keep", desc := "(I)V" } : Jvm.MethodName)
abbrev b_R_begin : ByteArray := prog_14_method_58_code
abbrev y_R_begin : MethodName := ({ cls := "NovaDeskModel", name := "begin", desc := "(JIZ)V" } : Jvm.MethodName)
abbrev b_R_goThrough : ByteArray := prog_14_method_57_code
abbrev y_R_goThrough : MethodName := ({ cls := "NovaDeskModel", name := "goThrough", desc := "(Z)V" } : Jvm.MethodName)
abbrev b_R_pass : ByteArray := prog_14_method_60_code
abbrev y_R_pass : MethodName := ({ cls := "NovaDeskModel", name := "pass", desc := "(Z)V" } : Jvm.MethodName)
abbrev b_R_assemble : ByteArray := prog_14_method_61_code
abbrev y_R_assemble : MethodName := ({ cls := "NovaDeskModel", name := "assemble", desc := "()I" } : Jvm.MethodName)
abbrev b_R_fault : ByteArray := prog_14_method_62_code
abbrev y_R_fault : MethodName := ({ cls := "NovaDeskModel", name := "fault", desc := "(I)I" } : Jvm.MethodName)
abbrev b_R_label : ByteArray := prog_14_method_63_code
abbrev y_R_label : MethodName := ({ cls := "NovaDeskModel", name := "label", desc := "(II)I" } : Jvm.MethodName)
abbrev b_R_say : ByteArray := prog_14_method_64_code
abbrev y_R_say : MethodName := ({ cls := "NovaDeskModel", name := "say", desc := "(I)V" } : Jvm.MethodName)
abbrev b_R_sayName : ByteArray := prog_14_method_65_code
abbrev y_R_sayName : MethodName := ({ cls := "NovaDeskModel", name := "sayName", desc := "(J)V" } : Jvm.MethodName)
abbrev b_R_octal : ByteArray := prog_14_method_66_code
abbrev y_R_octal : MethodName := ({ cls := "NovaDeskModel", name := "octal", desc := "(I)V" } : Jvm.MethodName)
abbrev b_R_sayAddress : ByteArray := prog_14_method_67_code
abbrev y_R_sayAddress : MethodName := ({ cls := "NovaDeskModel", name := "sayAddress", desc := "(I)V" } : Jvm.MethodName)
abbrev b_R_functionName : ByteArray := prog_14_method_68_code
abbrev y_R_functionName : MethodName := ({ cls := "NovaDeskModel", name := "functionName", desc := "(I)J" } : Jvm.MethodName)
abbrev b_R_skipName : ByteArray := prog_14_method_69_code
abbrev y_R_skipName : MethodName := ({ cls := "NovaDeskModel", name := "skipName", desc := "(I)J" } : Jvm.MethodName)
abbrev b_R_sayReckoning : ByteArray := prog_14_method_70_code
abbrev y_R_sayReckoning : MethodName := ({ cls := "NovaDeskModel", name := "sayReckoning", desc := "(I)V" } : Jvm.MethodName)
abbrev b_R_sayMachine : ByteArray := prog_14_method_71_code
abbrev y_R_sayMachine : MethodName := ({ cls := "NovaDeskModel", name := "sayMachine", desc := "(I)Z" } : Jvm.MethodName)
abbrev b_R_sayDevice : ByteArray := prog_14_method_72_code
abbrev y_R_sayDevice : MethodName := ({ cls := "NovaDeskModel", name := "sayDevice", desc := "(I)V" } : Jvm.MethodName)
abbrev b_R_tell : ByteArray := prog_14_method_73_code
abbrev y_R_tell : MethodName := ({ cls := "NovaDeskModel", name := "tell", desc := "(I)I" } : Jvm.MethodName)
abbrev b_R_told : ByteArray := prog_14_method_74_code
abbrev y_R_told : MethodName := ({ cls := "NovaDeskModel", name := "told", desc := "(I)I" } : Jvm.MethodName)
theorem kw_1115 : (Jvm.Cond.fieldLink "NovaDeskModel" (68 : Nat) "NovaDeskModel" "thrown" "I") ∈ GW := gw_t (gt_5 (List.mem_of_getElem? (i := 155) rfl)) rfl
theorem kw_1228 : (Jvm.Cond.methodLink "NovaDeskModel" (77 : Nat) ({ cls := "NovaDeskModel", name := "fails", desc := "(ZI)Z" } : Jvm.MethodName)) ∈ GW := gw_t (gt_6 (List.mem_of_getElem? (i := 28) rfl)) rfl
theorem kw_1231 : (Jvm.Cond.code ({ cls := "NovaDeskModel", name := "fails", desc := "(ZI)Z" } : Jvm.MethodName) prog_14_method_3_code (3 : Nat) (Option.some Jvm.ClassFile.FieldType.boolean)) ∈ GW := gw_t (gt_6 (List.mem_of_getElem? (i := 31) rfl)) rfl
theorem kw_1230 : (Jvm.Cond.instanceMethod ({ cls := "NovaDeskModel", name := "fails", desc := "(ZI)Z" } : Jvm.MethodName)) ∈ GW := gw_t (gt_6 (List.mem_of_getElem? (i := 30) rfl)) rfl
theorem kp_50 : (Jvm.Cond.selects "NovaDeskModel" ({ cls := "NovaDeskModel", name := "fails", desc := "(ZI)Z" } : Jvm.MethodName) ({ cls := "NovaDeskModel", name := "fails", desc := "(ZI)Z" } : Jvm.MethodName)) ∈ GW := gw_p (List.mem_of_getElem? (i := 50) rfl) rfl
theorem kw_11 : (Jvm.Cond.initialized "NovaDeskModel") ∈ GW := gw_t (gt_1 (List.mem_of_getElem? (i := 11) rfl)) rfl
theorem kw_1067 : (Jvm.Cond.fieldLink "NovaDeskModel" (8 : Nat) "NovaDeskModel" "memory" "[I") ∈ GW := gw_t (gt_5 (List.mem_of_getElem? (i := 107) rfl)) rfl
theorem kw_1224 : (Jvm.Cond.methodLink "NovaDeskModel" (72 : Nat) ({ cls := "NovaDeskModel", name := "within", desc := "(III)Z" } : Jvm.MethodName)) ∈ GW := gw_t (gt_6 (List.mem_of_getElem? (i := 24) rfl)) rfl
theorem kw_1226 : (Jvm.Cond.code ({ cls := "NovaDeskModel", name := "within", desc := "(III)Z" } : Jvm.MethodName) prog_14_method_4_code (3 : Nat) (Option.some Jvm.ClassFile.FieldType.boolean)) ∈ GW := gw_t (gt_6 (List.mem_of_getElem? (i := 26) rfl)) rfl
theorem kw_1225 : (Jvm.Cond.static ({ cls := "NovaDeskModel", name := "within", desc := "(III)Z" } : Jvm.MethodName)) ∈ GW := gw_t (gt_6 (List.mem_of_getElem? (i := 25) rfl)) rfl
theorem kw_1227 : (Jvm.Cond.constant "NovaDeskModel" (76 : Nat) (65535 : Int32)) ∈ GW := gw_t (gt_6 (List.mem_of_getElem? (i := 27) rfl)) rfl
theorem kw_1071 : (Jvm.Cond.fieldLink "NovaDeskModel" (87 : Nat) "NovaDeskModel" "switches" "I") ∈ GW := gw_t (gt_5 (List.mem_of_getElem? (i := 111) rfl)) rfl
theorem kw_1070 : (Jvm.Cond.fieldLink "NovaDeskModel" (84 : Nat) "NovaDeskModel" "pc" "I") ∈ GW := gw_t (gt_5 (List.mem_of_getElem? (i := 110) rfl)) rfl
theorem kw_1069 : (Jvm.Cond.fieldLink "NovaDeskModel" (81 : Nat) "NovaDeskModel" "carry" "I") ∈ GW := gw_t (gt_5 (List.mem_of_getElem? (i := 109) rfl)) rfl
theorem kw_1068 : (Jvm.Cond.fieldLink "NovaDeskModel" (14 : Nat) "NovaDeskModel" "accumulators" "[I") ∈ GW := gw_t (gt_5 (List.mem_of_getElem? (i := 108) rfl)) rfl
theorem kw_1240 : (Jvm.Cond.methodLink "NovaDeskModel" (90 : Nat) ({ cls := "NovaDeskModel", name := "registerOf", desc := "(I)I" } : Jvm.MethodName)) ∈ GW := gw_t (gt_6 (List.mem_of_getElem? (i := 40) rfl)) rfl
theorem kw_1243 : (Jvm.Cond.code ({ cls := "NovaDeskModel", name := "registerOf", desc := "(I)I" } : Jvm.MethodName) prog_14_method_7_code (2 : Nat) (Option.some Jvm.ClassFile.FieldType.int)) ∈ GW := gw_t (gt_6 (List.mem_of_getElem? (i := 43) rfl)) rfl
theorem kw_1242 : (Jvm.Cond.instanceMethod ({ cls := "NovaDeskModel", name := "registerOf", desc := "(I)I" } : Jvm.MethodName)) ∈ GW := gw_t (gt_6 (List.mem_of_getElem? (i := 42) rfl)) rfl
theorem kp_51 : (Jvm.Cond.selects "NovaDeskModel" ({ cls := "NovaDeskModel", name := "registerOf", desc := "(I)I" } : Jvm.MethodName) ({ cls := "NovaDeskModel", name := "registerOf", desc := "(I)I" } : Jvm.MethodName)) ∈ GW := gw_p (List.mem_of_getElem? (i := 51) rfl) rfl
theorem kw_1076 : (Jvm.Cond.fieldLink "NovaDeskModel" (104 : Nat) "NovaDeskModel" "interrupts" "I") ∈ GW := gw_t (gt_5 (List.mem_of_getElem? (i := 116) rfl)) rfl
theorem kw_1075 : (Jvm.Cond.fieldLink "NovaDeskModel" (101 : Nat) "NovaDeskModel" "done" "I") ∈ GW := gw_t (gt_5 (List.mem_of_getElem? (i := 115) rfl)) rfl
theorem kw_1074 : (Jvm.Cond.fieldLink "NovaDeskModel" (98 : Nat) "NovaDeskModel" "mask" "I") ∈ GW := gw_t (gt_5 (List.mem_of_getElem? (i := 114) rfl)) rfl
theorem kw_1072 : (Jvm.Cond.fieldLink "NovaDeskModel" (94 : Nat) "NovaDeskModel" "ion" "Z") ∈ GW := gw_t (gt_5 (List.mem_of_getElem? (i := 112) rfl)) rfl
theorem kw_1080 : (Jvm.Cond.fieldLink "NovaDeskModel" (24 : Nat) "NovaDeskModel" "ready" "[Z") ∈ GW := gw_t (gt_5 (List.mem_of_getElem? (i := 120) rfl)) rfl
theorem kw_1079 : (Jvm.Cond.fieldLink "NovaDeskModel" (20 : Nat) "NovaDeskModel" "busy" "[Z") ∈ GW := gw_t (gt_5 (List.mem_of_getElem? (i := 119) rfl)) rfl
theorem kw_1078 : (Jvm.Cond.fieldLink "NovaDeskModel" (17 : Nat) "NovaDeskModel" "words" "[I") ∈ GW := gw_t (gt_5 (List.mem_of_getElem? (i := 118) rfl)) rfl
theorem kw_1082 : (Jvm.Cond.fieldLink "NovaDeskModel" (30 : Nat) "NovaDeskModel" "reel" "[I") ∈ GW := gw_t (gt_5 (List.mem_of_getElem? (i := 122) rfl)) rfl
theorem kw_1083 : (Jvm.Cond.fieldLink "NovaDeskModel" (107 : Nat) "NovaDeskModel" "reelSize" "I") ∈ GW := gw_t (gt_5 (List.mem_of_getElem? (i := 123) rfl)) rfl
theorem kw_1085 : (Jvm.Cond.fieldLink "NovaDeskModel" (110 : Nat) "NovaDeskModel" "sheetSize" "I") ∈ GW := gw_t (gt_5 (List.mem_of_getElem? (i := 125) rfl)) rfl
theorem kw_1084 : (Jvm.Cond.fieldLink "NovaDeskModel" (33 : Nat) "NovaDeskModel" "sheet" "[I") ∈ GW := gw_t (gt_5 (List.mem_of_getElem? (i := 124) rfl)) rfl
theorem kw_1086 : (Jvm.Cond.fieldLink "NovaDeskModel" (116 : Nat) "NovaDeskModel" "why" "I") ∈ GW := gw_t (gt_5 (List.mem_of_getElem? (i := 126) rfl)) rfl
theorem kw_1088 : (Jvm.Cond.fieldLink "NovaDeskModel" (119 : Nat) "NovaDeskModel" "length" "I") ∈ GW := gw_t (gt_5 (List.mem_of_getElem? (i := 128) rfl)) rfl
theorem kw_1089 : (Jvm.Cond.fieldLink "NovaDeskModel" (122 : Nat) "NovaDeskModel" "fault" "I") ∈ GW := gw_t (gt_5 (List.mem_of_getElem? (i := 129) rfl)) rfl
theorem kw_1090 : (Jvm.Cond.fieldLink "NovaDeskModel" (125 : Nat) "NovaDeskModel" "faultLine" "I") ∈ GW := gw_t (gt_5 (List.mem_of_getElem? (i := 130) rfl)) rfl
theorem kw_1097 : (Jvm.Cond.fieldLink "NovaDeskModel" (128 : Nat) "NovaDeskModel" "keptCount" "I") ∈ GW := gw_t (gt_5 (List.mem_of_getElem? (i := 137) rfl)) rfl
theorem kw_1114 : (Jvm.Cond.fieldLink "NovaDeskModel" (131 : Nat) "NovaDeskModel" "toldSize" "I") ∈ GW := gw_t (gt_5 (List.mem_of_getElem? (i := 154) rfl)) rfl
theorem kw_1081 : (Jvm.Cond.fieldLink "NovaDeskModel" (27 : Nat) "NovaDeskModel" "ticks" "[I") ∈ GW := gw_t (gt_5 (List.mem_of_getElem? (i := 121) rfl)) rfl
theorem kw_1073 : (Jvm.Cond.fieldLink "NovaDeskModel" (113 : Nat) "NovaDeskModel" "justIon" "Z") ∈ GW := gw_t (gt_5 (List.mem_of_getElem? (i := 113) rfl)) rfl
theorem kw_1066 : (Jvm.Cond.constant "NovaDeskModel" (7 : Nat) (32768 : Int32)) ∈ GW := gw_t (gt_5 (List.mem_of_getElem? (i := 106) rfl)) rfl
theorem kw_1288 : (Jvm.Cond.constant "NovaDeskModel" (134 : Nat) (65536 : Int32)) ∈ GW := gw_t (gt_6 (List.mem_of_getElem? (i := 88) rfl)) rfl
theorem kw_1077 : (Jvm.Cond.fieldLink "NovaDeskModel" (135 : Nat) "NovaDeskModel" "lost" "Z") ∈ GW := gw_t (gt_5 (List.mem_of_getElem? (i := 117) rfl)) rfl
theorem kw_1284 : (Jvm.Cond.methodLink "NovaDeskModel" (139 : Nat) ({ cls := "NovaDeskModel", name := "chase", desc := "(I)I" } : Jvm.MethodName)) ∈ GW := gw_t (gt_6 (List.mem_of_getElem? (i := 84) rfl)) rfl
theorem kw_1287 : (Jvm.Cond.code ({ cls := "NovaDeskModel", name := "chase", desc := "(I)I" } : Jvm.MethodName) prog_14_method_15_code (5 : Nat) (Option.some Jvm.ClassFile.FieldType.int)) ∈ GW := gw_t (gt_6 (List.mem_of_getElem? (i := 87) rfl)) rfl
theorem kw_1286 : (Jvm.Cond.instanceMethod ({ cls := "NovaDeskModel", name := "chase", desc := "(I)I" } : Jvm.MethodName)) ∈ GW := gw_t (gt_6 (List.mem_of_getElem? (i := 86) rfl)) rfl
theorem kp_55 : (Jvm.Cond.selects "NovaDeskModel" ({ cls := "NovaDeskModel", name := "chase", desc := "(I)I" } : Jvm.MethodName) ({ cls := "NovaDeskModel", name := "chase", desc := "(I)I" } : Jvm.MethodName)) ∈ GW := gw_p (List.mem_of_getElem? (i := 55) rfl) rfl
theorem kw_1305 : (Jvm.Cond.constant "NovaDeskModel" (138 : Nat) (65280 : Int32)) ∈ GW := gw_t (gt_6 (List.mem_of_getElem? (i := 105) rfl)) rfl
theorem kw_1280 : (Jvm.Cond.methodLink "NovaDeskModel" (142 : Nat) ({ cls := "NovaDeskModel", name := "asks", desc := "(I)Z" } : Jvm.MethodName)) ∈ GW := gw_t (gt_6 (List.mem_of_getElem? (i := 80) rfl)) rfl
theorem kw_1283 : (Jvm.Cond.code ({ cls := "NovaDeskModel", name := "asks", desc := "(I)Z" } : Jvm.MethodName) prog_14_method_17_code (3 : Nat) (Option.some Jvm.ClassFile.FieldType.boolean)) ∈ GW := gw_t (gt_6 (List.mem_of_getElem? (i := 83) rfl)) rfl
theorem kw_1282 : (Jvm.Cond.instanceMethod ({ cls := "NovaDeskModel", name := "asks", desc := "(I)Z" } : Jvm.MethodName)) ∈ GW := gw_t (gt_6 (List.mem_of_getElem? (i := 82) rfl)) rfl
theorem kp_54 : (Jvm.Cond.selects "NovaDeskModel" ({ cls := "NovaDeskModel", name := "asks", desc := "(I)Z" } : Jvm.MethodName) ({ cls := "NovaDeskModel", name := "asks", desc := "(I)Z" } : Jvm.MethodName)) ∈ GW := gw_p (List.mem_of_getElem? (i := 54) rfl) rfl
theorem kw_1276 : (Jvm.Cond.methodLink "NovaDeskModel" (146 : Nat) ({ cls := "NovaDeskModel", name := "asking", desc := "()I" } : Jvm.MethodName)) ∈ GW := gw_t (gt_6 (List.mem_of_getElem? (i := 76) rfl)) rfl
theorem kw_1279 : (Jvm.Cond.code ({ cls := "NovaDeskModel", name := "asking", desc := "()I" } : Jvm.MethodName) prog_14_method_18_code (2 : Nat) (Option.some Jvm.ClassFile.FieldType.int)) ∈ GW := gw_t (gt_6 (List.mem_of_getElem? (i := 79) rfl)) rfl
theorem kw_1278 : (Jvm.Cond.instanceMethod ({ cls := "NovaDeskModel", name := "asking", desc := "()I" } : Jvm.MethodName)) ∈ GW := gw_t (gt_6 (List.mem_of_getElem? (i := 78) rfl)) rfl
theorem kp_53 : (Jvm.Cond.selects "NovaDeskModel" ({ cls := "NovaDeskModel", name := "asking", desc := "()I" } : Jvm.MethodName) ({ cls := "NovaDeskModel", name := "asking", desc := "()I" } : Jvm.MethodName)) ∈ GW := gw_p (List.mem_of_getElem? (i := 53) rfl) rfl
theorem kw_1297 : (Jvm.Cond.methodLink "NovaDeskModel" (150 : Nat) ({ cls := "NovaDeskModel", name := "machine", desc := "(II)Z" } : Jvm.MethodName)) ∈ GW := gw_t (gt_6 (List.mem_of_getElem? (i := 97) rfl)) rfl
theorem kw_1300 : (Jvm.Cond.code ({ cls := "NovaDeskModel", name := "machine", desc := "(II)Z" } : Jvm.MethodName) prog_14_method_20_code (5 : Nat) (Option.some Jvm.ClassFile.FieldType.boolean)) ∈ GW := gw_t (gt_6 (List.mem_of_getElem? (i := 100) rfl)) rfl
theorem kw_1299 : (Jvm.Cond.instanceMethod ({ cls := "NovaDeskModel", name := "machine", desc := "(II)Z" } : Jvm.MethodName)) ∈ GW := gw_t (gt_6 (List.mem_of_getElem? (i := 99) rfl)) rfl
theorem kp_58 : (Jvm.Cond.selects "NovaDeskModel" ({ cls := "NovaDeskModel", name := "machine", desc := "(II)Z" } : Jvm.MethodName) ({ cls := "NovaDeskModel", name := "machine", desc := "(II)Z" } : Jvm.MethodName)) ∈ GW := gw_p (List.mem_of_getElem? (i := 58) rfl) rfl
theorem kw_1306 : (Jvm.Cond.methodLink "NovaDeskModel" (163 : Nat) ({ cls := "NovaDeskModel", name := "tick", desc := "()V" } : Jvm.MethodName)) ∈ GW := gw_t (gt_6 (List.mem_of_getElem? (i := 106) rfl)) rfl
theorem kw_1309 : (Jvm.Cond.code ({ cls := "NovaDeskModel", name := "tick", desc := "()V" } : Jvm.MethodName) prog_14_method_22_code (3 : Nat) (Option.none : Option Jvm.ClassFile.FieldType)) ∈ GW := gw_t (gt_6 (List.mem_of_getElem? (i := 109) rfl)) rfl
theorem kw_1308 : (Jvm.Cond.instanceMethod ({ cls := "NovaDeskModel", name := "tick", desc := "()V" } : Jvm.MethodName)) ∈ GW := gw_t (gt_6 (List.mem_of_getElem? (i := 108) rfl)) rfl
theorem kp_60 : (Jvm.Cond.selects "NovaDeskModel" ({ cls := "NovaDeskModel", name := "tick", desc := "()V" } : Jvm.MethodName) ({ cls := "NovaDeskModel", name := "tick", desc := "()V" } : Jvm.MethodName)) ∈ GW := gw_p (List.mem_of_getElem? (i := 60) rfl) rfl
theorem kw_1301 : (Jvm.Cond.methodLink "NovaDeskModel" (160 : Nat) ({ cls := "NovaDeskModel", name := "addressOf", desc := "(I)I" } : Jvm.MethodName)) ∈ GW := gw_t (gt_6 (List.mem_of_getElem? (i := 101) rfl)) rfl
theorem kw_1304 : (Jvm.Cond.code ({ cls := "NovaDeskModel", name := "addressOf", desc := "(I)I" } : Jvm.MethodName) prog_14_method_16_code (6 : Nat) (Option.some Jvm.ClassFile.FieldType.int)) ∈ GW := gw_t (gt_6 (List.mem_of_getElem? (i := 104) rfl)) rfl
theorem kw_1303 : (Jvm.Cond.instanceMethod ({ cls := "NovaDeskModel", name := "addressOf", desc := "(I)I" } : Jvm.MethodName)) ∈ GW := gw_t (gt_6 (List.mem_of_getElem? (i := 103) rfl)) rfl
theorem kp_59 : (Jvm.Cond.selects "NovaDeskModel" ({ cls := "NovaDeskModel", name := "addressOf", desc := "(I)I" } : Jvm.MethodName) ({ cls := "NovaDeskModel", name := "addressOf", desc := "(I)I" } : Jvm.MethodName)) ∈ GW := gw_p (List.mem_of_getElem? (i := 59) rfl) rfl
theorem kw_1293 : (Jvm.Cond.methodLink "NovaDeskModel" (157 : Nat) ({ cls := "NovaDeskModel", name := "devices", desc := "(I)Z" } : Jvm.MethodName)) ∈ GW := gw_t (gt_6 (List.mem_of_getElem? (i := 93) rfl)) rfl
theorem kw_1296 : (Jvm.Cond.code ({ cls := "NovaDeskModel", name := "devices", desc := "(I)Z" } : Jvm.MethodName) prog_14_method_21_code (8 : Nat) (Option.some Jvm.ClassFile.FieldType.boolean)) ∈ GW := gw_t (gt_6 (List.mem_of_getElem? (i := 96) rfl)) rfl
theorem kw_1295 : (Jvm.Cond.instanceMethod ({ cls := "NovaDeskModel", name := "devices", desc := "(I)Z" } : Jvm.MethodName)) ∈ GW := gw_t (gt_6 (List.mem_of_getElem? (i := 95) rfl)) rfl
theorem kp_57 : (Jvm.Cond.selects "NovaDeskModel" ({ cls := "NovaDeskModel", name := "devices", desc := "(I)Z" } : Jvm.MethodName) ({ cls := "NovaDeskModel", name := "devices", desc := "(I)Z" } : Jvm.MethodName)) ∈ GW := gw_p (List.mem_of_getElem? (i := 57) rfl) rfl
theorem kw_1289 : (Jvm.Cond.methodLink "NovaDeskModel" (154 : Nat) ({ cls := "NovaDeskModel", name := "reckons", desc := "(I)Z" } : Jvm.MethodName)) ∈ GW := gw_t (gt_6 (List.mem_of_getElem? (i := 89) rfl)) rfl
theorem kw_1292 : (Jvm.Cond.code ({ cls := "NovaDeskModel", name := "reckons", desc := "(I)Z" } : Jvm.MethodName) prog_14_method_19_code (10 : Nat) (Option.some Jvm.ClassFile.FieldType.boolean)) ∈ GW := gw_t (gt_6 (List.mem_of_getElem? (i := 92) rfl)) rfl
theorem kw_1291 : (Jvm.Cond.instanceMethod ({ cls := "NovaDeskModel", name := "reckons", desc := "(I)Z" } : Jvm.MethodName)) ∈ GW := gw_t (gt_6 (List.mem_of_getElem? (i := 91) rfl)) rfl
theorem kp_56 : (Jvm.Cond.selects "NovaDeskModel" ({ cls := "NovaDeskModel", name := "reckons", desc := "(I)Z" } : Jvm.MethodName) ({ cls := "NovaDeskModel", name := "reckons", desc := "(I)Z" } : Jvm.MethodName)) ∈ GW := gw_p (List.mem_of_getElem? (i := 56) rfl) rfl
theorem kw_1272 : (Jvm.Cond.methodLink "NovaDeskModel" (166 : Nat) ({ cls := "NovaDeskModel", name := "step", desc := "()Z" } : Jvm.MethodName)) ∈ GW := gw_t (gt_6 (List.mem_of_getElem? (i := 72) rfl)) rfl
theorem kw_1275 : (Jvm.Cond.code ({ cls := "NovaDeskModel", name := "step", desc := "()Z" } : Jvm.MethodName) prog_14_method_23_code (8 : Nat) (Option.some Jvm.ClassFile.FieldType.boolean)) ∈ GW := gw_t (gt_6 (List.mem_of_getElem? (i := 75) rfl)) rfl
theorem kw_1274 : (Jvm.Cond.instanceMethod ({ cls := "NovaDeskModel", name := "step", desc := "()Z" } : Jvm.MethodName)) ∈ GW := gw_t (gt_6 (List.mem_of_getElem? (i := 74) rfl)) rfl
theorem kp_52 : (Jvm.Cond.selects "NovaDeskModel" ({ cls := "NovaDeskModel", name := "step", desc := "()Z" } : Jvm.MethodName) ({ cls := "NovaDeskModel", name := "step", desc := "()Z" } : Jvm.MethodName)) ∈ GW := gw_p (List.mem_of_getElem? (i := 52) rfl) rfl
theorem kw_1087 : (Jvm.Cond.fieldLink "NovaDeskModel" (36 : Nat) "NovaDeskModel" "text" "[B") ∈ GW := gw_t (gt_5 (List.mem_of_getElem? (i := 127) rfl)) rfl
theorem kw_1091 : (Jvm.Cond.fieldLink "NovaDeskModel" (170 : Nat) "NovaDeskModel" "line" "I") ∈ GW := gw_t (gt_5 (List.mem_of_getElem? (i := 131) rfl)) rfl
theorem kw_1344 : (Jvm.Cond.methodLink "NovaDeskModel" (191 : Nat) ({ cls := "NovaDeskModel", name := "stop", desc := "(I)Z" } : Jvm.MethodName)) ∈ GW := gw_t (gt_6 (List.mem_of_getElem? (i := 144) rfl)) rfl
theorem kw_1347 : (Jvm.Cond.code ({ cls := "NovaDeskModel", name := "stop", desc := "(I)Z" } : Jvm.MethodName) prog_14_method_28_code (2 : Nat) (Option.some Jvm.ClassFile.FieldType.boolean)) ∈ GW := gw_t (gt_6 (List.mem_of_getElem? (i := 147) rfl)) rfl
theorem kw_1346 : (Jvm.Cond.instanceMethod ({ cls := "NovaDeskModel", name := "stop", desc := "(I)Z" } : Jvm.MethodName)) ∈ GW := gw_t (gt_6 (List.mem_of_getElem? (i := 146) rfl)) rfl
theorem kp_64 : (Jvm.Cond.selects "NovaDeskModel" ({ cls := "NovaDeskModel", name := "stop", desc := "(I)Z" } : Jvm.MethodName) ({ cls := "NovaDeskModel", name := "stop", desc := "(I)Z" } : Jvm.MethodName)) ∈ GW := gw_p (List.mem_of_getElem? (i := 64) rfl) rfl
theorem kw_1104 : (Jvm.Cond.fieldLink "NovaDeskModel" (179 : Nat) "NovaDeskModel" "kind" "I") ∈ GW := gw_t (gt_5 (List.mem_of_getElem? (i := 144) rfl)) rfl
theorem kw_1105 : (Jvm.Cond.fieldLink "NovaDeskModel" (188 : Nat) "NovaDeskModel" "value" "I") ∈ GW := gw_t (gt_5 (List.mem_of_getElem? (i := 145) rfl)) rfl
theorem kw_1102 : (Jvm.Cond.fieldLink "NovaDeskModel" (173 : Nat) "NovaDeskModel" "at" "I") ∈ GW := gw_t (gt_5 (List.mem_of_getElem? (i := 142) rfl)) rfl
theorem kw_1106 : (Jvm.Cond.fieldLink "NovaDeskModel" (194 : Nat) "NovaDeskModel" "name" "J") ∈ GW := gw_t (gt_5 (List.mem_of_getElem? (i := 146) rfl)) rfl
theorem kw_1103 : (Jvm.Cond.fieldLink "NovaDeskModel" (176 : Nat) "NovaDeskModel" "lineEnd" "I") ∈ GW := gw_t (gt_5 (List.mem_of_getElem? (i := 143) rfl)) rfl
theorem kw_1338 : (Jvm.Cond.methodLink "NovaDeskModel" (182 : Nat) ({ cls := "NovaDeskModel", name := "isLetter", desc := "(I)Z" } : Jvm.MethodName)) ∈ GW := gw_t (gt_6 (List.mem_of_getElem? (i := 138) rfl)) rfl
theorem kw_1340 : (Jvm.Cond.code ({ cls := "NovaDeskModel", name := "isLetter", desc := "(I)Z" } : Jvm.MethodName) prog_14_method_29_code (1 : Nat) (Option.some Jvm.ClassFile.FieldType.boolean)) ∈ GW := gw_t (gt_6 (List.mem_of_getElem? (i := 140) rfl)) rfl
theorem kw_1339 : (Jvm.Cond.static ({ cls := "NovaDeskModel", name := "isLetter", desc := "(I)Z" } : Jvm.MethodName)) ∈ GW := gw_t (gt_6 (List.mem_of_getElem? (i := 139) rfl)) rfl
theorem kw_1341 : (Jvm.Cond.methodLink "NovaDeskModel" (185 : Nat) ({ cls := "NovaDeskModel", name := "isDigit", desc := "(I)Z" } : Jvm.MethodName)) ∈ GW := gw_t (gt_6 (List.mem_of_getElem? (i := 141) rfl)) rfl
theorem kw_1343 : (Jvm.Cond.code ({ cls := "NovaDeskModel", name := "isDigit", desc := "(I)Z" } : Jvm.MethodName) prog_14_method_30_code (1 : Nat) (Option.some Jvm.ClassFile.FieldType.boolean)) ∈ GW := gw_t (gt_6 (List.mem_of_getElem? (i := 143) rfl)) rfl
theorem kw_1342 : (Jvm.Cond.static ({ cls := "NovaDeskModel", name := "isDigit", desc := "(I)Z" } : Jvm.MethodName)) ∈ GW := gw_t (gt_6 (List.mem_of_getElem? (i := 142) rfl)) rfl
theorem kw_1360 : (Jvm.Cond.methodLink "NovaDeskModel" (198 : Nat) ({ cls := "NovaDeskModel", name := "sizeOf", desc := "(J)I" } : Jvm.MethodName)) ∈ GW := gw_t (gt_6 (List.mem_of_getElem? (i := 160) rfl)) rfl
theorem kw_1362 : (Jvm.Cond.code ({ cls := "NovaDeskModel", name := "sizeOf", desc := "(J)I" } : Jvm.MethodName) prog_14_method_33_code (5 : Nat) (Option.some Jvm.ClassFile.FieldType.int)) ∈ GW := gw_t (gt_6 (List.mem_of_getElem? (i := 162) rfl)) rfl
theorem kw_1361 : (Jvm.Cond.static ({ cls := "NovaDeskModel", name := "sizeOf", desc := "(J)I" } : Jvm.MethodName)) ∈ GW := gw_t (gt_6 (List.mem_of_getElem? (i := 161) rfl)) rfl
theorem kw_1384 : (Jvm.Cond.constantLong "NovaDeskModel" (202 : Nat) (4411213 : Int64)) ∈ GW := gw_t (gt_6 (List.mem_of_getElem? (i := 184) rfl)) rfl
theorem kw_1385 : (Jvm.Cond.constantLong "NovaDeskModel" (204 : Nat) (5129543 : Int64)) ∈ GW := gw_t (gt_6 (List.mem_of_getElem? (i := 185) rfl)) rfl
theorem kw_1386 : (Jvm.Cond.constantLong "NovaDeskModel" (206 : Nat) (5066582 : Int64)) ∈ GW := gw_t (gt_6 (List.mem_of_getElem? (i := 186) rfl)) rfl
theorem kw_1387 : (Jvm.Cond.constantLong "NovaDeskModel" (208 : Nat) (4804163 : Int64)) ∈ GW := gw_t (gt_6 (List.mem_of_getElem? (i := 187) rfl)) rfl
theorem kw_1369 : (Jvm.Cond.methodLink "NovaDeskModel" (210 : Nat) ({ cls := "NovaDeskModel", name := "among", desc := "(JJJJJ)I" } : Jvm.MethodName)) ∈ GW := gw_t (gt_6 (List.mem_of_getElem? (i := 169) rfl)) rfl
theorem kw_1371 : (Jvm.Cond.code ({ cls := "NovaDeskModel", name := "among", desc := "(JJJJJ)I" } : Jvm.MethodName) prog_14_method_36_code (10 : Nat) (Option.some Jvm.ClassFile.FieldType.int)) ∈ GW := gw_t (gt_6 (List.mem_of_getElem? (i := 171) rfl)) rfl
theorem kw_1370 : (Jvm.Cond.static ({ cls := "NovaDeskModel", name := "among", desc := "(JJJJJ)I" } : Jvm.MethodName)) ∈ GW := gw_t (gt_6 (List.mem_of_getElem? (i := 170) rfl)) rfl
theorem kw_1388 : (Jvm.Cond.constantLong "NovaDeskModel" (214 : Nat) (4277315 : Int64)) ∈ GW := gw_t (gt_6 (List.mem_of_getElem? (i := 188) rfl)) rfl
theorem kw_1389 : (Jvm.Cond.constantLong "NovaDeskModel" (216 : Nat) (5461314 : Int64)) ∈ GW := gw_t (gt_6 (List.mem_of_getElem? (i := 189) rfl)) rfl
theorem kw_1390 : (Jvm.Cond.constantLong "NovaDeskModel" (218 : Nat) (4277316 : Int64)) ∈ GW := gw_t (gt_6 (List.mem_of_getElem? (i := 190) rfl)) rfl
theorem kw_1391 : (Jvm.Cond.constantLong "NovaDeskModel" (220 : Nat) (4279876 : Int64)) ∈ GW := gw_t (gt_6 (List.mem_of_getElem? (i := 191) rfl)) rfl
theorem kw_1402 : (Jvm.Cond.constantLong "NovaDeskModel" (222 : Nat) (4475201 : Int64)) ∈ GW := gw_t (gt_6 (List.mem_of_getElem? (i := 202) rfl)) rfl
theorem kw_1403 : (Jvm.Cond.constantLong "NovaDeskModel" (224 : Nat) (4476737 : Int64)) ∈ GW := gw_t (gt_6 (List.mem_of_getElem? (i := 203) rfl)) rfl
theorem kw_1404 : (Jvm.Cond.constantLong "NovaDeskModel" (226 : Nat) (4475202 : Int64)) ∈ GW := gw_t (gt_6 (List.mem_of_getElem? (i := 204) rfl)) rfl
theorem kw_1405 : (Jvm.Cond.constantLong "NovaDeskModel" (228 : Nat) (4476738 : Int64)) ∈ GW := gw_t (gt_6 (List.mem_of_getElem? (i := 205) rfl)) rfl
theorem kw_1406 : (Jvm.Cond.constantLong "NovaDeskModel" (230 : Nat) (4475203 : Int64)) ∈ GW := gw_t (gt_6 (List.mem_of_getElem? (i := 206) rfl)) rfl
theorem kw_1407 : (Jvm.Cond.constantLong "NovaDeskModel" (232 : Nat) (4476739 : Int64)) ∈ GW := gw_t (gt_6 (List.mem_of_getElem? (i := 207) rfl)) rfl
theorem kw_1111 : (Jvm.Cond.fieldLink "NovaDeskModel" (234 : Nat) "NovaDeskModel" "sort" "I") ∈ GW := gw_t (gt_5 (List.mem_of_getElem? (i := 151) rfl)) rfl
theorem kw_1112 : (Jvm.Cond.fieldLink "NovaDeskModel" (237 : Nat) "NovaDeskModel" "base" "I") ∈ GW := gw_t (gt_5 (List.mem_of_getElem? (i := 152) rfl)) rfl
theorem kw_1392 : (Jvm.Cond.methodLink "NovaDeskModel" (297 : Nat) ({ cls := "NovaDeskModel", name := "letter", desc := "(JI)I" } : Jvm.MethodName)) ∈ GW := gw_t (gt_6 (List.mem_of_getElem? (i := 192) rfl)) rfl
theorem kw_1394 : (Jvm.Cond.code ({ cls := "NovaDeskModel", name := "letter", desc := "(JI)I" } : Jvm.MethodName) prog_14_method_35_code (3 : Nat) (Option.some Jvm.ClassFile.FieldType.int)) ∈ GW := gw_t (gt_6 (List.mem_of_getElem? (i := 194) rfl)) rfl
theorem kw_1393 : (Jvm.Cond.static ({ cls := "NovaDeskModel", name := "letter", desc := "(JI)I" } : Jvm.MethodName)) ∈ GW := gw_t (gt_6 (List.mem_of_getElem? (i := 193) rfl)) rfl
theorem kw_1395 : (Jvm.Cond.methodLink "NovaDeskModel" (301 : Nat) ({ cls := "NovaDeskModel", name := "suffix", desc := "(IIII)I" } : Jvm.MethodName)) ∈ GW := gw_t (gt_6 (List.mem_of_getElem? (i := 195) rfl)) rfl
theorem kw_1397 : (Jvm.Cond.code ({ cls := "NovaDeskModel", name := "suffix", desc := "(IIII)I" } : Jvm.MethodName) prog_14_method_39_code (4 : Nat) (Option.some Jvm.ClassFile.FieldType.int)) ∈ GW := gw_t (gt_6 (List.mem_of_getElem? (i := 197) rfl)) rfl
theorem kw_1396 : (Jvm.Cond.static ({ cls := "NovaDeskModel", name := "suffix", desc := "(IIII)I" } : Jvm.MethodName)) ∈ GW := gw_t (gt_6 (List.mem_of_getElem? (i := 196) rfl)) rfl
theorem kw_1378 : (Jvm.Cond.methodLink "NovaDeskModel" (290 : Nat) ({ cls := "NovaDeskModel", name := "front", desc := "(JI)J" } : Jvm.MethodName)) ∈ GW := gw_t (gt_6 (List.mem_of_getElem? (i := 178) rfl)) rfl
theorem kw_1380 : (Jvm.Cond.code ({ cls := "NovaDeskModel", name := "front", desc := "(JI)J" } : Jvm.MethodName) prog_14_method_34_code (3 : Nat) (Option.some Jvm.ClassFile.FieldType.long)) ∈ GW := gw_t (gt_6 (List.mem_of_getElem? (i := 180) rfl)) rfl
theorem kw_1379 : (Jvm.Cond.static ({ cls := "NovaDeskModel", name := "front", desc := "(JI)J" } : Jvm.MethodName)) ∈ GW := gw_t (gt_6 (List.mem_of_getElem? (i := 179) rfl)) rfl
theorem kw_1381 : (Jvm.Cond.methodLink "NovaDeskModel" (294 : Nat) ({ cls := "NovaDeskModel", name := "functionOf", desc := "(J)I" } : Jvm.MethodName)) ∈ GW := gw_t (gt_6 (List.mem_of_getElem? (i := 181) rfl)) rfl
theorem kw_1383 : (Jvm.Cond.code ({ cls := "NovaDeskModel", name := "functionOf", desc := "(J)I" } : Jvm.MethodName) prog_14_method_37_code (4 : Nat) (Option.some Jvm.ClassFile.FieldType.int)) ∈ GW := gw_t (gt_6 (List.mem_of_getElem? (i := 183) rfl)) rfl
theorem kw_1382 : (Jvm.Cond.static ({ cls := "NovaDeskModel", name := "functionOf", desc := "(J)I" } : Jvm.MethodName)) ∈ GW := gw_t (gt_6 (List.mem_of_getElem? (i := 182) rfl)) rfl
theorem kw_1398 : (Jvm.Cond.constantLong "NovaDeskModel" (305 : Nat) (5130575 : Int64)) ∈ GW := gw_t (gt_6 (List.mem_of_getElem? (i := 198) rfl)) rfl
theorem kw_1399 : (Jvm.Cond.methodLink "NovaDeskModel" (307 : Nat) ({ cls := "NovaDeskModel", name := "whatOf", desc := "(J)I" } : Jvm.MethodName)) ∈ GW := gw_t (gt_6 (List.mem_of_getElem? (i := 199) rfl)) rfl
theorem kw_1401 : (Jvm.Cond.code ({ cls := "NovaDeskModel", name := "whatOf", desc := "(J)I" } : Jvm.MethodName) prog_14_method_38_code (3 : Nat) (Option.some Jvm.ClassFile.FieldType.int)) ∈ GW := gw_t (gt_6 (List.mem_of_getElem? (i := 201) rfl)) rfl
theorem kw_1400 : (Jvm.Cond.static ({ cls := "NovaDeskModel", name := "whatOf", desc := "(J)I" } : Jvm.MethodName)) ∈ GW := gw_t (gt_6 (List.mem_of_getElem? (i := 200) rfl)) rfl
theorem kw_1420 : (Jvm.Cond.constantLong "NovaDeskModel" (282 : Nat) (357745836622 : Int64)) ∈ GW := gw_t (gt_6 (List.mem_of_getElem? (i := 220) rfl)) rfl
theorem kw_1421 : (Jvm.Cond.constantLong "NovaDeskModel" (284 : Nat) (357745836634 : Int64)) ∈ GW := gw_t (gt_6 (List.mem_of_getElem? (i := 221) rfl)) rfl
theorem kw_1422 : (Jvm.Cond.constantLong "NovaDeskModel" (286 : Nat) (357745837134 : Int64)) ∈ GW := gw_t (gt_6 (List.mem_of_getElem? (i := 222) rfl)) rfl
theorem kw_1423 : (Jvm.Cond.constantLong "NovaDeskModel" (288 : Nat) (357745837146 : Int64)) ∈ GW := gw_t (gt_6 (List.mem_of_getElem? (i := 223) rfl)) rfl
theorem kw_1419 : (Jvm.Cond.constantLong "NovaDeskModel" (280 : Nat) (353349223507 : Int64)) ∈ GW := gw_t (gt_6 (List.mem_of_getElem? (i := 219) rfl)) rfl
theorem kw_1413 : (Jvm.Cond.methodLink "NovaDeskModel" (266 : Nat) ({ cls := "NovaDeskModel", name := "single", desc := "(II)V" } : Jvm.MethodName)) ∈ GW := gw_t (gt_6 (List.mem_of_getElem? (i := 213) rfl)) rfl
theorem kw_1416 : (Jvm.Cond.code ({ cls := "NovaDeskModel", name := "single", desc := "(II)V" } : Jvm.MethodName) prog_14_method_41_code (3 : Nat) (Option.none : Option Jvm.ClassFile.FieldType)) ∈ GW := gw_t (gt_6 (List.mem_of_getElem? (i := 216) rfl)) rfl
theorem kw_1415 : (Jvm.Cond.instanceMethod ({ cls := "NovaDeskModel", name := "single", desc := "(II)V" } : Jvm.MethodName)) ∈ GW := gw_t (gt_6 (List.mem_of_getElem? (i := 215) rfl)) rfl
theorem kp_70 : (Jvm.Cond.selects "NovaDeskModel" ({ cls := "NovaDeskModel", name := "single", desc := "(II)V" } : Jvm.MethodName) ({ cls := "NovaDeskModel", name := "single", desc := "(II)V" } : Jvm.MethodName)) ∈ GW := gw_p (List.mem_of_getElem? (i := 70) rfl) rfl
theorem kw_1418 : (Jvm.Cond.constantLong "NovaDeskModel" (278 : Nat) (314863407956 : Int64)) ∈ GW := gw_t (gt_6 (List.mem_of_getElem? (i := 218) rfl)) rfl
theorem kw_1417 : (Jvm.Cond.constantLong "NovaDeskModel" (276 : Nat) (314846757971 : Int64)) ∈ GW := gw_t (gt_6 (List.mem_of_getElem? (i := 217) rfl)) rfl
theorem kw_1412 : (Jvm.Cond.constantLong "NovaDeskModel" (274 : Nat) (314846758222 : Int64)) ∈ GW := gw_t (gt_6 (List.mem_of_getElem? (i := 212) rfl)) rfl
theorem kw_1426 : (Jvm.Cond.constantLong "NovaDeskModel" (272 : Nat) (1297304399 : Int64)) ∈ GW := gw_t (gt_6 (List.mem_of_getElem? (i := 226) rfl)) rfl
theorem kw_1425 : (Jvm.Cond.constantLong "NovaDeskModel" (270 : Nat) (1229870145 : Int64)) ∈ GW := gw_t (gt_6 (List.mem_of_getElem? (i := 225) rfl)) rfl
theorem kw_1424 : (Jvm.Cond.constantLong "NovaDeskModel" (264 : Nat) (1212238932 : Int64)) ∈ GW := gw_t (gt_6 (List.mem_of_getElem? (i := 224) rfl)) rfl
theorem kw_1408 : (Jvm.Cond.methodLink "NovaDeskModel" (260 : Nat) ({ cls := "NovaDeskModel", name := "special", desc := "(J)V" } : Jvm.MethodName)) ∈ GW := gw_t (gt_6 (List.mem_of_getElem? (i := 208) rfl)) rfl
theorem kw_1411 : (Jvm.Cond.code ({ cls := "NovaDeskModel", name := "special", desc := "(J)V" } : Jvm.MethodName) prog_14_method_42_code (4 : Nat) (Option.none : Option Jvm.ClassFile.FieldType)) ∈ GW := gw_t (gt_6 (List.mem_of_getElem? (i := 211) rfl)) rfl
theorem kw_1410 : (Jvm.Cond.instanceMethod ({ cls := "NovaDeskModel", name := "special", desc := "(J)V" } : Jvm.MethodName)) ∈ GW := gw_t (gt_6 (List.mem_of_getElem? (i := 210) rfl)) rfl
theorem kp_69 : (Jvm.Cond.selects "NovaDeskModel" ({ cls := "NovaDeskModel", name := "special", desc := "(J)V" } : Jvm.MethodName) ({ cls := "NovaDeskModel", name := "special", desc := "(J)V" } : Jvm.MethodName)) ∈ GW := gw_p (List.mem_of_getElem? (i := 69) rfl) rfl
theorem kw_1374 : (Jvm.Cond.methodLink "NovaDeskModel" (256 : Nat) ({ cls := "NovaDeskModel", name := "suffixed", desc := "(JI)V" } : Jvm.MethodName)) ∈ GW := gw_t (gt_6 (List.mem_of_getElem? (i := 174) rfl)) rfl
theorem kw_1377 : (Jvm.Cond.code ({ cls := "NovaDeskModel", name := "suffixed", desc := "(JI)V" } : Jvm.MethodName) prog_14_method_43_code (10 : Nat) (Option.none : Option Jvm.ClassFile.FieldType)) ∈ GW := gw_t (gt_6 (List.mem_of_getElem? (i := 177) rfl)) rfl
theorem kw_1376 : (Jvm.Cond.instanceMethod ({ cls := "NovaDeskModel", name := "suffixed", desc := "(JI)V" } : Jvm.MethodName)) ∈ GW := gw_t (gt_6 (List.mem_of_getElem? (i := 176) rfl)) rfl
theorem kp_68 : (Jvm.Cond.selects "NovaDeskModel" ({ cls := "NovaDeskModel", name := "suffixed", desc := "(JI)V" } : Jvm.MethodName) ({ cls := "NovaDeskModel", name := "suffixed", desc := "(JI)V" } : Jvm.MethodName)) ∈ GW := gw_p (List.mem_of_getElem? (i := 68) rfl) rfl
theorem kw_1372 : (Jvm.Cond.constantLong "NovaDeskModel" (252 : Nat) (4998209 : Int64)) ∈ GW := gw_t (gt_6 (List.mem_of_getElem? (i := 172) rfl)) rfl
theorem kw_1373 : (Jvm.Cond.constantLong "NovaDeskModel" (254 : Nat) (5461057 : Int64)) ∈ GW := gw_t (gt_6 (List.mem_of_getElem? (i := 173) rfl)) rfl
theorem kw_1365 : (Jvm.Cond.constantLong "NovaDeskModel" (244 : Nat) (4869456 : Int64)) ∈ GW := gw_t (gt_6 (List.mem_of_getElem? (i := 165) rfl)) rfl
theorem kw_1366 : (Jvm.Cond.constantLong "NovaDeskModel" (246 : Nat) (4870994 : Int64)) ∈ GW := gw_t (gt_6 (List.mem_of_getElem? (i := 166) rfl)) rfl
theorem kw_1367 : (Jvm.Cond.constantLong "NovaDeskModel" (248 : Nat) (4805466 : Int64)) ∈ GW := gw_t (gt_6 (List.mem_of_getElem? (i := 167) rfl)) rfl
theorem kw_1368 : (Jvm.Cond.constantLong "NovaDeskModel" (250 : Nat) (4477786 : Int64)) ∈ GW := gw_t (gt_6 (List.mem_of_getElem? (i := 168) rfl)) rfl
theorem kw_1364 : (Jvm.Cond.constantLong "NovaDeskModel" (242 : Nat) (776096843 : Int64)) ∈ GW := gw_t (gt_6 (List.mem_of_getElem? (i := 164) rfl)) rfl
theorem kw_1363 : (Jvm.Cond.constantLong "NovaDeskModel" (240 : Nat) (776752963 : Int64)) ∈ GW := gw_t (gt_6 (List.mem_of_getElem? (i := 163) rfl)) rfl
theorem kw_1451 : (Jvm.Cond.constantLong "NovaDeskModel" (310 : Nat) (5526601 : Int64)) ∈ GW := gw_t (gt_7 (List.mem_of_getElem? (i := 11) rfl)) rfl
theorem kw_1452 : (Jvm.Cond.constantLong "NovaDeskModel" (312 : Nat) (5526607 : Int64)) ∈ GW := gw_t (gt_7 (List.mem_of_getElem? (i := 12) rfl)) rfl
theorem kw_1453 : (Jvm.Cond.constantLong "NovaDeskModel" (314 : Nat) (5395523 : Int64)) ∈ GW := gw_t (gt_7 (List.mem_of_getElem? (i := 13) rfl)) rfl
theorem kw_1454 : (Jvm.Cond.constantLong "NovaDeskModel" (316 : Nat) (4411477 : Int64)) ∈ GW := gw_t (gt_7 (List.mem_of_getElem? (i := 14) rfl)) rfl
theorem kw_1455 : (Jvm.Cond.constantLong "NovaDeskModel" (318 : Nat) (5458768 : Int64)) ∈ GW := gw_t (gt_7 (List.mem_of_getElem? (i := 15) rfl)) rfl
theorem kw_1456 : (Jvm.Cond.constantLong "NovaDeskModel" (320 : Nat) (5462595 : Int64)) ∈ GW := gw_t (gt_7 (List.mem_of_getElem? (i := 16) rfl)) rfl
theorem kw_1457 : (Jvm.Cond.constantLong "NovaDeskModel" (322 : Nat) (5459523 : Int64)) ∈ GW := gw_t (gt_7 (List.mem_of_getElem? (i := 17) rfl)) rfl
theorem kw_1458 : (Jvm.Cond.constantLong "NovaDeskModel" (324 : Nat) (5462610 : Int64)) ∈ GW := gw_t (gt_7 (List.mem_of_getElem? (i := 18) rfl)) rfl
theorem kw_1459 : (Jvm.Cond.constantLong "NovaDeskModel" (326 : Nat) (5459538 : Int64)) ∈ GW := gw_t (gt_7 (List.mem_of_getElem? (i := 19) rfl)) rfl
theorem kw_1460 : (Jvm.Cond.constantLong "NovaDeskModel" (328 : Nat) (5457242 : Int64)) ∈ GW := gw_t (gt_7 (List.mem_of_getElem? (i := 20) rfl)) rfl
theorem kw_1461 : (Jvm.Cond.constantLong "NovaDeskModel" (330 : Nat) (5456462 : Int64)) ∈ GW := gw_t (gt_7 (List.mem_of_getElem? (i := 21) rfl)) rfl
theorem kw_1094 : (Jvm.Cond.fieldLink "NovaDeskModel" (332 : Nat) "NovaDeskModel" "labelCount" "I") ∈ GW := gw_t (gt_5 (List.mem_of_getElem? (i := 134) rfl)) rfl
theorem kw_1092 : (Jvm.Cond.fieldLink "NovaDeskModel" (40 : Nat) "NovaDeskModel" "labels" "[J") ∈ GW := gw_t (gt_5 (List.mem_of_getElem? (i := 132) rfl)) rfl
theorem kw_1447 : (Jvm.Cond.constantLong "NovaDeskModel" (335 : Nat) (46 : Int64)) ∈ GW := gw_t (gt_7 (List.mem_of_getElem? (i := 7) rfl)) rfl
theorem kw_1448 : (Jvm.Cond.methodLink "NovaDeskModel" (340 : Nat) ({ cls := "NovaDeskModel", name := "fixed", desc := "(J)I" } : Jvm.MethodName)) ∈ GW := gw_t (gt_7 (List.mem_of_getElem? (i := 8) rfl)) rfl
theorem kw_1450 : (Jvm.Cond.code ({ cls := "NovaDeskModel", name := "fixed", desc := "(J)I" } : Jvm.MethodName) prog_14_method_44_code (5 : Nat) (Option.some Jvm.ClassFile.FieldType.int)) ∈ GW := gw_t (gt_7 (List.mem_of_getElem? (i := 10) rfl)) rfl
theorem kw_1449 : (Jvm.Cond.static ({ cls := "NovaDeskModel", name := "fixed", desc := "(J)I" } : Jvm.MethodName)) ∈ GW := gw_t (gt_7 (List.mem_of_getElem? (i := 9) rfl)) rfl
theorem kw_1462 : (Jvm.Cond.methodLink "NovaDeskModel" (343 : Nat) ({ cls := "NovaDeskModel", name := "labelOf", desc := "(J)I" } : Jvm.MethodName)) ∈ GW := gw_t (gt_7 (List.mem_of_getElem? (i := 22) rfl)) rfl
theorem kw_1465 : (Jvm.Cond.code ({ cls := "NovaDeskModel", name := "labelOf", desc := "(J)I" } : Jvm.MethodName) prog_14_method_45_code (4 : Nat) (Option.some Jvm.ClassFile.FieldType.int)) ∈ GW := gw_t (gt_7 (List.mem_of_getElem? (i := 25) rfl)) rfl
theorem kw_1464 : (Jvm.Cond.instanceMethod ({ cls := "NovaDeskModel", name := "labelOf", desc := "(J)I" } : Jvm.MethodName)) ∈ GW := gw_t (gt_7 (List.mem_of_getElem? (i := 24) rfl)) rfl
theorem kp_76 : (Jvm.Cond.selects "NovaDeskModel" ({ cls := "NovaDeskModel", name := "labelOf", desc := "(J)I" } : Jvm.MethodName) ({ cls := "NovaDeskModel", name := "labelOf", desc := "(J)I" } : Jvm.MethodName)) ∈ GW := gw_p (List.mem_of_getElem? (i := 76) rfl) rfl
theorem kw_1093 : (Jvm.Cond.fieldLink "NovaDeskModel" (44 : Nat) "NovaDeskModel" "places" "[I") ∈ GW := gw_t (gt_5 (List.mem_of_getElem? (i := 133) rfl)) rfl
theorem kw_1101 : (Jvm.Cond.fieldLink "NovaDeskModel" (337 : Nat) "NovaDeskModel" "here" "I") ∈ GW := gw_t (gt_5 (List.mem_of_getElem? (i := 141) rfl)) rfl
theorem kw_1334 : (Jvm.Cond.methodLink "NovaDeskModel" (349 : Nat) ({ cls := "NovaDeskModel", name := "next", desc := "()Z" } : Jvm.MethodName)) ∈ GW := gw_t (gt_6 (List.mem_of_getElem? (i := 134) rfl)) rfl
theorem kw_1337 : (Jvm.Cond.code ({ cls := "NovaDeskModel", name := "next", desc := "()Z" } : Jvm.MethodName) prog_14_method_31_code (4 : Nat) (Option.some Jvm.ClassFile.FieldType.boolean)) ∈ GW := gw_t (gt_6 (List.mem_of_getElem? (i := 137) rfl)) rfl
theorem kw_1336 : (Jvm.Cond.instanceMethod ({ cls := "NovaDeskModel", name := "next", desc := "()Z" } : Jvm.MethodName)) ∈ GW := gw_t (gt_6 (List.mem_of_getElem? (i := 136) rfl)) rfl
theorem kp_63 : (Jvm.Cond.selects "NovaDeskModel" ({ cls := "NovaDeskModel", name := "next", desc := "()Z" } : Jvm.MethodName) ({ cls := "NovaDeskModel", name := "next", desc := "()Z" } : Jvm.MethodName)) ∈ GW := gw_p (List.mem_of_getElem? (i := 63) rfl) rfl
theorem kw_1443 : (Jvm.Cond.methodLink "NovaDeskModel" (346 : Nat) ({ cls := "NovaDeskModel", name := "numberOf", desc := "(J)I" } : Jvm.MethodName)) ∈ GW := gw_t (gt_7 (List.mem_of_getElem? (i := 3) rfl)) rfl
theorem kw_1446 : (Jvm.Cond.code ({ cls := "NovaDeskModel", name := "numberOf", desc := "(J)I" } : Jvm.MethodName) prog_14_method_46_code (5 : Nat) (Option.some Jvm.ClassFile.FieldType.int)) ∈ GW := gw_t (gt_7 (List.mem_of_getElem? (i := 6) rfl)) rfl
theorem kw_1445 : (Jvm.Cond.instanceMethod ({ cls := "NovaDeskModel", name := "numberOf", desc := "(J)I" } : Jvm.MethodName)) ∈ GW := gw_t (gt_7 (List.mem_of_getElem? (i := 5) rfl)) rfl
theorem kp_75 : (Jvm.Cond.selects "NovaDeskModel" ({ cls := "NovaDeskModel", name := "numberOf", desc := "(J)I" } : Jvm.MethodName) ({ cls := "NovaDeskModel", name := "numberOf", desc := "(J)I" } : Jvm.MethodName)) ∈ GW := gw_p (List.mem_of_getElem? (i := 75) rfl) rfl
theorem kw_1348 : (Jvm.Cond.methodLink "NovaDeskModel" (352 : Nat) ({ cls := "NovaDeskModel", name := "isSign", desc := "(I)Z" } : Jvm.MethodName)) ∈ GW := gw_t (gt_6 (List.mem_of_getElem? (i := 148) rfl)) rfl
theorem kw_1351 : (Jvm.Cond.code ({ cls := "NovaDeskModel", name := "isSign", desc := "(I)Z" } : Jvm.MethodName) prog_14_method_32_code (2 : Nat) (Option.some Jvm.ClassFile.FieldType.boolean)) ∈ GW := gw_t (gt_6 (List.mem_of_getElem? (i := 151) rfl)) rfl
theorem kw_1350 : (Jvm.Cond.instanceMethod ({ cls := "NovaDeskModel", name := "isSign", desc := "(I)Z" } : Jvm.MethodName)) ∈ GW := gw_t (gt_6 (List.mem_of_getElem? (i := 150) rfl)) rfl
theorem kp_65 : (Jvm.Cond.selects "NovaDeskModel" ({ cls := "NovaDeskModel", name := "isSign", desc := "(I)Z" } : Jvm.MethodName) ({ cls := "NovaDeskModel", name := "isSign", desc := "(I)Z" } : Jvm.MethodName)) ∈ GW := gw_p (List.mem_of_getElem? (i := 65) rfl) rfl
theorem kw_1439 : (Jvm.Cond.methodLink "NovaDeskModel" (355 : Nat) ({ cls := "NovaDeskModel", name := "term", desc := "()I" } : Jvm.MethodName)) ∈ GW := gw_t (gt_6 (List.mem_of_getElem? (i := 239) rfl)) rfl
theorem kw_1442 : (Jvm.Cond.code ({ cls := "NovaDeskModel", name := "term", desc := "()I" } : Jvm.MethodName) prog_14_method_47_code (2 : Nat) (Option.some Jvm.ClassFile.FieldType.int)) ∈ GW := gw_t (gt_7 (List.mem_of_getElem? (i := 2) rfl)) rfl
theorem kw_1441 : (Jvm.Cond.instanceMethod ({ cls := "NovaDeskModel", name := "term", desc := "()I" } : Jvm.MethodName)) ∈ GW := gw_t (gt_7 (List.mem_of_getElem? (i := 1) rfl)) rfl
theorem kp_74 : (Jvm.Cond.selects "NovaDeskModel" ({ cls := "NovaDeskModel", name := "term", desc := "()I" } : Jvm.MethodName) ({ cls := "NovaDeskModel", name := "term", desc := "()I" } : Jvm.MethodName)) ∈ GW := gw_p (List.mem_of_getElem? (i := 74) rfl) rfl
theorem kw_1435 : (Jvm.Cond.methodLink "NovaDeskModel" (358 : Nat) ({ cls := "NovaDeskModel", name := "expression", desc := "()I" } : Jvm.MethodName)) ∈ GW := gw_t (gt_6 (List.mem_of_getElem? (i := 235) rfl)) rfl
theorem kw_1438 : (Jvm.Cond.code ({ cls := "NovaDeskModel", name := "expression", desc := "()I" } : Jvm.MethodName) prog_14_method_48_code (4 : Nat) (Option.some Jvm.ClassFile.FieldType.int)) ∈ GW := gw_t (gt_6 (List.mem_of_getElem? (i := 238) rfl)) rfl
theorem kw_1437 : (Jvm.Cond.instanceMethod ({ cls := "NovaDeskModel", name := "expression", desc := "()I" } : Jvm.MethodName)) ∈ GW := gw_t (gt_6 (List.mem_of_getElem? (i := 237) rfl)) rfl
theorem kp_73 : (Jvm.Cond.selects "NovaDeskModel" ({ cls := "NovaDeskModel", name := "expression", desc := "()I" } : Jvm.MethodName) ({ cls := "NovaDeskModel", name := "expression", desc := "()I" } : Jvm.MethodName)) ∈ GW := gw_p (List.mem_of_getElem? (i := 73) rfl) rfl
theorem kw_1107 : (Jvm.Cond.fieldLink "NovaDeskModel" (59 : Nat) "NovaDeskModel" "asked" "[I") ∈ GW := gw_t (gt_5 (List.mem_of_getElem? (i := 147) rfl)) rfl
theorem kw_1109 : (Jvm.Cond.fieldLink "NovaDeskModel" (361 : Nat) "NovaDeskModel" "askedCount" "I") ∈ GW := gw_t (gt_5 (List.mem_of_getElem? (i := 149) rfl)) rfl
theorem kw_1108 : (Jvm.Cond.fieldLink "NovaDeskModel" (62 : Nat) "NovaDeskModel" "bounds" "[I") ∈ GW := gw_t (gt_5 (List.mem_of_getElem? (i := 148) rfl)) rfl
theorem kw_1110 : (Jvm.Cond.fieldLink "NovaDeskModel" (367 : Nat) "NovaDeskModel" "outside" "Z") ∈ GW := gw_t (gt_5 (List.mem_of_getElem? (i := 150) rfl)) rfl
theorem kw_1482 : (Jvm.Cond.constant "NovaDeskModel" (370 : Nat) (65408 : Int32)) ∈ GW := gw_t (gt_7 (List.mem_of_getElem? (i := 42) rfl)) rfl
theorem kw_1431 : (Jvm.Cond.methodLink "NovaDeskModel" (364 : Nat) ({ cls := "NovaDeskModel", name := "bounded", desc := "(I)I" } : Jvm.MethodName)) ∈ GW := gw_t (gt_6 (List.mem_of_getElem? (i := 231) rfl)) rfl
theorem kw_1434 : (Jvm.Cond.code ({ cls := "NovaDeskModel", name := "bounded", desc := "(I)I" } : Jvm.MethodName) prog_14_method_50_code (3 : Nat) (Option.some Jvm.ClassFile.FieldType.int)) ∈ GW := gw_t (gt_6 (List.mem_of_getElem? (i := 234) rfl)) rfl
theorem kw_1433 : (Jvm.Cond.instanceMethod ({ cls := "NovaDeskModel", name := "bounded", desc := "(I)I" } : Jvm.MethodName)) ∈ GW := gw_t (gt_6 (List.mem_of_getElem? (i := 233) rfl)) rfl
theorem kp_72 : (Jvm.Cond.selects "NovaDeskModel" ({ cls := "NovaDeskModel", name := "bounded", desc := "(I)I" } : Jvm.MethodName) ({ cls := "NovaDeskModel", name := "bounded", desc := "(I)I" } : Jvm.MethodName)) ∈ GW := gw_p (List.mem_of_getElem? (i := 72) rfl) rfl
theorem kw_1483 : (Jvm.Cond.methodLink "NovaDeskModel" (374 : Nat) ({ cls := "NovaDeskModel", name := "comma", desc := "()V" } : Jvm.MethodName)) ∈ GW := gw_t (gt_7 (List.mem_of_getElem? (i := 43) rfl)) rfl
theorem kw_1486 : (Jvm.Cond.code ({ cls := "NovaDeskModel", name := "comma", desc := "()V" } : Jvm.MethodName) prog_14_method_49_code (1 : Nat) (Option.none : Option Jvm.ClassFile.FieldType)) ∈ GW := gw_t (gt_7 (List.mem_of_getElem? (i := 46) rfl)) rfl
theorem kw_1485 : (Jvm.Cond.instanceMethod ({ cls := "NovaDeskModel", name := "comma", desc := "()V" } : Jvm.MethodName)) ∈ GW := gw_t (gt_7 (List.mem_of_getElem? (i := 45) rfl)) rfl
theorem kp_81 : (Jvm.Cond.selects "NovaDeskModel" ({ cls := "NovaDeskModel", name := "comma", desc := "()V" } : Jvm.MethodName) ({ cls := "NovaDeskModel", name := "comma", desc := "()V" } : Jvm.MethodName)) ∈ GW := gw_p (List.mem_of_getElem? (i := 81) rfl) rfl
theorem kw_1478 : (Jvm.Cond.methodLink "NovaDeskModel" (371 : Nat) ({ cls := "NovaDeskModel", name := "address", desc := "()I" } : Jvm.MethodName)) ∈ GW := gw_t (gt_7 (List.mem_of_getElem? (i := 38) rfl)) rfl
theorem kw_1481 : (Jvm.Cond.code ({ cls := "NovaDeskModel", name := "address", desc := "()I" } : Jvm.MethodName) prog_14_method_51_code (5 : Nat) (Option.some Jvm.ClassFile.FieldType.int)) ∈ GW := gw_t (gt_7 (List.mem_of_getElem? (i := 41) rfl)) rfl
theorem kw_1480 : (Jvm.Cond.instanceMethod ({ cls := "NovaDeskModel", name := "address", desc := "()I" } : Jvm.MethodName)) ∈ GW := gw_t (gt_7 (List.mem_of_getElem? (i := 40) rfl)) rfl
theorem kp_80 : (Jvm.Cond.selects "NovaDeskModel" ({ cls := "NovaDeskModel", name := "address", desc := "()I" } : Jvm.MethodName) ({ cls := "NovaDeskModel", name := "address", desc := "()I" } : Jvm.MethodName)) ∈ GW := gw_p (List.mem_of_getElem? (i := 80) rfl) rfl
theorem kw_1356 : (Jvm.Cond.methodLink "NovaDeskModel" (377 : Nat) ({ cls := "NovaDeskModel", name := "classify", desc := "(J)V" } : Jvm.MethodName)) ∈ GW := gw_t (gt_6 (List.mem_of_getElem? (i := 156) rfl)) rfl
theorem kw_1359 : (Jvm.Cond.code ({ cls := "NovaDeskModel", name := "classify", desc := "(J)V" } : Jvm.MethodName) prog_14_method_40_code (5 : Nat) (Option.none : Option Jvm.ClassFile.FieldType)) ∈ GW := gw_t (gt_6 (List.mem_of_getElem? (i := 159) rfl)) rfl
theorem kw_1358 : (Jvm.Cond.instanceMethod ({ cls := "NovaDeskModel", name := "classify", desc := "(J)V" } : Jvm.MethodName)) ∈ GW := gw_t (gt_6 (List.mem_of_getElem? (i := 158) rfl)) rfl
theorem kp_67 : (Jvm.Cond.selects "NovaDeskModel" ({ cls := "NovaDeskModel", name := "classify", desc := "(J)V" } : Jvm.MethodName) ({ cls := "NovaDeskModel", name := "classify", desc := "(J)V" } : Jvm.MethodName)) ∈ GW := gw_p (List.mem_of_getElem? (i := 67) rfl) rfl
theorem kw_1466 : (Jvm.Cond.methodLink "NovaDeskModel" (380 : Nat) ({ cls := "NovaDeskModel", name := "finish", desc := "()V" } : Jvm.MethodName)) ∈ GW := gw_t (gt_7 (List.mem_of_getElem? (i := 26) rfl)) rfl
theorem kw_1469 : (Jvm.Cond.code ({ cls := "NovaDeskModel", name := "finish", desc := "()V" } : Jvm.MethodName) prog_14_method_53_code (2 : Nat) (Option.none : Option Jvm.ClassFile.FieldType)) ∈ GW := gw_t (gt_7 (List.mem_of_getElem? (i := 29) rfl)) rfl
theorem kw_1468 : (Jvm.Cond.instanceMethod ({ cls := "NovaDeskModel", name := "finish", desc := "()V" } : Jvm.MethodName)) ∈ GW := gw_t (gt_7 (List.mem_of_getElem? (i := 28) rfl)) rfl
theorem kp_77 : (Jvm.Cond.selects "NovaDeskModel" ({ cls := "NovaDeskModel", name := "finish", desc := "()V" } : Jvm.MethodName) ({ cls := "NovaDeskModel", name := "finish", desc := "()V" } : Jvm.MethodName)) ∈ GW := gw_p (List.mem_of_getElem? (i := 77) rfl) rfl
theorem kw_1098 : (Jvm.Cond.fieldLink "NovaDeskModel" (53 : Nat) "NovaDeskModel" "targets" "[I") ∈ GW := gw_t (gt_5 (List.mem_of_getElem? (i := 138) rfl)) rfl
theorem kw_1100 : (Jvm.Cond.fieldLink "NovaDeskModel" (403 : Nat) "NovaDeskModel" "madeCount" "I") ∈ GW := gw_t (gt_5 (List.mem_of_getElem? (i := 140) rfl)) rfl
theorem kw_1099 : (Jvm.Cond.fieldLink "NovaDeskModel" (56 : Nat) "NovaDeskModel" "made" "[I") ∈ GW := gw_t (gt_5 (List.mem_of_getElem? (i := 139) rfl)) rfl
theorem kw_1427 : (Jvm.Cond.methodLink "NovaDeskModel" (397 : Nat) ({ cls := "NovaDeskModel", name := "moves", desc := "()V" } : Jvm.MethodName)) ∈ GW := gw_t (gt_6 (List.mem_of_getElem? (i := 227) rfl)) rfl
theorem kw_1430 : (Jvm.Cond.code ({ cls := "NovaDeskModel", name := "moves", desc := "()V" } : Jvm.MethodName) prog_14_method_55_code (3 : Nat) (Option.none : Option Jvm.ClassFile.FieldType)) ∈ GW := gw_t (gt_6 (List.mem_of_getElem? (i := 230) rfl)) rfl
theorem kw_1429 : (Jvm.Cond.instanceMethod ({ cls := "NovaDeskModel", name := "moves", desc := "()V" } : Jvm.MethodName)) ∈ GW := gw_t (gt_6 (List.mem_of_getElem? (i := 229) rfl)) rfl
theorem kp_71 : (Jvm.Cond.selects "NovaDeskModel" ({ cls := "NovaDeskModel", name := "moves", desc := "()V" } : Jvm.MethodName) ({ cls := "NovaDeskModel", name := "moves", desc := "()V" } : Jvm.MethodName)) ∈ GW := gw_p (List.mem_of_getElem? (i := 71) rfl) rfl
theorem kw_1487 : (Jvm.Cond.methodLink "NovaDeskModel" (390 : Nat) ({ cls := "NovaDeskModel", name := "keep", desc := "(I)V" } : Jvm.MethodName)) ∈ GW := gw_t (gt_7 (List.mem_of_getElem? (i := 47) rfl)) rfl
theorem kw_1490 : (Jvm.Cond.code ({ cls := "NovaDeskModel", name := "keep", desc := "(I)V" } : Jvm.MethodName) prog_14_method_59_code (2 : Nat) (Option.none : Option Jvm.ClassFile.FieldType)) ∈ GW := gw_t (gt_7 (List.mem_of_getElem? (i := 50) rfl)) rfl
theorem kw_1489 : (Jvm.Cond.instanceMethod ({ cls := "NovaDeskModel", name := "keep", desc := "(I)V" } : Jvm.MethodName)) ∈ GW := gw_t (gt_7 (List.mem_of_getElem? (i := 49) rfl)) rfl
theorem kp_82 : (Jvm.Cond.selects "NovaDeskModel" ({ cls := "NovaDeskModel", name := "keep", desc := "(I)V" } : Jvm.MethodName) ({ cls := "NovaDeskModel", name := "keep", desc := "(I)V" } : Jvm.MethodName)) ∈ GW := gw_p (List.mem_of_getElem? (i := 82) rfl) rfl
theorem kw_1474 : (Jvm.Cond.methodLink "NovaDeskModel" (400 : Nat) ({ cls := "NovaDeskModel", name := "statement", desc := "()I" } : Jvm.MethodName)) ∈ GW := gw_t (gt_7 (List.mem_of_getElem? (i := 34) rfl)) rfl
theorem kw_1477 : (Jvm.Cond.code ({ cls := "NovaDeskModel", name := "statement", desc := "()I" } : Jvm.MethodName) prog_14_method_52_code (2 : Nat) (Option.some Jvm.ClassFile.FieldType.int)) ∈ GW := gw_t (gt_7 (List.mem_of_getElem? (i := 37) rfl)) rfl
theorem kw_1476 : (Jvm.Cond.instanceMethod ({ cls := "NovaDeskModel", name := "statement", desc := "()I" } : Jvm.MethodName)) ∈ GW := gw_t (gt_7 (List.mem_of_getElem? (i := 36) rfl)) rfl
theorem kp_79 : (Jvm.Cond.selects "NovaDeskModel" ({ cls := "NovaDeskModel", name := "statement", desc := "()I" } : Jvm.MethodName) ({ cls := "NovaDeskModel", name := "statement", desc := "()I" } : Jvm.MethodName)) ∈ GW := gw_p (List.mem_of_getElem? (i := 79) rfl) rfl
theorem kw_1470 : (Jvm.Cond.methodLink "NovaDeskModel" (394 : Nat) ({ cls := "NovaDeskModel", name := "goOn", desc := "()V" } : Jvm.MethodName)) ∈ GW := gw_t (gt_7 (List.mem_of_getElem? (i := 30) rfl)) rfl
theorem kw_1473 : (Jvm.Cond.code ({ cls := "NovaDeskModel", name := "goOn", desc := "()V" } : Jvm.MethodName) prog_14_method_56_code (1 : Nat) (Option.none : Option Jvm.ClassFile.FieldType)) ∈ GW := gw_t (gt_7 (List.mem_of_getElem? (i := 33) rfl)) rfl
theorem kw_1472 : (Jvm.Cond.instanceMethod ({ cls := "NovaDeskModel", name := "goOn", desc := "()V" } : Jvm.MethodName)) ∈ GW := gw_t (gt_7 (List.mem_of_getElem? (i := 32) rfl)) rfl
theorem kp_78 : (Jvm.Cond.selects "NovaDeskModel" ({ cls := "NovaDeskModel", name := "goOn", desc := "()V" } : Jvm.MethodName) ({ cls := "NovaDeskModel", name := "goOn", desc := "()V" } : Jvm.MethodName)) ∈ GW := gw_p (List.mem_of_getElem? (i := 78) rfl) rfl
theorem kw_1491 : (Jvm.Cond.methodLink "NovaDeskModel" (387 : Nat) ({ cls := "NovaDeskModel", name := "addLabel", desc := "(J)V" } : Jvm.MethodName)) ∈ GW := gw_t (gt_7 (List.mem_of_getElem? (i := 51) rfl)) rfl
theorem kw_1494 : (Jvm.Cond.code ({ cls := "NovaDeskModel", name := "addLabel", desc := "(J)V" } : Jvm.MethodName) prog_14_method_54_code (3 : Nat) (Option.none : Option Jvm.ClassFile.FieldType)) ∈ GW := gw_t (gt_7 (List.mem_of_getElem? (i := 54) rfl)) rfl
theorem kw_1493 : (Jvm.Cond.instanceMethod ({ cls := "NovaDeskModel", name := "addLabel", desc := "(J)V" } : Jvm.MethodName)) ∈ GW := gw_t (gt_7 (List.mem_of_getElem? (i := 53) rfl)) rfl
theorem kp_83 : (Jvm.Cond.selects "NovaDeskModel" ({ cls := "NovaDeskModel", name := "addLabel", desc := "(J)V" } : Jvm.MethodName) ({ cls := "NovaDeskModel", name := "addLabel", desc := "(J)V" } : Jvm.MethodName)) ∈ GW := gw_p (List.mem_of_getElem? (i := 83) rfl) rfl
theorem kw_1352 : (Jvm.Cond.methodLink "NovaDeskModel" (383 : Nat) ({ cls := "NovaDeskModel", name := "begin", desc := "(JIZ)V" } : Jvm.MethodName)) ∈ GW := gw_t (gt_6 (List.mem_of_getElem? (i := 152) rfl)) rfl
theorem kw_1355 : (Jvm.Cond.code ({ cls := "NovaDeskModel", name := "begin", desc := "(JIZ)V" } : Jvm.MethodName) prog_14_method_58_code (5 : Nat) (Option.none : Option Jvm.ClassFile.FieldType)) ∈ GW := gw_t (gt_6 (List.mem_of_getElem? (i := 155) rfl)) rfl
theorem kw_1354 : (Jvm.Cond.instanceMethod ({ cls := "NovaDeskModel", name := "begin", desc := "(JIZ)V" } : Jvm.MethodName)) ∈ GW := gw_t (gt_6 (List.mem_of_getElem? (i := 154) rfl)) rfl
theorem kp_66 : (Jvm.Cond.selects "NovaDeskModel" ({ cls := "NovaDeskModel", name := "begin", desc := "(JIZ)V" } : Jvm.MethodName) ({ cls := "NovaDeskModel", name := "begin", desc := "(JIZ)V" } : Jvm.MethodName)) ∈ GW := gw_p (List.mem_of_getElem? (i := 66) rfl) rfl
theorem kw_1330 : (Jvm.Cond.methodLink "NovaDeskModel" (406 : Nat) ({ cls := "NovaDeskModel", name := "goThrough", desc := "(Z)V" } : Jvm.MethodName)) ∈ GW := gw_t (gt_6 (List.mem_of_getElem? (i := 130) rfl)) rfl
theorem kw_1333 : (Jvm.Cond.code ({ cls := "NovaDeskModel", name := "goThrough", desc := "(Z)V" } : Jvm.MethodName) prog_14_method_57_code (5 : Nat) (Option.none : Option Jvm.ClassFile.FieldType)) ∈ GW := gw_t (gt_6 (List.mem_of_getElem? (i := 133) rfl)) rfl
theorem kw_1332 : (Jvm.Cond.instanceMethod ({ cls := "NovaDeskModel", name := "goThrough", desc := "(Z)V" } : Jvm.MethodName)) ∈ GW := gw_t (gt_6 (List.mem_of_getElem? (i := 132) rfl)) rfl
theorem kp_62 : (Jvm.Cond.selects "NovaDeskModel" ({ cls := "NovaDeskModel", name := "goThrough", desc := "(Z)V" } : Jvm.MethodName) ({ cls := "NovaDeskModel", name := "goThrough", desc := "(Z)V" } : Jvm.MethodName)) ∈ GW := gw_p (List.mem_of_getElem? (i := 62) rfl) rfl
theorem kw_1095 : (Jvm.Cond.fieldLink "NovaDeskModel" (47 : Nat) "NovaDeskModel" "kept" "[J") ∈ GW := gw_t (gt_5 (List.mem_of_getElem? (i := 135) rfl)) rfl
theorem kw_1096 : (Jvm.Cond.fieldLink "NovaDeskModel" (50 : Nat) "NovaDeskModel" "keptPlaces" "[I") ∈ GW := gw_t (gt_5 (List.mem_of_getElem? (i := 136) rfl)) rfl
theorem kw_1326 : (Jvm.Cond.methodLink "NovaDeskModel" (410 : Nat) ({ cls := "NovaDeskModel", name := "pass", desc := "(Z)V" } : Jvm.MethodName)) ∈ GW := gw_t (gt_6 (List.mem_of_getElem? (i := 126) rfl)) rfl
theorem kw_1329 : (Jvm.Cond.code ({ cls := "NovaDeskModel", name := "pass", desc := "(Z)V" } : Jvm.MethodName) prog_14_method_60_code (4 : Nat) (Option.none : Option Jvm.ClassFile.FieldType)) ∈ GW := gw_t (gt_6 (List.mem_of_getElem? (i := 129) rfl)) rfl
theorem kw_1328 : (Jvm.Cond.instanceMethod ({ cls := "NovaDeskModel", name := "pass", desc := "(Z)V" } : Jvm.MethodName)) ∈ GW := gw_t (gt_6 (List.mem_of_getElem? (i := 128) rfl)) rfl
theorem kp_61 : (Jvm.Cond.selects "NovaDeskModel" ({ cls := "NovaDeskModel", name := "pass", desc := "(Z)V" } : Jvm.MethodName) ({ cls := "NovaDeskModel", name := "pass", desc := "(Z)V" } : Jvm.MethodName)) ∈ GW := gw_p (List.mem_of_getElem? (i := 61) rfl) rfl
theorem kw_1503 : (Jvm.Cond.constantLong "NovaDeskModel" (413 : Nat) (65535 : Int64)) ∈ GW := gw_t (gt_7 (List.mem_of_getElem? (i := 63) rfl)) rfl
theorem kw_1113 : (Jvm.Cond.fieldLink "NovaDeskModel" (65 : Nat) "NovaDeskModel" "told" "[I") ∈ GW := gw_t (gt_5 (List.mem_of_getElem? (i := 153) rfl)) rfl
theorem kw_1519 : (Jvm.Cond.methodLink "NovaDeskModel" (415 : Nat) ({ cls := "NovaDeskModel", name := "say", desc := "(I)V" } : Jvm.MethodName)) ∈ GW := gw_t (gt_7 (List.mem_of_getElem? (i := 79) rfl)) rfl
theorem kw_1522 : (Jvm.Cond.code ({ cls := "NovaDeskModel", name := "say", desc := "(I)V" } : Jvm.MethodName) prog_14_method_64_code (2 : Nat) (Option.none : Option Jvm.ClassFile.FieldType)) ∈ GW := gw_t (gt_7 (List.mem_of_getElem? (i := 82) rfl)) rfl
theorem kw_1521 : (Jvm.Cond.instanceMethod ({ cls := "NovaDeskModel", name := "say", desc := "(I)V" } : Jvm.MethodName)) ∈ GW := gw_t (gt_7 (List.mem_of_getElem? (i := 81) rfl)) rfl
theorem kp_86 : (Jvm.Cond.selects "NovaDeskModel" ({ cls := "NovaDeskModel", name := "say", desc := "(I)V" } : Jvm.MethodName) ({ cls := "NovaDeskModel", name := "say", desc := "(I)V" } : Jvm.MethodName)) ∈ GW := gw_p (List.mem_of_getElem? (i := 86) rfl) rfl
theorem kw_1523 : (Jvm.Cond.methodLink "NovaDeskModel" (418 : Nat) ({ cls := "NovaDeskModel", name := "octal", desc := "(I)V" } : Jvm.MethodName)) ∈ GW := gw_t (gt_7 (List.mem_of_getElem? (i := 83) rfl)) rfl
theorem kw_1526 : (Jvm.Cond.code ({ cls := "NovaDeskModel", name := "octal", desc := "(I)V" } : Jvm.MethodName) prog_14_method_66_code (3 : Nat) (Option.none : Option Jvm.ClassFile.FieldType)) ∈ GW := gw_t (gt_7 (List.mem_of_getElem? (i := 86) rfl)) rfl
theorem kw_1525 : (Jvm.Cond.instanceMethod ({ cls := "NovaDeskModel", name := "octal", desc := "(I)V" } : Jvm.MethodName)) ∈ GW := gw_t (gt_7 (List.mem_of_getElem? (i := 85) rfl)) rfl
theorem kp_87 : (Jvm.Cond.selects "NovaDeskModel" ({ cls := "NovaDeskModel", name := "octal", desc := "(I)V" } : Jvm.MethodName) ({ cls := "NovaDeskModel", name := "octal", desc := "(I)V" } : Jvm.MethodName)) ∈ GW := gw_p (List.mem_of_getElem? (i := 87) rfl) rfl
theorem kw_1527 : (Jvm.Cond.methodLink "NovaDeskModel" (428 : Nat) ({ cls := "NovaDeskModel", name := "skipName", desc := "(I)J" } : Jvm.MethodName)) ∈ GW := gw_t (gt_7 (List.mem_of_getElem? (i := 87) rfl)) rfl
theorem kw_1529 : (Jvm.Cond.code ({ cls := "NovaDeskModel", name := "skipName", desc := "(I)J" } : Jvm.MethodName) prog_14_method_69_code (1 : Nat) (Option.some Jvm.ClassFile.FieldType.long)) ∈ GW := gw_t (gt_7 (List.mem_of_getElem? (i := 89) rfl)) rfl
theorem kw_1528 : (Jvm.Cond.static ({ cls := "NovaDeskModel", name := "skipName", desc := "(I)J" } : Jvm.MethodName)) ∈ GW := gw_t (gt_7 (List.mem_of_getElem? (i := 88) rfl)) rfl
theorem kw_1515 : (Jvm.Cond.methodLink "NovaDeskModel" (425 : Nat) ({ cls := "NovaDeskModel", name := "sayName", desc := "(J)V" } : Jvm.MethodName)) ∈ GW := gw_t (gt_7 (List.mem_of_getElem? (i := 75) rfl)) rfl
theorem kw_1518 : (Jvm.Cond.code ({ cls := "NovaDeskModel", name := "sayName", desc := "(J)V" } : Jvm.MethodName) prog_14_method_65_code (4 : Nat) (Option.none : Option Jvm.ClassFile.FieldType)) ∈ GW := gw_t (gt_7 (List.mem_of_getElem? (i := 78) rfl)) rfl
theorem kw_1517 : (Jvm.Cond.instanceMethod ({ cls := "NovaDeskModel", name := "sayName", desc := "(J)V" } : Jvm.MethodName)) ∈ GW := gw_t (gt_7 (List.mem_of_getElem? (i := 77) rfl)) rfl
theorem kp_85 : (Jvm.Cond.selects "NovaDeskModel" ({ cls := "NovaDeskModel", name := "sayName", desc := "(J)V" } : Jvm.MethodName) ({ cls := "NovaDeskModel", name := "sayName", desc := "(J)V" } : Jvm.MethodName)) ∈ GW := gw_p (List.mem_of_getElem? (i := 85) rfl) rfl
theorem kw_1512 : (Jvm.Cond.methodLink "NovaDeskModel" (421 : Nat) ({ cls := "NovaDeskModel", name := "functionName", desc := "(I)J" } : Jvm.MethodName)) ∈ GW := gw_t (gt_7 (List.mem_of_getElem? (i := 72) rfl)) rfl
theorem kw_1514 : (Jvm.Cond.code ({ cls := "NovaDeskModel", name := "functionName", desc := "(I)J" } : Jvm.MethodName) prog_14_method_68_code (1 : Nat) (Option.some Jvm.ClassFile.FieldType.long)) ∈ GW := gw_t (gt_7 (List.mem_of_getElem? (i := 74) rfl)) rfl
theorem kw_1513 : (Jvm.Cond.static ({ cls := "NovaDeskModel", name := "functionName", desc := "(I)J" } : Jvm.MethodName)) ∈ GW := gw_t (gt_7 (List.mem_of_getElem? (i := 73) rfl)) rfl
theorem kw_1534 : (Jvm.Cond.methodLink "NovaDeskModel" (431 : Nat) ({ cls := "NovaDeskModel", name := "sayMachine", desc := "(I)Z" } : Jvm.MethodName)) ∈ GW := gw_t (gt_7 (List.mem_of_getElem? (i := 94) rfl)) rfl
theorem kw_1537 : (Jvm.Cond.code ({ cls := "NovaDeskModel", name := "sayMachine", desc := "(I)Z" } : Jvm.MethodName) prog_14_method_71_code (5 : Nat) (Option.some Jvm.ClassFile.FieldType.boolean)) ∈ GW := gw_t (gt_7 (List.mem_of_getElem? (i := 97) rfl)) rfl
theorem kw_1536 : (Jvm.Cond.instanceMethod ({ cls := "NovaDeskModel", name := "sayMachine", desc := "(I)Z" } : Jvm.MethodName)) ∈ GW := gw_t (gt_7 (List.mem_of_getElem? (i := 96) rfl)) rfl
theorem kp_89 : (Jvm.Cond.selects "NovaDeskModel" ({ cls := "NovaDeskModel", name := "sayMachine", desc := "(I)Z" } : Jvm.MethodName) ({ cls := "NovaDeskModel", name := "sayMachine", desc := "(I)Z" } : Jvm.MethodName)) ∈ GW := gw_p (List.mem_of_getElem? (i := 89) rfl) rfl
theorem kw_1538 : (Jvm.Cond.methodLink "NovaDeskModel" (440 : Nat) ({ cls := "NovaDeskModel", name := "sayAddress", desc := "(I)V" } : Jvm.MethodName)) ∈ GW := gw_t (gt_7 (List.mem_of_getElem? (i := 98) rfl)) rfl
theorem kw_1541 : (Jvm.Cond.code ({ cls := "NovaDeskModel", name := "sayAddress", desc := "(I)V" } : Jvm.MethodName) prog_14_method_67_code (4 : Nat) (Option.none : Option Jvm.ClassFile.FieldType)) ∈ GW := gw_t (gt_7 (List.mem_of_getElem? (i := 101) rfl)) rfl
theorem kw_1540 : (Jvm.Cond.instanceMethod ({ cls := "NovaDeskModel", name := "sayAddress", desc := "(I)V" } : Jvm.MethodName)) ∈ GW := gw_t (gt_7 (List.mem_of_getElem? (i := 100) rfl)) rfl
theorem kp_90 : (Jvm.Cond.selects "NovaDeskModel" ({ cls := "NovaDeskModel", name := "sayAddress", desc := "(I)V" } : Jvm.MethodName) ({ cls := "NovaDeskModel", name := "sayAddress", desc := "(I)V" } : Jvm.MethodName)) ∈ GW := gw_p (List.mem_of_getElem? (i := 90) rfl) rfl
theorem kw_1530 : (Jvm.Cond.methodLink "NovaDeskModel" (437 : Nat) ({ cls := "NovaDeskModel", name := "sayDevice", desc := "(I)V" } : Jvm.MethodName)) ∈ GW := gw_t (gt_7 (List.mem_of_getElem? (i := 90) rfl)) rfl
theorem kw_1533 : (Jvm.Cond.code ({ cls := "NovaDeskModel", name := "sayDevice", desc := "(I)V" } : Jvm.MethodName) prog_14_method_72_code (5 : Nat) (Option.none : Option Jvm.ClassFile.FieldType)) ∈ GW := gw_t (gt_7 (List.mem_of_getElem? (i := 93) rfl)) rfl
theorem kw_1532 : (Jvm.Cond.instanceMethod ({ cls := "NovaDeskModel", name := "sayDevice", desc := "(I)V" } : Jvm.MethodName)) ∈ GW := gw_t (gt_7 (List.mem_of_getElem? (i := 92) rfl)) rfl
theorem kp_88 : (Jvm.Cond.selects "NovaDeskModel" ({ cls := "NovaDeskModel", name := "sayDevice", desc := "(I)V" } : Jvm.MethodName) ({ cls := "NovaDeskModel", name := "sayDevice", desc := "(I)V" } : Jvm.MethodName)) ∈ GW := gw_p (List.mem_of_getElem? (i := 88) rfl) rfl
theorem kw_1508 : (Jvm.Cond.methodLink "NovaDeskModel" (434 : Nat) ({ cls := "NovaDeskModel", name := "sayReckoning", desc := "(I)V" } : Jvm.MethodName)) ∈ GW := gw_t (gt_7 (List.mem_of_getElem? (i := 68) rfl)) rfl
theorem kw_1511 : (Jvm.Cond.code ({ cls := "NovaDeskModel", name := "sayReckoning", desc := "(I)V" } : Jvm.MethodName) prog_14_method_70_code (4 : Nat) (Option.none : Option Jvm.ClassFile.FieldType)) ∈ GW := gw_t (gt_7 (List.mem_of_getElem? (i := 71) rfl)) rfl
theorem kw_1510 : (Jvm.Cond.instanceMethod ({ cls := "NovaDeskModel", name := "sayReckoning", desc := "(I)V" } : Jvm.MethodName)) ∈ GW := gw_t (gt_7 (List.mem_of_getElem? (i := 70) rfl)) rfl
theorem kp_84 : (Jvm.Cond.selects "NovaDeskModel" ({ cls := "NovaDeskModel", name := "sayReckoning", desc := "(I)V" } : Jvm.MethodName) ({ cls := "NovaDeskModel", name := "sayReckoning", desc := "(I)V" } : Jvm.MethodName)) ∈ GW := gw_p (List.mem_of_getElem? (i := 84) rfl) rfl
theorem cw_R_77 : CVW RNR 77 "NovaDeskModel" y_R_fails b_R_fails 3 ((Option.some Jvm.ClassFile.FieldType.boolean)) 2 := cvw kw_1228 kw_1230 kp_50 kw_11 kw_1231 (by decide +kernel)
theorem cw_R_72 : CSW RNR 72 y_R_within b_R_within 3 ((Option.some Jvm.ClassFile.FieldType.boolean)) 3 := csw kw_1224 kw_1225 kw_11 kw_1226 (by decide +kernel)
theorem cw_R_90 : CVW RNR 90 "NovaDeskModel" y_R_registerOf b_R_registerOf 2 ((Option.some Jvm.ClassFile.FieldType.int)) 1 := cvw kw_1240 kw_1242 kp_51 kw_11 kw_1243 (by decide +kernel)
theorem cw_R_139 : CVW RNR 139 "NovaDeskModel" y_R_chase b_R_chase 5 ((Option.some Jvm.ClassFile.FieldType.int)) 1 := cvw kw_1284 kw_1286 kp_55 kw_11 kw_1287 (by decide +kernel)
theorem cw_R_142 : CVW RNR 142 "NovaDeskModel" y_R_asks b_R_asks 3 ((Option.some Jvm.ClassFile.FieldType.boolean)) 1 := cvw kw_1280 kw_1282 kp_54 kw_11 kw_1283 (by decide +kernel)
theorem cw_R_146 : CVW RNR 146 "NovaDeskModel" y_R_asking b_R_asking 2 ((Option.some Jvm.ClassFile.FieldType.int)) 0 := cvw kw_1276 kw_1278 kp_53 kw_11 kw_1279 (by decide +kernel)
theorem cw_R_150 : CVW RNR 150 "NovaDeskModel" y_R_machine b_R_machine 5 ((Option.some Jvm.ClassFile.FieldType.boolean)) 2 := cvw kw_1297 kw_1299 kp_58 kw_11 kw_1300 (by decide +kernel)
theorem cw_R_163 : CVW RNR 163 "NovaDeskModel" y_R_tick b_R_tick 3 ((Option.none : Option Jvm.ClassFile.FieldType)) 0 := cvw kw_1306 kw_1308 kp_60 kw_11 kw_1309 (by decide +kernel)
theorem cw_R_160 : CVW RNR 160 "NovaDeskModel" y_R_addressOf b_R_addressOf 6 ((Option.some Jvm.ClassFile.FieldType.int)) 1 := cvw kw_1301 kw_1303 kp_59 kw_11 kw_1304 (by decide +kernel)
theorem cw_R_157 : CVW RNR 157 "NovaDeskModel" y_R_devices b_R_devices 8 ((Option.some Jvm.ClassFile.FieldType.boolean)) 1 := cvw kw_1293 kw_1295 kp_57 kw_11 kw_1296 (by decide +kernel)
theorem cw_R_154 : CVW RNR 154 "NovaDeskModel" y_R_reckons b_R_reckons 10 ((Option.some Jvm.ClassFile.FieldType.boolean)) 1 := cvw kw_1289 kw_1291 kp_56 kw_11 kw_1292 (by decide +kernel)
theorem cw_R_166 : CVW RNR 166 "NovaDeskModel" y_R_step b_R_step 8 ((Option.some Jvm.ClassFile.FieldType.boolean)) 0 := cvw kw_1272 kw_1274 kp_52 kw_11 kw_1275 (by decide +kernel)
theorem cw_R_191 : CVW RNR 191 "NovaDeskModel" y_R_stop b_R_stop 2 ((Option.some Jvm.ClassFile.FieldType.boolean)) 1 := cvw kw_1344 kw_1346 kp_64 kw_11 kw_1347 (by decide +kernel)
theorem cw_R_182 : CSW RNR 182 y_R_isLetter b_R_isLetter 1 ((Option.some Jvm.ClassFile.FieldType.boolean)) 1 := csw kw_1338 kw_1339 kw_11 kw_1340 (by decide +kernel)
theorem cw_R_185 : CSW RNR 185 y_R_isDigit b_R_isDigit 1 ((Option.some Jvm.ClassFile.FieldType.boolean)) 1 := csw kw_1341 kw_1342 kw_11 kw_1343 (by decide +kernel)
theorem cw_R_198 : CSW RNR 198 y_R_sizeOf b_R_sizeOf 5 ((Option.some Jvm.ClassFile.FieldType.int)) 1 := csw kw_1360 kw_1361 kw_11 kw_1362 (by decide +kernel)
theorem cw_R_210 : CSW RNR 210 y_R_among b_R_among 10 ((Option.some Jvm.ClassFile.FieldType.int)) 5 := csw kw_1369 kw_1370 kw_11 kw_1371 (by decide +kernel)
theorem cw_R_297 : CSW RNR 297 y_R_letter b_R_letter 3 ((Option.some Jvm.ClassFile.FieldType.int)) 2 := csw kw_1392 kw_1393 kw_11 kw_1394 (by decide +kernel)
theorem cw_R_301 : CSW RNR 301 y_R_suffix b_R_suffix 4 ((Option.some Jvm.ClassFile.FieldType.int)) 4 := csw kw_1395 kw_1396 kw_11 kw_1397 (by decide +kernel)
theorem cw_R_290 : CSW RNR 290 y_R_front b_R_front 3 ((Option.some Jvm.ClassFile.FieldType.long)) 2 := csw kw_1378 kw_1379 kw_11 kw_1380 (by decide +kernel)
theorem cw_R_294 : CSW RNR 294 y_R_functionOf b_R_functionOf 4 ((Option.some Jvm.ClassFile.FieldType.int)) 1 := csw kw_1381 kw_1382 kw_11 kw_1383 (by decide +kernel)
theorem cw_R_307 : CSW RNR 307 y_R_whatOf b_R_whatOf 3 ((Option.some Jvm.ClassFile.FieldType.int)) 1 := csw kw_1399 kw_1400 kw_11 kw_1401 (by decide +kernel)
theorem cw_R_266 : CVW RNR 266 "NovaDeskModel" y_R_single b_R_single 3 ((Option.none : Option Jvm.ClassFile.FieldType)) 2 := cvw kw_1413 kw_1415 kp_70 kw_11 kw_1416 (by decide +kernel)
theorem cw_R_260 : CVW RNR 260 "NovaDeskModel" y_R_special b_R_special 4 ((Option.none : Option Jvm.ClassFile.FieldType)) 1 := cvw kw_1408 kw_1410 kp_69 kw_11 kw_1411 (by decide +kernel)
theorem cw_R_256 : CVW RNR 256 "NovaDeskModel" y_R_suffixed b_R_suffixed 10 ((Option.none : Option Jvm.ClassFile.FieldType)) 2 := cvw kw_1374 kw_1376 kp_68 kw_11 kw_1377 (by decide +kernel)
theorem cw_R_340 : CSW RNR 340 y_R_fixed b_R_fixed 5 ((Option.some Jvm.ClassFile.FieldType.int)) 1 := csw kw_1448 kw_1449 kw_11 kw_1450 (by decide +kernel)
theorem cw_R_343 : CVW RNR 343 "NovaDeskModel" y_R_labelOf b_R_labelOf 4 ((Option.some Jvm.ClassFile.FieldType.int)) 1 := cvw kw_1462 kw_1464 kp_76 kw_11 kw_1465 (by decide +kernel)
theorem cw_R_349 : CVW RNR 349 "NovaDeskModel" y_R_next b_R_next 4 ((Option.some Jvm.ClassFile.FieldType.boolean)) 0 := cvw kw_1334 kw_1336 kp_63 kw_11 kw_1337 (by decide +kernel)
theorem cw_R_346 : CVW RNR 346 "NovaDeskModel" y_R_numberOf b_R_numberOf 5 ((Option.some Jvm.ClassFile.FieldType.int)) 1 := cvw kw_1443 kw_1445 kp_75 kw_11 kw_1446 (by decide +kernel)
theorem cw_R_352 : CVW RNR 352 "NovaDeskModel" y_R_isSign b_R_isSign 2 ((Option.some Jvm.ClassFile.FieldType.boolean)) 1 := cvw kw_1348 kw_1350 kp_65 kw_11 kw_1351 (by decide +kernel)
theorem cw_R_355 : CVW RNR 355 "NovaDeskModel" y_R_term b_R_term 2 ((Option.some Jvm.ClassFile.FieldType.int)) 0 := cvw kw_1439 kw_1441 kp_74 kw_11 kw_1442 (by decide +kernel)
theorem cw_R_358 : CVW RNR 358 "NovaDeskModel" y_R_expression b_R_expression 4 ((Option.some Jvm.ClassFile.FieldType.int)) 0 := cvw kw_1435 kw_1437 kp_73 kw_11 kw_1438 (by decide +kernel)
theorem cw_R_364 : CVW RNR 364 "NovaDeskModel" y_R_bounded b_R_bounded 3 ((Option.some Jvm.ClassFile.FieldType.int)) 1 := cvw kw_1431 kw_1433 kp_72 kw_11 kw_1434 (by decide +kernel)
theorem cw_R_374 : CVW RNR 374 "NovaDeskModel" y_R_comma b_R_comma 1 ((Option.none : Option Jvm.ClassFile.FieldType)) 0 := cvw kw_1483 kw_1485 kp_81 kw_11 kw_1486 (by decide +kernel)
theorem cw_R_371 : CVW RNR 371 "NovaDeskModel" y_R_address b_R_address 5 ((Option.some Jvm.ClassFile.FieldType.int)) 0 := cvw kw_1478 kw_1480 kp_80 kw_11 kw_1481 (by decide +kernel)
theorem cw_R_377 : CVW RNR 377 "NovaDeskModel" y_R_classify b_R_classify 5 ((Option.none : Option Jvm.ClassFile.FieldType)) 1 := cvw kw_1356 kw_1358 kp_67 kw_11 kw_1359 (by decide +kernel)
theorem cw_R_380 : CVW RNR 380 "NovaDeskModel" y_R_finish b_R_finish 2 ((Option.none : Option Jvm.ClassFile.FieldType)) 0 := cvw kw_1466 kw_1468 kp_77 kw_11 kw_1469 (by decide +kernel)
theorem cw_R_397 : CVW RNR 397 "NovaDeskModel" y_R_moves b_R_moves 3 ((Option.none : Option Jvm.ClassFile.FieldType)) 0 := cvw kw_1427 kw_1429 kp_71 kw_11 kw_1430 (by decide +kernel)
theorem cw_R_390 : CVW RNR 390 "NovaDeskModel" y_R_keep b_R_keep 2 ((Option.none : Option Jvm.ClassFile.FieldType)) 1 := cvw kw_1487 kw_1489 kp_82 kw_11 kw_1490 (by decide +kernel)
theorem cw_R_400 : CVW RNR 400 "NovaDeskModel" y_R_statement b_R_statement 2 ((Option.some Jvm.ClassFile.FieldType.int)) 0 := cvw kw_1474 kw_1476 kp_79 kw_11 kw_1477 (by decide +kernel)
theorem cw_R_394 : CVW RNR 394 "NovaDeskModel" y_R_goOn b_R_goOn 1 ((Option.none : Option Jvm.ClassFile.FieldType)) 0 := cvw kw_1470 kw_1472 kp_78 kw_11 kw_1473 (by decide +kernel)
theorem cw_R_387 : CVW RNR 387 "NovaDeskModel" y_R_addLabel b_R_addLabel 3 ((Option.none : Option Jvm.ClassFile.FieldType)) 1 := cvw kw_1491 kw_1493 kp_83 kw_11 kw_1494 (by decide +kernel)
theorem cw_R_383 : CVW RNR 383 "NovaDeskModel" y_R_begin b_R_begin 5 ((Option.none : Option Jvm.ClassFile.FieldType)) 3 := cvw kw_1352 kw_1354 kp_66 kw_11 kw_1355 (by decide +kernel)
theorem cw_R_406 : CVW RNR 406 "NovaDeskModel" y_R_goThrough b_R_goThrough 5 ((Option.none : Option Jvm.ClassFile.FieldType)) 1 := cvw kw_1330 kw_1332 kp_62 kw_11 kw_1333 (by decide +kernel)
theorem cw_R_410 : CVW RNR 410 "NovaDeskModel" y_R_pass b_R_pass 4 ((Option.none : Option Jvm.ClassFile.FieldType)) 1 := cvw kw_1326 kw_1328 kp_61 kw_11 kw_1329 (by decide +kernel)
theorem cw_R_415 : CVW RNR 415 "NovaDeskModel" y_R_say b_R_say 2 ((Option.none : Option Jvm.ClassFile.FieldType)) 1 := cvw kw_1519 kw_1521 kp_86 kw_11 kw_1522 (by decide +kernel)
theorem cw_R_418 : CVW RNR 418 "NovaDeskModel" y_R_octal b_R_octal 3 ((Option.none : Option Jvm.ClassFile.FieldType)) 1 := cvw kw_1523 kw_1525 kp_87 kw_11 kw_1526 (by decide +kernel)
theorem cw_R_428 : CSW RNR 428 y_R_skipName b_R_skipName 1 ((Option.some Jvm.ClassFile.FieldType.long)) 1 := csw kw_1527 kw_1528 kw_11 kw_1529 (by decide +kernel)
theorem cw_R_425 : CVW RNR 425 "NovaDeskModel" y_R_sayName b_R_sayName 4 ((Option.none : Option Jvm.ClassFile.FieldType)) 1 := cvw kw_1515 kw_1517 kp_85 kw_11 kw_1518 (by decide +kernel)
theorem cw_R_421 : CSW RNR 421 y_R_functionName b_R_functionName 1 ((Option.some Jvm.ClassFile.FieldType.long)) 1 := csw kw_1512 kw_1513 kw_11 kw_1514 (by decide +kernel)
theorem cw_R_431 : CVW RNR 431 "NovaDeskModel" y_R_sayMachine b_R_sayMachine 5 ((Option.some Jvm.ClassFile.FieldType.boolean)) 1 := cvw kw_1534 kw_1536 kp_89 kw_11 kw_1537 (by decide +kernel)
theorem cw_R_440 : CVW RNR 440 "NovaDeskModel" y_R_sayAddress b_R_sayAddress 4 ((Option.none : Option Jvm.ClassFile.FieldType)) 1 := cvw kw_1538 kw_1540 kp_90 kw_11 kw_1541 (by decide +kernel)
theorem cw_R_437 : CVW RNR 437 "NovaDeskModel" y_R_sayDevice b_R_sayDevice 5 ((Option.none : Option Jvm.ClassFile.FieldType)) 1 := cvw kw_1530 kw_1532 kp_88 kw_11 kw_1533 (by decide +kernel)
theorem cw_R_434 : CVW RNR 434 "NovaDeskModel" y_R_sayReckoning b_R_sayReckoning 4 ((Option.none : Option Jvm.ClassFile.FieldType)) 1 := cvw kw_1508 kw_1510 kp_84 kw_11 kw_1511 (by decide +kernel)
