/-! the reference: names, words, decode rows, by program -/
abbrev b_R_thrown : ByteArray := prog_14_method_2_code
abbrev y_R_thrown : MethodName := ({ cls := "NovaDeskModel", name := "thrown", desc := "()I" } : Jvm.MethodName)
abbrev b_R_fails : ByteArray := prog_14_method_3_code
abbrev y_R_fails : MethodName := ({ cls := "NovaDeskModel", name := "fails", desc := "(ZI)Z" } : Jvm.MethodName)
abbrev b_R_within : ByteArray := prog_14_method_4_code
abbrev y_R_within : MethodName := ({ cls := "NovaDeskModel", name := "within", desc := "(III)Z" } : Jvm.MethodName)
abbrev b_R_put : ByteArray := prog_14_method_5_code
abbrev y_R_put : MethodName := ({ cls := "NovaDeskModel", name := "put", desc := "(II)I" } : Jvm.MethodName)
abbrev b_R_word : ByteArray := prog_14_method_6_code
abbrev y_R_word : MethodName := ({ cls := "NovaDeskModel", name := "word", desc := "(I)I" } : Jvm.MethodName)
abbrev b_R_registerOf : ByteArray := prog_14_method_7_code
abbrev y_R_registerOf : MethodName := ({ cls := "NovaDeskModel", name := "registerOf", desc := "(I)I" } : Jvm.MethodName)
theorem kw_1115 : (Jvm.Cond.fieldLink "NovaDeskModel" (68 : Nat) "NovaDeskModel" "thrown" "I") ∈ GW := gw_t (List.mem_of_getElem? (i := 1115) (by decide +kernel)) rfl
theorem kw_1228 : (Jvm.Cond.methodLink "NovaDeskModel" (77 : Nat) ({ cls := "NovaDeskModel", name := "fails", desc := "(ZI)Z" } : Jvm.MethodName)) ∈ GW := gw_t (List.mem_of_getElem? (i := 1228) (by decide +kernel)) rfl
theorem kw_1231 : (Jvm.Cond.code ({ cls := "NovaDeskModel", name := "fails", desc := "(ZI)Z" } : Jvm.MethodName) prog_14_method_3_code (3 : Nat) (Option.some Jvm.ClassFile.FieldType.boolean)) ∈ GW := gw_t (List.mem_of_getElem? (i := 1231) (by decide +kernel)) rfl
theorem kw_1230 : (Jvm.Cond.instanceMethod ({ cls := "NovaDeskModel", name := "fails", desc := "(ZI)Z" } : Jvm.MethodName)) ∈ GW := gw_t (List.mem_of_getElem? (i := 1230) (by decide +kernel)) rfl
theorem kp_50 : (Jvm.Cond.selects "NovaDeskModel" ({ cls := "NovaDeskModel", name := "fails", desc := "(ZI)Z" } : Jvm.MethodName) ({ cls := "NovaDeskModel", name := "fails", desc := "(ZI)Z" } : Jvm.MethodName)) ∈ GW := gw_p (List.mem_of_getElem? (i := 50) (by decide +kernel)) rfl
theorem kw_11 : (Jvm.Cond.initialized "NovaDeskModel") ∈ GW := gw_t (List.mem_of_getElem? (i := 11) (by decide +kernel)) rfl
theorem kw_1067 : (Jvm.Cond.fieldLink "NovaDeskModel" (8 : Nat) "NovaDeskModel" "memory" "[I") ∈ GW := gw_t (List.mem_of_getElem? (i := 1067) (by decide +kernel)) rfl
theorem kw_1224 : (Jvm.Cond.methodLink "NovaDeskModel" (72 : Nat) ({ cls := "NovaDeskModel", name := "within", desc := "(III)Z" } : Jvm.MethodName)) ∈ GW := gw_t (List.mem_of_getElem? (i := 1224) (by decide +kernel)) rfl
theorem kw_1226 : (Jvm.Cond.code ({ cls := "NovaDeskModel", name := "within", desc := "(III)Z" } : Jvm.MethodName) prog_14_method_4_code (3 : Nat) (Option.some Jvm.ClassFile.FieldType.boolean)) ∈ GW := gw_t (List.mem_of_getElem? (i := 1226) (by decide +kernel)) rfl
theorem kw_1225 : (Jvm.Cond.static ({ cls := "NovaDeskModel", name := "within", desc := "(III)Z" } : Jvm.MethodName)) ∈ GW := gw_t (List.mem_of_getElem? (i := 1225) (by decide +kernel)) rfl
theorem kw_1227 : (Jvm.Cond.constant "NovaDeskModel" (76 : Nat) (65535 : Int32)) ∈ GW := gw_t (List.mem_of_getElem? (i := 1227) (by decide +kernel)) rfl
theorem kw_1071 : (Jvm.Cond.fieldLink "NovaDeskModel" (87 : Nat) "NovaDeskModel" "switches" "I") ∈ GW := gw_t (List.mem_of_getElem? (i := 1071) (by decide +kernel)) rfl
theorem kw_1070 : (Jvm.Cond.fieldLink "NovaDeskModel" (84 : Nat) "NovaDeskModel" "pc" "I") ∈ GW := gw_t (List.mem_of_getElem? (i := 1070) (by decide +kernel)) rfl
theorem kw_1069 : (Jvm.Cond.fieldLink "NovaDeskModel" (81 : Nat) "NovaDeskModel" "carry" "I") ∈ GW := gw_t (List.mem_of_getElem? (i := 1069) (by decide +kernel)) rfl
theorem kw_1068 : (Jvm.Cond.fieldLink "NovaDeskModel" (14 : Nat) "NovaDeskModel" "accumulators" "[I") ∈ GW := gw_t (List.mem_of_getElem? (i := 1068) (by decide +kernel)) rfl
theorem cw_R_77 : CVW RNR 77 "NovaDeskModel" y_R_fails b_R_fails 3 ((Option.some Jvm.ClassFile.FieldType.boolean)) 2 := cvw kw_1228 kw_1230 kp_50 kw_11 kw_1231 (by decide +kernel)
theorem cw_R_72 : CSW RNR 72 y_R_within b_R_within 3 ((Option.some Jvm.ClassFile.FieldType.boolean)) 3 := csw kw_1224 kw_1225 kw_11 kw_1226 (by decide +kernel)
