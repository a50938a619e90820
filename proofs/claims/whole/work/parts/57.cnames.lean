/-! constructors: names, words, decode rows, by program -/
abbrev b_N_init : ByteArray := prog_1_method_1_code
abbrev y_N_init : MethodName := ({ cls := "NovaDesk", name := "<init>", desc := "()V" } : Jvm.MethodName)
abbrev b_M_init : ByteArray := prog_8_method_1_code
abbrev y_M_init : MethodName := ({ cls := "NovaDesk$Machine", name := "<init>", desc := "()V" } : Jvm.MethodName)
abbrev b_E_init : ByteArray := prog_10_method_1_code
abbrev y_E_init : MethodName := ({ cls := "NovaDesk$Reader", name := "<init>", desc := "()V" } : Jvm.MethodName)
abbrev b_D_init : ByteArray := prog_4_method_1_code
abbrev y_D_init : MethodName := ({ cls := "NovaDesk$Device", name := "<init>", desc := "(II)V" } : Jvm.MethodName)
abbrev b_P_init : ByteArray := prog_9_method_1_code
abbrev y_P_init : MethodName := ({ cls := "NovaDesk$Printer", name := "<init>", desc := "()V" } : Jvm.MethodName)
abbrev b_K_init : ByteArray := prog_3_method_1_code
abbrev y_K_init : MethodName := ({ cls := "NovaDesk$Clock", name := "<init>", desc := "()V" } : Jvm.MethodName)
abbrev b_A_init : ByteArray := prog_2_method_1_code
abbrev y_A_init : MethodName := ({ cls := "NovaDesk$Assembler", name := "<init>", desc := "()V" } : Jvm.MethodName)
abbrev b_I_init : ByteArray := prog_6_method_1_code
abbrev y_I_init : MethodName := ({ cls := "NovaDesk$Items", name := "<init>", desc := "()V" } : Jvm.MethodName)
abbrev b_L_init : ByteArray := prog_7_method_1_code
abbrev y_L_init : MethodName := ({ cls := "NovaDesk$Labels", name := "<init>", desc := "()V" } : Jvm.MethodName)
abbrev b_T_init : ByteArray := prog_12_method_1_code
abbrev y_T_init : MethodName := ({ cls := "NovaDesk$Teller", name := "<init>", desc := "()V" } : Jvm.MethodName)
abbrev b_R_init : ByteArray := prog_14_method_1_code
abbrev y_R_init : MethodName := ({ cls := "NovaDeskModel", name := "<init>", desc := "()V" } : Jvm.MethodName)
theorem kw_31 : (Jvm.Cond.methodLink "NovaDesk" (1 : Nat) ({ cls := "java/lang/Object", name := "<init>", desc := "()V" } : Jvm.MethodName)) ∈ GW := gw_t (gt_1 (List.mem_of_getElem? (i := 31) rfl)) rfl
theorem kw_32 : (Jvm.Cond.instanceMethod ({ cls := "java/lang/Object", name := "<init>", desc := "()V" } : Jvm.MethodName)) ∈ GW := gw_t (gt_1 (List.mem_of_getElem? (i := 32) rfl)) rfl
theorem kw_33 : (Jvm.Cond.code ({ cls := "java/lang/Object", name := "<init>", desc := "()V" } : Jvm.MethodName) object_method_1_code (1 : Nat) (Option.none : Option Jvm.ClassFile.FieldType)) ∈ GW := gw_t (gt_1 (List.mem_of_getElem? (i := 33) rfl)) rfl
theorem kw_34 : (Jvm.Cond.classLink "NovaDesk" (7 : Nat) "NovaDesk$Machine") ∈ GW := gw_t (gt_1 (List.mem_of_getElem? (i := 34) rfl)) rfl
theorem kw_35 : (Jvm.Cond.instantiable "NovaDesk$Machine" (14 : Nat)) ∈ GW := gw_t (gt_1 (List.mem_of_getElem? (i := 35) rfl)) rfl
theorem kw_39 : (Jvm.Cond.methodLink "NovaDesk$Machine" (3 : Nat) ({ cls := "java/lang/Object", name := "<init>", desc := "()V" } : Jvm.MethodName)) ∈ GW := gw_t (gt_1 (List.mem_of_getElem? (i := 39) rfl)) rfl
theorem kw_86 : (Jvm.Cond.arrayClass Jvm.ClassFile.FieldType.int) ∈ GW := gw_t (gt_1 (List.mem_of_getElem? (i := 86) rfl)) rfl
theorem kw_41 : (Jvm.Cond.classLink "NovaDesk$Machine" (19 : Nat) "NovaDesk$Reader") ∈ GW := gw_t (gt_1 (List.mem_of_getElem? (i := 41) rfl)) rfl
theorem kw_42 : (Jvm.Cond.instantiable "NovaDesk$Reader" (9 : Nat)) ∈ GW := gw_t (gt_1 (List.mem_of_getElem? (i := 42) rfl)) rfl
theorem kw_49 : (Jvm.Cond.methodLink "NovaDesk$Device" (1 : Nat) ({ cls := "java/lang/Object", name := "<init>", desc := "()V" } : Jvm.MethodName)) ∈ GW := gw_t (gt_1 (List.mem_of_getElem? (i := 49) rfl)) rfl
theorem kw_47 : (Jvm.Cond.instanceMethod ({ cls := "NovaDesk$Device", name := "<init>", desc := "(II)V" } : Jvm.MethodName)) ∈ GW := gw_t (gt_1 (List.mem_of_getElem? (i := 47) rfl)) rfl
theorem kw_48 : (Jvm.Cond.code ({ cls := "NovaDesk$Device", name := "<init>", desc := "(II)V" } : Jvm.MethodName) prog_4_method_1_code (3 : Nat) (Option.none : Option Jvm.ClassFile.FieldType)) ∈ GW := gw_t (gt_1 (List.mem_of_getElem? (i := 48) rfl)) rfl
theorem kw_46 : (Jvm.Cond.methodLink "NovaDesk$Reader" (3 : Nat) ({ cls := "NovaDesk$Device", name := "<init>", desc := "(II)V" } : Jvm.MethodName)) ∈ GW := gw_t (gt_1 (List.mem_of_getElem? (i := 46) rfl)) rfl
theorem kw_87 : (Jvm.Cond.arrayClass Jvm.ClassFile.FieldType.char) ∈ GW := gw_t (gt_1 (List.mem_of_getElem? (i := 87) rfl)) rfl
theorem kw_44 : (Jvm.Cond.instanceMethod ({ cls := "NovaDesk$Reader", name := "<init>", desc := "()V" } : Jvm.MethodName)) ∈ GW := gw_t (gt_1 (List.mem_of_getElem? (i := 44) rfl)) rfl
theorem kw_45 : (Jvm.Cond.code ({ cls := "NovaDesk$Reader", name := "<init>", desc := "()V" } : Jvm.MethodName) prog_10_method_1_code (1 : Nat) (Option.none : Option Jvm.ClassFile.FieldType)) ∈ GW := gw_t (gt_1 (List.mem_of_getElem? (i := 45) rfl)) rfl
theorem kw_43 : (Jvm.Cond.methodLink "NovaDesk$Machine" (21 : Nat) ({ cls := "NovaDesk$Reader", name := "<init>", desc := "()V" } : Jvm.MethodName)) ∈ GW := gw_t (gt_1 (List.mem_of_getElem? (i := 43) rfl)) rfl
theorem kw_124 : (Jvm.Cond.fieldLink "NovaDesk$Machine" (22 : Nat) "NovaDesk$Machine" "reader" "LNovaDesk$Reader;") ∈ GW := gw_t (gt_1 (List.mem_of_getElem? (i := 124) rfl)) rfl
theorem kw_88 : (Jvm.Cond.classLink "NovaDesk$Machine" (26 : Nat) "NovaDesk$Printer") ∈ GW := gw_t (gt_1 (List.mem_of_getElem? (i := 88) rfl)) rfl
theorem kw_89 : (Jvm.Cond.instantiable "NovaDesk$Printer" (8 : Nat)) ∈ GW := gw_t (gt_1 (List.mem_of_getElem? (i := 89) rfl)) rfl
theorem kw_93 : (Jvm.Cond.methodLink "NovaDesk$Printer" (3 : Nat) ({ cls := "NovaDesk$Device", name := "<init>", desc := "(II)V" } : Jvm.MethodName)) ∈ GW := gw_t (gt_1 (List.mem_of_getElem? (i := 93) rfl)) rfl
theorem kw_91 : (Jvm.Cond.instanceMethod ({ cls := "NovaDesk$Printer", name := "<init>", desc := "()V" } : Jvm.MethodName)) ∈ GW := gw_t (gt_1 (List.mem_of_getElem? (i := 91) rfl)) rfl
theorem kw_92 : (Jvm.Cond.code ({ cls := "NovaDesk$Printer", name := "<init>", desc := "()V" } : Jvm.MethodName) prog_9_method_1_code (1 : Nat) (Option.none : Option Jvm.ClassFile.FieldType)) ∈ GW := gw_t (gt_1 (List.mem_of_getElem? (i := 92) rfl)) rfl
theorem kw_90 : (Jvm.Cond.methodLink "NovaDesk$Machine" (28 : Nat) ({ cls := "NovaDesk$Printer", name := "<init>", desc := "()V" } : Jvm.MethodName)) ∈ GW := gw_t (gt_1 (List.mem_of_getElem? (i := 90) rfl)) rfl
theorem kw_126 : (Jvm.Cond.fieldLink "NovaDesk$Machine" (29 : Nat) "NovaDesk$Machine" "printer" "LNovaDesk$Printer;") ∈ GW := gw_t (gt_1 (List.mem_of_getElem? (i := 126) rfl)) rfl
theorem kw_107 : (Jvm.Cond.classLink "NovaDesk$Machine" (33 : Nat) "NovaDesk$Device") ∈ GW := gw_t (gt_1 (List.mem_of_getElem? (i := 107) rfl)) rfl
theorem kw_109 : (Jvm.Cond.classLink "NovaDesk$Machine" (35 : Nat) "NovaDesk$Clock") ∈ GW := gw_t (gt_1 (List.mem_of_getElem? (i := 109) rfl)) rfl
theorem kw_110 : (Jvm.Cond.instantiable "NovaDesk$Clock" (6 : Nat)) ∈ GW := gw_t (gt_1 (List.mem_of_getElem? (i := 110) rfl)) rfl
theorem kw_114 : (Jvm.Cond.methodLink "NovaDesk$Clock" (1 : Nat) ({ cls := "NovaDesk$Device", name := "<init>", desc := "(II)V" } : Jvm.MethodName)) ∈ GW := gw_t (gt_1 (List.mem_of_getElem? (i := 114) rfl)) rfl
theorem kw_112 : (Jvm.Cond.instanceMethod ({ cls := "NovaDesk$Clock", name := "<init>", desc := "()V" } : Jvm.MethodName)) ∈ GW := gw_t (gt_1 (List.mem_of_getElem? (i := 112) rfl)) rfl
theorem kw_113 : (Jvm.Cond.code ({ cls := "NovaDesk$Clock", name := "<init>", desc := "()V" } : Jvm.MethodName) prog_3_method_1_code (1 : Nat) (Option.none : Option Jvm.ClassFile.FieldType)) ∈ GW := gw_t (gt_1 (List.mem_of_getElem? (i := 113) rfl)) rfl
theorem kw_111 : (Jvm.Cond.methodLink "NovaDesk$Machine" (37 : Nat) ({ cls := "NovaDesk$Clock", name := "<init>", desc := "()V" } : Jvm.MethodName)) ∈ GW := gw_t (gt_1 (List.mem_of_getElem? (i := 111) rfl)) rfl
theorem kw_37 : (Jvm.Cond.instanceMethod ({ cls := "NovaDesk$Machine", name := "<init>", desc := "()V" } : Jvm.MethodName)) ∈ GW := gw_t (gt_1 (List.mem_of_getElem? (i := 37) rfl)) rfl
theorem kw_38 : (Jvm.Cond.code ({ cls := "NovaDesk$Machine", name := "<init>", desc := "()V" } : Jvm.MethodName) prog_8_method_1_code (1 : Nat) (Option.none : Option Jvm.ClassFile.FieldType)) ∈ GW := gw_t (gt_1 (List.mem_of_getElem? (i := 38) rfl)) rfl
theorem kw_168 : (Jvm.Cond.classLink "NovaDesk" (16 : Nat) "NovaDesk$Assembler") ∈ GW := gw_t (gt_1 (List.mem_of_getElem? (i := 168) rfl)) rfl
theorem kw_169 : (Jvm.Cond.instantiable "NovaDesk$Assembler" (14 : Nat)) ∈ GW := gw_t (gt_1 (List.mem_of_getElem? (i := 169) rfl)) rfl
theorem kw_173 : (Jvm.Cond.methodLink "NovaDesk$Assembler" (3 : Nat) ({ cls := "java/lang/Object", name := "<init>", desc := "()V" } : Jvm.MethodName)) ∈ GW := gw_t (gt_1 (List.mem_of_getElem? (i := 173) rfl)) rfl
theorem kw_174 : (Jvm.Cond.classLink "NovaDesk$Assembler" (9 : Nat) "NovaDesk$Items") ∈ GW := gw_t (gt_1 (List.mem_of_getElem? (i := 174) rfl)) rfl
theorem kw_175 : (Jvm.Cond.instantiable "NovaDesk$Items" (5 : Nat)) ∈ GW := gw_t (gt_1 (List.mem_of_getElem? (i := 175) rfl)) rfl
theorem kw_179 : (Jvm.Cond.methodLink "NovaDesk$Items" (3 : Nat) ({ cls := "java/lang/Object", name := "<init>", desc := "()V" } : Jvm.MethodName)) ∈ GW := gw_t (gt_1 (List.mem_of_getElem? (i := 179) rfl)) rfl
theorem kw_199 : (Jvm.Cond.arrayClass Jvm.ClassFile.FieldType.long) ∈ GW := gw_t (gt_1 (List.mem_of_getElem? (i := 199) rfl)) rfl
theorem kw_177 : (Jvm.Cond.instanceMethod ({ cls := "NovaDesk$Items", name := "<init>", desc := "()V" } : Jvm.MethodName)) ∈ GW := gw_t (gt_1 (List.mem_of_getElem? (i := 177) rfl)) rfl
theorem kw_178 : (Jvm.Cond.code ({ cls := "NovaDesk$Items", name := "<init>", desc := "()V" } : Jvm.MethodName) prog_6_method_1_code (1 : Nat) (Option.none : Option Jvm.ClassFile.FieldType)) ∈ GW := gw_t (gt_1 (List.mem_of_getElem? (i := 178) rfl)) rfl
theorem kw_200 : (Jvm.Cond.classLink "NovaDesk$Assembler" (18 : Nat) "NovaDesk$Labels") ∈ GW := gw_t (gt_1 (List.mem_of_getElem? (i := 200) rfl)) rfl
theorem kw_201 : (Jvm.Cond.instantiable "NovaDesk$Labels" (3 : Nat)) ∈ GW := gw_t (gt_1 (List.mem_of_getElem? (i := 201) rfl)) rfl
theorem kw_205 : (Jvm.Cond.methodLink "NovaDesk$Labels" (3 : Nat) ({ cls := "java/lang/Object", name := "<init>", desc := "()V" } : Jvm.MethodName)) ∈ GW := gw_t (gt_1 (List.mem_of_getElem? (i := 205) rfl)) rfl
theorem kw_203 : (Jvm.Cond.instanceMethod ({ cls := "NovaDesk$Labels", name := "<init>", desc := "()V" } : Jvm.MethodName)) ∈ GW := gw_t (gt_1 (List.mem_of_getElem? (i := 203) rfl)) rfl
theorem kw_204 : (Jvm.Cond.code ({ cls := "NovaDesk$Labels", name := "<init>", desc := "()V" } : Jvm.MethodName) prog_7_method_1_code (1 : Nat) (Option.none : Option Jvm.ClassFile.FieldType)) ∈ GW := gw_t (gt_1 (List.mem_of_getElem? (i := 204) rfl)) rfl
theorem kw_171 : (Jvm.Cond.instanceMethod ({ cls := "NovaDesk$Assembler", name := "<init>", desc := "()V" } : Jvm.MethodName)) ∈ GW := gw_t (gt_1 (List.mem_of_getElem? (i := 171) rfl)) rfl
theorem kw_172 : (Jvm.Cond.code ({ cls := "NovaDesk$Assembler", name := "<init>", desc := "()V" } : Jvm.MethodName) prog_2_method_1_code (1 : Nat) (Option.none : Option Jvm.ClassFile.FieldType)) ∈ GW := gw_t (gt_1 (List.mem_of_getElem? (i := 172) rfl)) rfl
theorem kw_263 : (Jvm.Cond.classLink "NovaDesk" (23 : Nat) "NovaDesk$Teller") ∈ GW := gw_t (gt_2 (List.mem_of_getElem? (i := 23) rfl)) rfl
theorem kw_264 : (Jvm.Cond.instantiable "NovaDesk$Teller" (2 : Nat)) ∈ GW := gw_t (gt_2 (List.mem_of_getElem? (i := 24) rfl)) rfl
theorem kw_268 : (Jvm.Cond.methodLink "NovaDesk$Teller" (3 : Nat) ({ cls := "java/lang/Object", name := "<init>", desc := "()V" } : Jvm.MethodName)) ∈ GW := gw_t (gt_2 (List.mem_of_getElem? (i := 28) rfl)) rfl
theorem kw_266 : (Jvm.Cond.instanceMethod ({ cls := "NovaDesk$Teller", name := "<init>", desc := "()V" } : Jvm.MethodName)) ∈ GW := gw_t (gt_2 (List.mem_of_getElem? (i := 26) rfl)) rfl
theorem kw_267 : (Jvm.Cond.code ({ cls := "NovaDesk$Teller", name := "<init>", desc := "()V" } : Jvm.MethodName) prog_12_method_1_code (1 : Nat) (Option.none : Option Jvm.ClassFile.FieldType)) ∈ GW := gw_t (gt_2 (List.mem_of_getElem? (i := 27) rfl)) rfl
theorem kw_1065 : (Jvm.Cond.methodLink "NovaDeskModel" (1 : Nat) ({ cls := "java/lang/Object", name := "<init>", desc := "()V" } : Jvm.MethodName)) ∈ GW := gw_t (gt_5 (List.mem_of_getElem? (i := 105) rfl)) rfl
theorem kw_1215 : (Jvm.Cond.arrayClass Jvm.ClassFile.FieldType.boolean) ∈ GW := gw_t (gt_6 (List.mem_of_getElem? (i := 15) rfl)) rfl
theorem kw_633 : (Jvm.Cond.arrayClass Jvm.ClassFile.FieldType.byte) ∈ GW := gw_t (gt_3 (List.mem_of_getElem? (i := 153) rfl)) rfl
theorem d_N_init_0 : decode b_N_init 0 = .ok (.aload_n 0, 1) := by decide +kernel
theorem d_N_init_1 : decode b_N_init 1 = .ok (.invokespecial 1, 3) := by decide +kernel
theorem d_N_init_4 : decode b_N_init 4 = .ok (.aload_n 0, 1) := by decide +kernel
theorem d_N_init_5 : decode b_N_init 5 = .ok (.new 7, 3) := by decide +kernel
theorem d_N_init_8 : decode b_N_init 8 = .ok (.dup, 1) := by decide +kernel
theorem d_N_init_9 : decode b_N_init 9 = .ok (.invokespecial 9, 3) := by decide +kernel
theorem d_M_init_0 : decode b_M_init 0 = .ok (.aload_n 0, 1) := by decide +kernel
theorem d_M_init_1 : decode b_M_init 1 = .ok (.invokespecial 3, 3) := by decide +kernel
theorem d_M_init_4 : decode b_M_init 4 = .ok (.aload_n 0, 1) := by decide +kernel
theorem d_M_init_5 : decode b_M_init 5 = .ok (.ldc 9, 2) := by decide +kernel
theorem d_M_init_7 : decode b_M_init 7 = .ok (.newarray .int, 2) := by decide +kernel
theorem d_M_init_9 : decode b_M_init 9 = .ok (.putfield 10, 3) := by decide +kernel
theorem d_M_init_12 : decode b_M_init 12 = .ok (.aload_n 0, 1) := by decide +kernel
theorem d_M_init_13 : decode b_M_init 13 = .ok (.iconst 4, 1) := by decide +kernel
theorem d_M_init_14 : decode b_M_init 14 = .ok (.newarray .int, 2) := by decide +kernel
theorem d_M_init_16 : decode b_M_init 16 = .ok (.putfield 16, 3) := by decide +kernel
theorem d_M_init_19 : decode b_M_init 19 = .ok (.aload_n 0, 1) := by decide +kernel
theorem d_M_init_20 : decode b_M_init 20 = .ok (.new 19, 3) := by decide +kernel
theorem d_M_init_23 : decode b_M_init 23 = .ok (.dup, 1) := by decide +kernel
theorem d_M_init_24 : decode b_M_init 24 = .ok (.invokespecial 21, 3) := by decide +kernel
theorem d_E_init_0 : decode b_E_init 0 = .ok (.aload_n 0, 1) := by decide +kernel
theorem d_E_init_1 : decode b_E_init 1 = .ok (.iconst 2, 1) := by decide +kernel
theorem d_E_init_2 : decode b_E_init 2 = .ok (.iconst 4, 1) := by decide +kernel
theorem d_E_init_3 : decode b_E_init 3 = .ok (.invokespecial 3, 3) := by decide +kernel
theorem d_D_init_0 : decode b_D_init 0 = .ok (.aload_n 0, 1) := by decide +kernel
theorem d_D_init_1 : decode b_D_init 1 = .ok (.invokespecial 1, 3) := by decide +kernel
theorem d_D_init_4 : decode b_D_init 4 = .ok (.aload_n 0, 1) := by decide +kernel
theorem d_D_init_5 : decode b_D_init 5 = .ok (.iload_n 1, 1) := by decide +kernel
theorem d_D_init_6 : decode b_D_init 6 = .ok (.putfield 7, 3) := by decide +kernel
theorem d_D_init_9 : decode b_D_init 9 = .ok (.aload_n 0, 1) := by decide +kernel
theorem d_D_init_10 : decode b_D_init 10 = .ok (.iload_n 2, 1) := by decide +kernel
theorem d_D_init_11 : decode b_D_init 11 = .ok (.putfield 13, 3) := by decide +kernel
theorem d_D_init_14 : decode b_D_init 14 = .ok (.return_, 1) := by decide +kernel
theorem d_E_init_6 : decode b_E_init 6 = .ok (.aload_n 0, 1) := by decide +kernel
theorem d_E_init_7 : decode b_E_init 7 = .ok (.sipush 500, 3) := by decide +kernel
theorem d_E_init_10 : decode b_E_init 10 = .ok (.newarray .char, 2) := by decide +kernel
theorem d_E_init_12 : decode b_E_init 12 = .ok (.putfield 9, 3) := by decide +kernel
theorem d_E_init_15 : decode b_E_init 15 = .ok (.return_, 1) := by decide +kernel
theorem d_M_init_27 : decode b_M_init 27 = .ok (.putfield 22, 3) := by decide +kernel
theorem d_M_init_30 : decode b_M_init 30 = .ok (.aload_n 0, 1) := by decide +kernel
theorem d_M_init_31 : decode b_M_init 31 = .ok (.new 26, 3) := by decide +kernel
theorem d_M_init_34 : decode b_M_init 34 = .ok (.dup, 1) := by decide +kernel
theorem d_M_init_35 : decode b_M_init 35 = .ok (.invokespecial 28, 3) := by decide +kernel
theorem d_P_init_0 : decode b_P_init 0 = .ok (.aload_n 0, 1) := by decide +kernel
theorem d_P_init_1 : decode b_P_init 1 = .ok (.iconst 1, 1) := by decide +kernel
theorem d_P_init_2 : decode b_P_init 2 = .ok (.iconst 4, 1) := by decide +kernel
theorem d_P_init_3 : decode b_P_init 3 = .ok (.invokespecial 3, 3) := by decide +kernel
theorem d_P_init_6 : decode b_P_init 6 = .ok (.aload_n 0, 1) := by decide +kernel
theorem d_P_init_7 : decode b_P_init 7 = .ok (.sipush 1000, 3) := by decide +kernel
theorem d_P_init_10 : decode b_P_init 10 = .ok (.newarray .char, 2) := by decide +kernel
theorem d_P_init_12 : decode b_P_init 12 = .ok (.putfield 9, 3) := by decide +kernel
theorem d_P_init_15 : decode b_P_init 15 = .ok (.return_, 1) := by decide +kernel
theorem d_M_init_38 : decode b_M_init 38 = .ok (.putfield 29, 3) := by decide +kernel
theorem d_M_init_41 : decode b_M_init 41 = .ok (.aload_n 0, 1) := by decide +kernel
theorem d_M_init_42 : decode b_M_init 42 = .ok (.iconst 3, 1) := by decide +kernel
theorem d_M_init_43 : decode b_M_init 43 = .ok (.anewarray 33, 3) := by decide +kernel
theorem d_M_init_46 : decode b_M_init 46 = .ok (.dup, 1) := by decide +kernel
theorem d_M_init_47 : decode b_M_init 47 = .ok (.iconst 0, 1) := by decide +kernel
theorem d_M_init_48 : decode b_M_init 48 = .ok (.aload_n 0, 1) := by decide +kernel
theorem d_M_init_49 : decode b_M_init 49 = .ok (.getfield 22, 3) := by decide +kernel
theorem d_M_init_52 : decode b_M_init 52 = .ok (.aastore, 1) := by decide +kernel
theorem d_M_init_53 : decode b_M_init 53 = .ok (.dup, 1) := by decide +kernel
theorem d_M_init_54 : decode b_M_init 54 = .ok (.iconst 1, 1) := by decide +kernel
theorem d_M_init_55 : decode b_M_init 55 = .ok (.aload_n 0, 1) := by decide +kernel
theorem d_M_init_56 : decode b_M_init 56 = .ok (.getfield 29, 3) := by decide +kernel
theorem d_M_init_59 : decode b_M_init 59 = .ok (.aastore, 1) := by decide +kernel
theorem d_M_init_60 : decode b_M_init 60 = .ok (.dup, 1) := by decide +kernel
theorem d_M_init_61 : decode b_M_init 61 = .ok (.iconst 2, 1) := by decide +kernel
theorem d_M_init_62 : decode b_M_init 62 = .ok (.new 35, 3) := by decide +kernel
theorem d_M_init_65 : decode b_M_init 65 = .ok (.dup, 1) := by decide +kernel
theorem d_M_init_66 : decode b_M_init 66 = .ok (.invokespecial 37, 3) := by decide +kernel
theorem d_K_init_0 : decode b_K_init 0 = .ok (.aload_n 0, 1) := by decide +kernel
theorem d_K_init_1 : decode b_K_init 1 = .ok (.iconst 4, 1) := by decide +kernel
theorem d_K_init_2 : decode b_K_init 2 = .ok (.bipush 20, 2) := by decide +kernel
theorem d_K_init_4 : decode b_K_init 4 = .ok (.invokespecial 1, 3) := by decide +kernel
theorem d_K_init_7 : decode b_K_init 7 = .ok (.return_, 1) := by decide +kernel
theorem d_M_init_69 : decode b_M_init 69 = .ok (.aastore, 1) := by decide +kernel
theorem d_M_init_70 : decode b_M_init 70 = .ok (.putfield 38, 3) := by decide +kernel
theorem d_M_init_73 : decode b_M_init 73 = .ok (.return_, 1) := by decide +kernel
theorem d_N_init_12 : decode b_N_init 12 = .ok (.putfield 10, 3) := by decide +kernel
theorem d_N_init_15 : decode b_N_init 15 = .ok (.aload_n 0, 1) := by decide +kernel
theorem d_N_init_16 : decode b_N_init 16 = .ok (.new 16, 3) := by decide +kernel
theorem d_N_init_19 : decode b_N_init 19 = .ok (.dup, 1) := by decide +kernel
theorem d_N_init_20 : decode b_N_init 20 = .ok (.invokespecial 18, 3) := by decide +kernel
theorem d_A_init_0 : decode b_A_init 0 = .ok (.aload_n 0, 1) := by decide +kernel
theorem d_A_init_1 : decode b_A_init 1 = .ok (.invokespecial 3, 3) := by decide +kernel
theorem d_A_init_4 : decode b_A_init 4 = .ok (.aload_n 0, 1) := by decide +kernel
theorem d_A_init_5 : decode b_A_init 5 = .ok (.new 9, 3) := by decide +kernel
theorem d_A_init_8 : decode b_A_init 8 = .ok (.dup, 1) := by decide +kernel
theorem d_A_init_9 : decode b_A_init 9 = .ok (.invokespecial 11, 3) := by decide +kernel
theorem d_I_init_0 : decode b_I_init 0 = .ok (.aload_n 0, 1) := by decide +kernel
theorem d_I_init_1 : decode b_I_init 1 = .ok (.invokespecial 3, 3) := by decide +kernel
theorem d_I_init_4 : decode b_I_init 4 = .ok (.aload_n 0, 1) := by decide +kernel
theorem d_I_init_5 : decode b_I_init 5 = .ok (.sipush 6000, 3) := by decide +kernel
theorem d_I_init_8 : decode b_I_init 8 = .ok (.newarray .char, 2) := by decide +kernel
theorem d_I_init_10 : decode b_I_init 10 = .ok (.putfield 9, 3) := by decide +kernel
theorem d_I_init_13 : decode b_I_init 13 = .ok (.aload_n 0, 1) := by decide +kernel
theorem d_I_init_14 : decode b_I_init 14 = .ok (.sipush 6001, 3) := by decide +kernel
theorem d_I_init_17 : decode b_I_init 17 = .ok (.newarray .long, 2) := by decide +kernel
theorem d_I_init_19 : decode b_I_init 19 = .ok (.putfield 15, 3) := by decide +kernel
theorem d_I_init_22 : decode b_I_init 22 = .ok (.return_, 1) := by decide +kernel
theorem d_A_init_12 : decode b_A_init 12 = .ok (.putfield 12, 3) := by decide +kernel
theorem d_A_init_15 : decode b_A_init 15 = .ok (.aload_n 0, 1) := by decide +kernel
theorem d_A_init_16 : decode b_A_init 16 = .ok (.new 18, 3) := by decide +kernel
theorem d_A_init_19 : decode b_A_init 19 = .ok (.dup, 1) := by decide +kernel
theorem d_A_init_20 : decode b_A_init 20 = .ok (.invokespecial 20, 3) := by decide +kernel
theorem d_L_init_0 : decode b_L_init 0 = .ok (.aload_n 0, 1) := by decide +kernel
theorem d_L_init_1 : decode b_L_init 1 = .ok (.invokespecial 3, 3) := by decide +kernel
theorem d_L_init_4 : decode b_L_init 4 = .ok (.aload_n 0, 1) := by decide +kernel
theorem d_L_init_5 : decode b_L_init 5 = .ok (.sipush 200, 3) := by decide +kernel
theorem d_L_init_8 : decode b_L_init 8 = .ok (.newarray .long, 2) := by decide +kernel
theorem d_L_init_10 : decode b_L_init 10 = .ok (.putfield 9, 3) := by decide +kernel
theorem d_L_init_13 : decode b_L_init 13 = .ok (.aload_n 0, 1) := by decide +kernel
theorem d_L_init_14 : decode b_L_init 14 = .ok (.sipush 200, 3) := by decide +kernel
theorem d_L_init_17 : decode b_L_init 17 = .ok (.newarray .int, 2) := by decide +kernel
theorem d_L_init_19 : decode b_L_init 19 = .ok (.putfield 15, 3) := by decide +kernel
theorem d_L_init_22 : decode b_L_init 22 = .ok (.return_, 1) := by decide +kernel
theorem d_A_init_23 : decode b_A_init 23 = .ok (.putfield 21, 3) := by decide +kernel
theorem d_A_init_26 : decode b_A_init 26 = .ok (.aload_n 0, 1) := by decide +kernel
theorem d_A_init_27 : decode b_A_init 27 = .ok (.new 18, 3) := by decide +kernel
theorem d_A_init_30 : decode b_A_init 30 = .ok (.dup, 1) := by decide +kernel
theorem d_A_init_31 : decode b_A_init 31 = .ok (.invokespecial 20, 3) := by decide +kernel
theorem d_A_init_34 : decode b_A_init 34 = .ok (.putfield 25, 3) := by decide +kernel
theorem d_A_init_37 : decode b_A_init 37 = .ok (.aload_n 0, 1) := by decide +kernel
theorem d_A_init_38 : decode b_A_init 38 = .ok (.sipush 3000, 3) := by decide +kernel
theorem d_A_init_41 : decode b_A_init 41 = .ok (.newarray .int, 2) := by decide +kernel
theorem d_A_init_43 : decode b_A_init 43 = .ok (.putfield 28, 3) := by decide +kernel
theorem d_A_init_46 : decode b_A_init 46 = .ok (.aload_n 0, 1) := by decide +kernel
theorem d_A_init_47 : decode b_A_init 47 = .ok (.sipush 3000, 3) := by decide +kernel
theorem d_A_init_50 : decode b_A_init 50 = .ok (.newarray .int, 2) := by decide +kernel
theorem d_A_init_52 : decode b_A_init 52 = .ok (.putfield 32, 3) := by decide +kernel
theorem d_A_init_55 : decode b_A_init 55 = .ok (.aload_n 0, 1) := by decide +kernel
theorem d_A_init_56 : decode b_A_init 56 = .ok (.iconst 3, 1) := by decide +kernel
theorem d_A_init_57 : decode b_A_init 57 = .ok (.newarray .int, 2) := by decide +kernel
theorem d_A_init_59 : decode b_A_init 59 = .ok (.putfield 35, 3) := by decide +kernel
theorem d_A_init_62 : decode b_A_init 62 = .ok (.return_, 1) := by decide +kernel
theorem d_N_init_23 : decode b_N_init 23 = .ok (.putfield 19, 3) := by decide +kernel
theorem d_N_init_26 : decode b_N_init 26 = .ok (.aload_n 0, 1) := by decide +kernel
theorem d_N_init_27 : decode b_N_init 27 = .ok (.new 23, 3) := by decide +kernel
theorem d_N_init_30 : decode b_N_init 30 = .ok (.dup, 1) := by decide +kernel
theorem d_N_init_31 : decode b_N_init 31 = .ok (.invokespecial 25, 3) := by decide +kernel
theorem d_T_init_0 : decode b_T_init 0 = .ok (.aload_n 0, 1) := by decide +kernel
theorem d_T_init_1 : decode b_T_init 1 = .ok (.invokespecial 3, 3) := by decide +kernel
theorem d_T_init_4 : decode b_T_init 4 = .ok (.aload_n 0, 1) := by decide +kernel
theorem d_T_init_5 : decode b_T_init 5 = .ok (.bipush 32, 2) := by decide +kernel
theorem d_T_init_7 : decode b_T_init 7 = .ok (.newarray .char, 2) := by decide +kernel
theorem d_T_init_9 : decode b_T_init 9 = .ok (.putfield 9, 3) := by decide +kernel
theorem d_T_init_12 : decode b_T_init 12 = .ok (.return_, 1) := by decide +kernel
theorem d_N_init_34 : decode b_N_init 34 = .ok (.putfield 26, 3) := by decide +kernel
theorem d_N_init_37 : decode b_N_init 37 = .ok (.return_, 1) := by decide +kernel
theorem d_R_init_0 : decode b_R_init 0 = .ok (.aload_n 0, 1) := by decide +kernel
theorem d_R_init_1 : decode b_R_init 1 = .ok (.invokespecial 1, 3) := by decide +kernel
theorem d_R_init_4 : decode b_R_init 4 = .ok (.aload_n 0, 1) := by decide +kernel
theorem d_R_init_5 : decode b_R_init 5 = .ok (.ldc 7, 2) := by decide +kernel
theorem d_R_init_7 : decode b_R_init 7 = .ok (.newarray .int, 2) := by decide +kernel
theorem d_R_init_9 : decode b_R_init 9 = .ok (.putfield 8, 3) := by decide +kernel
theorem d_R_init_12 : decode b_R_init 12 = .ok (.aload_n 0, 1) := by decide +kernel
theorem d_R_init_13 : decode b_R_init 13 = .ok (.iconst 4, 1) := by decide +kernel
theorem d_R_init_14 : decode b_R_init 14 = .ok (.newarray .int, 2) := by decide +kernel
theorem d_R_init_16 : decode b_R_init 16 = .ok (.putfield 14, 3) := by decide +kernel
theorem d_R_init_19 : decode b_R_init 19 = .ok (.aload_n 0, 1) := by decide +kernel
theorem d_R_init_20 : decode b_R_init 20 = .ok (.iconst 3, 1) := by decide +kernel
theorem d_R_init_21 : decode b_R_init 21 = .ok (.newarray .int, 2) := by decide +kernel
theorem d_R_init_23 : decode b_R_init 23 = .ok (.putfield 17, 3) := by decide +kernel
theorem d_R_init_26 : decode b_R_init 26 = .ok (.aload_n 0, 1) := by decide +kernel
theorem d_R_init_27 : decode b_R_init 27 = .ok (.iconst 3, 1) := by decide +kernel
theorem d_R_init_28 : decode b_R_init 28 = .ok (.newarray .boolean, 2) := by decide +kernel
theorem d_R_init_30 : decode b_R_init 30 = .ok (.putfield 20, 3) := by decide +kernel
theorem d_R_init_33 : decode b_R_init 33 = .ok (.aload_n 0, 1) := by decide +kernel
theorem d_R_init_34 : decode b_R_init 34 = .ok (.iconst 3, 1) := by decide +kernel
theorem d_R_init_35 : decode b_R_init 35 = .ok (.newarray .boolean, 2) := by decide +kernel
theorem d_R_init_37 : decode b_R_init 37 = .ok (.putfield 24, 3) := by decide +kernel
theorem d_R_init_40 : decode b_R_init 40 = .ok (.aload_n 0, 1) := by decide +kernel
theorem d_R_init_41 : decode b_R_init 41 = .ok (.iconst 3, 1) := by decide +kernel
theorem d_R_init_42 : decode b_R_init 42 = .ok (.newarray .int, 2) := by decide +kernel
theorem d_R_init_44 : decode b_R_init 44 = .ok (.putfield 27, 3) := by decide +kernel
theorem d_R_init_47 : decode b_R_init 47 = .ok (.aload_n 0, 1) := by decide +kernel
theorem d_R_init_48 : decode b_R_init 48 = .ok (.sipush 500, 3) := by decide +kernel
theorem d_R_init_51 : decode b_R_init 51 = .ok (.newarray .int, 2) := by decide +kernel
theorem d_R_init_53 : decode b_R_init 53 = .ok (.putfield 30, 3) := by decide +kernel
theorem d_R_init_56 : decode b_R_init 56 = .ok (.aload_n 0, 1) := by decide +kernel
theorem d_R_init_57 : decode b_R_init 57 = .ok (.sipush 1000, 3) := by decide +kernel
theorem d_R_init_60 : decode b_R_init 60 = .ok (.newarray .int, 2) := by decide +kernel
theorem d_R_init_62 : decode b_R_init 62 = .ok (.putfield 33, 3) := by decide +kernel
theorem d_R_init_65 : decode b_R_init 65 = .ok (.aload_n 0, 1) := by decide +kernel
theorem d_R_init_66 : decode b_R_init 66 = .ok (.sipush 6000, 3) := by decide +kernel
theorem d_R_init_69 : decode b_R_init 69 = .ok (.newarray .byte, 2) := by decide +kernel
theorem d_R_init_71 : decode b_R_init 71 = .ok (.putfield 36, 3) := by decide +kernel
theorem d_R_init_74 : decode b_R_init 74 = .ok (.aload_n 0, 1) := by decide +kernel
theorem d_R_init_75 : decode b_R_init 75 = .ok (.sipush 200, 3) := by decide +kernel
theorem d_R_init_78 : decode b_R_init 78 = .ok (.newarray .long, 2) := by decide +kernel
theorem d_R_init_80 : decode b_R_init 80 = .ok (.putfield 40, 3) := by decide +kernel
theorem d_R_init_83 : decode b_R_init 83 = .ok (.aload_n 0, 1) := by decide +kernel
theorem d_R_init_84 : decode b_R_init 84 = .ok (.sipush 200, 3) := by decide +kernel
theorem d_R_init_87 : decode b_R_init 87 = .ok (.newarray .int, 2) := by decide +kernel
theorem d_R_init_89 : decode b_R_init 89 = .ok (.putfield 44, 3) := by decide +kernel
theorem d_R_init_92 : decode b_R_init 92 = .ok (.aload_n 0, 1) := by decide +kernel
theorem d_R_init_93 : decode b_R_init 93 = .ok (.sipush 200, 3) := by decide +kernel
theorem d_R_init_96 : decode b_R_init 96 = .ok (.newarray .long, 2) := by decide +kernel
theorem d_R_init_98 : decode b_R_init 98 = .ok (.putfield 47, 3) := by decide +kernel
theorem d_R_init_101 : decode b_R_init 101 = .ok (.aload_n 0, 1) := by decide +kernel
theorem d_R_init_102 : decode b_R_init 102 = .ok (.sipush 200, 3) := by decide +kernel
theorem d_R_init_105 : decode b_R_init 105 = .ok (.newarray .int, 2) := by decide +kernel
theorem d_R_init_107 : decode b_R_init 107 = .ok (.putfield 50, 3) := by decide +kernel
theorem d_R_init_110 : decode b_R_init 110 = .ok (.aload_n 0, 1) := by decide +kernel
theorem d_R_init_111 : decode b_R_init 111 = .ok (.sipush 6000, 3) := by decide +kernel
theorem d_R_init_114 : decode b_R_init 114 = .ok (.newarray .int, 2) := by decide +kernel
theorem d_R_init_116 : decode b_R_init 116 = .ok (.putfield 53, 3) := by decide +kernel
theorem d_R_init_119 : decode b_R_init 119 = .ok (.aload_n 0, 1) := by decide +kernel
theorem d_R_init_120 : decode b_R_init 120 = .ok (.sipush 6000, 3) := by decide +kernel
theorem d_R_init_123 : decode b_R_init 123 = .ok (.newarray .int, 2) := by decide +kernel
theorem d_R_init_125 : decode b_R_init 125 = .ok (.putfield 56, 3) := by decide +kernel
theorem d_R_init_128 : decode b_R_init 128 = .ok (.aload_n 0, 1) := by decide +kernel
theorem d_R_init_129 : decode b_R_init 129 = .ok (.bipush 8, 2) := by decide +kernel
theorem d_R_init_131 : decode b_R_init 131 = .ok (.newarray .int, 2) := by decide +kernel
theorem d_R_init_133 : decode b_R_init 133 = .ok (.putfield 59, 3) := by decide +kernel
theorem d_R_init_136 : decode b_R_init 136 = .ok (.aload_n 0, 1) := by decide +kernel
theorem d_R_init_137 : decode b_R_init 137 = .ok (.bipush 8, 2) := by decide +kernel
theorem d_R_init_139 : decode b_R_init 139 = .ok (.newarray .int, 2) := by decide +kernel
theorem d_R_init_141 : decode b_R_init 141 = .ok (.putfield 62, 3) := by decide +kernel
theorem d_R_init_144 : decode b_R_init 144 = .ok (.aload_n 0, 1) := by decide +kernel
theorem d_R_init_145 : decode b_R_init 145 = .ok (.bipush 40, 2) := by decide +kernel
theorem d_R_init_147 : decode b_R_init 147 = .ok (.newarray .int, 2) := by decide +kernel
theorem d_R_init_149 : decode b_R_init 149 = .ok (.putfield 65, 3) := by decide +kernel
theorem d_R_init_152 : decode b_R_init 152 = .ok (.return_, 1) := by decide +kernel
/-! what the constructors rest on, and two rows more -/
def XK (_ : Nat → Prop) (s : State) : Prop := va_Nw (.methodLinkNest "NovaDesk" 9 ⟨"NovaDesk$Machine", "<init>", "()V"⟩ "NovaDesk") s ∧ va_Nw (.methodLinkNest "NovaDesk" 18 ⟨"NovaDesk$Assembler", "<init>", "()V"⟩ "NovaDesk") s ∧ va_Nw (.methodLinkNest "NovaDesk" 25 ⟨"NovaDesk$Teller", "<init>", "()V"⟩ "NovaDesk") s ∧ va_Nw (.methodLinkNest "NovaDesk$Assembler" 11 ⟨"NovaDesk$Items", "<init>", "()V"⟩ "NovaDesk") s ∧ va_Nw (.methodLinkNest "NovaDesk$Assembler" 20 ⟨"NovaDesk$Labels", "<init>", "()V"⟩ "NovaDesk") s ∧ va_Nw (.castable "NovaDesk$Reader" "NovaDesk$Device") s ∧ va_Nw (.castable "NovaDesk$Printer" "NovaDesk$Device") s ∧ va_Nw (.castable "NovaDesk$Clock" "NovaDesk$Device") s ∧ va_AO "NovaDesk$Device" s
theorem xtK : XT XK := fun A A1 s U locs h hS hA hW => ⟨(by have h := h.1; exact va_Nw.warmM hW h), (by have h := h.2.1; exact va_Nw.warmM hW h), (by have h := h.2.2.1; exact va_Nw.warmM hW h), (by have h := h.2.2.2.1; exact va_Nw.warmM hW h), (by have h := h.2.2.2.2.1; exact va_Nw.warmM hW h), (by have h := h.2.2.2.2.2.1; exact va_Nw.warmC hW h), (by have h := h.2.2.2.2.2.2.1; exact va_Nw.warmC hW h), (by have h := h.2.2.2.2.2.2.2.1; exact va_Nw.warmC hW h), (by have h := h.2.2.2.2.2.2.2.2; exact va_AO.moved hW.alike h)⟩
section CR2
variable {p : Program} {l : Launch} {e : Env} {R : Room} {s : State} {m : MethodId} {args : Array Value} {below : List Frame} {meth : Method} {c : Code} {H : Heap} {locs : List Loc} {cells slots : Nat} {Q : State → Prop}
variable {cc : ByteArray} {nL : Nat} {own C : String} {D : va_G} {cl : List vw_C} {tys : List (ClassId × FieldType)} {w wz : va_W} {X : (Nat → Prop) → State → Prop} {A : Nat → Prop} {pc : Nat} {ls : Array Slot} {rest : List Value}
theorem cx_newr {index : Nat} {n : Int32} {N' : Nat} {cA0 : ClassId} (t0 : Nat) (ht : tys[t0]? = some (cA0, .object C)) (hover : va_AO C s) (hn : ¬ n < 0) (hN : n.toNatClampNeg = N') (hbytes : N' * 4 ≤ 536870912) (fx : CallFix p m c cc nL s args GW own) (hw : CX D cl tys w X A s H locs) (h1 : Cond.classLink own index C ∈ GW) (hcells : cells + 1 ≤ R.cells) (hslots : slots + N' ≤ R.slots) (hdg : decode cc pc = .ok (.anewarray index, 3))
    (kk : ∀ (q : Nat) (H1 : Heap), CX D cl tys (w ++ [(q, .inl (cA0, N', .inr (.inr (.inr (.inr (fun _ => none))))))]) X A s H1 locs → W p l e R s m args below meth c H1 locs (cells + 1) (slots + N') Q (F0 m (pc + 3) ls (.ref q :: rest))) : W p l e R s m args below meth c H locs cells slots Q (F0 m pc ls (.int n :: rest)) := by
  refine va_newq (D := D) fx.1 fx.2.1 fx.2.2.2.1 (fx.2.2.2.2 _ h1) hover hw.1 hw.2.1 hw.2.2.1 hw.2.2.2.1 hw.2.2.2.2.1 hn hN hbytes hcells hslots hdg (fun q cA H1 hK hP hD hS => ?_)
  obtain ⟨_, _, _, _, _, h4⟩ := (hw.1.2 t0 _ ht).2
  obtain ⟨_, _, _, _, _, g4⟩ := (hK.2 tys.length (cA, .object C) (by simp)).2
  cases h4.symm.trans g4
  exact kk q H1 ⟨hw.1, hP, hD, hS, hw.2.2.2.2⟩
theorem cx_ast {E : String} {r : vw_C} {n a v ci : Nat} {vs : List Value} {f : Nat → Option Nat} {cA0 : ClassId} {i : Int32} (q0 t0 qk : Nat) (ha : w[q0]? = some (a, .inl (cA0, n, .inr (.inr (.inr (.inr f)))))) (ht : tys[t0]? = some (cA0, .object E)) (hca : va_Nw (.castable r.1 E) s) (hv : w[qk]? = some (v, .inr (ci, vs))) (hc : cl[ci]? = some r) (hin : vp_in i n) (hw1 : w.set q0 (a, .inl (cA0, n, .inr (.inr (.inr (.inr (va_up f i.toNatClampNeg (some v))))))) = wz) (fx : CallFix p m c cc nL s args GW own) (hw : CX D cl tys w X A s H locs) (hdg : decode cc pc = .ok (.aastore, 1))
    (kk : ∀ (H1 : Heap) (locs1 : List Loc), CX D cl tys wz X A s H1 locs1 → W p l e R s m args below meth c H1 locs1 cells slots Q (F0 m (pc + 1) ls rest)) : W p l e R s m args below meth c H locs cells slots Q (F0 m pc ls (.ref v :: .int i :: .ref a :: rest)) :=
  va_astqO (D := D) fx.1 fx.2.1 hw.1 hw.2.1 hw.2.2.1 hw.2.2.2.1 q0 t0 qk ci ha ht hca hv hc hin hdg (fun H1 locs1 hP hD hS => kk H1 locs1 ⟨hw.1, hw1 ▸ hP, hw1 ▸ hD, hS, hw.2.2.2.2.1, hw.2.2.2.2.2⟩)
end CR2
