/-! methods that may throw: names, words, decode rows, by program -/
abbrev b_N_require : ByteArray := prog_1_method_20_code
abbrev y_N_require : MethodName := ({ cls := "NovaDesk", name := "require", desc := "(Z)V" } : Jvm.MethodName)
abbrev b_N_requireRoom : ByteArray := prog_1_method_21_code
abbrev y_N_requireRoom : MethodName := ({ cls := "NovaDesk", name := "requireRoom", desc := "(Z)V" } : Jvm.MethodName)
abbrev b_N_put : ByteArray := prog_1_method_2_code
abbrev y_N_put : MethodName := ({ cls := "NovaDesk", name := "put", desc := "(II)I" } : Jvm.MethodName)
abbrev b_N_word : ByteArray := prog_1_method_3_code
abbrev y_N_word : MethodName := ({ cls := "NovaDesk", name := "word", desc := "(I)I" } : Jvm.MethodName)
abbrev b_N_set : ByteArray := prog_1_method_4_code
abbrev y_N_set : MethodName := ({ cls := "NovaDesk", name := "set", desc := "(II)I" } : Jvm.MethodName)
abbrev b_N_register : ByteArray := prog_1_method_5_code
abbrev y_N_register : MethodName := ({ cls := "NovaDesk", name := "register", desc := "(I)I" } : Jvm.MethodName)
abbrev b_N_device : ByteArray := prog_1_method_6_code
abbrev y_N_device : MethodName := ({ cls := "NovaDesk", name := "device", desc := "(II)I" } : Jvm.MethodName)
abbrev b_N_tape : ByteArray := prog_1_method_7_code
abbrev y_N_tape : MethodName := ({ cls := "NovaDesk", name := "tape", desc := "(I)I" } : Jvm.MethodName)
abbrev b_N_run : ByteArray := prog_1_method_8_code
abbrev y_N_run : MethodName := ({ cls := "NovaDesk", name := "run", desc := "(I)I" } : Jvm.MethodName)
abbrev b_N_feed : ByteArray := prog_1_method_13_code
abbrev y_N_feed : MethodName := ({ cls := "NovaDesk", name := "feed", desc := "(IIIII)I" } : Jvm.MethodName)
abbrev b_N_end : ByteArray := prog_1_method_14_code
abbrev y_N_end : MethodName := ({ cls := "NovaDesk", name := "end", desc := "(I)V" } : Jvm.MethodName)
abbrev b_N_fault : ByteArray := prog_1_method_16_code
abbrev y_N_fault : MethodName := ({ cls := "NovaDesk", name := "fault", desc := "(I)I" } : Jvm.MethodName)
abbrev b_N_tell : ByteArray := prog_1_method_18_code
abbrev y_N_tell : MethodName := ({ cls := "NovaDesk", name := "tell", desc := "(I)I" } : Jvm.MethodName)
theorem kw_658 : (Jvm.Cond.methodLink "NovaDesk" (35 : Nat) ({ cls := "NovaDesk", name := "require", desc := "(Z)V" } : Jvm.MethodName)) ∈ GW := gw_t (gt_3 (List.mem_of_getElem? (i := 178) rfl)) rfl
theorem kw_659 : (Jvm.Cond.static ({ cls := "NovaDesk", name := "require", desc := "(Z)V" } : Jvm.MethodName)) ∈ GW := gw_t (gt_3 (List.mem_of_getElem? (i := 179) rfl)) rfl
theorem kw_660 : (Jvm.Cond.code ({ cls := "NovaDesk", name := "require", desc := "(Z)V" } : Jvm.MethodName) prog_1_method_20_code (1 : Nat) (Option.none : Option Jvm.ClassFile.FieldType)) ∈ GW := gw_t (gt_3 (List.mem_of_getElem? (i := 180) rfl)) rfl
theorem kw_723 : (Jvm.Cond.methodLink "NovaDesk" (39 : Nat) ({ cls := "NovaDesk$Machine", name := "load", desc := "(I)I" } : Jvm.MethodName)) ∈ GW := gw_t (gt_4 (List.mem_of_getElem? (i := 3) rfl)) rfl
theorem kw_727 : (Jvm.Cond.methodLink "NovaDesk" (43 : Nat) ({ cls := "NovaDesk$Machine", name := "store", desc := "(II)V" } : Jvm.MethodName)) ∈ GW := gw_t (gt_4 (List.mem_of_getElem? (i := 7) rfl)) rfl
theorem kw_656 : (Jvm.Cond.methodLink "NovaDesk" (30 : Nat) ({ cls := "NovaDesk", name := "isWithin", desc := "(II)Z" } : Jvm.MethodName)) ∈ GW := gw_t (gt_3 (List.mem_of_getElem? (i := 176) rfl)) rfl
theorem kw_748 : (Jvm.Cond.code ({ cls := "NovaDesk$Machine", name := "readRegister", desc := "(I)I" } : Jvm.MethodName) prog_8_method_4_code (2 : Nat) (Option.some Jvm.ClassFile.FieldType.int)) ∈ GW := gw_t (gt_4 (List.mem_of_getElem? (i := 28) rfl)) rfl
theorem kw_745 : (Jvm.Cond.methodLink "NovaDesk" (50 : Nat) ({ cls := "NovaDesk$Machine", name := "readRegister", desc := "(I)I" } : Jvm.MethodName)) ∈ GW := gw_t (gt_4 (List.mem_of_getElem? (i := 25) rfl)) rfl
theorem kw_746 : (Jvm.Cond.instanceMethod ({ cls := "NovaDesk$Machine", name := "readRegister", desc := "(I)I" } : Jvm.MethodName)) ∈ GW := gw_t (gt_4 (List.mem_of_getElem? (i := 26) rfl)) rfl
theorem kw_747 : (Jvm.Cond.selects "NovaDesk$Machine" ({ cls := "NovaDesk$Machine", name := "readRegister", desc := "(I)I" } : Jvm.MethodName) ({ cls := "NovaDesk$Machine", name := "readRegister", desc := "(I)I" } : Jvm.MethodName)) ∈ GW := gw_t (gt_4 (List.mem_of_getElem? (i := 27) rfl)) rfl
theorem kw_752 : (Jvm.Cond.code ({ cls := "NovaDesk$Machine", name := "writeRegister", desc := "(II)V" } : Jvm.MethodName) prog_8_method_5_code (3 : Nat) (Option.none : Option Jvm.ClassFile.FieldType)) ∈ GW := gw_t (gt_4 (List.mem_of_getElem? (i := 32) rfl)) rfl
theorem kw_749 : (Jvm.Cond.methodLink "NovaDesk" (53 : Nat) ({ cls := "NovaDesk$Machine", name := "writeRegister", desc := "(II)V" } : Jvm.MethodName)) ∈ GW := gw_t (gt_4 (List.mem_of_getElem? (i := 29) rfl)) rfl
theorem kw_750 : (Jvm.Cond.instanceMethod ({ cls := "NovaDesk$Machine", name := "writeRegister", desc := "(II)V" } : Jvm.MethodName)) ∈ GW := gw_t (gt_4 (List.mem_of_getElem? (i := 30) rfl)) rfl
theorem kw_751 : (Jvm.Cond.selects "NovaDesk$Machine" ({ cls := "NovaDesk$Machine", name := "writeRegister", desc := "(II)V" } : Jvm.MethodName) ({ cls := "NovaDesk$Machine", name := "writeRegister", desc := "(II)V" } : Jvm.MethodName)) ∈ GW := gw_t (gt_4 (List.mem_of_getElem? (i := 31) rfl)) rfl
theorem kw_744 : (Jvm.Cond.code ({ cls := "NovaDesk", name := "highestOf", desc := "(I)I" } : Jvm.MethodName) prog_1_method_23_code (1 : Nat) (Option.some Jvm.ClassFile.FieldType.int)) ∈ GW := gw_t (gt_4 (List.mem_of_getElem? (i := 24) rfl)) rfl
theorem kw_742 : (Jvm.Cond.methodLink "NovaDesk" (47 : Nat) ({ cls := "NovaDesk", name := "highestOf", desc := "(I)I" } : Jvm.MethodName)) ∈ GW := gw_t (gt_4 (List.mem_of_getElem? (i := 22) rfl)) rfl
theorem kw_743 : (Jvm.Cond.static ({ cls := "NovaDesk", name := "highestOf", desc := "(I)I" } : Jvm.MethodName)) ∈ GW := gw_t (gt_4 (List.mem_of_getElem? (i := 23) rfl)) rfl
theorem kw_770 : (Jvm.Cond.code ({ cls := "NovaDesk$Machine", name := "readDevice", desc := "(II)I" } : Jvm.MethodName) prog_8_method_6_code (4 : Nat) (Option.some Jvm.ClassFile.FieldType.int)) ∈ GW := gw_t (gt_4 (List.mem_of_getElem? (i := 50) rfl)) rfl
theorem kw_767 : (Jvm.Cond.methodLink "NovaDesk" (56 : Nat) ({ cls := "NovaDesk$Machine", name := "readDevice", desc := "(II)I" } : Jvm.MethodName)) ∈ GW := gw_t (gt_4 (List.mem_of_getElem? (i := 47) rfl)) rfl
theorem kw_768 : (Jvm.Cond.instanceMethod ({ cls := "NovaDesk$Machine", name := "readDevice", desc := "(II)I" } : Jvm.MethodName)) ∈ GW := gw_t (gt_4 (List.mem_of_getElem? (i := 48) rfl)) rfl
theorem kw_769 : (Jvm.Cond.selects "NovaDesk$Machine" ({ cls := "NovaDesk$Machine", name := "readDevice", desc := "(II)I" } : Jvm.MethodName) ({ cls := "NovaDesk$Machine", name := "readDevice", desc := "(II)I" } : Jvm.MethodName)) ∈ GW := gw_t (gt_4 (List.mem_of_getElem? (i := 49) rfl)) rfl
theorem kw_783 : (Jvm.Cond.methodLink "NovaDesk" (70 : Nat) ({ cls := "NovaDesk", name := "requireRoom", desc := "(Z)V" } : Jvm.MethodName)) ∈ GW := gw_t (gt_4 (List.mem_of_getElem? (i := 63) rfl)) rfl
theorem kw_784 : (Jvm.Cond.static ({ cls := "NovaDesk", name := "requireRoom", desc := "(Z)V" } : Jvm.MethodName)) ∈ GW := gw_t (gt_4 (List.mem_of_getElem? (i := 64) rfl)) rfl
theorem kw_785 : (Jvm.Cond.code ({ cls := "NovaDesk", name := "requireRoom", desc := "(Z)V" } : Jvm.MethodName) prog_1_method_21_code (1 : Nat) (Option.none : Option Jvm.ClassFile.FieldType)) ∈ GW := gw_t (gt_4 (List.mem_of_getElem? (i := 65) rfl)) rfl
theorem kw_125 : (Jvm.Cond.fieldLink "NovaDesk" (60 : Nat) "NovaDesk$Machine" "reader" "LNovaDesk$Reader;") ∈ GW := gw_t (gt_1 (List.mem_of_getElem? (i := 125) rfl)) rfl
theorem kw_804 : (Jvm.Cond.code ({ cls := "NovaDesk$Reader", name := "append", desc := "(I)V" } : Jvm.MethodName) prog_10_method_2_code (2 : Nat) (Option.none : Option Jvm.ClassFile.FieldType)) ∈ GW := gw_t (gt_4 (List.mem_of_getElem? (i := 84) rfl)) rfl
theorem kw_801 : (Jvm.Cond.methodLink "NovaDesk" (73 : Nat) ({ cls := "NovaDesk$Reader", name := "append", desc := "(I)V" } : Jvm.MethodName)) ∈ GW := gw_t (gt_4 (List.mem_of_getElem? (i := 81) rfl)) rfl
theorem kw_802 : (Jvm.Cond.instanceMethod ({ cls := "NovaDesk$Reader", name := "append", desc := "(I)V" } : Jvm.MethodName)) ∈ GW := gw_t (gt_4 (List.mem_of_getElem? (i := 82) rfl)) rfl
theorem kw_803 : (Jvm.Cond.selects "NovaDesk$Reader" ({ cls := "NovaDesk$Reader", name := "append", desc := "(I)V" } : Jvm.MethodName) ({ cls := "NovaDesk$Reader", name := "append", desc := "(I)V" } : Jvm.MethodName)) ∈ GW := gw_t (gt_4 (List.mem_of_getElem? (i := 83) rfl)) rfl
theorem kw_53 : (Jvm.Cond.fieldLink "NovaDesk" (64 : Nat) "NovaDesk$Reader" "waiting" "I") ∈ GW := gw_t (gt_1 (List.mem_of_getElem? (i := 53) rfl)) rfl
theorem kw_815 : (Jvm.Cond.code ({ cls := "NovaDesk$Machine", name := "runUpTo", desc := "(I)I" } : Jvm.MethodName) prog_8_method_8_code (4 : Nat) (Option.some Jvm.ClassFile.FieldType.int)) ∈ GW := gw_t (gt_4 (List.mem_of_getElem? (i := 95) rfl)) rfl
theorem kw_812 : (Jvm.Cond.methodLink "NovaDesk" (77 : Nat) ({ cls := "NovaDesk$Machine", name := "runUpTo", desc := "(I)I" } : Jvm.MethodName)) ∈ GW := gw_t (gt_4 (List.mem_of_getElem? (i := 92) rfl)) rfl
theorem kw_813 : (Jvm.Cond.instanceMethod ({ cls := "NovaDesk$Machine", name := "runUpTo", desc := "(I)I" } : Jvm.MethodName)) ∈ GW := gw_t (gt_4 (List.mem_of_getElem? (i := 93) rfl)) rfl
theorem kw_814 : (Jvm.Cond.selects "NovaDesk$Machine" ({ cls := "NovaDesk$Machine", name := "runUpTo", desc := "(I)I" } : Jvm.MethodName) ({ cls := "NovaDesk$Machine", name := "runUpTo", desc := "(I)I" } : Jvm.MethodName)) ∈ GW := gw_t (gt_4 (List.mem_of_getElem? (i := 94) rfl)) rfl
theorem kw_974 : (Jvm.Cond.code ({ cls := "NovaDesk$Items", name := "appendFour", desc := "(I)V" } : Jvm.MethodName) prog_6_method_2_code (3 : Nat) (Option.none : Option Jvm.ClassFile.FieldType)) ∈ GW := gw_t (gt_5 (List.mem_of_getElem? (i := 14) rfl)) rfl
theorem kw_971 : (Jvm.Cond.methodLink "NovaDesk" (110 : Nat) ({ cls := "NovaDesk$Items", name := "appendFour", desc := "(I)V" } : Jvm.MethodName)) ∈ GW := gw_t (gt_5 (List.mem_of_getElem? (i := 11) rfl)) rfl
theorem kw_972 : (Jvm.Cond.instanceMethod ({ cls := "NovaDesk$Items", name := "appendFour", desc := "(I)V" } : Jvm.MethodName)) ∈ GW := gw_t (gt_5 (List.mem_of_getElem? (i := 12) rfl)) rfl
theorem kw_973 : (Jvm.Cond.selects "NovaDesk$Items" ({ cls := "NovaDesk$Items", name := "appendFour", desc := "(I)V" } : Jvm.MethodName) ({ cls := "NovaDesk$Items", name := "appendFour", desc := "(I)V" } : Jvm.MethodName)) ∈ GW := gw_t (gt_5 (List.mem_of_getElem? (i := 13) rfl)) rfl
theorem kw_183 : (Jvm.Cond.fieldLink "NovaDesk" (105 : Nat) "NovaDesk$Items" "length" "I") ∈ GW := gw_t (gt_1 (List.mem_of_getElem? (i := 183) rfl)) rfl
theorem kw_217 : (Jvm.Cond.fieldLink "NovaDesk" (101 : Nat) "NovaDesk$Assembler" "items" "LNovaDesk$Items;") ∈ GW := gw_t (gt_1 (List.mem_of_getElem? (i := 217) rfl)) rfl
theorem kw_233 : (Jvm.Cond.fieldLink "NovaDesk" (126 : Nat) "NovaDesk$Assembler" "faultLine" "I") ∈ GW := gw_t (gt_1 (List.mem_of_getElem? (i := 233) rfl)) rfl
theorem kw_231 : (Jvm.Cond.fieldLink "NovaDesk" (123 : Nat) "NovaDesk$Assembler" "faultNumber" "I") ∈ GW := gw_t (gt_1 (List.mem_of_getElem? (i := 231) rfl)) rfl
theorem kw_999 : (Jvm.Cond.code ({ cls := "NovaDesk$Teller", name := "describe", desc := "(I)I" } : Jvm.MethodName) prog_12_method_4_code (3 : Nat) (Option.some Jvm.ClassFile.FieldType.int)) ∈ GW := gw_t (gt_5 (List.mem_of_getElem? (i := 39) rfl)) rfl
theorem kw_996 : (Jvm.Cond.methodLink "NovaDesk" (141 : Nat) ({ cls := "NovaDesk$Teller", name := "describe", desc := "(I)I" } : Jvm.MethodName)) ∈ GW := gw_t (gt_5 (List.mem_of_getElem? (i := 36) rfl)) rfl
theorem kw_997 : (Jvm.Cond.instanceMethod ({ cls := "NovaDesk$Teller", name := "describe", desc := "(I)I" } : Jvm.MethodName)) ∈ GW := gw_t (gt_5 (List.mem_of_getElem? (i := 37) rfl)) rfl
theorem kw_998 : (Jvm.Cond.selects "NovaDesk$Teller" ({ cls := "NovaDesk$Teller", name := "describe", desc := "(I)I" } : Jvm.MethodName) ({ cls := "NovaDesk$Teller", name := "describe", desc := "(I)I" } : Jvm.MethodName)) ∈ GW := gw_t (gt_5 (List.mem_of_getElem? (i := 38) rfl)) rfl
theorem kw_661 : (Jvm.Cond.classLink "NovaDesk" (145 : Nat) "java/lang/IllegalArgumentException") ∈ GW := gw_t (gt_3 (List.mem_of_getElem? (i := 181) rfl)) rfl
theorem kw_662 : (Jvm.Cond.instantiable "java/lang/IllegalArgumentException" (6 : Nat)) ∈ GW := gw_t (gt_3 (List.mem_of_getElem? (i := 182) rfl)) rfl
theorem kw_15 : (Jvm.Cond.initialized "java/lang/IllegalArgumentException") ∈ GW := gw_t (gt_1 (List.mem_of_getElem? (i := 15) rfl)) rfl
theorem kw_786 : (Jvm.Cond.classLink "NovaDesk" (148 : Nat) "java/lang/IllegalStateException") ∈ GW := gw_t (gt_4 (List.mem_of_getElem? (i := 66) rfl)) rfl
theorem kw_787 : (Jvm.Cond.instantiable "java/lang/IllegalStateException" (6 : Nat)) ∈ GW := gw_t (gt_4 (List.mem_of_getElem? (i := 67) rfl)) rfl
theorem kw_16 : (Jvm.Cond.initialized "java/lang/IllegalStateException") ∈ GW := gw_t (gt_1 (List.mem_of_getElem? (i := 16) rfl)) rfl
theorem cw_N_35 : CXW RNN 35 y_N_require b_N_require 1 ((Option.none : Option Jvm.ClassFile.FieldType)) 1 := cxw kw_658 kw_659 kw_1 kw_660 (by decide +kernel)
theorem cw_N_39 : CVW RNN 39 "NovaDesk$Machine" y_M_load b_M_load 2 ((Option.some Jvm.ClassFile.FieldType.int)) 1 := cvw kw_723 kw_724 kw_725 kw_2 kw_726 (by decide +kernel)
theorem cw_N_43 : CVW RNN 43 "NovaDesk$Machine" y_M_store b_M_store 3 ((Option.none : Option Jvm.ClassFile.FieldType)) 2 := cvw kw_727 kw_630 kw_631 kw_2 kw_632 (by decide +kernel)
theorem cw_N_30 : CXW RNN 30 y_N_isWithin b_N_isWithin 2 ((Option.some Jvm.ClassFile.FieldType.boolean)) 2 := cxw kw_656 kw_611 kw_1 kw_612 (by decide +kernel)
theorem cw_N_50 : CVW RNN 50 "NovaDesk$Machine" y_M_readRegister b_M_readRegister 2 ((Option.some Jvm.ClassFile.FieldType.int)) 1 := cvw kw_745 kw_746 kw_747 kw_2 kw_748 (by decide +kernel)
theorem cw_N_53 : CVW RNN 53 "NovaDesk$Machine" y_M_writeRegister b_M_writeRegister 3 ((Option.none : Option Jvm.ClassFile.FieldType)) 2 := cvw kw_749 kw_750 kw_751 kw_2 kw_752 (by decide +kernel)
theorem cw_N_47 : CXW RNN 47 y_N_highestOf b_N_highestOf 1 ((Option.some Jvm.ClassFile.FieldType.int)) 1 := cxw kw_742 kw_743 kw_1 kw_744 (by decide +kernel)
theorem cw_N_56 : CVW RNN 56 "NovaDesk$Machine" y_M_readDevice b_M_readDevice 4 ((Option.some Jvm.ClassFile.FieldType.int)) 2 := cvw kw_767 kw_768 kw_769 kw_2 kw_770 (by decide +kernel)
theorem cw_N_70 : CXW RNN 70 y_N_requireRoom b_N_requireRoom 1 ((Option.none : Option Jvm.ClassFile.FieldType)) 1 := cxw kw_783 kw_784 kw_1 kw_785 (by decide +kernel)
theorem cw_N_73 : CVW RNN 73 "NovaDesk$Reader" y_E_append b_E_append 2 ((Option.none : Option Jvm.ClassFile.FieldType)) 1 := cvw kw_801 kw_802 kw_803 kw_4 kw_804 (by decide +kernel)
theorem cw_N_77 : CVW RNN 77 "NovaDesk$Machine" y_M_runUpTo b_M_runUpTo 4 ((Option.some Jvm.ClassFile.FieldType.int)) 1 := cvw kw_812 kw_813 kw_814 kw_2 kw_815 (by decide +kernel)
theorem cw_N_110 : CVW RNN 110 "NovaDesk$Items" y_I_appendFour b_I_appendFour 3 ((Option.none : Option Jvm.ClassFile.FieldType)) 1 := cvw kw_971 kw_972 kw_973 kw_8 kw_974 (by decide +kernel)
theorem cw_N_141 : CVW RNN 141 "NovaDesk$Teller" y_T_describe b_T_describe 3 ((Option.some Jvm.ClassFile.FieldType.int)) 1 := cvw kw_996 kw_997 kw_998 kw_10 kw_999 (by decide +kernel)
theorem d_N_require_0 : decode b_N_require 0 = .ok (.iload_n 0, 1) := by decide +kernel
theorem d_N_require_1 : decode b_N_require 1 = .ok (.ifCond .ne 11, 3) := by decide +kernel
theorem d_N_require_4 : decode b_N_require 4 = .ok (.new 145, 3) := by decide +kernel
theorem d_N_require_7 : decode b_N_require 7 = .ok (.dup, 1) := by decide +kernel
theorem d_N_require_8 : decode b_N_require 8 = .ok (.invokespecial 147, 3) := by decide +kernel
theorem d_N_require_11 : decode b_N_require 11 = .ok (.athrow, 1) := by decide +kernel
theorem d_N_require_12 : decode b_N_require 12 = .ok (.return_, 1) := by decide +kernel
theorem d_N_requireRoom_0 : decode b_N_requireRoom 0 = .ok (.iload_n 0, 1) := by decide +kernel
theorem d_N_requireRoom_1 : decode b_N_requireRoom 1 = .ok (.ifCond .ne 11, 3) := by decide +kernel
theorem d_N_requireRoom_4 : decode b_N_requireRoom 4 = .ok (.new 148, 3) := by decide +kernel
theorem d_N_requireRoom_7 : decode b_N_requireRoom 7 = .ok (.dup, 1) := by decide +kernel
theorem d_N_requireRoom_8 : decode b_N_requireRoom 8 = .ok (.invokespecial 150, 3) := by decide +kernel
theorem d_N_requireRoom_11 : decode b_N_requireRoom 11 = .ok (.athrow, 1) := by decide +kernel
theorem d_N_requireRoom_12 : decode b_N_requireRoom 12 = .ok (.return_, 1) := by decide +kernel
theorem d_N_put_24 : decode b_N_put 24 = .ok (.invokestatic 35, 3) := by decide +kernel
theorem d_N_put_27 : decode b_N_put 27 = .ok (.aload_n 0, 1) := by decide +kernel
theorem d_N_put_28 : decode b_N_put 28 = .ok (.getfield 10, 3) := by decide +kernel
theorem d_N_put_31 : decode b_N_put 31 = .ok (.iload_n 1, 1) := by decide +kernel
theorem d_N_put_32 : decode b_N_put 32 = .ok (.invokevirtual 39, 3) := by decide +kernel
theorem d_N_put_35 : decode b_N_put 35 = .ok (.istore_n 3, 1) := by decide +kernel
theorem d_N_put_36 : decode b_N_put 36 = .ok (.aload_n 0, 1) := by decide +kernel
theorem d_N_put_37 : decode b_N_put 37 = .ok (.getfield 10, 3) := by decide +kernel
theorem d_N_put_40 : decode b_N_put 40 = .ok (.iload_n 1, 1) := by decide +kernel
theorem d_N_put_41 : decode b_N_put 41 = .ok (.iload_n 2, 1) := by decide +kernel
theorem d_N_put_42 : decode b_N_put 42 = .ok (.invokevirtual 43, 3) := by decide +kernel
theorem d_N_put_45 : decode b_N_put 45 = .ok (.iload_n 3, 1) := by decide +kernel
theorem d_N_put_46 : decode b_N_put 46 = .ok (.ireturn, 1) := by decide +kernel
theorem d_N_put_0 : decode b_N_put 0 = .ok (.iload_n 1, 1) := by decide +kernel
theorem d_N_put_1 : decode b_N_put 1 = .ok (.sipush 32767, 3) := by decide +kernel
theorem d_N_put_4 : decode b_N_put 4 = .ok (.invokestatic 30, 3) := by decide +kernel
theorem d_N_put_7 : decode b_N_put 7 = .ok (.ifCond .eq 16, 3) := by decide +kernel
theorem d_N_put_23 : decode b_N_put 23 = .ok (.iconst 0, 1) := by decide +kernel
theorem d_N_put_10 : decode b_N_put 10 = .ok (.iload_n 2, 1) := by decide +kernel
theorem d_N_put_11 : decode b_N_put 11 = .ok (.ldc 34, 2) := by decide +kernel
theorem d_N_put_13 : decode b_N_put 13 = .ok (.invokestatic 30, 3) := by decide +kernel
theorem d_N_put_16 : decode b_N_put 16 = .ok (.ifCond .eq 7, 3) := by decide +kernel
theorem d_N_put_19 : decode b_N_put 19 = .ok (.iconst 1, 1) := by decide +kernel
theorem d_N_put_20 : decode b_N_put 20 = .ok (.goto 4, 3) := by decide +kernel
theorem d_N_word_0 : decode b_N_word 0 = .ok (.iload_n 1, 1) := by decide +kernel
theorem d_N_word_1 : decode b_N_word 1 = .ok (.sipush 32767, 3) := by decide +kernel
theorem d_N_word_4 : decode b_N_word 4 = .ok (.invokestatic 30, 3) := by decide +kernel
theorem d_N_word_7 : decode b_N_word 7 = .ok (.invokestatic 35, 3) := by decide +kernel
theorem d_N_word_10 : decode b_N_word 10 = .ok (.aload_n 0, 1) := by decide +kernel
theorem d_N_word_11 : decode b_N_word 11 = .ok (.getfield 10, 3) := by decide +kernel
theorem d_N_word_14 : decode b_N_word 14 = .ok (.iload_n 1, 1) := by decide +kernel
theorem d_N_word_15 : decode b_N_word 15 = .ok (.invokevirtual 39, 3) := by decide +kernel
theorem d_N_word_18 : decode b_N_word 18 = .ok (.ireturn, 1) := by decide +kernel
theorem d_N_set_25 : decode b_N_set 25 = .ok (.invokestatic 35, 3) := by decide +kernel
theorem d_N_set_28 : decode b_N_set 28 = .ok (.aload_n 0, 1) := by decide +kernel
theorem d_N_set_29 : decode b_N_set 29 = .ok (.getfield 10, 3) := by decide +kernel
theorem d_N_set_32 : decode b_N_set 32 = .ok (.iload_n 1, 1) := by decide +kernel
theorem d_N_set_33 : decode b_N_set 33 = .ok (.invokevirtual 50, 3) := by decide +kernel
theorem d_N_set_36 : decode b_N_set 36 = .ok (.istore_n 3, 1) := by decide +kernel
theorem d_N_set_37 : decode b_N_set 37 = .ok (.aload_n 0, 1) := by decide +kernel
theorem d_N_set_38 : decode b_N_set 38 = .ok (.getfield 10, 3) := by decide +kernel
theorem d_N_set_41 : decode b_N_set 41 = .ok (.iload_n 1, 1) := by decide +kernel
theorem d_N_set_42 : decode b_N_set 42 = .ok (.iload_n 2, 1) := by decide +kernel
theorem d_N_set_43 : decode b_N_set 43 = .ok (.invokevirtual 53, 3) := by decide +kernel
theorem d_N_set_46 : decode b_N_set 46 = .ok (.iload_n 3, 1) := by decide +kernel
theorem d_N_set_47 : decode b_N_set 47 = .ok (.ireturn, 1) := by decide +kernel
theorem d_N_set_0 : decode b_N_set 0 = .ok (.iload_n 1, 1) := by decide +kernel
theorem d_N_set_1 : decode b_N_set 1 = .ok (.bipush 6, 2) := by decide +kernel
theorem d_N_set_3 : decode b_N_set 3 = .ok (.invokestatic 30, 3) := by decide +kernel
theorem d_N_set_6 : decode b_N_set 6 = .ok (.ifCond .eq 18, 3) := by decide +kernel
theorem d_N_set_24 : decode b_N_set 24 = .ok (.iconst 0, 1) := by decide +kernel
theorem d_N_set_9 : decode b_N_set 9 = .ok (.iload_n 2, 1) := by decide +kernel
theorem d_N_set_10 : decode b_N_set 10 = .ok (.iload_n 1, 1) := by decide +kernel
theorem d_N_set_11 : decode b_N_set 11 = .ok (.invokestatic 47, 3) := by decide +kernel
theorem d_N_set_14 : decode b_N_set 14 = .ok (.invokestatic 30, 3) := by decide +kernel
theorem d_N_set_17 : decode b_N_set 17 = .ok (.ifCond .eq 7, 3) := by decide +kernel
theorem d_N_set_20 : decode b_N_set 20 = .ok (.iconst 1, 1) := by decide +kernel
theorem d_N_set_21 : decode b_N_set 21 = .ok (.goto 4, 3) := by decide +kernel
theorem d_N_register_0 : decode b_N_register 0 = .ok (.iload_n 1, 1) := by decide +kernel
theorem d_N_register_1 : decode b_N_register 1 = .ok (.bipush 10, 2) := by decide +kernel
theorem d_N_register_3 : decode b_N_register 3 = .ok (.invokestatic 30, 3) := by decide +kernel
theorem d_N_register_6 : decode b_N_register 6 = .ok (.invokestatic 35, 3) := by decide +kernel
theorem d_N_register_9 : decode b_N_register 9 = .ok (.aload_n 0, 1) := by decide +kernel
theorem d_N_register_10 : decode b_N_register 10 = .ok (.getfield 10, 3) := by decide +kernel
theorem d_N_register_13 : decode b_N_register 13 = .ok (.iload_n 1, 1) := by decide +kernel
theorem d_N_register_14 : decode b_N_register 14 = .ok (.invokevirtual 50, 3) := by decide +kernel
theorem d_N_register_17 : decode b_N_register 17 = .ok (.ireturn, 1) := by decide +kernel
theorem d_N_device_25 : decode b_N_device 25 = .ok (.invokestatic 35, 3) := by decide +kernel
theorem d_N_device_28 : decode b_N_device 28 = .ok (.aload_n 0, 1) := by decide +kernel
theorem d_N_device_29 : decode b_N_device 29 = .ok (.getfield 10, 3) := by decide +kernel
theorem d_N_device_32 : decode b_N_device 32 = .ok (.iload_n 1, 1) := by decide +kernel
theorem d_N_device_33 : decode b_N_device 33 = .ok (.iload_n 2, 1) := by decide +kernel
theorem d_N_device_34 : decode b_N_device 34 = .ok (.invokevirtual 56, 3) := by decide +kernel
theorem d_N_device_37 : decode b_N_device 37 = .ok (.ireturn, 1) := by decide +kernel
theorem d_N_device_0 : decode b_N_device 0 = .ok (.iload_n 1, 1) := by decide +kernel
theorem d_N_device_1 : decode b_N_device 1 = .ok (.bipush 8, 2) := by decide +kernel
theorem d_N_device_3 : decode b_N_device 3 = .ok (.if_icmp .lt 21, 3) := by decide +kernel
theorem d_N_device_24 : decode b_N_device 24 = .ok (.iconst 0, 1) := by decide +kernel
theorem d_N_device_6 : decode b_N_device 6 = .ok (.iload_n 1, 1) := by decide +kernel
theorem d_N_device_7 : decode b_N_device 7 = .ok (.bipush 10, 2) := by decide +kernel
theorem d_N_device_9 : decode b_N_device 9 = .ok (.if_icmp .gt 15, 3) := by decide +kernel
theorem d_N_device_12 : decode b_N_device 12 = .ok (.iload_n 2, 1) := by decide +kernel
theorem d_N_device_13 : decode b_N_device 13 = .ok (.iconst 2, 1) := by decide +kernel
theorem d_N_device_14 : decode b_N_device 14 = .ok (.invokestatic 30, 3) := by decide +kernel
theorem d_N_device_17 : decode b_N_device 17 = .ok (.ifCond .eq 7, 3) := by decide +kernel
theorem d_N_device_20 : decode b_N_device 20 = .ok (.iconst 1, 1) := by decide +kernel
theorem d_N_device_21 : decode b_N_device 21 = .ok (.goto 4, 3) := by decide +kernel
theorem d_N_tape_31 : decode b_N_tape 31 = .ok (.invokestatic 70, 3) := by decide +kernel
theorem d_N_tape_34 : decode b_N_tape 34 = .ok (.aload_n 0, 1) := by decide +kernel
theorem d_N_tape_35 : decode b_N_tape 35 = .ok (.getfield 10, 3) := by decide +kernel
theorem d_N_tape_38 : decode b_N_tape 38 = .ok (.getfield 60, 3) := by decide +kernel
theorem d_N_tape_41 : decode b_N_tape 41 = .ok (.iload_n 1, 1) := by decide +kernel
theorem d_N_tape_42 : decode b_N_tape 42 = .ok (.invokevirtual 73, 3) := by decide +kernel
theorem d_N_tape_45 : decode b_N_tape 45 = .ok (.aload_n 0, 1) := by decide +kernel
theorem d_N_tape_46 : decode b_N_tape 46 = .ok (.getfield 10, 3) := by decide +kernel
theorem d_N_tape_49 : decode b_N_tape 49 = .ok (.getfield 60, 3) := by decide +kernel
theorem d_N_tape_52 : decode b_N_tape 52 = .ok (.getfield 64, 3) := by decide +kernel
theorem d_N_tape_55 : decode b_N_tape 55 = .ok (.ireturn, 1) := by decide +kernel
theorem d_N_tape_0 : decode b_N_tape 0 = .ok (.iload_n 1, 1) := by decide +kernel
theorem d_N_tape_1 : decode b_N_tape 1 = .ok (.sipush 255, 3) := by decide +kernel
theorem d_N_tape_4 : decode b_N_tape 4 = .ok (.invokestatic 30, 3) := by decide +kernel
theorem d_N_tape_7 : decode b_N_tape 7 = .ok (.invokestatic 35, 3) := by decide +kernel
theorem d_N_tape_10 : decode b_N_tape 10 = .ok (.aload_n 0, 1) := by decide +kernel
theorem d_N_tape_11 : decode b_N_tape 11 = .ok (.getfield 10, 3) := by decide +kernel
theorem d_N_tape_14 : decode b_N_tape 14 = .ok (.getfield 60, 3) := by decide +kernel
theorem d_N_tape_17 : decode b_N_tape 17 = .ok (.getfield 64, 3) := by decide +kernel
theorem d_N_tape_20 : decode b_N_tape 20 = .ok (.sipush 500, 3) := by decide +kernel
theorem d_N_tape_23 : decode b_N_tape 23 = .ok (.if_icmp .ge 7, 3) := by decide +kernel
theorem d_N_tape_30 : decode b_N_tape 30 = .ok (.iconst 0, 1) := by decide +kernel
theorem d_N_tape_26 : decode b_N_tape 26 = .ok (.iconst 1, 1) := by decide +kernel
theorem d_N_tape_27 : decode b_N_tape 27 = .ok (.goto 4, 3) := by decide +kernel
theorem d_N_run_17 : decode b_N_run 17 = .ok (.invokestatic 35, 3) := by decide +kernel
theorem d_N_run_20 : decode b_N_run 20 = .ok (.aload_n 0, 1) := by decide +kernel
theorem d_N_run_21 : decode b_N_run 21 = .ok (.getfield 10, 3) := by decide +kernel
theorem d_N_run_24 : decode b_N_run 24 = .ok (.iload_n 1, 1) := by decide +kernel
theorem d_N_run_25 : decode b_N_run 25 = .ok (.invokevirtual 77, 3) := by decide +kernel
theorem d_N_run_28 : decode b_N_run 28 = .ok (.ireturn, 1) := by decide +kernel
theorem d_N_run_0 : decode b_N_run 0 = .ok (.iload_n 1, 1) := by decide +kernel
theorem d_N_run_1 : decode b_N_run 1 = .ok (.iconst 1, 1) := by decide +kernel
theorem d_N_run_2 : decode b_N_run 2 = .ok (.if_icmp .lt 14, 3) := by decide +kernel
theorem d_N_run_16 : decode b_N_run 16 = .ok (.iconst 0, 1) := by decide +kernel
theorem d_N_run_5 : decode b_N_run 5 = .ok (.iload_n 1, 1) := by decide +kernel
theorem d_N_run_6 : decode b_N_run 6 = .ok (.sipush 5000, 3) := by decide +kernel
theorem d_N_run_9 : decode b_N_run 9 = .ok (.if_icmp .gt 7, 3) := by decide +kernel
theorem d_N_run_12 : decode b_N_run 12 = .ok (.iconst 1, 1) := by decide +kernel
theorem d_N_run_13 : decode b_N_run 13 = .ok (.goto 4, 3) := by decide +kernel
theorem d_N_feed_28 : decode b_N_feed 28 = .ok (.invokestatic 70, 3) := by decide +kernel
theorem d_N_feed_31 : decode b_N_feed 31 = .ok (.aload 6, 2) := by decide +kernel
theorem d_N_feed_33 : decode b_N_feed 33 = .ok (.iload_n 1, 1) := by decide +kernel
theorem d_N_feed_34 : decode b_N_feed 34 = .ok (.invokevirtual 110, 3) := by decide +kernel
theorem d_N_feed_37 : decode b_N_feed 37 = .ok (.aload 6, 2) := by decide +kernel
theorem d_N_feed_39 : decode b_N_feed 39 = .ok (.iload_n 2, 1) := by decide +kernel
theorem d_N_feed_40 : decode b_N_feed 40 = .ok (.invokevirtual 110, 3) := by decide +kernel
theorem d_N_feed_43 : decode b_N_feed 43 = .ok (.aload 6, 2) := by decide +kernel
theorem d_N_feed_45 : decode b_N_feed 45 = .ok (.iload_n 3, 1) := by decide +kernel
theorem d_N_feed_46 : decode b_N_feed 46 = .ok (.invokevirtual 110, 3) := by decide +kernel
theorem d_N_feed_49 : decode b_N_feed 49 = .ok (.aload 6, 2) := by decide +kernel
theorem d_N_feed_51 : decode b_N_feed 51 = .ok (.iload 4, 2) := by decide +kernel
theorem d_N_feed_53 : decode b_N_feed 53 = .ok (.invokevirtual 110, 3) := by decide +kernel
theorem d_N_feed_56 : decode b_N_feed 56 = .ok (.aload 6, 2) := by decide +kernel
theorem d_N_feed_58 : decode b_N_feed 58 = .ok (.iload 5, 2) := by decide +kernel
theorem d_N_feed_60 : decode b_N_feed 60 = .ok (.invokevirtual 110, 3) := by decide +kernel
theorem d_N_feed_63 : decode b_N_feed 63 = .ok (.aload 6, 2) := by decide +kernel
theorem d_N_feed_65 : decode b_N_feed 65 = .ok (.getfield 105, 3) := by decide +kernel
theorem d_N_feed_68 : decode b_N_feed 68 = .ok (.ireturn, 1) := by decide +kernel
theorem d_N_feed_0 : decode b_N_feed 0 = .ok (.aload_n 0, 1) := by decide +kernel
theorem d_N_feed_1 : decode b_N_feed 1 = .ok (.getfield 19, 3) := by decide +kernel
theorem d_N_feed_4 : decode b_N_feed 4 = .ok (.getfield 101, 3) := by decide +kernel
theorem d_N_feed_7 : decode b_N_feed 7 = .ok (.astore 6, 2) := by decide +kernel
theorem d_N_feed_9 : decode b_N_feed 9 = .ok (.aload 6, 2) := by decide +kernel
theorem d_N_feed_11 : decode b_N_feed 11 = .ok (.getfield 105, 3) := by decide +kernel
theorem d_N_feed_14 : decode b_N_feed 14 = .ok (.bipush 20, 2) := by decide +kernel
theorem d_N_feed_16 : decode b_N_feed 16 = .ok (.iadd, 1) := by decide +kernel
theorem d_N_feed_17 : decode b_N_feed 17 = .ok (.sipush 6000, 3) := by decide +kernel
theorem d_N_feed_20 : decode b_N_feed 20 = .ok (.if_icmp .gt 7, 3) := by decide +kernel
theorem d_N_feed_27 : decode b_N_feed 27 = .ok (.iconst 0, 1) := by decide +kernel
theorem d_N_feed_23 : decode b_N_feed 23 = .ok (.iconst 1, 1) := by decide +kernel
theorem d_N_feed_24 : decode b_N_feed 24 = .ok (.goto 4, 3) := by decide +kernel
theorem d_N_end_0 : decode b_N_end 0 = .ok (.iload_n 1, 1) := by decide +kernel
theorem d_N_end_1 : decode b_N_end 1 = .ok (.aload_n 0, 1) := by decide +kernel
theorem d_N_end_2 : decode b_N_end 2 = .ok (.getfield 19, 3) := by decide +kernel
theorem d_N_end_5 : decode b_N_end 5 = .ok (.getfield 101, 3) := by decide +kernel
theorem d_N_end_8 : decode b_N_end 8 = .ok (.getfield 105, 3) := by decide +kernel
theorem d_N_end_11 : decode b_N_end 11 = .ok (.invokestatic 30, 3) := by decide +kernel
theorem d_N_end_14 : decode b_N_end 14 = .ok (.invokestatic 35, 3) := by decide +kernel
theorem d_N_end_17 : decode b_N_end 17 = .ok (.aload_n 0, 1) := by decide +kernel
theorem d_N_end_18 : decode b_N_end 18 = .ok (.getfield 19, 3) := by decide +kernel
theorem d_N_end_21 : decode b_N_end 21 = .ok (.getfield 101, 3) := by decide +kernel
theorem d_N_end_24 : decode b_N_end 24 = .ok (.iload_n 1, 1) := by decide +kernel
theorem d_N_end_25 : decode b_N_end 25 = .ok (.putfield 105, 3) := by decide +kernel
theorem d_N_end_28 : decode b_N_end 28 = .ok (.return_, 1) := by decide +kernel
theorem d_N_fault_0 : decode b_N_fault 0 = .ok (.iload_n 1, 1) := by decide +kernel
theorem d_N_fault_1 : decode b_N_fault 1 = .ok (.iconst 1, 1) := by decide +kernel
theorem d_N_fault_2 : decode b_N_fault 2 = .ok (.invokestatic 30, 3) := by decide +kernel
theorem d_N_fault_5 : decode b_N_fault 5 = .ok (.invokestatic 35, 3) := by decide +kernel
theorem d_N_fault_8 : decode b_N_fault 8 = .ok (.iload_n 1, 1) := by decide +kernel
theorem d_N_fault_9 : decode b_N_fault 9 = .ok (.ifCond .ne 13, 3) := by decide +kernel
theorem d_N_fault_22 : decode b_N_fault 22 = .ok (.aload_n 0, 1) := by decide +kernel
theorem d_N_fault_23 : decode b_N_fault 23 = .ok (.getfield 19, 3) := by decide +kernel
theorem d_N_fault_26 : decode b_N_fault 26 = .ok (.getfield 126, 3) := by decide +kernel
theorem d_N_fault_29 : decode b_N_fault 29 = .ok (.ireturn, 1) := by decide +kernel
theorem d_N_fault_12 : decode b_N_fault 12 = .ok (.aload_n 0, 1) := by decide +kernel
theorem d_N_fault_13 : decode b_N_fault 13 = .ok (.getfield 19, 3) := by decide +kernel
theorem d_N_fault_16 : decode b_N_fault 16 = .ok (.getfield 123, 3) := by decide +kernel
theorem d_N_fault_19 : decode b_N_fault 19 = .ok (.goto 10, 3) := by decide +kernel
theorem d_N_tell_0 : decode b_N_tell 0 = .ok (.iload_n 1, 1) := by decide +kernel
theorem d_N_tell_1 : decode b_N_tell 1 = .ok (.sipush 32767, 3) := by decide +kernel
theorem d_N_tell_4 : decode b_N_tell 4 = .ok (.invokestatic 30, 3) := by decide +kernel
theorem d_N_tell_7 : decode b_N_tell 7 = .ok (.invokestatic 35, 3) := by decide +kernel
theorem d_N_tell_10 : decode b_N_tell 10 = .ok (.aload_n 0, 1) := by decide +kernel
theorem d_N_tell_11 : decode b_N_tell 11 = .ok (.getfield 26, 3) := by decide +kernel
theorem d_N_tell_14 : decode b_N_tell 14 = .ok (.aload_n 0, 1) := by decide +kernel
theorem d_N_tell_15 : decode b_N_tell 15 = .ok (.getfield 10, 3) := by decide +kernel
theorem d_N_tell_18 : decode b_N_tell 18 = .ok (.iload_n 1, 1) := by decide +kernel
theorem d_N_tell_19 : decode b_N_tell 19 = .ok (.invokevirtual 39, 3) := by decide +kernel
theorem d_N_tell_22 : decode b_N_tell 22 = .ok (.invokevirtual 141, 3) := by decide +kernel
theorem d_N_tell_25 : decode b_N_tell 25 = .ok (.ireturn, 1) := by decide +kernel
