/-! the law's helpers: names, words, decode rows, by program -/
abbrev b_W_put : ByteArray := method_3_code
abbrev y_W_put : MethodName := ({ cls := "NovaDeskLaw", name := "put", desc := "(LNovaDesk;II[J)I" } : Jvm.MethodName)
abbrev b_W_word : ByteArray := method_4_code
abbrev y_W_word : MethodName := ({ cls := "NovaDeskLaw", name := "word", desc := "(LNovaDesk;I[J)I" } : Jvm.MethodName)
abbrev b_W_set : ByteArray := method_5_code
abbrev y_W_set : MethodName := ({ cls := "NovaDeskLaw", name := "set", desc := "(LNovaDesk;II[J)I" } : Jvm.MethodName)
abbrev b_W_register : ByteArray := method_6_code
abbrev y_W_register : MethodName := ({ cls := "NovaDeskLaw", name := "register", desc := "(LNovaDesk;I[J)I" } : Jvm.MethodName)
abbrev b_W_device : ByteArray := method_7_code
abbrev y_W_device : MethodName := ({ cls := "NovaDeskLaw", name := "device", desc := "(LNovaDesk;II[J)I" } : Jvm.MethodName)
abbrev b_W_tape : ByteArray := method_8_code
abbrev y_W_tape : MethodName := ({ cls := "NovaDeskLaw", name := "tape", desc := "(LNovaDesk;I[J)I" } : Jvm.MethodName)
abbrev b_W_run : ByteArray := method_9_code
abbrev y_W_run : MethodName := ({ cls := "NovaDeskLaw", name := "run", desc := "(LNovaDesk;I[J)I" } : Jvm.MethodName)
abbrev b_W_feed : ByteArray := method_10_code
abbrev y_W_feed : MethodName := ({ cls := "NovaDeskLaw", name := "feed", desc := "(LNovaDesk;IIIII[J)I" } : Jvm.MethodName)
abbrev b_W_end : ByteArray := method_11_code
abbrev y_W_end : MethodName := ({ cls := "NovaDeskLaw", name := "end", desc := "(LNovaDesk;I)I" } : Jvm.MethodName)
abbrev b_W_fault : ByteArray := method_12_code
abbrev y_W_fault : MethodName := ({ cls := "NovaDeskLaw", name := "fault", desc := "(LNovaDesk;I[J)I" } : Jvm.MethodName)
abbrev b_W_tell : ByteArray := method_13_code
abbrev y_W_tell : MethodName := ({ cls := "NovaDeskLaw", name := "tell", desc := "(LNovaDesk;I[J)I" } : Jvm.MethodName)
theorem kw_652 : (Jvm.Cond.methodLink "NovaDeskLaw" (7 : Nat) ({ cls := "NovaDesk", name := "put", desc := "(II)I" } : Jvm.MethodName)) ∈ GW := gw_t (gt_3 (List.mem_of_getElem? (i := 172) rfl)) rfl
theorem kw_653 : (Jvm.Cond.instanceMethod ({ cls := "NovaDesk", name := "put", desc := "(II)I" } : Jvm.MethodName)) ∈ GW := gw_t (gt_3 (List.mem_of_getElem? (i := 173) rfl)) rfl
theorem kw_654 : (Jvm.Cond.selects "NovaDesk" ({ cls := "NovaDesk", name := "put", desc := "(II)I" } : Jvm.MethodName) ({ cls := "NovaDesk", name := "put", desc := "(II)I" } : Jvm.MethodName)) ∈ GW := gw_t (gt_3 (List.mem_of_getElem? (i := 174) rfl)) rfl
theorem kw_655 : (Jvm.Cond.code ({ cls := "NovaDesk", name := "put", desc := "(II)I" } : Jvm.MethodName) prog_1_method_2_code (4 : Nat) (Option.some Jvm.ClassFile.FieldType.int)) ∈ GW := gw_t (gt_3 (List.mem_of_getElem? (i := 175) rfl)) rfl
theorem kw_651 : (Jvm.Cond.classLink "NovaDeskLaw" (13 : Nat) "java/lang/IllegalArgumentException") ∈ GW := gw_t (gt_3 (List.mem_of_getElem? (i := 171) rfl)) rfl
theorem kw_731 : (Jvm.Cond.methodLink "NovaDeskLaw" (15 : Nat) ({ cls := "NovaDesk", name := "word", desc := "(I)I" } : Jvm.MethodName)) ∈ GW := gw_t (gt_4 (List.mem_of_getElem? (i := 11) rfl)) rfl
theorem kw_732 : (Jvm.Cond.instanceMethod ({ cls := "NovaDesk", name := "word", desc := "(I)I" } : Jvm.MethodName)) ∈ GW := gw_t (gt_4 (List.mem_of_getElem? (i := 12) rfl)) rfl
theorem kw_733 : (Jvm.Cond.selects "NovaDesk" ({ cls := "NovaDesk", name := "word", desc := "(I)I" } : Jvm.MethodName) ({ cls := "NovaDesk", name := "word", desc := "(I)I" } : Jvm.MethodName)) ∈ GW := gw_t (gt_4 (List.mem_of_getElem? (i := 13) rfl)) rfl
theorem kw_734 : (Jvm.Cond.code ({ cls := "NovaDesk", name := "word", desc := "(I)I" } : Jvm.MethodName) prog_1_method_3_code (2 : Nat) (Option.some Jvm.ClassFile.FieldType.int)) ∈ GW := gw_t (gt_4 (List.mem_of_getElem? (i := 14) rfl)) rfl
theorem kw_738 : (Jvm.Cond.methodLink "NovaDeskLaw" (19 : Nat) ({ cls := "NovaDesk", name := "set", desc := "(II)I" } : Jvm.MethodName)) ∈ GW := gw_t (gt_4 (List.mem_of_getElem? (i := 18) rfl)) rfl
theorem kw_739 : (Jvm.Cond.instanceMethod ({ cls := "NovaDesk", name := "set", desc := "(II)I" } : Jvm.MethodName)) ∈ GW := gw_t (gt_4 (List.mem_of_getElem? (i := 19) rfl)) rfl
theorem kw_740 : (Jvm.Cond.selects "NovaDesk" ({ cls := "NovaDesk", name := "set", desc := "(II)I" } : Jvm.MethodName) ({ cls := "NovaDesk", name := "set", desc := "(II)I" } : Jvm.MethodName)) ∈ GW := gw_t (gt_4 (List.mem_of_getElem? (i := 20) rfl)) rfl
theorem kw_741 : (Jvm.Cond.code ({ cls := "NovaDesk", name := "set", desc := "(II)I" } : Jvm.MethodName) prog_1_method_4_code (4 : Nat) (Option.some Jvm.ClassFile.FieldType.int)) ∈ GW := gw_t (gt_4 (List.mem_of_getElem? (i := 21) rfl)) rfl
theorem kw_756 : (Jvm.Cond.methodLink "NovaDeskLaw" (22 : Nat) ({ cls := "NovaDesk", name := "register", desc := "(I)I" } : Jvm.MethodName)) ∈ GW := gw_t (gt_4 (List.mem_of_getElem? (i := 36) rfl)) rfl
theorem kw_757 : (Jvm.Cond.instanceMethod ({ cls := "NovaDesk", name := "register", desc := "(I)I" } : Jvm.MethodName)) ∈ GW := gw_t (gt_4 (List.mem_of_getElem? (i := 37) rfl)) rfl
theorem kw_758 : (Jvm.Cond.selects "NovaDesk" ({ cls := "NovaDesk", name := "register", desc := "(I)I" } : Jvm.MethodName) ({ cls := "NovaDesk", name := "register", desc := "(I)I" } : Jvm.MethodName)) ∈ GW := gw_t (gt_4 (List.mem_of_getElem? (i := 38) rfl)) rfl
theorem kw_759 : (Jvm.Cond.code ({ cls := "NovaDesk", name := "register", desc := "(I)I" } : Jvm.MethodName) prog_1_method_5_code (2 : Nat) (Option.some Jvm.ClassFile.FieldType.int)) ∈ GW := gw_t (gt_4 (List.mem_of_getElem? (i := 39) rfl)) rfl
theorem kw_763 : (Jvm.Cond.methodLink "NovaDeskLaw" (25 : Nat) ({ cls := "NovaDesk", name := "device", desc := "(II)I" } : Jvm.MethodName)) ∈ GW := gw_t (gt_4 (List.mem_of_getElem? (i := 43) rfl)) rfl
theorem kw_764 : (Jvm.Cond.instanceMethod ({ cls := "NovaDesk", name := "device", desc := "(II)I" } : Jvm.MethodName)) ∈ GW := gw_t (gt_4 (List.mem_of_getElem? (i := 44) rfl)) rfl
theorem kw_765 : (Jvm.Cond.selects "NovaDesk" ({ cls := "NovaDesk", name := "device", desc := "(II)I" } : Jvm.MethodName) ({ cls := "NovaDesk", name := "device", desc := "(II)I" } : Jvm.MethodName)) ∈ GW := gw_t (gt_4 (List.mem_of_getElem? (i := 45) rfl)) rfl
theorem kw_766 : (Jvm.Cond.code ({ cls := "NovaDesk", name := "device", desc := "(II)I" } : Jvm.MethodName) prog_1_method_6_code (3 : Nat) (Option.some Jvm.ClassFile.FieldType.int)) ∈ GW := gw_t (gt_4 (List.mem_of_getElem? (i := 46) rfl)) rfl
theorem kw_779 : (Jvm.Cond.methodLink "NovaDeskLaw" (28 : Nat) ({ cls := "NovaDesk", name := "tape", desc := "(I)I" } : Jvm.MethodName)) ∈ GW := gw_t (gt_4 (List.mem_of_getElem? (i := 59) rfl)) rfl
theorem kw_780 : (Jvm.Cond.instanceMethod ({ cls := "NovaDesk", name := "tape", desc := "(I)I" } : Jvm.MethodName)) ∈ GW := gw_t (gt_4 (List.mem_of_getElem? (i := 60) rfl)) rfl
theorem kw_781 : (Jvm.Cond.selects "NovaDesk" ({ cls := "NovaDesk", name := "tape", desc := "(I)I" } : Jvm.MethodName) ({ cls := "NovaDesk", name := "tape", desc := "(I)I" } : Jvm.MethodName)) ∈ GW := gw_t (gt_4 (List.mem_of_getElem? (i := 61) rfl)) rfl
theorem kw_782 : (Jvm.Cond.code ({ cls := "NovaDesk", name := "tape", desc := "(I)I" } : Jvm.MethodName) prog_1_method_7_code (2 : Nat) (Option.some Jvm.ClassFile.FieldType.int)) ∈ GW := gw_t (gt_4 (List.mem_of_getElem? (i := 62) rfl)) rfl
theorem kw_778 : (Jvm.Cond.classLink "NovaDeskLaw" (31 : Nat) "java/lang/IllegalStateException") ∈ GW := gw_t (gt_4 (List.mem_of_getElem? (i := 58) rfl)) rfl
theorem kw_808 : (Jvm.Cond.methodLink "NovaDeskLaw" (33 : Nat) ({ cls := "NovaDesk", name := "run", desc := "(I)I" } : Jvm.MethodName)) ∈ GW := gw_t (gt_4 (List.mem_of_getElem? (i := 88) rfl)) rfl
theorem kw_809 : (Jvm.Cond.instanceMethod ({ cls := "NovaDesk", name := "run", desc := "(I)I" } : Jvm.MethodName)) ∈ GW := gw_t (gt_4 (List.mem_of_getElem? (i := 89) rfl)) rfl
theorem kw_810 : (Jvm.Cond.selects "NovaDesk" ({ cls := "NovaDesk", name := "run", desc := "(I)I" } : Jvm.MethodName) ({ cls := "NovaDesk", name := "run", desc := "(I)I" } : Jvm.MethodName)) ∈ GW := gw_t (gt_4 (List.mem_of_getElem? (i := 90) rfl)) rfl
theorem kw_811 : (Jvm.Cond.code ({ cls := "NovaDesk", name := "run", desc := "(I)I" } : Jvm.MethodName) prog_1_method_8_code (2 : Nat) (Option.some Jvm.ClassFile.FieldType.int)) ∈ GW := gw_t (gt_4 (List.mem_of_getElem? (i := 91) rfl)) rfl
theorem kw_967 : (Jvm.Cond.methodLink "NovaDeskLaw" (36 : Nat) ({ cls := "NovaDesk", name := "feed", desc := "(IIIII)I" } : Jvm.MethodName)) ∈ GW := gw_t (gt_5 (List.mem_of_getElem? (i := 7) rfl)) rfl
theorem kw_968 : (Jvm.Cond.instanceMethod ({ cls := "NovaDesk", name := "feed", desc := "(IIIII)I" } : Jvm.MethodName)) ∈ GW := gw_t (gt_5 (List.mem_of_getElem? (i := 8) rfl)) rfl
theorem kw_969 : (Jvm.Cond.selects "NovaDesk" ({ cls := "NovaDesk", name := "feed", desc := "(IIIII)I" } : Jvm.MethodName) ({ cls := "NovaDesk", name := "feed", desc := "(IIIII)I" } : Jvm.MethodName)) ∈ GW := gw_t (gt_5 (List.mem_of_getElem? (i := 9) rfl)) rfl
theorem kw_970 : (Jvm.Cond.code ({ cls := "NovaDesk", name := "feed", desc := "(IIIII)I" } : Jvm.MethodName) prog_1_method_13_code (7 : Nat) (Option.some Jvm.ClassFile.FieldType.int)) ∈ GW := gw_t (gt_5 (List.mem_of_getElem? (i := 10) rfl)) rfl
theorem kw_978 : (Jvm.Cond.methodLink "NovaDeskLaw" (40 : Nat) ({ cls := "NovaDesk", name := "end", desc := "(I)V" } : Jvm.MethodName)) ∈ GW := gw_t (gt_5 (List.mem_of_getElem? (i := 18) rfl)) rfl
theorem kw_979 : (Jvm.Cond.instanceMethod ({ cls := "NovaDesk", name := "end", desc := "(I)V" } : Jvm.MethodName)) ∈ GW := gw_t (gt_5 (List.mem_of_getElem? (i := 19) rfl)) rfl
theorem kw_980 : (Jvm.Cond.selects "NovaDesk" ({ cls := "NovaDesk", name := "end", desc := "(I)V" } : Jvm.MethodName) ({ cls := "NovaDesk", name := "end", desc := "(I)V" } : Jvm.MethodName)) ∈ GW := gw_t (gt_5 (List.mem_of_getElem? (i := 20) rfl)) rfl
theorem kw_981 : (Jvm.Cond.code ({ cls := "NovaDesk", name := "end", desc := "(I)V" } : Jvm.MethodName) prog_1_method_14_code (2 : Nat) (Option.none : Option Jvm.ClassFile.FieldType)) ∈ GW := gw_t (gt_5 (List.mem_of_getElem? (i := 21) rfl)) rfl
theorem kw_985 : (Jvm.Cond.methodLink "NovaDeskLaw" (44 : Nat) ({ cls := "NovaDesk", name := "fault", desc := "(I)I" } : Jvm.MethodName)) ∈ GW := gw_t (gt_5 (List.mem_of_getElem? (i := 25) rfl)) rfl
theorem kw_986 : (Jvm.Cond.instanceMethod ({ cls := "NovaDesk", name := "fault", desc := "(I)I" } : Jvm.MethodName)) ∈ GW := gw_t (gt_5 (List.mem_of_getElem? (i := 26) rfl)) rfl
theorem kw_987 : (Jvm.Cond.selects "NovaDesk" ({ cls := "NovaDesk", name := "fault", desc := "(I)I" } : Jvm.MethodName) ({ cls := "NovaDesk", name := "fault", desc := "(I)I" } : Jvm.MethodName)) ∈ GW := gw_t (gt_5 (List.mem_of_getElem? (i := 27) rfl)) rfl
theorem kw_988 : (Jvm.Cond.code ({ cls := "NovaDesk", name := "fault", desc := "(I)I" } : Jvm.MethodName) prog_1_method_16_code (2 : Nat) (Option.some Jvm.ClassFile.FieldType.int)) ∈ GW := gw_t (gt_5 (List.mem_of_getElem? (i := 28) rfl)) rfl
theorem kw_992 : (Jvm.Cond.methodLink "NovaDeskLaw" (47 : Nat) ({ cls := "NovaDesk", name := "tell", desc := "(I)I" } : Jvm.MethodName)) ∈ GW := gw_t (gt_5 (List.mem_of_getElem? (i := 32) rfl)) rfl
theorem kw_993 : (Jvm.Cond.instanceMethod ({ cls := "NovaDesk", name := "tell", desc := "(I)I" } : Jvm.MethodName)) ∈ GW := gw_t (gt_5 (List.mem_of_getElem? (i := 33) rfl)) rfl
theorem kw_994 : (Jvm.Cond.selects "NovaDesk" ({ cls := "NovaDesk", name := "tell", desc := "(I)I" } : Jvm.MethodName) ({ cls := "NovaDesk", name := "tell", desc := "(I)I" } : Jvm.MethodName)) ∈ GW := gw_t (gt_5 (List.mem_of_getElem? (i := 34) rfl)) rfl
theorem kw_995 : (Jvm.Cond.code ({ cls := "NovaDesk", name := "tell", desc := "(I)I" } : Jvm.MethodName) prog_1_method_18_code (2 : Nat) (Option.some Jvm.ClassFile.FieldType.int)) ∈ GW := gw_t (gt_5 (List.mem_of_getElem? (i := 35) rfl)) rfl
theorem d_W_put_0 : decode b_W_put 0 = .ok (.aload_n 3, 1) := by decide +kernel
theorem d_W_put_1 : decode b_W_put 1 = .ok (.iconst 0, 1) := by decide +kernel
theorem d_W_put_2 : decode b_W_put 2 = .ok (.aload_n 0, 1) := by decide +kernel
theorem d_W_put_3 : decode b_W_put 3 = .ok (.iload_n 1, 1) := by decide +kernel
theorem d_W_put_4 : decode b_W_put 4 = .ok (.iload_n 2, 1) := by decide +kernel
theorem d_W_put_5 : decode b_W_put 5 = .ok (.invokevirtual 7, 3) := by decide +kernel
theorem d_W_put_8 : decode b_W_put 8 = .ok (.i2l, 1) := by decide +kernel
theorem d_W_put_9 : decode b_W_put 9 = .ok (.lastore, 1) := by decide +kernel
theorem d_W_put_10 : decode b_W_put 10 = .ok (.goto 7, 3) := by decide +kernel
theorem d_W_put_13 : decode b_W_put 13 = .ok (.astore 4, 2) := by decide +kernel
theorem d_W_put_15 : decode b_W_put 15 = .ok (.iconst 1, 1) := by decide +kernel
theorem d_W_put_16 : decode b_W_put 16 = .ok (.ireturn, 1) := by decide +kernel
theorem d_W_put_17 : decode b_W_put 17 = .ok (.iconst 0, 1) := by decide +kernel
theorem d_W_put_18 : decode b_W_put 18 = .ok (.ireturn, 1) := by decide +kernel
theorem d_W_word_0 : decode b_W_word 0 = .ok (.aload_n 2, 1) := by decide +kernel
theorem d_W_word_1 : decode b_W_word 1 = .ok (.iconst 0, 1) := by decide +kernel
theorem d_W_word_2 : decode b_W_word 2 = .ok (.aload_n 0, 1) := by decide +kernel
theorem d_W_word_3 : decode b_W_word 3 = .ok (.iload_n 1, 1) := by decide +kernel
theorem d_W_word_4 : decode b_W_word 4 = .ok (.invokevirtual 15, 3) := by decide +kernel
theorem d_W_word_7 : decode b_W_word 7 = .ok (.i2l, 1) := by decide +kernel
theorem d_W_word_8 : decode b_W_word 8 = .ok (.lastore, 1) := by decide +kernel
theorem d_W_word_9 : decode b_W_word 9 = .ok (.goto 6, 3) := by decide +kernel
theorem d_W_word_12 : decode b_W_word 12 = .ok (.astore_n 3, 1) := by decide +kernel
theorem d_W_word_13 : decode b_W_word 13 = .ok (.iconst 1, 1) := by decide +kernel
theorem d_W_word_14 : decode b_W_word 14 = .ok (.ireturn, 1) := by decide +kernel
theorem d_W_word_15 : decode b_W_word 15 = .ok (.iconst 0, 1) := by decide +kernel
theorem d_W_word_16 : decode b_W_word 16 = .ok (.ireturn, 1) := by decide +kernel
theorem d_W_set_0 : decode b_W_set 0 = .ok (.aload_n 3, 1) := by decide +kernel
theorem d_W_set_1 : decode b_W_set 1 = .ok (.iconst 0, 1) := by decide +kernel
theorem d_W_set_2 : decode b_W_set 2 = .ok (.aload_n 0, 1) := by decide +kernel
theorem d_W_set_3 : decode b_W_set 3 = .ok (.iload_n 1, 1) := by decide +kernel
theorem d_W_set_4 : decode b_W_set 4 = .ok (.iload_n 2, 1) := by decide +kernel
theorem d_W_set_5 : decode b_W_set 5 = .ok (.invokevirtual 19, 3) := by decide +kernel
theorem d_W_set_8 : decode b_W_set 8 = .ok (.i2l, 1) := by decide +kernel
theorem d_W_set_9 : decode b_W_set 9 = .ok (.lastore, 1) := by decide +kernel
theorem d_W_set_10 : decode b_W_set 10 = .ok (.goto 7, 3) := by decide +kernel
theorem d_W_set_13 : decode b_W_set 13 = .ok (.astore 4, 2) := by decide +kernel
theorem d_W_set_15 : decode b_W_set 15 = .ok (.iconst 1, 1) := by decide +kernel
theorem d_W_set_16 : decode b_W_set 16 = .ok (.ireturn, 1) := by decide +kernel
theorem d_W_set_17 : decode b_W_set 17 = .ok (.iconst 0, 1) := by decide +kernel
theorem d_W_set_18 : decode b_W_set 18 = .ok (.ireturn, 1) := by decide +kernel
theorem d_W_register_0 : decode b_W_register 0 = .ok (.aload_n 2, 1) := by decide +kernel
theorem d_W_register_1 : decode b_W_register 1 = .ok (.iconst 0, 1) := by decide +kernel
theorem d_W_register_2 : decode b_W_register 2 = .ok (.aload_n 0, 1) := by decide +kernel
theorem d_W_register_3 : decode b_W_register 3 = .ok (.iload_n 1, 1) := by decide +kernel
theorem d_W_register_4 : decode b_W_register 4 = .ok (.invokevirtual 22, 3) := by decide +kernel
theorem d_W_register_7 : decode b_W_register 7 = .ok (.i2l, 1) := by decide +kernel
theorem d_W_register_8 : decode b_W_register 8 = .ok (.lastore, 1) := by decide +kernel
theorem d_W_register_9 : decode b_W_register 9 = .ok (.goto 6, 3) := by decide +kernel
theorem d_W_register_12 : decode b_W_register 12 = .ok (.astore_n 3, 1) := by decide +kernel
theorem d_W_register_13 : decode b_W_register 13 = .ok (.iconst 1, 1) := by decide +kernel
theorem d_W_register_14 : decode b_W_register 14 = .ok (.ireturn, 1) := by decide +kernel
theorem d_W_register_15 : decode b_W_register 15 = .ok (.iconst 0, 1) := by decide +kernel
theorem d_W_register_16 : decode b_W_register 16 = .ok (.ireturn, 1) := by decide +kernel
theorem d_W_device_0 : decode b_W_device 0 = .ok (.aload_n 3, 1) := by decide +kernel
theorem d_W_device_1 : decode b_W_device 1 = .ok (.iconst 0, 1) := by decide +kernel
theorem d_W_device_2 : decode b_W_device 2 = .ok (.aload_n 0, 1) := by decide +kernel
theorem d_W_device_3 : decode b_W_device 3 = .ok (.iload_n 1, 1) := by decide +kernel
theorem d_W_device_4 : decode b_W_device 4 = .ok (.iload_n 2, 1) := by decide +kernel
theorem d_W_device_5 : decode b_W_device 5 = .ok (.invokevirtual 25, 3) := by decide +kernel
theorem d_W_device_8 : decode b_W_device 8 = .ok (.i2l, 1) := by decide +kernel
theorem d_W_device_9 : decode b_W_device 9 = .ok (.lastore, 1) := by decide +kernel
theorem d_W_device_10 : decode b_W_device 10 = .ok (.goto 7, 3) := by decide +kernel
theorem d_W_device_13 : decode b_W_device 13 = .ok (.astore 4, 2) := by decide +kernel
theorem d_W_device_15 : decode b_W_device 15 = .ok (.iconst 1, 1) := by decide +kernel
theorem d_W_device_16 : decode b_W_device 16 = .ok (.ireturn, 1) := by decide +kernel
theorem d_W_device_17 : decode b_W_device 17 = .ok (.iconst 0, 1) := by decide +kernel
theorem d_W_device_18 : decode b_W_device 18 = .ok (.ireturn, 1) := by decide +kernel
theorem d_W_tape_0 : decode b_W_tape 0 = .ok (.aload_n 2, 1) := by decide +kernel
theorem d_W_tape_1 : decode b_W_tape 1 = .ok (.iconst 0, 1) := by decide +kernel
theorem d_W_tape_2 : decode b_W_tape 2 = .ok (.aload_n 0, 1) := by decide +kernel
theorem d_W_tape_3 : decode b_W_tape 3 = .ok (.iload_n 1, 1) := by decide +kernel
theorem d_W_tape_4 : decode b_W_tape 4 = .ok (.invokevirtual 28, 3) := by decide +kernel
theorem d_W_tape_7 : decode b_W_tape 7 = .ok (.i2l, 1) := by decide +kernel
theorem d_W_tape_8 : decode b_W_tape 8 = .ok (.lastore, 1) := by decide +kernel
theorem d_W_tape_9 : decode b_W_tape 9 = .ok (.goto 9, 3) := by decide +kernel
theorem d_W_tape_12 : decode b_W_tape 12 = .ok (.astore_n 3, 1) := by decide +kernel
theorem d_W_tape_13 : decode b_W_tape 13 = .ok (.iconst 1, 1) := by decide +kernel
theorem d_W_tape_14 : decode b_W_tape 14 = .ok (.ireturn, 1) := by decide +kernel
theorem d_W_tape_15 : decode b_W_tape 15 = .ok (.astore_n 3, 1) := by decide +kernel
theorem d_W_tape_16 : decode b_W_tape 16 = .ok (.iconst 2, 1) := by decide +kernel
theorem d_W_tape_17 : decode b_W_tape 17 = .ok (.ireturn, 1) := by decide +kernel
theorem d_W_tape_18 : decode b_W_tape 18 = .ok (.iconst 0, 1) := by decide +kernel
theorem d_W_tape_19 : decode b_W_tape 19 = .ok (.ireturn, 1) := by decide +kernel
theorem d_W_run_0 : decode b_W_run 0 = .ok (.aload_n 2, 1) := by decide +kernel
theorem d_W_run_1 : decode b_W_run 1 = .ok (.iconst 0, 1) := by decide +kernel
theorem d_W_run_2 : decode b_W_run 2 = .ok (.aload_n 0, 1) := by decide +kernel
theorem d_W_run_3 : decode b_W_run 3 = .ok (.iload_n 1, 1) := by decide +kernel
theorem d_W_run_4 : decode b_W_run 4 = .ok (.invokevirtual 33, 3) := by decide +kernel
theorem d_W_run_7 : decode b_W_run 7 = .ok (.i2l, 1) := by decide +kernel
theorem d_W_run_8 : decode b_W_run 8 = .ok (.lastore, 1) := by decide +kernel
theorem d_W_run_9 : decode b_W_run 9 = .ok (.goto 6, 3) := by decide +kernel
theorem d_W_run_12 : decode b_W_run 12 = .ok (.astore_n 3, 1) := by decide +kernel
theorem d_W_run_13 : decode b_W_run 13 = .ok (.iconst 1, 1) := by decide +kernel
theorem d_W_run_14 : decode b_W_run 14 = .ok (.ireturn, 1) := by decide +kernel
theorem d_W_run_15 : decode b_W_run 15 = .ok (.iconst 0, 1) := by decide +kernel
theorem d_W_run_16 : decode b_W_run 16 = .ok (.ireturn, 1) := by decide +kernel
theorem d_W_feed_0 : decode b_W_feed 0 = .ok (.aload 6, 2) := by decide +kernel
theorem d_W_feed_2 : decode b_W_feed 2 = .ok (.iconst 0, 1) := by decide +kernel
theorem d_W_feed_3 : decode b_W_feed 3 = .ok (.aload_n 0, 1) := by decide +kernel
theorem d_W_feed_4 : decode b_W_feed 4 = .ok (.iload_n 1, 1) := by decide +kernel
theorem d_W_feed_5 : decode b_W_feed 5 = .ok (.iload_n 2, 1) := by decide +kernel
theorem d_W_feed_6 : decode b_W_feed 6 = .ok (.iload_n 3, 1) := by decide +kernel
theorem d_W_feed_7 : decode b_W_feed 7 = .ok (.iload 4, 2) := by decide +kernel
theorem d_W_feed_9 : decode b_W_feed 9 = .ok (.iload 5, 2) := by decide +kernel
theorem d_W_feed_11 : decode b_W_feed 11 = .ok (.invokevirtual 36, 3) := by decide +kernel
theorem d_W_feed_14 : decode b_W_feed 14 = .ok (.i2l, 1) := by decide +kernel
theorem d_W_feed_15 : decode b_W_feed 15 = .ok (.lastore, 1) := by decide +kernel
theorem d_W_feed_16 : decode b_W_feed 16 = .ok (.goto 7, 3) := by decide +kernel
theorem d_W_feed_19 : decode b_W_feed 19 = .ok (.astore 7, 2) := by decide +kernel
theorem d_W_feed_21 : decode b_W_feed 21 = .ok (.iconst 1, 1) := by decide +kernel
theorem d_W_feed_22 : decode b_W_feed 22 = .ok (.ireturn, 1) := by decide +kernel
theorem d_W_feed_23 : decode b_W_feed 23 = .ok (.iconst 0, 1) := by decide +kernel
theorem d_W_feed_24 : decode b_W_feed 24 = .ok (.ireturn, 1) := by decide +kernel
theorem d_W_end_0 : decode b_W_end 0 = .ok (.aload_n 0, 1) := by decide +kernel
theorem d_W_end_1 : decode b_W_end 1 = .ok (.iload_n 1, 1) := by decide +kernel
theorem d_W_end_2 : decode b_W_end 2 = .ok (.invokevirtual 40, 3) := by decide +kernel
theorem d_W_end_5 : decode b_W_end 5 = .ok (.goto 6, 3) := by decide +kernel
theorem d_W_end_8 : decode b_W_end 8 = .ok (.astore_n 2, 1) := by decide +kernel
theorem d_W_end_9 : decode b_W_end 9 = .ok (.iconst 1, 1) := by decide +kernel
theorem d_W_end_10 : decode b_W_end 10 = .ok (.ireturn, 1) := by decide +kernel
theorem d_W_end_11 : decode b_W_end 11 = .ok (.iconst 0, 1) := by decide +kernel
theorem d_W_end_12 : decode b_W_end 12 = .ok (.ireturn, 1) := by decide +kernel
theorem d_W_fault_0 : decode b_W_fault 0 = .ok (.aload_n 2, 1) := by decide +kernel
theorem d_W_fault_1 : decode b_W_fault 1 = .ok (.iconst 0, 1) := by decide +kernel
theorem d_W_fault_2 : decode b_W_fault 2 = .ok (.aload_n 0, 1) := by decide +kernel
theorem d_W_fault_3 : decode b_W_fault 3 = .ok (.iload_n 1, 1) := by decide +kernel
theorem d_W_fault_4 : decode b_W_fault 4 = .ok (.invokevirtual 44, 3) := by decide +kernel
theorem d_W_fault_7 : decode b_W_fault 7 = .ok (.i2l, 1) := by decide +kernel
theorem d_W_fault_8 : decode b_W_fault 8 = .ok (.lastore, 1) := by decide +kernel
theorem d_W_fault_9 : decode b_W_fault 9 = .ok (.goto 6, 3) := by decide +kernel
theorem d_W_fault_12 : decode b_W_fault 12 = .ok (.astore_n 3, 1) := by decide +kernel
theorem d_W_fault_13 : decode b_W_fault 13 = .ok (.iconst 1, 1) := by decide +kernel
theorem d_W_fault_14 : decode b_W_fault 14 = .ok (.ireturn, 1) := by decide +kernel
theorem d_W_fault_15 : decode b_W_fault 15 = .ok (.iconst 0, 1) := by decide +kernel
theorem d_W_fault_16 : decode b_W_fault 16 = .ok (.ireturn, 1) := by decide +kernel
theorem d_W_tell_0 : decode b_W_tell 0 = .ok (.aload_n 2, 1) := by decide +kernel
theorem d_W_tell_1 : decode b_W_tell 1 = .ok (.iconst 0, 1) := by decide +kernel
theorem d_W_tell_2 : decode b_W_tell 2 = .ok (.aload_n 0, 1) := by decide +kernel
theorem d_W_tell_3 : decode b_W_tell 3 = .ok (.iload_n 1, 1) := by decide +kernel
theorem d_W_tell_4 : decode b_W_tell 4 = .ok (.invokevirtual 47, 3) := by decide +kernel
theorem d_W_tell_7 : decode b_W_tell 7 = .ok (.i2l, 1) := by decide +kernel
theorem d_W_tell_8 : decode b_W_tell 8 = .ok (.lastore, 1) := by decide +kernel
theorem d_W_tell_9 : decode b_W_tell 9 = .ok (.goto 6, 3) := by decide +kernel
theorem d_W_tell_12 : decode b_W_tell 12 = .ok (.astore_n 3, 1) := by decide +kernel
theorem d_W_tell_13 : decode b_W_tell 13 = .ok (.iconst 1, 1) := by decide +kernel
theorem d_W_tell_14 : decode b_W_tell 14 = .ok (.ireturn, 1) := by decide +kernel
theorem d_W_tell_15 : decode b_W_tell 15 = .ok (.iconst 0, 1) := by decide +kernel
theorem d_W_tell_16 : decode b_W_tell 16 = .ok (.ireturn, 1) := by decide +kernel
abbrev oc (cA : Nat → ClassId) (o : Nat) (g : Nat → Int64) : Nat × va_E := (o, .inl (cA 1, 1, .inr (.inl g)))
