/-! the class: names, words of calls, by program -/
abbrev b_M_load : ByteArray := prog_8_method_2_code
abbrev y_M_load : MethodName := ({ cls := "NovaDesk$Machine", name := "load", desc := "(I)I" } : Jvm.MethodName)
abbrev b_M_store : ByteArray := prog_8_method_3_code
abbrev y_M_store : MethodName := ({ cls := "NovaDesk$Machine", name := "store", desc := "(II)V" } : Jvm.MethodName)
abbrev b_M_readRegister : ByteArray := prog_8_method_4_code
abbrev y_M_readRegister : MethodName := ({ cls := "NovaDesk$Machine", name := "readRegister", desc := "(I)I" } : Jvm.MethodName)
abbrev b_M_writeRegister : ByteArray := prog_8_method_5_code
abbrev y_M_writeRegister : MethodName := ({ cls := "NovaDesk$Machine", name := "writeRegister", desc := "(II)V" } : Jvm.MethodName)
abbrev b_M_deviceAt : ByteArray := prog_8_method_26_code
abbrev y_M_deviceAt : MethodName := ({ cls := "NovaDesk$Machine", name := "deviceAt", desc := "(I)LNovaDesk$Device;" } : Jvm.MethodName)
abbrev b_M_readDevice : ByteArray := prog_8_method_6_code
abbrev y_M_readDevice : MethodName := ({ cls := "NovaDesk$Machine", name := "readDevice", desc := "(II)I" } : Jvm.MethodName)
abbrev b_D_stop : ByteArray := prog_4_method_6_code
abbrev y_D_stop : MethodName := ({ cls := "NovaDesk$Device", name := "stop", desc := "()V" } : Jvm.MethodName)
abbrev b_D_clear : ByteArray := prog_4_method_8_code
abbrev y_D_clear : MethodName := ({ cls := "NovaDesk$Device", name := "clear", desc := "()V" } : Jvm.MethodName)
abbrev b_E_clear : ByteArray := prog_10_method_5_code
abbrev y_E_clear : MethodName := ({ cls := "NovaDesk$Reader", name := "clear", desc := "()V" } : Jvm.MethodName)
abbrev b_P_clear : ByteArray := prog_9_method_6_code
abbrev y_P_clear : MethodName := ({ cls := "NovaDesk$Printer", name := "clear", desc := "()V" } : Jvm.MethodName)
abbrev b_M_clear : ByteArray := prog_8_method_7_code
abbrev y_M_clear : MethodName := ({ cls := "NovaDesk$Machine", name := "clear", desc := "()V" } : Jvm.MethodName)
abbrev b_E_work : ByteArray := prog_10_method_3_code
abbrev y_E_work : MethodName := ({ cls := "NovaDesk$Reader", name := "work", desc := "()Z" } : Jvm.MethodName)
abbrev b_D_tick : ByteArray := prog_4_method_7_code
abbrev y_D_tick : MethodName := ({ cls := "NovaDesk$Device", name := "tick", desc := "()V" } : Jvm.MethodName)
abbrev b_P_work : ByteArray := prog_9_method_2_code
abbrev y_P_work : MethodName := ({ cls := "NovaDesk$Printer", name := "work", desc := "()Z" } : Jvm.MethodName)
abbrev b_K_work : ByteArray := prog_3_method_2_code
abbrev y_K_work : MethodName := ({ cls := "NovaDesk$Clock", name := "work", desc := "()Z" } : Jvm.MethodName)
abbrev b_M_stepAt : ByteArray := prog_8_method_20_code
abbrev y_M_stepAt : MethodName := ({ cls := "NovaDesk$Machine", name := "stepAt", desc := "(I)I" } : Jvm.MethodName)
abbrev b_M_countAt : ByteArray := prog_8_method_17_code
abbrev y_M_countAt : MethodName := ({ cls := "NovaDesk$Machine", name := "countAt", desc := "(II)I" } : Jvm.MethodName)
abbrev b_M_endOfRow : ByteArray := prog_8_method_19_code
abbrev y_M_endOfRow : MethodName := ({ cls := "NovaDesk$Machine", name := "endOfRow", desc := "(I)I" } : Jvm.MethodName)
abbrev b_M_addressOf : ByteArray := prog_8_method_18_code
abbrev y_M_addressOf : MethodName := ({ cls := "NovaDesk$Machine", name := "addressOf", desc := "(I)I" } : Jvm.MethodName)
abbrev b_M_goOn : ByteArray := prog_8_method_14_code
abbrev y_M_goOn : MethodName := ({ cls := "NovaDesk$Machine", name := "goOn", desc := "(Z)V" } : Jvm.MethodName)
abbrev b_M_moveWord : ByteArray := prog_8_method_16_code
abbrev y_M_moveWord : MethodName := ({ cls := "NovaDesk$Machine", name := "moveWord", desc := "(II)V" } : Jvm.MethodName)
abbrev b_M_useMemory : ByteArray := prog_8_method_15_code
abbrev y_M_useMemory : MethodName := ({ cls := "NovaDesk$Machine", name := "useMemory", desc := "(II)V" } : Jvm.MethodName)
abbrev b_D_start : ByteArray := prog_4_method_5_code
abbrev y_D_start : MethodName := ({ cls := "NovaDesk$Device", name := "start", desc := "()V" } : Jvm.MethodName)
abbrev b_D_output : ByteArray := prog_4_method_4_code
abbrev y_D_output : MethodName := ({ cls := "NovaDesk$Device", name := "output", desc := "(II)V" } : Jvm.MethodName)
abbrev b_E_input : ByteArray := prog_10_method_4_code
abbrev y_E_input : MethodName := ({ cls := "NovaDesk$Reader", name := "input", desc := "(I)I" } : Jvm.MethodName)
abbrev b_D_passes : ByteArray := prog_4_method_10_code
abbrev y_D_passes : MethodName := ({ cls := "NovaDesk$Device", name := "passes", desc := "(I)Z" } : Jvm.MethodName)
abbrev b_P_output : ByteArray := prog_9_method_3_code
abbrev y_P_output : MethodName := ({ cls := "NovaDesk$Printer", name := "output", desc := "(II)V" } : Jvm.MethodName)
abbrev b_D_input : ByteArray := prog_4_method_3_code
abbrev y_D_input : MethodName := ({ cls := "NovaDesk$Device", name := "input", desc := "(I)I" } : Jvm.MethodName)
abbrev b_M_operateNothing : ByteArray := prog_8_method_28_code
abbrev y_M_operateNothing : MethodName := ({ cls := "NovaDesk$Machine", name := "operateNothing", desc := "(III)Z" } : Jvm.MethodName)
abbrev b_D_asks : ByteArray := prog_4_method_9_code
abbrev y_D_asks : MethodName := ({ cls := "NovaDesk$Device", name := "asks", desc := "(I)Z" } : Jvm.MethodName)
abbrev b_M_askingDevice : ByteArray := prog_8_method_11_code
abbrev y_M_askingDevice : MethodName := ({ cls := "NovaDesk$Machine", name := "askingDevice", desc := "()I" } : Jvm.MethodName)
abbrev b_M_stopDevices : ByteArray := prog_8_method_30_code
abbrev y_M_stopDevices : MethodName := ({ cls := "NovaDesk$Machine", name := "stopDevices", desc := "()V" } : Jvm.MethodName)
abbrev b_M_machinePasses : ByteArray := prog_8_method_31_code
abbrev y_M_machinePasses : MethodName := ({ cls := "NovaDesk$Machine", name := "machinePasses", desc := "(I)Z" } : Jvm.MethodName)
abbrev b_M_operateMachine : ByteArray := prog_8_method_29_code
abbrev y_M_operateMachine : MethodName := ({ cls := "NovaDesk$Machine", name := "operateMachine", desc := "(III)Z" } : Jvm.MethodName)
abbrev b_M_operate : ByteArray := prog_8_method_27_code
abbrev y_M_operate : MethodName := ({ cls := "NovaDesk$Machine", name := "operate", desc := "(I)Z" } : Jvm.MethodName)
abbrev b_M_skips : ByteArray := prog_8_method_25_code
abbrev y_M_skips : MethodName := ({ cls := "NovaDesk$Machine", name := "skips", desc := "(III)Z" } : Jvm.MethodName)
abbrev b_M_sumOf : ByteArray := prog_8_method_22_code
abbrev y_M_sumOf : MethodName := ({ cls := "NovaDesk$Machine", name := "sumOf", desc := "(III)I" } : Jvm.MethodName)
abbrev b_M_baseOf : ByteArray := prog_8_method_23_code
abbrev y_M_baseOf : MethodName := ({ cls := "NovaDesk$Machine", name := "baseOf", desc := "(I)I" } : Jvm.MethodName)
abbrev b_M_shift : ByteArray := prog_8_method_24_code
abbrev y_M_shift : MethodName := ({ cls := "NovaDesk$Machine", name := "shift", desc := "(II)I" } : Jvm.MethodName)
abbrev b_M_calculate : ByteArray := prog_8_method_21_code
abbrev y_M_calculate : MethodName := ({ cls := "NovaDesk$Machine", name := "calculate", desc := "(I)Z" } : Jvm.MethodName)
abbrev b_M_perform : ByteArray := prog_8_method_13_code
abbrev y_M_perform : MethodName := ({ cls := "NovaDesk$Machine", name := "perform", desc := "(I)Z" } : Jvm.MethodName)
abbrev b_M_letsIn : ByteArray := prog_8_method_10_code
abbrev y_M_letsIn : MethodName := ({ cls := "NovaDesk$Machine", name := "letsIn", desc := "(I)Z" } : Jvm.MethodName)
abbrev b_M_interrupt : ByteArray := prog_8_method_12_code
abbrev y_M_interrupt : MethodName := ({ cls := "NovaDesk$Machine", name := "interrupt", desc := "()Z" } : Jvm.MethodName)
abbrev b_M_doNext : ByteArray := prog_8_method_9_code
abbrev y_M_doNext : MethodName := ({ cls := "NovaDesk$Machine", name := "doNext", desc := "()V" } : Jvm.MethodName)
abbrev b_M_runUpTo : ByteArray := prog_8_method_8_code
abbrev y_M_runUpTo : MethodName := ({ cls := "NovaDesk$Machine", name := "runUpTo", desc := "(I)I" } : Jvm.MethodName)
abbrev b_E_append : ByteArray := prog_10_method_2_code
abbrev y_E_append : MethodName := ({ cls := "NovaDesk$Reader", name := "append", desc := "(I)V" } : Jvm.MethodName)
abbrev b_P_characterAt : ByteArray := prog_9_method_4_code
abbrev y_P_characterAt : MethodName := ({ cls := "NovaDesk$Printer", name := "characterAt", desc := "(I)I" } : Jvm.MethodName)
abbrev b_P_takePaper : ByteArray := prog_9_method_5_code
abbrev y_P_takePaper : MethodName := ({ cls := "NovaDesk$Printer", name := "takePaper", desc := "()I" } : Jvm.MethodName)
abbrev b_L_find : ByteArray := prog_7_method_2_code
abbrev y_L_find : MethodName := ({ cls := "NovaDesk$Labels", name := "find", desc := "(J)I" } : Jvm.MethodName)
abbrev b_L_add : ByteArray := prog_7_method_3_code
abbrev y_L_add : MethodName := ({ cls := "NovaDesk$Labels", name := "add", desc := "(JI)Z" } : Jvm.MethodName)
abbrev b_L_clear : ByteArray := prog_7_method_4_code
abbrev y_L_clear : MethodName := ({ cls := "NovaDesk$Labels", name := "clear", desc := "()V" } : Jvm.MethodName)
abbrev b_I_appendFour : ByteArray := prog_6_method_2_code
abbrev y_I_appendFour : MethodName := ({ cls := "NovaDesk$Items", name := "appendFour", desc := "(I)V" } : Jvm.MethodName)
abbrev b_I_kindAt : ByteArray := prog_6_method_3_code
abbrev y_I_kindAt : MethodName := ({ cls := "NovaDesk$Items", name := "kindAt", desc := "(I)I" } : Jvm.MethodName)
abbrev b_I_nameAt : ByteArray := prog_6_method_4_code
abbrev y_I_nameAt : MethodName := ({ cls := "NovaDesk$Items", name := "nameAt", desc := "(I)J" } : Jvm.MethodName)
abbrev b_I_numberAt : ByteArray := prog_6_method_5_code
abbrev y_I_numberAt : MethodName := ({ cls := "NovaDesk$Items", name := "numberAt", desc := "(I)I" } : Jvm.MethodName)
abbrev b_I_add : ByteArray := prog_6_method_12_code
abbrev y_I_add : MethodName := ({ cls := "NovaDesk$Items", name := "add", desc := "(J)V" } : Jvm.MethodName)
abbrev b_I_isDigit : ByteArray := prog_6_method_14_code
abbrev y_I_isDigit : MethodName := ({ cls := "NovaDesk$Items", name := "isDigit", desc := "(C)Z" } : Jvm.MethodName)
abbrev b_I_goesOn : ByteArray := prog_6_method_13_code
abbrev y_I_goesOn : MethodName := ({ cls := "NovaDesk$Items", name := "goesOn", desc := "(C)Z" } : Jvm.MethodName)
abbrev b_JStr_isLatin10 : ByteArray := prog_22_method_154_code
abbrev y_JStr_isLatin10 : MethodName := ({ cls := "java/lang/String", name := "isLatin1", desc := "()Z" } : Jvm.MethodName)
abbrev b_JStr_coder0 : ByteArray := prog_22_method_152_code
abbrev y_JStr_coder0 : MethodName := ({ cls := "java/lang/String", name := "coder", desc := "()B" } : Jvm.MethodName)
abbrev b_JStr_length0 : ByteArray := prog_22_method_54_code
abbrev y_JStr_length0 : MethodName := ({ cls := "java/lang/String", name := "length", desc := "()I" } : Jvm.MethodName)
abbrev b_JLat_canEncode1 : ByteArray := prog_23_method_4_code
abbrev y_JLat_canEncode1 : MethodName := ({ cls := "java/lang/StringLatin1", name := "canEncode", desc := "(I)Z" } : Jvm.MethodName)
abbrev b_JLat_indexOfChar4 : ByteArray := prog_23_method_23_code
abbrev y_JLat_indexOfChar4 : MethodName := ({ cls := "java/lang/StringLatin1", name := "indexOfChar", desc := "([BIII)I" } : Jvm.MethodName)
abbrev b_JLat_indexOf4 : ByteArray := prog_23_method_22_code
abbrev y_JLat_indexOf4 : MethodName := ({ cls := "java/lang/StringLatin1", name := "indexOf", desc := "([BIII)I" } : Jvm.MethodName)
abbrev b_JStr_indexOf2 : ByteArray := prog_22_method_80_code
abbrev y_JStr_indexOf2 : MethodName := ({ cls := "java/lang/String", name := "indexOf", desc := "(II)I" } : Jvm.MethodName)
abbrev b_JStr_indexOf1 : ByteArray := prog_22_method_79_code
abbrev y_JStr_indexOf1 : MethodName := ({ cls := "java/lang/String", name := "indexOf", desc := "(I)I" } : Jvm.MethodName)
abbrev b_I_skipLine : ByteArray := prog_6_method_8_code
abbrev y_I_skipLine : MethodName := ({ cls := "NovaDesk$Items", name := "skipLine", desc := "()V" } : Jvm.MethodName)
abbrev b_I_nameFrom : ByteArray := prog_6_method_11_code
abbrev y_I_nameFrom : MethodName := ({ cls := "NovaDesk$Items", name := "nameFrom", desc := "(I)J" } : Jvm.MethodName)
abbrev b_I_numberFrom : ByteArray := prog_6_method_10_code
abbrev y_I_numberFrom : MethodName := ({ cls := "NovaDesk$Items", name := "numberFrom", desc := "(I)J" } : Jvm.MethodName)
abbrev b_I_splitLetters : ByteArray := prog_6_method_9_code
abbrev y_I_splitLetters : MethodName := ({ cls := "NovaDesk$Items", name := "splitLetters", desc := "(C)V" } : Jvm.MethodName)
abbrev b_I_splitNext : ByteArray := prog_6_method_7_code
abbrev y_I_splitNext : MethodName := ({ cls := "NovaDesk$Items", name := "splitNext", desc := "()V" } : Jvm.MethodName)
abbrev b_I_split : ByteArray := prog_6_method_6_code
abbrev y_I_split : MethodName := ({ cls := "NovaDesk$Items", name := "split", desc := "()V" } : Jvm.MethodName)
abbrev b_T_clear : ByteArray := prog_12_method_2_code
abbrev y_T_clear : MethodName := ({ cls := "NovaDesk$Teller", name := "clear", desc := "()V" } : Jvm.MethodName)
abbrev b_T_characterAt : ByteArray := prog_12_method_3_code
abbrev y_T_characterAt : MethodName := ({ cls := "NovaDesk$Teller", name := "characterAt", desc := "(I)I" } : Jvm.MethodName)
abbrev b_T_write : ByteArray := prog_12_method_11_code
abbrev y_T_write : MethodName := ({ cls := "NovaDesk$Teller", name := "write", desc := "(C)V" } : Jvm.MethodName)
abbrev b_T_writeNumber : ByteArray := prog_12_method_9_code
abbrev y_T_writeNumber : MethodName := ({ cls := "NovaDesk$Teller", name := "writeNumber", desc := "(I)V" } : Jvm.MethodName)
abbrev b_JPre_checkIndex3 : ByteArray := prog_26_method_11_code
abbrev y_JPre_checkIndex3 : MethodName := ({ cls := "jdk/internal/util/Preconditions", name := "checkIndex", desc := "(IILjava/util/function/BiFunction;)I" } : Jvm.MethodName)
abbrev b_JStr_checkIndex2 : ByteArray := prog_22_method_155_code
abbrev y_JStr_checkIndex2 : MethodName := ({ cls := "java/lang/String", name := "checkIndex", desc := "(II)V" } : Jvm.MethodName)
abbrev b_JLat_charAt2 : ByteArray := prog_23_method_2_code
abbrev y_JLat_charAt2 : MethodName := ({ cls := "java/lang/StringLatin1", name := "charAt", desc := "([BI)C" } : Jvm.MethodName)
abbrev b_JStr_charAt1 : ByteArray := prog_22_method_56_code
abbrev y_JStr_charAt1 : MethodName := ({ cls := "java/lang/String", name := "charAt", desc := "(I)C" } : Jvm.MethodName)
abbrev b_T_writeLetter : ByteArray := prog_12_method_8_code
abbrev y_T_writeLetter : MethodName := ({ cls := "NovaDesk$Teller", name := "writeLetter", desc := "(Ljava/lang/String;I)V" } : Jvm.MethodName)
abbrev b_T_writeTransfer : ByteArray := prog_12_method_7_code
abbrev y_T_writeTransfer : MethodName := ({ cls := "NovaDesk$Teller", name := "writeTransfer", desc := "(IZ)V" } : Jvm.MethodName)
abbrev b_S_making : ByteArray := prog_11_method_5_code
abbrev y_S_making : MethodName := ({ cls := "NovaDesk$Statement", name := "making", desc := "(I)LNovaDesk$Statement;" } : Jvm.MethodName)
abbrev b_T_writeText : ByteArray := prog_12_method_10_code
abbrev y_T_writeText : MethodName := ({ cls := "NovaDesk$Teller", name := "writeText", desc := "(Ljava/lang/String;)V" } : Jvm.MethodName)
abbrev b_T_writeAddress : ByteArray := prog_12_method_5_code
abbrev y_T_writeAddress : MethodName := ({ cls := "NovaDesk$Teller", name := "writeAddress", desc := "(I)V" } : Jvm.MethodName)
abbrev b_G_skipName : ByteArray := prog_5_method_5_code
abbrev y_G_skipName : MethodName := ({ cls := "NovaDesk$Given", name := "skipName", desc := "(I)Ljava/lang/String;" } : Jvm.MethodName)
abbrev b_T_writeArithmetic : ByteArray := prog_12_method_6_code
abbrev y_T_writeArithmetic : MethodName := ({ cls := "NovaDesk$Teller", name := "writeArithmetic", desc := "(I)V" } : Jvm.MethodName)
abbrev b_T_describe : ByteArray := prog_12_method_4_code
abbrev y_T_describe : MethodName := ({ cls := "NovaDesk$Teller", name := "describe", desc := "(I)I" } : Jvm.MethodName)
abbrev b_A_clear : ByteArray := prog_2_method_2_code
abbrev y_A_clear : MethodName := ({ cls := "NovaDesk$Assembler", name := "clear", desc := "()V" } : Jvm.MethodName)
abbrev b_A_begin : ByteArray := prog_2_method_3_code
abbrev y_A_begin : MethodName := ({ cls := "NovaDesk$Assembler", name := "begin", desc := "()V" } : Jvm.MethodName)
abbrev b_A_finish : ByteArray := prog_2_method_4_code
abbrev y_A_finish : MethodName := ({ cls := "NovaDesk$Assembler", name := "finish", desc := "(LNovaDesk$Machine;)I" } : Jvm.MethodName)
abbrev b_A_complain : ByteArray := prog_2_method_6_code
abbrev y_A_complain : MethodName := ({ cls := "NovaDesk$Assembler", name := "complain", desc := "(I)V" } : Jvm.MethodName)
abbrev b_S_leastOperands : ByteArray := prog_11_method_7_code
abbrev y_S_leastOperands : MethodName := ({ cls := "NovaDesk$Statement", name := "leastOperands", desc := "()I" } : Jvm.MethodName)
abbrev b_A_look : ByteArray := prog_2_method_8_code
abbrev y_A_look : MethodName := ({ cls := "NovaDesk$Assembler", name := "look", desc := "()I" } : Jvm.MethodName)
abbrev b_A_takes : ByteArray := prog_2_method_9_code
abbrev y_A_takes : MethodName := ({ cls := "NovaDesk$Assembler", name := "takes", desc := "(C)Z" } : Jvm.MethodName)
abbrev b_G_numberOf : ByteArray := prog_5_method_4_code
abbrev y_G_numberOf : MethodName := ({ cls := "NovaDesk$Given", name := "numberOf", desc := "(J)I" } : Jvm.MethodName)
abbrev b_A_numberOf : ByteArray := prog_2_method_15_code
abbrev y_A_numberOf : MethodName := ({ cls := "NovaDesk$Assembler", name := "numberOf", desc := "(J)I" } : Jvm.MethodName)
abbrev b_A_readTerm : ByteArray := prog_2_method_14_code
abbrev y_A_readTerm : MethodName := ({ cls := "NovaDesk$Assembler", name := "readTerm", desc := "()I" } : Jvm.MethodName)
abbrev b_A_readExpression : ByteArray := prog_2_method_13_code
abbrev y_A_readExpression : MethodName := ({ cls := "NovaDesk$Assembler", name := "readExpression", desc := "()I" } : Jvm.MethodName)
abbrev b_S_addressOperand : ByteArray := prog_11_method_9_code
abbrev y_S_addressOperand : MethodName := ({ cls := "NovaDesk$Statement", name := "addressOperand", desc := "()I" } : Jvm.MethodName)
abbrev b_S_mostOperands : ByteArray := prog_11_method_8_code
abbrev y_S_mostOperands : MethodName := ({ cls := "NovaDesk$Statement", name := "mostOperands", desc := "()I" } : Jvm.MethodName)
abbrev b_S_furtherBits : ByteArray := prog_11_method_6_code
abbrev y_S_furtherBits : MethodName := ({ cls := "NovaDesk$Statement", name := "furtherBits", desc := "(J)I" } : Jvm.MethodName)
abbrev b_A_readStatement : ByteArray := prog_2_method_12_code
abbrev y_A_readStatement : MethodName := ({ cls := "NovaDesk$Assembler", name := "readStatement", desc := "(LNovaDesk$Statement;)I" } : Jvm.MethodName)
abbrev b_A_bounded : ByteArray := prog_2_method_20_code
abbrev y_A_bounded : MethodName := ({ cls := "NovaDesk$Assembler", name := "bounded", desc := "(II)I" } : Jvm.MethodName)
abbrev b_A_moveLocation : ByteArray := prog_2_method_16_code
abbrev y_A_moveLocation : MethodName := ({ cls := "NovaDesk$Assembler", name := "moveLocation", desc := "(I)V" } : Jvm.MethodName)
abbrev b_A_takePlace : ByteArray := prog_2_method_17_code
abbrev y_A_takePlace : MethodName := ({ cls := "NovaDesk$Assembler", name := "takePlace", desc := "()V" } : Jvm.MethodName)
abbrev b_N_isWithin : ByteArray := prog_1_method_22_code
abbrev y_N_isWithin : MethodName := ({ cls := "NovaDesk", name := "isWithin", desc := "(II)Z" } : Jvm.MethodName)
abbrev b_A_addressBitsOf : ByteArray := prog_2_method_23_code
abbrev y_A_addressBitsOf : MethodName := ({ cls := "NovaDesk$Assembler", name := "addressBitsOf", desc := "(II)I" } : Jvm.MethodName)
abbrev b_A_addressBits : ByteArray := prog_2_method_22_code
abbrev y_A_addressBits : MethodName := ({ cls := "NovaDesk$Assembler", name := "addressBits", desc := "(I)I" } : Jvm.MethodName)
abbrev b_A_skipBits : ByteArray := prog_2_method_21_code
abbrev y_A_skipBits : MethodName := ({ cls := "NovaDesk$Assembler", name := "skipBits", desc := "()I" } : Jvm.MethodName)
abbrev b_A_operandBits : ByteArray := prog_2_method_19_code
abbrev y_A_operandBits : MethodName := ({ cls := "NovaDesk$Assembler", name := "operandBits", desc := "(I)I" } : Jvm.MethodName)
abbrev b_A_keepWord : ByteArray := prog_2_method_18_code
abbrev y_A_keepWord : MethodName := ({ cls := "NovaDesk$Assembler", name := "keepWord", desc := "(I)V" } : Jvm.MethodName)
abbrev b_S_named : ByteArray := prog_11_method_4_code
abbrev y_S_named : MethodName := ({ cls := "NovaDesk$Statement", name := "named", desc := "(J)LNovaDesk$Statement;" } : Jvm.MethodName)
abbrev b_A_define : ByteArray := prog_2_method_11_code
abbrev y_A_define : MethodName := ({ cls := "NovaDesk$Assembler", name := "define", desc := "(J)V" } : Jvm.MethodName)
abbrev b_A_readLabels : ByteArray := prog_2_method_10_code
abbrev y_A_readLabels : MethodName := ({ cls := "NovaDesk$Assembler", name := "readLabels", desc := "(Z)V" } : Jvm.MethodName)
abbrev b_A_readLine : ByteArray := prog_2_method_7_code
abbrev y_A_readLine : MethodName := ({ cls := "NovaDesk$Assembler", name := "readLine", desc := "(Z)V" } : Jvm.MethodName)
abbrev b_A_goThrough : ByteArray := prog_2_method_5_code
abbrev y_A_goThrough : MethodName := ({ cls := "NovaDesk$Assembler", name := "goThrough", desc := "(Z)V" } : Jvm.MethodName)
abbrev b_N_why : ByteArray := prog_1_method_9_code
abbrev y_N_why : MethodName := ({ cls := "NovaDesk", name := "why", desc := "()I" } : Jvm.MethodName)
abbrev b_N_printed : ByteArray := prog_1_method_10_code
abbrev y_N_printed : MethodName := ({ cls := "NovaDesk", name := "printed", desc := "(I)I" } : Jvm.MethodName)
abbrev b_N_tear : ByteArray := prog_1_method_11_code
abbrev y_N_tear : MethodName := ({ cls := "NovaDesk", name := "tear", desc := "()I" } : Jvm.MethodName)
abbrev b_N_reset : ByteArray := prog_1_method_12_code
abbrev y_N_reset : MethodName := ({ cls := "NovaDesk", name := "reset", desc := "()V" } : Jvm.MethodName)
abbrev b_N_assemble : ByteArray := prog_1_method_15_code
abbrev y_N_assemble : MethodName := ({ cls := "NovaDesk", name := "assemble", desc := "()I" } : Jvm.MethodName)
abbrev b_N_label : ByteArray := prog_1_method_17_code
abbrev y_N_label : MethodName := ({ cls := "NovaDesk", name := "label", desc := "(II)I" } : Jvm.MethodName)
abbrev b_N_told : ByteArray := prog_1_method_19_code
abbrev y_N_told : MethodName := ({ cls := "NovaDesk", name := "told", desc := "(I)I" } : Jvm.MethodName)
abbrev b_N_highestOf : ByteArray := prog_1_method_23_code
abbrev y_N_highestOf : MethodName := ({ cls := "NovaDesk", name := "highestOf", desc := "(I)I" } : Jvm.MethodName)
theorem cw_M_65 : CVW RNM 65 "NovaDesk$Machine" y_M_deviceAt b_M_deviceAt 3 ((Option.some (Jvm.ClassFile.FieldType.object "NovaDesk$Device"))) 1 := cvw kw_771 kw_773 kp_25 kw_2 kw_774 (by decide +kernel)
theorem cw_D_30_E : CUW "NovaDesk$Device" 30 "NovaDesk$Reader" "NovaDesk$Device" ({ cls := "NovaDesk$Device", name := "stop", desc := "()V" } : Jvm.MethodName) y_D_stop b_D_stop 1 ((Option.none : Option Jvm.ClassFile.FieldType)) 0 := ⟨⟨kw_327, kw_329, kw_332, kw_328, kw_3, kw_333⟩, by decide +kernel⟩
theorem cw_E_25 : CPW RNE 25 y_D_clear b_D_clear 1 ((Option.none : Option Jvm.ClassFile.FieldType)) 0 := cpw kw_325 kw_316 kw_85 kw_315 kw_3 kw_326 (by decide +kernel)
theorem cw_M_78_E : CUW RNM 78 "NovaDesk$Reader" "NovaDesk$Device" ({ cls := "NovaDesk$Device", name := "clear", desc := "()V" } : Jvm.MethodName) y_E_clear b_E_clear 1 ((Option.none : Option Jvm.ClassFile.FieldType)) 0 := ⟨⟨kw_314, kw_316, kw_322, kw_323, kw_4, kw_324⟩, by decide +kernel⟩
theorem cw_D_30_P : CUW "NovaDesk$Device" 30 "NovaDesk$Printer" "NovaDesk$Device" ({ cls := "NovaDesk$Device", name := "stop", desc := "()V" } : Jvm.MethodName) y_D_stop b_D_stop 1 ((Option.none : Option Jvm.ClassFile.FieldType)) 0 := ⟨⟨kw_327, kw_329, kw_331, kw_328, kw_3, kw_333⟩, by decide +kernel⟩
theorem cw_P_22 : CPW RNP 22 y_D_clear b_D_clear 1 ((Option.none : Option Jvm.ClassFile.FieldType)) 0 := cpw kw_321 kw_316 kw_106 kw_315 kw_3 kw_326 (by decide +kernel)
theorem cw_M_78_P : CUW RNM 78 "NovaDesk$Printer" "NovaDesk$Device" ({ cls := "NovaDesk$Device", name := "clear", desc := "()V" } : Jvm.MethodName) y_P_clear b_P_clear 1 ((Option.none : Option Jvm.ClassFile.FieldType)) 0 := ⟨⟨kw_314, kw_316, kw_318, kw_319, kw_5, kw_320⟩, by decide +kernel⟩
theorem cw_D_30_K : CUW "NovaDesk$Device" 30 "NovaDesk$Clock" "NovaDesk$Device" ({ cls := "NovaDesk$Device", name := "stop", desc := "()V" } : Jvm.MethodName) y_D_stop b_D_stop 1 ((Option.none : Option Jvm.ClassFile.FieldType)) 0 := ⟨⟨kw_327, kw_329, kw_330, kw_328, kw_3, kw_333⟩, by decide +kernel⟩
theorem cw_M_78_K : CUW RNM 78 "NovaDesk$Clock" "NovaDesk$Device" ({ cls := "NovaDesk$Device", name := "clear", desc := "()V" } : Jvm.MethodName) y_D_clear b_D_clear 1 ((Option.none : Option Jvm.ClassFile.FieldType)) 0 := ⟨⟨kw_314, kw_316, kw_317, kw_315, kw_3, kw_326⟩, by decide +kernel⟩
theorem cw_D_26_E : CUW "NovaDesk$Device" 26 "NovaDesk$Reader" "NovaDesk$Device" ({ cls := "NovaDesk$Device", name := "work", desc := "()Z" } : Jvm.MethodName) y_E_work b_E_work 1 ((Option.some Jvm.ClassFile.FieldType.boolean)) 0 := ⟨⟨kw_952, kw_954, kw_961, kw_962, kw_4, kw_963⟩, by decide +kernel⟩
theorem cw_M_109_E : CUW RNM 109 "NovaDesk$Reader" "NovaDesk$Device" ({ cls := "NovaDesk$Device", name := "tick", desc := "()V" } : Jvm.MethodName) y_D_tick b_D_tick 1 ((Option.none : Option Jvm.ClassFile.FieldType)) 0 := ⟨⟨kw_945, kw_947, kw_950, kw_946, kw_3, kw_951⟩, by decide +kernel⟩
theorem cw_D_26_P : CUW "NovaDesk$Device" 26 "NovaDesk$Printer" "NovaDesk$Device" ({ cls := "NovaDesk$Device", name := "work", desc := "()Z" } : Jvm.MethodName) y_P_work b_P_work 1 ((Option.some Jvm.ClassFile.FieldType.boolean)) 0 := ⟨⟨kw_952, kw_954, kw_958, kw_959, kw_5, kw_960⟩, by decide +kernel⟩
theorem cw_M_109_P : CUW RNM 109 "NovaDesk$Printer" "NovaDesk$Device" ({ cls := "NovaDesk$Device", name := "tick", desc := "()V" } : Jvm.MethodName) y_D_tick b_D_tick 1 ((Option.none : Option Jvm.ClassFile.FieldType)) 0 := ⟨⟨kw_945, kw_947, kw_949, kw_946, kw_3, kw_951⟩, by decide +kernel⟩
theorem cw_D_26_K : CUW "NovaDesk$Device" 26 "NovaDesk$Clock" "NovaDesk$Device" ({ cls := "NovaDesk$Device", name := "work", desc := "()Z" } : Jvm.MethodName) y_K_work b_K_work 1 ((Option.some Jvm.ClassFile.FieldType.boolean)) 0 := ⟨⟨kw_952, kw_954, kw_955, kw_956, kw_6, kw_957⟩, by decide +kernel⟩
theorem cw_M_109_K : CUW RNM 109 "NovaDesk$Clock" "NovaDesk$Device" ({ cls := "NovaDesk$Device", name := "tick", desc := "()V" } : Jvm.MethodName) y_D_tick b_D_tick 1 ((Option.none : Option Jvm.ClassFile.FieldType)) 0 := ⟨⟨kw_945, kw_947, kw_948, kw_946, kw_3, kw_951⟩, by decide +kernel⟩
theorem cw_M_98 : CVW RNM 98 "NovaDesk$Machine" y_M_load b_M_load 2 ((Option.some Jvm.ClassFile.FieldType.int)) 1 := cvw kw_847 kw_724 kw_725 kw_2 kw_726 (by decide +kernel)
theorem cw_M_147 : CXW RNM 147 y_M_stepAt b_M_stepAt 1 ((Option.some Jvm.ClassFile.FieldType.int)) 1 := cxw kw_840 kw_841 kw_2 kw_842 (by decide +kernel)
theorem cw_M_116 : CVW RNM 116 "NovaDesk$Machine" y_M_store b_M_store 3 ((Option.none : Option Jvm.ClassFile.FieldType)) 2 := cvw kw_835 kw_630 kw_631 kw_2 kw_632 (by decide +kernel)
theorem cw_M_139 : CVW RNM 139 "NovaDesk$Machine" y_M_countAt b_M_countAt 4 ((Option.some Jvm.ClassFile.FieldType.int)) 2 := cvw kw_843 kw_845 kp_30 kw_2 kw_846 (by decide +kernel)
theorem cw_M_120 : CVW RNM 120 "NovaDesk$Machine" y_M_endOfRow b_M_endOfRow 5 ((Option.some Jvm.ClassFile.FieldType.int)) 1 := cvw kw_836 kw_838 kp_29 kw_2 kw_839 (by decide +kernel)
theorem cw_M_133 : CVW RNM 133 "NovaDesk$Machine" y_M_addressOf b_M_addressOf 5 ((Option.some Jvm.ClassFile.FieldType.int)) 1 := cvw kw_929 kw_931 kp_40 kw_2 kw_932 (by decide +kernel)
theorem cw_M_126 : CVW RNM 126 "NovaDesk$Machine" y_M_goOn b_M_goOn 2 ((Option.none : Option Jvm.ClassFile.FieldType)) 1 := cvw kw_872 kw_874 kp_34 kw_2 kw_875 (by decide +kernel)
theorem cw_M_143 : CVW RNM 143 "NovaDesk$Machine" y_M_moveWord b_M_moveWord 4 ((Option.none : Option Jvm.ClassFile.FieldType)) 2 := cvw kw_937 kw_939 kp_42 kw_2 kw_940 (by decide +kernel)
theorem cw_M_136 : CVW RNM 136 "NovaDesk$Machine" y_M_useMemory b_M_useMemory 3 ((Option.none : Option Jvm.ClassFile.FieldType)) 2 := cvw kw_933 kw_935 kp_41 kw_2 kw_936 (by decide +kernel)
theorem cw_M_184_P : CUW RNM 184 "NovaDesk$Printer" "NovaDesk$Device" ({ cls := "NovaDesk$Device", name := "stop", desc := "()V" } : Jvm.MethodName) y_D_stop b_D_stop 1 ((Option.none : Option Jvm.ClassFile.FieldType)) 0 := ⟨⟨kw_888, kw_329, kw_331, kw_328, kw_3, kw_333⟩, by decide +kernel⟩
theorem cw_M_181_P : CUW RNM 181 "NovaDesk$Printer" "NovaDesk$Device" ({ cls := "NovaDesk$Device", name := "start", desc := "()V" } : Jvm.MethodName) y_D_start b_D_start 1 ((Option.none : Option Jvm.ClassFile.FieldType)) 0 := ⟨⟨kw_922, kw_924, kw_926, kw_923, kw_3, kw_928⟩, by decide +kernel⟩
theorem cw_M_184_K : CUW RNM 184 "NovaDesk$Clock" "NovaDesk$Device" ({ cls := "NovaDesk$Device", name := "stop", desc := "()V" } : Jvm.MethodName) y_D_stop b_D_stop 1 ((Option.none : Option Jvm.ClassFile.FieldType)) 0 := ⟨⟨kw_888, kw_329, kw_330, kw_328, kw_3, kw_333⟩, by decide +kernel⟩
theorem cw_M_181_K : CUW RNM 181 "NovaDesk$Clock" "NovaDesk$Device" ({ cls := "NovaDesk$Device", name := "start", desc := "()V" } : Jvm.MethodName) y_D_start b_D_start 1 ((Option.none : Option Jvm.ClassFile.FieldType)) 0 := ⟨⟨kw_922, kw_924, kw_925, kw_923, kw_3, kw_928⟩, by decide +kernel⟩
theorem cw_M_184_E : CUW RNM 184 "NovaDesk$Reader" "NovaDesk$Device" ({ cls := "NovaDesk$Device", name := "stop", desc := "()V" } : Jvm.MethodName) y_D_stop b_D_stop 1 ((Option.none : Option Jvm.ClassFile.FieldType)) 0 := ⟨⟨kw_888, kw_329, kw_332, kw_328, kw_3, kw_333⟩, by decide +kernel⟩
theorem cw_M_181_E : CUW RNM 181 "NovaDesk$Reader" "NovaDesk$Device" ({ cls := "NovaDesk$Device", name := "start", desc := "()V" } : Jvm.MethodName) y_D_start b_D_start 1 ((Option.none : Option Jvm.ClassFile.FieldType)) 0 := ⟨⟨kw_922, kw_924, kw_927, kw_923, kw_3, kw_928⟩, by decide +kernel⟩
theorem cw_M_178_E : CUW RNM 178 "NovaDesk$Reader" "NovaDesk$Device" ({ cls := "NovaDesk$Device", name := "output", desc := "(II)V" } : Jvm.MethodName) y_D_output b_D_output 3 ((Option.none : Option Jvm.ClassFile.FieldType)) 2 := ⟨⟨kw_913, kw_915, kw_920, kw_914, kw_3, kw_921⟩, by decide +kernel⟩
theorem cw_M_175_E : CUW RNM 175 "NovaDesk$Reader" "NovaDesk$Device" ({ cls := "NovaDesk$Device", name := "input", desc := "(I)I" } : Jvm.MethodName) y_E_input b_E_input 2 ((Option.some Jvm.ClassFile.FieldType.int)) 1 := ⟨⟨kw_904, kw_906, kw_909, kw_910, kw_4, kw_911⟩, by decide +kernel⟩
theorem cw_M_172_E : CUW RNM 172 "NovaDesk$Reader" "NovaDesk$Device" ({ cls := "NovaDesk$Device", name := "passes", desc := "(I)Z" } : Jvm.MethodName) y_D_passes b_D_passes 2 ((Option.some Jvm.ClassFile.FieldType.boolean)) 1 := ⟨⟨kw_897, kw_899, kw_902, kw_898, kw_3, kw_903⟩, by decide +kernel⟩
theorem cw_M_178_P : CUW RNM 178 "NovaDesk$Printer" "NovaDesk$Device" ({ cls := "NovaDesk$Device", name := "output", desc := "(II)V" } : Jvm.MethodName) y_P_output b_P_output 3 ((Option.none : Option Jvm.ClassFile.FieldType)) 2 := ⟨⟨kw_913, kw_915, kw_917, kw_918, kw_5, kw_919⟩, by decide +kernel⟩
theorem cw_M_175_P : CUW RNM 175 "NovaDesk$Printer" "NovaDesk$Device" ({ cls := "NovaDesk$Device", name := "input", desc := "(I)I" } : Jvm.MethodName) y_D_input b_D_input 2 ((Option.some Jvm.ClassFile.FieldType.int)) 1 := ⟨⟨kw_904, kw_906, kw_908, kw_905, kw_3, kw_912⟩, by decide +kernel⟩
theorem cw_M_172_P : CUW RNM 172 "NovaDesk$Printer" "NovaDesk$Device" ({ cls := "NovaDesk$Device", name := "passes", desc := "(I)Z" } : Jvm.MethodName) y_D_passes b_D_passes 2 ((Option.some Jvm.ClassFile.FieldType.boolean)) 1 := ⟨⟨kw_897, kw_899, kw_901, kw_898, kw_3, kw_903⟩, by decide +kernel⟩
theorem cw_M_178_K : CUW RNM 178 "NovaDesk$Clock" "NovaDesk$Device" ({ cls := "NovaDesk$Device", name := "output", desc := "(II)V" } : Jvm.MethodName) y_D_output b_D_output 3 ((Option.none : Option Jvm.ClassFile.FieldType)) 2 := ⟨⟨kw_913, kw_915, kw_916, kw_914, kw_3, kw_921⟩, by decide +kernel⟩
theorem cw_M_175_K : CUW RNM 175 "NovaDesk$Clock" "NovaDesk$Device" ({ cls := "NovaDesk$Device", name := "input", desc := "(I)I" } : Jvm.MethodName) y_D_input b_D_input 2 ((Option.some Jvm.ClassFile.FieldType.int)) 1 := ⟨⟨kw_904, kw_906, kw_907, kw_905, kw_3, kw_912⟩, by decide +kernel⟩
theorem cw_M_172_K : CUW RNM 172 "NovaDesk$Clock" "NovaDesk$Device" ({ cls := "NovaDesk$Device", name := "passes", desc := "(I)Z" } : Jvm.MethodName) y_D_passes b_D_passes 2 ((Option.some Jvm.ClassFile.FieldType.boolean)) 1 := ⟨⟨kw_897, kw_899, kw_900, kw_898, kw_3, kw_903⟩, by decide +kernel⟩
theorem cw_M_169 : CVW RNM 169 "NovaDesk$Machine" y_M_operateNothing b_M_operateNothing 4 ((Option.some Jvm.ClassFile.FieldType.boolean)) 3 := cvw kw_893 kw_895 kp_39 kw_2 kw_896 (by decide +kernel)
theorem cw_M_113_E : CUW RNM 113 "NovaDesk$Reader" "NovaDesk$Device" ({ cls := "NovaDesk$Device", name := "asks", desc := "(I)Z" } : Jvm.MethodName) y_D_asks b_D_asks 2 ((Option.some Jvm.ClassFile.FieldType.boolean)) 1 := ⟨⟨kw_824, kw_826, kw_829, kw_825, kw_3, kw_830⟩, by decide +kernel⟩
theorem cw_M_113_P : CUW RNM 113 "NovaDesk$Printer" "NovaDesk$Device" ({ cls := "NovaDesk$Device", name := "asks", desc := "(I)Z" } : Jvm.MethodName) y_D_asks b_D_asks 2 ((Option.some Jvm.ClassFile.FieldType.boolean)) 1 := ⟨⟨kw_824, kw_826, kw_828, kw_825, kw_3, kw_830⟩, by decide +kernel⟩
theorem cw_M_113_K : CUW RNM 113 "NovaDesk$Clock" "NovaDesk$Device" ({ cls := "NovaDesk$Device", name := "asks", desc := "(I)Z" } : Jvm.MethodName) y_D_asks b_D_asks 2 ((Option.some Jvm.ClassFile.FieldType.boolean)) 1 := ⟨⟨kw_824, kw_826, kw_827, kw_825, kw_3, kw_830⟩, by decide +kernel⟩
theorem cw_M_90 : CVW RNM 90 "NovaDesk$Machine" y_M_askingDevice b_M_askingDevice 2 ((Option.some Jvm.ClassFile.FieldType.int)) 0 := cvw kw_820 kw_822 kp_27 kw_2 kw_823 (by decide +kernel)
theorem cw_M_187 : CVW RNM 187 "NovaDesk$Machine" y_M_stopDevices b_M_stopDevices 2 ((Option.none : Option Jvm.ClassFile.FieldType)) 0 := cvw kw_884 kw_886 kp_37 kw_2 kw_887 (by decide +kernel)
theorem cw_M_190 : CVW RNM 190 "NovaDesk$Machine" y_M_machinePasses b_M_machinePasses 2 ((Option.some Jvm.ClassFile.FieldType.boolean)) 1 := cvw kw_889 kw_891 kp_38 kw_2 kw_892 (by decide +kernel)
theorem cw_M_166 : CVW RNM 166 "NovaDesk$Machine" y_M_operateMachine b_M_operateMachine 4 ((Option.some Jvm.ClassFile.FieldType.boolean)) 3 := cvw kw_880 kw_882 kp_36 kw_2 kw_883 (by decide +kernel)
theorem cw_M_130 : CVW RNM 130 "NovaDesk$Machine" y_M_operate b_M_operate 7 ((Option.some Jvm.ClassFile.FieldType.boolean)) 1 := cvw kw_876 kw_878 kp_35 kw_2 kw_879 (by decide +kernel)
theorem cw_M_160 : CXW RNM 160 y_M_skips b_M_skips 3 ((Option.some Jvm.ClassFile.FieldType.boolean)) 3 := cxw kw_869 kw_870 kw_2 kw_871 (by decide +kernel)
theorem cw_M_150 : CXW RNM 150 y_M_sumOf b_M_sumOf 4 ((Option.some Jvm.ClassFile.FieldType.int)) 3 := cxw kw_857 kw_858 kw_2 kw_859 (by decide +kernel)
theorem cw_M_154 : CVW RNM 154 "NovaDesk$Machine" y_M_baseOf b_M_baseOf 2 ((Option.some Jvm.ClassFile.FieldType.int)) 1 := cvw kw_860 kw_862 kp_33 kw_2 kw_863 (by decide +kernel)
theorem cw_M_157 : CXW RNM 157 y_M_shift b_M_shift 2 ((Option.some Jvm.ClassFile.FieldType.int)) 2 := cxw kw_864 kw_865 kw_2 kw_866 (by decide +kernel)
theorem cw_M_123 : CVW RNM 123 "NovaDesk$Machine" y_M_calculate b_M_calculate 9 ((Option.some Jvm.ClassFile.FieldType.boolean)) 1 := cvw kw_853 kw_855 kp_32 kw_2 kw_856 (by decide +kernel)
theorem cw_M_102 : CVW RNM 102 "NovaDesk$Machine" y_M_perform b_M_perform 3 ((Option.some Jvm.ClassFile.FieldType.boolean)) 1 := cvw kw_849 kw_851 kp_31 kw_2 kw_852 (by decide +kernel)
theorem cw_M_106 : CXW RNM 106 y_M_letsIn b_M_letsIn 3 ((Option.some Jvm.ClassFile.FieldType.boolean)) 1 := cxw kw_941 kw_942 kw_2 kw_943 (by decide +kernel)
theorem cw_M_94 : CVW RNM 94 "NovaDesk$Machine" y_M_interrupt b_M_interrupt 2 ((Option.some Jvm.ClassFile.FieldType.boolean)) 0 := cvw kw_831 kw_833 kp_28 kw_2 kw_834 (by decide +kernel)
theorem cw_M_87 : CVW RNM 87 "NovaDesk$Machine" y_M_doNext b_M_doNext 3 ((Option.none : Option Jvm.ClassFile.FieldType)) 0 := cvw kw_816 kw_818 kp_26 kw_2 kw_819 (by decide +kernel)
theorem cw_I_29 : CVW RNI 29 "NovaDesk$Items" y_I_nameAt b_I_nameAt 2 ((Option.some Jvm.ClassFile.FieldType.long)) 1 := cvw kw_586 kw_510 kw_511 kw_8 kw_512 (by decide +kernel)
theorem cw_I_41 : CVW RNI 41 "NovaDesk$Items" y_I_add b_I_add 3 ((Option.none : Option Jvm.ClassFile.FieldType)) 1 := cvw kw_388 kw_390 kp_4 kw_8 kw_391 (by decide +kernel)
theorem cw_I_64 : CXW RNI 64 y_I_isDigit b_I_isDigit 1 ((Option.some Jvm.ClassFile.FieldType.boolean)) 1 := cxw kw_365 kw_366 kw_8 kw_367 (by decide +kernel)
theorem cw_I_45 : CXW RNI 45 y_I_goesOn b_I_goesOn 1 ((Option.some Jvm.ClassFile.FieldType.boolean)) 1 := cxw kw_362 kw_363 kw_8 kw_364 (by decide +kernel)
theorem cw_JStr_492 : CVW "java/lang/String" 492 "java/lang/String" y_JStr_isLatin10 b_JStr_isLatin10 1 ((Option.some Jvm.ClassFile.FieldType.boolean)) 0 := cvw kw_406 kw_407 kw_408 kw_18 kw_409 (by decide +kernel)
theorem cw_JStr_335 : CVW "java/lang/String" 335 "java/lang/String" y_JStr_coder0 b_JStr_coder0 1 ((Option.some Jvm.ClassFile.FieldType.byte)) 0 := cvw kw_416 kw_417 kw_418 kw_18 kw_419 (by decide +kernel)
theorem cw_JStr_505 : CVW "java/lang/String" 505 "java/lang/String" y_JStr_length0 b_JStr_length0 1 ((Option.some Jvm.ClassFile.FieldType.int)) 0 := cvw kw_412 kw_413 kw_414 kw_18 kw_415 (by decide +kernel)
theorem cw_JLat_88 : CXW "java/lang/StringLatin1" 88 y_JLat_canEncode1 b_JLat_canEncode1 1 ((Option.some Jvm.ClassFile.FieldType.boolean)) 1 := cxw kw_423 kw_424 kw_19 kw_425 (by decide +kernel)
theorem cw_JLat_95 : CXW "java/lang/StringLatin1" 95 y_JLat_indexOfChar4 b_JLat_indexOfChar4 6 ((Option.some Jvm.ClassFile.FieldType.int)) 4 := cxw kw_432 kw_433 kw_19 kw_434 (by decide +kernel)
theorem cw_JStr_637 : CXW "java/lang/String" 637 y_JLat_indexOf4 b_JLat_indexOf4 4 ((Option.some Jvm.ClassFile.FieldType.int)) 4 := cxw kw_420 kw_421 kw_19 kw_422 (by decide +kernel)
theorem cw_JStr_633 : CVW "java/lang/String" 633 "java/lang/String" y_JStr_indexOf2 b_JStr_indexOf2 3 ((Option.some Jvm.ClassFile.FieldType.int)) 2 := cvw kw_402 kw_403 kw_404 kw_18 kw_405 (by decide +kernel)
theorem cw_I_58 : CVW RNI 58 "java/lang/String" y_JStr_indexOf1 b_JStr_indexOf1 2 ((Option.some Jvm.ClassFile.FieldType.int)) 1 := cvw kw_398 kw_399 kw_400 kw_18 kw_401 (by decide +kernel)
theorem cw_I_53 : CVW RNI 53 "NovaDesk$Items" y_I_skipLine b_I_skipLine 1 ((Option.none : Option Jvm.ClassFile.FieldType)) 0 := cvw kw_393 kw_395 kp_5 kw_8 kw_396 (by decide +kernel)
theorem cw_I_70 : CVW RNI 70 "NovaDesk$Items" y_I_nameFrom b_I_nameFrom 5 ((Option.some Jvm.ClassFile.FieldType.long)) 1 := cvw kw_383 kw_385 kp_3 kw_8 kw_386 (by decide +kernel)
theorem cw_I_67 : CVW RNI 67 "NovaDesk$Items" y_I_numberFrom b_I_numberFrom 6 ((Option.some Jvm.ClassFile.FieldType.long)) 1 := cvw kw_372 kw_374 kp_2 kw_8 kw_375 (by decide +kernel)
theorem cw_I_49 : CVW RNI 49 "NovaDesk$Items" y_I_splitLetters b_I_splitLetters 3 ((Option.none : Option Jvm.ClassFile.FieldType)) 1 := cvw kw_368 kw_370 kp_1 kw_8 kw_371 (by decide +kernel)
theorem cw_I_36 : CVW RNI 36 "NovaDesk$Items" y_I_splitNext b_I_splitNext 2 ((Option.none : Option Jvm.ClassFile.FieldType)) 0 := cvw kw_358 kw_360 kp_0 kw_8 kw_361 (by decide +kernel)
theorem cw_T_36 : CVW RNT 36 "NovaDesk$Teller" y_T_write b_T_write 2 ((Option.none : Option Jvm.ClassFile.FieldType)) 1 := cvw kw_1028 kw_1030 kp_44 kw_10 kw_1031 (by decide +kernel)
theorem cw_T_44 : CVW RNT 44 "NovaDesk$Teller" y_T_writeNumber b_T_writeNumber 3 ((Option.none : Option Jvm.ClassFile.FieldType)) 1 := cvw kw_1036 kw_1038 kp_46 kw_10 kw_1039 (by decide +kernel)
theorem cw_T_71 : CVW RNT 71 "java/lang/String" y_JStr_length0 b_JStr_length0 1 ((Option.some Jvm.ClassFile.FieldType.int)) 0 := cvw kw_1007 kw_413 kw_414 kw_18 kw_415 (by decide +kernel)
theorem cw_JStr_1059 : CXW "java/lang/String" 1059 y_JPre_checkIndex3 b_JPre_checkIndex3 3 ((Option.some Jvm.ClassFile.FieldType.int)) 3 := cxw kw_1018 kw_1019 kw_21 kw_1020 (by decide +kernel)
theorem cw_JLat_9 : CXW "java/lang/StringLatin1" 9 y_JStr_checkIndex2 b_JStr_checkIndex2 2 ((Option.none : Option Jvm.ClassFile.FieldType)) 2 := cxw kw_1015 kw_1016 kw_18 kw_1017 (by decide +kernel)
theorem cw_JStr_495 : CXW "java/lang/String" 495 y_JLat_charAt2 b_JLat_charAt2 2 ((Option.some Jvm.ClassFile.FieldType.char)) 2 := cxw kw_1012 kw_1013 kw_19 kw_1014 (by decide +kernel)
theorem cw_T_76 : CVW RNT 76 "java/lang/String" y_JStr_charAt1 b_JStr_charAt1 2 ((Option.some Jvm.ClassFile.FieldType.char)) 1 := cvw kw_1008 kw_1009 kw_1010 kw_18 kw_1011 (by decide +kernel)
theorem cw_T_57 : CVW RNT 57 "NovaDesk$Teller" y_T_writeLetter b_T_writeLetter 3 ((Option.none : Option Jvm.ClassFile.FieldType)) 2 := cvw kw_1046 kw_1048 kp_48 kw_10 kw_1049 (by decide +kernel)
theorem cw_T_50 : CVW RNT 50 "NovaDesk$Teller" y_T_writeTransfer b_T_writeTransfer 3 ((Option.none : Option Jvm.ClassFile.FieldType)) 2 := cvw kw_1055 kw_1057 kp_49 kw_10 kw_1058 (by decide +kernel)
theorem cw_T_19 : CXW RNT 19 y_S_making b_S_making 2 ((Option.some (Jvm.ClassFile.FieldType.object "NovaDesk$Statement"))) 1 := cxw kw_1000 kw_1001 kw_25 kw_1002 (by decide +kernel)
theorem cw_T_29 : CVW RNT 29 "NovaDesk$Teller" y_T_writeText b_T_writeText 3 ((Option.none : Option Jvm.ClassFile.FieldType)) 1 := cvw kw_1003 kw_1005 kp_43 kw_10 kw_1006 (by decide +kernel)
theorem cw_T_40 : CVW RNT 40 "NovaDesk$Teller" y_T_writeAddress b_T_writeAddress 4 ((Option.none : Option Jvm.ClassFile.FieldType)) 1 := cvw kw_1032 kw_1034 kp_45 kw_10 kw_1035 (by decide +kernel)
theorem cw_T_63 : CXW RNT 63 y_G_skipName b_G_skipName 2 ((Option.some (Jvm.ClassFile.FieldType.object "java/lang/String"))) 1 := cxw kw_1051 kw_1052 kw_24 kw_1053 (by decide +kernel)
theorem cw_T_47 : CVW RNT 47 "NovaDesk$Teller" y_T_writeArithmetic b_T_writeArithmetic 2 ((Option.none : Option Jvm.ClassFile.FieldType)) 1 := cvw kw_1041 kw_1043 kp_47 kw_10 kw_1044 (by decide +kernel)
theorem cw_A_42 : CVW RNA 42 "NovaDesk$Labels" y_L_clear b_L_clear 1 ((Option.none : Option Jvm.ClassFile.FieldType)) 0 := cvw kw_338 kw_339 kw_340 kw_9 kw_341 (by decide +kernel)
theorem cw_A_51 : CVW RNA 51 "NovaDesk$Items" y_I_split b_I_split 2 ((Option.none : Option Jvm.ClassFile.FieldType)) 0 := cvw kw_354 kw_355 kw_356 kw_8 kw_357 (by decide +kernel)
theorem cw_A_57 : CVW RNA 57 "NovaDesk$Machine" y_M_store b_M_store 3 ((Option.none : Option Jvm.ClassFile.FieldType)) 2 := cvw kw_629 kw_630 kw_631 kw_2 kw_632 (by decide +kernel)
theorem cw_A_72 : CVW RNA 72 "NovaDesk$Items" y_I_kindAt b_I_kindAt 2 ((Option.some Jvm.ClassFile.FieldType.int)) 1 := cvw kw_488 kw_489 kw_490 kw_8 kw_491 (by decide +kernel)
theorem cw_A_90 : CVW RNA 90 "NovaDesk$Assembler" y_A_complain b_A_complain 2 ((Option.none : Option Jvm.ClassFile.FieldType)) 1 := cvw kw_505 kw_507 kp_9 kw_7 kw_508 (by decide +kernel)
theorem cw_A_178 : CVW RNA 178 "NovaDesk$Statement" y_S_leastOperands b_S_leastOperands 1 ((Option.some Jvm.ClassFile.FieldType.int)) 0 := cvw kw_588 kw_562 kw_563 kw_25 kw_564 (by decide +kernel)
theorem cw_A_86 : CVW RNA 86 "NovaDesk$Assembler" y_A_look b_A_look 2 ((Option.some Jvm.ClassFile.FieldType.int)) 0 := cvw kw_501 kw_503 kp_8 kw_7 kw_504 (by decide +kernel)
theorem cw_A_130 : CVW RNA 130 "NovaDesk$Assembler" y_A_takes b_A_takes 2 ((Option.some Jvm.ClassFile.FieldType.boolean)) 1 := cvw kw_514 kw_516 kp_10 kw_7 kw_517 (by decide +kernel)
theorem cw_A_186 : CVW RNA 186 "NovaDesk$Items" y_I_numberAt b_I_numberAt 2 ((Option.some Jvm.ClassFile.FieldType.int)) 1 := cvw kw_582 kw_583 kw_584 kw_8 kw_585 (by decide +kernel)
theorem cw_A_94 : CVW RNA 94 "NovaDesk$Items" y_I_nameAt b_I_nameAt 2 ((Option.some Jvm.ClassFile.FieldType.long)) 1 := cvw kw_509 kw_510 kw_511 kw_8 kw_512 (by decide +kernel)
theorem cw_A_140 : CXW RNA 140 y_G_numberOf b_G_numberOf 3 ((Option.some Jvm.ClassFile.FieldType.int)) 1 := cxw kw_523 kw_524 kw_24 kw_525 (by decide +kernel)
theorem cw_A_146 : CVW RNA 146 "NovaDesk$Labels" y_L_find b_L_find 4 ((Option.some Jvm.ClassFile.FieldType.int)) 1 := cvw kw_544 kw_545 kw_546 kw_9 kw_547 (by decide +kernel)
theorem cw_A_185 : CVW RNA 185 "NovaDesk$Assembler" y_A_numberOf b_A_numberOf 4 ((Option.some Jvm.ClassFile.FieldType.int)) 1 := cvw kw_578 kw_580 kp_15 kw_7 kw_581 (by decide +kernel)
theorem cw_A_181 : CVW RNA 181 "NovaDesk$Assembler" y_A_readTerm b_A_readTerm 3 ((Option.some Jvm.ClassFile.FieldType.int)) 0 := cvw kw_574 kw_576 kp_14 kw_7 kw_577 (by decide +kernel)
theorem cw_A_175 : CVW RNA 175 "NovaDesk$Assembler" y_A_readExpression b_A_readExpression 5 ((Option.some Jvm.ClassFile.FieldType.int)) 0 := cvw kw_570 kw_572 kp_13 kw_7 kw_573 (by decide +kernel)
theorem cw_A_172 : CVW RNA 172 "NovaDesk$Statement" y_S_addressOperand b_S_addressOperand 1 ((Option.some Jvm.ClassFile.FieldType.int)) 0 := cvw kw_566 kw_567 kw_568 kw_25 kw_569 (by decide +kernel)
theorem cw_S_171 : CVW "NovaDesk$Statement" 171 "NovaDesk$Statement" y_S_leastOperands b_S_leastOperands 1 ((Option.some Jvm.ClassFile.FieldType.int)) 0 := cvw kw_561 kw_562 kw_563 kw_25 kw_564 (by decide +kernel)
theorem cw_A_163 : CVW RNA 163 "NovaDesk$Statement" y_S_mostOperands b_S_mostOperands 2 ((Option.some Jvm.ClassFile.FieldType.int)) 0 := cvw kw_557 kw_558 kw_559 kw_25 kw_560 (by decide +kernel)
theorem cw_S_161 : CVW "NovaDesk$Statement" 161 "java/lang/String" y_JStr_indexOf1 b_JStr_indexOf1 2 ((Option.some Jvm.ClassFile.FieldType.int)) 1 := cvw kw_538 kw_399 kw_400 kw_18 kw_401 (by decide +kernel)
theorem cw_A_153 : CVW RNA 153 "NovaDesk$Statement" y_S_furtherBits b_S_furtherBits 9 ((Option.some Jvm.ClassFile.FieldType.int)) 1 := cvw kw_556 kw_534 kw_535 kw_25 kw_536 (by decide +kernel)
theorem cw_A_111 : CVW RNA 111 "NovaDesk$Assembler" y_A_readStatement b_A_readStatement 5 ((Option.some Jvm.ClassFile.FieldType.int)) 1 := cvw kw_552 kw_554 kp_12 kw_7 kw_555 (by decide +kernel)
theorem cw_A_189 : CVW RNA 189 "NovaDesk$Assembler" y_A_bounded b_A_bounded 4 ((Option.some Jvm.ClassFile.FieldType.int)) 2 := cvw kw_593 kw_595 kp_17 kw_7 kw_596 (by decide +kernel)
theorem cw_A_115 : CVW RNA 115 "NovaDesk$Assembler" y_A_moveLocation b_A_moveLocation 2 ((Option.none : Option Jvm.ClassFile.FieldType)) 1 := cvw kw_589 kw_591 kp_16 kw_7 kw_592 (by decide +kernel)
theorem cw_A_127 : CVW RNA 127 "NovaDesk$Assembler" y_A_takePlace b_A_takePlace 1 ((Option.none : Option Jvm.ClassFile.FieldType)) 0 := cvw kw_621 kw_623 kp_23 kw_7 kw_624 (by decide +kernel)
theorem cw_A_199 : CVW RNA 199 "NovaDesk$Assembler" y_A_addressBitsOf b_A_addressBitsOf 4 ((Option.some Jvm.ClassFile.FieldType.int)) 2 := cvw kw_606 kw_608 kp_20 kw_7 kw_609 (by decide +kernel)
theorem cw_A_193 : CVW RNA 193 "NovaDesk$Assembler" y_A_addressBits b_A_addressBits 5 ((Option.some Jvm.ClassFile.FieldType.int)) 1 := cvw kw_602 kw_604 kp_19 kw_7 kw_605 (by decide +kernel)
theorem cw_A_196 : CVW RNA 196 "NovaDesk$Assembler" y_A_skipBits b_A_skipBits 1 ((Option.some Jvm.ClassFile.FieldType.int)) 0 := cvw kw_613 kw_615 kp_21 kw_7 kw_616 (by decide +kernel)
theorem cw_A_121 : CVW RNA 121 "NovaDesk$Assembler" y_A_operandBits b_A_operandBits 2 ((Option.some Jvm.ClassFile.FieldType.int)) 1 := cvw kw_598 kw_600 kp_18 kw_7 kw_601 (by decide +kernel)
theorem cw_A_124 : CVW RNA 124 "NovaDesk$Assembler" y_A_keepWord b_A_keepWord 2 ((Option.none : Option Jvm.ClassFile.FieldType)) 1 := cvw kw_617 kw_619 kp_22 kw_7 kw_620 (by decide +kernel)
theorem cw_S_155 : CVW "NovaDesk$Statement" 155 "NovaDesk$Statement" y_S_furtherBits b_S_furtherBits 9 ((Option.some Jvm.ClassFile.FieldType.int)) 1 := cvw kw_533 kw_534 kw_535 kw_25 kw_536 (by decide +kernel)
theorem cw_A_98 : CXW RNA 98 y_S_named b_S_named 3 ((Option.some (Jvm.ClassFile.FieldType.object "NovaDesk$Statement"))) 1 := cxw kw_528 kw_529 kw_25 kw_530 (by decide +kernel)
theorem cw_A_149 : CVW RNA 149 "NovaDesk$Labels" y_L_add b_L_add 4 ((Option.some Jvm.ClassFile.FieldType.boolean)) 2 := cvw kw_548 kw_549 kw_550 kw_9 kw_551 (by decide +kernel)
theorem cw_A_134 : CVW RNA 134 "NovaDesk$Assembler" y_A_define b_A_define 4 ((Option.none : Option Jvm.ClassFile.FieldType)) 1 := cvw kw_518 kw_520 kp_11 kw_7 kw_521 (by decide +kernel)
theorem cw_A_83 : CVW RNA 83 "NovaDesk$Assembler" y_A_readLabels b_A_readLabels 5 ((Option.none : Option Jvm.ClassFile.FieldType)) 1 := cvw kw_497 kw_499 kp_7 kw_7 kw_500 (by decide +kernel)
theorem cw_A_79 : CVW RNA 79 "NovaDesk$Assembler" y_A_readLine b_A_readLine 5 ((Option.none : Option Jvm.ClassFile.FieldType)) 1 := cvw kw_493 kw_495 kp_6 kw_7 kw_496 (by decide +kernel)
theorem cw_N_87 : CVW RNN 87 "NovaDesk$Printer" y_P_characterAt b_P_characterAt 2 ((Option.some Jvm.ClassFile.FieldType.int)) 1 := cvw kw_294 kw_295 kw_296 kw_5 kw_297 (by decide +kernel)
theorem cw_N_92 : CVW RNN 92 "NovaDesk$Printer" y_P_takePaper b_P_takePaper 2 ((Option.some Jvm.ClassFile.FieldType.int)) 0 := cvw kw_302 kw_303 kw_304 kw_5 kw_305 (by decide +kernel)
theorem cw_N_96 : CVW RNN 96 "NovaDesk$Machine" y_M_clear b_M_clear 2 ((Option.none : Option Jvm.ClassFile.FieldType)) 0 := cvw kw_310 kw_311 kw_312 kw_2 kw_313 (by decide +kernel)
theorem cw_N_99 : CVW RNN 99 "NovaDesk$Assembler" y_A_clear b_A_clear 1 ((Option.none : Option Jvm.ClassFile.FieldType)) 0 := cvw kw_334 kw_335 kw_336 kw_7 kw_337 (by decide +kernel)
theorem cw_N_100 : CVW RNN 100 "NovaDesk$Teller" y_T_clear b_T_clear 1 ((Option.none : Option Jvm.ClassFile.FieldType)) 0 := cvw kw_342 kw_343 kw_344 kw_10 kw_345 (by decide +kernel)
theorem cw_N_113 : CVW RNN 113 "NovaDesk$Assembler" y_A_begin b_A_begin 1 ((Option.none : Option Jvm.ClassFile.FieldType)) 0 := cvw kw_350 kw_351 kw_352 kw_7 kw_353 (by decide +kernel)
theorem cw_N_116 : CVW RNN 116 "NovaDesk$Assembler" y_A_goThrough b_A_goThrough 4 ((Option.none : Option Jvm.ClassFile.FieldType)) 1 := cvw kw_484 kw_485 kw_486 kw_7 kw_487 (by decide +kernel)
theorem cw_N_119 : CVW RNN 119 "NovaDesk$Assembler" y_A_finish b_A_finish 3 ((Option.some Jvm.ClassFile.FieldType.int)) 1 := cvw kw_625 kw_626 kw_627 kw_7 kw_628 (by decide +kernel)
theorem cw_N_135 : CVW RNN 135 "NovaDesk$Labels" y_L_find b_L_find 4 ((Option.some Jvm.ClassFile.FieldType.int)) 1 := cvw kw_639 kw_545 kw_546 kw_9 kw_547 (by decide +kernel)
theorem cw_N_144 : CVW RNN 144 "NovaDesk$Teller" y_T_characterAt b_T_characterAt 2 ((Option.some Jvm.ClassFile.FieldType.int)) 1 := cvw kw_644 kw_645 kw_646 kw_10 kw_647 (by decide +kernel)
