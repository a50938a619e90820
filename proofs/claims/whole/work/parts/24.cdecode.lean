/-! the class: decode rows, by program -/
theorem d_M_load_0 : decode b_M_load 0 = .ok (.aload_n 0, 1) := by decide +kernel
theorem d_M_load_1 : decode b_M_load 1 = .ok (.getfield 10, 3) := by decide +kernel
theorem d_M_load_4 : decode b_M_load 4 = .ok (.iload_n 1, 1) := by decide +kernel
theorem d_M_load_5 : decode b_M_load 5 = .ok (.sipush 32767, 3) := by decide +kernel
theorem d_M_load_8 : decode b_M_load 8 = .ok (.iand, 1) := by decide +kernel
theorem d_M_load_9 : decode b_M_load 9 = .ok (.iaload, 1) := by decide +kernel
theorem d_M_load_10 : decode b_M_load 10 = .ok (.ireturn, 1) := by decide +kernel
theorem d_M_store_0 : decode b_M_store 0 = .ok (.aload_n 0, 1) := by decide +kernel
theorem d_M_store_1 : decode b_M_store 1 = .ok (.getfield 10, 3) := by decide +kernel
theorem d_M_store_4 : decode b_M_store 4 = .ok (.iload_n 1, 1) := by decide +kernel
theorem d_M_store_5 : decode b_M_store 5 = .ok (.sipush 32767, 3) := by decide +kernel
theorem d_M_store_8 : decode b_M_store 8 = .ok (.iand, 1) := by decide +kernel
theorem d_M_store_9 : decode b_M_store 9 = .ok (.iload_n 2, 1) := by decide +kernel
theorem d_M_store_10 : decode b_M_store 10 = .ok (.iastore, 1) := by decide +kernel
theorem d_M_store_11 : decode b_M_store 11 = .ok (.return_, 1) := by decide +kernel
theorem d_M_readRegister_0 : decode b_M_readRegister 0 = .ok (.iload_n 1, 1) := by decide +kernel
theorem d_M_readRegister_1 : decode b_M_readRegister 1 = .ok (.tableswitch 86 4 10 #[43, 48, 53, 58, 71, 76, 81], 43) := by decide +kernel
theorem d_M_readRegister_44 : decode b_M_readRegister 44 = .ok (.aload_n 0, 1) := by decide +kernel
theorem d_M_readRegister_45 : decode b_M_readRegister 45 = .ok (.getfield 42, 3) := by decide +kernel
theorem d_M_readRegister_48 : decode b_M_readRegister 48 = .ok (.ireturn, 1) := by decide +kernel
theorem d_M_readRegister_49 : decode b_M_readRegister 49 = .ok (.aload_n 0, 1) := by decide +kernel
theorem d_M_readRegister_50 : decode b_M_readRegister 50 = .ok (.getfield 46, 3) := by decide +kernel
theorem d_M_readRegister_53 : decode b_M_readRegister 53 = .ok (.ireturn, 1) := by decide +kernel
theorem d_M_readRegister_54 : decode b_M_readRegister 54 = .ok (.aload_n 0, 1) := by decide +kernel
theorem d_M_readRegister_55 : decode b_M_readRegister 55 = .ok (.getfield 49, 3) := by decide +kernel
theorem d_M_readRegister_58 : decode b_M_readRegister 58 = .ok (.ireturn, 1) := by decide +kernel
theorem d_M_readRegister_59 : decode b_M_readRegister 59 = .ok (.aload_n 0, 1) := by decide +kernel
theorem d_M_readRegister_60 : decode b_M_readRegister 60 = .ok (.getfield 52, 3) := by decide +kernel
theorem d_M_readRegister_63 : decode b_M_readRegister 63 = .ok (.ifCond .eq 7, 3) := by decide +kernel
theorem d_M_readRegister_70 : decode b_M_readRegister 70 = .ok (.iconst 0, 1) := by decide +kernel
theorem d_M_readRegister_71 : decode b_M_readRegister 71 = .ok (.ireturn, 1) := by decide +kernel
theorem d_M_readRegister_66 : decode b_M_readRegister 66 = .ok (.iconst 1, 1) := by decide +kernel
theorem d_M_readRegister_67 : decode b_M_readRegister 67 = .ok (.goto 4, 3) := by decide +kernel
theorem d_M_readRegister_72 : decode b_M_readRegister 72 = .ok (.aload_n 0, 1) := by decide +kernel
theorem d_M_readRegister_73 : decode b_M_readRegister 73 = .ok (.getfield 56, 3) := by decide +kernel
theorem d_M_readRegister_76 : decode b_M_readRegister 76 = .ok (.ireturn, 1) := by decide +kernel
theorem d_M_readRegister_77 : decode b_M_readRegister 77 = .ok (.aload_n 0, 1) := by decide +kernel
theorem d_M_readRegister_78 : decode b_M_readRegister 78 = .ok (.getfield 59, 3) := by decide +kernel
theorem d_M_readRegister_81 : decode b_M_readRegister 81 = .ok (.ireturn, 1) := by decide +kernel
theorem d_M_readRegister_82 : decode b_M_readRegister 82 = .ok (.aload_n 0, 1) := by decide +kernel
theorem d_M_readRegister_83 : decode b_M_readRegister 83 = .ok (.getfield 62, 3) := by decide +kernel
theorem d_M_readRegister_86 : decode b_M_readRegister 86 = .ok (.ireturn, 1) := by decide +kernel
theorem d_M_readRegister_87 : decode b_M_readRegister 87 = .ok (.aload_n 0, 1) := by decide +kernel
theorem d_M_readRegister_88 : decode b_M_readRegister 88 = .ok (.getfield 16, 3) := by decide +kernel
theorem d_M_readRegister_91 : decode b_M_readRegister 91 = .ok (.iload_n 1, 1) := by decide +kernel
theorem d_M_readRegister_92 : decode b_M_readRegister 92 = .ok (.iconst 3, 1) := by decide +kernel
theorem d_M_readRegister_93 : decode b_M_readRegister 93 = .ok (.iand, 1) := by decide +kernel
theorem d_M_readRegister_94 : decode b_M_readRegister 94 = .ok (.iaload, 1) := by decide +kernel
theorem d_M_readRegister_95 : decode b_M_readRegister 95 = .ok (.ireturn, 1) := by decide +kernel
theorem d_M_writeRegister_0 : decode b_M_writeRegister 0 = .ok (.iload_n 1, 1) := by decide +kernel
theorem d_M_writeRegister_1 : decode b_M_writeRegister 1 = .ok (.tableswitch 51 4 6 #[27, 35, 43], 27) := by decide +kernel
theorem d_M_writeRegister_28 : decode b_M_writeRegister 28 = .ok (.aload_n 0, 1) := by decide +kernel
theorem d_M_writeRegister_29 : decode b_M_writeRegister 29 = .ok (.iload_n 2, 1) := by decide +kernel
theorem d_M_writeRegister_30 : decode b_M_writeRegister 30 = .ok (.putfield 42, 3) := by decide +kernel
theorem d_M_writeRegister_33 : decode b_M_writeRegister 33 = .ok (.goto 28, 3) := by decide +kernel
theorem d_M_writeRegister_61 : decode b_M_writeRegister 61 = .ok (.return_, 1) := by decide +kernel
theorem d_M_writeRegister_36 : decode b_M_writeRegister 36 = .ok (.aload_n 0, 1) := by decide +kernel
theorem d_M_writeRegister_37 : decode b_M_writeRegister 37 = .ok (.iload_n 2, 1) := by decide +kernel
theorem d_M_writeRegister_38 : decode b_M_writeRegister 38 = .ok (.putfield 46, 3) := by decide +kernel
theorem d_M_writeRegister_41 : decode b_M_writeRegister 41 = .ok (.goto 20, 3) := by decide +kernel
theorem d_M_writeRegister_44 : decode b_M_writeRegister 44 = .ok (.aload_n 0, 1) := by decide +kernel
theorem d_M_writeRegister_45 : decode b_M_writeRegister 45 = .ok (.iload_n 2, 1) := by decide +kernel
theorem d_M_writeRegister_46 : decode b_M_writeRegister 46 = .ok (.putfield 49, 3) := by decide +kernel
theorem d_M_writeRegister_49 : decode b_M_writeRegister 49 = .ok (.goto 12, 3) := by decide +kernel
theorem d_M_writeRegister_52 : decode b_M_writeRegister 52 = .ok (.aload_n 0, 1) := by decide +kernel
theorem d_M_writeRegister_53 : decode b_M_writeRegister 53 = .ok (.getfield 16, 3) := by decide +kernel
theorem d_M_writeRegister_56 : decode b_M_writeRegister 56 = .ok (.iload_n 1, 1) := by decide +kernel
theorem d_M_writeRegister_57 : decode b_M_writeRegister 57 = .ok (.iconst 3, 1) := by decide +kernel
theorem d_M_writeRegister_58 : decode b_M_writeRegister 58 = .ok (.iand, 1) := by decide +kernel
theorem d_M_writeRegister_59 : decode b_M_writeRegister 59 = .ok (.iload_n 2, 1) := by decide +kernel
theorem d_M_writeRegister_60 : decode b_M_writeRegister 60 = .ok (.iastore, 1) := by decide +kernel
theorem d_M_readDevice_0 : decode b_M_readDevice 0 = .ok (.aload_n 0, 1) := by decide +kernel
theorem d_M_readDevice_1 : decode b_M_readDevice 1 = .ok (.iload_n 1, 1) := by decide +kernel
theorem d_M_deviceAt_0 : decode b_M_deviceAt 0 = .ok (.iload_n 1, 1) := by decide +kernel
theorem d_M_deviceAt_1 : decode b_M_deviceAt 1 = .ok (.bipush 8, 2) := by decide +kernel
theorem d_M_deviceAt_3 : decode b_M_deviceAt 3 = .ok (.isub, 1) := by decide +kernel
theorem d_M_deviceAt_4 : decode b_M_deviceAt 4 = .ok (.istore_n 2, 1) := by decide +kernel
theorem d_M_deviceAt_5 : decode b_M_deviceAt 5 = .ok (.iload_n 2, 1) := by decide +kernel
theorem d_M_deviceAt_6 : decode b_M_deviceAt 6 = .ok (.ifCond .lt 21, 3) := by decide +kernel
theorem d_M_deviceAt_27 : decode b_M_deviceAt 27 = .ok (.aconst_null, 1) := by decide +kernel
theorem d_M_deviceAt_28 : decode b_M_deviceAt 28 = .ok (.areturn, 1) := by decide +kernel
theorem d_M_deviceAt_9 : decode b_M_deviceAt 9 = .ok (.iload_n 2, 1) := by decide +kernel
theorem d_M_deviceAt_10 : decode b_M_deviceAt 10 = .ok (.aload_n 0, 1) := by decide +kernel
theorem d_M_deviceAt_11 : decode b_M_deviceAt 11 = .ok (.getfield 38, 3) := by decide +kernel
theorem d_M_deviceAt_14 : decode b_M_deviceAt 14 = .ok (.arraylength, 1) := by decide +kernel
theorem d_M_deviceAt_15 : decode b_M_deviceAt 15 = .ok (.if_icmp .ge 12, 3) := by decide +kernel
theorem d_M_deviceAt_18 : decode b_M_deviceAt 18 = .ok (.aload_n 0, 1) := by decide +kernel
theorem d_M_deviceAt_19 : decode b_M_deviceAt 19 = .ok (.getfield 38, 3) := by decide +kernel
theorem d_M_deviceAt_22 : decode b_M_deviceAt 22 = .ok (.iload_n 2, 1) := by decide +kernel
theorem d_M_deviceAt_23 : decode b_M_deviceAt 23 = .ok (.aaload, 1) := by decide +kernel
theorem d_M_deviceAt_24 : decode b_M_deviceAt 24 = .ok (.goto 4, 3) := by decide +kernel
theorem d_M_readDevice_2 : decode b_M_readDevice 2 = .ok (.invokevirtual 65, 3) := by decide +kernel
theorem d_M_readDevice_5 : decode b_M_readDevice 5 = .ok (.astore_n 3, 1) := by decide +kernel
theorem d_M_readDevice_6 : decode b_M_readDevice 6 = .ok (.aload_n 3, 1) := by decide +kernel
theorem d_M_readDevice_7 : decode b_M_readDevice 7 = .ok (.ifnonnull 5, 3) := by decide +kernel
theorem d_M_readDevice_12 : decode b_M_readDevice 12 = .ok (.iload_n 2, 1) := by decide +kernel
theorem d_M_readDevice_13 : decode b_M_readDevice 13 = .ok (.lookupswitch 45 #[(0, 27), (1, 32)], 27) := by decide +kernel
theorem d_M_readDevice_40 : decode b_M_readDevice 40 = .ok (.aload_n 3, 1) := by decide +kernel
theorem d_M_readDevice_41 : decode b_M_readDevice 41 = .ok (.getfield 69, 3) := by decide +kernel
theorem d_M_readDevice_44 : decode b_M_readDevice 44 = .ok (.ireturn, 1) := by decide +kernel
theorem d_M_readDevice_45 : decode b_M_readDevice 45 = .ok (.aload_n 3, 1) := by decide +kernel
theorem d_M_readDevice_46 : decode b_M_readDevice 46 = .ok (.getfield 72, 3) := by decide +kernel
theorem d_M_readDevice_49 : decode b_M_readDevice 49 = .ok (.ifCond .eq 7, 3) := by decide +kernel
theorem d_M_readDevice_56 : decode b_M_readDevice 56 = .ok (.iconst 0, 1) := by decide +kernel
theorem d_M_readDevice_57 : decode b_M_readDevice 57 = .ok (.ireturn, 1) := by decide +kernel
theorem d_M_readDevice_52 : decode b_M_readDevice 52 = .ok (.iconst 1, 1) := by decide +kernel
theorem d_M_readDevice_53 : decode b_M_readDevice 53 = .ok (.goto 4, 3) := by decide +kernel
theorem d_M_readDevice_58 : decode b_M_readDevice 58 = .ok (.aload_n 3, 1) := by decide +kernel
theorem d_M_readDevice_59 : decode b_M_readDevice 59 = .ok (.getfield 75, 3) := by decide +kernel
theorem d_M_readDevice_62 : decode b_M_readDevice 62 = .ok (.ifCond .eq 7, 3) := by decide +kernel
theorem d_M_readDevice_69 : decode b_M_readDevice 69 = .ok (.iconst 0, 1) := by decide +kernel
theorem d_M_readDevice_70 : decode b_M_readDevice 70 = .ok (.ireturn, 1) := by decide +kernel
theorem d_M_readDevice_65 : decode b_M_readDevice 65 = .ok (.iconst 1, 1) := by decide +kernel
theorem d_M_readDevice_66 : decode b_M_readDevice 66 = .ok (.goto 4, 3) := by decide +kernel
theorem d_M_readDevice_10 : decode b_M_readDevice 10 = .ok (.iconst 0, 1) := by decide +kernel
theorem d_M_readDevice_11 : decode b_M_readDevice 11 = .ok (.ireturn, 1) := by decide +kernel
theorem d_M_clear_26 : decode b_M_clear 26 = .ok (.iload_n 1, 1) := by decide +kernel
theorem d_M_clear_27 : decode b_M_clear 27 = .ok (.aload_n 0, 1) := by decide +kernel
theorem d_M_clear_28 : decode b_M_clear 28 = .ok (.getfield 38, 3) := by decide +kernel
theorem d_M_clear_31 : decode b_M_clear 31 = .ok (.arraylength, 1) := by decide +kernel
theorem d_M_clear_32 : decode b_M_clear 32 = .ok (.if_icmp .ge 18, 3) := by decide +kernel
theorem d_M_clear_50 : decode b_M_clear 50 = .ok (.aload_n 0, 1) := by decide +kernel
theorem d_M_clear_51 : decode b_M_clear 51 = .ok (.iconst 0, 1) := by decide +kernel
theorem d_M_clear_52 : decode b_M_clear 52 = .ok (.putfield 42, 3) := by decide +kernel
theorem d_M_clear_55 : decode b_M_clear 55 = .ok (.aload_n 0, 1) := by decide +kernel
theorem d_M_clear_56 : decode b_M_clear 56 = .ok (.iconst 0, 1) := by decide +kernel
theorem d_M_clear_57 : decode b_M_clear 57 = .ok (.putfield 46, 3) := by decide +kernel
theorem d_M_clear_60 : decode b_M_clear 60 = .ok (.aload_n 0, 1) := by decide +kernel
theorem d_M_clear_61 : decode b_M_clear 61 = .ok (.iconst 0, 1) := by decide +kernel
theorem d_M_clear_62 : decode b_M_clear 62 = .ok (.putfield 49, 3) := by decide +kernel
theorem d_M_clear_65 : decode b_M_clear 65 = .ok (.aload_n 0, 1) := by decide +kernel
theorem d_M_clear_66 : decode b_M_clear 66 = .ok (.iconst 0, 1) := by decide +kernel
theorem d_M_clear_67 : decode b_M_clear 67 = .ok (.putfield 56, 3) := by decide +kernel
theorem d_M_clear_70 : decode b_M_clear 70 = .ok (.aload_n 0, 1) := by decide +kernel
theorem d_M_clear_71 : decode b_M_clear 71 = .ok (.iconst 0, 1) := by decide +kernel
theorem d_M_clear_72 : decode b_M_clear 72 = .ok (.putfield 52, 3) := by decide +kernel
theorem d_M_clear_75 : decode b_M_clear 75 = .ok (.aload_n 0, 1) := by decide +kernel
theorem d_M_clear_76 : decode b_M_clear 76 = .ok (.iconst 0, 1) := by decide +kernel
theorem d_M_clear_77 : decode b_M_clear 77 = .ok (.putfield 81, 3) := by decide +kernel
theorem d_M_clear_80 : decode b_M_clear 80 = .ok (.aload_n 0, 1) := by decide +kernel
theorem d_M_clear_81 : decode b_M_clear 81 = .ok (.iconst 0, 1) := by decide +kernel
theorem d_M_clear_82 : decode b_M_clear 82 = .ok (.putfield 59, 3) := by decide +kernel
theorem d_M_clear_85 : decode b_M_clear 85 = .ok (.aload_n 0, 1) := by decide +kernel
theorem d_M_clear_86 : decode b_M_clear 86 = .ok (.iconst 0, 1) := by decide +kernel
theorem d_M_clear_87 : decode b_M_clear 87 = .ok (.putfield 62, 3) := by decide +kernel
theorem d_M_clear_90 : decode b_M_clear 90 = .ok (.aload_n 0, 1) := by decide +kernel
theorem d_M_clear_91 : decode b_M_clear 91 = .ok (.iconst 0, 1) := by decide +kernel
theorem d_M_clear_92 : decode b_M_clear 92 = .ok (.putfield 84, 3) := by decide +kernel
theorem d_M_clear_95 : decode b_M_clear 95 = .ok (.return_, 1) := by decide +kernel
theorem d_M_clear_35 : decode b_M_clear 35 = .ok (.aload_n 0, 1) := by decide +kernel
theorem d_M_clear_36 : decode b_M_clear 36 = .ok (.getfield 38, 3) := by decide +kernel
theorem d_M_clear_39 : decode b_M_clear 39 = .ok (.iload_n 1, 1) := by decide +kernel
theorem d_M_clear_40 : decode b_M_clear 40 = .ok (.aaload, 1) := by decide +kernel
theorem d_E_clear_0 : decode b_E_clear 0 = .ok (.aload_n 0, 1) := by decide +kernel
theorem d_D_clear_0 : decode b_D_clear 0 = .ok (.aload_n 0, 1) := by decide +kernel
theorem d_D_stop_0 : decode b_D_stop 0 = .ok (.aload_n 0, 1) := by decide +kernel
theorem d_D_stop_1 : decode b_D_stop 1 = .ok (.iconst 0, 1) := by decide +kernel
theorem d_D_stop_2 : decode b_D_stop 2 = .ok (.putfield 16, 3) := by decide +kernel
theorem d_D_stop_5 : decode b_D_stop 5 = .ok (.aload_n 0, 1) := by decide +kernel
theorem d_D_stop_6 : decode b_D_stop 6 = .ok (.iconst 0, 1) := by decide +kernel
theorem d_D_stop_7 : decode b_D_stop 7 = .ok (.putfield 20, 3) := by decide +kernel
theorem d_D_stop_10 : decode b_D_stop 10 = .ok (.return_, 1) := by decide +kernel
theorem d_D_clear_1 : decode b_D_clear 1 = .ok (.invokevirtual 30, 3) := by decide +kernel
theorem d_D_clear_4 : decode b_D_clear 4 = .ok (.aload_n 0, 1) := by decide +kernel
theorem d_D_clear_5 : decode b_D_clear 5 = .ok (.iconst 0, 1) := by decide +kernel
theorem d_D_clear_6 : decode b_D_clear 6 = .ok (.putfield 33, 3) := by decide +kernel
theorem d_D_clear_9 : decode b_D_clear 9 = .ok (.aload_n 0, 1) := by decide +kernel
theorem d_D_clear_10 : decode b_D_clear 10 = .ok (.iconst 0, 1) := by decide +kernel
theorem d_D_clear_11 : decode b_D_clear 11 = .ok (.putfield 23, 3) := by decide +kernel
theorem d_D_clear_14 : decode b_D_clear 14 = .ok (.return_, 1) := by decide +kernel
theorem d_E_clear_1 : decode b_E_clear 1 = .ok (.invokespecial 25, 3) := by decide +kernel
theorem d_E_clear_4 : decode b_E_clear 4 = .ok (.aload_n 0, 1) := by decide +kernel
theorem d_E_clear_5 : decode b_E_clear 5 = .ok (.iconst 0, 1) := by decide +kernel
theorem d_E_clear_6 : decode b_E_clear 6 = .ok (.putfield 15, 3) := by decide +kernel
theorem d_E_clear_9 : decode b_E_clear 9 = .ok (.return_, 1) := by decide +kernel
theorem d_M_clear_41 : decode b_M_clear 41 = .ok (.invokevirtual 78, 3) := by decide +kernel
theorem d_M_clear_44 : decode b_M_clear 44 = .ok (.iinc 1 1, 3) := by decide +kernel
theorem d_M_clear_47 : decode b_M_clear 47 = .ok (.goto (-21), 3) := by decide +kernel
theorem d_P_clear_0 : decode b_P_clear 0 = .ok (.aload_n 0, 1) := by decide +kernel
theorem d_P_clear_1 : decode b_P_clear 1 = .ok (.invokespecial 22, 3) := by decide +kernel
theorem d_P_clear_4 : decode b_P_clear 4 = .ok (.aload_n 0, 1) := by decide +kernel
theorem d_P_clear_5 : decode b_P_clear 5 = .ok (.iconst 0, 1) := by decide +kernel
theorem d_P_clear_6 : decode b_P_clear 6 = .ok (.putfield 15, 3) := by decide +kernel
theorem d_P_clear_9 : decode b_P_clear 9 = .ok (.return_, 1) := by decide +kernel
theorem d_M_clear_2 : decode b_M_clear 2 = .ok (.iload_n 1, 1) := by decide +kernel
theorem d_M_clear_3 : decode b_M_clear 3 = .ok (.aload_n 0, 1) := by decide +kernel
theorem d_M_clear_4 : decode b_M_clear 4 = .ok (.getfield 16, 3) := by decide +kernel
theorem d_M_clear_7 : decode b_M_clear 7 = .ok (.arraylength, 1) := by decide +kernel
theorem d_M_clear_8 : decode b_M_clear 8 = .ok (.if_icmp .ge 16, 3) := by decide +kernel
theorem d_M_clear_24 : decode b_M_clear 24 = .ok (.iconst 0, 1) := by decide +kernel
theorem d_M_clear_25 : decode b_M_clear 25 = .ok (.istore_n 1, 1) := by decide +kernel
theorem d_M_clear_11 : decode b_M_clear 11 = .ok (.aload_n 0, 1) := by decide +kernel
theorem d_M_clear_12 : decode b_M_clear 12 = .ok (.getfield 16, 3) := by decide +kernel
theorem d_M_clear_15 : decode b_M_clear 15 = .ok (.iload_n 1, 1) := by decide +kernel
theorem d_M_clear_16 : decode b_M_clear 16 = .ok (.iconst 0, 1) := by decide +kernel
theorem d_M_clear_17 : decode b_M_clear 17 = .ok (.iastore, 1) := by decide +kernel
theorem d_M_clear_18 : decode b_M_clear 18 = .ok (.iinc 1 1, 3) := by decide +kernel
theorem d_M_clear_21 : decode b_M_clear 21 = .ok (.goto (-19), 3) := by decide +kernel
theorem d_M_clear_0 : decode b_M_clear 0 = .ok (.iconst 0, 1) := by decide +kernel
theorem d_M_clear_1 : decode b_M_clear 1 = .ok (.istore_n 1, 1) := by decide +kernel
theorem d_M_runUpTo_34 : decode b_M_runUpTo 34 = .ok (.aload_n 0, 1) := by decide +kernel
theorem d_M_runUpTo_35 : decode b_M_runUpTo 35 = .ok (.getfield 59, 3) := by decide +kernel
theorem d_M_runUpTo_38 : decode b_M_runUpTo 38 = .ok (.iload_n 2, 1) := by decide +kernel
theorem d_M_runUpTo_39 : decode b_M_runUpTo 39 = .ok (.isub, 1) := by decide +kernel
theorem d_M_runUpTo_40 : decode b_M_runUpTo 40 = .ok (.ireturn, 1) := by decide +kernel
theorem d_M_runUpTo_12 : decode b_M_runUpTo 12 = .ok (.iload_n 3, 1) := by decide +kernel
theorem d_M_runUpTo_13 : decode b_M_runUpTo 13 = .ok (.iload_n 1, 1) := by decide +kernel
theorem d_M_runUpTo_14 : decode b_M_runUpTo 14 = .ok (.if_icmp .ge 20, 3) := by decide +kernel
theorem d_M_runUpTo_17 : decode b_M_runUpTo 17 = .ok (.aload_n 0, 1) := by decide +kernel
theorem d_M_runUpTo_18 : decode b_M_runUpTo 18 = .ok (.getfield 84, 3) := by decide +kernel
theorem d_M_runUpTo_21 : decode b_M_runUpTo 21 = .ok (.ifCond .ne 13, 3) := by decide +kernel
theorem d_M_runUpTo_24 : decode b_M_runUpTo 24 = .ok (.aload_n 0, 1) := by decide +kernel
theorem d_M_doNext_107 : decode b_M_doNext 107 = .ok (.iinc 2 1, 3) := by decide +kernel
theorem d_M_doNext_110 : decode b_M_doNext 110 = .ok (.goto (-33), 3) := by decide +kernel
theorem d_M_doNext_77 : decode b_M_doNext 77 = .ok (.iload_n 2, 1) := by decide +kernel
theorem d_M_doNext_78 : decode b_M_doNext 78 = .ok (.aload_n 0, 1) := by decide +kernel
theorem d_M_doNext_79 : decode b_M_doNext 79 = .ok (.getfield 38, 3) := by decide +kernel
theorem d_M_doNext_82 : decode b_M_doNext 82 = .ok (.arraylength, 1) := by decide +kernel
theorem d_M_doNext_83 : decode b_M_doNext 83 = .ok (.if_icmp .ge 30, 3) := by decide +kernel
theorem d_M_doNext_113 : decode b_M_doNext 113 = .ok (.return_, 1) := by decide +kernel
theorem d_M_doNext_86 : decode b_M_doNext 86 = .ok (.aload_n 0, 1) := by decide +kernel
theorem d_M_doNext_87 : decode b_M_doNext 87 = .ok (.getfield 38, 3) := by decide +kernel
theorem d_M_doNext_90 : decode b_M_doNext 90 = .ok (.iload_n 2, 1) := by decide +kernel
theorem d_M_doNext_91 : decode b_M_doNext 91 = .ok (.aaload, 1) := by decide +kernel
theorem d_M_doNext_92 : decode b_M_doNext 92 = .ok (.getfield 72, 3) := by decide +kernel
theorem d_M_doNext_95 : decode b_M_doNext 95 = .ok (.ifCond .eq 12, 3) := by decide +kernel
theorem d_M_doNext_98 : decode b_M_doNext 98 = .ok (.aload_n 0, 1) := by decide +kernel
theorem d_M_doNext_99 : decode b_M_doNext 99 = .ok (.getfield 38, 3) := by decide +kernel
theorem d_M_doNext_102 : decode b_M_doNext 102 = .ok (.iload_n 2, 1) := by decide +kernel
theorem d_M_doNext_103 : decode b_M_doNext 103 = .ok (.aaload, 1) := by decide +kernel
theorem d_D_tick_0 : decode b_D_tick 0 = .ok (.aload_n 0, 1) := by decide +kernel
theorem d_D_tick_1 : decode b_D_tick 1 = .ok (.dup, 1) := by decide +kernel
theorem d_D_tick_2 : decode b_D_tick 2 = .ok (.getfield 23, 3) := by decide +kernel
theorem d_D_tick_5 : decode b_D_tick 5 = .ok (.iconst 1, 1) := by decide +kernel
theorem d_D_tick_6 : decode b_D_tick 6 = .ok (.iadd, 1) := by decide +kernel
theorem d_D_tick_7 : decode b_D_tick 7 = .ok (.putfield 23, 3) := by decide +kernel
theorem d_D_tick_10 : decode b_D_tick 10 = .ok (.aload_n 0, 1) := by decide +kernel
theorem d_D_tick_11 : decode b_D_tick 11 = .ok (.getfield 23, 3) := by decide +kernel
theorem d_D_tick_14 : decode b_D_tick 14 = .ok (.aload_n 0, 1) := by decide +kernel
theorem d_D_tick_15 : decode b_D_tick 15 = .ok (.getfield 13, 3) := by decide +kernel
theorem d_D_tick_18 : decode b_D_tick 18 = .ok (.if_icmp .lt 20, 3) := by decide +kernel
theorem d_D_tick_38 : decode b_D_tick 38 = .ok (.return_, 1) := by decide +kernel
theorem d_D_tick_21 : decode b_D_tick 21 = .ok (.aload_n 0, 1) := by decide +kernel
theorem d_E_work_0 : decode b_E_work 0 = .ok (.aload_n 0, 1) := by decide +kernel
theorem d_E_work_1 : decode b_E_work 1 = .ok (.getfield 15, 3) := by decide +kernel
theorem d_E_work_4 : decode b_E_work 4 = .ok (.ifCond .ne 5, 3) := by decide +kernel
theorem d_E_work_9 : decode b_E_work 9 = .ok (.aload_n 0, 1) := by decide +kernel
theorem d_E_work_10 : decode b_E_work 10 = .ok (.aload_n 0, 1) := by decide +kernel
theorem d_E_work_11 : decode b_E_work 11 = .ok (.getfield 9, 3) := by decide +kernel
theorem d_E_work_14 : decode b_E_work 14 = .ok (.aload_n 0, 1) := by decide +kernel
theorem d_E_work_15 : decode b_E_work 15 = .ok (.getfield 19, 3) := by decide +kernel
theorem d_E_work_18 : decode b_E_work 18 = .ok (.caload, 1) := by decide +kernel
theorem d_E_work_19 : decode b_E_work 19 = .ok (.putfield 22, 3) := by decide +kernel
theorem d_E_work_22 : decode b_E_work 22 = .ok (.aload_n 0, 1) := by decide +kernel
theorem d_E_work_23 : decode b_E_work 23 = .ok (.aload_n 0, 1) := by decide +kernel
theorem d_E_work_24 : decode b_E_work 24 = .ok (.getfield 19, 3) := by decide +kernel
theorem d_E_work_27 : decode b_E_work 27 = .ok (.iconst 1, 1) := by decide +kernel
theorem d_E_work_28 : decode b_E_work 28 = .ok (.iadd, 1) := by decide +kernel
theorem d_E_work_29 : decode b_E_work 29 = .ok (.sipush 500, 3) := by decide +kernel
theorem d_E_work_32 : decode b_E_work 32 = .ok (.irem, 1) := by decide +kernel
theorem d_E_work_33 : decode b_E_work 33 = .ok (.putfield 19, 3) := by decide +kernel
theorem d_E_work_36 : decode b_E_work 36 = .ok (.aload_n 0, 1) := by decide +kernel
theorem d_E_work_37 : decode b_E_work 37 = .ok (.dup, 1) := by decide +kernel
theorem d_E_work_38 : decode b_E_work 38 = .ok (.getfield 15, 3) := by decide +kernel
theorem d_E_work_41 : decode b_E_work 41 = .ok (.iconst 1, 1) := by decide +kernel
theorem d_E_work_42 : decode b_E_work 42 = .ok (.isub, 1) := by decide +kernel
theorem d_E_work_43 : decode b_E_work 43 = .ok (.putfield 15, 3) := by decide +kernel
theorem d_E_work_46 : decode b_E_work 46 = .ok (.iconst 1, 1) := by decide +kernel
theorem d_E_work_47 : decode b_E_work 47 = .ok (.ireturn, 1) := by decide +kernel
theorem d_E_work_7 : decode b_E_work 7 = .ok (.iconst 0, 1) := by decide +kernel
theorem d_E_work_8 : decode b_E_work 8 = .ok (.ireturn, 1) := by decide +kernel
theorem d_D_tick_22 : decode b_D_tick 22 = .ok (.invokevirtual 26, 3) := by decide +kernel
theorem d_D_tick_25 : decode b_D_tick 25 = .ok (.ifCond .eq 13, 3) := by decide +kernel
theorem d_D_tick_28 : decode b_D_tick 28 = .ok (.aload_n 0, 1) := by decide +kernel
theorem d_D_tick_29 : decode b_D_tick 29 = .ok (.iconst 0, 1) := by decide +kernel
theorem d_D_tick_30 : decode b_D_tick 30 = .ok (.putfield 16, 3) := by decide +kernel
theorem d_D_tick_33 : decode b_D_tick 33 = .ok (.aload_n 0, 1) := by decide +kernel
theorem d_D_tick_34 : decode b_D_tick 34 = .ok (.iconst 1, 1) := by decide +kernel
theorem d_D_tick_35 : decode b_D_tick 35 = .ok (.putfield 20, 3) := by decide +kernel
theorem d_M_doNext_104 : decode b_M_doNext 104 = .ok (.invokevirtual 109, 3) := by decide +kernel
theorem d_P_work_24 : decode b_P_work 24 = .ok (.aload_n 0, 1) := by decide +kernel
theorem d_P_work_25 : decode b_P_work 25 = .ok (.dup, 1) := by decide +kernel
theorem d_P_work_26 : decode b_P_work 26 = .ok (.getfield 15, 3) := by decide +kernel
theorem d_P_work_29 : decode b_P_work 29 = .ok (.iconst 1, 1) := by decide +kernel
theorem d_P_work_30 : decode b_P_work 30 = .ok (.iadd, 1) := by decide +kernel
theorem d_P_work_31 : decode b_P_work 31 = .ok (.putfield 15, 3) := by decide +kernel
theorem d_P_work_34 : decode b_P_work 34 = .ok (.iconst 1, 1) := by decide +kernel
theorem d_P_work_35 : decode b_P_work 35 = .ok (.ireturn, 1) := by decide +kernel
theorem d_P_work_0 : decode b_P_work 0 = .ok (.aload_n 0, 1) := by decide +kernel
theorem d_P_work_1 : decode b_P_work 1 = .ok (.getfield 15, 3) := by decide +kernel
theorem d_P_work_4 : decode b_P_work 4 = .ok (.sipush 1000, 3) := by decide +kernel
theorem d_P_work_7 : decode b_P_work 7 = .ok (.if_icmp .ge 17, 3) := by decide +kernel
theorem d_P_work_10 : decode b_P_work 10 = .ok (.aload_n 0, 1) := by decide +kernel
theorem d_P_work_11 : decode b_P_work 11 = .ok (.getfield 9, 3) := by decide +kernel
theorem d_P_work_14 : decode b_P_work 14 = .ok (.aload_n 0, 1) := by decide +kernel
theorem d_P_work_15 : decode b_P_work 15 = .ok (.getfield 15, 3) := by decide +kernel
theorem d_P_work_18 : decode b_P_work 18 = .ok (.aload_n 0, 1) := by decide +kernel
theorem d_P_work_19 : decode b_P_work 19 = .ok (.getfield 19, 3) := by decide +kernel
theorem d_P_work_22 : decode b_P_work 22 = .ok (.i2c, 1) := by decide +kernel
theorem d_P_work_23 : decode b_P_work 23 = .ok (.castore, 1) := by decide +kernel
theorem d_K_work_0 : decode b_K_work 0 = .ok (.iconst 1, 1) := by decide +kernel
theorem d_K_work_1 : decode b_K_work 1 = .ok (.ireturn, 1) := by decide +kernel
theorem d_M_doNext_34 : decode b_M_doNext 34 = .ok (.aload_n 0, 1) := by decide +kernel
theorem d_M_doNext_35 : decode b_M_doNext 35 = .ok (.aload_n 0, 1) := by decide +kernel
theorem d_M_doNext_36 : decode b_M_doNext 36 = .ok (.getfield 46, 3) := by decide +kernel
theorem d_M_doNext_39 : decode b_M_doNext 39 = .ok (.invokevirtual 98, 3) := by decide +kernel
theorem d_M_doNext_42 : decode b_M_doNext 42 = .ok (.istore_n 1, 1) := by decide +kernel
theorem d_M_doNext_43 : decode b_M_doNext 43 = .ok (.aload_n 0, 1) := by decide +kernel
theorem d_M_doNext_44 : decode b_M_doNext 44 = .ok (.iload_n 1, 1) := by decide +kernel
theorem d_M_perform_0 : decode b_M_perform 0 = .ok (.iload_n 1, 1) := by decide +kernel
theorem d_M_perform_1 : decode b_M_perform 1 = .ok (.ldc 9, 2) := by decide +kernel
theorem d_M_perform_3 : decode b_M_perform 3 = .ok (.if_icmp .lt 14, 3) := by decide +kernel
theorem d_M_perform_17 : decode b_M_perform 17 = .ok (.iload_n 1, 1) := by decide +kernel
theorem d_M_perform_18 : decode b_M_perform 18 = .ok (.sipush 24576, 3) := by decide +kernel
theorem d_M_perform_21 : decode b_M_perform 21 = .ok (.if_icmp .lt 14, 3) := by decide +kernel
theorem d_M_perform_35 : decode b_M_perform 35 = .ok (.aload_n 0, 1) := by decide +kernel
theorem d_M_perform_36 : decode b_M_perform 36 = .ok (.iload_n 1, 1) := by decide +kernel
theorem d_M_addressOf_96 : decode b_M_addressOf 96 = .ok (.iload 4, 2) := by decide +kernel
theorem d_M_addressOf_98 : decode b_M_addressOf 98 = .ok (.sipush 32767, 3) := by decide +kernel
theorem d_M_addressOf_101 : decode b_M_addressOf 101 = .ok (.iand, 1) := by decide +kernel
theorem d_M_addressOf_102 : decode b_M_addressOf 102 = .ok (.istore 4, 2) := by decide +kernel
theorem d_M_addressOf_104 : decode b_M_addressOf 104 = .ok (.iload_n 1, 1) := by decide +kernel
theorem d_M_addressOf_105 : decode b_M_addressOf 105 = .ok (.sipush 1024, 3) := by decide +kernel
theorem d_M_addressOf_108 : decode b_M_addressOf 108 = .ok (.iand, 1) := by decide +kernel
theorem d_M_addressOf_109 : decode b_M_addressOf 109 = .ok (.ifCond .ne 8, 3) := by decide +kernel
theorem d_M_addressOf_117 : decode b_M_addressOf 117 = .ok (.aload_n 0, 1) := by decide +kernel
theorem d_M_addressOf_118 : decode b_M_addressOf 118 = .ok (.iload 4, 2) := by decide +kernel
theorem d_M_endOfRow_4 : decode b_M_endOfRow 4 = .ok (.iload_n 3, 1) := by decide +kernel
theorem d_M_endOfRow_5 : decode b_M_endOfRow 5 = .ok (.bipush 14, 2) := by decide +kernel
theorem d_M_endOfRow_7 : decode b_M_endOfRow 7 = .ok (.if_icmp .ge 36, 3) := by decide +kernel
theorem d_M_endOfRow_43 : decode b_M_endOfRow 43 = .ok (.iconst (-1), 1) := by decide +kernel
theorem d_M_endOfRow_44 : decode b_M_endOfRow 44 = .ok (.ireturn, 1) := by decide +kernel
theorem d_M_endOfRow_10 : decode b_M_endOfRow 10 = .ok (.aload_n 0, 1) := by decide +kernel
theorem d_M_endOfRow_11 : decode b_M_endOfRow 11 = .ok (.iload_n 2, 1) := by decide +kernel
theorem d_M_endOfRow_12 : decode b_M_endOfRow 12 = .ok (.iload_n 2, 1) := by decide +kernel
theorem d_M_stepAt_0 : decode b_M_stepAt 0 = .ok (.iload_n 0, 1) := by decide +kernel
theorem d_M_stepAt_1 : decode b_M_stepAt 1 = .ok (.bipush 16, 2) := by decide +kernel
theorem d_M_stepAt_3 : decode b_M_stepAt 3 = .ok (.if_icmp .lt 9, 3) := by decide +kernel
theorem d_M_stepAt_12 : decode b_M_stepAt 12 = .ok (.iconst 0, 1) := by decide +kernel
theorem d_M_stepAt_13 : decode b_M_stepAt 13 = .ok (.ireturn, 1) := by decide +kernel
theorem d_M_stepAt_6 : decode b_M_stepAt 6 = .ok (.iload_n 0, 1) := by decide +kernel
theorem d_M_stepAt_7 : decode b_M_stepAt 7 = .ok (.bipush 31, 2) := by decide +kernel
theorem d_M_stepAt_9 : decode b_M_stepAt 9 = .ok (.if_icmp .le 5, 3) := by decide +kernel
theorem d_M_stepAt_14 : decode b_M_stepAt 14 = .ok (.iload_n 0, 1) := by decide +kernel
theorem d_M_stepAt_15 : decode b_M_stepAt 15 = .ok (.bipush 24, 2) := by decide +kernel
theorem d_M_stepAt_17 : decode b_M_stepAt 17 = .ok (.if_icmp .ge 7, 3) := by decide +kernel
theorem d_M_stepAt_24 : decode b_M_stepAt 24 = .ok (.iconst (-1), 1) := by decide +kernel
theorem d_M_stepAt_25 : decode b_M_stepAt 25 = .ok (.ireturn, 1) := by decide +kernel
theorem d_M_stepAt_20 : decode b_M_stepAt 20 = .ok (.iconst 1, 1) := by decide +kernel
theorem d_M_stepAt_21 : decode b_M_stepAt 21 = .ok (.goto 4, 3) := by decide +kernel
theorem d_M_endOfRow_13 : decode b_M_endOfRow 13 = .ok (.invokestatic 147, 3) := by decide +kernel
theorem d_M_countAt_0 : decode b_M_countAt 0 = .ok (.aload_n 0, 1) := by decide +kernel
theorem d_M_countAt_1 : decode b_M_countAt 1 = .ok (.iload_n 1, 1) := by decide +kernel
theorem d_M_countAt_2 : decode b_M_countAt 2 = .ok (.invokevirtual 98, 3) := by decide +kernel
theorem d_M_countAt_5 : decode b_M_countAt 5 = .ok (.iload_n 2, 1) := by decide +kernel
theorem d_M_countAt_6 : decode b_M_countAt 6 = .ok (.iadd, 1) := by decide +kernel
theorem d_M_countAt_7 : decode b_M_countAt 7 = .ok (.ldc 146, 2) := by decide +kernel
theorem d_M_countAt_9 : decode b_M_countAt 9 = .ok (.iand, 1) := by decide +kernel
theorem d_M_countAt_10 : decode b_M_countAt 10 = .ok (.istore_n 3, 1) := by decide +kernel
theorem d_M_countAt_11 : decode b_M_countAt 11 = .ok (.aload_n 0, 1) := by decide +kernel
theorem d_M_countAt_12 : decode b_M_countAt 12 = .ok (.iload_n 1, 1) := by decide +kernel
theorem d_M_countAt_13 : decode b_M_countAt 13 = .ok (.iload_n 3, 1) := by decide +kernel
theorem d_M_countAt_14 : decode b_M_countAt 14 = .ok (.invokevirtual 116, 3) := by decide +kernel
theorem d_M_countAt_17 : decode b_M_countAt 17 = .ok (.iload_n 3, 1) := by decide +kernel
theorem d_M_countAt_18 : decode b_M_countAt 18 = .ok (.ireturn, 1) := by decide +kernel
theorem d_M_endOfRow_16 : decode b_M_endOfRow 16 = .ok (.invokevirtual 139, 3) := by decide +kernel
theorem d_M_endOfRow_19 : decode b_M_endOfRow 19 = .ok (.istore 4, 2) := by decide +kernel
theorem d_M_endOfRow_21 : decode b_M_endOfRow 21 = .ok (.iload 4, 2) := by decide +kernel
theorem d_M_endOfRow_23 : decode b_M_endOfRow 23 = .ok (.sipush 32767, 3) := by decide +kernel
theorem d_M_endOfRow_26 : decode b_M_endOfRow 26 = .ok (.iand, 1) := by decide +kernel
theorem d_M_endOfRow_27 : decode b_M_endOfRow 27 = .ok (.istore_n 2, 1) := by decide +kernel
theorem d_M_endOfRow_28 : decode b_M_endOfRow 28 = .ok (.iload 4, 2) := by decide +kernel
theorem d_M_endOfRow_30 : decode b_M_endOfRow 30 = .ok (.ldc 9, 2) := by decide +kernel
theorem d_M_endOfRow_32 : decode b_M_endOfRow 32 = .ok (.if_icmp .ge 5, 3) := by decide +kernel
theorem d_M_endOfRow_37 : decode b_M_endOfRow 37 = .ok (.iinc 3 1, 3) := by decide +kernel
theorem d_M_endOfRow_40 : decode b_M_endOfRow 40 = .ok (.goto (-36), 3) := by decide +kernel
theorem d_M_endOfRow_35 : decode b_M_endOfRow 35 = .ok (.iload_n 2, 1) := by decide +kernel
theorem d_M_endOfRow_36 : decode b_M_endOfRow 36 = .ok (.ireturn, 1) := by decide +kernel
theorem d_M_endOfRow_0 : decode b_M_endOfRow 0 = .ok (.iload_n 1, 1) := by decide +kernel
theorem d_M_endOfRow_1 : decode b_M_endOfRow 1 = .ok (.istore_n 2, 1) := by decide +kernel
theorem d_M_endOfRow_2 : decode b_M_endOfRow 2 = .ok (.iconst 0, 1) := by decide +kernel
theorem d_M_endOfRow_3 : decode b_M_endOfRow 3 = .ok (.istore_n 3, 1) := by decide +kernel
theorem d_M_addressOf_120 : decode b_M_addressOf 120 = .ok (.invokevirtual 120, 3) := by decide +kernel
theorem d_M_addressOf_123 : decode b_M_addressOf 123 = .ok (.ireturn, 1) := by decide +kernel
theorem d_M_addressOf_112 : decode b_M_addressOf 112 = .ok (.iload 4, 2) := by decide +kernel
theorem d_M_addressOf_114 : decode b_M_addressOf 114 = .ok (.goto 9, 3) := by decide +kernel
theorem d_M_addressOf_22 : decode b_M_addressOf 22 = .ok (.istore_n 3, 1) := by decide +kernel
theorem d_M_addressOf_23 : decode b_M_addressOf 23 = .ok (.iload_n 1, 1) := by decide +kernel
theorem d_M_addressOf_24 : decode b_M_addressOf 24 = .ok (.bipush 8, 2) := by decide +kernel
theorem d_M_addressOf_26 : decode b_M_addressOf 26 = .ok (.ishr, 1) := by decide +kernel
theorem d_M_addressOf_27 : decode b_M_addressOf 27 = .ok (.iconst 3, 1) := by decide +kernel
theorem d_M_addressOf_28 : decode b_M_addressOf 28 = .ok (.iand, 1) := by decide +kernel
theorem d_M_addressOf_29 : decode b_M_addressOf 29 = .ok (.tableswitch 57 0 2 #[27, 33, 44], 27) := by decide +kernel
theorem d_M_addressOf_56 : decode b_M_addressOf 56 = .ok (.iload_n 2, 1) := by decide +kernel
theorem d_M_addressOf_57 : decode b_M_addressOf 57 = .ok (.istore 4, 2) := by decide +kernel
theorem d_M_addressOf_59 : decode b_M_addressOf 59 = .ok (.goto 37, 3) := by decide +kernel
theorem d_M_addressOf_62 : decode b_M_addressOf 62 = .ok (.aload_n 0, 1) := by decide +kernel
theorem d_M_addressOf_63 : decode b_M_addressOf 63 = .ok (.getfield 46, 3) := by decide +kernel
theorem d_M_addressOf_66 : decode b_M_addressOf 66 = .ok (.iload_n 3, 1) := by decide +kernel
theorem d_M_addressOf_67 : decode b_M_addressOf 67 = .ok (.iadd, 1) := by decide +kernel
theorem d_M_addressOf_68 : decode b_M_addressOf 68 = .ok (.istore 4, 2) := by decide +kernel
theorem d_M_addressOf_70 : decode b_M_addressOf 70 = .ok (.goto 26, 3) := by decide +kernel
theorem d_M_addressOf_73 : decode b_M_addressOf 73 = .ok (.aload_n 0, 1) := by decide +kernel
theorem d_M_addressOf_74 : decode b_M_addressOf 74 = .ok (.getfield 16, 3) := by decide +kernel
theorem d_M_addressOf_77 : decode b_M_addressOf 77 = .ok (.iconst 2, 1) := by decide +kernel
theorem d_M_addressOf_78 : decode b_M_addressOf 78 = .ok (.iaload, 1) := by decide +kernel
theorem d_M_addressOf_79 : decode b_M_addressOf 79 = .ok (.iload_n 3, 1) := by decide +kernel
theorem d_M_addressOf_80 : decode b_M_addressOf 80 = .ok (.iadd, 1) := by decide +kernel
theorem d_M_addressOf_81 : decode b_M_addressOf 81 = .ok (.istore 4, 2) := by decide +kernel
theorem d_M_addressOf_83 : decode b_M_addressOf 83 = .ok (.goto 13, 3) := by decide +kernel
theorem d_M_addressOf_86 : decode b_M_addressOf 86 = .ok (.aload_n 0, 1) := by decide +kernel
theorem d_M_addressOf_87 : decode b_M_addressOf 87 = .ok (.getfield 16, 3) := by decide +kernel
theorem d_M_addressOf_90 : decode b_M_addressOf 90 = .ok (.iconst 3, 1) := by decide +kernel
theorem d_M_addressOf_91 : decode b_M_addressOf 91 = .ok (.iaload, 1) := by decide +kernel
theorem d_M_addressOf_92 : decode b_M_addressOf 92 = .ok (.iload_n 3, 1) := by decide +kernel
theorem d_M_addressOf_93 : decode b_M_addressOf 93 = .ok (.iadd, 1) := by decide +kernel
theorem d_M_addressOf_94 : decode b_M_addressOf 94 = .ok (.istore 4, 2) := by decide +kernel
theorem d_M_addressOf_0 : decode b_M_addressOf 0 = .ok (.iload_n 1, 1) := by decide +kernel
theorem d_M_addressOf_1 : decode b_M_addressOf 1 = .ok (.sipush 255, 3) := by decide +kernel
theorem d_M_addressOf_4 : decode b_M_addressOf 4 = .ok (.iand, 1) := by decide +kernel
theorem d_M_addressOf_5 : decode b_M_addressOf 5 = .ok (.istore_n 2, 1) := by decide +kernel
theorem d_M_addressOf_6 : decode b_M_addressOf 6 = .ok (.iload_n 2, 1) := by decide +kernel
theorem d_M_addressOf_7 : decode b_M_addressOf 7 = .ok (.sipush 128, 3) := by decide +kernel
theorem d_M_addressOf_10 : decode b_M_addressOf 10 = .ok (.if_icmp .ge 7, 3) := by decide +kernel
theorem d_M_addressOf_17 : decode b_M_addressOf 17 = .ok (.iload_n 2, 1) := by decide +kernel
theorem d_M_addressOf_18 : decode b_M_addressOf 18 = .ok (.sipush 256, 3) := by decide +kernel
theorem d_M_addressOf_21 : decode b_M_addressOf 21 = .ok (.isub, 1) := by decide +kernel
theorem d_M_addressOf_13 : decode b_M_addressOf 13 = .ok (.iload_n 2, 1) := by decide +kernel
theorem d_M_addressOf_14 : decode b_M_addressOf 14 = .ok (.goto 8, 3) := by decide +kernel
theorem d_M_perform_37 : decode b_M_perform 37 = .ok (.invokevirtual 133, 3) := by decide +kernel
theorem d_M_perform_40 : decode b_M_perform 40 = .ok (.istore_n 2, 1) := by decide +kernel
theorem d_M_perform_41 : decode b_M_perform 41 = .ok (.iload_n 2, 1) := by decide +kernel
theorem d_M_perform_42 : decode b_M_perform 42 = .ok (.iconst (-1), 1) := by decide +kernel
theorem d_M_perform_43 : decode b_M_perform 43 = .ok (.if_icmp .ne 5, 3) := by decide +kernel
theorem d_M_perform_48 : decode b_M_perform 48 = .ok (.aload_n 0, 1) := by decide +kernel
theorem d_M_perform_49 : decode b_M_perform 49 = .ok (.iload_n 1, 1) := by decide +kernel
theorem d_M_perform_50 : decode b_M_perform 50 = .ok (.bipush 11, 2) := by decide +kernel
theorem d_M_perform_52 : decode b_M_perform 52 = .ok (.ishr, 1) := by decide +kernel
theorem d_M_perform_53 : decode b_M_perform 53 = .ok (.iload_n 2, 1) := by decide +kernel
theorem d_M_goOn_14 : decode b_M_goOn 14 = .ok (.iadd, 1) := by decide +kernel
theorem d_M_goOn_15 : decode b_M_goOn 15 = .ok (.sipush 32767, 3) := by decide +kernel
theorem d_M_goOn_18 : decode b_M_goOn 18 = .ok (.iand, 1) := by decide +kernel
theorem d_M_goOn_19 : decode b_M_goOn 19 = .ok (.putfield 46, 3) := by decide +kernel
theorem d_M_goOn_22 : decode b_M_goOn 22 = .ok (.return_, 1) := by decide +kernel
theorem d_M_goOn_0 : decode b_M_goOn 0 = .ok (.aload_n 0, 1) := by decide +kernel
theorem d_M_goOn_1 : decode b_M_goOn 1 = .ok (.aload_n 0, 1) := by decide +kernel
theorem d_M_goOn_2 : decode b_M_goOn 2 = .ok (.getfield 46, 3) := by decide +kernel
theorem d_M_goOn_5 : decode b_M_goOn 5 = .ok (.iload_n 1, 1) := by decide +kernel
theorem d_M_goOn_6 : decode b_M_goOn 6 = .ok (.ifCond .eq 7, 3) := by decide +kernel
theorem d_M_goOn_13 : decode b_M_goOn 13 = .ok (.iconst 1, 1) := by decide +kernel
theorem d_M_goOn_9 : decode b_M_goOn 9 = .ok (.iconst 2, 1) := by decide +kernel
theorem d_M_goOn_10 : decode b_M_goOn 10 = .ok (.goto 4, 3) := by decide +kernel
theorem d_M_useMemory_79 : decode b_M_useMemory 79 = .ok (.invokevirtual 126, 3) := by decide +kernel
theorem d_M_useMemory_82 : decode b_M_useMemory 82 = .ok (.goto 30, 3) := by decide +kernel
theorem d_M_useMemory_112 : decode b_M_useMemory 112 = .ok (.return_, 1) := by decide +kernel
theorem d_M_useMemory_100 : decode b_M_useMemory 100 = .ok (.invokevirtual 126, 3) := by decide +kernel
theorem d_M_useMemory_103 : decode b_M_useMemory 103 = .ok (.goto 9, 3) := by decide +kernel
theorem d_M_useMemory_0 : decode b_M_useMemory 0 = .ok (.iload_n 1, 1) := by decide +kernel
theorem d_M_useMemory_1 : decode b_M_useMemory 1 = .ok (.tableswitch 105 0 3 #[31, 39, 63, 84], 31) := by decide +kernel
theorem d_M_useMemory_32 : decode b_M_useMemory 32 = .ok (.aload_n 0, 1) := by decide +kernel
theorem d_M_useMemory_33 : decode b_M_useMemory 33 = .ok (.iload_n 2, 1) := by decide +kernel
theorem d_M_useMemory_34 : decode b_M_useMemory 34 = .ok (.putfield 46, 3) := by decide +kernel
theorem d_M_useMemory_37 : decode b_M_useMemory 37 = .ok (.goto 75, 3) := by decide +kernel
theorem d_M_useMemory_40 : decode b_M_useMemory 40 = .ok (.aload_n 0, 1) := by decide +kernel
theorem d_M_useMemory_41 : decode b_M_useMemory 41 = .ok (.getfield 16, 3) := by decide +kernel
theorem d_M_useMemory_44 : decode b_M_useMemory 44 = .ok (.iconst 3, 1) := by decide +kernel
theorem d_M_useMemory_45 : decode b_M_useMemory 45 = .ok (.aload_n 0, 1) := by decide +kernel
theorem d_M_useMemory_46 : decode b_M_useMemory 46 = .ok (.getfield 46, 3) := by decide +kernel
theorem d_M_useMemory_49 : decode b_M_useMemory 49 = .ok (.iconst 1, 1) := by decide +kernel
theorem d_M_useMemory_50 : decode b_M_useMemory 50 = .ok (.iadd, 1) := by decide +kernel
theorem d_M_useMemory_51 : decode b_M_useMemory 51 = .ok (.sipush 32767, 3) := by decide +kernel
theorem d_M_useMemory_54 : decode b_M_useMemory 54 = .ok (.iand, 1) := by decide +kernel
theorem d_M_useMemory_55 : decode b_M_useMemory 55 = .ok (.iastore, 1) := by decide +kernel
theorem d_M_useMemory_56 : decode b_M_useMemory 56 = .ok (.aload_n 0, 1) := by decide +kernel
theorem d_M_useMemory_57 : decode b_M_useMemory 57 = .ok (.iload_n 2, 1) := by decide +kernel
theorem d_M_useMemory_58 : decode b_M_useMemory 58 = .ok (.putfield 46, 3) := by decide +kernel
theorem d_M_useMemory_61 : decode b_M_useMemory 61 = .ok (.goto 51, 3) := by decide +kernel
theorem d_M_useMemory_64 : decode b_M_useMemory 64 = .ok (.aload_n 0, 1) := by decide +kernel
theorem d_M_useMemory_65 : decode b_M_useMemory 65 = .ok (.aload_n 0, 1) := by decide +kernel
theorem d_M_useMemory_66 : decode b_M_useMemory 66 = .ok (.iload_n 2, 1) := by decide +kernel
theorem d_M_useMemory_67 : decode b_M_useMemory 67 = .ok (.iconst 1, 1) := by decide +kernel
theorem d_M_useMemory_68 : decode b_M_useMemory 68 = .ok (.invokevirtual 139, 3) := by decide +kernel
theorem d_M_useMemory_71 : decode b_M_useMemory 71 = .ok (.ifCond .ne 7, 3) := by decide +kernel
theorem d_M_useMemory_78 : decode b_M_useMemory 78 = .ok (.iconst 0, 1) := by decide +kernel
theorem d_M_useMemory_74 : decode b_M_useMemory 74 = .ok (.iconst 1, 1) := by decide +kernel
theorem d_M_useMemory_75 : decode b_M_useMemory 75 = .ok (.goto 4, 3) := by decide +kernel
theorem d_M_useMemory_85 : decode b_M_useMemory 85 = .ok (.aload_n 0, 1) := by decide +kernel
theorem d_M_useMemory_86 : decode b_M_useMemory 86 = .ok (.aload_n 0, 1) := by decide +kernel
theorem d_M_useMemory_87 : decode b_M_useMemory 87 = .ok (.iload_n 2, 1) := by decide +kernel
theorem d_M_useMemory_88 : decode b_M_useMemory 88 = .ok (.iconst (-1), 1) := by decide +kernel
theorem d_M_useMemory_89 : decode b_M_useMemory 89 = .ok (.invokevirtual 139, 3) := by decide +kernel
theorem d_M_useMemory_92 : decode b_M_useMemory 92 = .ok (.ifCond .ne 7, 3) := by decide +kernel
theorem d_M_useMemory_99 : decode b_M_useMemory 99 = .ok (.iconst 0, 1) := by decide +kernel
theorem d_M_useMemory_95 : decode b_M_useMemory 95 = .ok (.iconst 1, 1) := by decide +kernel
theorem d_M_useMemory_96 : decode b_M_useMemory 96 = .ok (.goto 4, 3) := by decide +kernel
theorem d_M_useMemory_106 : decode b_M_useMemory 106 = .ok (.aload_n 0, 1) := by decide +kernel
theorem d_M_useMemory_107 : decode b_M_useMemory 107 = .ok (.iload_n 1, 1) := by decide +kernel
theorem d_M_useMemory_108 : decode b_M_useMemory 108 = .ok (.iload_n 2, 1) := by decide +kernel
theorem d_M_moveWord_35 : decode b_M_moveWord 35 = .ok (.aload_n 0, 1) := by decide +kernel
theorem d_M_moveWord_36 : decode b_M_moveWord 36 = .ok (.iconst 0, 1) := by decide +kernel
theorem d_M_moveWord_37 : decode b_M_moveWord 37 = .ok (.invokevirtual 126, 3) := by decide +kernel
theorem d_M_moveWord_40 : decode b_M_moveWord 40 = .ok (.return_, 1) := by decide +kernel
theorem d_M_moveWord_0 : decode b_M_moveWord 0 = .ok (.iload_n 1, 1) := by decide +kernel
theorem d_M_moveWord_1 : decode b_M_moveWord 1 = .ok (.iconst 3, 1) := by decide +kernel
theorem d_M_moveWord_2 : decode b_M_moveWord 2 = .ok (.iand, 1) := by decide +kernel
theorem d_M_moveWord_3 : decode b_M_moveWord 3 = .ok (.istore_n 3, 1) := by decide +kernel
theorem d_M_moveWord_4 : decode b_M_moveWord 4 = .ok (.iload_n 1, 1) := by decide +kernel
theorem d_M_moveWord_5 : decode b_M_moveWord 5 = .ok (.bipush 8, 2) := by decide +kernel
theorem d_M_moveWord_7 : decode b_M_moveWord 7 = .ok (.if_icmp .ge 17, 3) := by decide +kernel
theorem d_M_moveWord_24 : decode b_M_moveWord 24 = .ok (.aload_n 0, 1) := by decide +kernel
theorem d_M_moveWord_25 : decode b_M_moveWord 25 = .ok (.iload_n 2, 1) := by decide +kernel
theorem d_M_moveWord_26 : decode b_M_moveWord 26 = .ok (.aload_n 0, 1) := by decide +kernel
theorem d_M_moveWord_27 : decode b_M_moveWord 27 = .ok (.getfield 16, 3) := by decide +kernel
theorem d_M_moveWord_30 : decode b_M_moveWord 30 = .ok (.iload_n 3, 1) := by decide +kernel
theorem d_M_moveWord_31 : decode b_M_moveWord 31 = .ok (.iaload, 1) := by decide +kernel
theorem d_M_moveWord_32 : decode b_M_moveWord 32 = .ok (.invokevirtual 116, 3) := by decide +kernel
theorem d_M_moveWord_10 : decode b_M_moveWord 10 = .ok (.aload_n 0, 1) := by decide +kernel
theorem d_M_moveWord_11 : decode b_M_moveWord 11 = .ok (.getfield 16, 3) := by decide +kernel
theorem d_M_moveWord_14 : decode b_M_moveWord 14 = .ok (.iload_n 3, 1) := by decide +kernel
theorem d_M_moveWord_15 : decode b_M_moveWord 15 = .ok (.aload_n 0, 1) := by decide +kernel
theorem d_M_moveWord_16 : decode b_M_moveWord 16 = .ok (.iload_n 2, 1) := by decide +kernel
theorem d_M_moveWord_17 : decode b_M_moveWord 17 = .ok (.invokevirtual 98, 3) := by decide +kernel
theorem d_M_moveWord_20 : decode b_M_moveWord 20 = .ok (.iastore, 1) := by decide +kernel
theorem d_M_moveWord_21 : decode b_M_moveWord 21 = .ok (.goto 14, 3) := by decide +kernel
theorem d_M_useMemory_109 : decode b_M_useMemory 109 = .ok (.invokevirtual 143, 3) := by decide +kernel
theorem d_M_perform_54 : decode b_M_perform 54 = .ok (.invokevirtual 136, 3) := by decide +kernel
theorem d_M_perform_57 : decode b_M_perform 57 = .ok (.iconst 1, 1) := by decide +kernel
theorem d_M_perform_58 : decode b_M_perform 58 = .ok (.ireturn, 1) := by decide +kernel
theorem d_M_perform_46 : decode b_M_perform 46 = .ok (.iconst 0, 1) := by decide +kernel
theorem d_M_perform_47 : decode b_M_perform 47 = .ok (.ireturn, 1) := by decide +kernel
theorem d_M_perform_24 : decode b_M_perform 24 = .ok (.aload_n 0, 1) := by decide +kernel
theorem d_M_perform_25 : decode b_M_perform 25 = .ok (.aload_n 0, 1) := by decide +kernel
theorem d_M_perform_26 : decode b_M_perform 26 = .ok (.iload_n 1, 1) := by decide +kernel
theorem d_M_operate_115 : decode b_M_operate 115 = .ok (.iload 4, 2) := by decide +kernel
theorem d_M_operate_117 : decode b_M_operate 117 = .ok (.iconst 1, 1) := by decide +kernel
theorem d_M_operate_118 : decode b_M_operate 118 = .ok (.if_icmp .ne 11, 3) := by decide +kernel
theorem d_M_operate_129 : decode b_M_operate 129 = .ok (.iload 4, 2) := by decide +kernel
theorem d_M_operate_131 : decode b_M_operate 131 = .ok (.iconst 2, 1) := by decide +kernel
theorem d_M_operate_132 : decode b_M_operate 132 = .ok (.if_icmp .ne 8, 3) := by decide +kernel
theorem d_M_operate_140 : decode b_M_operate 140 = .ok (.iconst 0, 1) := by decide +kernel
theorem d_M_operate_141 : decode b_M_operate 141 = .ok (.ireturn, 1) := by decide +kernel
theorem d_M_operate_135 : decode b_M_operate 135 = .ok (.aload 6, 2) := by decide +kernel
theorem d_M_operate_137 : decode b_M_operate 137 = .ok (.invokevirtual 184, 3) := by decide +kernel
theorem d_M_operate_121 : decode b_M_operate 121 = .ok (.aload 6, 2) := by decide +kernel
theorem d_D_start_0 : decode b_D_start 0 = .ok (.aload_n 0, 1) := by decide +kernel
theorem d_D_start_1 : decode b_D_start 1 = .ok (.iconst 1, 1) := by decide +kernel
theorem d_D_start_2 : decode b_D_start 2 = .ok (.putfield 16, 3) := by decide +kernel
theorem d_D_start_5 : decode b_D_start 5 = .ok (.aload_n 0, 1) := by decide +kernel
theorem d_D_start_6 : decode b_D_start 6 = .ok (.iconst 0, 1) := by decide +kernel
theorem d_D_start_7 : decode b_D_start 7 = .ok (.putfield 20, 3) := by decide +kernel
theorem d_D_start_10 : decode b_D_start 10 = .ok (.aload_n 0, 1) := by decide +kernel
theorem d_D_start_11 : decode b_D_start 11 = .ok (.iconst 0, 1) := by decide +kernel
theorem d_D_start_12 : decode b_D_start 12 = .ok (.putfield 23, 3) := by decide +kernel
theorem d_D_start_15 : decode b_D_start 15 = .ok (.return_, 1) := by decide +kernel
theorem d_M_operate_123 : decode b_M_operate 123 = .ok (.invokevirtual 181, 3) := by decide +kernel
theorem d_M_operate_126 : decode b_M_operate 126 = .ok (.goto 14, 3) := by decide +kernel
theorem d_M_operate_0 : decode b_M_operate 0 = .ok (.iload_n 1, 1) := by decide +kernel
theorem d_M_operate_1 : decode b_M_operate 1 = .ok (.bipush 11, 2) := by decide +kernel
theorem d_M_operate_3 : decode b_M_operate 3 = .ok (.ishr, 1) := by decide +kernel
theorem d_M_operate_4 : decode b_M_operate 4 = .ok (.iconst 3, 1) := by decide +kernel
theorem d_M_operate_5 : decode b_M_operate 5 = .ok (.iand, 1) := by decide +kernel
theorem d_M_operate_6 : decode b_M_operate 6 = .ok (.istore_n 2, 1) := by decide +kernel
theorem d_M_operate_7 : decode b_M_operate 7 = .ok (.iload_n 1, 1) := by decide +kernel
theorem d_M_operate_8 : decode b_M_operate 8 = .ok (.bipush 8, 2) := by decide +kernel
theorem d_M_operate_10 : decode b_M_operate 10 = .ok (.ishr, 1) := by decide +kernel
theorem d_M_operate_11 : decode b_M_operate 11 = .ok (.bipush 7, 2) := by decide +kernel
theorem d_M_operate_13 : decode b_M_operate 13 = .ok (.iand, 1) := by decide +kernel
theorem d_M_operate_14 : decode b_M_operate 14 = .ok (.istore_n 3, 1) := by decide +kernel
theorem d_M_operate_15 : decode b_M_operate 15 = .ok (.iload_n 1, 1) := by decide +kernel
theorem d_M_operate_16 : decode b_M_operate 16 = .ok (.bipush 6, 2) := by decide +kernel
theorem d_M_operate_18 : decode b_M_operate 18 = .ok (.ishr, 1) := by decide +kernel
theorem d_M_operate_19 : decode b_M_operate 19 = .ok (.iconst 3, 1) := by decide +kernel
theorem d_M_operate_20 : decode b_M_operate 20 = .ok (.iand, 1) := by decide +kernel
theorem d_M_operate_21 : decode b_M_operate 21 = .ok (.istore 4, 2) := by decide +kernel
theorem d_M_operate_23 : decode b_M_operate 23 = .ok (.iload_n 1, 1) := by decide +kernel
theorem d_M_operate_24 : decode b_M_operate 24 = .ok (.bipush 63, 2) := by decide +kernel
theorem d_M_operate_26 : decode b_M_operate 26 = .ok (.iand, 1) := by decide +kernel
theorem d_M_operate_27 : decode b_M_operate 27 = .ok (.istore 5, 2) := by decide +kernel
theorem d_M_operate_29 : decode b_M_operate 29 = .ok (.iload 5, 2) := by decide +kernel
theorem d_M_operate_31 : decode b_M_operate 31 = .ok (.bipush 63, 2) := by decide +kernel
theorem d_M_operate_33 : decode b_M_operate 33 = .ok (.if_icmp .ne 12, 3) := by decide +kernel
theorem d_M_operate_45 : decode b_M_operate 45 = .ok (.aload_n 0, 1) := by decide +kernel
theorem d_M_operate_46 : decode b_M_operate 46 = .ok (.iload 5, 2) := by decide +kernel
theorem d_M_operate_48 : decode b_M_operate 48 = .ok (.invokevirtual 65, 3) := by decide +kernel
theorem d_M_operate_51 : decode b_M_operate 51 = .ok (.astore 6, 2) := by decide +kernel
theorem d_M_operate_53 : decode b_M_operate 53 = .ok (.aload 6, 2) := by decide +kernel
theorem d_M_operate_55 : decode b_M_operate 55 = .ok (.ifnonnull 12, 3) := by decide +kernel
theorem d_M_operate_67 : decode b_M_operate 67 = .ok (.iload_n 3, 1) := by decide +kernel
theorem d_M_operate_68 : decode b_M_operate 68 = .ok (.bipush 7, 2) := by decide +kernel
theorem d_M_operate_70 : decode b_M_operate 70 = .ok (.if_icmp .ne 11, 3) := by decide +kernel
theorem d_M_operate_81 : decode b_M_operate 81 = .ok (.iload_n 3, 1) := by decide +kernel
theorem d_M_operate_82 : decode b_M_operate 82 = .ok (.iconst 1, 1) := by decide +kernel
theorem d_M_operate_83 : decode b_M_operate 83 = .ok (.iand, 1) := by decide +kernel
theorem d_M_operate_84 : decode b_M_operate 84 = .ok (.iconst 1, 1) := by decide +kernel
theorem d_M_operate_85 : decode b_M_operate 85 = .ok (.if_icmp .ne 18, 3) := by decide +kernel
theorem d_M_operate_103 : decode b_M_operate 103 = .ok (.aload 6, 2) := by decide +kernel
theorem d_M_operate_105 : decode b_M_operate 105 = .ok (.iload_n 3, 1) := by decide +kernel
theorem d_M_operate_106 : decode b_M_operate 106 = .ok (.aload_n 0, 1) := by decide +kernel
theorem d_M_operate_107 : decode b_M_operate 107 = .ok (.getfield 16, 3) := by decide +kernel
theorem d_M_operate_110 : decode b_M_operate 110 = .ok (.iload_n 2, 1) := by decide +kernel
theorem d_M_operate_111 : decode b_M_operate 111 = .ok (.iaload, 1) := by decide +kernel
theorem d_D_output_0 : decode b_D_output 0 = .ok (.return_, 1) := by decide +kernel
theorem d_M_operate_112 : decode b_M_operate 112 = .ok (.invokevirtual 178, 3) := by decide +kernel
theorem d_M_operate_88 : decode b_M_operate 88 = .ok (.aload_n 0, 1) := by decide +kernel
theorem d_M_operate_89 : decode b_M_operate 89 = .ok (.getfield 16, 3) := by decide +kernel
theorem d_M_operate_92 : decode b_M_operate 92 = .ok (.iload_n 2, 1) := by decide +kernel
theorem d_M_operate_93 : decode b_M_operate 93 = .ok (.aload 6, 2) := by decide +kernel
theorem d_M_operate_95 : decode b_M_operate 95 = .ok (.iload_n 3, 1) := by decide +kernel
theorem d_E_input_0 : decode b_E_input 0 = .ok (.iload_n 1, 1) := by decide +kernel
theorem d_E_input_1 : decode b_E_input 1 = .ok (.iconst 1, 1) := by decide +kernel
theorem d_E_input_2 : decode b_E_input 2 = .ok (.if_icmp .ne 10, 3) := by decide +kernel
theorem d_E_input_12 : decode b_E_input 12 = .ok (.iconst 0, 1) := by decide +kernel
theorem d_E_input_13 : decode b_E_input 13 = .ok (.ireturn, 1) := by decide +kernel
theorem d_E_input_5 : decode b_E_input 5 = .ok (.aload_n 0, 1) := by decide +kernel
theorem d_E_input_6 : decode b_E_input 6 = .ok (.getfield 22, 3) := by decide +kernel
theorem d_E_input_9 : decode b_E_input 9 = .ok (.goto 4, 3) := by decide +kernel
theorem d_M_operate_96 : decode b_M_operate 96 = .ok (.invokevirtual 175, 3) := by decide +kernel
theorem d_M_operate_99 : decode b_M_operate 99 = .ok (.iastore, 1) := by decide +kernel
theorem d_M_operate_100 : decode b_M_operate 100 = .ok (.goto 15, 3) := by decide +kernel
theorem d_M_operate_73 : decode b_M_operate 73 = .ok (.aload 6, 2) := by decide +kernel
theorem d_M_operate_75 : decode b_M_operate 75 = .ok (.iload 4, 2) := by decide +kernel
theorem d_D_passes_0 : decode b_D_passes 0 = .ok (.iload_n 1, 1) := by decide +kernel
theorem d_D_passes_1 : decode b_D_passes 1 = .ok (.tableswitch 50 0 2 #[27, 32, 45], 27) := by decide +kernel
theorem d_D_passes_28 : decode b_D_passes 28 = .ok (.aload_n 0, 1) := by decide +kernel
theorem d_D_passes_29 : decode b_D_passes 29 = .ok (.getfield 16, 3) := by decide +kernel
theorem d_D_passes_32 : decode b_D_passes 32 = .ok (.ireturn, 1) := by decide +kernel
theorem d_D_passes_33 : decode b_D_passes 33 = .ok (.aload_n 0, 1) := by decide +kernel
theorem d_D_passes_34 : decode b_D_passes 34 = .ok (.getfield 16, 3) := by decide +kernel
theorem d_D_passes_37 : decode b_D_passes 37 = .ok (.ifCond .ne 7, 3) := by decide +kernel
theorem d_D_passes_44 : decode b_D_passes 44 = .ok (.iconst 0, 1) := by decide +kernel
theorem d_D_passes_45 : decode b_D_passes 45 = .ok (.ireturn, 1) := by decide +kernel
theorem d_D_passes_40 : decode b_D_passes 40 = .ok (.iconst 1, 1) := by decide +kernel
theorem d_D_passes_41 : decode b_D_passes 41 = .ok (.goto 4, 3) := by decide +kernel
theorem d_D_passes_46 : decode b_D_passes 46 = .ok (.aload_n 0, 1) := by decide +kernel
theorem d_D_passes_47 : decode b_D_passes 47 = .ok (.getfield 20, 3) := by decide +kernel
theorem d_D_passes_50 : decode b_D_passes 50 = .ok (.ireturn, 1) := by decide +kernel
theorem d_D_passes_51 : decode b_D_passes 51 = .ok (.aload_n 0, 1) := by decide +kernel
theorem d_D_passes_52 : decode b_D_passes 52 = .ok (.getfield 20, 3) := by decide +kernel
theorem d_D_passes_55 : decode b_D_passes 55 = .ok (.ifCond .ne 7, 3) := by decide +kernel
theorem d_D_passes_62 : decode b_D_passes 62 = .ok (.iconst 0, 1) := by decide +kernel
theorem d_D_passes_63 : decode b_D_passes 63 = .ok (.ireturn, 1) := by decide +kernel
theorem d_D_passes_58 : decode b_D_passes 58 = .ok (.iconst 1, 1) := by decide +kernel
theorem d_D_passes_59 : decode b_D_passes 59 = .ok (.goto 4, 3) := by decide +kernel
theorem d_M_operate_77 : decode b_M_operate 77 = .ok (.invokevirtual 172, 3) := by decide +kernel
theorem d_M_operate_80 : decode b_M_operate 80 = .ok (.ireturn, 1) := by decide +kernel
theorem d_P_output_0 : decode b_P_output 0 = .ok (.iload_n 1, 1) := by decide +kernel
theorem d_P_output_1 : decode b_P_output 1 = .ok (.iconst 2, 1) := by decide +kernel
theorem d_P_output_2 : decode b_P_output 2 = .ok (.if_icmp .ne 12, 3) := by decide +kernel
theorem d_P_output_14 : decode b_P_output 14 = .ok (.return_, 1) := by decide +kernel
theorem d_P_output_5 : decode b_P_output 5 = .ok (.aload_n 0, 1) := by decide +kernel
theorem d_P_output_6 : decode b_P_output 6 = .ok (.iload_n 2, 1) := by decide +kernel
theorem d_P_output_7 : decode b_P_output 7 = .ok (.sipush 255, 3) := by decide +kernel
theorem d_P_output_10 : decode b_P_output 10 = .ok (.iand, 1) := by decide +kernel
theorem d_P_output_11 : decode b_P_output 11 = .ok (.putfield 19, 3) := by decide +kernel
theorem d_D_input_0 : decode b_D_input 0 = .ok (.iconst 0, 1) := by decide +kernel
theorem d_D_input_1 : decode b_D_input 1 = .ok (.ireturn, 1) := by decide +kernel
theorem d_M_operate_58 : decode b_M_operate 58 = .ok (.aload_n 0, 1) := by decide +kernel
theorem d_M_operate_59 : decode b_M_operate 59 = .ok (.iload_n 2, 1) := by decide +kernel
theorem d_M_operate_60 : decode b_M_operate 60 = .ok (.iload_n 3, 1) := by decide +kernel
theorem d_M_operate_61 : decode b_M_operate 61 = .ok (.iload 4, 2) := by decide +kernel
theorem d_M_operateNothing_0 : decode b_M_operateNothing 0 = .ok (.iload_n 2, 1) := by decide +kernel
theorem d_M_operateNothing_1 : decode b_M_operateNothing 1 = .ok (.bipush 7, 2) := by decide +kernel
theorem d_M_operateNothing_3 : decode b_M_operateNothing 3 = .ok (.if_icmp .ne 19, 3) := by decide +kernel
theorem d_M_operateNothing_22 : decode b_M_operateNothing 22 = .ok (.iload_n 2, 1) := by decide +kernel
theorem d_M_operateNothing_23 : decode b_M_operateNothing 23 = .ok (.iconst 1, 1) := by decide +kernel
theorem d_M_operateNothing_24 : decode b_M_operateNothing 24 = .ok (.iand, 1) := by decide +kernel
theorem d_M_operateNothing_25 : decode b_M_operateNothing 25 = .ok (.iconst 1, 1) := by decide +kernel
theorem d_M_operateNothing_26 : decode b_M_operateNothing 26 = .ok (.if_icmp .ne 10, 3) := by decide +kernel
theorem d_M_operateNothing_36 : decode b_M_operateNothing 36 = .ok (.iconst 0, 1) := by decide +kernel
theorem d_M_operateNothing_37 : decode b_M_operateNothing 37 = .ok (.ireturn, 1) := by decide +kernel
theorem d_M_operateNothing_29 : decode b_M_operateNothing 29 = .ok (.aload_n 0, 1) := by decide +kernel
theorem d_M_operateNothing_30 : decode b_M_operateNothing 30 = .ok (.getfield 16, 3) := by decide +kernel
theorem d_M_operateNothing_33 : decode b_M_operateNothing 33 = .ok (.iload_n 1, 1) := by decide +kernel
theorem d_M_operateNothing_34 : decode b_M_operateNothing 34 = .ok (.iconst 0, 1) := by decide +kernel
theorem d_M_operateNothing_35 : decode b_M_operateNothing 35 = .ok (.iastore, 1) := by decide +kernel
theorem d_M_operateNothing_6 : decode b_M_operateNothing 6 = .ok (.iload_n 3, 1) := by decide +kernel
theorem d_M_operateNothing_7 : decode b_M_operateNothing 7 = .ok (.iconst 1, 1) := by decide +kernel
theorem d_M_operateNothing_8 : decode b_M_operateNothing 8 = .ok (.if_icmp .eq 8, 3) := by decide +kernel
theorem d_M_operateNothing_16 : decode b_M_operateNothing 16 = .ok (.iconst 1, 1) := by decide +kernel
theorem d_M_operateNothing_17 : decode b_M_operateNothing 17 = .ok (.goto 4, 3) := by decide +kernel
theorem d_M_operateNothing_21 : decode b_M_operateNothing 21 = .ok (.ireturn, 1) := by decide +kernel
theorem d_M_operateNothing_11 : decode b_M_operateNothing 11 = .ok (.iload_n 3, 1) := by decide +kernel
theorem d_M_operateNothing_12 : decode b_M_operateNothing 12 = .ok (.iconst 3, 1) := by decide +kernel
theorem d_M_operateNothing_13 : decode b_M_operateNothing 13 = .ok (.if_icmp .ne 7, 3) := by decide +kernel
theorem d_M_operateNothing_20 : decode b_M_operateNothing 20 = .ok (.iconst 0, 1) := by decide +kernel
theorem d_M_operate_63 : decode b_M_operate 63 = .ok (.invokevirtual 169, 3) := by decide +kernel
theorem d_M_operate_66 : decode b_M_operate 66 = .ok (.ireturn, 1) := by decide +kernel
theorem d_M_operate_36 : decode b_M_operate 36 = .ok (.aload_n 0, 1) := by decide +kernel
theorem d_M_operate_37 : decode b_M_operate 37 = .ok (.iload_n 2, 1) := by decide +kernel
theorem d_M_operate_38 : decode b_M_operate 38 = .ok (.iload_n 3, 1) := by decide +kernel
theorem d_M_operate_39 : decode b_M_operate 39 = .ok (.iload 4, 2) := by decide +kernel
theorem d_M_operateMachine_107 : decode b_M_operateMachine 107 = .ok (.iload_n 3, 1) := by decide +kernel
theorem d_M_operateMachine_108 : decode b_M_operateMachine 108 = .ok (.iconst 1, 1) := by decide +kernel
theorem d_M_operateMachine_109 : decode b_M_operateMachine 109 = .ok (.if_icmp .ne 11, 3) := by decide +kernel
theorem d_M_operateMachine_120 : decode b_M_operateMachine 120 = .ok (.iload_n 3, 1) := by decide +kernel
theorem d_M_operateMachine_121 : decode b_M_operateMachine 121 = .ok (.iconst 2, 1) := by decide +kernel
theorem d_M_operateMachine_122 : decode b_M_operateMachine 122 = .ok (.if_icmp .ne 8, 3) := by decide +kernel
theorem d_M_operateMachine_130 : decode b_M_operateMachine 130 = .ok (.iconst 0, 1) := by decide +kernel
theorem d_M_operateMachine_131 : decode b_M_operateMachine 131 = .ok (.ireturn, 1) := by decide +kernel
theorem d_M_operateMachine_125 : decode b_M_operateMachine 125 = .ok (.aload_n 0, 1) := by decide +kernel
theorem d_M_operateMachine_126 : decode b_M_operateMachine 126 = .ok (.iconst 0, 1) := by decide +kernel
theorem d_M_operateMachine_127 : decode b_M_operateMachine 127 = .ok (.putfield 52, 3) := by decide +kernel
theorem d_M_operateMachine_112 : decode b_M_operateMachine 112 = .ok (.aload_n 0, 1) := by decide +kernel
theorem d_M_operateMachine_113 : decode b_M_operateMachine 113 = .ok (.iconst 1, 1) := by decide +kernel
theorem d_M_operateMachine_114 : decode b_M_operateMachine 114 = .ok (.putfield 52, 3) := by decide +kernel
theorem d_M_operateMachine_117 : decode b_M_operateMachine 117 = .ok (.goto 13, 3) := by decide +kernel
theorem d_M_operateMachine_0 : decode b_M_operateMachine 0 = .ok (.iload_n 2, 1) := by decide +kernel
theorem d_M_operateMachine_1 : decode b_M_operateMachine 1 = .ok (.tableswitch 106 1 7 #[43, 106, 56, 69, 85, 92, 100], 43) := by decide +kernel
theorem d_M_operateMachine_44 : decode b_M_operateMachine 44 = .ok (.aload_n 0, 1) := by decide +kernel
theorem d_M_operateMachine_45 : decode b_M_operateMachine 45 = .ok (.getfield 16, 3) := by decide +kernel
theorem d_M_operateMachine_48 : decode b_M_operateMachine 48 = .ok (.iload_n 1, 1) := by decide +kernel
theorem d_M_operateMachine_49 : decode b_M_operateMachine 49 = .ok (.aload_n 0, 1) := by decide +kernel
theorem d_M_operateMachine_50 : decode b_M_operateMachine 50 = .ok (.getfield 49, 3) := by decide +kernel
theorem d_M_operateMachine_53 : decode b_M_operateMachine 53 = .ok (.iastore, 1) := by decide +kernel
theorem d_M_operateMachine_54 : decode b_M_operateMachine 54 = .ok (.goto 53, 3) := by decide +kernel
theorem d_M_operateMachine_57 : decode b_M_operateMachine 57 = .ok (.aload_n 0, 1) := by decide +kernel
theorem d_M_operateMachine_58 : decode b_M_operateMachine 58 = .ok (.getfield 16, 3) := by decide +kernel
theorem d_M_operateMachine_61 : decode b_M_operateMachine 61 = .ok (.iload_n 1, 1) := by decide +kernel
theorem d_M_operateMachine_62 : decode b_M_operateMachine 62 = .ok (.aload_n 0, 1) := by decide +kernel
theorem d_M_askingDevice_2 : decode b_M_askingDevice 2 = .ok (.iload_n 1, 1) := by decide +kernel
theorem d_M_askingDevice_3 : decode b_M_askingDevice 3 = .ok (.aload_n 0, 1) := by decide +kernel
theorem d_M_askingDevice_4 : decode b_M_askingDevice 4 = .ok (.getfield 38, 3) := by decide +kernel
theorem d_M_askingDevice_7 : decode b_M_askingDevice 7 = .ok (.arraylength, 1) := by decide +kernel
theorem d_M_askingDevice_8 : decode b_M_askingDevice 8 = .ok (.if_icmp .ge 30, 3) := by decide +kernel
theorem d_M_askingDevice_38 : decode b_M_askingDevice 38 = .ok (.iconst 0, 1) := by decide +kernel
theorem d_M_askingDevice_39 : decode b_M_askingDevice 39 = .ok (.ireturn, 1) := by decide +kernel
theorem d_M_askingDevice_11 : decode b_M_askingDevice 11 = .ok (.aload_n 0, 1) := by decide +kernel
theorem d_M_askingDevice_12 : decode b_M_askingDevice 12 = .ok (.getfield 38, 3) := by decide +kernel
theorem d_M_askingDevice_15 : decode b_M_askingDevice 15 = .ok (.iload_n 1, 1) := by decide +kernel
theorem d_M_askingDevice_16 : decode b_M_askingDevice 16 = .ok (.aaload, 1) := by decide +kernel
theorem d_M_askingDevice_17 : decode b_M_askingDevice 17 = .ok (.aload_n 0, 1) := by decide +kernel
theorem d_M_askingDevice_18 : decode b_M_askingDevice 18 = .ok (.getfield 56, 3) := by decide +kernel
theorem d_D_asks_0 : decode b_D_asks 0 = .ok (.aload_n 0, 1) := by decide +kernel
theorem d_D_asks_1 : decode b_D_asks 1 = .ok (.getfield 20, 3) := by decide +kernel
theorem d_D_asks_4 : decode b_D_asks 4 = .ok (.ifCond .eq 16, 3) := by decide +kernel
theorem d_D_asks_20 : decode b_D_asks 20 = .ok (.iconst 0, 1) := by decide +kernel
theorem d_D_asks_21 : decode b_D_asks 21 = .ok (.ireturn, 1) := by decide +kernel
theorem d_D_asks_7 : decode b_D_asks 7 = .ok (.iload_n 1, 1) := by decide +kernel
theorem d_D_asks_8 : decode b_D_asks 8 = .ok (.aload_n 0, 1) := by decide +kernel
theorem d_D_asks_9 : decode b_D_asks 9 = .ok (.getfield 7, 3) := by decide +kernel
theorem d_D_asks_12 : decode b_D_asks 12 = .ok (.iand, 1) := by decide +kernel
theorem d_D_asks_13 : decode b_D_asks 13 = .ok (.ifCond .ne 7, 3) := by decide +kernel
theorem d_D_asks_16 : decode b_D_asks 16 = .ok (.iconst 1, 1) := by decide +kernel
theorem d_D_asks_17 : decode b_D_asks 17 = .ok (.goto 4, 3) := by decide +kernel
theorem d_M_askingDevice_21 : decode b_M_askingDevice 21 = .ok (.invokevirtual 113, 3) := by decide +kernel
theorem d_M_askingDevice_24 : decode b_M_askingDevice 24 = .ok (.ifCond .eq 8, 3) := by decide +kernel
theorem d_M_askingDevice_32 : decode b_M_askingDevice 32 = .ok (.iinc 1 1, 3) := by decide +kernel
theorem d_M_askingDevice_35 : decode b_M_askingDevice 35 = .ok (.goto (-33), 3) := by decide +kernel
theorem d_M_askingDevice_27 : decode b_M_askingDevice 27 = .ok (.bipush 8, 2) := by decide +kernel
theorem d_M_askingDevice_29 : decode b_M_askingDevice 29 = .ok (.iload_n 1, 1) := by decide +kernel
theorem d_M_askingDevice_30 : decode b_M_askingDevice 30 = .ok (.iadd, 1) := by decide +kernel
theorem d_M_askingDevice_31 : decode b_M_askingDevice 31 = .ok (.ireturn, 1) := by decide +kernel
theorem d_M_askingDevice_0 : decode b_M_askingDevice 0 = .ok (.iconst 0, 1) := by decide +kernel
theorem d_M_askingDevice_1 : decode b_M_askingDevice 1 = .ok (.istore_n 1, 1) := by decide +kernel
theorem d_M_operateMachine_63 : decode b_M_operateMachine 63 = .ok (.invokevirtual 90, 3) := by decide +kernel
theorem d_M_operateMachine_66 : decode b_M_operateMachine 66 = .ok (.iastore, 1) := by decide +kernel
theorem d_M_operateMachine_67 : decode b_M_operateMachine 67 = .ok (.goto 40, 3) := by decide +kernel
theorem d_M_operateMachine_70 : decode b_M_operateMachine 70 = .ok (.aload_n 0, 1) := by decide +kernel
theorem d_M_operateMachine_71 : decode b_M_operateMachine 71 = .ok (.aload_n 0, 1) := by decide +kernel
theorem d_M_operateMachine_72 : decode b_M_operateMachine 72 = .ok (.getfield 16, 3) := by decide +kernel
theorem d_M_operateMachine_75 : decode b_M_operateMachine 75 = .ok (.iload_n 1, 1) := by decide +kernel
theorem d_M_operateMachine_76 : decode b_M_operateMachine 76 = .ok (.iaload, 1) := by decide +kernel
theorem d_M_operateMachine_77 : decode b_M_operateMachine 77 = .ok (.bipush 7, 2) := by decide +kernel
theorem d_M_operateMachine_79 : decode b_M_operateMachine 79 = .ok (.iand, 1) := by decide +kernel
theorem d_M_operateMachine_80 : decode b_M_operateMachine 80 = .ok (.putfield 56, 3) := by decide +kernel
theorem d_M_operateMachine_83 : decode b_M_operateMachine 83 = .ok (.goto 24, 3) := by decide +kernel
theorem d_M_operateMachine_86 : decode b_M_operateMachine 86 = .ok (.aload_n 0, 1) := by decide +kernel
theorem d_M_stopDevices_2 : decode b_M_stopDevices 2 = .ok (.iload_n 1, 1) := by decide +kernel
theorem d_M_stopDevices_3 : decode b_M_stopDevices 3 = .ok (.aload_n 0, 1) := by decide +kernel
theorem d_M_stopDevices_4 : decode b_M_stopDevices 4 = .ok (.getfield 38, 3) := by decide +kernel
theorem d_M_stopDevices_7 : decode b_M_stopDevices 7 = .ok (.arraylength, 1) := by decide +kernel
theorem d_M_stopDevices_8 : decode b_M_stopDevices 8 = .ok (.if_icmp .ge 18, 3) := by decide +kernel
theorem d_M_stopDevices_26 : decode b_M_stopDevices 26 = .ok (.aload_n 0, 1) := by decide +kernel
theorem d_M_stopDevices_27 : decode b_M_stopDevices 27 = .ok (.iconst 0, 1) := by decide +kernel
theorem d_M_stopDevices_28 : decode b_M_stopDevices 28 = .ok (.putfield 56, 3) := by decide +kernel
theorem d_M_stopDevices_31 : decode b_M_stopDevices 31 = .ok (.return_, 1) := by decide +kernel
theorem d_M_stopDevices_11 : decode b_M_stopDevices 11 = .ok (.aload_n 0, 1) := by decide +kernel
theorem d_M_stopDevices_12 : decode b_M_stopDevices 12 = .ok (.getfield 38, 3) := by decide +kernel
theorem d_M_stopDevices_15 : decode b_M_stopDevices 15 = .ok (.iload_n 1, 1) := by decide +kernel
theorem d_M_stopDevices_16 : decode b_M_stopDevices 16 = .ok (.aaload, 1) := by decide +kernel
theorem d_M_stopDevices_17 : decode b_M_stopDevices 17 = .ok (.invokevirtual 184, 3) := by decide +kernel
theorem d_M_stopDevices_20 : decode b_M_stopDevices 20 = .ok (.iinc 1 1, 3) := by decide +kernel
theorem d_M_stopDevices_23 : decode b_M_stopDevices 23 = .ok (.goto (-21), 3) := by decide +kernel
theorem d_M_stopDevices_0 : decode b_M_stopDevices 0 = .ok (.iconst 0, 1) := by decide +kernel
theorem d_M_stopDevices_1 : decode b_M_stopDevices 1 = .ok (.istore_n 1, 1) := by decide +kernel
theorem d_M_operateMachine_87 : decode b_M_operateMachine 87 = .ok (.invokevirtual 187, 3) := by decide +kernel
theorem d_M_operateMachine_90 : decode b_M_operateMachine 90 = .ok (.goto 17, 3) := by decide +kernel
theorem d_M_operateMachine_93 : decode b_M_operateMachine 93 = .ok (.aload_n 0, 1) := by decide +kernel
theorem d_M_operateMachine_94 : decode b_M_operateMachine 94 = .ok (.iconst 1, 1) := by decide +kernel
theorem d_M_operateMachine_95 : decode b_M_operateMachine 95 = .ok (.putfield 84, 3) := by decide +kernel
theorem d_M_operateMachine_98 : decode b_M_operateMachine 98 = .ok (.goto 9, 3) := by decide +kernel
theorem d_M_operateMachine_101 : decode b_M_operateMachine 101 = .ok (.aload_n 0, 1) := by decide +kernel
theorem d_M_operateMachine_102 : decode b_M_operateMachine 102 = .ok (.iload_n 3, 1) := by decide +kernel
theorem d_M_machinePasses_0 : decode b_M_machinePasses 0 = .ok (.iload_n 1, 1) := by decide +kernel
theorem d_M_machinePasses_1 : decode b_M_machinePasses 1 = .ok (.tableswitch 47 0 2 #[27, 32, 45], 27) := by decide +kernel
theorem d_M_machinePasses_28 : decode b_M_machinePasses 28 = .ok (.aload_n 0, 1) := by decide +kernel
theorem d_M_machinePasses_29 : decode b_M_machinePasses 29 = .ok (.getfield 52, 3) := by decide +kernel
theorem d_M_machinePasses_32 : decode b_M_machinePasses 32 = .ok (.ireturn, 1) := by decide +kernel
theorem d_M_machinePasses_33 : decode b_M_machinePasses 33 = .ok (.aload_n 0, 1) := by decide +kernel
theorem d_M_machinePasses_34 : decode b_M_machinePasses 34 = .ok (.getfield 52, 3) := by decide +kernel
theorem d_M_machinePasses_37 : decode b_M_machinePasses 37 = .ok (.ifCond .ne 7, 3) := by decide +kernel
theorem d_M_machinePasses_44 : decode b_M_machinePasses 44 = .ok (.iconst 0, 1) := by decide +kernel
theorem d_M_machinePasses_45 : decode b_M_machinePasses 45 = .ok (.ireturn, 1) := by decide +kernel
theorem d_M_machinePasses_40 : decode b_M_machinePasses 40 = .ok (.iconst 1, 1) := by decide +kernel
theorem d_M_machinePasses_41 : decode b_M_machinePasses 41 = .ok (.goto 4, 3) := by decide +kernel
theorem d_M_machinePasses_46 : decode b_M_machinePasses 46 = .ok (.iconst 0, 1) := by decide +kernel
theorem d_M_machinePasses_47 : decode b_M_machinePasses 47 = .ok (.ireturn, 1) := by decide +kernel
theorem d_M_machinePasses_48 : decode b_M_machinePasses 48 = .ok (.iconst 1, 1) := by decide +kernel
theorem d_M_machinePasses_49 : decode b_M_machinePasses 49 = .ok (.ireturn, 1) := by decide +kernel
theorem d_M_operateMachine_103 : decode b_M_operateMachine 103 = .ok (.invokevirtual 190, 3) := by decide +kernel
theorem d_M_operateMachine_106 : decode b_M_operateMachine 106 = .ok (.ireturn, 1) := by decide +kernel
theorem d_M_operate_41 : decode b_M_operate 41 = .ok (.invokevirtual 166, 3) := by decide +kernel
theorem d_M_operate_44 : decode b_M_operate 44 = .ok (.ireturn, 1) := by decide +kernel
theorem d_M_perform_27 : decode b_M_perform 27 = .ok (.invokevirtual 130, 3) := by decide +kernel
theorem d_M_perform_30 : decode b_M_perform 30 = .ok (.invokevirtual 126, 3) := by decide +kernel
theorem d_M_perform_33 : decode b_M_perform 33 = .ok (.iconst 1, 1) := by decide +kernel
theorem d_M_perform_34 : decode b_M_perform 34 = .ok (.ireturn, 1) := by decide +kernel
theorem d_M_perform_6 : decode b_M_perform 6 = .ok (.aload_n 0, 1) := by decide +kernel
theorem d_M_perform_7 : decode b_M_perform 7 = .ok (.aload_n 0, 1) := by decide +kernel
theorem d_M_perform_8 : decode b_M_perform 8 = .ok (.iload_n 1, 1) := by decide +kernel
theorem d_M_calculate_112 : decode b_M_calculate 112 = .ok (.iload_n 1, 1) := by decide +kernel
theorem d_M_calculate_113 : decode b_M_calculate 113 = .ok (.bipush 7, 2) := by decide +kernel
theorem d_M_calculate_115 : decode b_M_calculate 115 = .ok (.iand, 1) := by decide +kernel
theorem d_M_calculate_116 : decode b_M_calculate 116 = .ok (.iload 7, 2) := by decide +kernel
theorem d_M_calculate_118 : decode b_M_calculate 118 = .ok (.iload 8, 2) := by decide +kernel
theorem d_M_skips_0 : decode b_M_skips 0 = .ok (.iload_n 0, 1) := by decide +kernel
theorem d_M_skips_1 : decode b_M_skips 1 = .ok (.tableswitch 101 0 6 #[43, 45, 47, 57, 67, 77, 87], 43) := by decide +kernel
theorem d_M_skips_44 : decode b_M_skips 44 = .ok (.iconst 0, 1) := by decide +kernel
theorem d_M_skips_45 : decode b_M_skips 45 = .ok (.ireturn, 1) := by decide +kernel
theorem d_M_skips_46 : decode b_M_skips 46 = .ok (.iconst 1, 1) := by decide +kernel
theorem d_M_skips_47 : decode b_M_skips 47 = .ok (.ireturn, 1) := by decide +kernel
theorem d_M_skips_48 : decode b_M_skips 48 = .ok (.iload_n 1, 1) := by decide +kernel
theorem d_M_skips_49 : decode b_M_skips 49 = .ok (.ifCond .ne 7, 3) := by decide +kernel
theorem d_M_skips_56 : decode b_M_skips 56 = .ok (.iconst 0, 1) := by decide +kernel
theorem d_M_skips_57 : decode b_M_skips 57 = .ok (.ireturn, 1) := by decide +kernel
theorem d_M_skips_52 : decode b_M_skips 52 = .ok (.iconst 1, 1) := by decide +kernel
theorem d_M_skips_53 : decode b_M_skips 53 = .ok (.goto 4, 3) := by decide +kernel
theorem d_M_skips_58 : decode b_M_skips 58 = .ok (.iload_n 1, 1) := by decide +kernel
theorem d_M_skips_59 : decode b_M_skips 59 = .ok (.ifCond .eq 7, 3) := by decide +kernel
theorem d_M_skips_66 : decode b_M_skips 66 = .ok (.iconst 0, 1) := by decide +kernel
theorem d_M_skips_67 : decode b_M_skips 67 = .ok (.ireturn, 1) := by decide +kernel
theorem d_M_skips_62 : decode b_M_skips 62 = .ok (.iconst 1, 1) := by decide +kernel
theorem d_M_skips_63 : decode b_M_skips 63 = .ok (.goto 4, 3) := by decide +kernel
theorem d_M_skips_68 : decode b_M_skips 68 = .ok (.iload_n 2, 1) := by decide +kernel
theorem d_M_skips_69 : decode b_M_skips 69 = .ok (.ifCond .ne 7, 3) := by decide +kernel
theorem d_M_skips_76 : decode b_M_skips 76 = .ok (.iconst 0, 1) := by decide +kernel
theorem d_M_skips_77 : decode b_M_skips 77 = .ok (.ireturn, 1) := by decide +kernel
theorem d_M_skips_72 : decode b_M_skips 72 = .ok (.iconst 1, 1) := by decide +kernel
theorem d_M_skips_73 : decode b_M_skips 73 = .ok (.goto 4, 3) := by decide +kernel
theorem d_M_skips_78 : decode b_M_skips 78 = .ok (.iload_n 2, 1) := by decide +kernel
theorem d_M_skips_79 : decode b_M_skips 79 = .ok (.ifCond .eq 7, 3) := by decide +kernel
theorem d_M_skips_86 : decode b_M_skips 86 = .ok (.iconst 0, 1) := by decide +kernel
theorem d_M_skips_87 : decode b_M_skips 87 = .ok (.ireturn, 1) := by decide +kernel
theorem d_M_skips_82 : decode b_M_skips 82 = .ok (.iconst 1, 1) := by decide +kernel
theorem d_M_skips_83 : decode b_M_skips 83 = .ok (.goto 4, 3) := by decide +kernel
theorem d_M_skips_88 : decode b_M_skips 88 = .ok (.iload_n 1, 1) := by decide +kernel
theorem d_M_skips_89 : decode b_M_skips 89 = .ok (.ifCond .eq 7, 3) := by decide +kernel
theorem d_M_skips_96 : decode b_M_skips 96 = .ok (.iconst 1, 1) := by decide +kernel
theorem d_M_skips_97 : decode b_M_skips 97 = .ok (.goto 4, 3) := by decide +kernel
theorem d_M_skips_101 : decode b_M_skips 101 = .ok (.ireturn, 1) := by decide +kernel
theorem d_M_skips_92 : decode b_M_skips 92 = .ok (.iload_n 2, 1) := by decide +kernel
theorem d_M_skips_93 : decode b_M_skips 93 = .ok (.ifCond .ne 7, 3) := by decide +kernel
theorem d_M_skips_100 : decode b_M_skips 100 = .ok (.iconst 0, 1) := by decide +kernel
theorem d_M_skips_102 : decode b_M_skips 102 = .ok (.iload_n 1, 1) := by decide +kernel
theorem d_M_skips_103 : decode b_M_skips 103 = .ok (.ifCond .eq 11, 3) := by decide +kernel
theorem d_M_skips_114 : decode b_M_skips 114 = .ok (.iconst 0, 1) := by decide +kernel
theorem d_M_skips_115 : decode b_M_skips 115 = .ok (.ireturn, 1) := by decide +kernel
theorem d_M_skips_106 : decode b_M_skips 106 = .ok (.iload_n 2, 1) := by decide +kernel
theorem d_M_skips_107 : decode b_M_skips 107 = .ok (.ifCond .eq 7, 3) := by decide +kernel
theorem d_M_skips_110 : decode b_M_skips 110 = .ok (.iconst 1, 1) := by decide +kernel
theorem d_M_skips_111 : decode b_M_skips 111 = .ok (.goto 4, 3) := by decide +kernel
theorem d_M_calculate_120 : decode b_M_calculate 120 = .ok (.invokestatic 160, 3) := by decide +kernel
theorem d_M_calculate_123 : decode b_M_calculate 123 = .ok (.ireturn, 1) := by decide +kernel
theorem d_M_calculate_0 : decode b_M_calculate 0 = .ok (.iload_n 1, 1) := by decide +kernel
theorem d_M_calculate_1 : decode b_M_calculate 1 = .ok (.bipush 11, 2) := by decide +kernel
theorem d_M_calculate_3 : decode b_M_calculate 3 = .ok (.ishr, 1) := by decide +kernel
theorem d_M_calculate_4 : decode b_M_calculate 4 = .ok (.iconst 3, 1) := by decide +kernel
theorem d_M_calculate_5 : decode b_M_calculate 5 = .ok (.iand, 1) := by decide +kernel
theorem d_M_calculate_6 : decode b_M_calculate 6 = .ok (.istore_n 2, 1) := by decide +kernel
theorem d_M_calculate_7 : decode b_M_calculate 7 = .ok (.aload_n 0, 1) := by decide +kernel
theorem d_M_calculate_8 : decode b_M_calculate 8 = .ok (.getfield 16, 3) := by decide +kernel
theorem d_M_calculate_11 : decode b_M_calculate 11 = .ok (.iload_n 1, 1) := by decide +kernel
theorem d_M_calculate_12 : decode b_M_calculate 12 = .ok (.bipush 13, 2) := by decide +kernel
theorem d_M_calculate_14 : decode b_M_calculate 14 = .ok (.ishr, 1) := by decide +kernel
theorem d_M_calculate_15 : decode b_M_calculate 15 = .ok (.iconst 3, 1) := by decide +kernel
theorem d_M_calculate_16 : decode b_M_calculate 16 = .ok (.iand, 1) := by decide +kernel
theorem d_M_calculate_17 : decode b_M_calculate 17 = .ok (.iaload, 1) := by decide +kernel
theorem d_M_calculate_18 : decode b_M_calculate 18 = .ok (.istore_n 3, 1) := by decide +kernel
theorem d_M_calculate_19 : decode b_M_calculate 19 = .ok (.iload_n 1, 1) := by decide +kernel
theorem d_M_calculate_20 : decode b_M_calculate 20 = .ok (.bipush 8, 2) := by decide +kernel
theorem d_M_calculate_22 : decode b_M_calculate 22 = .ok (.ishr, 1) := by decide +kernel
theorem d_M_calculate_23 : decode b_M_calculate 23 = .ok (.bipush 7, 2) := by decide +kernel
theorem d_M_calculate_25 : decode b_M_calculate 25 = .ok (.iand, 1) := by decide +kernel
theorem d_M_calculate_26 : decode b_M_calculate 26 = .ok (.iload_n 3, 1) := by decide +kernel
theorem d_M_calculate_27 : decode b_M_calculate 27 = .ok (.aload_n 0, 1) := by decide +kernel
theorem d_M_calculate_28 : decode b_M_calculate 28 = .ok (.getfield 16, 3) := by decide +kernel
theorem d_M_calculate_31 : decode b_M_calculate 31 = .ok (.iload_n 2, 1) := by decide +kernel
theorem d_M_calculate_32 : decode b_M_calculate 32 = .ok (.iaload, 1) := by decide +kernel
theorem d_M_sumOf_0 : decode b_M_sumOf 0 = .ok (.iload_n 1, 1) := by decide +kernel
theorem d_M_sumOf_1 : decode b_M_sumOf 1 = .ok (.ldc 146, 2) := by decide +kernel
theorem d_M_sumOf_3 : decode b_M_sumOf 3 = .ok (.ixor, 1) := by decide +kernel
theorem d_M_sumOf_4 : decode b_M_sumOf 4 = .ok (.istore_n 3, 1) := by decide +kernel
theorem d_M_sumOf_5 : decode b_M_sumOf 5 = .ok (.iload_n 0, 1) := by decide +kernel
theorem d_M_sumOf_6 : decode b_M_sumOf 6 = .ok (.tableswitch 68 0 6 #[42, 44, 48, 50, 54, 58, 64], 42) := by decide +kernel
theorem d_M_sumOf_48 : decode b_M_sumOf 48 = .ok (.iload_n 3, 1) := by decide +kernel
theorem d_M_sumOf_49 : decode b_M_sumOf 49 = .ok (.ireturn, 1) := by decide +kernel
theorem d_M_sumOf_50 : decode b_M_sumOf 50 = .ok (.iload_n 3, 1) := by decide +kernel
theorem d_M_sumOf_51 : decode b_M_sumOf 51 = .ok (.iconst 1, 1) := by decide +kernel
theorem d_M_sumOf_52 : decode b_M_sumOf 52 = .ok (.iadd, 1) := by decide +kernel
theorem d_M_sumOf_53 : decode b_M_sumOf 53 = .ok (.ireturn, 1) := by decide +kernel
theorem d_M_sumOf_54 : decode b_M_sumOf 54 = .ok (.iload_n 1, 1) := by decide +kernel
theorem d_M_sumOf_55 : decode b_M_sumOf 55 = .ok (.ireturn, 1) := by decide +kernel
theorem d_M_sumOf_56 : decode b_M_sumOf 56 = .ok (.iload_n 1, 1) := by decide +kernel
theorem d_M_sumOf_57 : decode b_M_sumOf 57 = .ok (.iconst 1, 1) := by decide +kernel
theorem d_M_sumOf_58 : decode b_M_sumOf 58 = .ok (.iadd, 1) := by decide +kernel
theorem d_M_sumOf_59 : decode b_M_sumOf 59 = .ok (.ireturn, 1) := by decide +kernel
theorem d_M_sumOf_60 : decode b_M_sumOf 60 = .ok (.iload_n 2, 1) := by decide +kernel
theorem d_M_sumOf_61 : decode b_M_sumOf 61 = .ok (.iload_n 3, 1) := by decide +kernel
theorem d_M_sumOf_62 : decode b_M_sumOf 62 = .ok (.iadd, 1) := by decide +kernel
theorem d_M_sumOf_63 : decode b_M_sumOf 63 = .ok (.ireturn, 1) := by decide +kernel
theorem d_M_sumOf_64 : decode b_M_sumOf 64 = .ok (.iload_n 2, 1) := by decide +kernel
theorem d_M_sumOf_65 : decode b_M_sumOf 65 = .ok (.iload_n 3, 1) := by decide +kernel
theorem d_M_sumOf_66 : decode b_M_sumOf 66 = .ok (.iadd, 1) := by decide +kernel
theorem d_M_sumOf_67 : decode b_M_sumOf 67 = .ok (.iconst 1, 1) := by decide +kernel
theorem d_M_sumOf_68 : decode b_M_sumOf 68 = .ok (.iadd, 1) := by decide +kernel
theorem d_M_sumOf_69 : decode b_M_sumOf 69 = .ok (.ireturn, 1) := by decide +kernel
theorem d_M_sumOf_70 : decode b_M_sumOf 70 = .ok (.iload_n 2, 1) := by decide +kernel
theorem d_M_sumOf_71 : decode b_M_sumOf 71 = .ok (.iload_n 1, 1) := by decide +kernel
theorem d_M_sumOf_72 : decode b_M_sumOf 72 = .ok (.iadd, 1) := by decide +kernel
theorem d_M_sumOf_73 : decode b_M_sumOf 73 = .ok (.ireturn, 1) := by decide +kernel
theorem d_M_sumOf_74 : decode b_M_sumOf 74 = .ok (.iload_n 2, 1) := by decide +kernel
theorem d_M_sumOf_75 : decode b_M_sumOf 75 = .ok (.iload_n 1, 1) := by decide +kernel
theorem d_M_sumOf_76 : decode b_M_sumOf 76 = .ok (.iand, 1) := by decide +kernel
theorem d_M_sumOf_77 : decode b_M_sumOf 77 = .ok (.ireturn, 1) := by decide +kernel
theorem d_M_calculate_33 : decode b_M_calculate 33 = .ok (.invokestatic 150, 3) := by decide +kernel
theorem d_M_calculate_36 : decode b_M_calculate 36 = .ok (.istore 4, 2) := by decide +kernel
theorem d_M_calculate_38 : decode b_M_calculate 38 = .ok (.aload_n 0, 1) := by decide +kernel
theorem d_M_calculate_39 : decode b_M_calculate 39 = .ok (.iload_n 1, 1) := by decide +kernel
theorem d_M_calculate_40 : decode b_M_calculate 40 = .ok (.iconst 4, 1) := by decide +kernel
theorem d_M_calculate_41 : decode b_M_calculate 41 = .ok (.ishr, 1) := by decide +kernel
theorem d_M_calculate_42 : decode b_M_calculate 42 = .ok (.iconst 3, 1) := by decide +kernel
theorem d_M_calculate_43 : decode b_M_calculate 43 = .ok (.iand, 1) := by decide +kernel
theorem d_M_baseOf_0 : decode b_M_baseOf 0 = .ok (.iload_n 1, 1) := by decide +kernel
theorem d_M_baseOf_1 : decode b_M_baseOf 1 = .ok (.tableswitch 36 0 2 #[27, 32, 34], 27) := by decide +kernel
theorem d_M_baseOf_28 : decode b_M_baseOf 28 = .ok (.aload_n 0, 1) := by decide +kernel
theorem d_M_baseOf_29 : decode b_M_baseOf 29 = .ok (.getfield 42, 3) := by decide +kernel
theorem d_M_baseOf_32 : decode b_M_baseOf 32 = .ok (.ireturn, 1) := by decide +kernel
theorem d_M_baseOf_33 : decode b_M_baseOf 33 = .ok (.iconst 0, 1) := by decide +kernel
theorem d_M_baseOf_34 : decode b_M_baseOf 34 = .ok (.ireturn, 1) := by decide +kernel
theorem d_M_baseOf_35 : decode b_M_baseOf 35 = .ok (.iconst 1, 1) := by decide +kernel
theorem d_M_baseOf_36 : decode b_M_baseOf 36 = .ok (.ireturn, 1) := by decide +kernel
theorem d_M_baseOf_37 : decode b_M_baseOf 37 = .ok (.iconst 1, 1) := by decide +kernel
theorem d_M_baseOf_38 : decode b_M_baseOf 38 = .ok (.aload_n 0, 1) := by decide +kernel
theorem d_M_baseOf_39 : decode b_M_baseOf 39 = .ok (.getfield 42, 3) := by decide +kernel
theorem d_M_baseOf_42 : decode b_M_baseOf 42 = .ok (.isub, 1) := by decide +kernel
theorem d_M_baseOf_43 : decode b_M_baseOf 43 = .ok (.ireturn, 1) := by decide +kernel
theorem d_M_calculate_44 : decode b_M_calculate 44 = .ok (.invokevirtual 154, 3) := by decide +kernel
theorem d_M_calculate_47 : decode b_M_calculate 47 = .ok (.iload 4, 2) := by decide +kernel
theorem d_M_calculate_49 : decode b_M_calculate 49 = .ok (.bipush 16, 2) := by decide +kernel
theorem d_M_calculate_51 : decode b_M_calculate 51 = .ok (.ishr, 1) := by decide +kernel
theorem d_M_calculate_52 : decode b_M_calculate 52 = .ok (.ixor, 1) := by decide +kernel
theorem d_M_calculate_53 : decode b_M_calculate 53 = .ok (.istore 5, 2) := by decide +kernel
theorem d_M_calculate_55 : decode b_M_calculate 55 = .ok (.iload_n 1, 1) := by decide +kernel
theorem d_M_calculate_56 : decode b_M_calculate 56 = .ok (.bipush 6, 2) := by decide +kernel
theorem d_M_calculate_58 : decode b_M_calculate 58 = .ok (.ishr, 1) := by decide +kernel
theorem d_M_calculate_59 : decode b_M_calculate 59 = .ok (.iconst 3, 1) := by decide +kernel
theorem d_M_calculate_60 : decode b_M_calculate 60 = .ok (.iand, 1) := by decide +kernel
theorem d_M_calculate_61 : decode b_M_calculate 61 = .ok (.iload 5, 2) := by decide +kernel
theorem d_M_calculate_63 : decode b_M_calculate 63 = .ok (.bipush 16, 2) := by decide +kernel
theorem d_M_calculate_65 : decode b_M_calculate 65 = .ok (.ishl, 1) := by decide +kernel
theorem d_M_calculate_66 : decode b_M_calculate 66 = .ok (.iload 4, 2) := by decide +kernel
theorem d_M_calculate_68 : decode b_M_calculate 68 = .ok (.ldc 146, 2) := by decide +kernel
theorem d_M_calculate_70 : decode b_M_calculate 70 = .ok (.iand, 1) := by decide +kernel
theorem d_M_calculate_71 : decode b_M_calculate 71 = .ok (.ior, 1) := by decide +kernel
theorem d_M_shift_0 : decode b_M_shift 0 = .ok (.iload_n 0, 1) := by decide +kernel
theorem d_M_shift_1 : decode b_M_shift 1 = .ok (.tableswitch 52 0 2 #[27, 29, 41], 27) := by decide +kernel
theorem d_M_shift_28 : decode b_M_shift 28 = .ok (.iload_n 1, 1) := by decide +kernel
theorem d_M_shift_29 : decode b_M_shift 29 = .ok (.ireturn, 1) := by decide +kernel
theorem d_M_shift_30 : decode b_M_shift 30 = .ok (.iload_n 1, 1) := by decide +kernel
theorem d_M_shift_31 : decode b_M_shift 31 = .ok (.iconst 1, 1) := by decide +kernel
theorem d_M_shift_32 : decode b_M_shift 32 = .ok (.ishl, 1) := by decide +kernel
theorem d_M_shift_33 : decode b_M_shift 33 = .ok (.iload_n 1, 1) := by decide +kernel
theorem d_M_shift_34 : decode b_M_shift 34 = .ok (.bipush 16, 2) := by decide +kernel
theorem d_M_shift_36 : decode b_M_shift 36 = .ok (.ishr, 1) := by decide +kernel
theorem d_M_shift_37 : decode b_M_shift 37 = .ok (.ior, 1) := by decide +kernel
theorem d_M_shift_38 : decode b_M_shift 38 = .ok (.ldc 164, 2) := by decide +kernel
theorem d_M_shift_40 : decode b_M_shift 40 = .ok (.iand, 1) := by decide +kernel
theorem d_M_shift_41 : decode b_M_shift 41 = .ok (.ireturn, 1) := by decide +kernel
theorem d_M_shift_42 : decode b_M_shift 42 = .ok (.iload_n 1, 1) := by decide +kernel
theorem d_M_shift_43 : decode b_M_shift 43 = .ok (.iconst 1, 1) := by decide +kernel
theorem d_M_shift_44 : decode b_M_shift 44 = .ok (.ishr, 1) := by decide +kernel
theorem d_M_shift_45 : decode b_M_shift 45 = .ok (.iload_n 1, 1) := by decide +kernel
theorem d_M_shift_46 : decode b_M_shift 46 = .ok (.iconst 1, 1) := by decide +kernel
theorem d_M_shift_47 : decode b_M_shift 47 = .ok (.iand, 1) := by decide +kernel
theorem d_M_shift_48 : decode b_M_shift 48 = .ok (.bipush 16, 2) := by decide +kernel
theorem d_M_shift_50 : decode b_M_shift 50 = .ok (.ishl, 1) := by decide +kernel
theorem d_M_shift_51 : decode b_M_shift 51 = .ok (.ior, 1) := by decide +kernel
theorem d_M_shift_52 : decode b_M_shift 52 = .ok (.ireturn, 1) := by decide +kernel
theorem d_M_shift_53 : decode b_M_shift 53 = .ok (.iload_n 1, 1) := by decide +kernel
theorem d_M_shift_54 : decode b_M_shift 54 = .ok (.ldc 165, 2) := by decide +kernel
theorem d_M_shift_56 : decode b_M_shift 56 = .ok (.iand, 1) := by decide +kernel
theorem d_M_shift_57 : decode b_M_shift 57 = .ok (.iload_n 1, 1) := by decide +kernel
theorem d_M_shift_58 : decode b_M_shift 58 = .ok (.sipush 255, 3) := by decide +kernel
theorem d_M_shift_61 : decode b_M_shift 61 = .ok (.iand, 1) := by decide +kernel
theorem d_M_shift_62 : decode b_M_shift 62 = .ok (.bipush 8, 2) := by decide +kernel
theorem d_M_shift_64 : decode b_M_shift 64 = .ok (.ishl, 1) := by decide +kernel
theorem d_M_shift_65 : decode b_M_shift 65 = .ok (.ior, 1) := by decide +kernel
theorem d_M_shift_66 : decode b_M_shift 66 = .ok (.iload_n 1, 1) := by decide +kernel
theorem d_M_shift_67 : decode b_M_shift 67 = .ok (.bipush 8, 2) := by decide +kernel
theorem d_M_shift_69 : decode b_M_shift 69 = .ok (.ishr, 1) := by decide +kernel
theorem d_M_shift_70 : decode b_M_shift 70 = .ok (.sipush 255, 3) := by decide +kernel
theorem d_M_shift_73 : decode b_M_shift 73 = .ok (.iand, 1) := by decide +kernel
theorem d_M_shift_74 : decode b_M_shift 74 = .ok (.ior, 1) := by decide +kernel
theorem d_M_shift_75 : decode b_M_shift 75 = .ok (.ireturn, 1) := by decide +kernel
theorem d_M_calculate_72 : decode b_M_calculate 72 = .ok (.invokestatic 157, 3) := by decide +kernel
theorem d_M_calculate_75 : decode b_M_calculate 75 = .ok (.istore 6, 2) := by decide +kernel
theorem d_M_calculate_77 : decode b_M_calculate 77 = .ok (.iload 6, 2) := by decide +kernel
theorem d_M_calculate_79 : decode b_M_calculate 79 = .ok (.bipush 16, 2) := by decide +kernel
theorem d_M_calculate_81 : decode b_M_calculate 81 = .ok (.ishr, 1) := by decide +kernel
theorem d_M_calculate_82 : decode b_M_calculate 82 = .ok (.istore 7, 2) := by decide +kernel
theorem d_M_calculate_84 : decode b_M_calculate 84 = .ok (.iload 6, 2) := by decide +kernel
theorem d_M_calculate_86 : decode b_M_calculate 86 = .ok (.ldc 146, 2) := by decide +kernel
theorem d_M_calculate_88 : decode b_M_calculate 88 = .ok (.iand, 1) := by decide +kernel
theorem d_M_calculate_89 : decode b_M_calculate 89 = .ok (.istore 8, 2) := by decide +kernel
theorem d_M_calculate_91 : decode b_M_calculate 91 = .ok (.iload_n 1, 1) := by decide +kernel
theorem d_M_calculate_92 : decode b_M_calculate 92 = .ok (.bipush 8, 2) := by decide +kernel
theorem d_M_calculate_94 : decode b_M_calculate 94 = .ok (.iand, 1) := by decide +kernel
theorem d_M_calculate_95 : decode b_M_calculate 95 = .ok (.ifCond .ne 17, 3) := by decide +kernel
theorem d_M_calculate_98 : decode b_M_calculate 98 = .ok (.aload_n 0, 1) := by decide +kernel
theorem d_M_calculate_99 : decode b_M_calculate 99 = .ok (.getfield 16, 3) := by decide +kernel
theorem d_M_calculate_102 : decode b_M_calculate 102 = .ok (.iload_n 2, 1) := by decide +kernel
theorem d_M_calculate_103 : decode b_M_calculate 103 = .ok (.iload 8, 2) := by decide +kernel
theorem d_M_calculate_105 : decode b_M_calculate 105 = .ok (.iastore, 1) := by decide +kernel
theorem d_M_calculate_106 : decode b_M_calculate 106 = .ok (.aload_n 0, 1) := by decide +kernel
theorem d_M_calculate_107 : decode b_M_calculate 107 = .ok (.iload 7, 2) := by decide +kernel
theorem d_M_calculate_109 : decode b_M_calculate 109 = .ok (.putfield 42, 3) := by decide +kernel
theorem d_M_perform_9 : decode b_M_perform 9 = .ok (.invokevirtual 123, 3) := by decide +kernel
theorem d_M_perform_12 : decode b_M_perform 12 = .ok (.invokevirtual 126, 3) := by decide +kernel
theorem d_M_perform_15 : decode b_M_perform 15 = .ok (.iconst 1, 1) := by decide +kernel
theorem d_M_perform_16 : decode b_M_perform 16 = .ok (.ireturn, 1) := by decide +kernel
theorem d_M_doNext_45 : decode b_M_doNext 45 = .ok (.invokevirtual 102, 3) := by decide +kernel
theorem d_M_doNext_48 : decode b_M_doNext 48 = .ok (.ifCond .ne 9, 3) := by decide +kernel
theorem d_M_doNext_57 : decode b_M_doNext 57 = .ok (.aload_n 0, 1) := by decide +kernel
theorem d_M_doNext_58 : decode b_M_doNext 58 = .ok (.dup, 1) := by decide +kernel
theorem d_M_doNext_59 : decode b_M_doNext 59 = .ok (.getfield 59, 3) := by decide +kernel
theorem d_M_doNext_62 : decode b_M_doNext 62 = .ok (.iconst 1, 1) := by decide +kernel
theorem d_M_doNext_63 : decode b_M_doNext 63 = .ok (.iadd, 1) := by decide +kernel
theorem d_M_doNext_64 : decode b_M_doNext 64 = .ok (.putfield 59, 3) := by decide +kernel
theorem d_M_doNext_67 : decode b_M_doNext 67 = .ok (.aload_n 0, 1) := by decide +kernel
theorem d_M_doNext_68 : decode b_M_doNext 68 = .ok (.iload_n 1, 1) := by decide +kernel
theorem d_M_letsIn_32 : decode b_M_letsIn 32 = .ok (.istore_n 2, 1) := by decide +kernel
theorem d_M_letsIn_33 : decode b_M_letsIn 33 = .ok (.iload_n 1, 1) := by decide +kernel
theorem d_M_letsIn_34 : decode b_M_letsIn 34 = .ok (.ifCond .eq 21, 3) := by decide +kernel
theorem d_M_letsIn_55 : decode b_M_letsIn 55 = .ok (.iconst 0, 1) := by decide +kernel
theorem d_M_letsIn_56 : decode b_M_letsIn 56 = .ok (.ireturn, 1) := by decide +kernel
theorem d_M_letsIn_37 : decode b_M_letsIn 37 = .ok (.iload_n 2, 1) := by decide +kernel
theorem d_M_letsIn_38 : decode b_M_letsIn 38 = .ok (.ifCond .ne 17, 3) := by decide +kernel
theorem d_M_letsIn_41 : decode b_M_letsIn 41 = .ok (.iload_n 0, 1) := by decide +kernel
theorem d_M_letsIn_42 : decode b_M_letsIn 42 = .ok (.bipush 6, 2) := by decide +kernel
theorem d_M_letsIn_44 : decode b_M_letsIn 44 = .ok (.ishr, 1) := by decide +kernel
theorem d_M_letsIn_45 : decode b_M_letsIn 45 = .ok (.iconst 3, 1) := by decide +kernel
theorem d_M_letsIn_46 : decode b_M_letsIn 46 = .ok (.iand, 1) := by decide +kernel
theorem d_M_letsIn_47 : decode b_M_letsIn 47 = .ok (.iconst 1, 1) := by decide +kernel
theorem d_M_letsIn_48 : decode b_M_letsIn 48 = .ok (.if_icmp .ne 7, 3) := by decide +kernel
theorem d_M_letsIn_51 : decode b_M_letsIn 51 = .ok (.iconst 1, 1) := by decide +kernel
theorem d_M_letsIn_52 : decode b_M_letsIn 52 = .ok (.goto 4, 3) := by decide +kernel
theorem d_M_letsIn_15 : decode b_M_letsIn 15 = .ok (.istore_n 1, 1) := by decide +kernel
theorem d_M_letsIn_16 : decode b_M_letsIn 16 = .ok (.iload_n 0, 1) := by decide +kernel
theorem d_M_letsIn_17 : decode b_M_letsIn 17 = .ok (.sipush 1792, 3) := by decide +kernel
theorem d_M_letsIn_20 : decode b_M_letsIn 20 = .ok (.iand, 1) := by decide +kernel
theorem d_M_letsIn_21 : decode b_M_letsIn 21 = .ok (.sipush 1792, 3) := by decide +kernel
theorem d_M_letsIn_24 : decode b_M_letsIn 24 = .ok (.if_icmp .ne 7, 3) := by decide +kernel
theorem d_M_letsIn_31 : decode b_M_letsIn 31 = .ok (.iconst 0, 1) := by decide +kernel
theorem d_M_letsIn_27 : decode b_M_letsIn 27 = .ok (.iconst 1, 1) := by decide +kernel
theorem d_M_letsIn_28 : decode b_M_letsIn 28 = .ok (.goto 4, 3) := by decide +kernel
theorem d_M_letsIn_0 : decode b_M_letsIn 0 = .ok (.iload_n 0, 1) := by decide +kernel
theorem d_M_letsIn_1 : decode b_M_letsIn 1 = .ok (.ldc 112, 2) := by decide +kernel
theorem d_M_letsIn_3 : decode b_M_letsIn 3 = .ok (.iand, 1) := by decide +kernel
theorem d_M_letsIn_4 : decode b_M_letsIn 4 = .ok (.sipush 24639, 3) := by decide +kernel
theorem d_M_letsIn_7 : decode b_M_letsIn 7 = .ok (.if_icmp .ne 7, 3) := by decide +kernel
theorem d_M_letsIn_14 : decode b_M_letsIn 14 = .ok (.iconst 0, 1) := by decide +kernel
theorem d_M_letsIn_10 : decode b_M_letsIn 10 = .ok (.iconst 1, 1) := by decide +kernel
theorem d_M_letsIn_11 : decode b_M_letsIn 11 = .ok (.goto 4, 3) := by decide +kernel
theorem d_M_doNext_69 : decode b_M_doNext 69 = .ok (.invokestatic 106, 3) := by decide +kernel
theorem d_M_doNext_72 : decode b_M_doNext 72 = .ok (.putfield 81, 3) := by decide +kernel
theorem d_M_doNext_75 : decode b_M_doNext 75 = .ok (.iconst 0, 1) := by decide +kernel
theorem d_M_doNext_76 : decode b_M_doNext 76 = .ok (.istore_n 2, 1) := by decide +kernel
theorem d_M_doNext_51 : decode b_M_doNext 51 = .ok (.aload_n 0, 1) := by decide +kernel
theorem d_M_doNext_52 : decode b_M_doNext 52 = .ok (.iconst 2, 1) := by decide +kernel
theorem d_M_doNext_53 : decode b_M_doNext 53 = .ok (.putfield 84, 3) := by decide +kernel
theorem d_M_doNext_56 : decode b_M_doNext 56 = .ok (.return_, 1) := by decide +kernel
theorem d_M_doNext_0 : decode b_M_doNext 0 = .ok (.aload_n 0, 1) := by decide +kernel
theorem d_M_doNext_1 : decode b_M_doNext 1 = .ok (.getfield 52, 3) := by decide +kernel
theorem d_M_doNext_4 : decode b_M_doNext 4 = .ok (.ifCond .eq 30, 3) := by decide +kernel
theorem d_M_doNext_7 : decode b_M_doNext 7 = .ok (.aload_n 0, 1) := by decide +kernel
theorem d_M_doNext_8 : decode b_M_doNext 8 = .ok (.getfield 81, 3) := by decide +kernel
theorem d_M_doNext_11 : decode b_M_doNext 11 = .ok (.ifCond .ne 23, 3) := by decide +kernel
theorem d_M_doNext_14 : decode b_M_doNext 14 = .ok (.aload_n 0, 1) := by decide +kernel
theorem d_M_doNext_15 : decode b_M_doNext 15 = .ok (.invokevirtual 90, 3) := by decide +kernel
theorem d_M_doNext_18 : decode b_M_doNext 18 = .ok (.ifCond .eq 16, 3) := by decide +kernel
theorem d_M_doNext_21 : decode b_M_doNext 21 = .ok (.aload_n 0, 1) := by decide +kernel
theorem d_M_interrupt_0 : decode b_M_interrupt 0 = .ok (.aload_n 0, 1) := by decide +kernel
theorem d_M_interrupt_1 : decode b_M_interrupt 1 = .ok (.dup, 1) := by decide +kernel
theorem d_M_interrupt_2 : decode b_M_interrupt 2 = .ok (.getfield 62, 3) := by decide +kernel
theorem d_M_interrupt_5 : decode b_M_interrupt 5 = .ok (.iconst 1, 1) := by decide +kernel
theorem d_M_interrupt_6 : decode b_M_interrupt 6 = .ok (.iadd, 1) := by decide +kernel
theorem d_M_interrupt_7 : decode b_M_interrupt 7 = .ok (.putfield 62, 3) := by decide +kernel
theorem d_M_interrupt_10 : decode b_M_interrupt 10 = .ok (.aload_n 0, 1) := by decide +kernel
theorem d_M_interrupt_11 : decode b_M_interrupt 11 = .ok (.iconst 0, 1) := by decide +kernel
theorem d_M_interrupt_12 : decode b_M_interrupt 12 = .ok (.aload_n 0, 1) := by decide +kernel
theorem d_M_interrupt_13 : decode b_M_interrupt 13 = .ok (.getfield 46, 3) := by decide +kernel
theorem d_M_interrupt_16 : decode b_M_interrupt 16 = .ok (.invokevirtual 116, 3) := by decide +kernel
theorem d_M_interrupt_19 : decode b_M_interrupt 19 = .ok (.aload_n 0, 1) := by decide +kernel
theorem d_M_interrupt_20 : decode b_M_interrupt 20 = .ok (.iconst 0, 1) := by decide +kernel
theorem d_M_interrupt_21 : decode b_M_interrupt 21 = .ok (.putfield 52, 3) := by decide +kernel
theorem d_M_interrupt_24 : decode b_M_interrupt 24 = .ok (.aload_n 0, 1) := by decide +kernel
theorem d_M_interrupt_25 : decode b_M_interrupt 25 = .ok (.iconst 1, 1) := by decide +kernel
theorem d_M_interrupt_26 : decode b_M_interrupt 26 = .ok (.invokevirtual 120, 3) := by decide +kernel
theorem d_M_interrupt_29 : decode b_M_interrupt 29 = .ok (.istore_n 1, 1) := by decide +kernel
theorem d_M_interrupt_30 : decode b_M_interrupt 30 = .ok (.iload_n 1, 1) := by decide +kernel
theorem d_M_interrupt_31 : decode b_M_interrupt 31 = .ok (.iconst (-1), 1) := by decide +kernel
theorem d_M_interrupt_32 : decode b_M_interrupt 32 = .ok (.if_icmp .ne 5, 3) := by decide +kernel
theorem d_M_interrupt_37 : decode b_M_interrupt 37 = .ok (.aload_n 0, 1) := by decide +kernel
theorem d_M_interrupt_38 : decode b_M_interrupt 38 = .ok (.iload_n 1, 1) := by decide +kernel
theorem d_M_interrupt_39 : decode b_M_interrupt 39 = .ok (.putfield 46, 3) := by decide +kernel
theorem d_M_interrupt_42 : decode b_M_interrupt 42 = .ok (.iconst 1, 1) := by decide +kernel
theorem d_M_interrupt_43 : decode b_M_interrupt 43 = .ok (.ireturn, 1) := by decide +kernel
theorem d_M_interrupt_35 : decode b_M_interrupt 35 = .ok (.iconst 0, 1) := by decide +kernel
theorem d_M_interrupt_36 : decode b_M_interrupt 36 = .ok (.ireturn, 1) := by decide +kernel
theorem d_M_doNext_22 : decode b_M_doNext 22 = .ok (.invokevirtual 94, 3) := by decide +kernel
theorem d_M_doNext_25 : decode b_M_doNext 25 = .ok (.ifCond .ne 9, 3) := by decide +kernel
theorem d_M_doNext_28 : decode b_M_doNext 28 = .ok (.aload_n 0, 1) := by decide +kernel
theorem d_M_doNext_29 : decode b_M_doNext 29 = .ok (.iconst 2, 1) := by decide +kernel
theorem d_M_doNext_30 : decode b_M_doNext 30 = .ok (.putfield 84, 3) := by decide +kernel
theorem d_M_doNext_33 : decode b_M_doNext 33 = .ok (.return_, 1) := by decide +kernel
theorem d_M_runUpTo_25 : decode b_M_runUpTo 25 = .ok (.invokevirtual 87, 3) := by decide +kernel
theorem d_M_runUpTo_28 : decode b_M_runUpTo 28 = .ok (.iinc 3 1, 3) := by decide +kernel
theorem d_M_runUpTo_31 : decode b_M_runUpTo 31 = .ok (.goto (-19), 3) := by decide +kernel
theorem d_M_runUpTo_0 : decode b_M_runUpTo 0 = .ok (.aload_n 0, 1) := by decide +kernel
theorem d_M_runUpTo_1 : decode b_M_runUpTo 1 = .ok (.iconst 0, 1) := by decide +kernel
theorem d_M_runUpTo_2 : decode b_M_runUpTo 2 = .ok (.putfield 84, 3) := by decide +kernel
theorem d_M_runUpTo_5 : decode b_M_runUpTo 5 = .ok (.aload_n 0, 1) := by decide +kernel
theorem d_M_runUpTo_6 : decode b_M_runUpTo 6 = .ok (.getfield 59, 3) := by decide +kernel
theorem d_M_runUpTo_9 : decode b_M_runUpTo 9 = .ok (.istore_n 2, 1) := by decide +kernel
theorem d_M_runUpTo_10 : decode b_M_runUpTo 10 = .ok (.iconst 0, 1) := by decide +kernel
theorem d_M_runUpTo_11 : decode b_M_runUpTo 11 = .ok (.istore_n 3, 1) := by decide +kernel
theorem d_E_append_0 : decode b_E_append 0 = .ok (.aload_n 0, 1) := by decide +kernel
theorem d_E_append_1 : decode b_E_append 1 = .ok (.getfield 15, 3) := by decide +kernel
theorem d_E_append_4 : decode b_E_append 4 = .ok (.sipush 500, 3) := by decide +kernel
theorem d_E_append_7 : decode b_E_append 7 = .ok (.if_icmp .ge 33, 3) := by decide +kernel
theorem d_E_append_40 : decode b_E_append 40 = .ok (.return_, 1) := by decide +kernel
theorem d_E_append_10 : decode b_E_append 10 = .ok (.aload_n 0, 1) := by decide +kernel
theorem d_E_append_11 : decode b_E_append 11 = .ok (.getfield 9, 3) := by decide +kernel
theorem d_E_append_14 : decode b_E_append 14 = .ok (.aload_n 0, 1) := by decide +kernel
theorem d_E_append_15 : decode b_E_append 15 = .ok (.getfield 19, 3) := by decide +kernel
theorem d_E_append_18 : decode b_E_append 18 = .ok (.aload_n 0, 1) := by decide +kernel
theorem d_E_append_19 : decode b_E_append 19 = .ok (.getfield 15, 3) := by decide +kernel
theorem d_E_append_22 : decode b_E_append 22 = .ok (.iadd, 1) := by decide +kernel
theorem d_E_append_23 : decode b_E_append 23 = .ok (.sipush 500, 3) := by decide +kernel
theorem d_E_append_26 : decode b_E_append 26 = .ok (.irem, 1) := by decide +kernel
theorem d_E_append_27 : decode b_E_append 27 = .ok (.iload_n 1, 1) := by decide +kernel
theorem d_E_append_28 : decode b_E_append 28 = .ok (.i2c, 1) := by decide +kernel
theorem d_E_append_29 : decode b_E_append 29 = .ok (.castore, 1) := by decide +kernel
theorem d_E_append_30 : decode b_E_append 30 = .ok (.aload_n 0, 1) := by decide +kernel
theorem d_E_append_31 : decode b_E_append 31 = .ok (.dup, 1) := by decide +kernel
theorem d_E_append_32 : decode b_E_append 32 = .ok (.getfield 15, 3) := by decide +kernel
theorem d_E_append_35 : decode b_E_append 35 = .ok (.iconst 1, 1) := by decide +kernel
theorem d_E_append_36 : decode b_E_append 36 = .ok (.iadd, 1) := by decide +kernel
theorem d_E_append_37 : decode b_E_append 37 = .ok (.putfield 15, 3) := by decide +kernel
theorem d_P_characterAt_0 : decode b_P_characterAt 0 = .ok (.iload_n 1, 1) := by decide +kernel
theorem d_P_characterAt_1 : decode b_P_characterAt 1 = .ok (.ifCond .lt 27, 3) := by decide +kernel
theorem d_P_characterAt_28 : decode b_P_characterAt 28 = .ok (.iconst (-1), 1) := by decide +kernel
theorem d_P_characterAt_29 : decode b_P_characterAt 29 = .ok (.ireturn, 1) := by decide +kernel
theorem d_P_characterAt_4 : decode b_P_characterAt 4 = .ok (.iload_n 1, 1) := by decide +kernel
theorem d_P_characterAt_5 : decode b_P_characterAt 5 = .ok (.aload_n 0, 1) := by decide +kernel
theorem d_P_characterAt_6 : decode b_P_characterAt 6 = .ok (.getfield 15, 3) := by decide +kernel
theorem d_P_characterAt_9 : decode b_P_characterAt 9 = .ok (.if_icmp .ge 19, 3) := by decide +kernel
theorem d_P_characterAt_12 : decode b_P_characterAt 12 = .ok (.iload_n 1, 1) := by decide +kernel
theorem d_P_characterAt_13 : decode b_P_characterAt 13 = .ok (.sipush 1000, 3) := by decide +kernel
theorem d_P_characterAt_16 : decode b_P_characterAt 16 = .ok (.if_icmp .ge 12, 3) := by decide +kernel
theorem d_P_characterAt_19 : decode b_P_characterAt 19 = .ok (.aload_n 0, 1) := by decide +kernel
theorem d_P_characterAt_20 : decode b_P_characterAt 20 = .ok (.getfield 9, 3) := by decide +kernel
theorem d_P_characterAt_23 : decode b_P_characterAt 23 = .ok (.iload_n 1, 1) := by decide +kernel
theorem d_P_characterAt_24 : decode b_P_characterAt 24 = .ok (.caload, 1) := by decide +kernel
theorem d_P_characterAt_25 : decode b_P_characterAt 25 = .ok (.goto 4, 3) := by decide +kernel
theorem d_P_takePaper_0 : decode b_P_takePaper 0 = .ok (.aload_n 0, 1) := by decide +kernel
theorem d_P_takePaper_1 : decode b_P_takePaper 1 = .ok (.getfield 15, 3) := by decide +kernel
theorem d_P_takePaper_4 : decode b_P_takePaper 4 = .ok (.istore_n 1, 1) := by decide +kernel
theorem d_P_takePaper_5 : decode b_P_takePaper 5 = .ok (.aload_n 0, 1) := by decide +kernel
theorem d_P_takePaper_6 : decode b_P_takePaper 6 = .ok (.iconst 0, 1) := by decide +kernel
theorem d_P_takePaper_7 : decode b_P_takePaper 7 = .ok (.putfield 15, 3) := by decide +kernel
theorem d_P_takePaper_10 : decode b_P_takePaper 10 = .ok (.iload_n 1, 1) := by decide +kernel
theorem d_P_takePaper_11 : decode b_P_takePaper 11 = .ok (.ireturn, 1) := by decide +kernel
theorem d_L_find_2 : decode b_L_find 2 = .ok (.iload_n 3, 1) := by decide +kernel
theorem d_L_find_3 : decode b_L_find 3 = .ok (.aload_n 0, 1) := by decide +kernel
theorem d_L_find_4 : decode b_L_find 4 = .ok (.getfield 19, 3) := by decide +kernel
theorem d_L_find_7 : decode b_L_find 7 = .ok (.if_icmp .ge 27, 3) := by decide +kernel
theorem d_L_find_34 : decode b_L_find 34 = .ok (.iconst (-1), 1) := by decide +kernel
theorem d_L_find_35 : decode b_L_find 35 = .ok (.ireturn, 1) := by decide +kernel
theorem d_L_find_10 : decode b_L_find 10 = .ok (.aload_n 0, 1) := by decide +kernel
theorem d_L_find_11 : decode b_L_find 11 = .ok (.getfield 9, 3) := by decide +kernel
theorem d_L_find_14 : decode b_L_find 14 = .ok (.iload_n 3, 1) := by decide +kernel
theorem d_L_find_15 : decode b_L_find 15 = .ok (.laload, 1) := by decide +kernel
theorem d_L_find_16 : decode b_L_find 16 = .ok (.lload_n 1, 1) := by decide +kernel
theorem d_L_find_17 : decode b_L_find 17 = .ok (.lcmp, 1) := by decide +kernel
theorem d_L_find_18 : decode b_L_find 18 = .ok (.ifCond .ne 10, 3) := by decide +kernel
theorem d_L_find_28 : decode b_L_find 28 = .ok (.iinc 3 1, 3) := by decide +kernel
theorem d_L_find_31 : decode b_L_find 31 = .ok (.goto (-29), 3) := by decide +kernel
theorem d_L_find_21 : decode b_L_find 21 = .ok (.aload_n 0, 1) := by decide +kernel
theorem d_L_find_22 : decode b_L_find 22 = .ok (.getfield 15, 3) := by decide +kernel
theorem d_L_find_25 : decode b_L_find 25 = .ok (.iload_n 3, 1) := by decide +kernel
theorem d_L_find_26 : decode b_L_find 26 = .ok (.iaload, 1) := by decide +kernel
theorem d_L_find_27 : decode b_L_find 27 = .ok (.ireturn, 1) := by decide +kernel
theorem d_L_find_0 : decode b_L_find 0 = .ok (.iconst 0, 1) := by decide +kernel
theorem d_L_find_1 : decode b_L_find 1 = .ok (.istore_n 3, 1) := by decide +kernel
theorem d_L_add_0 : decode b_L_add 0 = .ok (.aload_n 0, 1) := by decide +kernel
theorem d_L_add_1 : decode b_L_add 1 = .ok (.getfield 19, 3) := by decide +kernel
theorem d_L_add_4 : decode b_L_add 4 = .ok (.sipush 200, 3) := by decide +kernel
theorem d_L_add_7 : decode b_L_add 7 = .ok (.if_icmp .lt 5, 3) := by decide +kernel
theorem d_L_add_12 : decode b_L_add 12 = .ok (.aload_n 0, 1) := by decide +kernel
theorem d_L_add_13 : decode b_L_add 13 = .ok (.getfield 9, 3) := by decide +kernel
theorem d_L_add_16 : decode b_L_add 16 = .ok (.aload_n 0, 1) := by decide +kernel
theorem d_L_add_17 : decode b_L_add 17 = .ok (.getfield 19, 3) := by decide +kernel
theorem d_L_add_20 : decode b_L_add 20 = .ok (.lload_n 1, 1) := by decide +kernel
theorem d_L_add_21 : decode b_L_add 21 = .ok (.lastore, 1) := by decide +kernel
theorem d_L_add_22 : decode b_L_add 22 = .ok (.aload_n 0, 1) := by decide +kernel
theorem d_L_add_23 : decode b_L_add 23 = .ok (.getfield 15, 3) := by decide +kernel
theorem d_L_add_26 : decode b_L_add 26 = .ok (.aload_n 0, 1) := by decide +kernel
theorem d_L_add_27 : decode b_L_add 27 = .ok (.getfield 19, 3) := by decide +kernel
theorem d_L_add_30 : decode b_L_add 30 = .ok (.iload_n 3, 1) := by decide +kernel
theorem d_L_add_31 : decode b_L_add 31 = .ok (.iastore, 1) := by decide +kernel
theorem d_L_add_32 : decode b_L_add 32 = .ok (.aload_n 0, 1) := by decide +kernel
theorem d_L_add_33 : decode b_L_add 33 = .ok (.dup, 1) := by decide +kernel
theorem d_L_add_34 : decode b_L_add 34 = .ok (.getfield 19, 3) := by decide +kernel
theorem d_L_add_37 : decode b_L_add 37 = .ok (.iconst 1, 1) := by decide +kernel
theorem d_L_add_38 : decode b_L_add 38 = .ok (.iadd, 1) := by decide +kernel
theorem d_L_add_39 : decode b_L_add 39 = .ok (.putfield 19, 3) := by decide +kernel
theorem d_L_add_42 : decode b_L_add 42 = .ok (.iconst 1, 1) := by decide +kernel
theorem d_L_add_43 : decode b_L_add 43 = .ok (.ireturn, 1) := by decide +kernel
theorem d_L_add_10 : decode b_L_add 10 = .ok (.iconst 0, 1) := by decide +kernel
theorem d_L_add_11 : decode b_L_add 11 = .ok (.ireturn, 1) := by decide +kernel
theorem d_L_clear_0 : decode b_L_clear 0 = .ok (.aload_n 0, 1) := by decide +kernel
theorem d_L_clear_1 : decode b_L_clear 1 = .ok (.iconst 0, 1) := by decide +kernel
theorem d_L_clear_2 : decode b_L_clear 2 = .ok (.putfield 19, 3) := by decide +kernel
theorem d_L_clear_5 : decode b_L_clear 5 = .ok (.return_, 1) := by decide +kernel
theorem d_I_appendFour_44 : decode b_I_appendFour 44 = .ok (.iinc 2 (-8), 3) := by decide +kernel
theorem d_I_appendFour_47 : decode b_I_appendFour 47 = .ok (.goto (-44), 3) := by decide +kernel
theorem d_I_appendFour_3 : decode b_I_appendFour 3 = .ok (.iload_n 2, 1) := by decide +kernel
theorem d_I_appendFour_4 : decode b_I_appendFour 4 = .ok (.ifCond .lt 46, 3) := by decide +kernel
theorem d_I_appendFour_50 : decode b_I_appendFour 50 = .ok (.return_, 1) := by decide +kernel
theorem d_I_appendFour_7 : decode b_I_appendFour 7 = .ok (.aload_n 0, 1) := by decide +kernel
theorem d_I_appendFour_8 : decode b_I_appendFour 8 = .ok (.getfield 19, 3) := by decide +kernel
theorem d_I_appendFour_11 : decode b_I_appendFour 11 = .ok (.sipush 6000, 3) := by decide +kernel
theorem d_I_appendFour_14 : decode b_I_appendFour 14 = .ok (.if_icmp .ge 30, 3) := by decide +kernel
theorem d_I_appendFour_17 : decode b_I_appendFour 17 = .ok (.aload_n 0, 1) := by decide +kernel
theorem d_I_appendFour_18 : decode b_I_appendFour 18 = .ok (.getfield 9, 3) := by decide +kernel
theorem d_I_appendFour_21 : decode b_I_appendFour 21 = .ok (.aload_n 0, 1) := by decide +kernel
theorem d_I_appendFour_22 : decode b_I_appendFour 22 = .ok (.getfield 19, 3) := by decide +kernel
theorem d_I_appendFour_25 : decode b_I_appendFour 25 = .ok (.iload_n 1, 1) := by decide +kernel
theorem d_I_appendFour_26 : decode b_I_appendFour 26 = .ok (.iload_n 2, 1) := by decide +kernel
theorem d_I_appendFour_27 : decode b_I_appendFour 27 = .ok (.ishr, 1) := by decide +kernel
theorem d_I_appendFour_28 : decode b_I_appendFour 28 = .ok (.sipush 255, 3) := by decide +kernel
theorem d_I_appendFour_31 : decode b_I_appendFour 31 = .ok (.iand, 1) := by decide +kernel
theorem d_I_appendFour_32 : decode b_I_appendFour 32 = .ok (.i2c, 1) := by decide +kernel
theorem d_I_appendFour_33 : decode b_I_appendFour 33 = .ok (.castore, 1) := by decide +kernel
theorem d_I_appendFour_34 : decode b_I_appendFour 34 = .ok (.aload_n 0, 1) := by decide +kernel
theorem d_I_appendFour_35 : decode b_I_appendFour 35 = .ok (.dup, 1) := by decide +kernel
theorem d_I_appendFour_36 : decode b_I_appendFour 36 = .ok (.getfield 19, 3) := by decide +kernel
theorem d_I_appendFour_39 : decode b_I_appendFour 39 = .ok (.iconst 1, 1) := by decide +kernel
theorem d_I_appendFour_40 : decode b_I_appendFour 40 = .ok (.iadd, 1) := by decide +kernel
theorem d_I_appendFour_41 : decode b_I_appendFour 41 = .ok (.putfield 19, 3) := by decide +kernel
theorem d_I_appendFour_0 : decode b_I_appendFour 0 = .ok (.bipush 24, 2) := by decide +kernel
theorem d_I_appendFour_2 : decode b_I_appendFour 2 = .ok (.istore_n 2, 1) := by decide +kernel
theorem d_I_kindAt_0 : decode b_I_kindAt 0 = .ok (.iload_n 1, 1) := by decide +kernel
theorem d_I_kindAt_1 : decode b_I_kindAt 1 = .ok (.ifCond .lt 24, 3) := by decide +kernel
theorem d_I_kindAt_25 : decode b_I_kindAt 25 = .ok (.bipush 10, 2) := by decide +kernel
theorem d_I_kindAt_27 : decode b_I_kindAt 27 = .ok (.ireturn, 1) := by decide +kernel
theorem d_I_kindAt_4 : decode b_I_kindAt 4 = .ok (.iload_n 1, 1) := by decide +kernel
theorem d_I_kindAt_5 : decode b_I_kindAt 5 = .ok (.aload_n 0, 1) := by decide +kernel
theorem d_I_kindAt_6 : decode b_I_kindAt 6 = .ok (.getfield 23, 3) := by decide +kernel
theorem d_I_kindAt_9 : decode b_I_kindAt 9 = .ok (.if_icmp .ge 16, 3) := by decide +kernel
theorem d_I_kindAt_12 : decode b_I_kindAt 12 = .ok (.aload_n 0, 1) := by decide +kernel
theorem d_I_kindAt_13 : decode b_I_kindAt 13 = .ok (.getfield 15, 3) := by decide +kernel
theorem d_I_kindAt_16 : decode b_I_kindAt 16 = .ok (.iload_n 1, 1) := by decide +kernel
theorem d_I_kindAt_17 : decode b_I_kindAt 17 = .ok (.laload, 1) := by decide +kernel
theorem d_I_kindAt_18 : decode b_I_kindAt 18 = .ok (.l2i, 1) := by decide +kernel
theorem d_I_kindAt_19 : decode b_I_kindAt 19 = .ok (.ldc 26, 2) := by decide +kernel
theorem d_I_kindAt_21 : decode b_I_kindAt 21 = .ok (.iand, 1) := by decide +kernel
theorem d_I_kindAt_22 : decode b_I_kindAt 22 = .ok (.goto 5, 3) := by decide +kernel
theorem d_I_nameAt_0 : decode b_I_nameAt 0 = .ok (.iload_n 1, 1) := by decide +kernel
theorem d_I_nameAt_1 : decode b_I_nameAt 1 = .ok (.ifCond .lt 24, 3) := by decide +kernel
theorem d_I_nameAt_25 : decode b_I_nameAt 25 = .ok (.lconst 0, 1) := by decide +kernel
theorem d_I_nameAt_26 : decode b_I_nameAt 26 = .ok (.lreturn, 1) := by decide +kernel
theorem d_I_nameAt_4 : decode b_I_nameAt 4 = .ok (.iload_n 1, 1) := by decide +kernel
theorem d_I_nameAt_5 : decode b_I_nameAt 5 = .ok (.aload_n 0, 1) := by decide +kernel
theorem d_I_nameAt_6 : decode b_I_nameAt 6 = .ok (.getfield 23, 3) := by decide +kernel
theorem d_I_nameAt_9 : decode b_I_nameAt 9 = .ok (.if_icmp .ge 16, 3) := by decide +kernel
theorem d_I_nameAt_12 : decode b_I_nameAt 12 = .ok (.aload_n 0, 1) := by decide +kernel
theorem d_I_nameAt_13 : decode b_I_nameAt 13 = .ok (.getfield 15, 3) := by decide +kernel
theorem d_I_nameAt_16 : decode b_I_nameAt 16 = .ok (.iload_n 1, 1) := by decide +kernel
theorem d_I_nameAt_17 : decode b_I_nameAt 17 = .ok (.laload, 1) := by decide +kernel
theorem d_I_nameAt_18 : decode b_I_nameAt 18 = .ok (.ldc2_w 27, 3) := by decide +kernel
theorem d_I_nameAt_21 : decode b_I_nameAt 21 = .ok (.land, 1) := by decide +kernel
theorem d_I_nameAt_22 : decode b_I_nameAt 22 = .ok (.goto 4, 3) := by decide +kernel
theorem d_I_numberAt_0 : decode b_I_numberAt 0 = .ok (.aload_n 0, 1) := by decide +kernel
theorem d_I_numberAt_1 : decode b_I_numberAt 1 = .ok (.iload_n 1, 1) := by decide +kernel
theorem d_I_numberAt_2 : decode b_I_numberAt 2 = .ok (.invokevirtual 29, 3) := by decide +kernel
theorem d_I_numberAt_5 : decode b_I_numberAt 5 = .ok (.bipush 16, 2) := by decide +kernel
theorem d_I_numberAt_7 : decode b_I_numberAt 7 = .ok (.lshr, 1) := by decide +kernel
theorem d_I_numberAt_8 : decode b_I_numberAt 8 = .ok (.l2i, 1) := by decide +kernel
theorem d_I_numberAt_9 : decode b_I_numberAt 9 = .ok (.ireturn, 1) := by decide +kernel
theorem d_I_split_40 : decode b_I_split 40 = .ok (.aload_n 0, 1) := by decide +kernel
theorem d_I_split_41 : decode b_I_split 41 = .ok (.ldc2_w 39, 3) := by decide +kernel
theorem d_I_add_0 : decode b_I_add 0 = .ok (.aload_n 0, 1) := by decide +kernel
theorem d_I_add_1 : decode b_I_add 1 = .ok (.getfield 23, 3) := by decide +kernel
theorem d_I_add_4 : decode b_I_add 4 = .ok (.aload_n 0, 1) := by decide +kernel
theorem d_I_add_5 : decode b_I_add 5 = .ok (.getfield 15, 3) := by decide +kernel
theorem d_I_add_8 : decode b_I_add 8 = .ok (.arraylength, 1) := by decide +kernel
theorem d_I_add_9 : decode b_I_add 9 = .ok (.if_icmp .ge 23, 3) := by decide +kernel
theorem d_I_add_32 : decode b_I_add 32 = .ok (.return_, 1) := by decide +kernel
theorem d_I_add_12 : decode b_I_add 12 = .ok (.aload_n 0, 1) := by decide +kernel
theorem d_I_add_13 : decode b_I_add 13 = .ok (.getfield 15, 3) := by decide +kernel
theorem d_I_add_16 : decode b_I_add 16 = .ok (.aload_n 0, 1) := by decide +kernel
theorem d_I_add_17 : decode b_I_add 17 = .ok (.getfield 23, 3) := by decide +kernel
theorem d_I_add_20 : decode b_I_add 20 = .ok (.lload_n 1, 1) := by decide +kernel
theorem d_I_add_21 : decode b_I_add 21 = .ok (.lastore, 1) := by decide +kernel
theorem d_I_add_22 : decode b_I_add 22 = .ok (.aload_n 0, 1) := by decide +kernel
theorem d_I_add_23 : decode b_I_add 23 = .ok (.dup, 1) := by decide +kernel
theorem d_I_add_24 : decode b_I_add 24 = .ok (.getfield 23, 3) := by decide +kernel
theorem d_I_add_27 : decode b_I_add 27 = .ok (.iconst 1, 1) := by decide +kernel
theorem d_I_add_28 : decode b_I_add 28 = .ok (.iadd, 1) := by decide +kernel
theorem d_I_add_29 : decode b_I_add 29 = .ok (.putfield 23, 3) := by decide +kernel
theorem d_I_split_44 : decode b_I_split 44 = .ok (.invokevirtual 41, 3) := by decide +kernel
theorem d_I_split_47 : decode b_I_split 47 = .ok (.return_, 1) := by decide +kernel
theorem d_I_split_12 : decode b_I_split 12 = .ok (.iload_n 1, 1) := by decide +kernel
theorem d_I_split_13 : decode b_I_split 13 = .ok (.sipush 6000, 3) := by decide +kernel
theorem d_I_split_16 : decode b_I_split 16 = .ok (.if_icmp .ge 24, 3) := by decide +kernel
theorem d_I_split_19 : decode b_I_split 19 = .ok (.aload_n 0, 1) := by decide +kernel
theorem d_I_split_20 : decode b_I_split 20 = .ok (.getfield 33, 3) := by decide +kernel
theorem d_I_split_23 : decode b_I_split 23 = .ok (.aload_n 0, 1) := by decide +kernel
theorem d_I_split_24 : decode b_I_split 24 = .ok (.getfield 19, 3) := by decide +kernel
theorem d_I_split_27 : decode b_I_split 27 = .ok (.if_icmp .ge 13, 3) := by decide +kernel
theorem d_I_split_30 : decode b_I_split 30 = .ok (.aload_n 0, 1) := by decide +kernel
theorem d_I_splitNext_90 : decode b_I_splitNext 90 = .ok (.invokevirtual 41, 3) := by decide +kernel
theorem d_I_splitNext_93 : decode b_I_splitNext 93 = .ok (.return_, 1) := by decide +kernel
theorem d_I_splitNext_0 : decode b_I_splitNext 0 = .ok (.aload_n 0, 1) := by decide +kernel
theorem d_I_splitNext_1 : decode b_I_splitNext 1 = .ok (.getfield 9, 3) := by decide +kernel
theorem d_I_splitNext_4 : decode b_I_splitNext 4 = .ok (.aload_n 0, 1) := by decide +kernel
theorem d_I_splitNext_5 : decode b_I_splitNext 5 = .ok (.getfield 33, 3) := by decide +kernel
theorem d_I_splitNext_8 : decode b_I_splitNext 8 = .ok (.caload, 1) := by decide +kernel
theorem d_I_splitNext_9 : decode b_I_splitNext 9 = .ok (.istore_n 1, 1) := by decide +kernel
theorem d_I_splitNext_10 : decode b_I_splitNext 10 = .ok (.iload_n 1, 1) := by decide +kernel
theorem d_I_goesOn_12 : decode b_I_goesOn 12 = .ok (.iload_n 0, 1) := by decide +kernel
theorem d_I_goesOn_13 : decode b_I_goesOn 13 = .ok (.bipush 46, 2) := by decide +kernel
theorem d_I_goesOn_15 : decode b_I_goesOn 15 = .ok (.if_icmp .eq 10, 3) := by decide +kernel
theorem d_I_goesOn_25 : decode b_I_goesOn 25 = .ok (.iconst 1, 1) := by decide +kernel
theorem d_I_goesOn_26 : decode b_I_goesOn 26 = .ok (.goto 4, 3) := by decide +kernel
theorem d_I_goesOn_30 : decode b_I_goesOn 30 = .ok (.ireturn, 1) := by decide +kernel
theorem d_I_goesOn_18 : decode b_I_goesOn 18 = .ok (.iload_n 0, 1) := by decide +kernel
theorem d_I_isDigit_0 : decode b_I_isDigit 0 = .ok (.iload_n 0, 1) := by decide +kernel
theorem d_I_isDigit_1 : decode b_I_isDigit 1 = .ok (.bipush 48, 2) := by decide +kernel
theorem d_I_isDigit_3 : decode b_I_isDigit 3 = .ok (.if_icmp .lt 13, 3) := by decide +kernel
theorem d_I_isDigit_16 : decode b_I_isDigit 16 = .ok (.iconst 0, 1) := by decide +kernel
theorem d_I_isDigit_17 : decode b_I_isDigit 17 = .ok (.ireturn, 1) := by decide +kernel
theorem d_I_isDigit_6 : decode b_I_isDigit 6 = .ok (.iload_n 0, 1) := by decide +kernel
theorem d_I_isDigit_7 : decode b_I_isDigit 7 = .ok (.bipush 57, 2) := by decide +kernel
theorem d_I_isDigit_9 : decode b_I_isDigit 9 = .ok (.if_icmp .gt 7, 3) := by decide +kernel
theorem d_I_isDigit_12 : decode b_I_isDigit 12 = .ok (.iconst 1, 1) := by decide +kernel
theorem d_I_isDigit_13 : decode b_I_isDigit 13 = .ok (.goto 4, 3) := by decide +kernel
theorem d_I_goesOn_19 : decode b_I_goesOn 19 = .ok (.invokestatic 64, 3) := by decide +kernel
theorem d_I_goesOn_22 : decode b_I_goesOn 22 = .ok (.ifCond .eq 7, 3) := by decide +kernel
theorem d_I_goesOn_29 : decode b_I_goesOn 29 = .ok (.iconst 0, 1) := by decide +kernel
theorem d_I_goesOn_0 : decode b_I_goesOn 0 = .ok (.iload_n 0, 1) := by decide +kernel
theorem d_I_goesOn_1 : decode b_I_goesOn 1 = .ok (.bipush 65, 2) := by decide +kernel
theorem d_I_goesOn_3 : decode b_I_goesOn 3 = .ok (.if_icmp .lt 9, 3) := by decide +kernel
theorem d_I_goesOn_6 : decode b_I_goesOn 6 = .ok (.iload_n 0, 1) := by decide +kernel
theorem d_I_goesOn_7 : decode b_I_goesOn 7 = .ok (.bipush 90, 2) := by decide +kernel
theorem d_I_goesOn_9 : decode b_I_goesOn 9 = .ok (.if_icmp .le 16, 3) := by decide +kernel
theorem d_I_splitNext_11 : decode b_I_splitNext 11 = .ok (.invokestatic 45, 3) := by decide +kernel
theorem d_I_splitNext_14 : decode b_I_splitNext 14 = .ok (.ifCond .eq 9, 3) := by decide +kernel
theorem d_I_splitNext_23 : decode b_I_splitNext 23 = .ok (.aload_n 0, 1) := by decide +kernel
theorem d_I_splitNext_24 : decode b_I_splitNext 24 = .ok (.dup, 1) := by decide +kernel
theorem d_I_splitNext_25 : decode b_I_splitNext 25 = .ok (.getfield 33, 3) := by decide +kernel
theorem d_I_splitNext_28 : decode b_I_splitNext 28 = .ok (.iconst 1, 1) := by decide +kernel
theorem d_I_splitNext_29 : decode b_I_splitNext 29 = .ok (.iadd, 1) := by decide +kernel
theorem d_I_splitNext_30 : decode b_I_splitNext 30 = .ok (.putfield 33, 3) := by decide +kernel
theorem d_I_splitNext_33 : decode b_I_splitNext 33 = .ok (.iload_n 1, 1) := by decide +kernel
theorem d_I_splitNext_34 : decode b_I_splitNext 34 = .ok (.bipush 10, 2) := by decide +kernel
theorem d_I_splitNext_36 : decode b_I_splitNext 36 = .ok (.if_icmp .ne 13, 3) := by decide +kernel
theorem d_I_splitNext_49 : decode b_I_splitNext 49 = .ok (.iload_n 1, 1) := by decide +kernel
theorem d_I_splitNext_50 : decode b_I_splitNext 50 = .ok (.bipush 59, 2) := by decide +kernel
theorem d_I_splitNext_52 : decode b_I_splitNext 52 = .ok (.if_icmp .ne 10, 3) := by decide +kernel
theorem d_I_splitNext_62 : decode b_I_splitNext 62 = .ok (.iload_n 1, 1) := by decide +kernel
theorem d_I_splitNext_63 : decode b_I_splitNext 63 = .ok (.bipush 32, 2) := by decide +kernel
theorem d_I_splitNext_65 : decode b_I_splitNext 65 = .ok (.if_icmp .eq 28, 3) := by decide +kernel
theorem d_I_splitNext_68 : decode b_I_splitNext 68 = .ok (.iload_n 1, 1) := by decide +kernel
theorem d_I_splitNext_69 : decode b_I_splitNext 69 = .ok (.bipush 9, 2) := by decide +kernel
theorem d_I_splitNext_71 : decode b_I_splitNext 71 = .ok (.if_icmp .eq 22, 3) := by decide +kernel
theorem d_I_splitNext_74 : decode b_I_splitNext 74 = .ok (.aload_n 0, 1) := by decide +kernel
theorem d_I_splitNext_75 : decode b_I_splitNext 75 = .ok (.ldc 56, 2) := by decide +kernel
theorem d_I_splitNext_77 : decode b_I_splitNext 77 = .ok (.iload_n 1, 1) := by decide +kernel
theorem d_JStr_indexOf1_0 : decode b_JStr_indexOf1 0 = .ok (.aload_n 0, 1) := by decide +kernel
theorem d_JStr_indexOf1_1 : decode b_JStr_indexOf1 1 = .ok (.iload_n 1, 1) := by decide +kernel
theorem d_JStr_indexOf1_2 : decode b_JStr_indexOf1 2 = .ok (.iconst 0, 1) := by decide +kernel
theorem d_JStr_indexOf2_0 : decode b_JStr_indexOf2 0 = .ok (.aload_n 0, 1) := by decide +kernel
theorem d_JStr_isLatin10_0 : decode b_JStr_isLatin10 0 = .ok (.getstatic 38, 3) := by decide +kernel
theorem d_JStr_isLatin10_3 : decode b_JStr_isLatin10 3 = .ok (.ifCond .eq 14, 3) := by decide +kernel
theorem d_JStr_isLatin10_6 : decode b_JStr_isLatin10 6 = .ok (.aload_n 0, 1) := by decide +kernel
theorem d_JStr_isLatin10_7 : decode b_JStr_isLatin10 7 = .ok (.getfield 15, 3) := by decide +kernel
theorem d_JStr_isLatin10_10 : decode b_JStr_isLatin10 10 = .ok (.ifCond .ne 7, 3) := by decide +kernel
theorem d_JStr_isLatin10_13 : decode b_JStr_isLatin10 13 = .ok (.iconst 1, 1) := by decide +kernel
theorem d_JStr_isLatin10_14 : decode b_JStr_isLatin10 14 = .ok (.goto 4, 3) := by decide +kernel
theorem d_JStr_isLatin10_18 : decode b_JStr_isLatin10 18 = .ok (.ireturn, 1) := by decide +kernel
theorem d_JStr_indexOf2_1 : decode b_JStr_indexOf2 1 = .ok (.invokevirtual 492, 3) := by decide +kernel
theorem d_JStr_indexOf2_4 : decode b_JStr_indexOf2 4 = .ok (.ifCond .eq 19, 3) := by decide +kernel
theorem d_JStr_indexOf2_23 : decode b_JStr_indexOf2 23 = .ok (.aload_n 0, 1) := by decide +kernel
theorem d_JStr_indexOf2_24 : decode b_JStr_indexOf2 24 = .ok (.getfield 9, 3) := by decide +kernel
theorem d_JStr_indexOf2_27 : decode b_JStr_indexOf2 27 = .ok (.iload_n 1, 1) := by decide +kernel
theorem d_JStr_indexOf2_28 : decode b_JStr_indexOf2 28 = .ok (.iload_n 2, 1) := by decide +kernel
theorem d_JStr_indexOf2_29 : decode b_JStr_indexOf2 29 = .ok (.aload_n 0, 1) := by decide +kernel
theorem d_JStr_length0_0 : decode b_JStr_length0 0 = .ok (.aload_n 0, 1) := by decide +kernel
theorem d_JStr_length0_1 : decode b_JStr_length0 1 = .ok (.getfield 9, 3) := by decide +kernel
theorem d_JStr_length0_4 : decode b_JStr_length0 4 = .ok (.arraylength, 1) := by decide +kernel
theorem d_JStr_length0_5 : decode b_JStr_length0 5 = .ok (.aload_n 0, 1) := by decide +kernel
theorem d_JStr_coder0_0 : decode b_JStr_coder0 0 = .ok (.getstatic 38, 3) := by decide +kernel
theorem d_JStr_coder0_3 : decode b_JStr_coder0 3 = .ok (.ifCond .eq 10, 3) := by decide +kernel
theorem d_JStr_coder0_6 : decode b_JStr_coder0 6 = .ok (.aload_n 0, 1) := by decide +kernel
theorem d_JStr_coder0_7 : decode b_JStr_coder0 7 = .ok (.getfield 15, 3) := by decide +kernel
theorem d_JStr_coder0_10 : decode b_JStr_coder0 10 = .ok (.goto 4, 3) := by decide +kernel
theorem d_JStr_coder0_14 : decode b_JStr_coder0 14 = .ok (.ireturn, 1) := by decide +kernel
theorem d_JStr_length0_6 : decode b_JStr_length0 6 = .ok (.invokevirtual 335, 3) := by decide +kernel
theorem d_JStr_length0_9 : decode b_JStr_length0 9 = .ok (.ishr, 1) := by decide +kernel
theorem d_JStr_length0_10 : decode b_JStr_length0 10 = .ok (.ireturn, 1) := by decide +kernel
theorem d_JStr_indexOf2_30 : decode b_JStr_indexOf2 30 = .ok (.invokevirtual 505, 3) := by decide +kernel
theorem d_JStr_indexOf2_7 : decode b_JStr_indexOf2 7 = .ok (.aload_n 0, 1) := by decide +kernel
theorem d_JStr_indexOf2_8 : decode b_JStr_indexOf2 8 = .ok (.getfield 9, 3) := by decide +kernel
theorem d_JStr_indexOf2_11 : decode b_JStr_indexOf2 11 = .ok (.iload_n 1, 1) := by decide +kernel
theorem d_JStr_indexOf2_12 : decode b_JStr_indexOf2 12 = .ok (.iload_n 2, 1) := by decide +kernel
theorem d_JStr_indexOf2_13 : decode b_JStr_indexOf2 13 = .ok (.aload_n 0, 1) := by decide +kernel
theorem d_JStr_indexOf2_14 : decode b_JStr_indexOf2 14 = .ok (.invokevirtual 505, 3) := by decide +kernel
theorem d_JLat_indexOf4_0 : decode b_JLat_indexOf4 0 = .ok (.iload_n 1, 1) := by decide +kernel
theorem d_JLat_canEncode1_0 : decode b_JLat_canEncode1 0 = .ok (.iload_n 0, 1) := by decide +kernel
theorem d_JLat_canEncode1_1 : decode b_JLat_canEncode1 1 = .ok (.ifCond .lt 14, 3) := by decide +kernel
theorem d_JLat_canEncode1_15 : decode b_JLat_canEncode1 15 = .ok (.iconst 0, 1) := by decide +kernel
theorem d_JLat_canEncode1_16 : decode b_JLat_canEncode1 16 = .ok (.ireturn, 1) := by decide +kernel
theorem d_JLat_canEncode1_4 : decode b_JLat_canEncode1 4 = .ok (.iload_n 0, 1) := by decide +kernel
theorem d_JLat_canEncode1_5 : decode b_JLat_canEncode1 5 = .ok (.sipush 255, 3) := by decide +kernel
theorem d_JLat_canEncode1_8 : decode b_JLat_canEncode1 8 = .ok (.if_icmp .gt 7, 3) := by decide +kernel
theorem d_JLat_canEncode1_11 : decode b_JLat_canEncode1 11 = .ok (.iconst 1, 1) := by decide +kernel
theorem d_JLat_canEncode1_12 : decode b_JLat_canEncode1 12 = .ok (.goto 4, 3) := by decide +kernel
theorem d_JLat_indexOf4_1 : decode b_JLat_indexOf4 1 = .ok (.invokestatic 88, 3) := by decide +kernel
theorem d_JLat_indexOf4_4 : decode b_JLat_indexOf4 4 = .ok (.ifCond .ne 5, 3) := by decide +kernel
theorem d_JLat_indexOf4_9 : decode b_JLat_indexOf4 9 = .ok (.iload_n 2, 1) := by decide +kernel
theorem d_JLat_indexOf4_10 : decode b_JLat_indexOf4 10 = .ok (.iconst 0, 1) := by decide +kernel
theorem d_JLat_indexOf4_11 : decode b_JLat_indexOf4 11 = .ok (.invokestatic 92, 3) := by decide +kernel
theorem d_JLat_indexOf4_14 : decode b_JLat_indexOf4 14 = .ok (.istore_n 2, 1) := by decide +kernel
theorem d_JLat_indexOf4_15 : decode b_JLat_indexOf4 15 = .ok (.iload_n 3, 1) := by decide +kernel
theorem d_JLat_indexOf4_16 : decode b_JLat_indexOf4 16 = .ok (.aload_n 0, 1) := by decide +kernel
theorem d_JLat_indexOf4_17 : decode b_JLat_indexOf4 17 = .ok (.arraylength, 1) := by decide +kernel
theorem d_JLat_indexOf4_18 : decode b_JLat_indexOf4 18 = .ok (.invokestatic 38, 3) := by decide +kernel
theorem d_JLat_indexOf4_21 : decode b_JLat_indexOf4 21 = .ok (.istore_n 3, 1) := by decide +kernel
theorem d_JLat_indexOf4_22 : decode b_JLat_indexOf4 22 = .ok (.iload_n 2, 1) := by decide +kernel
theorem d_JLat_indexOf4_23 : decode b_JLat_indexOf4 23 = .ok (.iload_n 3, 1) := by decide +kernel
theorem d_JLat_indexOf4_24 : decode b_JLat_indexOf4 24 = .ok (.if_icmp .lt 5, 3) := by decide +kernel
theorem d_JLat_indexOf4_29 : decode b_JLat_indexOf4 29 = .ok (.aload_n 0, 1) := by decide +kernel
theorem d_JLat_indexOf4_30 : decode b_JLat_indexOf4 30 = .ok (.iload_n 1, 1) := by decide +kernel
theorem d_JLat_indexOf4_31 : decode b_JLat_indexOf4 31 = .ok (.iload_n 2, 1) := by decide +kernel
theorem d_JLat_indexOf4_32 : decode b_JLat_indexOf4 32 = .ok (.iload_n 3, 1) := by decide +kernel
theorem d_JLat_indexOfChar4_7 : decode b_JLat_indexOfChar4 7 = .ok (.iload 5, 2) := by decide +kernel
theorem d_JLat_indexOfChar4_9 : decode b_JLat_indexOfChar4 9 = .ok (.iload_n 3, 1) := by decide +kernel
theorem d_JLat_indexOfChar4_10 : decode b_JLat_indexOfChar4 10 = .ok (.if_icmp .ge 21, 3) := by decide +kernel
theorem d_JLat_indexOfChar4_31 : decode b_JLat_indexOfChar4 31 = .ok (.iconst (-1), 1) := by decide +kernel
theorem d_JLat_indexOfChar4_32 : decode b_JLat_indexOfChar4 32 = .ok (.ireturn, 1) := by decide +kernel
theorem d_JLat_indexOfChar4_13 : decode b_JLat_indexOfChar4 13 = .ok (.aload_n 0, 1) := by decide +kernel
theorem d_JLat_indexOfChar4_14 : decode b_JLat_indexOfChar4 14 = .ok (.iload 5, 2) := by decide +kernel
theorem d_JLat_indexOfChar4_16 : decode b_JLat_indexOfChar4 16 = .ok (.baload, 1) := by decide +kernel
theorem d_JLat_indexOfChar4_17 : decode b_JLat_indexOfChar4 17 = .ok (.iload 4, 2) := by decide +kernel
theorem d_JLat_indexOfChar4_19 : decode b_JLat_indexOfChar4 19 = .ok (.if_icmp .ne 6, 3) := by decide +kernel
theorem d_JLat_indexOfChar4_25 : decode b_JLat_indexOfChar4 25 = .ok (.iinc 5 1, 3) := by decide +kernel
theorem d_JLat_indexOfChar4_28 : decode b_JLat_indexOfChar4 28 = .ok (.goto (-21), 3) := by decide +kernel
theorem d_JLat_indexOfChar4_22 : decode b_JLat_indexOfChar4 22 = .ok (.iload 5, 2) := by decide +kernel
theorem d_JLat_indexOfChar4_24 : decode b_JLat_indexOfChar4 24 = .ok (.ireturn, 1) := by decide +kernel
theorem d_JLat_indexOfChar4_0 : decode b_JLat_indexOfChar4 0 = .ok (.iload_n 1, 1) := by decide +kernel
theorem d_JLat_indexOfChar4_1 : decode b_JLat_indexOfChar4 1 = .ok (.i2b, 1) := by decide +kernel
theorem d_JLat_indexOfChar4_2 : decode b_JLat_indexOfChar4 2 = .ok (.istore 4, 2) := by decide +kernel
theorem d_JLat_indexOfChar4_4 : decode b_JLat_indexOfChar4 4 = .ok (.iload_n 2, 1) := by decide +kernel
theorem d_JLat_indexOfChar4_5 : decode b_JLat_indexOfChar4 5 = .ok (.istore 5, 2) := by decide +kernel
theorem d_JLat_indexOf4_33 : decode b_JLat_indexOf4 33 = .ok (.invokestatic 95, 3) := by decide +kernel
theorem d_JLat_indexOf4_36 : decode b_JLat_indexOf4 36 = .ok (.ireturn, 1) := by decide +kernel
theorem d_JLat_indexOf4_27 : decode b_JLat_indexOf4 27 = .ok (.iconst (-1), 1) := by decide +kernel
theorem d_JLat_indexOf4_28 : decode b_JLat_indexOf4 28 = .ok (.ireturn, 1) := by decide +kernel
theorem d_JLat_indexOf4_7 : decode b_JLat_indexOf4 7 = .ok (.iconst (-1), 1) := by decide +kernel
theorem d_JLat_indexOf4_8 : decode b_JLat_indexOf4 8 = .ok (.ireturn, 1) := by decide +kernel
theorem d_JStr_indexOf2_17 : decode b_JStr_indexOf2 17 = .ok (.invokestatic 637, 3) := by decide +kernel
theorem d_JStr_indexOf2_20 : decode b_JStr_indexOf2 20 = .ok (.goto 16, 3) := by decide +kernel
theorem d_JStr_indexOf2_36 : decode b_JStr_indexOf2 36 = .ok (.ireturn, 1) := by decide +kernel
theorem d_JStr_indexOf1_3 : decode b_JStr_indexOf1 3 = .ok (.invokevirtual 633, 3) := by decide +kernel
theorem d_JStr_indexOf1_6 : decode b_JStr_indexOf1 6 = .ok (.ireturn, 1) := by decide +kernel
theorem d_I_splitNext_78 : decode b_I_splitNext 78 = .ok (.invokevirtual 58, 3) := by decide +kernel
theorem d_I_splitNext_81 : decode b_I_splitNext 81 = .ok (.ifCond .lt 8, 3) := by decide +kernel
theorem d_I_splitNext_89 : decode b_I_splitNext 89 = .ok (.lconst 1, 1) := by decide +kernel
theorem d_I_splitNext_84 : decode b_I_splitNext 84 = .ok (.iload_n 1, 1) := by decide +kernel
theorem d_I_splitNext_85 : decode b_I_splitNext 85 = .ok (.i2l, 1) := by decide +kernel
theorem d_I_splitNext_86 : decode b_I_splitNext 86 = .ok (.goto 4, 3) := by decide +kernel
theorem d_I_splitNext_55 : decode b_I_splitNext 55 = .ok (.aload_n 0, 1) := by decide +kernel
theorem d_I_skipLine_0 : decode b_I_skipLine 0 = .ok (.aload_n 0, 1) := by decide +kernel
theorem d_I_skipLine_1 : decode b_I_skipLine 1 = .ok (.getfield 33, 3) := by decide +kernel
theorem d_I_skipLine_4 : decode b_I_skipLine 4 = .ok (.aload_n 0, 1) := by decide +kernel
theorem d_I_skipLine_5 : decode b_I_skipLine 5 = .ok (.getfield 19, 3) := by decide +kernel
theorem d_I_skipLine_8 : decode b_I_skipLine 8 = .ok (.if_icmp .ge 30, 3) := by decide +kernel
theorem d_I_skipLine_38 : decode b_I_skipLine 38 = .ok (.return_, 1) := by decide +kernel
theorem d_I_skipLine_11 : decode b_I_skipLine 11 = .ok (.aload_n 0, 1) := by decide +kernel
theorem d_I_skipLine_12 : decode b_I_skipLine 12 = .ok (.getfield 9, 3) := by decide +kernel
theorem d_I_skipLine_15 : decode b_I_skipLine 15 = .ok (.aload_n 0, 1) := by decide +kernel
theorem d_I_skipLine_16 : decode b_I_skipLine 16 = .ok (.getfield 33, 3) := by decide +kernel
theorem d_I_skipLine_19 : decode b_I_skipLine 19 = .ok (.caload, 1) := by decide +kernel
theorem d_I_skipLine_20 : decode b_I_skipLine 20 = .ok (.bipush 10, 2) := by decide +kernel
theorem d_I_skipLine_22 : decode b_I_skipLine 22 = .ok (.if_icmp .eq 16, 3) := by decide +kernel
theorem d_I_skipLine_25 : decode b_I_skipLine 25 = .ok (.aload_n 0, 1) := by decide +kernel
theorem d_I_skipLine_26 : decode b_I_skipLine 26 = .ok (.dup, 1) := by decide +kernel
theorem d_I_skipLine_27 : decode b_I_skipLine 27 = .ok (.getfield 33, 3) := by decide +kernel
theorem d_I_skipLine_30 : decode b_I_skipLine 30 = .ok (.iconst 1, 1) := by decide +kernel
theorem d_I_skipLine_31 : decode b_I_skipLine 31 = .ok (.iadd, 1) := by decide +kernel
theorem d_I_skipLine_32 : decode b_I_skipLine 32 = .ok (.putfield 33, 3) := by decide +kernel
theorem d_I_skipLine_35 : decode b_I_skipLine 35 = .ok (.goto (-35), 3) := by decide +kernel
theorem d_I_splitNext_56 : decode b_I_splitNext 56 = .ok (.invokevirtual 53, 3) := by decide +kernel
theorem d_I_splitNext_59 : decode b_I_splitNext 59 = .ok (.goto 34, 3) := by decide +kernel
theorem d_I_splitNext_39 : decode b_I_splitNext 39 = .ok (.aload_n 0, 1) := by decide +kernel
theorem d_I_splitNext_40 : decode b_I_splitNext 40 = .ok (.ldc2_w 39, 3) := by decide +kernel
theorem d_I_splitNext_43 : decode b_I_splitNext 43 = .ok (.invokevirtual 41, 3) := by decide +kernel
theorem d_I_splitNext_46 : decode b_I_splitNext 46 = .ok (.goto 47, 3) := by decide +kernel
theorem d_I_splitNext_17 : decode b_I_splitNext 17 = .ok (.aload_n 0, 1) := by decide +kernel
theorem d_I_splitNext_18 : decode b_I_splitNext 18 = .ok (.iload_n 1, 1) := by decide +kernel
theorem d_I_splitLetters_65 : decode b_I_splitLetters 65 = .ok (.invokevirtual 41, 3) := by decide +kernel
theorem d_I_splitLetters_68 : decode b_I_splitLetters 68 = .ok (.return_, 1) := by decide +kernel
theorem d_I_splitLetters_44 : decode b_I_splitLetters 44 = .ok (.aload_n 0, 1) := by decide +kernel
theorem d_I_splitLetters_45 : decode b_I_splitLetters 45 = .ok (.iload_n 1, 1) := by decide +kernel
theorem d_I_splitLetters_46 : decode b_I_splitLetters 46 = .ok (.invokestatic 64, 3) := by decide +kernel
theorem d_I_splitLetters_49 : decode b_I_splitLetters 49 = .ok (.ifCond .eq 11, 3) := by decide +kernel
theorem d_I_splitLetters_60 : decode b_I_splitLetters 60 = .ok (.aload_n 0, 1) := by decide +kernel
theorem d_I_splitLetters_61 : decode b_I_splitLetters 61 = .ok (.iload_n 2, 1) := by decide +kernel
theorem d_I_nameFrom_18 : decode b_I_nameFrom 18 = .ok (.iload 4, 2) := by decide +kernel
theorem d_I_nameFrom_20 : decode b_I_nameFrom 20 = .ok (.aload_n 0, 1) := by decide +kernel
theorem d_I_nameFrom_21 : decode b_I_nameFrom 21 = .ok (.getfield 33, 3) := by decide +kernel
theorem d_I_nameFrom_24 : decode b_I_nameFrom 24 = .ok (.if_icmp .ge 31, 3) := by decide +kernel
theorem d_I_nameFrom_55 : decode b_I_nameFrom 55 = .ok (.lload_n 2, 1) := by decide +kernel
theorem d_I_nameFrom_56 : decode b_I_nameFrom 56 = .ok (.ldc2_w 87, 3) := by decide +kernel
theorem d_I_nameFrom_59 : decode b_I_nameFrom 59 = .ok (.lor, 1) := by decide +kernel
theorem d_I_nameFrom_60 : decode b_I_nameFrom 60 = .ok (.lreturn, 1) := by decide +kernel
theorem d_I_nameFrom_27 : decode b_I_nameFrom 27 = .ok (.lload_n 2, 1) := by decide +kernel
theorem d_I_nameFrom_28 : decode b_I_nameFrom 28 = .ok (.aload_n 0, 1) := by decide +kernel
theorem d_I_nameFrom_29 : decode b_I_nameFrom 29 = .ok (.getfield 9, 3) := by decide +kernel
theorem d_I_nameFrom_32 : decode b_I_nameFrom 32 = .ok (.iload 4, 2) := by decide +kernel
theorem d_I_nameFrom_34 : decode b_I_nameFrom 34 = .ok (.caload, 1) := by decide +kernel
theorem d_I_nameFrom_35 : decode b_I_nameFrom 35 = .ok (.i2l, 1) := by decide +kernel
theorem d_I_nameFrom_36 : decode b_I_nameFrom 36 = .ok (.bipush 56, 2) := by decide +kernel
theorem d_I_nameFrom_38 : decode b_I_nameFrom 38 = .ok (.bipush 8, 2) := by decide +kernel
theorem d_I_nameFrom_40 : decode b_I_nameFrom 40 = .ok (.iload 4, 2) := by decide +kernel
theorem d_I_nameFrom_42 : decode b_I_nameFrom 42 = .ok (.iload_n 1, 1) := by decide +kernel
theorem d_I_nameFrom_43 : decode b_I_nameFrom 43 = .ok (.isub, 1) := by decide +kernel
theorem d_I_nameFrom_44 : decode b_I_nameFrom 44 = .ok (.imul, 1) := by decide +kernel
theorem d_I_nameFrom_45 : decode b_I_nameFrom 45 = .ok (.isub, 1) := by decide +kernel
theorem d_I_nameFrom_46 : decode b_I_nameFrom 46 = .ok (.lshl, 1) := by decide +kernel
theorem d_I_nameFrom_47 : decode b_I_nameFrom 47 = .ok (.lor, 1) := by decide +kernel
theorem d_I_nameFrom_48 : decode b_I_nameFrom 48 = .ok (.lstore_n 2, 1) := by decide +kernel
theorem d_I_nameFrom_49 : decode b_I_nameFrom 49 = .ok (.iinc 4 1, 3) := by decide +kernel
theorem d_I_nameFrom_52 : decode b_I_nameFrom 52 = .ok (.goto (-34), 3) := by decide +kernel
theorem d_I_nameFrom_0 : decode b_I_nameFrom 0 = .ok (.aload_n 0, 1) := by decide +kernel
theorem d_I_nameFrom_1 : decode b_I_nameFrom 1 = .ok (.getfield 33, 3) := by decide +kernel
theorem d_I_nameFrom_4 : decode b_I_nameFrom 4 = .ok (.iload_n 1, 1) := by decide +kernel
theorem d_I_nameFrom_5 : decode b_I_nameFrom 5 = .ok (.isub, 1) := by decide +kernel
theorem d_I_nameFrom_6 : decode b_I_nameFrom 6 = .ok (.bipush 6, 2) := by decide +kernel
theorem d_I_nameFrom_8 : decode b_I_nameFrom 8 = .ok (.if_icmp .le 5, 3) := by decide +kernel
theorem d_I_nameFrom_13 : decode b_I_nameFrom 13 = .ok (.lconst 0, 1) := by decide +kernel
theorem d_I_nameFrom_14 : decode b_I_nameFrom 14 = .ok (.lstore_n 2, 1) := by decide +kernel
theorem d_I_nameFrom_15 : decode b_I_nameFrom 15 = .ok (.iload_n 1, 1) := by decide +kernel
theorem d_I_nameFrom_16 : decode b_I_nameFrom 16 = .ok (.istore 4, 2) := by decide +kernel
theorem d_I_nameFrom_11 : decode b_I_nameFrom 11 = .ok (.lconst 1, 1) := by decide +kernel
theorem d_I_nameFrom_12 : decode b_I_nameFrom 12 = .ok (.lreturn, 1) := by decide +kernel
theorem d_I_splitLetters_62 : decode b_I_splitLetters 62 = .ok (.invokevirtual 70, 3) := by decide +kernel
theorem d_I_splitLetters_52 : decode b_I_splitLetters 52 = .ok (.aload_n 0, 1) := by decide +kernel
theorem d_I_splitLetters_53 : decode b_I_splitLetters 53 = .ok (.iload_n 2, 1) := by decide +kernel
theorem d_I_numberFrom_5 : decode b_I_numberFrom 5 = .ok (.iload 4, 2) := by decide +kernel
theorem d_I_numberFrom_7 : decode b_I_numberFrom 7 = .ok (.aload_n 0, 1) := by decide +kernel
theorem d_I_numberFrom_8 : decode b_I_numberFrom 8 = .ok (.getfield 33, 3) := by decide +kernel
theorem d_I_numberFrom_11 : decode b_I_numberFrom 11 = .ok (.if_icmp .ge 53, 3) := by decide +kernel
theorem d_I_numberFrom_64 : decode b_I_numberFrom 64 = .ok (.lload_n 2, 1) := by decide +kernel
theorem d_I_numberFrom_65 : decode b_I_numberFrom 65 = .ok (.ldc2_w 83, 3) := by decide +kernel
theorem d_I_numberFrom_68 : decode b_I_numberFrom 68 = .ok (.lcmp, 1) := by decide +kernel
theorem d_I_numberFrom_69 : decode b_I_numberFrom 69 = .ok (.ifCond .le 7, 3) := by decide +kernel
theorem d_I_numberFrom_76 : decode b_I_numberFrom 76 = .ok (.lload_n 2, 1) := by decide +kernel
theorem d_I_numberFrom_77 : decode b_I_numberFrom 77 = .ok (.bipush 16, 2) := by decide +kernel
theorem d_I_numberFrom_79 : decode b_I_numberFrom 79 = .ok (.lshl, 1) := by decide +kernel
theorem d_I_numberFrom_80 : decode b_I_numberFrom 80 = .ok (.ldc2_w 85, 3) := by decide +kernel
theorem d_I_numberFrom_83 : decode b_I_numberFrom 83 = .ok (.lor, 1) := by decide +kernel
theorem d_I_numberFrom_84 : decode b_I_numberFrom 84 = .ok (.lreturn, 1) := by decide +kernel
theorem d_I_numberFrom_72 : decode b_I_numberFrom 72 = .ok (.lconst 1, 1) := by decide +kernel
theorem d_I_numberFrom_73 : decode b_I_numberFrom 73 = .ok (.goto 11, 3) := by decide +kernel
theorem d_I_numberFrom_14 : decode b_I_numberFrom 14 = .ok (.aload_n 0, 1) := by decide +kernel
theorem d_I_numberFrom_15 : decode b_I_numberFrom 15 = .ok (.getfield 9, 3) := by decide +kernel
theorem d_I_numberFrom_18 : decode b_I_numberFrom 18 = .ok (.iload 4, 2) := by decide +kernel
theorem d_I_numberFrom_20 : decode b_I_numberFrom 20 = .ok (.caload, 1) := by decide +kernel
theorem d_I_numberFrom_21 : decode b_I_numberFrom 21 = .ok (.istore 5, 2) := by decide +kernel
theorem d_I_numberFrom_23 : decode b_I_numberFrom 23 = .ok (.iload 5, 2) := by decide +kernel
theorem d_I_numberFrom_25 : decode b_I_numberFrom 25 = .ok (.bipush 48, 2) := by decide +kernel
theorem d_I_numberFrom_27 : decode b_I_numberFrom 27 = .ok (.if_icmp .lt 10, 3) := by decide +kernel
theorem d_I_numberFrom_37 : decode b_I_numberFrom 37 = .ok (.lconst 1, 1) := by decide +kernel
theorem d_I_numberFrom_38 : decode b_I_numberFrom 38 = .ok (.lreturn, 1) := by decide +kernel
theorem d_I_numberFrom_30 : decode b_I_numberFrom 30 = .ok (.iload 5, 2) := by decide +kernel
theorem d_I_numberFrom_32 : decode b_I_numberFrom 32 = .ok (.bipush 55, 2) := by decide +kernel
theorem d_I_numberFrom_34 : decode b_I_numberFrom 34 = .ok (.if_icmp .le 5, 3) := by decide +kernel
theorem d_I_numberFrom_39 : decode b_I_numberFrom 39 = .ok (.lload_n 2, 1) := by decide +kernel
theorem d_I_numberFrom_40 : decode b_I_numberFrom 40 = .ok (.ldc2_w 73, 3) := by decide +kernel
theorem d_I_numberFrom_43 : decode b_I_numberFrom 43 = .ok (.lmul, 1) := by decide +kernel
theorem d_I_numberFrom_44 : decode b_I_numberFrom 44 = .ok (.iload 5, 2) := by decide +kernel
theorem d_I_numberFrom_46 : decode b_I_numberFrom 46 = .ok (.bipush 48, 2) := by decide +kernel
theorem d_I_numberFrom_48 : decode b_I_numberFrom 48 = .ok (.isub, 1) := by decide +kernel
theorem d_I_numberFrom_49 : decode b_I_numberFrom 49 = .ok (.i2l, 1) := by decide +kernel
theorem d_I_numberFrom_50 : decode b_I_numberFrom 50 = .ok (.ladd, 1) := by decide +kernel
theorem d_I_numberFrom_51 : decode b_I_numberFrom 51 = .ok (.ldc2_w 75, 3) := by decide +kernel
theorem d_I_numberFrom_54 : decode b_I_numberFrom 54 = .ok (.invokestatic 77, 3) := by decide +kernel
theorem d_I_numberFrom_57 : decode b_I_numberFrom 57 = .ok (.lstore_n 2, 1) := by decide +kernel
theorem d_I_numberFrom_58 : decode b_I_numberFrom 58 = .ok (.iinc 4 1, 3) := by decide +kernel
theorem d_I_numberFrom_61 : decode b_I_numberFrom 61 = .ok (.goto (-56), 3) := by decide +kernel
theorem d_I_numberFrom_0 : decode b_I_numberFrom 0 = .ok (.lconst 0, 1) := by decide +kernel
theorem d_I_numberFrom_1 : decode b_I_numberFrom 1 = .ok (.lstore_n 2, 1) := by decide +kernel
theorem d_I_numberFrom_2 : decode b_I_numberFrom 2 = .ok (.iload_n 1, 1) := by decide +kernel
theorem d_I_numberFrom_3 : decode b_I_numberFrom 3 = .ok (.istore 4, 2) := by decide +kernel
theorem d_I_splitLetters_54 : decode b_I_splitLetters 54 = .ok (.invokevirtual 67, 3) := by decide +kernel
theorem d_I_splitLetters_57 : decode b_I_splitLetters 57 = .ok (.goto 8, 3) := by decide +kernel
theorem d_I_splitLetters_5 : decode b_I_splitLetters 5 = .ok (.aload_n 0, 1) := by decide +kernel
theorem d_I_splitLetters_6 : decode b_I_splitLetters 6 = .ok (.getfield 33, 3) := by decide +kernel
theorem d_I_splitLetters_9 : decode b_I_splitLetters 9 = .ok (.aload_n 0, 1) := by decide +kernel
theorem d_I_splitLetters_10 : decode b_I_splitLetters 10 = .ok (.getfield 19, 3) := by decide +kernel
theorem d_I_splitLetters_13 : decode b_I_splitLetters 13 = .ok (.if_icmp .ge 31, 3) := by decide +kernel
theorem d_I_splitLetters_16 : decode b_I_splitLetters 16 = .ok (.aload_n 0, 1) := by decide +kernel
theorem d_I_splitLetters_17 : decode b_I_splitLetters 17 = .ok (.getfield 9, 3) := by decide +kernel
theorem d_I_splitLetters_20 : decode b_I_splitLetters 20 = .ok (.aload_n 0, 1) := by decide +kernel
theorem d_I_splitLetters_21 : decode b_I_splitLetters 21 = .ok (.getfield 33, 3) := by decide +kernel
theorem d_I_splitLetters_24 : decode b_I_splitLetters 24 = .ok (.caload, 1) := by decide +kernel
theorem d_I_splitLetters_25 : decode b_I_splitLetters 25 = .ok (.invokestatic 45, 3) := by decide +kernel
theorem d_I_splitLetters_28 : decode b_I_splitLetters 28 = .ok (.ifCond .eq 16, 3) := by decide +kernel
theorem d_I_splitLetters_31 : decode b_I_splitLetters 31 = .ok (.aload_n 0, 1) := by decide +kernel
theorem d_I_splitLetters_32 : decode b_I_splitLetters 32 = .ok (.dup, 1) := by decide +kernel
theorem d_I_splitLetters_33 : decode b_I_splitLetters 33 = .ok (.getfield 33, 3) := by decide +kernel
theorem d_I_splitLetters_36 : decode b_I_splitLetters 36 = .ok (.iconst 1, 1) := by decide +kernel
theorem d_I_splitLetters_37 : decode b_I_splitLetters 37 = .ok (.iadd, 1) := by decide +kernel
theorem d_I_splitLetters_38 : decode b_I_splitLetters 38 = .ok (.putfield 33, 3) := by decide +kernel
theorem d_I_splitLetters_41 : decode b_I_splitLetters 41 = .ok (.goto (-36), 3) := by decide +kernel
theorem d_I_splitLetters_0 : decode b_I_splitLetters 0 = .ok (.aload_n 0, 1) := by decide +kernel
theorem d_I_splitLetters_1 : decode b_I_splitLetters 1 = .ok (.getfield 33, 3) := by decide +kernel
theorem d_I_splitLetters_4 : decode b_I_splitLetters 4 = .ok (.istore_n 2, 1) := by decide +kernel
theorem d_I_splitNext_19 : decode b_I_splitNext 19 = .ok (.invokevirtual 49, 3) := by decide +kernel
theorem d_I_splitNext_22 : decode b_I_splitNext 22 = .ok (.return_, 1) := by decide +kernel
theorem d_I_split_31 : decode b_I_split 31 = .ok (.invokevirtual 36, 3) := by decide +kernel
theorem d_I_split_34 : decode b_I_split 34 = .ok (.iinc 1 1, 3) := by decide +kernel
theorem d_I_split_37 : decode b_I_split 37 = .ok (.goto (-25), 3) := by decide +kernel
theorem d_I_split_0 : decode b_I_split 0 = .ok (.aload_n 0, 1) := by decide +kernel
theorem d_I_split_1 : decode b_I_split 1 = .ok (.iconst 0, 1) := by decide +kernel
theorem d_I_split_2 : decode b_I_split 2 = .ok (.putfield 23, 3) := by decide +kernel
theorem d_I_split_5 : decode b_I_split 5 = .ok (.aload_n 0, 1) := by decide +kernel
theorem d_I_split_6 : decode b_I_split 6 = .ok (.iconst 0, 1) := by decide +kernel
theorem d_I_split_7 : decode b_I_split 7 = .ok (.putfield 33, 3) := by decide +kernel
theorem d_I_split_10 : decode b_I_split 10 = .ok (.iconst 0, 1) := by decide +kernel
theorem d_I_split_11 : decode b_I_split 11 = .ok (.istore_n 1, 1) := by decide +kernel
theorem d_T_clear_0 : decode b_T_clear 0 = .ok (.aload_n 0, 1) := by decide +kernel
theorem d_T_clear_1 : decode b_T_clear 1 = .ok (.iconst 0, 1) := by decide +kernel
theorem d_T_clear_2 : decode b_T_clear 2 = .ok (.putfield 15, 3) := by decide +kernel
theorem d_T_clear_5 : decode b_T_clear 5 = .ok (.return_, 1) := by decide +kernel
theorem d_T_characterAt_0 : decode b_T_characterAt 0 = .ok (.iload_n 1, 1) := by decide +kernel
theorem d_T_characterAt_1 : decode b_T_characterAt 1 = .ok (.ifCond .lt 20, 3) := by decide +kernel
theorem d_T_characterAt_21 : decode b_T_characterAt 21 = .ok (.iconst (-1), 1) := by decide +kernel
theorem d_T_characterAt_22 : decode b_T_characterAt 22 = .ok (.ireturn, 1) := by decide +kernel
theorem d_T_characterAt_4 : decode b_T_characterAt 4 = .ok (.iload_n 1, 1) := by decide +kernel
theorem d_T_characterAt_5 : decode b_T_characterAt 5 = .ok (.aload_n 0, 1) := by decide +kernel
theorem d_T_characterAt_6 : decode b_T_characterAt 6 = .ok (.getfield 15, 3) := by decide +kernel
theorem d_T_characterAt_9 : decode b_T_characterAt 9 = .ok (.if_icmp .ge 12, 3) := by decide +kernel
theorem d_T_characterAt_12 : decode b_T_characterAt 12 = .ok (.aload_n 0, 1) := by decide +kernel
theorem d_T_characterAt_13 : decode b_T_characterAt 13 = .ok (.getfield 9, 3) := by decide +kernel
theorem d_T_characterAt_16 : decode b_T_characterAt 16 = .ok (.iload_n 1, 1) := by decide +kernel
theorem d_T_characterAt_17 : decode b_T_characterAt 17 = .ok (.caload, 1) := by decide +kernel
theorem d_T_characterAt_18 : decode b_T_characterAt 18 = .ok (.goto 4, 3) := by decide +kernel
theorem d_T_writeTransfer_38 : decode b_T_writeTransfer 38 = .ok (.aload_n 0, 1) := by decide +kernel
theorem d_T_writeTransfer_39 : decode b_T_writeTransfer 39 = .ok (.iload_n 1, 1) := by decide +kernel
theorem d_T_writeTransfer_40 : decode b_T_writeTransfer 40 = .ok (.bipush 63, 2) := by decide +kernel
theorem d_T_writeTransfer_42 : decode b_T_writeTransfer 42 = .ok (.iand, 1) := by decide +kernel
theorem d_T_writeNumber_31 : decode b_T_writeNumber 31 = .ok (.iinc 2 (-3), 3) := by decide +kernel
theorem d_T_writeNumber_34 : decode b_T_writeNumber 34 = .ok (.goto (-31), 3) := by decide +kernel
theorem d_T_writeNumber_17 : decode b_T_writeNumber 17 = .ok (.aload_n 0, 1) := by decide +kernel
theorem d_T_writeNumber_18 : decode b_T_writeNumber 18 = .ok (.bipush 48, 2) := by decide +kernel
theorem d_T_writeNumber_20 : decode b_T_writeNumber 20 = .ok (.iload_n 1, 1) := by decide +kernel
theorem d_T_writeNumber_21 : decode b_T_writeNumber 21 = .ok (.iload_n 2, 1) := by decide +kernel
theorem d_T_writeNumber_22 : decode b_T_writeNumber 22 = .ok (.ishr, 1) := by decide +kernel
theorem d_T_writeNumber_23 : decode b_T_writeNumber 23 = .ok (.bipush 7, 2) := by decide +kernel
theorem d_T_writeNumber_25 : decode b_T_writeNumber 25 = .ok (.iand, 1) := by decide +kernel
theorem d_T_writeNumber_26 : decode b_T_writeNumber 26 = .ok (.iadd, 1) := by decide +kernel
theorem d_T_writeNumber_27 : decode b_T_writeNumber 27 = .ok (.i2c, 1) := by decide +kernel
theorem d_T_write_0 : decode b_T_write 0 = .ok (.aload_n 0, 1) := by decide +kernel
theorem d_T_write_1 : decode b_T_write 1 = .ok (.getfield 15, 3) := by decide +kernel
theorem d_T_write_4 : decode b_T_write 4 = .ok (.bipush 32, 2) := by decide +kernel
theorem d_T_write_6 : decode b_T_write 6 = .ok (.if_icmp .ge 23, 3) := by decide +kernel
theorem d_T_write_29 : decode b_T_write 29 = .ok (.return_, 1) := by decide +kernel
theorem d_T_write_9 : decode b_T_write 9 = .ok (.aload_n 0, 1) := by decide +kernel
theorem d_T_write_10 : decode b_T_write 10 = .ok (.getfield 9, 3) := by decide +kernel
theorem d_T_write_13 : decode b_T_write 13 = .ok (.aload_n 0, 1) := by decide +kernel
theorem d_T_write_14 : decode b_T_write 14 = .ok (.getfield 15, 3) := by decide +kernel
theorem d_T_write_17 : decode b_T_write 17 = .ok (.iload_n 1, 1) := by decide +kernel
theorem d_T_write_18 : decode b_T_write 18 = .ok (.castore, 1) := by decide +kernel
theorem d_T_write_19 : decode b_T_write 19 = .ok (.aload_n 0, 1) := by decide +kernel
theorem d_T_write_20 : decode b_T_write 20 = .ok (.dup, 1) := by decide +kernel
theorem d_T_write_21 : decode b_T_write 21 = .ok (.getfield 15, 3) := by decide +kernel
theorem d_T_write_24 : decode b_T_write 24 = .ok (.iconst 1, 1) := by decide +kernel
theorem d_T_write_25 : decode b_T_write 25 = .ok (.iadd, 1) := by decide +kernel
theorem d_T_write_26 : decode b_T_write 26 = .ok (.putfield 15, 3) := by decide +kernel
theorem d_T_writeNumber_28 : decode b_T_writeNumber 28 = .ok (.invokevirtual 36, 3) := by decide +kernel
theorem d_T_writeNumber_3 : decode b_T_writeNumber 3 = .ok (.iload_n 2, 1) := by decide +kernel
theorem d_T_writeNumber_4 : decode b_T_writeNumber 4 = .ok (.ifCond .lt 33, 3) := by decide +kernel
theorem d_T_writeNumber_37 : decode b_T_writeNumber 37 = .ok (.return_, 1) := by decide +kernel
theorem d_T_writeNumber_7 : decode b_T_writeNumber 7 = .ok (.iload_n 2, 1) := by decide +kernel
theorem d_T_writeNumber_8 : decode b_T_writeNumber 8 = .ok (.ifCond .eq 9, 3) := by decide +kernel
theorem d_T_writeNumber_11 : decode b_T_writeNumber 11 = .ok (.iload_n 1, 1) := by decide +kernel
theorem d_T_writeNumber_12 : decode b_T_writeNumber 12 = .ok (.iload_n 2, 1) := by decide +kernel
theorem d_T_writeNumber_13 : decode b_T_writeNumber 13 = .ok (.ishr, 1) := by decide +kernel
theorem d_T_writeNumber_14 : decode b_T_writeNumber 14 = .ok (.ifCond .eq 17, 3) := by decide +kernel
theorem d_T_writeNumber_0 : decode b_T_writeNumber 0 = .ok (.bipush 15, 2) := by decide +kernel
theorem d_T_writeNumber_2 : decode b_T_writeNumber 2 = .ok (.istore_n 2, 1) := by decide +kernel
theorem d_T_writeTransfer_43 : decode b_T_writeTransfer 43 = .ok (.invokevirtual 44, 3) := by decide +kernel
theorem d_T_writeTransfer_46 : decode b_T_writeTransfer 46 = .ok (.return_, 1) := by decide +kernel
theorem d_T_writeTransfer_0 : decode b_T_writeTransfer 0 = .ok (.aload_n 0, 1) := by decide +kernel
theorem d_T_writeTransfer_1 : decode b_T_writeTransfer 1 = .ok (.ldc 69, 2) := by decide +kernel
theorem d_T_writeTransfer_3 : decode b_T_writeTransfer 3 = .ok (.iload_n 1, 1) := by decide +kernel
theorem d_T_writeTransfer_4 : decode b_T_writeTransfer 4 = .ok (.bipush 6, 2) := by decide +kernel
theorem d_T_writeTransfer_6 : decode b_T_writeTransfer 6 = .ok (.ishr, 1) := by decide +kernel
theorem d_T_writeTransfer_7 : decode b_T_writeTransfer 7 = .ok (.iconst 3, 1) := by decide +kernel
theorem d_T_writeTransfer_8 : decode b_T_writeTransfer 8 = .ok (.iand, 1) := by decide +kernel
theorem d_T_writeLetter_0 : decode b_T_writeLetter 0 = .ok (.iload_n 2, 1) := by decide +kernel
theorem d_T_writeLetter_1 : decode b_T_writeLetter 1 = .ok (.iconst 1, 1) := by decide +kernel
theorem d_T_writeLetter_2 : decode b_T_writeLetter 2 = .ok (.if_icmp .lt 22, 3) := by decide +kernel
theorem d_T_writeLetter_24 : decode b_T_writeLetter 24 = .ok (.return_, 1) := by decide +kernel
theorem d_T_writeLetter_5 : decode b_T_writeLetter 5 = .ok (.iload_n 2, 1) := by decide +kernel
theorem d_T_writeLetter_6 : decode b_T_writeLetter 6 = .ok (.aload_n 1, 1) := by decide +kernel
theorem d_T_writeLetter_7 : decode b_T_writeLetter 7 = .ok (.invokevirtual 71, 3) := by decide +kernel
theorem d_T_writeLetter_10 : decode b_T_writeLetter 10 = .ok (.if_icmp .gt 14, 3) := by decide +kernel
theorem d_T_writeLetter_13 : decode b_T_writeLetter 13 = .ok (.aload_n 0, 1) := by decide +kernel
theorem d_T_writeLetter_14 : decode b_T_writeLetter 14 = .ok (.aload_n 1, 1) := by decide +kernel
theorem d_T_writeLetter_15 : decode b_T_writeLetter 15 = .ok (.iload_n 2, 1) := by decide +kernel
theorem d_T_writeLetter_16 : decode b_T_writeLetter 16 = .ok (.iconst 1, 1) := by decide +kernel
theorem d_T_writeLetter_17 : decode b_T_writeLetter 17 = .ok (.isub, 1) := by decide +kernel
theorem d_JStr_charAt1_0 : decode b_JStr_charAt1 0 = .ok (.aload_n 0, 1) := by decide +kernel
theorem d_JStr_charAt1_1 : decode b_JStr_charAt1 1 = .ok (.invokevirtual 492, 3) := by decide +kernel
theorem d_JStr_charAt1_4 : decode b_JStr_charAt1 4 = .ok (.ifCond .eq 12, 3) := by decide +kernel
theorem d_JStr_charAt1_16 : decode b_JStr_charAt1 16 = .ok (.aload_n 0, 1) := by decide +kernel
theorem d_JStr_charAt1_17 : decode b_JStr_charAt1 17 = .ok (.getfield 9, 3) := by decide +kernel
theorem d_JStr_charAt1_20 : decode b_JStr_charAt1 20 = .ok (.iload_n 1, 1) := by decide +kernel
theorem d_JStr_charAt1_7 : decode b_JStr_charAt1 7 = .ok (.aload_n 0, 1) := by decide +kernel
theorem d_JStr_charAt1_8 : decode b_JStr_charAt1 8 = .ok (.getfield 9, 3) := by decide +kernel
theorem d_JStr_charAt1_11 : decode b_JStr_charAt1 11 = .ok (.iload_n 1, 1) := by decide +kernel
theorem d_JLat_charAt2_0 : decode b_JLat_charAt2 0 = .ok (.iload_n 1, 1) := by decide +kernel
theorem d_JLat_charAt2_1 : decode b_JLat_charAt2 1 = .ok (.aload_n 0, 1) := by decide +kernel
theorem d_JLat_charAt2_2 : decode b_JLat_charAt2 2 = .ok (.arraylength, 1) := by decide +kernel
theorem d_JStr_checkIndex2_0 : decode b_JStr_checkIndex2 0 = .ok (.iload_n 0, 1) := by decide +kernel
theorem d_JStr_checkIndex2_1 : decode b_JStr_checkIndex2 1 = .ok (.iload_n 1, 1) := by decide +kernel
theorem d_JStr_checkIndex2_2 : decode b_JStr_checkIndex2 2 = .ok (.getstatic 1053, 3) := by decide +kernel
theorem d_JPre_checkIndex3_9 : decode b_JPre_checkIndex3 9 = .ok (.aload_n 2, 1) := by decide +kernel
theorem d_JPre_checkIndex3_10 : decode b_JPre_checkIndex3 10 = .ok (.iload_n 0, 1) := by decide +kernel
theorem d_JPre_checkIndex3_11 : decode b_JPre_checkIndex3 11 = .ok (.iload_n 1, 1) := by decide +kernel
theorem d_JPre_checkIndex3_0 : decode b_JPre_checkIndex3 0 = .ok (.iload_n 0, 1) := by decide +kernel
theorem d_JPre_checkIndex3_1 : decode b_JPre_checkIndex3 1 = .ok (.ifCond .lt 8, 3) := by decide +kernel
theorem d_JPre_checkIndex3_4 : decode b_JPre_checkIndex3 4 = .ok (.iload_n 0, 1) := by decide +kernel
theorem d_JPre_checkIndex3_5 : decode b_JPre_checkIndex3 5 = .ok (.iload_n 1, 1) := by decide +kernel
theorem d_JPre_checkIndex3_6 : decode b_JPre_checkIndex3 6 = .ok (.if_icmp .lt 10, 3) := by decide +kernel
theorem d_JPre_checkIndex3_16 : decode b_JPre_checkIndex3 16 = .ok (.iload_n 0, 1) := by decide +kernel
theorem d_JPre_checkIndex3_17 : decode b_JPre_checkIndex3 17 = .ok (.ireturn, 1) := by decide +kernel
theorem d_JStr_checkIndex2_5 : decode b_JStr_checkIndex2 5 = .ok (.invokestatic 1059, 3) := by decide +kernel
theorem d_JStr_checkIndex2_8 : decode b_JStr_checkIndex2 8 = .ok (.pop, 1) := by decide +kernel
theorem d_JStr_checkIndex2_9 : decode b_JStr_checkIndex2 9 = .ok (.return_, 1) := by decide +kernel
theorem d_JLat_charAt2_3 : decode b_JLat_charAt2 3 = .ok (.invokestatic 9, 3) := by decide +kernel
theorem d_JLat_charAt2_6 : decode b_JLat_charAt2 6 = .ok (.aload_n 0, 1) := by decide +kernel
theorem d_JLat_charAt2_7 : decode b_JLat_charAt2 7 = .ok (.iload_n 1, 1) := by decide +kernel
theorem d_JLat_charAt2_8 : decode b_JLat_charAt2 8 = .ok (.baload, 1) := by decide +kernel
theorem d_JLat_charAt2_9 : decode b_JLat_charAt2 9 = .ok (.sipush 255, 3) := by decide +kernel
theorem d_JLat_charAt2_12 : decode b_JLat_charAt2 12 = .ok (.iand, 1) := by decide +kernel
theorem d_JLat_charAt2_13 : decode b_JLat_charAt2 13 = .ok (.i2c, 1) := by decide +kernel
theorem d_JLat_charAt2_14 : decode b_JLat_charAt2 14 = .ok (.ireturn, 1) := by decide +kernel
theorem d_JStr_charAt1_12 : decode b_JStr_charAt1 12 = .ok (.invokestatic 495, 3) := by decide +kernel
theorem d_JStr_charAt1_15 : decode b_JStr_charAt1 15 = .ok (.ireturn, 1) := by decide +kernel
theorem d_T_writeLetter_18 : decode b_T_writeLetter 18 = .ok (.invokevirtual 76, 3) := by decide +kernel
theorem d_T_writeLetter_21 : decode b_T_writeLetter 21 = .ok (.invokevirtual 36, 3) := by decide +kernel
theorem d_T_writeTransfer_9 : decode b_T_writeTransfer 9 = .ok (.invokevirtual 57, 3) := by decide +kernel
theorem d_T_writeTransfer_12 : decode b_T_writeTransfer 12 = .ok (.aload_n 0, 1) := by decide +kernel
theorem d_T_writeTransfer_13 : decode b_T_writeTransfer 13 = .ok (.bipush 32, 2) := by decide +kernel
theorem d_T_writeTransfer_15 : decode b_T_writeTransfer 15 = .ok (.invokevirtual 36, 3) := by decide +kernel
theorem d_T_writeTransfer_18 : decode b_T_writeTransfer 18 = .ok (.iload_n 2, 1) := by decide +kernel
theorem d_T_writeTransfer_19 : decode b_T_writeTransfer 19 = .ok (.ifCond .eq 19, 3) := by decide +kernel
theorem d_T_writeTransfer_22 : decode b_T_writeTransfer 22 = .ok (.aload_n 0, 1) := by decide +kernel
theorem d_T_writeTransfer_23 : decode b_T_writeTransfer 23 = .ok (.iload_n 1, 1) := by decide +kernel
theorem d_T_writeTransfer_24 : decode b_T_writeTransfer 24 = .ok (.bipush 11, 2) := by decide +kernel
theorem d_T_writeTransfer_26 : decode b_T_writeTransfer 26 = .ok (.ishr, 1) := by decide +kernel
theorem d_T_writeTransfer_27 : decode b_T_writeTransfer 27 = .ok (.iconst 3, 1) := by decide +kernel
theorem d_T_writeTransfer_28 : decode b_T_writeTransfer 28 = .ok (.iand, 1) := by decide +kernel
theorem d_T_writeTransfer_29 : decode b_T_writeTransfer 29 = .ok (.invokevirtual 44, 3) := by decide +kernel
theorem d_T_writeTransfer_32 : decode b_T_writeTransfer 32 = .ok (.aload_n 0, 1) := by decide +kernel
theorem d_T_writeTransfer_33 : decode b_T_writeTransfer 33 = .ok (.bipush 44, 2) := by decide +kernel
theorem d_T_writeTransfer_35 : decode b_T_writeTransfer 35 = .ok (.invokevirtual 36, 3) := by decide +kernel
theorem d_T_describe_140 : decode b_T_describe 140 = .ok (.invokevirtual 50, 3) := by decide +kernel
theorem d_T_describe_143 : decode b_T_describe 143 = .ok (.goto 47, 3) := by decide +kernel
theorem d_T_describe_190 : decode b_T_describe 190 = .ok (.aload_n 0, 1) := by decide +kernel
theorem d_T_describe_191 : decode b_T_describe 191 = .ok (.getfield 15, 3) := by decide +kernel
theorem d_T_describe_194 : decode b_T_describe 194 = .ok (.ireturn, 1) := by decide +kernel
theorem d_T_describe_0 : decode b_T_describe 0 = .ok (.aload_n 0, 1) := by decide +kernel
theorem d_T_describe_1 : decode b_T_describe 1 = .ok (.iconst 0, 1) := by decide +kernel
theorem d_T_describe_2 : decode b_T_describe 2 = .ok (.putfield 15, 3) := by decide +kernel
theorem d_T_describe_5 : decode b_T_describe 5 = .ok (.iload_n 1, 1) := by decide +kernel
theorem d_S_making_2 : decode b_S_making 2 = .ok (.iload_n 1, 1) := by decide +kernel
theorem d_S_making_3 : decode b_S_making 3 = .ok (.getstatic 152, 3) := by decide +kernel
theorem d_S_making_6 : decode b_S_making 6 = .ok (.arraylength, 1) := by decide +kernel
theorem d_S_making_7 : decode b_S_making 7 = .ok (.if_icmp .ge 36, 3) := by decide +kernel
theorem d_S_making_43 : decode b_S_making 43 = .ok (.getstatic 108, 3) := by decide +kernel
theorem d_S_making_46 : decode b_S_making 46 = .ok (.areturn, 1) := by decide +kernel
theorem d_S_making_10 : decode b_S_making 10 = .ok (.iload_n 0, 1) := by decide +kernel
theorem d_S_making_11 : decode b_S_making 11 = .ok (.getstatic 152, 3) := by decide +kernel
theorem d_S_making_14 : decode b_S_making 14 = .ok (.iload_n 1, 1) := by decide +kernel
theorem d_S_making_15 : decode b_S_making 15 = .ok (.aaload, 1) := by decide +kernel
theorem d_S_making_16 : decode b_S_making 16 = .ok (.getfield 141, 3) := by decide +kernel
theorem d_S_making_19 : decode b_S_making 19 = .ok (.iand, 1) := by decide +kernel
theorem d_S_making_20 : decode b_S_making 20 = .ok (.getstatic 152, 3) := by decide +kernel
theorem d_S_making_23 : decode b_S_making 23 = .ok (.iload_n 1, 1) := by decide +kernel
theorem d_S_making_24 : decode b_S_making 24 = .ok (.aaload, 1) := by decide +kernel
theorem d_S_making_25 : decode b_S_making 25 = .ok (.getfield 138, 3) := by decide +kernel
theorem d_S_making_28 : decode b_S_making 28 = .ok (.if_icmp .ne 9, 3) := by decide +kernel
theorem d_S_making_37 : decode b_S_making 37 = .ok (.iinc 1 1, 3) := by decide +kernel
theorem d_S_making_40 : decode b_S_making 40 = .ok (.goto (-38), 3) := by decide +kernel
theorem d_S_making_31 : decode b_S_making 31 = .ok (.getstatic 152, 3) := by decide +kernel
theorem d_S_making_34 : decode b_S_making 34 = .ok (.iload_n 1, 1) := by decide +kernel
theorem d_S_making_35 : decode b_S_making 35 = .ok (.aaload, 1) := by decide +kernel
theorem d_S_making_36 : decode b_S_making 36 = .ok (.areturn, 1) := by decide +kernel
theorem d_S_making_0 : decode b_S_making 0 = .ok (.iconst 0, 1) := by decide +kernel
theorem d_S_making_1 : decode b_S_making 1 = .ok (.istore_n 1, 1) := by decide +kernel
theorem d_T_describe_6 : decode b_T_describe 6 = .ok (.invokestatic 19, 3) := by decide +kernel
theorem d_T_describe_9 : decode b_T_describe 9 = .ok (.astore_n 2, 1) := by decide +kernel
theorem d_T_describe_10 : decode b_T_describe 10 = .ok (.aload_n 0, 1) := by decide +kernel
theorem d_T_describe_11 : decode b_T_describe 11 = .ok (.aload_n 2, 1) := by decide +kernel
theorem d_T_describe_12 : decode b_T_describe 12 = .ok (.getfield 25, 3) := by decide +kernel
theorem d_T_writeText_2 : decode b_T_writeText 2 = .ok (.iload_n 2, 1) := by decide +kernel
theorem d_T_writeText_3 : decode b_T_writeText 3 = .ok (.aload_n 1, 1) := by decide +kernel
theorem d_T_writeText_4 : decode b_T_writeText 4 = .ok (.invokevirtual 71, 3) := by decide +kernel
theorem d_T_writeText_7 : decode b_T_writeText 7 = .ok (.if_icmp .ge 18, 3) := by decide +kernel
theorem d_T_writeText_25 : decode b_T_writeText 25 = .ok (.return_, 1) := by decide +kernel
theorem d_T_writeText_10 : decode b_T_writeText 10 = .ok (.aload_n 0, 1) := by decide +kernel
theorem d_T_writeText_11 : decode b_T_writeText 11 = .ok (.aload_n 1, 1) := by decide +kernel
theorem d_T_writeText_12 : decode b_T_writeText 12 = .ok (.iload_n 2, 1) := by decide +kernel
theorem d_T_writeText_13 : decode b_T_writeText 13 = .ok (.invokevirtual 76, 3) := by decide +kernel
theorem d_T_writeText_16 : decode b_T_writeText 16 = .ok (.invokevirtual 36, 3) := by decide +kernel
theorem d_T_writeText_19 : decode b_T_writeText 19 = .ok (.iinc 2 1, 3) := by decide +kernel
theorem d_T_writeText_22 : decode b_T_writeText 22 = .ok (.goto (-20), 3) := by decide +kernel
theorem d_T_writeText_0 : decode b_T_writeText 0 = .ok (.iconst 0, 1) := by decide +kernel
theorem d_T_writeText_1 : decode b_T_writeText 1 = .ok (.istore_n 2, 1) := by decide +kernel
theorem d_T_describe_15 : decode b_T_describe 15 = .ok (.invokevirtual 29, 3) := by decide +kernel
theorem d_T_describe_18 : decode b_T_describe 18 = .ok (.aload_n 2, 1) := by decide +kernel
theorem d_T_describe_19 : decode b_T_describe 19 = .ok (.getfield 33, 3) := by decide +kernel
theorem d_T_describe_22 : decode b_T_describe 22 = .ok (.tableswitch 168 2 10 #[50, 64, 94, 102, 102, 124, 168, 141, 160], 50) := by decide +kernel
theorem d_T_describe_72 : decode b_T_describe 72 = .ok (.aload_n 0, 1) := by decide +kernel
theorem d_T_describe_73 : decode b_T_describe 73 = .ok (.bipush 32, 2) := by decide +kernel
theorem d_T_describe_75 : decode b_T_describe 75 = .ok (.invokevirtual 36, 3) := by decide +kernel
theorem d_T_describe_78 : decode b_T_describe 78 = .ok (.aload_n 0, 1) := by decide +kernel
theorem d_T_describe_79 : decode b_T_describe 79 = .ok (.iload_n 1, 1) := by decide +kernel
theorem d_T_writeAddress_57 : decode b_T_writeAddress 57 = .ok (.invokevirtual 44, 3) := by decide +kernel
theorem d_T_writeAddress_60 : decode b_T_writeAddress 60 = .ok (.aload_n 0, 1) := by decide +kernel
theorem d_T_writeAddress_61 : decode b_T_writeAddress 61 = .ok (.bipush 44, 2) := by decide +kernel
theorem d_T_writeAddress_63 : decode b_T_writeAddress 63 = .ok (.invokevirtual 36, 3) := by decide +kernel
theorem d_T_writeAddress_66 : decode b_T_writeAddress 66 = .ok (.aload_n 0, 1) := by decide +kernel
theorem d_T_writeAddress_67 : decode b_T_writeAddress 67 = .ok (.iload_n 2, 1) := by decide +kernel
theorem d_T_writeAddress_68 : decode b_T_writeAddress 68 = .ok (.invokevirtual 44, 3) := by decide +kernel
theorem d_T_writeAddress_71 : decode b_T_writeAddress 71 = .ok (.return_, 1) := by decide +kernel
theorem d_T_writeAddress_27 : decode b_T_writeAddress 27 = .ok (.iload_n 2, 1) := by decide +kernel
theorem d_T_writeAddress_28 : decode b_T_writeAddress 28 = .ok (.ifCond .ne 9, 3) := by decide +kernel
theorem d_T_writeAddress_37 : decode b_T_writeAddress 37 = .ok (.aload_n 0, 1) := by decide +kernel
theorem d_T_writeAddress_38 : decode b_T_writeAddress 38 = .ok (.iload_n 3, 1) := by decide +kernel
theorem d_T_writeAddress_39 : decode b_T_writeAddress 39 = .ok (.sipush 128, 3) := by decide +kernel
theorem d_T_writeAddress_42 : decode b_T_writeAddress 42 = .ok (.if_icmp .ge 7, 3) := by decide +kernel
theorem d_T_writeAddress_49 : decode b_T_writeAddress 49 = .ok (.iload_n 3, 1) := by decide +kernel
theorem d_T_writeAddress_50 : decode b_T_writeAddress 50 = .ok (.sipush 256, 3) := by decide +kernel
theorem d_T_writeAddress_53 : decode b_T_writeAddress 53 = .ok (.isub, 1) := by decide +kernel
theorem d_T_writeAddress_54 : decode b_T_writeAddress 54 = .ok (.ldc 54, 2) := by decide +kernel
theorem d_T_writeAddress_56 : decode b_T_writeAddress 56 = .ok (.iand, 1) := by decide +kernel
theorem d_T_writeAddress_45 : decode b_T_writeAddress 45 = .ok (.iload_n 3, 1) := by decide +kernel
theorem d_T_writeAddress_46 : decode b_T_writeAddress 46 = .ok (.goto 11, 3) := by decide +kernel
theorem d_T_writeAddress_31 : decode b_T_writeAddress 31 = .ok (.aload_n 0, 1) := by decide +kernel
theorem d_T_writeAddress_32 : decode b_T_writeAddress 32 = .ok (.iload_n 3, 1) := by decide +kernel
theorem d_T_writeAddress_33 : decode b_T_writeAddress 33 = .ok (.invokevirtual 44, 3) := by decide +kernel
theorem d_T_writeAddress_36 : decode b_T_writeAddress 36 = .ok (.return_, 1) := by decide +kernel
theorem d_T_writeAddress_0 : decode b_T_writeAddress 0 = .ok (.iload_n 1, 1) := by decide +kernel
theorem d_T_writeAddress_1 : decode b_T_writeAddress 1 = .ok (.bipush 8, 2) := by decide +kernel
theorem d_T_writeAddress_3 : decode b_T_writeAddress 3 = .ok (.ishr, 1) := by decide +kernel
theorem d_T_writeAddress_4 : decode b_T_writeAddress 4 = .ok (.iconst 3, 1) := by decide +kernel
theorem d_T_writeAddress_5 : decode b_T_writeAddress 5 = .ok (.iand, 1) := by decide +kernel
theorem d_T_writeAddress_6 : decode b_T_writeAddress 6 = .ok (.istore_n 2, 1) := by decide +kernel
theorem d_T_writeAddress_7 : decode b_T_writeAddress 7 = .ok (.iload_n 1, 1) := by decide +kernel
theorem d_T_writeAddress_8 : decode b_T_writeAddress 8 = .ok (.sipush 255, 3) := by decide +kernel
theorem d_T_writeAddress_11 : decode b_T_writeAddress 11 = .ok (.iand, 1) := by decide +kernel
theorem d_T_writeAddress_12 : decode b_T_writeAddress 12 = .ok (.istore_n 3, 1) := by decide +kernel
theorem d_T_writeAddress_13 : decode b_T_writeAddress 13 = .ok (.iload_n 1, 1) := by decide +kernel
theorem d_T_writeAddress_14 : decode b_T_writeAddress 14 = .ok (.sipush 1024, 3) := by decide +kernel
theorem d_T_writeAddress_17 : decode b_T_writeAddress 17 = .ok (.iand, 1) := by decide +kernel
theorem d_T_writeAddress_18 : decode b_T_writeAddress 18 = .ok (.ifCond .eq 9, 3) := by decide +kernel
theorem d_T_writeAddress_21 : decode b_T_writeAddress 21 = .ok (.aload_n 0, 1) := by decide +kernel
theorem d_T_writeAddress_22 : decode b_T_writeAddress 22 = .ok (.bipush 64, 2) := by decide +kernel
theorem d_T_writeAddress_24 : decode b_T_writeAddress 24 = .ok (.invokevirtual 36, 3) := by decide +kernel
theorem d_T_describe_80 : decode b_T_describe 80 = .ok (.invokevirtual 40, 3) := by decide +kernel
theorem d_T_describe_83 : decode b_T_describe 83 = .ok (.goto 107, 3) := by decide +kernel
theorem d_T_describe_86 : decode b_T_describe 86 = .ok (.aload_n 0, 1) := by decide +kernel
theorem d_T_describe_87 : decode b_T_describe 87 = .ok (.bipush 32, 2) := by decide +kernel
theorem d_T_describe_89 : decode b_T_describe 89 = .ok (.invokevirtual 36, 3) := by decide +kernel
theorem d_T_describe_92 : decode b_T_describe 92 = .ok (.aload_n 0, 1) := by decide +kernel
theorem d_T_describe_93 : decode b_T_describe 93 = .ok (.iload_n 1, 1) := by decide +kernel
theorem d_T_describe_94 : decode b_T_describe 94 = .ok (.bipush 11, 2) := by decide +kernel
theorem d_T_describe_96 : decode b_T_describe 96 = .ok (.ishr, 1) := by decide +kernel
theorem d_T_describe_97 : decode b_T_describe 97 = .ok (.iconst 3, 1) := by decide +kernel
theorem d_T_describe_98 : decode b_T_describe 98 = .ok (.iand, 1) := by decide +kernel
theorem d_T_describe_99 : decode b_T_describe 99 = .ok (.invokevirtual 44, 3) := by decide +kernel
theorem d_T_describe_102 : decode b_T_describe 102 = .ok (.aload_n 0, 1) := by decide +kernel
theorem d_T_describe_103 : decode b_T_describe 103 = .ok (.bipush 44, 2) := by decide +kernel
theorem d_T_describe_105 : decode b_T_describe 105 = .ok (.invokevirtual 36, 3) := by decide +kernel
theorem d_T_describe_108 : decode b_T_describe 108 = .ok (.aload_n 0, 1) := by decide +kernel
theorem d_T_describe_109 : decode b_T_describe 109 = .ok (.iload_n 1, 1) := by decide +kernel
theorem d_T_describe_110 : decode b_T_describe 110 = .ok (.invokevirtual 40, 3) := by decide +kernel
theorem d_T_describe_113 : decode b_T_describe 113 = .ok (.goto 77, 3) := by decide +kernel
theorem d_T_describe_116 : decode b_T_describe 116 = .ok (.aload_n 0, 1) := by decide +kernel
theorem d_T_describe_117 : decode b_T_describe 117 = .ok (.iload_n 1, 1) := by decide +kernel
theorem d_T_writeArithmetic_36 : decode b_T_writeArithmetic 36 = .ok (.aload_n 0, 1) := by decide +kernel
theorem d_T_writeArithmetic_37 : decode b_T_writeArithmetic 37 = .ok (.bipush 32, 2) := by decide +kernel
theorem d_T_writeArithmetic_39 : decode b_T_writeArithmetic 39 = .ok (.invokevirtual 36, 3) := by decide +kernel
theorem d_T_writeArithmetic_42 : decode b_T_writeArithmetic 42 = .ok (.aload_n 0, 1) := by decide +kernel
theorem d_T_writeArithmetic_43 : decode b_T_writeArithmetic 43 = .ok (.iload_n 1, 1) := by decide +kernel
theorem d_T_writeArithmetic_44 : decode b_T_writeArithmetic 44 = .ok (.bipush 13, 2) := by decide +kernel
theorem d_T_writeArithmetic_46 : decode b_T_writeArithmetic 46 = .ok (.ishr, 1) := by decide +kernel
theorem d_T_writeArithmetic_47 : decode b_T_writeArithmetic 47 = .ok (.iconst 3, 1) := by decide +kernel
theorem d_T_writeArithmetic_48 : decode b_T_writeArithmetic 48 = .ok (.iand, 1) := by decide +kernel
theorem d_T_writeArithmetic_49 : decode b_T_writeArithmetic 49 = .ok (.invokevirtual 44, 3) := by decide +kernel
theorem d_T_writeArithmetic_52 : decode b_T_writeArithmetic 52 = .ok (.aload_n 0, 1) := by decide +kernel
theorem d_T_writeArithmetic_53 : decode b_T_writeArithmetic 53 = .ok (.bipush 44, 2) := by decide +kernel
theorem d_T_writeArithmetic_55 : decode b_T_writeArithmetic 55 = .ok (.invokevirtual 36, 3) := by decide +kernel
theorem d_T_writeArithmetic_58 : decode b_T_writeArithmetic 58 = .ok (.aload_n 0, 1) := by decide +kernel
theorem d_T_writeArithmetic_59 : decode b_T_writeArithmetic 59 = .ok (.iload_n 1, 1) := by decide +kernel
theorem d_T_writeArithmetic_60 : decode b_T_writeArithmetic 60 = .ok (.bipush 11, 2) := by decide +kernel
theorem d_T_writeArithmetic_62 : decode b_T_writeArithmetic 62 = .ok (.ishr, 1) := by decide +kernel
theorem d_T_writeArithmetic_63 : decode b_T_writeArithmetic 63 = .ok (.iconst 3, 1) := by decide +kernel
theorem d_T_writeArithmetic_64 : decode b_T_writeArithmetic 64 = .ok (.iand, 1) := by decide +kernel
theorem d_T_writeArithmetic_65 : decode b_T_writeArithmetic 65 = .ok (.invokevirtual 44, 3) := by decide +kernel
theorem d_T_writeArithmetic_68 : decode b_T_writeArithmetic 68 = .ok (.iload_n 1, 1) := by decide +kernel
theorem d_T_writeArithmetic_69 : decode b_T_writeArithmetic 69 = .ok (.bipush 7, 2) := by decide +kernel
theorem d_T_writeArithmetic_71 : decode b_T_writeArithmetic 71 = .ok (.iand, 1) := by decide +kernel
theorem d_T_writeArithmetic_72 : decode b_T_writeArithmetic 72 = .ok (.ifCond .eq 20, 3) := by decide +kernel
theorem d_T_writeArithmetic_92 : decode b_T_writeArithmetic 92 = .ok (.return_, 1) := by decide +kernel
theorem d_T_writeArithmetic_75 : decode b_T_writeArithmetic 75 = .ok (.aload_n 0, 1) := by decide +kernel
theorem d_T_writeArithmetic_76 : decode b_T_writeArithmetic 76 = .ok (.bipush 44, 2) := by decide +kernel
theorem d_T_writeArithmetic_78 : decode b_T_writeArithmetic 78 = .ok (.invokevirtual 36, 3) := by decide +kernel
theorem d_T_writeArithmetic_81 : decode b_T_writeArithmetic 81 = .ok (.aload_n 0, 1) := by decide +kernel
theorem d_T_writeArithmetic_82 : decode b_T_writeArithmetic 82 = .ok (.iload_n 1, 1) := by decide +kernel
theorem d_T_writeArithmetic_83 : decode b_T_writeArithmetic 83 = .ok (.bipush 7, 2) := by decide +kernel
theorem d_T_writeArithmetic_85 : decode b_T_writeArithmetic 85 = .ok (.iand, 1) := by decide +kernel
theorem d_G_skipName_2 : decode b_G_skipName 2 = .ok (.iload_n 1, 1) := by decide +kernel
theorem d_G_skipName_3 : decode b_G_skipName 3 = .ok (.getstatic 74, 3) := by decide +kernel
theorem d_G_skipName_6 : decode b_G_skipName 6 = .ok (.arraylength, 1) := by decide +kernel
theorem d_G_skipName_7 : decode b_G_skipName 7 = .ok (.if_icmp .ge 30, 3) := by decide +kernel
theorem d_G_skipName_37 : decode b_G_skipName 37 = .ok (.ldc 77, 2) := by decide +kernel
theorem d_G_skipName_39 : decode b_G_skipName 39 = .ok (.areturn, 1) := by decide +kernel
theorem d_G_skipName_10 : decode b_G_skipName 10 = .ok (.getstatic 74, 3) := by decide +kernel
theorem d_G_skipName_13 : decode b_G_skipName 13 = .ok (.iload_n 1, 1) := by decide +kernel
theorem d_G_skipName_14 : decode b_G_skipName 14 = .ok (.aaload, 1) := by decide +kernel
theorem d_G_skipName_15 : decode b_G_skipName 15 = .ok (.getfield 62, 3) := by decide +kernel
theorem d_G_skipName_18 : decode b_G_skipName 18 = .ok (.iload_n 0, 1) := by decide +kernel
theorem d_G_skipName_19 : decode b_G_skipName 19 = .ok (.if_icmp .ne 12, 3) := by decide +kernel
theorem d_G_skipName_31 : decode b_G_skipName 31 = .ok (.iinc 1 1, 3) := by decide +kernel
theorem d_G_skipName_34 : decode b_G_skipName 34 = .ok (.goto (-32), 3) := by decide +kernel
theorem d_G_skipName_22 : decode b_G_skipName 22 = .ok (.getstatic 74, 3) := by decide +kernel
theorem d_G_skipName_25 : decode b_G_skipName 25 = .ok (.iload_n 1, 1) := by decide +kernel
theorem d_G_skipName_26 : decode b_G_skipName 26 = .ok (.aaload, 1) := by decide +kernel
theorem d_G_skipName_27 : decode b_G_skipName 27 = .ok (.getfield 58, 3) := by decide +kernel
theorem d_G_skipName_30 : decode b_G_skipName 30 = .ok (.areturn, 1) := by decide +kernel
theorem d_G_skipName_0 : decode b_G_skipName 0 = .ok (.iconst 0, 1) := by decide +kernel
theorem d_G_skipName_1 : decode b_G_skipName 1 = .ok (.istore_n 1, 1) := by decide +kernel
theorem d_T_writeArithmetic_86 : decode b_T_writeArithmetic 86 = .ok (.invokestatic 63, 3) := by decide +kernel
theorem d_T_writeArithmetic_89 : decode b_T_writeArithmetic 89 = .ok (.invokevirtual 29, 3) := by decide +kernel
theorem d_T_writeArithmetic_0 : decode b_T_writeArithmetic 0 = .ok (.aload_n 0, 1) := by decide +kernel
theorem d_T_writeArithmetic_1 : decode b_T_writeArithmetic 1 = .ok (.ldc 55, 2) := by decide +kernel
theorem d_T_writeArithmetic_3 : decode b_T_writeArithmetic 3 = .ok (.iload_n 1, 1) := by decide +kernel
theorem d_T_writeArithmetic_4 : decode b_T_writeArithmetic 4 = .ok (.iconst 4, 1) := by decide +kernel
theorem d_T_writeArithmetic_5 : decode b_T_writeArithmetic 5 = .ok (.ishr, 1) := by decide +kernel
theorem d_T_writeArithmetic_6 : decode b_T_writeArithmetic 6 = .ok (.iconst 3, 1) := by decide +kernel
theorem d_T_writeArithmetic_7 : decode b_T_writeArithmetic 7 = .ok (.iand, 1) := by decide +kernel
theorem d_T_writeArithmetic_8 : decode b_T_writeArithmetic 8 = .ok (.invokevirtual 57, 3) := by decide +kernel
theorem d_T_writeArithmetic_11 : decode b_T_writeArithmetic 11 = .ok (.aload_n 0, 1) := by decide +kernel
theorem d_T_writeArithmetic_12 : decode b_T_writeArithmetic 12 = .ok (.ldc 61, 2) := by decide +kernel
theorem d_T_writeArithmetic_14 : decode b_T_writeArithmetic 14 = .ok (.iload_n 1, 1) := by decide +kernel
theorem d_T_writeArithmetic_15 : decode b_T_writeArithmetic 15 = .ok (.bipush 6, 2) := by decide +kernel
theorem d_T_writeArithmetic_17 : decode b_T_writeArithmetic 17 = .ok (.ishr, 1) := by decide +kernel
theorem d_T_writeArithmetic_18 : decode b_T_writeArithmetic 18 = .ok (.iconst 3, 1) := by decide +kernel
theorem d_T_writeArithmetic_19 : decode b_T_writeArithmetic 19 = .ok (.iand, 1) := by decide +kernel
theorem d_T_writeArithmetic_20 : decode b_T_writeArithmetic 20 = .ok (.invokevirtual 57, 3) := by decide +kernel
theorem d_T_writeArithmetic_23 : decode b_T_writeArithmetic 23 = .ok (.iload_n 1, 1) := by decide +kernel
theorem d_T_writeArithmetic_24 : decode b_T_writeArithmetic 24 = .ok (.bipush 8, 2) := by decide +kernel
theorem d_T_writeArithmetic_26 : decode b_T_writeArithmetic 26 = .ok (.iand, 1) := by decide +kernel
theorem d_T_writeArithmetic_27 : decode b_T_writeArithmetic 27 = .ok (.ifCond .eq 9, 3) := by decide +kernel
theorem d_T_writeArithmetic_30 : decode b_T_writeArithmetic 30 = .ok (.aload_n 0, 1) := by decide +kernel
theorem d_T_writeArithmetic_31 : decode b_T_writeArithmetic 31 = .ok (.bipush 35, 2) := by decide +kernel
theorem d_T_writeArithmetic_33 : decode b_T_writeArithmetic 33 = .ok (.invokevirtual 36, 3) := by decide +kernel
theorem d_T_describe_118 : decode b_T_describe 118 = .ok (.invokevirtual 47, 3) := by decide +kernel
theorem d_T_describe_121 : decode b_T_describe 121 = .ok (.goto 69, 3) := by decide +kernel
theorem d_T_describe_124 : decode b_T_describe 124 = .ok (.aload_n 0, 1) := by decide +kernel
theorem d_T_describe_125 : decode b_T_describe 125 = .ok (.iload_n 1, 1) := by decide +kernel
theorem d_T_describe_126 : decode b_T_describe 126 = .ok (.aload_n 2, 1) := by decide +kernel
theorem d_T_describe_127 : decode b_T_describe 127 = .ok (.getfield 33, 3) := by decide +kernel
theorem d_T_describe_130 : decode b_T_describe 130 = .ok (.bipush 6, 2) := by decide +kernel
theorem d_T_describe_132 : decode b_T_describe 132 = .ok (.if_icmp .ne 7, 3) := by decide +kernel
theorem d_T_describe_139 : decode b_T_describe 139 = .ok (.iconst 0, 1) := by decide +kernel
theorem d_T_describe_135 : decode b_T_describe 135 = .ok (.iconst 1, 1) := by decide +kernel
theorem d_T_describe_136 : decode b_T_describe 136 = .ok (.goto 4, 3) := by decide +kernel
theorem d_T_describe_146 : decode b_T_describe 146 = .ok (.aload_n 0, 1) := by decide +kernel
theorem d_T_describe_147 : decode b_T_describe 147 = .ok (.bipush 32, 2) := by decide +kernel
theorem d_T_describe_149 : decode b_T_describe 149 = .ok (.invokevirtual 36, 3) := by decide +kernel
theorem d_T_describe_152 : decode b_T_describe 152 = .ok (.aload_n 0, 1) := by decide +kernel
theorem d_T_describe_153 : decode b_T_describe 153 = .ok (.iload_n 1, 1) := by decide +kernel
theorem d_T_describe_154 : decode b_T_describe 154 = .ok (.bipush 63, 2) := by decide +kernel
theorem d_T_describe_156 : decode b_T_describe 156 = .ok (.iand, 1) := by decide +kernel
theorem d_T_describe_157 : decode b_T_describe 157 = .ok (.invokevirtual 44, 3) := by decide +kernel
theorem d_T_describe_160 : decode b_T_describe 160 = .ok (.goto 30, 3) := by decide +kernel
theorem d_T_describe_163 : decode b_T_describe 163 = .ok (.aload_n 0, 1) := by decide +kernel
theorem d_T_describe_164 : decode b_T_describe 164 = .ok (.bipush 32, 2) := by decide +kernel
theorem d_T_describe_166 : decode b_T_describe 166 = .ok (.invokevirtual 36, 3) := by decide +kernel
theorem d_T_describe_169 : decode b_T_describe 169 = .ok (.aload_n 0, 1) := by decide +kernel
theorem d_T_describe_170 : decode b_T_describe 170 = .ok (.iload_n 1, 1) := by decide +kernel
theorem d_T_describe_171 : decode b_T_describe 171 = .ok (.bipush 11, 2) := by decide +kernel
theorem d_T_describe_173 : decode b_T_describe 173 = .ok (.ishr, 1) := by decide +kernel
theorem d_T_describe_174 : decode b_T_describe 174 = .ok (.iconst 3, 1) := by decide +kernel
theorem d_T_describe_175 : decode b_T_describe 175 = .ok (.iand, 1) := by decide +kernel
theorem d_T_describe_176 : decode b_T_describe 176 = .ok (.invokevirtual 44, 3) := by decide +kernel
theorem d_T_describe_179 : decode b_T_describe 179 = .ok (.goto 11, 3) := by decide +kernel
theorem d_T_describe_182 : decode b_T_describe 182 = .ok (.aload_n 0, 1) := by decide +kernel
theorem d_T_describe_183 : decode b_T_describe 183 = .ok (.iload_n 1, 1) := by decide +kernel
theorem d_T_describe_184 : decode b_T_describe 184 = .ok (.invokevirtual 44, 3) := by decide +kernel
theorem d_T_describe_187 : decode b_T_describe 187 = .ok (.goto 3, 3) := by decide +kernel
theorem d_A_clear_0 : decode b_A_clear 0 = .ok (.aload_n 0, 1) := by decide +kernel
theorem d_A_clear_1 : decode b_A_clear 1 = .ok (.getfield 12, 3) := by decide +kernel
theorem d_A_clear_4 : decode b_A_clear 4 = .ok (.iconst 0, 1) := by decide +kernel
theorem d_A_clear_5 : decode b_A_clear 5 = .ok (.putfield 38, 3) := by decide +kernel
theorem d_A_clear_8 : decode b_A_clear 8 = .ok (.aload_n 0, 1) := by decide +kernel
theorem d_A_clear_9 : decode b_A_clear 9 = .ok (.getfield 21, 3) := by decide +kernel
theorem d_A_clear_12 : decode b_A_clear 12 = .ok (.invokevirtual 42, 3) := by decide +kernel
theorem d_A_clear_15 : decode b_A_clear 15 = .ok (.aload_n 0, 1) := by decide +kernel
theorem d_A_clear_16 : decode b_A_clear 16 = .ok (.iconst 0, 1) := by decide +kernel
theorem d_A_clear_17 : decode b_A_clear 17 = .ok (.putfield 45, 3) := by decide +kernel
theorem d_A_clear_20 : decode b_A_clear 20 = .ok (.aload_n 0, 1) := by decide +kernel
theorem d_A_clear_21 : decode b_A_clear 21 = .ok (.iconst 0, 1) := by decide +kernel
theorem d_A_clear_22 : decode b_A_clear 22 = .ok (.putfield 48, 3) := by decide +kernel
theorem d_A_clear_25 : decode b_A_clear 25 = .ok (.return_, 1) := by decide +kernel
theorem d_A_begin_0 : decode b_A_begin 0 = .ok (.aload_n 0, 1) := by decide +kernel
theorem d_A_begin_1 : decode b_A_begin 1 = .ok (.getfield 12, 3) := by decide +kernel
theorem d_A_begin_4 : decode b_A_begin 4 = .ok (.invokevirtual 51, 3) := by decide +kernel
theorem d_A_begin_7 : decode b_A_begin 7 = .ok (.aload_n 0, 1) := by decide +kernel
theorem d_A_begin_8 : decode b_A_begin 8 = .ok (.getfield 25, 3) := by decide +kernel
theorem d_A_begin_11 : decode b_A_begin 11 = .ok (.invokevirtual 42, 3) := by decide +kernel
theorem d_A_begin_14 : decode b_A_begin 14 = .ok (.aload_n 0, 1) := by decide +kernel
theorem d_A_begin_15 : decode b_A_begin 15 = .ok (.iconst 0, 1) := by decide +kernel
theorem d_A_begin_16 : decode b_A_begin 16 = .ok (.putfield 54, 3) := by decide +kernel
theorem d_A_begin_19 : decode b_A_begin 19 = .ok (.aload_n 0, 1) := by decide +kernel
theorem d_A_begin_20 : decode b_A_begin 20 = .ok (.iconst 0, 1) := by decide +kernel
theorem d_A_begin_21 : decode b_A_begin 21 = .ok (.putfield 45, 3) := by decide +kernel
theorem d_A_begin_24 : decode b_A_begin 24 = .ok (.aload_n 0, 1) := by decide +kernel
theorem d_A_begin_25 : decode b_A_begin 25 = .ok (.iconst 0, 1) := by decide +kernel
theorem d_A_begin_26 : decode b_A_begin 26 = .ok (.putfield 48, 3) := by decide +kernel
theorem d_A_begin_29 : decode b_A_begin 29 = .ok (.return_, 1) := by decide +kernel
theorem d_A_finish_19 : decode b_A_finish 19 = .ok (.iload_n 2, 1) := by decide +kernel
theorem d_A_finish_20 : decode b_A_finish 20 = .ok (.aload_n 0, 1) := by decide +kernel
theorem d_A_finish_21 : decode b_A_finish 21 = .ok (.getfield 54, 3) := by decide +kernel
theorem d_A_finish_24 : decode b_A_finish 24 = .ok (.if_icmp .ge 25, 3) := by decide +kernel
theorem d_A_finish_49 : decode b_A_finish 49 = .ok (.aload_n 0, 1) := by decide +kernel
theorem d_A_finish_50 : decode b_A_finish 50 = .ok (.getfield 21, 3) := by decide +kernel
theorem d_A_finish_53 : decode b_A_finish 53 = .ok (.astore_n 2, 1) := by decide +kernel
theorem d_A_finish_54 : decode b_A_finish 54 = .ok (.aload_n 0, 1) := by decide +kernel
theorem d_A_finish_55 : decode b_A_finish 55 = .ok (.aload_n 0, 1) := by decide +kernel
theorem d_A_finish_56 : decode b_A_finish 56 = .ok (.getfield 25, 3) := by decide +kernel
theorem d_A_finish_59 : decode b_A_finish 59 = .ok (.putfield 21, 3) := by decide +kernel
theorem d_A_finish_62 : decode b_A_finish 62 = .ok (.aload_n 0, 1) := by decide +kernel
theorem d_A_finish_63 : decode b_A_finish 63 = .ok (.aload_n 2, 1) := by decide +kernel
theorem d_A_finish_64 : decode b_A_finish 64 = .ok (.putfield 25, 3) := by decide +kernel
theorem d_A_finish_67 : decode b_A_finish 67 = .ok (.aload_n 0, 1) := by decide +kernel
theorem d_A_finish_68 : decode b_A_finish 68 = .ok (.getfield 54, 3) := by decide +kernel
theorem d_A_finish_71 : decode b_A_finish 71 = .ok (.ireturn, 1) := by decide +kernel
theorem d_A_finish_27 : decode b_A_finish 27 = .ok (.aload_n 1, 1) := by decide +kernel
theorem d_A_finish_28 : decode b_A_finish 28 = .ok (.aload_n 0, 1) := by decide +kernel
theorem d_A_finish_29 : decode b_A_finish 29 = .ok (.getfield 28, 3) := by decide +kernel
theorem d_A_finish_32 : decode b_A_finish 32 = .ok (.iload_n 2, 1) := by decide +kernel
theorem d_A_finish_33 : decode b_A_finish 33 = .ok (.iaload, 1) := by decide +kernel
theorem d_A_finish_34 : decode b_A_finish 34 = .ok (.aload_n 0, 1) := by decide +kernel
theorem d_A_finish_35 : decode b_A_finish 35 = .ok (.getfield 32, 3) := by decide +kernel
theorem d_A_finish_38 : decode b_A_finish 38 = .ok (.iload_n 2, 1) := by decide +kernel
theorem d_A_finish_39 : decode b_A_finish 39 = .ok (.iaload, 1) := by decide +kernel
theorem d_A_finish_40 : decode b_A_finish 40 = .ok (.invokevirtual 57, 3) := by decide +kernel
theorem d_A_finish_43 : decode b_A_finish 43 = .ok (.iinc 2 1, 3) := by decide +kernel
theorem d_A_finish_46 : decode b_A_finish 46 = .ok (.goto (-27), 3) := by decide +kernel
theorem d_A_finish_0 : decode b_A_finish 0 = .ok (.aload_n 0, 1) := by decide +kernel
theorem d_A_finish_1 : decode b_A_finish 1 = .ok (.getfield 12, 3) := by decide +kernel
theorem d_A_finish_4 : decode b_A_finish 4 = .ok (.iconst 0, 1) := by decide +kernel
theorem d_A_finish_5 : decode b_A_finish 5 = .ok (.putfield 38, 3) := by decide +kernel
theorem d_A_finish_8 : decode b_A_finish 8 = .ok (.aload_n 0, 1) := by decide +kernel
theorem d_A_finish_9 : decode b_A_finish 9 = .ok (.getfield 45, 3) := by decide +kernel
theorem d_A_finish_12 : decode b_A_finish 12 = .ok (.ifCond .eq 5, 3) := by decide +kernel
theorem d_A_finish_17 : decode b_A_finish 17 = .ok (.iconst 0, 1) := by decide +kernel
theorem d_A_finish_18 : decode b_A_finish 18 = .ok (.istore_n 2, 1) := by decide +kernel
theorem d_A_finish_15 : decode b_A_finish 15 = .ok (.iconst (-1), 1) := by decide +kernel
theorem d_A_finish_16 : decode b_A_finish 16 = .ok (.ireturn, 1) := by decide +kernel
theorem d_A_goThrough_69 : decode b_A_goThrough 69 = .ok (.iinc 3 1, 3) := by decide +kernel
theorem d_A_goThrough_72 : decode b_A_goThrough 72 = .ok (.goto (-58), 3) := by decide +kernel
theorem d_A_goThrough_14 : decode b_A_goThrough 14 = .ok (.iload_n 3, 1) := by decide +kernel
theorem d_A_goThrough_15 : decode b_A_goThrough 15 = .ok (.aload_n 0, 1) := by decide +kernel
theorem d_A_goThrough_16 : decode b_A_goThrough 16 = .ok (.getfield 12, 3) := by decide +kernel
theorem d_A_goThrough_19 : decode b_A_goThrough 19 = .ok (.getfield 69, 3) := by decide +kernel
theorem d_A_goThrough_22 : decode b_A_goThrough 22 = .ok (.if_icmp .ge 53, 3) := by decide +kernel
theorem d_A_goThrough_75 : decode b_A_goThrough 75 = .ok (.return_, 1) := by decide +kernel
theorem d_A_goThrough_25 : decode b_A_goThrough 25 = .ok (.aload_n 0, 1) := by decide +kernel
theorem d_A_goThrough_26 : decode b_A_goThrough 26 = .ok (.getfield 45, 3) := by decide +kernel
theorem d_A_goThrough_29 : decode b_A_goThrough 29 = .ok (.ifCond .ne 46, 3) := by decide +kernel
theorem d_A_goThrough_32 : decode b_A_goThrough 32 = .ok (.aload_n 0, 1) := by decide +kernel
theorem d_A_goThrough_33 : decode b_A_goThrough 33 = .ok (.getfield 12, 3) := by decide +kernel
theorem d_A_goThrough_36 : decode b_A_goThrough 36 = .ok (.iload_n 3, 1) := by decide +kernel
theorem d_A_goThrough_37 : decode b_A_goThrough 37 = .ok (.invokevirtual 72, 3) := by decide +kernel
theorem d_A_goThrough_40 : decode b_A_goThrough 40 = .ok (.bipush 10, 2) := by decide +kernel
theorem d_A_goThrough_42 : decode b_A_goThrough 42 = .ok (.if_icmp .ne 27, 3) := by decide +kernel
theorem d_A_goThrough_45 : decode b_A_goThrough 45 = .ok (.aload_n 0, 1) := by decide +kernel
theorem d_A_goThrough_46 : decode b_A_goThrough 46 = .ok (.dup, 1) := by decide +kernel
theorem d_A_goThrough_47 : decode b_A_goThrough 47 = .ok (.getfield 66, 3) := by decide +kernel
theorem d_A_goThrough_50 : decode b_A_goThrough 50 = .ok (.iconst 1, 1) := by decide +kernel
theorem d_A_goThrough_51 : decode b_A_goThrough 51 = .ok (.iadd, 1) := by decide +kernel
theorem d_A_goThrough_52 : decode b_A_goThrough 52 = .ok (.putfield 66, 3) := by decide +kernel
theorem d_A_goThrough_55 : decode b_A_goThrough 55 = .ok (.aload_n 0, 1) := by decide +kernel
theorem d_A_goThrough_56 : decode b_A_goThrough 56 = .ok (.iload_n 2, 1) := by decide +kernel
theorem d_A_goThrough_57 : decode b_A_goThrough 57 = .ok (.putfield 76, 3) := by decide +kernel
theorem d_A_goThrough_60 : decode b_A_goThrough 60 = .ok (.aload_n 0, 1) := by decide +kernel
theorem d_A_goThrough_61 : decode b_A_goThrough 61 = .ok (.iload_n 1, 1) := by decide +kernel
theorem d_A_readLine_86 : decode b_A_readLine 86 = .ok (.aload_n 0, 1) := by decide +kernel
theorem d_A_readLine_87 : decode b_A_readLine 87 = .ok (.aload_n 3, 1) := by decide +kernel
theorem d_A_readStatement_167 : decode b_A_readStatement 167 = .ok (.aload_n 0, 1) := by decide +kernel
theorem d_A_readStatement_168 : decode b_A_readStatement 168 = .ok (.iconst 2, 1) := by decide +kernel
theorem d_A_complain_0 : decode b_A_complain 0 = .ok (.aload_n 0, 1) := by decide +kernel
theorem d_A_complain_1 : decode b_A_complain 1 = .ok (.getfield 45, 3) := by decide +kernel
theorem d_A_complain_4 : decode b_A_complain 4 = .ok (.ifCond .ne 16, 3) := by decide +kernel
theorem d_A_complain_20 : decode b_A_complain 20 = .ok (.return_, 1) := by decide +kernel
theorem d_A_complain_7 : decode b_A_complain 7 = .ok (.aload_n 0, 1) := by decide +kernel
theorem d_A_complain_8 : decode b_A_complain 8 = .ok (.iload_n 1, 1) := by decide +kernel
theorem d_A_complain_9 : decode b_A_complain 9 = .ok (.putfield 45, 3) := by decide +kernel
theorem d_A_complain_12 : decode b_A_complain 12 = .ok (.aload_n 0, 1) := by decide +kernel
theorem d_A_complain_13 : decode b_A_complain 13 = .ok (.aload_n 0, 1) := by decide +kernel
theorem d_A_complain_14 : decode b_A_complain 14 = .ok (.getfield 66, 3) := by decide +kernel
theorem d_A_complain_17 : decode b_A_complain 17 = .ok (.putfield 48, 3) := by decide +kernel
theorem d_A_readStatement_169 : decode b_A_readStatement 169 = .ok (.invokevirtual 90, 3) := by decide +kernel
theorem d_A_readStatement_172 : decode b_A_readStatement 172 = .ok (.iload_n 2, 1) := by decide +kernel
theorem d_A_readStatement_173 : decode b_A_readStatement 173 = .ok (.ireturn, 1) := by decide +kernel
theorem d_A_readStatement_147 : decode b_A_readStatement 147 = .ok (.aload_n 0, 1) := by decide +kernel
theorem d_A_readStatement_148 : decode b_A_readStatement 148 = .ok (.getfield 160, 3) := by decide +kernel
theorem d_A_readStatement_151 : decode b_A_readStatement 151 = .ok (.aload_n 1, 1) := by decide +kernel
theorem d_S_leastOperands_0 : decode b_S_leastOperands 0 = .ok (.aload_n 0, 1) := by decide +kernel
theorem d_S_leastOperands_1 : decode b_S_leastOperands 1 = .ok (.getfield 134, 3) := by decide +kernel
theorem d_S_leastOperands_4 : decode b_S_leastOperands 4 = .ok (.tableswitch 44 3 8 #[42, 42, 44, 42, 44, 40], 40) := by decide +kernel
theorem d_S_leastOperands_46 : decode b_S_leastOperands 46 = .ok (.iconst 2, 1) := by decide +kernel
theorem d_S_leastOperands_47 : decode b_S_leastOperands 47 = .ok (.ireturn, 1) := by decide +kernel
theorem d_S_leastOperands_48 : decode b_S_leastOperands 48 = .ok (.iconst 1, 1) := by decide +kernel
theorem d_S_leastOperands_49 : decode b_S_leastOperands 49 = .ok (.ireturn, 1) := by decide +kernel
theorem d_S_leastOperands_44 : decode b_S_leastOperands 44 = .ok (.iconst 0, 1) := by decide +kernel
theorem d_S_leastOperands_45 : decode b_S_leastOperands 45 = .ok (.ireturn, 1) := by decide +kernel
theorem d_A_readStatement_152 : decode b_A_readStatement 152 = .ok (.invokevirtual 178, 3) := by decide +kernel
theorem d_A_readStatement_155 : decode b_A_readStatement 155 = .ok (.if_icmp .lt 12, 3) := by decide +kernel
theorem d_A_readStatement_158 : decode b_A_readStatement 158 = .ok (.aload_n 0, 1) := by decide +kernel
theorem d_A_look_0 : decode b_A_look 0 = .ok (.aload_n 0, 1) := by decide +kernel
theorem d_A_look_1 : decode b_A_look 1 = .ok (.getfield 12, 3) := by decide +kernel
theorem d_A_look_4 : decode b_A_look 4 = .ok (.aload_n 0, 1) := by decide +kernel
theorem d_A_look_5 : decode b_A_look 5 = .ok (.getfield 76, 3) := by decide +kernel
theorem d_A_look_8 : decode b_A_look 8 = .ok (.invokevirtual 72, 3) := by decide +kernel
theorem d_A_look_11 : decode b_A_look 11 = .ok (.istore_n 1, 1) := by decide +kernel
theorem d_A_look_12 : decode b_A_look 12 = .ok (.iload_n 1, 1) := by decide +kernel
theorem d_A_look_13 : decode b_A_look 13 = .ok (.iconst 1, 1) := by decide +kernel
theorem d_A_look_14 : decode b_A_look 14 = .ok (.if_icmp .ne 8, 3) := by decide +kernel
theorem d_A_look_22 : decode b_A_look 22 = .ok (.iload_n 1, 1) := by decide +kernel
theorem d_A_look_23 : decode b_A_look 23 = .ok (.ireturn, 1) := by decide +kernel
theorem d_A_look_17 : decode b_A_look 17 = .ok (.aload_n 0, 1) := by decide +kernel
theorem d_A_look_18 : decode b_A_look 18 = .ok (.iconst 1, 1) := by decide +kernel
theorem d_A_look_19 : decode b_A_look 19 = .ok (.invokevirtual 90, 3) := by decide +kernel
theorem d_A_readStatement_159 : decode b_A_readStatement 159 = .ok (.invokevirtual 86, 3) := by decide +kernel
theorem d_A_readStatement_162 : decode b_A_readStatement 162 = .ok (.bipush 10, 2) := by decide +kernel
theorem d_A_readStatement_164 : decode b_A_readStatement 164 = .ok (.if_icmp .eq 8, 3) := by decide +kernel
theorem d_A_readStatement_122 : decode b_A_readStatement 122 = .ok (.aload_n 0, 1) := by decide +kernel
theorem d_A_readStatement_123 : decode b_A_readStatement 123 = .ok (.getfield 35, 3) := by decide +kernel
theorem d_A_readStatement_126 : decode b_A_readStatement 126 = .ok (.iload 4, 2) := by decide +kernel
theorem d_A_readStatement_128 : decode b_A_readStatement 128 = .ok (.aload_n 0, 1) := by decide +kernel
theorem d_A_readExpression_73 : decode b_A_readExpression 73 = .ok (.iinc 3 1, 3) := by decide +kernel
theorem d_A_readExpression_76 : decode b_A_readExpression 76 = .ok (.goto (-54), 3) := by decide +kernel
theorem d_A_readExpression_48 : decode b_A_readExpression 48 = .ok (.iadd, 1) := by decide +kernel
theorem d_A_readExpression_49 : decode b_A_readExpression 49 = .ok (.istore_n 2, 1) := by decide +kernel
theorem d_A_readExpression_50 : decode b_A_readExpression 50 = .ok (.aload_n 0, 1) := by decide +kernel
theorem d_A_readExpression_51 : decode b_A_readExpression 51 = .ok (.bipush 45, 2) := by decide +kernel
theorem d_A_takes_0 : decode b_A_takes 0 = .ok (.aload_n 0, 1) := by decide +kernel
theorem d_A_takes_1 : decode b_A_takes 1 = .ok (.invokevirtual 86, 3) := by decide +kernel
theorem d_A_takes_4 : decode b_A_takes 4 = .ok (.iload_n 1, 1) := by decide +kernel
theorem d_A_takes_5 : decode b_A_takes 5 = .ok (.if_icmp .eq 5, 3) := by decide +kernel
theorem d_A_takes_10 : decode b_A_takes 10 = .ok (.aload_n 0, 1) := by decide +kernel
theorem d_A_takes_11 : decode b_A_takes 11 = .ok (.dup, 1) := by decide +kernel
theorem d_A_takes_12 : decode b_A_takes 12 = .ok (.getfield 76, 3) := by decide +kernel
theorem d_A_takes_15 : decode b_A_takes 15 = .ok (.iconst 1, 1) := by decide +kernel
theorem d_A_takes_16 : decode b_A_takes 16 = .ok (.iadd, 1) := by decide +kernel
theorem d_A_takes_17 : decode b_A_takes 17 = .ok (.putfield 76, 3) := by decide +kernel
theorem d_A_takes_20 : decode b_A_takes 20 = .ok (.iconst 1, 1) := by decide +kernel
theorem d_A_takes_21 : decode b_A_takes 21 = .ok (.ireturn, 1) := by decide +kernel
theorem d_A_takes_8 : decode b_A_takes 8 = .ok (.iconst 0, 1) := by decide +kernel
theorem d_A_takes_9 : decode b_A_takes 9 = .ok (.ireturn, 1) := by decide +kernel
theorem d_A_readExpression_53 : decode b_A_readExpression 53 = .ok (.invokevirtual 130, 3) := by decide +kernel
theorem d_A_readExpression_56 : decode b_A_readExpression 56 = .ok (.istore_n 1, 1) := by decide +kernel
theorem d_A_readExpression_57 : decode b_A_readExpression 57 = .ok (.iload_n 1, 1) := by decide +kernel
theorem d_A_readExpression_58 : decode b_A_readExpression 58 = .ok (.ifCond .ne 15, 3) := by decide +kernel
theorem d_A_readExpression_61 : decode b_A_readExpression 61 = .ok (.aload_n 0, 1) := by decide +kernel
theorem d_A_readExpression_62 : decode b_A_readExpression 62 = .ok (.bipush 43, 2) := by decide +kernel
theorem d_A_readExpression_64 : decode b_A_readExpression 64 = .ok (.invokevirtual 130, 3) := by decide +kernel
theorem d_A_readExpression_67 : decode b_A_readExpression 67 = .ok (.ifCond .ne 6, 3) := by decide +kernel
theorem d_A_readExpression_70 : decode b_A_readExpression 70 = .ok (.goto 9, 3) := by decide +kernel
theorem d_A_readExpression_79 : decode b_A_readExpression 79 = .ok (.iload_n 2, 1) := by decide +kernel
theorem d_A_readExpression_80 : decode b_A_readExpression 80 = .ok (.ldc 184, 2) := by decide +kernel
theorem d_A_readExpression_82 : decode b_A_readExpression 82 = .ok (.iand, 1) := by decide +kernel
theorem d_A_readExpression_83 : decode b_A_readExpression 83 = .ok (.ireturn, 1) := by decide +kernel
theorem d_A_readExpression_22 : decode b_A_readExpression 22 = .ok (.iload_n 3, 1) := by decide +kernel
theorem d_A_readExpression_23 : decode b_A_readExpression 23 = .ok (.sipush 6000, 3) := by decide +kernel
theorem d_A_readExpression_26 : decode b_A_readExpression 26 = .ok (.if_icmp .ge 53, 3) := by decide +kernel
theorem d_A_readExpression_29 : decode b_A_readExpression 29 = .ok (.aload_n 0, 1) := by decide +kernel
theorem d_A_readTerm_67 : decode b_A_readTerm 67 = .ok (.aload_n 0, 1) := by decide +kernel
theorem d_A_readTerm_68 : decode b_A_readTerm 68 = .ok (.dup, 1) := by decide +kernel
theorem d_A_readTerm_69 : decode b_A_readTerm 69 = .ok (.getfield 76, 3) := by decide +kernel
theorem d_A_readTerm_72 : decode b_A_readTerm 72 = .ok (.iconst 1, 1) := by decide +kernel
theorem d_A_readTerm_73 : decode b_A_readTerm 73 = .ok (.iadd, 1) := by decide +kernel
theorem d_A_readTerm_74 : decode b_A_readTerm 74 = .ok (.putfield 76, 3) := by decide +kernel
theorem d_A_readTerm_77 : decode b_A_readTerm 77 = .ok (.iload_n 2, 1) := by decide +kernel
theorem d_A_readTerm_78 : decode b_A_readTerm 78 = .ok (.ireturn, 1) := by decide +kernel
theorem d_A_readTerm_56 : decode b_A_readTerm 56 = .ok (.istore_n 2, 1) := by decide +kernel
theorem d_A_readTerm_57 : decode b_A_readTerm 57 = .ok (.iload_n 2, 1) := by decide +kernel
theorem d_A_readTerm_58 : decode b_A_readTerm 58 = .ok (.iconst (-1), 1) := by decide +kernel
theorem d_A_readTerm_59 : decode b_A_readTerm 59 = .ok (.if_icmp .ne 8, 3) := by decide +kernel
theorem d_A_readTerm_62 : decode b_A_readTerm 62 = .ok (.aload_n 0, 1) := by decide +kernel
theorem d_A_readTerm_63 : decode b_A_readTerm 63 = .ok (.iconst 3, 1) := by decide +kernel
theorem d_A_readTerm_64 : decode b_A_readTerm 64 = .ok (.invokevirtual 90, 3) := by decide +kernel
theorem d_A_readTerm_22 : decode b_A_readTerm 22 = .ok (.iload_n 1, 1) := by decide +kernel
theorem d_A_readTerm_23 : decode b_A_readTerm 23 = .ok (.iconst 2, 1) := by decide +kernel
theorem d_A_readTerm_24 : decode b_A_readTerm 24 = .ok (.if_icmp .ne 21, 3) := by decide +kernel
theorem d_A_readTerm_45 : decode b_A_readTerm 45 = .ok (.aload_n 0, 1) := by decide +kernel
theorem d_A_readTerm_46 : decode b_A_readTerm 46 = .ok (.getfield 12, 3) := by decide +kernel
theorem d_A_readTerm_49 : decode b_A_readTerm 49 = .ok (.aload_n 0, 1) := by decide +kernel
theorem d_A_readTerm_50 : decode b_A_readTerm 50 = .ok (.getfield 76, 3) := by decide +kernel
theorem d_A_readTerm_53 : decode b_A_readTerm 53 = .ok (.invokevirtual 186, 3) := by decide +kernel
theorem d_A_readTerm_27 : decode b_A_readTerm 27 = .ok (.aload_n 0, 1) := by decide +kernel
theorem d_A_readTerm_28 : decode b_A_readTerm 28 = .ok (.aload_n 0, 1) := by decide +kernel
theorem d_A_readTerm_29 : decode b_A_readTerm 29 = .ok (.getfield 12, 3) := by decide +kernel
theorem d_A_readTerm_32 : decode b_A_readTerm 32 = .ok (.aload_n 0, 1) := by decide +kernel
theorem d_A_readTerm_33 : decode b_A_readTerm 33 = .ok (.getfield 76, 3) := by decide +kernel
theorem d_A_readTerm_36 : decode b_A_readTerm 36 = .ok (.invokevirtual 94, 3) := by decide +kernel
theorem d_A_numberOf_0 : decode b_A_numberOf 0 = .ok (.lload_n 1, 1) := by decide +kernel
theorem d_A_numberOf_1 : decode b_A_numberOf 1 = .ok (.ldc2_w 138, 3) := by decide +kernel
theorem d_A_numberOf_4 : decode b_A_numberOf 4 = .ok (.lcmp, 1) := by decide +kernel
theorem d_A_numberOf_5 : decode b_A_numberOf 5 = .ok (.ifCond .ne 8, 3) := by decide +kernel
theorem d_A_numberOf_13 : decode b_A_numberOf 13 = .ok (.lload_n 1, 1) := by decide +kernel
theorem d_G_numberOf_2 : decode b_G_numberOf 2 = .ok (.iload_n 2, 1) := by decide +kernel
theorem d_G_numberOf_3 : decode b_G_numberOf 3 = .ok (.getstatic 74, 3) := by decide +kernel
theorem d_G_numberOf_6 : decode b_G_numberOf 6 = .ok (.arraylength, 1) := by decide +kernel
theorem d_G_numberOf_7 : decode b_G_numberOf 7 = .ok (.if_icmp .ge 31, 3) := by decide +kernel
theorem d_G_numberOf_38 : decode b_G_numberOf 38 = .ok (.iconst (-1), 1) := by decide +kernel
theorem d_G_numberOf_39 : decode b_G_numberOf 39 = .ok (.ireturn, 1) := by decide +kernel
theorem d_G_numberOf_10 : decode b_G_numberOf 10 = .ok (.getstatic 74, 3) := by decide +kernel
theorem d_G_numberOf_13 : decode b_G_numberOf 13 = .ok (.iload_n 2, 1) := by decide +kernel
theorem d_G_numberOf_14 : decode b_G_numberOf 14 = .ok (.aaload, 1) := by decide +kernel
theorem d_G_numberOf_15 : decode b_G_numberOf 15 = .ok (.getfield 70, 3) := by decide +kernel
theorem d_G_numberOf_18 : decode b_G_numberOf 18 = .ok (.lload_n 0, 1) := by decide +kernel
theorem d_G_numberOf_19 : decode b_G_numberOf 19 = .ok (.lcmp, 1) := by decide +kernel
theorem d_G_numberOf_20 : decode b_G_numberOf 20 = .ok (.ifCond .ne 12, 3) := by decide +kernel
theorem d_G_numberOf_32 : decode b_G_numberOf 32 = .ok (.iinc 2 1, 3) := by decide +kernel
theorem d_G_numberOf_35 : decode b_G_numberOf 35 = .ok (.goto (-33), 3) := by decide +kernel
theorem d_G_numberOf_23 : decode b_G_numberOf 23 = .ok (.getstatic 74, 3) := by decide +kernel
theorem d_G_numberOf_26 : decode b_G_numberOf 26 = .ok (.iload_n 2, 1) := by decide +kernel
theorem d_G_numberOf_27 : decode b_G_numberOf 27 = .ok (.aaload, 1) := by decide +kernel
theorem d_G_numberOf_28 : decode b_G_numberOf 28 = .ok (.getfield 62, 3) := by decide +kernel
theorem d_G_numberOf_31 : decode b_G_numberOf 31 = .ok (.ireturn, 1) := by decide +kernel
theorem d_G_numberOf_0 : decode b_G_numberOf 0 = .ok (.iconst 0, 1) := by decide +kernel
theorem d_G_numberOf_1 : decode b_G_numberOf 1 = .ok (.istore_n 2, 1) := by decide +kernel
theorem d_A_numberOf_14 : decode b_A_numberOf 14 = .ok (.invokestatic 140, 3) := by decide +kernel
theorem d_A_numberOf_17 : decode b_A_numberOf 17 = .ok (.istore_n 3, 1) := by decide +kernel
theorem d_A_numberOf_18 : decode b_A_numberOf 18 = .ok (.iload_n 3, 1) := by decide +kernel
theorem d_A_numberOf_19 : decode b_A_numberOf 19 = .ok (.iconst (-1), 1) := by decide +kernel
theorem d_A_numberOf_20 : decode b_A_numberOf 20 = .ok (.if_icmp .eq 7, 3) := by decide +kernel
theorem d_A_numberOf_27 : decode b_A_numberOf 27 = .ok (.aload_n 0, 1) := by decide +kernel
theorem d_A_numberOf_28 : decode b_A_numberOf 28 = .ok (.getfield 25, 3) := by decide +kernel
theorem d_A_numberOf_31 : decode b_A_numberOf 31 = .ok (.lload_n 1, 1) := by decide +kernel
theorem d_A_numberOf_32 : decode b_A_numberOf 32 = .ok (.invokevirtual 146, 3) := by decide +kernel
theorem d_A_numberOf_35 : decode b_A_numberOf 35 = .ok (.ireturn, 1) := by decide +kernel
theorem d_A_numberOf_23 : decode b_A_numberOf 23 = .ok (.iload_n 3, 1) := by decide +kernel
theorem d_A_numberOf_24 : decode b_A_numberOf 24 = .ok (.goto 11, 3) := by decide +kernel
theorem d_A_numberOf_8 : decode b_A_numberOf 8 = .ok (.aload_n 0, 1) := by decide +kernel
theorem d_A_numberOf_9 : decode b_A_numberOf 9 = .ok (.getfield 63, 3) := by decide +kernel
theorem d_A_numberOf_12 : decode b_A_numberOf 12 = .ok (.ireturn, 1) := by decide +kernel
theorem d_A_readTerm_39 : decode b_A_readTerm 39 = .ok (.invokevirtual 185, 3) := by decide +kernel
theorem d_A_readTerm_42 : decode b_A_readTerm 42 = .ok (.goto 14, 3) := by decide +kernel
theorem d_A_readTerm_0 : decode b_A_readTerm 0 = .ok (.aload_n 0, 1) := by decide +kernel
theorem d_A_readTerm_1 : decode b_A_readTerm 1 = .ok (.invokevirtual 86, 3) := by decide +kernel
theorem d_A_readTerm_4 : decode b_A_readTerm 4 = .ok (.istore_n 1, 1) := by decide +kernel
theorem d_A_readTerm_5 : decode b_A_readTerm 5 = .ok (.iload_n 1, 1) := by decide +kernel
theorem d_A_readTerm_6 : decode b_A_readTerm 6 = .ok (.iconst 2, 1) := by decide +kernel
theorem d_A_readTerm_7 : decode b_A_readTerm 7 = .ok (.if_icmp .eq 15, 3) := by decide +kernel
theorem d_A_readTerm_10 : decode b_A_readTerm 10 = .ok (.iload_n 1, 1) := by decide +kernel
theorem d_A_readTerm_11 : decode b_A_readTerm 11 = .ok (.iconst 3, 1) := by decide +kernel
theorem d_A_readTerm_12 : decode b_A_readTerm 12 = .ok (.if_icmp .eq 10, 3) := by decide +kernel
theorem d_A_readTerm_15 : decode b_A_readTerm 15 = .ok (.aload_n 0, 1) := by decide +kernel
theorem d_A_readTerm_16 : decode b_A_readTerm 16 = .ok (.iconst 2, 1) := by decide +kernel
theorem d_A_readTerm_17 : decode b_A_readTerm 17 = .ok (.invokevirtual 90, 3) := by decide +kernel
theorem d_A_readTerm_20 : decode b_A_readTerm 20 = .ok (.iconst 0, 1) := by decide +kernel
theorem d_A_readTerm_21 : decode b_A_readTerm 21 = .ok (.ireturn, 1) := by decide +kernel
theorem d_A_readExpression_30 : decode b_A_readExpression 30 = .ok (.invokevirtual 181, 3) := by decide +kernel
theorem d_A_readExpression_33 : decode b_A_readExpression 33 = .ok (.istore 4, 2) := by decide +kernel
theorem d_A_readExpression_35 : decode b_A_readExpression 35 = .ok (.iload_n 2, 1) := by decide +kernel
theorem d_A_readExpression_36 : decode b_A_readExpression 36 = .ok (.iload_n 1, 1) := by decide +kernel
theorem d_A_readExpression_37 : decode b_A_readExpression 37 = .ok (.ifCond .eq 9, 3) := by decide +kernel
theorem d_A_readExpression_46 : decode b_A_readExpression 46 = .ok (.iload 4, 2) := by decide +kernel
theorem d_A_readExpression_40 : decode b_A_readExpression 40 = .ok (.iload 4, 2) := by decide +kernel
theorem d_A_readExpression_42 : decode b_A_readExpression 42 = .ok (.ineg, 1) := by decide +kernel
theorem d_A_readExpression_43 : decode b_A_readExpression 43 = .ok (.goto 5, 3) := by decide +kernel
theorem d_A_readExpression_18 : decode b_A_readExpression 18 = .ok (.iconst 0, 1) := by decide +kernel
theorem d_A_readExpression_19 : decode b_A_readExpression 19 = .ok (.istore_n 2, 1) := by decide +kernel
theorem d_A_readExpression_20 : decode b_A_readExpression 20 = .ok (.iconst 0, 1) := by decide +kernel
theorem d_A_readExpression_21 : decode b_A_readExpression 21 = .ok (.istore_n 3, 1) := by decide +kernel
theorem d_A_readExpression_0 : decode b_A_readExpression 0 = .ok (.aload_n 0, 1) := by decide +kernel
theorem d_A_readExpression_1 : decode b_A_readExpression 1 = .ok (.bipush 45, 2) := by decide +kernel
theorem d_A_readExpression_3 : decode b_A_readExpression 3 = .ok (.invokevirtual 130, 3) := by decide +kernel
theorem d_A_readExpression_6 : decode b_A_readExpression 6 = .ok (.istore_n 1, 1) := by decide +kernel
theorem d_A_readExpression_7 : decode b_A_readExpression 7 = .ok (.iload_n 1, 1) := by decide +kernel
theorem d_A_readExpression_8 : decode b_A_readExpression 8 = .ok (.ifCond .ne 10, 3) := by decide +kernel
theorem d_A_readExpression_11 : decode b_A_readExpression 11 = .ok (.aload_n 0, 1) := by decide +kernel
theorem d_A_readExpression_12 : decode b_A_readExpression 12 = .ok (.bipush 43, 2) := by decide +kernel
theorem d_A_readExpression_14 : decode b_A_readExpression 14 = .ok (.invokevirtual 130, 3) := by decide +kernel
theorem d_A_readExpression_17 : decode b_A_readExpression 17 = .ok (.pop, 1) := by decide +kernel
theorem d_A_readStatement_129 : decode b_A_readStatement 129 = .ok (.invokevirtual 175, 3) := by decide +kernel
theorem d_A_readStatement_132 : decode b_A_readStatement 132 = .ok (.iastore, 1) := by decide +kernel
theorem d_A_readStatement_133 : decode b_A_readStatement 133 = .ok (.aload_n 0, 1) := by decide +kernel
theorem d_A_readStatement_134 : decode b_A_readStatement 134 = .ok (.iload 4, 2) := by decide +kernel
theorem d_A_readStatement_136 : decode b_A_readStatement 136 = .ok (.iconst 1, 1) := by decide +kernel
theorem d_A_readStatement_137 : decode b_A_readStatement 137 = .ok (.iadd, 1) := by decide +kernel
theorem d_A_readStatement_138 : decode b_A_readStatement 138 = .ok (.putfield 160, 3) := by decide +kernel
theorem d_A_readStatement_141 : decode b_A_readStatement 141 = .ok (.iinc 4 1, 3) := by decide +kernel
theorem d_A_readStatement_144 : decode b_A_readStatement 144 = .ok (.goto (-65), 3) := by decide +kernel
theorem d_A_readStatement_99 : decode b_A_readStatement 99 = .ok (.iload 4, 2) := by decide +kernel
theorem d_A_readStatement_101 : decode b_A_readStatement 101 = .ok (.aload_n 1, 1) := by decide +kernel
theorem d_S_addressOperand_0 : decode b_S_addressOperand 0 = .ok (.aload_n 0, 1) := by decide +kernel
theorem d_S_addressOperand_1 : decode b_S_addressOperand 1 = .ok (.getfield 134, 3) := by decide +kernel
theorem d_S_addressOperand_4 : decode b_S_addressOperand 4 = .ok (.lookupswitch 32 #[(2, 28), (3, 30)], 28) := by decide +kernel
theorem d_S_addressOperand_32 : decode b_S_addressOperand 32 = .ok (.iconst 0, 1) := by decide +kernel
theorem d_S_addressOperand_33 : decode b_S_addressOperand 33 = .ok (.ireturn, 1) := by decide +kernel
theorem d_S_addressOperand_34 : decode b_S_addressOperand 34 = .ok (.iconst 1, 1) := by decide +kernel
theorem d_S_addressOperand_35 : decode b_S_addressOperand 35 = .ok (.ireturn, 1) := by decide +kernel
theorem d_S_addressOperand_36 : decode b_S_addressOperand 36 = .ok (.iconst (-1), 1) := by decide +kernel
theorem d_S_addressOperand_37 : decode b_S_addressOperand 37 = .ok (.ireturn, 1) := by decide +kernel
theorem d_A_readStatement_102 : decode b_A_readStatement 102 = .ok (.invokevirtual 172, 3) := by decide +kernel
theorem d_A_readStatement_105 : decode b_A_readStatement 105 = .ok (.if_icmp .ne 17, 3) := by decide +kernel
theorem d_A_readStatement_108 : decode b_A_readStatement 108 = .ok (.aload_n 0, 1) := by decide +kernel
theorem d_A_readStatement_109 : decode b_A_readStatement 109 = .ok (.bipush 64, 2) := by decide +kernel
theorem d_A_readStatement_111 : decode b_A_readStatement 111 = .ok (.invokevirtual 130, 3) := by decide +kernel
theorem d_A_readStatement_114 : decode b_A_readStatement 114 = .ok (.ifCond .eq 8, 3) := by decide +kernel
theorem d_A_readStatement_117 : decode b_A_readStatement 117 = .ok (.aload_n 0, 1) := by decide +kernel
theorem d_A_readStatement_118 : decode b_A_readStatement 118 = .ok (.iconst 1, 1) := by decide +kernel
theorem d_A_readStatement_119 : decode b_A_readStatement 119 = .ok (.putfield 156, 3) := by decide +kernel
theorem d_A_readStatement_79 : decode b_A_readStatement 79 = .ok (.iload 4, 2) := by decide +kernel
theorem d_A_readStatement_81 : decode b_A_readStatement 81 = .ok (.iload_n 3, 1) := by decide +kernel
theorem d_A_readStatement_82 : decode b_A_readStatement 82 = .ok (.if_icmp .ge 65, 3) := by decide +kernel
theorem d_A_readStatement_85 : decode b_A_readStatement 85 = .ok (.iload 4, 2) := by decide +kernel
theorem d_A_readStatement_87 : decode b_A_readStatement 87 = .ok (.ifCond .eq 12, 3) := by decide +kernel
theorem d_A_readStatement_90 : decode b_A_readStatement 90 = .ok (.aload_n 0, 1) := by decide +kernel
theorem d_A_readStatement_91 : decode b_A_readStatement 91 = .ok (.bipush 44, 2) := by decide +kernel
theorem d_A_readStatement_93 : decode b_A_readStatement 93 = .ok (.invokevirtual 130, 3) := by decide +kernel
theorem d_A_readStatement_96 : decode b_A_readStatement 96 = .ok (.ifCond .eq 51, 3) := by decide +kernel
theorem d_A_readStatement_57 : decode b_A_readStatement 57 = .ok (.aload_n 0, 1) := by decide +kernel
theorem d_A_readStatement_58 : decode b_A_readStatement 58 = .ok (.iconst 0, 1) := by decide +kernel
theorem d_A_readStatement_59 : decode b_A_readStatement 59 = .ok (.putfield 156, 3) := by decide +kernel
theorem d_A_readStatement_62 : decode b_A_readStatement 62 = .ok (.aload_n 0, 1) := by decide +kernel
theorem d_A_readStatement_63 : decode b_A_readStatement 63 = .ok (.iconst 0, 1) := by decide +kernel
theorem d_A_readStatement_64 : decode b_A_readStatement 64 = .ok (.putfield 160, 3) := by decide +kernel
theorem d_A_readStatement_67 : decode b_A_readStatement 67 = .ok (.aload_n 1, 1) := by decide +kernel
theorem d_S_mostOperands_29 : decode b_S_mostOperands 29 = .ok (.istore_n 1, 1) := by decide +kernel
theorem d_S_mostOperands_30 : decode b_S_mostOperands 30 = .ok (.iload_n 1, 1) := by decide +kernel
theorem d_S_mostOperands_31 : decode b_S_mostOperands 31 = .ok (.ifCond .eq 12, 3) := by decide +kernel
theorem d_S_mostOperands_43 : decode b_S_mostOperands 43 = .ok (.aload_n 0, 1) := by decide +kernel
theorem d_S_mostOperands_44 : decode b_S_mostOperands 44 = .ok (.invokevirtual 171, 3) := by decide +kernel
theorem d_S_mostOperands_47 : decode b_S_mostOperands 47 = .ok (.ireturn, 1) := by decide +kernel
theorem d_S_mostOperands_34 : decode b_S_mostOperands 34 = .ok (.aload_n 0, 1) := by decide +kernel
theorem d_S_mostOperands_35 : decode b_S_mostOperands 35 = .ok (.invokevirtual 171, 3) := by decide +kernel
theorem d_S_mostOperands_38 : decode b_S_mostOperands 38 = .ok (.iconst 1, 1) := by decide +kernel
theorem d_S_mostOperands_39 : decode b_S_mostOperands 39 = .ok (.iadd, 1) := by decide +kernel
theorem d_S_mostOperands_40 : decode b_S_mostOperands 40 = .ok (.goto 7, 3) := by decide +kernel
theorem d_S_mostOperands_0 : decode b_S_mostOperands 0 = .ok (.aload_n 0, 1) := by decide +kernel
theorem d_S_mostOperands_1 : decode b_S_mostOperands 1 = .ok (.getfield 134, 3) := by decide +kernel
theorem d_S_mostOperands_4 : decode b_S_mostOperands 4 = .ok (.iconst 2, 1) := by decide +kernel
theorem d_S_mostOperands_5 : decode b_S_mostOperands 5 = .ok (.if_icmp .eq 19, 3) := by decide +kernel
theorem d_S_mostOperands_24 : decode b_S_mostOperands 24 = .ok (.iconst 1, 1) := by decide +kernel
theorem d_S_mostOperands_25 : decode b_S_mostOperands 25 = .ok (.goto 4, 3) := by decide +kernel
theorem d_S_mostOperands_8 : decode b_S_mostOperands 8 = .ok (.aload_n 0, 1) := by decide +kernel
theorem d_S_mostOperands_9 : decode b_S_mostOperands 9 = .ok (.getfield 134, 3) := by decide +kernel
theorem d_S_mostOperands_12 : decode b_S_mostOperands 12 = .ok (.iconst 3, 1) := by decide +kernel
theorem d_S_mostOperands_13 : decode b_S_mostOperands 13 = .ok (.if_icmp .eq 11, 3) := by decide +kernel
theorem d_S_mostOperands_16 : decode b_S_mostOperands 16 = .ok (.aload_n 0, 1) := by decide +kernel
theorem d_S_mostOperands_17 : decode b_S_mostOperands 17 = .ok (.getfield 134, 3) := by decide +kernel
theorem d_S_mostOperands_20 : decode b_S_mostOperands 20 = .ok (.iconst 4, 1) := by decide +kernel
theorem d_S_mostOperands_21 : decode b_S_mostOperands 21 = .ok (.if_icmp .ne 7, 3) := by decide +kernel
theorem d_S_mostOperands_28 : decode b_S_mostOperands 28 = .ok (.iconst 0, 1) := by decide +kernel
theorem d_A_readStatement_68 : decode b_A_readStatement 68 = .ok (.invokevirtual 163, 3) := by decide +kernel
theorem d_A_readStatement_71 : decode b_A_readStatement 71 = .ok (.iconst 3, 1) := by decide +kernel
theorem d_A_readStatement_72 : decode b_A_readStatement 72 = .ok (.invokestatic 166, 3) := by decide +kernel
theorem d_A_readStatement_75 : decode b_A_readStatement 75 = .ok (.istore_n 3, 1) := by decide +kernel
theorem d_A_readStatement_76 : decode b_A_readStatement 76 = .ok (.iconst 0, 1) := by decide +kernel
theorem d_A_readStatement_77 : decode b_A_readStatement 77 = .ok (.istore 4, 2) := by decide +kernel
theorem d_A_readStatement_35 : decode b_A_readStatement 35 = .ok (.aload_n 1, 1) := by decide +kernel
theorem d_A_readStatement_36 : decode b_A_readStatement 36 = .ok (.getfield 108, 3) := by decide +kernel
theorem d_A_readStatement_39 : decode b_A_readStatement 39 = .ok (.iconst 4, 1) := by decide +kernel
theorem d_A_readStatement_40 : decode b_A_readStatement 40 = .ok (.if_icmp .ne 17, 3) := by decide +kernel
theorem d_A_readStatement_43 : decode b_A_readStatement 43 = .ok (.aload_n 0, 1) := by decide +kernel
theorem d_A_readStatement_44 : decode b_A_readStatement 44 = .ok (.bipush 35, 2) := by decide +kernel
theorem d_A_readStatement_46 : decode b_A_readStatement 46 = .ok (.invokevirtual 130, 3) := by decide +kernel
theorem d_A_readStatement_49 : decode b_A_readStatement 49 = .ok (.ifCond .eq 8, 3) := by decide +kernel
theorem d_A_readStatement_52 : decode b_A_readStatement 52 = .ok (.iload_n 2, 1) := by decide +kernel
theorem d_A_readStatement_53 : decode b_A_readStatement 53 = .ok (.bipush 8, 2) := by decide +kernel
theorem d_A_readStatement_55 : decode b_A_readStatement 55 = .ok (.ior, 1) := by decide +kernel
theorem d_A_readStatement_56 : decode b_A_readStatement 56 = .ok (.istore_n 2, 1) := by decide +kernel
theorem d_A_readStatement_0 : decode b_A_readStatement 0 = .ok (.iconst 0, 1) := by decide +kernel
theorem d_A_readStatement_1 : decode b_A_readStatement 1 = .ok (.istore_n 2, 1) := by decide +kernel
theorem d_A_readStatement_2 : decode b_A_readStatement 2 = .ok (.aload_n 1, 1) := by decide +kernel
theorem d_A_readStatement_3 : decode b_A_readStatement 3 = .ok (.getstatic 104, 3) := by decide +kernel
theorem d_A_readStatement_6 : decode b_A_readStatement 6 = .ok (.if_acmp .eq 29, 3) := by decide +kernel
theorem d_A_readStatement_9 : decode b_A_readStatement 9 = .ok (.aload_n 1, 1) := by decide +kernel
theorem d_A_readStatement_10 : decode b_A_readStatement 10 = .ok (.aload_n 0, 1) := by decide +kernel
theorem d_A_readStatement_11 : decode b_A_readStatement 11 = .ok (.getfield 12, 3) := by decide +kernel
theorem d_A_readStatement_14 : decode b_A_readStatement 14 = .ok (.aload_n 0, 1) := by decide +kernel
theorem d_A_readStatement_15 : decode b_A_readStatement 15 = .ok (.getfield 76, 3) := by decide +kernel
theorem d_A_readStatement_18 : decode b_A_readStatement 18 = .ok (.invokevirtual 94, 3) := by decide +kernel
theorem d_S_furtherBits_165 : decode b_S_furtherBits 165 = .ok (.lstore 4, 2) := by decide +kernel
theorem d_S_furtherBits_167 : decode b_S_furtherBits 167 = .ok (.lload 4, 2) := by decide +kernel
theorem d_S_furtherBits_169 : decode b_S_furtherBits 169 = .ok (.lconst 0, 1) := by decide +kernel
theorem d_S_furtherBits_170 : decode b_S_furtherBits 170 = .ok (.lcmp, 1) := by decide +kernel
theorem d_S_furtherBits_171 : decode b_S_furtherBits 171 = .ok (.ifCond .ne 16, 3) := by decide +kernel
theorem d_S_furtherBits_187 : decode b_S_furtherBits 187 = .ok (.iconst (-1), 1) := by decide +kernel
theorem d_S_furtherBits_188 : decode b_S_furtherBits 188 = .ok (.ireturn, 1) := by decide +kernel
theorem d_S_furtherBits_174 : decode b_S_furtherBits 174 = .ok (.iload 6, 2) := by decide +kernel
theorem d_S_furtherBits_176 : decode b_S_furtherBits 176 = .ok (.iconst 4, 1) := by decide +kernel
theorem d_S_furtherBits_177 : decode b_S_furtherBits 177 = .ok (.ishl, 1) := by decide +kernel
theorem d_S_furtherBits_178 : decode b_S_furtherBits 178 = .ok (.iload 8, 2) := by decide +kernel
theorem d_S_furtherBits_180 : decode b_S_furtherBits 180 = .ok (.bipush 6, 2) := by decide +kernel
theorem d_S_furtherBits_182 : decode b_S_furtherBits 182 = .ok (.ishl, 1) := by decide +kernel
theorem d_S_furtherBits_183 : decode b_S_furtherBits 183 = .ok (.ior, 1) := by decide +kernel
theorem d_S_furtherBits_184 : decode b_S_furtherBits 184 = .ok (.goto 4, 3) := by decide +kernel
theorem d_S_furtherBits_132 : decode b_S_furtherBits 132 = .ok (.astore 7, 2) := by decide +kernel
theorem d_S_furtherBits_134 : decode b_S_furtherBits 134 = .ok (.aload 7, 2) := by decide +kernel
theorem d_S_furtherBits_136 : decode b_S_furtherBits 136 = .ok (.lload 4, 2) := by decide +kernel
theorem d_S_furtherBits_138 : decode b_S_furtherBits 138 = .ok (.bipush 56, 2) := by decide +kernel
theorem d_S_furtherBits_140 : decode b_S_furtherBits 140 = .ok (.lushr, 1) := by decide +kernel
theorem d_S_furtherBits_141 : decode b_S_furtherBits 141 = .ok (.l2i, 1) := by decide +kernel
theorem d_S_furtherBits_142 : decode b_S_furtherBits 142 = .ok (.i2c, 1) := by decide +kernel
theorem d_S_furtherBits_143 : decode b_S_furtherBits 143 = .ok (.invokevirtual 161, 3) := by decide +kernel
theorem d_S_furtherBits_146 : decode b_S_furtherBits 146 = .ok (.iconst 1, 1) := by decide +kernel
theorem d_S_furtherBits_147 : decode b_S_furtherBits 147 = .ok (.iadd, 1) := by decide +kernel
theorem d_S_furtherBits_148 : decode b_S_furtherBits 148 = .ok (.istore 8, 2) := by decide +kernel
theorem d_S_furtherBits_150 : decode b_S_furtherBits 150 = .ok (.iload 8, 2) := by decide +kernel
theorem d_S_furtherBits_152 : decode b_S_furtherBits 152 = .ok (.ifCond .ne 8, 3) := by decide +kernel
theorem d_S_furtherBits_160 : decode b_S_furtherBits 160 = .ok (.lload 4, 2) := by decide +kernel
theorem d_S_furtherBits_162 : decode b_S_furtherBits 162 = .ok (.bipush 8, 2) := by decide +kernel
theorem d_S_furtherBits_164 : decode b_S_furtherBits 164 = .ok (.lshl, 1) := by decide +kernel
theorem d_S_furtherBits_155 : decode b_S_furtherBits 155 = .ok (.lload 4, 2) := by decide +kernel
theorem d_S_furtherBits_157 : decode b_S_furtherBits 157 = .ok (.goto 8, 3) := by decide +kernel
theorem d_S_furtherBits_117 : decode b_S_furtherBits 117 = .ok (.aload_n 0, 1) := by decide +kernel
theorem d_S_furtherBits_118 : decode b_S_furtherBits 118 = .ok (.getfield 134, 3) := by decide +kernel
theorem d_S_furtherBits_121 : decode b_S_furtherBits 121 = .ok (.iconst 4, 1) := by decide +kernel
theorem d_S_furtherBits_122 : decode b_S_furtherBits 122 = .ok (.if_icmp .ne 8, 3) := by decide +kernel
theorem d_S_furtherBits_130 : decode b_S_furtherBits 130 = .ok (.ldc 169, 2) := by decide +kernel
theorem d_S_furtherBits_125 : decode b_S_furtherBits 125 = .ok (.ldc 167, 2) := by decide +kernel
theorem d_S_furtherBits_127 : decode b_S_furtherBits 127 = .ok (.goto 5, 3) := by decide +kernel
theorem d_S_furtherBits_115 : decode b_S_furtherBits 115 = .ok (.lstore 4, 2) := by decide +kernel
theorem d_S_furtherBits_30 : decode b_S_furtherBits 30 = .ok (.istore_n 3, 1) := by decide +kernel
theorem d_S_furtherBits_31 : decode b_S_furtherBits 31 = .ok (.iload_n 3, 1) := by decide +kernel
theorem d_S_furtherBits_32 : decode b_S_furtherBits 32 = .ok (.ifCond .ne 18, 3) := by decide +kernel
theorem d_S_furtherBits_50 : decode b_S_furtherBits 50 = .ok (.lload_n 1, 1) := by decide +kernel
theorem d_S_furtherBits_51 : decode b_S_furtherBits 51 = .ok (.bipush 40, 2) := by decide +kernel
theorem d_S_furtherBits_53 : decode b_S_furtherBits 53 = .ok (.lushr, 1) := by decide +kernel
theorem d_S_furtherBits_54 : decode b_S_furtherBits 54 = .ok (.aload_n 0, 1) := by decide +kernel
theorem d_S_furtherBits_55 : decode b_S_furtherBits 55 = .ok (.getfield 148, 3) := by decide +kernel
theorem d_S_furtherBits_58 : decode b_S_furtherBits 58 = .ok (.bipush 40, 2) := by decide +kernel
theorem d_S_furtherBits_60 : decode b_S_furtherBits 60 = .ok (.lushr, 1) := by decide +kernel
theorem d_S_furtherBits_61 : decode b_S_furtherBits 61 = .ok (.lcmp, 1) := by decide +kernel
theorem d_S_furtherBits_62 : decode b_S_furtherBits 62 = .ok (.ifCond .eq 5, 3) := by decide +kernel
theorem d_S_furtherBits_67 : decode b_S_furtherBits 67 = .ok (.lload_n 1, 1) := by decide +kernel
theorem d_S_furtherBits_68 : decode b_S_furtherBits 68 = .ok (.bipush 24, 2) := by decide +kernel
theorem d_S_furtherBits_70 : decode b_S_furtherBits 70 = .ok (.lshl, 1) := by decide +kernel
theorem d_S_furtherBits_71 : decode b_S_furtherBits 71 = .ok (.lstore 4, 2) := by decide +kernel
theorem d_S_furtherBits_73 : decode b_S_furtherBits 73 = .ok (.iconst 0, 1) := by decide +kernel
theorem d_S_furtherBits_74 : decode b_S_furtherBits 74 = .ok (.istore 6, 2) := by decide +kernel
theorem d_S_furtherBits_76 : decode b_S_furtherBits 76 = .ok (.aload_n 0, 1) := by decide +kernel
theorem d_S_furtherBits_77 : decode b_S_furtherBits 77 = .ok (.getfield 134, 3) := by decide +kernel
theorem d_S_furtherBits_80 : decode b_S_furtherBits 80 = .ok (.iconst 4, 1) := by decide +kernel
theorem d_S_furtherBits_81 : decode b_S_furtherBits 81 = .ok (.if_icmp .ne 36, 3) := by decide +kernel
theorem d_S_furtherBits_84 : decode b_S_furtherBits 84 = .ok (.ldc 159, 2) := by decide +kernel
theorem d_S_furtherBits_86 : decode b_S_furtherBits 86 = .ok (.lload 4, 2) := by decide +kernel
theorem d_S_furtherBits_88 : decode b_S_furtherBits 88 = .ok (.bipush 56, 2) := by decide +kernel
theorem d_S_furtherBits_90 : decode b_S_furtherBits 90 = .ok (.lushr, 1) := by decide +kernel
theorem d_S_furtherBits_91 : decode b_S_furtherBits 91 = .ok (.l2i, 1) := by decide +kernel
theorem d_S_furtherBits_92 : decode b_S_furtherBits 92 = .ok (.i2c, 1) := by decide +kernel
theorem d_S_furtherBits_93 : decode b_S_furtherBits 93 = .ok (.invokevirtual 161, 3) := by decide +kernel
theorem d_S_furtherBits_96 : decode b_S_furtherBits 96 = .ok (.iconst 1, 1) := by decide +kernel
theorem d_S_furtherBits_97 : decode b_S_furtherBits 97 = .ok (.iadd, 1) := by decide +kernel
theorem d_S_furtherBits_98 : decode b_S_furtherBits 98 = .ok (.istore 6, 2) := by decide +kernel
theorem d_S_furtherBits_100 : decode b_S_furtherBits 100 = .ok (.iload 6, 2) := by decide +kernel
theorem d_S_furtherBits_102 : decode b_S_furtherBits 102 = .ok (.ifCond .ne 8, 3) := by decide +kernel
theorem d_S_furtherBits_110 : decode b_S_furtherBits 110 = .ok (.lload 4, 2) := by decide +kernel
theorem d_S_furtherBits_112 : decode b_S_furtherBits 112 = .ok (.bipush 8, 2) := by decide +kernel
theorem d_S_furtherBits_114 : decode b_S_furtherBits 114 = .ok (.lshl, 1) := by decide +kernel
theorem d_S_furtherBits_105 : decode b_S_furtherBits 105 = .ok (.lload 4, 2) := by decide +kernel
theorem d_S_furtherBits_107 : decode b_S_furtherBits 107 = .ok (.goto 8, 3) := by decide +kernel
theorem d_S_furtherBits_65 : decode b_S_furtherBits 65 = .ok (.iconst (-1), 1) := by decide +kernel
theorem d_S_furtherBits_66 : decode b_S_furtherBits 66 = .ok (.ireturn, 1) := by decide +kernel
theorem d_S_furtherBits_35 : decode b_S_furtherBits 35 = .ok (.lload_n 1, 1) := by decide +kernel
theorem d_S_furtherBits_36 : decode b_S_furtherBits 36 = .ok (.aload_n 0, 1) := by decide +kernel
theorem d_S_furtherBits_37 : decode b_S_furtherBits 37 = .ok (.getfield 148, 3) := by decide +kernel
theorem d_S_furtherBits_40 : decode b_S_furtherBits 40 = .ok (.lcmp, 1) := by decide +kernel
theorem d_S_furtherBits_41 : decode b_S_furtherBits 41 = .ok (.ifCond .ne 7, 3) := by decide +kernel
theorem d_S_furtherBits_48 : decode b_S_furtherBits 48 = .ok (.iconst (-1), 1) := by decide +kernel
theorem d_S_furtherBits_49 : decode b_S_furtherBits 49 = .ok (.ireturn, 1) := by decide +kernel
theorem d_S_furtherBits_44 : decode b_S_furtherBits 44 = .ok (.iconst 0, 1) := by decide +kernel
theorem d_S_furtherBits_45 : decode b_S_furtherBits 45 = .ok (.goto 4, 3) := by decide +kernel
theorem d_S_furtherBits_0 : decode b_S_furtherBits 0 = .ok (.aload_n 0, 1) := by decide +kernel
theorem d_S_furtherBits_1 : decode b_S_furtherBits 1 = .ok (.getfield 134, 3) := by decide +kernel
theorem d_S_furtherBits_4 : decode b_S_furtherBits 4 = .ok (.iconst 4, 1) := by decide +kernel
theorem d_S_furtherBits_5 : decode b_S_furtherBits 5 = .ok (.if_icmp .eq 20, 3) := by decide +kernel
theorem d_S_furtherBits_25 : decode b_S_furtherBits 25 = .ok (.iconst 1, 1) := by decide +kernel
theorem d_S_furtherBits_26 : decode b_S_furtherBits 26 = .ok (.goto 4, 3) := by decide +kernel
theorem d_S_furtherBits_8 : decode b_S_furtherBits 8 = .ok (.aload_n 0, 1) := by decide +kernel
theorem d_S_furtherBits_9 : decode b_S_furtherBits 9 = .ok (.getfield 134, 3) := by decide +kernel
theorem d_S_furtherBits_12 : decode b_S_furtherBits 12 = .ok (.iconst 5, 1) := by decide +kernel
theorem d_S_furtherBits_13 : decode b_S_furtherBits 13 = .ok (.if_icmp .eq 12, 3) := by decide +kernel
theorem d_S_furtherBits_16 : decode b_S_furtherBits 16 = .ok (.aload_n 0, 1) := by decide +kernel
theorem d_S_furtherBits_17 : decode b_S_furtherBits 17 = .ok (.getfield 134, 3) := by decide +kernel
theorem d_S_furtherBits_20 : decode b_S_furtherBits 20 = .ok (.bipush 6, 2) := by decide +kernel
theorem d_S_furtherBits_22 : decode b_S_furtherBits 22 = .ok (.if_icmp .ne 7, 3) := by decide +kernel
theorem d_S_furtherBits_29 : decode b_S_furtherBits 29 = .ok (.iconst 0, 1) := by decide +kernel
theorem d_A_readStatement_21 : decode b_A_readStatement 21 = .ok (.invokevirtual 153, 3) := by decide +kernel
theorem d_A_readStatement_24 : decode b_A_readStatement 24 = .ok (.istore_n 2, 1) := by decide +kernel
theorem d_A_readStatement_25 : decode b_A_readStatement 25 = .ok (.aload_n 0, 1) := by decide +kernel
theorem d_A_readStatement_26 : decode b_A_readStatement 26 = .ok (.dup, 1) := by decide +kernel
theorem d_A_readStatement_27 : decode b_A_readStatement 27 = .ok (.getfield 76, 3) := by decide +kernel
theorem d_A_readStatement_30 : decode b_A_readStatement 30 = .ok (.iconst 1, 1) := by decide +kernel
theorem d_A_readStatement_31 : decode b_A_readStatement 31 = .ok (.iadd, 1) := by decide +kernel
theorem d_A_readStatement_32 : decode b_A_readStatement 32 = .ok (.putfield 76, 3) := by decide +kernel
theorem d_A_readLine_88 : decode b_A_readLine 88 = .ok (.invokevirtual 111, 3) := by decide +kernel
theorem d_A_readLine_91 : decode b_A_readLine 91 = .ok (.pop, 1) := by decide +kernel
theorem d_A_readLine_92 : decode b_A_readLine 92 = .ok (.aload_n 0, 1) := by decide +kernel
theorem d_A_readLine_93 : decode b_A_readLine 93 = .ok (.aload_n 3, 1) := by decide +kernel
theorem d_A_readLine_94 : decode b_A_readLine 94 = .ok (.getfield 108, 3) := by decide +kernel
theorem d_A_moveLocation_0 : decode b_A_moveLocation 0 = .ok (.iload_n 1, 1) := by decide +kernel
theorem d_A_moveLocation_1 : decode b_A_moveLocation 1 = .ok (.ifCond .ne 16, 3) := by decide +kernel
theorem d_A_moveLocation_17 : decode b_A_moveLocation 17 = .ok (.aload_n 0, 1) := by decide +kernel
theorem d_A_moveLocation_18 : decode b_A_moveLocation 18 = .ok (.dup, 1) := by decide +kernel
theorem d_A_moveLocation_19 : decode b_A_moveLocation 19 = .ok (.getfield 63, 3) := by decide +kernel
theorem d_A_moveLocation_22 : decode b_A_moveLocation 22 = .ok (.aload_n 0, 1) := by decide +kernel
theorem d_A_moveLocation_23 : decode b_A_moveLocation 23 = .ok (.getfield 35, 3) := by decide +kernel
theorem d_A_moveLocation_26 : decode b_A_moveLocation 26 = .ok (.iconst 0, 1) := by decide +kernel
theorem d_A_moveLocation_27 : decode b_A_moveLocation 27 = .ok (.iaload, 1) := by decide +kernel
theorem d_A_moveLocation_28 : decode b_A_moveLocation 28 = .ok (.iadd, 1) := by decide +kernel
theorem d_A_moveLocation_29 : decode b_A_moveLocation 29 = .ok (.putfield 63, 3) := by decide +kernel
theorem d_A_moveLocation_32 : decode b_A_moveLocation 32 = .ok (.aload_n 0, 1) := by decide +kernel
theorem d_A_moveLocation_33 : decode b_A_moveLocation 33 = .ok (.getfield 63, 3) := by decide +kernel
theorem d_A_moveLocation_36 : decode b_A_moveLocation 36 = .ok (.ldc 192, 2) := by decide +kernel
theorem d_A_moveLocation_38 : decode b_A_moveLocation 38 = .ok (.if_icmp .le 9, 3) := by decide +kernel
theorem d_A_moveLocation_47 : decode b_A_moveLocation 47 = .ok (.return_, 1) := by decide +kernel
theorem d_A_moveLocation_41 : decode b_A_moveLocation 41 = .ok (.aload_n 0, 1) := by decide +kernel
theorem d_A_moveLocation_42 : decode b_A_moveLocation 42 = .ok (.bipush 7, 2) := by decide +kernel
theorem d_A_moveLocation_44 : decode b_A_moveLocation 44 = .ok (.invokevirtual 90, 3) := by decide +kernel
theorem d_A_moveLocation_4 : decode b_A_moveLocation 4 = .ok (.aload_n 0, 1) := by decide +kernel
theorem d_A_moveLocation_5 : decode b_A_moveLocation 5 = .ok (.aload_n 0, 1) := by decide +kernel
theorem d_A_moveLocation_6 : decode b_A_moveLocation 6 = .ok (.iconst 0, 1) := by decide +kernel
theorem d_A_moveLocation_7 : decode b_A_moveLocation 7 = .ok (.sipush 32767, 3) := by decide +kernel
theorem d_A_bounded_19 : decode b_A_bounded 19 = .ok (.istore_n 3, 1) := by decide +kernel
theorem d_A_bounded_20 : decode b_A_bounded 20 = .ok (.iload_n 3, 1) := by decide +kernel
theorem d_A_bounded_21 : decode b_A_bounded 21 = .ok (.iload_n 2, 1) := by decide +kernel
theorem d_A_bounded_22 : decode b_A_bounded 22 = .ok (.if_icmp .le 8, 3) := by decide +kernel
theorem d_A_bounded_30 : decode b_A_bounded 30 = .ok (.iload_n 3, 1) := by decide +kernel
theorem d_A_bounded_31 : decode b_A_bounded 31 = .ok (.ireturn, 1) := by decide +kernel
theorem d_A_bounded_25 : decode b_A_bounded 25 = .ok (.aload_n 0, 1) := by decide +kernel
theorem d_A_bounded_26 : decode b_A_bounded 26 = .ok (.iconst 5, 1) := by decide +kernel
theorem d_A_bounded_27 : decode b_A_bounded 27 = .ok (.invokevirtual 90, 3) := by decide +kernel
theorem d_A_bounded_0 : decode b_A_bounded 0 = .ok (.iload_n 1, 1) := by decide +kernel
theorem d_A_bounded_1 : decode b_A_bounded 1 = .ok (.ifCond .lt 17, 3) := by decide +kernel
theorem d_A_bounded_18 : decode b_A_bounded 18 = .ok (.iconst 0, 1) := by decide +kernel
theorem d_A_bounded_4 : decode b_A_bounded 4 = .ok (.iload_n 1, 1) := by decide +kernel
theorem d_A_bounded_5 : decode b_A_bounded 5 = .ok (.iconst 3, 1) := by decide +kernel
theorem d_A_bounded_6 : decode b_A_bounded 6 = .ok (.if_icmp .ge 12, 3) := by decide +kernel
theorem d_A_bounded_9 : decode b_A_bounded 9 = .ok (.aload_n 0, 1) := by decide +kernel
theorem d_A_bounded_10 : decode b_A_bounded 10 = .ok (.getfield 35, 3) := by decide +kernel
theorem d_A_bounded_13 : decode b_A_bounded 13 = .ok (.iload_n 1, 1) := by decide +kernel
theorem d_A_bounded_14 : decode b_A_bounded 14 = .ok (.iaload, 1) := by decide +kernel
theorem d_A_bounded_15 : decode b_A_bounded 15 = .ok (.goto 4, 3) := by decide +kernel
theorem d_A_moveLocation_10 : decode b_A_moveLocation 10 = .ok (.invokevirtual 189, 3) := by decide +kernel
theorem d_A_moveLocation_13 : decode b_A_moveLocation 13 = .ok (.putfield 63, 3) := by decide +kernel
theorem d_A_moveLocation_16 : decode b_A_moveLocation 16 = .ok (.return_, 1) := by decide +kernel
theorem d_A_readLine_97 : decode b_A_readLine 97 = .ok (.invokevirtual 115, 3) := by decide +kernel
theorem d_A_readLine_100 : decode b_A_readLine 100 = .ok (.return_, 1) := by decide +kernel
theorem d_A_readLine_132 : decode b_A_readLine 132 = .ok (.aload_n 0, 1) := by decide +kernel
theorem d_A_takePlace_15 : decode b_A_takePlace 15 = .ok (.aload_n 0, 1) := by decide +kernel
theorem d_A_takePlace_16 : decode b_A_takePlace 16 = .ok (.dup, 1) := by decide +kernel
theorem d_A_takePlace_17 : decode b_A_takePlace 17 = .ok (.getfield 63, 3) := by decide +kernel
theorem d_A_takePlace_20 : decode b_A_takePlace 20 = .ok (.iconst 1, 1) := by decide +kernel
theorem d_A_takePlace_21 : decode b_A_takePlace 21 = .ok (.iadd, 1) := by decide +kernel
theorem d_A_takePlace_22 : decode b_A_takePlace 22 = .ok (.putfield 63, 3) := by decide +kernel
theorem d_A_takePlace_25 : decode b_A_takePlace 25 = .ok (.return_, 1) := by decide +kernel
theorem d_A_takePlace_0 : decode b_A_takePlace 0 = .ok (.aload_n 0, 1) := by decide +kernel
theorem d_A_takePlace_1 : decode b_A_takePlace 1 = .ok (.getfield 63, 3) := by decide +kernel
theorem d_A_takePlace_4 : decode b_A_takePlace 4 = .ok (.ldc 192, 2) := by decide +kernel
theorem d_A_takePlace_6 : decode b_A_takePlace 6 = .ok (.if_icmp .lt 9, 3) := by decide +kernel
theorem d_A_takePlace_9 : decode b_A_takePlace 9 = .ok (.aload_n 0, 1) := by decide +kernel
theorem d_A_takePlace_10 : decode b_A_takePlace 10 = .ok (.bipush 7, 2) := by decide +kernel
theorem d_A_takePlace_12 : decode b_A_takePlace 12 = .ok (.invokevirtual 90, 3) := by decide +kernel
theorem d_A_readLine_133 : decode b_A_readLine 133 = .ok (.invokevirtual 127, 3) := by decide +kernel
theorem d_A_readLine_136 : decode b_A_readLine 136 = .ok (.return_, 1) := by decide +kernel
theorem d_A_readLine_70 : decode b_A_readLine 70 = .ok (.astore_n 3, 1) := by decide +kernel
theorem d_A_readLine_71 : decode b_A_readLine 71 = .ok (.aload_n 3, 1) := by decide +kernel
theorem d_A_readLine_72 : decode b_A_readLine 72 = .ok (.getfield 108, 3) := by decide +kernel
theorem d_A_readLine_75 : decode b_A_readLine 75 = .ok (.ifCond .eq 11, 3) := by decide +kernel
theorem d_A_readLine_78 : decode b_A_readLine 78 = .ok (.aload_n 3, 1) := by decide +kernel
theorem d_A_readLine_79 : decode b_A_readLine 79 = .ok (.getfield 108, 3) := by decide +kernel
theorem d_A_readLine_82 : decode b_A_readLine 82 = .ok (.iconst 1, 1) := by decide +kernel
theorem d_A_readLine_83 : decode b_A_readLine 83 = .ok (.if_icmp .ne 18, 3) := by decide +kernel
theorem d_A_readLine_101 : decode b_A_readLine 101 = .ok (.iload_n 1, 1) := by decide +kernel
theorem d_A_readLine_102 : decode b_A_readLine 102 = .ok (.ifCond .ne 30, 3) := by decide +kernel
theorem d_A_readLine_105 : decode b_A_readLine 105 = .ok (.aload_n 0, 1) := by decide +kernel
theorem d_A_readLine_106 : decode b_A_readLine 106 = .ok (.aload_n 3, 1) := by decide +kernel
theorem d_A_readLine_107 : decode b_A_readLine 107 = .ok (.invokevirtual 111, 3) := by decide +kernel
theorem d_A_readLine_110 : decode b_A_readLine 110 = .ok (.istore 4, 2) := by decide +kernel
theorem d_A_readLine_112 : decode b_A_readLine 112 = .ok (.aload_n 0, 1) := by decide +kernel
theorem d_A_readLine_113 : decode b_A_readLine 113 = .ok (.aload_n 3, 1) := by decide +kernel
theorem d_A_readLine_114 : decode b_A_readLine 114 = .ok (.getfield 118, 3) := by decide +kernel
theorem d_A_readLine_117 : decode b_A_readLine 117 = .ok (.iload 4, 2) := by decide +kernel
theorem d_A_readLine_119 : decode b_A_readLine 119 = .ok (.ior, 1) := by decide +kernel
theorem d_A_readLine_120 : decode b_A_readLine 120 = .ok (.aload_n 0, 1) := by decide +kernel
theorem d_A_readLine_121 : decode b_A_readLine 121 = .ok (.aload_n 3, 1) := by decide +kernel
theorem d_A_readLine_122 : decode b_A_readLine 122 = .ok (.getfield 108, 3) := by decide +kernel
theorem d_A_operandBits_0 : decode b_A_operandBits 0 = .ok (.iload_n 1, 1) := by decide +kernel
theorem d_A_operandBits_1 : decode b_A_operandBits 1 = .ok (.tableswitch 141 2 10 #[51, 57, 73, 98, 106, 98, 141, 124, 134], 51) := by decide +kernel
theorem d_A_operandBits_52 : decode b_A_operandBits 52 = .ok (.aload_n 0, 1) := by decide +kernel
theorem d_A_operandBits_53 : decode b_A_operandBits 53 = .ok (.iconst 0, 1) := by decide +kernel
theorem d_A_addressBitsOf_56 : decode b_A_addressBitsOf 56 = .ok (.iload_n 1, 1) := by decide +kernel
theorem d_A_addressBitsOf_57 : decode b_A_addressBitsOf 57 = .ok (.bipush 8, 2) := by decide +kernel
theorem d_A_addressBitsOf_59 : decode b_A_addressBitsOf 59 = .ok (.ishl, 1) := by decide +kernel
theorem d_A_addressBitsOf_60 : decode b_A_addressBitsOf 60 = .ok (.ior, 1) := by decide +kernel
theorem d_A_addressBitsOf_61 : decode b_A_addressBitsOf 61 = .ok (.iload_n 2, 1) := by decide +kernel
theorem d_A_addressBitsOf_62 : decode b_A_addressBitsOf 62 = .ok (.sipush 255, 3) := by decide +kernel
theorem d_A_addressBitsOf_65 : decode b_A_addressBitsOf 65 = .ok (.iand, 1) := by decide +kernel
theorem d_A_addressBitsOf_66 : decode b_A_addressBitsOf 66 = .ok (.ior, 1) := by decide +kernel
theorem d_A_addressBitsOf_67 : decode b_A_addressBitsOf 67 = .ok (.ireturn, 1) := by decide +kernel
theorem d_A_addressBitsOf_42 : decode b_A_addressBitsOf 42 = .ok (.aload_n 0, 1) := by decide +kernel
theorem d_A_addressBitsOf_43 : decode b_A_addressBitsOf 43 = .ok (.getfield 156, 3) := by decide +kernel
theorem d_A_addressBitsOf_46 : decode b_A_addressBitsOf 46 = .ok (.ifCond .eq 9, 3) := by decide +kernel
theorem d_A_addressBitsOf_55 : decode b_A_addressBitsOf 55 = .ok (.iconst 0, 1) := by decide +kernel
theorem d_A_addressBitsOf_49 : decode b_A_addressBitsOf 49 = .ok (.sipush 1024, 3) := by decide +kernel
theorem d_A_addressBitsOf_52 : decode b_A_addressBitsOf 52 = .ok (.goto 4, 3) := by decide +kernel
theorem d_A_addressBitsOf_31 : decode b_A_addressBitsOf 31 = .ok (.istore_n 3, 1) := by decide +kernel
theorem d_A_addressBitsOf_32 : decode b_A_addressBitsOf 32 = .ok (.iload_n 3, 1) := by decide +kernel
theorem d_A_addressBitsOf_33 : decode b_A_addressBitsOf 33 = .ok (.ifCond .ne 9, 3) := by decide +kernel
theorem d_A_addressBitsOf_36 : decode b_A_addressBitsOf 36 = .ok (.aload_n 0, 1) := by decide +kernel
theorem d_A_addressBitsOf_37 : decode b_A_addressBitsOf 37 = .ok (.bipush 6, 2) := by decide +kernel
theorem d_A_addressBitsOf_39 : decode b_A_addressBitsOf 39 = .ok (.invokevirtual 90, 3) := by decide +kernel
theorem d_A_addressBitsOf_0 : decode b_A_addressBitsOf 0 = .ok (.iload_n 1, 1) := by decide +kernel
theorem d_A_addressBitsOf_1 : decode b_A_addressBitsOf 1 = .ok (.ifCond .ne 13, 3) := by decide +kernel
theorem d_A_addressBitsOf_14 : decode b_A_addressBitsOf 14 = .ok (.iload_n 2, 1) := by decide +kernel
theorem d_A_addressBitsOf_15 : decode b_A_addressBitsOf 15 = .ok (.bipush (-128), 2) := by decide +kernel
theorem d_A_addressBitsOf_17 : decode b_A_addressBitsOf 17 = .ok (.if_icmp .lt 13, 3) := by decide +kernel
theorem d_A_addressBitsOf_30 : decode b_A_addressBitsOf 30 = .ok (.iconst 0, 1) := by decide +kernel
theorem d_A_addressBitsOf_20 : decode b_A_addressBitsOf 20 = .ok (.iload_n 2, 1) := by decide +kernel
theorem d_A_addressBitsOf_21 : decode b_A_addressBitsOf 21 = .ok (.bipush 127, 2) := by decide +kernel
theorem d_A_addressBitsOf_23 : decode b_A_addressBitsOf 23 = .ok (.if_icmp .gt 7, 3) := by decide +kernel
theorem d_A_addressBitsOf_26 : decode b_A_addressBitsOf 26 = .ok (.iconst 1, 1) := by decide +kernel
theorem d_A_addressBitsOf_27 : decode b_A_addressBitsOf 27 = .ok (.goto 4, 3) := by decide +kernel
theorem d_A_addressBitsOf_4 : decode b_A_addressBitsOf 4 = .ok (.iload_n 2, 1) := by decide +kernel
theorem d_A_addressBitsOf_5 : decode b_A_addressBitsOf 5 = .ok (.sipush 255, 3) := by decide +kernel
theorem d_N_isWithin_0 : decode b_N_isWithin 0 = .ok (.iload_n 0, 1) := by decide +kernel
theorem d_N_isWithin_1 : decode b_N_isWithin 1 = .ok (.ifCond .lt 12, 3) := by decide +kernel
theorem d_N_isWithin_13 : decode b_N_isWithin 13 = .ok (.iconst 0, 1) := by decide +kernel
theorem d_N_isWithin_14 : decode b_N_isWithin 14 = .ok (.ireturn, 1) := by decide +kernel
theorem d_N_isWithin_4 : decode b_N_isWithin 4 = .ok (.iload_n 0, 1) := by decide +kernel
theorem d_N_isWithin_5 : decode b_N_isWithin 5 = .ok (.iload_n 1, 1) := by decide +kernel
theorem d_N_isWithin_6 : decode b_N_isWithin 6 = .ok (.if_icmp .gt 7, 3) := by decide +kernel
theorem d_N_isWithin_9 : decode b_N_isWithin 9 = .ok (.iconst 1, 1) := by decide +kernel
theorem d_N_isWithin_10 : decode b_N_isWithin 10 = .ok (.goto 4, 3) := by decide +kernel
theorem d_A_addressBitsOf_8 : decode b_A_addressBitsOf 8 = .ok (.invokestatic 202, 3) := by decide +kernel
theorem d_A_addressBitsOf_11 : decode b_A_addressBitsOf 11 = .ok (.goto 20, 3) := by decide +kernel
theorem d_A_addressBits_100 : decode b_A_addressBits 100 = .ok (.invokevirtual 199, 3) := by decide +kernel
theorem d_A_addressBits_103 : decode b_A_addressBits 103 = .ok (.ireturn, 1) := by decide +kernel
theorem d_A_addressBits_76 : decode b_A_addressBits 76 = .ok (.aload_n 0, 1) := by decide +kernel
theorem d_A_addressBits_77 : decode b_A_addressBits 77 = .ok (.iload 4, 2) := by decide +kernel
theorem d_A_addressBits_79 : decode b_A_addressBits 79 = .ok (.iload 4, 2) := by decide +kernel
theorem d_A_addressBits_81 : decode b_A_addressBits 81 = .ok (.ifCond .eq 18, 3) := by decide +kernel
theorem d_A_addressBits_99 : decode b_A_addressBits 99 = .ok (.iload_n 2, 1) := by decide +kernel
theorem d_A_addressBits_84 : decode b_A_addressBits 84 = .ok (.iload_n 2, 1) := by decide +kernel
theorem d_A_addressBits_85 : decode b_A_addressBits 85 = .ok (.ldc 192, 2) := by decide +kernel
theorem d_A_addressBits_87 : decode b_A_addressBits 87 = .ok (.if_icmp .lt 12, 3) := by decide +kernel
theorem d_A_addressBits_90 : decode b_A_addressBits 90 = .ok (.iload_n 2, 1) := by decide +kernel
theorem d_A_addressBits_91 : decode b_A_addressBits 91 = .ok (.ldc 184, 2) := by decide +kernel
theorem d_A_addressBits_93 : decode b_A_addressBits 93 = .ok (.isub, 1) := by decide +kernel
theorem d_A_addressBits_94 : decode b_A_addressBits 94 = .ok (.iconst 1, 1) := by decide +kernel
theorem d_A_addressBits_95 : decode b_A_addressBits 95 = .ok (.isub, 1) := by decide +kernel
theorem d_A_addressBits_96 : decode b_A_addressBits 96 = .ok (.goto 4, 3) := by decide +kernel
theorem d_A_addressBits_51 : decode b_A_addressBits 51 = .ok (.istore 4, 2) := by decide +kernel
theorem d_A_addressBits_53 : decode b_A_addressBits 53 = .ok (.iload_n 3, 1) := by decide +kernel
theorem d_A_addressBits_54 : decode b_A_addressBits 54 = .ok (.ifCond .ne 22, 3) := by decide +kernel
theorem d_A_addressBits_57 : decode b_A_addressBits 57 = .ok (.iload 4, 2) := by decide +kernel
theorem d_A_addressBits_59 : decode b_A_addressBits 59 = .ok (.iconst 1, 1) := by decide +kernel
theorem d_A_addressBits_60 : decode b_A_addressBits 60 = .ok (.if_icmp .ne 16, 3) := by decide +kernel
theorem d_A_addressBits_63 : decode b_A_addressBits 63 = .ok (.aload_n 0, 1) := by decide +kernel
theorem d_A_addressBits_64 : decode b_A_addressBits 64 = .ok (.iload 4, 2) := by decide +kernel
theorem d_A_addressBits_66 : decode b_A_addressBits 66 = .ok (.iload_n 2, 1) := by decide +kernel
theorem d_A_addressBits_67 : decode b_A_addressBits 67 = .ok (.aload_n 0, 1) := by decide +kernel
theorem d_A_addressBits_68 : decode b_A_addressBits 68 = .ok (.getfield 63, 3) := by decide +kernel
theorem d_A_addressBits_71 : decode b_A_addressBits 71 = .ok (.isub, 1) := by decide +kernel
theorem d_A_addressBits_72 : decode b_A_addressBits 72 = .ok (.invokevirtual 199, 3) := by decide +kernel
theorem d_A_addressBits_75 : decode b_A_addressBits 75 = .ok (.ireturn, 1) := by decide +kernel
theorem d_A_addressBits_23 : decode b_A_addressBits 23 = .ok (.istore_n 3, 1) := by decide +kernel
theorem d_A_addressBits_24 : decode b_A_addressBits 24 = .ok (.iload_n 3, 1) := by decide +kernel
theorem d_A_addressBits_25 : decode b_A_addressBits 25 = .ok (.ifCond .eq 14, 3) := by decide +kernel
theorem d_A_addressBits_39 : decode b_A_addressBits 39 = .ok (.iload_n 2, 1) := by decide +kernel
theorem d_A_addressBits_40 : decode b_A_addressBits 40 = .ok (.sipush 256, 3) := by decide +kernel
theorem d_A_addressBits_43 : decode b_A_addressBits 43 = .ok (.if_icmp .ge 7, 3) := by decide +kernel
theorem d_A_addressBits_50 : decode b_A_addressBits 50 = .ok (.iconst 1, 1) := by decide +kernel
theorem d_A_addressBits_46 : decode b_A_addressBits 46 = .ok (.iconst 0, 1) := by decide +kernel
theorem d_A_addressBits_47 : decode b_A_addressBits 47 = .ok (.goto 4, 3) := by decide +kernel
theorem d_A_addressBits_28 : decode b_A_addressBits 28 = .ok (.aload_n 0, 1) := by decide +kernel
theorem d_A_addressBits_29 : decode b_A_addressBits 29 = .ok (.iload_n 1, 1) := by decide +kernel
theorem d_A_addressBits_30 : decode b_A_addressBits 30 = .ok (.iconst 1, 1) := by decide +kernel
theorem d_A_addressBits_31 : decode b_A_addressBits 31 = .ok (.iadd, 1) := by decide +kernel
theorem d_A_addressBits_32 : decode b_A_addressBits 32 = .ok (.iconst 3, 1) := by decide +kernel
theorem d_A_addressBits_33 : decode b_A_addressBits 33 = .ok (.invokevirtual 189, 3) := by decide +kernel
theorem d_A_addressBits_36 : decode b_A_addressBits 36 = .ok (.goto 15, 3) := by decide +kernel
theorem d_A_addressBits_0 : decode b_A_addressBits 0 = .ok (.aload_n 0, 1) := by decide +kernel
theorem d_A_addressBits_1 : decode b_A_addressBits 1 = .ok (.iload_n 1, 1) := by decide +kernel
theorem d_A_addressBits_2 : decode b_A_addressBits 2 = .ok (.ldc 184, 2) := by decide +kernel
theorem d_A_addressBits_4 : decode b_A_addressBits 4 = .ok (.invokevirtual 189, 3) := by decide +kernel
theorem d_A_addressBits_7 : decode b_A_addressBits 7 = .ok (.istore_n 2, 1) := by decide +kernel
theorem d_A_addressBits_8 : decode b_A_addressBits 8 = .ok (.aload_n 0, 1) := by decide +kernel
theorem d_A_addressBits_9 : decode b_A_addressBits 9 = .ok (.getfield 160, 3) := by decide +kernel
theorem d_A_addressBits_12 : decode b_A_addressBits 12 = .ok (.iload_n 1, 1) := by decide +kernel
theorem d_A_addressBits_13 : decode b_A_addressBits 13 = .ok (.iconst 1, 1) := by decide +kernel
theorem d_A_addressBits_14 : decode b_A_addressBits 14 = .ok (.iadd, 1) := by decide +kernel
theorem d_A_addressBits_15 : decode b_A_addressBits 15 = .ok (.if_icmp .le 7, 3) := by decide +kernel
theorem d_A_addressBits_22 : decode b_A_addressBits 22 = .ok (.iconst 0, 1) := by decide +kernel
theorem d_A_addressBits_18 : decode b_A_addressBits 18 = .ok (.iconst 1, 1) := by decide +kernel
theorem d_A_addressBits_19 : decode b_A_addressBits 19 = .ok (.goto 4, 3) := by decide +kernel
theorem d_A_operandBits_54 : decode b_A_operandBits 54 = .ok (.invokevirtual 193, 3) := by decide +kernel
theorem d_A_operandBits_57 : decode b_A_operandBits 57 = .ok (.ireturn, 1) := by decide +kernel
theorem d_A_operandBits_58 : decode b_A_operandBits 58 = .ok (.aload_n 0, 1) := by decide +kernel
theorem d_A_operandBits_59 : decode b_A_operandBits 59 = .ok (.iconst 0, 1) := by decide +kernel
theorem d_A_operandBits_60 : decode b_A_operandBits 60 = .ok (.iconst 3, 1) := by decide +kernel
theorem d_A_operandBits_61 : decode b_A_operandBits 61 = .ok (.invokevirtual 189, 3) := by decide +kernel
theorem d_A_operandBits_64 : decode b_A_operandBits 64 = .ok (.bipush 11, 2) := by decide +kernel
theorem d_A_operandBits_66 : decode b_A_operandBits 66 = .ok (.ishl, 1) := by decide +kernel
theorem d_A_operandBits_67 : decode b_A_operandBits 67 = .ok (.aload_n 0, 1) := by decide +kernel
theorem d_A_operandBits_68 : decode b_A_operandBits 68 = .ok (.iconst 1, 1) := by decide +kernel
theorem d_A_operandBits_69 : decode b_A_operandBits 69 = .ok (.invokevirtual 193, 3) := by decide +kernel
theorem d_A_operandBits_72 : decode b_A_operandBits 72 = .ok (.ior, 1) := by decide +kernel
theorem d_A_operandBits_73 : decode b_A_operandBits 73 = .ok (.ireturn, 1) := by decide +kernel
theorem d_A_operandBits_74 : decode b_A_operandBits 74 = .ok (.aload_n 0, 1) := by decide +kernel
theorem d_A_operandBits_75 : decode b_A_operandBits 75 = .ok (.iconst 0, 1) := by decide +kernel
theorem d_A_operandBits_76 : decode b_A_operandBits 76 = .ok (.iconst 3, 1) := by decide +kernel
theorem d_A_operandBits_77 : decode b_A_operandBits 77 = .ok (.invokevirtual 189, 3) := by decide +kernel
theorem d_A_operandBits_80 : decode b_A_operandBits 80 = .ok (.bipush 13, 2) := by decide +kernel
theorem d_A_operandBits_82 : decode b_A_operandBits 82 = .ok (.ishl, 1) := by decide +kernel
theorem d_A_operandBits_83 : decode b_A_operandBits 83 = .ok (.aload_n 0, 1) := by decide +kernel
theorem d_A_operandBits_84 : decode b_A_operandBits 84 = .ok (.iconst 1, 1) := by decide +kernel
theorem d_A_operandBits_85 : decode b_A_operandBits 85 = .ok (.iconst 3, 1) := by decide +kernel
theorem d_A_operandBits_86 : decode b_A_operandBits 86 = .ok (.invokevirtual 189, 3) := by decide +kernel
theorem d_A_operandBits_89 : decode b_A_operandBits 89 = .ok (.bipush 11, 2) := by decide +kernel
theorem d_A_operandBits_91 : decode b_A_operandBits 91 = .ok (.ishl, 1) := by decide +kernel
theorem d_A_operandBits_92 : decode b_A_operandBits 92 = .ok (.ior, 1) := by decide +kernel
theorem d_A_operandBits_93 : decode b_A_operandBits 93 = .ok (.aload_n 0, 1) := by decide +kernel
theorem d_A_skipBits_0 : decode b_A_skipBits 0 = .ok (.aload_n 0, 1) := by decide +kernel
theorem d_A_skipBits_1 : decode b_A_skipBits 1 = .ok (.getfield 160, 3) := by decide +kernel
theorem d_A_skipBits_4 : decode b_A_skipBits 4 = .ok (.iconst 2, 1) := by decide +kernel
theorem d_A_skipBits_5 : decode b_A_skipBits 5 = .ok (.if_icmp .le 13, 3) := by decide +kernel
theorem d_A_skipBits_18 : decode b_A_skipBits 18 = .ok (.iconst 0, 1) := by decide +kernel
theorem d_A_skipBits_19 : decode b_A_skipBits 19 = .ok (.ireturn, 1) := by decide +kernel
theorem d_A_skipBits_8 : decode b_A_skipBits 8 = .ok (.aload_n 0, 1) := by decide +kernel
theorem d_A_skipBits_9 : decode b_A_skipBits 9 = .ok (.iconst 2, 1) := by decide +kernel
theorem d_A_skipBits_10 : decode b_A_skipBits 10 = .ok (.bipush 7, 2) := by decide +kernel
theorem d_A_skipBits_12 : decode b_A_skipBits 12 = .ok (.invokevirtual 189, 3) := by decide +kernel
theorem d_A_skipBits_15 : decode b_A_skipBits 15 = .ok (.goto 4, 3) := by decide +kernel
theorem d_A_operandBits_94 : decode b_A_operandBits 94 = .ok (.invokevirtual 196, 3) := by decide +kernel
theorem d_A_operandBits_97 : decode b_A_operandBits 97 = .ok (.ior, 1) := by decide +kernel
theorem d_A_operandBits_98 : decode b_A_operandBits 98 = .ok (.ireturn, 1) := by decide +kernel
theorem d_A_operandBits_99 : decode b_A_operandBits 99 = .ok (.aload_n 0, 1) := by decide +kernel
theorem d_A_operandBits_100 : decode b_A_operandBits 100 = .ok (.iconst 0, 1) := by decide +kernel
theorem d_A_operandBits_101 : decode b_A_operandBits 101 = .ok (.bipush 63, 2) := by decide +kernel
theorem d_A_operandBits_103 : decode b_A_operandBits 103 = .ok (.invokevirtual 189, 3) := by decide +kernel
theorem d_A_operandBits_106 : decode b_A_operandBits 106 = .ok (.ireturn, 1) := by decide +kernel
theorem d_A_operandBits_107 : decode b_A_operandBits 107 = .ok (.aload_n 0, 1) := by decide +kernel
theorem d_A_operandBits_108 : decode b_A_operandBits 108 = .ok (.iconst 0, 1) := by decide +kernel
theorem d_A_operandBits_109 : decode b_A_operandBits 109 = .ok (.iconst 3, 1) := by decide +kernel
theorem d_A_operandBits_110 : decode b_A_operandBits 110 = .ok (.invokevirtual 189, 3) := by decide +kernel
theorem d_A_operandBits_113 : decode b_A_operandBits 113 = .ok (.bipush 11, 2) := by decide +kernel
theorem d_A_operandBits_115 : decode b_A_operandBits 115 = .ok (.ishl, 1) := by decide +kernel
theorem d_A_operandBits_116 : decode b_A_operandBits 116 = .ok (.aload_n 0, 1) := by decide +kernel
theorem d_A_operandBits_117 : decode b_A_operandBits 117 = .ok (.iconst 1, 1) := by decide +kernel
theorem d_A_operandBits_118 : decode b_A_operandBits 118 = .ok (.bipush 63, 2) := by decide +kernel
theorem d_A_operandBits_120 : decode b_A_operandBits 120 = .ok (.invokevirtual 189, 3) := by decide +kernel
theorem d_A_operandBits_123 : decode b_A_operandBits 123 = .ok (.ior, 1) := by decide +kernel
theorem d_A_operandBits_124 : decode b_A_operandBits 124 = .ok (.ireturn, 1) := by decide +kernel
theorem d_A_operandBits_142 : decode b_A_operandBits 142 = .ok (.iconst 0, 1) := by decide +kernel
theorem d_A_operandBits_143 : decode b_A_operandBits 143 = .ok (.ireturn, 1) := by decide +kernel
theorem d_A_operandBits_125 : decode b_A_operandBits 125 = .ok (.aload_n 0, 1) := by decide +kernel
theorem d_A_operandBits_126 : decode b_A_operandBits 126 = .ok (.iconst 0, 1) := by decide +kernel
theorem d_A_operandBits_127 : decode b_A_operandBits 127 = .ok (.iconst 3, 1) := by decide +kernel
theorem d_A_operandBits_128 : decode b_A_operandBits 128 = .ok (.invokevirtual 189, 3) := by decide +kernel
theorem d_A_operandBits_131 : decode b_A_operandBits 131 = .ok (.bipush 11, 2) := by decide +kernel
theorem d_A_operandBits_133 : decode b_A_operandBits 133 = .ok (.ishl, 1) := by decide +kernel
theorem d_A_operandBits_134 : decode b_A_operandBits 134 = .ok (.ireturn, 1) := by decide +kernel
theorem d_A_operandBits_135 : decode b_A_operandBits 135 = .ok (.aload_n 0, 1) := by decide +kernel
theorem d_A_operandBits_136 : decode b_A_operandBits 136 = .ok (.getfield 35, 3) := by decide +kernel
theorem d_A_operandBits_139 : decode b_A_operandBits 139 = .ok (.iconst 0, 1) := by decide +kernel
theorem d_A_operandBits_140 : decode b_A_operandBits 140 = .ok (.iaload, 1) := by decide +kernel
theorem d_A_operandBits_141 : decode b_A_operandBits 141 = .ok (.ireturn, 1) := by decide +kernel
theorem d_A_readLine_125 : decode b_A_readLine 125 = .ok (.invokevirtual 121, 3) := by decide +kernel
theorem d_A_readLine_128 : decode b_A_readLine 128 = .ok (.ior, 1) := by decide +kernel
theorem d_A_keepWord_0 : decode b_A_keepWord 0 = .ok (.aload_n 0, 1) := by decide +kernel
theorem d_A_keepWord_1 : decode b_A_keepWord 1 = .ok (.getfield 54, 3) := by decide +kernel
theorem d_A_keepWord_4 : decode b_A_keepWord 4 = .ok (.sipush 3000, 3) := by decide +kernel
theorem d_A_keepWord_7 : decode b_A_keepWord 7 = .ok (.if_icmp .ge 36, 3) := by decide +kernel
theorem d_A_keepWord_43 : decode b_A_keepWord 43 = .ok (.return_, 1) := by decide +kernel
theorem d_A_keepWord_10 : decode b_A_keepWord 10 = .ok (.aload_n 0, 1) := by decide +kernel
theorem d_A_keepWord_11 : decode b_A_keepWord 11 = .ok (.getfield 28, 3) := by decide +kernel
theorem d_A_keepWord_14 : decode b_A_keepWord 14 = .ok (.aload_n 0, 1) := by decide +kernel
theorem d_A_keepWord_15 : decode b_A_keepWord 15 = .ok (.getfield 54, 3) := by decide +kernel
theorem d_A_keepWord_18 : decode b_A_keepWord 18 = .ok (.aload_n 0, 1) := by decide +kernel
theorem d_A_keepWord_19 : decode b_A_keepWord 19 = .ok (.getfield 63, 3) := by decide +kernel
theorem d_A_keepWord_22 : decode b_A_keepWord 22 = .ok (.iastore, 1) := by decide +kernel
theorem d_A_keepWord_23 : decode b_A_keepWord 23 = .ok (.aload_n 0, 1) := by decide +kernel
theorem d_A_keepWord_24 : decode b_A_keepWord 24 = .ok (.getfield 32, 3) := by decide +kernel
theorem d_A_keepWord_27 : decode b_A_keepWord 27 = .ok (.aload_n 0, 1) := by decide +kernel
theorem d_A_keepWord_28 : decode b_A_keepWord 28 = .ok (.getfield 54, 3) := by decide +kernel
theorem d_A_keepWord_31 : decode b_A_keepWord 31 = .ok (.iload_n 1, 1) := by decide +kernel
theorem d_A_keepWord_32 : decode b_A_keepWord 32 = .ok (.iastore, 1) := by decide +kernel
theorem d_A_keepWord_33 : decode b_A_keepWord 33 = .ok (.aload_n 0, 1) := by decide +kernel
theorem d_A_keepWord_34 : decode b_A_keepWord 34 = .ok (.dup, 1) := by decide +kernel
theorem d_A_keepWord_35 : decode b_A_keepWord 35 = .ok (.getfield 54, 3) := by decide +kernel
theorem d_A_keepWord_38 : decode b_A_keepWord 38 = .ok (.iconst 1, 1) := by decide +kernel
theorem d_A_keepWord_39 : decode b_A_keepWord 39 = .ok (.iadd, 1) := by decide +kernel
theorem d_A_keepWord_40 : decode b_A_keepWord 40 = .ok (.putfield 54, 3) := by decide +kernel
theorem d_A_readLine_129 : decode b_A_readLine 129 = .ok (.invokevirtual 124, 3) := by decide +kernel
theorem d_A_readLine_45 : decode b_A_readLine 45 = .ok (.iload_n 2, 1) := by decide +kernel
theorem d_A_readLine_46 : decode b_A_readLine 46 = .ok (.iconst 2, 1) := by decide +kernel
theorem d_A_readLine_47 : decode b_A_readLine 47 = .ok (.if_icmp .ne 20, 3) := by decide +kernel
theorem d_A_readLine_67 : decode b_A_readLine 67 = .ok (.getstatic 104, 3) := by decide +kernel
theorem d_A_readLine_50 : decode b_A_readLine 50 = .ok (.aload_n 0, 1) := by decide +kernel
theorem d_A_readLine_51 : decode b_A_readLine 51 = .ok (.getfield 12, 3) := by decide +kernel
theorem d_A_readLine_54 : decode b_A_readLine 54 = .ok (.aload_n 0, 1) := by decide +kernel
theorem d_A_readLine_55 : decode b_A_readLine 55 = .ok (.getfield 76, 3) := by decide +kernel
theorem d_A_readLine_58 : decode b_A_readLine 58 = .ok (.invokevirtual 94, 3) := by decide +kernel
theorem d_S_named_2 : decode b_S_named 2 = .ok (.iload_n 2, 1) := by decide +kernel
theorem d_S_named_3 : decode b_S_named 3 = .ok (.getstatic 152, 3) := by decide +kernel
theorem d_S_named_6 : decode b_S_named 6 = .ok (.arraylength, 1) := by decide +kernel
theorem d_S_named_7 : decode b_S_named 7 = .ok (.if_icmp .ge 28, 3) := by decide +kernel
theorem d_S_named_35 : decode b_S_named 35 = .ok (.getstatic 108, 3) := by decide +kernel
theorem d_S_named_38 : decode b_S_named 38 = .ok (.areturn, 1) := by decide +kernel
theorem d_S_named_10 : decode b_S_named 10 = .ok (.getstatic 152, 3) := by decide +kernel
theorem d_S_named_13 : decode b_S_named 13 = .ok (.iload_n 2, 1) := by decide +kernel
theorem d_S_named_14 : decode b_S_named 14 = .ok (.aaload, 1) := by decide +kernel
theorem d_S_named_15 : decode b_S_named 15 = .ok (.lload_n 0, 1) := by decide +kernel
theorem d_S_named_16 : decode b_S_named 16 = .ok (.invokevirtual 155, 3) := by decide +kernel
theorem d_S_named_19 : decode b_S_named 19 = .ok (.iconst (-1), 1) := by decide +kernel
theorem d_S_named_20 : decode b_S_named 20 = .ok (.if_icmp .eq 9, 3) := by decide +kernel
theorem d_S_named_29 : decode b_S_named 29 = .ok (.iinc 2 1, 3) := by decide +kernel
theorem d_S_named_32 : decode b_S_named 32 = .ok (.goto (-30), 3) := by decide +kernel
theorem d_S_named_23 : decode b_S_named 23 = .ok (.getstatic 152, 3) := by decide +kernel
theorem d_S_named_26 : decode b_S_named 26 = .ok (.iload_n 2, 1) := by decide +kernel
theorem d_S_named_27 : decode b_S_named 27 = .ok (.aaload, 1) := by decide +kernel
theorem d_S_named_28 : decode b_S_named 28 = .ok (.areturn, 1) := by decide +kernel
theorem d_S_named_0 : decode b_S_named 0 = .ok (.iconst 0, 1) := by decide +kernel
theorem d_S_named_1 : decode b_S_named 1 = .ok (.istore_n 2, 1) := by decide +kernel
theorem d_A_readLine_61 : decode b_A_readLine 61 = .ok (.invokestatic 98, 3) := by decide +kernel
theorem d_A_readLine_64 : decode b_A_readLine 64 = .ok (.goto 6, 3) := by decide +kernel
theorem d_A_readLine_0 : decode b_A_readLine 0 = .ok (.aload_n 0, 1) := by decide +kernel
theorem d_A_readLine_1 : decode b_A_readLine 1 = .ok (.iload_n 1, 1) := by decide +kernel
theorem d_A_readLabels_72 : decode b_A_readLabels 72 = .ok (.iinc 2 1, 3) := by decide +kernel
theorem d_A_readLabels_75 : decode b_A_readLabels 75 = .ok (.goto (-73), 3) := by decide +kernel
theorem d_A_readLabels_2 : decode b_A_readLabels 2 = .ok (.iload_n 2, 1) := by decide +kernel
theorem d_A_readLabels_3 : decode b_A_readLabels 3 = .ok (.aload_n 0, 1) := by decide +kernel
theorem d_A_readLabels_4 : decode b_A_readLabels 4 = .ok (.getfield 12, 3) := by decide +kernel
theorem d_A_readLabels_7 : decode b_A_readLabels 7 = .ok (.getfield 69, 3) := by decide +kernel
theorem d_A_readLabels_10 : decode b_A_readLabels 10 = .ok (.if_icmp .ge 68, 3) := by decide +kernel
theorem d_A_readLabels_78 : decode b_A_readLabels 78 = .ok (.return_, 1) := by decide +kernel
theorem d_A_readLabels_13 : decode b_A_readLabels 13 = .ok (.aload_n 0, 1) := by decide +kernel
theorem d_A_readLabels_14 : decode b_A_readLabels 14 = .ok (.invokevirtual 86, 3) := by decide +kernel
theorem d_A_readLabels_17 : decode b_A_readLabels 17 = .ok (.iconst 2, 1) := by decide +kernel
theorem d_A_readLabels_18 : decode b_A_readLabels 18 = .ok (.if_icmp .ne 60, 3) := by decide +kernel
theorem d_A_readLabels_21 : decode b_A_readLabels 21 = .ok (.aload_n 0, 1) := by decide +kernel
theorem d_A_readLabels_22 : decode b_A_readLabels 22 = .ok (.getfield 12, 3) := by decide +kernel
theorem d_A_readLabels_25 : decode b_A_readLabels 25 = .ok (.aload_n 0, 1) := by decide +kernel
theorem d_A_readLabels_26 : decode b_A_readLabels 26 = .ok (.getfield 76, 3) := by decide +kernel
theorem d_A_readLabels_29 : decode b_A_readLabels 29 = .ok (.invokevirtual 94, 3) := by decide +kernel
theorem d_A_readLabels_32 : decode b_A_readLabels 32 = .ok (.lstore_n 3, 1) := by decide +kernel
theorem d_A_readLabels_33 : decode b_A_readLabels 33 = .ok (.aload_n 0, 1) := by decide +kernel
theorem d_A_readLabels_34 : decode b_A_readLabels 34 = .ok (.dup, 1) := by decide +kernel
theorem d_A_readLabels_35 : decode b_A_readLabels 35 = .ok (.getfield 76, 3) := by decide +kernel
theorem d_A_readLabels_38 : decode b_A_readLabels 38 = .ok (.iconst 1, 1) := by decide +kernel
theorem d_A_readLabels_39 : decode b_A_readLabels 39 = .ok (.iadd, 1) := by decide +kernel
theorem d_A_readLabels_40 : decode b_A_readLabels 40 = .ok (.putfield 76, 3) := by decide +kernel
theorem d_A_readLabels_43 : decode b_A_readLabels 43 = .ok (.aload_n 0, 1) := by decide +kernel
theorem d_A_readLabels_44 : decode b_A_readLabels 44 = .ok (.bipush 58, 2) := by decide +kernel
theorem d_A_readLabels_46 : decode b_A_readLabels 46 = .ok (.invokevirtual 130, 3) := by decide +kernel
theorem d_A_readLabels_49 : decode b_A_readLabels 49 = .ok (.ifCond .ne 14, 3) := by decide +kernel
theorem d_A_readLabels_63 : decode b_A_readLabels 63 = .ok (.iload_n 1, 1) := by decide +kernel
theorem d_A_readLabels_64 : decode b_A_readLabels 64 = .ok (.ifCond .eq 8, 3) := by decide +kernel
theorem d_A_readLabels_67 : decode b_A_readLabels 67 = .ok (.aload_n 0, 1) := by decide +kernel
theorem d_A_readLabels_68 : decode b_A_readLabels 68 = .ok (.lload_n 3, 1) := by decide +kernel
theorem d_A_define_43 : decode b_A_define 43 = .ok (.istore_n 3, 1) := by decide +kernel
theorem d_A_define_44 : decode b_A_define 44 = .ok (.iload_n 3, 1) := by decide +kernel
theorem d_A_define_45 : decode b_A_define 45 = .ok (.ifCond .eq 11, 3) := by decide +kernel
theorem d_A_define_56 : decode b_A_define 56 = .ok (.aload_n 0, 1) := by decide +kernel
theorem d_A_define_57 : decode b_A_define 57 = .ok (.getfield 25, 3) := by decide +kernel
theorem d_A_define_60 : decode b_A_define 60 = .ok (.lload_n 1, 1) := by decide +kernel
theorem d_A_define_61 : decode b_A_define 61 = .ok (.aload_n 0, 1) := by decide +kernel
theorem d_A_define_62 : decode b_A_define 62 = .ok (.getfield 63, 3) := by decide +kernel
theorem d_A_define_65 : decode b_A_define 65 = .ok (.invokevirtual 149, 3) := by decide +kernel
theorem d_A_define_68 : decode b_A_define 68 = .ok (.ifCond .ne 9, 3) := by decide +kernel
theorem d_A_define_77 : decode b_A_define 77 = .ok (.return_, 1) := by decide +kernel
theorem d_A_define_71 : decode b_A_define 71 = .ok (.aload_n 0, 1) := by decide +kernel
theorem d_A_define_72 : decode b_A_define 72 = .ok (.bipush 7, 2) := by decide +kernel
theorem d_A_define_74 : decode b_A_define 74 = .ok (.invokevirtual 90, 3) := by decide +kernel
theorem d_A_define_48 : decode b_A_define 48 = .ok (.aload_n 0, 1) := by decide +kernel
theorem d_A_define_49 : decode b_A_define 49 = .ok (.iconst 4, 1) := by decide +kernel
theorem d_A_define_50 : decode b_A_define 50 = .ok (.invokevirtual 90, 3) := by decide +kernel
theorem d_A_define_53 : decode b_A_define 53 = .ok (.goto 24, 3) := by decide +kernel
theorem d_A_define_0 : decode b_A_define 0 = .ok (.lload_n 1, 1) := by decide +kernel
theorem d_A_define_1 : decode b_A_define 1 = .ok (.ldc2_w 138, 3) := by decide +kernel
theorem d_A_define_4 : decode b_A_define 4 = .ok (.lcmp, 1) := by decide +kernel
theorem d_A_define_5 : decode b_A_define 5 = .ok (.ifCond .eq 33, 3) := by decide +kernel
theorem d_A_define_38 : decode b_A_define 38 = .ok (.iconst 1, 1) := by decide +kernel
theorem d_A_define_39 : decode b_A_define 39 = .ok (.goto 4, 3) := by decide +kernel
theorem d_A_define_8 : decode b_A_define 8 = .ok (.lload_n 1, 1) := by decide +kernel
theorem d_A_define_9 : decode b_A_define 9 = .ok (.invokestatic 140, 3) := by decide +kernel
theorem d_A_define_12 : decode b_A_define 12 = .ok (.iconst (-1), 1) := by decide +kernel
theorem d_A_define_13 : decode b_A_define 13 = .ok (.if_icmp .ne 25, 3) := by decide +kernel
theorem d_A_define_16 : decode b_A_define 16 = .ok (.lload_n 1, 1) := by decide +kernel
theorem d_A_define_17 : decode b_A_define 17 = .ok (.invokestatic 98, 3) := by decide +kernel
theorem d_A_define_20 : decode b_A_define 20 = .ok (.getstatic 104, 3) := by decide +kernel
theorem d_A_define_23 : decode b_A_define 23 = .ok (.if_acmp .ne 15, 3) := by decide +kernel
theorem d_A_define_26 : decode b_A_define 26 = .ok (.aload_n 0, 1) := by decide +kernel
theorem d_A_define_27 : decode b_A_define 27 = .ok (.getfield 25, 3) := by decide +kernel
theorem d_A_define_30 : decode b_A_define 30 = .ok (.lload_n 1, 1) := by decide +kernel
theorem d_A_define_31 : decode b_A_define 31 = .ok (.invokevirtual 146, 3) := by decide +kernel
theorem d_A_define_34 : decode b_A_define 34 = .ok (.iconst (-1), 1) := by decide +kernel
theorem d_A_define_35 : decode b_A_define 35 = .ok (.if_icmp .eq 7, 3) := by decide +kernel
theorem d_A_define_42 : decode b_A_define 42 = .ok (.iconst 0, 1) := by decide +kernel
theorem d_A_readLabels_69 : decode b_A_readLabels 69 = .ok (.invokevirtual 134, 3) := by decide +kernel
theorem d_A_readLabels_52 : decode b_A_readLabels 52 = .ok (.aload_n 0, 1) := by decide +kernel
theorem d_A_readLabels_53 : decode b_A_readLabels 53 = .ok (.dup, 1) := by decide +kernel
theorem d_A_readLabels_54 : decode b_A_readLabels 54 = .ok (.getfield 76, 3) := by decide +kernel
theorem d_A_readLabels_57 : decode b_A_readLabels 57 = .ok (.iconst 1, 1) := by decide +kernel
theorem d_A_readLabels_58 : decode b_A_readLabels 58 = .ok (.isub, 1) := by decide +kernel
theorem d_A_readLabels_59 : decode b_A_readLabels 59 = .ok (.putfield 76, 3) := by decide +kernel
theorem d_A_readLabels_62 : decode b_A_readLabels 62 = .ok (.return_, 1) := by decide +kernel
theorem d_A_readLabels_0 : decode b_A_readLabels 0 = .ok (.iconst 0, 1) := by decide +kernel
theorem d_A_readLabels_1 : decode b_A_readLabels 1 = .ok (.istore_n 2, 1) := by decide +kernel
theorem d_A_readLine_2 : decode b_A_readLine 2 = .ok (.invokevirtual 83, 3) := by decide +kernel
theorem d_A_readLine_5 : decode b_A_readLine 5 = .ok (.aload_n 0, 1) := by decide +kernel
theorem d_A_readLine_6 : decode b_A_readLine 6 = .ok (.invokevirtual 86, 3) := by decide +kernel
theorem d_A_readLine_9 : decode b_A_readLine 9 = .ok (.istore_n 2, 1) := by decide +kernel
theorem d_A_readLine_10 : decode b_A_readLine 10 = .ok (.iload_n 2, 1) := by decide +kernel
theorem d_A_readLine_11 : decode b_A_readLine 11 = .ok (.bipush 10, 2) := by decide +kernel
theorem d_A_readLine_13 : decode b_A_readLine 13 = .ok (.if_icmp .ne 4, 3) := by decide +kernel
theorem d_A_readLine_17 : decode b_A_readLine 17 = .ok (.iload_n 2, 1) := by decide +kernel
theorem d_A_readLine_18 : decode b_A_readLine 18 = .ok (.iconst 2, 1) := by decide +kernel
theorem d_A_readLine_19 : decode b_A_readLine 19 = .ok (.if_icmp .eq 26, 3) := by decide +kernel
theorem d_A_readLine_22 : decode b_A_readLine 22 = .ok (.iload_n 2, 1) := by decide +kernel
theorem d_A_readLine_23 : decode b_A_readLine 23 = .ok (.iconst 3, 1) := by decide +kernel
theorem d_A_readLine_24 : decode b_A_readLine 24 = .ok (.if_icmp .eq 21, 3) := by decide +kernel
theorem d_A_readLine_27 : decode b_A_readLine 27 = .ok (.iload_n 2, 1) := by decide +kernel
theorem d_A_readLine_28 : decode b_A_readLine 28 = .ok (.bipush 43, 2) := by decide +kernel
theorem d_A_readLine_30 : decode b_A_readLine 30 = .ok (.if_icmp .eq 15, 3) := by decide +kernel
theorem d_A_readLine_33 : decode b_A_readLine 33 = .ok (.iload_n 2, 1) := by decide +kernel
theorem d_A_readLine_34 : decode b_A_readLine 34 = .ok (.bipush 45, 2) := by decide +kernel
theorem d_A_readLine_36 : decode b_A_readLine 36 = .ok (.if_icmp .eq 9, 3) := by decide +kernel
theorem d_A_readLine_39 : decode b_A_readLine 39 = .ok (.aload_n 0, 1) := by decide +kernel
theorem d_A_readLine_40 : decode b_A_readLine 40 = .ok (.iconst 2, 1) := by decide +kernel
theorem d_A_readLine_41 : decode b_A_readLine 41 = .ok (.invokevirtual 90, 3) := by decide +kernel
theorem d_A_readLine_44 : decode b_A_readLine 44 = .ok (.return_, 1) := by decide +kernel
theorem d_A_readLine_16 : decode b_A_readLine 16 = .ok (.return_, 1) := by decide +kernel
theorem d_A_goThrough_62 : decode b_A_goThrough 62 = .ok (.invokevirtual 79, 3) := by decide +kernel
theorem d_A_goThrough_65 : decode b_A_goThrough 65 = .ok (.iload_n 3, 1) := by decide +kernel
theorem d_A_goThrough_66 : decode b_A_goThrough 66 = .ok (.iconst 1, 1) := by decide +kernel
theorem d_A_goThrough_67 : decode b_A_goThrough 67 = .ok (.iadd, 1) := by decide +kernel
theorem d_A_goThrough_68 : decode b_A_goThrough 68 = .ok (.istore_n 2, 1) := by decide +kernel
theorem d_A_goThrough_0 : decode b_A_goThrough 0 = .ok (.aload_n 0, 1) := by decide +kernel
theorem d_A_goThrough_1 : decode b_A_goThrough 1 = .ok (.iconst 0, 1) := by decide +kernel
theorem d_A_goThrough_2 : decode b_A_goThrough 2 = .ok (.putfield 63, 3) := by decide +kernel
theorem d_A_goThrough_5 : decode b_A_goThrough 5 = .ok (.aload_n 0, 1) := by decide +kernel
theorem d_A_goThrough_6 : decode b_A_goThrough 6 = .ok (.iconst 0, 1) := by decide +kernel
theorem d_A_goThrough_7 : decode b_A_goThrough 7 = .ok (.putfield 66, 3) := by decide +kernel
theorem d_A_goThrough_10 : decode b_A_goThrough 10 = .ok (.iconst 0, 1) := by decide +kernel
theorem d_A_goThrough_11 : decode b_A_goThrough 11 = .ok (.istore_n 2, 1) := by decide +kernel
theorem d_A_goThrough_12 : decode b_A_goThrough 12 = .ok (.iconst 0, 1) := by decide +kernel
theorem d_A_goThrough_13 : decode b_A_goThrough 13 = .ok (.istore_n 3, 1) := by decide +kernel
theorem d_N_why_0 : decode b_N_why 0 = .ok (.aload_n 0, 1) := by decide +kernel
theorem d_N_why_1 : decode b_N_why 1 = .ok (.getfield 10, 3) := by decide +kernel
theorem d_N_why_4 : decode b_N_why 4 = .ok (.getfield 80, 3) := by decide +kernel
theorem d_N_why_7 : decode b_N_why 7 = .ok (.ireturn, 1) := by decide +kernel
theorem d_N_printed_0 : decode b_N_printed 0 = .ok (.aload_n 0, 1) := by decide +kernel
theorem d_N_printed_1 : decode b_N_printed 1 = .ok (.getfield 10, 3) := by decide +kernel
theorem d_N_printed_4 : decode b_N_printed 4 = .ok (.getfield 83, 3) := by decide +kernel
theorem d_N_printed_7 : decode b_N_printed 7 = .ok (.iload_n 1, 1) := by decide +kernel
theorem d_N_printed_8 : decode b_N_printed 8 = .ok (.invokevirtual 87, 3) := by decide +kernel
theorem d_N_printed_11 : decode b_N_printed 11 = .ok (.ireturn, 1) := by decide +kernel
theorem d_N_tear_0 : decode b_N_tear 0 = .ok (.aload_n 0, 1) := by decide +kernel
theorem d_N_tear_1 : decode b_N_tear 1 = .ok (.getfield 10, 3) := by decide +kernel
theorem d_N_tear_4 : decode b_N_tear 4 = .ok (.getfield 83, 3) := by decide +kernel
theorem d_N_tear_7 : decode b_N_tear 7 = .ok (.invokevirtual 92, 3) := by decide +kernel
theorem d_N_tear_10 : decode b_N_tear 10 = .ok (.ireturn, 1) := by decide +kernel
theorem d_N_reset_0 : decode b_N_reset 0 = .ok (.aload_n 0, 1) := by decide +kernel
theorem d_N_reset_1 : decode b_N_reset 1 = .ok (.getfield 10, 3) := by decide +kernel
theorem d_N_reset_4 : decode b_N_reset 4 = .ok (.invokevirtual 96, 3) := by decide +kernel
theorem d_N_reset_7 : decode b_N_reset 7 = .ok (.aload_n 0, 1) := by decide +kernel
theorem d_N_reset_8 : decode b_N_reset 8 = .ok (.getfield 19, 3) := by decide +kernel
theorem d_N_reset_11 : decode b_N_reset 11 = .ok (.invokevirtual 99, 3) := by decide +kernel
theorem d_N_reset_14 : decode b_N_reset 14 = .ok (.aload_n 0, 1) := by decide +kernel
theorem d_N_reset_15 : decode b_N_reset 15 = .ok (.getfield 26, 3) := by decide +kernel
theorem d_N_reset_18 : decode b_N_reset 18 = .ok (.invokevirtual 100, 3) := by decide +kernel
theorem d_N_reset_21 : decode b_N_reset 21 = .ok (.return_, 1) := by decide +kernel
theorem d_N_assemble_0 : decode b_N_assemble 0 = .ok (.aload_n 0, 1) := by decide +kernel
theorem d_N_assemble_1 : decode b_N_assemble 1 = .ok (.getfield 19, 3) := by decide +kernel
theorem d_N_assemble_4 : decode b_N_assemble 4 = .ok (.invokevirtual 113, 3) := by decide +kernel
theorem d_N_assemble_7 : decode b_N_assemble 7 = .ok (.aload_n 0, 1) := by decide +kernel
theorem d_N_assemble_8 : decode b_N_assemble 8 = .ok (.getfield 19, 3) := by decide +kernel
theorem d_N_assemble_11 : decode b_N_assemble 11 = .ok (.iconst 1, 1) := by decide +kernel
theorem d_N_assemble_12 : decode b_N_assemble 12 = .ok (.invokevirtual 116, 3) := by decide +kernel
theorem d_N_assemble_15 : decode b_N_assemble 15 = .ok (.aload_n 0, 1) := by decide +kernel
theorem d_N_assemble_16 : decode b_N_assemble 16 = .ok (.getfield 19, 3) := by decide +kernel
theorem d_N_assemble_19 : decode b_N_assemble 19 = .ok (.iconst 0, 1) := by decide +kernel
theorem d_N_assemble_20 : decode b_N_assemble 20 = .ok (.invokevirtual 116, 3) := by decide +kernel
theorem d_N_assemble_23 : decode b_N_assemble 23 = .ok (.aload_n 0, 1) := by decide +kernel
theorem d_N_assemble_24 : decode b_N_assemble 24 = .ok (.getfield 19, 3) := by decide +kernel
theorem d_N_assemble_27 : decode b_N_assemble 27 = .ok (.aload_n 0, 1) := by decide +kernel
theorem d_N_assemble_28 : decode b_N_assemble 28 = .ok (.getfield 10, 3) := by decide +kernel
theorem d_N_assemble_31 : decode b_N_assemble 31 = .ok (.invokevirtual 119, 3) := by decide +kernel
theorem d_N_assemble_34 : decode b_N_assemble 34 = .ok (.ireturn, 1) := by decide +kernel
theorem d_N_label_0 : decode b_N_label 0 = .ok (.aload_n 0, 1) := by decide +kernel
theorem d_N_label_1 : decode b_N_label 1 = .ok (.getfield 19, 3) := by decide +kernel
theorem d_N_label_4 : decode b_N_label 4 = .ok (.getfield 129, 3) := by decide +kernel
theorem d_N_label_7 : decode b_N_label 7 = .ok (.iload_n 1, 1) := by decide +kernel
theorem d_N_label_8 : decode b_N_label 8 = .ok (.i2l, 1) := by decide +kernel
theorem d_N_label_9 : decode b_N_label 9 = .ok (.bipush 32, 2) := by decide +kernel
theorem d_N_label_11 : decode b_N_label 11 = .ok (.lshl, 1) := by decide +kernel
theorem d_N_label_12 : decode b_N_label 12 = .ok (.iload_n 2, 1) := by decide +kernel
theorem d_N_label_13 : decode b_N_label 13 = .ok (.i2l, 1) := by decide +kernel
theorem d_N_label_14 : decode b_N_label 14 = .ok (.ldc2_w 133, 3) := by decide +kernel
theorem d_N_label_17 : decode b_N_label 17 = .ok (.land, 1) := by decide +kernel
theorem d_N_label_18 : decode b_N_label 18 = .ok (.lor, 1) := by decide +kernel
theorem d_N_label_19 : decode b_N_label 19 = .ok (.invokevirtual 135, 3) := by decide +kernel
theorem d_N_label_22 : decode b_N_label 22 = .ok (.ireturn, 1) := by decide +kernel
theorem d_N_told_0 : decode b_N_told 0 = .ok (.aload_n 0, 1) := by decide +kernel
theorem d_N_told_1 : decode b_N_told 1 = .ok (.getfield 26, 3) := by decide +kernel
theorem d_N_told_4 : decode b_N_told 4 = .ok (.iload_n 1, 1) := by decide +kernel
theorem d_N_told_5 : decode b_N_told 5 = .ok (.invokevirtual 144, 3) := by decide +kernel
theorem d_N_told_8 : decode b_N_told 8 = .ok (.ireturn, 1) := by decide +kernel
theorem d_N_highestOf_0 : decode b_N_highestOf 0 = .ok (.iload_n 0, 1) := by decide +kernel
theorem d_N_highestOf_1 : decode b_N_highestOf 1 = .ok (.lookupswitch 33 #[(4, 27), (5, 29)], 27) := by decide +kernel
theorem d_N_highestOf_28 : decode b_N_highestOf 28 = .ok (.iconst 1, 1) := by decide +kernel
theorem d_N_highestOf_29 : decode b_N_highestOf 29 = .ok (.ireturn, 1) := by decide +kernel
theorem d_N_highestOf_30 : decode b_N_highestOf 30 = .ok (.sipush 32767, 3) := by decide +kernel
theorem d_N_highestOf_33 : decode b_N_highestOf 33 = .ok (.ireturn, 1) := by decide +kernel
theorem d_N_highestOf_34 : decode b_N_highestOf 34 = .ok (.ldc 34, 2) := by decide +kernel
theorem d_N_highestOf_36 : decode b_N_highestOf 36 = .ok (.ireturn, 1) := by decide +kernel
