/-! the reference: decode rows, by program -/
theorem d_R_thrown_0 : decode b_R_thrown 0 = .ok (.aload_n 0, 1) := by decide +kernel
theorem d_R_thrown_1 : decode b_R_thrown 1 = .ok (.getfield 68, 3) := by decide +kernel
theorem d_R_thrown_4 : decode b_R_thrown 4 = .ok (.ireturn, 1) := by decide +kernel
theorem d_R_fails_10 : decode b_R_fails 10 = .ok (.putfield 68, 3) := by decide +kernel
theorem d_R_fails_13 : decode b_R_fails 13 = .ok (.iload_n 1, 1) := by decide +kernel
theorem d_R_fails_14 : decode b_R_fails 14 = .ok (.ireturn, 1) := by decide +kernel
theorem d_R_fails_0 : decode b_R_fails 0 = .ok (.aload_n 0, 1) := by decide +kernel
theorem d_R_fails_1 : decode b_R_fails 1 = .ok (.iload_n 1, 1) := by decide +kernel
theorem d_R_fails_2 : decode b_R_fails 2 = .ok (.ifCond .eq 7, 3) := by decide +kernel
theorem d_R_fails_9 : decode b_R_fails 9 = .ok (.iconst 0, 1) := by decide +kernel
theorem d_R_fails_5 : decode b_R_fails 5 = .ok (.iload_n 2, 1) := by decide +kernel
theorem d_R_fails_6 : decode b_R_fails 6 = .ok (.goto 4, 3) := by decide +kernel
theorem d_R_within_0 : decode b_R_within 0 = .ok (.iload_n 0, 1) := by decide +kernel
theorem d_R_within_1 : decode b_R_within 1 = .ok (.iload_n 1, 1) := by decide +kernel
theorem d_R_within_2 : decode b_R_within 2 = .ok (.if_icmp .lt 12, 3) := by decide +kernel
theorem d_R_within_14 : decode b_R_within 14 = .ok (.iconst 0, 1) := by decide +kernel
theorem d_R_within_15 : decode b_R_within 15 = .ok (.ireturn, 1) := by decide +kernel
theorem d_R_within_5 : decode b_R_within 5 = .ok (.iload_n 0, 1) := by decide +kernel
theorem d_R_within_6 : decode b_R_within 6 = .ok (.iload_n 2, 1) := by decide +kernel
theorem d_R_within_7 : decode b_R_within 7 = .ok (.if_icmp .gt 7, 3) := by decide +kernel
theorem d_R_within_10 : decode b_R_within 10 = .ok (.iconst 1, 1) := by decide +kernel
theorem d_R_within_11 : decode b_R_within 11 = .ok (.goto 4, 3) := by decide +kernel
theorem d_R_put_27 : decode b_R_put 27 = .ok (.iconst 1, 1) := by decide +kernel
theorem d_R_put_28 : decode b_R_put 28 = .ok (.invokevirtual 77, 3) := by decide +kernel
theorem d_R_put_31 : decode b_R_put 31 = .ok (.ifCond .eq 5, 3) := by decide +kernel
theorem d_R_put_36 : decode b_R_put 36 = .ok (.aload_n 0, 1) := by decide +kernel
theorem d_R_put_37 : decode b_R_put 37 = .ok (.getfield 8, 3) := by decide +kernel
theorem d_R_put_40 : decode b_R_put 40 = .ok (.iload_n 1, 1) := by decide +kernel
theorem d_R_put_41 : decode b_R_put 41 = .ok (.iaload, 1) := by decide +kernel
theorem d_R_put_42 : decode b_R_put 42 = .ok (.istore_n 3, 1) := by decide +kernel
theorem d_R_put_43 : decode b_R_put 43 = .ok (.aload_n 0, 1) := by decide +kernel
theorem d_R_put_44 : decode b_R_put 44 = .ok (.getfield 8, 3) := by decide +kernel
theorem d_R_put_47 : decode b_R_put 47 = .ok (.iload_n 1, 1) := by decide +kernel
theorem d_R_put_48 : decode b_R_put 48 = .ok (.iload_n 2, 1) := by decide +kernel
theorem d_R_put_49 : decode b_R_put 49 = .ok (.iastore, 1) := by decide +kernel
theorem d_R_put_50 : decode b_R_put 50 = .ok (.iload_n 3, 1) := by decide +kernel
theorem d_R_put_51 : decode b_R_put 51 = .ok (.ireturn, 1) := by decide +kernel
theorem d_R_put_34 : decode b_R_put 34 = .ok (.iconst 0, 1) := by decide +kernel
theorem d_R_put_35 : decode b_R_put 35 = .ok (.ireturn, 1) := by decide +kernel
theorem d_R_put_0 : decode b_R_put 0 = .ok (.aload_n 0, 1) := by decide +kernel
theorem d_R_put_1 : decode b_R_put 1 = .ok (.iload_n 1, 1) := by decide +kernel
theorem d_R_put_2 : decode b_R_put 2 = .ok (.iconst 0, 1) := by decide +kernel
theorem d_R_put_3 : decode b_R_put 3 = .ok (.sipush 32767, 3) := by decide +kernel
theorem d_R_put_6 : decode b_R_put 6 = .ok (.invokestatic 72, 3) := by decide +kernel
theorem d_R_put_9 : decode b_R_put 9 = .ok (.ifCond .eq 13, 3) := by decide +kernel
theorem d_R_put_22 : decode b_R_put 22 = .ok (.iconst 1, 1) := by decide +kernel
theorem d_R_put_23 : decode b_R_put 23 = .ok (.goto 4, 3) := by decide +kernel
theorem d_R_put_12 : decode b_R_put 12 = .ok (.iload_n 2, 1) := by decide +kernel
theorem d_R_put_13 : decode b_R_put 13 = .ok (.iconst 0, 1) := by decide +kernel
theorem d_R_put_14 : decode b_R_put 14 = .ok (.ldc 76, 2) := by decide +kernel
theorem d_R_put_16 : decode b_R_put 16 = .ok (.invokestatic 72, 3) := by decide +kernel
theorem d_R_put_19 : decode b_R_put 19 = .ok (.ifCond .ne 7, 3) := by decide +kernel
theorem d_R_put_26 : decode b_R_put 26 = .ok (.iconst 0, 1) := by decide +kernel
theorem d_R_word_17 : decode b_R_word 17 = .ok (.iconst 1, 1) := by decide +kernel
theorem d_R_word_18 : decode b_R_word 18 = .ok (.invokevirtual 77, 3) := by decide +kernel
theorem d_R_word_21 : decode b_R_word 21 = .ok (.ifCond .eq 5, 3) := by decide +kernel
theorem d_R_word_26 : decode b_R_word 26 = .ok (.aload_n 0, 1) := by decide +kernel
theorem d_R_word_27 : decode b_R_word 27 = .ok (.getfield 8, 3) := by decide +kernel
theorem d_R_word_30 : decode b_R_word 30 = .ok (.iload_n 1, 1) := by decide +kernel
theorem d_R_word_31 : decode b_R_word 31 = .ok (.iaload, 1) := by decide +kernel
theorem d_R_word_32 : decode b_R_word 32 = .ok (.ireturn, 1) := by decide +kernel
theorem d_R_word_24 : decode b_R_word 24 = .ok (.iconst 0, 1) := by decide +kernel
theorem d_R_word_25 : decode b_R_word 25 = .ok (.ireturn, 1) := by decide +kernel
theorem d_R_word_0 : decode b_R_word 0 = .ok (.aload_n 0, 1) := by decide +kernel
theorem d_R_word_1 : decode b_R_word 1 = .ok (.iload_n 1, 1) := by decide +kernel
theorem d_R_word_2 : decode b_R_word 2 = .ok (.iconst 0, 1) := by decide +kernel
theorem d_R_word_3 : decode b_R_word 3 = .ok (.sipush 32767, 3) := by decide +kernel
theorem d_R_word_6 : decode b_R_word 6 = .ok (.invokestatic 72, 3) := by decide +kernel
theorem d_R_word_9 : decode b_R_word 9 = .ok (.ifCond .ne 7, 3) := by decide +kernel
theorem d_R_word_16 : decode b_R_word 16 = .ok (.iconst 0, 1) := by decide +kernel
theorem d_R_word_12 : decode b_R_word 12 = .ok (.iconst 1, 1) := by decide +kernel
theorem d_R_word_13 : decode b_R_word 13 = .ok (.goto 4, 3) := by decide +kernel
theorem d_R_registerOf_0 : decode b_R_registerOf 0 = .ok (.iload_n 1, 1) := by decide +kernel
theorem d_R_registerOf_1 : decode b_R_registerOf 1 = .ok (.iconst 4, 1) := by decide +kernel
theorem d_R_registerOf_2 : decode b_R_registerOf 2 = .ok (.if_icmp .ge 12, 3) := by decide +kernel
theorem d_R_registerOf_14 : decode b_R_registerOf 14 = .ok (.iload_n 1, 1) := by decide +kernel
theorem d_R_registerOf_15 : decode b_R_registerOf 15 = .ok (.iconst 4, 1) := by decide +kernel
theorem d_R_registerOf_16 : decode b_R_registerOf 16 = .ok (.if_icmp .ne 10, 3) := by decide +kernel
theorem d_R_registerOf_26 : decode b_R_registerOf 26 = .ok (.iload_n 1, 1) := by decide +kernel
theorem d_R_registerOf_27 : decode b_R_registerOf 27 = .ok (.iconst 5, 1) := by decide +kernel
theorem d_R_registerOf_28 : decode b_R_registerOf 28 = .ok (.if_icmp .ne 10, 3) := by decide +kernel
theorem d_R_registerOf_38 : decode b_R_registerOf 38 = .ok (.aload_n 0, 1) := by decide +kernel
theorem d_R_registerOf_39 : decode b_R_registerOf 39 = .ok (.getfield 87, 3) := by decide +kernel
theorem d_R_registerOf_42 : decode b_R_registerOf 42 = .ok (.ireturn, 1) := by decide +kernel
theorem d_R_registerOf_31 : decode b_R_registerOf 31 = .ok (.aload_n 0, 1) := by decide +kernel
theorem d_R_registerOf_32 : decode b_R_registerOf 32 = .ok (.getfield 84, 3) := by decide +kernel
theorem d_R_registerOf_35 : decode b_R_registerOf 35 = .ok (.goto 7, 3) := by decide +kernel
theorem d_R_registerOf_19 : decode b_R_registerOf 19 = .ok (.aload_n 0, 1) := by decide +kernel
theorem d_R_registerOf_20 : decode b_R_registerOf 20 = .ok (.getfield 81, 3) := by decide +kernel
theorem d_R_registerOf_23 : decode b_R_registerOf 23 = .ok (.goto 19, 3) := by decide +kernel
theorem d_R_registerOf_5 : decode b_R_registerOf 5 = .ok (.aload_n 0, 1) := by decide +kernel
theorem d_R_registerOf_6 : decode b_R_registerOf 6 = .ok (.getfield 14, 3) := by decide +kernel
theorem d_R_registerOf_9 : decode b_R_registerOf 9 = .ok (.iload_n 1, 1) := by decide +kernel
theorem d_R_registerOf_10 : decode b_R_registerOf 10 = .ok (.iaload, 1) := by decide +kernel
theorem d_R_registerOf_11 : decode b_R_registerOf 11 = .ok (.goto 31, 3) := by decide +kernel
theorem d_R_set_46 : decode b_R_set 46 = .ok (.iconst 1, 1) := by decide +kernel
theorem d_R_set_47 : decode b_R_set 47 = .ok (.invokevirtual 77, 3) := by decide +kernel
theorem d_R_set_50 : decode b_R_set 50 = .ok (.ifCond .eq 5, 3) := by decide +kernel
theorem d_R_set_55 : decode b_R_set 55 = .ok (.aload_n 0, 1) := by decide +kernel
theorem d_R_set_56 : decode b_R_set 56 = .ok (.iload_n 1, 1) := by decide +kernel
theorem d_R_set_57 : decode b_R_set 57 = .ok (.invokevirtual 90, 3) := by decide +kernel
theorem d_R_set_60 : decode b_R_set 60 = .ok (.istore_n 3, 1) := by decide +kernel
theorem d_R_set_61 : decode b_R_set 61 = .ok (.iload_n 1, 1) := by decide +kernel
theorem d_R_set_62 : decode b_R_set 62 = .ok (.iconst 4, 1) := by decide +kernel
theorem d_R_set_63 : decode b_R_set 63 = .ok (.if_icmp .ge 13, 3) := by decide +kernel
theorem d_R_set_76 : decode b_R_set 76 = .ok (.iload_n 1, 1) := by decide +kernel
theorem d_R_set_77 : decode b_R_set 77 = .ok (.iconst 4, 1) := by decide +kernel
theorem d_R_set_78 : decode b_R_set 78 = .ok (.if_icmp .ne 11, 3) := by decide +kernel
theorem d_R_set_89 : decode b_R_set 89 = .ok (.iload_n 1, 1) := by decide +kernel
theorem d_R_set_90 : decode b_R_set 90 = .ok (.iconst 5, 1) := by decide +kernel
theorem d_R_set_91 : decode b_R_set 91 = .ok (.if_icmp .ne 11, 3) := by decide +kernel
theorem d_R_set_102 : decode b_R_set 102 = .ok (.aload_n 0, 1) := by decide +kernel
theorem d_R_set_103 : decode b_R_set 103 = .ok (.iload_n 2, 1) := by decide +kernel
theorem d_R_set_104 : decode b_R_set 104 = .ok (.putfield 87, 3) := by decide +kernel
theorem d_R_set_107 : decode b_R_set 107 = .ok (.iload_n 3, 1) := by decide +kernel
theorem d_R_set_108 : decode b_R_set 108 = .ok (.ireturn, 1) := by decide +kernel
theorem d_R_set_94 : decode b_R_set 94 = .ok (.aload_n 0, 1) := by decide +kernel
theorem d_R_set_95 : decode b_R_set 95 = .ok (.iload_n 2, 1) := by decide +kernel
theorem d_R_set_96 : decode b_R_set 96 = .ok (.putfield 84, 3) := by decide +kernel
theorem d_R_set_99 : decode b_R_set 99 = .ok (.goto 8, 3) := by decide +kernel
theorem d_R_set_81 : decode b_R_set 81 = .ok (.aload_n 0, 1) := by decide +kernel
theorem d_R_set_82 : decode b_R_set 82 = .ok (.iload_n 2, 1) := by decide +kernel
theorem d_R_set_83 : decode b_R_set 83 = .ok (.putfield 81, 3) := by decide +kernel
theorem d_R_set_86 : decode b_R_set 86 = .ok (.goto 21, 3) := by decide +kernel
theorem d_R_set_66 : decode b_R_set 66 = .ok (.aload_n 0, 1) := by decide +kernel
theorem d_R_set_67 : decode b_R_set 67 = .ok (.getfield 14, 3) := by decide +kernel
theorem d_R_set_70 : decode b_R_set 70 = .ok (.iload_n 1, 1) := by decide +kernel
theorem d_R_set_71 : decode b_R_set 71 = .ok (.iload_n 2, 1) := by decide +kernel
theorem d_R_set_72 : decode b_R_set 72 = .ok (.iastore, 1) := by decide +kernel
theorem d_R_set_73 : decode b_R_set 73 = .ok (.goto 34, 3) := by decide +kernel
theorem d_R_set_53 : decode b_R_set 53 = .ok (.iconst 0, 1) := by decide +kernel
theorem d_R_set_54 : decode b_R_set 54 = .ok (.ireturn, 1) := by decide +kernel
theorem d_R_set_35 : decode b_R_set 35 = .ok (.invokestatic 72, 3) := by decide +kernel
theorem d_R_set_38 : decode b_R_set 38 = .ok (.ifCond .ne 7, 3) := by decide +kernel
theorem d_R_set_45 : decode b_R_set 45 = .ok (.iconst 0, 1) := by decide +kernel
theorem d_R_set_41 : decode b_R_set 41 = .ok (.iconst 1, 1) := by decide +kernel
theorem d_R_set_42 : decode b_R_set 42 = .ok (.goto 4, 3) := by decide +kernel
theorem d_R_set_0 : decode b_R_set 0 = .ok (.aload_n 0, 1) := by decide +kernel
theorem d_R_set_1 : decode b_R_set 1 = .ok (.iload_n 1, 1) := by decide +kernel
theorem d_R_set_2 : decode b_R_set 2 = .ok (.iconst 0, 1) := by decide +kernel
theorem d_R_set_3 : decode b_R_set 3 = .ok (.bipush 6, 2) := by decide +kernel
theorem d_R_set_5 : decode b_R_set 5 = .ok (.invokestatic 72, 3) := by decide +kernel
theorem d_R_set_8 : decode b_R_set 8 = .ok (.ifCond .eq 33, 3) := by decide +kernel
theorem d_R_set_11 : decode b_R_set 11 = .ok (.iload_n 2, 1) := by decide +kernel
theorem d_R_set_12 : decode b_R_set 12 = .ok (.iconst 0, 1) := by decide +kernel
theorem d_R_set_13 : decode b_R_set 13 = .ok (.iload_n 1, 1) := by decide +kernel
theorem d_R_set_14 : decode b_R_set 14 = .ok (.iconst 4, 1) := by decide +kernel
theorem d_R_set_15 : decode b_R_set 15 = .ok (.if_icmp .ne 7, 3) := by decide +kernel
theorem d_R_set_22 : decode b_R_set 22 = .ok (.iload_n 1, 1) := by decide +kernel
theorem d_R_set_23 : decode b_R_set 23 = .ok (.iconst 5, 1) := by decide +kernel
theorem d_R_set_24 : decode b_R_set 24 = .ok (.if_icmp .ne 9, 3) := by decide +kernel
theorem d_R_set_33 : decode b_R_set 33 = .ok (.ldc 76, 2) := by decide +kernel
theorem d_R_set_27 : decode b_R_set 27 = .ok (.sipush 32767, 3) := by decide +kernel
theorem d_R_set_30 : decode b_R_set 30 = .ok (.goto 5, 3) := by decide +kernel
theorem d_R_set_18 : decode b_R_set 18 = .ok (.iconst 1, 1) := by decide +kernel
theorem d_R_set_19 : decode b_R_set 19 = .ok (.goto 16, 3) := by decide +kernel
theorem d_R_register_16 : decode b_R_register 16 = .ok (.iconst 1, 1) := by decide +kernel
theorem d_R_register_17 : decode b_R_register 17 = .ok (.invokevirtual 77, 3) := by decide +kernel
theorem d_R_register_20 : decode b_R_register 20 = .ok (.ifCond .eq 5, 3) := by decide +kernel
theorem d_R_register_25 : decode b_R_register 25 = .ok (.iload_n 1, 1) := by decide +kernel
theorem d_R_register_26 : decode b_R_register 26 = .ok (.bipush 7, 2) := by decide +kernel
theorem d_R_register_28 : decode b_R_register 28 = .ok (.if_icmp .ge 9, 3) := by decide +kernel
theorem d_R_register_37 : decode b_R_register 37 = .ok (.iload_n 1, 1) := by decide +kernel
theorem d_R_register_38 : decode b_R_register 38 = .ok (.bipush 7, 2) := by decide +kernel
theorem d_R_register_40 : decode b_R_register 40 = .ok (.if_icmp .ne 18, 3) := by decide +kernel
theorem d_R_register_58 : decode b_R_register 58 = .ok (.iload_n 1, 1) := by decide +kernel
theorem d_R_register_59 : decode b_R_register 59 = .ok (.bipush 8, 2) := by decide +kernel
theorem d_R_register_61 : decode b_R_register 61 = .ok (.if_icmp .ne 10, 3) := by decide +kernel
theorem d_R_register_71 : decode b_R_register 71 = .ok (.iload_n 1, 1) := by decide +kernel
theorem d_R_register_72 : decode b_R_register 72 = .ok (.bipush 9, 2) := by decide +kernel
theorem d_R_register_74 : decode b_R_register 74 = .ok (.if_icmp .ne 10, 3) := by decide +kernel
theorem d_R_register_84 : decode b_R_register 84 = .ok (.aload_n 0, 1) := by decide +kernel
theorem d_R_register_85 : decode b_R_register 85 = .ok (.getfield 104, 3) := by decide +kernel
theorem d_R_register_88 : decode b_R_register 88 = .ok (.ireturn, 1) := by decide +kernel
theorem d_R_register_77 : decode b_R_register 77 = .ok (.aload_n 0, 1) := by decide +kernel
theorem d_R_register_78 : decode b_R_register 78 = .ok (.getfield 101, 3) := by decide +kernel
theorem d_R_register_81 : decode b_R_register 81 = .ok (.goto 7, 3) := by decide +kernel
theorem d_R_register_64 : decode b_R_register 64 = .ok (.aload_n 0, 1) := by decide +kernel
theorem d_R_register_65 : decode b_R_register 65 = .ok (.getfield 98, 3) := by decide +kernel
theorem d_R_register_68 : decode b_R_register 68 = .ok (.goto 20, 3) := by decide +kernel
theorem d_R_register_43 : decode b_R_register 43 = .ok (.aload_n 0, 1) := by decide +kernel
theorem d_R_register_44 : decode b_R_register 44 = .ok (.getfield 94, 3) := by decide +kernel
theorem d_R_register_47 : decode b_R_register 47 = .ok (.ifCond .eq 7, 3) := by decide +kernel
theorem d_R_register_54 : decode b_R_register 54 = .ok (.iconst 0, 1) := by decide +kernel
theorem d_R_register_55 : decode b_R_register 55 = .ok (.goto 33, 3) := by decide +kernel
theorem d_R_register_50 : decode b_R_register 50 = .ok (.iconst 1, 1) := by decide +kernel
theorem d_R_register_51 : decode b_R_register 51 = .ok (.goto 37, 3) := by decide +kernel
theorem d_R_register_31 : decode b_R_register 31 = .ok (.aload_n 0, 1) := by decide +kernel
theorem d_R_register_32 : decode b_R_register 32 = .ok (.iload_n 1, 1) := by decide +kernel
theorem d_R_register_33 : decode b_R_register 33 = .ok (.invokevirtual 90, 3) := by decide +kernel
theorem d_R_register_36 : decode b_R_register 36 = .ok (.ireturn, 1) := by decide +kernel
theorem d_R_register_23 : decode b_R_register 23 = .ok (.iconst 0, 1) := by decide +kernel
theorem d_R_register_24 : decode b_R_register 24 = .ok (.ireturn, 1) := by decide +kernel
theorem d_R_register_0 : decode b_R_register 0 = .ok (.aload_n 0, 1) := by decide +kernel
theorem d_R_register_1 : decode b_R_register 1 = .ok (.iload_n 1, 1) := by decide +kernel
theorem d_R_register_2 : decode b_R_register 2 = .ok (.iconst 0, 1) := by decide +kernel
theorem d_R_register_3 : decode b_R_register 3 = .ok (.bipush 10, 2) := by decide +kernel
theorem d_R_register_5 : decode b_R_register 5 = .ok (.invokestatic 72, 3) := by decide +kernel
theorem d_R_register_8 : decode b_R_register 8 = .ok (.ifCond .ne 7, 3) := by decide +kernel
theorem d_R_register_15 : decode b_R_register 15 = .ok (.iconst 0, 1) := by decide +kernel
theorem d_R_register_11 : decode b_R_register 11 = .ok (.iconst 1, 1) := by decide +kernel
theorem d_R_register_12 : decode b_R_register 12 = .ok (.goto 4, 3) := by decide +kernel
theorem d_R_device_26 : decode b_R_device 26 = .ok (.iconst 1, 1) := by decide +kernel
theorem d_R_device_27 : decode b_R_device 27 = .ok (.invokevirtual 77, 3) := by decide +kernel
theorem d_R_device_30 : decode b_R_device 30 = .ok (.ifCond .eq 5, 3) := by decide +kernel
theorem d_R_device_35 : decode b_R_device 35 = .ok (.iload_n 2, 1) := by decide +kernel
theorem d_R_device_36 : decode b_R_device 36 = .ok (.ifCond .ne 15, 3) := by decide +kernel
theorem d_R_device_51 : decode b_R_device 51 = .ok (.iload_n 2, 1) := by decide +kernel
theorem d_R_device_52 : decode b_R_device 52 = .ok (.iconst 1, 1) := by decide +kernel
theorem d_R_device_53 : decode b_R_device 53 = .ok (.if_icmp .ne 18, 3) := by decide +kernel
theorem d_R_device_71 : decode b_R_device 71 = .ok (.aload_n 0, 1) := by decide +kernel
theorem d_R_device_72 : decode b_R_device 72 = .ok (.getfield 24, 3) := by decide +kernel
theorem d_R_device_75 : decode b_R_device 75 = .ok (.iload_n 1, 1) := by decide +kernel
theorem d_R_device_76 : decode b_R_device 76 = .ok (.bipush 8, 2) := by decide +kernel
theorem d_R_device_78 : decode b_R_device 78 = .ok (.isub, 1) := by decide +kernel
theorem d_R_device_79 : decode b_R_device 79 = .ok (.baload, 1) := by decide +kernel
theorem d_R_device_80 : decode b_R_device 80 = .ok (.ifCond .eq 7, 3) := by decide +kernel
theorem d_R_device_87 : decode b_R_device 87 = .ok (.iconst 0, 1) := by decide +kernel
theorem d_R_device_88 : decode b_R_device 88 = .ok (.ireturn, 1) := by decide +kernel
theorem d_R_device_83 : decode b_R_device 83 = .ok (.iconst 1, 1) := by decide +kernel
theorem d_R_device_84 : decode b_R_device 84 = .ok (.goto 4, 3) := by decide +kernel
theorem d_R_device_56 : decode b_R_device 56 = .ok (.aload_n 0, 1) := by decide +kernel
theorem d_R_device_57 : decode b_R_device 57 = .ok (.getfield 20, 3) := by decide +kernel
theorem d_R_device_60 : decode b_R_device 60 = .ok (.iload_n 1, 1) := by decide +kernel
theorem d_R_device_61 : decode b_R_device 61 = .ok (.bipush 8, 2) := by decide +kernel
theorem d_R_device_63 : decode b_R_device 63 = .ok (.isub, 1) := by decide +kernel
theorem d_R_device_64 : decode b_R_device 64 = .ok (.baload, 1) := by decide +kernel
theorem d_R_device_65 : decode b_R_device 65 = .ok (.ifCond .eq 22, 3) := by decide +kernel
theorem d_R_device_68 : decode b_R_device 68 = .ok (.goto 15, 3) := by decide +kernel
theorem d_R_device_39 : decode b_R_device 39 = .ok (.aload_n 0, 1) := by decide +kernel
theorem d_R_device_40 : decode b_R_device 40 = .ok (.getfield 17, 3) := by decide +kernel
theorem d_R_device_43 : decode b_R_device 43 = .ok (.iload_n 1, 1) := by decide +kernel
theorem d_R_device_44 : decode b_R_device 44 = .ok (.bipush 8, 2) := by decide +kernel
theorem d_R_device_46 : decode b_R_device 46 = .ok (.isub, 1) := by decide +kernel
theorem d_R_device_47 : decode b_R_device 47 = .ok (.iaload, 1) := by decide +kernel
theorem d_R_device_48 : decode b_R_device 48 = .ok (.goto 40, 3) := by decide +kernel
theorem d_R_device_33 : decode b_R_device 33 = .ok (.iconst 0, 1) := by decide +kernel
theorem d_R_device_34 : decode b_R_device 34 = .ok (.ireturn, 1) := by decide +kernel
theorem d_R_device_0 : decode b_R_device 0 = .ok (.aload_n 0, 1) := by decide +kernel
theorem d_R_device_1 : decode b_R_device 1 = .ok (.iload_n 1, 1) := by decide +kernel
theorem d_R_device_2 : decode b_R_device 2 = .ok (.bipush 8, 2) := by decide +kernel
theorem d_R_device_4 : decode b_R_device 4 = .ok (.bipush 10, 2) := by decide +kernel
theorem d_R_device_6 : decode b_R_device 6 = .ok (.invokestatic 72, 3) := by decide +kernel
theorem d_R_device_9 : decode b_R_device 9 = .ok (.ifCond .eq 12, 3) := by decide +kernel
theorem d_R_device_21 : decode b_R_device 21 = .ok (.iconst 1, 1) := by decide +kernel
theorem d_R_device_22 : decode b_R_device 22 = .ok (.goto 4, 3) := by decide +kernel
theorem d_R_device_12 : decode b_R_device 12 = .ok (.iload_n 2, 1) := by decide +kernel
theorem d_R_device_13 : decode b_R_device 13 = .ok (.iconst 0, 1) := by decide +kernel
theorem d_R_device_14 : decode b_R_device 14 = .ok (.iconst 2, 1) := by decide +kernel
theorem d_R_device_15 : decode b_R_device 15 = .ok (.invokestatic 72, 3) := by decide +kernel
theorem d_R_device_18 : decode b_R_device 18 = .ok (.ifCond .ne 7, 3) := by decide +kernel
theorem d_R_device_25 : decode b_R_device 25 = .ok (.iconst 0, 1) := by decide +kernel
theorem d_R_tape_40 : decode b_R_tape 40 = .ok (.iconst 2, 1) := by decide +kernel
theorem d_R_tape_41 : decode b_R_tape 41 = .ok (.invokevirtual 77, 3) := by decide +kernel
theorem d_R_tape_44 : decode b_R_tape 44 = .ok (.ifCond .eq 5, 3) := by decide +kernel
theorem d_R_tape_49 : decode b_R_tape 49 = .ok (.aload_n 0, 1) := by decide +kernel
theorem d_R_tape_50 : decode b_R_tape 50 = .ok (.getfield 30, 3) := by decide +kernel
theorem d_R_tape_53 : decode b_R_tape 53 = .ok (.aload_n 0, 1) := by decide +kernel
theorem d_R_tape_54 : decode b_R_tape 54 = .ok (.getfield 107, 3) := by decide +kernel
theorem d_R_tape_57 : decode b_R_tape 57 = .ok (.iload_n 1, 1) := by decide +kernel
theorem d_R_tape_58 : decode b_R_tape 58 = .ok (.iastore, 1) := by decide +kernel
theorem d_R_tape_59 : decode b_R_tape 59 = .ok (.aload_n 0, 1) := by decide +kernel
theorem d_R_tape_60 : decode b_R_tape 60 = .ok (.dup, 1) := by decide +kernel
theorem d_R_tape_61 : decode b_R_tape 61 = .ok (.getfield 107, 3) := by decide +kernel
theorem d_R_tape_64 : decode b_R_tape 64 = .ok (.iconst 1, 1) := by decide +kernel
theorem d_R_tape_65 : decode b_R_tape 65 = .ok (.iadd, 1) := by decide +kernel
theorem d_R_tape_66 : decode b_R_tape 66 = .ok (.putfield 107, 3) := by decide +kernel
theorem d_R_tape_69 : decode b_R_tape 69 = .ok (.aload_n 0, 1) := by decide +kernel
theorem d_R_tape_70 : decode b_R_tape 70 = .ok (.getfield 107, 3) := by decide +kernel
theorem d_R_tape_73 : decode b_R_tape 73 = .ok (.ireturn, 1) := by decide +kernel
theorem d_R_tape_47 : decode b_R_tape 47 = .ok (.iconst 0, 1) := by decide +kernel
theorem d_R_tape_48 : decode b_R_tape 48 = .ok (.ireturn, 1) := by decide +kernel
theorem d_R_tape_17 : decode b_R_tape 17 = .ok (.iconst 1, 1) := by decide +kernel
theorem d_R_tape_18 : decode b_R_tape 18 = .ok (.invokevirtual 77, 3) := by decide +kernel
theorem d_R_tape_21 : decode b_R_tape 21 = .ok (.ifCond .ne 26, 3) := by decide +kernel
theorem d_R_tape_24 : decode b_R_tape 24 = .ok (.aload_n 0, 1) := by decide +kernel
theorem d_R_tape_25 : decode b_R_tape 25 = .ok (.aload_n 0, 1) := by decide +kernel
theorem d_R_tape_26 : decode b_R_tape 26 = .ok (.getfield 107, 3) := by decide +kernel
theorem d_R_tape_29 : decode b_R_tape 29 = .ok (.sipush 500, 3) := by decide +kernel
theorem d_R_tape_32 : decode b_R_tape 32 = .ok (.if_icmp .ne 7, 3) := by decide +kernel
theorem d_R_tape_39 : decode b_R_tape 39 = .ok (.iconst 0, 1) := by decide +kernel
theorem d_R_tape_35 : decode b_R_tape 35 = .ok (.iconst 1, 1) := by decide +kernel
theorem d_R_tape_36 : decode b_R_tape 36 = .ok (.goto 4, 3) := by decide +kernel
theorem d_R_tape_0 : decode b_R_tape 0 = .ok (.aload_n 0, 1) := by decide +kernel
theorem d_R_tape_1 : decode b_R_tape 1 = .ok (.iload_n 1, 1) := by decide +kernel
theorem d_R_tape_2 : decode b_R_tape 2 = .ok (.iconst 0, 1) := by decide +kernel
theorem d_R_tape_3 : decode b_R_tape 3 = .ok (.sipush 255, 3) := by decide +kernel
theorem d_R_tape_6 : decode b_R_tape 6 = .ok (.invokestatic 72, 3) := by decide +kernel
theorem d_R_tape_9 : decode b_R_tape 9 = .ok (.ifCond .ne 7, 3) := by decide +kernel
theorem d_R_tape_16 : decode b_R_tape 16 = .ok (.iconst 0, 1) := by decide +kernel
theorem d_R_tape_12 : decode b_R_tape 12 = .ok (.iconst 1, 1) := by decide +kernel
theorem d_R_tape_13 : decode b_R_tape 13 = .ok (.goto 4, 3) := by decide +kernel
theorem d_R_printed_0 : decode b_R_printed 0 = .ok (.aload_n 0, 1) := by decide +kernel
theorem d_R_printed_1 : decode b_R_printed 1 = .ok (.iconst 0, 1) := by decide +kernel
theorem d_R_printed_2 : decode b_R_printed 2 = .ok (.putfield 68, 3) := by decide +kernel
theorem d_R_printed_5 : decode b_R_printed 5 = .ok (.iload_n 1, 1) := by decide +kernel
theorem d_R_printed_6 : decode b_R_printed 6 = .ok (.ifCond .lt 27, 3) := by decide +kernel
theorem d_R_printed_33 : decode b_R_printed 33 = .ok (.iconst (-1), 1) := by decide +kernel
theorem d_R_printed_34 : decode b_R_printed 34 = .ok (.ireturn, 1) := by decide +kernel
theorem d_R_printed_9 : decode b_R_printed 9 = .ok (.iload_n 1, 1) := by decide +kernel
theorem d_R_printed_10 : decode b_R_printed 10 = .ok (.aload_n 0, 1) := by decide +kernel
theorem d_R_printed_11 : decode b_R_printed 11 = .ok (.getfield 110, 3) := by decide +kernel
theorem d_R_printed_14 : decode b_R_printed 14 = .ok (.if_icmp .ge 19, 3) := by decide +kernel
theorem d_R_printed_17 : decode b_R_printed 17 = .ok (.iload_n 1, 1) := by decide +kernel
theorem d_R_printed_18 : decode b_R_printed 18 = .ok (.sipush 1000, 3) := by decide +kernel
theorem d_R_printed_21 : decode b_R_printed 21 = .ok (.if_icmp .ge 12, 3) := by decide +kernel
theorem d_R_printed_24 : decode b_R_printed 24 = .ok (.aload_n 0, 1) := by decide +kernel
theorem d_R_printed_25 : decode b_R_printed 25 = .ok (.getfield 33, 3) := by decide +kernel
theorem d_R_printed_28 : decode b_R_printed 28 = .ok (.iload_n 1, 1) := by decide +kernel
theorem d_R_printed_29 : decode b_R_printed 29 = .ok (.iaload, 1) := by decide +kernel
theorem d_R_printed_30 : decode b_R_printed 30 = .ok (.goto 4, 3) := by decide +kernel
theorem d_R_tear_0 : decode b_R_tear 0 = .ok (.aload_n 0, 1) := by decide +kernel
theorem d_R_tear_1 : decode b_R_tear 1 = .ok (.iconst 0, 1) := by decide +kernel
theorem d_R_tear_2 : decode b_R_tear 2 = .ok (.putfield 68, 3) := by decide +kernel
theorem d_R_tear_5 : decode b_R_tear 5 = .ok (.aload_n 0, 1) := by decide +kernel
theorem d_R_tear_6 : decode b_R_tear 6 = .ok (.getfield 110, 3) := by decide +kernel
theorem d_R_tear_9 : decode b_R_tear 9 = .ok (.istore_n 1, 1) := by decide +kernel
theorem d_R_tear_10 : decode b_R_tear 10 = .ok (.aload_n 0, 1) := by decide +kernel
theorem d_R_tear_11 : decode b_R_tear 11 = .ok (.iconst 0, 1) := by decide +kernel
theorem d_R_tear_12 : decode b_R_tear 12 = .ok (.putfield 110, 3) := by decide +kernel
theorem d_R_tear_15 : decode b_R_tear 15 = .ok (.iload_n 1, 1) := by decide +kernel
theorem d_R_tear_16 : decode b_R_tear 16 = .ok (.ireturn, 1) := by decide +kernel
theorem d_R_reset_67 : decode b_R_reset 67 = .ok (.iload_n 1, 1) := by decide +kernel
theorem d_R_reset_68 : decode b_R_reset 68 = .ok (.iconst 3, 1) := by decide +kernel
theorem d_R_reset_69 : decode b_R_reset 69 = .ok (.if_icmp .ge 37, 3) := by decide +kernel
theorem d_R_reset_106 : decode b_R_reset 106 = .ok (.aload_n 0, 1) := by decide +kernel
theorem d_R_reset_107 : decode b_R_reset 107 = .ok (.iconst 0, 1) := by decide +kernel
theorem d_R_reset_108 : decode b_R_reset 108 = .ok (.putfield 107, 3) := by decide +kernel
theorem d_R_reset_111 : decode b_R_reset 111 = .ok (.aload_n 0, 1) := by decide +kernel
theorem d_R_reset_112 : decode b_R_reset 112 = .ok (.iconst 0, 1) := by decide +kernel
theorem d_R_reset_113 : decode b_R_reset 113 = .ok (.putfield 110, 3) := by decide +kernel
theorem d_R_reset_116 : decode b_R_reset 116 = .ok (.aload_n 0, 1) := by decide +kernel
theorem d_R_reset_117 : decode b_R_reset 117 = .ok (.iconst 0, 1) := by decide +kernel
theorem d_R_reset_118 : decode b_R_reset 118 = .ok (.putfield 116, 3) := by decide +kernel
theorem d_R_reset_121 : decode b_R_reset 121 = .ok (.aload_n 0, 1) := by decide +kernel
theorem d_R_reset_122 : decode b_R_reset 122 = .ok (.iconst 0, 1) := by decide +kernel
theorem d_R_reset_123 : decode b_R_reset 123 = .ok (.putfield 119, 3) := by decide +kernel
theorem d_R_reset_126 : decode b_R_reset 126 = .ok (.aload_n 0, 1) := by decide +kernel
theorem d_R_reset_127 : decode b_R_reset 127 = .ok (.iconst 0, 1) := by decide +kernel
theorem d_R_reset_128 : decode b_R_reset 128 = .ok (.putfield 122, 3) := by decide +kernel
theorem d_R_reset_131 : decode b_R_reset 131 = .ok (.aload_n 0, 1) := by decide +kernel
theorem d_R_reset_132 : decode b_R_reset 132 = .ok (.iconst 0, 1) := by decide +kernel
theorem d_R_reset_133 : decode b_R_reset 133 = .ok (.putfield 125, 3) := by decide +kernel
theorem d_R_reset_136 : decode b_R_reset 136 = .ok (.aload_n 0, 1) := by decide +kernel
theorem d_R_reset_137 : decode b_R_reset 137 = .ok (.iconst 0, 1) := by decide +kernel
theorem d_R_reset_138 : decode b_R_reset 138 = .ok (.putfield 128, 3) := by decide +kernel
theorem d_R_reset_141 : decode b_R_reset 141 = .ok (.aload_n 0, 1) := by decide +kernel
theorem d_R_reset_142 : decode b_R_reset 142 = .ok (.iconst 0, 1) := by decide +kernel
theorem d_R_reset_143 : decode b_R_reset 143 = .ok (.putfield 131, 3) := by decide +kernel
theorem d_R_reset_146 : decode b_R_reset 146 = .ok (.return_, 1) := by decide +kernel
theorem d_R_reset_72 : decode b_R_reset 72 = .ok (.aload_n 0, 1) := by decide +kernel
theorem d_R_reset_73 : decode b_R_reset 73 = .ok (.getfield 17, 3) := by decide +kernel
theorem d_R_reset_76 : decode b_R_reset 76 = .ok (.iload_n 1, 1) := by decide +kernel
theorem d_R_reset_77 : decode b_R_reset 77 = .ok (.iconst 0, 1) := by decide +kernel
theorem d_R_reset_78 : decode b_R_reset 78 = .ok (.iastore, 1) := by decide +kernel
theorem d_R_reset_79 : decode b_R_reset 79 = .ok (.aload_n 0, 1) := by decide +kernel
theorem d_R_reset_80 : decode b_R_reset 80 = .ok (.getfield 20, 3) := by decide +kernel
theorem d_R_reset_83 : decode b_R_reset 83 = .ok (.iload_n 1, 1) := by decide +kernel
theorem d_R_reset_84 : decode b_R_reset 84 = .ok (.iconst 0, 1) := by decide +kernel
theorem d_R_reset_85 : decode b_R_reset 85 = .ok (.bastore, 1) := by decide +kernel
theorem d_R_reset_86 : decode b_R_reset 86 = .ok (.aload_n 0, 1) := by decide +kernel
theorem d_R_reset_87 : decode b_R_reset 87 = .ok (.getfield 24, 3) := by decide +kernel
theorem d_R_reset_90 : decode b_R_reset 90 = .ok (.iload_n 1, 1) := by decide +kernel
theorem d_R_reset_91 : decode b_R_reset 91 = .ok (.iconst 0, 1) := by decide +kernel
theorem d_R_reset_92 : decode b_R_reset 92 = .ok (.bastore, 1) := by decide +kernel
theorem d_R_reset_93 : decode b_R_reset 93 = .ok (.aload_n 0, 1) := by decide +kernel
theorem d_R_reset_94 : decode b_R_reset 94 = .ok (.getfield 27, 3) := by decide +kernel
theorem d_R_reset_97 : decode b_R_reset 97 = .ok (.iload_n 1, 1) := by decide +kernel
theorem d_R_reset_98 : decode b_R_reset 98 = .ok (.iconst 0, 1) := by decide +kernel
theorem d_R_reset_99 : decode b_R_reset 99 = .ok (.iastore, 1) := by decide +kernel
theorem d_R_reset_100 : decode b_R_reset 100 = .ok (.iinc 1 1, 3) := by decide +kernel
theorem d_R_reset_103 : decode b_R_reset 103 = .ok (.goto (-36), 3) := by decide +kernel
theorem d_R_reset_7 : decode b_R_reset 7 = .ok (.iload_n 1, 1) := by decide +kernel
theorem d_R_reset_8 : decode b_R_reset 8 = .ok (.iconst 4, 1) := by decide +kernel
theorem d_R_reset_9 : decode b_R_reset 9 = .ok (.if_icmp .ge 16, 3) := by decide +kernel
theorem d_R_reset_25 : decode b_R_reset 25 = .ok (.aload_n 0, 1) := by decide +kernel
theorem d_R_reset_26 : decode b_R_reset 26 = .ok (.iconst 0, 1) := by decide +kernel
theorem d_R_reset_27 : decode b_R_reset 27 = .ok (.putfield 81, 3) := by decide +kernel
theorem d_R_reset_30 : decode b_R_reset 30 = .ok (.aload_n 0, 1) := by decide +kernel
theorem d_R_reset_31 : decode b_R_reset 31 = .ok (.iconst 0, 1) := by decide +kernel
theorem d_R_reset_32 : decode b_R_reset 32 = .ok (.putfield 84, 3) := by decide +kernel
theorem d_R_reset_35 : decode b_R_reset 35 = .ok (.aload_n 0, 1) := by decide +kernel
theorem d_R_reset_36 : decode b_R_reset 36 = .ok (.iconst 0, 1) := by decide +kernel
theorem d_R_reset_37 : decode b_R_reset 37 = .ok (.putfield 87, 3) := by decide +kernel
theorem d_R_reset_40 : decode b_R_reset 40 = .ok (.aload_n 0, 1) := by decide +kernel
theorem d_R_reset_41 : decode b_R_reset 41 = .ok (.iconst 0, 1) := by decide +kernel
theorem d_R_reset_42 : decode b_R_reset 42 = .ok (.putfield 94, 3) := by decide +kernel
theorem d_R_reset_45 : decode b_R_reset 45 = .ok (.aload_n 0, 1) := by decide +kernel
theorem d_R_reset_46 : decode b_R_reset 46 = .ok (.iconst 0, 1) := by decide +kernel
theorem d_R_reset_47 : decode b_R_reset 47 = .ok (.putfield 113, 3) := by decide +kernel
theorem d_R_reset_50 : decode b_R_reset 50 = .ok (.aload_n 0, 1) := by decide +kernel
theorem d_R_reset_51 : decode b_R_reset 51 = .ok (.iconst 0, 1) := by decide +kernel
theorem d_R_reset_52 : decode b_R_reset 52 = .ok (.putfield 98, 3) := by decide +kernel
theorem d_R_reset_55 : decode b_R_reset 55 = .ok (.aload_n 0, 1) := by decide +kernel
theorem d_R_reset_56 : decode b_R_reset 56 = .ok (.iconst 0, 1) := by decide +kernel
theorem d_R_reset_57 : decode b_R_reset 57 = .ok (.putfield 101, 3) := by decide +kernel
theorem d_R_reset_60 : decode b_R_reset 60 = .ok (.aload_n 0, 1) := by decide +kernel
theorem d_R_reset_61 : decode b_R_reset 61 = .ok (.iconst 0, 1) := by decide +kernel
theorem d_R_reset_62 : decode b_R_reset 62 = .ok (.putfield 104, 3) := by decide +kernel
theorem d_R_reset_65 : decode b_R_reset 65 = .ok (.iconst 0, 1) := by decide +kernel
theorem d_R_reset_66 : decode b_R_reset 66 = .ok (.istore_n 1, 1) := by decide +kernel
theorem d_R_reset_12 : decode b_R_reset 12 = .ok (.aload_n 0, 1) := by decide +kernel
theorem d_R_reset_13 : decode b_R_reset 13 = .ok (.getfield 14, 3) := by decide +kernel
theorem d_R_reset_16 : decode b_R_reset 16 = .ok (.iload_n 1, 1) := by decide +kernel
theorem d_R_reset_17 : decode b_R_reset 17 = .ok (.iconst 0, 1) := by decide +kernel
theorem d_R_reset_18 : decode b_R_reset 18 = .ok (.iastore, 1) := by decide +kernel
theorem d_R_reset_19 : decode b_R_reset 19 = .ok (.iinc 1 1, 3) := by decide +kernel
theorem d_R_reset_22 : decode b_R_reset 22 = .ok (.goto (-15), 3) := by decide +kernel
theorem d_R_reset_0 : decode b_R_reset 0 = .ok (.aload_n 0, 1) := by decide +kernel
theorem d_R_reset_1 : decode b_R_reset 1 = .ok (.iconst 0, 1) := by decide +kernel
theorem d_R_reset_2 : decode b_R_reset 2 = .ok (.putfield 68, 3) := by decide +kernel
theorem d_R_reset_5 : decode b_R_reset 5 = .ok (.iconst 0, 1) := by decide +kernel
theorem d_R_reset_6 : decode b_R_reset 6 = .ok (.istore_n 1, 1) := by decide +kernel
theorem d_R_chase_69 : decode b_R_chase 69 = .ok (.aload_n 0, 1) := by decide +kernel
theorem d_R_chase_70 : decode b_R_chase 70 = .ok (.getfield 8, 3) := by decide +kernel
theorem d_R_chase_73 : decode b_R_chase 73 = .ok (.iload_n 2, 1) := by decide +kernel
theorem d_R_chase_74 : decode b_R_chase 74 = .ok (.iaload, 1) := by decide +kernel
theorem d_R_chase_75 : decode b_R_chase 75 = .ok (.istore 4, 2) := by decide +kernel
theorem d_R_chase_77 : decode b_R_chase 77 = .ok (.iload 4, 2) := by decide +kernel
theorem d_R_chase_79 : decode b_R_chase 79 = .ok (.ldc 7, 2) := by decide +kernel
theorem d_R_chase_81 : decode b_R_chase 81 = .ok (.irem, 1) := by decide +kernel
theorem d_R_chase_82 : decode b_R_chase 82 = .ok (.istore_n 2, 1) := by decide +kernel
theorem d_R_chase_83 : decode b_R_chase 83 = .ok (.iload 4, 2) := by decide +kernel
theorem d_R_chase_85 : decode b_R_chase 85 = .ok (.ldc 7, 2) := by decide +kernel
theorem d_R_chase_87 : decode b_R_chase 87 = .ok (.if_icmp .ge 5, 3) := by decide +kernel
theorem d_R_chase_92 : decode b_R_chase 92 = .ok (.iinc 3 1, 3) := by decide +kernel
theorem d_R_chase_95 : decode b_R_chase 95 = .ok (.goto (-91), 3) := by decide +kernel
theorem d_R_chase_90 : decode b_R_chase 90 = .ok (.iload_n 2, 1) := by decide +kernel
theorem d_R_chase_91 : decode b_R_chase 91 = .ok (.ireturn, 1) := by decide +kernel
theorem d_R_chase_38 : decode b_R_chase 38 = .ok (.iload_n 2, 1) := by decide +kernel
theorem d_R_chase_39 : decode b_R_chase 39 = .ok (.bipush 24, 2) := by decide +kernel
theorem d_R_chase_41 : decode b_R_chase 41 = .ok (.bipush 31, 2) := by decide +kernel
theorem d_R_chase_43 : decode b_R_chase 43 = .ok (.invokestatic 72, 3) := by decide +kernel
theorem d_R_chase_46 : decode b_R_chase 46 = .ok (.ifCond .eq 23, 3) := by decide +kernel
theorem d_R_chase_49 : decode b_R_chase 49 = .ok (.aload_n 0, 1) := by decide +kernel
theorem d_R_chase_50 : decode b_R_chase 50 = .ok (.getfield 8, 3) := by decide +kernel
theorem d_R_chase_53 : decode b_R_chase 53 = .ok (.iload_n 2, 1) := by decide +kernel
theorem d_R_chase_54 : decode b_R_chase 54 = .ok (.aload_n 0, 1) := by decide +kernel
theorem d_R_chase_55 : decode b_R_chase 55 = .ok (.getfield 8, 3) := by decide +kernel
theorem d_R_chase_58 : decode b_R_chase 58 = .ok (.iload_n 2, 1) := by decide +kernel
theorem d_R_chase_59 : decode b_R_chase 59 = .ok (.iaload, 1) := by decide +kernel
theorem d_R_chase_60 : decode b_R_chase 60 = .ok (.ldc 134, 2) := by decide +kernel
theorem d_R_chase_62 : decode b_R_chase 62 = .ok (.iadd, 1) := by decide +kernel
theorem d_R_chase_63 : decode b_R_chase 63 = .ok (.iconst 1, 1) := by decide +kernel
theorem d_R_chase_64 : decode b_R_chase 64 = .ok (.isub, 1) := by decide +kernel
theorem d_R_chase_65 : decode b_R_chase 65 = .ok (.ldc 134, 2) := by decide +kernel
theorem d_R_chase_67 : decode b_R_chase 67 = .ok (.irem, 1) := by decide +kernel
theorem d_R_chase_68 : decode b_R_chase 68 = .ok (.iastore, 1) := by decide +kernel
theorem d_R_chase_4 : decode b_R_chase 4 = .ok (.iload_n 3, 1) := by decide +kernel
theorem d_R_chase_5 : decode b_R_chase 5 = .ok (.bipush 14, 2) := by decide +kernel
theorem d_R_chase_7 : decode b_R_chase 7 = .ok (.if_icmp .ge 91, 3) := by decide +kernel
theorem d_R_chase_98 : decode b_R_chase 98 = .ok (.aload_n 0, 1) := by decide +kernel
theorem d_R_chase_99 : decode b_R_chase 99 = .ok (.iconst 1, 1) := by decide +kernel
theorem d_R_chase_100 : decode b_R_chase 100 = .ok (.putfield 135, 3) := by decide +kernel
theorem d_R_chase_103 : decode b_R_chase 103 = .ok (.iconst 0, 1) := by decide +kernel
theorem d_R_chase_104 : decode b_R_chase 104 = .ok (.ireturn, 1) := by decide +kernel
theorem d_R_chase_10 : decode b_R_chase 10 = .ok (.iload_n 2, 1) := by decide +kernel
theorem d_R_chase_11 : decode b_R_chase 11 = .ok (.bipush 16, 2) := by decide +kernel
theorem d_R_chase_13 : decode b_R_chase 13 = .ok (.bipush 23, 2) := by decide +kernel
theorem d_R_chase_15 : decode b_R_chase 15 = .ok (.invokestatic 72, 3) := by decide +kernel
theorem d_R_chase_18 : decode b_R_chase 18 = .ok (.ifCond .eq 20, 3) := by decide +kernel
theorem d_R_chase_21 : decode b_R_chase 21 = .ok (.aload_n 0, 1) := by decide +kernel
theorem d_R_chase_22 : decode b_R_chase 22 = .ok (.getfield 8, 3) := by decide +kernel
theorem d_R_chase_25 : decode b_R_chase 25 = .ok (.iload_n 2, 1) := by decide +kernel
theorem d_R_chase_26 : decode b_R_chase 26 = .ok (.aload_n 0, 1) := by decide +kernel
theorem d_R_chase_27 : decode b_R_chase 27 = .ok (.getfield 8, 3) := by decide +kernel
theorem d_R_chase_30 : decode b_R_chase 30 = .ok (.iload_n 2, 1) := by decide +kernel
theorem d_R_chase_31 : decode b_R_chase 31 = .ok (.iaload, 1) := by decide +kernel
theorem d_R_chase_32 : decode b_R_chase 32 = .ok (.iconst 1, 1) := by decide +kernel
theorem d_R_chase_33 : decode b_R_chase 33 = .ok (.iadd, 1) := by decide +kernel
theorem d_R_chase_34 : decode b_R_chase 34 = .ok (.ldc 134, 2) := by decide +kernel
theorem d_R_chase_36 : decode b_R_chase 36 = .ok (.irem, 1) := by decide +kernel
theorem d_R_chase_37 : decode b_R_chase 37 = .ok (.iastore, 1) := by decide +kernel
theorem d_R_chase_0 : decode b_R_chase 0 = .ok (.iload_n 1, 1) := by decide +kernel
theorem d_R_chase_1 : decode b_R_chase 1 = .ok (.istore_n 2, 1) := by decide +kernel
theorem d_R_chase_2 : decode b_R_chase 2 = .ok (.iconst 0, 1) := by decide +kernel
theorem d_R_chase_3 : decode b_R_chase 3 = .ok (.istore_n 3, 1) := by decide +kernel
theorem d_R_addressOf_57 : decode b_R_addressOf 57 = .ok (.iload 4, 2) := by decide +kernel
theorem d_R_addressOf_59 : decode b_R_addressOf 59 = .ok (.iload_n 2, 1) := by decide +kernel
theorem d_R_addressOf_60 : decode b_R_addressOf 60 = .ok (.iadd, 1) := by decide +kernel
theorem d_R_addressOf_61 : decode b_R_addressOf 61 = .ok (.ldc 7, 2) := by decide +kernel
theorem d_R_addressOf_63 : decode b_R_addressOf 63 = .ok (.irem, 1) := by decide +kernel
theorem d_R_addressOf_64 : decode b_R_addressOf 64 = .ok (.istore 5, 2) := by decide +kernel
theorem d_R_addressOf_66 : decode b_R_addressOf 66 = .ok (.iload_n 1, 1) := by decide +kernel
theorem d_R_addressOf_67 : decode b_R_addressOf 67 = .ok (.sipush 1024, 3) := by decide +kernel
theorem d_R_addressOf_70 : decode b_R_addressOf 70 = .ok (.idiv, 1) := by decide +kernel
theorem d_R_addressOf_71 : decode b_R_addressOf 71 = .ok (.iconst 2, 1) := by decide +kernel
theorem d_R_addressOf_72 : decode b_R_addressOf 72 = .ok (.irem, 1) := by decide +kernel
theorem d_R_addressOf_73 : decode b_R_addressOf 73 = .ok (.iconst 1, 1) := by decide +kernel
theorem d_R_addressOf_74 : decode b_R_addressOf 74 = .ok (.if_icmp .ne 12, 3) := by decide +kernel
theorem d_R_addressOf_86 : decode b_R_addressOf 86 = .ok (.iload 5, 2) := by decide +kernel
theorem d_R_addressOf_88 : decode b_R_addressOf 88 = .ok (.ireturn, 1) := by decide +kernel
theorem d_R_addressOf_77 : decode b_R_addressOf 77 = .ok (.aload_n 0, 1) := by decide +kernel
theorem d_R_addressOf_78 : decode b_R_addressOf 78 = .ok (.iload 5, 2) := by decide +kernel
theorem d_R_addressOf_80 : decode b_R_addressOf 80 = .ok (.invokevirtual 139, 3) := by decide +kernel
theorem d_R_addressOf_83 : decode b_R_addressOf 83 = .ok (.goto 5, 3) := by decide +kernel
theorem d_R_addressOf_40 : decode b_R_addressOf 40 = .ok (.istore 4, 2) := by decide +kernel
theorem d_R_addressOf_42 : decode b_R_addressOf 42 = .ok (.iload_n 3, 1) := by decide +kernel
theorem d_R_addressOf_43 : decode b_R_addressOf 43 = .ok (.ifCond .le 14, 3) := by decide +kernel
theorem d_R_addressOf_46 : decode b_R_addressOf 46 = .ok (.iload_n 2, 1) := by decide +kernel
theorem d_R_addressOf_47 : decode b_R_addressOf 47 = .ok (.bipush 127, 2) := by decide +kernel
theorem d_R_addressOf_49 : decode b_R_addressOf 49 = .ok (.if_icmp .le 8, 3) := by decide +kernel
theorem d_R_addressOf_52 : decode b_R_addressOf 52 = .ok (.iload_n 2, 1) := by decide +kernel
theorem d_R_addressOf_53 : decode b_R_addressOf 53 = .ok (.ldc 138, 2) := by decide +kernel
theorem d_R_addressOf_55 : decode b_R_addressOf 55 = .ok (.iadd, 1) := by decide +kernel
theorem d_R_addressOf_56 : decode b_R_addressOf 56 = .ok (.istore_n 2, 1) := by decide +kernel
theorem d_R_addressOf_0 : decode b_R_addressOf 0 = .ok (.iload_n 1, 1) := by decide +kernel
theorem d_R_addressOf_1 : decode b_R_addressOf 1 = .ok (.sipush 256, 3) := by decide +kernel
theorem d_R_addressOf_4 : decode b_R_addressOf 4 = .ok (.irem, 1) := by decide +kernel
theorem d_R_addressOf_5 : decode b_R_addressOf 5 = .ok (.istore_n 2, 1) := by decide +kernel
theorem d_R_addressOf_6 : decode b_R_addressOf 6 = .ok (.iload_n 1, 1) := by decide +kernel
theorem d_R_addressOf_7 : decode b_R_addressOf 7 = .ok (.sipush 256, 3) := by decide +kernel
theorem d_R_addressOf_10 : decode b_R_addressOf 10 = .ok (.idiv, 1) := by decide +kernel
theorem d_R_addressOf_11 : decode b_R_addressOf 11 = .ok (.iconst 4, 1) := by decide +kernel
theorem d_R_addressOf_12 : decode b_R_addressOf 12 = .ok (.irem, 1) := by decide +kernel
theorem d_R_addressOf_13 : decode b_R_addressOf 13 = .ok (.istore_n 3, 1) := by decide +kernel
theorem d_R_addressOf_14 : decode b_R_addressOf 14 = .ok (.iload_n 3, 1) := by decide +kernel
theorem d_R_addressOf_15 : decode b_R_addressOf 15 = .ok (.ifCond .ne 7, 3) := by decide +kernel
theorem d_R_addressOf_22 : decode b_R_addressOf 22 = .ok (.iload_n 3, 1) := by decide +kernel
theorem d_R_addressOf_23 : decode b_R_addressOf 23 = .ok (.iconst 1, 1) := by decide +kernel
theorem d_R_addressOf_24 : decode b_R_addressOf 24 = .ok (.if_icmp .ne 10, 3) := by decide +kernel
theorem d_R_addressOf_34 : decode b_R_addressOf 34 = .ok (.aload_n 0, 1) := by decide +kernel
theorem d_R_addressOf_35 : decode b_R_addressOf 35 = .ok (.getfield 14, 3) := by decide +kernel
theorem d_R_addressOf_38 : decode b_R_addressOf 38 = .ok (.iload_n 3, 1) := by decide +kernel
theorem d_R_addressOf_39 : decode b_R_addressOf 39 = .ok (.iaload, 1) := by decide +kernel
theorem d_R_addressOf_27 : decode b_R_addressOf 27 = .ok (.aload_n 0, 1) := by decide +kernel
theorem d_R_addressOf_28 : decode b_R_addressOf 28 = .ok (.getfield 84, 3) := by decide +kernel
theorem d_R_addressOf_31 : decode b_R_addressOf 31 = .ok (.goto 9, 3) := by decide +kernel
theorem d_R_addressOf_18 : decode b_R_addressOf 18 = .ok (.iconst 0, 1) := by decide +kernel
theorem d_R_addressOf_19 : decode b_R_addressOf 19 = .ok (.goto 21, 3) := by decide +kernel
theorem d_R_asks_18 : decode b_R_asks 18 = .ok (.istore_n 2, 1) := by decide +kernel
theorem d_R_asks_19 : decode b_R_asks 19 = .ok (.aload_n 0, 1) := by decide +kernel
theorem d_R_asks_20 : decode b_R_asks 20 = .ok (.getfield 24, 3) := by decide +kernel
theorem d_R_asks_23 : decode b_R_asks 23 = .ok (.iload_n 1, 1) := by decide +kernel
theorem d_R_asks_24 : decode b_R_asks 24 = .ok (.baload, 1) := by decide +kernel
theorem d_R_asks_25 : decode b_R_asks 25 = .ok (.ifCond .eq 18, 3) := by decide +kernel
theorem d_R_asks_43 : decode b_R_asks 43 = .ok (.iconst 0, 1) := by decide +kernel
theorem d_R_asks_44 : decode b_R_asks 44 = .ok (.ireturn, 1) := by decide +kernel
theorem d_R_asks_28 : decode b_R_asks 28 = .ok (.aload_n 0, 1) := by decide +kernel
theorem d_R_asks_29 : decode b_R_asks 29 = .ok (.getfield 98, 3) := by decide +kernel
theorem d_R_asks_32 : decode b_R_asks 32 = .ok (.iload_n 2, 1) := by decide +kernel
theorem d_R_asks_33 : decode b_R_asks 33 = .ok (.ishr, 1) := by decide +kernel
theorem d_R_asks_34 : decode b_R_asks 34 = .ok (.iconst 1, 1) := by decide +kernel
theorem d_R_asks_35 : decode b_R_asks 35 = .ok (.iand, 1) := by decide +kernel
theorem d_R_asks_36 : decode b_R_asks 36 = .ok (.ifCond .ne 7, 3) := by decide +kernel
theorem d_R_asks_39 : decode b_R_asks 39 = .ok (.iconst 1, 1) := by decide +kernel
theorem d_R_asks_40 : decode b_R_asks 40 = .ok (.goto 4, 3) := by decide +kernel
theorem d_R_asks_0 : decode b_R_asks 0 = .ok (.iload_n 1, 1) := by decide +kernel
theorem d_R_asks_1 : decode b_R_asks 1 = .ok (.ifCond .ne 7, 3) := by decide +kernel
theorem d_R_asks_8 : decode b_R_asks 8 = .ok (.iload_n 1, 1) := by decide +kernel
theorem d_R_asks_9 : decode b_R_asks 9 = .ok (.iconst 1, 1) := by decide +kernel
theorem d_R_asks_10 : decode b_R_asks 10 = .ok (.if_icmp .ne 7, 3) := by decide +kernel
theorem d_R_asks_17 : decode b_R_asks 17 = .ok (.iconst 2, 1) := by decide +kernel
theorem d_R_asks_13 : decode b_R_asks 13 = .ok (.iconst 0, 1) := by decide +kernel
theorem d_R_asks_14 : decode b_R_asks 14 = .ok (.goto 4, 3) := by decide +kernel
theorem d_R_asks_4 : decode b_R_asks 4 = .ok (.iconst 1, 1) := by decide +kernel
theorem d_R_asks_5 : decode b_R_asks 5 = .ok (.goto 13, 3) := by decide +kernel
theorem d_R_asking_2 : decode b_R_asking 2 = .ok (.iload_n 1, 1) := by decide +kernel
theorem d_R_asking_3 : decode b_R_asking 3 = .ok (.iconst 3, 1) := by decide +kernel
theorem d_R_asking_4 : decode b_R_asking 4 = .ok (.if_icmp .ge 22, 3) := by decide +kernel
theorem d_R_asking_26 : decode b_R_asking 26 = .ok (.iconst 0, 1) := by decide +kernel
theorem d_R_asking_27 : decode b_R_asking 27 = .ok (.ireturn, 1) := by decide +kernel
theorem d_R_asking_7 : decode b_R_asking 7 = .ok (.aload_n 0, 1) := by decide +kernel
theorem d_R_asking_8 : decode b_R_asking 8 = .ok (.iload_n 1, 1) := by decide +kernel
theorem d_R_asking_9 : decode b_R_asking 9 = .ok (.invokevirtual 142, 3) := by decide +kernel
theorem d_R_asking_12 : decode b_R_asking 12 = .ok (.ifCond .eq 8, 3) := by decide +kernel
theorem d_R_asking_20 : decode b_R_asking 20 = .ok (.iinc 1 1, 3) := by decide +kernel
theorem d_R_asking_23 : decode b_R_asking 23 = .ok (.goto (-21), 3) := by decide +kernel
theorem d_R_asking_15 : decode b_R_asking 15 = .ok (.bipush 8, 2) := by decide +kernel
theorem d_R_asking_17 : decode b_R_asking 17 = .ok (.iload_n 1, 1) := by decide +kernel
theorem d_R_asking_18 : decode b_R_asking 18 = .ok (.iadd, 1) := by decide +kernel
theorem d_R_asking_19 : decode b_R_asking 19 = .ok (.ireturn, 1) := by decide +kernel
theorem d_R_asking_0 : decode b_R_asking 0 = .ok (.iconst 0, 1) := by decide +kernel
theorem d_R_asking_1 : decode b_R_asking 1 = .ok (.istore_n 1, 1) := by decide +kernel
theorem d_R_reckons_444 : decode b_R_reckons 444 = .ok (.iload 9, 2) := by decide +kernel
theorem d_R_reckons_446 : decode b_R_reckons 446 = .ok (.if_icmp .ne 7, 3) := by decide +kernel
theorem d_R_reckons_453 : decode b_R_reckons 453 = .ok (.iconst 0, 1) := by decide +kernel
theorem d_R_reckons_454 : decode b_R_reckons 454 = .ok (.ireturn, 1) := by decide +kernel
theorem d_R_reckons_449 : decode b_R_reckons 449 = .ok (.iconst 1, 1) := by decide +kernel
theorem d_R_reckons_450 : decode b_R_reckons 450 = .ok (.goto 4, 3) := by decide +kernel
theorem d_R_reckons_430 : decode b_R_reckons 430 = .ok (.istore 9, 2) := by decide +kernel
theorem d_R_reckons_432 : decode b_R_reckons 432 = .ok (.iload 8, 2) := by decide +kernel
theorem d_R_reckons_434 : decode b_R_reckons 434 = .ok (.iconst 2, 1) := by decide +kernel
theorem d_R_reckons_435 : decode b_R_reckons 435 = .ok (.irem, 1) := by decide +kernel
theorem d_R_reckons_436 : decode b_R_reckons 436 = .ok (.ifCond .ne 7, 3) := by decide +kernel
theorem d_R_reckons_443 : decode b_R_reckons 443 = .ok (.iconst 0, 1) := by decide +kernel
theorem d_R_reckons_439 : decode b_R_reckons 439 = .ok (.iconst 1, 1) := by decide +kernel
theorem d_R_reckons_440 : decode b_R_reckons 440 = .ok (.goto 4, 3) := by decide +kernel
theorem d_R_reckons_349 : decode b_R_reckons 349 = .ok (.iload_n 1, 1) := by decide +kernel
theorem d_R_reckons_350 : decode b_R_reckons 350 = .ok (.bipush 8, 2) := by decide +kernel
theorem d_R_reckons_352 : decode b_R_reckons 352 = .ok (.irem, 1) := by decide +kernel
theorem d_R_reckons_353 : decode b_R_reckons 353 = .ok (.istore 8, 2) := by decide +kernel
theorem d_R_reckons_355 : decode b_R_reckons 355 = .ok (.iload 8, 2) := by decide +kernel
theorem d_R_reckons_357 : decode b_R_reckons 357 = .ok (.iconst 2, 1) := by decide +kernel
theorem d_R_reckons_358 : decode b_R_reckons 358 = .ok (.if_icmp .ge 15, 3) := by decide +kernel
theorem d_R_reckons_373 : decode b_R_reckons 373 = .ok (.iload 8, 2) := by decide +kernel
theorem d_R_reckons_375 : decode b_R_reckons 375 = .ok (.iconst 2, 1) := by decide +kernel
theorem d_R_reckons_376 : decode b_R_reckons 376 = .ok (.idiv, 1) := by decide +kernel
theorem d_R_reckons_377 : decode b_R_reckons 377 = .ok (.iconst 1, 1) := by decide +kernel
theorem d_R_reckons_378 : decode b_R_reckons 378 = .ok (.if_icmp .ne 16, 3) := by decide +kernel
theorem d_R_reckons_394 : decode b_R_reckons 394 = .ok (.iload 8, 2) := by decide +kernel
theorem d_R_reckons_396 : decode b_R_reckons 396 = .ok (.iconst 2, 1) := by decide +kernel
theorem d_R_reckons_397 : decode b_R_reckons 397 = .ok (.idiv, 1) := by decide +kernel
theorem d_R_reckons_398 : decode b_R_reckons 398 = .ok (.iconst 2, 1) := by decide +kernel
theorem d_R_reckons_399 : decode b_R_reckons 399 = .ok (.if_icmp .ne 16, 3) := by decide +kernel
theorem d_R_reckons_415 : decode b_R_reckons 415 = .ok (.iload 4, 2) := by decide +kernel
theorem d_R_reckons_417 : decode b_R_reckons 417 = .ok (.ifCond .eq 8, 3) := by decide +kernel
theorem d_R_reckons_425 : decode b_R_reckons 425 = .ok (.iconst 1, 1) := by decide +kernel
theorem d_R_reckons_426 : decode b_R_reckons 426 = .ok (.goto 4, 3) := by decide +kernel
theorem d_R_reckons_420 : decode b_R_reckons 420 = .ok (.iload 6, 2) := by decide +kernel
theorem d_R_reckons_422 : decode b_R_reckons 422 = .ok (.ifCond .ne 7, 3) := by decide +kernel
theorem d_R_reckons_429 : decode b_R_reckons 429 = .ok (.iconst 0, 1) := by decide +kernel
theorem d_R_reckons_402 : decode b_R_reckons 402 = .ok (.iload 6, 2) := by decide +kernel
theorem d_R_reckons_404 : decode b_R_reckons 404 = .ok (.ifCond .ne 7, 3) := by decide +kernel
theorem d_R_reckons_411 : decode b_R_reckons 411 = .ok (.iconst 0, 1) := by decide +kernel
theorem d_R_reckons_412 : decode b_R_reckons 412 = .ok (.goto 18, 3) := by decide +kernel
theorem d_R_reckons_407 : decode b_R_reckons 407 = .ok (.iconst 1, 1) := by decide +kernel
theorem d_R_reckons_408 : decode b_R_reckons 408 = .ok (.goto 22, 3) := by decide +kernel
theorem d_R_reckons_381 : decode b_R_reckons 381 = .ok (.iload 4, 2) := by decide +kernel
theorem d_R_reckons_383 : decode b_R_reckons 383 = .ok (.ifCond .ne 7, 3) := by decide +kernel
theorem d_R_reckons_390 : decode b_R_reckons 390 = .ok (.iconst 0, 1) := by decide +kernel
theorem d_R_reckons_391 : decode b_R_reckons 391 = .ok (.goto 39, 3) := by decide +kernel
theorem d_R_reckons_386 : decode b_R_reckons 386 = .ok (.iconst 1, 1) := by decide +kernel
theorem d_R_reckons_387 : decode b_R_reckons 387 = .ok (.goto 43, 3) := by decide +kernel
theorem d_R_reckons_361 : decode b_R_reckons 361 = .ok (.iload 8, 2) := by decide +kernel
theorem d_R_reckons_363 : decode b_R_reckons 363 = .ok (.iconst 1, 1) := by decide +kernel
theorem d_R_reckons_364 : decode b_R_reckons 364 = .ok (.if_icmp .ne 7, 3) := by decide +kernel
theorem d_R_reckons_371 : decode b_R_reckons 371 = .ok (.iconst 0, 1) := by decide +kernel
theorem d_R_reckons_372 : decode b_R_reckons 372 = .ok (.ireturn, 1) := by decide +kernel
theorem d_R_reckons_367 : decode b_R_reckons 367 = .ok (.iconst 1, 1) := by decide +kernel
theorem d_R_reckons_368 : decode b_R_reckons 368 = .ok (.goto 4, 3) := by decide +kernel
theorem d_R_reckons_320 : decode b_R_reckons 320 = .ok (.iload_n 1, 1) := by decide +kernel
theorem d_R_reckons_321 : decode b_R_reckons 321 = .ok (.bipush 8, 2) := by decide +kernel
theorem d_R_reckons_323 : decode b_R_reckons 323 = .ok (.idiv, 1) := by decide +kernel
theorem d_R_reckons_324 : decode b_R_reckons 324 = .ok (.iconst 2, 1) := by decide +kernel
theorem d_R_reckons_325 : decode b_R_reckons 325 = .ok (.irem, 1) := by decide +kernel
theorem d_R_reckons_326 : decode b_R_reckons 326 = .ok (.ifCond .ne 23, 3) := by decide +kernel
theorem d_R_reckons_329 : decode b_R_reckons 329 = .ok (.aload_n 0, 1) := by decide +kernel
theorem d_R_reckons_330 : decode b_R_reckons 330 = .ok (.getfield 14, 3) := by decide +kernel
theorem d_R_reckons_333 : decode b_R_reckons 333 = .ok (.iload_n 1, 1) := by decide +kernel
theorem d_R_reckons_334 : decode b_R_reckons 334 = .ok (.sipush 2048, 3) := by decide +kernel
theorem d_R_reckons_337 : decode b_R_reckons 337 = .ok (.idiv, 1) := by decide +kernel
theorem d_R_reckons_338 : decode b_R_reckons 338 = .ok (.iconst 4, 1) := by decide +kernel
theorem d_R_reckons_339 : decode b_R_reckons 339 = .ok (.irem, 1) := by decide +kernel
theorem d_R_reckons_340 : decode b_R_reckons 340 = .ok (.iload 6, 2) := by decide +kernel
theorem d_R_reckons_342 : decode b_R_reckons 342 = .ok (.iastore, 1) := by decide +kernel
theorem d_R_reckons_343 : decode b_R_reckons 343 = .ok (.aload_n 0, 1) := by decide +kernel
theorem d_R_reckons_344 : decode b_R_reckons 344 = .ok (.iload 4, 2) := by decide +kernel
theorem d_R_reckons_346 : decode b_R_reckons 346 = .ok (.putfield 81, 3) := by decide +kernel
theorem d_R_reckons_215 : decode b_R_reckons 215 = .ok (.istore 4, 2) := by decide +kernel
theorem d_R_reckons_217 : decode b_R_reckons 217 = .ok (.iload 6, 2) := by decide +kernel
theorem d_R_reckons_219 : decode b_R_reckons 219 = .ok (.ldc 134, 2) := by decide +kernel
theorem d_R_reckons_221 : decode b_R_reckons 221 = .ok (.irem, 1) := by decide +kernel
theorem d_R_reckons_222 : decode b_R_reckons 222 = .ok (.istore 6, 2) := by decide +kernel
theorem d_R_reckons_224 : decode b_R_reckons 224 = .ok (.iload_n 1, 1) := by decide +kernel
theorem d_R_reckons_225 : decode b_R_reckons 225 = .ok (.bipush 64, 2) := by decide +kernel
theorem d_R_reckons_227 : decode b_R_reckons 227 = .ok (.idiv, 1) := by decide +kernel
theorem d_R_reckons_228 : decode b_R_reckons 228 = .ok (.iconst 4, 1) := by decide +kernel
theorem d_R_reckons_229 : decode b_R_reckons 229 = .ok (.irem, 1) := by decide +kernel
theorem d_R_reckons_230 : decode b_R_reckons 230 = .ok (.istore 7, 2) := by decide +kernel
theorem d_R_reckons_232 : decode b_R_reckons 232 = .ok (.iload 7, 2) := by decide +kernel
theorem d_R_reckons_234 : decode b_R_reckons 234 = .ok (.iconst 1, 1) := by decide +kernel
theorem d_R_reckons_235 : decode b_R_reckons 235 = .ok (.if_icmp .ne 29, 3) := by decide +kernel
theorem d_R_reckons_264 : decode b_R_reckons 264 = .ok (.iload 7, 2) := by decide +kernel
theorem d_R_reckons_266 : decode b_R_reckons 266 = .ok (.iconst 2, 1) := by decide +kernel
theorem d_R_reckons_267 : decode b_R_reckons 267 = .ok (.if_icmp .ne 28, 3) := by decide +kernel
theorem d_R_reckons_295 : decode b_R_reckons 295 = .ok (.iload 7, 2) := by decide +kernel
theorem d_R_reckons_297 : decode b_R_reckons 297 = .ok (.iconst 3, 1) := by decide +kernel
theorem d_R_reckons_298 : decode b_R_reckons 298 = .ok (.if_icmp .ne 22, 3) := by decide +kernel
theorem d_R_reckons_301 : decode b_R_reckons 301 = .ok (.iload 6, 2) := by decide +kernel
theorem d_R_reckons_303 : decode b_R_reckons 303 = .ok (.sipush 256, 3) := by decide +kernel
theorem d_R_reckons_306 : decode b_R_reckons 306 = .ok (.irem, 1) := by decide +kernel
theorem d_R_reckons_307 : decode b_R_reckons 307 = .ok (.sipush 256, 3) := by decide +kernel
theorem d_R_reckons_310 : decode b_R_reckons 310 = .ok (.imul, 1) := by decide +kernel
theorem d_R_reckons_311 : decode b_R_reckons 311 = .ok (.iload 6, 2) := by decide +kernel
theorem d_R_reckons_313 : decode b_R_reckons 313 = .ok (.sipush 256, 3) := by decide +kernel
theorem d_R_reckons_316 : decode b_R_reckons 316 = .ok (.idiv, 1) := by decide +kernel
theorem d_R_reckons_317 : decode b_R_reckons 317 = .ok (.iadd, 1) := by decide +kernel
theorem d_R_reckons_318 : decode b_R_reckons 318 = .ok (.istore 6, 2) := by decide +kernel
theorem d_R_reckons_270 : decode b_R_reckons 270 = .ok (.iload 6, 2) := by decide +kernel
theorem d_R_reckons_272 : decode b_R_reckons 272 = .ok (.iconst 2, 1) := by decide +kernel
theorem d_R_reckons_273 : decode b_R_reckons 273 = .ok (.irem, 1) := by decide +kernel
theorem d_R_reckons_274 : decode b_R_reckons 274 = .ok (.istore 8, 2) := by decide +kernel
theorem d_R_reckons_276 : decode b_R_reckons 276 = .ok (.iload 6, 2) := by decide +kernel
theorem d_R_reckons_278 : decode b_R_reckons 278 = .ok (.iconst 2, 1) := by decide +kernel
theorem d_R_reckons_279 : decode b_R_reckons 279 = .ok (.idiv, 1) := by decide +kernel
theorem d_R_reckons_280 : decode b_R_reckons 280 = .ok (.iload 4, 2) := by decide +kernel
theorem d_R_reckons_282 : decode b_R_reckons 282 = .ok (.ldc 7, 2) := by decide +kernel
theorem d_R_reckons_284 : decode b_R_reckons 284 = .ok (.imul, 1) := by decide +kernel
theorem d_R_reckons_285 : decode b_R_reckons 285 = .ok (.iadd, 1) := by decide +kernel
theorem d_R_reckons_286 : decode b_R_reckons 286 = .ok (.istore 6, 2) := by decide +kernel
theorem d_R_reckons_288 : decode b_R_reckons 288 = .ok (.iload 8, 2) := by decide +kernel
theorem d_R_reckons_290 : decode b_R_reckons 290 = .ok (.istore 4, 2) := by decide +kernel
theorem d_R_reckons_292 : decode b_R_reckons 292 = .ok (.goto 28, 3) := by decide +kernel
theorem d_R_reckons_238 : decode b_R_reckons 238 = .ok (.iconst 2, 1) := by decide +kernel
theorem d_R_reckons_239 : decode b_R_reckons 239 = .ok (.iload 6, 2) := by decide +kernel
theorem d_R_reckons_241 : decode b_R_reckons 241 = .ok (.imul, 1) := by decide +kernel
theorem d_R_reckons_242 : decode b_R_reckons 242 = .ok (.iload 4, 2) := by decide +kernel
theorem d_R_reckons_244 : decode b_R_reckons 244 = .ok (.iadd, 1) := by decide +kernel
theorem d_R_reckons_245 : decode b_R_reckons 245 = .ok (.istore 8, 2) := by decide +kernel
theorem d_R_reckons_247 : decode b_R_reckons 247 = .ok (.iload 8, 2) := by decide +kernel
theorem d_R_reckons_249 : decode b_R_reckons 249 = .ok (.ldc 134, 2) := by decide +kernel
theorem d_R_reckons_251 : decode b_R_reckons 251 = .ok (.irem, 1) := by decide +kernel
theorem d_R_reckons_252 : decode b_R_reckons 252 = .ok (.istore 6, 2) := by decide +kernel
theorem d_R_reckons_254 : decode b_R_reckons 254 = .ok (.iload 8, 2) := by decide +kernel
theorem d_R_reckons_256 : decode b_R_reckons 256 = .ok (.ldc 134, 2) := by decide +kernel
theorem d_R_reckons_258 : decode b_R_reckons 258 = .ok (.idiv, 1) := by decide +kernel
theorem d_R_reckons_259 : decode b_R_reckons 259 = .ok (.istore 4, 2) := by decide +kernel
theorem d_R_reckons_261 : decode b_R_reckons 261 = .ok (.goto 59, 3) := by decide +kernel
theorem d_R_reckons_199 : decode b_R_reckons 199 = .ok (.iload 6, 2) := by decide +kernel
theorem d_R_reckons_201 : decode b_R_reckons 201 = .ok (.ldc 134, 2) := by decide +kernel
theorem d_R_reckons_203 : decode b_R_reckons 203 = .ok (.if_icmp .lt 10, 3) := by decide +kernel
theorem d_R_reckons_213 : decode b_R_reckons 213 = .ok (.iload 4, 2) := by decide +kernel
theorem d_R_reckons_206 : decode b_R_reckons 206 = .ok (.iconst 1, 1) := by decide +kernel
theorem d_R_reckons_207 : decode b_R_reckons 207 = .ok (.iload 4, 2) := by decide +kernel
theorem d_R_reckons_209 : decode b_R_reckons 209 = .ok (.isub, 1) := by decide +kernel
theorem d_R_reckons_210 : decode b_R_reckons 210 = .ok (.goto 5, 3) := by decide +kernel
theorem d_R_reckons_76 : decode b_R_reckons 76 = .ok (.istore 4, 2) := by decide +kernel
theorem d_R_reckons_78 : decode b_R_reckons 78 = .ok (.ldc 76, 2) := by decide +kernel
theorem d_R_reckons_80 : decode b_R_reckons 80 = .ok (.iload_n 2, 1) := by decide +kernel
theorem d_R_reckons_81 : decode b_R_reckons 81 = .ok (.isub, 1) := by decide +kernel
theorem d_R_reckons_82 : decode b_R_reckons 82 = .ok (.istore 5, 2) := by decide +kernel
theorem d_R_reckons_84 : decode b_R_reckons 84 = .ok (.iload_n 1, 1) := by decide +kernel
theorem d_R_reckons_85 : decode b_R_reckons 85 = .ok (.sipush 256, 3) := by decide +kernel
theorem d_R_reckons_88 : decode b_R_reckons 88 = .ok (.idiv, 1) := by decide +kernel
theorem d_R_reckons_89 : decode b_R_reckons 89 = .ok (.bipush 8, 2) := by decide +kernel
theorem d_R_reckons_91 : decode b_R_reckons 91 = .ok (.irem, 1) := by decide +kernel
theorem d_R_reckons_92 : decode b_R_reckons 92 = .ok (.tableswitch 102 0 6 #[44, 51, 60, 66, 74, 83, 94], 44) := by decide +kernel
theorem d_R_reckons_136 : decode b_R_reckons 136 = .ok (.iload 5, 2) := by decide +kernel
theorem d_R_reckons_138 : decode b_R_reckons 138 = .ok (.istore 6, 2) := by decide +kernel
theorem d_R_reckons_140 : decode b_R_reckons 140 = .ok (.goto 59, 3) := by decide +kernel
theorem d_R_reckons_143 : decode b_R_reckons 143 = .ok (.iload 5, 2) := by decide +kernel
theorem d_R_reckons_145 : decode b_R_reckons 145 = .ok (.iconst 1, 1) := by decide +kernel
theorem d_R_reckons_146 : decode b_R_reckons 146 = .ok (.iadd, 1) := by decide +kernel
theorem d_R_reckons_147 : decode b_R_reckons 147 = .ok (.istore 6, 2) := by decide +kernel
theorem d_R_reckons_149 : decode b_R_reckons 149 = .ok (.goto 50, 3) := by decide +kernel
theorem d_R_reckons_152 : decode b_R_reckons 152 = .ok (.iload_n 2, 1) := by decide +kernel
theorem d_R_reckons_153 : decode b_R_reckons 153 = .ok (.istore 6, 2) := by decide +kernel
theorem d_R_reckons_155 : decode b_R_reckons 155 = .ok (.goto 44, 3) := by decide +kernel
theorem d_R_reckons_158 : decode b_R_reckons 158 = .ok (.iload_n 2, 1) := by decide +kernel
theorem d_R_reckons_159 : decode b_R_reckons 159 = .ok (.iconst 1, 1) := by decide +kernel
theorem d_R_reckons_160 : decode b_R_reckons 160 = .ok (.iadd, 1) := by decide +kernel
theorem d_R_reckons_161 : decode b_R_reckons 161 = .ok (.istore 6, 2) := by decide +kernel
theorem d_R_reckons_163 : decode b_R_reckons 163 = .ok (.goto 36, 3) := by decide +kernel
theorem d_R_reckons_166 : decode b_R_reckons 166 = .ok (.iload_n 3, 1) := by decide +kernel
theorem d_R_reckons_167 : decode b_R_reckons 167 = .ok (.iload 5, 2) := by decide +kernel
theorem d_R_reckons_169 : decode b_R_reckons 169 = .ok (.iadd, 1) := by decide +kernel
theorem d_R_reckons_170 : decode b_R_reckons 170 = .ok (.istore 6, 2) := by decide +kernel
theorem d_R_reckons_172 : decode b_R_reckons 172 = .ok (.goto 27, 3) := by decide +kernel
theorem d_R_reckons_175 : decode b_R_reckons 175 = .ok (.iload_n 3, 1) := by decide +kernel
theorem d_R_reckons_176 : decode b_R_reckons 176 = .ok (.iload 5, 2) := by decide +kernel
theorem d_R_reckons_178 : decode b_R_reckons 178 = .ok (.iadd, 1) := by decide +kernel
theorem d_R_reckons_179 : decode b_R_reckons 179 = .ok (.iconst 1, 1) := by decide +kernel
theorem d_R_reckons_180 : decode b_R_reckons 180 = .ok (.iadd, 1) := by decide +kernel
theorem d_R_reckons_181 : decode b_R_reckons 181 = .ok (.istore 6, 2) := by decide +kernel
theorem d_R_reckons_183 : decode b_R_reckons 183 = .ok (.goto 16, 3) := by decide +kernel
theorem d_R_reckons_186 : decode b_R_reckons 186 = .ok (.iload_n 3, 1) := by decide +kernel
theorem d_R_reckons_187 : decode b_R_reckons 187 = .ok (.iload_n 2, 1) := by decide +kernel
theorem d_R_reckons_188 : decode b_R_reckons 188 = .ok (.iadd, 1) := by decide +kernel
theorem d_R_reckons_189 : decode b_R_reckons 189 = .ok (.istore 6, 2) := by decide +kernel
theorem d_R_reckons_191 : decode b_R_reckons 191 = .ok (.goto 8, 3) := by decide +kernel
theorem d_R_reckons_194 : decode b_R_reckons 194 = .ok (.iload_n 3, 1) := by decide +kernel
theorem d_R_reckons_195 : decode b_R_reckons 195 = .ok (.iload_n 2, 1) := by decide +kernel
theorem d_R_reckons_196 : decode b_R_reckons 196 = .ok (.iand, 1) := by decide +kernel
theorem d_R_reckons_197 : decode b_R_reckons 197 = .ok (.istore 6, 2) := by decide +kernel
theorem d_R_reckons_0 : decode b_R_reckons 0 = .ok (.aload_n 0, 1) := by decide +kernel
theorem d_R_reckons_1 : decode b_R_reckons 1 = .ok (.getfield 14, 3) := by decide +kernel
theorem d_R_reckons_4 : decode b_R_reckons 4 = .ok (.iload_n 1, 1) := by decide +kernel
theorem d_R_reckons_5 : decode b_R_reckons 5 = .ok (.sipush 8192, 3) := by decide +kernel
theorem d_R_reckons_8 : decode b_R_reckons 8 = .ok (.idiv, 1) := by decide +kernel
theorem d_R_reckons_9 : decode b_R_reckons 9 = .ok (.iconst 4, 1) := by decide +kernel
theorem d_R_reckons_10 : decode b_R_reckons 10 = .ok (.irem, 1) := by decide +kernel
theorem d_R_reckons_11 : decode b_R_reckons 11 = .ok (.iaload, 1) := by decide +kernel
theorem d_R_reckons_12 : decode b_R_reckons 12 = .ok (.istore_n 2, 1) := by decide +kernel
theorem d_R_reckons_13 : decode b_R_reckons 13 = .ok (.aload_n 0, 1) := by decide +kernel
theorem d_R_reckons_14 : decode b_R_reckons 14 = .ok (.getfield 14, 3) := by decide +kernel
theorem d_R_reckons_17 : decode b_R_reckons 17 = .ok (.iload_n 1, 1) := by decide +kernel
theorem d_R_reckons_18 : decode b_R_reckons 18 = .ok (.sipush 2048, 3) := by decide +kernel
theorem d_R_reckons_21 : decode b_R_reckons 21 = .ok (.idiv, 1) := by decide +kernel
theorem d_R_reckons_22 : decode b_R_reckons 22 = .ok (.iconst 4, 1) := by decide +kernel
theorem d_R_reckons_23 : decode b_R_reckons 23 = .ok (.irem, 1) := by decide +kernel
theorem d_R_reckons_24 : decode b_R_reckons 24 = .ok (.iaload, 1) := by decide +kernel
theorem d_R_reckons_25 : decode b_R_reckons 25 = .ok (.istore_n 3, 1) := by decide +kernel
theorem d_R_reckons_26 : decode b_R_reckons 26 = .ok (.iload_n 1, 1) := by decide +kernel
theorem d_R_reckons_27 : decode b_R_reckons 27 = .ok (.bipush 16, 2) := by decide +kernel
theorem d_R_reckons_29 : decode b_R_reckons 29 = .ok (.idiv, 1) := by decide +kernel
theorem d_R_reckons_30 : decode b_R_reckons 30 = .ok (.iconst 4, 1) := by decide +kernel
theorem d_R_reckons_31 : decode b_R_reckons 31 = .ok (.irem, 1) := by decide +kernel
theorem d_R_reckons_32 : decode b_R_reckons 32 = .ok (.ifCond .ne 10, 3) := by decide +kernel
theorem d_R_reckons_42 : decode b_R_reckons 42 = .ok (.iload_n 1, 1) := by decide +kernel
theorem d_R_reckons_43 : decode b_R_reckons 43 = .ok (.bipush 16, 2) := by decide +kernel
theorem d_R_reckons_45 : decode b_R_reckons 45 = .ok (.idiv, 1) := by decide +kernel
theorem d_R_reckons_46 : decode b_R_reckons 46 = .ok (.iconst 4, 1) := by decide +kernel
theorem d_R_reckons_47 : decode b_R_reckons 47 = .ok (.irem, 1) := by decide +kernel
theorem d_R_reckons_48 : decode b_R_reckons 48 = .ok (.iconst 1, 1) := by decide +kernel
theorem d_R_reckons_49 : decode b_R_reckons 49 = .ok (.if_icmp .ne 7, 3) := by decide +kernel
theorem d_R_reckons_56 : decode b_R_reckons 56 = .ok (.iload_n 1, 1) := by decide +kernel
theorem d_R_reckons_57 : decode b_R_reckons 57 = .ok (.bipush 16, 2) := by decide +kernel
theorem d_R_reckons_59 : decode b_R_reckons 59 = .ok (.idiv, 1) := by decide +kernel
theorem d_R_reckons_60 : decode b_R_reckons 60 = .ok (.iconst 4, 1) := by decide +kernel
theorem d_R_reckons_61 : decode b_R_reckons 61 = .ok (.irem, 1) := by decide +kernel
theorem d_R_reckons_62 : decode b_R_reckons 62 = .ok (.iconst 2, 1) := by decide +kernel
theorem d_R_reckons_63 : decode b_R_reckons 63 = .ok (.if_icmp .ne 7, 3) := by decide +kernel
theorem d_R_reckons_70 : decode b_R_reckons 70 = .ok (.iconst 1, 1) := by decide +kernel
theorem d_R_reckons_71 : decode b_R_reckons 71 = .ok (.aload_n 0, 1) := by decide +kernel
theorem d_R_reckons_72 : decode b_R_reckons 72 = .ok (.getfield 81, 3) := by decide +kernel
theorem d_R_reckons_75 : decode b_R_reckons 75 = .ok (.isub, 1) := by decide +kernel
theorem d_R_reckons_66 : decode b_R_reckons 66 = .ok (.iconst 1, 1) := by decide +kernel
theorem d_R_reckons_67 : decode b_R_reckons 67 = .ok (.goto 9, 3) := by decide +kernel
theorem d_R_reckons_52 : decode b_R_reckons 52 = .ok (.iconst 0, 1) := by decide +kernel
theorem d_R_reckons_53 : decode b_R_reckons 53 = .ok (.goto 23, 3) := by decide +kernel
theorem d_R_reckons_35 : decode b_R_reckons 35 = .ok (.aload_n 0, 1) := by decide +kernel
theorem d_R_reckons_36 : decode b_R_reckons 36 = .ok (.getfield 81, 3) := by decide +kernel
theorem d_R_reckons_39 : decode b_R_reckons 39 = .ok (.goto 37, 3) := by decide +kernel
theorem d_R_machine_202 : decode b_R_machine 202 = .ok (.iload_n 3, 1) := by decide +kernel
theorem d_R_machine_203 : decode b_R_machine 203 = .ok (.iconst 2, 1) := by decide +kernel
theorem d_R_machine_204 : decode b_R_machine 204 = .ok (.if_icmp .ne 8, 3) := by decide +kernel
theorem d_R_machine_212 : decode b_R_machine 212 = .ok (.iconst 0, 1) := by decide +kernel
theorem d_R_machine_213 : decode b_R_machine 213 = .ok (.ireturn, 1) := by decide +kernel
theorem d_R_machine_207 : decode b_R_machine 207 = .ok (.aload_n 0, 1) := by decide +kernel
theorem d_R_machine_208 : decode b_R_machine 208 = .ok (.iconst 0, 1) := by decide +kernel
theorem d_R_machine_209 : decode b_R_machine 209 = .ok (.putfield 94, 3) := by decide +kernel
theorem d_R_machine_187 : decode b_R_machine 187 = .ok (.iload_n 3, 1) := by decide +kernel
theorem d_R_machine_188 : decode b_R_machine 188 = .ok (.iconst 1, 1) := by decide +kernel
theorem d_R_machine_189 : decode b_R_machine 189 = .ok (.if_icmp .ne 13, 3) := by decide +kernel
theorem d_R_machine_192 : decode b_R_machine 192 = .ok (.aload_n 0, 1) := by decide +kernel
theorem d_R_machine_193 : decode b_R_machine 193 = .ok (.iconst 1, 1) := by decide +kernel
theorem d_R_machine_194 : decode b_R_machine 194 = .ok (.putfield 94, 3) := by decide +kernel
theorem d_R_machine_197 : decode b_R_machine 197 = .ok (.aload_n 0, 1) := by decide +kernel
theorem d_R_machine_198 : decode b_R_machine 198 = .ok (.iconst 1, 1) := by decide +kernel
theorem d_R_machine_199 : decode b_R_machine 199 = .ok (.putfield 113, 3) := by decide +kernel
theorem d_R_machine_101 : decode b_R_machine 101 = .ok (.iload 4, 2) := by decide +kernel
theorem d_R_machine_103 : decode b_R_machine 103 = .ok (.iconst 3, 1) := by decide +kernel
theorem d_R_machine_104 : decode b_R_machine 104 = .ok (.if_icmp .ge 25, 3) := by decide +kernel
theorem d_R_machine_129 : decode b_R_machine 129 = .ok (.aload_n 0, 1) := by decide +kernel
theorem d_R_machine_130 : decode b_R_machine 130 = .ok (.iconst 0, 1) := by decide +kernel
theorem d_R_machine_131 : decode b_R_machine 131 = .ok (.putfield 98, 3) := by decide +kernel
theorem d_R_machine_134 : decode b_R_machine 134 = .ok (.goto 53, 3) := by decide +kernel
theorem d_R_machine_107 : decode b_R_machine 107 = .ok (.aload_n 0, 1) := by decide +kernel
theorem d_R_machine_108 : decode b_R_machine 108 = .ok (.getfield 20, 3) := by decide +kernel
theorem d_R_machine_111 : decode b_R_machine 111 = .ok (.iload 4, 2) := by decide +kernel
theorem d_R_machine_113 : decode b_R_machine 113 = .ok (.iconst 0, 1) := by decide +kernel
theorem d_R_machine_114 : decode b_R_machine 114 = .ok (.bastore, 1) := by decide +kernel
theorem d_R_machine_115 : decode b_R_machine 115 = .ok (.aload_n 0, 1) := by decide +kernel
theorem d_R_machine_116 : decode b_R_machine 116 = .ok (.getfield 24, 3) := by decide +kernel
theorem d_R_machine_119 : decode b_R_machine 119 = .ok (.iload 4, 2) := by decide +kernel
theorem d_R_machine_121 : decode b_R_machine 121 = .ok (.iconst 0, 1) := by decide +kernel
theorem d_R_machine_122 : decode b_R_machine 122 = .ok (.bastore, 1) := by decide +kernel
theorem d_R_machine_123 : decode b_R_machine 123 = .ok (.iinc 4 1, 3) := by decide +kernel
theorem d_R_machine_126 : decode b_R_machine 126 = .ok (.goto (-25), 3) := by decide +kernel
theorem d_R_machine_0 : decode b_R_machine 0 = .ok (.iload_n 1, 1) := by decide +kernel
theorem d_R_machine_1 : decode b_R_machine 1 = .ok (.bipush 64, 2) := by decide +kernel
theorem d_R_machine_3 : decode b_R_machine 3 = .ok (.idiv, 1) := by decide +kernel
theorem d_R_machine_4 : decode b_R_machine 4 = .ok (.iconst 4, 1) := by decide +kernel
theorem d_R_machine_5 : decode b_R_machine 5 = .ok (.irem, 1) := by decide +kernel
theorem d_R_machine_6 : decode b_R_machine 6 = .ok (.istore_n 3, 1) := by decide +kernel
theorem d_R_machine_7 : decode b_R_machine 7 = .ok (.iload_n 1, 1) := by decide +kernel
theorem d_R_machine_8 : decode b_R_machine 8 = .ok (.sipush 256, 3) := by decide +kernel
theorem d_R_machine_11 : decode b_R_machine 11 = .ok (.idiv, 1) := by decide +kernel
theorem d_R_machine_12 : decode b_R_machine 12 = .ok (.bipush 8, 2) := by decide +kernel
theorem d_R_machine_14 : decode b_R_machine 14 = .ok (.irem, 1) := by decide +kernel
theorem d_R_machine_15 : decode b_R_machine 15 = .ok (.tableswitch 172 1 7 #[41, 172, 54, 67, 83, 122, 130], 41) := by decide +kernel
theorem d_R_machine_56 : decode b_R_machine 56 = .ok (.aload_n 0, 1) := by decide +kernel
theorem d_R_machine_57 : decode b_R_machine 57 = .ok (.getfield 14, 3) := by decide +kernel
theorem d_R_machine_60 : decode b_R_machine 60 = .ok (.iload_n 2, 1) := by decide +kernel
theorem d_R_machine_61 : decode b_R_machine 61 = .ok (.aload_n 0, 1) := by decide +kernel
theorem d_R_machine_62 : decode b_R_machine 62 = .ok (.getfield 87, 3) := by decide +kernel
theorem d_R_machine_65 : decode b_R_machine 65 = .ok (.iastore, 1) := by decide +kernel
theorem d_R_machine_66 : decode b_R_machine 66 = .ok (.goto 121, 3) := by decide +kernel
theorem d_R_machine_69 : decode b_R_machine 69 = .ok (.aload_n 0, 1) := by decide +kernel
theorem d_R_machine_70 : decode b_R_machine 70 = .ok (.getfield 14, 3) := by decide +kernel
theorem d_R_machine_73 : decode b_R_machine 73 = .ok (.iload_n 2, 1) := by decide +kernel
theorem d_R_machine_74 : decode b_R_machine 74 = .ok (.aload_n 0, 1) := by decide +kernel
theorem d_R_machine_75 : decode b_R_machine 75 = .ok (.invokevirtual 146, 3) := by decide +kernel
theorem d_R_machine_78 : decode b_R_machine 78 = .ok (.iastore, 1) := by decide +kernel
theorem d_R_machine_79 : decode b_R_machine 79 = .ok (.goto 108, 3) := by decide +kernel
theorem d_R_machine_82 : decode b_R_machine 82 = .ok (.aload_n 0, 1) := by decide +kernel
theorem d_R_machine_83 : decode b_R_machine 83 = .ok (.aload_n 0, 1) := by decide +kernel
theorem d_R_machine_84 : decode b_R_machine 84 = .ok (.getfield 14, 3) := by decide +kernel
theorem d_R_machine_87 : decode b_R_machine 87 = .ok (.iload_n 2, 1) := by decide +kernel
theorem d_R_machine_88 : decode b_R_machine 88 = .ok (.iaload, 1) := by decide +kernel
theorem d_R_machine_89 : decode b_R_machine 89 = .ok (.bipush 8, 2) := by decide +kernel
theorem d_R_machine_91 : decode b_R_machine 91 = .ok (.irem, 1) := by decide +kernel
theorem d_R_machine_92 : decode b_R_machine 92 = .ok (.putfield 98, 3) := by decide +kernel
theorem d_R_machine_95 : decode b_R_machine 95 = .ok (.goto 92, 3) := by decide +kernel
theorem d_R_machine_98 : decode b_R_machine 98 = .ok (.iconst 0, 1) := by decide +kernel
theorem d_R_machine_99 : decode b_R_machine 99 = .ok (.istore 4, 2) := by decide +kernel
theorem d_R_machine_137 : decode b_R_machine 137 = .ok (.aload_n 0, 1) := by decide +kernel
theorem d_R_machine_138 : decode b_R_machine 138 = .ok (.iconst 1, 1) := by decide +kernel
theorem d_R_machine_139 : decode b_R_machine 139 = .ok (.putfield 116, 3) := by decide +kernel
theorem d_R_machine_142 : decode b_R_machine 142 = .ok (.goto 45, 3) := by decide +kernel
theorem d_R_machine_145 : decode b_R_machine 145 = .ok (.iload_n 3, 1) := by decide +kernel
theorem d_R_machine_146 : decode b_R_machine 146 = .ok (.ifCond .ne 10, 3) := by decide +kernel
theorem d_R_machine_156 : decode b_R_machine 156 = .ok (.iload_n 3, 1) := by decide +kernel
theorem d_R_machine_157 : decode b_R_machine 157 = .ok (.iconst 1, 1) := by decide +kernel
theorem d_R_machine_158 : decode b_R_machine 158 = .ok (.if_icmp .ne 18, 3) := by decide +kernel
theorem d_R_machine_176 : decode b_R_machine 176 = .ok (.iload_n 3, 1) := by decide +kernel
theorem d_R_machine_177 : decode b_R_machine 177 = .ok (.iconst 3, 1) := by decide +kernel
theorem d_R_machine_178 : decode b_R_machine 178 = .ok (.if_icmp .ne 7, 3) := by decide +kernel
theorem d_R_machine_185 : decode b_R_machine 185 = .ok (.iconst 0, 1) := by decide +kernel
theorem d_R_machine_186 : decode b_R_machine 186 = .ok (.ireturn, 1) := by decide +kernel
theorem d_R_machine_181 : decode b_R_machine 181 = .ok (.iconst 1, 1) := by decide +kernel
theorem d_R_machine_182 : decode b_R_machine 182 = .ok (.goto 4, 3) := by decide +kernel
theorem d_R_machine_161 : decode b_R_machine 161 = .ok (.aload_n 0, 1) := by decide +kernel
theorem d_R_machine_162 : decode b_R_machine 162 = .ok (.getfield 94, 3) := by decide +kernel
theorem d_R_machine_165 : decode b_R_machine 165 = .ok (.ifCond .ne 7, 3) := by decide +kernel
theorem d_R_machine_172 : decode b_R_machine 172 = .ok (.iconst 0, 1) := by decide +kernel
theorem d_R_machine_173 : decode b_R_machine 173 = .ok (.goto 13, 3) := by decide +kernel
theorem d_R_machine_168 : decode b_R_machine 168 = .ok (.iconst 1, 1) := by decide +kernel
theorem d_R_machine_169 : decode b_R_machine 169 = .ok (.goto 17, 3) := by decide +kernel
theorem d_R_machine_149 : decode b_R_machine 149 = .ok (.aload_n 0, 1) := by decide +kernel
theorem d_R_machine_150 : decode b_R_machine 150 = .ok (.getfield 94, 3) := by decide +kernel
theorem d_R_machine_153 : decode b_R_machine 153 = .ok (.goto 33, 3) := by decide +kernel
theorem d_R_devices_229 : decode b_R_devices 229 = .ok (.bastore, 1) := by decide +kernel
theorem d_R_devices_230 : decode b_R_devices 230 = .ok (.aload_n 0, 1) := by decide +kernel
theorem d_R_devices_231 : decode b_R_devices 231 = .ok (.getfield 24, 3) := by decide +kernel
theorem d_R_devices_234 : decode b_R_devices 234 = .ok (.iload_n 3, 1) := by decide +kernel
theorem d_R_devices_235 : decode b_R_devices 235 = .ok (.bipush 8, 2) := by decide +kernel
theorem d_R_devices_237 : decode b_R_devices 237 = .ok (.isub, 1) := by decide +kernel
theorem d_R_devices_238 : decode b_R_devices 238 = .ok (.iconst 0, 1) := by decide +kernel
theorem d_R_devices_239 : decode b_R_devices 239 = .ok (.bastore, 1) := by decide +kernel
theorem d_R_devices_240 : decode b_R_devices 240 = .ok (.aload_n 0, 1) := by decide +kernel
theorem d_R_devices_241 : decode b_R_devices 241 = .ok (.getfield 27, 3) := by decide +kernel
theorem d_R_devices_244 : decode b_R_devices 244 = .ok (.iload_n 3, 1) := by decide +kernel
theorem d_R_devices_245 : decode b_R_devices 245 = .ok (.bipush 8, 2) := by decide +kernel
theorem d_R_devices_247 : decode b_R_devices 247 = .ok (.isub, 1) := by decide +kernel
theorem d_R_devices_248 : decode b_R_devices 248 = .ok (.iconst 0, 1) := by decide +kernel
theorem d_R_devices_249 : decode b_R_devices 249 = .ok (.iastore, 1) := by decide +kernel
theorem d_R_devices_250 : decode b_R_devices 250 = .ok (.iconst 0, 1) := by decide +kernel
theorem d_R_devices_251 : decode b_R_devices 251 = .ok (.ireturn, 1) := by decide +kernel
theorem d_R_devices_210 : decode b_R_devices 210 = .ok (.aload_n 0, 1) := by decide +kernel
theorem d_R_devices_211 : decode b_R_devices 211 = .ok (.getfield 20, 3) := by decide +kernel
theorem d_R_devices_214 : decode b_R_devices 214 = .ok (.iload_n 3, 1) := by decide +kernel
theorem d_R_devices_215 : decode b_R_devices 215 = .ok (.bipush 8, 2) := by decide +kernel
theorem d_R_devices_217 : decode b_R_devices 217 = .ok (.isub, 1) := by decide +kernel
theorem d_R_devices_218 : decode b_R_devices 218 = .ok (.iload 5, 2) := by decide +kernel
theorem d_R_devices_220 : decode b_R_devices 220 = .ok (.iconst 1, 1) := by decide +kernel
theorem d_R_devices_221 : decode b_R_devices 221 = .ok (.if_icmp .ne 7, 3) := by decide +kernel
theorem d_R_devices_228 : decode b_R_devices 228 = .ok (.iconst 0, 1) := by decide +kernel
theorem d_R_devices_224 : decode b_R_devices 224 = .ok (.iconst 1, 1) := by decide +kernel
theorem d_R_devices_225 : decode b_R_devices 225 = .ok (.goto 4, 3) := by decide +kernel
theorem d_R_devices_193 : decode b_R_devices 193 = .ok (.iload 6, 2) := by decide +kernel
theorem d_R_devices_195 : decode b_R_devices 195 = .ok (.ifCond .eq 55, 3) := by decide +kernel
theorem d_R_devices_198 : decode b_R_devices 198 = .ok (.iload 5, 2) := by decide +kernel
theorem d_R_devices_200 : decode b_R_devices 200 = .ok (.iconst 1, 1) := by decide +kernel
theorem d_R_devices_201 : decode b_R_devices 201 = .ok (.if_icmp .eq 9, 3) := by decide +kernel
theorem d_R_devices_204 : decode b_R_devices 204 = .ok (.iload 5, 2) := by decide +kernel
theorem d_R_devices_206 : decode b_R_devices 206 = .ok (.iconst 2, 1) := by decide +kernel
theorem d_R_devices_207 : decode b_R_devices 207 = .ok (.if_icmp .ne 43, 3) := by decide +kernel
theorem d_R_devices_165 : decode b_R_devices 165 = .ok (.iload 4, 2) := by decide +kernel
theorem d_R_devices_167 : decode b_R_devices 167 = .ok (.iconst 2, 1) := by decide +kernel
theorem d_R_devices_168 : decode b_R_devices 168 = .ok (.if_icmp .ne 25, 3) := by decide +kernel
theorem d_R_devices_171 : decode b_R_devices 171 = .ok (.iload_n 3, 1) := by decide +kernel
theorem d_R_devices_172 : decode b_R_devices 172 = .ok (.bipush 9, 2) := by decide +kernel
theorem d_R_devices_174 : decode b_R_devices 174 = .ok (.if_icmp .ne 19, 3) := by decide +kernel
theorem d_R_devices_177 : decode b_R_devices 177 = .ok (.aload_n 0, 1) := by decide +kernel
theorem d_R_devices_178 : decode b_R_devices 178 = .ok (.getfield 17, 3) := by decide +kernel
theorem d_R_devices_181 : decode b_R_devices 181 = .ok (.iconst 1, 1) := by decide +kernel
theorem d_R_devices_182 : decode b_R_devices 182 = .ok (.aload_n 0, 1) := by decide +kernel
theorem d_R_devices_183 : decode b_R_devices 183 = .ok (.getfield 14, 3) := by decide +kernel
theorem d_R_devices_186 : decode b_R_devices 186 = .ok (.iload_n 2, 1) := by decide +kernel
theorem d_R_devices_187 : decode b_R_devices 187 = .ok (.iaload, 1) := by decide +kernel
theorem d_R_devices_188 : decode b_R_devices 188 = .ok (.sipush 256, 3) := by decide +kernel
theorem d_R_devices_191 : decode b_R_devices 191 = .ok (.irem, 1) := by decide +kernel
theorem d_R_devices_192 : decode b_R_devices 192 = .ok (.iastore, 1) := by decide +kernel
theorem d_R_devices_164 : decode b_R_devices 164 = .ok (.iastore, 1) := by decide +kernel
theorem d_R_devices_118 : decode b_R_devices 118 = .ok (.iload 7, 2) := by decide +kernel
theorem d_R_devices_120 : decode b_R_devices 120 = .ok (.if_icmp .ne 7, 3) := by decide +kernel
theorem d_R_devices_127 : decode b_R_devices 127 = .ok (.iconst 0, 1) := by decide +kernel
theorem d_R_devices_128 : decode b_R_devices 128 = .ok (.ireturn, 1) := by decide +kernel
theorem d_R_devices_123 : decode b_R_devices 123 = .ok (.iconst 1, 1) := by decide +kernel
theorem d_R_devices_124 : decode b_R_devices 124 = .ok (.goto 4, 3) := by decide +kernel
theorem d_R_devices_104 : decode b_R_devices 104 = .ok (.istore 7, 2) := by decide +kernel
theorem d_R_devices_106 : decode b_R_devices 106 = .ok (.iload 5, 2) := by decide +kernel
theorem d_R_devices_108 : decode b_R_devices 108 = .ok (.iconst 2, 1) := by decide +kernel
theorem d_R_devices_109 : decode b_R_devices 109 = .ok (.irem, 1) := by decide +kernel
theorem d_R_devices_110 : decode b_R_devices 110 = .ok (.ifCond .ne 7, 3) := by decide +kernel
theorem d_R_devices_117 : decode b_R_devices 117 = .ok (.iconst 0, 1) := by decide +kernel
theorem d_R_devices_113 : decode b_R_devices 113 = .ok (.iconst 1, 1) := by decide +kernel
theorem d_R_devices_114 : decode b_R_devices 114 = .ok (.goto 4, 3) := by decide +kernel
theorem d_R_devices_0 : decode b_R_devices 0 = .ok (.iload_n 1, 1) := by decide +kernel
theorem d_R_devices_1 : decode b_R_devices 1 = .ok (.sipush 2048, 3) := by decide +kernel
theorem d_R_devices_4 : decode b_R_devices 4 = .ok (.idiv, 1) := by decide +kernel
theorem d_R_devices_5 : decode b_R_devices 5 = .ok (.iconst 4, 1) := by decide +kernel
theorem d_R_devices_6 : decode b_R_devices 6 = .ok (.irem, 1) := by decide +kernel
theorem d_R_devices_7 : decode b_R_devices 7 = .ok (.istore_n 2, 1) := by decide +kernel
theorem d_R_devices_8 : decode b_R_devices 8 = .ok (.iload_n 1, 1) := by decide +kernel
theorem d_R_devices_9 : decode b_R_devices 9 = .ok (.bipush 64, 2) := by decide +kernel
theorem d_R_devices_11 : decode b_R_devices 11 = .ok (.irem, 1) := by decide +kernel
theorem d_R_devices_12 : decode b_R_devices 12 = .ok (.istore_n 3, 1) := by decide +kernel
theorem d_R_devices_13 : decode b_R_devices 13 = .ok (.iload_n 3, 1) := by decide +kernel
theorem d_R_devices_14 : decode b_R_devices 14 = .ok (.bipush 63, 2) := by decide +kernel
theorem d_R_devices_16 : decode b_R_devices 16 = .ok (.if_icmp .ne 10, 3) := by decide +kernel
theorem d_R_devices_26 : decode b_R_devices 26 = .ok (.iload_n 1, 1) := by decide +kernel
theorem d_R_devices_27 : decode b_R_devices 27 = .ok (.sipush 256, 3) := by decide +kernel
theorem d_R_devices_30 : decode b_R_devices 30 = .ok (.idiv, 1) := by decide +kernel
theorem d_R_devices_31 : decode b_R_devices 31 = .ok (.bipush 8, 2) := by decide +kernel
theorem d_R_devices_33 : decode b_R_devices 33 = .ok (.irem, 1) := by decide +kernel
theorem d_R_devices_34 : decode b_R_devices 34 = .ok (.istore 4, 2) := by decide +kernel
theorem d_R_devices_36 : decode b_R_devices 36 = .ok (.iload_n 1, 1) := by decide +kernel
theorem d_R_devices_37 : decode b_R_devices 37 = .ok (.bipush 64, 2) := by decide +kernel
theorem d_R_devices_39 : decode b_R_devices 39 = .ok (.idiv, 1) := by decide +kernel
theorem d_R_devices_40 : decode b_R_devices 40 = .ok (.iconst 4, 1) := by decide +kernel
theorem d_R_devices_41 : decode b_R_devices 41 = .ok (.irem, 1) := by decide +kernel
theorem d_R_devices_42 : decode b_R_devices 42 = .ok (.istore 5, 2) := by decide +kernel
theorem d_R_devices_44 : decode b_R_devices 44 = .ok (.iload_n 3, 1) := by decide +kernel
theorem d_R_devices_45 : decode b_R_devices 45 = .ok (.bipush 8, 2) := by decide +kernel
theorem d_R_devices_47 : decode b_R_devices 47 = .ok (.bipush 10, 2) := by decide +kernel
theorem d_R_devices_49 : decode b_R_devices 49 = .ok (.invokestatic 72, 3) := by decide +kernel
theorem d_R_devices_52 : decode b_R_devices 52 = .ok (.istore 6, 2) := by decide +kernel
theorem d_R_devices_54 : decode b_R_devices 54 = .ok (.iload 4, 2) := by decide +kernel
theorem d_R_devices_56 : decode b_R_devices 56 = .ok (.bipush 7, 2) := by decide +kernel
theorem d_R_devices_58 : decode b_R_devices 58 = .ok (.if_icmp .ne 71, 3) := by decide +kernel
theorem d_R_devices_129 : decode b_R_devices 129 = .ok (.iload 4, 2) := by decide +kernel
theorem d_R_devices_131 : decode b_R_devices 131 = .ok (.iconst 2, 1) := by decide +kernel
theorem d_R_devices_132 : decode b_R_devices 132 = .ok (.irem, 1) := by decide +kernel
theorem d_R_devices_133 : decode b_R_devices 133 = .ok (.iconst 1, 1) := by decide +kernel
theorem d_R_devices_134 : decode b_R_devices 134 = .ok (.if_icmp .ne 31, 3) := by decide +kernel
theorem d_R_devices_137 : decode b_R_devices 137 = .ok (.aload_n 0, 1) := by decide +kernel
theorem d_R_devices_138 : decode b_R_devices 138 = .ok (.getfield 14, 3) := by decide +kernel
theorem d_R_devices_141 : decode b_R_devices 141 = .ok (.iload_n 2, 1) := by decide +kernel
theorem d_R_devices_142 : decode b_R_devices 142 = .ok (.iload_n 3, 1) := by decide +kernel
theorem d_R_devices_143 : decode b_R_devices 143 = .ok (.bipush 8, 2) := by decide +kernel
theorem d_R_devices_145 : decode b_R_devices 145 = .ok (.if_icmp .ne 18, 3) := by decide +kernel
theorem d_R_devices_163 : decode b_R_devices 163 = .ok (.iconst 0, 1) := by decide +kernel
theorem d_R_devices_148 : decode b_R_devices 148 = .ok (.iload 4, 2) := by decide +kernel
theorem d_R_devices_150 : decode b_R_devices 150 = .ok (.iconst 1, 1) := by decide +kernel
theorem d_R_devices_151 : decode b_R_devices 151 = .ok (.if_icmp .ne 12, 3) := by decide +kernel
theorem d_R_devices_154 : decode b_R_devices 154 = .ok (.aload_n 0, 1) := by decide +kernel
theorem d_R_devices_155 : decode b_R_devices 155 = .ok (.getfield 17, 3) := by decide +kernel
theorem d_R_devices_158 : decode b_R_devices 158 = .ok (.iconst 0, 1) := by decide +kernel
theorem d_R_devices_159 : decode b_R_devices 159 = .ok (.iaload, 1) := by decide +kernel
theorem d_R_devices_160 : decode b_R_devices 160 = .ok (.goto 4, 3) := by decide +kernel
theorem d_R_devices_61 : decode b_R_devices 61 = .ok (.iload 6, 2) := by decide +kernel
theorem d_R_devices_63 : decode b_R_devices 63 = .ok (.ifCond .eq 40, 3) := by decide +kernel
theorem d_R_devices_103 : decode b_R_devices 103 = .ok (.iconst 0, 1) := by decide +kernel
theorem d_R_devices_66 : decode b_R_devices 66 = .ok (.iload 5, 2) := by decide +kernel
theorem d_R_devices_68 : decode b_R_devices 68 = .ok (.iconst 2, 1) := by decide +kernel
theorem d_R_devices_69 : decode b_R_devices 69 = .ok (.if_icmp .ge 18, 3) := by decide +kernel
theorem d_R_devices_87 : decode b_R_devices 87 = .ok (.aload_n 0, 1) := by decide +kernel
theorem d_R_devices_88 : decode b_R_devices 88 = .ok (.getfield 24, 3) := by decide +kernel
theorem d_R_devices_91 : decode b_R_devices 91 = .ok (.iload_n 3, 1) := by decide +kernel
theorem d_R_devices_92 : decode b_R_devices 92 = .ok (.bipush 8, 2) := by decide +kernel
theorem d_R_devices_94 : decode b_R_devices 94 = .ok (.isub, 1) := by decide +kernel
theorem d_R_devices_95 : decode b_R_devices 95 = .ok (.baload, 1) := by decide +kernel
theorem d_R_devices_96 : decode b_R_devices 96 = .ok (.ifCond .eq 7, 3) := by decide +kernel
theorem d_R_devices_99 : decode b_R_devices 99 = .ok (.iconst 1, 1) := by decide +kernel
theorem d_R_devices_100 : decode b_R_devices 100 = .ok (.goto 4, 3) := by decide +kernel
theorem d_R_devices_72 : decode b_R_devices 72 = .ok (.aload_n 0, 1) := by decide +kernel
theorem d_R_devices_73 : decode b_R_devices 73 = .ok (.getfield 20, 3) := by decide +kernel
theorem d_R_devices_76 : decode b_R_devices 76 = .ok (.iload_n 3, 1) := by decide +kernel
theorem d_R_devices_77 : decode b_R_devices 77 = .ok (.bipush 8, 2) := by decide +kernel
theorem d_R_devices_79 : decode b_R_devices 79 = .ok (.isub, 1) := by decide +kernel
theorem d_R_devices_80 : decode b_R_devices 80 = .ok (.baload, 1) := by decide +kernel
theorem d_R_devices_81 : decode b_R_devices 81 = .ok (.ifCond .eq 22, 3) := by decide +kernel
theorem d_R_devices_84 : decode b_R_devices 84 = .ok (.goto 15, 3) := by decide +kernel
theorem d_R_devices_19 : decode b_R_devices 19 = .ok (.aload_n 0, 1) := by decide +kernel
theorem d_R_devices_20 : decode b_R_devices 20 = .ok (.iload_n 1, 1) := by decide +kernel
theorem d_R_devices_21 : decode b_R_devices 21 = .ok (.iload_n 2, 1) := by decide +kernel
theorem d_R_devices_22 : decode b_R_devices 22 = .ok (.invokevirtual 150, 3) := by decide +kernel
theorem d_R_devices_25 : decode b_R_devices 25 = .ok (.ireturn, 1) := by decide +kernel
theorem d_R_tick_173 : decode b_R_tick 173 = .ok (.iinc 1 1, 3) := by decide +kernel
theorem d_R_tick_176 : decode b_R_tick 176 = .ok (.goto (-174), 3) := by decide +kernel
theorem d_R_tick_159 : decode b_R_tick 159 = .ok (.aload_n 0, 1) := by decide +kernel
theorem d_R_tick_160 : decode b_R_tick 160 = .ok (.getfield 20, 3) := by decide +kernel
theorem d_R_tick_163 : decode b_R_tick 163 = .ok (.iload_n 1, 1) := by decide +kernel
theorem d_R_tick_164 : decode b_R_tick 164 = .ok (.iconst 0, 1) := by decide +kernel
theorem d_R_tick_165 : decode b_R_tick 165 = .ok (.bastore, 1) := by decide +kernel
theorem d_R_tick_166 : decode b_R_tick 166 = .ok (.aload_n 0, 1) := by decide +kernel
theorem d_R_tick_167 : decode b_R_tick 167 = .ok (.getfield 24, 3) := by decide +kernel
theorem d_R_tick_170 : decode b_R_tick 170 = .ok (.iload_n 1, 1) := by decide +kernel
theorem d_R_tick_171 : decode b_R_tick 171 = .ok (.iconst 1, 1) := by decide +kernel
theorem d_R_tick_172 : decode b_R_tick 172 = .ok (.bastore, 1) := by decide +kernel
theorem d_R_tick_149 : decode b_R_tick 149 = .ok (.aload_n 0, 1) := by decide +kernel
theorem d_R_tick_150 : decode b_R_tick 150 = .ok (.dup, 1) := by decide +kernel
theorem d_R_tick_151 : decode b_R_tick 151 = .ok (.getfield 110, 3) := by decide +kernel
theorem d_R_tick_154 : decode b_R_tick 154 = .ok (.iconst 1, 1) := by decide +kernel
theorem d_R_tick_155 : decode b_R_tick 155 = .ok (.iadd, 1) := by decide +kernel
theorem d_R_tick_156 : decode b_R_tick 156 = .ok (.putfield 110, 3) := by decide +kernel
theorem d_R_tick_119 : decode b_R_tick 119 = .ok (.iload_n 1, 1) := by decide +kernel
theorem d_R_tick_120 : decode b_R_tick 120 = .ok (.iconst 1, 1) := by decide +kernel
theorem d_R_tick_121 : decode b_R_tick 121 = .ok (.if_icmp .ne 38, 3) := by decide +kernel
theorem d_R_tick_124 : decode b_R_tick 124 = .ok (.aload_n 0, 1) := by decide +kernel
theorem d_R_tick_125 : decode b_R_tick 125 = .ok (.getfield 110, 3) := by decide +kernel
theorem d_R_tick_128 : decode b_R_tick 128 = .ok (.sipush 1000, 3) := by decide +kernel
theorem d_R_tick_131 : decode b_R_tick 131 = .ok (.if_icmp .ge 18, 3) := by decide +kernel
theorem d_R_tick_134 : decode b_R_tick 134 = .ok (.aload_n 0, 1) := by decide +kernel
theorem d_R_tick_135 : decode b_R_tick 135 = .ok (.getfield 33, 3) := by decide +kernel
theorem d_R_tick_138 : decode b_R_tick 138 = .ok (.aload_n 0, 1) := by decide +kernel
theorem d_R_tick_139 : decode b_R_tick 139 = .ok (.getfield 110, 3) := by decide +kernel
theorem d_R_tick_142 : decode b_R_tick 142 = .ok (.aload_n 0, 1) := by decide +kernel
theorem d_R_tick_143 : decode b_R_tick 143 = .ok (.getfield 17, 3) := by decide +kernel
theorem d_R_tick_146 : decode b_R_tick 146 = .ok (.iconst 1, 1) := by decide +kernel
theorem d_R_tick_147 : decode b_R_tick 147 = .ok (.iaload, 1) := by decide +kernel
theorem d_R_tick_148 : decode b_R_tick 148 = .ok (.iastore, 1) := by decide +kernel
theorem d_R_tick_91 : decode b_R_tick 91 = .ok (.iload_n 2, 1) := by decide +kernel
theorem d_R_tick_92 : decode b_R_tick 92 = .ok (.aload_n 0, 1) := by decide +kernel
theorem d_R_tick_93 : decode b_R_tick 93 = .ok (.getfield 107, 3) := by decide +kernel
theorem d_R_tick_96 : decode b_R_tick 96 = .ok (.if_icmp .ge 23, 3) := by decide +kernel
theorem d_R_tick_99 : decode b_R_tick 99 = .ok (.aload_n 0, 1) := by decide +kernel
theorem d_R_tick_100 : decode b_R_tick 100 = .ok (.getfield 30, 3) := by decide +kernel
theorem d_R_tick_103 : decode b_R_tick 103 = .ok (.iload_n 2, 1) := by decide +kernel
theorem d_R_tick_104 : decode b_R_tick 104 = .ok (.aload_n 0, 1) := by decide +kernel
theorem d_R_tick_105 : decode b_R_tick 105 = .ok (.getfield 30, 3) := by decide +kernel
theorem d_R_tick_108 : decode b_R_tick 108 = .ok (.iload_n 2, 1) := by decide +kernel
theorem d_R_tick_109 : decode b_R_tick 109 = .ok (.iconst 1, 1) := by decide +kernel
theorem d_R_tick_110 : decode b_R_tick 110 = .ok (.iadd, 1) := by decide +kernel
theorem d_R_tick_111 : decode b_R_tick 111 = .ok (.iaload, 1) := by decide +kernel
theorem d_R_tick_112 : decode b_R_tick 112 = .ok (.iastore, 1) := by decide +kernel
theorem d_R_tick_113 : decode b_R_tick 113 = .ok (.iinc 2 1, 3) := by decide +kernel
theorem d_R_tick_116 : decode b_R_tick 116 = .ok (.goto (-25), 3) := by decide +kernel
theorem d_R_tick_63 : decode b_R_tick 63 = .ok (.iload_n 1, 1) := by decide +kernel
theorem d_R_tick_64 : decode b_R_tick 64 = .ok (.ifCond .ne 55, 3) := by decide +kernel
theorem d_R_tick_67 : decode b_R_tick 67 = .ok (.aload_n 0, 1) := by decide +kernel
theorem d_R_tick_68 : decode b_R_tick 68 = .ok (.getfield 17, 3) := by decide +kernel
theorem d_R_tick_71 : decode b_R_tick 71 = .ok (.iconst 0, 1) := by decide +kernel
theorem d_R_tick_72 : decode b_R_tick 72 = .ok (.aload_n 0, 1) := by decide +kernel
theorem d_R_tick_73 : decode b_R_tick 73 = .ok (.getfield 30, 3) := by decide +kernel
theorem d_R_tick_76 : decode b_R_tick 76 = .ok (.iconst 0, 1) := by decide +kernel
theorem d_R_tick_77 : decode b_R_tick 77 = .ok (.iaload, 1) := by decide +kernel
theorem d_R_tick_78 : decode b_R_tick 78 = .ok (.iastore, 1) := by decide +kernel
theorem d_R_tick_79 : decode b_R_tick 79 = .ok (.aload_n 0, 1) := by decide +kernel
theorem d_R_tick_80 : decode b_R_tick 80 = .ok (.dup, 1) := by decide +kernel
theorem d_R_tick_81 : decode b_R_tick 81 = .ok (.getfield 107, 3) := by decide +kernel
theorem d_R_tick_84 : decode b_R_tick 84 = .ok (.iconst 1, 1) := by decide +kernel
theorem d_R_tick_85 : decode b_R_tick 85 = .ok (.isub, 1) := by decide +kernel
theorem d_R_tick_86 : decode b_R_tick 86 = .ok (.putfield 107, 3) := by decide +kernel
theorem d_R_tick_89 : decode b_R_tick 89 = .ok (.iconst 0, 1) := by decide +kernel
theorem d_R_tick_90 : decode b_R_tick 90 = .ok (.istore_n 2, 1) := by decide +kernel
theorem d_R_tick_46 : decode b_R_tick 46 = .ok (.if_icmp .lt 127, 3) := by decide +kernel
theorem d_R_tick_49 : decode b_R_tick 49 = .ok (.iload_n 1, 1) := by decide +kernel
theorem d_R_tick_50 : decode b_R_tick 50 = .ok (.ifCond .ne 13, 3) := by decide +kernel
theorem d_R_tick_53 : decode b_R_tick 53 = .ok (.aload_n 0, 1) := by decide +kernel
theorem d_R_tick_54 : decode b_R_tick 54 = .ok (.getfield 107, 3) := by decide +kernel
theorem d_R_tick_57 : decode b_R_tick 57 = .ok (.ifCond .ne 6, 3) := by decide +kernel
theorem d_R_tick_60 : decode b_R_tick 60 = .ok (.goto 113, 3) := by decide +kernel
theorem d_R_tick_2 : decode b_R_tick 2 = .ok (.iload_n 1, 1) := by decide +kernel
theorem d_R_tick_3 : decode b_R_tick 3 = .ok (.iconst 3, 1) := by decide +kernel
theorem d_R_tick_4 : decode b_R_tick 4 = .ok (.if_icmp .ge 175, 3) := by decide +kernel
theorem d_R_tick_179 : decode b_R_tick 179 = .ok (.return_, 1) := by decide +kernel
theorem d_R_tick_7 : decode b_R_tick 7 = .ok (.aload_n 0, 1) := by decide +kernel
theorem d_R_tick_8 : decode b_R_tick 8 = .ok (.getfield 20, 3) := by decide +kernel
theorem d_R_tick_11 : decode b_R_tick 11 = .ok (.iload_n 1, 1) := by decide +kernel
theorem d_R_tick_12 : decode b_R_tick 12 = .ok (.baload, 1) := by decide +kernel
theorem d_R_tick_13 : decode b_R_tick 13 = .ok (.ifCond .ne 6, 3) := by decide +kernel
theorem d_R_tick_19 : decode b_R_tick 19 = .ok (.aload_n 0, 1) := by decide +kernel
theorem d_R_tick_20 : decode b_R_tick 20 = .ok (.getfield 27, 3) := by decide +kernel
theorem d_R_tick_23 : decode b_R_tick 23 = .ok (.iload_n 1, 1) := by decide +kernel
theorem d_R_tick_24 : decode b_R_tick 24 = .ok (.dup2, 1) := by decide +kernel
theorem d_R_tick_25 : decode b_R_tick 25 = .ok (.iaload, 1) := by decide +kernel
theorem d_R_tick_26 : decode b_R_tick 26 = .ok (.iconst 1, 1) := by decide +kernel
theorem d_R_tick_27 : decode b_R_tick 27 = .ok (.iadd, 1) := by decide +kernel
theorem d_R_tick_28 : decode b_R_tick 28 = .ok (.iastore, 1) := by decide +kernel
theorem d_R_tick_29 : decode b_R_tick 29 = .ok (.aload_n 0, 1) := by decide +kernel
theorem d_R_tick_30 : decode b_R_tick 30 = .ok (.getfield 27, 3) := by decide +kernel
theorem d_R_tick_33 : decode b_R_tick 33 = .ok (.iload_n 1, 1) := by decide +kernel
theorem d_R_tick_34 : decode b_R_tick 34 = .ok (.iaload, 1) := by decide +kernel
theorem d_R_tick_35 : decode b_R_tick 35 = .ok (.iload_n 1, 1) := by decide +kernel
theorem d_R_tick_36 : decode b_R_tick 36 = .ok (.iconst 2, 1) := by decide +kernel
theorem d_R_tick_37 : decode b_R_tick 37 = .ok (.if_icmp .ne 8, 3) := by decide +kernel
theorem d_R_tick_45 : decode b_R_tick 45 = .ok (.iconst 4, 1) := by decide +kernel
theorem d_R_tick_40 : decode b_R_tick 40 = .ok (.bipush 20, 2) := by decide +kernel
theorem d_R_tick_42 : decode b_R_tick 42 = .ok (.goto 4, 3) := by decide +kernel
theorem d_R_tick_16 : decode b_R_tick 16 = .ok (.goto 157, 3) := by decide +kernel
theorem d_R_tick_0 : decode b_R_tick 0 = .ok (.iconst 0, 1) := by decide +kernel
theorem d_R_tick_1 : decode b_R_tick 1 = .ok (.istore_n 1, 1) := by decide +kernel
theorem d_R_step_316 : decode b_R_step 316 = .ok (.putfield 84, 3) := by decide +kernel
theorem d_R_step_319 : decode b_R_step 319 = .ok (.aload_n 0, 1) := by decide +kernel
theorem d_R_step_320 : decode b_R_step 320 = .ok (.invokevirtual 163, 3) := by decide +kernel
theorem d_R_step_323 : decode b_R_step 323 = .ok (.aload_n 0, 1) := by decide +kernel
theorem d_R_step_324 : decode b_R_step 324 = .ok (.dup, 1) := by decide +kernel
theorem d_R_step_325 : decode b_R_step 325 = .ok (.getfield 101, 3) := by decide +kernel
theorem d_R_step_328 : decode b_R_step 328 = .ok (.iconst 1, 1) := by decide +kernel
theorem d_R_step_329 : decode b_R_step 329 = .ok (.iadd, 1) := by decide +kernel
theorem d_R_step_330 : decode b_R_step 330 = .ok (.putfield 101, 3) := by decide +kernel
theorem d_R_step_333 : decode b_R_step 333 = .ok (.iconst 1, 1) := by decide +kernel
theorem d_R_step_334 : decode b_R_step 334 = .ok (.ireturn, 1) := by decide +kernel
theorem d_R_step_300 : decode b_R_step 300 = .ok (.aload_n 0, 1) := by decide +kernel
theorem d_R_step_301 : decode b_R_step 301 = .ok (.iload 4, 2) := by decide +kernel
theorem d_R_step_303 : decode b_R_step 303 = .ok (.ifCond .eq 12, 3) := by decide +kernel
theorem d_R_step_315 : decode b_R_step 315 = .ok (.iload_n 3, 1) := by decide +kernel
theorem d_R_step_306 : decode b_R_step 306 = .ok (.iload_n 3, 1) := by decide +kernel
theorem d_R_step_307 : decode b_R_step 307 = .ok (.iconst 1, 1) := by decide +kernel
theorem d_R_step_308 : decode b_R_step 308 = .ok (.iadd, 1) := by decide +kernel
theorem d_R_step_309 : decode b_R_step 309 = .ok (.ldc 7, 2) := by decide +kernel
theorem d_R_step_311 : decode b_R_step 311 = .ok (.irem, 1) := by decide +kernel
theorem d_R_step_312 : decode b_R_step 312 = .ok (.goto 4, 3) := by decide +kernel
theorem d_R_step_298 : decode b_R_step 298 = .ok (.istore 4, 2) := by decide +kernel
theorem d_R_step_278 : decode b_R_step 278 = .ok (.iadd, 1) := by decide +kernel
theorem d_R_step_279 : decode b_R_step 279 = .ok (.ldc 134, 2) := by decide +kernel
theorem d_R_step_281 : decode b_R_step 281 = .ok (.irem, 1) := by decide +kernel
theorem d_R_step_282 : decode b_R_step 282 = .ok (.iastore, 1) := by decide +kernel
theorem d_R_step_283 : decode b_R_step 283 = .ok (.aload_n 0, 1) := by decide +kernel
theorem d_R_step_284 : decode b_R_step 284 = .ok (.getfield 8, 3) := by decide +kernel
theorem d_R_step_287 : decode b_R_step 287 = .ok (.iload 6, 2) := by decide +kernel
theorem d_R_step_289 : decode b_R_step 289 = .ok (.iaload, 1) := by decide +kernel
theorem d_R_step_290 : decode b_R_step 290 = .ok (.ifCond .ne 7, 3) := by decide +kernel
theorem d_R_step_297 : decode b_R_step 297 = .ok (.iconst 0, 1) := by decide +kernel
theorem d_R_step_293 : decode b_R_step 293 = .ok (.iconst 1, 1) := by decide +kernel
theorem d_R_step_294 : decode b_R_step 294 = .ok (.goto 4, 3) := by decide +kernel
theorem d_R_step_247 : decode b_R_step 247 = .ok (.iload 6, 2) := by decide +kernel
theorem d_R_step_249 : decode b_R_step 249 = .ok (.istore_n 3, 1) := by decide +kernel
theorem d_R_step_250 : decode b_R_step 250 = .ok (.goto 50, 3) := by decide +kernel
theorem d_R_step_76 : decode b_R_step 76 = .ok (.aload_n 0, 1) := by decide +kernel
theorem d_R_step_77 : decode b_R_step 77 = .ok (.getfield 8, 3) := by decide +kernel
theorem d_R_step_80 : decode b_R_step 80 = .ok (.aload_n 0, 1) := by decide +kernel
theorem d_R_step_81 : decode b_R_step 81 = .ok (.getfield 84, 3) := by decide +kernel
theorem d_R_step_84 : decode b_R_step 84 = .ok (.iaload, 1) := by decide +kernel
theorem d_R_step_85 : decode b_R_step 85 = .ok (.istore_n 2, 1) := by decide +kernel
theorem d_R_step_86 : decode b_R_step 86 = .ok (.aload_n 0, 1) := by decide +kernel
theorem d_R_step_87 : decode b_R_step 87 = .ok (.getfield 84, 3) := by decide +kernel
theorem d_R_step_90 : decode b_R_step 90 = .ok (.iconst 1, 1) := by decide +kernel
theorem d_R_step_91 : decode b_R_step 91 = .ok (.iadd, 1) := by decide +kernel
theorem d_R_step_92 : decode b_R_step 92 = .ok (.ldc 7, 2) := by decide +kernel
theorem d_R_step_94 : decode b_R_step 94 = .ok (.irem, 1) := by decide +kernel
theorem d_R_step_95 : decode b_R_step 95 = .ok (.istore_n 3, 1) := by decide +kernel
theorem d_R_step_96 : decode b_R_step 96 = .ok (.iconst 0, 1) := by decide +kernel
theorem d_R_step_97 : decode b_R_step 97 = .ok (.istore 4, 2) := by decide +kernel
theorem d_R_step_99 : decode b_R_step 99 = .ok (.aload_n 0, 1) := by decide +kernel
theorem d_R_step_100 : decode b_R_step 100 = .ok (.getfield 113, 3) := by decide +kernel
theorem d_R_step_103 : decode b_R_step 103 = .ok (.istore 5, 2) := by decide +kernel
theorem d_R_step_105 : decode b_R_step 105 = .ok (.aload_n 0, 1) := by decide +kernel
theorem d_R_step_106 : decode b_R_step 106 = .ok (.iconst 0, 1) := by decide +kernel
theorem d_R_step_107 : decode b_R_step 107 = .ok (.putfield 113, 3) := by decide +kernel
theorem d_R_step_110 : decode b_R_step 110 = .ok (.iload_n 2, 1) := by decide +kernel
theorem d_R_step_111 : decode b_R_step 111 = .ok (.ldc 7, 2) := by decide +kernel
theorem d_R_step_113 : decode b_R_step 113 = .ok (.if_icmp .lt 13, 3) := by decide +kernel
theorem d_R_step_126 : decode b_R_step 126 = .ok (.iload_n 2, 1) := by decide +kernel
theorem d_R_step_127 : decode b_R_step 127 = .ok (.sipush 8192, 3) := by decide +kernel
theorem d_R_step_130 : decode b_R_step 130 = .ok (.idiv, 1) := by decide +kernel
theorem d_R_step_131 : decode b_R_step 131 = .ok (.iconst 3, 1) := by decide +kernel
theorem d_R_step_132 : decode b_R_step 132 = .ok (.if_icmp .ne 13, 3) := by decide +kernel
theorem d_R_step_145 : decode b_R_step 145 = .ok (.aload_n 0, 1) := by decide +kernel
theorem d_R_step_146 : decode b_R_step 146 = .ok (.iload_n 2, 1) := by decide +kernel
theorem d_R_step_147 : decode b_R_step 147 = .ok (.invokevirtual 160, 3) := by decide +kernel
theorem d_R_step_150 : decode b_R_step 150 = .ok (.istore 6, 2) := by decide +kernel
theorem d_R_step_152 : decode b_R_step 152 = .ok (.aload_n 0, 1) := by decide +kernel
theorem d_R_step_153 : decode b_R_step 153 = .ok (.getfield 135, 3) := by decide +kernel
theorem d_R_step_156 : decode b_R_step 156 = .ok (.ifCond .eq 11, 3) := by decide +kernel
theorem d_R_step_167 : decode b_R_step 167 = .ok (.iload_n 2, 1) := by decide +kernel
theorem d_R_step_168 : decode b_R_step 168 = .ok (.sipush 2048, 3) := by decide +kernel
theorem d_R_step_171 : decode b_R_step 171 = .ok (.idiv, 1) := by decide +kernel
theorem d_R_step_172 : decode b_R_step 172 = .ok (.iconst 4, 1) := by decide +kernel
theorem d_R_step_173 : decode b_R_step 173 = .ok (.irem, 1) := by decide +kernel
theorem d_R_step_174 : decode b_R_step 174 = .ok (.istore 7, 2) := by decide +kernel
theorem d_R_step_176 : decode b_R_step 176 = .ok (.iload_n 2, 1) := by decide +kernel
theorem d_R_step_177 : decode b_R_step 177 = .ok (.sipush 8192, 3) := by decide +kernel
theorem d_R_step_180 : decode b_R_step 180 = .ok (.idiv, 1) := by decide +kernel
theorem d_R_step_181 : decode b_R_step 181 = .ok (.iconst 1, 1) := by decide +kernel
theorem d_R_step_182 : decode b_R_step 182 = .ok (.if_icmp .ne 20, 3) := by decide +kernel
theorem d_R_step_202 : decode b_R_step 202 = .ok (.iload_n 2, 1) := by decide +kernel
theorem d_R_step_203 : decode b_R_step 203 = .ok (.sipush 8192, 3) := by decide +kernel
theorem d_R_step_206 : decode b_R_step 206 = .ok (.idiv, 1) := by decide +kernel
theorem d_R_step_207 : decode b_R_step 207 = .ok (.iconst 2, 1) := by decide +kernel
theorem d_R_step_208 : decode b_R_step 208 = .ok (.if_icmp .ne 20, 3) := by decide +kernel
theorem d_R_step_228 : decode b_R_step 228 = .ok (.iload 7, 2) := by decide +kernel
theorem d_R_step_230 : decode b_R_step 230 = .ok (.iconst 2, 1) := by decide +kernel
theorem d_R_step_231 : decode b_R_step 231 = .ok (.if_icmp .ge 22, 3) := by decide +kernel
theorem d_R_step_253 : decode b_R_step 253 = .ok (.aload_n 0, 1) := by decide +kernel
theorem d_R_step_254 : decode b_R_step 254 = .ok (.getfield 8, 3) := by decide +kernel
theorem d_R_step_257 : decode b_R_step 257 = .ok (.iload 6, 2) := by decide +kernel
theorem d_R_step_259 : decode b_R_step 259 = .ok (.aload_n 0, 1) := by decide +kernel
theorem d_R_step_260 : decode b_R_step 260 = .ok (.getfield 8, 3) := by decide +kernel
theorem d_R_step_263 : decode b_R_step 263 = .ok (.iload 6, 2) := by decide +kernel
theorem d_R_step_265 : decode b_R_step 265 = .ok (.iaload, 1) := by decide +kernel
theorem d_R_step_266 : decode b_R_step 266 = .ok (.iload 7, 2) := by decide +kernel
theorem d_R_step_268 : decode b_R_step 268 = .ok (.iconst 2, 1) := by decide +kernel
theorem d_R_step_269 : decode b_R_step 269 = .ok (.if_icmp .ne 7, 3) := by decide +kernel
theorem d_R_step_276 : decode b_R_step 276 = .ok (.ldc 76, 2) := by decide +kernel
theorem d_R_step_272 : decode b_R_step 272 = .ok (.iconst 1, 1) := by decide +kernel
theorem d_R_step_273 : decode b_R_step 273 = .ok (.goto 5, 3) := by decide +kernel
theorem d_R_step_234 : decode b_R_step 234 = .ok (.iload 7, 2) := by decide +kernel
theorem d_R_step_236 : decode b_R_step 236 = .ok (.iconst 1, 1) := by decide +kernel
theorem d_R_step_237 : decode b_R_step 237 = .ok (.if_icmp .ne 10, 3) := by decide +kernel
theorem d_R_step_240 : decode b_R_step 240 = .ok (.aload_n 0, 1) := by decide +kernel
theorem d_R_step_241 : decode b_R_step 241 = .ok (.getfield 14, 3) := by decide +kernel
theorem d_R_step_244 : decode b_R_step 244 = .ok (.iconst 3, 1) := by decide +kernel
theorem d_R_step_245 : decode b_R_step 245 = .ok (.iload_n 3, 1) := by decide +kernel
theorem d_R_step_246 : decode b_R_step 246 = .ok (.iastore, 1) := by decide +kernel
theorem d_R_step_211 : decode b_R_step 211 = .ok (.aload_n 0, 1) := by decide +kernel
theorem d_R_step_212 : decode b_R_step 212 = .ok (.getfield 8, 3) := by decide +kernel
theorem d_R_step_215 : decode b_R_step 215 = .ok (.iload 6, 2) := by decide +kernel
theorem d_R_step_217 : decode b_R_step 217 = .ok (.aload_n 0, 1) := by decide +kernel
theorem d_R_step_218 : decode b_R_step 218 = .ok (.getfield 14, 3) := by decide +kernel
theorem d_R_step_221 : decode b_R_step 221 = .ok (.iload 7, 2) := by decide +kernel
theorem d_R_step_223 : decode b_R_step 223 = .ok (.iaload, 1) := by decide +kernel
theorem d_R_step_224 : decode b_R_step 224 = .ok (.iastore, 1) := by decide +kernel
theorem d_R_step_225 : decode b_R_step 225 = .ok (.goto 75, 3) := by decide +kernel
theorem d_R_step_185 : decode b_R_step 185 = .ok (.aload_n 0, 1) := by decide +kernel
theorem d_R_step_186 : decode b_R_step 186 = .ok (.getfield 14, 3) := by decide +kernel
theorem d_R_step_189 : decode b_R_step 189 = .ok (.iload 7, 2) := by decide +kernel
theorem d_R_step_191 : decode b_R_step 191 = .ok (.aload_n 0, 1) := by decide +kernel
theorem d_R_step_192 : decode b_R_step 192 = .ok (.getfield 8, 3) := by decide +kernel
theorem d_R_step_195 : decode b_R_step 195 = .ok (.iload 6, 2) := by decide +kernel
theorem d_R_step_197 : decode b_R_step 197 = .ok (.iaload, 1) := by decide +kernel
theorem d_R_step_198 : decode b_R_step 198 = .ok (.iastore, 1) := by decide +kernel
theorem d_R_step_199 : decode b_R_step 199 = .ok (.goto 101, 3) := by decide +kernel
theorem d_R_step_159 : decode b_R_step 159 = .ok (.aload_n 0, 1) := by decide +kernel
theorem d_R_step_160 : decode b_R_step 160 = .ok (.iload 5, 2) := by decide +kernel
theorem d_R_step_162 : decode b_R_step 162 = .ok (.putfield 113, 3) := by decide +kernel
theorem d_R_step_165 : decode b_R_step 165 = .ok (.iconst 0, 1) := by decide +kernel
theorem d_R_step_166 : decode b_R_step 166 = .ok (.ireturn, 1) := by decide +kernel
theorem d_R_step_135 : decode b_R_step 135 = .ok (.aload_n 0, 1) := by decide +kernel
theorem d_R_step_136 : decode b_R_step 136 = .ok (.iload_n 2, 1) := by decide +kernel
theorem d_R_step_137 : decode b_R_step 137 = .ok (.invokevirtual 157, 3) := by decide +kernel
theorem d_R_step_140 : decode b_R_step 140 = .ok (.istore 4, 2) := by decide +kernel
theorem d_R_step_142 : decode b_R_step 142 = .ok (.goto 158, 3) := by decide +kernel
theorem d_R_step_116 : decode b_R_step 116 = .ok (.aload_n 0, 1) := by decide +kernel
theorem d_R_step_117 : decode b_R_step 117 = .ok (.iload_n 2, 1) := by decide +kernel
theorem d_R_step_118 : decode b_R_step 118 = .ok (.invokevirtual 154, 3) := by decide +kernel
theorem d_R_step_121 : decode b_R_step 121 = .ok (.istore 4, 2) := by decide +kernel
theorem d_R_step_123 : decode b_R_step 123 = .ok (.goto 177, 3) := by decide +kernel
theorem d_R_step_26 : decode b_R_step 26 = .ok (.istore_n 1, 1) := by decide +kernel
theorem d_R_step_27 : decode b_R_step 27 = .ok (.iload_n 1, 1) := by decide +kernel
theorem d_R_step_28 : decode b_R_step 28 = .ok (.ifCond .eq 48, 3) := by decide +kernel
theorem d_R_step_31 : decode b_R_step 31 = .ok (.aload_n 0, 1) := by decide +kernel
theorem d_R_step_32 : decode b_R_step 32 = .ok (.dup, 1) := by decide +kernel
theorem d_R_step_33 : decode b_R_step 33 = .ok (.getfield 104, 3) := by decide +kernel
theorem d_R_step_36 : decode b_R_step 36 = .ok (.iconst 1, 1) := by decide +kernel
theorem d_R_step_37 : decode b_R_step 37 = .ok (.iadd, 1) := by decide +kernel
theorem d_R_step_38 : decode b_R_step 38 = .ok (.putfield 104, 3) := by decide +kernel
theorem d_R_step_41 : decode b_R_step 41 = .ok (.aload_n 0, 1) := by decide +kernel
theorem d_R_step_42 : decode b_R_step 42 = .ok (.getfield 8, 3) := by decide +kernel
theorem d_R_step_45 : decode b_R_step 45 = .ok (.iconst 0, 1) := by decide +kernel
theorem d_R_step_46 : decode b_R_step 46 = .ok (.aload_n 0, 1) := by decide +kernel
theorem d_R_step_47 : decode b_R_step 47 = .ok (.getfield 84, 3) := by decide +kernel
theorem d_R_step_50 : decode b_R_step 50 = .ok (.iastore, 1) := by decide +kernel
theorem d_R_step_51 : decode b_R_step 51 = .ok (.aload_n 0, 1) := by decide +kernel
theorem d_R_step_52 : decode b_R_step 52 = .ok (.iconst 0, 1) := by decide +kernel
theorem d_R_step_53 : decode b_R_step 53 = .ok (.putfield 94, 3) := by decide +kernel
theorem d_R_step_56 : decode b_R_step 56 = .ok (.aload_n 0, 1) := by decide +kernel
theorem d_R_step_57 : decode b_R_step 57 = .ok (.iconst 1, 1) := by decide +kernel
theorem d_R_step_58 : decode b_R_step 58 = .ok (.invokevirtual 139, 3) := by decide +kernel
theorem d_R_step_61 : decode b_R_step 61 = .ok (.istore_n 2, 1) := by decide +kernel
theorem d_R_step_62 : decode b_R_step 62 = .ok (.aload_n 0, 1) := by decide +kernel
theorem d_R_step_63 : decode b_R_step 63 = .ok (.getfield 135, 3) := by decide +kernel
theorem d_R_step_66 : decode b_R_step 66 = .ok (.ifCond .eq 5, 3) := by decide +kernel
theorem d_R_step_71 : decode b_R_step 71 = .ok (.aload_n 0, 1) := by decide +kernel
theorem d_R_step_72 : decode b_R_step 72 = .ok (.iload_n 2, 1) := by decide +kernel
theorem d_R_step_73 : decode b_R_step 73 = .ok (.putfield 84, 3) := by decide +kernel
theorem d_R_step_69 : decode b_R_step 69 = .ok (.iconst 0, 1) := by decide +kernel
theorem d_R_step_70 : decode b_R_step 70 = .ok (.ireturn, 1) := by decide +kernel
theorem d_R_step_0 : decode b_R_step 0 = .ok (.aload_n 0, 1) := by decide +kernel
theorem d_R_step_1 : decode b_R_step 1 = .ok (.getfield 94, 3) := by decide +kernel
theorem d_R_step_4 : decode b_R_step 4 = .ok (.ifCond .eq 21, 3) := by decide +kernel
theorem d_R_step_25 : decode b_R_step 25 = .ok (.iconst 0, 1) := by decide +kernel
theorem d_R_step_7 : decode b_R_step 7 = .ok (.aload_n 0, 1) := by decide +kernel
theorem d_R_step_8 : decode b_R_step 8 = .ok (.getfield 113, 3) := by decide +kernel
theorem d_R_step_11 : decode b_R_step 11 = .ok (.ifCond .ne 14, 3) := by decide +kernel
theorem d_R_step_14 : decode b_R_step 14 = .ok (.aload_n 0, 1) := by decide +kernel
theorem d_R_step_15 : decode b_R_step 15 = .ok (.invokevirtual 146, 3) := by decide +kernel
theorem d_R_step_18 : decode b_R_step 18 = .ok (.ifCond .le 7, 3) := by decide +kernel
theorem d_R_step_21 : decode b_R_step 21 = .ok (.iconst 1, 1) := by decide +kernel
theorem d_R_step_22 : decode b_R_step 22 = .ok (.goto 4, 3) := by decide +kernel
theorem d_R_run_38 : decode b_R_run 38 = .ok (.iload_n 2, 1) := by decide +kernel
theorem d_R_run_39 : decode b_R_run 39 = .ok (.iload_n 1, 1) := by decide +kernel
theorem d_R_run_40 : decode b_R_run 40 = .ok (.if_icmp .ge 31, 3) := by decide +kernel
theorem d_R_run_71 : decode b_R_run 71 = .ok (.iload_n 2, 1) := by decide +kernel
theorem d_R_run_72 : decode b_R_run 72 = .ok (.ireturn, 1) := by decide +kernel
theorem d_R_run_43 : decode b_R_run 43 = .ok (.aload_n 0, 1) := by decide +kernel
theorem d_R_run_44 : decode b_R_run 44 = .ok (.getfield 116, 3) := by decide +kernel
theorem d_R_run_47 : decode b_R_run 47 = .ok (.ifCond .ne 24, 3) := by decide +kernel
theorem d_R_run_50 : decode b_R_run 50 = .ok (.aload_n 0, 1) := by decide +kernel
theorem d_R_run_51 : decode b_R_run 51 = .ok (.invokevirtual 166, 3) := by decide +kernel
theorem d_R_run_54 : decode b_R_run 54 = .ok (.ifCond .eq 9, 3) := by decide +kernel
theorem d_R_run_63 : decode b_R_run 63 = .ok (.aload_n 0, 1) := by decide +kernel
theorem d_R_run_64 : decode b_R_run 64 = .ok (.iconst 2, 1) := by decide +kernel
theorem d_R_run_65 : decode b_R_run 65 = .ok (.putfield 116, 3) := by decide +kernel
theorem d_R_run_68 : decode b_R_run 68 = .ok (.goto (-30), 3) := by decide +kernel
theorem d_R_run_57 : decode b_R_run 57 = .ok (.iinc 2 1, 3) := by decide +kernel
theorem d_R_run_60 : decode b_R_run 60 = .ok (.goto (-22), 3) := by decide +kernel
theorem d_R_run_17 : decode b_R_run 17 = .ok (.iconst 1, 1) := by decide +kernel
theorem d_R_run_18 : decode b_R_run 18 = .ok (.invokevirtual 77, 3) := by decide +kernel
theorem d_R_run_21 : decode b_R_run 21 = .ok (.ifCond .eq 5, 3) := by decide +kernel
theorem d_R_run_26 : decode b_R_run 26 = .ok (.aload_n 0, 1) := by decide +kernel
theorem d_R_run_27 : decode b_R_run 27 = .ok (.iconst 0, 1) := by decide +kernel
theorem d_R_run_28 : decode b_R_run 28 = .ok (.putfield 116, 3) := by decide +kernel
theorem d_R_run_31 : decode b_R_run 31 = .ok (.aload_n 0, 1) := by decide +kernel
theorem d_R_run_32 : decode b_R_run 32 = .ok (.iconst 0, 1) := by decide +kernel
theorem d_R_run_33 : decode b_R_run 33 = .ok (.putfield 135, 3) := by decide +kernel
theorem d_R_run_36 : decode b_R_run 36 = .ok (.iconst 0, 1) := by decide +kernel
theorem d_R_run_37 : decode b_R_run 37 = .ok (.istore_n 2, 1) := by decide +kernel
theorem d_R_run_24 : decode b_R_run 24 = .ok (.iconst 0, 1) := by decide +kernel
theorem d_R_run_25 : decode b_R_run 25 = .ok (.ireturn, 1) := by decide +kernel
theorem d_R_run_0 : decode b_R_run 0 = .ok (.aload_n 0, 1) := by decide +kernel
theorem d_R_run_1 : decode b_R_run 1 = .ok (.iload_n 1, 1) := by decide +kernel
theorem d_R_run_2 : decode b_R_run 2 = .ok (.iconst 1, 1) := by decide +kernel
theorem d_R_run_3 : decode b_R_run 3 = .ok (.sipush 5000, 3) := by decide +kernel
theorem d_R_run_6 : decode b_R_run 6 = .ok (.invokestatic 72, 3) := by decide +kernel
theorem d_R_run_9 : decode b_R_run 9 = .ok (.ifCond .ne 7, 3) := by decide +kernel
theorem d_R_run_16 : decode b_R_run 16 = .ok (.iconst 0, 1) := by decide +kernel
theorem d_R_run_12 : decode b_R_run 12 = .ok (.iconst 1, 1) := by decide +kernel
theorem d_R_run_13 : decode b_R_run 13 = .ok (.goto 4, 3) := by decide +kernel
theorem d_R_why_0 : decode b_R_why 0 = .ok (.aload_n 0, 1) := by decide +kernel
theorem d_R_why_1 : decode b_R_why 1 = .ok (.iconst 0, 1) := by decide +kernel
theorem d_R_why_2 : decode b_R_why 2 = .ok (.putfield 68, 3) := by decide +kernel
theorem d_R_why_5 : decode b_R_why 5 = .ok (.aload_n 0, 1) := by decide +kernel
theorem d_R_why_6 : decode b_R_why 6 = .ok (.getfield 116, 3) := by decide +kernel
theorem d_R_why_9 : decode b_R_why 9 = .ok (.ireturn, 1) := by decide +kernel
theorem d_R_feed_84 : decode b_R_feed 84 = .ok (.istore 7, 2) := by decide +kernel
theorem d_R_feed_86 : decode b_R_feed 86 = .ok (.aload_n 0, 1) := by decide +kernel
theorem d_R_feed_87 : decode b_R_feed 87 = .ok (.getfield 36, 3) := by decide +kernel
theorem d_R_feed_90 : decode b_R_feed 90 = .ok (.aload_n 0, 1) := by decide +kernel
theorem d_R_feed_91 : decode b_R_feed 91 = .ok (.getfield 119, 3) := by decide +kernel
theorem d_R_feed_94 : decode b_R_feed 94 = .ok (.iload 6, 2) := by decide +kernel
theorem d_R_feed_96 : decode b_R_feed 96 = .ok (.iadd, 1) := by decide +kernel
theorem d_R_feed_97 : decode b_R_feed 97 = .ok (.iload 7, 2) := by decide +kernel
theorem d_R_feed_99 : decode b_R_feed 99 = .ok (.bipush 24, 2) := by decide +kernel
theorem d_R_feed_101 : decode b_R_feed 101 = .ok (.bipush 8, 2) := by decide +kernel
theorem d_R_feed_103 : decode b_R_feed 103 = .ok (.iload 6, 2) := by decide +kernel
theorem d_R_feed_105 : decode b_R_feed 105 = .ok (.iconst 4, 1) := by decide +kernel
theorem d_R_feed_106 : decode b_R_feed 106 = .ok (.irem, 1) := by decide +kernel
theorem d_R_feed_107 : decode b_R_feed 107 = .ok (.imul, 1) := by decide +kernel
theorem d_R_feed_108 : decode b_R_feed 108 = .ok (.isub, 1) := by decide +kernel
theorem d_R_feed_109 : decode b_R_feed 109 = .ok (.ishr, 1) := by decide +kernel
theorem d_R_feed_110 : decode b_R_feed 110 = .ok (.i2b, 1) := by decide +kernel
theorem d_R_feed_111 : decode b_R_feed 111 = .ok (.bastore, 1) := by decide +kernel
theorem d_R_feed_112 : decode b_R_feed 112 = .ok (.iinc 6 1, 3) := by decide +kernel
theorem d_R_feed_115 : decode b_R_feed 115 = .ok (.goto (-84), 3) := by decide +kernel
theorem d_R_feed_31 : decode b_R_feed 31 = .ok (.iload 6, 2) := by decide +kernel
theorem d_R_feed_33 : decode b_R_feed 33 = .ok (.bipush 20, 2) := by decide +kernel
theorem d_R_feed_35 : decode b_R_feed 35 = .ok (.if_icmp .ge 83, 3) := by decide +kernel
theorem d_R_feed_118 : decode b_R_feed 118 = .ok (.aload_n 0, 1) := by decide +kernel
theorem d_R_feed_119 : decode b_R_feed 119 = .ok (.dup, 1) := by decide +kernel
theorem d_R_feed_120 : decode b_R_feed 120 = .ok (.getfield 119, 3) := by decide +kernel
theorem d_R_feed_123 : decode b_R_feed 123 = .ok (.bipush 20, 2) := by decide +kernel
theorem d_R_feed_125 : decode b_R_feed 125 = .ok (.iadd, 1) := by decide +kernel
theorem d_R_feed_126 : decode b_R_feed 126 = .ok (.putfield 119, 3) := by decide +kernel
theorem d_R_feed_129 : decode b_R_feed 129 = .ok (.aload_n 0, 1) := by decide +kernel
theorem d_R_feed_130 : decode b_R_feed 130 = .ok (.getfield 119, 3) := by decide +kernel
theorem d_R_feed_133 : decode b_R_feed 133 = .ok (.ireturn, 1) := by decide +kernel
theorem d_R_feed_38 : decode b_R_feed 38 = .ok (.iload 6, 2) := by decide +kernel
theorem d_R_feed_40 : decode b_R_feed 40 = .ok (.iconst 4, 1) := by decide +kernel
theorem d_R_feed_41 : decode b_R_feed 41 = .ok (.if_icmp .ge 7, 3) := by decide +kernel
theorem d_R_feed_48 : decode b_R_feed 48 = .ok (.iload 6, 2) := by decide +kernel
theorem d_R_feed_50 : decode b_R_feed 50 = .ok (.bipush 8, 2) := by decide +kernel
theorem d_R_feed_52 : decode b_R_feed 52 = .ok (.if_icmp .ge 7, 3) := by decide +kernel
theorem d_R_feed_59 : decode b_R_feed 59 = .ok (.iload 6, 2) := by decide +kernel
theorem d_R_feed_61 : decode b_R_feed 61 = .ok (.bipush 12, 2) := by decide +kernel
theorem d_R_feed_63 : decode b_R_feed 63 = .ok (.if_icmp .ge 7, 3) := by decide +kernel
theorem d_R_feed_70 : decode b_R_feed 70 = .ok (.iload 6, 2) := by decide +kernel
theorem d_R_feed_72 : decode b_R_feed 72 = .ok (.bipush 16, 2) := by decide +kernel
theorem d_R_feed_74 : decode b_R_feed 74 = .ok (.if_icmp .ge 8, 3) := by decide +kernel
theorem d_R_feed_82 : decode b_R_feed 82 = .ok (.iload 5, 2) := by decide +kernel
theorem d_R_feed_77 : decode b_R_feed 77 = .ok (.iload 4, 2) := by decide +kernel
theorem d_R_feed_79 : decode b_R_feed 79 = .ok (.goto 5, 3) := by decide +kernel
theorem d_R_feed_66 : decode b_R_feed 66 = .ok (.iload_n 3, 1) := by decide +kernel
theorem d_R_feed_67 : decode b_R_feed 67 = .ok (.goto 17, 3) := by decide +kernel
theorem d_R_feed_55 : decode b_R_feed 55 = .ok (.iload_n 2, 1) := by decide +kernel
theorem d_R_feed_56 : decode b_R_feed 56 = .ok (.goto 28, 3) := by decide +kernel
theorem d_R_feed_44 : decode b_R_feed 44 = .ok (.iload_n 1, 1) := by decide +kernel
theorem d_R_feed_45 : decode b_R_feed 45 = .ok (.goto 39, 3) := by decide +kernel
theorem d_R_feed_19 : decode b_R_feed 19 = .ok (.iconst 1, 1) := by decide +kernel
theorem d_R_feed_20 : decode b_R_feed 20 = .ok (.invokevirtual 77, 3) := by decide +kernel
theorem d_R_feed_23 : decode b_R_feed 23 = .ok (.ifCond .eq 5, 3) := by decide +kernel
theorem d_R_feed_28 : decode b_R_feed 28 = .ok (.iconst 0, 1) := by decide +kernel
theorem d_R_feed_29 : decode b_R_feed 29 = .ok (.istore 6, 2) := by decide +kernel
theorem d_R_feed_26 : decode b_R_feed 26 = .ok (.iconst 0, 1) := by decide +kernel
theorem d_R_feed_27 : decode b_R_feed 27 = .ok (.ireturn, 1) := by decide +kernel
theorem d_R_feed_0 : decode b_R_feed 0 = .ok (.aload_n 0, 1) := by decide +kernel
theorem d_R_feed_1 : decode b_R_feed 1 = .ok (.aload_n 0, 1) := by decide +kernel
theorem d_R_feed_2 : decode b_R_feed 2 = .ok (.getfield 119, 3) := by decide +kernel
theorem d_R_feed_5 : decode b_R_feed 5 = .ok (.bipush 20, 2) := by decide +kernel
theorem d_R_feed_7 : decode b_R_feed 7 = .ok (.iadd, 1) := by decide +kernel
theorem d_R_feed_8 : decode b_R_feed 8 = .ok (.sipush 6000, 3) := by decide +kernel
theorem d_R_feed_11 : decode b_R_feed 11 = .ok (.if_icmp .le 7, 3) := by decide +kernel
theorem d_R_feed_18 : decode b_R_feed 18 = .ok (.iconst 0, 1) := by decide +kernel
theorem d_R_feed_14 : decode b_R_feed 14 = .ok (.iconst 1, 1) := by decide +kernel
theorem d_R_feed_15 : decode b_R_feed 15 = .ok (.goto 4, 3) := by decide +kernel
theorem d_R_end_18 : decode b_R_end 18 = .ok (.iconst 1, 1) := by decide +kernel
theorem d_R_end_19 : decode b_R_end 19 = .ok (.invokevirtual 77, 3) := by decide +kernel
theorem d_R_end_22 : decode b_R_end 22 = .ok (.ifCond .eq 4, 3) := by decide +kernel
theorem d_R_end_26 : decode b_R_end 26 = .ok (.aload_n 0, 1) := by decide +kernel
theorem d_R_end_27 : decode b_R_end 27 = .ok (.iload_n 1, 1) := by decide +kernel
theorem d_R_end_28 : decode b_R_end 28 = .ok (.putfield 119, 3) := by decide +kernel
theorem d_R_end_31 : decode b_R_end 31 = .ok (.return_, 1) := by decide +kernel
theorem d_R_end_25 : decode b_R_end 25 = .ok (.return_, 1) := by decide +kernel
theorem d_R_end_0 : decode b_R_end 0 = .ok (.aload_n 0, 1) := by decide +kernel
theorem d_R_end_1 : decode b_R_end 1 = .ok (.iload_n 1, 1) := by decide +kernel
theorem d_R_end_2 : decode b_R_end 2 = .ok (.ifCond .lt 11, 3) := by decide +kernel
theorem d_R_end_13 : decode b_R_end 13 = .ok (.iconst 1, 1) := by decide +kernel
theorem d_R_end_14 : decode b_R_end 14 = .ok (.goto 4, 3) := by decide +kernel
theorem d_R_end_5 : decode b_R_end 5 = .ok (.iload_n 1, 1) := by decide +kernel
theorem d_R_end_6 : decode b_R_end 6 = .ok (.aload_n 0, 1) := by decide +kernel
theorem d_R_end_7 : decode b_R_end 7 = .ok (.getfield 119, 3) := by decide +kernel
theorem d_R_end_10 : decode b_R_end 10 = .ok (.if_icmp .le 7, 3) := by decide +kernel
theorem d_R_end_17 : decode b_R_end 17 = .ok (.iconst 0, 1) := by decide +kernel
theorem d_R_stop_0 : decode b_R_stop 0 = .ok (.aload_n 0, 1) := by decide +kernel
theorem d_R_stop_1 : decode b_R_stop 1 = .ok (.getfield 122, 3) := by decide +kernel
theorem d_R_stop_4 : decode b_R_stop 4 = .ok (.ifCond .ne 16, 3) := by decide +kernel
theorem d_R_stop_20 : decode b_R_stop 20 = .ok (.iconst 0, 1) := by decide +kernel
theorem d_R_stop_21 : decode b_R_stop 21 = .ok (.ireturn, 1) := by decide +kernel
theorem d_R_stop_7 : decode b_R_stop 7 = .ok (.aload_n 0, 1) := by decide +kernel
theorem d_R_stop_8 : decode b_R_stop 8 = .ok (.iload_n 1, 1) := by decide +kernel
theorem d_R_stop_9 : decode b_R_stop 9 = .ok (.putfield 122, 3) := by decide +kernel
theorem d_R_stop_12 : decode b_R_stop 12 = .ok (.aload_n 0, 1) := by decide +kernel
theorem d_R_stop_13 : decode b_R_stop 13 = .ok (.aload_n 0, 1) := by decide +kernel
theorem d_R_stop_14 : decode b_R_stop 14 = .ok (.getfield 170, 3) := by decide +kernel
theorem d_R_stop_17 : decode b_R_stop 17 = .ok (.putfield 125, 3) := by decide +kernel
theorem d_R_isLetter_12 : decode b_R_isLetter 12 = .ok (.iload_n 0, 1) := by decide +kernel
theorem d_R_isLetter_13 : decode b_R_isLetter 13 = .ok (.bipush 46, 2) := by decide +kernel
theorem d_R_isLetter_15 : decode b_R_isLetter 15 = .ok (.if_icmp .ne 7, 3) := by decide +kernel
theorem d_R_isLetter_22 : decode b_R_isLetter 22 = .ok (.iconst 0, 1) := by decide +kernel
theorem d_R_isLetter_23 : decode b_R_isLetter 23 = .ok (.ireturn, 1) := by decide +kernel
theorem d_R_isLetter_18 : decode b_R_isLetter 18 = .ok (.iconst 1, 1) := by decide +kernel
theorem d_R_isLetter_19 : decode b_R_isLetter 19 = .ok (.goto 4, 3) := by decide +kernel
theorem d_R_isLetter_0 : decode b_R_isLetter 0 = .ok (.iload_n 0, 1) := by decide +kernel
theorem d_R_isLetter_1 : decode b_R_isLetter 1 = .ok (.bipush 65, 2) := by decide +kernel
theorem d_R_isLetter_3 : decode b_R_isLetter 3 = .ok (.if_icmp .lt 9, 3) := by decide +kernel
theorem d_R_isLetter_6 : decode b_R_isLetter 6 = .ok (.iload_n 0, 1) := by decide +kernel
theorem d_R_isLetter_7 : decode b_R_isLetter 7 = .ok (.bipush 90, 2) := by decide +kernel
theorem d_R_isLetter_9 : decode b_R_isLetter 9 = .ok (.if_icmp .le 9, 3) := by decide +kernel
theorem d_R_isDigit_0 : decode b_R_isDigit 0 = .ok (.iload_n 0, 1) := by decide +kernel
theorem d_R_isDigit_1 : decode b_R_isDigit 1 = .ok (.bipush 48, 2) := by decide +kernel
theorem d_R_isDigit_3 : decode b_R_isDigit 3 = .ok (.if_icmp .lt 13, 3) := by decide +kernel
theorem d_R_isDigit_16 : decode b_R_isDigit 16 = .ok (.iconst 0, 1) := by decide +kernel
theorem d_R_isDigit_17 : decode b_R_isDigit 17 = .ok (.ireturn, 1) := by decide +kernel
theorem d_R_isDigit_6 : decode b_R_isDigit 6 = .ok (.iload_n 0, 1) := by decide +kernel
theorem d_R_isDigit_7 : decode b_R_isDigit 7 = .ok (.bipush 57, 2) := by decide +kernel
theorem d_R_isDigit_9 : decode b_R_isDigit 9 = .ok (.if_icmp .gt 7, 3) := by decide +kernel
theorem d_R_isDigit_12 : decode b_R_isDigit 12 = .ok (.iconst 1, 1) := by decide +kernel
theorem d_R_isDigit_13 : decode b_R_isDigit 13 = .ok (.goto 4, 3) := by decide +kernel
theorem d_R_next_396 : decode b_R_next 396 = .ok (.istore_n 3, 1) := by decide +kernel
theorem d_R_next_397 : decode b_R_next 397 = .ok (.iload_n 3, 1) := by decide +kernel
theorem d_R_next_398 : decode b_R_next 398 = .ok (.ifCond .ne 11, 3) := by decide +kernel
theorem d_R_next_409 : decode b_R_next 409 = .ok (.iconst 1, 1) := by decide +kernel
theorem d_R_next_410 : decode b_R_next 410 = .ok (.goto 4, 3) := by decide +kernel
theorem d_R_next_414 : decode b_R_next 414 = .ok (.ireturn, 1) := by decide +kernel
theorem d_R_next_401 : decode b_R_next 401 = .ok (.aload_n 0, 1) := by decide +kernel
theorem d_R_next_402 : decode b_R_next 402 = .ok (.iconst 1, 1) := by decide +kernel
theorem d_R_next_403 : decode b_R_next 403 = .ok (.invokevirtual 191, 3) := by decide +kernel
theorem d_R_next_406 : decode b_R_next 406 = .ok (.ifCond .eq 7, 3) := by decide +kernel
theorem d_R_next_413 : decode b_R_next 413 = .ok (.iconst 0, 1) := by decide +kernel
theorem d_R_next_356 : decode b_R_next 356 = .ok (.aload_n 0, 1) := by decide +kernel
theorem d_R_next_357 : decode b_R_next 357 = .ok (.getfield 179, 3) := by decide +kernel
theorem d_R_next_360 : decode b_R_next 360 = .ok (.iconst 1, 1) := by decide +kernel
theorem d_R_next_361 : decode b_R_next 361 = .ok (.if_icmp .ne 17, 3) := by decide +kernel
theorem d_R_next_378 : decode b_R_next 378 = .ok (.iload_n 3, 1) := by decide +kernel
theorem d_R_next_379 : decode b_R_next 379 = .ok (.ifCond .eq 16, 3) := by decide +kernel
theorem d_R_next_395 : decode b_R_next 395 = .ok (.iconst 0, 1) := by decide +kernel
theorem d_R_next_382 : decode b_R_next 382 = .ok (.aload_n 0, 1) := by decide +kernel
theorem d_R_next_383 : decode b_R_next 383 = .ok (.getfield 188, 3) := by decide +kernel
theorem d_R_next_386 : decode b_R_next 386 = .ok (.ldc 134, 2) := by decide +kernel
theorem d_R_next_388 : decode b_R_next 388 = .ok (.if_icmp .ge 7, 3) := by decide +kernel
theorem d_R_next_391 : decode b_R_next 391 = .ok (.iconst 1, 1) := by decide +kernel
theorem d_R_next_392 : decode b_R_next 392 = .ok (.goto 4, 3) := by decide +kernel
theorem d_R_next_364 : decode b_R_next 364 = .ok (.iload_n 2, 1) := by decide +kernel
theorem d_R_next_365 : decode b_R_next 365 = .ok (.bipush 7, 2) := by decide +kernel
theorem d_R_next_367 : decode b_R_next 367 = .ok (.if_icmp .ge 7, 3) := by decide +kernel
theorem d_R_next_374 : decode b_R_next 374 = .ok (.iconst 0, 1) := by decide +kernel
theorem d_R_next_375 : decode b_R_next 375 = .ok (.goto 21, 3) := by decide +kernel
theorem d_R_next_370 : decode b_R_next 370 = .ok (.iconst 1, 1) := by decide +kernel
theorem d_R_next_371 : decode b_R_next 371 = .ok (.goto 25, 3) := by decide +kernel
theorem d_R_next_343 : decode b_R_next 343 = .ok (.aload_n 0, 1) := by decide +kernel
theorem d_R_next_344 : decode b_R_next 344 = .ok (.dup, 1) := by decide +kernel
theorem d_R_next_345 : decode b_R_next 345 = .ok (.getfield 173, 3) := by decide +kernel
theorem d_R_next_348 : decode b_R_next 348 = .ok (.iconst 1, 1) := by decide +kernel
theorem d_R_next_349 : decode b_R_next 349 = .ok (.iadd, 1) := by decide +kernel
theorem d_R_next_350 : decode b_R_next 350 = .ok (.putfield 173, 3) := by decide +kernel
theorem d_R_next_353 : decode b_R_next 353 = .ok (.goto (-150), 3) := by decide +kernel
theorem d_R_next_340 : decode b_R_next 340 = .ok (.putfield 188, 3) := by decide +kernel
theorem d_R_next_306 : decode b_R_next 306 = .ok (.istore_n 3, 1) := by decide +kernel
theorem d_R_next_307 : decode b_R_next 307 = .ok (.aload_n 0, 1) := by decide +kernel
theorem d_R_next_308 : decode b_R_next 308 = .ok (.iload_n 3, 1) := by decide +kernel
theorem d_R_next_309 : decode b_R_next 309 = .ok (.ifCond .eq 27, 3) := by decide +kernel
theorem d_R_next_336 : decode b_R_next 336 = .ok (.aload_n 0, 1) := by decide +kernel
theorem d_R_next_337 : decode b_R_next 337 = .ok (.getfield 188, 3) := by decide +kernel
theorem d_R_next_312 : decode b_R_next 312 = .ok (.aload_n 0, 1) := by decide +kernel
theorem d_R_next_313 : decode b_R_next 313 = .ok (.getfield 188, 3) := by decide +kernel
theorem d_R_next_316 : decode b_R_next 316 = .ok (.ldc 134, 2) := by decide +kernel
theorem d_R_next_318 : decode b_R_next 318 = .ok (.if_icmp .ge 18, 3) := by decide +kernel
theorem d_R_next_321 : decode b_R_next 321 = .ok (.bipush 8, 2) := by decide +kernel
theorem d_R_next_323 : decode b_R_next 323 = .ok (.aload_n 0, 1) := by decide +kernel
theorem d_R_next_324 : decode b_R_next 324 = .ok (.getfield 188, 3) := by decide +kernel
theorem d_R_next_327 : decode b_R_next 327 = .ok (.imul, 1) := by decide +kernel
theorem d_R_next_328 : decode b_R_next 328 = .ok (.iload_n 1, 1) := by decide +kernel
theorem d_R_next_329 : decode b_R_next 329 = .ok (.iadd, 1) := by decide +kernel
theorem d_R_next_330 : decode b_R_next 330 = .ok (.bipush 48, 2) := by decide +kernel
theorem d_R_next_332 : decode b_R_next 332 = .ok (.isub, 1) := by decide +kernel
theorem d_R_next_333 : decode b_R_next 333 = .ok (.goto 7, 3) := by decide +kernel
theorem d_R_next_277 : decode b_R_next 277 = .ok (.aload_n 0, 1) := by decide +kernel
theorem d_R_next_278 : decode b_R_next 278 = .ok (.getfield 179, 3) := by decide +kernel
theorem d_R_next_281 : decode b_R_next 281 = .ok (.iconst 2, 1) := by decide +kernel
theorem d_R_next_282 : decode b_R_next 282 = .ok (.if_icmp .ne 61, 3) := by decide +kernel
theorem d_R_next_285 : decode b_R_next 285 = .ok (.iload_n 3, 1) := by decide +kernel
theorem d_R_next_286 : decode b_R_next 286 = .ok (.ifCond .eq 19, 3) := by decide +kernel
theorem d_R_next_305 : decode b_R_next 305 = .ok (.iconst 0, 1) := by decide +kernel
theorem d_R_next_289 : decode b_R_next 289 = .ok (.iload_n 1, 1) := by decide +kernel
theorem d_R_next_290 : decode b_R_next 290 = .ok (.bipush 48, 2) := by decide +kernel
theorem d_R_next_292 : decode b_R_next 292 = .ok (.if_icmp .lt 13, 3) := by decide +kernel
theorem d_R_next_295 : decode b_R_next 295 = .ok (.iload_n 1, 1) := by decide +kernel
theorem d_R_next_296 : decode b_R_next 296 = .ok (.bipush 55, 2) := by decide +kernel
theorem d_R_next_298 : decode b_R_next 298 = .ok (.if_icmp .gt 7, 3) := by decide +kernel
theorem d_R_next_301 : decode b_R_next 301 = .ok (.iconst 1, 1) := by decide +kernel
theorem d_R_next_302 : decode b_R_next 302 = .ok (.goto 4, 3) := by decide +kernel
theorem d_R_next_244 : decode b_R_next 244 = .ok (.aload_n 0, 1) := by decide +kernel
theorem d_R_next_245 : decode b_R_next 245 = .ok (.getfield 36, 3) := by decide +kernel
theorem d_R_next_248 : decode b_R_next 248 = .ok (.aload_n 0, 1) := by decide +kernel
theorem d_R_next_249 : decode b_R_next 249 = .ok (.getfield 173, 3) := by decide +kernel
theorem d_R_next_252 : decode b_R_next 252 = .ok (.baload, 1) := by decide +kernel
theorem d_R_next_253 : decode b_R_next 253 = .ok (.istore_n 1, 1) := by decide +kernel
theorem d_R_next_254 : decode b_R_next 254 = .ok (.iinc 2 1, 3) := by decide +kernel
theorem d_R_next_257 : decode b_R_next 257 = .ok (.iload_n 2, 1) := by decide +kernel
theorem d_R_next_258 : decode b_R_next 258 = .ok (.bipush 7, 2) := by decide +kernel
theorem d_R_next_260 : decode b_R_next 260 = .ok (.if_icmp .ge 17, 3) := by decide +kernel
theorem d_R_next_263 : decode b_R_next 263 = .ok (.aload_n 0, 1) := by decide +kernel
theorem d_R_next_264 : decode b_R_next 264 = .ok (.aload_n 0, 1) := by decide +kernel
theorem d_R_next_265 : decode b_R_next 265 = .ok (.getfield 194, 3) := by decide +kernel
theorem d_R_next_268 : decode b_R_next 268 = .ok (.bipush 8, 2) := by decide +kernel
theorem d_R_next_270 : decode b_R_next 270 = .ok (.lshl, 1) := by decide +kernel
theorem d_R_next_271 : decode b_R_next 271 = .ok (.iload_n 1, 1) := by decide +kernel
theorem d_R_next_272 : decode b_R_next 272 = .ok (.i2l, 1) := by decide +kernel
theorem d_R_next_273 : decode b_R_next 273 = .ok (.lor, 1) := by decide +kernel
theorem d_R_next_274 : decode b_R_next 274 = .ok (.putfield 194, 3) := by decide +kernel
theorem d_R_next_203 : decode b_R_next 203 = .ok (.aload_n 0, 1) := by decide +kernel
theorem d_R_next_204 : decode b_R_next 204 = .ok (.getfield 173, 3) := by decide +kernel
theorem d_R_next_207 : decode b_R_next 207 = .ok (.aload_n 0, 1) := by decide +kernel
theorem d_R_next_208 : decode b_R_next 208 = .ok (.getfield 176, 3) := by decide +kernel
theorem d_R_next_211 : decode b_R_next 211 = .ok (.if_icmp .ge 145, 3) := by decide +kernel
theorem d_R_next_214 : decode b_R_next 214 = .ok (.aload_n 0, 1) := by decide +kernel
theorem d_R_next_215 : decode b_R_next 215 = .ok (.getfield 36, 3) := by decide +kernel
theorem d_R_next_218 : decode b_R_next 218 = .ok (.aload_n 0, 1) := by decide +kernel
theorem d_R_next_219 : decode b_R_next 219 = .ok (.getfield 173, 3) := by decide +kernel
theorem d_R_next_222 : decode b_R_next 222 = .ok (.baload, 1) := by decide +kernel
theorem d_R_next_223 : decode b_R_next 223 = .ok (.invokestatic 182, 3) := by decide +kernel
theorem d_R_next_226 : decode b_R_next 226 = .ok (.ifCond .ne 18, 3) := by decide +kernel
theorem d_R_next_229 : decode b_R_next 229 = .ok (.aload_n 0, 1) := by decide +kernel
theorem d_R_next_230 : decode b_R_next 230 = .ok (.getfield 36, 3) := by decide +kernel
theorem d_R_next_233 : decode b_R_next 233 = .ok (.aload_n 0, 1) := by decide +kernel
theorem d_R_next_234 : decode b_R_next 234 = .ok (.getfield 173, 3) := by decide +kernel
theorem d_R_next_237 : decode b_R_next 237 = .ok (.baload, 1) := by decide +kernel
theorem d_R_next_238 : decode b_R_next 238 = .ok (.invokestatic 185, 3) := by decide +kernel
theorem d_R_next_241 : decode b_R_next 241 = .ok (.ifCond .eq 115, 3) := by decide +kernel
theorem d_R_next_186 : decode b_R_next 186 = .ok (.putfield 179, 3) := by decide +kernel
theorem d_R_next_189 : decode b_R_next 189 = .ok (.aload_n 0, 1) := by decide +kernel
theorem d_R_next_190 : decode b_R_next 190 = .ok (.lconst 0, 1) := by decide +kernel
theorem d_R_next_191 : decode b_R_next 191 = .ok (.putfield 194, 3) := by decide +kernel
theorem d_R_next_194 : decode b_R_next 194 = .ok (.aload_n 0, 1) := by decide +kernel
theorem d_R_next_195 : decode b_R_next 195 = .ok (.iconst 0, 1) := by decide +kernel
theorem d_R_next_196 : decode b_R_next 196 = .ok (.putfield 188, 3) := by decide +kernel
theorem d_R_next_199 : decode b_R_next 199 = .ok (.iconst 0, 1) := by decide +kernel
theorem d_R_next_200 : decode b_R_next 200 = .ok (.istore_n 2, 1) := by decide +kernel
theorem d_R_next_201 : decode b_R_next 201 = .ok (.iconst 1, 1) := by decide +kernel
theorem d_R_next_202 : decode b_R_next 202 = .ok (.istore_n 3, 1) := by decide +kernel
theorem d_R_next_173 : decode b_R_next 173 = .ok (.aload_n 0, 1) := by decide +kernel
theorem d_R_next_174 : decode b_R_next 174 = .ok (.iload_n 1, 1) := by decide +kernel
theorem d_R_next_175 : decode b_R_next 175 = .ok (.invokestatic 182, 3) := by decide +kernel
theorem d_R_next_178 : decode b_R_next 178 = .ok (.ifCond .eq 7, 3) := by decide +kernel
theorem d_R_next_185 : decode b_R_next 185 = .ok (.iconst 2, 1) := by decide +kernel
theorem d_R_next_181 : decode b_R_next 181 = .ok (.iconst 1, 1) := by decide +kernel
theorem d_R_next_182 : decode b_R_next 182 = .ok (.goto 4, 3) := by decide +kernel
theorem d_R_next_61 : decode b_R_next 61 = .ok (.aload_n 0, 1) := by decide +kernel
theorem d_R_next_62 : decode b_R_next 62 = .ok (.iconst 0, 1) := by decide +kernel
theorem d_R_next_63 : decode b_R_next 63 = .ok (.putfield 179, 3) := by decide +kernel
theorem d_R_next_66 : decode b_R_next 66 = .ok (.aload_n 0, 1) := by decide +kernel
theorem d_R_next_67 : decode b_R_next 67 = .ok (.getfield 173, 3) := by decide +kernel
theorem d_R_next_70 : decode b_R_next 70 = .ok (.aload_n 0, 1) := by decide +kernel
theorem d_R_next_71 : decode b_R_next 71 = .ok (.getfield 176, 3) := by decide +kernel
theorem d_R_next_74 : decode b_R_next 74 = .ok (.if_icmp .ne 5, 3) := by decide +kernel
theorem d_R_next_79 : decode b_R_next 79 = .ok (.aload_n 0, 1) := by decide +kernel
theorem d_R_next_80 : decode b_R_next 80 = .ok (.getfield 36, 3) := by decide +kernel
theorem d_R_next_83 : decode b_R_next 83 = .ok (.aload_n 0, 1) := by decide +kernel
theorem d_R_next_84 : decode b_R_next 84 = .ok (.getfield 173, 3) := by decide +kernel
theorem d_R_next_87 : decode b_R_next 87 = .ok (.baload, 1) := by decide +kernel
theorem d_R_next_88 : decode b_R_next 88 = .ok (.istore_n 1, 1) := by decide +kernel
theorem d_R_next_89 : decode b_R_next 89 = .ok (.iload_n 1, 1) := by decide +kernel
theorem d_R_next_90 : decode b_R_next 90 = .ok (.invokestatic 182, 3) := by decide +kernel
theorem d_R_next_93 : decode b_R_next 93 = .ok (.ifCond .ne 80, 3) := by decide +kernel
theorem d_R_next_96 : decode b_R_next 96 = .ok (.iload_n 1, 1) := by decide +kernel
theorem d_R_next_97 : decode b_R_next 97 = .ok (.invokestatic 185, 3) := by decide +kernel
theorem d_R_next_100 : decode b_R_next 100 = .ok (.ifCond .ne 73, 3) := by decide +kernel
theorem d_R_next_103 : decode b_R_next 103 = .ok (.aload_n 0, 1) := by decide +kernel
theorem d_R_next_104 : decode b_R_next 104 = .ok (.iconst 3, 1) := by decide +kernel
theorem d_R_next_105 : decode b_R_next 105 = .ok (.putfield 179, 3) := by decide +kernel
theorem d_R_next_108 : decode b_R_next 108 = .ok (.aload_n 0, 1) := by decide +kernel
theorem d_R_next_109 : decode b_R_next 109 = .ok (.iload_n 1, 1) := by decide +kernel
theorem d_R_next_110 : decode b_R_next 110 = .ok (.putfield 188, 3) := by decide +kernel
theorem d_R_next_113 : decode b_R_next 113 = .ok (.aload_n 0, 1) := by decide +kernel
theorem d_R_next_114 : decode b_R_next 114 = .ok (.dup, 1) := by decide +kernel
theorem d_R_next_115 : decode b_R_next 115 = .ok (.getfield 173, 3) := by decide +kernel
theorem d_R_next_118 : decode b_R_next 118 = .ok (.iconst 1, 1) := by decide +kernel
theorem d_R_next_119 : decode b_R_next 119 = .ok (.iadd, 1) := by decide +kernel
theorem d_R_next_120 : decode b_R_next 120 = .ok (.putfield 173, 3) := by decide +kernel
theorem d_R_next_123 : decode b_R_next 123 = .ok (.iload_n 1, 1) := by decide +kernel
theorem d_R_next_124 : decode b_R_next 124 = .ok (.bipush 43, 2) := by decide +kernel
theorem d_R_next_126 : decode b_R_next 126 = .ok (.if_icmp .eq 41, 3) := by decide +kernel
theorem d_R_next_167 : decode b_R_next 167 = .ok (.iconst 1, 1) := by decide +kernel
theorem d_R_next_168 : decode b_R_next 168 = .ok (.goto 4, 3) := by decide +kernel
theorem d_R_next_172 : decode b_R_next 172 = .ok (.ireturn, 1) := by decide +kernel
theorem d_R_next_129 : decode b_R_next 129 = .ok (.iload_n 1, 1) := by decide +kernel
theorem d_R_next_130 : decode b_R_next 130 = .ok (.bipush 45, 2) := by decide +kernel
theorem d_R_next_132 : decode b_R_next 132 = .ok (.if_icmp .eq 35, 3) := by decide +kernel
theorem d_R_next_135 : decode b_R_next 135 = .ok (.iload_n 1, 1) := by decide +kernel
theorem d_R_next_136 : decode b_R_next 136 = .ok (.bipush 44, 2) := by decide +kernel
theorem d_R_next_138 : decode b_R_next 138 = .ok (.if_icmp .eq 29, 3) := by decide +kernel
theorem d_R_next_141 : decode b_R_next 141 = .ok (.iload_n 1, 1) := by decide +kernel
theorem d_R_next_142 : decode b_R_next 142 = .ok (.bipush 64, 2) := by decide +kernel
theorem d_R_next_144 : decode b_R_next 144 = .ok (.if_icmp .eq 23, 3) := by decide +kernel
theorem d_R_next_147 : decode b_R_next 147 = .ok (.iload_n 1, 1) := by decide +kernel
theorem d_R_next_148 : decode b_R_next 148 = .ok (.bipush 35, 2) := by decide +kernel
theorem d_R_next_150 : decode b_R_next 150 = .ok (.if_icmp .eq 17, 3) := by decide +kernel
theorem d_R_next_153 : decode b_R_next 153 = .ok (.iload_n 1, 1) := by decide +kernel
theorem d_R_next_154 : decode b_R_next 154 = .ok (.bipush 58, 2) := by decide +kernel
theorem d_R_next_156 : decode b_R_next 156 = .ok (.if_icmp .eq 11, 3) := by decide +kernel
theorem d_R_next_159 : decode b_R_next 159 = .ok (.aload_n 0, 1) := by decide +kernel
theorem d_R_next_160 : decode b_R_next 160 = .ok (.iconst 1, 1) := by decide +kernel
theorem d_R_next_161 : decode b_R_next 161 = .ok (.invokevirtual 191, 3) := by decide +kernel
theorem d_R_next_164 : decode b_R_next 164 = .ok (.ifCond .eq 7, 3) := by decide +kernel
theorem d_R_next_171 : decode b_R_next 171 = .ok (.iconst 0, 1) := by decide +kernel
theorem d_R_next_77 : decode b_R_next 77 = .ok (.iconst 1, 1) := by decide +kernel
theorem d_R_next_78 : decode b_R_next 78 = .ok (.ireturn, 1) := by decide +kernel
theorem d_R_next_48 : decode b_R_next 48 = .ok (.aload_n 0, 1) := by decide +kernel
theorem d_R_next_49 : decode b_R_next 49 = .ok (.dup, 1) := by decide +kernel
theorem d_R_next_50 : decode b_R_next 50 = .ok (.getfield 173, 3) := by decide +kernel
theorem d_R_next_53 : decode b_R_next 53 = .ok (.iconst 1, 1) := by decide +kernel
theorem d_R_next_54 : decode b_R_next 54 = .ok (.iadd, 1) := by decide +kernel
theorem d_R_next_55 : decode b_R_next 55 = .ok (.putfield 173, 3) := by decide +kernel
theorem d_R_next_58 : decode b_R_next 58 = .ok (.goto (-49), 3) := by decide +kernel
theorem d_R_next_9 : decode b_R_next 9 = .ok (.aload_n 0, 1) := by decide +kernel
theorem d_R_next_10 : decode b_R_next 10 = .ok (.getfield 173, 3) := by decide +kernel
theorem d_R_next_13 : decode b_R_next 13 = .ok (.aload_n 0, 1) := by decide +kernel
theorem d_R_next_14 : decode b_R_next 14 = .ok (.getfield 176, 3) := by decide +kernel
theorem d_R_next_17 : decode b_R_next 17 = .ok (.if_icmp .ge 44, 3) := by decide +kernel
theorem d_R_next_20 : decode b_R_next 20 = .ok (.aload_n 0, 1) := by decide +kernel
theorem d_R_next_21 : decode b_R_next 21 = .ok (.getfield 36, 3) := by decide +kernel
theorem d_R_next_24 : decode b_R_next 24 = .ok (.aload_n 0, 1) := by decide +kernel
theorem d_R_next_25 : decode b_R_next 25 = .ok (.getfield 173, 3) := by decide +kernel
theorem d_R_next_28 : decode b_R_next 28 = .ok (.baload, 1) := by decide +kernel
theorem d_R_next_29 : decode b_R_next 29 = .ok (.bipush 32, 2) := by decide +kernel
theorem d_R_next_31 : decode b_R_next 31 = .ok (.if_icmp .eq 17, 3) := by decide +kernel
theorem d_R_next_34 : decode b_R_next 34 = .ok (.aload_n 0, 1) := by decide +kernel
theorem d_R_next_35 : decode b_R_next 35 = .ok (.getfield 36, 3) := by decide +kernel
theorem d_R_next_38 : decode b_R_next 38 = .ok (.aload_n 0, 1) := by decide +kernel
theorem d_R_next_39 : decode b_R_next 39 = .ok (.getfield 173, 3) := by decide +kernel
theorem d_R_next_42 : decode b_R_next 42 = .ok (.baload, 1) := by decide +kernel
theorem d_R_next_43 : decode b_R_next 43 = .ok (.bipush 9, 2) := by decide +kernel
theorem d_R_next_45 : decode b_R_next 45 = .ok (.if_icmp .ne 16, 3) := by decide +kernel
theorem d_R_next_0 : decode b_R_next 0 = .ok (.aload_n 0, 1) := by decide +kernel
theorem d_R_next_1 : decode b_R_next 1 = .ok (.getfield 122, 3) := by decide +kernel
theorem d_R_next_4 : decode b_R_next 4 = .ok (.ifCond .eq 5, 3) := by decide +kernel
theorem d_R_next_7 : decode b_R_next 7 = .ok (.iconst 0, 1) := by decide +kernel
theorem d_R_next_8 : decode b_R_next 8 = .ok (.ireturn, 1) := by decide +kernel
theorem d_R_isSign_0 : decode b_R_isSign 0 = .ok (.aload_n 0, 1) := by decide +kernel
theorem d_R_isSign_1 : decode b_R_isSign 1 = .ok (.getfield 179, 3) := by decide +kernel
theorem d_R_isSign_4 : decode b_R_isSign 4 = .ok (.iconst 3, 1) := by decide +kernel
theorem d_R_isSign_5 : decode b_R_isSign 5 = .ok (.if_icmp .ne 15, 3) := by decide +kernel
theorem d_R_isSign_20 : decode b_R_isSign 20 = .ok (.iconst 0, 1) := by decide +kernel
theorem d_R_isSign_21 : decode b_R_isSign 21 = .ok (.ireturn, 1) := by decide +kernel
theorem d_R_isSign_8 : decode b_R_isSign 8 = .ok (.aload_n 0, 1) := by decide +kernel
theorem d_R_isSign_9 : decode b_R_isSign 9 = .ok (.getfield 188, 3) := by decide +kernel
theorem d_R_isSign_12 : decode b_R_isSign 12 = .ok (.iload_n 1, 1) := by decide +kernel
theorem d_R_isSign_13 : decode b_R_isSign 13 = .ok (.if_icmp .ne 7, 3) := by decide +kernel
theorem d_R_isSign_16 : decode b_R_isSign 16 = .ok (.iconst 1, 1) := by decide +kernel
theorem d_R_isSign_17 : decode b_R_isSign 17 = .ok (.goto 4, 3) := by decide +kernel
theorem d_R_sizeOf_4 : decode b_R_sizeOf 4 = .ok (.lload_n 3, 1) := by decide +kernel
theorem d_R_sizeOf_5 : decode b_R_sizeOf 5 = .ok (.lconst 0, 1) := by decide +kernel
theorem d_R_sizeOf_6 : decode b_R_sizeOf 6 = .ok (.lcmp, 1) := by decide +kernel
theorem d_R_sizeOf_7 : decode b_R_sizeOf 7 = .ok (.ifCond .le 14, 3) := by decide +kernel
theorem d_R_sizeOf_21 : decode b_R_sizeOf 21 = .ok (.iload_n 2, 1) := by decide +kernel
theorem d_R_sizeOf_22 : decode b_R_sizeOf 22 = .ok (.ireturn, 1) := by decide +kernel
theorem d_R_sizeOf_10 : decode b_R_sizeOf 10 = .ok (.iinc 2 1, 3) := by decide +kernel
theorem d_R_sizeOf_13 : decode b_R_sizeOf 13 = .ok (.lload_n 3, 1) := by decide +kernel
theorem d_R_sizeOf_14 : decode b_R_sizeOf 14 = .ok (.bipush 8, 2) := by decide +kernel
theorem d_R_sizeOf_16 : decode b_R_sizeOf 16 = .ok (.lshr, 1) := by decide +kernel
theorem d_R_sizeOf_17 : decode b_R_sizeOf 17 = .ok (.lstore_n 3, 1) := by decide +kernel
theorem d_R_sizeOf_18 : decode b_R_sizeOf 18 = .ok (.goto (-14), 3) := by decide +kernel
theorem d_R_sizeOf_0 : decode b_R_sizeOf 0 = .ok (.iconst 0, 1) := by decide +kernel
theorem d_R_sizeOf_1 : decode b_R_sizeOf 1 = .ok (.istore_n 2, 1) := by decide +kernel
theorem d_R_sizeOf_2 : decode b_R_sizeOf 2 = .ok (.lload_n 0, 1) := by decide +kernel
theorem d_R_sizeOf_3 : decode b_R_sizeOf 3 = .ok (.lstore_n 3, 1) := by decide +kernel
theorem d_R_front_0 : decode b_R_front 0 = .ok (.lload_n 0, 1) := by decide +kernel
theorem d_R_front_1 : decode b_R_front 1 = .ok (.bipush 8, 2) := by decide +kernel
theorem d_R_front_3 : decode b_R_front 3 = .ok (.lload_n 0, 1) := by decide +kernel
theorem d_R_front_4 : decode b_R_front 4 = .ok (.invokestatic 198, 3) := by decide +kernel
theorem d_R_front_7 : decode b_R_front 7 = .ok (.iload_n 2, 1) := by decide +kernel
theorem d_R_front_8 : decode b_R_front 8 = .ok (.isub, 1) := by decide +kernel
theorem d_R_front_9 : decode b_R_front 9 = .ok (.imul, 1) := by decide +kernel
theorem d_R_front_10 : decode b_R_front 10 = .ok (.lshr, 1) := by decide +kernel
theorem d_R_front_11 : decode b_R_front 11 = .ok (.lreturn, 1) := by decide +kernel
theorem d_R_letter_0 : decode b_R_letter 0 = .ok (.lload_n 0, 1) := by decide +kernel
theorem d_R_letter_1 : decode b_R_letter 1 = .ok (.bipush 8, 2) := by decide +kernel
theorem d_R_letter_3 : decode b_R_letter 3 = .ok (.lload_n 0, 1) := by decide +kernel
theorem d_R_letter_4 : decode b_R_letter 4 = .ok (.invokestatic 198, 3) := by decide +kernel
theorem d_R_letter_7 : decode b_R_letter 7 = .ok (.iconst 1, 1) := by decide +kernel
theorem d_R_letter_8 : decode b_R_letter 8 = .ok (.isub, 1) := by decide +kernel
theorem d_R_letter_9 : decode b_R_letter 9 = .ok (.iload_n 2, 1) := by decide +kernel
theorem d_R_letter_10 : decode b_R_letter 10 = .ok (.isub, 1) := by decide +kernel
theorem d_R_letter_11 : decode b_R_letter 11 = .ok (.imul, 1) := by decide +kernel
theorem d_R_letter_12 : decode b_R_letter 12 = .ok (.lshr, 1) := by decide +kernel
theorem d_R_letter_13 : decode b_R_letter 13 = .ok (.l2i, 1) := by decide +kernel
theorem d_R_letter_14 : decode b_R_letter 14 = .ok (.sipush 255, 3) := by decide +kernel
theorem d_R_letter_17 : decode b_R_letter 17 = .ok (.iand, 1) := by decide +kernel
theorem d_R_letter_18 : decode b_R_letter 18 = .ok (.ireturn, 1) := by decide +kernel
theorem d_R_among_0 : decode b_R_among 0 = .ok (.lload_n 0, 1) := by decide +kernel
theorem d_R_among_1 : decode b_R_among 1 = .ok (.lload_n 2, 1) := by decide +kernel
theorem d_R_among_2 : decode b_R_among 2 = .ok (.lcmp, 1) := by decide +kernel
theorem d_R_among_3 : decode b_R_among 3 = .ok (.ifCond .ne 7, 3) := by decide +kernel
theorem d_R_among_10 : decode b_R_among 10 = .ok (.lload_n 0, 1) := by decide +kernel
theorem d_R_among_11 : decode b_R_among 11 = .ok (.lload 4, 2) := by decide +kernel
theorem d_R_among_13 : decode b_R_among 13 = .ok (.lcmp, 1) := by decide +kernel
theorem d_R_among_14 : decode b_R_among 14 = .ok (.ifCond .ne 7, 3) := by decide +kernel
theorem d_R_among_21 : decode b_R_among 21 = .ok (.lload_n 0, 1) := by decide +kernel
theorem d_R_among_22 : decode b_R_among 22 = .ok (.lload 6, 2) := by decide +kernel
theorem d_R_among_24 : decode b_R_among 24 = .ok (.lcmp, 1) := by decide +kernel
theorem d_R_among_25 : decode b_R_among 25 = .ok (.ifCond .ne 7, 3) := by decide +kernel
theorem d_R_among_32 : decode b_R_among 32 = .ok (.lload_n 0, 1) := by decide +kernel
theorem d_R_among_33 : decode b_R_among 33 = .ok (.lload 8, 2) := by decide +kernel
theorem d_R_among_35 : decode b_R_among 35 = .ok (.lcmp, 1) := by decide +kernel
theorem d_R_among_36 : decode b_R_among 36 = .ok (.ifCond .ne 7, 3) := by decide +kernel
theorem d_R_among_43 : decode b_R_among 43 = .ok (.iconst (-1), 1) := by decide +kernel
theorem d_R_among_44 : decode b_R_among 44 = .ok (.ireturn, 1) := by decide +kernel
theorem d_R_among_39 : decode b_R_among 39 = .ok (.iconst 3, 1) := by decide +kernel
theorem d_R_among_40 : decode b_R_among 40 = .ok (.goto 4, 3) := by decide +kernel
theorem d_R_among_28 : decode b_R_among 28 = .ok (.iconst 2, 1) := by decide +kernel
theorem d_R_among_29 : decode b_R_among 29 = .ok (.goto 15, 3) := by decide +kernel
theorem d_R_among_17 : decode b_R_among 17 = .ok (.iconst 1, 1) := by decide +kernel
theorem d_R_among_18 : decode b_R_among 18 = .ok (.goto 26, 3) := by decide +kernel
theorem d_R_among_6 : decode b_R_among 6 = .ok (.iconst 0, 1) := by decide +kernel
theorem d_R_among_7 : decode b_R_among 7 = .ok (.goto 37, 3) := by decide +kernel
theorem d_R_functionOf_0 : decode b_R_functionOf 0 = .ok (.lload_n 0, 1) := by decide +kernel
theorem d_R_functionOf_1 : decode b_R_functionOf 1 = .ok (.ldc2_w 202, 3) := by decide +kernel
theorem d_R_functionOf_4 : decode b_R_functionOf 4 = .ok (.ldc2_w 204, 3) := by decide +kernel
theorem d_R_functionOf_7 : decode b_R_functionOf 7 = .ok (.ldc2_w 206, 3) := by decide +kernel
theorem d_R_functionOf_10 : decode b_R_functionOf 10 = .ok (.ldc2_w 208, 3) := by decide +kernel
theorem d_R_functionOf_13 : decode b_R_functionOf 13 = .ok (.invokestatic 210, 3) := by decide +kernel
theorem d_R_functionOf_16 : decode b_R_functionOf 16 = .ok (.istore_n 2, 1) := by decide +kernel
theorem d_R_functionOf_17 : decode b_R_functionOf 17 = .ok (.lload_n 0, 1) := by decide +kernel
theorem d_R_functionOf_18 : decode b_R_functionOf 18 = .ok (.ldc2_w 214, 3) := by decide +kernel
theorem d_R_functionOf_21 : decode b_R_functionOf 21 = .ok (.ldc2_w 216, 3) := by decide +kernel
theorem d_R_functionOf_24 : decode b_R_functionOf 24 = .ok (.ldc2_w 218, 3) := by decide +kernel
theorem d_R_functionOf_27 : decode b_R_functionOf 27 = .ok (.ldc2_w 220, 3) := by decide +kernel
theorem d_R_functionOf_30 : decode b_R_functionOf 30 = .ok (.invokestatic 210, 3) := by decide +kernel
theorem d_R_functionOf_33 : decode b_R_functionOf 33 = .ok (.istore_n 3, 1) := by decide +kernel
theorem d_R_functionOf_34 : decode b_R_functionOf 34 = .ok (.iload_n 2, 1) := by decide +kernel
theorem d_R_functionOf_35 : decode b_R_functionOf 35 = .ok (.ifCond .lt 7, 3) := by decide +kernel
theorem d_R_functionOf_42 : decode b_R_functionOf 42 = .ok (.iload_n 3, 1) := by decide +kernel
theorem d_R_functionOf_43 : decode b_R_functionOf 43 = .ok (.ifCond .lt 9, 3) := by decide +kernel
theorem d_R_functionOf_52 : decode b_R_functionOf 52 = .ok (.iconst (-1), 1) := by decide +kernel
theorem d_R_functionOf_53 : decode b_R_functionOf 53 = .ok (.ireturn, 1) := by decide +kernel
theorem d_R_functionOf_46 : decode b_R_functionOf 46 = .ok (.iconst 4, 1) := by decide +kernel
theorem d_R_functionOf_47 : decode b_R_functionOf 47 = .ok (.iload_n 3, 1) := by decide +kernel
theorem d_R_functionOf_48 : decode b_R_functionOf 48 = .ok (.iadd, 1) := by decide +kernel
theorem d_R_functionOf_49 : decode b_R_functionOf 49 = .ok (.goto 4, 3) := by decide +kernel
theorem d_R_functionOf_38 : decode b_R_functionOf 38 = .ok (.iload_n 2, 1) := by decide +kernel
theorem d_R_functionOf_39 : decode b_R_functionOf 39 = .ok (.goto 14, 3) := by decide +kernel
theorem d_R_whatOf_0 : decode b_R_whatOf 0 = .ok (.lload_n 0, 1) := by decide +kernel
theorem d_R_whatOf_1 : decode b_R_whatOf 1 = .ok (.ldc2_w 222, 3) := by decide +kernel
theorem d_R_whatOf_4 : decode b_R_whatOf 4 = .ok (.ldc2_w 224, 3) := by decide +kernel
theorem d_R_whatOf_7 : decode b_R_whatOf 7 = .ok (.ldc2_w 226, 3) := by decide +kernel
theorem d_R_whatOf_10 : decode b_R_whatOf 10 = .ok (.ldc2_w 228, 3) := by decide +kernel
theorem d_R_whatOf_13 : decode b_R_whatOf 13 = .ok (.invokestatic 210, 3) := by decide +kernel
theorem d_R_whatOf_16 : decode b_R_whatOf 16 = .ok (.istore_n 2, 1) := by decide +kernel
theorem d_R_whatOf_17 : decode b_R_whatOf 17 = .ok (.iload_n 2, 1) := by decide +kernel
theorem d_R_whatOf_18 : decode b_R_whatOf 18 = .ok (.ifCond .lt 9, 3) := by decide +kernel
theorem d_R_whatOf_27 : decode b_R_whatOf 27 = .ok (.lload_n 0, 1) := by decide +kernel
theorem d_R_whatOf_28 : decode b_R_whatOf 28 = .ok (.ldc2_w 230, 3) := by decide +kernel
theorem d_R_whatOf_31 : decode b_R_whatOf 31 = .ok (.lcmp, 1) := by decide +kernel
theorem d_R_whatOf_32 : decode b_R_whatOf 32 = .ok (.ifCond .ne 7, 3) := by decide +kernel
theorem d_R_whatOf_39 : decode b_R_whatOf 39 = .ok (.lload_n 0, 1) := by decide +kernel
theorem d_R_whatOf_40 : decode b_R_whatOf 40 = .ok (.ldc2_w 232, 3) := by decide +kernel
theorem d_R_whatOf_43 : decode b_R_whatOf 43 = .ok (.lcmp, 1) := by decide +kernel
theorem d_R_whatOf_44 : decode b_R_whatOf 44 = .ok (.ifCond .ne 8, 3) := by decide +kernel
theorem d_R_whatOf_52 : decode b_R_whatOf 52 = .ok (.iconst (-1), 1) := by decide +kernel
theorem d_R_whatOf_53 : decode b_R_whatOf 53 = .ok (.ireturn, 1) := by decide +kernel
theorem d_R_whatOf_47 : decode b_R_whatOf 47 = .ok (.bipush 6, 2) := by decide +kernel
theorem d_R_whatOf_49 : decode b_R_whatOf 49 = .ok (.goto 4, 3) := by decide +kernel
theorem d_R_whatOf_35 : decode b_R_whatOf 35 = .ok (.iconst 5, 1) := by decide +kernel
theorem d_R_whatOf_36 : decode b_R_whatOf 36 = .ok (.goto 17, 3) := by decide +kernel
theorem d_R_whatOf_21 : decode b_R_whatOf 21 = .ok (.iconst 1, 1) := by decide +kernel
theorem d_R_whatOf_22 : decode b_R_whatOf 22 = .ok (.iload_n 2, 1) := by decide +kernel
theorem d_R_whatOf_23 : decode b_R_whatOf 23 = .ok (.iadd, 1) := by decide +kernel
theorem d_R_whatOf_24 : decode b_R_whatOf 24 = .ok (.goto 29, 3) := by decide +kernel
theorem d_R_suffix_0 : decode b_R_suffix 0 = .ok (.iload_n 0, 1) := by decide +kernel
theorem d_R_suffix_1 : decode b_R_suffix 1 = .ok (.iload_n 1, 1) := by decide +kernel
theorem d_R_suffix_2 : decode b_R_suffix 2 = .ok (.if_icmp .ne 7, 3) := by decide +kernel
theorem d_R_suffix_9 : decode b_R_suffix 9 = .ok (.iload_n 0, 1) := by decide +kernel
theorem d_R_suffix_10 : decode b_R_suffix 10 = .ok (.iload_n 2, 1) := by decide +kernel
theorem d_R_suffix_11 : decode b_R_suffix 11 = .ok (.if_icmp .ne 7, 3) := by decide +kernel
theorem d_R_suffix_18 : decode b_R_suffix 18 = .ok (.iload_n 0, 1) := by decide +kernel
theorem d_R_suffix_19 : decode b_R_suffix 19 = .ok (.iload_n 3, 1) := by decide +kernel
theorem d_R_suffix_20 : decode b_R_suffix 20 = .ok (.if_icmp .ne 7, 3) := by decide +kernel
theorem d_R_suffix_27 : decode b_R_suffix 27 = .ok (.iconst 0, 1) := by decide +kernel
theorem d_R_suffix_28 : decode b_R_suffix 28 = .ok (.ireturn, 1) := by decide +kernel
theorem d_R_suffix_23 : decode b_R_suffix 23 = .ok (.iconst 3, 1) := by decide +kernel
theorem d_R_suffix_24 : decode b_R_suffix 24 = .ok (.goto 4, 3) := by decide +kernel
theorem d_R_suffix_14 : decode b_R_suffix 14 = .ok (.iconst 2, 1) := by decide +kernel
theorem d_R_suffix_15 : decode b_R_suffix 15 = .ok (.goto 13, 3) := by decide +kernel
theorem d_R_suffix_5 : decode b_R_suffix 5 = .ok (.iconst 1, 1) := by decide +kernel
theorem d_R_suffix_6 : decode b_R_suffix 6 = .ok (.goto 22, 3) := by decide +kernel
theorem d_R_suffixed_223 : decode b_R_suffixed 223 = .ok (.putfield 234, 3) := by decide +kernel
theorem d_R_suffixed_226 : decode b_R_suffixed 226 = .ok (.aload_n 0, 1) := by decide +kernel
theorem d_R_suffixed_227 : decode b_R_suffixed 227 = .ok (.sipush 24576, 3) := by decide +kernel
theorem d_R_suffixed_230 : decode b_R_suffixed 230 = .ok (.sipush 256, 3) := by decide +kernel
theorem d_R_suffixed_233 : decode b_R_suffixed 233 = .ok (.iload 7, 2) := by decide +kernel
theorem d_R_suffixed_235 : decode b_R_suffixed 235 = .ok (.imul, 1) := by decide +kernel
theorem d_R_suffixed_236 : decode b_R_suffixed 236 = .ok (.iadd, 1) := by decide +kernel
theorem d_R_suffixed_237 : decode b_R_suffixed 237 = .ok (.bipush 64, 2) := by decide +kernel
theorem d_R_suffixed_239 : decode b_R_suffixed 239 = .ok (.iload 8, 2) := by decide +kernel
theorem d_R_suffixed_241 : decode b_R_suffixed 241 = .ok (.imul, 1) := by decide +kernel
theorem d_R_suffixed_242 : decode b_R_suffixed 242 = .ok (.iadd, 1) := by decide +kernel
theorem d_R_suffixed_243 : decode b_R_suffixed 243 = .ok (.putfield 237, 3) := by decide +kernel
theorem d_R_suffixed_246 : decode b_R_suffixed 246 = .ok (.return_, 1) := by decide +kernel
theorem d_R_suffixed_210 : decode b_R_suffixed 210 = .ok (.aload_n 0, 1) := by decide +kernel
theorem d_R_suffixed_211 : decode b_R_suffixed 211 = .ok (.iload 7, 2) := by decide +kernel
theorem d_R_suffixed_213 : decode b_R_suffixed 213 = .ok (.ifCond .ne 8, 3) := by decide +kernel
theorem d_R_suffixed_221 : decode b_R_suffixed 221 = .ok (.bipush 7, 2) := by decide +kernel
theorem d_R_suffixed_216 : decode b_R_suffixed 216 = .ok (.bipush 6, 2) := by decide +kernel
theorem d_R_suffixed_218 : decode b_R_suffixed 218 = .ok (.goto 5, 3) := by decide +kernel
theorem d_R_suffixed_187 : decode b_R_suffixed 187 = .ok (.istore 8, 2) := by decide +kernel
theorem d_R_suffixed_189 : decode b_R_suffixed 189 = .ok (.iload 7, 2) := by decide +kernel
theorem d_R_suffixed_191 : decode b_R_suffixed 191 = .ok (.ifCond .lt 18, 3) := by decide +kernel
theorem d_R_suffixed_209 : decode b_R_suffixed 209 = .ok (.return_, 1) := by decide +kernel
theorem d_R_suffixed_194 : decode b_R_suffixed 194 = .ok (.iload_n 3, 1) := by decide +kernel
theorem d_R_suffixed_195 : decode b_R_suffixed 195 = .ok (.iconst 5, 1) := by decide +kernel
theorem d_R_suffixed_196 : decode b_R_suffixed 196 = .ok (.if_icmp .eq 13, 3) := by decide +kernel
theorem d_R_suffixed_199 : decode b_R_suffixed 199 = .ok (.iload_n 3, 1) := by decide +kernel
theorem d_R_suffixed_200 : decode b_R_suffixed 200 = .ok (.iconst 4, 1) := by decide +kernel
theorem d_R_suffixed_201 : decode b_R_suffixed 201 = .ok (.if_icmp .ne 9, 3) := by decide +kernel
theorem d_R_suffixed_204 : decode b_R_suffixed 204 = .ok (.iload 8, 2) := by decide +kernel
theorem d_R_suffixed_206 : decode b_R_suffixed 206 = .ok (.ifCond .ne 4, 3) := by decide +kernel
theorem d_R_suffixed_162 : decode b_R_suffixed 162 = .ok (.istore 7, 2) := by decide +kernel
theorem d_R_suffixed_164 : decode b_R_suffixed 164 = .ok (.iload_n 3, 1) := by decide +kernel
theorem d_R_suffixed_165 : decode b_R_suffixed 165 = .ok (.iconst 4, 1) := by decide +kernel
theorem d_R_suffixed_166 : decode b_R_suffixed 166 = .ok (.if_icmp .ne 20, 3) := by decide +kernel
theorem d_R_suffixed_186 : decode b_R_suffixed 186 = .ok (.iconst 0, 1) := by decide +kernel
theorem d_R_suffixed_169 : decode b_R_suffixed 169 = .ok (.lload_n 1, 1) := by decide +kernel
theorem d_R_suffixed_170 : decode b_R_suffixed 170 = .ok (.iconst 3, 1) := by decide +kernel
theorem d_R_suffixed_171 : decode b_R_suffixed 171 = .ok (.invokestatic 297, 3) := by decide +kernel
theorem d_R_suffixed_174 : decode b_R_suffixed 174 = .ok (.bipush 83, 2) := by decide +kernel
theorem d_R_suffixed_176 : decode b_R_suffixed 176 = .ok (.bipush 67, 2) := by decide +kernel
theorem d_R_suffixed_178 : decode b_R_suffixed 178 = .ok (.bipush 80, 2) := by decide +kernel
theorem d_R_suffixed_180 : decode b_R_suffixed 180 = .ok (.invokestatic 301, 3) := by decide +kernel
theorem d_R_suffixed_183 : decode b_R_suffixed 183 = .ok (.goto 4, 3) := by decide +kernel
theorem d_R_suffixed_103 : decode b_R_suffixed 103 = .ok (.iadd, 1) := by decide +kernel
theorem d_R_suffixed_104 : decode b_R_suffixed 104 = .ok (.istore 7, 2) := by decide +kernel
theorem d_R_suffixed_106 : decode b_R_suffixed 106 = .ok (.iload 7, 2) := by decide +kernel
theorem d_R_suffixed_108 : decode b_R_suffixed 108 = .ok (.iload_n 3, 1) := by decide +kernel
theorem d_R_suffixed_109 : decode b_R_suffixed 109 = .ok (.if_icmp .ge 4, 3) := by decide +kernel
theorem d_R_suffixed_113 : decode b_R_suffixed 113 = .ok (.aload_n 0, 1) := by decide +kernel
theorem d_R_suffixed_114 : decode b_R_suffixed 114 = .ok (.iconst 5, 1) := by decide +kernel
theorem d_R_suffixed_115 : decode b_R_suffixed 115 = .ok (.putfield 234, 3) := by decide +kernel
theorem d_R_suffixed_118 : decode b_R_suffixed 118 = .ok (.aload_n 0, 1) := by decide +kernel
theorem d_R_suffixed_119 : decode b_R_suffixed 119 = .ok (.ldc 7, 2) := by decide +kernel
theorem d_R_suffixed_121 : decode b_R_suffixed 121 = .ok (.sipush 256, 3) := by decide +kernel
theorem d_R_suffixed_124 : decode b_R_suffixed 124 = .ok (.iload 6, 2) := by decide +kernel
theorem d_R_suffixed_126 : decode b_R_suffixed 126 = .ok (.imul, 1) := by decide +kernel
theorem d_R_suffixed_127 : decode b_R_suffixed 127 = .ok (.iadd, 1) := by decide +kernel
theorem d_R_suffixed_128 : decode b_R_suffixed 128 = .ok (.bipush 64, 2) := by decide +kernel
theorem d_R_suffixed_130 : decode b_R_suffixed 130 = .ok (.iload 9, 2) := by decide +kernel
theorem d_R_suffixed_132 : decode b_R_suffixed 132 = .ok (.imul, 1) := by decide +kernel
theorem d_R_suffixed_133 : decode b_R_suffixed 133 = .ok (.iadd, 1) := by decide +kernel
theorem d_R_suffixed_134 : decode b_R_suffixed 134 = .ok (.bipush 16, 2) := by decide +kernel
theorem d_R_suffixed_136 : decode b_R_suffixed 136 = .ok (.iload 8, 2) := by decide +kernel
theorem d_R_suffixed_138 : decode b_R_suffixed 138 = .ok (.imul, 1) := by decide +kernel
theorem d_R_suffixed_139 : decode b_R_suffixed 139 = .ok (.iadd, 1) := by decide +kernel
theorem d_R_suffixed_140 : decode b_R_suffixed 140 = .ok (.putfield 237, 3) := by decide +kernel
theorem d_R_suffixed_143 : decode b_R_suffixed 143 = .ok (.return_, 1) := by decide +kernel
theorem d_R_suffixed_112 : decode b_R_suffixed 112 = .ok (.return_, 1) := by decide +kernel
theorem d_R_suffixed_89 : decode b_R_suffixed 89 = .ok (.istore 9, 2) := by decide +kernel
theorem d_R_suffixed_91 : decode b_R_suffixed 91 = .ok (.iload 7, 2) := by decide +kernel
theorem d_R_suffixed_93 : decode b_R_suffixed 93 = .ok (.iload 9, 2) := by decide +kernel
theorem d_R_suffixed_95 : decode b_R_suffixed 95 = .ok (.ifCond .le 7, 3) := by decide +kernel
theorem d_R_suffixed_102 : decode b_R_suffixed 102 = .ok (.iconst 0, 1) := by decide +kernel
theorem d_R_suffixed_98 : decode b_R_suffixed 98 = .ok (.iconst 1, 1) := by decide +kernel
theorem d_R_suffixed_99 : decode b_R_suffixed 99 = .ok (.goto 4, 3) := by decide +kernel
theorem d_R_suffixed_61 : decode b_R_suffixed 61 = .ok (.iadd, 1) := by decide +kernel
theorem d_R_suffixed_62 : decode b_R_suffixed 62 = .ok (.istore 7, 2) := by decide +kernel
theorem d_R_suffixed_64 : decode b_R_suffixed 64 = .ok (.iload 7, 2) := by decide +kernel
theorem d_R_suffixed_66 : decode b_R_suffixed 66 = .ok (.iload_n 3, 1) := by decide +kernel
theorem d_R_suffixed_67 : decode b_R_suffixed 67 = .ok (.if_icmp .ge 21, 3) := by decide +kernel
theorem d_R_suffixed_88 : decode b_R_suffixed 88 = .ok (.iconst 0, 1) := by decide +kernel
theorem d_R_suffixed_70 : decode b_R_suffixed 70 = .ok (.lload_n 1, 1) := by decide +kernel
theorem d_R_suffixed_71 : decode b_R_suffixed 71 = .ok (.iload 7, 2) := by decide +kernel
theorem d_R_suffixed_73 : decode b_R_suffixed 73 = .ok (.invokestatic 297, 3) := by decide +kernel
theorem d_R_suffixed_76 : decode b_R_suffixed 76 = .ok (.bipush 76, 2) := by decide +kernel
theorem d_R_suffixed_78 : decode b_R_suffixed 78 = .ok (.bipush 82, 2) := by decide +kernel
theorem d_R_suffixed_80 : decode b_R_suffixed 80 = .ok (.bipush 83, 2) := by decide +kernel
theorem d_R_suffixed_82 : decode b_R_suffixed 82 = .ok (.invokestatic 301, 3) := by decide +kernel
theorem d_R_suffixed_85 : decode b_R_suffixed 85 = .ok (.goto 4, 3) := by decide +kernel
theorem d_R_suffixed_47 : decode b_R_suffixed 47 = .ok (.istore 8, 2) := by decide +kernel
theorem d_R_suffixed_49 : decode b_R_suffixed 49 = .ok (.iload 7, 2) := by decide +kernel
theorem d_R_suffixed_51 : decode b_R_suffixed 51 = .ok (.iload 8, 2) := by decide +kernel
theorem d_R_suffixed_53 : decode b_R_suffixed 53 = .ok (.ifCond .le 7, 3) := by decide +kernel
theorem d_R_suffixed_60 : decode b_R_suffixed 60 = .ok (.iconst 0, 1) := by decide +kernel
theorem d_R_suffixed_56 : decode b_R_suffixed 56 = .ok (.iconst 1, 1) := by decide +kernel
theorem d_R_suffixed_57 : decode b_R_suffixed 57 = .ok (.goto 4, 3) := by decide +kernel
theorem d_R_suffixed_0 : decode b_R_suffixed 0 = .ok (.lload_n 1, 1) := by decide +kernel
theorem d_R_suffixed_1 : decode b_R_suffixed 1 = .ok (.iconst 3, 1) := by decide +kernel
theorem d_R_suffixed_2 : decode b_R_suffixed 2 = .ok (.invokestatic 290, 3) := by decide +kernel
theorem d_R_suffixed_5 : decode b_R_suffixed 5 = .ok (.lstore 4, 2) := by decide +kernel
theorem d_R_suffixed_7 : decode b_R_suffixed 7 = .ok (.lload 4, 2) := by decide +kernel
theorem d_R_suffixed_9 : decode b_R_suffixed 9 = .ok (.invokestatic 294, 3) := by decide +kernel
theorem d_R_suffixed_12 : decode b_R_suffixed 12 = .ok (.istore 6, 2) := by decide +kernel
theorem d_R_suffixed_14 : decode b_R_suffixed 14 = .ok (.iload 6, 2) := by decide +kernel
theorem d_R_suffixed_16 : decode b_R_suffixed 16 = .ok (.ifCond .lt 128, 3) := by decide +kernel
theorem d_R_suffixed_144 : decode b_R_suffixed 144 = .ok (.lload 4, 2) := by decide +kernel
theorem d_R_suffixed_146 : decode b_R_suffixed 146 = .ok (.ldc2_w 305, 3) := by decide +kernel
theorem d_R_suffixed_149 : decode b_R_suffixed 149 = .ok (.lcmp, 1) := by decide +kernel
theorem d_R_suffixed_150 : decode b_R_suffixed 150 = .ok (.ifCond .ne 7, 3) := by decide +kernel
theorem d_R_suffixed_157 : decode b_R_suffixed 157 = .ok (.lload 4, 2) := by decide +kernel
theorem d_R_suffixed_159 : decode b_R_suffixed 159 = .ok (.invokestatic 307, 3) := by decide +kernel
theorem d_R_suffixed_153 : decode b_R_suffixed 153 = .ok (.iconst 0, 1) := by decide +kernel
theorem d_R_suffixed_154 : decode b_R_suffixed 154 = .ok (.goto 8, 3) := by decide +kernel
theorem d_R_suffixed_19 : decode b_R_suffixed 19 = .ok (.iconst 3, 1) := by decide +kernel
theorem d_R_suffixed_20 : decode b_R_suffixed 20 = .ok (.istore 7, 2) := by decide +kernel
theorem d_R_suffixed_22 : decode b_R_suffixed 22 = .ok (.iload 7, 2) := by decide +kernel
theorem d_R_suffixed_24 : decode b_R_suffixed 24 = .ok (.iload_n 3, 1) := by decide +kernel
theorem d_R_suffixed_25 : decode b_R_suffixed 25 = .ok (.if_icmp .ge 21, 3) := by decide +kernel
theorem d_R_suffixed_46 : decode b_R_suffixed 46 = .ok (.iconst 0, 1) := by decide +kernel
theorem d_R_suffixed_28 : decode b_R_suffixed 28 = .ok (.lload_n 1, 1) := by decide +kernel
theorem d_R_suffixed_29 : decode b_R_suffixed 29 = .ok (.iload 7, 2) := by decide +kernel
theorem d_R_suffixed_31 : decode b_R_suffixed 31 = .ok (.invokestatic 297, 3) := by decide +kernel
theorem d_R_suffixed_34 : decode b_R_suffixed 34 = .ok (.bipush 90, 2) := by decide +kernel
theorem d_R_suffixed_36 : decode b_R_suffixed 36 = .ok (.bipush 79, 2) := by decide +kernel
theorem d_R_suffixed_38 : decode b_R_suffixed 38 = .ok (.bipush 67, 2) := by decide +kernel
theorem d_R_suffixed_40 : decode b_R_suffixed 40 = .ok (.invokestatic 301, 3) := by decide +kernel
theorem d_R_suffixed_43 : decode b_R_suffixed 43 = .ok (.goto 4, 3) := by decide +kernel
theorem d_R_single_0 : decode b_R_single 0 = .ok (.aload_n 0, 1) := by decide +kernel
theorem d_R_single_1 : decode b_R_single 1 = .ok (.iload_n 2, 1) := by decide +kernel
theorem d_R_single_2 : decode b_R_single 2 = .ok (.putfield 234, 3) := by decide +kernel
theorem d_R_single_5 : decode b_R_single 5 = .ok (.aload_n 0, 1) := by decide +kernel
theorem d_R_single_6 : decode b_R_single 6 = .ok (.sipush 24576, 3) := by decide +kernel
theorem d_R_single_9 : decode b_R_single 9 = .ok (.iload_n 1, 1) := by decide +kernel
theorem d_R_single_10 : decode b_R_single 10 = .ok (.iadd, 1) := by decide +kernel
theorem d_R_single_11 : decode b_R_single 11 = .ok (.bipush 63, 2) := by decide +kernel
theorem d_R_single_13 : decode b_R_single 13 = .ok (.iadd, 1) := by decide +kernel
theorem d_R_single_14 : decode b_R_single 14 = .ok (.putfield 237, 3) := by decide +kernel
theorem d_R_single_17 : decode b_R_single 17 = .ok (.return_, 1) := by decide +kernel
theorem d_R_special_67 : decode b_R_special 67 = .ok (.lload_n 1, 1) := by decide +kernel
theorem d_R_special_68 : decode b_R_special 68 = .ok (.ldc2_w 282, 3) := by decide +kernel
theorem d_R_special_71 : decode b_R_special 71 = .ok (.ldc2_w 284, 3) := by decide +kernel
theorem d_R_special_74 : decode b_R_special 74 = .ok (.ldc2_w 286, 3) := by decide +kernel
theorem d_R_special_77 : decode b_R_special 77 = .ok (.ldc2_w 288, 3) := by decide +kernel
theorem d_R_special_80 : decode b_R_special 80 = .ok (.invokestatic 210, 3) := by decide +kernel
theorem d_R_special_83 : decode b_R_special 83 = .ok (.istore_n 3, 1) := by decide +kernel
theorem d_R_special_84 : decode b_R_special 84 = .ok (.iload_n 3, 1) := by decide +kernel
theorem d_R_special_85 : decode b_R_special 85 = .ok (.ifCond .ge 4, 3) := by decide +kernel
theorem d_R_special_89 : decode b_R_special 89 = .ok (.aload_n 0, 1) := by decide +kernel
theorem d_R_special_90 : decode b_R_special 90 = .ok (.bipush 6, 2) := by decide +kernel
theorem d_R_special_92 : decode b_R_special 92 = .ok (.putfield 234, 3) := by decide +kernel
theorem d_R_special_95 : decode b_R_special 95 = .ok (.aload_n 0, 1) := by decide +kernel
theorem d_R_special_96 : decode b_R_special 96 = .ok (.sipush 26368, 3) := by decide +kernel
theorem d_R_special_99 : decode b_R_special 99 = .ok (.bipush 64, 2) := by decide +kernel
theorem d_R_special_101 : decode b_R_special 101 = .ok (.iload_n 3, 1) := by decide +kernel
theorem d_R_special_102 : decode b_R_special 102 = .ok (.imul, 1) := by decide +kernel
theorem d_R_special_103 : decode b_R_special 103 = .ok (.iadd, 1) := by decide +kernel
theorem d_R_special_104 : decode b_R_special 104 = .ok (.putfield 237, 3) := by decide +kernel
theorem d_R_special_107 : decode b_R_special 107 = .ok (.return_, 1) := by decide +kernel
theorem d_R_special_88 : decode b_R_special 88 = .ok (.return_, 1) := by decide +kernel
theorem d_R_special_50 : decode b_R_special 50 = .ok (.lload_n 1, 1) := by decide +kernel
theorem d_R_special_51 : decode b_R_special 51 = .ok (.ldc2_w 280, 3) := by decide +kernel
theorem d_R_special_54 : decode b_R_special 54 = .ok (.lcmp, 1) := by decide +kernel
theorem d_R_special_55 : decode b_R_special 55 = .ok (.ifCond .ne 12, 3) := by decide +kernel
theorem d_R_special_58 : decode b_R_special 58 = .ok (.aload_n 0, 1) := by decide +kernel
theorem d_R_special_59 : decode b_R_special 59 = .ok (.sipush 256, 3) := by decide +kernel
theorem d_R_special_62 : decode b_R_special 62 = .ok (.bipush 9, 2) := by decide +kernel
theorem d_R_special_64 : decode b_R_special 64 = .ok (.invokevirtual 266, 3) := by decide +kernel
theorem d_R_special_33 : decode b_R_special 33 = .ok (.lload_n 1, 1) := by decide +kernel
theorem d_R_special_34 : decode b_R_special 34 = .ok (.ldc2_w 278, 3) := by decide +kernel
theorem d_R_special_37 : decode b_R_special 37 = .ok (.lcmp, 1) := by decide +kernel
theorem d_R_special_38 : decode b_R_special 38 = .ok (.ifCond .ne 12, 3) := by decide +kernel
theorem d_R_special_41 : decode b_R_special 41 = .ok (.aload_n 0, 1) := by decide +kernel
theorem d_R_special_42 : decode b_R_special 42 = .ok (.sipush 1280, 3) := by decide +kernel
theorem d_R_special_45 : decode b_R_special 45 = .ok (.bipush 8, 2) := by decide +kernel
theorem d_R_special_47 : decode b_R_special 47 = .ok (.invokevirtual 266, 3) := by decide +kernel
theorem d_R_special_16 : decode b_R_special 16 = .ok (.lload_n 1, 1) := by decide +kernel
theorem d_R_special_17 : decode b_R_special 17 = .ok (.ldc2_w 276, 3) := by decide +kernel
theorem d_R_special_20 : decode b_R_special 20 = .ok (.lcmp, 1) := by decide +kernel
theorem d_R_special_21 : decode b_R_special 21 = .ok (.ifCond .ne 12, 3) := by decide +kernel
theorem d_R_special_24 : decode b_R_special 24 = .ok (.aload_n 0, 1) := by decide +kernel
theorem d_R_special_25 : decode b_R_special 25 = .ok (.sipush 128, 3) := by decide +kernel
theorem d_R_special_28 : decode b_R_special 28 = .ok (.bipush 8, 2) := by decide +kernel
theorem d_R_special_30 : decode b_R_special 30 = .ok (.invokevirtual 266, 3) := by decide +kernel
theorem d_R_special_0 : decode b_R_special 0 = .ok (.lload_n 1, 1) := by decide +kernel
theorem d_R_special_1 : decode b_R_special 1 = .ok (.ldc2_w 274, 3) := by decide +kernel
theorem d_R_special_4 : decode b_R_special 4 = .ok (.lcmp, 1) := by decide +kernel
theorem d_R_special_5 : decode b_R_special 5 = .ok (.ifCond .ne 11, 3) := by decide +kernel
theorem d_R_special_8 : decode b_R_special 8 = .ok (.aload_n 0, 1) := by decide +kernel
theorem d_R_special_9 : decode b_R_special 9 = .ok (.bipush 64, 2) := by decide +kernel
theorem d_R_special_11 : decode b_R_special 11 = .ok (.bipush 8, 2) := by decide +kernel
theorem d_R_special_13 : decode b_R_special 13 = .ok (.invokevirtual 266, 3) := by decide +kernel
theorem d_R_classify_181 : decode b_R_classify 181 = .ok (.lload_n 1, 1) := by decide +kernel
theorem d_R_classify_182 : decode b_R_classify 182 = .ok (.ldc2_w 272, 3) := by decide +kernel
theorem d_R_classify_185 : decode b_R_classify 185 = .ok (.lcmp, 1) := by decide +kernel
theorem d_R_classify_186 : decode b_R_classify 186 = .ok (.ifCond .ne 12, 3) := by decide +kernel
theorem d_R_classify_198 : decode b_R_classify 198 = .ok (.return_, 1) := by decide +kernel
theorem d_R_classify_189 : decode b_R_classify 189 = .ok (.aload_n 0, 1) := by decide +kernel
theorem d_R_classify_190 : decode b_R_classify 190 = .ok (.sipush 1024, 3) := by decide +kernel
theorem d_R_classify_193 : decode b_R_classify 193 = .ok (.bipush 9, 2) := by decide +kernel
theorem d_R_classify_195 : decode b_R_classify 195 = .ok (.invokevirtual 266, 3) := by decide +kernel
theorem d_R_classify_164 : decode b_R_classify 164 = .ok (.lload_n 1, 1) := by decide +kernel
theorem d_R_classify_165 : decode b_R_classify 165 = .ok (.ldc2_w 270, 3) := by decide +kernel
theorem d_R_classify_168 : decode b_R_classify 168 = .ok (.lcmp, 1) := by decide +kernel
theorem d_R_classify_169 : decode b_R_classify 169 = .ok (.ifCond .ne 12, 3) := by decide +kernel
theorem d_R_classify_172 : decode b_R_classify 172 = .ok (.aload_n 0, 1) := by decide +kernel
theorem d_R_classify_173 : decode b_R_classify 173 = .ok (.sipush 768, 3) := by decide +kernel
theorem d_R_classify_176 : decode b_R_classify 176 = .ok (.bipush 9, 2) := by decide +kernel
theorem d_R_classify_178 : decode b_R_classify 178 = .ok (.invokevirtual 266, 3) := by decide +kernel
theorem d_R_classify_147 : decode b_R_classify 147 = .ok (.lload_n 1, 1) := by decide +kernel
theorem d_R_classify_148 : decode b_R_classify 148 = .ok (.ldc2_w 264, 3) := by decide +kernel
theorem d_R_classify_151 : decode b_R_classify 151 = .ok (.lcmp, 1) := by decide +kernel
theorem d_R_classify_152 : decode b_R_classify 152 = .ok (.ifCond .ne 12, 3) := by decide +kernel
theorem d_R_classify_155 : decode b_R_classify 155 = .ok (.aload_n 0, 1) := by decide +kernel
theorem d_R_classify_156 : decode b_R_classify 156 = .ok (.sipush 1536, 3) := by decide +kernel
theorem d_R_classify_159 : decode b_R_classify 159 = .ok (.bipush 8, 2) := by decide +kernel
theorem d_R_classify_161 : decode b_R_classify 161 = .ok (.invokevirtual 266, 3) := by decide +kernel
theorem d_R_classify_137 : decode b_R_classify 137 = .ok (.iload_n 3, 1) := by decide +kernel
theorem d_R_classify_138 : decode b_R_classify 138 = .ok (.iconst 5, 1) := by decide +kernel
theorem d_R_classify_139 : decode b_R_classify 139 = .ok (.if_icmp .ne 8, 3) := by decide +kernel
theorem d_R_classify_142 : decode b_R_classify 142 = .ok (.aload_n 0, 1) := by decide +kernel
theorem d_R_classify_143 : decode b_R_classify 143 = .ok (.lload_n 1, 1) := by decide +kernel
theorem d_R_classify_144 : decode b_R_classify 144 = .ok (.invokevirtual 260, 3) := by decide +kernel
theorem d_R_classify_121 : decode b_R_classify 121 = .ok (.iload_n 3, 1) := by decide +kernel
theorem d_R_classify_122 : decode b_R_classify 122 = .ok (.iconst 3, 1) := by decide +kernel
theorem d_R_classify_123 : decode b_R_classify 123 = .ok (.if_icmp .lt 14, 3) := by decide +kernel
theorem d_R_classify_126 : decode b_R_classify 126 = .ok (.iload_n 3, 1) := by decide +kernel
theorem d_R_classify_127 : decode b_R_classify 127 = .ok (.iconst 5, 1) := by decide +kernel
theorem d_R_classify_128 : decode b_R_classify 128 = .ok (.if_icmp .gt 9, 3) := by decide +kernel
theorem d_R_classify_131 : decode b_R_classify 131 = .ok (.aload_n 0, 1) := by decide +kernel
theorem d_R_classify_132 : decode b_R_classify 132 = .ok (.lload_n 1, 1) := by decide +kernel
theorem d_R_classify_133 : decode b_R_classify 133 = .ok (.iload_n 3, 1) := by decide +kernel
theorem d_R_classify_134 : decode b_R_classify 134 = .ok (.invokevirtual 256, 3) := by decide +kernel
theorem d_R_classify_118 : decode b_R_classify 118 = .ok (.putfield 237, 3) := by decide +kernel
theorem d_R_classify_95 : decode b_R_classify 95 = .ok (.aload_n 0, 1) := by decide +kernel
theorem d_R_classify_96 : decode b_R_classify 96 = .ok (.iconst 4, 1) := by decide +kernel
theorem d_R_classify_97 : decode b_R_classify 97 = .ok (.putfield 234, 3) := by decide +kernel
theorem d_R_classify_100 : decode b_R_classify 100 = .ok (.aload_n 0, 1) := by decide +kernel
theorem d_R_classify_101 : decode b_R_classify 101 = .ok (.lload_n 1, 1) := by decide +kernel
theorem d_R_classify_102 : decode b_R_classify 102 = .ok (.ldc2_w 252, 3) := by decide +kernel
theorem d_R_classify_105 : decode b_R_classify 105 = .ok (.lcmp, 1) := by decide +kernel
theorem d_R_classify_106 : decode b_R_classify 106 = .ok (.ifCond .ne 9, 3) := by decide +kernel
theorem d_R_classify_115 : decode b_R_classify 115 = .ok (.sipush 16384, 3) := by decide +kernel
theorem d_R_classify_109 : decode b_R_classify 109 = .ok (.sipush 8192, 3) := by decide +kernel
theorem d_R_classify_112 : decode b_R_classify 112 = .ok (.goto 6, 3) := by decide +kernel
theorem d_R_classify_79 : decode b_R_classify 79 = .ok (.lload_n 1, 1) := by decide +kernel
theorem d_R_classify_80 : decode b_R_classify 80 = .ok (.ldc2_w 252, 3) := by decide +kernel
theorem d_R_classify_83 : decode b_R_classify 83 = .ok (.lcmp, 1) := by decide +kernel
theorem d_R_classify_84 : decode b_R_classify 84 = .ok (.ifCond .eq 11, 3) := by decide +kernel
theorem d_R_classify_87 : decode b_R_classify 87 = .ok (.lload_n 1, 1) := by decide +kernel
theorem d_R_classify_88 : decode b_R_classify 88 = .ok (.ldc2_w 254, 3) := by decide +kernel
theorem d_R_classify_91 : decode b_R_classify 91 = .ok (.lcmp, 1) := by decide +kernel
theorem d_R_classify_92 : decode b_R_classify 92 = .ok (.ifCond .ne 29, 3) := by decide +kernel
theorem d_R_classify_41 : decode b_R_classify 41 = .ok (.lload_n 1, 1) := by decide +kernel
theorem d_R_classify_42 : decode b_R_classify 42 = .ok (.ldc2_w 244, 3) := by decide +kernel
theorem d_R_classify_45 : decode b_R_classify 45 = .ok (.ldc2_w 246, 3) := by decide +kernel
theorem d_R_classify_48 : decode b_R_classify 48 = .ok (.ldc2_w 248, 3) := by decide +kernel
theorem d_R_classify_51 : decode b_R_classify 51 = .ok (.ldc2_w 250, 3) := by decide +kernel
theorem d_R_classify_54 : decode b_R_classify 54 = .ok (.invokestatic 210, 3) := by decide +kernel
theorem d_R_classify_57 : decode b_R_classify 57 = .ok (.istore 4, 2) := by decide +kernel
theorem d_R_classify_59 : decode b_R_classify 59 = .ok (.iload 4, 2) := by decide +kernel
theorem d_R_classify_61 : decode b_R_classify 61 = .ok (.ifCond .lt 18, 3) := by decide +kernel
theorem d_R_classify_64 : decode b_R_classify 64 = .ok (.aload_n 0, 1) := by decide +kernel
theorem d_R_classify_65 : decode b_R_classify 65 = .ok (.iconst 3, 1) := by decide +kernel
theorem d_R_classify_66 : decode b_R_classify 66 = .ok (.putfield 234, 3) := by decide +kernel
theorem d_R_classify_69 : decode b_R_classify 69 = .ok (.aload_n 0, 1) := by decide +kernel
theorem d_R_classify_70 : decode b_R_classify 70 = .ok (.sipush 2048, 3) := by decide +kernel
theorem d_R_classify_73 : decode b_R_classify 73 = .ok (.iload 4, 2) := by decide +kernel
theorem d_R_classify_75 : decode b_R_classify 75 = .ok (.imul, 1) := by decide +kernel
theorem d_R_classify_76 : decode b_R_classify 76 = .ok (.putfield 237, 3) := by decide +kernel
theorem d_R_classify_28 : decode b_R_classify 28 = .ok (.lload_n 1, 1) := by decide +kernel
theorem d_R_classify_29 : decode b_R_classify 29 = .ok (.ldc2_w 242, 3) := by decide +kernel
theorem d_R_classify_32 : decode b_R_classify 32 = .ok (.lcmp, 1) := by decide +kernel
theorem d_R_classify_33 : decode b_R_classify 33 = .ok (.ifCond .ne 8, 3) := by decide +kernel
theorem d_R_classify_36 : decode b_R_classify 36 = .ok (.aload_n 0, 1) := by decide +kernel
theorem d_R_classify_37 : decode b_R_classify 37 = .ok (.iconst 2, 1) := by decide +kernel
theorem d_R_classify_38 : decode b_R_classify 38 = .ok (.putfield 234, 3) := by decide +kernel
theorem d_R_classify_0 : decode b_R_classify 0 = .ok (.aload_n 0, 1) := by decide +kernel
theorem d_R_classify_1 : decode b_R_classify 1 = .ok (.iconst 0, 1) := by decide +kernel
theorem d_R_classify_2 : decode b_R_classify 2 = .ok (.putfield 234, 3) := by decide +kernel
theorem d_R_classify_5 : decode b_R_classify 5 = .ok (.aload_n 0, 1) := by decide +kernel
theorem d_R_classify_6 : decode b_R_classify 6 = .ok (.iconst 0, 1) := by decide +kernel
theorem d_R_classify_7 : decode b_R_classify 7 = .ok (.putfield 237, 3) := by decide +kernel
theorem d_R_classify_10 : decode b_R_classify 10 = .ok (.lload_n 1, 1) := by decide +kernel
theorem d_R_classify_11 : decode b_R_classify 11 = .ok (.invokestatic 198, 3) := by decide +kernel
theorem d_R_classify_14 : decode b_R_classify 14 = .ok (.istore_n 3, 1) := by decide +kernel
theorem d_R_classify_15 : decode b_R_classify 15 = .ok (.lload_n 1, 1) := by decide +kernel
theorem d_R_classify_16 : decode b_R_classify 16 = .ok (.ldc2_w 240, 3) := by decide +kernel
theorem d_R_classify_19 : decode b_R_classify 19 = .ok (.lcmp, 1) := by decide +kernel
theorem d_R_classify_20 : decode b_R_classify 20 = .ok (.ifCond .ne 8, 3) := by decide +kernel
theorem d_R_classify_23 : decode b_R_classify 23 = .ok (.aload_n 0, 1) := by decide +kernel
theorem d_R_classify_24 : decode b_R_classify 24 = .ok (.iconst 1, 1) := by decide +kernel
theorem d_R_classify_25 : decode b_R_classify 25 = .ok (.putfield 234, 3) := by decide +kernel
theorem d_R_fixed_0 : decode b_R_fixed 0 = .ok (.lload_n 0, 1) := by decide +kernel
theorem d_R_fixed_1 : decode b_R_fixed 1 = .ok (.ldc2_w 310, 3) := by decide +kernel
theorem d_R_fixed_4 : decode b_R_fixed 4 = .ok (.ldc2_w 312, 3) := by decide +kernel
theorem d_R_fixed_7 : decode b_R_fixed 7 = .ok (.ldc2_w 314, 3) := by decide +kernel
theorem d_R_fixed_10 : decode b_R_fixed 10 = .ok (.ldc2_w 316, 3) := by decide +kernel
theorem d_R_fixed_13 : decode b_R_fixed 13 = .ok (.invokestatic 210, 3) := by decide +kernel
theorem d_R_fixed_16 : decode b_R_fixed 16 = .ok (.istore_n 2, 1) := by decide +kernel
theorem d_R_fixed_17 : decode b_R_fixed 17 = .ok (.iload_n 2, 1) := by decide +kernel
theorem d_R_fixed_18 : decode b_R_fixed 18 = .ok (.ifCond .lt 18, 3) := by decide +kernel
theorem d_R_fixed_36 : decode b_R_fixed 36 = .ok (.lload_n 0, 1) := by decide +kernel
theorem d_R_fixed_37 : decode b_R_fixed 37 = .ok (.ldc2_w 318, 3) := by decide +kernel
theorem d_R_fixed_40 : decode b_R_fixed 40 = .ok (.ldc2_w 320, 3) := by decide +kernel
theorem d_R_fixed_43 : decode b_R_fixed 43 = .ok (.ldc2_w 322, 3) := by decide +kernel
theorem d_R_fixed_46 : decode b_R_fixed 46 = .ok (.ldc2_w 324, 3) := by decide +kernel
theorem d_R_fixed_49 : decode b_R_fixed 49 = .ok (.invokestatic 210, 3) := by decide +kernel
theorem d_R_fixed_52 : decode b_R_fixed 52 = .ok (.istore_n 3, 1) := by decide +kernel
theorem d_R_fixed_53 : decode b_R_fixed 53 = .ok (.iload_n 3, 1) := by decide +kernel
theorem d_R_fixed_54 : decode b_R_fixed 54 = .ok (.ifCond .lt 7, 3) := by decide +kernel
theorem d_R_fixed_61 : decode b_R_fixed 61 = .ok (.lload_n 0, 1) := by decide +kernel
theorem d_R_fixed_62 : decode b_R_fixed 62 = .ok (.ldc2_w 326, 3) := by decide +kernel
theorem d_R_fixed_65 : decode b_R_fixed 65 = .ok (.ldc2_w 328, 3) := by decide +kernel
theorem d_R_fixed_68 : decode b_R_fixed 68 = .ok (.ldc2_w 330, 3) := by decide +kernel
theorem d_R_fixed_71 : decode b_R_fixed 71 = .ok (.lconst 0, 1) := by decide +kernel
theorem d_R_fixed_72 : decode b_R_fixed 72 = .ok (.invokestatic 210, 3) := by decide +kernel
theorem d_R_fixed_75 : decode b_R_fixed 75 = .ok (.istore 4, 2) := by decide +kernel
theorem d_R_fixed_77 : decode b_R_fixed 77 = .ok (.iload 4, 2) := by decide +kernel
theorem d_R_fixed_79 : decode b_R_fixed 79 = .ok (.ifCond .lt 10, 3) := by decide +kernel
theorem d_R_fixed_89 : decode b_R_fixed 89 = .ok (.iconst (-1), 1) := by decide +kernel
theorem d_R_fixed_90 : decode b_R_fixed 90 = .ok (.ireturn, 1) := by decide +kernel
theorem d_R_fixed_82 : decode b_R_fixed 82 = .ok (.iconst 5, 1) := by decide +kernel
theorem d_R_fixed_83 : decode b_R_fixed 83 = .ok (.iload 4, 2) := by decide +kernel
theorem d_R_fixed_85 : decode b_R_fixed 85 = .ok (.iadd, 1) := by decide +kernel
theorem d_R_fixed_86 : decode b_R_fixed 86 = .ok (.goto 4, 3) := by decide +kernel
theorem d_R_fixed_57 : decode b_R_fixed 57 = .ok (.iconst 1, 1) := by decide +kernel
theorem d_R_fixed_58 : decode b_R_fixed 58 = .ok (.iload_n 3, 1) := by decide +kernel
theorem d_R_fixed_59 : decode b_R_fixed 59 = .ok (.iadd, 1) := by decide +kernel
theorem d_R_fixed_60 : decode b_R_fixed 60 = .ok (.ireturn, 1) := by decide +kernel
theorem d_R_fixed_21 : decode b_R_fixed 21 = .ok (.iload_n 2, 1) := by decide +kernel
theorem d_R_fixed_22 : decode b_R_fixed 22 = .ok (.iconst 3, 1) := by decide +kernel
theorem d_R_fixed_23 : decode b_R_fixed 23 = .ok (.if_icmp .ne 8, 3) := by decide +kernel
theorem d_R_fixed_31 : decode b_R_fixed 31 = .ok (.bipush 8, 2) := by decide +kernel
theorem d_R_fixed_33 : decode b_R_fixed 33 = .ok (.iload_n 2, 1) := by decide +kernel
theorem d_R_fixed_34 : decode b_R_fixed 34 = .ok (.iadd, 1) := by decide +kernel
theorem d_R_fixed_35 : decode b_R_fixed 35 = .ok (.ireturn, 1) := by decide +kernel
theorem d_R_fixed_26 : decode b_R_fixed 26 = .ok (.bipush 63, 2) := by decide +kernel
theorem d_R_fixed_28 : decode b_R_fixed 28 = .ok (.goto 7, 3) := by decide +kernel
theorem d_R_labelOf_2 : decode b_R_labelOf 2 = .ok (.iload_n 3, 1) := by decide +kernel
theorem d_R_labelOf_3 : decode b_R_labelOf 3 = .ok (.aload_n 0, 1) := by decide +kernel
theorem d_R_labelOf_4 : decode b_R_labelOf 4 = .ok (.getfield 332, 3) := by decide +kernel
theorem d_R_labelOf_7 : decode b_R_labelOf 7 = .ok (.if_icmp .ge 22, 3) := by decide +kernel
theorem d_R_labelOf_29 : decode b_R_labelOf 29 = .ok (.iconst (-1), 1) := by decide +kernel
theorem d_R_labelOf_30 : decode b_R_labelOf 30 = .ok (.ireturn, 1) := by decide +kernel
theorem d_R_labelOf_10 : decode b_R_labelOf 10 = .ok (.aload_n 0, 1) := by decide +kernel
theorem d_R_labelOf_11 : decode b_R_labelOf 11 = .ok (.getfield 40, 3) := by decide +kernel
theorem d_R_labelOf_14 : decode b_R_labelOf 14 = .ok (.iload_n 3, 1) := by decide +kernel
theorem d_R_labelOf_15 : decode b_R_labelOf 15 = .ok (.laload, 1) := by decide +kernel
theorem d_R_labelOf_16 : decode b_R_labelOf 16 = .ok (.lload_n 1, 1) := by decide +kernel
theorem d_R_labelOf_17 : decode b_R_labelOf 17 = .ok (.lcmp, 1) := by decide +kernel
theorem d_R_labelOf_18 : decode b_R_labelOf 18 = .ok (.ifCond .ne 5, 3) := by decide +kernel
theorem d_R_labelOf_23 : decode b_R_labelOf 23 = .ok (.iinc 3 1, 3) := by decide +kernel
theorem d_R_labelOf_26 : decode b_R_labelOf 26 = .ok (.goto (-24), 3) := by decide +kernel
theorem d_R_labelOf_21 : decode b_R_labelOf 21 = .ok (.iload_n 3, 1) := by decide +kernel
theorem d_R_labelOf_22 : decode b_R_labelOf 22 = .ok (.ireturn, 1) := by decide +kernel
theorem d_R_labelOf_0 : decode b_R_labelOf 0 = .ok (.iconst 0, 1) := by decide +kernel
theorem d_R_labelOf_1 : decode b_R_labelOf 1 = .ok (.istore_n 3, 1) := by decide +kernel
theorem d_R_numberOf_0 : decode b_R_numberOf 0 = .ok (.lload_n 1, 1) := by decide +kernel
theorem d_R_numberOf_1 : decode b_R_numberOf 1 = .ok (.ldc2_w 335, 3) := by decide +kernel
theorem d_R_numberOf_4 : decode b_R_numberOf 4 = .ok (.lcmp, 1) := by decide +kernel
theorem d_R_numberOf_5 : decode b_R_numberOf 5 = .ok (.ifCond .ne 8, 3) := by decide +kernel
theorem d_R_numberOf_13 : decode b_R_numberOf 13 = .ok (.lload_n 1, 1) := by decide +kernel
theorem d_R_numberOf_14 : decode b_R_numberOf 14 = .ok (.invokestatic 340, 3) := by decide +kernel
theorem d_R_numberOf_17 : decode b_R_numberOf 17 = .ok (.istore_n 3, 1) := by decide +kernel
theorem d_R_numberOf_18 : decode b_R_numberOf 18 = .ok (.aload_n 0, 1) := by decide +kernel
theorem d_R_numberOf_19 : decode b_R_numberOf 19 = .ok (.lload_n 1, 1) := by decide +kernel
theorem d_R_numberOf_20 : decode b_R_numberOf 20 = .ok (.invokevirtual 343, 3) := by decide +kernel
theorem d_R_numberOf_23 : decode b_R_numberOf 23 = .ok (.istore 4, 2) := by decide +kernel
theorem d_R_numberOf_25 : decode b_R_numberOf 25 = .ok (.iload_n 3, 1) := by decide +kernel
theorem d_R_numberOf_26 : decode b_R_numberOf 26 = .ok (.ifCond .lt 7, 3) := by decide +kernel
theorem d_R_numberOf_33 : decode b_R_numberOf 33 = .ok (.iload 4, 2) := by decide +kernel
theorem d_R_numberOf_35 : decode b_R_numberOf 35 = .ok (.ifCond .lt 13, 3) := by decide +kernel
theorem d_R_numberOf_48 : decode b_R_numberOf 48 = .ok (.iconst (-1), 1) := by decide +kernel
theorem d_R_numberOf_49 : decode b_R_numberOf 49 = .ok (.ireturn, 1) := by decide +kernel
theorem d_R_numberOf_38 : decode b_R_numberOf 38 = .ok (.aload_n 0, 1) := by decide +kernel
theorem d_R_numberOf_39 : decode b_R_numberOf 39 = .ok (.getfield 44, 3) := by decide +kernel
theorem d_R_numberOf_42 : decode b_R_numberOf 42 = .ok (.iload 4, 2) := by decide +kernel
theorem d_R_numberOf_44 : decode b_R_numberOf 44 = .ok (.iaload, 1) := by decide +kernel
theorem d_R_numberOf_45 : decode b_R_numberOf 45 = .ok (.goto 4, 3) := by decide +kernel
theorem d_R_numberOf_29 : decode b_R_numberOf 29 = .ok (.iload_n 3, 1) := by decide +kernel
theorem d_R_numberOf_30 : decode b_R_numberOf 30 = .ok (.goto 19, 3) := by decide +kernel
theorem d_R_numberOf_8 : decode b_R_numberOf 8 = .ok (.aload_n 0, 1) := by decide +kernel
theorem d_R_numberOf_9 : decode b_R_numberOf 9 = .ok (.getfield 337, 3) := by decide +kernel
theorem d_R_numberOf_12 : decode b_R_numberOf 12 = .ok (.ireturn, 1) := by decide +kernel
theorem d_R_term_58 : decode b_R_term 58 = .ok (.aload_n 0, 1) := by decide +kernel
theorem d_R_term_59 : decode b_R_term 59 = .ok (.invokevirtual 349, 3) := by decide +kernel
theorem d_R_term_62 : decode b_R_term 62 = .ok (.pop, 1) := by decide +kernel
theorem d_R_term_63 : decode b_R_term 63 = .ok (.iload_n 1, 1) := by decide +kernel
theorem d_R_term_64 : decode b_R_term 64 = .ok (.ireturn, 1) := by decide +kernel
theorem d_R_term_0 : decode b_R_term 0 = .ok (.aload_n 0, 1) := by decide +kernel
theorem d_R_term_1 : decode b_R_term 1 = .ok (.getfield 122, 3) := by decide +kernel
theorem d_R_term_4 : decode b_R_term 4 = .ok (.ifCond .eq 5, 3) := by decide +kernel
theorem d_R_term_9 : decode b_R_term 9 = .ok (.aload_n 0, 1) := by decide +kernel
theorem d_R_term_10 : decode b_R_term 10 = .ok (.getfield 188, 3) := by decide +kernel
theorem d_R_term_13 : decode b_R_term 13 = .ok (.istore_n 1, 1) := by decide +kernel
theorem d_R_term_14 : decode b_R_term 14 = .ok (.aload_n 0, 1) := by decide +kernel
theorem d_R_term_15 : decode b_R_term 15 = .ok (.getfield 179, 3) := by decide +kernel
theorem d_R_term_18 : decode b_R_term 18 = .ok (.iconst 1, 1) := by decide +kernel
theorem d_R_term_19 : decode b_R_term 19 = .ok (.if_icmp .ne 25, 3) := by decide +kernel
theorem d_R_term_44 : decode b_R_term 44 = .ok (.aload_n 0, 1) := by decide +kernel
theorem d_R_term_45 : decode b_R_term 45 = .ok (.getfield 179, 3) := by decide +kernel
theorem d_R_term_48 : decode b_R_term 48 = .ok (.iconst 2, 1) := by decide +kernel
theorem d_R_term_49 : decode b_R_term 49 = .ok (.if_icmp .eq 9, 3) := by decide +kernel
theorem d_R_term_52 : decode b_R_term 52 = .ok (.aload_n 0, 1) := by decide +kernel
theorem d_R_term_53 : decode b_R_term 53 = .ok (.iconst 2, 1) := by decide +kernel
theorem d_R_term_54 : decode b_R_term 54 = .ok (.invokevirtual 191, 3) := by decide +kernel
theorem d_R_term_57 : decode b_R_term 57 = .ok (.pop, 1) := by decide +kernel
theorem d_R_term_22 : decode b_R_term 22 = .ok (.aload_n 0, 1) := by decide +kernel
theorem d_R_term_23 : decode b_R_term 23 = .ok (.aload_n 0, 1) := by decide +kernel
theorem d_R_term_24 : decode b_R_term 24 = .ok (.getfield 194, 3) := by decide +kernel
theorem d_R_term_27 : decode b_R_term 27 = .ok (.invokevirtual 346, 3) := by decide +kernel
theorem d_R_term_30 : decode b_R_term 30 = .ok (.istore_n 1, 1) := by decide +kernel
theorem d_R_term_31 : decode b_R_term 31 = .ok (.iload_n 1, 1) := by decide +kernel
theorem d_R_term_32 : decode b_R_term 32 = .ok (.ifCond .ge 26, 3) := by decide +kernel
theorem d_R_term_35 : decode b_R_term 35 = .ok (.aload_n 0, 1) := by decide +kernel
theorem d_R_term_36 : decode b_R_term 36 = .ok (.iconst 3, 1) := by decide +kernel
theorem d_R_term_37 : decode b_R_term 37 = .ok (.invokevirtual 191, 3) := by decide +kernel
theorem d_R_term_40 : decode b_R_term 40 = .ok (.pop, 1) := by decide +kernel
theorem d_R_term_41 : decode b_R_term 41 = .ok (.goto 17, 3) := by decide +kernel
theorem d_R_term_7 : decode b_R_term 7 = .ok (.iconst 0, 1) := by decide +kernel
theorem d_R_term_8 : decode b_R_term 8 = .ok (.ireturn, 1) := by decide +kernel
theorem d_R_expression_100 : decode b_R_expression 100 = .ok (.iload_n 2, 1) := by decide +kernel
theorem d_R_expression_101 : decode b_R_expression 101 = .ok (.ldc 134, 2) := by decide +kernel
theorem d_R_expression_103 : decode b_R_expression 103 = .ok (.irem, 1) := by decide +kernel
theorem d_R_expression_104 : decode b_R_expression 104 = .ok (.ldc 134, 2) := by decide +kernel
theorem d_R_expression_106 : decode b_R_expression 106 = .ok (.iadd, 1) := by decide +kernel
theorem d_R_expression_107 : decode b_R_expression 107 = .ok (.ldc 134, 2) := by decide +kernel
theorem d_R_expression_109 : decode b_R_expression 109 = .ok (.irem, 1) := by decide +kernel
theorem d_R_expression_110 : decode b_R_expression 110 = .ok (.ireturn, 1) := by decide +kernel
theorem d_R_expression_95 : decode b_R_expression 95 = .ok (.iadd, 1) := by decide +kernel
theorem d_R_expression_96 : decode b_R_expression 96 = .ok (.istore_n 2, 1) := by decide +kernel
theorem d_R_expression_97 : decode b_R_expression 97 = .ok (.goto (-55), 3) := by decide +kernel
theorem d_R_expression_67 : decode b_R_expression 67 = .ok (.aload_n 0, 1) := by decide +kernel
theorem d_R_expression_68 : decode b_R_expression 68 = .ok (.bipush 45, 2) := by decide +kernel
theorem d_R_expression_70 : decode b_R_expression 70 = .ok (.invokevirtual 352, 3) := by decide +kernel
theorem d_R_expression_73 : decode b_R_expression 73 = .ok (.istore_n 1, 1) := by decide +kernel
theorem d_R_expression_74 : decode b_R_expression 74 = .ok (.aload_n 0, 1) := by decide +kernel
theorem d_R_expression_75 : decode b_R_expression 75 = .ok (.invokevirtual 349, 3) := by decide +kernel
theorem d_R_expression_78 : decode b_R_expression 78 = .ok (.pop, 1) := by decide +kernel
theorem d_R_expression_79 : decode b_R_expression 79 = .ok (.aload_n 0, 1) := by decide +kernel
theorem d_R_expression_80 : decode b_R_expression 80 = .ok (.invokevirtual 355, 3) := by decide +kernel
theorem d_R_expression_83 : decode b_R_expression 83 = .ok (.istore_n 3, 1) := by decide +kernel
theorem d_R_expression_84 : decode b_R_expression 84 = .ok (.iload_n 2, 1) := by decide +kernel
theorem d_R_expression_85 : decode b_R_expression 85 = .ok (.iload_n 1, 1) := by decide +kernel
theorem d_R_expression_86 : decode b_R_expression 86 = .ok (.ifCond .eq 8, 3) := by decide +kernel
theorem d_R_expression_94 : decode b_R_expression 94 = .ok (.iload_n 3, 1) := by decide +kernel
theorem d_R_expression_89 : decode b_R_expression 89 = .ok (.iload_n 3, 1) := by decide +kernel
theorem d_R_expression_90 : decode b_R_expression 90 = .ok (.ineg, 1) := by decide +kernel
theorem d_R_expression_91 : decode b_R_expression 91 = .ok (.goto 4, 3) := by decide +kernel
theorem d_R_expression_42 : decode b_R_expression 42 = .ok (.aload_n 0, 1) := by decide +kernel
theorem d_R_expression_43 : decode b_R_expression 43 = .ok (.getfield 122, 3) := by decide +kernel
theorem d_R_expression_46 : decode b_R_expression 46 = .ok (.ifCond .ne 54, 3) := by decide +kernel
theorem d_R_expression_49 : decode b_R_expression 49 = .ok (.aload_n 0, 1) := by decide +kernel
theorem d_R_expression_50 : decode b_R_expression 50 = .ok (.bipush 43, 2) := by decide +kernel
theorem d_R_expression_52 : decode b_R_expression 52 = .ok (.invokevirtual 352, 3) := by decide +kernel
theorem d_R_expression_55 : decode b_R_expression 55 = .ok (.ifCond .ne 12, 3) := by decide +kernel
theorem d_R_expression_58 : decode b_R_expression 58 = .ok (.aload_n 0, 1) := by decide +kernel
theorem d_R_expression_59 : decode b_R_expression 59 = .ok (.bipush 45, 2) := by decide +kernel
theorem d_R_expression_61 : decode b_R_expression 61 = .ok (.invokevirtual 352, 3) := by decide +kernel
theorem d_R_expression_64 : decode b_R_expression 64 = .ok (.ifCond .eq 36, 3) := by decide +kernel
theorem d_R_expression_41 : decode b_R_expression 41 = .ok (.istore_n 2, 1) := by decide +kernel
theorem d_R_expression_25 : decode b_R_expression 25 = .ok (.iload_n 1, 1) := by decide +kernel
theorem d_R_expression_26 : decode b_R_expression 26 = .ok (.ifCond .eq 11, 3) := by decide +kernel
theorem d_R_expression_37 : decode b_R_expression 37 = .ok (.aload_n 0, 1) := by decide +kernel
theorem d_R_expression_38 : decode b_R_expression 38 = .ok (.invokevirtual 355, 3) := by decide +kernel
theorem d_R_expression_29 : decode b_R_expression 29 = .ok (.aload_n 0, 1) := by decide +kernel
theorem d_R_expression_30 : decode b_R_expression 30 = .ok (.invokevirtual 355, 3) := by decide +kernel
theorem d_R_expression_33 : decode b_R_expression 33 = .ok (.ineg, 1) := by decide +kernel
theorem d_R_expression_34 : decode b_R_expression 34 = .ok (.goto 7, 3) := by decide +kernel
theorem d_R_expression_20 : decode b_R_expression 20 = .ok (.aload_n 0, 1) := by decide +kernel
theorem d_R_expression_21 : decode b_R_expression 21 = .ok (.invokevirtual 349, 3) := by decide +kernel
theorem d_R_expression_24 : decode b_R_expression 24 = .ok (.pop, 1) := by decide +kernel
theorem d_R_expression_0 : decode b_R_expression 0 = .ok (.aload_n 0, 1) := by decide +kernel
theorem d_R_expression_1 : decode b_R_expression 1 = .ok (.bipush 45, 2) := by decide +kernel
theorem d_R_expression_3 : decode b_R_expression 3 = .ok (.invokevirtual 352, 3) := by decide +kernel
theorem d_R_expression_6 : decode b_R_expression 6 = .ok (.istore_n 1, 1) := by decide +kernel
theorem d_R_expression_7 : decode b_R_expression 7 = .ok (.aload_n 0, 1) := by decide +kernel
theorem d_R_expression_8 : decode b_R_expression 8 = .ok (.bipush 43, 2) := by decide +kernel
theorem d_R_expression_10 : decode b_R_expression 10 = .ok (.invokevirtual 352, 3) := by decide +kernel
theorem d_R_expression_13 : decode b_R_expression 13 = .ok (.ifCond .ne 7, 3) := by decide +kernel
theorem d_R_expression_16 : decode b_R_expression 16 = .ok (.iload_n 1, 1) := by decide +kernel
theorem d_R_expression_17 : decode b_R_expression 17 = .ok (.ifCond .eq 8, 3) := by decide +kernel
theorem d_R_comma_23 : decode b_R_comma 23 = .ok (.aload_n 0, 1) := by decide +kernel
theorem d_R_comma_24 : decode b_R_comma 24 = .ok (.invokevirtual 349, 3) := by decide +kernel
theorem d_R_comma_27 : decode b_R_comma 27 = .ok (.pop, 1) := by decide +kernel
theorem d_R_comma_28 : decode b_R_comma 28 = .ok (.return_, 1) := by decide +kernel
theorem d_R_comma_0 : decode b_R_comma 0 = .ok (.aload_n 0, 1) := by decide +kernel
theorem d_R_comma_1 : decode b_R_comma 1 = .ok (.getfield 122, 3) := by decide +kernel
theorem d_R_comma_4 : decode b_R_comma 4 = .ok (.ifCond .eq 4, 3) := by decide +kernel
theorem d_R_comma_8 : decode b_R_comma 8 = .ok (.aload_n 0, 1) := by decide +kernel
theorem d_R_comma_9 : decode b_R_comma 9 = .ok (.bipush 44, 2) := by decide +kernel
theorem d_R_comma_11 : decode b_R_comma 11 = .ok (.invokevirtual 352, 3) := by decide +kernel
theorem d_R_comma_14 : decode b_R_comma 14 = .ok (.ifCond .ne 9, 3) := by decide +kernel
theorem d_R_comma_17 : decode b_R_comma 17 = .ok (.aload_n 0, 1) := by decide +kernel
theorem d_R_comma_18 : decode b_R_comma 18 = .ok (.iconst 2, 1) := by decide +kernel
theorem d_R_comma_19 : decode b_R_comma 19 = .ok (.invokevirtual 191, 3) := by decide +kernel
theorem d_R_comma_22 : decode b_R_comma 22 = .ok (.pop, 1) := by decide +kernel
theorem d_R_comma_7 : decode b_R_comma 7 = .ok (.return_, 1) := by decide +kernel
theorem d_R_bounded_0 : decode b_R_bounded 0 = .ok (.aload_n 0, 1) := by decide +kernel
theorem d_R_bounded_1 : decode b_R_bounded 1 = .ok (.invokevirtual 358, 3) := by decide +kernel
theorem d_R_bounded_4 : decode b_R_bounded 4 = .ok (.istore_n 2, 1) := by decide +kernel
theorem d_R_bounded_5 : decode b_R_bounded 5 = .ok (.aload_n 0, 1) := by decide +kernel
theorem d_R_bounded_6 : decode b_R_bounded 6 = .ok (.getfield 59, 3) := by decide +kernel
theorem d_R_bounded_9 : decode b_R_bounded 9 = .ok (.aload_n 0, 1) := by decide +kernel
theorem d_R_bounded_10 : decode b_R_bounded 10 = .ok (.getfield 361, 3) := by decide +kernel
theorem d_R_bounded_13 : decode b_R_bounded 13 = .ok (.iload_n 2, 1) := by decide +kernel
theorem d_R_bounded_14 : decode b_R_bounded 14 = .ok (.iastore, 1) := by decide +kernel
theorem d_R_bounded_15 : decode b_R_bounded 15 = .ok (.aload_n 0, 1) := by decide +kernel
theorem d_R_bounded_16 : decode b_R_bounded 16 = .ok (.getfield 62, 3) := by decide +kernel
theorem d_R_bounded_19 : decode b_R_bounded 19 = .ok (.aload_n 0, 1) := by decide +kernel
theorem d_R_bounded_20 : decode b_R_bounded 20 = .ok (.getfield 361, 3) := by decide +kernel
theorem d_R_bounded_23 : decode b_R_bounded 23 = .ok (.iload_n 1, 1) := by decide +kernel
theorem d_R_bounded_24 : decode b_R_bounded 24 = .ok (.iastore, 1) := by decide +kernel
theorem d_R_bounded_25 : decode b_R_bounded 25 = .ok (.aload_n 0, 1) := by decide +kernel
theorem d_R_bounded_26 : decode b_R_bounded 26 = .ok (.dup, 1) := by decide +kernel
theorem d_R_bounded_27 : decode b_R_bounded 27 = .ok (.getfield 361, 3) := by decide +kernel
theorem d_R_bounded_30 : decode b_R_bounded 30 = .ok (.iconst 1, 1) := by decide +kernel
theorem d_R_bounded_31 : decode b_R_bounded 31 = .ok (.iadd, 1) := by decide +kernel
theorem d_R_bounded_32 : decode b_R_bounded 32 = .ok (.putfield 361, 3) := by decide +kernel
theorem d_R_bounded_35 : decode b_R_bounded 35 = .ok (.iload_n 2, 1) := by decide +kernel
theorem d_R_bounded_36 : decode b_R_bounded 36 = .ok (.ireturn, 1) := by decide +kernel
theorem d_R_address_160 : decode b_R_address 160 = .ok (.iload_n 1, 1) := by decide +kernel
theorem d_R_address_161 : decode b_R_address 161 = .ok (.sipush 256, 3) := by decide +kernel
theorem d_R_address_164 : decode b_R_address 164 = .ok (.iload_n 3, 1) := by decide +kernel
theorem d_R_address_165 : decode b_R_address 165 = .ok (.iconst 3, 1) := by decide +kernel
theorem d_R_address_166 : decode b_R_address 166 = .ok (.iand, 1) := by decide +kernel
theorem d_R_address_167 : decode b_R_address 167 = .ok (.imul, 1) := by decide +kernel
theorem d_R_address_168 : decode b_R_address 168 = .ok (.iadd, 1) := by decide +kernel
theorem d_R_address_169 : decode b_R_address 169 = .ok (.iload 4, 2) := by decide +kernel
theorem d_R_address_171 : decode b_R_address 171 = .ok (.sipush 255, 3) := by decide +kernel
theorem d_R_address_174 : decode b_R_address 174 = .ok (.iand, 1) := by decide +kernel
theorem d_R_address_175 : decode b_R_address 175 = .ok (.iadd, 1) := by decide +kernel
theorem d_R_address_176 : decode b_R_address 176 = .ok (.ireturn, 1) := by decide +kernel
theorem d_R_address_157 : decode b_R_address 157 = .ok (.putfield 367, 3) := by decide +kernel
theorem d_R_address_113 : decode b_R_address 113 = .ok (.putfield 367, 3) := by decide +kernel
theorem d_R_address_116 : decode b_R_address 116 = .ok (.goto 44, 3) := by decide +kernel
theorem d_R_address_88 : decode b_R_address 88 = .ok (.istore 4, 2) := by decide +kernel
theorem d_R_address_90 : decode b_R_address 90 = .ok (.aload_n 0, 1) := by decide +kernel
theorem d_R_address_91 : decode b_R_address 91 = .ok (.iload_n 3, 1) := by decide +kernel
theorem d_R_address_92 : decode b_R_address 92 = .ok (.iconst 1, 1) := by decide +kernel
theorem d_R_address_93 : decode b_R_address 93 = .ok (.if_icmp .ne 19, 3) := by decide +kernel
theorem d_R_address_112 : decode b_R_address 112 = .ok (.iconst 0, 1) := by decide +kernel
theorem d_R_address_96 : decode b_R_address 96 = .ok (.iload 4, 2) := by decide +kernel
theorem d_R_address_98 : decode b_R_address 98 = .ok (.bipush (-128), 2) := by decide +kernel
theorem d_R_address_100 : decode b_R_address 100 = .ok (.bipush 127, 2) := by decide +kernel
theorem d_R_address_102 : decode b_R_address 102 = .ok (.invokestatic 72, 3) := by decide +kernel
theorem d_R_address_105 : decode b_R_address 105 = .ok (.ifCond .ne 7, 3) := by decide +kernel
theorem d_R_address_108 : decode b_R_address 108 = .ok (.iconst 1, 1) := by decide +kernel
theorem d_R_address_109 : decode b_R_address 109 = .ok (.goto 4, 3) := by decide +kernel
theorem d_R_address_73 : decode b_R_address 73 = .ok (.istore_n 3, 1) := by decide +kernel
theorem d_R_address_74 : decode b_R_address 74 = .ok (.iload_n 3, 1) := by decide +kernel
theorem d_R_address_75 : decode b_R_address 75 = .ok (.ifCond .ne 7, 3) := by decide +kernel
theorem d_R_address_82 : decode b_R_address 82 = .ok (.iload_n 2, 1) := by decide +kernel
theorem d_R_address_83 : decode b_R_address 83 = .ok (.aload_n 0, 1) := by decide +kernel
theorem d_R_address_84 : decode b_R_address 84 = .ok (.getfield 337, 3) := by decide +kernel
theorem d_R_address_87 : decode b_R_address 87 = .ok (.isub, 1) := by decide +kernel
theorem d_R_address_78 : decode b_R_address 78 = .ok (.iload_n 2, 1) := by decide +kernel
theorem d_R_address_79 : decode b_R_address 79 = .ok (.goto 9, 3) := by decide +kernel
theorem d_R_address_54 : decode b_R_address 54 = .ok (.iload_n 2, 1) := by decide +kernel
theorem d_R_address_55 : decode b_R_address 55 = .ok (.istore 4, 2) := by decide +kernel
theorem d_R_address_57 : decode b_R_address 57 = .ok (.iload_n 3, 1) := by decide +kernel
theorem d_R_address_58 : decode b_R_address 58 = .ok (.ifCond .ge 61, 3) := by decide +kernel
theorem d_R_address_119 : decode b_R_address 119 = .ok (.aload_n 0, 1) := by decide +kernel
theorem d_R_address_120 : decode b_R_address 120 = .ok (.iload_n 3, 1) := by decide +kernel
theorem d_R_address_121 : decode b_R_address 121 = .ok (.ifCond .ne 18, 3) := by decide +kernel
theorem d_R_address_139 : decode b_R_address 139 = .ok (.iload_n 2, 1) := by decide +kernel
theorem d_R_address_140 : decode b_R_address 140 = .ok (.bipush 127, 2) := by decide +kernel
theorem d_R_address_142 : decode b_R_address 142 = .ok (.if_icmp .le 14, 3) := by decide +kernel
theorem d_R_address_156 : decode b_R_address 156 = .ok (.iconst 0, 1) := by decide +kernel
theorem d_R_address_145 : decode b_R_address 145 = .ok (.iload_n 2, 1) := by decide +kernel
theorem d_R_address_146 : decode b_R_address 146 = .ok (.ldc_w 370, 3) := by decide +kernel
theorem d_R_address_149 : decode b_R_address 149 = .ok (.if_icmp .ge 7, 3) := by decide +kernel
theorem d_R_address_152 : decode b_R_address 152 = .ok (.iconst 1, 1) := by decide +kernel
theorem d_R_address_153 : decode b_R_address 153 = .ok (.goto 4, 3) := by decide +kernel
theorem d_R_address_124 : decode b_R_address 124 = .ok (.iload_n 2, 1) := by decide +kernel
theorem d_R_address_125 : decode b_R_address 125 = .ok (.sipush 255, 3) := by decide +kernel
theorem d_R_address_128 : decode b_R_address 128 = .ok (.if_icmp .le 7, 3) := by decide +kernel
theorem d_R_address_135 : decode b_R_address 135 = .ok (.iconst 0, 1) := by decide +kernel
theorem d_R_address_136 : decode b_R_address 136 = .ok (.goto 21, 3) := by decide +kernel
theorem d_R_address_131 : decode b_R_address 131 = .ok (.iconst 1, 1) := by decide +kernel
theorem d_R_address_132 : decode b_R_address 132 = .ok (.goto 25, 3) := by decide +kernel
theorem d_R_address_61 : decode b_R_address 61 = .ok (.iload_n 2, 1) := by decide +kernel
theorem d_R_address_62 : decode b_R_address 62 = .ok (.sipush 256, 3) := by decide +kernel
theorem d_R_address_65 : decode b_R_address 65 = .ok (.if_icmp .ge 7, 3) := by decide +kernel
theorem d_R_address_72 : decode b_R_address 72 = .ok (.iconst 1, 1) := by decide +kernel
theorem d_R_address_68 : decode b_R_address 68 = .ok (.iconst 0, 1) := by decide +kernel
theorem d_R_address_69 : decode b_R_address 69 = .ok (.goto 4, 3) := by decide +kernel
theorem d_R_address_20 : decode b_R_address 20 = .ok (.aload_n 0, 1) := by decide +kernel
theorem d_R_address_21 : decode b_R_address 21 = .ok (.invokevirtual 358, 3) := by decide +kernel
theorem d_R_address_24 : decode b_R_address 24 = .ok (.istore_n 2, 1) := by decide +kernel
theorem d_R_address_25 : decode b_R_address 25 = .ok (.iconst (-1), 1) := by decide +kernel
theorem d_R_address_26 : decode b_R_address 26 = .ok (.istore_n 3, 1) := by decide +kernel
theorem d_R_address_27 : decode b_R_address 27 = .ok (.aload_n 0, 1) := by decide +kernel
theorem d_R_address_28 : decode b_R_address 28 = .ok (.getfield 122, 3) := by decide +kernel
theorem d_R_address_31 : decode b_R_address 31 = .ok (.ifCond .ne 23, 3) := by decide +kernel
theorem d_R_address_34 : decode b_R_address 34 = .ok (.aload_n 0, 1) := by decide +kernel
theorem d_R_address_35 : decode b_R_address 35 = .ok (.bipush 44, 2) := by decide +kernel
theorem d_R_address_37 : decode b_R_address 37 = .ok (.invokevirtual 352, 3) := by decide +kernel
theorem d_R_address_40 : decode b_R_address 40 = .ok (.ifCond .eq 14, 3) := by decide +kernel
theorem d_R_address_43 : decode b_R_address 43 = .ok (.aload_n 0, 1) := by decide +kernel
theorem d_R_address_44 : decode b_R_address 44 = .ok (.invokevirtual 349, 3) := by decide +kernel
theorem d_R_address_47 : decode b_R_address 47 = .ok (.pop, 1) := by decide +kernel
theorem d_R_address_48 : decode b_R_address 48 = .ok (.aload_n 0, 1) := by decide +kernel
theorem d_R_address_49 : decode b_R_address 49 = .ok (.iconst 3, 1) := by decide +kernel
theorem d_R_address_50 : decode b_R_address 50 = .ok (.invokevirtual 364, 3) := by decide +kernel
theorem d_R_address_53 : decode b_R_address 53 = .ok (.istore_n 3, 1) := by decide +kernel
theorem d_R_address_0 : decode b_R_address 0 = .ok (.iconst 0, 1) := by decide +kernel
theorem d_R_address_1 : decode b_R_address 1 = .ok (.istore_n 1, 1) := by decide +kernel
theorem d_R_address_2 : decode b_R_address 2 = .ok (.aload_n 0, 1) := by decide +kernel
theorem d_R_address_3 : decode b_R_address 3 = .ok (.bipush 64, 2) := by decide +kernel
theorem d_R_address_5 : decode b_R_address 5 = .ok (.invokevirtual 352, 3) := by decide +kernel
theorem d_R_address_8 : decode b_R_address 8 = .ok (.ifCond .eq 12, 3) := by decide +kernel
theorem d_R_address_11 : decode b_R_address 11 = .ok (.sipush 1024, 3) := by decide +kernel
theorem d_R_address_14 : decode b_R_address 14 = .ok (.istore_n 1, 1) := by decide +kernel
theorem d_R_address_15 : decode b_R_address 15 = .ok (.aload_n 0, 1) := by decide +kernel
theorem d_R_address_16 : decode b_R_address 16 = .ok (.invokevirtual 349, 3) := by decide +kernel
theorem d_R_address_19 : decode b_R_address 19 = .ok (.pop, 1) := by decide +kernel
theorem d_R_statement_99 : decode b_R_statement 99 = .ok (.iload_n 1, 1) := by decide +kernel
theorem d_R_statement_100 : decode b_R_statement 100 = .ok (.sipush 8192, 3) := by decide +kernel
theorem d_R_statement_103 : decode b_R_statement 103 = .ok (.aload_n 0, 1) := by decide +kernel
theorem d_R_statement_104 : decode b_R_statement 104 = .ok (.iconst 3, 1) := by decide +kernel
theorem d_R_statement_105 : decode b_R_statement 105 = .ok (.invokevirtual 364, 3) := by decide +kernel
theorem d_R_statement_108 : decode b_R_statement 108 = .ok (.imul, 1) := by decide +kernel
theorem d_R_statement_109 : decode b_R_statement 109 = .ok (.iadd, 1) := by decide +kernel
theorem d_R_statement_110 : decode b_R_statement 110 = .ok (.istore_n 1, 1) := by decide +kernel
theorem d_R_statement_111 : decode b_R_statement 111 = .ok (.aload_n 0, 1) := by decide +kernel
theorem d_R_statement_112 : decode b_R_statement 112 = .ok (.invokevirtual 374, 3) := by decide +kernel
theorem d_R_statement_115 : decode b_R_statement 115 = .ok (.iload_n 1, 1) := by decide +kernel
theorem d_R_statement_116 : decode b_R_statement 116 = .ok (.sipush 2048, 3) := by decide +kernel
theorem d_R_statement_119 : decode b_R_statement 119 = .ok (.aload_n 0, 1) := by decide +kernel
theorem d_R_statement_120 : decode b_R_statement 120 = .ok (.iconst 3, 1) := by decide +kernel
theorem d_R_statement_121 : decode b_R_statement 121 = .ok (.invokevirtual 364, 3) := by decide +kernel
theorem d_R_statement_124 : decode b_R_statement 124 = .ok (.imul, 1) := by decide +kernel
theorem d_R_statement_125 : decode b_R_statement 125 = .ok (.iadd, 1) := by decide +kernel
theorem d_R_statement_126 : decode b_R_statement 126 = .ok (.istore_n 1, 1) := by decide +kernel
theorem d_R_statement_127 : decode b_R_statement 127 = .ok (.aload_n 0, 1) := by decide +kernel
theorem d_R_statement_128 : decode b_R_statement 128 = .ok (.getfield 122, 3) := by decide +kernel
theorem d_R_statement_131 : decode b_R_statement 131 = .ok (.ifCond .ne 26, 3) := by decide +kernel
theorem d_R_statement_157 : decode b_R_statement 157 = .ok (.iload_n 1, 1) := by decide +kernel
theorem d_R_statement_158 : decode b_R_statement 158 = .ok (.ireturn, 1) := by decide +kernel
theorem d_R_statement_134 : decode b_R_statement 134 = .ok (.aload_n 0, 1) := by decide +kernel
theorem d_R_statement_135 : decode b_R_statement 135 = .ok (.bipush 44, 2) := by decide +kernel
theorem d_R_statement_137 : decode b_R_statement 137 = .ok (.invokevirtual 352, 3) := by decide +kernel
theorem d_R_statement_140 : decode b_R_statement 140 = .ok (.ifCond .eq 17, 3) := by decide +kernel
theorem d_R_statement_143 : decode b_R_statement 143 = .ok (.aload_n 0, 1) := by decide +kernel
theorem d_R_statement_144 : decode b_R_statement 144 = .ok (.invokevirtual 349, 3) := by decide +kernel
theorem d_R_statement_147 : decode b_R_statement 147 = .ok (.pop, 1) := by decide +kernel
theorem d_R_statement_148 : decode b_R_statement 148 = .ok (.iload_n 1, 1) := by decide +kernel
theorem d_R_statement_149 : decode b_R_statement 149 = .ok (.aload_n 0, 1) := by decide +kernel
theorem d_R_statement_150 : decode b_R_statement 150 = .ok (.bipush 7, 2) := by decide +kernel
theorem d_R_statement_152 : decode b_R_statement 152 = .ok (.invokevirtual 364, 3) := by decide +kernel
theorem d_R_statement_155 : decode b_R_statement 155 = .ok (.iadd, 1) := by decide +kernel
theorem d_R_statement_156 : decode b_R_statement 156 = .ok (.istore_n 1, 1) := by decide +kernel
theorem d_R_statement_0 : decode b_R_statement 0 = .ok (.aload_n 0, 1) := by decide +kernel
theorem d_R_statement_1 : decode b_R_statement 1 = .ok (.getfield 237, 3) := by decide +kernel
theorem d_R_statement_4 : decode b_R_statement 4 = .ok (.istore_n 1, 1) := by decide +kernel
theorem d_R_statement_5 : decode b_R_statement 5 = .ok (.aload_n 0, 1) := by decide +kernel
theorem d_R_statement_6 : decode b_R_statement 6 = .ok (.getfield 234, 3) := by decide +kernel
theorem d_R_statement_9 : decode b_R_statement 9 = .ok (.tableswitch 196 3 9 #[43, 50, 73, 150, 159, 196, 184], 43) := by decide +kernel
theorem d_R_statement_52 : decode b_R_statement 52 = .ok (.iload_n 1, 1) := by decide +kernel
theorem d_R_statement_53 : decode b_R_statement 53 = .ok (.aload_n 0, 1) := by decide +kernel
theorem d_R_statement_54 : decode b_R_statement 54 = .ok (.invokevirtual 371, 3) := by decide +kernel
theorem d_R_statement_57 : decode b_R_statement 57 = .ok (.iadd, 1) := by decide +kernel
theorem d_R_statement_58 : decode b_R_statement 58 = .ok (.ireturn, 1) := by decide +kernel
theorem d_R_statement_59 : decode b_R_statement 59 = .ok (.iload_n 1, 1) := by decide +kernel
theorem d_R_statement_60 : decode b_R_statement 60 = .ok (.sipush 2048, 3) := by decide +kernel
theorem d_R_statement_63 : decode b_R_statement 63 = .ok (.aload_n 0, 1) := by decide +kernel
theorem d_R_statement_64 : decode b_R_statement 64 = .ok (.iconst 3, 1) := by decide +kernel
theorem d_R_statement_65 : decode b_R_statement 65 = .ok (.invokevirtual 364, 3) := by decide +kernel
theorem d_R_statement_68 : decode b_R_statement 68 = .ok (.imul, 1) := by decide +kernel
theorem d_R_statement_69 : decode b_R_statement 69 = .ok (.iadd, 1) := by decide +kernel
theorem d_R_statement_70 : decode b_R_statement 70 = .ok (.istore_n 1, 1) := by decide +kernel
theorem d_R_statement_71 : decode b_R_statement 71 = .ok (.aload_n 0, 1) := by decide +kernel
theorem d_R_statement_72 : decode b_R_statement 72 = .ok (.invokevirtual 374, 3) := by decide +kernel
theorem d_R_statement_75 : decode b_R_statement 75 = .ok (.iload_n 1, 1) := by decide +kernel
theorem d_R_statement_76 : decode b_R_statement 76 = .ok (.aload_n 0, 1) := by decide +kernel
theorem d_R_statement_77 : decode b_R_statement 77 = .ok (.invokevirtual 371, 3) := by decide +kernel
theorem d_R_statement_80 : decode b_R_statement 80 = .ok (.iadd, 1) := by decide +kernel
theorem d_R_statement_81 : decode b_R_statement 81 = .ok (.ireturn, 1) := by decide +kernel
theorem d_R_statement_82 : decode b_R_statement 82 = .ok (.aload_n 0, 1) := by decide +kernel
theorem d_R_statement_83 : decode b_R_statement 83 = .ok (.bipush 35, 2) := by decide +kernel
theorem d_R_statement_85 : decode b_R_statement 85 = .ok (.invokevirtual 352, 3) := by decide +kernel
theorem d_R_statement_88 : decode b_R_statement 88 = .ok (.ifCond .eq 11, 3) := by decide +kernel
theorem d_R_statement_91 : decode b_R_statement 91 = .ok (.iinc 1 8, 3) := by decide +kernel
theorem d_R_statement_94 : decode b_R_statement 94 = .ok (.aload_n 0, 1) := by decide +kernel
theorem d_R_statement_95 : decode b_R_statement 95 = .ok (.invokevirtual 349, 3) := by decide +kernel
theorem d_R_statement_98 : decode b_R_statement 98 = .ok (.pop, 1) := by decide +kernel
theorem d_R_statement_159 : decode b_R_statement 159 = .ok (.iload_n 1, 1) := by decide +kernel
theorem d_R_statement_160 : decode b_R_statement 160 = .ok (.aload_n 0, 1) := by decide +kernel
theorem d_R_statement_161 : decode b_R_statement 161 = .ok (.bipush 63, 2) := by decide +kernel
theorem d_R_statement_163 : decode b_R_statement 163 = .ok (.invokevirtual 364, 3) := by decide +kernel
theorem d_R_statement_166 : decode b_R_statement 166 = .ok (.iadd, 1) := by decide +kernel
theorem d_R_statement_167 : decode b_R_statement 167 = .ok (.ireturn, 1) := by decide +kernel
theorem d_R_statement_168 : decode b_R_statement 168 = .ok (.iload_n 1, 1) := by decide +kernel
theorem d_R_statement_169 : decode b_R_statement 169 = .ok (.sipush 2048, 3) := by decide +kernel
theorem d_R_statement_172 : decode b_R_statement 172 = .ok (.aload_n 0, 1) := by decide +kernel
theorem d_R_statement_173 : decode b_R_statement 173 = .ok (.iconst 3, 1) := by decide +kernel
theorem d_R_statement_174 : decode b_R_statement 174 = .ok (.invokevirtual 364, 3) := by decide +kernel
theorem d_R_statement_177 : decode b_R_statement 177 = .ok (.imul, 1) := by decide +kernel
theorem d_R_statement_178 : decode b_R_statement 178 = .ok (.iadd, 1) := by decide +kernel
theorem d_R_statement_179 : decode b_R_statement 179 = .ok (.istore_n 1, 1) := by decide +kernel
theorem d_R_statement_180 : decode b_R_statement 180 = .ok (.aload_n 0, 1) := by decide +kernel
theorem d_R_statement_181 : decode b_R_statement 181 = .ok (.invokevirtual 374, 3) := by decide +kernel
theorem d_R_statement_184 : decode b_R_statement 184 = .ok (.iload_n 1, 1) := by decide +kernel
theorem d_R_statement_185 : decode b_R_statement 185 = .ok (.aload_n 0, 1) := by decide +kernel
theorem d_R_statement_186 : decode b_R_statement 186 = .ok (.bipush 63, 2) := by decide +kernel
theorem d_R_statement_188 : decode b_R_statement 188 = .ok (.invokevirtual 364, 3) := by decide +kernel
theorem d_R_statement_191 : decode b_R_statement 191 = .ok (.iadd, 1) := by decide +kernel
theorem d_R_statement_192 : decode b_R_statement 192 = .ok (.ireturn, 1) := by decide +kernel
theorem d_R_statement_205 : decode b_R_statement 205 = .ok (.iload_n 1, 1) := by decide +kernel
theorem d_R_statement_206 : decode b_R_statement 206 = .ok (.ireturn, 1) := by decide +kernel
theorem d_R_statement_193 : decode b_R_statement 193 = .ok (.iload_n 1, 1) := by decide +kernel
theorem d_R_statement_194 : decode b_R_statement 194 = .ok (.sipush 2048, 3) := by decide +kernel
theorem d_R_statement_197 : decode b_R_statement 197 = .ok (.aload_n 0, 1) := by decide +kernel
theorem d_R_statement_198 : decode b_R_statement 198 = .ok (.iconst 3, 1) := by decide +kernel
theorem d_R_statement_199 : decode b_R_statement 199 = .ok (.invokevirtual 364, 3) := by decide +kernel
theorem d_R_statement_202 : decode b_R_statement 202 = .ok (.imul, 1) := by decide +kernel
theorem d_R_statement_203 : decode b_R_statement 203 = .ok (.iadd, 1) := by decide +kernel
theorem d_R_statement_204 : decode b_R_statement 204 = .ok (.ireturn, 1) := by decide +kernel
theorem d_R_finish_64 : decode b_R_finish 64 = .ok (.aload_n 0, 1) := by decide +kernel
theorem d_R_finish_65 : decode b_R_finish 65 = .ok (.getfield 367, 3) := by decide +kernel
theorem d_R_finish_68 : decode b_R_finish 68 = .ok (.ifCond .eq 10, 3) := by decide +kernel
theorem d_R_finish_78 : decode b_R_finish 78 = .ok (.return_, 1) := by decide +kernel
theorem d_R_finish_71 : decode b_R_finish 71 = .ok (.aload_n 0, 1) := by decide +kernel
theorem d_R_finish_72 : decode b_R_finish 72 = .ok (.bipush 6, 2) := by decide +kernel
theorem d_R_finish_74 : decode b_R_finish 74 = .ok (.invokevirtual 191, 3) := by decide +kernel
theorem d_R_finish_77 : decode b_R_finish 77 = .ok (.pop, 1) := by decide +kernel
theorem d_R_finish_58 : decode b_R_finish 58 = .ok (.iinc 1 1, 3) := by decide +kernel
theorem d_R_finish_61 : decode b_R_finish 61 = .ok (.goto (-39), 3) := by decide +kernel
theorem d_R_finish_22 : decode b_R_finish 22 = .ok (.iload_n 1, 1) := by decide +kernel
theorem d_R_finish_23 : decode b_R_finish 23 = .ok (.aload_n 0, 1) := by decide +kernel
theorem d_R_finish_24 : decode b_R_finish 24 = .ok (.getfield 361, 3) := by decide +kernel
theorem d_R_finish_27 : decode b_R_finish 27 = .ok (.if_icmp .ge 37, 3) := by decide +kernel
theorem d_R_finish_30 : decode b_R_finish 30 = .ok (.aload_n 0, 1) := by decide +kernel
theorem d_R_finish_31 : decode b_R_finish 31 = .ok (.getfield 122, 3) := by decide +kernel
theorem d_R_finish_34 : decode b_R_finish 34 = .ok (.ifCond .ne 30, 3) := by decide +kernel
theorem d_R_finish_37 : decode b_R_finish 37 = .ok (.aload_n 0, 1) := by decide +kernel
theorem d_R_finish_38 : decode b_R_finish 38 = .ok (.getfield 59, 3) := by decide +kernel
theorem d_R_finish_41 : decode b_R_finish 41 = .ok (.iload_n 1, 1) := by decide +kernel
theorem d_R_finish_42 : decode b_R_finish 42 = .ok (.iaload, 1) := by decide +kernel
theorem d_R_finish_43 : decode b_R_finish 43 = .ok (.aload_n 0, 1) := by decide +kernel
theorem d_R_finish_44 : decode b_R_finish 44 = .ok (.getfield 62, 3) := by decide +kernel
theorem d_R_finish_47 : decode b_R_finish 47 = .ok (.iload_n 1, 1) := by decide +kernel
theorem d_R_finish_48 : decode b_R_finish 48 = .ok (.iaload, 1) := by decide +kernel
theorem d_R_finish_49 : decode b_R_finish 49 = .ok (.if_icmp .le 9, 3) := by decide +kernel
theorem d_R_finish_52 : decode b_R_finish 52 = .ok (.aload_n 0, 1) := by decide +kernel
theorem d_R_finish_53 : decode b_R_finish 53 = .ok (.iconst 5, 1) := by decide +kernel
theorem d_R_finish_54 : decode b_R_finish 54 = .ok (.invokevirtual 191, 3) := by decide +kernel
theorem d_R_finish_57 : decode b_R_finish 57 = .ok (.pop, 1) := by decide +kernel
theorem d_R_finish_20 : decode b_R_finish 20 = .ok (.iconst 0, 1) := by decide +kernel
theorem d_R_finish_21 : decode b_R_finish 21 = .ok (.istore_n 1, 1) := by decide +kernel
theorem d_R_finish_0 : decode b_R_finish 0 = .ok (.aload_n 0, 1) := by decide +kernel
theorem d_R_finish_1 : decode b_R_finish 1 = .ok (.getfield 122, 3) := by decide +kernel
theorem d_R_finish_4 : decode b_R_finish 4 = .ok (.ifCond .ne 16, 3) := by decide +kernel
theorem d_R_finish_7 : decode b_R_finish 7 = .ok (.aload_n 0, 1) := by decide +kernel
theorem d_R_finish_8 : decode b_R_finish 8 = .ok (.getfield 179, 3) := by decide +kernel
theorem d_R_finish_11 : decode b_R_finish 11 = .ok (.ifCond .eq 9, 3) := by decide +kernel
theorem d_R_finish_14 : decode b_R_finish 14 = .ok (.aload_n 0, 1) := by decide +kernel
theorem d_R_finish_15 : decode b_R_finish 15 = .ok (.iconst 2, 1) := by decide +kernel
theorem d_R_finish_16 : decode b_R_finish 16 = .ok (.invokevirtual 191, 3) := by decide +kernel
theorem d_R_finish_19 : decode b_R_finish 19 = .ok (.pop, 1) := by decide +kernel
theorem d_R_addLabel_58 : decode b_R_addLabel 58 = .ok (.aload_n 0, 1) := by decide +kernel
theorem d_R_addLabel_59 : decode b_R_addLabel 59 = .ok (.getfield 122, 3) := by decide +kernel
theorem d_R_addLabel_62 : decode b_R_addLabel 62 = .ok (.ifCond .eq 4, 3) := by decide +kernel
theorem d_R_addLabel_66 : decode b_R_addLabel 66 = .ok (.aload_n 0, 1) := by decide +kernel
theorem d_R_addLabel_67 : decode b_R_addLabel 67 = .ok (.getfield 40, 3) := by decide +kernel
theorem d_R_addLabel_70 : decode b_R_addLabel 70 = .ok (.aload_n 0, 1) := by decide +kernel
theorem d_R_addLabel_71 : decode b_R_addLabel 71 = .ok (.getfield 332, 3) := by decide +kernel
theorem d_R_addLabel_74 : decode b_R_addLabel 74 = .ok (.lload_n 1, 1) := by decide +kernel
theorem d_R_addLabel_75 : decode b_R_addLabel 75 = .ok (.lastore, 1) := by decide +kernel
theorem d_R_addLabel_76 : decode b_R_addLabel 76 = .ok (.aload_n 0, 1) := by decide +kernel
theorem d_R_addLabel_77 : decode b_R_addLabel 77 = .ok (.getfield 44, 3) := by decide +kernel
theorem d_R_addLabel_80 : decode b_R_addLabel 80 = .ok (.aload_n 0, 1) := by decide +kernel
theorem d_R_addLabel_81 : decode b_R_addLabel 81 = .ok (.getfield 332, 3) := by decide +kernel
theorem d_R_addLabel_84 : decode b_R_addLabel 84 = .ok (.aload_n 0, 1) := by decide +kernel
theorem d_R_addLabel_85 : decode b_R_addLabel 85 = .ok (.getfield 337, 3) := by decide +kernel
theorem d_R_addLabel_88 : decode b_R_addLabel 88 = .ok (.iastore, 1) := by decide +kernel
theorem d_R_addLabel_89 : decode b_R_addLabel 89 = .ok (.aload_n 0, 1) := by decide +kernel
theorem d_R_addLabel_90 : decode b_R_addLabel 90 = .ok (.dup, 1) := by decide +kernel
theorem d_R_addLabel_91 : decode b_R_addLabel 91 = .ok (.getfield 332, 3) := by decide +kernel
theorem d_R_addLabel_94 : decode b_R_addLabel 94 = .ok (.iconst 1, 1) := by decide +kernel
theorem d_R_addLabel_95 : decode b_R_addLabel 95 = .ok (.iadd, 1) := by decide +kernel
theorem d_R_addLabel_96 : decode b_R_addLabel 96 = .ok (.putfield 332, 3) := by decide +kernel
theorem d_R_addLabel_99 : decode b_R_addLabel 99 = .ok (.return_, 1) := by decide +kernel
theorem d_R_addLabel_65 : decode b_R_addLabel 65 = .ok (.return_, 1) := by decide +kernel
theorem d_R_addLabel_41 : decode b_R_addLabel 41 = .ok (.aload_n 0, 1) := by decide +kernel
theorem d_R_addLabel_42 : decode b_R_addLabel 42 = .ok (.getfield 332, 3) := by decide +kernel
theorem d_R_addLabel_45 : decode b_R_addLabel 45 = .ok (.sipush 200, 3) := by decide +kernel
theorem d_R_addLabel_48 : decode b_R_addLabel 48 = .ok (.if_icmp .ne 10, 3) := by decide +kernel
theorem d_R_addLabel_51 : decode b_R_addLabel 51 = .ok (.aload_n 0, 1) := by decide +kernel
theorem d_R_addLabel_52 : decode b_R_addLabel 52 = .ok (.bipush 7, 2) := by decide +kernel
theorem d_R_addLabel_54 : decode b_R_addLabel 54 = .ok (.invokevirtual 191, 3) := by decide +kernel
theorem d_R_addLabel_57 : decode b_R_addLabel 57 = .ok (.pop, 1) := by decide +kernel
theorem d_R_addLabel_35 : decode b_R_addLabel 35 = .ok (.aload_n 0, 1) := by decide +kernel
theorem d_R_addLabel_36 : decode b_R_addLabel 36 = .ok (.iconst 4, 1) := by decide +kernel
theorem d_R_addLabel_37 : decode b_R_addLabel 37 = .ok (.invokevirtual 191, 3) := by decide +kernel
theorem d_R_addLabel_40 : decode b_R_addLabel 40 = .ok (.pop, 1) := by decide +kernel
theorem d_R_addLabel_0 : decode b_R_addLabel 0 = .ok (.aload_n 0, 1) := by decide +kernel
theorem d_R_addLabel_1 : decode b_R_addLabel 1 = .ok (.lload_n 1, 1) := by decide +kernel
theorem d_R_addLabel_2 : decode b_R_addLabel 2 = .ok (.invokevirtual 377, 3) := by decide +kernel
theorem d_R_addLabel_5 : decode b_R_addLabel 5 = .ok (.lload_n 1, 1) := by decide +kernel
theorem d_R_addLabel_6 : decode b_R_addLabel 6 = .ok (.ldc2_w 335, 3) := by decide +kernel
theorem d_R_addLabel_9 : decode b_R_addLabel 9 = .ok (.lcmp, 1) := by decide +kernel
theorem d_R_addLabel_10 : decode b_R_addLabel 10 = .ok (.ifCond .eq 25, 3) := by decide +kernel
theorem d_R_addLabel_13 : decode b_R_addLabel 13 = .ok (.lload_n 1, 1) := by decide +kernel
theorem d_R_addLabel_14 : decode b_R_addLabel 14 = .ok (.invokestatic 340, 3) := by decide +kernel
theorem d_R_addLabel_17 : decode b_R_addLabel 17 = .ok (.ifCond .ge 18, 3) := by decide +kernel
theorem d_R_addLabel_20 : decode b_R_addLabel 20 = .ok (.aload_n 0, 1) := by decide +kernel
theorem d_R_addLabel_21 : decode b_R_addLabel 21 = .ok (.getfield 234, 3) := by decide +kernel
theorem d_R_addLabel_24 : decode b_R_addLabel 24 = .ok (.ifCond .gt 11, 3) := by decide +kernel
theorem d_R_addLabel_27 : decode b_R_addLabel 27 = .ok (.aload_n 0, 1) := by decide +kernel
theorem d_R_addLabel_28 : decode b_R_addLabel 28 = .ok (.lload_n 1, 1) := by decide +kernel
theorem d_R_addLabel_29 : decode b_R_addLabel 29 = .ok (.invokevirtual 343, 3) := by decide +kernel
theorem d_R_addLabel_32 : decode b_R_addLabel 32 = .ok (.ifCond .lt 9, 3) := by decide +kernel
theorem d_R_moves_95 : decode b_R_moves 95 = .ok (.putfield 337, 3) := by decide +kernel
theorem d_R_moves_98 : decode b_R_moves 98 = .ok (.return_, 1) := by decide +kernel
theorem d_R_moves_80 : decode b_R_moves 80 = .ok (.aload_n 0, 1) := by decide +kernel
theorem d_R_moves_81 : decode b_R_moves 81 = .ok (.iload_n 1, 1) := by decide +kernel
theorem d_R_moves_82 : decode b_R_moves 82 = .ok (.ifCond .eq 7, 3) := by decide +kernel
theorem d_R_moves_89 : decode b_R_moves 89 = .ok (.aload_n 0, 1) := by decide +kernel
theorem d_R_moves_90 : decode b_R_moves 90 = .ok (.getfield 337, 3) := by decide +kernel
theorem d_R_moves_93 : decode b_R_moves 93 = .ok (.iload_n 2, 1) := by decide +kernel
theorem d_R_moves_94 : decode b_R_moves 94 = .ok (.iadd, 1) := by decide +kernel
theorem d_R_moves_85 : decode b_R_moves 85 = .ok (.iload_n 2, 1) := by decide +kernel
theorem d_R_moves_86 : decode b_R_moves 86 = .ok (.goto 9, 3) := by decide +kernel
theorem d_R_moves_42 : decode b_R_moves 42 = .ok (.istore_n 2, 1) := by decide +kernel
theorem d_R_moves_43 : decode b_R_moves 43 = .ok (.aload_n 0, 1) := by decide +kernel
theorem d_R_moves_44 : decode b_R_moves 44 = .ok (.invokevirtual 380, 3) := by decide +kernel
theorem d_R_moves_47 : decode b_R_moves 47 = .ok (.aload_n 0, 1) := by decide +kernel
theorem d_R_moves_48 : decode b_R_moves 48 = .ok (.getfield 122, 3) := by decide +kernel
theorem d_R_moves_51 : decode b_R_moves 51 = .ok (.ifCond .eq 4, 3) := by decide +kernel
theorem d_R_moves_55 : decode b_R_moves 55 = .ok (.iload_n 1, 1) := by decide +kernel
theorem d_R_moves_56 : decode b_R_moves 56 = .ok (.ifCond .ne 24, 3) := by decide +kernel
theorem d_R_moves_59 : decode b_R_moves 59 = .ok (.aload_n 0, 1) := by decide +kernel
theorem d_R_moves_60 : decode b_R_moves 60 = .ok (.getfield 337, 3) := by decide +kernel
theorem d_R_moves_63 : decode b_R_moves 63 = .ok (.iload_n 2, 1) := by decide +kernel
theorem d_R_moves_64 : decode b_R_moves 64 = .ok (.iadd, 1) := by decide +kernel
theorem d_R_moves_65 : decode b_R_moves 65 = .ok (.ldc 7, 2) := by decide +kernel
theorem d_R_moves_67 : decode b_R_moves 67 = .ok (.if_icmp .le 13, 3) := by decide +kernel
theorem d_R_moves_70 : decode b_R_moves 70 = .ok (.aload_n 0, 1) := by decide +kernel
theorem d_R_moves_71 : decode b_R_moves 71 = .ok (.bipush 7, 2) := by decide +kernel
theorem d_R_moves_73 : decode b_R_moves 73 = .ok (.invokevirtual 191, 3) := by decide +kernel
theorem d_R_moves_76 : decode b_R_moves 76 = .ok (.pop, 1) := by decide +kernel
theorem d_R_moves_77 : decode b_R_moves 77 = .ok (.goto 21, 3) := by decide +kernel
theorem d_R_moves_54 : decode b_R_moves 54 = .ok (.return_, 1) := by decide +kernel
theorem d_R_moves_13 : decode b_R_moves 13 = .ok (.istore_n 1, 1) := by decide +kernel
theorem d_R_moves_14 : decode b_R_moves 14 = .ok (.aload_n 0, 1) := by decide +kernel
theorem d_R_moves_15 : decode b_R_moves 15 = .ok (.iconst 0, 1) := by decide +kernel
theorem d_R_moves_16 : decode b_R_moves 16 = .ok (.putfield 361, 3) := by decide +kernel
theorem d_R_moves_19 : decode b_R_moves 19 = .ok (.aload_n 0, 1) := by decide +kernel
theorem d_R_moves_20 : decode b_R_moves 20 = .ok (.iconst 0, 1) := by decide +kernel
theorem d_R_moves_21 : decode b_R_moves 21 = .ok (.putfield 367, 3) := by decide +kernel
theorem d_R_moves_24 : decode b_R_moves 24 = .ok (.iload_n 1, 1) := by decide +kernel
theorem d_R_moves_25 : decode b_R_moves 25 = .ok (.ifCond .eq 13, 3) := by decide +kernel
theorem d_R_moves_38 : decode b_R_moves 38 = .ok (.aload_n 0, 1) := by decide +kernel
theorem d_R_moves_39 : decode b_R_moves 39 = .ok (.invokevirtual 358, 3) := by decide +kernel
theorem d_R_moves_28 : decode b_R_moves 28 = .ok (.aload_n 0, 1) := by decide +kernel
theorem d_R_moves_29 : decode b_R_moves 29 = .ok (.sipush 32767, 3) := by decide +kernel
theorem d_R_moves_32 : decode b_R_moves 32 = .ok (.invokevirtual 364, 3) := by decide +kernel
theorem d_R_moves_35 : decode b_R_moves 35 = .ok (.goto 7, 3) := by decide +kernel
theorem d_R_moves_0 : decode b_R_moves 0 = .ok (.aload_n 0, 1) := by decide +kernel
theorem d_R_moves_1 : decode b_R_moves 1 = .ok (.getfield 234, 3) := by decide +kernel
theorem d_R_moves_4 : decode b_R_moves 4 = .ok (.iconst 1, 1) := by decide +kernel
theorem d_R_moves_5 : decode b_R_moves 5 = .ok (.if_icmp .ne 7, 3) := by decide +kernel
theorem d_R_moves_12 : decode b_R_moves 12 = .ok (.iconst 0, 1) := by decide +kernel
theorem d_R_moves_8 : decode b_R_moves 8 = .ok (.iconst 1, 1) := by decide +kernel
theorem d_R_moves_9 : decode b_R_moves 9 = .ok (.goto 4, 3) := by decide +kernel
theorem d_R_goOn_16 : decode b_R_goOn 16 = .ok (.aload_n 0, 1) := by decide +kernel
theorem d_R_goOn_17 : decode b_R_goOn 17 = .ok (.dup, 1) := by decide +kernel
theorem d_R_goOn_18 : decode b_R_goOn 18 = .ok (.getfield 337, 3) := by decide +kernel
theorem d_R_goOn_21 : decode b_R_goOn 21 = .ok (.iconst 1, 1) := by decide +kernel
theorem d_R_goOn_22 : decode b_R_goOn 22 = .ok (.iadd, 1) := by decide +kernel
theorem d_R_goOn_23 : decode b_R_goOn 23 = .ok (.putfield 337, 3) := by decide +kernel
theorem d_R_goOn_26 : decode b_R_goOn 26 = .ok (.return_, 1) := by decide +kernel
theorem d_R_goOn_0 : decode b_R_goOn 0 = .ok (.aload_n 0, 1) := by decide +kernel
theorem d_R_goOn_1 : decode b_R_goOn 1 = .ok (.getfield 337, 3) := by decide +kernel
theorem d_R_goOn_4 : decode b_R_goOn 4 = .ok (.ldc 7, 2) := by decide +kernel
theorem d_R_goOn_6 : decode b_R_goOn 6 = .ok (.if_icmp .lt 10, 3) := by decide +kernel
theorem d_R_goOn_9 : decode b_R_goOn 9 = .ok (.aload_n 0, 1) := by decide +kernel
theorem d_R_goOn_10 : decode b_R_goOn 10 = .ok (.bipush 7, 2) := by decide +kernel
theorem d_R_goOn_12 : decode b_R_goOn 12 = .ok (.invokevirtual 191, 3) := by decide +kernel
theorem d_R_goOn_15 : decode b_R_goOn 15 = .ok (.pop, 1) := by decide +kernel
theorem d_R_keep_0 : decode b_R_keep 0 = .ok (.aload_n 0, 1) := by decide +kernel
theorem d_R_keep_1 : decode b_R_keep 1 = .ok (.invokevirtual 380, 3) := by decide +kernel
theorem d_R_keep_4 : decode b_R_keep 4 = .ok (.aload_n 0, 1) := by decide +kernel
theorem d_R_keep_5 : decode b_R_keep 5 = .ok (.getfield 122, 3) := by decide +kernel
theorem d_R_keep_8 : decode b_R_keep 8 = .ok (.ifCond .eq 4, 3) := by decide +kernel
theorem d_R_keep_12 : decode b_R_keep 12 = .ok (.aload_n 0, 1) := by decide +kernel
theorem d_R_keep_13 : decode b_R_keep 13 = .ok (.getfield 53, 3) := by decide +kernel
theorem d_R_keep_16 : decode b_R_keep 16 = .ok (.aload_n 0, 1) := by decide +kernel
theorem d_R_keep_17 : decode b_R_keep 17 = .ok (.getfield 403, 3) := by decide +kernel
theorem d_R_keep_20 : decode b_R_keep 20 = .ok (.aload_n 0, 1) := by decide +kernel
theorem d_R_keep_21 : decode b_R_keep 21 = .ok (.getfield 337, 3) := by decide +kernel
theorem d_R_keep_24 : decode b_R_keep 24 = .ok (.iastore, 1) := by decide +kernel
theorem d_R_keep_25 : decode b_R_keep 25 = .ok (.aload_n 0, 1) := by decide +kernel
theorem d_R_keep_26 : decode b_R_keep 26 = .ok (.getfield 56, 3) := by decide +kernel
theorem d_R_keep_29 : decode b_R_keep 29 = .ok (.aload_n 0, 1) := by decide +kernel
theorem d_R_keep_30 : decode b_R_keep 30 = .ok (.getfield 403, 3) := by decide +kernel
theorem d_R_keep_33 : decode b_R_keep 33 = .ok (.iload_n 1, 1) := by decide +kernel
theorem d_R_keep_34 : decode b_R_keep 34 = .ok (.iastore, 1) := by decide +kernel
theorem d_R_keep_35 : decode b_R_keep 35 = .ok (.aload_n 0, 1) := by decide +kernel
theorem d_R_keep_36 : decode b_R_keep 36 = .ok (.dup, 1) := by decide +kernel
theorem d_R_keep_37 : decode b_R_keep 37 = .ok (.getfield 403, 3) := by decide +kernel
theorem d_R_keep_40 : decode b_R_keep 40 = .ok (.iconst 1, 1) := by decide +kernel
theorem d_R_keep_41 : decode b_R_keep 41 = .ok (.iadd, 1) := by decide +kernel
theorem d_R_keep_42 : decode b_R_keep 42 = .ok (.putfield 403, 3) := by decide +kernel
theorem d_R_keep_45 : decode b_R_keep 45 = .ok (.aload_n 0, 1) := by decide +kernel
theorem d_R_keep_46 : decode b_R_keep 46 = .ok (.dup, 1) := by decide +kernel
theorem d_R_keep_47 : decode b_R_keep 47 = .ok (.getfield 337, 3) := by decide +kernel
theorem d_R_keep_50 : decode b_R_keep 50 = .ok (.iconst 1, 1) := by decide +kernel
theorem d_R_keep_51 : decode b_R_keep 51 = .ok (.iadd, 1) := by decide +kernel
theorem d_R_keep_52 : decode b_R_keep 52 = .ok (.putfield 337, 3) := by decide +kernel
theorem d_R_keep_55 : decode b_R_keep 55 = .ok (.return_, 1) := by decide +kernel
theorem d_R_keep_11 : decode b_R_keep 11 = .ok (.return_, 1) := by decide +kernel
theorem d_R_begin_21 : decode b_R_begin 21 = .ok (.aload_n 0, 1) := by decide +kernel
theorem d_R_begin_22 : decode b_R_begin 22 = .ok (.invokevirtual 397, 3) := by decide +kernel
theorem d_R_begin_25 : decode b_R_begin 25 = .ok (.return_, 1) := by decide +kernel
theorem d_R_begin_0 : decode b_R_begin 0 = .ok (.aload_n 0, 1) := by decide +kernel
theorem d_R_begin_1 : decode b_R_begin 1 = .ok (.lload_n 1, 1) := by decide +kernel
theorem d_R_begin_2 : decode b_R_begin 2 = .ok (.invokevirtual 377, 3) := by decide +kernel
theorem d_R_begin_5 : decode b_R_begin 5 = .ok (.aload_n 0, 1) := by decide +kernel
theorem d_R_begin_6 : decode b_R_begin 6 = .ok (.getfield 234, 3) := by decide +kernel
theorem d_R_begin_9 : decode b_R_begin 9 = .ok (.iconst 1, 1) := by decide +kernel
theorem d_R_begin_10 : decode b_R_begin 10 = .ok (.if_icmp .eq 11, 3) := by decide +kernel
theorem d_R_begin_13 : decode b_R_begin 13 = .ok (.aload_n 0, 1) := by decide +kernel
theorem d_R_begin_14 : decode b_R_begin 14 = .ok (.getfield 234, 3) := by decide +kernel
theorem d_R_begin_17 : decode b_R_begin 17 = .ok (.iconst 2, 1) := by decide +kernel
theorem d_R_begin_18 : decode b_R_begin 18 = .ok (.if_icmp .ne 8, 3) := by decide +kernel
theorem d_R_begin_26 : decode b_R_begin 26 = .ok (.iload 4, 2) := by decide +kernel
theorem d_R_begin_28 : decode b_R_begin 28 = .ok (.ifCond .eq 8, 3) := by decide +kernel
theorem d_R_begin_36 : decode b_R_begin 36 = .ok (.aload_n 0, 1) := by decide +kernel
theorem d_R_begin_37 : decode b_R_begin 37 = .ok (.iconst 0, 1) := by decide +kernel
theorem d_R_begin_38 : decode b_R_begin 38 = .ok (.putfield 361, 3) := by decide +kernel
theorem d_R_begin_41 : decode b_R_begin 41 = .ok (.aload_n 0, 1) := by decide +kernel
theorem d_R_begin_42 : decode b_R_begin 42 = .ok (.iconst 0, 1) := by decide +kernel
theorem d_R_begin_43 : decode b_R_begin 43 = .ok (.putfield 367, 3) := by decide +kernel
theorem d_R_begin_46 : decode b_R_begin 46 = .ok (.aload_n 0, 1) := by decide +kernel
theorem d_R_begin_47 : decode b_R_begin 47 = .ok (.getfield 234, 3) := by decide +kernel
theorem d_R_begin_50 : decode b_R_begin 50 = .ok (.ifCond .le 12, 3) := by decide +kernel
theorem d_R_begin_62 : decode b_R_begin 62 = .ok (.aload_n 0, 1) := by decide +kernel
theorem d_R_begin_63 : decode b_R_begin 63 = .ok (.iload_n 3, 1) := by decide +kernel
theorem d_R_begin_64 : decode b_R_begin 64 = .ok (.putfield 173, 3) := by decide +kernel
theorem d_R_begin_67 : decode b_R_begin 67 = .ok (.aload_n 0, 1) := by decide +kernel
theorem d_R_begin_68 : decode b_R_begin 68 = .ok (.iconst 1, 1) := by decide +kernel
theorem d_R_begin_69 : decode b_R_begin 69 = .ok (.putfield 179, 3) := by decide +kernel
theorem d_R_begin_72 : decode b_R_begin 72 = .ok (.aload_n 0, 1) := by decide +kernel
theorem d_R_begin_73 : decode b_R_begin 73 = .ok (.lload_n 1, 1) := by decide +kernel
theorem d_R_begin_74 : decode b_R_begin 74 = .ok (.putfield 194, 3) := by decide +kernel
theorem d_R_begin_77 : decode b_R_begin 77 = .ok (.aload_n 0, 1) := by decide +kernel
theorem d_R_begin_78 : decode b_R_begin 78 = .ok (.aload_n 0, 1) := by decide +kernel
theorem d_R_begin_79 : decode b_R_begin 79 = .ok (.invokevirtual 358, 3) := by decide +kernel
theorem d_R_begin_82 : decode b_R_begin 82 = .ok (.invokevirtual 390, 3) := by decide +kernel
theorem d_R_begin_85 : decode b_R_begin 85 = .ok (.return_, 1) := by decide +kernel
theorem d_R_begin_53 : decode b_R_begin 53 = .ok (.aload_n 0, 1) := by decide +kernel
theorem d_R_begin_54 : decode b_R_begin 54 = .ok (.aload_n 0, 1) := by decide +kernel
theorem d_R_begin_55 : decode b_R_begin 55 = .ok (.invokevirtual 400, 3) := by decide +kernel
theorem d_R_begin_58 : decode b_R_begin 58 = .ok (.invokevirtual 390, 3) := by decide +kernel
theorem d_R_begin_61 : decode b_R_begin 61 = .ok (.return_, 1) := by decide +kernel
theorem d_R_begin_31 : decode b_R_begin 31 = .ok (.aload_n 0, 1) := by decide +kernel
theorem d_R_begin_32 : decode b_R_begin 32 = .ok (.invokevirtual 394, 3) := by decide +kernel
theorem d_R_begin_35 : decode b_R_begin 35 = .ok (.return_, 1) := by decide +kernel
theorem d_R_goThrough_149 : decode b_R_goThrough 149 = .ok (.iload_n 1, 1) := by decide +kernel
theorem d_R_goThrough_150 : decode b_R_goThrough 150 = .ok (.ifCond .eq 7, 3) := by decide +kernel
theorem d_R_goThrough_157 : decode b_R_goThrough 157 = .ok (.return_, 1) := by decide +kernel
theorem d_R_goThrough_153 : decode b_R_goThrough 153 = .ok (.aload_n 0, 1) := by decide +kernel
theorem d_R_goThrough_154 : decode b_R_goThrough 154 = .ok (.invokevirtual 394, 3) := by decide +kernel
theorem d_R_goThrough_127 : decode b_R_goThrough 127 = .ok (.iload_n 1, 1) := by decide +kernel
theorem d_R_goThrough_128 : decode b_R_goThrough 128 = .ok (.ifCond .ne 21, 3) := by decide +kernel
theorem d_R_goThrough_131 : decode b_R_goThrough 131 = .ok (.aload_n 0, 1) := by decide +kernel
theorem d_R_goThrough_132 : decode b_R_goThrough 132 = .ok (.iconst 0, 1) := by decide +kernel
theorem d_R_goThrough_133 : decode b_R_goThrough 133 = .ok (.putfield 361, 3) := by decide +kernel
theorem d_R_goThrough_136 : decode b_R_goThrough 136 = .ok (.aload_n 0, 1) := by decide +kernel
theorem d_R_goThrough_137 : decode b_R_goThrough 137 = .ok (.iconst 0, 1) := by decide +kernel
theorem d_R_goThrough_138 : decode b_R_goThrough 138 = .ok (.putfield 367, 3) := by decide +kernel
theorem d_R_goThrough_141 : decode b_R_goThrough 141 = .ok (.aload_n 0, 1) := by decide +kernel
theorem d_R_goThrough_142 : decode b_R_goThrough 142 = .ok (.aload_n 0, 1) := by decide +kernel
theorem d_R_goThrough_143 : decode b_R_goThrough 143 = .ok (.invokevirtual 358, 3) := by decide +kernel
theorem d_R_goThrough_146 : decode b_R_goThrough 146 = .ok (.invokevirtual 390, 3) := by decide +kernel
theorem d_R_goThrough_79 : decode b_R_goThrough 79 = .ok (.aload_n 0, 1) := by decide +kernel
theorem d_R_goThrough_80 : decode b_R_goThrough 80 = .ok (.getfield 122, 3) := by decide +kernel
theorem d_R_goThrough_83 : decode b_R_goThrough 83 = .ok (.ifCond .ne 10, 3) := by decide +kernel
theorem d_R_goThrough_93 : decode b_R_goThrough 93 = .ok (.return_, 1) := by decide +kernel
theorem d_R_goThrough_86 : decode b_R_goThrough 86 = .ok (.aload_n 0, 1) := by decide +kernel
theorem d_R_goThrough_87 : decode b_R_goThrough 87 = .ok (.getfield 179, 3) := by decide +kernel
theorem d_R_goThrough_90 : decode b_R_goThrough 90 = .ok (.ifCond .ne 4, 3) := by decide +kernel
theorem d_R_goThrough_94 : decode b_R_goThrough 94 = .ok (.aload_n 0, 1) := by decide +kernel
theorem d_R_goThrough_95 : decode b_R_goThrough 95 = .ok (.getfield 179, 3) := by decide +kernel
theorem d_R_goThrough_98 : decode b_R_goThrough 98 = .ok (.iconst 3, 1) := by decide +kernel
theorem d_R_goThrough_99 : decode b_R_goThrough 99 = .ok (.if_icmp .ne 28, 3) := by decide +kernel
theorem d_R_goThrough_102 : decode b_R_goThrough 102 = .ok (.aload_n 0, 1) := by decide +kernel
theorem d_R_goThrough_103 : decode b_R_goThrough 103 = .ok (.getfield 188, 3) := by decide +kernel
theorem d_R_goThrough_106 : decode b_R_goThrough 106 = .ok (.bipush 43, 2) := by decide +kernel
theorem d_R_goThrough_108 : decode b_R_goThrough 108 = .ok (.if_icmp .eq 19, 3) := by decide +kernel
theorem d_R_goThrough_111 : decode b_R_goThrough 111 = .ok (.aload_n 0, 1) := by decide +kernel
theorem d_R_goThrough_112 : decode b_R_goThrough 112 = .ok (.getfield 188, 3) := by decide +kernel
theorem d_R_goThrough_115 : decode b_R_goThrough 115 = .ok (.bipush 45, 2) := by decide +kernel
theorem d_R_goThrough_117 : decode b_R_goThrough 117 = .ok (.if_icmp .eq 10, 3) := by decide +kernel
theorem d_R_goThrough_120 : decode b_R_goThrough 120 = .ok (.aload_n 0, 1) := by decide +kernel
theorem d_R_goThrough_121 : decode b_R_goThrough 121 = .ok (.iconst 2, 1) := by decide +kernel
theorem d_R_goThrough_122 : decode b_R_goThrough 122 = .ok (.invokevirtual 191, 3) := by decide +kernel
theorem d_R_goThrough_125 : decode b_R_goThrough 125 = .ok (.pop, 1) := by decide +kernel
theorem d_R_goThrough_126 : decode b_R_goThrough 126 = .ok (.return_, 1) := by decide +kernel
theorem d_R_goThrough_71 : decode b_R_goThrough 71 = .ok (.aload_n 0, 1) := by decide +kernel
theorem d_R_goThrough_72 : decode b_R_goThrough 72 = .ok (.invokevirtual 349, 3) := by decide +kernel
theorem d_R_goThrough_75 : decode b_R_goThrough 75 = .ok (.pop, 1) := by decide +kernel
theorem d_R_goThrough_76 : decode b_R_goThrough 76 = .ok (.goto (-71), 3) := by decide +kernel
theorem d_R_goThrough_5 : decode b_R_goThrough 5 = .ok (.aload_n 0, 1) := by decide +kernel
theorem d_R_goThrough_6 : decode b_R_goThrough 6 = .ok (.getfield 122, 3) := by decide +kernel
theorem d_R_goThrough_9 : decode b_R_goThrough 9 = .ok (.ifCond .ne 70, 3) := by decide +kernel
theorem d_R_goThrough_12 : decode b_R_goThrough 12 = .ok (.aload_n 0, 1) := by decide +kernel
theorem d_R_goThrough_13 : decode b_R_goThrough 13 = .ok (.getfield 179, 3) := by decide +kernel
theorem d_R_goThrough_16 : decode b_R_goThrough 16 = .ok (.iconst 1, 1) := by decide +kernel
theorem d_R_goThrough_17 : decode b_R_goThrough 17 = .ok (.if_icmp .ne 62, 3) := by decide +kernel
theorem d_R_goThrough_20 : decode b_R_goThrough 20 = .ok (.aload_n 0, 1) := by decide +kernel
theorem d_R_goThrough_21 : decode b_R_goThrough 21 = .ok (.getfield 194, 3) := by decide +kernel
theorem d_R_goThrough_24 : decode b_R_goThrough 24 = .ok (.lstore_n 2, 1) := by decide +kernel
theorem d_R_goThrough_25 : decode b_R_goThrough 25 = .ok (.aload_n 0, 1) := by decide +kernel
theorem d_R_goThrough_26 : decode b_R_goThrough 26 = .ok (.getfield 173, 3) := by decide +kernel
theorem d_R_goThrough_29 : decode b_R_goThrough 29 = .ok (.istore 4, 2) := by decide +kernel
theorem d_R_goThrough_31 : decode b_R_goThrough 31 = .ok (.aload_n 0, 1) := by decide +kernel
theorem d_R_goThrough_32 : decode b_R_goThrough 32 = .ok (.invokevirtual 349, 3) := by decide +kernel
theorem d_R_goThrough_35 : decode b_R_goThrough 35 = .ok (.pop, 1) := by decide +kernel
theorem d_R_goThrough_36 : decode b_R_goThrough 36 = .ok (.aload_n 0, 1) := by decide +kernel
theorem d_R_goThrough_37 : decode b_R_goThrough 37 = .ok (.getfield 122, 3) := by decide +kernel
theorem d_R_goThrough_40 : decode b_R_goThrough 40 = .ok (.ifCond .eq 4, 3) := by decide +kernel
theorem d_R_goThrough_44 : decode b_R_goThrough 44 = .ok (.aload_n 0, 1) := by decide +kernel
theorem d_R_goThrough_45 : decode b_R_goThrough 45 = .ok (.bipush 58, 2) := by decide +kernel
theorem d_R_goThrough_47 : decode b_R_goThrough 47 = .ok (.invokevirtual 352, 3) := by decide +kernel
theorem d_R_goThrough_50 : decode b_R_goThrough 50 = .ok (.ifCond .ne 12, 3) := by decide +kernel
theorem d_R_goThrough_62 : decode b_R_goThrough 62 = .ok (.iload_n 1, 1) := by decide +kernel
theorem d_R_goThrough_63 : decode b_R_goThrough 63 = .ok (.ifCond .eq 8, 3) := by decide +kernel
theorem d_R_goThrough_66 : decode b_R_goThrough 66 = .ok (.aload_n 0, 1) := by decide +kernel
theorem d_R_goThrough_67 : decode b_R_goThrough 67 = .ok (.lload_n 2, 1) := by decide +kernel
theorem d_R_goThrough_68 : decode b_R_goThrough 68 = .ok (.invokevirtual 387, 3) := by decide +kernel
theorem d_R_goThrough_53 : decode b_R_goThrough 53 = .ok (.aload_n 0, 1) := by decide +kernel
theorem d_R_goThrough_54 : decode b_R_goThrough 54 = .ok (.lload_n 2, 1) := by decide +kernel
theorem d_R_goThrough_55 : decode b_R_goThrough 55 = .ok (.iload 4, 2) := by decide +kernel
theorem d_R_goThrough_57 : decode b_R_goThrough 57 = .ok (.iload_n 1, 1) := by decide +kernel
theorem d_R_goThrough_58 : decode b_R_goThrough 58 = .ok (.invokevirtual 383, 3) := by decide +kernel
theorem d_R_goThrough_61 : decode b_R_goThrough 61 = .ok (.return_, 1) := by decide +kernel
theorem d_R_goThrough_43 : decode b_R_goThrough 43 = .ok (.return_, 1) := by decide +kernel
theorem d_R_goThrough_0 : decode b_R_goThrough 0 = .ok (.aload_n 0, 1) := by decide +kernel
theorem d_R_goThrough_1 : decode b_R_goThrough 1 = .ok (.invokevirtual 349, 3) := by decide +kernel
theorem d_R_goThrough_4 : decode b_R_goThrough 4 = .ok (.pop, 1) := by decide +kernel
theorem d_R_pass_94 : decode b_R_pass 94 = .ok (.aload_n 0, 1) := by decide +kernel
theorem d_R_pass_95 : decode b_R_pass 95 = .ok (.iload_n 2, 1) := by decide +kernel
theorem d_R_pass_96 : decode b_R_pass 96 = .ok (.putfield 173, 3) := by decide +kernel
theorem d_R_pass_99 : decode b_R_pass 99 = .ok (.aload_n 0, 1) := by decide +kernel
theorem d_R_pass_100 : decode b_R_pass 100 = .ok (.dup, 1) := by decide +kernel
theorem d_R_pass_101 : decode b_R_pass 101 = .ok (.getfield 170, 3) := by decide +kernel
theorem d_R_pass_104 : decode b_R_pass 104 = .ok (.iconst 1, 1) := by decide +kernel
theorem d_R_pass_105 : decode b_R_pass 105 = .ok (.iadd, 1) := by decide +kernel
theorem d_R_pass_106 : decode b_R_pass 106 = .ok (.putfield 170, 3) := by decide +kernel
theorem d_R_pass_109 : decode b_R_pass 109 = .ok (.aload_n 0, 1) := by decide +kernel
theorem d_R_pass_110 : decode b_R_pass 110 = .ok (.iload_n 1, 1) := by decide +kernel
theorem d_R_pass_111 : decode b_R_pass 111 = .ok (.invokevirtual 406, 3) := by decide +kernel
theorem d_R_pass_114 : decode b_R_pass 114 = .ok (.iload_n 3, 1) := by decide +kernel
theorem d_R_pass_115 : decode b_R_pass 115 = .ok (.iconst 1, 1) := by decide +kernel
theorem d_R_pass_116 : decode b_R_pass 116 = .ok (.iadd, 1) := by decide +kernel
theorem d_R_pass_117 : decode b_R_pass 117 = .ok (.istore_n 2, 1) := by decide +kernel
theorem d_R_pass_118 : decode b_R_pass 118 = .ok (.goto (-106), 3) := by decide +kernel
theorem d_R_pass_59 : decode b_R_pass 59 = .ok (.aload_n 0, 1) := by decide +kernel
theorem d_R_pass_60 : decode b_R_pass 60 = .ok (.getfield 176, 3) := by decide +kernel
theorem d_R_pass_63 : decode b_R_pass 63 = .ok (.iload_n 3, 1) := by decide +kernel
theorem d_R_pass_64 : decode b_R_pass 64 = .ok (.if_icmp .ge 30, 3) := by decide +kernel
theorem d_R_pass_67 : decode b_R_pass 67 = .ok (.aload_n 0, 1) := by decide +kernel
theorem d_R_pass_68 : decode b_R_pass 68 = .ok (.getfield 36, 3) := by decide +kernel
theorem d_R_pass_71 : decode b_R_pass 71 = .ok (.aload_n 0, 1) := by decide +kernel
theorem d_R_pass_72 : decode b_R_pass 72 = .ok (.getfield 176, 3) := by decide +kernel
theorem d_R_pass_75 : decode b_R_pass 75 = .ok (.baload, 1) := by decide +kernel
theorem d_R_pass_76 : decode b_R_pass 76 = .ok (.bipush 59, 2) := by decide +kernel
theorem d_R_pass_78 : decode b_R_pass 78 = .ok (.if_icmp .eq 16, 3) := by decide +kernel
theorem d_R_pass_81 : decode b_R_pass 81 = .ok (.aload_n 0, 1) := by decide +kernel
theorem d_R_pass_82 : decode b_R_pass 82 = .ok (.dup, 1) := by decide +kernel
theorem d_R_pass_83 : decode b_R_pass 83 = .ok (.getfield 176, 3) := by decide +kernel
theorem d_R_pass_86 : decode b_R_pass 86 = .ok (.iconst 1, 1) := by decide +kernel
theorem d_R_pass_87 : decode b_R_pass 87 = .ok (.iadd, 1) := by decide +kernel
theorem d_R_pass_88 : decode b_R_pass 88 = .ok (.putfield 176, 3) := by decide +kernel
theorem d_R_pass_91 : decode b_R_pass 91 = .ok (.goto (-32), 3) := by decide +kernel
theorem d_R_pass_54 : decode b_R_pass 54 = .ok (.aload_n 0, 1) := by decide +kernel
theorem d_R_pass_55 : decode b_R_pass 55 = .ok (.iload_n 2, 1) := by decide +kernel
theorem d_R_pass_56 : decode b_R_pass 56 = .ok (.putfield 176, 3) := by decide +kernel
theorem d_R_pass_29 : decode b_R_pass 29 = .ok (.iload_n 3, 1) := by decide +kernel
theorem d_R_pass_30 : decode b_R_pass 30 = .ok (.aload_n 0, 1) := by decide +kernel
theorem d_R_pass_31 : decode b_R_pass 31 = .ok (.getfield 119, 3) := by decide +kernel
theorem d_R_pass_34 : decode b_R_pass 34 = .ok (.if_icmp .ge 20, 3) := by decide +kernel
theorem d_R_pass_37 : decode b_R_pass 37 = .ok (.aload_n 0, 1) := by decide +kernel
theorem d_R_pass_38 : decode b_R_pass 38 = .ok (.getfield 36, 3) := by decide +kernel
theorem d_R_pass_41 : decode b_R_pass 41 = .ok (.iload_n 3, 1) := by decide +kernel
theorem d_R_pass_42 : decode b_R_pass 42 = .ok (.baload, 1) := by decide +kernel
theorem d_R_pass_43 : decode b_R_pass 43 = .ok (.bipush 10, 2) := by decide +kernel
theorem d_R_pass_45 : decode b_R_pass 45 = .ok (.if_icmp .eq 9, 3) := by decide +kernel
theorem d_R_pass_48 : decode b_R_pass 48 = .ok (.iinc 3 1, 3) := by decide +kernel
theorem d_R_pass_51 : decode b_R_pass 51 = .ok (.goto (-22), 3) := by decide +kernel
theorem d_R_pass_12 : decode b_R_pass 12 = .ok (.iload_n 2, 1) := by decide +kernel
theorem d_R_pass_13 : decode b_R_pass 13 = .ok (.aload_n 0, 1) := by decide +kernel
theorem d_R_pass_14 : decode b_R_pass 14 = .ok (.getfield 119, 3) := by decide +kernel
theorem d_R_pass_17 : decode b_R_pass 17 = .ok (.if_icmp .ge 104, 3) := by decide +kernel
theorem d_R_pass_121 : decode b_R_pass 121 = .ok (.return_, 1) := by decide +kernel
theorem d_R_pass_20 : decode b_R_pass 20 = .ok (.aload_n 0, 1) := by decide +kernel
theorem d_R_pass_21 : decode b_R_pass 21 = .ok (.getfield 122, 3) := by decide +kernel
theorem d_R_pass_24 : decode b_R_pass 24 = .ok (.ifCond .ne 97, 3) := by decide +kernel
theorem d_R_pass_27 : decode b_R_pass 27 = .ok (.iload_n 2, 1) := by decide +kernel
theorem d_R_pass_28 : decode b_R_pass 28 = .ok (.istore_n 3, 1) := by decide +kernel
theorem d_R_pass_0 : decode b_R_pass 0 = .ok (.aload_n 0, 1) := by decide +kernel
theorem d_R_pass_1 : decode b_R_pass 1 = .ok (.iconst 0, 1) := by decide +kernel
theorem d_R_pass_2 : decode b_R_pass 2 = .ok (.putfield 337, 3) := by decide +kernel
theorem d_R_pass_5 : decode b_R_pass 5 = .ok (.aload_n 0, 1) := by decide +kernel
theorem d_R_pass_6 : decode b_R_pass 6 = .ok (.iconst 0, 1) := by decide +kernel
theorem d_R_pass_7 : decode b_R_pass 7 = .ok (.putfield 170, 3) := by decide +kernel
theorem d_R_pass_10 : decode b_R_pass 10 = .ok (.iconst 0, 1) := by decide +kernel
theorem d_R_pass_11 : decode b_R_pass 11 = .ok (.istore_n 2, 1) := by decide +kernel
theorem d_R_assemble_91 : decode b_R_assemble 91 = .ok (.iload_n 1, 1) := by decide +kernel
theorem d_R_assemble_92 : decode b_R_assemble 92 = .ok (.aload_n 0, 1) := by decide +kernel
theorem d_R_assemble_93 : decode b_R_assemble 93 = .ok (.getfield 332, 3) := by decide +kernel
theorem d_R_assemble_96 : decode b_R_assemble 96 = .ok (.if_icmp .ge 33, 3) := by decide +kernel
theorem d_R_assemble_129 : decode b_R_assemble 129 = .ok (.aload_n 0, 1) := by decide +kernel
theorem d_R_assemble_130 : decode b_R_assemble 130 = .ok (.aload_n 0, 1) := by decide +kernel
theorem d_R_assemble_131 : decode b_R_assemble 131 = .ok (.getfield 332, 3) := by decide +kernel
theorem d_R_assemble_134 : decode b_R_assemble 134 = .ok (.putfield 128, 3) := by decide +kernel
theorem d_R_assemble_137 : decode b_R_assemble 137 = .ok (.aload_n 0, 1) := by decide +kernel
theorem d_R_assemble_138 : decode b_R_assemble 138 = .ok (.getfield 403, 3) := by decide +kernel
theorem d_R_assemble_141 : decode b_R_assemble 141 = .ok (.ireturn, 1) := by decide +kernel
theorem d_R_assemble_99 : decode b_R_assemble 99 = .ok (.aload_n 0, 1) := by decide +kernel
theorem d_R_assemble_100 : decode b_R_assemble 100 = .ok (.getfield 47, 3) := by decide +kernel
theorem d_R_assemble_103 : decode b_R_assemble 103 = .ok (.iload_n 1, 1) := by decide +kernel
theorem d_R_assemble_104 : decode b_R_assemble 104 = .ok (.aload_n 0, 1) := by decide +kernel
theorem d_R_assemble_105 : decode b_R_assemble 105 = .ok (.getfield 40, 3) := by decide +kernel
theorem d_R_assemble_108 : decode b_R_assemble 108 = .ok (.iload_n 1, 1) := by decide +kernel
theorem d_R_assemble_109 : decode b_R_assemble 109 = .ok (.laload, 1) := by decide +kernel
theorem d_R_assemble_110 : decode b_R_assemble 110 = .ok (.lastore, 1) := by decide +kernel
theorem d_R_assemble_111 : decode b_R_assemble 111 = .ok (.aload_n 0, 1) := by decide +kernel
theorem d_R_assemble_112 : decode b_R_assemble 112 = .ok (.getfield 50, 3) := by decide +kernel
theorem d_R_assemble_115 : decode b_R_assemble 115 = .ok (.iload_n 1, 1) := by decide +kernel
theorem d_R_assemble_116 : decode b_R_assemble 116 = .ok (.aload_n 0, 1) := by decide +kernel
theorem d_R_assemble_117 : decode b_R_assemble 117 = .ok (.getfield 44, 3) := by decide +kernel
theorem d_R_assemble_120 : decode b_R_assemble 120 = .ok (.iload_n 1, 1) := by decide +kernel
theorem d_R_assemble_121 : decode b_R_assemble 121 = .ok (.iaload, 1) := by decide +kernel
theorem d_R_assemble_122 : decode b_R_assemble 122 = .ok (.iastore, 1) := by decide +kernel
theorem d_R_assemble_123 : decode b_R_assemble 123 = .ok (.iinc 1 1, 3) := by decide +kernel
theorem d_R_assemble_126 : decode b_R_assemble 126 = .ok (.goto (-35), 3) := by decide +kernel
theorem d_R_assemble_58 : decode b_R_assemble 58 = .ok (.iload_n 1, 1) := by decide +kernel
theorem d_R_assemble_59 : decode b_R_assemble 59 = .ok (.aload_n 0, 1) := by decide +kernel
theorem d_R_assemble_60 : decode b_R_assemble 60 = .ok (.getfield 403, 3) := by decide +kernel
theorem d_R_assemble_63 : decode b_R_assemble 63 = .ok (.if_icmp .ge 26, 3) := by decide +kernel
theorem d_R_assemble_89 : decode b_R_assemble 89 = .ok (.iconst 0, 1) := by decide +kernel
theorem d_R_assemble_90 : decode b_R_assemble 90 = .ok (.istore_n 1, 1) := by decide +kernel
theorem d_R_assemble_66 : decode b_R_assemble 66 = .ok (.aload_n 0, 1) := by decide +kernel
theorem d_R_assemble_67 : decode b_R_assemble 67 = .ok (.getfield 8, 3) := by decide +kernel
theorem d_R_assemble_70 : decode b_R_assemble 70 = .ok (.aload_n 0, 1) := by decide +kernel
theorem d_R_assemble_71 : decode b_R_assemble 71 = .ok (.getfield 53, 3) := by decide +kernel
theorem d_R_assemble_74 : decode b_R_assemble 74 = .ok (.iload_n 1, 1) := by decide +kernel
theorem d_R_assemble_75 : decode b_R_assemble 75 = .ok (.iaload, 1) := by decide +kernel
theorem d_R_assemble_76 : decode b_R_assemble 76 = .ok (.aload_n 0, 1) := by decide +kernel
theorem d_R_assemble_77 : decode b_R_assemble 77 = .ok (.getfield 56, 3) := by decide +kernel
theorem d_R_assemble_80 : decode b_R_assemble 80 = .ok (.iload_n 1, 1) := by decide +kernel
theorem d_R_assemble_81 : decode b_R_assemble 81 = .ok (.iaload, 1) := by decide +kernel
theorem d_R_assemble_82 : decode b_R_assemble 82 = .ok (.iastore, 1) := by decide +kernel
theorem d_R_assemble_83 : decode b_R_assemble 83 = .ok (.iinc 1 1, 3) := by decide +kernel
theorem d_R_assemble_86 : decode b_R_assemble 86 = .ok (.goto (-28), 3) := by decide +kernel
theorem d_R_assemble_42 : decode b_R_assemble 42 = .ok (.aload_n 0, 1) := by decide +kernel
theorem d_R_assemble_43 : decode b_R_assemble 43 = .ok (.iconst 0, 1) := by decide +kernel
theorem d_R_assemble_44 : decode b_R_assemble 44 = .ok (.putfield 119, 3) := by decide +kernel
theorem d_R_assemble_47 : decode b_R_assemble 47 = .ok (.aload_n 0, 1) := by decide +kernel
theorem d_R_assemble_48 : decode b_R_assemble 48 = .ok (.getfield 122, 3) := by decide +kernel
theorem d_R_assemble_51 : decode b_R_assemble 51 = .ok (.ifCond .eq 5, 3) := by decide +kernel
theorem d_R_assemble_56 : decode b_R_assemble 56 = .ok (.iconst 0, 1) := by decide +kernel
theorem d_R_assemble_57 : decode b_R_assemble 57 = .ok (.istore_n 1, 1) := by decide +kernel
theorem d_R_assemble_54 : decode b_R_assemble 54 = .ok (.iconst (-1), 1) := by decide +kernel
theorem d_R_assemble_55 : decode b_R_assemble 55 = .ok (.ireturn, 1) := by decide +kernel
theorem d_R_assemble_0 : decode b_R_assemble 0 = .ok (.aload_n 0, 1) := by decide +kernel
theorem d_R_assemble_1 : decode b_R_assemble 1 = .ok (.iconst 0, 1) := by decide +kernel
theorem d_R_assemble_2 : decode b_R_assemble 2 = .ok (.putfield 68, 3) := by decide +kernel
theorem d_R_assemble_5 : decode b_R_assemble 5 = .ok (.aload_n 0, 1) := by decide +kernel
theorem d_R_assemble_6 : decode b_R_assemble 6 = .ok (.iconst 0, 1) := by decide +kernel
theorem d_R_assemble_7 : decode b_R_assemble 7 = .ok (.putfield 122, 3) := by decide +kernel
theorem d_R_assemble_10 : decode b_R_assemble 10 = .ok (.aload_n 0, 1) := by decide +kernel
theorem d_R_assemble_11 : decode b_R_assemble 11 = .ok (.iconst 0, 1) := by decide +kernel
theorem d_R_assemble_12 : decode b_R_assemble 12 = .ok (.putfield 125, 3) := by decide +kernel
theorem d_R_assemble_15 : decode b_R_assemble 15 = .ok (.aload_n 0, 1) := by decide +kernel
theorem d_R_assemble_16 : decode b_R_assemble 16 = .ok (.iconst 0, 1) := by decide +kernel
theorem d_R_assemble_17 : decode b_R_assemble 17 = .ok (.putfield 332, 3) := by decide +kernel
theorem d_R_assemble_20 : decode b_R_assemble 20 = .ok (.aload_n 0, 1) := by decide +kernel
theorem d_R_assemble_21 : decode b_R_assemble 21 = .ok (.iconst 0, 1) := by decide +kernel
theorem d_R_assemble_22 : decode b_R_assemble 22 = .ok (.putfield 403, 3) := by decide +kernel
theorem d_R_assemble_25 : decode b_R_assemble 25 = .ok (.aload_n 0, 1) := by decide +kernel
theorem d_R_assemble_26 : decode b_R_assemble 26 = .ok (.iconst 1, 1) := by decide +kernel
theorem d_R_assemble_27 : decode b_R_assemble 27 = .ok (.invokevirtual 410, 3) := by decide +kernel
theorem d_R_assemble_30 : decode b_R_assemble 30 = .ok (.aload_n 0, 1) := by decide +kernel
theorem d_R_assemble_31 : decode b_R_assemble 31 = .ok (.getfield 122, 3) := by decide +kernel
theorem d_R_assemble_34 : decode b_R_assemble 34 = .ok (.ifCond .ne 8, 3) := by decide +kernel
theorem d_R_assemble_37 : decode b_R_assemble 37 = .ok (.aload_n 0, 1) := by decide +kernel
theorem d_R_assemble_38 : decode b_R_assemble 38 = .ok (.iconst 0, 1) := by decide +kernel
theorem d_R_assemble_39 : decode b_R_assemble 39 = .ok (.invokevirtual 410, 3) := by decide +kernel
theorem d_R_fault_15 : decode b_R_fault 15 = .ok (.iconst 1, 1) := by decide +kernel
theorem d_R_fault_16 : decode b_R_fault 16 = .ok (.invokevirtual 77, 3) := by decide +kernel
theorem d_R_fault_19 : decode b_R_fault 19 = .ok (.ifCond .eq 5, 3) := by decide +kernel
theorem d_R_fault_24 : decode b_R_fault 24 = .ok (.iload_n 1, 1) := by decide +kernel
theorem d_R_fault_25 : decode b_R_fault 25 = .ok (.ifCond .ne 10, 3) := by decide +kernel
theorem d_R_fault_35 : decode b_R_fault 35 = .ok (.aload_n 0, 1) := by decide +kernel
theorem d_R_fault_36 : decode b_R_fault 36 = .ok (.getfield 125, 3) := by decide +kernel
theorem d_R_fault_39 : decode b_R_fault 39 = .ok (.ireturn, 1) := by decide +kernel
theorem d_R_fault_28 : decode b_R_fault 28 = .ok (.aload_n 0, 1) := by decide +kernel
theorem d_R_fault_29 : decode b_R_fault 29 = .ok (.getfield 122, 3) := by decide +kernel
theorem d_R_fault_32 : decode b_R_fault 32 = .ok (.goto 7, 3) := by decide +kernel
theorem d_R_fault_22 : decode b_R_fault 22 = .ok (.iconst 0, 1) := by decide +kernel
theorem d_R_fault_23 : decode b_R_fault 23 = .ok (.ireturn, 1) := by decide +kernel
theorem d_R_fault_0 : decode b_R_fault 0 = .ok (.aload_n 0, 1) := by decide +kernel
theorem d_R_fault_1 : decode b_R_fault 1 = .ok (.iload_n 1, 1) := by decide +kernel
theorem d_R_fault_2 : decode b_R_fault 2 = .ok (.iconst 0, 1) := by decide +kernel
theorem d_R_fault_3 : decode b_R_fault 3 = .ok (.iconst 1, 1) := by decide +kernel
theorem d_R_fault_4 : decode b_R_fault 4 = .ok (.invokestatic 72, 3) := by decide +kernel
theorem d_R_fault_7 : decode b_R_fault 7 = .ok (.ifCond .ne 7, 3) := by decide +kernel
theorem d_R_fault_14 : decode b_R_fault 14 = .ok (.iconst 0, 1) := by decide +kernel
theorem d_R_fault_10 : decode b_R_fault 10 = .ok (.iconst 1, 1) := by decide +kernel
theorem d_R_fault_11 : decode b_R_fault 11 = .ok (.goto 4, 3) := by decide +kernel
theorem d_R_label_70 : decode b_R_label 70 = .ok (.iinc 3 1, 3) := by decide +kernel
theorem d_R_label_73 : decode b_R_label 73 = .ok (.goto (-66), 3) := by decide +kernel
theorem d_R_label_7 : decode b_R_label 7 = .ok (.iload_n 3, 1) := by decide +kernel
theorem d_R_label_8 : decode b_R_label 8 = .ok (.aload_n 0, 1) := by decide +kernel
theorem d_R_label_9 : decode b_R_label 9 = .ok (.getfield 128, 3) := by decide +kernel
theorem d_R_label_12 : decode b_R_label 12 = .ok (.if_icmp .ge 64, 3) := by decide +kernel
theorem d_R_label_76 : decode b_R_label 76 = .ok (.iconst (-1), 1) := by decide +kernel
theorem d_R_label_77 : decode b_R_label 77 = .ok (.ireturn, 1) := by decide +kernel
theorem d_R_label_15 : decode b_R_label 15 = .ok (.aload_n 0, 1) := by decide +kernel
theorem d_R_label_16 : decode b_R_label 16 = .ok (.getfield 47, 3) := by decide +kernel
theorem d_R_label_19 : decode b_R_label 19 = .ok (.iload_n 3, 1) := by decide +kernel
theorem d_R_label_20 : decode b_R_label 20 = .ok (.laload, 1) := by decide +kernel
theorem d_R_label_21 : decode b_R_label 21 = .ok (.bipush 8, 2) := by decide +kernel
theorem d_R_label_23 : decode b_R_label 23 = .ok (.bipush 6, 2) := by decide +kernel
theorem d_R_label_25 : decode b_R_label 25 = .ok (.aload_n 0, 1) := by decide +kernel
theorem d_R_label_26 : decode b_R_label 26 = .ok (.getfield 47, 3) := by decide +kernel
theorem d_R_label_29 : decode b_R_label 29 = .ok (.iload_n 3, 1) := by decide +kernel
theorem d_R_label_30 : decode b_R_label 30 = .ok (.laload, 1) := by decide +kernel
theorem d_R_label_31 : decode b_R_label 31 = .ok (.invokestatic 198, 3) := by decide +kernel
theorem d_R_label_34 : decode b_R_label 34 = .ok (.isub, 1) := by decide +kernel
theorem d_R_label_35 : decode b_R_label 35 = .ok (.imul, 1) := by decide +kernel
theorem d_R_label_36 : decode b_R_label 36 = .ok (.lshl, 1) := by decide +kernel
theorem d_R_label_37 : decode b_R_label 37 = .ok (.lstore 4, 2) := by decide +kernel
theorem d_R_label_39 : decode b_R_label 39 = .ok (.lload 4, 2) := by decide +kernel
theorem d_R_label_41 : decode b_R_label 41 = .ok (.bipush 16, 2) := by decide +kernel
theorem d_R_label_43 : decode b_R_label 43 = .ok (.lshr, 1) := by decide +kernel
theorem d_R_label_44 : decode b_R_label 44 = .ok (.l2i, 1) := by decide +kernel
theorem d_R_label_45 : decode b_R_label 45 = .ok (.iload_n 1, 1) := by decide +kernel
theorem d_R_label_46 : decode b_R_label 46 = .ok (.if_icmp .ne 24, 3) := by decide +kernel
theorem d_R_label_49 : decode b_R_label 49 = .ok (.lload 4, 2) := by decide +kernel
theorem d_R_label_51 : decode b_R_label 51 = .ok (.ldc2_w 413, 3) := by decide +kernel
theorem d_R_label_54 : decode b_R_label 54 = .ok (.land, 1) := by decide +kernel
theorem d_R_label_55 : decode b_R_label 55 = .ok (.l2i, 1) := by decide +kernel
theorem d_R_label_56 : decode b_R_label 56 = .ok (.bipush 16, 2) := by decide +kernel
theorem d_R_label_58 : decode b_R_label 58 = .ok (.ishl, 1) := by decide +kernel
theorem d_R_label_59 : decode b_R_label 59 = .ok (.iload_n 2, 1) := by decide +kernel
theorem d_R_label_60 : decode b_R_label 60 = .ok (.if_icmp .ne 10, 3) := by decide +kernel
theorem d_R_label_63 : decode b_R_label 63 = .ok (.aload_n 0, 1) := by decide +kernel
theorem d_R_label_64 : decode b_R_label 64 = .ok (.getfield 50, 3) := by decide +kernel
theorem d_R_label_67 : decode b_R_label 67 = .ok (.iload_n 3, 1) := by decide +kernel
theorem d_R_label_68 : decode b_R_label 68 = .ok (.iaload, 1) := by decide +kernel
theorem d_R_label_69 : decode b_R_label 69 = .ok (.ireturn, 1) := by decide +kernel
theorem d_R_label_0 : decode b_R_label 0 = .ok (.aload_n 0, 1) := by decide +kernel
theorem d_R_label_1 : decode b_R_label 1 = .ok (.iconst 0, 1) := by decide +kernel
theorem d_R_label_2 : decode b_R_label 2 = .ok (.putfield 68, 3) := by decide +kernel
theorem d_R_label_5 : decode b_R_label 5 = .ok (.iconst 0, 1) := by decide +kernel
theorem d_R_label_6 : decode b_R_label 6 = .ok (.istore_n 3, 1) := by decide +kernel
theorem d_R_say_0 : decode b_R_say 0 = .ok (.aload_n 0, 1) := by decide +kernel
theorem d_R_say_1 : decode b_R_say 1 = .ok (.getfield 65, 3) := by decide +kernel
theorem d_R_say_4 : decode b_R_say 4 = .ok (.aload_n 0, 1) := by decide +kernel
theorem d_R_say_5 : decode b_R_say 5 = .ok (.getfield 131, 3) := by decide +kernel
theorem d_R_say_8 : decode b_R_say 8 = .ok (.iload_n 1, 1) := by decide +kernel
theorem d_R_say_9 : decode b_R_say 9 = .ok (.iastore, 1) := by decide +kernel
theorem d_R_say_10 : decode b_R_say 10 = .ok (.aload_n 0, 1) := by decide +kernel
theorem d_R_say_11 : decode b_R_say 11 = .ok (.dup, 1) := by decide +kernel
theorem d_R_say_12 : decode b_R_say 12 = .ok (.getfield 131, 3) := by decide +kernel
theorem d_R_say_15 : decode b_R_say 15 = .ok (.iconst 1, 1) := by decide +kernel
theorem d_R_say_16 : decode b_R_say 16 = .ok (.iadd, 1) := by decide +kernel
theorem d_R_say_17 : decode b_R_say 17 = .ok (.putfield 131, 3) := by decide +kernel
theorem d_R_say_20 : decode b_R_say 20 = .ok (.return_, 1) := by decide +kernel
theorem d_R_sayName_2 : decode b_R_sayName 2 = .ok (.iload_n 3, 1) := by decide +kernel
theorem d_R_sayName_3 : decode b_R_sayName 3 = .ok (.lload_n 1, 1) := by decide +kernel
theorem d_R_sayName_4 : decode b_R_sayName 4 = .ok (.invokestatic 198, 3) := by decide +kernel
theorem d_R_sayName_7 : decode b_R_sayName 7 = .ok (.if_icmp .ge 18, 3) := by decide +kernel
theorem d_R_sayName_25 : decode b_R_sayName 25 = .ok (.return_, 1) := by decide +kernel
theorem d_R_sayName_10 : decode b_R_sayName 10 = .ok (.aload_n 0, 1) := by decide +kernel
theorem d_R_sayName_11 : decode b_R_sayName 11 = .ok (.lload_n 1, 1) := by decide +kernel
theorem d_R_sayName_12 : decode b_R_sayName 12 = .ok (.iload_n 3, 1) := by decide +kernel
theorem d_R_sayName_13 : decode b_R_sayName 13 = .ok (.invokestatic 297, 3) := by decide +kernel
theorem d_R_sayName_16 : decode b_R_sayName 16 = .ok (.invokevirtual 415, 3) := by decide +kernel
theorem d_R_sayName_19 : decode b_R_sayName 19 = .ok (.iinc 3 1, 3) := by decide +kernel
theorem d_R_sayName_22 : decode b_R_sayName 22 = .ok (.goto (-20), 3) := by decide +kernel
theorem d_R_sayName_0 : decode b_R_sayName 0 = .ok (.iconst 0, 1) := by decide +kernel
theorem d_R_sayName_1 : decode b_R_sayName 1 = .ok (.istore_n 3, 1) := by decide +kernel
theorem d_R_octal_18 : decode b_R_octal 18 = .ok (.iload_n 2, 1) := by decide +kernel
theorem d_R_octal_19 : decode b_R_octal 19 = .ok (.ifCond .le 24, 3) := by decide +kernel
theorem d_R_octal_43 : decode b_R_octal 43 = .ok (.return_, 1) := by decide +kernel
theorem d_R_octal_22 : decode b_R_octal 22 = .ok (.aload_n 0, 1) := by decide +kernel
theorem d_R_octal_23 : decode b_R_octal 23 = .ok (.bipush 48, 2) := by decide +kernel
theorem d_R_octal_25 : decode b_R_octal 25 = .ok (.iload_n 1, 1) := by decide +kernel
theorem d_R_octal_26 : decode b_R_octal 26 = .ok (.iload_n 2, 1) := by decide +kernel
theorem d_R_octal_27 : decode b_R_octal 27 = .ok (.idiv, 1) := by decide +kernel
theorem d_R_octal_28 : decode b_R_octal 28 = .ok (.bipush 8, 2) := by decide +kernel
theorem d_R_octal_30 : decode b_R_octal 30 = .ok (.irem, 1) := by decide +kernel
theorem d_R_octal_31 : decode b_R_octal 31 = .ok (.iadd, 1) := by decide +kernel
theorem d_R_octal_32 : decode b_R_octal 32 = .ok (.invokevirtual 415, 3) := by decide +kernel
theorem d_R_octal_35 : decode b_R_octal 35 = .ok (.iload_n 2, 1) := by decide +kernel
theorem d_R_octal_36 : decode b_R_octal 36 = .ok (.bipush 8, 2) := by decide +kernel
theorem d_R_octal_38 : decode b_R_octal 38 = .ok (.idiv, 1) := by decide +kernel
theorem d_R_octal_39 : decode b_R_octal 39 = .ok (.istore_n 2, 1) := by decide +kernel
theorem d_R_octal_40 : decode b_R_octal 40 = .ok (.goto (-22), 3) := by decide +kernel
theorem d_R_octal_2 : decode b_R_octal 2 = .ok (.iload_n 1, 1) := by decide +kernel
theorem d_R_octal_3 : decode b_R_octal 3 = .ok (.iload_n 2, 1) := by decide +kernel
theorem d_R_octal_4 : decode b_R_octal 4 = .ok (.idiv, 1) := by decide +kernel
theorem d_R_octal_5 : decode b_R_octal 5 = .ok (.bipush 7, 2) := by decide +kernel
theorem d_R_octal_7 : decode b_R_octal 7 = .ok (.if_icmp .le 11, 3) := by decide +kernel
theorem d_R_octal_10 : decode b_R_octal 10 = .ok (.bipush 8, 2) := by decide +kernel
theorem d_R_octal_12 : decode b_R_octal 12 = .ok (.iload_n 2, 1) := by decide +kernel
theorem d_R_octal_13 : decode b_R_octal 13 = .ok (.imul, 1) := by decide +kernel
theorem d_R_octal_14 : decode b_R_octal 14 = .ok (.istore_n 2, 1) := by decide +kernel
theorem d_R_octal_15 : decode b_R_octal 15 = .ok (.goto (-13), 3) := by decide +kernel
theorem d_R_octal_0 : decode b_R_octal 0 = .ok (.iconst 1, 1) := by decide +kernel
theorem d_R_octal_1 : decode b_R_octal 1 = .ok (.istore_n 2, 1) := by decide +kernel
theorem d_R_sayAddress_50 : decode b_R_sayAddress 50 = .ok (.invokevirtual 418, 3) := by decide +kernel
theorem d_R_sayAddress_53 : decode b_R_sayAddress 53 = .ok (.iload_n 2, 1) := by decide +kernel
theorem d_R_sayAddress_54 : decode b_R_sayAddress 54 = .ok (.ifCond .ne 4, 3) := by decide +kernel
theorem d_R_sayAddress_58 : decode b_R_sayAddress 58 = .ok (.aload_n 0, 1) := by decide +kernel
theorem d_R_sayAddress_59 : decode b_R_sayAddress 59 = .ok (.bipush 44, 2) := by decide +kernel
theorem d_R_sayAddress_61 : decode b_R_sayAddress 61 = .ok (.invokevirtual 415, 3) := by decide +kernel
theorem d_R_sayAddress_64 : decode b_R_sayAddress 64 = .ok (.aload_n 0, 1) := by decide +kernel
theorem d_R_sayAddress_65 : decode b_R_sayAddress 65 = .ok (.iload_n 2, 1) := by decide +kernel
theorem d_R_sayAddress_66 : decode b_R_sayAddress 66 = .ok (.invokevirtual 418, 3) := by decide +kernel
theorem d_R_sayAddress_69 : decode b_R_sayAddress 69 = .ok (.return_, 1) := by decide +kernel
theorem d_R_sayAddress_57 : decode b_R_sayAddress 57 = .ok (.return_, 1) := by decide +kernel
theorem d_R_sayAddress_17 : decode b_R_sayAddress 17 = .ok (.iload_n 1, 1) := by decide +kernel
theorem d_R_sayAddress_18 : decode b_R_sayAddress 18 = .ok (.sipush 256, 3) := by decide +kernel
theorem d_R_sayAddress_21 : decode b_R_sayAddress 21 = .ok (.idiv, 1) := by decide +kernel
theorem d_R_sayAddress_22 : decode b_R_sayAddress 22 = .ok (.iconst 4, 1) := by decide +kernel
theorem d_R_sayAddress_23 : decode b_R_sayAddress 23 = .ok (.irem, 1) := by decide +kernel
theorem d_R_sayAddress_24 : decode b_R_sayAddress 24 = .ok (.istore_n 2, 1) := by decide +kernel
theorem d_R_sayAddress_25 : decode b_R_sayAddress 25 = .ok (.iload_n 1, 1) := by decide +kernel
theorem d_R_sayAddress_26 : decode b_R_sayAddress 26 = .ok (.sipush 256, 3) := by decide +kernel
theorem d_R_sayAddress_29 : decode b_R_sayAddress 29 = .ok (.irem, 1) := by decide +kernel
theorem d_R_sayAddress_30 : decode b_R_sayAddress 30 = .ok (.istore_n 3, 1) := by decide +kernel
theorem d_R_sayAddress_31 : decode b_R_sayAddress 31 = .ok (.aload_n 0, 1) := by decide +kernel
theorem d_R_sayAddress_32 : decode b_R_sayAddress 32 = .ok (.iload_n 2, 1) := by decide +kernel
theorem d_R_sayAddress_33 : decode b_R_sayAddress 33 = .ok (.ifCond .le 16, 3) := by decide +kernel
theorem d_R_sayAddress_49 : decode b_R_sayAddress 49 = .ok (.iload_n 3, 1) := by decide +kernel
theorem d_R_sayAddress_36 : decode b_R_sayAddress 36 = .ok (.iload_n 3, 1) := by decide +kernel
theorem d_R_sayAddress_37 : decode b_R_sayAddress 37 = .ok (.bipush 127, 2) := by decide +kernel
theorem d_R_sayAddress_39 : decode b_R_sayAddress 39 = .ok (.if_icmp .le 10, 3) := by decide +kernel
theorem d_R_sayAddress_42 : decode b_R_sayAddress 42 = .ok (.iload_n 3, 1) := by decide +kernel
theorem d_R_sayAddress_43 : decode b_R_sayAddress 43 = .ok (.ldc 138, 2) := by decide +kernel
theorem d_R_sayAddress_45 : decode b_R_sayAddress 45 = .ok (.iadd, 1) := by decide +kernel
theorem d_R_sayAddress_46 : decode b_R_sayAddress 46 = .ok (.goto 4, 3) := by decide +kernel
theorem d_R_sayAddress_0 : decode b_R_sayAddress 0 = .ok (.iload_n 1, 1) := by decide +kernel
theorem d_R_sayAddress_1 : decode b_R_sayAddress 1 = .ok (.sipush 1024, 3) := by decide +kernel
theorem d_R_sayAddress_4 : decode b_R_sayAddress 4 = .ok (.idiv, 1) := by decide +kernel
theorem d_R_sayAddress_5 : decode b_R_sayAddress 5 = .ok (.iconst 2, 1) := by decide +kernel
theorem d_R_sayAddress_6 : decode b_R_sayAddress 6 = .ok (.irem, 1) := by decide +kernel
theorem d_R_sayAddress_7 : decode b_R_sayAddress 7 = .ok (.iconst 1, 1) := by decide +kernel
theorem d_R_sayAddress_8 : decode b_R_sayAddress 8 = .ok (.if_icmp .ne 9, 3) := by decide +kernel
theorem d_R_sayAddress_11 : decode b_R_sayAddress 11 = .ok (.aload_n 0, 1) := by decide +kernel
theorem d_R_sayAddress_12 : decode b_R_sayAddress 12 = .ok (.bipush 64, 2) := by decide +kernel
theorem d_R_sayAddress_14 : decode b_R_sayAddress 14 = .ok (.invokevirtual 415, 3) := by decide +kernel
theorem d_R_functionName_0 : decode b_R_functionName 0 = .ok (.iload_n 0, 1) := by decide +kernel
theorem d_R_functionName_1 : decode b_R_functionName 1 = .ok (.tableswitch 71 0 6 #[43, 47, 51, 55, 59, 63, 67], 43) := by decide +kernel
theorem d_R_functionName_44 : decode b_R_functionName 44 = .ok (.ldc2_w 202, 3) := by decide +kernel
theorem d_R_functionName_47 : decode b_R_functionName 47 = .ok (.lreturn, 1) := by decide +kernel
theorem d_R_functionName_48 : decode b_R_functionName 48 = .ok (.ldc2_w 204, 3) := by decide +kernel
theorem d_R_functionName_51 : decode b_R_functionName 51 = .ok (.lreturn, 1) := by decide +kernel
theorem d_R_functionName_52 : decode b_R_functionName 52 = .ok (.ldc2_w 206, 3) := by decide +kernel
theorem d_R_functionName_55 : decode b_R_functionName 55 = .ok (.lreturn, 1) := by decide +kernel
theorem d_R_functionName_56 : decode b_R_functionName 56 = .ok (.ldc2_w 208, 3) := by decide +kernel
theorem d_R_functionName_59 : decode b_R_functionName 59 = .ok (.lreturn, 1) := by decide +kernel
theorem d_R_functionName_60 : decode b_R_functionName 60 = .ok (.ldc2_w 214, 3) := by decide +kernel
theorem d_R_functionName_63 : decode b_R_functionName 63 = .ok (.lreturn, 1) := by decide +kernel
theorem d_R_functionName_64 : decode b_R_functionName 64 = .ok (.ldc2_w 216, 3) := by decide +kernel
theorem d_R_functionName_67 : decode b_R_functionName 67 = .ok (.lreturn, 1) := by decide +kernel
theorem d_R_functionName_68 : decode b_R_functionName 68 = .ok (.ldc2_w 218, 3) := by decide +kernel
theorem d_R_functionName_71 : decode b_R_functionName 71 = .ok (.lreturn, 1) := by decide +kernel
theorem d_R_functionName_72 : decode b_R_functionName 72 = .ok (.ldc2_w 220, 3) := by decide +kernel
theorem d_R_functionName_75 : decode b_R_functionName 75 = .ok (.lreturn, 1) := by decide +kernel
theorem d_R_skipName_0 : decode b_R_skipName 0 = .ok (.iload_n 0, 1) := by decide +kernel
theorem d_R_skipName_1 : decode b_R_skipName 1 = .ok (.tableswitch 63 1 6 #[39, 43, 47, 51, 55, 59], 39) := by decide +kernel
theorem d_R_skipName_40 : decode b_R_skipName 40 = .ok (.ldc2_w 318, 3) := by decide +kernel
theorem d_R_skipName_43 : decode b_R_skipName 43 = .ok (.lreturn, 1) := by decide +kernel
theorem d_R_skipName_44 : decode b_R_skipName 44 = .ok (.ldc2_w 320, 3) := by decide +kernel
theorem d_R_skipName_47 : decode b_R_skipName 47 = .ok (.lreturn, 1) := by decide +kernel
theorem d_R_skipName_48 : decode b_R_skipName 48 = .ok (.ldc2_w 322, 3) := by decide +kernel
theorem d_R_skipName_51 : decode b_R_skipName 51 = .ok (.lreturn, 1) := by decide +kernel
theorem d_R_skipName_52 : decode b_R_skipName 52 = .ok (.ldc2_w 324, 3) := by decide +kernel
theorem d_R_skipName_55 : decode b_R_skipName 55 = .ok (.lreturn, 1) := by decide +kernel
theorem d_R_skipName_56 : decode b_R_skipName 56 = .ok (.ldc2_w 326, 3) := by decide +kernel
theorem d_R_skipName_59 : decode b_R_skipName 59 = .ok (.lreturn, 1) := by decide +kernel
theorem d_R_skipName_60 : decode b_R_skipName 60 = .ok (.ldc2_w 328, 3) := by decide +kernel
theorem d_R_skipName_63 : decode b_R_skipName 63 = .ok (.lreturn, 1) := by decide +kernel
theorem d_R_skipName_64 : decode b_R_skipName 64 = .ok (.ldc2_w 330, 3) := by decide +kernel
theorem d_R_skipName_67 : decode b_R_skipName 67 = .ok (.lreturn, 1) := by decide +kernel
theorem d_R_sayReckoning_105 : decode b_R_sayReckoning 105 = .ok (.aload_n 0, 1) := by decide +kernel
theorem d_R_sayReckoning_106 : decode b_R_sayReckoning 106 = .ok (.bipush 32, 2) := by decide +kernel
theorem d_R_sayReckoning_108 : decode b_R_sayReckoning 108 = .ok (.invokevirtual 415, 3) := by decide +kernel
theorem d_R_sayReckoning_111 : decode b_R_sayReckoning 111 = .ok (.aload_n 0, 1) := by decide +kernel
theorem d_R_sayReckoning_112 : decode b_R_sayReckoning 112 = .ok (.iload_n 1, 1) := by decide +kernel
theorem d_R_sayReckoning_113 : decode b_R_sayReckoning 113 = .ok (.sipush 8192, 3) := by decide +kernel
theorem d_R_sayReckoning_116 : decode b_R_sayReckoning 116 = .ok (.idiv, 1) := by decide +kernel
theorem d_R_sayReckoning_117 : decode b_R_sayReckoning 117 = .ok (.iconst 4, 1) := by decide +kernel
theorem d_R_sayReckoning_118 : decode b_R_sayReckoning 118 = .ok (.irem, 1) := by decide +kernel
theorem d_R_sayReckoning_119 : decode b_R_sayReckoning 119 = .ok (.invokevirtual 418, 3) := by decide +kernel
theorem d_R_sayReckoning_122 : decode b_R_sayReckoning 122 = .ok (.aload_n 0, 1) := by decide +kernel
theorem d_R_sayReckoning_123 : decode b_R_sayReckoning 123 = .ok (.bipush 44, 2) := by decide +kernel
theorem d_R_sayReckoning_125 : decode b_R_sayReckoning 125 = .ok (.invokevirtual 415, 3) := by decide +kernel
theorem d_R_sayReckoning_128 : decode b_R_sayReckoning 128 = .ok (.aload_n 0, 1) := by decide +kernel
theorem d_R_sayReckoning_129 : decode b_R_sayReckoning 129 = .ok (.iload_n 1, 1) := by decide +kernel
theorem d_R_sayReckoning_130 : decode b_R_sayReckoning 130 = .ok (.sipush 2048, 3) := by decide +kernel
theorem d_R_sayReckoning_133 : decode b_R_sayReckoning 133 = .ok (.idiv, 1) := by decide +kernel
theorem d_R_sayReckoning_134 : decode b_R_sayReckoning 134 = .ok (.iconst 4, 1) := by decide +kernel
theorem d_R_sayReckoning_135 : decode b_R_sayReckoning 135 = .ok (.irem, 1) := by decide +kernel
theorem d_R_sayReckoning_136 : decode b_R_sayReckoning 136 = .ok (.invokevirtual 418, 3) := by decide +kernel
theorem d_R_sayReckoning_139 : decode b_R_sayReckoning 139 = .ok (.iload_n 1, 1) := by decide +kernel
theorem d_R_sayReckoning_140 : decode b_R_sayReckoning 140 = .ok (.bipush 8, 2) := by decide +kernel
theorem d_R_sayReckoning_142 : decode b_R_sayReckoning 142 = .ok (.irem, 1) := by decide +kernel
theorem d_R_sayReckoning_143 : decode b_R_sayReckoning 143 = .ok (.ifCond .ne 4, 3) := by decide +kernel
theorem d_R_sayReckoning_147 : decode b_R_sayReckoning 147 = .ok (.aload_n 0, 1) := by decide +kernel
theorem d_R_sayReckoning_148 : decode b_R_sayReckoning 148 = .ok (.bipush 44, 2) := by decide +kernel
theorem d_R_sayReckoning_150 : decode b_R_sayReckoning 150 = .ok (.invokevirtual 415, 3) := by decide +kernel
theorem d_R_sayReckoning_153 : decode b_R_sayReckoning 153 = .ok (.aload_n 0, 1) := by decide +kernel
theorem d_R_sayReckoning_154 : decode b_R_sayReckoning 154 = .ok (.iload_n 1, 1) := by decide +kernel
theorem d_R_sayReckoning_155 : decode b_R_sayReckoning 155 = .ok (.bipush 8, 2) := by decide +kernel
theorem d_R_sayReckoning_157 : decode b_R_sayReckoning 157 = .ok (.irem, 1) := by decide +kernel
theorem d_R_sayReckoning_158 : decode b_R_sayReckoning 158 = .ok (.invokestatic 428, 3) := by decide +kernel
theorem d_R_sayReckoning_161 : decode b_R_sayReckoning 161 = .ok (.invokevirtual 425, 3) := by decide +kernel
theorem d_R_sayReckoning_164 : decode b_R_sayReckoning 164 = .ok (.return_, 1) := by decide +kernel
theorem d_R_sayReckoning_146 : decode b_R_sayReckoning 146 = .ok (.return_, 1) := by decide +kernel
theorem d_R_sayReckoning_89 : decode b_R_sayReckoning 89 = .ok (.iload_n 1, 1) := by decide +kernel
theorem d_R_sayReckoning_90 : decode b_R_sayReckoning 90 = .ok (.bipush 8, 2) := by decide +kernel
theorem d_R_sayReckoning_92 : decode b_R_sayReckoning 92 = .ok (.idiv, 1) := by decide +kernel
theorem d_R_sayReckoning_93 : decode b_R_sayReckoning 93 = .ok (.iconst 2, 1) := by decide +kernel
theorem d_R_sayReckoning_94 : decode b_R_sayReckoning 94 = .ok (.irem, 1) := by decide +kernel
theorem d_R_sayReckoning_95 : decode b_R_sayReckoning 95 = .ok (.iconst 1, 1) := by decide +kernel
theorem d_R_sayReckoning_96 : decode b_R_sayReckoning 96 = .ok (.if_icmp .ne 9, 3) := by decide +kernel
theorem d_R_sayReckoning_99 : decode b_R_sayReckoning 99 = .ok (.aload_n 0, 1) := by decide +kernel
theorem d_R_sayReckoning_100 : decode b_R_sayReckoning 100 = .ok (.bipush 35, 2) := by decide +kernel
theorem d_R_sayReckoning_102 : decode b_R_sayReckoning 102 = .ok (.invokevirtual 415, 3) := by decide +kernel
theorem d_R_sayReckoning_86 : decode b_R_sayReckoning 86 = .ok (.invokevirtual 415, 3) := by decide +kernel
theorem d_R_sayReckoning_59 : decode b_R_sayReckoning 59 = .ok (.iload_n 3, 1) := by decide +kernel
theorem d_R_sayReckoning_60 : decode b_R_sayReckoning 60 = .ok (.ifCond .le 29, 3) := by decide +kernel
theorem d_R_sayReckoning_63 : decode b_R_sayReckoning 63 = .ok (.aload_n 0, 1) := by decide +kernel
theorem d_R_sayReckoning_64 : decode b_R_sayReckoning 64 = .ok (.iload_n 3, 1) := by decide +kernel
theorem d_R_sayReckoning_65 : decode b_R_sayReckoning 65 = .ok (.iconst 1, 1) := by decide +kernel
theorem d_R_sayReckoning_66 : decode b_R_sayReckoning 66 = .ok (.if_icmp .ne 8, 3) := by decide +kernel
theorem d_R_sayReckoning_74 : decode b_R_sayReckoning 74 = .ok (.iload_n 3, 1) := by decide +kernel
theorem d_R_sayReckoning_75 : decode b_R_sayReckoning 75 = .ok (.iconst 2, 1) := by decide +kernel
theorem d_R_sayReckoning_76 : decode b_R_sayReckoning 76 = .ok (.if_icmp .ne 8, 3) := by decide +kernel
theorem d_R_sayReckoning_84 : decode b_R_sayReckoning 84 = .ok (.bipush 83, 2) := by decide +kernel
theorem d_R_sayReckoning_79 : decode b_R_sayReckoning 79 = .ok (.bipush 82, 2) := by decide +kernel
theorem d_R_sayReckoning_81 : decode b_R_sayReckoning 81 = .ok (.goto 5, 3) := by decide +kernel
theorem d_R_sayReckoning_69 : decode b_R_sayReckoning 69 = .ok (.bipush 76, 2) := by decide +kernel
theorem d_R_sayReckoning_71 : decode b_R_sayReckoning 71 = .ok (.goto 15, 3) := by decide +kernel
theorem d_R_sayReckoning_56 : decode b_R_sayReckoning 56 = .ok (.invokevirtual 415, 3) := by decide +kernel
theorem d_R_sayReckoning_0 : decode b_R_sayReckoning 0 = .ok (.aload_n 0, 1) := by decide +kernel
theorem d_R_sayReckoning_1 : decode b_R_sayReckoning 1 = .ok (.iload_n 1, 1) := by decide +kernel
theorem d_R_sayReckoning_2 : decode b_R_sayReckoning 2 = .ok (.sipush 256, 3) := by decide +kernel
theorem d_R_sayReckoning_5 : decode b_R_sayReckoning 5 = .ok (.idiv, 1) := by decide +kernel
theorem d_R_sayReckoning_6 : decode b_R_sayReckoning 6 = .ok (.bipush 8, 2) := by decide +kernel
theorem d_R_sayReckoning_8 : decode b_R_sayReckoning 8 = .ok (.irem, 1) := by decide +kernel
theorem d_R_sayReckoning_9 : decode b_R_sayReckoning 9 = .ok (.invokestatic 421, 3) := by decide +kernel
theorem d_R_sayReckoning_12 : decode b_R_sayReckoning 12 = .ok (.invokevirtual 425, 3) := by decide +kernel
theorem d_R_sayReckoning_15 : decode b_R_sayReckoning 15 = .ok (.iload_n 1, 1) := by decide +kernel
theorem d_R_sayReckoning_16 : decode b_R_sayReckoning 16 = .ok (.bipush 16, 2) := by decide +kernel
theorem d_R_sayReckoning_18 : decode b_R_sayReckoning 18 = .ok (.idiv, 1) := by decide +kernel
theorem d_R_sayReckoning_19 : decode b_R_sayReckoning 19 = .ok (.iconst 4, 1) := by decide +kernel
theorem d_R_sayReckoning_20 : decode b_R_sayReckoning 20 = .ok (.irem, 1) := by decide +kernel
theorem d_R_sayReckoning_21 : decode b_R_sayReckoning 21 = .ok (.istore_n 2, 1) := by decide +kernel
theorem d_R_sayReckoning_22 : decode b_R_sayReckoning 22 = .ok (.iload_n 1, 1) := by decide +kernel
theorem d_R_sayReckoning_23 : decode b_R_sayReckoning 23 = .ok (.bipush 64, 2) := by decide +kernel
theorem d_R_sayReckoning_25 : decode b_R_sayReckoning 25 = .ok (.idiv, 1) := by decide +kernel
theorem d_R_sayReckoning_26 : decode b_R_sayReckoning 26 = .ok (.iconst 4, 1) := by decide +kernel
theorem d_R_sayReckoning_27 : decode b_R_sayReckoning 27 = .ok (.irem, 1) := by decide +kernel
theorem d_R_sayReckoning_28 : decode b_R_sayReckoning 28 = .ok (.istore_n 3, 1) := by decide +kernel
theorem d_R_sayReckoning_29 : decode b_R_sayReckoning 29 = .ok (.iload_n 2, 1) := by decide +kernel
theorem d_R_sayReckoning_30 : decode b_R_sayReckoning 30 = .ok (.ifCond .le 29, 3) := by decide +kernel
theorem d_R_sayReckoning_33 : decode b_R_sayReckoning 33 = .ok (.aload_n 0, 1) := by decide +kernel
theorem d_R_sayReckoning_34 : decode b_R_sayReckoning 34 = .ok (.iload_n 2, 1) := by decide +kernel
theorem d_R_sayReckoning_35 : decode b_R_sayReckoning 35 = .ok (.iconst 1, 1) := by decide +kernel
theorem d_R_sayReckoning_36 : decode b_R_sayReckoning 36 = .ok (.if_icmp .ne 8, 3) := by decide +kernel
theorem d_R_sayReckoning_44 : decode b_R_sayReckoning 44 = .ok (.iload_n 2, 1) := by decide +kernel
theorem d_R_sayReckoning_45 : decode b_R_sayReckoning 45 = .ok (.iconst 2, 1) := by decide +kernel
theorem d_R_sayReckoning_46 : decode b_R_sayReckoning 46 = .ok (.if_icmp .ne 8, 3) := by decide +kernel
theorem d_R_sayReckoning_54 : decode b_R_sayReckoning 54 = .ok (.bipush 67, 2) := by decide +kernel
theorem d_R_sayReckoning_49 : decode b_R_sayReckoning 49 = .ok (.bipush 79, 2) := by decide +kernel
theorem d_R_sayReckoning_51 : decode b_R_sayReckoning 51 = .ok (.goto 5, 3) := by decide +kernel
theorem d_R_sayReckoning_39 : decode b_R_sayReckoning 39 = .ok (.bipush 90, 2) := by decide +kernel
theorem d_R_sayReckoning_41 : decode b_R_sayReckoning 41 = .ok (.goto 15, 3) := by decide +kernel
theorem d_R_sayMachine_99 : decode b_R_sayMachine 99 = .ok (.invokevirtual 425, 3) := by decide +kernel
theorem d_R_sayMachine_102 : decode b_R_sayMachine 102 = .ok (.iconst 1, 1) := by decide +kernel
theorem d_R_sayMachine_103 : decode b_R_sayMachine 103 = .ok (.ireturn, 1) := by decide +kernel
theorem d_R_sayMachine_77 : decode b_R_sayMachine 77 = .ok (.iload 4, 2) := by decide +kernel
theorem d_R_sayMachine_79 : decode b_R_sayMachine 79 = .ok (.ifCond .le 5, 3) := by decide +kernel
theorem d_R_sayMachine_84 : decode b_R_sayMachine 84 = .ok (.aload_n 0, 1) := by decide +kernel
theorem d_R_sayMachine_85 : decode b_R_sayMachine 85 = .ok (.iload_n 2, 1) := by decide +kernel
theorem d_R_sayMachine_86 : decode b_R_sayMachine 86 = .ok (.iconst 5, 1) := by decide +kernel
theorem d_R_sayMachine_87 : decode b_R_sayMachine 87 = .ok (.if_icmp .ne 9, 3) := by decide +kernel
theorem d_R_sayMachine_96 : decode b_R_sayMachine 96 = .ok (.ldc2_w 264, 3) := by decide +kernel
theorem d_R_sayMachine_90 : decode b_R_sayMachine 90 = .ok (.ldc2_w 278, 3) := by decide +kernel
theorem d_R_sayMachine_93 : decode b_R_sayMachine 93 = .ok (.goto 6, 3) := by decide +kernel
theorem d_R_sayMachine_82 : decode b_R_sayMachine 82 = .ok (.iconst 0, 1) := by decide +kernel
theorem d_R_sayMachine_83 : decode b_R_sayMachine 83 = .ok (.ireturn, 1) := by decide +kernel
theorem d_R_sayMachine_137 : decode b_R_sayMachine 137 = .ok (.invokevirtual 425, 3) := by decide +kernel
theorem d_R_sayMachine_140 : decode b_R_sayMachine 140 = .ok (.aload_n 0, 1) := by decide +kernel
theorem d_R_sayMachine_141 : decode b_R_sayMachine 141 = .ok (.bipush 32, 2) := by decide +kernel
theorem d_R_sayMachine_143 : decode b_R_sayMachine 143 = .ok (.invokevirtual 415, 3) := by decide +kernel
theorem d_R_sayMachine_146 : decode b_R_sayMachine 146 = .ok (.aload_n 0, 1) := by decide +kernel
theorem d_R_sayMachine_147 : decode b_R_sayMachine 147 = .ok (.iload 4, 2) := by decide +kernel
theorem d_R_sayMachine_149 : decode b_R_sayMachine 149 = .ok (.invokevirtual 418, 3) := by decide +kernel
theorem d_R_sayMachine_152 : decode b_R_sayMachine 152 = .ok (.iconst 1, 1) := by decide +kernel
theorem d_R_sayMachine_153 : decode b_R_sayMachine 153 = .ok (.ireturn, 1) := by decide +kernel
theorem d_R_sayMachine_55 : decode b_R_sayMachine 55 = .ok (.invokevirtual 425, 3) := by decide +kernel
theorem d_R_sayMachine_58 : decode b_R_sayMachine 58 = .ok (.iconst 1, 1) := by decide +kernel
theorem d_R_sayMachine_59 : decode b_R_sayMachine 59 = .ok (.ireturn, 1) := by decide +kernel
theorem d_R_sayMachine_0 : decode b_R_sayMachine 0 = .ok (.iload_n 1, 1) := by decide +kernel
theorem d_R_sayMachine_1 : decode b_R_sayMachine 1 = .ok (.sipush 256, 3) := by decide +kernel
theorem d_R_sayMachine_4 : decode b_R_sayMachine 4 = .ok (.idiv, 1) := by decide +kernel
theorem d_R_sayMachine_5 : decode b_R_sayMachine 5 = .ok (.bipush 8, 2) := by decide +kernel
theorem d_R_sayMachine_7 : decode b_R_sayMachine 7 = .ok (.irem, 1) := by decide +kernel
theorem d_R_sayMachine_8 : decode b_R_sayMachine 8 = .ok (.istore_n 2, 1) := by decide +kernel
theorem d_R_sayMachine_9 : decode b_R_sayMachine 9 = .ok (.iload_n 1, 1) := by decide +kernel
theorem d_R_sayMachine_10 : decode b_R_sayMachine 10 = .ok (.bipush 64, 2) := by decide +kernel
theorem d_R_sayMachine_12 : decode b_R_sayMachine 12 = .ok (.idiv, 1) := by decide +kernel
theorem d_R_sayMachine_13 : decode b_R_sayMachine 13 = .ok (.iconst 4, 1) := by decide +kernel
theorem d_R_sayMachine_14 : decode b_R_sayMachine 14 = .ok (.irem, 1) := by decide +kernel
theorem d_R_sayMachine_15 : decode b_R_sayMachine 15 = .ok (.istore_n 3, 1) := by decide +kernel
theorem d_R_sayMachine_16 : decode b_R_sayMachine 16 = .ok (.iload_n 1, 1) := by decide +kernel
theorem d_R_sayMachine_17 : decode b_R_sayMachine 17 = .ok (.sipush 2048, 3) := by decide +kernel
theorem d_R_sayMachine_20 : decode b_R_sayMachine 20 = .ok (.idiv, 1) := by decide +kernel
theorem d_R_sayMachine_21 : decode b_R_sayMachine 21 = .ok (.iconst 4, 1) := by decide +kernel
theorem d_R_sayMachine_22 : decode b_R_sayMachine 22 = .ok (.irem, 1) := by decide +kernel
theorem d_R_sayMachine_23 : decode b_R_sayMachine 23 = .ok (.istore 4, 2) := by decide +kernel
theorem d_R_sayMachine_25 : decode b_R_sayMachine 25 = .ok (.iload_n 2, 1) := by decide +kernel
theorem d_R_sayMachine_26 : decode b_R_sayMachine 26 = .ok (.ifCond .ne 34, 3) := by decide +kernel
theorem d_R_sayMachine_60 : decode b_R_sayMachine 60 = .ok (.iload_n 3, 1) := by decide +kernel
theorem d_R_sayMachine_61 : decode b_R_sayMachine 61 = .ok (.ifCond .le 5, 3) := by decide +kernel
theorem d_R_sayMachine_66 : decode b_R_sayMachine 66 = .ok (.iload_n 2, 1) := by decide +kernel
theorem d_R_sayMachine_67 : decode b_R_sayMachine 67 = .ok (.iconst 5, 1) := by decide +kernel
theorem d_R_sayMachine_68 : decode b_R_sayMachine 68 = .ok (.if_icmp .eq 9, 3) := by decide +kernel
theorem d_R_sayMachine_71 : decode b_R_sayMachine 71 = .ok (.iload_n 2, 1) := by decide +kernel
theorem d_R_sayMachine_72 : decode b_R_sayMachine 72 = .ok (.bipush 6, 2) := by decide +kernel
theorem d_R_sayMachine_74 : decode b_R_sayMachine 74 = .ok (.if_icmp .ne 30, 3) := by decide +kernel
theorem d_R_sayMachine_104 : decode b_R_sayMachine 104 = .ok (.iload_n 2, 1) := by decide +kernel
theorem d_R_sayMachine_105 : decode b_R_sayMachine 105 = .ok (.iconst 2, 1) := by decide +kernel
theorem d_R_sayMachine_106 : decode b_R_sayMachine 106 = .ok (.if_icmp .ne 5, 3) := by decide +kernel
theorem d_R_sayMachine_111 : decode b_R_sayMachine 111 = .ok (.aload_n 0, 1) := by decide +kernel
theorem d_R_sayMachine_112 : decode b_R_sayMachine 112 = .ok (.iload_n 2, 1) := by decide +kernel
theorem d_R_sayMachine_113 : decode b_R_sayMachine 113 = .ok (.iconst 1, 1) := by decide +kernel
theorem d_R_sayMachine_114 : decode b_R_sayMachine 114 = .ok (.if_icmp .ne 9, 3) := by decide +kernel
theorem d_R_sayMachine_123 : decode b_R_sayMachine 123 = .ok (.iload_n 2, 1) := by decide +kernel
theorem d_R_sayMachine_124 : decode b_R_sayMachine 124 = .ok (.iconst 3, 1) := by decide +kernel
theorem d_R_sayMachine_125 : decode b_R_sayMachine 125 = .ok (.if_icmp .ne 9, 3) := by decide +kernel
theorem d_R_sayMachine_134 : decode b_R_sayMachine 134 = .ok (.ldc2_w 272, 3) := by decide +kernel
theorem d_R_sayMachine_128 : decode b_R_sayMachine 128 = .ok (.ldc2_w 270, 3) := by decide +kernel
theorem d_R_sayMachine_131 : decode b_R_sayMachine 131 = .ok (.goto 6, 3) := by decide +kernel
theorem d_R_sayMachine_117 : decode b_R_sayMachine 117 = .ok (.ldc2_w 280, 3) := by decide +kernel
theorem d_R_sayMachine_120 : decode b_R_sayMachine 120 = .ok (.goto 17, 3) := by decide +kernel
theorem d_R_sayMachine_109 : decode b_R_sayMachine 109 = .ok (.iconst 0, 1) := by decide +kernel
theorem d_R_sayMachine_110 : decode b_R_sayMachine 110 = .ok (.ireturn, 1) := by decide +kernel
theorem d_R_sayMachine_64 : decode b_R_sayMachine 64 = .ok (.iconst 0, 1) := by decide +kernel
theorem d_R_sayMachine_65 : decode b_R_sayMachine 65 = .ok (.ireturn, 1) := by decide +kernel
theorem d_R_sayMachine_29 : decode b_R_sayMachine 29 = .ok (.iload_n 3, 1) := by decide +kernel
theorem d_R_sayMachine_30 : decode b_R_sayMachine 30 = .ok (.ifCond .eq 8, 3) := by decide +kernel
theorem d_R_sayMachine_38 : decode b_R_sayMachine 38 = .ok (.iconst 0, 1) := by decide +kernel
theorem d_R_sayMachine_39 : decode b_R_sayMachine 39 = .ok (.ireturn, 1) := by decide +kernel
theorem d_R_sayMachine_33 : decode b_R_sayMachine 33 = .ok (.iload_n 3, 1) := by decide +kernel
theorem d_R_sayMachine_34 : decode b_R_sayMachine 34 = .ok (.iconst 3, 1) := by decide +kernel
theorem d_R_sayMachine_35 : decode b_R_sayMachine 35 = .ok (.if_icmp .ne 5, 3) := by decide +kernel
theorem d_R_sayMachine_40 : decode b_R_sayMachine 40 = .ok (.aload_n 0, 1) := by decide +kernel
theorem d_R_sayMachine_41 : decode b_R_sayMachine 41 = .ok (.iload_n 3, 1) := by decide +kernel
theorem d_R_sayMachine_42 : decode b_R_sayMachine 42 = .ok (.iconst 1, 1) := by decide +kernel
theorem d_R_sayMachine_43 : decode b_R_sayMachine 43 = .ok (.if_icmp .ne 9, 3) := by decide +kernel
theorem d_R_sayMachine_52 : decode b_R_sayMachine 52 = .ok (.ldc2_w 276, 3) := by decide +kernel
theorem d_R_sayMachine_46 : decode b_R_sayMachine 46 = .ok (.ldc2_w 274, 3) := by decide +kernel
theorem d_R_sayMachine_49 : decode b_R_sayMachine 49 = .ok (.goto 6, 3) := by decide +kernel
theorem d_R_sayDevice_227 : decode b_R_sayDevice 227 = .ok (.aload_n 0, 1) := by decide +kernel
theorem d_R_sayDevice_228 : decode b_R_sayDevice 228 = .ok (.iload_n 1, 1) := by decide +kernel
theorem d_R_sayDevice_229 : decode b_R_sayDevice 229 = .ok (.bipush 64, 2) := by decide +kernel
theorem d_R_sayDevice_231 : decode b_R_sayDevice 231 = .ok (.irem, 1) := by decide +kernel
theorem d_R_sayDevice_232 : decode b_R_sayDevice 232 = .ok (.invokevirtual 418, 3) := by decide +kernel
theorem d_R_sayDevice_235 : decode b_R_sayDevice 235 = .ok (.return_, 1) := by decide +kernel
theorem d_R_sayDevice_205 : decode b_R_sayDevice 205 = .ok (.aload_n 0, 1) := by decide +kernel
theorem d_R_sayDevice_206 : decode b_R_sayDevice 206 = .ok (.bipush 32, 2) := by decide +kernel
theorem d_R_sayDevice_208 : decode b_R_sayDevice 208 = .ok (.invokevirtual 415, 3) := by decide +kernel
theorem d_R_sayDevice_211 : decode b_R_sayDevice 211 = .ok (.iload_n 2, 1) := by decide +kernel
theorem d_R_sayDevice_212 : decode b_R_sayDevice 212 = .ok (.ifCond .le 15, 3) := by decide +kernel
theorem d_R_sayDevice_215 : decode b_R_sayDevice 215 = .ok (.aload_n 0, 1) := by decide +kernel
theorem d_R_sayDevice_216 : decode b_R_sayDevice 216 = .ok (.iload 4, 2) := by decide +kernel
theorem d_R_sayDevice_218 : decode b_R_sayDevice 218 = .ok (.invokevirtual 418, 3) := by decide +kernel
theorem d_R_sayDevice_221 : decode b_R_sayDevice 221 = .ok (.aload_n 0, 1) := by decide +kernel
theorem d_R_sayDevice_222 : decode b_R_sayDevice 222 = .ok (.bipush 44, 2) := by decide +kernel
theorem d_R_sayDevice_224 : decode b_R_sayDevice 224 = .ok (.invokevirtual 415, 3) := by decide +kernel
theorem d_R_sayDevice_202 : decode b_R_sayDevice 202 = .ok (.invokevirtual 415, 3) := by decide +kernel
theorem d_R_sayDevice_172 : decode b_R_sayDevice 172 = .ok (.invokevirtual 415, 3) := by decide +kernel
theorem d_R_sayDevice_175 : decode b_R_sayDevice 175 = .ok (.iload_n 3, 1) := by decide +kernel
theorem d_R_sayDevice_176 : decode b_R_sayDevice 176 = .ok (.ifCond .le 29, 3) := by decide +kernel
theorem d_R_sayDevice_179 : decode b_R_sayDevice 179 = .ok (.aload_n 0, 1) := by decide +kernel
theorem d_R_sayDevice_180 : decode b_R_sayDevice 180 = .ok (.iload_n 3, 1) := by decide +kernel
theorem d_R_sayDevice_181 : decode b_R_sayDevice 181 = .ok (.iconst 1, 1) := by decide +kernel
theorem d_R_sayDevice_182 : decode b_R_sayDevice 182 = .ok (.if_icmp .ne 8, 3) := by decide +kernel
theorem d_R_sayDevice_190 : decode b_R_sayDevice 190 = .ok (.iload_n 3, 1) := by decide +kernel
theorem d_R_sayDevice_191 : decode b_R_sayDevice 191 = .ok (.iconst 2, 1) := by decide +kernel
theorem d_R_sayDevice_192 : decode b_R_sayDevice 192 = .ok (.if_icmp .ne 8, 3) := by decide +kernel
theorem d_R_sayDevice_200 : decode b_R_sayDevice 200 = .ok (.bipush 80, 2) := by decide +kernel
theorem d_R_sayDevice_195 : decode b_R_sayDevice 195 = .ok (.bipush 67, 2) := by decide +kernel
theorem d_R_sayDevice_197 : decode b_R_sayDevice 197 = .ok (.goto 5, 3) := by decide +kernel
theorem d_R_sayDevice_185 : decode b_R_sayDevice 185 = .ok (.bipush 83, 2) := by decide +kernel
theorem d_R_sayDevice_187 : decode b_R_sayDevice 187 = .ok (.goto 15, 3) := by decide +kernel
theorem d_R_sayDevice_137 : decode b_R_sayDevice 137 = .ok (.invokevirtual 415, 3) := by decide +kernel
theorem d_R_sayDevice_140 : decode b_R_sayDevice 140 = .ok (.aload_n 0, 1) := by decide +kernel
theorem d_R_sayDevice_141 : decode b_R_sayDevice 141 = .ok (.iload_n 2, 1) := by decide +kernel
theorem d_R_sayDevice_142 : decode b_R_sayDevice 142 = .ok (.ifCond .ne 8, 3) := by decide +kernel
theorem d_R_sayDevice_150 : decode b_R_sayDevice 150 = .ok (.iload_n 2, 1) := by decide +kernel
theorem d_R_sayDevice_151 : decode b_R_sayDevice 151 = .ok (.iconst 3, 1) := by decide +kernel
theorem d_R_sayDevice_152 : decode b_R_sayDevice 152 = .ok (.if_icmp .ge 8, 3) := by decide +kernel
theorem d_R_sayDevice_160 : decode b_R_sayDevice 160 = .ok (.iload_n 2, 1) := by decide +kernel
theorem d_R_sayDevice_161 : decode b_R_sayDevice 161 = .ok (.iconst 5, 1) := by decide +kernel
theorem d_R_sayDevice_162 : decode b_R_sayDevice 162 = .ok (.if_icmp .ge 8, 3) := by decide +kernel
theorem d_R_sayDevice_170 : decode b_R_sayDevice 170 = .ok (.bipush 67, 2) := by decide +kernel
theorem d_R_sayDevice_165 : decode b_R_sayDevice 165 = .ok (.bipush 66, 2) := by decide +kernel
theorem d_R_sayDevice_167 : decode b_R_sayDevice 167 = .ok (.goto 5, 3) := by decide +kernel
theorem d_R_sayDevice_155 : decode b_R_sayDevice 155 = .ok (.bipush 65, 2) := by decide +kernel
theorem d_R_sayDevice_157 : decode b_R_sayDevice 157 = .ok (.goto 15, 3) := by decide +kernel
theorem d_R_sayDevice_145 : decode b_R_sayDevice 145 = .ok (.bipush 79, 2) := by decide +kernel
theorem d_R_sayDevice_147 : decode b_R_sayDevice 147 = .ok (.goto 25, 3) := by decide +kernel
theorem d_R_sayDevice_115 : decode b_R_sayDevice 115 = .ok (.invokevirtual 415, 3) := by decide +kernel
theorem d_R_sayDevice_118 : decode b_R_sayDevice 118 = .ok (.aload_n 0, 1) := by decide +kernel
theorem d_R_sayDevice_119 : decode b_R_sayDevice 119 = .ok (.iload_n 2, 1) := by decide +kernel
theorem d_R_sayDevice_120 : decode b_R_sayDevice 120 = .ok (.iconst 2, 1) := by decide +kernel
theorem d_R_sayDevice_121 : decode b_R_sayDevice 121 = .ok (.irem, 1) := by decide +kernel
theorem d_R_sayDevice_122 : decode b_R_sayDevice 122 = .ok (.iconst 1, 1) := by decide +kernel
theorem d_R_sayDevice_123 : decode b_R_sayDevice 123 = .ok (.if_icmp .eq 7, 3) := by decide +kernel
theorem d_R_sayDevice_130 : decode b_R_sayDevice 130 = .ok (.bipush 73, 2) := by decide +kernel
theorem d_R_sayDevice_132 : decode b_R_sayDevice 132 = .ok (.goto 5, 3) := by decide +kernel
theorem d_R_sayDevice_126 : decode b_R_sayDevice 126 = .ok (.iload_n 2, 1) := by decide +kernel
theorem d_R_sayDevice_127 : decode b_R_sayDevice 127 = .ok (.ifCond .ne 8, 3) := by decide +kernel
theorem d_R_sayDevice_135 : decode b_R_sayDevice 135 = .ok (.bipush 79, 2) := by decide +kernel
theorem d_R_sayDevice_103 : decode b_R_sayDevice 103 = .ok (.aload_n 0, 1) := by decide +kernel
theorem d_R_sayDevice_104 : decode b_R_sayDevice 104 = .ok (.iload_n 2, 1) := by decide +kernel
theorem d_R_sayDevice_105 : decode b_R_sayDevice 105 = .ok (.ifCond .ne 8, 3) := by decide +kernel
theorem d_R_sayDevice_113 : decode b_R_sayDevice 113 = .ok (.bipush 68, 2) := by decide +kernel
theorem d_R_sayDevice_108 : decode b_R_sayDevice 108 = .ok (.bipush 78, 2) := by decide +kernel
theorem d_R_sayDevice_110 : decode b_R_sayDevice 110 = .ok (.goto 5, 3) := by decide +kernel
theorem d_R_sayDevice_67 : decode b_R_sayDevice 67 = .ok (.invokevirtual 425, 3) := by decide +kernel
theorem d_R_sayDevice_70 : decode b_R_sayDevice 70 = .ok (.aload_n 0, 1) := by decide +kernel
theorem d_R_sayDevice_71 : decode b_R_sayDevice 71 = .ok (.bipush 32, 2) := by decide +kernel
theorem d_R_sayDevice_73 : decode b_R_sayDevice 73 = .ok (.invokevirtual 415, 3) := by decide +kernel
theorem d_R_sayDevice_76 : decode b_R_sayDevice 76 = .ok (.aload_n 0, 1) := by decide +kernel
theorem d_R_sayDevice_77 : decode b_R_sayDevice 77 = .ok (.iload_n 1, 1) := by decide +kernel
theorem d_R_sayDevice_78 : decode b_R_sayDevice 78 = .ok (.bipush 64, 2) := by decide +kernel
theorem d_R_sayDevice_80 : decode b_R_sayDevice 80 = .ok (.irem, 1) := by decide +kernel
theorem d_R_sayDevice_81 : decode b_R_sayDevice 81 = .ok (.invokevirtual 418, 3) := by decide +kernel
theorem d_R_sayDevice_84 : decode b_R_sayDevice 84 = .ok (.return_, 1) := by decide +kernel
theorem d_R_sayDevice_0 : decode b_R_sayDevice 0 = .ok (.iload_n 1, 1) := by decide +kernel
theorem d_R_sayDevice_1 : decode b_R_sayDevice 1 = .ok (.sipush 256, 3) := by decide +kernel
theorem d_R_sayDevice_4 : decode b_R_sayDevice 4 = .ok (.idiv, 1) := by decide +kernel
theorem d_R_sayDevice_5 : decode b_R_sayDevice 5 = .ok (.bipush 8, 2) := by decide +kernel
theorem d_R_sayDevice_7 : decode b_R_sayDevice 7 = .ok (.irem, 1) := by decide +kernel
theorem d_R_sayDevice_8 : decode b_R_sayDevice 8 = .ok (.istore_n 2, 1) := by decide +kernel
theorem d_R_sayDevice_9 : decode b_R_sayDevice 9 = .ok (.iload_n 1, 1) := by decide +kernel
theorem d_R_sayDevice_10 : decode b_R_sayDevice 10 = .ok (.bipush 64, 2) := by decide +kernel
theorem d_R_sayDevice_12 : decode b_R_sayDevice 12 = .ok (.idiv, 1) := by decide +kernel
theorem d_R_sayDevice_13 : decode b_R_sayDevice 13 = .ok (.iconst 4, 1) := by decide +kernel
theorem d_R_sayDevice_14 : decode b_R_sayDevice 14 = .ok (.irem, 1) := by decide +kernel
theorem d_R_sayDevice_15 : decode b_R_sayDevice 15 = .ok (.istore_n 3, 1) := by decide +kernel
theorem d_R_sayDevice_16 : decode b_R_sayDevice 16 = .ok (.iload_n 1, 1) := by decide +kernel
theorem d_R_sayDevice_17 : decode b_R_sayDevice 17 = .ok (.sipush 2048, 3) := by decide +kernel
theorem d_R_sayDevice_20 : decode b_R_sayDevice 20 = .ok (.idiv, 1) := by decide +kernel
theorem d_R_sayDevice_21 : decode b_R_sayDevice 21 = .ok (.iconst 4, 1) := by decide +kernel
theorem d_R_sayDevice_22 : decode b_R_sayDevice 22 = .ok (.irem, 1) := by decide +kernel
theorem d_R_sayDevice_23 : decode b_R_sayDevice 23 = .ok (.istore 4, 2) := by decide +kernel
theorem d_R_sayDevice_25 : decode b_R_sayDevice 25 = .ok (.iload_n 2, 1) := by decide +kernel
theorem d_R_sayDevice_26 : decode b_R_sayDevice 26 = .ok (.bipush 7, 2) := by decide +kernel
theorem d_R_sayDevice_28 : decode b_R_sayDevice 28 = .ok (.if_icmp .ne 57, 3) := by decide +kernel
theorem d_R_sayDevice_85 : decode b_R_sayDevice 85 = .ok (.iload_n 1, 1) := by decide +kernel
theorem d_R_sayDevice_86 : decode b_R_sayDevice 86 = .ok (.bipush 64, 2) := by decide +kernel
theorem d_R_sayDevice_88 : decode b_R_sayDevice 88 = .ok (.irem, 1) := by decide +kernel
theorem d_R_sayDevice_89 : decode b_R_sayDevice 89 = .ok (.bipush 63, 2) := by decide +kernel
theorem d_R_sayDevice_91 : decode b_R_sayDevice 91 = .ok (.if_icmp .ne 12, 3) := by decide +kernel
theorem d_R_sayDevice_94 : decode b_R_sayDevice 94 = .ok (.aload_n 0, 1) := by decide +kernel
theorem d_R_sayDevice_95 : decode b_R_sayDevice 95 = .ok (.iload_n 1, 1) := by decide +kernel
theorem d_R_sayDevice_96 : decode b_R_sayDevice 96 = .ok (.invokevirtual 431, 3) := by decide +kernel
theorem d_R_sayDevice_99 : decode b_R_sayDevice 99 = .ok (.ifCond .eq 4, 3) := by decide +kernel
theorem d_R_sayDevice_102 : decode b_R_sayDevice 102 = .ok (.return_, 1) := by decide +kernel
theorem d_R_sayDevice_31 : decode b_R_sayDevice 31 = .ok (.aload_n 0, 1) := by decide +kernel
theorem d_R_sayDevice_32 : decode b_R_sayDevice 32 = .ok (.iload_n 3, 1) := by decide +kernel
theorem d_R_sayDevice_33 : decode b_R_sayDevice 33 = .ok (.ifCond .ne 9, 3) := by decide +kernel
theorem d_R_sayDevice_42 : decode b_R_sayDevice 42 = .ok (.iload_n 3, 1) := by decide +kernel
theorem d_R_sayDevice_43 : decode b_R_sayDevice 43 = .ok (.iconst 1, 1) := by decide +kernel
theorem d_R_sayDevice_44 : decode b_R_sayDevice 44 = .ok (.if_icmp .ne 9, 3) := by decide +kernel
theorem d_R_sayDevice_53 : decode b_R_sayDevice 53 = .ok (.iload_n 3, 1) := by decide +kernel
theorem d_R_sayDevice_54 : decode b_R_sayDevice 54 = .ok (.iconst 2, 1) := by decide +kernel
theorem d_R_sayDevice_55 : decode b_R_sayDevice 55 = .ok (.if_icmp .ne 9, 3) := by decide +kernel
theorem d_R_sayDevice_64 : decode b_R_sayDevice 64 = .ok (.ldc2_w 288, 3) := by decide +kernel
theorem d_R_sayDevice_58 : decode b_R_sayDevice 58 = .ok (.ldc2_w 286, 3) := by decide +kernel
theorem d_R_sayDevice_61 : decode b_R_sayDevice 61 = .ok (.goto 6, 3) := by decide +kernel
theorem d_R_sayDevice_47 : decode b_R_sayDevice 47 = .ok (.ldc2_w 284, 3) := by decide +kernel
theorem d_R_sayDevice_50 : decode b_R_sayDevice 50 = .ok (.goto 17, 3) := by decide +kernel
theorem d_R_sayDevice_36 : decode b_R_sayDevice 36 = .ok (.ldc2_w 282, 3) := by decide +kernel
theorem d_R_sayDevice_39 : decode b_R_sayDevice 39 = .ok (.goto 28, 3) := by decide +kernel
theorem d_R_tell_202 : decode b_R_tell 202 = .ok (.invokevirtual 425, 3) := by decide +kernel
theorem d_R_tell_205 : decode b_R_tell 205 = .ok (.aload_n 0, 1) := by decide +kernel
theorem d_R_tell_206 : decode b_R_tell 206 = .ok (.bipush 32, 2) := by decide +kernel
theorem d_R_tell_208 : decode b_R_tell 208 = .ok (.invokevirtual 415, 3) := by decide +kernel
theorem d_R_tell_211 : decode b_R_tell 211 = .ok (.aload_n 0, 1) := by decide +kernel
theorem d_R_tell_212 : decode b_R_tell 212 = .ok (.iload_n 2, 1) := by decide +kernel
theorem d_R_tell_213 : decode b_R_tell 213 = .ok (.invokevirtual 440, 3) := by decide +kernel
theorem d_R_tell_216 : decode b_R_tell 216 = .ok (.aload_n 0, 1) := by decide +kernel
theorem d_R_tell_217 : decode b_R_tell 217 = .ok (.getfield 131, 3) := by decide +kernel
theorem d_R_tell_220 : decode b_R_tell 220 = .ok (.ireturn, 1) := by decide +kernel
theorem d_R_tell_138 : decode b_R_tell 138 = .ok (.invokevirtual 425, 3) := by decide +kernel
theorem d_R_tell_141 : decode b_R_tell 141 = .ok (.aload_n 0, 1) := by decide +kernel
theorem d_R_tell_142 : decode b_R_tell 142 = .ok (.bipush 32, 2) := by decide +kernel
theorem d_R_tell_144 : decode b_R_tell 144 = .ok (.invokevirtual 415, 3) := by decide +kernel
theorem d_R_tell_147 : decode b_R_tell 147 = .ok (.aload_n 0, 1) := by decide +kernel
theorem d_R_tell_148 : decode b_R_tell 148 = .ok (.iload_n 3, 1) := by decide +kernel
theorem d_R_tell_149 : decode b_R_tell 149 = .ok (.invokevirtual 418, 3) := by decide +kernel
theorem d_R_tell_152 : decode b_R_tell 152 = .ok (.aload_n 0, 1) := by decide +kernel
theorem d_R_tell_153 : decode b_R_tell 153 = .ok (.bipush 44, 2) := by decide +kernel
theorem d_R_tell_155 : decode b_R_tell 155 = .ok (.invokevirtual 415, 3) := by decide +kernel
theorem d_R_tell_158 : decode b_R_tell 158 = .ok (.aload_n 0, 1) := by decide +kernel
theorem d_R_tell_159 : decode b_R_tell 159 = .ok (.iload_n 2, 1) := by decide +kernel
theorem d_R_tell_160 : decode b_R_tell 160 = .ok (.invokevirtual 440, 3) := by decide +kernel
theorem d_R_tell_163 : decode b_R_tell 163 = .ok (.goto 53, 3) := by decide +kernel
theorem d_R_tell_103 : decode b_R_tell 103 = .ok (.aload_n 0, 1) := by decide +kernel
theorem d_R_tell_104 : decode b_R_tell 104 = .ok (.iload_n 2, 1) := by decide +kernel
theorem d_R_tell_105 : decode b_R_tell 105 = .ok (.invokevirtual 437, 3) := by decide +kernel
theorem d_R_tell_108 : decode b_R_tell 108 = .ok (.goto 108, 3) := by decide +kernel
theorem d_R_tell_95 : decode b_R_tell 95 = .ok (.aload_n 0, 1) := by decide +kernel
theorem d_R_tell_96 : decode b_R_tell 96 = .ok (.iload_n 2, 1) := by decide +kernel
theorem d_R_tell_97 : decode b_R_tell 97 = .ok (.invokevirtual 418, 3) := by decide +kernel
theorem d_R_tell_100 : decode b_R_tell 100 = .ok (.goto 8, 3) := by decide +kernel
theorem d_R_tell_17 : decode b_R_tell 17 = .ok (.iconst 1, 1) := by decide +kernel
theorem d_R_tell_18 : decode b_R_tell 18 = .ok (.invokevirtual 77, 3) := by decide +kernel
theorem d_R_tell_21 : decode b_R_tell 21 = .ok (.ifCond .eq 5, 3) := by decide +kernel
theorem d_R_tell_26 : decode b_R_tell 26 = .ok (.aload_n 0, 1) := by decide +kernel
theorem d_R_tell_27 : decode b_R_tell 27 = .ok (.getfield 8, 3) := by decide +kernel
theorem d_R_tell_30 : decode b_R_tell 30 = .ok (.iload_n 1, 1) := by decide +kernel
theorem d_R_tell_31 : decode b_R_tell 31 = .ok (.iaload, 1) := by decide +kernel
theorem d_R_tell_32 : decode b_R_tell 32 = .ok (.istore_n 2, 1) := by decide +kernel
theorem d_R_tell_33 : decode b_R_tell 33 = .ok (.aload_n 0, 1) := by decide +kernel
theorem d_R_tell_34 : decode b_R_tell 34 = .ok (.iconst 0, 1) := by decide +kernel
theorem d_R_tell_35 : decode b_R_tell 35 = .ok (.putfield 131, 3) := by decide +kernel
theorem d_R_tell_38 : decode b_R_tell 38 = .ok (.iload_n 2, 1) := by decide +kernel
theorem d_R_tell_39 : decode b_R_tell 39 = .ok (.sipush 2048, 3) := by decide +kernel
theorem d_R_tell_42 : decode b_R_tell 42 = .ok (.idiv, 1) := by decide +kernel
theorem d_R_tell_43 : decode b_R_tell 43 = .ok (.iconst 4, 1) := by decide +kernel
theorem d_R_tell_44 : decode b_R_tell 44 = .ok (.irem, 1) := by decide +kernel
theorem d_R_tell_45 : decode b_R_tell 45 = .ok (.istore_n 3, 1) := by decide +kernel
theorem d_R_tell_46 : decode b_R_tell 46 = .ok (.iload_n 2, 1) := by decide +kernel
theorem d_R_tell_47 : decode b_R_tell 47 = .ok (.ldc 7, 2) := by decide +kernel
theorem d_R_tell_49 : decode b_R_tell 49 = .ok (.if_icmp .lt 11, 3) := by decide +kernel
theorem d_R_tell_60 : decode b_R_tell 60 = .ok (.iload_n 2, 1) := by decide +kernel
theorem d_R_tell_61 : decode b_R_tell 61 = .ok (.sipush 8192, 3) := by decide +kernel
theorem d_R_tell_64 : decode b_R_tell 64 = .ok (.idiv, 1) := by decide +kernel
theorem d_R_tell_65 : decode b_R_tell 65 = .ok (.iconst 3, 1) := by decide +kernel
theorem d_R_tell_66 : decode b_R_tell 66 = .ok (.if_icmp .ne 45, 3) := by decide +kernel
theorem d_R_tell_111 : decode b_R_tell 111 = .ok (.iload_n 2, 1) := by decide +kernel
theorem d_R_tell_112 : decode b_R_tell 112 = .ok (.sipush 8192, 3) := by decide +kernel
theorem d_R_tell_115 : decode b_R_tell 115 = .ok (.idiv, 1) := by decide +kernel
theorem d_R_tell_116 : decode b_R_tell 116 = .ok (.ifCond .le 50, 3) := by decide +kernel
theorem d_R_tell_166 : decode b_R_tell 166 = .ok (.aload_n 0, 1) := by decide +kernel
theorem d_R_tell_167 : decode b_R_tell 167 = .ok (.iload_n 3, 1) := by decide +kernel
theorem d_R_tell_168 : decode b_R_tell 168 = .ok (.ifCond .ne 9, 3) := by decide +kernel
theorem d_R_tell_177 : decode b_R_tell 177 = .ok (.iload_n 3, 1) := by decide +kernel
theorem d_R_tell_178 : decode b_R_tell 178 = .ok (.iconst 1, 1) := by decide +kernel
theorem d_R_tell_179 : decode b_R_tell 179 = .ok (.if_icmp .ne 9, 3) := by decide +kernel
theorem d_R_tell_188 : decode b_R_tell 188 = .ok (.iload_n 3, 1) := by decide +kernel
theorem d_R_tell_189 : decode b_R_tell 189 = .ok (.iconst 2, 1) := by decide +kernel
theorem d_R_tell_190 : decode b_R_tell 190 = .ok (.if_icmp .ne 9, 3) := by decide +kernel
theorem d_R_tell_199 : decode b_R_tell 199 = .ok (.ldc2_w 250, 3) := by decide +kernel
theorem d_R_tell_193 : decode b_R_tell 193 = .ok (.ldc2_w 248, 3) := by decide +kernel
theorem d_R_tell_196 : decode b_R_tell 196 = .ok (.goto 6, 3) := by decide +kernel
theorem d_R_tell_182 : decode b_R_tell 182 = .ok (.ldc2_w 246, 3) := by decide +kernel
theorem d_R_tell_185 : decode b_R_tell 185 = .ok (.goto 17, 3) := by decide +kernel
theorem d_R_tell_171 : decode b_R_tell 171 = .ok (.ldc2_w 244, 3) := by decide +kernel
theorem d_R_tell_174 : decode b_R_tell 174 = .ok (.goto 28, 3) := by decide +kernel
theorem d_R_tell_119 : decode b_R_tell 119 = .ok (.aload_n 0, 1) := by decide +kernel
theorem d_R_tell_120 : decode b_R_tell 120 = .ok (.iload_n 2, 1) := by decide +kernel
theorem d_R_tell_121 : decode b_R_tell 121 = .ok (.sipush 8192, 3) := by decide +kernel
theorem d_R_tell_124 : decode b_R_tell 124 = .ok (.idiv, 1) := by decide +kernel
theorem d_R_tell_125 : decode b_R_tell 125 = .ok (.iconst 1, 1) := by decide +kernel
theorem d_R_tell_126 : decode b_R_tell 126 = .ok (.if_icmp .ne 9, 3) := by decide +kernel
theorem d_R_tell_135 : decode b_R_tell 135 = .ok (.ldc2_w 254, 3) := by decide +kernel
theorem d_R_tell_129 : decode b_R_tell 129 = .ok (.ldc2_w 252, 3) := by decide +kernel
theorem d_R_tell_132 : decode b_R_tell 132 = .ok (.goto 6, 3) := by decide +kernel
theorem d_R_tell_69 : decode b_R_tell 69 = .ok (.iload_n 2, 1) := by decide +kernel
theorem d_R_tell_70 : decode b_R_tell 70 = .ok (.sipush 256, 3) := by decide +kernel
theorem d_R_tell_73 : decode b_R_tell 73 = .ok (.idiv, 1) := by decide +kernel
theorem d_R_tell_74 : decode b_R_tell 74 = .ok (.bipush 8, 2) := by decide +kernel
theorem d_R_tell_76 : decode b_R_tell 76 = .ok (.irem, 1) := by decide +kernel
theorem d_R_tell_77 : decode b_R_tell 77 = .ok (.istore 4, 2) := by decide +kernel
theorem d_R_tell_79 : decode b_R_tell 79 = .ok (.iload_n 3, 1) := by decide +kernel
theorem d_R_tell_80 : decode b_R_tell 80 = .ok (.ifCond .le 23, 3) := by decide +kernel
theorem d_R_tell_83 : decode b_R_tell 83 = .ok (.iload 4, 2) := by decide +kernel
theorem d_R_tell_85 : decode b_R_tell 85 = .ok (.ifCond .eq 10, 3) := by decide +kernel
theorem d_R_tell_88 : decode b_R_tell 88 = .ok (.iload 4, 2) := by decide +kernel
theorem d_R_tell_90 : decode b_R_tell 90 = .ok (.bipush 7, 2) := by decide +kernel
theorem d_R_tell_92 : decode b_R_tell 92 = .ok (.if_icmp .ne 11, 3) := by decide +kernel
theorem d_R_tell_52 : decode b_R_tell 52 = .ok (.aload_n 0, 1) := by decide +kernel
theorem d_R_tell_53 : decode b_R_tell 53 = .ok (.iload_n 2, 1) := by decide +kernel
theorem d_R_tell_54 : decode b_R_tell 54 = .ok (.invokevirtual 434, 3) := by decide +kernel
theorem d_R_tell_57 : decode b_R_tell 57 = .ok (.goto 159, 3) := by decide +kernel
theorem d_R_tell_24 : decode b_R_tell 24 = .ok (.iconst 0, 1) := by decide +kernel
theorem d_R_tell_25 : decode b_R_tell 25 = .ok (.ireturn, 1) := by decide +kernel
theorem d_R_tell_0 : decode b_R_tell 0 = .ok (.aload_n 0, 1) := by decide +kernel
theorem d_R_tell_1 : decode b_R_tell 1 = .ok (.iload_n 1, 1) := by decide +kernel
theorem d_R_tell_2 : decode b_R_tell 2 = .ok (.iconst 0, 1) := by decide +kernel
theorem d_R_tell_3 : decode b_R_tell 3 = .ok (.sipush 32767, 3) := by decide +kernel
theorem d_R_tell_6 : decode b_R_tell 6 = .ok (.invokestatic 72, 3) := by decide +kernel
theorem d_R_tell_9 : decode b_R_tell 9 = .ok (.ifCond .ne 7, 3) := by decide +kernel
theorem d_R_tell_16 : decode b_R_tell 16 = .ok (.iconst 0, 1) := by decide +kernel
theorem d_R_tell_12 : decode b_R_tell 12 = .ok (.iconst 1, 1) := by decide +kernel
theorem d_R_tell_13 : decode b_R_tell 13 = .ok (.goto 4, 3) := by decide +kernel
theorem d_R_told_0 : decode b_R_told 0 = .ok (.aload_n 0, 1) := by decide +kernel
theorem d_R_told_1 : decode b_R_told 1 = .ok (.iconst 0, 1) := by decide +kernel
theorem d_R_told_2 : decode b_R_told 2 = .ok (.putfield 68, 3) := by decide +kernel
theorem d_R_told_5 : decode b_R_told 5 = .ok (.iload_n 1, 1) := by decide +kernel
theorem d_R_told_6 : decode b_R_told 6 = .ok (.ifCond .lt 20, 3) := by decide +kernel
theorem d_R_told_26 : decode b_R_told 26 = .ok (.iconst (-1), 1) := by decide +kernel
theorem d_R_told_27 : decode b_R_told 27 = .ok (.ireturn, 1) := by decide +kernel
theorem d_R_told_9 : decode b_R_told 9 = .ok (.iload_n 1, 1) := by decide +kernel
theorem d_R_told_10 : decode b_R_told 10 = .ok (.aload_n 0, 1) := by decide +kernel
theorem d_R_told_11 : decode b_R_told 11 = .ok (.getfield 131, 3) := by decide +kernel
theorem d_R_told_14 : decode b_R_told 14 = .ok (.if_icmp .ge 12, 3) := by decide +kernel
theorem d_R_told_17 : decode b_R_told 17 = .ok (.aload_n 0, 1) := by decide +kernel
theorem d_R_told_18 : decode b_R_told 18 = .ok (.getfield 65, 3) := by decide +kernel
theorem d_R_told_21 : decode b_R_told 21 = .ok (.iload_n 1, 1) := by decide +kernel
theorem d_R_told_22 : decode b_R_told 22 = .ok (.iaload, 1) := by decide +kernel
theorem d_R_told_23 : decode b_R_told 23 = .ok (.goto 4, 3) := by decide +kernel
