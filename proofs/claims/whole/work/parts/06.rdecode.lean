/-! the reference: decode rows, by program -/
theorem d_R_thrown_0 : decode b_R_thrown 0 = .ok (.aload_n 0, 1) := by decide +kernel
theorem d_R_thrown_1 : decode b_R_thrown 1 = .ok (.getfield 68, 3) := by decide +kernel
theorem d_R_thrown_4 : decode b_R_thrown 4 = .ok (.ireturn, 1) := by decide +kernel
theorem d_R_fails_10 : decode b_R_fails 10 = .ok (.putfield 68, 3) := by decide +kernel
theorem d_R_fails_13 : decode b_R_fails 13 = .ok (.iload_n 1, 1) := by decide +kernel
theorem d_R_fails_14 : decode b_R_fails 14 = .ok (.ireturn, 1) := by decide +kernel
theorem d_R_fails_0 : decode b_R_fails 0 = .ok (.aload_n 0, 1) := by decide +kernel
theorem d_R_fails_1 : decode b_R_fails 1 = .ok (.iload_n 1, 1) := by decide +kernel
theorem d_R_fails_2 : decode b_R_fails 2 = .ok (.ifCond .eq 7, 3) := by decide +kernel
theorem d_R_fails_9 : decode b_R_fails 9 = .ok (.iconst 0, 1) := by decide +kernel
theorem d_R_fails_5 : decode b_R_fails 5 = .ok (.iload_n 2, 1) := by decide +kernel
theorem d_R_fails_6 : decode b_R_fails 6 = .ok (.goto 4, 3) := by decide +kernel
theorem d_R_within_0 : decode b_R_within 0 = .ok (.iload_n 0, 1) := by decide +kernel
theorem d_R_within_1 : decode b_R_within 1 = .ok (.iload_n 1, 1) := by decide +kernel
theorem d_R_within_2 : decode b_R_within 2 = .ok (.if_icmp .lt 12, 3) := by decide +kernel
theorem d_R_within_14 : decode b_R_within 14 = .ok (.iconst 0, 1) := by decide +kernel
theorem d_R_within_15 : decode b_R_within 15 = .ok (.ireturn, 1) := by decide +kernel
theorem d_R_within_5 : decode b_R_within 5 = .ok (.iload_n 0, 1) := by decide +kernel
theorem d_R_within_6 : decode b_R_within 6 = .ok (.iload_n 2, 1) := by decide +kernel
theorem d_R_within_7 : decode b_R_within 7 = .ok (.if_icmp .gt 7, 3) := by decide +kernel
theorem d_R_within_10 : decode b_R_within 10 = .ok (.iconst 1, 1) := by decide +kernel
theorem d_R_within_11 : decode b_R_within 11 = .ok (.goto 4, 3) := by decide +kernel
theorem d_R_put_27 : decode b_R_put 27 = .ok (.iconst 1, 1) := by decide +kernel
theorem d_R_put_28 : decode b_R_put 28 = .ok (.invokevirtual 77, 3) := by decide +kernel
theorem d_R_put_31 : decode b_R_put 31 = .ok (.ifCond .eq 5, 3) := by decide +kernel
theorem d_R_put_36 : decode b_R_put 36 = .ok (.aload_n 0, 1) := by decide +kernel
theorem d_R_put_37 : decode b_R_put 37 = .ok (.getfield 8, 3) := by decide +kernel
theorem d_R_put_40 : decode b_R_put 40 = .ok (.iload_n 1, 1) := by decide +kernel
theorem d_R_put_41 : decode b_R_put 41 = .ok (.iaload, 1) := by decide +kernel
theorem d_R_put_42 : decode b_R_put 42 = .ok (.istore_n 3, 1) := by decide +kernel
theorem d_R_put_43 : decode b_R_put 43 = .ok (.aload_n 0, 1) := by decide +kernel
theorem d_R_put_44 : decode b_R_put 44 = .ok (.getfield 8, 3) := by decide +kernel
theorem d_R_put_47 : decode b_R_put 47 = .ok (.iload_n 1, 1) := by decide +kernel
theorem d_R_put_48 : decode b_R_put 48 = .ok (.iload_n 2, 1) := by decide +kernel
theorem d_R_put_49 : decode b_R_put 49 = .ok (.iastore, 1) := by decide +kernel
theorem d_R_put_50 : decode b_R_put 50 = .ok (.iload_n 3, 1) := by decide +kernel
theorem d_R_put_51 : decode b_R_put 51 = .ok (.ireturn, 1) := by decide +kernel
theorem d_R_put_34 : decode b_R_put 34 = .ok (.iconst 0, 1) := by decide +kernel
theorem d_R_put_35 : decode b_R_put 35 = .ok (.ireturn, 1) := by decide +kernel
theorem d_R_put_0 : decode b_R_put 0 = .ok (.aload_n 0, 1) := by decide +kernel
theorem d_R_put_1 : decode b_R_put 1 = .ok (.iload_n 1, 1) := by decide +kernel
theorem d_R_put_2 : decode b_R_put 2 = .ok (.iconst 0, 1) := by decide +kernel
theorem d_R_put_3 : decode b_R_put 3 = .ok (.sipush 32767, 3) := by decide +kernel
theorem d_R_put_6 : decode b_R_put 6 = .ok (.invokestatic 72, 3) := by decide +kernel
theorem d_R_put_9 : decode b_R_put 9 = .ok (.ifCond .eq 13, 3) := by decide +kernel
theorem d_R_put_22 : decode b_R_put 22 = .ok (.iconst 1, 1) := by decide +kernel
theorem d_R_put_23 : decode b_R_put 23 = .ok (.goto 4, 3) := by decide +kernel
theorem d_R_put_12 : decode b_R_put 12 = .ok (.iload_n 2, 1) := by decide +kernel
theorem d_R_put_13 : decode b_R_put 13 = .ok (.iconst 0, 1) := by decide +kernel
theorem d_R_put_14 : decode b_R_put 14 = .ok (.ldc 76, 2) := by decide +kernel
theorem d_R_put_16 : decode b_R_put 16 = .ok (.invokestatic 72, 3) := by decide +kernel
theorem d_R_put_19 : decode b_R_put 19 = .ok (.ifCond .ne 7, 3) := by decide +kernel
theorem d_R_put_26 : decode b_R_put 26 = .ok (.iconst 0, 1) := by decide +kernel
theorem d_R_word_17 : decode b_R_word 17 = .ok (.iconst 1, 1) := by decide +kernel
theorem d_R_word_18 : decode b_R_word 18 = .ok (.invokevirtual 77, 3) := by decide +kernel
theorem d_R_word_21 : decode b_R_word 21 = .ok (.ifCond .eq 5, 3) := by decide +kernel
theorem d_R_word_26 : decode b_R_word 26 = .ok (.aload_n 0, 1) := by decide +kernel
theorem d_R_word_27 : decode b_R_word 27 = .ok (.getfield 8, 3) := by decide +kernel
theorem d_R_word_30 : decode b_R_word 30 = .ok (.iload_n 1, 1) := by decide +kernel
theorem d_R_word_31 : decode b_R_word 31 = .ok (.iaload, 1) := by decide +kernel
theorem d_R_word_32 : decode b_R_word 32 = .ok (.ireturn, 1) := by decide +kernel
theorem d_R_word_24 : decode b_R_word 24 = .ok (.iconst 0, 1) := by decide +kernel
theorem d_R_word_25 : decode b_R_word 25 = .ok (.ireturn, 1) := by decide +kernel
theorem d_R_word_0 : decode b_R_word 0 = .ok (.aload_n 0, 1) := by decide +kernel
theorem d_R_word_1 : decode b_R_word 1 = .ok (.iload_n 1, 1) := by decide +kernel
theorem d_R_word_2 : decode b_R_word 2 = .ok (.iconst 0, 1) := by decide +kernel
theorem d_R_word_3 : decode b_R_word 3 = .ok (.sipush 32767, 3) := by decide +kernel
theorem d_R_word_6 : decode b_R_word 6 = .ok (.invokestatic 72, 3) := by decide +kernel
theorem d_R_word_9 : decode b_R_word 9 = .ok (.ifCond .ne 7, 3) := by decide +kernel
theorem d_R_word_16 : decode b_R_word 16 = .ok (.iconst 0, 1) := by decide +kernel
theorem d_R_word_12 : decode b_R_word 12 = .ok (.iconst 1, 1) := by decide +kernel
theorem d_R_word_13 : decode b_R_word 13 = .ok (.goto 4, 3) := by decide +kernel
theorem d_R_registerOf_0 : decode b_R_registerOf 0 = .ok (.iload_n 1, 1) := by decide +kernel
theorem d_R_registerOf_1 : decode b_R_registerOf 1 = .ok (.iconst 4, 1) := by decide +kernel
theorem d_R_registerOf_2 : decode b_R_registerOf 2 = .ok (.if_icmp .ge 12, 3) := by decide +kernel
theorem d_R_registerOf_14 : decode b_R_registerOf 14 = .ok (.iload_n 1, 1) := by decide +kernel
theorem d_R_registerOf_15 : decode b_R_registerOf 15 = .ok (.iconst 4, 1) := by decide +kernel
theorem d_R_registerOf_16 : decode b_R_registerOf 16 = .ok (.if_icmp .ne 10, 3) := by decide +kernel
theorem d_R_registerOf_26 : decode b_R_registerOf 26 = .ok (.iload_n 1, 1) := by decide +kernel
theorem d_R_registerOf_27 : decode b_R_registerOf 27 = .ok (.iconst 5, 1) := by decide +kernel
theorem d_R_registerOf_28 : decode b_R_registerOf 28 = .ok (.if_icmp .ne 10, 3) := by decide +kernel
theorem d_R_registerOf_38 : decode b_R_registerOf 38 = .ok (.aload_n 0, 1) := by decide +kernel
theorem d_R_registerOf_39 : decode b_R_registerOf 39 = .ok (.getfield 87, 3) := by decide +kernel
theorem d_R_registerOf_42 : decode b_R_registerOf 42 = .ok (.ireturn, 1) := by decide +kernel
theorem d_R_registerOf_31 : decode b_R_registerOf 31 = .ok (.aload_n 0, 1) := by decide +kernel
theorem d_R_registerOf_32 : decode b_R_registerOf 32 = .ok (.getfield 84, 3) := by decide +kernel
theorem d_R_registerOf_35 : decode b_R_registerOf 35 = .ok (.goto 7, 3) := by decide +kernel
theorem d_R_registerOf_19 : decode b_R_registerOf 19 = .ok (.aload_n 0, 1) := by decide +kernel
theorem d_R_registerOf_20 : decode b_R_registerOf 20 = .ok (.getfield 81, 3) := by decide +kernel
theorem d_R_registerOf_23 : decode b_R_registerOf 23 = .ok (.goto 19, 3) := by decide +kernel
theorem d_R_registerOf_5 : decode b_R_registerOf 5 = .ok (.aload_n 0, 1) := by decide +kernel
theorem d_R_registerOf_6 : decode b_R_registerOf 6 = .ok (.getfield 14, 3) := by decide +kernel
theorem d_R_registerOf_9 : decode b_R_registerOf 9 = .ok (.iload_n 1, 1) := by decide +kernel
theorem d_R_registerOf_10 : decode b_R_registerOf 10 = .ok (.iaload, 1) := by decide +kernel
theorem d_R_registerOf_11 : decode b_R_registerOf 11 = .ok (.goto 31, 3) := by decide +kernel
