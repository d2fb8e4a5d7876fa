theorem dX7_isJoined_34 : decode cX7_isJoined 34 = .ok (.istore_n 2, 1) := by decide +kernel
theorem dX7_isJoined_35 : decode cX7_isJoined 35 = .ok (.iconst 0, 1) := by decide +kernel
theorem dX7_isJoined_36 : decode cX7_isJoined 36 = .ok (.istore_n 3, 1) := by decide +kernel
theorem dX7_isJoined_37 : decode cX7_isJoined 37 = .ok (.iload_n 3, 1) := by decide +kernel
theorem dX7_isJoined_38 : decode cX7_isJoined 38 = .ok (.iload_n 2, 1) := by decide +kernel
theorem dX7_isJoined_39 : decode cX7_isJoined 39 = .ok (.if_icmp .ge 49, 3) := by decide +kernel
theorem dX7_isJoined_42 : decode cX7_isJoined 42 = .ok (.aload_n 0, 1) := by decide +kernel
theorem dX7_isJoined_43 : decode cX7_isJoined 43 = .ok (.iload_n 1, 1) := by decide +kernel
theorem dX7_isJoined_44 : decode cX7_isJoined 44 = .ok (.invokestatic 154, 3) := by decide +kernel
theorem dX7_isJoined_47 : decode cX7_isJoined 47 = .ok (.invokevirtual 157, 3) := by decide +kernel
theorem dX7_isJoined_50 : decode cX7_isJoined 50 = .ok (.ifCond .eq 38, 3) := by decide +kernel
theorem dX7_isJoined_53 : decode cX7_isJoined 53 = .ok (.aload_n 0, 1) := by decide +kernel
theorem dX7_isJoined_54 : decode cX7_isJoined 54 = .ok (.invokevirtual 144, 3) := by decide +kernel
theorem dX7_isJoined_57 : decode cX7_isJoined 57 = .ok (.istore 4, 2) := by decide +kernel
theorem dX7_isJoined_59 : decode cX7_isJoined 59 = .ok (.aload_n 0, 1) := by decide +kernel
theorem dX7_isJoined_60 : decode cX7_isJoined 60 = .ok (.invokevirtual 64, 3) := by decide +kernel
theorem dX7_isJoined_63 : decode cX7_isJoined 63 = .ok (.aload_n 0, 1) := by decide +kernel
theorem dX7_isJoined_64 : decode cX7_isJoined 64 = .ok (.iload_n 1, 1) := by decide +kernel
theorem dX7_isJoined_65 : decode cX7_isJoined 65 = .ok (.iconst 1, 1) := by decide +kernel
theorem dX7_isJoined_66 : decode cX7_isJoined 66 = .ok (.iadd, 1) := by decide +kernel
theorem dX7_isJoined_67 : decode cX7_isJoined 67 = .ok (.invokevirtual 78, 3) := by decide +kernel
theorem dX7_isJoined_70 : decode cX7_isJoined 70 = .ok (.ifCond .ne 5, 3) := by decide +kernel
theorem dX7_isJoined_73 : decode cX7_isJoined 73 = .ok (.iconst 0, 1) := by decide +kernel
theorem dX7_isJoined_74 : decode cX7_isJoined 74 = .ok (.ireturn, 1) := by decide +kernel
theorem dX7_isJoined_75 : decode cX7_isJoined 75 = .ok (.aload_n 0, 1) := by decide +kernel
theorem dX7_isJoined_76 : decode cX7_isJoined 76 = .ok (.iload 4, 2) := by decide +kernel
theorem dX7_isJoined_78 : decode cX7_isJoined 78 = .ok (.ineg, 1) := by decide +kernel
theorem dX7_isJoined_79 : decode cX7_isJoined 79 = .ok (.invokevirtual 160, 3) := by decide +kernel
theorem dX7_isJoined_82 : decode cX7_isJoined 82 = .ok (.iinc 3 1, 3) := by decide +kernel
theorem dX7_isJoined_85 : decode cX7_isJoined 85 = .ok (.goto (-48), 3) := by decide +kernel
theorem dX7_isJoined_88 : decode cX7_isJoined 88 = .ok (.iconst 1, 1) := by decide +kernel
theorem dX7_isJoined_89 : decode cX7_isJoined 89 = .ok (.ireturn, 1) := by decide +kernel
theorem dX7_isPart_0 : decode cX7_isPart 0 = .ok (.aload_n 0, 1) := by decide +kernel
theorem dX7_isPart_1 : decode cX7_isPart 1 = .ok (.ldc 164, 2) := by decide +kernel
theorem dX7_isPart_3 : decode cX7_isPart 3 = .ok (.invokevirtual 157, 3) := by decide +kernel
theorem dX7_isPart_6 : decode cX7_isPart 6 = .ok (.ifCond .eq 8, 3) := by decide +kernel
theorem dX7_isPart_9 : decode cX7_isPart 9 = .ok (.aload_n 0, 1) := by decide +kernel
theorem dX7_isPart_10 : decode cX7_isPart 10 = .ok (.invokevirtual 166, 3) := by decide +kernel
theorem dX7_isPart_13 : decode cX7_isPart 13 = .ok (.ireturn, 1) := by decide +kernel
theorem dX7_isPart_14 : decode cX7_isPart 14 = .ok (.aload_n 0, 1) := by decide +kernel
theorem dX7_isPart_15 : decode cX7_isPart 15 = .ok (.ldc 169, 2) := by decide +kernel
theorem dX7_isPart_17 : decode cX7_isPart 17 = .ok (.invokevirtual 157, 3) := by decide +kernel
theorem dX7_isPart_20 : decode cX7_isPart 20 = .ok (.ifCond .eq 8, 3) := by decide +kernel
theorem dX7_isPart_23 : decode cX7_isPart 23 = .ok (.aload_n 0, 1) := by decide +kernel
theorem dX7_isPart_24 : decode cX7_isPart 24 = .ok (.invokevirtual 171, 3) := by decide +kernel
theorem dX7_isPart_27 : decode cX7_isPart 27 = .ok (.ireturn, 1) := by decide +kernel
theorem dX7_isPart_28 : decode cX7_isPart 28 = .ok (.aload_n 0, 1) := by decide +kernel
theorem dX7_isPart_29 : decode cX7_isPart 29 = .ok (.invokevirtual 174, 3) := by decide +kernel
theorem dX7_isPart_32 : decode cX7_isPart 32 = .ok (.ireturn, 1) := by decide +kernel
theorem dX7_isNot_0 : decode cX7_isNot 0 = .ok (.aload_n 0, 1) := by decide +kernel
theorem dX7_isNot_1 : decode cX7_isNot 1 = .ok (.getfield 55, 3) := by decide +kernel
theorem dX7_isNot_4 : decode cX7_isNot 4 = .ok (.bipush 8, 2) := by decide +kernel
theorem dX7_isNot_6 : decode cX7_isNot 6 = .ok (.if_icmp .lt 5, 3) := by decide +kernel
theorem dX7_isNot_9 : decode cX7_isNot 9 = .ok (.iconst 0, 1) := by decide +kernel
theorem dX7_isNot_10 : decode cX7_isNot 10 = .ok (.ireturn, 1) := by decide +kernel
theorem dX7_isNot_11 : decode cX7_isNot 11 = .ok (.aload_n 0, 1) := by decide +kernel
theorem dX7_isNot_12 : decode cX7_isNot 12 = .ok (.dup, 1) := by decide +kernel
theorem dX7_isNot_13 : decode cX7_isNot 13 = .ok (.getfield 55, 3) := by decide +kernel
theorem dX7_isNot_16 : decode cX7_isNot 16 = .ok (.iconst 1, 1) := by decide +kernel
theorem dX7_isNot_17 : decode cX7_isNot 17 = .ok (.iadd, 1) := by decide +kernel
theorem dX7_isNot_18 : decode cX7_isNot 18 = .ok (.putfield 55, 3) := by decide +kernel
theorem dX7_isNot_21 : decode cX7_isNot 21 = .ok (.aload_n 0, 1) := by decide +kernel
theorem dX7_isNot_22 : decode cX7_isNot 22 = .ok (.invokevirtual 64, 3) := by decide +kernel
theorem dX7_isNot_25 : decode cX7_isNot 25 = .ok (.aload_n 0, 1) := by decide +kernel
theorem dX7_isNot_26 : decode cX7_isNot 26 = .ok (.invokevirtual 151, 3) := by decide +kernel
theorem dX7_isNot_29 : decode cX7_isNot 29 = .ok (.ifCond .ne 5, 3) := by decide +kernel
theorem dX7_isNot_32 : decode cX7_isNot 32 = .ok (.iconst 0, 1) := by decide +kernel
theorem dX7_isNot_33 : decode cX7_isNot 33 = .ok (.ireturn, 1) := by decide +kernel
theorem dX7_isNot_34 : decode cX7_isNot 34 = .ok (.aload_n 0, 1) := by decide +kernel
theorem dX7_isNot_35 : decode cX7_isNot 35 = .ok (.bipush (-33), 2) := by decide +kernel
theorem dX7_isNot_37 : decode cX7_isNot 37 = .ok (.invokevirtual 160, 3) := by decide +kernel
theorem dX7_isNot_40 : decode cX7_isNot 40 = .ok (.aload_n 0, 1) := by decide +kernel
theorem dX7_isNot_41 : decode cX7_isNot 41 = .ok (.dup, 1) := by decide +kernel
theorem dX7_isNot_42 : decode cX7_isNot 42 = .ok (.getfield 55, 3) := by decide +kernel
theorem dX7_isNot_45 : decode cX7_isNot 45 = .ok (.iconst 1, 1) := by decide +kernel
theorem dX7_isNot_46 : decode cX7_isNot 46 = .ok (.isub, 1) := by decide +kernel
theorem dX7_isNot_47 : decode cX7_isNot 47 = .ok (.putfield 55, 3) := by decide +kernel
theorem dX7_isNot_50 : decode cX7_isNot 50 = .ok (.iconst 1, 1) := by decide +kernel
theorem dX7_isNot_51 : decode cX7_isNot 51 = .ok (.ireturn, 1) := by decide +kernel
theorem dX7_isInParens_0 : decode cX7_isInParens 0 = .ok (.aload_n 0, 1) := by decide +kernel
theorem dX7_isInParens_1 : decode cX7_isInParens 1 = .ok (.getfield 52, 3) := by decide +kernel
theorem dX7_isInParens_4 : decode cX7_isInParens 4 = .ok (.bipush 8, 2) := by decide +kernel
theorem dX7_isInParens_6 : decode cX7_isInParens 6 = .ok (.if_icmp .lt 5, 3) := by decide +kernel
theorem dX7_isInParens_9 : decode cX7_isInParens 9 = .ok (.iconst 0, 1) := by decide +kernel
theorem dX7_isInParens_10 : decode cX7_isInParens 10 = .ok (.ireturn, 1) := by decide +kernel
theorem dX7_isInParens_11 : decode cX7_isInParens 11 = .ok (.aload_n 0, 1) := by decide +kernel
theorem dX7_isInParens_12 : decode cX7_isInParens 12 = .ok (.dup, 1) := by decide +kernel
theorem dX7_isInParens_13 : decode cX7_isInParens 13 = .ok (.getfield 52, 3) := by decide +kernel
theorem dX7_isInParens_16 : decode cX7_isInParens 16 = .ok (.iconst 1, 1) := by decide +kernel
theorem dX7_isInParens_17 : decode cX7_isInParens 17 = .ok (.iadd, 1) := by decide +kernel
theorem dX7_isInParens_18 : decode cX7_isInParens 18 = .ok (.putfield 52, 3) := by decide +kernel
theorem dX7_isInParens_21 : decode cX7_isInParens 21 = .ok (.aload_n 0, 1) := by decide +kernel
theorem dX7_isInParens_22 : decode cX7_isInParens 22 = .ok (.invokevirtual 64, 3) := by decide +kernel
theorem dX7_isInParens_25 : decode cX7_isInParens 25 = .ok (.aload_n 0, 1) := by decide +kernel
theorem dX7_isInParens_26 : decode cX7_isInParens 26 = .ok (.iconst 0, 1) := by decide +kernel
theorem dX7_isInParens_27 : decode cX7_isInParens 27 = .ok (.invokevirtual 78, 3) := by decide +kernel
theorem dX7_isInParens_30 : decode cX7_isInParens 30 = .ok (.ifCond .eq 12, 3) := by decide +kernel
theorem dX7_isInParens_33 : decode cX7_isInParens 33 = .ok (.aload_n 0, 1) := by decide +kernel
theorem dX7_isInParens_34 : decode cX7_isInParens 34 = .ok (.ldc 177, 2) := by decide +kernel
theorem dX7_isInParens_36 : decode cX7_isInParens 36 = .ok (.invokevirtual 157, 3) := by decide +kernel
theorem dX7_isInParens_39 : decode cX7_isInParens 39 = .ok (.ifCond .ne 5, 3) := by decide +kernel
theorem dX7_isInParens_42 : decode cX7_isInParens 42 = .ok (.iconst 0, 1) := by decide +kernel
theorem dX7_isInParens_43 : decode cX7_isInParens 43 = .ok (.ireturn, 1) := by decide +kernel
theorem dX7_isInParens_44 : decode cX7_isInParens 44 = .ok (.aload_n 0, 1) := by decide +kernel
theorem dX7_isInParens_45 : decode cX7_isInParens 45 = .ok (.invokevirtual 64, 3) := by decide +kernel
theorem dX7_isInParens_48 : decode cX7_isInParens 48 = .ok (.aload_n 0, 1) := by decide +kernel
theorem dX7_isInParens_49 : decode cX7_isInParens 49 = .ok (.dup, 1) := by decide +kernel
theorem dX7_isInParens_50 : decode cX7_isInParens 50 = .ok (.getfield 52, 3) := by decide +kernel
theorem dX7_isInParens_53 : decode cX7_isInParens 53 = .ok (.iconst 1, 1) := by decide +kernel
theorem dX7_isInParens_54 : decode cX7_isInParens 54 = .ok (.isub, 1) := by decide +kernel
theorem dX7_isInParens_55 : decode cX7_isInParens 55 = .ok (.putfield 52, 3) := by decide +kernel
theorem dX7_isInParens_58 : decode cX7_isInParens 58 = .ok (.iconst 1, 1) := by decide +kernel
theorem dX7_isInParens_59 : decode cX7_isInParens 59 = .ok (.ireturn, 1) := by decide +kernel
theorem dX7_isNumberOrName_0 : decode cX7_isNumberOrName 0 = .ok (.aload_n 0, 1) := by decide +kernel
theorem dX7_isNumberOrName_1 : decode cX7_isNumberOrName 1 = .ok (.getfield 125, 3) := by decide +kernel
theorem dX7_isNumberOrName_4 : decode cX7_isNumberOrName 4 = .ok (.ifCond .eq 5, 3) := by decide +kernel
theorem dX7_isNumberOrName_7 : decode cX7_isNumberOrName 7 = .ok (.iconst 0, 1) := by decide +kernel
theorem dX7_isNumberOrName_8 : decode cX7_isNumberOrName 8 = .ok (.ireturn, 1) := by decide +kernel
theorem dX7_isNumberOrName_9 : decode cX7_isNumberOrName 9 = .ok (.aload_n 0, 1) := by decide +kernel
theorem dX7_isNumberOrName_10 : decode cX7_isNumberOrName 10 = .ok (.getfield 61, 3) := by decide +kernel
theorem dX7_isNumberOrName_13 : decode cX7_isNumberOrName 13 = .ok (.iconst 2, 1) := by decide +kernel
theorem dX7_isNumberOrName_14 : decode cX7_isNumberOrName 14 = .ok (.if_icmp .ne 27, 3) := by decide +kernel
theorem dX7_isNumberOrName_17 : decode cX7_isNumberOrName 17 = .ok (.aload_n 0, 1) := by decide +kernel
theorem dX7_isNumberOrName_18 : decode cX7_isNumberOrName 18 = .ok (.getfield 58, 3) := by decide +kernel
theorem dX7_isNumberOrName_21 : decode cX7_isNumberOrName 21 = .ok (.aload_n 0, 1) := by decide +kernel
theorem dX7_isNumberOrName_22 : decode cX7_isNumberOrName 22 = .ok (.getfield 116, 3) := by decide +kernel
theorem dX7_isNumberOrName_25 : decode cX7_isNumberOrName 25 = .ok (.isub, 1) := by decide +kernel
theorem dX7_isNumberOrName_26 : decode cX7_isNumberOrName 26 = .ok (.iconst 5, 1) := by decide +kernel
theorem dX7_isNumberOrName_27 : decode cX7_isNumberOrName 27 = .ok (.if_icmp .gt 14, 3) := by decide +kernel
theorem dX7_isNumberOrName_30 : decode cX7_isNumberOrName 30 = .ok (.aload_n 0, 1) := by decide +kernel
theorem dX7_isNumberOrName_31 : decode cX7_isNumberOrName 31 = .ok (.aload_n 0, 1) := by decide +kernel
theorem dX7_isNumberOrName_32 : decode cX7_isNumberOrName 32 = .ok (.invokevirtual 179, 3) := by decide +kernel
theorem dX7_isNumberOrName_35 : decode cX7_isNumberOrName 35 = .ok (.invokevirtual 160, 3) := by decide +kernel
theorem dX7_isNumberOrName_38 : decode cX7_isNumberOrName 38 = .ok (.goto 52, 3) := by decide +kernel
theorem dX7_isNumberOrName_41 : decode cX7_isNumberOrName 41 = .ok (.aload_n 0, 1) := by decide +kernel
theorem dX7_isNumberOrName_42 : decode cX7_isNumberOrName 42 = .ok (.getfield 61, 3) := by decide +kernel
theorem dX7_isNumberOrName_45 : decode cX7_isNumberOrName 45 = .ok (.iconst 1, 1) := by decide +kernel
theorem dX7_isNumberOrName_46 : decode cX7_isNumberOrName 46 = .ok (.if_icmp .ne 42, 3) := by decide +kernel
theorem dX7_isNumberOrName_49 : decode cX7_isNumberOrName 49 = .ok (.aload_n 0, 1) := by decide +kernel
theorem dX7_isNumberOrName_50 : decode cX7_isNumberOrName 50 = .ok (.getfield 58, 3) := by decide +kernel
theorem dX7_isNumberOrName_53 : decode cX7_isNumberOrName 53 = .ok (.aload_n 0, 1) := by decide +kernel
theorem dX7_isNumberOrName_54 : decode cX7_isNumberOrName 54 = .ok (.getfield 116, 3) := by decide +kernel
theorem dX7_isNumberOrName_57 : decode cX7_isNumberOrName 57 = .ok (.isub, 1) := by decide +kernel
theorem dX7_isNumberOrName_58 : decode cX7_isNumberOrName 58 = .ok (.iconst 1, 1) := by decide +kernel
theorem dX7_isNumberOrName_59 : decode cX7_isNumberOrName 59 = .ok (.if_icmp .ne 29, 3) := by decide +kernel
theorem dX7_isNumberOrName_62 : decode cX7_isNumberOrName 62 = .ok (.aload_n 0, 1) := by decide +kernel
theorem dX7_isNumberOrName_63 : decode cX7_isNumberOrName 63 = .ok (.getfield 24, 3) := by decide +kernel
theorem dX7_isNumberOrName_66 : decode cX7_isNumberOrName 66 = .ok (.aload_n 0, 1) := by decide +kernel
theorem dX7_isNumberOrName_67 : decode cX7_isNumberOrName 67 = .ok (.invokevirtual 144, 3) := by decide +kernel
theorem dX7_isNumberOrName_70 : decode cX7_isNumberOrName 70 = .ok (.invokevirtual 148, 3) := by decide +kernel
theorem dX7_isNumberOrName_73 : decode cX7_isNumberOrName 73 = .ok (.ifCond .lt 15, 3) := by decide +kernel
theorem dX7_isNumberOrName_76 : decode cX7_isNumberOrName 76 = .ok (.aload_n 0, 1) := by decide +kernel
theorem dX7_isNumberOrName_77 : decode cX7_isNumberOrName 77 = .ok (.aload_n 0, 1) := by decide +kernel
theorem dX7_isNumberOrName_78 : decode cX7_isNumberOrName 78 = .ok (.invokevirtual 144, 3) := by decide +kernel
theorem dX7_isNumberOrName_81 : decode cX7_isNumberOrName 81 = .ok (.ineg, 1) := by decide +kernel
theorem dX7_isNumberOrName_82 : decode cX7_isNumberOrName 82 = .ok (.invokevirtual 160, 3) := by decide +kernel
theorem dX7_isNumberOrName_85 : decode cX7_isNumberOrName 85 = .ok (.goto 5, 3) := by decide +kernel
theorem dX7_isNumberOrName_88 : decode cX7_isNumberOrName 88 = .ok (.iconst 0, 1) := by decide +kernel
theorem dX7_isNumberOrName_89 : decode cX7_isNumberOrName 89 = .ok (.ireturn, 1) := by decide +kernel
theorem dX7_isNumberOrName_90 : decode cX7_isNumberOrName 90 = .ok (.aload_n 0, 1) := by decide +kernel
theorem dX7_isNumberOrName_91 : decode cX7_isNumberOrName 91 = .ok (.dup, 1) := by decide +kernel
theorem dX7_isNumberOrName_92 : decode cX7_isNumberOrName 92 = .ok (.getfield 49, 3) := by decide +kernel
theorem dX7_isNumberOrName_95 : decode cX7_isNumberOrName 95 = .ok (.iconst 1, 1) := by decide +kernel
theorem dX7_isNumberOrName_96 : decode cX7_isNumberOrName 96 = .ok (.iadd, 1) := by decide +kernel
theorem dX7_isNumberOrName_97 : decode cX7_isNumberOrName 97 = .ok (.putfield 49, 3) := by decide +kernel
theorem dX7_isNumberOrName_100 : decode cX7_isNumberOrName 100 = .ok (.aload_n 0, 1) := by decide +kernel
theorem dX7_isNumberOrName_101 : decode cX7_isNumberOrName 101 = .ok (.invokevirtual 64, 3) := by decide +kernel
theorem dX7_isNumberOrName_104 : decode cX7_isNumberOrName 104 = .ok (.iconst 1, 1) := by decide +kernel
theorem dX7_isNumberOrName_105 : decode cX7_isNumberOrName 105 = .ok (.ireturn, 1) := by decide +kernel
theorem dX7_number_0 : decode cX7_number 0 = .ok (.iconst 0, 1) := by decide +kernel
theorem dX7_number_1 : decode cX7_number 1 = .ok (.istore_n 1, 1) := by decide +kernel
theorem dX7_number_2 : decode cX7_number 2 = .ok (.aload_n 0, 1) := by decide +kernel
theorem dX7_number_3 : decode cX7_number 3 = .ok (.getfield 116, 3) := by decide +kernel
theorem dX7_number_6 : decode cX7_number 6 = .ok (.istore_n 2, 1) := by decide +kernel
theorem dX7_number_7 : decode cX7_number 7 = .ok (.iload_n 2, 1) := by decide +kernel
theorem dX7_number_8 : decode cX7_number 8 = .ok (.aload_n 0, 1) := by decide +kernel
theorem dX7_number_9 : decode cX7_number 9 = .ok (.getfield 58, 3) := by decide +kernel
theorem dX7_number_12 : decode cX7_number 12 = .ok (.if_icmp .ge 24, 3) := by decide +kernel
theorem dX7_number_15 : decode cX7_number 15 = .ok (.iload_n 1, 1) := by decide +kernel
theorem dX7_number_16 : decode cX7_number 16 = .ok (.bipush 10, 2) := by decide +kernel
theorem dX7_number_18 : decode cX7_number 18 = .ok (.imul, 1) := by decide +kernel
theorem dX7_number_19 : decode cX7_number 19 = .ok (.aload_n 0, 1) := by decide +kernel
theorem dX7_number_20 : decode cX7_number 20 = .ok (.getfield 9, 3) := by decide +kernel
theorem dX7_number_23 : decode cX7_number 23 = .ok (.iload_n 2, 1) := by decide +kernel
theorem dX7_number_24 : decode cX7_number 24 = .ok (.baload, 1) := by decide +kernel
theorem dX7_number_25 : decode cX7_number 25 = .ok (.iadd, 1) := by decide +kernel
theorem dX7_number_26 : decode cX7_number 26 = .ok (.bipush 48, 2) := by decide +kernel
theorem dX7_number_28 : decode cX7_number 28 = .ok (.isub, 1) := by decide +kernel
theorem dX7_number_29 : decode cX7_number 29 = .ok (.istore_n 1, 1) := by decide +kernel
theorem dX7_number_30 : decode cX7_number 30 = .ok (.iinc 2 1, 3) := by decide +kernel
theorem dX7_number_33 : decode cX7_number 33 = .ok (.goto (-26), 3) := by decide +kernel
theorem dX7_number_36 : decode cX7_number 36 = .ok (.iload_n 1, 1) := by decide +kernel
theorem dX7_number_37 : decode cX7_number 37 = .ok (.ireturn, 1) := by decide +kernel
theorem dX7_emit_0 : decode cX7_emit 0 = .ok (.aload_n 0, 1) := by decide +kernel
theorem dX7_emit_1 : decode cX7_emit 1 = .ok (.getfield 37, 3) := by decide +kernel
theorem dX7_emit_4 : decode cX7_emit 4 = .ok (.sipush 132, 3) := by decide +kernel
theorem dX7_emit_7 : decode cX7_emit 7 = .ok (.if_icmp .ge 23, 3) := by decide +kernel
theorem dX7_emit_10 : decode cX7_emit 10 = .ok (.aload_n 0, 1) := by decide +kernel
theorem dX7_emit_11 : decode cX7_emit 11 = .ok (.getfield 15, 3) := by decide +kernel
theorem dX7_emit_14 : decode cX7_emit 14 = .ok (.aload_n 0, 1) := by decide +kernel
theorem dX7_emit_15 : decode cX7_emit 15 = .ok (.getfield 37, 3) := by decide +kernel
theorem dX7_emit_18 : decode cX7_emit 18 = .ok (.iload_n 1, 1) := by decide +kernel
theorem dX7_emit_19 : decode cX7_emit 19 = .ok (.iastore, 1) := by decide +kernel
theorem dX7_emit_20 : decode cX7_emit 20 = .ok (.aload_n 0, 1) := by decide +kernel
theorem dX7_emit_21 : decode cX7_emit 21 = .ok (.dup, 1) := by decide +kernel
theorem dX7_emit_22 : decode cX7_emit 22 = .ok (.getfield 37, 3) := by decide +kernel
theorem dX7_emit_25 : decode cX7_emit 25 = .ok (.iconst 1, 1) := by decide +kernel
theorem dX7_emit_26 : decode cX7_emit 26 = .ok (.iadd, 1) := by decide +kernel
theorem dX7_emit_27 : decode cX7_emit 27 = .ok (.putfield 37, 3) := by decide +kernel
theorem dX7_emit_30 : decode cX7_emit 30 = .ok (.return_, 1) := by decide +kernel
theorem dX8_init_0 : decode cX8_init 0 = .ok (.aload_n 0, 1) := by decide +kernel
theorem dX8_init_1 : decode cX8_init 1 = .ok (.invokespecial 1, 3) := by decide +kernel
theorem dX8_init_4 : decode cX8_init 4 = .ok (.aload_n 0, 1) := by decide +kernel
theorem dX8_init_5 : decode cX8_init 5 = .ok (.iload_n 1, 1) := by decide +kernel
theorem dX8_init_6 : decode cX8_init 6 = .ok (.putfield 7, 3) := by decide +kernel
theorem dX8_init_9 : decode cX8_init 9 = .ok (.aload_n 0, 1) := by decide +kernel
theorem dX8_init_10 : decode cX8_init 10 = .ok (.aload_n 2, 1) := by decide +kernel
theorem dX8_init_11 : decode cX8_init 11 = .ok (.putfield 13, 3) := by decide +kernel
theorem dX8_init_14 : decode cX8_init 14 = .ok (.aload_n 0, 1) := by decide +kernel
theorem dX8_init_15 : decode cX8_init 15 = .ok (.aload_n 3, 1) := by decide +kernel
theorem dX8_init_16 : decode cX8_init 16 = .ok (.putfield 17, 3) := by decide +kernel
theorem dX8_init_19 : decode cX8_init 19 = .ok (.return_, 1) := by decide +kernel
theorem dX8_begin_0 : decode cX8_begin 0 = .ok (.iload_n 1, 1) := by decide +kernel
theorem dX8_begin_1 : decode cX8_begin 1 = .ok (.ifCond .le 23, 3) := by decide +kernel
theorem dX8_begin_4 : decode cX8_begin 4 = .ok (.iload_n 1, 1) := by decide +kernel
theorem dX8_begin_5 : decode cX8_begin 5 = .ok (.aload_n 0, 1) := by decide +kernel
theorem dX8_begin_6 : decode cX8_begin 6 = .ok (.getfield 17, 3) := by decide +kernel
theorem dX8_begin_9 : decode cX8_begin 9 = .ok (.arraylength, 1) := by decide +kernel
theorem dX8_begin_10 : decode cX8_begin 10 = .ok (.if_icmp .gt 14, 3) := by decide +kernel
theorem dX8_begin_13 : decode cX8_begin 13 = .ok (.aload_n 0, 1) := by decide +kernel
theorem dX8_begin_14 : decode cX8_begin 14 = .ok (.getfield 17, 3) := by decide +kernel
theorem dX8_begin_17 : decode cX8_begin 17 = .ok (.iload_n 1, 1) := by decide +kernel
theorem dX8_begin_18 : decode cX8_begin 18 = .ok (.iconst 1, 1) := by decide +kernel
theorem dX8_begin_19 : decode cX8_begin 19 = .ok (.isub, 1) := by decide +kernel
theorem dX8_begin_20 : decode cX8_begin 20 = .ok (.iaload, 1) := by decide +kernel
theorem dX8_begin_21 : decode cX8_begin 21 = .ok (.goto 4, 3) := by decide +kernel
theorem dX8_begin_24 : decode cX8_begin 24 = .ok (.iconst 0, 1) := by decide +kernel
theorem dX8_begin_25 : decode cX8_begin 25 = .ok (.ireturn, 1) := by decide +kernel
theorem dX8_end_0 : decode cX8_end 0 = .ok (.iload_n 1, 1) := by decide +kernel
theorem dX8_end_1 : decode cX8_end 1 = .ok (.ifCond .lt 29, 3) := by decide +kernel
theorem dX8_end_4 : decode cX8_end 4 = .ok (.iload_n 1, 1) := by decide +kernel
theorem dX8_end_5 : decode cX8_end 5 = .ok (.aload_n 0, 1) := by decide +kernel
theorem dX8_end_6 : decode cX8_end 6 = .ok (.getfield 17, 3) := by decide +kernel
theorem dX8_end_9 : decode cX8_end 9 = .ok (.arraylength, 1) := by decide +kernel
theorem dX8_end_10 : decode cX8_end 10 = .ok (.if_icmp .ge 20, 3) := by decide +kernel
theorem dX8_end_13 : decode cX8_end 13 = .ok (.aload_n 0, 1) := by decide +kernel
theorem dX8_end_14 : decode cX8_end 14 = .ok (.getfield 17, 3) := by decide +kernel
theorem dX8_end_17 : decode cX8_end 17 = .ok (.iload_n 1, 1) := by decide +kernel
theorem dX8_end_18 : decode cX8_end 18 = .ok (.iaload, 1) := by decide +kernel
theorem dX8_end_19 : decode cX8_end 19 = .ok (.aload_n 0, 1) := by decide +kernel
theorem dX8_end_20 : decode cX8_end 20 = .ok (.getfield 13, 3) := by decide +kernel
theorem dX8_end_23 : decode cX8_end 23 = .ok (.arraylength, 1) := by decide +kernel
theorem dX8_end_24 : decode cX8_end 24 = .ok (.invokestatic 20, 3) := by decide +kernel
theorem dX8_end_27 : decode cX8_end 27 = .ok (.goto 4, 3) := by decide +kernel
theorem dX8_end_30 : decode cX8_end 30 = .ok (.iconst 0, 1) := by decide +kernel
theorem dX8_end_31 : decode cX8_end 31 = .ok (.ireturn, 1) := by decide +kernel
theorem dX9_init_0 : decode cX9_init 0 = .ok (.aload_n 0, 1) := by decide +kernel
theorem dX9_init_1 : decode cX9_init 1 = .ok (.invokespecial 3, 3) := by decide +kernel
theorem dX9_init_4 : decode cX9_init 4 = .ok (.aload_n 0, 1) := by decide +kernel
theorem dX9_init_5 : decode cX9_init 5 = .ok (.iconst 4, 1) := by decide +kernel
theorem dX9_init_6 : decode cX9_init 6 = .ok (.anewarray 9, 3) := by decide +kernel
theorem dX9_init_9 : decode cX9_init 9 = .ok (.putfield 11, 3) := by decide +kernel
theorem dX9_init_12 : decode cX9_init 12 = .ok (.aload_n 0, 1) := by decide +kernel
theorem dX9_init_13 : decode cX9_init 13 = .ok (.new 9, 3) := by decide +kernel
theorem dX9_init_16 : decode cX9_init 16 = .ok (.dup, 1) := by decide +kernel
theorem dX9_init_17 : decode cX9_init 17 = .ok (.iconst 0, 1) := by decide +kernel
theorem dX9_init_18 : decode cX9_init 18 = .ok (.iconst 4, 1) := by decide +kernel
theorem dX9_init_19 : decode cX9_init 19 = .ok (.newarray .int, 2) := by decide +kernel
theorem dX9_init_21 : decode cX9_init 21 = .ok (.dup, 1) := by decide +kernel
theorem dX9_init_22 : decode cX9_init 22 = .ok (.iconst 0, 1) := by decide +kernel
theorem dX9_init_23 : decode cX9_init 23 = .ok (.bipush (-108), 2) := by decide +kernel
theorem dX9_init_25 : decode cX9_init 25 = .ok (.iastore, 1) := by decide +kernel
theorem dX9_init_26 : decode cX9_init 26 = .ok (.dup, 1) := by decide +kernel
theorem dX9_init_27 : decode cX9_init 27 = .ok (.iconst 1, 1) := by decide +kernel
theorem dX9_init_28 : decode cX9_init 28 = .ok (.sipush 720, 3) := by decide +kernel
theorem dX9_init_31 : decode cX9_init 31 = .ok (.iastore, 1) := by decide +kernel
theorem dX9_init_32 : decode cX9_init 32 = .ok (.dup, 1) := by decide +kernel
theorem dX9_init_33 : decode cX9_init 33 = .ok (.iconst 2, 1) := by decide +kernel
theorem dX9_init_34 : decode cX9_init 34 = .ok (.bipush (-108), 2) := by decide +kernel
theorem dX9_init_36 : decode cX9_init 36 = .ok (.iastore, 1) := by decide +kernel
theorem dX9_init_37 : decode cX9_init 37 = .ok (.dup, 1) := by decide +kernel
theorem dX9_init_38 : decode cX9_init 38 = .ok (.iconst 3, 1) := by decide +kernel
theorem dX9_init_39 : decode cX9_init 39 = .ok (.iconst 0, 1) := by decide +kernel
theorem dX9_init_40 : decode cX9_init 40 = .ok (.iastore, 1) := by decide +kernel
theorem dX9_init_41 : decode cX9_init 41 = .ok (.iconst 4, 1) := by decide +kernel
theorem dX9_init_42 : decode cX9_init 42 = .ok (.newarray .int, 2) := by decide +kernel
theorem dX9_init_44 : decode cX9_init 44 = .ok (.dup, 1) := by decide +kernel
theorem dX9_init_45 : decode cX9_init 45 = .ok (.iconst 0, 1) := by decide +kernel
theorem dX9_init_46 : decode cX9_init 46 = .ok (.iconst 1, 1) := by decide +kernel
theorem dX9_init_47 : decode cX9_init 47 = .ok (.iastore, 1) := by decide +kernel
theorem dX9_init_48 : decode cX9_init 48 = .ok (.dup, 1) := by decide +kernel
theorem dX9_init_49 : decode cX9_init 49 = .ok (.iconst 1, 1) := by decide +kernel
theorem dX9_init_50 : decode cX9_init 50 = .ok (.iconst 2, 1) := by decide +kernel
theorem dX9_init_51 : decode cX9_init 51 = .ok (.iastore, 1) := by decide +kernel
theorem dX9_init_52 : decode cX9_init 52 = .ok (.dup, 1) := by decide +kernel
theorem dX9_init_53 : decode cX9_init 53 = .ok (.iconst 2, 1) := by decide +kernel
theorem dX9_init_54 : decode cX9_init 54 = .ok (.iconst 3, 1) := by decide +kernel
theorem dX9_init_55 : decode cX9_init 55 = .ok (.iastore, 1) := by decide +kernel
theorem dX9_init_56 : decode cX9_init 56 = .ok (.dup, 1) := by decide +kernel
theorem dX9_init_57 : decode cX9_init 57 = .ok (.iconst 3, 1) := by decide +kernel
theorem dX9_init_58 : decode cX9_init 58 = .ok (.iconst 4, 1) := by decide +kernel
theorem dX9_init_59 : decode cX9_init 59 = .ok (.iastore, 1) := by decide +kernel
theorem dX9_init_60 : decode cX9_init 60 = .ok (.invokespecial 17, 3) := by decide +kernel
theorem dX9_init_63 : decode cX9_init 63 = .ok (.putfield 20, 3) := by decide +kernel
theorem dX9_init_66 : decode cX9_init 66 = .ok (.return_, 1) := by decide +kernel
theorem dX9_add_0 : decode cX9_add 0 = .ok (.aload_n 0, 1) := by decide +kernel
theorem dX9_add_1 : decode cX9_add 1 = .ok (.getfield 24, 3) := by decide +kernel
theorem dX9_add_4 : decode cX9_add 4 = .ok (.iconst 4, 1) := by decide +kernel
theorem dX9_add_5 : decode cX9_add 5 = .ok (.if_icmp .ge 23, 3) := by decide +kernel
theorem dX9_add_8 : decode cX9_add 8 = .ok (.aload_n 0, 1) := by decide +kernel
theorem dX9_add_9 : decode cX9_add 9 = .ok (.getfield 11, 3) := by decide +kernel
theorem dX9_add_12 : decode cX9_add 12 = .ok (.aload_n 0, 1) := by decide +kernel
theorem dX9_add_13 : decode cX9_add 13 = .ok (.getfield 24, 3) := by decide +kernel
theorem dX9_add_16 : decode cX9_add 16 = .ok (.aload_n 1, 1) := by decide +kernel
theorem dX9_add_17 : decode cX9_add 17 = .ok (.aastore, 1) := by decide +kernel
theorem dX9_add_18 : decode cX9_add 18 = .ok (.aload_n 0, 1) := by decide +kernel
theorem dX9_add_19 : decode cX9_add 19 = .ok (.dup, 1) := by decide +kernel
theorem dX9_add_20 : decode cX9_add 20 = .ok (.getfield 24, 3) := by decide +kernel
theorem dX9_add_23 : decode cX9_add 23 = .ok (.iconst 1, 1) := by decide +kernel
theorem dX9_add_24 : decode cX9_add 24 = .ok (.iadd, 1) := by decide +kernel
theorem dX9_add_25 : decode cX9_add 25 = .ok (.putfield 24, 3) := by decide +kernel
theorem dX9_add_28 : decode cX9_add 28 = .ok (.return_, 1) := by decide +kernel
theorem dX9_inForce_0 : decode cX9_inForce 0 = .ok (.aload_n 0, 1) := by decide +kernel
theorem dX9_inForce_1 : decode cX9_inForce 1 = .ok (.getfield 20, 3) := by decide +kernel
theorem dX9_inForce_4 : decode cX9_inForce 4 = .ok (.astore_n 2, 1) := by decide +kernel
theorem dX9_inForce_5 : decode cX9_inForce 5 = .ok (.iconst 0, 1) := by decide +kernel
theorem dX9_inForce_6 : decode cX9_inForce 6 = .ok (.istore_n 3, 1) := by decide +kernel
theorem dX9_inForce_7 : decode cX9_inForce 7 = .ok (.iload_n 3, 1) := by decide +kernel
theorem dX9_inForce_8 : decode cX9_inForce 8 = .ok (.aload_n 0, 1) := by decide +kernel
theorem dX9_inForce_9 : decode cX9_inForce 9 = .ok (.getfield 24, 3) := by decide +kernel
theorem dX9_inForce_12 : decode cX9_inForce 12 = .ok (.if_icmp .ge 46, 3) := by decide +kernel
theorem dX9_inForce_15 : decode cX9_inForce 15 = .ok (.aload_n 0, 1) := by decide +kernel
theorem dX9_inForce_16 : decode cX9_inForce 16 = .ok (.getfield 11, 3) := by decide +kernel
theorem dX9_inForce_19 : decode cX9_inForce 19 = .ok (.iload_n 3, 1) := by decide +kernel
theorem dX9_inForce_20 : decode cX9_inForce 20 = .ok (.aaload, 1) := by decide +kernel
theorem dX9_inForce_21 : decode cX9_inForce 21 = .ok (.astore 4, 2) := by decide +kernel
theorem dX9_inForce_23 : decode cX9_inForce 23 = .ok (.aload 4, 2) := by decide +kernel
theorem dX9_inForce_25 : decode cX9_inForce 25 = .ok (.ifnull 27, 3) := by decide +kernel
theorem dX9_inForce_28 : decode cX9_inForce 28 = .ok (.aload 4, 2) := by decide +kernel
theorem dX9_inForce_30 : decode cX9_inForce 30 = .ok (.getfield 28, 3) := by decide +kernel
theorem dX9_inForce_33 : decode cX9_inForce 33 = .ok (.iload_n 1, 1) := by decide +kernel
theorem dX9_inForce_34 : decode cX9_inForce 34 = .ok (.if_icmp .gt 18, 3) := by decide +kernel
theorem dX9_inForce_37 : decode cX9_inForce 37 = .ok (.aload 4, 2) := by decide +kernel
theorem dX9_inForce_39 : decode cX9_inForce 39 = .ok (.getfield 28, 3) := by decide +kernel
theorem dX9_inForce_42 : decode cX9_inForce 42 = .ok (.aload_n 2, 1) := by decide +kernel
theorem dX9_inForce_43 : decode cX9_inForce 43 = .ok (.getfield 28, 3) := by decide +kernel
theorem dX9_inForce_46 : decode cX9_inForce 46 = .ok (.if_icmp .lt 6, 3) := by decide +kernel
theorem dX9_inForce_49 : decode cX9_inForce 49 = .ok (.aload 4, 2) := by decide +kernel
theorem dX9_inForce_51 : decode cX9_inForce 51 = .ok (.astore_n 2, 1) := by decide +kernel
theorem dX9_inForce_52 : decode cX9_inForce 52 = .ok (.iinc 3 1, 3) := by decide +kernel
theorem dX9_inForce_55 : decode cX9_inForce 55 = .ok (.goto (-48), 3) := by decide +kernel
theorem dX9_inForce_58 : decode cX9_inForce 58 = .ok (.aload_n 2, 1) := by decide +kernel
theorem dX9_inForce_59 : decode cX9_inForce 59 = .ok (.areturn, 1) := by decide +kernel
theorem dX9_become_0 : decode cX9_become 0 = .ok (.iconst 0, 1) := by decide +kernel
theorem dX9_become_1 : decode cX9_become 1 = .ok (.istore_n 2, 1) := by decide +kernel
theorem dX9_become_2 : decode cX9_become 2 = .ok (.iload_n 2, 1) := by decide +kernel
theorem dX9_become_3 : decode cX9_become 3 = .ok (.iconst 4, 1) := by decide +kernel
theorem dX9_become_4 : decode cX9_become 4 = .ok (.if_icmp .ge 21, 3) := by decide +kernel
theorem dX9_become_7 : decode cX9_become 7 = .ok (.aload_n 0, 1) := by decide +kernel
theorem dX9_become_8 : decode cX9_become 8 = .ok (.getfield 11, 3) := by decide +kernel
theorem dX9_become_11 : decode cX9_become 11 = .ok (.iload_n 2, 1) := by decide +kernel
theorem dX9_become_12 : decode cX9_become 12 = .ok (.aload_n 1, 1) := by decide +kernel
theorem dX9_become_13 : decode cX9_become 13 = .ok (.getfield 11, 3) := by decide +kernel
theorem dX9_become_16 : decode cX9_become 16 = .ok (.iload_n 2, 1) := by decide +kernel
theorem dX9_become_17 : decode cX9_become 17 = .ok (.aaload, 1) := by decide +kernel
theorem dX9_become_18 : decode cX9_become 18 = .ok (.aastore, 1) := by decide +kernel
theorem dX9_become_19 : decode cX9_become 19 = .ok (.iinc 2 1, 3) := by decide +kernel
theorem dX9_become_22 : decode cX9_become 22 = .ok (.goto (-20), 3) := by decide +kernel
theorem dX9_become_25 : decode cX9_become 25 = .ok (.aload_n 0, 1) := by decide +kernel
theorem dX9_become_26 : decode cX9_become 26 = .ok (.aload_n 1, 1) := by decide +kernel
theorem dX9_become_27 : decode cX9_become 27 = .ok (.getfield 24, 3) := by decide +kernel
theorem dX9_become_30 : decode cX9_become 30 = .ok (.putfield 24, 3) := by decide +kernel
theorem dX9_become_33 : decode cX9_become 33 = .ok (.return_, 1) := by decide +kernel
theorem dX10_init_0 : decode cX10_init 0 = .ok (.aload_n 0, 1) := by decide +kernel
theorem dX10_init_1 : decode cX10_init 1 = .ok (.invokespecial 3, 3) := by decide +kernel
theorem dX10_init_4 : decode cX10_init 4 = .ok (.aload_n 0, 1) := by decide +kernel
theorem dX10_init_5 : decode cX10_init 5 = .ok (.sipush 3001, 3) := by decide +kernel
theorem dX10_init_8 : decode cX10_init 8 = .ok (.newarray .long, 2) := by decide +kernel
theorem dX10_init_10 : decode cX10_init 10 = .ok (.putfield 9, 3) := by decide +kernel
theorem dX10_init_13 : decode cX10_init 13 = .ok (.aload_n 0, 1) := by decide +kernel
theorem dX10_init_14 : decode cX10_init 14 = .ok (.iconst (-1), 1) := by decide +kernel
theorem dX10_init_15 : decode cX10_init 15 = .ok (.putfield 15, 3) := by decide +kernel
theorem dX10_init_18 : decode cX10_init 18 = .ok (.return_, 1) := by decide +kernel
theorem dX10_forget_0 : decode cX10_forget 0 = .ok (.aload_n 0, 1) := by decide +kernel
theorem dX10_forget_1 : decode cX10_forget 1 = .ok (.iconst (-1), 1) := by decide +kernel
theorem dX10_forget_2 : decode cX10_forget 2 = .ok (.putfield 15, 3) := by decide +kernel
theorem dX10_forget_5 : decode cX10_forget 5 = .ok (.return_, 1) := by decide +kernel
theorem dX10_isFound_0 : decode cX10_isFound 0 = .ok (.iload_n 2, 1) := by decide +kernel
theorem dX10_isFound_1 : decode cX10_isFound 1 = .ok (.aload_n 0, 1) := by decide +kernel
theorem dX10_isFound_2 : decode cX10_isFound 2 = .ok (.getfield 15, 3) := by decide +kernel
theorem dX10_isFound_5 : decode cX10_isFound 5 = .ok (.if_icmp .le 30, 3) := by decide +kernel
theorem dX10_isFound_8 : decode cX10_isFound 8 = .ok (.aload_n 0, 1) := by decide +kernel
theorem dX10_isFound_9 : decode cX10_isFound 9 = .ok (.aload_n 0, 1) := by decide +kernel
theorem dX10_isFound_10 : decode cX10_isFound 10 = .ok (.getfield 15, 3) := by decide +kernel
theorem dX10_isFound_13 : decode cX10_isFound 13 = .ok (.ifCond .ge 7, 3) := by decide +kernel
theorem dX10_isFound_16 : decode cX10_isFound 16 = .ok (.iload_n 2, 1) := by decide +kernel
theorem dX10_isFound_17 : decode cX10_isFound 17 = .ok (.goto 6, 3) := by decide +kernel
theorem dX10_isFound_20 : decode cX10_isFound 20 = .ok (.sipush 3000, 3) := by decide +kernel
theorem dX10_isFound_23 : decode cX10_isFound 23 = .ok (.putfield 15, 3) := by decide +kernel
theorem dX10_isFound_26 : decode cX10_isFound 26 = .ok (.aload_n 0, 1) := by decide +kernel
theorem dX10_isFound_27 : decode cX10_isFound 27 = .ok (.aload_n 1, 1) := by decide +kernel
theorem dX10_isFound_28 : decode cX10_isFound 28 = .ok (.aload_n 0, 1) := by decide +kernel
theorem dX10_isFound_29 : decode cX10_isFound 29 = .ok (.getfield 15, 3) := by decide +kernel
theorem dX10_isFound_32 : decode cX10_isFound 32 = .ok (.invokevirtual 19, 3) := by decide +kernel
theorem dX10_isFound_35 : decode cX10_isFound 35 = .ok (.aload_n 0, 1) := by decide +kernel
theorem dX10_isFound_36 : decode cX10_isFound 36 = .ok (.getfield 9, 3) := by decide +kernel
theorem dX10_isFound_39 : decode cX10_isFound 39 = .ok (.iload_n 2, 1) := by decide +kernel
theorem dX10_isFound_40 : decode cX10_isFound 40 = .ok (.laload, 1) := by decide +kernel
theorem dX10_isFound_41 : decode cX10_isFound 41 = .ok (.ldc2_w 23, 3) := by decide +kernel
theorem dX10_isFound_44 : decode cX10_isFound 44 = .ok (.lcmp, 1) := by decide +kernel
theorem dX10_isFound_45 : decode cX10_isFound 45 = .ok (.ifCond .eq 7, 3) := by decide +kernel
theorem dX10_isFound_48 : decode cX10_isFound 48 = .ok (.iconst 1, 1) := by decide +kernel
theorem dX10_isFound_49 : decode cX10_isFound 49 = .ok (.goto 4, 3) := by decide +kernel
theorem dX10_isFound_52 : decode cX10_isFound 52 = .ok (.iconst 0, 1) := by decide +kernel
theorem dX10_isFound_53 : decode cX10_isFound 53 = .ok (.ireturn, 1) := by decide +kernel
theorem dX10_coinsTo_0 : decode cX10_coinsTo 0 = .ok (.aload_n 0, 1) := by decide +kernel
theorem dX10_coinsTo_1 : decode cX10_coinsTo 1 = .ok (.getfield 9, 3) := by decide +kernel
theorem dX10_coinsTo_4 : decode cX10_coinsTo 4 = .ok (.iload_n 1, 1) := by decide +kernel
theorem dX10_coinsTo_5 : decode cX10_coinsTo 5 = .ok (.laload, 1) := by decide +kernel
theorem dX10_coinsTo_6 : decode cX10_coinsTo 6 = .ok (.ldc2_w 25, 3) := by decide +kernel
theorem dX10_coinsTo_9 : decode cX10_coinsTo 9 = .ok (.ldiv, 1) := by decide +kernel
theorem dX10_coinsTo_10 : decode cX10_coinsTo 10 = .ok (.l2i, 1) := by decide +kernel
theorem dX10_coinsTo_11 : decode cX10_coinsTo 11 = .ok (.ireturn, 1) := by decide +kernel
theorem dX10_timesOf_0 : decode cX10_timesOf 0 = .ok (.bipush 9, 2) := by decide +kernel
theorem dX10_timesOf_2 : decode cX10_timesOf 2 = .ok (.aload_n 0, 1) := by decide +kernel
theorem dX10_timesOf_3 : decode cX10_timesOf 3 = .ok (.getfield 9, 3) := by decide +kernel
theorem dX10_timesOf_6 : decode cX10_timesOf 6 = .ok (.iload_n 1, 1) := by decide +kernel
theorem dX10_timesOf_7 : decode cX10_timesOf 7 = .ok (.laload, 1) := by decide +kernel
theorem dX10_timesOf_8 : decode cX10_timesOf 8 = .ok (.iload_n 2, 1) := by decide +kernel
theorem dX10_timesOf_9 : decode cX10_timesOf 9 = .ok (.invokestatic 27, 3) := by decide +kernel
theorem dX10_timesOf_12 : decode cX10_timesOf 12 = .ok (.lshr, 1) := by decide +kernel
theorem dX10_timesOf_13 : decode cX10_timesOf 13 = .ok (.ldc2_w 31, 3) := by decide +kernel
theorem dX10_timesOf_16 : decode cX10_timesOf 16 = .ok (.land, 1) := by decide +kernel
theorem dX10_timesOf_17 : decode cX10_timesOf 17 = .ok (.l2i, 1) := by decide +kernel
theorem dX10_timesOf_18 : decode cX10_timesOf 18 = .ok (.isub, 1) := by decide +kernel
theorem dX10_timesOf_19 : decode cX10_timesOf 19 = .ok (.ireturn, 1) := by decide +kernel
theorem dX10_solve_0 : decode cX10_solve 0 = .ok (.aload_n 0, 1) := by decide +kernel
theorem dX10_solve_1 : decode cX10_solve 1 = .ok (.getfield 9, 3) := by decide +kernel
theorem dX10_solve_4 : decode cX10_solve 4 = .ok (.ldc2_w 23, 3) := by decide +kernel
theorem dX10_solve_7 : decode cX10_solve 7 = .ok (.invokestatic 33, 3) := by decide +kernel
theorem dX10_solve_10 : decode cX10_solve 10 = .ok (.aload_n 0, 1) := by decide +kernel
theorem dX10_solve_11 : decode cX10_solve 11 = .ok (.getfield 9, 3) := by decide +kernel
theorem dX10_solve_14 : decode cX10_solve 14 = .ok (.iconst 0, 1) := by decide +kernel
theorem dX10_solve_15 : decode cX10_solve 15 = .ok (.ldc2_w 39, 3) := by decide +kernel
theorem dX10_solve_18 : decode cX10_solve 18 = .ok (.lastore, 1) := by decide +kernel
theorem dX10_solve_19 : decode cX10_solve 19 = .ok (.iconst 0, 1) := by decide +kernel
theorem dX10_solve_20 : decode cX10_solve 20 = .ok (.istore_n 3, 1) := by decide +kernel
theorem dX10_solve_21 : decode cX10_solve 21 = .ok (.iload_n 3, 1) := by decide +kernel
theorem dX10_solve_22 : decode cX10_solve 22 = .ok (.aload_n 1, 1) := by decide +kernel
theorem dX10_solve_23 : decode cX10_solve 23 = .ok (.getfield 41, 3) := by decide +kernel
theorem dX10_solve_26 : decode cX10_solve 26 = .ok (.if_icmp .ge 79, 3) := by decide +kernel
theorem dX10_solve_29 : decode cX10_solve 29 = .ok (.aload_n 1, 1) := by decide +kernel
theorem dX10_solve_30 : decode cX10_solve 30 = .ok (.getfield 46, 3) := by decide +kernel
theorem dX10_solve_33 : decode cX10_solve 33 = .ok (.iload_n 3, 1) := by decide +kernel
theorem dX10_solve_34 : decode cX10_solve 34 = .ok (.iaload, 1) := by decide +kernel
theorem dX10_solve_35 : decode cX10_solve 35 = .ok (.istore 4, 2) := by decide +kernel
theorem dX10_solve_37 : decode cX10_solve 37 = .ok (.iconst 1, 1) := by decide +kernel
theorem dX10_solve_38 : decode cX10_solve 38 = .ok (.istore 5, 2) := by decide +kernel
theorem dX10_solve_40 : decode cX10_solve 40 = .ok (.iload 5, 2) := by decide +kernel
theorem dX10_solve_42 : decode cX10_solve 42 = .ok (.aload_n 1, 1) := by decide +kernel
theorem dX10_solve_43 : decode cX10_solve 43 = .ok (.getfield 46, 3) := by decide +kernel
theorem dX10_solve_46 : decode cX10_solve 46 = .ok (.iload_n 3, 1) := by decide +kernel
theorem dX10_solve_47 : decode cX10_solve 47 = .ok (.iaload, 1) := by decide +kernel
theorem dX10_solve_48 : decode cX10_solve 48 = .ok (.if_icmp .gt 51, 3) := by decide +kernel
theorem dX10_solve_51 : decode cX10_solve 51 = .ok (.iload 5, 2) := by decide +kernel
theorem dX10_solve_53 : decode cX10_solve 53 = .ok (.iload 4, 2) := by decide +kernel
theorem dX10_solve_55 : decode cX10_solve 55 = .ok (.invokestatic 50, 3) := by decide +kernel
theorem dX10_solve_58 : decode cX10_solve 58 = .ok (.istore 6, 2) := by decide +kernel
theorem dX10_solve_60 : decode cX10_solve 60 = .ok (.aload_n 0, 1) := by decide +kernel
theorem dX10_solve_61 : decode cX10_solve 61 = .ok (.iload_n 2, 1) := by decide +kernel
theorem dX10_solve_62 : decode cX10_solve 62 = .ok (.iload 6, 2) := by decide +kernel
theorem dX10_solve_64 : decode cX10_solve 64 = .ok (.aload_n 1, 1) := by decide +kernel
theorem dX10_solve_65 : decode cX10_solve 65 = .ok (.getfield 56, 3) := by decide +kernel
theorem dX10_solve_68 : decode cX10_solve 68 = .ok (.iload_n 3, 1) := by decide +kernel
theorem dX10_solve_69 : decode cX10_solve 69 = .ok (.iaload, 1) := by decide +kernel
theorem dX10_solve_70 : decode cX10_solve 70 = .ok (.imul, 1) := by decide +kernel
theorem dX10_solve_71 : decode cX10_solve 71 = .ok (.iload 6, 2) := by decide +kernel
theorem dX10_solve_73 : decode cX10_solve 73 = .ok (.i2l, 1) := by decide +kernel
theorem dX10_solve_74 : decode cX10_solve 74 = .ok (.aload_n 1, 1) := by decide +kernel
theorem dX10_solve_75 : decode cX10_solve 75 = .ok (.iload_n 3, 1) := by decide +kernel
theorem dX10_solve_76 : decode cX10_solve 76 = .ok (.invokestatic 59, 3) := by decide +kernel
theorem dX10_solve_79 : decode cX10_solve 79 = .ok (.lmul, 1) := by decide +kernel
theorem dX10_solve_80 : decode cX10_solve 80 = .ok (.invokevirtual 63, 3) := by decide +kernel
theorem dX10_solve_83 : decode cX10_solve 83 = .ok (.iload 4, 2) := by decide +kernel
theorem dX10_solve_85 : decode cX10_solve 85 = .ok (.iload 6, 2) := by decide +kernel
theorem dX10_solve_87 : decode cX10_solve 87 = .ok (.isub, 1) := by decide +kernel
theorem dX10_solve_88 : decode cX10_solve 88 = .ok (.istore 4, 2) := by decide +kernel
theorem dX10_solve_90 : decode cX10_solve 90 = .ok (.iload 5, 2) := by decide +kernel
theorem dX10_solve_92 : decode cX10_solve 92 = .ok (.iconst 2, 1) := by decide +kernel
theorem dX10_solve_93 : decode cX10_solve 93 = .ok (.imul, 1) := by decide +kernel
theorem dX10_solve_94 : decode cX10_solve 94 = .ok (.istore 5, 2) := by decide +kernel
theorem dX10_solve_96 : decode cX10_solve 96 = .ok (.goto (-56), 3) := by decide +kernel
theorem dX10_solve_99 : decode cX10_solve 99 = .ok (.iinc 3 1, 3) := by decide +kernel
theorem dX10_solve_102 : decode cX10_solve 102 = .ok (.goto (-81), 3) := by decide +kernel
theorem dX10_solve_105 : decode cX10_solve 105 = .ok (.return_, 1) := by decide +kernel
theorem dX10_addPack_0 : decode cX10_addPack 0 = .ok (.iload_n 1, 1) := by decide +kernel
theorem dX10_addPack_1 : decode cX10_addPack 1 = .ok (.istore 5, 2) := by decide +kernel
theorem dX10_addPack_3 : decode cX10_addPack 3 = .ok (.iload 5, 2) := by decide +kernel
theorem dX10_addPack_5 : decode cX10_addPack 5 = .ok (.ifCond .le 54, 3) := by decide +kernel
theorem dX10_addPack_8 : decode cX10_addPack 8 = .ok (.aload_n 0, 1) := by decide +kernel
theorem dX10_addPack_9 : decode cX10_addPack 9 = .ok (.getfield 9, 3) := by decide +kernel
theorem dX10_addPack_12 : decode cX10_addPack 12 = .ok (.iload 5, 2) := by decide +kernel
theorem dX10_addPack_14 : decode cX10_addPack 14 = .ok (.iload_n 2, 1) := by decide +kernel
theorem dX10_addPack_15 : decode cX10_addPack 15 = .ok (.if_icmp .le 10, 3) := by decide +kernel
theorem dX10_addPack_18 : decode cX10_addPack 18 = .ok (.iload 5, 2) := by decide +kernel
theorem dX10_addPack_20 : decode cX10_addPack 20 = .ok (.iload_n 2, 1) := by decide +kernel
theorem dX10_addPack_21 : decode cX10_addPack 21 = .ok (.isub, 1) := by decide +kernel
theorem dX10_addPack_22 : decode cX10_addPack 22 = .ok (.goto 4, 3) := by decide +kernel
theorem dX10_addPack_25 : decode cX10_addPack 25 = .ok (.iconst 0, 1) := by decide +kernel
theorem dX10_addPack_26 : decode cX10_addPack 26 = .ok (.laload, 1) := by decide +kernel
theorem dX10_addPack_27 : decode cX10_addPack 27 = .ok (.lload_n 3, 1) := by decide +kernel
theorem dX10_addPack_28 : decode cX10_addPack 28 = .ok (.ladd, 1) := by decide +kernel
theorem dX10_addPack_29 : decode cX10_addPack 29 = .ok (.lstore 6, 2) := by decide +kernel
theorem dX10_addPack_31 : decode cX10_addPack 31 = .ok (.lload 6, 2) := by decide +kernel
theorem dX10_addPack_33 : decode cX10_addPack 33 = .ok (.aload_n 0, 1) := by decide +kernel
theorem dX10_addPack_34 : decode cX10_addPack 34 = .ok (.getfield 9, 3) := by decide +kernel
theorem dX10_addPack_37 : decode cX10_addPack 37 = .ok (.iload 5, 2) := by decide +kernel
theorem dX10_addPack_39 : decode cX10_addPack 39 = .ok (.laload, 1) := by decide +kernel
theorem dX10_addPack_40 : decode cX10_addPack 40 = .ok (.lcmp, 1) := by decide +kernel
theorem dX10_addPack_41 : decode cX10_addPack 41 = .ok (.ifCond .ge 12, 3) := by decide +kernel
theorem dX10_addPack_44 : decode cX10_addPack 44 = .ok (.aload_n 0, 1) := by decide +kernel
theorem dX10_addPack_45 : decode cX10_addPack 45 = .ok (.getfield 9, 3) := by decide +kernel
theorem dX10_addPack_48 : decode cX10_addPack 48 = .ok (.iload 5, 2) := by decide +kernel
theorem dX10_addPack_50 : decode cX10_addPack 50 = .ok (.lload 6, 2) := by decide +kernel
theorem dX10_addPack_52 : decode cX10_addPack 52 = .ok (.lastore, 1) := by decide +kernel
theorem dX10_addPack_53 : decode cX10_addPack 53 = .ok (.iinc 5 (-1), 3) := by decide +kernel
theorem dX10_addPack_56 : decode cX10_addPack 56 = .ok (.goto (-53), 3) := by decide +kernel
theorem dX10_addPack_59 : decode cX10_addPack 59 = .ok (.return_, 1) := by decide +kernel
theorem dX10_weight_0 : decode cX10_weight 0 = .ok (.aload_n 0, 1) := by decide +kernel
theorem dX10_weight_1 : decode cX10_weight 1 = .ok (.getfield 67, 3) := by decide +kernel
theorem dX10_weight_4 : decode cX10_weight 4 = .ok (.iload_n 1, 1) := by decide +kernel
theorem dX10_weight_5 : decode cX10_weight 5 = .ok (.iaload, 1) := by decide +kernel
theorem dX10_weight_6 : decode cX10_weight 6 = .ok (.i2l, 1) := by decide +kernel
theorem dX10_weight_7 : decode cX10_weight 7 = .ok (.ldc2_w 25, 3) := by decide +kernel
theorem dX10_weight_10 : decode cX10_weight 10 = .ok (.lmul, 1) := by decide +kernel
theorem dX10_weight_11 : decode cX10_weight 11 = .ok (.ldc2_w 70, 3) := by decide +kernel
theorem dX10_weight_14 : decode cX10_weight 14 = .ok (.ladd, 1) := by decide +kernel
theorem dX10_weight_15 : decode cX10_weight 15 = .ok (.lconst 1, 1) := by decide +kernel
theorem dX10_weight_16 : decode cX10_weight 16 = .ok (.iload_n 1, 1) := by decide +kernel
theorem dX10_weight_17 : decode cX10_weight 17 = .ok (.invokestatic 27, 3) := by decide +kernel
theorem dX10_weight_20 : decode cX10_weight 20 = .ok (.lshl, 1) := by decide +kernel
theorem dX10_weight_21 : decode cX10_weight 21 = .ok (.lsub, 1) := by decide +kernel
theorem dX10_weight_22 : decode cX10_weight 22 = .ok (.lreturn, 1) := by decide +kernel
theorem dX10_placeOf_0 : decode cX10_placeOf 0 = .ok (.iconst 4, 1) := by decide +kernel
theorem dX10_placeOf_1 : decode cX10_placeOf 1 = .ok (.bipush 7, 2) := by decide +kernel
theorem dX10_placeOf_3 : decode cX10_placeOf 3 = .ok (.iload_n 0, 1) := by decide +kernel
theorem dX10_placeOf_4 : decode cX10_placeOf 4 = .ok (.isub, 1) := by decide +kernel
theorem dX10_placeOf_5 : decode cX10_placeOf 5 = .ok (.imul, 1) := by decide +kernel
theorem dX10_placeOf_6 : decode cX10_placeOf 6 = .ok (.ireturn, 1) := by decide +kernel
theorem dX11_init_0 : decode cX11_init 0 = .ok (.aload_n 0, 1) := by decide +kernel
theorem dX11_init_1 : decode cX11_init 1 = .ok (.invokespecial 3, 3) := by decide +kernel
theorem dX11_init_4 : decode cX11_init 4 = .ok (.aload_n 0, 1) := by decide +kernel
theorem dX11_init_5 : decode cX11_init 5 = .ok (.new 9, 3) := by decide +kernel
theorem dX11_init_8 : decode cX11_init 8 = .ok (.dup, 1) := by decide +kernel
theorem dX11_init_9 : decode cX11_init 9 = .ok (.invokespecial 11, 3) := by decide +kernel
theorem dX11_init_12 : decode cX11_init 12 = .ok (.putfield 12, 3) := by decide +kernel
theorem dX11_init_15 : decode cX11_init 15 = .ok (.aload_n 0, 1) := by decide +kernel
theorem dX11_init_16 : decode cX11_init 16 = .ok (.new 9, 3) := by decide +kernel
theorem dX11_init_19 : decode cX11_init 19 = .ok (.dup, 1) := by decide +kernel
theorem dX11_init_20 : decode cX11_init 20 = .ok (.invokespecial 11, 3) := by decide +kernel
theorem dX11_init_23 : decode cX11_init 23 = .ok (.putfield 16, 3) := by decide +kernel
theorem dX11_init_26 : decode cX11_init 26 = .ok (.aload_n 0, 1) := by decide +kernel
theorem dX11_init_27 : decode cX11_init 27 = .ok (.new 19, 3) := by decide +kernel
theorem dX11_init_30 : decode cX11_init 30 = .ok (.dup, 1) := by decide +kernel
theorem dX11_init_31 : decode cX11_init 31 = .ok (.invokespecial 21, 3) := by decide +kernel
theorem dX11_init_34 : decode cX11_init 34 = .ok (.putfield 22, 3) := by decide +kernel
theorem dX11_init_37 : decode cX11_init 37 = .ok (.aload_n 0, 1) := by decide +kernel
theorem dX11_init_38 : decode cX11_init 38 = .ok (.new 26, 3) := by decide +kernel
theorem dX11_init_41 : decode cX11_init 41 = .ok (.dup, 1) := by decide +kernel
theorem dX11_init_42 : decode cX11_init 42 = .ok (.invokespecial 28, 3) := by decide +kernel
theorem dX11_init_45 : decode cX11_init 45 = .ok (.putfield 29, 3) := by decide +kernel
theorem dX11_init_48 : decode cX11_init 48 = .ok (.aload_n 0, 1) := by decide +kernel
theorem dX11_init_49 : decode cX11_init 49 = .ok (.new 33, 3) := by decide +kernel
theorem dX11_init_52 : decode cX11_init 52 = .ok (.dup, 1) := by decide +kernel
theorem dX11_init_53 : decode cX11_init 53 = .ok (.invokespecial 35, 3) := by decide +kernel
theorem dX11_init_56 : decode cX11_init 56 = .ok (.putfield 36, 3) := by decide +kernel
theorem dX11_init_59 : decode cX11_init 59 = .ok (.aload_n 0, 1) := by decide +kernel
theorem dX11_init_60 : decode cX11_init 60 = .ok (.bipush 16, 2) := by decide +kernel
theorem dX11_init_62 : decode cX11_init 62 = .ok (.newarray .int, 2) := by decide +kernel
theorem dX11_init_64 : decode cX11_init 64 = .ok (.putfield 40, 3) := by decide +kernel
theorem dX11_init_67 : decode cX11_init 67 = .ok (.aload_n 0, 1) := by decide +kernel
theorem dX11_init_68 : decode cX11_init 68 = .ok (.bipush 30, 2) := by decide +kernel
theorem dX11_init_70 : decode cX11_init 70 = .ok (.newarray .int, 2) := by decide +kernel
theorem dX11_init_72 : decode cX11_init 72 = .ok (.putfield 44, 3) := by decide +kernel
theorem dX11_init_75 : decode cX11_init 75 = .ok (.aload_n 0, 1) := by decide +kernel
theorem dX11_init_76 : decode cX11_init 76 = .ok (.bipush 32, 2) := by decide +kernel
theorem dX11_init_78 : decode cX11_init 78 = .ok (.newarray .short, 2) := by decide +kernel
theorem dX11_init_80 : decode cX11_init 80 = .ok (.putfield 47, 3) := by decide +kernel
theorem dX11_init_83 : decode cX11_init 83 = .ok (.aload_n 0, 1) := by decide +kernel
theorem dX11_init_84 : decode cX11_init 84 = .ok (.iconst 2, 1) := by decide +kernel
theorem dX11_init_85 : decode cX11_init 85 = .ok (.newarray .int, 2) := by decide +kernel
theorem dX11_init_87 : decode cX11_init 87 = .ok (.dup, 1) := by decide +kernel
theorem dX11_init_88 : decode cX11_init 88 = .ok (.iconst 0, 1) := by decide +kernel
theorem dX11_init_89 : decode cX11_init 89 = .ok (.iconst (-1), 1) := by decide +kernel
theorem dX11_init_90 : decode cX11_init 90 = .ok (.iastore, 1) := by decide +kernel
theorem dX11_init_91 : decode cX11_init 91 = .ok (.dup, 1) := by decide +kernel
theorem dX11_init_92 : decode cX11_init 92 = .ok (.iconst 1, 1) := by decide +kernel
theorem dX11_init_93 : decode cX11_init 93 = .ok (.iconst (-1), 1) := by decide +kernel
theorem dX11_init_94 : decode cX11_init 94 = .ok (.iastore, 1) := by decide +kernel
theorem dX11_init_95 : decode cX11_init 95 = .ok (.putfield 51, 3) := by decide +kernel
theorem dX11_init_98 : decode cX11_init 98 = .ok (.return_, 1) := by decide +kernel
theorem dX11_member_0 : decode cX11_member 0 = .ok (.iload_n 1, 1) := by decide +kernel
theorem dX11_member_1 : decode cX11_member 1 = .ok (.iconst 0, 1) := by decide +kernel
theorem dX11_member_2 : decode cX11_member 2 = .ok (.iconst 3, 1) := by decide +kernel
theorem dX11_member_3 : decode cX11_member 3 = .ok (.invokestatic 54, 3) := by decide +kernel
theorem dX11_member_6 : decode cX11_member 6 = .ok (.ifCond .eq 14, 3) := by decide +kernel
theorem dX11_member_9 : decode cX11_member 9 = .ok (.iload_n 2, 1) := by decide +kernel
theorem dX11_member_10 : decode cX11_member 10 = .ok (.iconst 0, 1) := by decide +kernel
theorem dX11_member_11 : decode cX11_member 11 = .ok (.sipush 4095, 3) := by decide +kernel
theorem dX11_member_14 : decode cX11_member 14 = .ok (.invokestatic 54, 3) := by decide +kernel
theorem dX11_member_17 : decode cX11_member 17 = .ok (.ifCond .ne 6, 3) := by decide +kernel
theorem dX11_member_20 : decode cX11_member 20 = .ok (.ldc 58, 2) := by decide +kernel
theorem dX11_member_22 : decode cX11_member 22 = .ok (.ireturn, 1) := by decide +kernel
theorem dX11_member_23 : decode cX11_member 23 = .ok (.aload_n 0, 1) := by decide +kernel
theorem dX11_member_24 : decode cX11_member 24 = .ok (.getfield 12, 3) := by decide +kernel
theorem dX11_member_27 : decode cX11_member 27 = .ok (.getfield 59, 3) := by decide +kernel
theorem dX11_member_30 : decode cX11_member 30 = .ok (.iload_n 1, 1) := by decide +kernel
theorem dX11_member_31 : decode cX11_member 31 = .ok (.iload_n 2, 1) := by decide +kernel
theorem dX11_member_32 : decode cX11_member 32 = .ok (.invokevirtual 63, 3) := by decide +kernel
theorem dX11_member_35 : decode cX11_member 35 = .ok (.ireturn, 1) := by decide +kernel
theorem dX11_is_0 : decode cX11_is 0 = .ok (.aload_n 0, 1) := by decide +kernel
theorem dX11_is_1 : decode cX11_is 1 = .ok (.iload_n 1, 1) := by decide +kernel
theorem dX11_is_2 : decode cX11_is 2 = .ok (.invokevirtual 69, 3) := by decide +kernel
theorem dX11_is_5 : decode cX11_is 5 = .ok (.ifCond .eq 12, 3) := by decide +kernel
theorem dX11_is_8 : decode cX11_is 8 = .ok (.iload_n 2, 1) := by decide +kernel
theorem dX11_is_9 : decode cX11_is 9 = .ok (.iconst 0, 1) := by decide +kernel
theorem dX11_is_10 : decode cX11_is 10 = .ok (.iconst 3, 1) := by decide +kernel
theorem dX11_is_11 : decode cX11_is 11 = .ok (.invokestatic 54, 3) := by decide +kernel
theorem dX11_is_14 : decode cX11_is 14 = .ok (.ifCond .ne 6, 3) := by decide +kernel
theorem dX11_is_17 : decode cX11_is 17 = .ok (.ldc 58, 2) := by decide +kernel
theorem dX11_is_19 : decode cX11_is 19 = .ok (.ireturn, 1) := by decide +kernel
theorem dX11_is_20 : decode cX11_is 20 = .ok (.aload_n 0, 1) := by decide +kernel
theorem dX11_is_21 : decode cX11_is 21 = .ok (.getfield 12, 3) := by decide +kernel
theorem dX11_is_24 : decode cX11_is 24 = .ok (.getfield 59, 3) := by decide +kernel
theorem dX11_is_27 : decode cX11_is 27 = .ok (.iload_n 1, 1) := by decide +kernel
theorem dX11_is_28 : decode cX11_is 28 = .ok (.iload_n 2, 1) := by decide +kernel
theorem dX11_is_29 : decode cX11_is 29 = .ok (.invokevirtual 73, 3) := by decide +kernel
theorem dX11_is_32 : decode cX11_is 32 = .ok (.ifCond .eq 7, 3) := by decide +kernel
theorem dX11_is_35 : decode cX11_is 35 = .ok (.iconst 1, 1) := by decide +kernel
theorem dX11_is_36 : decode cX11_is 36 = .ok (.goto 4, 3) := by decide +kernel
theorem dX11_is_39 : decode cX11_is 39 = .ok (.iconst 0, 1) := by decide +kernel
theorem dX11_is_40 : decode cX11_is 40 = .ok (.ireturn, 1) := by decide +kernel
theorem dX11_pool_0 : decode cX11_pool 0 = .ok (.aload_n 0, 1) := by decide +kernel
theorem dX11_pool_1 : decode cX11_pool 1 = .ok (.iload_n 1, 1) := by decide +kernel
theorem dX11_pool_2 : decode cX11_pool 2 = .ok (.invokevirtual 69, 3) := by decide +kernel
theorem dX11_pool_5 : decode cX11_pool 5 = .ok (.ifCond .eq 18, 3) := by decide +kernel
theorem dX11_pool_8 : decode cX11_pool 8 = .ok (.iload_n 2, 1) := by decide +kernel
theorem dX11_pool_9 : decode cX11_pool 9 = .ok (.ldc 77, 2) := by decide +kernel
theorem dX11_pool_11 : decode cX11_pool 11 = .ok (.if_icmp .eq 15, 3) := by decide +kernel
theorem dX11_pool_14 : decode cX11_pool 14 = .ok (.iload_n 2, 1) := by decide +kernel
theorem dX11_pool_15 : decode cX11_pool 15 = .ok (.iconst 0, 1) := by decide +kernel
theorem dX11_pool_16 : decode cX11_pool 16 = .ok (.iconst 2, 1) := by decide +kernel
theorem dX11_pool_17 : decode cX11_pool 17 = .ok (.invokestatic 54, 3) := by decide +kernel
theorem dX11_pool_20 : decode cX11_pool 20 = .ok (.ifCond .ne 6, 3) := by decide +kernel
theorem dX11_pool_23 : decode cX11_pool 23 = .ok (.ldc 58, 2) := by decide +kernel
theorem dX11_pool_25 : decode cX11_pool 25 = .ok (.ireturn, 1) := by decide +kernel
theorem dX11_pool_26 : decode cX11_pool 26 = .ok (.aload_n 0, 1) := by decide +kernel
theorem dX11_pool_27 : decode cX11_pool 27 = .ok (.getfield 12, 3) := by decide +kernel
theorem dX11_pool_30 : decode cX11_pool 30 = .ok (.getfield 59, 3) := by decide +kernel
theorem dX11_pool_33 : decode cX11_pool 33 = .ok (.getfield 78, 3) := by decide +kernel
theorem dX11_pool_36 : decode cX11_pool 36 = .ok (.iload_n 1, 1) := by decide +kernel
theorem dX11_pool_37 : decode cX11_pool 37 = .ok (.iaload, 1) := by decide +kernel
theorem dX11_pool_38 : decode cX11_pool 38 = .ok (.istore_n 3, 1) := by decide +kernel
theorem dX11_pool_39 : decode cX11_pool 39 = .ok (.aload_n 0, 1) := by decide +kernel
theorem dX11_pool_40 : decode cX11_pool 40 = .ok (.getfield 12, 3) := by decide +kernel
theorem dX11_pool_43 : decode cX11_pool 43 = .ok (.getfield 59, 3) := by decide +kernel
theorem dX11_pool_46 : decode cX11_pool 46 = .ok (.getfield 78, 3) := by decide +kernel
theorem dX11_pool_49 : decode cX11_pool 49 = .ok (.iload_n 1, 1) := by decide +kernel
theorem dX11_pool_50 : decode cX11_pool 50 = .ok (.iload_n 2, 1) := by decide +kernel
theorem dX11_pool_51 : decode cX11_pool 51 = .ok (.iastore, 1) := by decide +kernel
theorem dX11_pool_52 : decode cX11_pool 52 = .ok (.iload_n 3, 1) := by decide +kernel
theorem dX11_pool_53 : decode cX11_pool 53 = .ok (.ireturn, 1) := by decide +kernel
theorem dX11_marks_0 : decode cX11_marks 0 = .ok (.aload_n 0, 1) := by decide +kernel
theorem dX11_marks_1 : decode cX11_marks 1 = .ok (.iload_n 1, 1) := by decide +kernel
theorem dX11_marks_2 : decode cX11_marks 2 = .ok (.invokevirtual 69, 3) := by decide +kernel
theorem dX11_marks_5 : decode cX11_marks 5 = .ok (.ifCond .eq 14, 3) := by decide +kernel
theorem dX11_marks_8 : decode cX11_marks 8 = .ok (.iload_n 2, 1) := by decide +kernel
theorem dX11_marks_9 : decode cX11_marks 9 = .ok (.iconst 0, 1) := by decide +kernel
theorem dX11_marks_10 : decode cX11_marks 10 = .ok (.sipush 4095, 3) := by decide +kernel
theorem dX11_marks_13 : decode cX11_marks 13 = .ok (.invokestatic 54, 3) := by decide +kernel
theorem dX11_marks_16 : decode cX11_marks 16 = .ok (.ifCond .ne 6, 3) := by decide +kernel
theorem dX11_marks_19 : decode cX11_marks 19 = .ok (.ldc 58, 2) := by decide +kernel
theorem dX11_marks_21 : decode cX11_marks 21 = .ok (.ireturn, 1) := by decide +kernel
theorem dX11_marks_22 : decode cX11_marks 22 = .ok (.aload_n 0, 1) := by decide +kernel
theorem dX11_marks_23 : decode cX11_marks 23 = .ok (.getfield 12, 3) := by decide +kernel
theorem dX11_marks_26 : decode cX11_marks 26 = .ok (.getfield 59, 3) := by decide +kernel
theorem dX11_marks_29 : decode cX11_marks 29 = .ok (.getfield 81, 3) := by decide +kernel
theorem dX11_marks_32 : decode cX11_marks 32 = .ok (.iload_n 1, 1) := by decide +kernel
theorem dX11_marks_33 : decode cX11_marks 33 = .ok (.iaload, 1) := by decide +kernel
theorem dX11_marks_34 : decode cX11_marks 34 = .ok (.istore_n 3, 1) := by decide +kernel
theorem dX11_marks_35 : decode cX11_marks 35 = .ok (.aload_n 0, 1) := by decide +kernel
theorem dX11_marks_36 : decode cX11_marks 36 = .ok (.getfield 12, 3) := by decide +kernel
theorem dX11_marks_39 : decode cX11_marks 39 = .ok (.getfield 59, 3) := by decide +kernel
theorem dX11_marks_42 : decode cX11_marks 42 = .ok (.getfield 81, 3) := by decide +kernel
theorem dX11_marks_45 : decode cX11_marks 45 = .ok (.iload_n 1, 1) := by decide +kernel
theorem dX11_marks_46 : decode cX11_marks 46 = .ok (.iload_n 2, 1) := by decide +kernel
theorem dX11_marks_47 : decode cX11_marks 47 = .ok (.iastore, 1) := by decide +kernel
theorem dX11_marks_48 : decode cX11_marks 48 = .ok (.iload_n 3, 1) := by decide +kernel
theorem dX11_marks_49 : decode cX11_marks 49 = .ok (.ireturn, 1) := by decide +kernel
theorem dX11_lay_0 : decode cX11_lay 0 = .ok (.iload_n 1, 1) := by decide +kernel
theorem dX11_lay_1 : decode cX11_lay 1 = .ok (.invokestatic 84, 3) := by decide +kernel
theorem dX11_lay_4 : decode cX11_lay 4 = .ok (.ifCond .ne 6, 3) := by decide +kernel
theorem dX11_lay_7 : decode cX11_lay 7 = .ok (.ldc 58, 2) := by decide +kernel
theorem dX11_lay_9 : decode cX11_lay 9 = .ok (.ireturn, 1) := by decide +kernel
theorem dX11_lay_10 : decode cX11_lay 10 = .ok (.aload_n 0, 1) := by decide +kernel
theorem dX11_lay_11 : decode cX11_lay 11 = .ok (.getfield 51, 3) := by decide +kernel
theorem dX11_lay_14 : decode cX11_lay 14 = .ok (.iload_n 1, 1) := by decide +kernel
theorem dX11_lay_15 : decode cX11_lay 15 = .ok (.iaload, 1) := by decide +kernel
theorem dX11_lay_16 : decode cX11_lay 16 = .ok (.iconst (-1), 1) := by decide +kernel
theorem dX11_lay_17 : decode cX11_lay 17 = .ok (.if_icmp .ne 6, 3) := by decide +kernel
theorem dX11_lay_20 : decode cX11_lay 20 = .ok (.ldc 87, 2) := by decide +kernel
theorem dX11_lay_22 : decode cX11_lay 22 = .ok (.ireturn, 1) := by decide +kernel
theorem dX11_lay_23 : decode cX11_lay 23 = .ok (.aload_n 0, 1) := by decide +kernel
theorem dX11_lay_24 : decode cX11_lay 24 = .ok (.getfield 51, 3) := by decide +kernel
theorem dX11_lay_27 : decode cX11_lay 27 = .ok (.iload_n 1, 1) := by decide +kernel
theorem dX11_lay_28 : decode cX11_lay 28 = .ok (.iaload, 1) := by decide +kernel
theorem dX11_lay_29 : decode cX11_lay 29 = .ok (.aload_n 0, 1) := by decide +kernel
theorem dX11_lay_30 : decode cX11_lay 30 = .ok (.getfield 12, 3) := by decide +kernel
theorem dX11_lay_33 : decode cX11_lay 33 = .ok (.getfield 59, 3) := by decide +kernel
theorem dX11_lay_36 : decode cX11_lay 36 = .ok (.getfield 88, 3) := by decide +kernel
theorem dX11_lay_39 : decode cX11_lay 39 = .ok (.invokestatic 92, 3) := by decide +kernel
theorem dX11_lay_42 : decode cX11_lay 42 = .ok (.istore_n 2, 1) := by decide +kernel
theorem dX11_lay_43 : decode cX11_lay 43 = .ok (.iconst 0, 1) := by decide +kernel
theorem dX11_lay_44 : decode cX11_lay 44 = .ok (.istore_n 3, 1) := by decide +kernel
theorem dX11_lay_45 : decode cX11_lay 45 = .ok (.iload_n 3, 1) := by decide +kernel
theorem dX11_lay_46 : decode cX11_lay 46 = .ok (.iload_n 2, 1) := by decide +kernel
theorem dX11_lay_47 : decode cX11_lay 47 = .ok (.if_icmp .ge 52, 3) := by decide +kernel
theorem dX11_lay_50 : decode cX11_lay 50 = .ok (.aload_n 0, 1) := by decide +kernel
theorem dX11_lay_51 : decode cX11_lay 51 = .ok (.getfield 47, 3) := by decide +kernel
theorem dX11_lay_54 : decode cX11_lay 54 = .ok (.iload_n 1, 1) := by decide +kernel
theorem dX11_lay_55 : decode cX11_lay 55 = .ok (.bipush 16, 2) := by decide +kernel
theorem dX11_lay_57 : decode cX11_lay 57 = .ok (.imul, 1) := by decide +kernel
theorem dX11_lay_58 : decode cX11_lay 58 = .ok (.iload_n 3, 1) := by decide +kernel
theorem dX11_lay_59 : decode cX11_lay 59 = .ok (.iadd, 1) := by decide +kernel
theorem dX11_lay_60 : decode cX11_lay 60 = .ok (.saload, 1) := by decide +kernel
theorem dX11_lay_61 : decode cX11_lay 61 = .ok (.istore 4, 2) := by decide +kernel
theorem dX11_lay_63 : decode cX11_lay 63 = .ok (.aload_n 0, 1) := by decide +kernel
theorem dX11_lay_64 : decode cX11_lay 64 = .ok (.getfield 12, 3) := by decide +kernel
theorem dX11_lay_67 : decode cX11_lay 67 = .ok (.getfield 59, 3) := by decide +kernel
theorem dX11_lay_70 : decode cX11_lay 70 = .ok (.getfield 81, 3) := by decide +kernel
theorem dX11_lay_73 : decode cX11_lay 73 = .ok (.iload_n 3, 1) := by decide +kernel
theorem dX11_lay_74 : decode cX11_lay 74 = .ok (.iload 4, 2) := by decide +kernel
theorem dX11_lay_76 : decode cX11_lay 76 = .ok (.iconst 0, 1) := by decide +kernel
theorem dX11_lay_77 : decode cX11_lay 77 = .ok (.sipush 4095, 3) := by decide +kernel
theorem dX11_lay_80 : decode cX11_lay 80 = .ok (.invokestatic 54, 3) := by decide +kernel
theorem dX11_lay_83 : decode cX11_lay 83 = .ok (.ifCond .eq 8, 3) := by decide +kernel
theorem dX11_lay_86 : decode cX11_lay 86 = .ok (.iload 4, 2) := by decide +kernel
theorem dX11_lay_88 : decode cX11_lay 88 = .ok (.goto 4, 3) := by decide +kernel
theorem dX11_lay_91 : decode cX11_lay 91 = .ok (.iconst 0, 1) := by decide +kernel
theorem dX11_lay_92 : decode cX11_lay 92 = .ok (.iastore, 1) := by decide +kernel
theorem dX11_lay_93 : decode cX11_lay 93 = .ok (.iinc 3 1, 3) := by decide +kernel
theorem dX11_lay_96 : decode cX11_lay 96 = .ok (.goto (-51), 3) := by decide +kernel
theorem dX11_lay_99 : decode cX11_lay 99 = .ok (.iload_n 2, 1) := by decide +kernel
theorem dX11_lay_100 : decode cX11_lay 100 = .ok (.ireturn, 1) := by decide +kernel
theorem dX11_days_0 : decode cX11_days 0 = .ok (.iload_n 1, 1) := by decide +kernel
theorem dX11_days_1 : decode cX11_days 1 = .ok (.iconst 1, 1) := by decide +kernel
theorem dX11_days_2 : decode cX11_days 2 = .ok (.bipush 100, 2) := by decide +kernel
theorem dX11_days_4 : decode cX11_days 4 = .ok (.invokestatic 54, 3) := by decide +kernel
theorem dX11_days_7 : decode cX11_days 7 = .ok (.ifCond .eq 18, 3) := by decide +kernel
theorem dX11_days_10 : decode cX11_days 10 = .ok (.aload_n 0, 1) := by decide +kernel
theorem dX11_days_11 : decode cX11_days 11 = .ok (.getfield 12, 3) := by decide +kernel
theorem dX11_days_14 : decode cX11_days 14 = .ok (.getfield 97, 3) := by decide +kernel
theorem dX11_days_17 : decode cX11_days 17 = .ok (.iload_n 1, 1) := by decide +kernel
theorem dX11_days_18 : decode cX11_days 18 = .ok (.iadd, 1) := by decide +kernel
theorem dX11_days_19 : decode cX11_days 19 = .ok (.sipush 1200, 3) := by decide +kernel
theorem dX11_days_22 : decode cX11_days 22 = .ok (.if_icmp .le 6, 3) := by decide +kernel
theorem dX11_days_25 : decode cX11_days 25 = .ok (.ldc 58, 2) := by decide +kernel
theorem dX11_days_27 : decode cX11_days 27 = .ok (.ireturn, 1) := by decide +kernel
theorem dX11_days_28 : decode cX11_days 28 = .ok (.aload_n 0, 1) := by decide +kernel
theorem dX11_days_29 : decode cX11_days 29 = .ok (.getfield 12, 3) := by decide +kernel
theorem dX11_days_32 : decode cX11_days 32 = .ok (.dup, 1) := by decide +kernel
theorem dX11_days_33 : decode cX11_days 33 = .ok (.getfield 97, 3) := by decide +kernel
theorem dX11_days_36 : decode cX11_days 36 = .ok (.iload_n 1, 1) := by decide +kernel
theorem dX11_days_37 : decode cX11_days 37 = .ok (.iadd, 1) := by decide +kernel
theorem dX11_days_38 : decode cX11_days 38 = .ok (.putfield 97, 3) := by decide +kernel
theorem dX11_days_41 : decode cX11_days 41 = .ok (.aload_n 0, 1) := by decide +kernel
theorem dX11_days_42 : decode cX11_days 42 = .ok (.getfield 12, 3) := by decide +kernel
theorem dX11_days_45 : decode cX11_days 45 = .ok (.getfield 97, 3) := by decide +kernel
theorem dX11_days_48 : decode cX11_days 48 = .ok (.ireturn, 1) := by decide +kernel
theorem dX11_rule_0 : decode cX11_rule 0 = .ok (.iload_n 1, 1) := by decide +kernel
theorem dX11_rule_1 : decode cX11_rule 1 = .ok (.iconst 0, 1) := by decide +kernel
theorem dX11_rule_2 : decode cX11_rule 2 = .ok (.iconst 2, 1) := by decide +kernel
theorem dX11_rule_3 : decode cX11_rule 3 = .ok (.invokestatic 54, 3) := by decide +kernel
theorem dX11_rule_6 : decode cX11_rule 6 = .ok (.ifCond .eq 20, 3) := by decide +kernel
theorem dX11_rule_9 : decode cX11_rule 9 = .ok (.iload_n 2, 1) := by decide +kernel
theorem dX11_rule_10 : decode cX11_rule 10 = .ok (.getstatic 100, 3) := by decide +kernel
theorem dX11_rule_13 : decode cX11_rule 13 = .ok (.iload_n 1, 1) := by decide +kernel
theorem dX11_rule_14 : decode cX11_rule 14 = .ok (.iaload, 1) := by decide +kernel
theorem dX11_rule_15 : decode cX11_rule 15 = .ok (.getstatic 103, 3) := by decide +kernel
theorem dX11_rule_18 : decode cX11_rule 18 = .ok (.iload_n 1, 1) := by decide +kernel
theorem dX11_rule_19 : decode cX11_rule 19 = .ok (.iaload, 1) := by decide +kernel
theorem dX11_rule_20 : decode cX11_rule 20 = .ok (.invokestatic 54, 3) := by decide +kernel
theorem dX11_rule_23 : decode cX11_rule 23 = .ok (.ifCond .ne 6, 3) := by decide +kernel
theorem dX11_rule_26 : decode cX11_rule 26 = .ok (.ldc 58, 2) := by decide +kernel
theorem dX11_rule_28 : decode cX11_rule 28 = .ok (.ireturn, 1) := by decide +kernel
theorem dX11_rule_29 : decode cX11_rule 29 = .ok (.aload_n 0, 1) := by decide +kernel
theorem dX11_rule_30 : decode cX11_rule 30 = .ok (.getfield 12, 3) := by decide +kernel
theorem dX11_rule_33 : decode cX11_rule 33 = .ok (.getfield 106, 3) := by decide +kernel
theorem dX11_rule_36 : decode cX11_rule 36 = .ok (.iload_n 1, 1) := by decide +kernel
theorem dX11_rule_37 : decode cX11_rule 37 = .ok (.iaload, 1) := by decide +kernel
theorem dX11_rule_38 : decode cX11_rule 38 = .ok (.istore_n 3, 1) := by decide +kernel
theorem dX11_rule_39 : decode cX11_rule 39 = .ok (.aload_n 0, 1) := by decide +kernel
theorem dX11_rule_40 : decode cX11_rule 40 = .ok (.getfield 12, 3) := by decide +kernel
theorem dX11_rule_43 : decode cX11_rule 43 = .ok (.getfield 106, 3) := by decide +kernel
theorem dX11_rule_46 : decode cX11_rule 46 = .ok (.iload_n 1, 1) := by decide +kernel
theorem dX11_rule_47 : decode cX11_rule 47 = .ok (.iload_n 2, 1) := by decide +kernel
theorem dX11_rule_48 : decode cX11_rule 48 = .ok (.iastore, 1) := by decide +kernel
theorem dX11_rule_49 : decode cX11_rule 49 = .ok (.iload_n 3, 1) := by decide +kernel
theorem dX11_rule_50 : decode cX11_rule 50 = .ok (.ireturn, 1) := by decide +kernel
theorem dX11_fly_0 : decode cX11_fly 0 = .ok (.aload_n 0, 1) := by decide +kernel
theorem dX11_fly_1 : decode cX11_fly 1 = .ok (.iload_n 1, 1) := by decide +kernel
theorem dX11_fly_2 : decode cX11_fly 2 = .ok (.invokevirtual 69, 3) := by decide +kernel
theorem dX11_fly_5 : decode cX11_fly 5 = .ok (.ifCond .eq 34, 3) := by decide +kernel
theorem dX11_fly_8 : decode cX11_fly 8 = .ok (.aload_n 0, 1) := by decide +kernel
theorem dX11_fly_9 : decode cX11_fly 9 = .ok (.iload_n 2, 1) := by decide +kernel
theorem dX11_fly_10 : decode cX11_fly 10 = .ok (.invokevirtual 109, 3) := by decide +kernel
theorem dX11_fly_13 : decode cX11_fly 13 = .ok (.ifCond .eq 26, 3) := by decide +kernel
theorem dX11_fly_16 : decode cX11_fly 16 = .ok (.iload_n 3, 1) := by decide +kernel
theorem dX11_fly_17 : decode cX11_fly 17 = .ok (.iconst 1, 1) := by decide +kernel
theorem dX11_fly_18 : decode cX11_fly 18 = .ok (.sipush 9999, 3) := by decide +kernel
theorem dX11_fly_21 : decode cX11_fly 21 = .ok (.invokestatic 54, 3) := by decide +kernel
theorem dX11_fly_24 : decode cX11_fly 24 = .ok (.ifCond .eq 15, 3) := by decide +kernel
theorem dX11_fly_27 : decode cX11_fly 27 = .ok (.iload 5, 2) := by decide +kernel
theorem dX11_fly_29 : decode cX11_fly 29 = .ok (.iconst 0, 1) := by decide +kernel
theorem dX11_fly_30 : decode cX11_fly 30 = .ok (.sipush 9999, 3) := by decide +kernel
theorem dX11_fly_33 : decode cX11_fly 33 = .ok (.invokestatic 54, 3) := by decide +kernel
theorem dX11_fly_36 : decode cX11_fly 36 = .ok (.ifCond .ne 6, 3) := by decide +kernel
theorem dX11_fly_39 : decode cX11_fly 39 = .ok (.ldc 58, 2) := by decide +kernel
theorem dX11_fly_41 : decode cX11_fly 41 = .ok (.ireturn, 1) := by decide +kernel
theorem dX11_fly_42 : decode cX11_fly 42 = .ok (.iload 4, 2) := by decide +kernel
theorem dX11_fly_44 : decode cX11_fly 44 = .ok (.ifCond .lt 27, 3) := by decide +kernel
theorem dX11_fly_47 : decode cX11_fly 47 = .ok (.iload 4, 2) := by decide +kernel
theorem dX11_fly_49 : decode cX11_fly 49 = .ok (.bipush 10, 2) := by decide +kernel
theorem dX11_fly_51 : decode cX11_fly 51 = .ok (.idiv, 1) := by decide +kernel
theorem dX11_fly_52 : decode cX11_fly 52 = .ok (.iconst 0, 1) := by decide +kernel
theorem dX11_fly_53 : decode cX11_fly 53 = .ok (.iconst 3, 1) := by decide +kernel
theorem dX11_fly_54 : decode cX11_fly 54 = .ok (.invokestatic 54, 3) := by decide +kernel
theorem dX11_fly_57 : decode cX11_fly 57 = .ok (.ifCond .eq 14, 3) := by decide +kernel
theorem dX11_fly_60 : decode cX11_fly 60 = .ok (.iload 4, 2) := by decide +kernel
theorem dX11_fly_62 : decode cX11_fly 62 = .ok (.bipush 10, 2) := by decide +kernel
theorem dX11_fly_64 : decode cX11_fly 64 = .ok (.irem, 1) := by decide +kernel
theorem dX11_fly_65 : decode cX11_fly 65 = .ok (.invokestatic 112, 3) := by decide +kernel
theorem dX11_fly_68 : decode cX11_fly 68 = .ok (.ifCond .ne 6, 3) := by decide +kernel
theorem dX11_fly_71 : decode cX11_fly 71 = .ok (.ldc 58, 2) := by decide +kernel
theorem dX11_fly_73 : decode cX11_fly 73 = .ok (.ireturn, 1) := by decide +kernel
theorem dX11_fly_74 : decode cX11_fly 74 = .ok (.aload_n 0, 1) := by decide +kernel
theorem dX11_fly_75 : decode cX11_fly 75 = .ok (.getfield 12, 3) := by decide +kernel
theorem dX11_fly_78 : decode cX11_fly 78 = .ok (.iconst 0, 1) := by decide +kernel
theorem dX11_fly_79 : decode cX11_fly 79 = .ok (.iload_n 1, 1) := by decide +kernel
theorem dX11_fly_80 : decode cX11_fly 80 = .ok (.iload_n 2, 1) := by decide +kernel
theorem dX11_fly_81 : decode cX11_fly 81 = .ok (.iload_n 3, 1) := by decide +kernel
theorem dX11_fly_82 : decode cX11_fly 82 = .ok (.iload 4, 2) := by decide +kernel
theorem dX11_fly_84 : decode cX11_fly 84 = .ok (.iload 5, 2) := by decide +kernel
theorem dX11_fly_86 : decode cX11_fly 86 = .ok (.invokevirtual 115, 3) := by decide +kernel
theorem dX11_fly_89 : decode cX11_fly 89 = .ok (.ireturn, 1) := by decide +kernel
theorem dX11_spend_0 : decode cX11_spend 0 = .ok (.aload_n 0, 1) := by decide +kernel
theorem dX11_spend_1 : decode cX11_spend 1 = .ok (.iload_n 1, 1) := by decide +kernel
theorem dX11_spend_2 : decode cX11_spend 2 = .ok (.invokevirtual 69, 3) := by decide +kernel
theorem dX11_spend_5 : decode cX11_spend 5 = .ok (.ifCond .eq 29, 3) := by decide +kernel
theorem dX11_spend_8 : decode cX11_spend 8 = .ok (.aload_n 0, 1) := by decide +kernel
theorem dX11_spend_9 : decode cX11_spend 9 = .ok (.iload_n 2, 1) := by decide +kernel
theorem dX11_spend_10 : decode cX11_spend 10 = .ok (.invokevirtual 109, 3) := by decide +kernel
theorem dX11_spend_13 : decode cX11_spend 13 = .ok (.ifCond .eq 21, 3) := by decide +kernel
theorem dX11_spend_16 : decode cX11_spend 16 = .ok (.iload_n 3, 1) := by decide +kernel
theorem dX11_spend_17 : decode cX11_spend 17 = .ok (.iconst 1, 1) := by decide +kernel
theorem dX11_spend_18 : decode cX11_spend 18 = .ok (.ldc 119, 2) := by decide +kernel
theorem dX11_spend_20 : decode cX11_spend 20 = .ok (.invokestatic 54, 3) := by decide +kernel
theorem dX11_spend_23 : decode cX11_spend 23 = .ok (.ifCond .eq 11, 3) := by decide +kernel
theorem dX11_spend_26 : decode cX11_spend 26 = .ok (.iload 4, 2) := by decide +kernel
theorem dX11_spend_28 : decode cX11_spend 28 = .ok (.invokestatic 112, 3) := by decide +kernel
theorem dX11_spend_31 : decode cX11_spend 31 = .ok (.ifCond .ne 6, 3) := by decide +kernel
theorem dX11_spend_34 : decode cX11_spend 34 = .ok (.ldc 58, 2) := by decide +kernel
theorem dX11_spend_36 : decode cX11_spend 36 = .ok (.ireturn, 1) := by decide +kernel
theorem dX11_spend_37 : decode cX11_spend 37 = .ok (.aload_n 0, 1) := by decide +kernel
theorem dX11_spend_38 : decode cX11_spend 38 = .ok (.getfield 12, 3) := by decide +kernel
theorem dX11_spend_41 : decode cX11_spend 41 = .ok (.iconst 1, 1) := by decide +kernel
theorem dX11_spend_42 : decode cX11_spend 42 = .ok (.iload_n 1, 1) := by decide +kernel
theorem dX11_spend_43 : decode cX11_spend 43 = .ok (.iload_n 2, 1) := by decide +kernel
theorem dX11_spend_44 : decode cX11_spend 44 = .ok (.iload_n 3, 1) := by decide +kernel
theorem dX11_spend_45 : decode cX11_spend 45 = .ok (.iload 4, 2) := by decide +kernel
theorem dX11_spend_47 : decode cX11_spend 47 = .ok (.iconst 0, 1) := by decide +kernel
theorem dX11_spend_48 : decode cX11_spend 48 = .ok (.invokevirtual 115, 3) := by decide +kernel
theorem dX11_spend_51 : decode cX11_spend 51 = .ok (.ireturn, 1) := by decide +kernel
theorem dX11_gift_0 : decode cX11_gift 0 = .ok (.aload_n 0, 1) := by decide +kernel
theorem dX11_gift_1 : decode cX11_gift 1 = .ok (.iload_n 1, 1) := by decide +kernel
theorem dX11_gift_2 : decode cX11_gift 2 = .ok (.invokevirtual 69, 3) := by decide +kernel
theorem dX11_gift_5 : decode cX11_gift 5 = .ok (.ifCond .eq 30, 3) := by decide +kernel
theorem dX11_gift_8 : decode cX11_gift 8 = .ok (.aload_n 0, 1) := by decide +kernel
theorem dX11_gift_9 : decode cX11_gift 9 = .ok (.iload_n 2, 1) := by decide +kernel
theorem dX11_gift_10 : decode cX11_gift 10 = .ok (.invokevirtual 109, 3) := by decide +kernel
theorem dX11_gift_13 : decode cX11_gift 13 = .ok (.ifCond .eq 22, 3) := by decide +kernel
theorem dX11_gift_16 : decode cX11_gift 16 = .ok (.iload_n 3, 1) := by decide +kernel
theorem dX11_gift_17 : decode cX11_gift 17 = .ok (.iconst 1, 1) := by decide +kernel
theorem dX11_gift_18 : decode cX11_gift 18 = .ok (.ldc 119, 2) := by decide +kernel
theorem dX11_gift_20 : decode cX11_gift 20 = .ok (.invokestatic 54, 3) := by decide +kernel
theorem dX11_gift_23 : decode cX11_gift 23 = .ok (.ifCond .eq 12, 3) := by decide +kernel
theorem dX11_gift_26 : decode cX11_gift 26 = .ok (.aload_n 0, 1) := by decide +kernel
theorem dX11_gift_27 : decode cX11_gift 27 = .ok (.iload 4, 2) := by decide +kernel
theorem dX11_gift_29 : decode cX11_gift 29 = .ok (.invokevirtual 69, 3) := by decide +kernel
theorem dX11_gift_32 : decode cX11_gift 32 = .ok (.ifCond .ne 6, 3) := by decide +kernel
theorem dX11_gift_35 : decode cX11_gift 35 = .ok (.ldc 58, 2) := by decide +kernel
theorem dX11_gift_37 : decode cX11_gift 37 = .ok (.ireturn, 1) := by decide +kernel
theorem dX11_gift_38 : decode cX11_gift 38 = .ok (.iload_n 1, 1) := by decide +kernel
theorem dX11_gift_39 : decode cX11_gift 39 = .ok (.iload 4, 2) := by decide +kernel
theorem dX11_gift_41 : decode cX11_gift 41 = .ok (.if_icmp .ne 6, 3) := by decide +kernel
theorem dX11_gift_44 : decode cX11_gift 44 = .ok (.ldc 58, 2) := by decide +kernel
theorem dX11_gift_46 : decode cX11_gift 46 = .ok (.ireturn, 1) := by decide +kernel
theorem dX11_gift_47 : decode cX11_gift 47 = .ok (.aload_n 0, 1) := by decide +kernel
theorem dX11_gift_48 : decode cX11_gift 48 = .ok (.getfield 12, 3) := by decide +kernel
theorem dX11_gift_51 : decode cX11_gift 51 = .ok (.iconst 2, 1) := by decide +kernel
theorem dX11_gift_52 : decode cX11_gift 52 = .ok (.iload_n 1, 1) := by decide +kernel
theorem dX11_gift_53 : decode cX11_gift 53 = .ok (.iload_n 2, 1) := by decide +kernel
theorem dX11_gift_54 : decode cX11_gift 54 = .ok (.iload_n 3, 1) := by decide +kernel
theorem dX11_gift_55 : decode cX11_gift 55 = .ok (.iload 4, 2) := by decide +kernel
theorem dX11_gift_57 : decode cX11_gift 57 = .ok (.iconst 0, 1) := by decide +kernel
theorem dX11_gift_58 : decode cX11_gift 58 = .ok (.invokevirtual 115, 3) := by decide +kernel
theorem dX11_gift_61 : decode cX11_gift 61 = .ok (.ireturn, 1) := by decide +kernel
theorem dX11_back_0 : decode cX11_back 0 = .ok (.aload_n 0, 1) := by decide +kernel
theorem dX11_back_1 : decode cX11_back 1 = .ok (.iload_n 1, 1) := by decide +kernel
theorem dX11_back_2 : decode cX11_back 2 = .ok (.invokevirtual 120, 3) := by decide +kernel
theorem dX11_back_5 : decode cX11_back 5 = .ok (.ifCond .eq 11, 3) := by decide +kernel
theorem dX11_back_8 : decode cX11_back 8 = .ok (.aload_n 0, 1) := by decide +kernel
theorem dX11_back_9 : decode cX11_back 9 = .ok (.iload_n 2, 1) := by decide +kernel
theorem dX11_back_10 : decode cX11_back 10 = .ok (.invokevirtual 109, 3) := by decide +kernel
theorem dX11_back_13 : decode cX11_back 13 = .ok (.ifCond .ne 6, 3) := by decide +kernel
theorem dX11_back_16 : decode cX11_back 16 = .ok (.ldc 58, 2) := by decide +kernel
theorem dX11_back_18 : decode cX11_back 18 = .ok (.ireturn, 1) := by decide +kernel
theorem dX11_back_19 : decode cX11_back 19 = .ok (.aload_n 0, 1) := by decide +kernel
theorem dX11_back_20 : decode cX11_back 20 = .ok (.getfield 12, 3) := by decide +kernel
theorem dX11_back_23 : decode cX11_back 23 = .ok (.getfield 123, 3) := by decide +kernel
theorem dX11_back_26 : decode cX11_back 26 = .ok (.astore_n 3, 1) := by decide +kernel
theorem dX11_back_27 : decode cX11_back 27 = .ok (.aload_n 3, 1) := by decide +kernel
theorem dX11_back_28 : decode cX11_back 28 = .ok (.getfield 127, 3) := by decide +kernel
theorem dX11_back_31 : decode cX11_back 31 = .ok (.iload_n 1, 1) := by decide +kernel
theorem dX11_back_32 : decode cX11_back 32 = .ok (.iaload, 1) := by decide +kernel
theorem dX11_back_33 : decode cX11_back 33 = .ok (.iconst 1, 1) := by decide +kernel
theorem dX11_back_34 : decode cX11_back 34 = .ok (.if_icmp .ne 13, 3) := by decide +kernel
theorem dX11_back_37 : decode cX11_back 37 = .ok (.iload_n 2, 1) := by decide +kernel
theorem dX11_back_38 : decode cX11_back 38 = .ok (.aload_n 3, 1) := by decide +kernel
theorem dX11_back_39 : decode cX11_back 39 = .ok (.getfield 132, 3) := by decide +kernel
theorem dX11_back_42 : decode cX11_back 42 = .ok (.iload_n 1, 1) := by decide +kernel
theorem dX11_back_43 : decode cX11_back 43 = .ok (.iaload, 1) := by decide +kernel
theorem dX11_back_44 : decode cX11_back 44 = .ok (.if_icmp .ge 6, 3) := by decide +kernel
theorem dX11_back_47 : decode cX11_back 47 = .ok (.ldc 58, 2) := by decide +kernel
theorem dX11_back_49 : decode cX11_back 49 = .ok (.ireturn, 1) := by decide +kernel
theorem dX11_back_50 : decode cX11_back 50 = .ok (.aload_n 0, 1) := by decide +kernel
theorem dX11_back_51 : decode cX11_back 51 = .ok (.getfield 12, 3) := by decide +kernel
theorem dX11_back_54 : decode cX11_back 54 = .ok (.iconst 3, 1) := by decide +kernel
theorem dX11_back_55 : decode cX11_back 55 = .ok (.aload_n 3, 1) := by decide +kernel
theorem dX11_back_56 : decode cX11_back 56 = .ok (.getfield 135, 3) := by decide +kernel
theorem dX11_back_59 : decode cX11_back 59 = .ok (.iload_n 1, 1) := by decide +kernel
theorem dX11_back_60 : decode cX11_back 60 = .ok (.iaload, 1) := by decide +kernel
theorem dX11_back_61 : decode cX11_back 61 = .ok (.iload_n 2, 1) := by decide +kernel
theorem dX11_back_62 : decode cX11_back 62 = .ok (.aload_n 3, 1) := by decide +kernel
theorem dX11_back_63 : decode cX11_back 63 = .ok (.getfield 138, 3) := by decide +kernel
theorem dX11_back_66 : decode cX11_back 66 = .ok (.iload_n 1, 1) := by decide +kernel
theorem dX11_back_67 : decode cX11_back 67 = .ok (.iaload, 1) := by decide +kernel
theorem dX11_back_68 : decode cX11_back 68 = .ok (.iload_n 1, 1) := by decide +kernel
theorem dX11_back_69 : decode cX11_back 69 = .ok (.iconst 0, 1) := by decide +kernel
theorem dX11_back_70 : decode cX11_back 70 = .ok (.invokevirtual 115, 3) := by decide +kernel
theorem dX11_back_73 : decode cX11_back 73 = .ok (.ireturn, 1) := by decide +kernel
theorem dX11_withdraw_0 : decode cX11_withdraw 0 = .ok (.aload_n 0, 1) := by decide +kernel
theorem dX11_withdraw_1 : decode cX11_withdraw 1 = .ok (.iload_n 1, 1) := by decide +kernel
theorem dX11_withdraw_2 : decode cX11_withdraw 2 = .ok (.invokevirtual 120, 3) := by decide +kernel
theorem dX11_withdraw_5 : decode cX11_withdraw 5 = .ok (.ifCond .ne 6, 3) := by decide +kernel
theorem dX11_withdraw_8 : decode cX11_withdraw 8 = .ok (.ldc 58, 2) := by decide +kernel
theorem dX11_withdraw_10 : decode cX11_withdraw 10 = .ok (.ireturn, 1) := by decide +kernel
theorem dX11_withdraw_11 : decode cX11_withdraw 11 = .ok (.aload_n 0, 1) := by decide +kernel
theorem dX11_withdraw_12 : decode cX11_withdraw 12 = .ok (.getfield 12, 3) := by decide +kernel
theorem dX11_withdraw_15 : decode cX11_withdraw 15 = .ok (.getfield 123, 3) := by decide +kernel
theorem dX11_withdraw_18 : decode cX11_withdraw 18 = .ok (.getfield 141, 3) := by decide +kernel
theorem dX11_withdraw_21 : decode cX11_withdraw 21 = .ok (.iload_n 1, 1) := by decide +kernel
theorem dX11_withdraw_22 : decode cX11_withdraw 22 = .ok (.iaload, 1) := by decide +kernel
theorem dX11_withdraw_23 : decode cX11_withdraw 23 = .ok (.ldc 77, 2) := by decide +kernel
theorem dX11_withdraw_25 : decode cX11_withdraw 25 = .ok (.if_icmp .eq 6, 3) := by decide +kernel
theorem dX11_withdraw_28 : decode cX11_withdraw 28 = .ok (.ldc 144, 2) := by decide +kernel
theorem dX11_withdraw_30 : decode cX11_withdraw 30 = .ok (.ireturn, 1) := by decide +kernel
theorem dX11_withdraw_31 : decode cX11_withdraw 31 = .ok (.aload_n 0, 1) := by decide +kernel
theorem dX11_withdraw_32 : decode cX11_withdraw 32 = .ok (.getfield 12, 3) := by decide +kernel
theorem dX11_withdraw_35 : decode cX11_withdraw 35 = .ok (.getfield 123, 3) := by decide +kernel
theorem dX11_withdraw_38 : decode cX11_withdraw 38 = .ok (.getfield 141, 3) := by decide +kernel
theorem dX11_withdraw_41 : decode cX11_withdraw 41 = .ok (.iload_n 1, 1) := by decide +kernel
theorem dX11_withdraw_42 : decode cX11_withdraw 42 = .ok (.aload_n 0, 1) := by decide +kernel
theorem dX11_withdraw_43 : decode cX11_withdraw 43 = .ok (.getfield 12, 3) := by decide +kernel
theorem dX11_withdraw_46 : decode cX11_withdraw 46 = .ok (.getfield 97, 3) := by decide +kernel
theorem dX11_withdraw_49 : decode cX11_withdraw 49 = .ok (.iastore, 1) := by decide +kernel
theorem dX11_withdraw_50 : decode cX11_withdraw 50 = .ok (.iconst 1, 1) := by decide +kernel
theorem dX11_withdraw_51 : decode cX11_withdraw 51 = .ok (.ireturn, 1) := by decide +kernel
theorem dX11_line_0 : decode cX11_line 0 = .ok (.aload_n 0, 1) := by decide +kernel
theorem dX11_line_1 : decode cX11_line 1 = .ok (.iload_n 1, 1) := by decide +kernel
theorem dX11_line_2 : decode cX11_line 2 = .ok (.invokevirtual 120, 3) := by decide +kernel
theorem dX11_line_5 : decode cX11_line 5 = .ok (.ifCond .ne 6, 3) := by decide +kernel
theorem dX11_line_8 : decode cX11_line 8 = .ok (.ldc 58, 2) := by decide +kernel
theorem dX11_line_10 : decode cX11_line 10 = .ok (.ireturn, 1) := by decide +kernel
theorem dX11_line_11 : decode cX11_line 11 = .ok (.aload_n 0, 1) := by decide +kernel
theorem dX11_line_12 : decode cX11_line 12 = .ok (.getfield 12, 3) := by decide +kernel
theorem dX11_line_15 : decode cX11_line 15 = .ok (.getfield 123, 3) := by decide +kernel
theorem dX11_line_18 : decode cX11_line 18 = .ok (.astore_n 3, 1) := by decide +kernel
theorem dX11_line_19 : decode cX11_line 19 = .ok (.iload_n 2, 1) := by decide +kernel
theorem dX11_line_20 : decode cX11_line 20 = .ok (.tableswitch 93 0 6 #[44, 51, 58, 65, 72, 79, 86], 44) := by decide +kernel
theorem dX11_line_64 : decode cX11_line 64 = .ok (.aload_n 3, 1) := by decide +kernel
theorem dX11_line_65 : decode cX11_line 65 = .ok (.getfield 127, 3) := by decide +kernel
theorem dX11_line_68 : decode cX11_line 68 = .ok (.iload_n 1, 1) := by decide +kernel
theorem dX11_line_69 : decode cX11_line 69 = .ok (.iaload, 1) := by decide +kernel
theorem dX11_line_70 : decode cX11_line 70 = .ok (.ireturn, 1) := by decide +kernel
theorem dX11_line_71 : decode cX11_line 71 = .ok (.aload_n 3, 1) := by decide +kernel
theorem dX11_line_72 : decode cX11_line 72 = .ok (.getfield 135, 3) := by decide +kernel
theorem dX11_line_75 : decode cX11_line 75 = .ok (.iload_n 1, 1) := by decide +kernel
theorem dX11_line_76 : decode cX11_line 76 = .ok (.iaload, 1) := by decide +kernel
theorem dX11_line_77 : decode cX11_line 77 = .ok (.ireturn, 1) := by decide +kernel
theorem dX11_line_78 : decode cX11_line 78 = .ok (.aload_n 3, 1) := by decide +kernel
theorem dX11_line_79 : decode cX11_line 79 = .ok (.getfield 132, 3) := by decide +kernel
theorem dX11_line_82 : decode cX11_line 82 = .ok (.iload_n 1, 1) := by decide +kernel
theorem dX11_line_83 : decode cX11_line 83 = .ok (.iaload, 1) := by decide +kernel
theorem dX11_line_84 : decode cX11_line 84 = .ok (.ireturn, 1) := by decide +kernel
theorem dX11_line_85 : decode cX11_line 85 = .ok (.aload_n 3, 1) := by decide +kernel
theorem dX11_line_86 : decode cX11_line 86 = .ok (.getfield 145, 3) := by decide +kernel
theorem dX11_line_89 : decode cX11_line 89 = .ok (.iload_n 1, 1) := by decide +kernel
theorem dX11_line_90 : decode cX11_line 90 = .ok (.iaload, 1) := by decide +kernel
theorem dX11_line_91 : decode cX11_line 91 = .ok (.ireturn, 1) := by decide +kernel
theorem dX11_line_92 : decode cX11_line 92 = .ok (.aload_n 3, 1) := by decide +kernel
theorem dX11_line_93 : decode cX11_line 93 = .ok (.getfield 141, 3) := by decide +kernel
theorem dX11_line_96 : decode cX11_line 96 = .ok (.iload_n 1, 1) := by decide +kernel
theorem dX11_line_97 : decode cX11_line 97 = .ok (.iaload, 1) := by decide +kernel
theorem dX11_line_98 : decode cX11_line 98 = .ok (.ireturn, 1) := by decide +kernel
theorem dX11_line_99 : decode cX11_line 99 = .ok (.aload_n 3, 1) := by decide +kernel
theorem dX11_line_100 : decode cX11_line 100 = .ok (.getfield 138, 3) := by decide +kernel
theorem dX11_line_103 : decode cX11_line 103 = .ok (.iload_n 1, 1) := by decide +kernel
theorem dX11_line_104 : decode cX11_line 104 = .ok (.iaload, 1) := by decide +kernel
theorem dX11_line_105 : decode cX11_line 105 = .ok (.ireturn, 1) := by decide +kernel
theorem dX11_line_106 : decode cX11_line 106 = .ok (.aload_n 3, 1) := by decide +kernel
theorem dX11_line_107 : decode cX11_line 107 = .ok (.getfield 148, 3) := by decide +kernel
theorem dX11_line_110 : decode cX11_line 110 = .ok (.iload_n 1, 1) := by decide +kernel
theorem dX11_line_111 : decode cX11_line 111 = .ok (.iaload, 1) := by decide +kernel
theorem dX11_line_112 : decode cX11_line 112 = .ok (.ireturn, 1) := by decide +kernel
theorem dX11_line_113 : decode cX11_line 113 = .ok (.ldc 58, 2) := by decide +kernel
theorem dX11_line_115 : decode cX11_line 115 = .ok (.ireturn, 1) := by decide +kernel
theorem dX11_stands_0 : decode cX11_stands 0 = .ok (.aload_n 0, 1) := by decide +kernel
theorem dX11_stands_1 : decode cX11_stands 1 = .ok (.iload_n 1, 1) := by decide +kernel
theorem dX11_stands_2 : decode cX11_stands 2 = .ok (.invokevirtual 69, 3) := by decide +kernel
theorem dX11_stands_5 : decode cX11_stands 5 = .ok (.ifCond .eq 27, 3) := by decide +kernel
theorem dX11_stands_8 : decode cX11_stands 8 = .ok (.iload_n 2, 1) := by decide +kernel
theorem dX11_stands_9 : decode cX11_stands 9 = .ok (.invokestatic 151, 3) := by decide +kernel
theorem dX11_stands_12 : decode cX11_stands 12 = .ok (.ifCond .eq 20, 3) := by decide +kernel
theorem dX11_stands_15 : decode cX11_stands 15 = .ok (.iload_n 3, 1) := by decide +kernel
theorem dX11_stands_16 : decode cX11_stands 16 = .ok (.invokestatic 151, 3) := by decide +kernel
theorem dX11_stands_19 : decode cX11_stands 19 = .ok (.ifCond .eq 13, 3) := by decide +kernel
theorem dX11_stands_22 : decode cX11_stands 22 = .ok (.iload 4, 2) := by decide +kernel
theorem dX11_stands_24 : decode cX11_stands 24 = .ok (.iconst 0, 1) := by decide +kernel
theorem dX11_stands_25 : decode cX11_stands 25 = .ok (.iconst 4, 1) := by decide +kernel
theorem dX11_stands_26 : decode cX11_stands 26 = .ok (.invokestatic 54, 3) := by decide +kernel
theorem dX11_stands_29 : decode cX11_stands 29 = .ok (.ifCond .ne 6, 3) := by decide +kernel
theorem dX11_stands_32 : decode cX11_stands 32 = .ok (.ldc 58, 2) := by decide +kernel
theorem dX11_stands_34 : decode cX11_stands 34 = .ok (.ireturn, 1) := by decide +kernel
theorem dX11_stands_35 : decode cX11_stands 35 = .ok (.aload_n 0, 1) := by decide +kernel
theorem dX11_stands_36 : decode cX11_stands 36 = .ok (.getfield 22, 3) := by decide +kernel
theorem dX11_stands_39 : decode cX11_stands 39 = .ok (.aload_n 0, 1) := by decide +kernel
theorem dX11_stands_40 : decode cX11_stands 40 = .ok (.getfield 12, 3) := by decide +kernel
theorem dX11_stands_43 : decode cX11_stands 43 = .ok (.iload_n 2, 1) := by decide +kernel
theorem dX11_stands_44 : decode cX11_stands 44 = .ok (.iload_n 3, 1) := by decide +kernel
theorem dX11_stands_45 : decode cX11_stands 45 = .ok (.invokevirtual 154, 3) := by decide +kernel
theorem dX11_stands_48 : decode cX11_stands 48 = .ok (.iload 4, 2) := by decide +kernel
theorem dX11_stands_50 : decode cX11_stands 50 = .ok (.tableswitch 96 0 3 #[30, 45, 59, 73], 30) := by decide +kernel
theorem dX11_stands_80 : decode cX11_stands 80 = .ok (.aload_n 0, 1) := by decide +kernel
theorem dX11_stands_81 : decode cX11_stands 81 = .ok (.getfield 22, 3) := by decide +kernel
theorem dX11_stands_84 : decode cX11_stands 84 = .ok (.iload_n 1, 1) := by decide +kernel
theorem dX11_stands_85 : decode cX11_stands 85 = .ok (.iload_n 2, 1) := by decide +kernel
theorem dX11_stands_86 : decode cX11_stands 86 = .ok (.iconst 1, 1) := by decide +kernel
theorem dX11_stands_87 : decode cX11_stands 87 = .ok (.iadd, 1) := by decide +kernel
theorem dX11_stands_88 : decode cX11_stands 88 = .ok (.sipush 11199, 3) := by decide +kernel
theorem dX11_stands_91 : decode cX11_stands 91 = .ok (.invokevirtual 158, 3) := by decide +kernel
theorem dX11_stands_94 : decode cX11_stands 94 = .ok (.ireturn, 1) := by decide +kernel
theorem dX11_stands_95 : decode cX11_stands 95 = .ok (.aload_n 0, 1) := by decide +kernel
theorem dX11_stands_96 : decode cX11_stands 96 = .ok (.getfield 22, 3) := by decide +kernel
theorem dX11_stands_99 : decode cX11_stands 99 = .ok (.iload_n 1, 1) := by decide +kernel
theorem dX11_stands_100 : decode cX11_stands 100 = .ok (.iload_n 2, 1) := by decide +kernel
theorem dX11_stands_101 : decode cX11_stands 101 = .ok (.sipush 360, 3) := by decide +kernel
theorem dX11_stands_104 : decode cX11_stands 104 = .ok (.idiv, 1) := by decide +kernel
theorem dX11_stands_105 : decode cX11_stands 105 = .ok (.invokevirtual 162, 3) := by decide +kernel
theorem dX11_stands_108 : decode cX11_stands 108 = .ok (.ireturn, 1) := by decide +kernel
theorem dX11_stands_109 : decode cX11_stands 109 = .ok (.aload_n 0, 1) := by decide +kernel
theorem dX11_stands_110 : decode cX11_stands 110 = .ok (.getfield 22, 3) := by decide +kernel
theorem dX11_stands_113 : decode cX11_stands 113 = .ok (.aload_n 0, 1) := by decide +kernel
theorem dX11_stands_114 : decode cX11_stands 114 = .ok (.getfield 12, 3) := by decide +kernel
theorem dX11_stands_117 : decode cX11_stands 117 = .ok (.iload_n 1, 1) := by decide +kernel
theorem dX11_stands_118 : decode cX11_stands 118 = .ok (.iload_n 2, 1) := by decide +kernel
theorem dX11_stands_119 : decode cX11_stands 119 = .ok (.invokevirtual 165, 3) := by decide +kernel
theorem dX11_stands_122 : decode cX11_stands 122 = .ok (.ireturn, 1) := by decide +kernel
theorem dX11_stands_123 : decode cX11_stands 123 = .ok (.aload_n 0, 1) := by decide +kernel
theorem dX11_stands_124 : decode cX11_stands 124 = .ok (.getfield 22, 3) := by decide +kernel
theorem dX11_stands_127 : decode cX11_stands 127 = .ok (.iload_n 1, 1) := by decide +kernel
theorem dX11_stands_128 : decode cX11_stands 128 = .ok (.iload_n 2, 1) := by decide +kernel
theorem dX11_stands_129 : decode cX11_stands 129 = .ok (.iconst 1, 1) := by decide +kernel
theorem dX11_stands_130 : decode cX11_stands 130 = .ok (.iadd, 1) := by decide +kernel
theorem dX11_stands_131 : decode cX11_stands 131 = .ok (.iload_n 2, 1) := by decide +kernel
theorem dX11_stands_132 : decode cX11_stands 132 = .ok (.aload_n 0, 1) := by decide +kernel
theorem dX11_stands_133 : decode cX11_stands 133 = .ok (.getfield 12, 3) := by decide +kernel
theorem dX11_stands_136 : decode cX11_stands 136 = .ok (.getfield 106, 3) := by decide +kernel
theorem dX11_stands_139 : decode cX11_stands 139 = .ok (.iconst 2, 1) := by decide +kernel
theorem dX11_stands_140 : decode cX11_stands 140 = .ok (.iaload, 1) := by decide +kernel
theorem dX11_stands_141 : decode cX11_stands 141 = .ok (.iadd, 1) := by decide +kernel
theorem dX11_stands_142 : decode cX11_stands 142 = .ok (.invokevirtual 158, 3) := by decide +kernel
theorem dX11_stands_145 : decode cX11_stands 145 = .ok (.ireturn, 1) := by decide +kernel
theorem dX11_stands_146 : decode cX11_stands 146 = .ok (.aload_n 0, 1) := by decide +kernel
theorem dX11_stands_147 : decode cX11_stands 147 = .ok (.getfield 22, 3) := by decide +kernel
theorem dX11_stands_150 : decode cX11_stands 150 = .ok (.iload_n 1, 1) := by decide +kernel
theorem dX11_stands_151 : decode cX11_stands 151 = .ok (.iconst 0, 1) := by decide +kernel
theorem dX11_stands_152 : decode cX11_stands 152 = .ok (.iload_n 2, 1) := by decide +kernel
theorem dX11_stands_153 : decode cX11_stands 153 = .ok (.invokevirtual 158, 3) := by decide +kernel
theorem dX11_stands_156 : decode cX11_stands 156 = .ok (.ireturn, 1) := by decide +kernel
theorem dX11_brought_0 : decode cX11_brought 0 = .ok (.aload_n 0, 1) := by decide +kernel
theorem dX11_brought_1 : decode cX11_brought 1 = .ok (.iload_n 1, 1) := by decide +kernel
theorem dX11_brought_2 : decode cX11_brought 2 = .ok (.invokevirtual 120, 3) := by decide +kernel
theorem dX11_brought_5 : decode cX11_brought 5 = .ok (.ifCond .eq 17, 3) := by decide +kernel
theorem dX11_brought_8 : decode cX11_brought 8 = .ok (.iload_n 2, 1) := by decide +kernel
theorem dX11_brought_9 : decode cX11_brought 9 = .ok (.invokestatic 151, 3) := by decide +kernel
theorem dX11_brought_12 : decode cX11_brought 12 = .ok (.ifCond .eq 10, 3) := by decide +kernel
theorem dX11_brought_15 : decode cX11_brought 15 = .ok (.iload_n 3, 1) := by decide +kernel
theorem dX11_brought_16 : decode cX11_brought 16 = .ok (.invokestatic 151, 3) := by decide +kernel
theorem dX11_brought_19 : decode cX11_brought 19 = .ok (.ifCond .ne 6, 3) := by decide +kernel
theorem dX11_brought_22 : decode cX11_brought 22 = .ok (.ldc 58, 2) := by decide +kernel
theorem dX11_brought_24 : decode cX11_brought 24 = .ok (.ireturn, 1) := by decide +kernel
theorem dX11_brought_25 : decode cX11_brought 25 = .ok (.aload_n 0, 1) := by decide +kernel
theorem dX11_brought_26 : decode cX11_brought 26 = .ok (.getfield 12, 3) := by decide +kernel
theorem dX11_brought_29 : decode cX11_brought 29 = .ok (.getfield 123, 3) := by decide +kernel
theorem dX11_brought_32 : decode cX11_brought 32 = .ok (.iload_n 1, 1) := by decide +kernel
theorem dX11_brought_33 : decode cX11_brought 33 = .ok (.iload_n 3, 1) := by decide +kernel
theorem dX11_brought_34 : decode cX11_brought 34 = .ok (.invokevirtual 169, 3) := by decide +kernel
theorem dX11_brought_37 : decode cX11_brought 37 = .ok (.ifCond .eq 19, 3) := by decide +kernel
theorem dX11_brought_40 : decode cX11_brought 40 = .ok (.aload_n 0, 1) := by decide +kernel
theorem dX11_brought_41 : decode cX11_brought 41 = .ok (.getfield 12, 3) := by decide +kernel
theorem dX11_brought_44 : decode cX11_brought 44 = .ok (.getfield 123, 3) := by decide +kernel
theorem dX11_brought_47 : decode cX11_brought 47 = .ok (.getfield 132, 3) := by decide +kernel
theorem dX11_brought_50 : decode cX11_brought 50 = .ok (.iload_n 1, 1) := by decide +kernel
theorem dX11_brought_51 : decode cX11_brought 51 = .ok (.iaload, 1) := by decide +kernel
theorem dX11_brought_52 : decode cX11_brought 52 = .ok (.iload_n 2, 1) := by decide +kernel
theorem dX11_brought_53 : decode cX11_brought 53 = .ok (.if_icmp .le 6, 3) := by decide +kernel
theorem dX11_brought_56 : decode cX11_brought 56 = .ok (.ldc 144, 2) := by decide +kernel
theorem dX11_brought_58 : decode cX11_brought 58 = .ok (.ireturn, 1) := by decide +kernel
theorem dX11_brought_59 : decode cX11_brought 59 = .ok (.aload_n 0, 1) := by decide +kernel
theorem dX11_brought_60 : decode cX11_brought 60 = .ok (.getfield 22, 3) := by decide +kernel
theorem dX11_brought_63 : decode cX11_brought 63 = .ok (.aload_n 0, 1) := by decide +kernel
theorem dX11_brought_64 : decode cX11_brought 64 = .ok (.getfield 12, 3) := by decide +kernel
theorem dX11_brought_67 : decode cX11_brought 67 = .ok (.iload_n 2, 1) := by decide +kernel
theorem dX11_brought_68 : decode cX11_brought 68 = .ok (.iload_n 3, 1) := by decide +kernel
theorem dX11_brought_69 : decode cX11_brought 69 = .ok (.invokevirtual 154, 3) := by decide +kernel
theorem dX11_brought_72 : decode cX11_brought 72 = .ok (.aload_n 0, 1) := by decide +kernel
theorem dX11_brought_73 : decode cX11_brought 73 = .ok (.getfield 22, 3) := by decide +kernel
theorem dX11_brought_76 : decode cX11_brought 76 = .ok (.getfield 172, 3) := by decide +kernel
theorem dX11_brought_79 : decode cX11_brought 79 = .ok (.iload_n 1, 1) := by decide +kernel
theorem dX11_brought_80 : decode cX11_brought 80 = .ok (.iaload, 1) := by decide +kernel
theorem dX11_brought_81 : decode cX11_brought 81 = .ok (.ireturn, 1) := by decide +kernel
theorem dX11_owes_0 : decode cX11_owes 0 = .ok (.iload_n 1, 1) := by decide +kernel
theorem dX11_owes_1 : decode cX11_owes 1 = .ok (.iconst 1, 1) := by decide +kernel
theorem dX11_owes_2 : decode cX11_owes 2 = .ok (.iconst 3, 1) := by decide +kernel
theorem dX11_owes_3 : decode cX11_owes 3 = .ok (.invokestatic 54, 3) := by decide +kernel
theorem dX11_owes_6 : decode cX11_owes 6 = .ok (.ifCond .eq 17, 3) := by decide +kernel
theorem dX11_owes_9 : decode cX11_owes 9 = .ok (.iload_n 2, 1) := by decide +kernel
theorem dX11_owes_10 : decode cX11_owes 10 = .ok (.invokestatic 151, 3) := by decide +kernel
theorem dX11_owes_13 : decode cX11_owes 13 = .ok (.ifCond .eq 10, 3) := by decide +kernel
theorem dX11_owes_16 : decode cX11_owes 16 = .ok (.iload_n 3, 1) := by decide +kernel
theorem dX11_owes_17 : decode cX11_owes 17 = .ok (.invokestatic 151, 3) := by decide +kernel
theorem dX11_owes_20 : decode cX11_owes 20 = .ok (.ifCond .ne 6, 3) := by decide +kernel
theorem dX11_owes_23 : decode cX11_owes 23 = .ok (.ldc 58, 2) := by decide +kernel
theorem dX11_owes_25 : decode cX11_owes 25 = .ok (.ireturn, 1) := by decide +kernel
theorem dX11_owes_26 : decode cX11_owes 26 = .ok (.aload_n 0, 1) := by decide +kernel
theorem dX11_owes_27 : decode cX11_owes 27 = .ok (.getfield 22, 3) := by decide +kernel
theorem dX11_owes_30 : decode cX11_owes 30 = .ok (.aload_n 0, 1) := by decide +kernel
theorem dX11_owes_31 : decode cX11_owes 31 = .ok (.getfield 12, 3) := by decide +kernel
theorem dX11_owes_34 : decode cX11_owes 34 = .ok (.iload_n 2, 1) := by decide +kernel
theorem dX11_owes_35 : decode cX11_owes 35 = .ok (.iload_n 3, 1) := by decide +kernel
theorem dX11_owes_36 : decode cX11_owes 36 = .ok (.invokevirtual 154, 3) := by decide +kernel
theorem dX11_owes_39 : decode cX11_owes 39 = .ok (.aload_n 0, 1) := by decide +kernel
theorem dX11_owes_40 : decode cX11_owes 40 = .ok (.getfield 22, 3) := by decide +kernel
theorem dX11_owes_43 : decode cX11_owes 43 = .ok (.getfield 175, 3) := by decide +kernel
theorem dX11_owes_46 : decode cX11_owes 46 = .ok (.iload_n 1, 1) := by decide +kernel
theorem dX11_owes_47 : decode cX11_owes 47 = .ok (.iaload, 1) := by decide +kernel
theorem dX11_owes_48 : decode cX11_owes 48 = .ok (.i2l, 1) := by decide +kernel
theorem dX11_owes_49 : decode cX11_owes 49 = .ok (.aload_n 0, 1) := by decide +kernel
theorem dX11_owes_50 : decode cX11_owes 50 = .ok (.getfield 12, 3) := by decide +kernel
theorem dX11_owes_53 : decode cX11_owes 53 = .ok (.getfield 178, 3) := by decide +kernel
theorem dX11_owes_56 : decode cX11_owes 56 = .ok (.iload_n 1, 1) := by decide +kernel
theorem dX11_owes_57 : decode cX11_owes 57 = .ok (.iaload, 1) := by decide +kernel
theorem dX11_owes_58 : decode cX11_owes 58 = .ok (.i2l, 1) := by decide +kernel
theorem dX11_owes_59 : decode cX11_owes 59 = .ok (.lmul, 1) := by decide +kernel
theorem dX11_owes_60 : decode cX11_owes 60 = .ok (.ldc2_w 181, 3) := by decide +kernel
theorem dX11_owes_63 : decode cX11_owes 63 = .ok (.ldiv, 1) := by decide +kernel
theorem dX11_owes_64 : decode cX11_owes 64 = .ok (.lstore 4, 2) := by decide +kernel
theorem dX11_owes_66 : decode cX11_owes 66 = .ok (.aload_n 0, 1) := by decide +kernel
theorem dX11_owes_67 : decode cX11_owes 67 = .ok (.getfield 22, 3) := by decide +kernel
theorem dX11_owes_70 : decode cX11_owes 70 = .ok (.getfield 183, 3) := by decide +kernel
theorem dX11_owes_73 : decode cX11_owes 73 = .ok (.iload_n 1, 1) := by decide +kernel
theorem dX11_owes_74 : decode cX11_owes 74 = .ok (.iaload, 1) := by decide +kernel
theorem dX11_owes_75 : decode cX11_owes 75 = .ok (.i2l, 1) := by decide +kernel
theorem dX11_owes_76 : decode cX11_owes 76 = .ok (.aload_n 0, 1) := by decide +kernel
theorem dX11_owes_77 : decode cX11_owes 77 = .ok (.getfield 12, 3) := by decide +kernel
theorem dX11_owes_80 : decode cX11_owes 80 = .ok (.getfield 186, 3) := by decide +kernel
theorem dX11_owes_83 : decode cX11_owes 83 = .ok (.iload_n 1, 1) := by decide +kernel
theorem dX11_owes_84 : decode cX11_owes 84 = .ok (.iaload, 1) := by decide +kernel
theorem dX11_owes_85 : decode cX11_owes 85 = .ok (.i2l, 1) := by decide +kernel
theorem dX11_owes_86 : decode cX11_owes 86 = .ok (.lmul, 1) := by decide +kernel
theorem dX11_owes_87 : decode cX11_owes 87 = .ok (.ldc2_w 181, 3) := by decide +kernel
theorem dX11_owes_90 : decode cX11_owes 90 = .ok (.ldiv, 1) := by decide +kernel
theorem dX11_owes_91 : decode cX11_owes 91 = .ok (.lstore 6, 2) := by decide +kernel
theorem dX11_owes_93 : decode cX11_owes 93 = .ok (.lload 4, 2) := by decide +kernel
theorem dX11_owes_95 : decode cX11_owes 95 = .ok (.lload 6, 2) := by decide +kernel
theorem dX11_owes_97 : decode cX11_owes 97 = .ok (.lsub, 1) := by decide +kernel
theorem dX11_owes_98 : decode cX11_owes 98 = .ok (.l2i, 1) := by decide +kernel
theorem dX11_owes_99 : decode cX11_owes 99 = .ok (.ireturn, 1) := by decide +kernel
theorem dX11_rate_0 : decode cX11_rate 0 = .ok (.iload_n 1, 1) := by decide +kernel
theorem dX11_rate_1 : decode cX11_rate 1 = .ok (.iconst 1, 1) := by decide +kernel
theorem dX11_rate_2 : decode cX11_rate 2 = .ok (.iconst 3, 1) := by decide +kernel
theorem dX11_rate_3 : decode cX11_rate 3 = .ok (.invokestatic 54, 3) := by decide +kernel
theorem dX11_rate_6 : decode cX11_rate 6 = .ok (.ifCond .eq 23, 3) := by decide +kernel
theorem dX11_rate_9 : decode cX11_rate 9 = .ok (.iload_n 2, 1) := by decide +kernel
theorem dX11_rate_10 : decode cX11_rate 10 = .ok (.iconst 0, 1) := by decide +kernel
theorem dX11_rate_11 : decode cX11_rate 11 = .ok (.iconst 1, 1) := by decide +kernel
theorem dX11_rate_12 : decode cX11_rate 12 = .ok (.invokestatic 54, 3) := by decide +kernel
theorem dX11_rate_15 : decode cX11_rate 15 = .ok (.ifCond .eq 14, 3) := by decide +kernel
theorem dX11_rate_18 : decode cX11_rate 18 = .ok (.iload_n 3, 1) := by decide +kernel
theorem dX11_rate_19 : decode cX11_rate 19 = .ok (.iconst 0, 1) := by decide +kernel
theorem dX11_rate_20 : decode cX11_rate 20 = .ok (.sipush 999, 3) := by decide +kernel
theorem dX11_rate_23 : decode cX11_rate 23 = .ok (.invokestatic 54, 3) := by decide +kernel
theorem dX11_rate_26 : decode cX11_rate 26 = .ok (.ifCond .ne 6, 3) := by decide +kernel
theorem dX11_rate_29 : decode cX11_rate 29 = .ok (.ldc 58, 2) := by decide +kernel
theorem dX11_rate_31 : decode cX11_rate 31 = .ok (.ireturn, 1) := by decide +kernel
theorem dX11_rate_32 : decode cX11_rate 32 = .ok (.iload_n 2, 1) := by decide +kernel
theorem dX11_rate_33 : decode cX11_rate 33 = .ok (.ifCond .ne 13, 3) := by decide +kernel
theorem dX11_rate_36 : decode cX11_rate 36 = .ok (.aload_n 0, 1) := by decide +kernel
theorem dX11_rate_37 : decode cX11_rate 37 = .ok (.getfield 12, 3) := by decide +kernel
theorem dX11_rate_40 : decode cX11_rate 40 = .ok (.getfield 178, 3) := by decide +kernel
theorem dX11_rate_43 : decode cX11_rate 43 = .ok (.goto 10, 3) := by decide +kernel
theorem dX11_rate_46 : decode cX11_rate 46 = .ok (.aload_n 0, 1) := by decide +kernel
theorem dX11_rate_47 : decode cX11_rate 47 = .ok (.getfield 12, 3) := by decide +kernel
theorem dX11_rate_50 : decode cX11_rate 50 = .ok (.getfield 186, 3) := by decide +kernel
theorem dX11_rate_53 : decode cX11_rate 53 = .ok (.astore 4, 2) := by decide +kernel
theorem dX11_rate_55 : decode cX11_rate 55 = .ok (.aload 4, 2) := by decide +kernel
theorem dX11_rate_57 : decode cX11_rate 57 = .ok (.iload_n 1, 1) := by decide +kernel
theorem dX11_rate_58 : decode cX11_rate 58 = .ok (.iaload, 1) := by decide +kernel
theorem dX11_rate_59 : decode cX11_rate 59 = .ok (.istore 5, 2) := by decide +kernel
theorem dX11_rate_61 : decode cX11_rate 61 = .ok (.aload 4, 2) := by decide +kernel
theorem dX11_rate_63 : decode cX11_rate 63 = .ok (.iload_n 1, 1) := by decide +kernel
theorem dX11_rate_64 : decode cX11_rate 64 = .ok (.iload_n 3, 1) := by decide +kernel
theorem dX11_rate_65 : decode cX11_rate 65 = .ok (.iastore, 1) := by decide +kernel
theorem dX11_rate_66 : decode cX11_rate 66 = .ok (.iload 5, 2) := by decide +kernel
theorem dX11_rate_68 : decode cX11_rate 68 = .ok (.ireturn, 1) := by decide +kernel
theorem dX11_feed_0 : decode cX11_feed 0 = .ok (.aload_n 0, 1) := by decide +kernel
theorem dX11_feed_1 : decode cX11_feed 1 = .ok (.getfield 36, 3) := by decide +kernel
theorem dX11_feed_4 : decode cX11_feed 4 = .ok (.getfield 189, 3) := by decide +kernel
theorem dX11_feed_7 : decode cX11_feed 7 = .ok (.bipush 12, 2) := by decide +kernel
theorem dX11_feed_9 : decode cX11_feed 9 = .ok (.iadd, 1) := by decide +kernel
theorem dX11_feed_10 : decode cX11_feed 10 = .ok (.sipush 132, 3) := by decide +kernel
theorem dX11_feed_13 : decode cX11_feed 13 = .ok (.if_icmp .le 6, 3) := by decide +kernel
theorem dX11_feed_16 : decode cX11_feed 16 = .ok (.ldc 192, 2) := by decide +kernel
theorem dX11_feed_18 : decode cX11_feed 18 = .ok (.ireturn, 1) := by decide +kernel
theorem dX11_feed_19 : decode cX11_feed 19 = .ok (.aload_n 0, 1) := by decide +kernel
theorem dX11_feed_20 : decode cX11_feed 20 = .ok (.getfield 36, 3) := by decide +kernel
theorem dX11_feed_23 : decode cX11_feed 23 = .ok (.iload_n 1, 1) := by decide +kernel
theorem dX11_feed_24 : decode cX11_feed 24 = .ok (.invokevirtual 193, 3) := by decide +kernel
theorem dX11_feed_27 : decode cX11_feed 27 = .ok (.aload_n 0, 1) := by decide +kernel
theorem dX11_feed_28 : decode cX11_feed 28 = .ok (.getfield 36, 3) := by decide +kernel
theorem dX11_feed_31 : decode cX11_feed 31 = .ok (.iload_n 2, 1) := by decide +kernel
theorem dX11_feed_32 : decode cX11_feed 32 = .ok (.invokevirtual 193, 3) := by decide +kernel
theorem dX11_feed_35 : decode cX11_feed 35 = .ok (.aload_n 0, 1) := by decide +kernel
theorem dX11_feed_36 : decode cX11_feed 36 = .ok (.getfield 36, 3) := by decide +kernel
theorem dX11_feed_39 : decode cX11_feed 39 = .ok (.iload_n 3, 1) := by decide +kernel
theorem dX11_feed_40 : decode cX11_feed 40 = .ok (.invokevirtual 193, 3) := by decide +kernel
theorem dX11_feed_43 : decode cX11_feed 43 = .ok (.aload_n 0, 1) := by decide +kernel
theorem dX11_feed_44 : decode cX11_feed 44 = .ok (.getfield 36, 3) := by decide +kernel
theorem dX11_feed_47 : decode cX11_feed 47 = .ok (.getfield 189, 3) := by decide +kernel
theorem dX11_feed_50 : decode cX11_feed 50 = .ok (.ireturn, 1) := by decide +kernel
theorem dX11_trim_0 : decode cX11_trim 0 = .ok (.iload_n 1, 1) := by decide +kernel
theorem dX11_trim_1 : decode cX11_trim 1 = .ok (.iconst 0, 1) := by decide +kernel
theorem dX11_trim_2 : decode cX11_trim 2 = .ok (.aload_n 0, 1) := by decide +kernel
theorem dX11_trim_3 : decode cX11_trim 3 = .ok (.getfield 36, 3) := by decide +kernel
theorem dX11_trim_6 : decode cX11_trim 6 = .ok (.getfield 189, 3) := by decide +kernel
theorem dX11_trim_9 : decode cX11_trim 9 = .ok (.invokestatic 54, 3) := by decide +kernel
theorem dX11_trim_12 : decode cX11_trim 12 = .ok (.ifCond .ne 6, 3) := by decide +kernel
theorem dX11_trim_15 : decode cX11_trim 15 = .ok (.ldc 58, 2) := by decide +kernel
theorem dX11_trim_17 : decode cX11_trim 17 = .ok (.ireturn, 1) := by decide +kernel
theorem dX11_trim_18 : decode cX11_trim 18 = .ok (.aload_n 0, 1) := by decide +kernel
theorem dX11_trim_19 : decode cX11_trim 19 = .ok (.getfield 36, 3) := by decide +kernel
theorem dX11_trim_22 : decode cX11_trim 22 = .ok (.iload_n 1, 1) := by decide +kernel
theorem dX11_trim_23 : decode cX11_trim 23 = .ok (.putfield 189, 3) := by decide +kernel
theorem dX11_trim_26 : decode cX11_trim 26 = .ok (.iload_n 1, 1) := by decide +kernel
theorem dX11_trim_27 : decode cX11_trim 27 = .ok (.ireturn, 1) := by decide +kernel
theorem dX11_terms_0 : decode cX11_terms 0 = .ok (.aload_n 0, 1) := by decide +kernel
theorem dX11_terms_1 : decode cX11_terms 1 = .ok (.getfield 36, 3) := by decide +kernel
theorem dX11_terms_4 : decode cX11_terms 4 = .ok (.invokevirtual 197, 3) := by decide +kernel
theorem dX11_terms_7 : decode cX11_terms 7 = .ok (.iload_n 1, 1) := by decide +kernel
theorem dX11_terms_8 : decode cX11_terms 8 = .ok (.invokestatic 151, 3) := by decide +kernel
theorem dX11_terms_11 : decode cX11_terms 11 = .ok (.ifCond .ne 6, 3) := by decide +kernel
theorem dX11_terms_14 : decode cX11_terms 14 = .ok (.ldc 58, 2) := by decide +kernel
theorem dX11_terms_16 : decode cX11_terms 16 = .ok (.ireturn, 1) := by decide +kernel
theorem dX11_terms_17 : decode cX11_terms 17 = .ok (.iload_n 1, 1) := by decide +kernel
theorem dX11_terms_18 : decode cX11_terms 18 = .ok (.ifCond .ne 17, 3) := by decide +kernel
theorem dX11_terms_21 : decode cX11_terms 21 = .ok (.aload_n 0, 1) := by decide +kernel
theorem dX11_terms_22 : decode cX11_terms 22 = .ok (.getfield 12, 3) := by decide +kernel
theorem dX11_terms_25 : decode cX11_terms 25 = .ok (.getfield 97, 3) := by decide +kernel
theorem dX11_terms_28 : decode cX11_terms 28 = .ok (.ifCond .ne 7, 3) := by decide +kernel
theorem dX11_terms_31 : decode cX11_terms 31 = .ok (.iconst 1, 1) := by decide +kernel
theorem dX11_terms_32 : decode cX11_terms 32 = .ok (.goto 4, 3) := by decide +kernel
theorem dX11_terms_35 : decode cX11_terms 35 = .ok (.iconst 0, 1) := by decide +kernel
theorem dX11_terms_36 : decode cX11_terms 36 = .ok (.istore_n 2, 1) := by decide +kernel
theorem dX11_terms_37 : decode cX11_terms 37 = .ok (.iload_n 2, 1) := by decide +kernel
theorem dX11_terms_38 : decode cX11_terms 38 = .ok (.ifCond .ne 27, 3) := by decide +kernel
theorem dX11_terms_41 : decode cX11_terms 41 = .ok (.iload_n 1, 1) := by decide +kernel
theorem dX11_terms_42 : decode cX11_terms 42 = .ok (.aload_n 0, 1) := by decide +kernel
theorem dX11_terms_43 : decode cX11_terms 43 = .ok (.getfield 12, 3) := by decide +kernel
theorem dX11_terms_46 : decode cX11_terms 46 = .ok (.getfield 97, 3) := by decide +kernel
theorem dX11_terms_49 : decode cX11_terms 49 = .ok (.aload_n 0, 1) := by decide +kernel
theorem dX11_terms_50 : decode cX11_terms 50 = .ok (.getfield 12, 3) := by decide +kernel
theorem dX11_terms_53 : decode cX11_terms 53 = .ok (.getfield 106, 3) := by decide +kernel
theorem dX11_terms_56 : decode cX11_terms 56 = .ok (.iconst 0, 1) := by decide +kernel
theorem dX11_terms_57 : decode cX11_terms 57 = .ok (.iaload, 1) := by decide +kernel
theorem dX11_terms_58 : decode cX11_terms 58 = .ok (.iadd, 1) := by decide +kernel
theorem dX11_terms_59 : decode cX11_terms 59 = .ok (.if_icmp .ge 6, 3) := by decide +kernel
theorem dX11_terms_62 : decode cX11_terms 62 = .ok (.ldc 144, 2) := by decide +kernel
theorem dX11_terms_64 : decode cX11_terms 64 = .ok (.ireturn, 1) := by decide +kernel
theorem dX11_terms_65 : decode cX11_terms 65 = .ok (.aload_n 0, 1) := by decide +kernel
theorem dX11_terms_66 : decode cX11_terms 66 = .ok (.getfield 36, 3) := by decide +kernel
theorem dX11_terms_69 : decode cX11_terms 69 = .ok (.invokevirtual 200, 3) := by decide +kernel
theorem dX11_terms_72 : decode cX11_terms 72 = .ok (.ifCond .ne 14, 3) := by decide +kernel
theorem dX11_terms_75 : decode cX11_terms 75 = .ok (.bipush (-100), 2) := by decide +kernel
theorem dX11_terms_77 : decode cX11_terms 77 = .ok (.aload_n 0, 1) := by decide +kernel
theorem dX11_terms_78 : decode cX11_terms 78 = .ok (.getfield 36, 3) := by decide +kernel
theorem dX11_terms_81 : decode cX11_terms 81 = .ok (.getfield 204, 3) := by decide +kernel
theorem dX11_terms_84 : decode cX11_terms 84 = .ok (.isub, 1) := by decide +kernel
theorem dX11_terms_85 : decode cX11_terms 85 = .ok (.ireturn, 1) := by decide +kernel
theorem dX11_terms_86 : decode cX11_terms 86 = .ok (.aload_n 0, 1) := by decide +kernel
theorem dX11_terms_87 : decode cX11_terms 87 = .ok (.getfield 12, 3) := by decide +kernel
theorem dX11_terms_90 : decode cX11_terms 90 = .ok (.getfield 207, 3) := by decide +kernel
theorem dX11_terms_93 : decode cX11_terms 93 = .ok (.getfield 211, 3) := by decide +kernel
theorem dX11_terms_96 : decode cX11_terms 96 = .ok (.iconst 4, 1) := by decide +kernel
theorem dX11_terms_97 : decode cX11_terms 97 = .ok (.if_icmp .lt 6, 3) := by decide +kernel
theorem dX11_terms_100 : decode cX11_terms 100 = .ok (.ldc 192, 2) := by decide +kernel
theorem dX11_terms_102 : decode cX11_terms 102 = .ok (.ireturn, 1) := by decide +kernel
theorem dX11_terms_103 : decode cX11_terms 103 = .ok (.aload_n 0, 1) := by decide +kernel
theorem dX11_terms_104 : decode cX11_terms 104 = .ok (.getfield 12, 3) := by decide +kernel
theorem dX11_terms_107 : decode cX11_terms 107 = .ok (.getfield 207, 3) := by decide +kernel
theorem dX11_terms_110 : decode cX11_terms 110 = .ok (.aload_n 0, 1) := by decide +kernel
theorem dX11_terms_111 : decode cX11_terms 111 = .ok (.getfield 36, 3) := by decide +kernel
theorem dX11_terms_114 : decode cX11_terms 114 = .ok (.iload_n 1, 1) := by decide +kernel
theorem dX11_terms_115 : decode cX11_terms 115 = .ok (.invokevirtual 214, 3) := by decide +kernel
theorem dX11_terms_118 : decode cX11_terms 118 = .ok (.invokevirtual 218, 3) := by decide +kernel
theorem dX11_terms_121 : decode cX11_terms 121 = .ok (.aload_n 0, 1) := by decide +kernel
theorem dX11_terms_122 : decode cX11_terms 122 = .ok (.getfield 36, 3) := by decide +kernel
theorem dX11_terms_125 : decode cX11_terms 125 = .ok (.getfield 222, 3) := by decide +kernel
theorem dX11_terms_128 : decode cX11_terms 128 = .ok (.ireturn, 1) := by decide +kernel
theorem dX11_flight_0 : decode cX11_flight 0 = .ok (.iload_n 1, 1) := by decide +kernel
theorem dX11_flight_1 : decode cX11_flight 1 = .ok (.aload_n 0, 1) := by decide +kernel
theorem dX11_flight_2 : decode cX11_flight 2 = .ok (.getfield 12, 3) := by decide +kernel
theorem dX11_flight_5 : decode cX11_flight 5 = .ok (.getfield 97, 3) := by decide +kernel
theorem dX11_flight_8 : decode cX11_flight 8 = .ok (.iconst 1, 1) := by decide +kernel
theorem dX11_flight_9 : decode cX11_flight 9 = .ok (.iadd, 1) := by decide +kernel
theorem dX11_flight_10 : decode cX11_flight 10 = .ok (.sipush 1200, 3) := by decide +kernel
theorem dX11_flight_13 : decode cX11_flight 13 = .ok (.invokestatic 54, 3) := by decide +kernel
theorem dX11_flight_16 : decode cX11_flight 16 = .ok (.ifCond .eq 14, 3) := by decide +kernel
theorem dX11_flight_19 : decode cX11_flight 19 = .ok (.iload_n 2, 1) := by decide +kernel
theorem dX11_flight_20 : decode cX11_flight 20 = .ok (.iconst 1, 1) := by decide +kernel
theorem dX11_flight_21 : decode cX11_flight 21 = .ok (.sipush 9999, 3) := by decide +kernel
theorem dX11_flight_24 : decode cX11_flight 24 = .ok (.invokestatic 54, 3) := by decide +kernel
theorem dX11_flight_27 : decode cX11_flight 27 = .ok (.ifCond .ne 6, 3) := by decide +kernel
theorem dX11_flight_30 : decode cX11_flight 30 = .ok (.ldc 58, 2) := by decide +kernel
theorem dX11_flight_32 : decode cX11_flight 32 = .ok (.ireturn, 1) := by decide +kernel
theorem dX11_flight_33 : decode cX11_flight 33 = .ok (.iload_n 3, 1) := by decide +kernel
theorem dX11_flight_34 : decode cX11_flight 34 = .ok (.invokestatic 112, 3) := by decide +kernel
theorem dX11_flight_37 : decode cX11_flight 37 = .ok (.ifCond .eq 14, 3) := by decide +kernel
theorem dX11_flight_40 : decode cX11_flight 40 = .ok (.iload 4, 2) := by decide +kernel
theorem dX11_flight_42 : decode cX11_flight 42 = .ok (.iconst 0, 1) := by decide +kernel
theorem dX11_flight_43 : decode cX11_flight 43 = .ok (.bipush 9, 2) := by decide +kernel
theorem dX11_flight_45 : decode cX11_flight 45 = .ok (.invokestatic 54, 3) := by decide +kernel
theorem dX11_flight_48 : decode cX11_flight 48 = .ok (.ifCond .ne 6, 3) := by decide +kernel
theorem dX11_flight_51 : decode cX11_flight 51 = .ok (.ldc 58, 2) := by decide +kernel
theorem dX11_flight_53 : decode cX11_flight 53 = .ok (.ireturn, 1) := by decide +kernel
theorem dX11_flight_54 : decode cX11_flight 54 = .ok (.aload_n 0, 1) := by decide +kernel
theorem dX11_flight_55 : decode cX11_flight 55 = .ok (.getfield 12, 3) := by decide +kernel
theorem dX11_flight_58 : decode cX11_flight 58 = .ok (.getfield 225, 3) := by decide +kernel
theorem dX11_flight_61 : decode cX11_flight 61 = .ok (.iload_n 1, 1) := by decide +kernel
theorem dX11_flight_62 : decode cX11_flight 62 = .ok (.iload_n 2, 1) := by decide +kernel
theorem dX11_flight_63 : decode cX11_flight 63 = .ok (.iload_n 3, 1) := by decide +kernel
theorem dX11_flight_64 : decode cX11_flight 64 = .ok (.iload 4, 2) := by decide +kernel
theorem dX11_flight_66 : decode cX11_flight 66 = .ok (.invokevirtual 229, 3) := by decide +kernel
theorem dX11_flight_69 : decode cX11_flight 69 = .ok (.ireturn, 1) := by decide +kernel
theorem dX11_ask_0 : decode cX11_ask 0 = .ok (.aload_n 0, 1) := by decide +kernel
theorem dX11_ask_1 : decode cX11_ask 1 = .ok (.iload_n 1, 1) := by decide +kernel
theorem dX11_ask_2 : decode cX11_ask 2 = .ok (.invokevirtual 69, 3) := by decide +kernel
theorem dX11_ask_5 : decode cX11_ask 5 = .ok (.ifCond .eq 20, 3) := by decide +kernel
theorem dX11_ask_8 : decode cX11_ask 8 = .ok (.aload_n 0, 1) := by decide +kernel
theorem dX11_ask_9 : decode cX11_ask 9 = .ok (.iload_n 2, 1) := by decide +kernel
theorem dX11_ask_10 : decode cX11_ask 10 = .ok (.invokevirtual 235, 3) := by decide +kernel
theorem dX11_ask_13 : decode cX11_ask 13 = .ok (.ifCond .eq 12, 3) := by decide +kernel
theorem dX11_ask_16 : decode cX11_ask 16 = .ok (.iload_n 3, 1) := by decide +kernel
theorem dX11_ask_17 : decode cX11_ask 17 = .ok (.iconst 0, 1) := by decide +kernel
theorem dX11_ask_18 : decode cX11_ask 18 = .ok (.iconst 3, 1) := by decide +kernel
theorem dX11_ask_19 : decode cX11_ask 19 = .ok (.invokestatic 54, 3) := by decide +kernel
theorem dX11_ask_22 : decode cX11_ask 22 = .ok (.ifCond .ne 6, 3) := by decide +kernel
theorem dX11_ask_25 : decode cX11_ask 25 = .ok (.ldc 58, 2) := by decide +kernel
theorem dX11_ask_27 : decode cX11_ask 27 = .ok (.ireturn, 1) := by decide +kernel
theorem dX11_ask_28 : decode cX11_ask 28 = .ok (.aload_n 0, 1) := by decide +kernel
theorem dX11_ask_29 : decode cX11_ask 29 = .ok (.getfield 12, 3) := by decide +kernel
theorem dX11_ask_32 : decode cX11_ask 32 = .ok (.getfield 225, 3) := by decide +kernel
theorem dX11_ask_35 : decode cX11_ask 35 = .ok (.getfield 238, 3) := by decide +kernel
theorem dX11_ask_38 : decode cX11_ask 38 = .ok (.iload_n 2, 1) := by decide +kernel
theorem dX11_ask_39 : decode cX11_ask 39 = .ok (.iaload, 1) := by decide +kernel
theorem dX11_ask_40 : decode cX11_ask 40 = .ok (.aload_n 0, 1) := by decide +kernel
theorem dX11_ask_41 : decode cX11_ask 41 = .ok (.getfield 12, 3) := by decide +kernel
theorem dX11_ask_44 : decode cX11_ask 44 = .ok (.getfield 97, 3) := by decide +kernel
theorem dX11_ask_47 : decode cX11_ask 47 = .ok (.if_icmp .gt 6, 3) := by decide +kernel
theorem dX11_ask_50 : decode cX11_ask 50 = .ok (.ldc 144, 2) := by decide +kernel
theorem dX11_ask_52 : decode cX11_ask 52 = .ok (.ireturn, 1) := by decide +kernel
theorem dX11_ask_53 : decode cX11_ask 53 = .ok (.aload_n 0, 1) := by decide +kernel
theorem dX11_ask_54 : decode cX11_ask 54 = .ok (.getfield 12, 3) := by decide +kernel
theorem dX11_ask_57 : decode cX11_ask 57 = .ok (.getfield 225, 3) := by decide +kernel
theorem dX11_ask_60 : decode cX11_ask 60 = .ok (.iload_n 1, 1) := by decide +kernel
theorem dX11_ask_61 : decode cX11_ask 61 = .ok (.iload_n 2, 1) := by decide +kernel
theorem dX11_ask_62 : decode cX11_ask 62 = .ok (.iload_n 3, 1) := by decide +kernel
theorem dX11_ask_63 : decode cX11_ask 63 = .ok (.invokevirtual 241, 3) := by decide +kernel
theorem dX11_ask_66 : decode cX11_ask 66 = .ok (.ireturn, 1) := by decide +kernel
theorem dX11_settle_0 : decode cX11_settle 0 = .ok (.aload_n 0, 1) := by decide +kernel
theorem dX11_settle_1 : decode cX11_settle 1 = .ok (.iload_n 1, 1) := by decide +kernel
theorem dX11_settle_2 : decode cX11_settle 2 = .ok (.invokevirtual 235, 3) := by decide +kernel
theorem dX11_settle_5 : decode cX11_settle 5 = .ok (.ifCond .ne 6, 3) := by decide +kernel
theorem dX11_settle_8 : decode cX11_settle 8 = .ok (.ldc 58, 2) := by decide +kernel
theorem dX11_settle_10 : decode cX11_settle 10 = .ok (.ireturn, 1) := by decide +kernel
theorem dX11_settle_11 : decode cX11_settle 11 = .ok (.aload_n 0, 1) := by decide +kernel
theorem dX11_settle_12 : decode cX11_settle 12 = .ok (.getfield 12, 3) := by decide +kernel
theorem dX11_settle_15 : decode cX11_settle 15 = .ok (.getfield 225, 3) := by decide +kernel
theorem dX11_settle_18 : decode cX11_settle 18 = .ok (.getfield 238, 3) := by decide +kernel
theorem dX11_settle_21 : decode cX11_settle 21 = .ok (.iload_n 1, 1) := by decide +kernel
theorem dX11_settle_22 : decode cX11_settle 22 = .ok (.iaload, 1) := by decide +kernel
theorem dX11_settle_23 : decode cX11_settle 23 = .ok (.aload_n 0, 1) := by decide +kernel
theorem dX11_settle_24 : decode cX11_settle 24 = .ok (.getfield 12, 3) := by decide +kernel
theorem dX11_settle_27 : decode cX11_settle 27 = .ok (.getfield 97, 3) := by decide +kernel
theorem dX11_settle_30 : decode cX11_settle 30 = .ok (.if_icmp .gt 6, 3) := by decide +kernel
theorem dX11_settle_33 : decode cX11_settle 33 = .ok (.ldc 144, 2) := by decide +kernel
theorem dX11_settle_35 : decode cX11_settle 35 = .ok (.ireturn, 1) := by decide +kernel
theorem dX11_settle_36 : decode cX11_settle 36 = .ok (.aload_n 0, 1) := by decide +kernel
theorem dX11_settle_37 : decode cX11_settle 37 = .ok (.getfield 22, 3) := by decide +kernel
theorem dX11_settle_40 : decode cX11_settle 40 = .ok (.aload_n 0, 1) := by decide +kernel
theorem dX11_settle_41 : decode cX11_settle 41 = .ok (.getfield 12, 3) := by decide +kernel
theorem dX11_settle_44 : decode cX11_settle 44 = .ok (.aload_n 0, 1) := by decide +kernel
theorem dX11_settle_45 : decode cX11_settle 45 = .ok (.getfield 12, 3) := by decide +kernel
theorem dX11_settle_48 : decode cX11_settle 48 = .ok (.getfield 97, 3) := by decide +kernel
theorem dX11_settle_51 : decode cX11_settle 51 = .ok (.aload_n 0, 1) := by decide +kernel
theorem dX11_settle_52 : decode cX11_settle 52 = .ok (.getfield 12, 3) := by decide +kernel
theorem dX11_settle_55 : decode cX11_settle 55 = .ok (.getfield 97, 3) := by decide +kernel
theorem dX11_settle_58 : decode cX11_settle 58 = .ok (.invokevirtual 154, 3) := by decide +kernel
theorem dX11_settle_61 : decode cX11_settle 61 = .ok (.aload_n 0, 1) := by decide +kernel
theorem dX11_settle_62 : decode cX11_settle 62 = .ok (.iload_n 1, 1) := by decide +kernel
theorem dX11_settle_63 : decode cX11_settle 63 = .ok (.invokevirtual 244, 3) := by decide +kernel
theorem dX11_settle_66 : decode cX11_settle 66 = .ok (.iconst 0, 1) := by decide +kernel
theorem dX11_settle_67 : decode cX11_settle 67 = .ok (.istore_n 2, 1) := by decide +kernel
theorem dX11_settle_68 : decode cX11_settle 68 = .ok (.iconst 3, 1) := by decide +kernel
theorem dX11_settle_69 : decode cX11_settle 69 = .ok (.istore_n 3, 1) := by decide +kernel
theorem dX11_settle_70 : decode cX11_settle 70 = .ok (.iload_n 3, 1) := by decide +kernel
theorem dX11_settle_71 : decode cX11_settle 71 = .ok (.ifCond .lt 57, 3) := by decide +kernel
theorem dX11_settle_74 : decode cX11_settle 74 = .ok (.iconst 0, 1) := by decide +kernel
theorem dX11_settle_75 : decode cX11_settle 75 = .ok (.istore 4, 2) := by decide +kernel
theorem dX11_settle_77 : decode cX11_settle 77 = .ok (.iload 4, 2) := by decide +kernel
theorem dX11_settle_79 : decode cX11_settle 79 = .ok (.aload_n 0, 1) := by decide +kernel
theorem dX11_settle_80 : decode cX11_settle 80 = .ok (.getfield 12, 3) := by decide +kernel
theorem dX11_settle_83 : decode cX11_settle 83 = .ok (.getfield 225, 3) := by decide +kernel
theorem dX11_settle_86 : decode cX11_settle 86 = .ok (.getfield 247, 3) := by decide +kernel
theorem dX11_settle_89 : decode cX11_settle 89 = .ok (.if_icmp .ge 33, 3) := by decide +kernel
theorem dX11_settle_92 : decode cX11_settle 92 = .ok (.aload_n 0, 1) := by decide +kernel
theorem dX11_settle_93 : decode cX11_settle 93 = .ok (.getfield 44, 3) := by decide +kernel
theorem dX11_settle_96 : decode cX11_settle 96 = .ok (.iload 4, 2) := by decide +kernel
theorem dX11_settle_98 : decode cX11_settle 98 = .ok (.iaload, 1) := by decide +kernel
theorem dX11_settle_99 : decode cX11_settle 99 = .ok (.iload_n 3, 1) := by decide +kernel
theorem dX11_settle_100 : decode cX11_settle 100 = .ok (.if_icmp .ne 16, 3) := by decide +kernel
theorem dX11_settle_103 : decode cX11_settle 103 = .ok (.aload_n 0, 1) := by decide +kernel
theorem dX11_settle_104 : decode cX11_settle 104 = .ok (.iload 4, 2) := by decide +kernel
theorem dX11_settle_106 : decode cX11_settle 106 = .ok (.iload_n 1, 1) := by decide +kernel
theorem dX11_settle_107 : decode cX11_settle 107 = .ok (.invokevirtual 250, 3) := by decide +kernel
theorem dX11_settle_110 : decode cX11_settle 110 = .ok (.ifCond .eq 6, 3) := by decide +kernel
theorem dX11_settle_113 : decode cX11_settle 113 = .ok (.iinc 2 1, 3) := by decide +kernel
theorem dX11_settle_116 : decode cX11_settle 116 = .ok (.iinc 4 1, 3) := by decide +kernel
theorem dX11_settle_119 : decode cX11_settle 119 = .ok (.goto (-42), 3) := by decide +kernel
theorem dX11_settle_122 : decode cX11_settle 122 = .ok (.iinc 3 (-1), 3) := by decide +kernel
theorem dX11_settle_125 : decode cX11_settle 125 = .ok (.goto (-55), 3) := by decide +kernel
theorem dX11_settle_128 : decode cX11_settle 128 = .ok (.iload_n 2, 1) := by decide +kernel
theorem dX11_settle_129 : decode cX11_settle 129 = .ok (.ireturn, 1) := by decide +kernel
theorem dX11_rankAsks_0 : decode cX11_rankAsks 0 = .ok (.aload_n 0, 1) := by decide +kernel
theorem dX11_rankAsks_1 : decode cX11_rankAsks 1 = .ok (.getfield 12, 3) := by decide +kernel
theorem dX11_rankAsks_4 : decode cX11_rankAsks 4 = .ok (.getfield 225, 3) := by decide +kernel
theorem dX11_rankAsks_7 : decode cX11_rankAsks 7 = .ok (.astore_n 2, 1) := by decide +kernel
theorem dX11_rankAsks_8 : decode cX11_rankAsks 8 = .ok (.iconst 0, 1) := by decide +kernel
theorem dX11_rankAsks_9 : decode cX11_rankAsks 9 = .ok (.istore_n 3, 1) := by decide +kernel
theorem dX11_rankAsks_10 : decode cX11_rankAsks 10 = .ok (.iload_n 3, 1) := by decide +kernel
theorem dX11_rankAsks_11 : decode cX11_rankAsks 11 = .ok (.aload_n 2, 1) := by decide +kernel
theorem dX11_rankAsks_12 : decode cX11_rankAsks 12 = .ok (.getfield 247, 3) := by decide +kernel
theorem dX11_rankAsks_15 : decode cX11_rankAsks 15 = .ok (.if_icmp .ge 76, 3) := by decide +kernel
theorem dX11_rankAsks_18 : decode cX11_rankAsks 18 = .ok (.aload_n 2, 1) := by decide +kernel
theorem dX11_rankAsks_19 : decode cX11_rankAsks 19 = .ok (.getfield 253, 3) := by decide +kernel
theorem dX11_rankAsks_22 : decode cX11_rankAsks 22 = .ok (.iload_n 3, 1) := by decide +kernel
theorem dX11_rankAsks_23 : decode cX11_rankAsks 23 = .ok (.iaload, 1) := by decide +kernel
theorem dX11_rankAsks_24 : decode cX11_rankAsks 24 = .ok (.iload_n 1, 1) := by decide +kernel
theorem dX11_rankAsks_25 : decode cX11_rankAsks 25 = .ok (.if_icmp .ne 18, 3) := by decide +kernel
theorem dX11_rankAsks_28 : decode cX11_rankAsks 28 = .ok (.aload_n 2, 1) := by decide +kernel
theorem dX11_rankAsks_29 : decode cX11_rankAsks 29 = .ok (.getfield 256, 3) := by decide +kernel
theorem dX11_rankAsks_32 : decode cX11_rankAsks 32 = .ok (.iload_n 3, 1) := by decide +kernel
theorem dX11_rankAsks_33 : decode cX11_rankAsks 33 = .ok (.iaload, 1) := by decide +kernel
theorem dX11_rankAsks_34 : decode cX11_rankAsks 34 = .ok (.ldc 77, 2) := by decide +kernel
theorem dX11_rankAsks_36 : decode cX11_rankAsks 36 = .ok (.if_icmp .ne 7, 3) := by decide +kernel
theorem dX11_rankAsks_39 : decode cX11_rankAsks 39 = .ok (.iconst 1, 1) := by decide +kernel
theorem dX11_rankAsks_40 : decode cX11_rankAsks 40 = .ok (.goto 4, 3) := by decide +kernel
theorem dX11_rankAsks_43 : decode cX11_rankAsks 43 = .ok (.iconst 0, 1) := by decide +kernel
theorem dX11_rankAsks_44 : decode cX11_rankAsks 44 = .ok (.istore 4, 2) := by decide +kernel
theorem dX11_rankAsks_46 : decode cX11_rankAsks 46 = .ok (.aload_n 0, 1) := by decide +kernel
theorem dX11_rankAsks_47 : decode cX11_rankAsks 47 = .ok (.getfield 44, 3) := by decide +kernel
theorem dX11_rankAsks_50 : decode cX11_rankAsks 50 = .ok (.iload_n 3, 1) := by decide +kernel
theorem dX11_rankAsks_51 : decode cX11_rankAsks 51 = .ok (.iload 4, 2) := by decide +kernel
theorem dX11_rankAsks_53 : decode cX11_rankAsks 53 = .ok (.ifCond .eq 30, 3) := by decide +kernel
theorem dX11_rankAsks_56 : decode cX11_rankAsks 56 = .ok (.aload_n 0, 1) := by decide +kernel
theorem dX11_rankAsks_57 : decode cX11_rankAsks 57 = .ok (.getfield 22, 3) := by decide +kernel
theorem dX11_rankAsks_60 : decode cX11_rankAsks 60 = .ok (.aload_n 0, 1) := by decide +kernel
theorem dX11_rankAsks_61 : decode cX11_rankAsks 61 = .ok (.getfield 12, 3) := by decide +kernel
theorem dX11_rankAsks_64 : decode cX11_rankAsks 64 = .ok (.aload_n 2, 1) := by decide +kernel
theorem dX11_rankAsks_65 : decode cX11_rankAsks 65 = .ok (.getfield 259, 3) := by decide +kernel
theorem dX11_rankAsks_68 : decode cX11_rankAsks 68 = .ok (.iload_n 3, 1) := by decide +kernel
theorem dX11_rankAsks_69 : decode cX11_rankAsks 69 = .ok (.iaload, 1) := by decide +kernel
theorem dX11_rankAsks_70 : decode cX11_rankAsks 70 = .ok (.aload_n 0, 1) := by decide +kernel
theorem dX11_rankAsks_71 : decode cX11_rankAsks 71 = .ok (.getfield 12, 3) := by decide +kernel
theorem dX11_rankAsks_74 : decode cX11_rankAsks 74 = .ok (.getfield 97, 3) := by decide +kernel
theorem dX11_rankAsks_77 : decode cX11_rankAsks 77 = .ok (.invokevirtual 165, 3) := by decide +kernel
theorem dX11_rankAsks_80 : decode cX11_rankAsks 80 = .ok (.goto 4, 3) := by decide +kernel
theorem dX11_rankAsks_83 : decode cX11_rankAsks 83 = .ok (.iconst (-1), 1) := by decide +kernel
theorem dX11_rankAsks_84 : decode cX11_rankAsks 84 = .ok (.iastore, 1) := by decide +kernel
theorem dX11_rankAsks_85 : decode cX11_rankAsks 85 = .ok (.iinc 3 1, 3) := by decide +kernel
theorem dX11_rankAsks_88 : decode cX11_rankAsks 88 = .ok (.goto (-78), 3) := by decide +kernel
theorem dX11_rankAsks_91 : decode cX11_rankAsks 91 = .ok (.return_, 1) := by decide +kernel
theorem dX11_hasSeatNow_0 : decode cX11_hasSeatNow 0 = .ok (.aload_n 0, 1) := by decide +kernel
theorem dX11_hasSeatNow_1 : decode cX11_hasSeatNow 1 = .ok (.getfield 12, 3) := by decide +kernel
theorem dX11_hasSeatNow_4 : decode cX11_hasSeatNow 4 = .ok (.getfield 225, 3) := by decide +kernel
theorem dX11_hasSeatNow_7 : decode cX11_hasSeatNow 7 = .ok (.getfield 262, 3) := by decide +kernel
theorem dX11_hasSeatNow_10 : decode cX11_hasSeatNow 10 = .ok (.iload_n 2, 1) := by decide +kernel
theorem dX11_hasSeatNow_11 : decode cX11_hasSeatNow 11 = .ok (.iaload, 1) := by decide +kernel
theorem dX11_hasSeatNow_12 : decode cX11_hasSeatNow 12 = .ok (.ifCond .le 18, 3) := by decide +kernel
theorem dX11_hasSeatNow_15 : decode cX11_hasSeatNow 15 = .ok (.aload_n 0, 1) := by decide +kernel
theorem dX11_hasSeatNow_16 : decode cX11_hasSeatNow 16 = .ok (.getfield 12, 3) := by decide +kernel
theorem dX11_hasSeatNow_19 : decode cX11_hasSeatNow 19 = .ok (.getfield 123, 3) := by decide +kernel
theorem dX11_hasSeatNow_22 : decode cX11_hasSeatNow 22 = .ok (.getfield 265, 3) := by decide +kernel
theorem dX11_hasSeatNow_25 : decode cX11_hasSeatNow 25 = .ok (.bipush 100, 2) := by decide +kernel
theorem dX11_hasSeatNow_27 : decode cX11_hasSeatNow 27 = .ok (.if_icmp .lt 5, 3) := by decide +kernel
theorem dX11_hasSeatNow_30 : decode cX11_hasSeatNow 30 = .ok (.iconst 0, 1) := by decide +kernel
theorem dX11_hasSeatNow_31 : decode cX11_hasSeatNow 31 = .ok (.ireturn, 1) := by decide +kernel
theorem dX11_hasSeatNow_32 : decode cX11_hasSeatNow 32 = .ok (.aload_n 0, 1) := by decide +kernel
theorem dX11_hasSeatNow_33 : decode cX11_hasSeatNow 33 = .ok (.getfield 22, 3) := by decide +kernel
theorem dX11_hasSeatNow_36 : decode cX11_hasSeatNow 36 = .ok (.aload_n 0, 1) := by decide +kernel
theorem dX11_hasSeatNow_37 : decode cX11_hasSeatNow 37 = .ok (.getfield 12, 3) := by decide +kernel
theorem dX11_hasSeatNow_40 : decode cX11_hasSeatNow 40 = .ok (.iload_n 1, 1) := by decide +kernel
theorem dX11_hasSeatNow_41 : decode cX11_hasSeatNow 41 = .ok (.aload_n 0, 1) := by decide +kernel
theorem dX11_hasSeatNow_42 : decode cX11_hasSeatNow 42 = .ok (.getfield 44, 3) := by decide +kernel
theorem dX11_hasSeatNow_45 : decode cX11_hasSeatNow 45 = .ok (.iload_n 1, 1) := by decide +kernel
theorem dX11_hasSeatNow_46 : decode cX11_hasSeatNow 46 = .ok (.iaload, 1) := by decide +kernel
theorem dX11_hasSeatNow_47 : decode cX11_hasSeatNow 47 = .ok (.invokevirtual 266, 3) := by decide +kernel
theorem dX11_hasSeatNow_50 : decode cX11_hasSeatNow 50 = .ok (.istore_n 3, 1) := by decide +kernel
theorem dX11_hasSeatNow_51 : decode cX11_hasSeatNow 51 = .ok (.iload_n 3, 1) := by decide +kernel
theorem dX11_hasSeatNow_52 : decode cX11_hasSeatNow 52 = .ok (.ifCond .le 37, 3) := by decide +kernel
theorem dX11_hasSeatNow_55 : decode cX11_hasSeatNow 55 = .ok (.aload_n 0, 1) := by decide +kernel
theorem dX11_hasSeatNow_56 : decode cX11_hasSeatNow 56 = .ok (.aload_n 0, 1) := by decide +kernel
theorem dX11_hasSeatNow_57 : decode cX11_hasSeatNow 57 = .ok (.getfield 12, 3) := by decide +kernel
theorem dX11_hasSeatNow_60 : decode cX11_hasSeatNow 60 = .ok (.getfield 225, 3) := by decide +kernel
theorem dX11_hasSeatNow_63 : decode cX11_hasSeatNow 63 = .ok (.getfield 259, 3) := by decide +kernel
theorem dX11_hasSeatNow_66 : decode cX11_hasSeatNow 66 = .ok (.iload_n 1, 1) := by decide +kernel
theorem dX11_hasSeatNow_67 : decode cX11_hasSeatNow 67 = .ok (.iaload, 1) := by decide +kernel
theorem dX11_hasSeatNow_68 : decode cX11_hasSeatNow 68 = .ok (.iload_n 3, 1) := by decide +kernel
theorem dX11_hasSeatNow_69 : decode cX11_hasSeatNow 69 = .ok (.aload_n 0, 1) := by decide +kernel
theorem dX11_hasSeatNow_70 : decode cX11_hasSeatNow 70 = .ok (.getfield 12, 3) := by decide +kernel
theorem dX11_hasSeatNow_73 : decode cX11_hasSeatNow 73 = .ok (.getfield 225, 3) := by decide +kernel
theorem dX11_hasSeatNow_76 : decode cX11_hasSeatNow 76 = .ok (.getfield 269, 3) := by decide +kernel
theorem dX11_hasSeatNow_79 : decode cX11_hasSeatNow 79 = .ok (.iload_n 2, 1) := by decide +kernel
theorem dX11_hasSeatNow_80 : decode cX11_hasSeatNow 80 = .ok (.iaload, 1) := by decide +kernel
theorem dX11_hasSeatNow_81 : decode cX11_hasSeatNow 81 = .ok (.invokevirtual 272, 3) := by decide +kernel
theorem dX11_hasSeatNow_84 : decode cX11_hasSeatNow 84 = .ok (.ifCond .ne 5, 3) := by decide +kernel
theorem dX11_hasSeatNow_87 : decode cX11_hasSeatNow 87 = .ok (.iconst 0, 1) := by decide +kernel
theorem dX11_hasSeatNow_88 : decode cX11_hasSeatNow 88 = .ok (.ireturn, 1) := by decide +kernel
theorem dX11_hasSeatNow_89 : decode cX11_hasSeatNow 89 = .ok (.aload_n 0, 1) := by decide +kernel
theorem dX11_hasSeatNow_90 : decode cX11_hasSeatNow 90 = .ok (.getfield 12, 3) := by decide +kernel
theorem dX11_hasSeatNow_93 : decode cX11_hasSeatNow 93 = .ok (.getfield 225, 3) := by decide +kernel
theorem dX11_hasSeatNow_96 : decode cX11_hasSeatNow 96 = .ok (.getfield 262, 3) := by decide +kernel
theorem dX11_hasSeatNow_99 : decode cX11_hasSeatNow 99 = .ok (.iload_n 2, 1) := by decide +kernel
theorem dX11_hasSeatNow_100 : decode cX11_hasSeatNow 100 = .ok (.dup2, 1) := by decide +kernel
theorem dX11_hasSeatNow_101 : decode cX11_hasSeatNow 101 = .ok (.iaload, 1) := by decide +kernel
theorem dX11_hasSeatNow_102 : decode cX11_hasSeatNow 102 = .ok (.iconst 1, 1) := by decide +kernel
theorem dX11_hasSeatNow_103 : decode cX11_hasSeatNow 103 = .ok (.isub, 1) := by decide +kernel
theorem dX11_hasSeatNow_104 : decode cX11_hasSeatNow 104 = .ok (.iastore, 1) := by decide +kernel
theorem dX11_hasSeatNow_105 : decode cX11_hasSeatNow 105 = .ok (.aload_n 0, 1) := by decide +kernel
theorem dX11_hasSeatNow_106 : decode cX11_hasSeatNow 106 = .ok (.getfield 12, 3) := by decide +kernel
theorem dX11_hasSeatNow_109 : decode cX11_hasSeatNow 109 = .ok (.getfield 225, 3) := by decide +kernel
theorem dX11_hasSeatNow_112 : decode cX11_hasSeatNow 112 = .ok (.getfield 256, 3) := by decide +kernel
theorem dX11_hasSeatNow_115 : decode cX11_hasSeatNow 115 = .ok (.iload_n 1, 1) := by decide +kernel
theorem dX11_hasSeatNow_116 : decode cX11_hasSeatNow 116 = .ok (.iload_n 3, 1) := by decide +kernel
theorem dX11_hasSeatNow_117 : decode cX11_hasSeatNow 117 = .ok (.iastore, 1) := by decide +kernel
theorem dX11_hasSeatNow_118 : decode cX11_hasSeatNow 118 = .ok (.iconst 1, 1) := by decide +kernel
theorem dX11_hasSeatNow_119 : decode cX11_hasSeatNow 119 = .ok (.ireturn, 1) := by decide +kernel
theorem dX11_isPaid_0 : decode cX11_isPaid 0 = .ok (.aload_n 0, 1) := by decide +kernel
theorem dX11_isPaid_1 : decode cX11_isPaid 1 = .ok (.getfield 22, 3) := by decide +kernel
theorem dX11_isPaid_4 : decode cX11_isPaid 4 = .ok (.aload_n 0, 1) := by decide +kernel
theorem dX11_isPaid_5 : decode cX11_isPaid 5 = .ok (.getfield 12, 3) := by decide +kernel
theorem dX11_isPaid_8 : decode cX11_isPaid 8 = .ok (.getfield 59, 3) := by decide +kernel
theorem dX11_isPaid_11 : decode cX11_isPaid 11 = .ok (.iload_n 1, 1) := by decide +kernel
theorem dX11_isPaid_12 : decode cX11_isPaid 12 = .ok (.iconst 1, 1) := by decide +kernel
theorem dX11_isPaid_13 : decode cX11_isPaid 13 = .ok (.aload_n 0, 1) := by decide +kernel
theorem dX11_isPaid_14 : decode cX11_isPaid 14 = .ok (.getfield 12, 3) := by decide +kernel
theorem dX11_isPaid_17 : decode cX11_isPaid 17 = .ok (.getfield 97, 3) := by decide +kernel
theorem dX11_isPaid_20 : decode cX11_isPaid 20 = .ok (.invokevirtual 275, 3) := by decide +kernel
theorem dX11_isPaid_23 : decode cX11_isPaid 23 = .ok (.iload_n 2, 1) := by decide +kernel
theorem dX11_isPaid_24 : decode cX11_isPaid 24 = .ok (.if_icmp .ge 5, 3) := by decide +kernel
theorem dX11_isPaid_27 : decode cX11_isPaid 27 = .ok (.iconst 0, 1) := by decide +kernel
theorem dX11_isPaid_28 : decode cX11_isPaid 28 = .ok (.ireturn, 1) := by decide +kernel
theorem dX11_isPaid_29 : decode cX11_isPaid 29 = .ok (.aload_n 0, 1) := by decide +kernel
theorem dX11_isPaid_30 : decode cX11_isPaid 30 = .ok (.getfield 22, 3) := by decide +kernel
theorem dX11_isPaid_33 : decode cX11_isPaid 33 = .ok (.aload_n 0, 1) := by decide +kernel
theorem dX11_isPaid_34 : decode cX11_isPaid 34 = .ok (.getfield 12, 3) := by decide +kernel
theorem dX11_isPaid_37 : decode cX11_isPaid 37 = .ok (.getfield 59, 3) := by decide +kernel
theorem dX11_isPaid_40 : decode cX11_isPaid 40 = .ok (.iload_n 1, 1) := by decide +kernel
theorem dX11_isPaid_41 : decode cX11_isPaid 41 = .ok (.iconst 1, 1) := by decide +kernel
theorem dX11_isPaid_42 : decode cX11_isPaid 42 = .ok (.aload_n 0, 1) := by decide +kernel
theorem dX11_isPaid_43 : decode cX11_isPaid 43 = .ok (.getfield 12, 3) := by decide +kernel
theorem dX11_isPaid_46 : decode cX11_isPaid 46 = .ok (.getfield 97, 3) := by decide +kernel
theorem dX11_isPaid_49 : decode cX11_isPaid 49 = .ok (.iload_n 2, 1) := by decide +kernel
theorem dX11_isPaid_50 : decode cX11_isPaid 50 = .ok (.invokevirtual 279, 3) := by decide +kernel
theorem dX11_isPaid_53 : decode cX11_isPaid 53 = .ok (.pop, 1) := by decide +kernel
theorem dX11_isPaid_54 : decode cX11_isPaid 54 = .ok (.aload_n 0, 1) := by decide +kernel
theorem dX11_isPaid_55 : decode cX11_isPaid 55 = .ok (.getfield 12, 3) := by decide +kernel
theorem dX11_isPaid_58 : decode cX11_isPaid 58 = .ok (.iconst 1, 1) := by decide +kernel
theorem dX11_isPaid_59 : decode cX11_isPaid 59 = .ok (.iload_n 1, 1) := by decide +kernel
theorem dX11_isPaid_60 : decode cX11_isPaid 60 = .ok (.aload_n 0, 1) := by decide +kernel
theorem dX11_isPaid_61 : decode cX11_isPaid 61 = .ok (.getfield 12, 3) := by decide +kernel
theorem dX11_isPaid_64 : decode cX11_isPaid 64 = .ok (.getfield 97, 3) := by decide +kernel
theorem dX11_isPaid_67 : decode cX11_isPaid 67 = .ok (.iload_n 2, 1) := by decide +kernel
theorem dX11_isPaid_68 : decode cX11_isPaid 68 = .ok (.iload_n 3, 1) := by decide +kernel
theorem dX11_isPaid_69 : decode cX11_isPaid 69 = .ok (.iconst 0, 1) := by decide +kernel
theorem dX11_isPaid_70 : decode cX11_isPaid 70 = .ok (.invokevirtual 115, 3) := by decide +kernel
theorem dX11_isPaid_73 : decode cX11_isPaid 73 = .ok (.pop, 1) := by decide +kernel
theorem dX11_isPaid_74 : decode cX11_isPaid 74 = .ok (.iconst 1, 1) := by decide +kernel
theorem dX11_isPaid_75 : decode cX11_isPaid 75 = .ok (.ireturn, 1) := by decide +kernel
theorem dX11_asked_0 : decode cX11_asked 0 = .ok (.aload_n 0, 1) := by decide +kernel
theorem dX11_asked_1 : decode cX11_asked 1 = .ok (.getfield 12, 3) := by decide +kernel
theorem dX11_asked_4 : decode cX11_asked 4 = .ok (.getfield 225, 3) := by decide +kernel
theorem dX11_asked_7 : decode cX11_asked 7 = .ok (.astore_n 3, 1) := by decide +kernel
theorem dX11_asked_8 : decode cX11_asked 8 = .ok (.iload_n 1, 1) := by decide +kernel
theorem dX11_asked_9 : decode cX11_asked 9 = .ok (.iconst 0, 1) := by decide +kernel
theorem dX11_asked_10 : decode cX11_asked 10 = .ok (.aload_n 3, 1) := by decide +kernel
theorem dX11_asked_11 : decode cX11_asked 11 = .ok (.getfield 247, 3) := by decide +kernel
theorem dX11_asked_14 : decode cX11_asked 14 = .ok (.iconst 1, 1) := by decide +kernel
theorem dX11_asked_15 : decode cX11_asked 15 = .ok (.isub, 1) := by decide +kernel
theorem dX11_asked_16 : decode cX11_asked 16 = .ok (.invokestatic 54, 3) := by decide +kernel
theorem dX11_asked_19 : decode cX11_asked 19 = .ok (.ifCond .ne 6, 3) := by decide +kernel
theorem dX11_asked_22 : decode cX11_asked 22 = .ok (.ldc 58, 2) := by decide +kernel
theorem dX11_asked_24 : decode cX11_asked 24 = .ok (.ireturn, 1) := by decide +kernel
theorem dX11_asked_25 : decode cX11_asked 25 = .ok (.iload_n 2, 1) := by decide +kernel
theorem dX11_asked_26 : decode cX11_asked 26 = .ok (.tableswitch 79 0 4 #[34, 41, 48, 55, 72], 34) := by decide +kernel
theorem dX11_asked_60 : decode cX11_asked 60 = .ok (.aload_n 3, 1) := by decide +kernel
theorem dX11_asked_61 : decode cX11_asked 61 = .ok (.getfield 259, 3) := by decide +kernel
theorem dX11_asked_64 : decode cX11_asked 64 = .ok (.iload_n 1, 1) := by decide +kernel
theorem dX11_asked_65 : decode cX11_asked 65 = .ok (.iaload, 1) := by decide +kernel
theorem dX11_asked_66 : decode cX11_asked 66 = .ok (.ireturn, 1) := by decide +kernel
theorem dX11_asked_67 : decode cX11_asked 67 = .ok (.aload_n 3, 1) := by decide +kernel
theorem dX11_asked_68 : decode cX11_asked 68 = .ok (.getfield 253, 3) := by decide +kernel
theorem dX11_asked_71 : decode cX11_asked 71 = .ok (.iload_n 1, 1) := by decide +kernel
theorem dX11_asked_72 : decode cX11_asked 72 = .ok (.iaload, 1) := by decide +kernel
theorem dX11_asked_73 : decode cX11_asked 73 = .ok (.ireturn, 1) := by decide +kernel
theorem dX11_asked_74 : decode cX11_asked 74 = .ok (.aload_n 3, 1) := by decide +kernel
theorem dX11_asked_75 : decode cX11_asked 75 = .ok (.getfield 283, 3) := by decide +kernel
theorem dX11_asked_78 : decode cX11_asked 78 = .ok (.iload_n 1, 1) := by decide +kernel
theorem dX11_asked_79 : decode cX11_asked 79 = .ok (.iaload, 1) := by decide +kernel
theorem dX11_asked_80 : decode cX11_asked 80 = .ok (.ireturn, 1) := by decide +kernel
theorem dX11_asked_81 : decode cX11_asked 81 = .ok (.aload_n 3, 1) := by decide +kernel
theorem dX11_asked_82 : decode cX11_asked 82 = .ok (.getfield 256, 3) := by decide +kernel
theorem dX11_asked_85 : decode cX11_asked 85 = .ok (.iload_n 1, 1) := by decide +kernel
theorem dX11_asked_86 : decode cX11_asked 86 = .ok (.iaload, 1) := by decide +kernel
theorem dX11_asked_87 : decode cX11_asked 87 = .ok (.ldc 77, 2) := by decide +kernel
theorem dX11_asked_89 : decode cX11_asked 89 = .ok (.if_icmp .ne 7, 3) := by decide +kernel
theorem dX11_asked_92 : decode cX11_asked 92 = .ok (.iconst 0, 1) := by decide +kernel
theorem dX11_asked_93 : decode cX11_asked 93 = .ok (.goto 4, 3) := by decide +kernel
theorem dX11_asked_96 : decode cX11_asked 96 = .ok (.iconst 1, 1) := by decide +kernel
theorem dX11_asked_97 : decode cX11_asked 97 = .ok (.ireturn, 1) := by decide +kernel
theorem dX11_asked_98 : decode cX11_asked 98 = .ok (.aload_n 3, 1) := by decide +kernel
theorem dX11_asked_99 : decode cX11_asked 99 = .ok (.getfield 256, 3) := by decide +kernel
theorem dX11_asked_102 : decode cX11_asked 102 = .ok (.iload_n 1, 1) := by decide +kernel
theorem dX11_asked_103 : decode cX11_asked 103 = .ok (.iaload, 1) := by decide +kernel
theorem dX11_asked_104 : decode cX11_asked 104 = .ok (.ireturn, 1) := by decide +kernel
theorem dX11_asked_105 : decode cX11_asked 105 = .ok (.ldc 58, 2) := by decide +kernel
theorem dX11_asked_107 : decode cX11_asked 107 = .ok (.ireturn, 1) := by decide +kernel
theorem dX11_open_0 : decode cX11_open 0 = .ok (.aload_n 0, 1) := by decide +kernel
theorem dX11_open_1 : decode cX11_open 1 = .ok (.iload_n 1, 1) := by decide +kernel
theorem dX11_open_2 : decode cX11_open 2 = .ok (.invokevirtual 235, 3) := by decide +kernel
theorem dX11_open_5 : decode cX11_open 5 = .ok (.ifCond .eq 18, 3) := by decide +kernel
theorem dX11_open_8 : decode cX11_open 8 = .ok (.aload_n 0, 1) := by decide +kernel
theorem dX11_open_9 : decode cX11_open 9 = .ok (.getfield 12, 3) := by decide +kernel
theorem dX11_open_12 : decode cX11_open 12 = .ok (.getfield 225, 3) := by decide +kernel
theorem dX11_open_15 : decode cX11_open 15 = .ok (.getfield 262, 3) := by decide +kernel
theorem dX11_open_18 : decode cX11_open 18 = .ok (.iload_n 1, 1) := by decide +kernel
theorem dX11_open_19 : decode cX11_open 19 = .ok (.iaload, 1) := by decide +kernel
theorem dX11_open_20 : decode cX11_open 20 = .ok (.goto 5, 3) := by decide +kernel
theorem dX11_open_23 : decode cX11_open 23 = .ok (.ldc 58, 2) := by decide +kernel
theorem dX11_open_25 : decode cX11_open 25 = .ok (.ireturn, 1) := by decide +kernel
theorem dX11_offer_0 : decode cX11_offer 0 = .ok (.iload_n 1, 1) := by decide +kernel
theorem dX11_offer_1 : decode cX11_offer 1 = .ok (.iconst 1, 1) := by decide +kernel
theorem dX11_offer_2 : decode cX11_offer 2 = .ok (.sipush 9999, 3) := by decide +kernel
theorem dX11_offer_5 : decode cX11_offer 5 = .ok (.invokestatic 54, 3) := by decide +kernel
theorem dX11_offer_8 : decode cX11_offer 8 = .ok (.ifCond .eq 24, 3) := by decide +kernel
theorem dX11_offer_11 : decode cX11_offer 11 = .ok (.iload_n 2, 1) := by decide +kernel
theorem dX11_offer_12 : decode cX11_offer 12 = .ok (.iconst 1, 1) := by decide +kernel
theorem dX11_offer_13 : decode cX11_offer 13 = .ok (.sipush 999, 3) := by decide +kernel
theorem dX11_offer_16 : decode cX11_offer 16 = .ok (.invokestatic 54, 3) := by decide +kernel
theorem dX11_offer_19 : decode cX11_offer 19 = .ok (.ifCond .eq 13, 3) := by decide +kernel
theorem dX11_offer_22 : decode cX11_offer 22 = .ok (.iload_n 3, 1) := by decide +kernel
theorem dX11_offer_23 : decode cX11_offer 23 = .ok (.iconst 1, 1) := by decide +kernel
theorem dX11_offer_24 : decode cX11_offer 24 = .ok (.bipush 9, 2) := by decide +kernel
theorem dX11_offer_26 : decode cX11_offer 26 = .ok (.invokestatic 54, 3) := by decide +kernel
theorem dX11_offer_29 : decode cX11_offer 29 = .ok (.ifCond .ne 6, 3) := by decide +kernel
theorem dX11_offer_32 : decode cX11_offer 32 = .ok (.ldc 58, 2) := by decide +kernel
theorem dX11_offer_34 : decode cX11_offer 34 = .ok (.ireturn, 1) := by decide +kernel
theorem dX11_offer_35 : decode cX11_offer 35 = .ok (.aload_n 0, 1) := by decide +kernel
theorem dX11_offer_36 : decode cX11_offer 36 = .ok (.getfield 29, 3) := by decide +kernel
theorem dX11_offer_39 : decode cX11_offer 39 = .ok (.invokevirtual 286, 3) := by decide +kernel
theorem dX11_offer_42 : decode cX11_offer 42 = .ok (.aload_n 0, 1) := by decide +kernel
theorem dX11_offer_43 : decode cX11_offer 43 = .ok (.getfield 12, 3) := by decide +kernel
theorem dX11_offer_46 : decode cX11_offer 46 = .ok (.getfield 289, 3) := by decide +kernel
theorem dX11_offer_49 : decode cX11_offer 49 = .ok (.iload_n 1, 1) := by decide +kernel
theorem dX11_offer_50 : decode cX11_offer 50 = .ok (.iload_n 2, 1) := by decide +kernel
theorem dX11_offer_51 : decode cX11_offer 51 = .ok (.iload_n 3, 1) := by decide +kernel
theorem dX11_offer_52 : decode cX11_offer 52 = .ok (.invokevirtual 293, 3) := by decide +kernel
theorem dX11_offer_55 : decode cX11_offer 55 = .ok (.ireturn, 1) := by decide +kernel
theorem dX11_clear_0 : decode cX11_clear 0 = .ok (.aload_n 0, 1) := by decide +kernel
theorem dX11_clear_1 : decode cX11_clear 1 = .ok (.getfield 12, 3) := by decide +kernel
theorem dX11_clear_4 : decode cX11_clear 4 = .ok (.getfield 289, 3) := by decide +kernel
theorem dX11_clear_7 : decode cX11_clear 7 = .ok (.getfield 297, 3) := by decide +kernel
theorem dX11_clear_10 : decode cX11_clear 10 = .ok (.istore_n 1, 1) := by decide +kernel
theorem dX11_clear_11 : decode cX11_clear 11 = .ok (.aload_n 0, 1) := by decide +kernel
theorem dX11_clear_12 : decode cX11_clear 12 = .ok (.getfield 12, 3) := by decide +kernel
theorem dX11_clear_15 : decode cX11_clear 15 = .ok (.getfield 289, 3) := by decide +kernel
theorem dX11_clear_18 : decode cX11_clear 18 = .ok (.iconst 0, 1) := by decide +kernel
theorem dX11_clear_19 : decode cX11_clear 19 = .ok (.putfield 297, 3) := by decide +kernel
theorem dX11_clear_22 : decode cX11_clear 22 = .ok (.aload_n 0, 1) := by decide +kernel
theorem dX11_clear_23 : decode cX11_clear 23 = .ok (.getfield 29, 3) := by decide +kernel
theorem dX11_clear_26 : decode cX11_clear 26 = .ok (.invokevirtual 286, 3) := by decide +kernel
theorem dX11_clear_29 : decode cX11_clear 29 = .ok (.iload_n 1, 1) := by decide +kernel
theorem dX11_clear_30 : decode cX11_clear 30 = .ok (.ireturn, 1) := by decide +kernel
theorem dX11_way_0 : decode cX11_way 0 = .ok (.iload_n 1, 1) := by decide +kernel
theorem dX11_way_1 : decode cX11_way 1 = .ok (.iconst 0, 1) := by decide +kernel
theorem dX11_way_2 : decode cX11_way 2 = .ok (.sipush 3000, 3) := by decide +kernel
theorem dX11_way_5 : decode cX11_way 5 = .ok (.invokestatic 54, 3) := by decide +kernel
theorem dX11_way_8 : decode cX11_way 8 = .ok (.ifCond .ne 6, 3) := by decide +kernel
theorem dX11_way_11 : decode cX11_way 11 = .ok (.ldc 58, 2) := by decide +kernel
theorem dX11_way_13 : decode cX11_way 13 = .ok (.ireturn, 1) := by decide +kernel
theorem dX11_way_14 : decode cX11_way 14 = .ok (.aload_n 0, 1) := by decide +kernel
theorem dX11_way_15 : decode cX11_way 15 = .ok (.getfield 29, 3) := by decide +kernel
theorem dX11_way_18 : decode cX11_way 18 = .ok (.aload_n 0, 1) := by decide +kernel
theorem dX11_way_19 : decode cX11_way 19 = .ok (.getfield 12, 3) := by decide +kernel
theorem dX11_way_22 : decode cX11_way 22 = .ok (.getfield 289, 3) := by decide +kernel
theorem dX11_way_25 : decode cX11_way 25 = .ok (.iload_n 1, 1) := by decide +kernel
theorem dX11_way_26 : decode cX11_way 26 = .ok (.invokevirtual 298, 3) := by decide +kernel
theorem dX11_way_29 : decode cX11_way 29 = .ok (.ifCond .eq 14, 3) := by decide +kernel
theorem dX11_way_32 : decode cX11_way 32 = .ok (.aload_n 0, 1) := by decide +kernel
theorem dX11_way_33 : decode cX11_way 33 = .ok (.getfield 29, 3) := by decide +kernel
theorem dX11_way_36 : decode cX11_way 36 = .ok (.iload_n 1, 1) := by decide +kernel
theorem dX11_way_37 : decode cX11_way 37 = .ok (.invokevirtual 302, 3) := by decide +kernel
theorem dX11_way_40 : decode cX11_way 40 = .ok (.goto 5, 3) := by decide +kernel
theorem dX11_way_43 : decode cX11_way 43 = .ok (.ldc 144, 2) := by decide +kernel
theorem dX11_way_45 : decode cX11_way 45 = .ok (.ireturn, 1) := by decide +kernel
theorem dX11_taken_0 : decode cX11_taken 0 = .ok (.iload_n 1, 1) := by decide +kernel
theorem dX11_taken_1 : decode cX11_taken 1 = .ok (.iconst 0, 1) := by decide +kernel
theorem dX11_taken_2 : decode cX11_taken 2 = .ok (.sipush 3000, 3) := by decide +kernel
theorem dX11_taken_5 : decode cX11_taken 5 = .ok (.invokestatic 54, 3) := by decide +kernel
theorem dX11_taken_8 : decode cX11_taken 8 = .ok (.ifCond .eq 23, 3) := by decide +kernel
theorem dX11_taken_11 : decode cX11_taken 11 = .ok (.iload_n 2, 1) := by decide +kernel
theorem dX11_taken_12 : decode cX11_taken 12 = .ok (.iconst 0, 1) := by decide +kernel
theorem dX11_taken_13 : decode cX11_taken 13 = .ok (.aload_n 0, 1) := by decide +kernel
theorem dX11_taken_14 : decode cX11_taken 14 = .ok (.getfield 12, 3) := by decide +kernel
theorem dX11_taken_17 : decode cX11_taken 17 = .ok (.getfield 289, 3) := by decide +kernel
theorem dX11_taken_20 : decode cX11_taken 20 = .ok (.getfield 297, 3) := by decide +kernel
theorem dX11_taken_23 : decode cX11_taken 23 = .ok (.iconst 1, 1) := by decide +kernel
theorem dX11_taken_24 : decode cX11_taken 24 = .ok (.isub, 1) := by decide +kernel
theorem dX11_taken_25 : decode cX11_taken 25 = .ok (.invokestatic 54, 3) := by decide +kernel
theorem dX11_taken_28 : decode cX11_taken 28 = .ok (.ifCond .ne 6, 3) := by decide +kernel
theorem dX11_taken_31 : decode cX11_taken 31 = .ok (.ldc 58, 2) := by decide +kernel
theorem dX11_taken_33 : decode cX11_taken 33 = .ok (.ireturn, 1) := by decide +kernel
theorem dX11_taken_34 : decode cX11_taken 34 = .ok (.aload_n 0, 1) := by decide +kernel
theorem dX11_taken_35 : decode cX11_taken 35 = .ok (.getfield 29, 3) := by decide +kernel
theorem dX11_taken_38 : decode cX11_taken 38 = .ok (.aload_n 0, 1) := by decide +kernel
theorem dX11_taken_39 : decode cX11_taken 39 = .ok (.getfield 12, 3) := by decide +kernel
theorem dX11_taken_42 : decode cX11_taken 42 = .ok (.getfield 289, 3) := by decide +kernel
theorem dX11_taken_45 : decode cX11_taken 45 = .ok (.iload_n 1, 1) := by decide +kernel
theorem dX11_taken_46 : decode cX11_taken 46 = .ok (.invokevirtual 298, 3) := by decide +kernel
theorem dX11_taken_49 : decode cX11_taken 49 = .ok (.ifCond .eq 15, 3) := by decide +kernel
theorem dX11_taken_52 : decode cX11_taken 52 = .ok (.aload_n 0, 1) := by decide +kernel
theorem dX11_taken_53 : decode cX11_taken 53 = .ok (.getfield 29, 3) := by decide +kernel
theorem dX11_taken_56 : decode cX11_taken 56 = .ok (.iload_n 1, 1) := by decide +kernel
theorem dX11_taken_57 : decode cX11_taken 57 = .ok (.iload_n 2, 1) := by decide +kernel
theorem dX11_taken_58 : decode cX11_taken 58 = .ok (.invokevirtual 306, 3) := by decide +kernel
theorem dX11_taken_61 : decode cX11_taken 61 = .ok (.goto 5, 3) := by decide +kernel
theorem dX11_taken_64 : decode cX11_taken 64 = .ok (.ldc 144, 2) := by decide +kernel
theorem dX11_taken_66 : decode cX11_taken 66 = .ok (.ireturn, 1) := by decide +kernel
theorem dX11_tell_0 : decode cX11_tell 0 = .ok (.aload_n 0, 1) := by decide +kernel
theorem dX11_tell_1 : decode cX11_tell 1 = .ok (.getfield 309, 3) := by decide +kernel
theorem dX11_tell_4 : decode cX11_tell 4 = .ok (.bipush 16, 2) := by decide +kernel
theorem dX11_tell_6 : decode cX11_tell 6 = .ok (.if_icmp .lt 6, 3) := by decide +kernel
theorem dX11_tell_9 : decode cX11_tell 9 = .ok (.ldc 192, 2) := by decide +kernel
theorem dX11_tell_11 : decode cX11_tell 11 = .ok (.ireturn, 1) := by decide +kernel
theorem dX11_tell_12 : decode cX11_tell 12 = .ok (.aload_n 0, 1) := by decide +kernel
theorem dX11_tell_13 : decode cX11_tell 13 = .ok (.getfield 40, 3) := by decide +kernel
theorem dX11_tell_16 : decode cX11_tell 16 = .ok (.aload_n 0, 1) := by decide +kernel
theorem dX11_tell_17 : decode cX11_tell 17 = .ok (.getfield 309, 3) := by decide +kernel
theorem dX11_tell_20 : decode cX11_tell 20 = .ok (.iload_n 1, 1) := by decide +kernel
theorem dX11_tell_21 : decode cX11_tell 21 = .ok (.iastore, 1) := by decide +kernel
theorem dX11_tell_22 : decode cX11_tell 22 = .ok (.aload_n 0, 1) := by decide +kernel
theorem dX11_tell_23 : decode cX11_tell 23 = .ok (.dup, 1) := by decide +kernel
theorem dX11_tell_24 : decode cX11_tell 24 = .ok (.getfield 309, 3) := by decide +kernel
theorem dX11_tell_27 : decode cX11_tell 27 = .ok (.iconst 1, 1) := by decide +kernel
theorem dX11_tell_28 : decode cX11_tell 28 = .ok (.iadd, 1) := by decide +kernel
theorem dX11_tell_29 : decode cX11_tell 29 = .ok (.putfield 309, 3) := by decide +kernel
theorem dX11_tell_32 : decode cX11_tell 32 = .ok (.aload_n 0, 1) := by decide +kernel
theorem dX11_tell_33 : decode cX11_tell 33 = .ok (.getfield 309, 3) := by decide +kernel
theorem dX11_tell_36 : decode cX11_tell 36 = .ok (.ireturn, 1) := by decide +kernel
theorem dX11_check_0 : decode cX11_check 0 = .ok (.aload_n 0, 1) := by decide +kernel
theorem dX11_check_1 : decode cX11_check 1 = .ok (.getfield 309, 3) := by decide +kernel
theorem dX11_check_4 : decode cX11_check 4 = .ok (.istore_n 2, 1) := by decide +kernel
theorem dX11_check_5 : decode cX11_check 5 = .ok (.aload_n 0, 1) := by decide +kernel
theorem dX11_check_6 : decode cX11_check 6 = .ok (.iconst 0, 1) := by decide +kernel
theorem dX11_check_7 : decode cX11_check 7 = .ok (.putfield 309, 3) := by decide +kernel
theorem dX11_check_10 : decode cX11_check 10 = .ok (.iload_n 1, 1) := by decide +kernel
theorem dX11_check_11 : decode cX11_check 11 = .ok (.iconst 0, 1) := by decide +kernel
theorem dX11_check_12 : decode cX11_check 12 = .ok (.sipush 3000, 3) := by decide +kernel
theorem dX11_check_15 : decode cX11_check 15 = .ok (.invokestatic 54, 3) := by decide +kernel
theorem dX11_check_18 : decode cX11_check 18 = .ok (.ifCond .ne 6, 3) := by decide +kernel
theorem dX11_check_21 : decode cX11_check 21 = .ok (.ldc 58, 2) := by decide +kernel
theorem dX11_check_23 : decode cX11_check 23 = .ok (.ireturn, 1) := by decide +kernel
theorem dX11_check_24 : decode cX11_check 24 = .ok (.aload_n 0, 1) := by decide +kernel
theorem dX11_check_25 : decode cX11_check 25 = .ok (.getfield 29, 3) := by decide +kernel
theorem dX11_check_28 : decode cX11_check 28 = .ok (.aload_n 0, 1) := by decide +kernel
theorem dX11_check_29 : decode cX11_check 29 = .ok (.getfield 12, 3) := by decide +kernel
theorem dX11_check_32 : decode cX11_check 32 = .ok (.getfield 289, 3) := by decide +kernel
theorem dX11_check_35 : decode cX11_check 35 = .ok (.iload_n 1, 1) := by decide +kernel
theorem dX11_check_36 : decode cX11_check 36 = .ok (.invokevirtual 298, 3) := by decide +kernel
theorem dX11_check_39 : decode cX11_check 39 = .ok (.ifCond .ne 6, 3) := by decide +kernel
theorem dX11_check_42 : decode cX11_check 42 = .ok (.ldc 144, 2) := by decide +kernel
theorem dX11_check_44 : decode cX11_check 44 = .ok (.ireturn, 1) := by decide +kernel
theorem dX11_check_45 : decode cX11_check 45 = .ok (.aload_n 0, 1) := by decide +kernel
theorem dX11_check_46 : decode cX11_check 46 = .ok (.getfield 12, 3) := by decide +kernel
theorem dX11_check_49 : decode cX11_check 49 = .ok (.getfield 289, 3) := by decide +kernel
theorem dX11_check_52 : decode cX11_check 52 = .ok (.getfield 297, 3) := by decide +kernel
theorem dX11_check_55 : decode cX11_check 55 = .ok (.istore_n 3, 1) := by decide +kernel
theorem dX11_check_56 : decode cX11_check 56 = .ok (.iconst 0, 1) := by decide +kernel
theorem dX11_check_57 : decode cX11_check 57 = .ok (.istore 4, 2) := by decide +kernel
theorem dX11_check_59 : decode cX11_check 59 = .ok (.iconst 0, 1) := by decide +kernel
theorem dX11_check_60 : decode cX11_check 60 = .ok (.istore 5, 2) := by decide +kernel
theorem dX11_check_62 : decode cX11_check 62 = .ok (.iload 5, 2) := by decide +kernel
theorem dX11_check_64 : decode cX11_check 64 = .ok (.iload_n 2, 1) := by decide +kernel
theorem dX11_check_65 : decode cX11_check 65 = .ok (.if_icmp .ge 38, 3) := by decide +kernel
theorem dX11_check_68 : decode cX11_check 68 = .ok (.iload 5, 2) := by decide +kernel
theorem dX11_check_70 : decode cX11_check 70 = .ok (.iload_n 3, 1) := by decide +kernel
theorem dX11_check_71 : decode cX11_check 71 = .ok (.if_icmp .ge 32, 3) := by decide +kernel
theorem dX11_check_74 : decode cX11_check 74 = .ok (.aload_n 0, 1) := by decide +kernel
theorem dX11_check_75 : decode cX11_check 75 = .ok (.getfield 40, 3) := by decide +kernel
theorem dX11_check_78 : decode cX11_check 78 = .ok (.iload 5, 2) := by decide +kernel
theorem dX11_check_80 : decode cX11_check 80 = .ok (.iaload, 1) := by decide +kernel
theorem dX11_check_81 : decode cX11_check 81 = .ok (.aload_n 0, 1) := by decide +kernel
theorem dX11_check_82 : decode cX11_check 82 = .ok (.getfield 29, 3) := by decide +kernel
theorem dX11_check_85 : decode cX11_check 85 = .ok (.iload_n 1, 1) := by decide +kernel
theorem dX11_check_86 : decode cX11_check 86 = .ok (.iload 5, 2) := by decide +kernel
theorem dX11_check_88 : decode cX11_check 88 = .ok (.invokevirtual 306, 3) := by decide +kernel
theorem dX11_check_91 : decode cX11_check 91 = .ok (.if_icmp .ne 12, 3) := by decide +kernel
theorem dX11_check_94 : decode cX11_check 94 = .ok (.iinc 4 1, 3) := by decide +kernel
theorem dX11_check_97 : decode cX11_check 97 = .ok (.iinc 5 1, 3) := by decide +kernel
theorem dX11_check_100 : decode cX11_check 100 = .ok (.goto (-38), 3) := by decide +kernel
theorem dX11_check_103 : decode cX11_check 103 = .ok (.iload 4, 2) := by decide +kernel
theorem dX11_check_105 : decode cX11_check 105 = .ok (.iload_n 2, 1) := by decide +kernel
theorem dX11_check_106 : decode cX11_check 106 = .ok (.if_icmp .ne 13, 3) := by decide +kernel
theorem dX11_check_109 : decode cX11_check 109 = .ok (.iload 4, 2) := by decide +kernel
theorem dX11_check_111 : decode cX11_check 111 = .ok (.iload_n 3, 1) := by decide +kernel
theorem dX11_check_112 : decode cX11_check 112 = .ok (.if_icmp .ne 7, 3) := by decide +kernel
theorem dX11_check_115 : decode cX11_check 115 = .ok (.iconst 0, 1) := by decide +kernel
theorem dX11_check_116 : decode cX11_check 116 = .ok (.goto 7, 3) := by decide +kernel
theorem dX11_check_119 : decode cX11_check 119 = .ok (.iconst 1, 1) := by decide +kernel
theorem dX11_check_120 : decode cX11_check 120 = .ok (.iload 4, 2) := by decide +kernel
theorem dX11_check_122 : decode cX11_check 122 = .ok (.iadd, 1) := by decide +kernel
theorem dX11_check_123 : decode cX11_check 123 = .ok (.ireturn, 1) := by decide +kernel
theorem dX11_ring_0 : decode cX11_ring 0 = .ok (.iload_n 1, 1) := by decide +kernel
theorem dX11_ring_1 : decode cX11_ring 1 = .ok (.ifCond .ge 8, 3) := by decide +kernel
theorem dX11_ring_4 : decode cX11_ring 4 = .ok (.ldc 58, 2) := by decide +kernel
theorem dX11_ring_6 : decode cX11_ring 6 = .ok (.goto 14, 3) := by decide +kernel
theorem dX11_ring_9 : decode cX11_ring 9 = .ok (.aload_n 0, 1) := by decide +kernel
theorem dX11_ring_10 : decode cX11_ring 10 = .ok (.getfield 12, 3) := by decide +kernel
theorem dX11_ring_13 : decode cX11_ring 13 = .ok (.getfield 59, 3) := by decide +kernel
theorem dX11_ring_16 : decode cX11_ring 16 = .ok (.iload_n 1, 1) := by decide +kernel
theorem dX11_ring_17 : decode cX11_ring 17 = .ok (.invokevirtual 312, 3) := by decide +kernel
theorem dX11_ring_20 : decode cX11_ring 20 = .ok (.ireturn, 1) := by decide +kernel
theorem dX11_keep_0 : decode cX11_keep 0 = .ok (.aload_n 0, 1) := by decide +kernel
theorem dX11_keep_1 : decode cX11_keep 1 = .ok (.getfield 16, 3) := by decide +kernel
theorem dX11_keep_4 : decode cX11_keep 4 = .ok (.aload_n 0, 1) := by decide +kernel
theorem dX11_keep_5 : decode cX11_keep 5 = .ok (.getfield 12, 3) := by decide +kernel
theorem dX11_keep_8 : decode cX11_keep 8 = .ok (.invokevirtual 315, 3) := by decide +kernel
theorem dX11_keep_11 : decode cX11_keep 11 = .ok (.aload_n 0, 1) := by decide +kernel
theorem dX11_keep_12 : decode cX11_keep 12 = .ok (.iconst 1, 1) := by decide +kernel
theorem dX11_keep_13 : decode cX11_keep 13 = .ok (.putfield 319, 3) := by decide +kernel
theorem dX11_keep_16 : decode cX11_keep 16 = .ok (.aload_n 0, 1) := by decide +kernel
theorem dX11_keep_17 : decode cX11_keep 17 = .ok (.getfield 12, 3) := by decide +kernel
theorem dX11_keep_20 : decode cX11_keep 20 = .ok (.getfield 97, 3) := by decide +kernel
theorem dX11_keep_23 : decode cX11_keep 23 = .ok (.ireturn, 1) := by decide +kernel
theorem dX11_again_0 : decode cX11_again 0 = .ok (.aload_n 0, 1) := by decide +kernel
theorem dX11_again_1 : decode cX11_again 1 = .ok (.getfield 319, 3) := by decide +kernel
theorem dX11_again_4 : decode cX11_again 4 = .ok (.ifCond .ne 6, 3) := by decide +kernel
theorem dX11_again_7 : decode cX11_again 7 = .ok (.ldc 144, 2) := by decide +kernel
theorem dX11_again_9 : decode cX11_again 9 = .ok (.ireturn, 1) := by decide +kernel
theorem dX11_again_10 : decode cX11_again 10 = .ok (.aload_n 0, 1) := by decide +kernel
theorem dX11_again_11 : decode cX11_again 11 = .ok (.getfield 12, 3) := by decide +kernel
theorem dX11_again_14 : decode cX11_again 14 = .ok (.aload_n 0, 1) := by decide +kernel
theorem dX11_again_15 : decode cX11_again 15 = .ok (.getfield 16, 3) := by decide +kernel
theorem dX11_again_18 : decode cX11_again 18 = .ok (.invokevirtual 315, 3) := by decide +kernel
theorem dX11_again_21 : decode cX11_again 21 = .ok (.aload_n 0, 1) := by decide +kernel
theorem dX11_again_22 : decode cX11_again 22 = .ok (.getfield 29, 3) := by decide +kernel
theorem dX11_again_25 : decode cX11_again 25 = .ok (.invokevirtual 286, 3) := by decide +kernel
theorem dX11_again_28 : decode cX11_again 28 = .ok (.aload_n 0, 1) := by decide +kernel
theorem dX11_again_29 : decode cX11_again 29 = .ok (.getfield 12, 3) := by decide +kernel
theorem dX11_again_32 : decode cX11_again 32 = .ok (.getfield 97, 3) := by decide +kernel
theorem dX11_again_35 : decode cX11_again 35 = .ok (.ireturn, 1) := by decide +kernel
theorem dX11_sheet_0 : decode cX11_sheet 0 = .ok (.iload_n 1, 1) := by decide +kernel
theorem dX11_sheet_1 : decode cX11_sheet 1 = .ok (.invokestatic 84, 3) := by decide +kernel
theorem dX11_sheet_4 : decode cX11_sheet 4 = .ok (.ifCond .eq 9, 3) := by decide +kernel
theorem dX11_sheet_7 : decode cX11_sheet 7 = .ok (.iload_n 2, 1) := by decide +kernel
theorem dX11_sheet_8 : decode cX11_sheet 8 = .ok (.bipush 16, 2) := by decide +kernel
theorem dX11_sheet_10 : decode cX11_sheet 10 = .ok (.if_icmp .le 6, 3) := by decide +kernel
theorem dX11_sheet_13 : decode cX11_sheet 13 = .ok (.ldc 58, 2) := by decide +kernel
theorem dX11_sheet_15 : decode cX11_sheet 15 = .ok (.ireturn, 1) := by decide +kernel
theorem dX11_sheet_16 : decode cX11_sheet 16 = .ok (.iload_n 2, 1) := by decide +kernel
theorem dX11_sheet_17 : decode cX11_sheet 17 = .ok (.ifCond .ge 7, 3) := by decide +kernel
theorem dX11_sheet_20 : decode cX11_sheet 20 = .ok (.ldc_w 323, 3) := by decide +kernel
theorem dX11_sheet_23 : decode cX11_sheet 23 = .ok (.ireturn, 1) := by decide +kernel
theorem dX11_sheet_24 : decode cX11_sheet 24 = .ok (.aload_n 0, 1) := by decide +kernel
theorem dX11_sheet_25 : decode cX11_sheet 25 = .ok (.getfield 51, 3) := by decide +kernel
theorem dX11_sheet_28 : decode cX11_sheet 28 = .ok (.iload_n 1, 1) := by decide +kernel
theorem dX11_sheet_29 : decode cX11_sheet 29 = .ok (.iload_n 2, 1) := by decide +kernel
theorem dX11_sheet_30 : decode cX11_sheet 30 = .ok (.iastore, 1) := by decide +kernel
theorem dX11_sheet_31 : decode cX11_sheet 31 = .ok (.iconst 0, 1) := by decide +kernel
theorem dX11_sheet_32 : decode cX11_sheet 32 = .ok (.istore_n 3, 1) := by decide +kernel
theorem dX11_sheet_33 : decode cX11_sheet 33 = .ok (.iload_n 3, 1) := by decide +kernel
theorem dX11_sheet_34 : decode cX11_sheet 34 = .ok (.bipush 16, 2) := by decide +kernel
theorem dX11_sheet_36 : decode cX11_sheet 36 = .ok (.if_icmp .ge 21, 3) := by decide +kernel
theorem dX11_sheet_39 : decode cX11_sheet 39 = .ok (.aload_n 0, 1) := by decide +kernel
theorem dX11_sheet_40 : decode cX11_sheet 40 = .ok (.getfield 47, 3) := by decide +kernel
theorem dX11_sheet_43 : decode cX11_sheet 43 = .ok (.iload_n 1, 1) := by decide +kernel
theorem dX11_sheet_44 : decode cX11_sheet 44 = .ok (.bipush 16, 2) := by decide +kernel
theorem dX11_sheet_46 : decode cX11_sheet 46 = .ok (.imul, 1) := by decide +kernel
theorem dX11_sheet_47 : decode cX11_sheet 47 = .ok (.iload_n 3, 1) := by decide +kernel
theorem dX11_sheet_48 : decode cX11_sheet 48 = .ok (.iadd, 1) := by decide +kernel
theorem dX11_sheet_49 : decode cX11_sheet 49 = .ok (.iconst 0, 1) := by decide +kernel
theorem dX11_sheet_50 : decode cX11_sheet 50 = .ok (.sastore, 1) := by decide +kernel
theorem dX11_sheet_51 : decode cX11_sheet 51 = .ok (.iinc 3 1, 3) := by decide +kernel
theorem dX11_sheet_54 : decode cX11_sheet 54 = .ok (.goto (-21), 3) := by decide +kernel
theorem dX11_sheet_57 : decode cX11_sheet 57 = .ok (.iload_n 2, 1) := by decide +kernel
theorem dX11_sheet_58 : decode cX11_sheet 58 = .ok (.ireturn, 1) := by decide +kernel
theorem dX11_mark_0 : decode cX11_mark 0 = .ok (.iload_n 1, 1) := by decide +kernel
theorem dX11_mark_1 : decode cX11_mark 1 = .ok (.invokestatic 84, 3) := by decide +kernel
theorem dX11_mark_4 : decode cX11_mark 4 = .ok (.ifCond .ne 6, 3) := by decide +kernel
theorem dX11_mark_7 : decode cX11_mark 7 = .ok (.ldc 58, 2) := by decide +kernel
theorem dX11_mark_9 : decode cX11_mark 9 = .ok (.ireturn, 1) := by decide +kernel
theorem dX11_mark_10 : decode cX11_mark 10 = .ok (.aload_n 0, 1) := by decide +kernel
theorem dX11_mark_11 : decode cX11_mark 11 = .ok (.getfield 51, 3) := by decide +kernel
theorem dX11_mark_14 : decode cX11_mark 14 = .ok (.iload_n 1, 1) := by decide +kernel
theorem dX11_mark_15 : decode cX11_mark 15 = .ok (.iaload, 1) := by decide +kernel
theorem dX11_mark_16 : decode cX11_mark 16 = .ok (.iconst (-1), 1) := by decide +kernel
theorem dX11_mark_17 : decode cX11_mark 17 = .ok (.if_icmp .ne 6, 3) := by decide +kernel
theorem dX11_mark_20 : decode cX11_mark 20 = .ok (.ldc 87, 2) := by decide +kernel
theorem dX11_mark_22 : decode cX11_mark 22 = .ok (.ireturn, 1) := by decide +kernel
theorem dX11_mark_23 : decode cX11_mark 23 = .ok (.iload_n 2, 1) := by decide +kernel
theorem dX11_mark_24 : decode cX11_mark 24 = .ok (.iconst 0, 1) := by decide +kernel
theorem dX11_mark_25 : decode cX11_mark 25 = .ok (.aload_n 0, 1) := by decide +kernel
theorem dX11_mark_26 : decode cX11_mark 26 = .ok (.getfield 51, 3) := by decide +kernel
theorem dX11_mark_29 : decode cX11_mark 29 = .ok (.iload_n 1, 1) := by decide +kernel
theorem dX11_mark_30 : decode cX11_mark 30 = .ok (.iaload, 1) := by decide +kernel
theorem dX11_mark_31 : decode cX11_mark 31 = .ok (.iconst 1, 1) := by decide +kernel
theorem dX11_mark_32 : decode cX11_mark 32 = .ok (.isub, 1) := by decide +kernel
theorem dX11_mark_33 : decode cX11_mark 33 = .ok (.invokestatic 54, 3) := by decide +kernel
theorem dX11_mark_36 : decode cX11_mark 36 = .ok (.ifCond .ne 7, 3) := by decide +kernel
theorem dX11_mark_39 : decode cX11_mark 39 = .ok (.ldc_w 324, 3) := by decide +kernel
theorem dX11_mark_42 : decode cX11_mark 42 = .ok (.ireturn, 1) := by decide +kernel
theorem dX11_mark_43 : decode cX11_mark 43 = .ok (.aload_n 0, 1) := by decide +kernel
theorem dX11_mark_44 : decode cX11_mark 44 = .ok (.getfield 47, 3) := by decide +kernel
theorem dX11_mark_47 : decode cX11_mark 47 = .ok (.iload_n 1, 1) := by decide +kernel
theorem dX11_mark_48 : decode cX11_mark 48 = .ok (.bipush 16, 2) := by decide +kernel
theorem dX11_mark_50 : decode cX11_mark 50 = .ok (.imul, 1) := by decide +kernel
theorem dX11_mark_51 : decode cX11_mark 51 = .ok (.iload_n 2, 1) := by decide +kernel
theorem dX11_mark_52 : decode cX11_mark 52 = .ok (.iadd, 1) := by decide +kernel
theorem dX11_mark_53 : decode cX11_mark 53 = .ok (.saload, 1) := by decide +kernel
theorem dX11_mark_54 : decode cX11_mark 54 = .ok (.istore 4, 2) := by decide +kernel
theorem dX11_mark_56 : decode cX11_mark 56 = .ok (.aload_n 0, 1) := by decide +kernel
theorem dX11_mark_57 : decode cX11_mark 57 = .ok (.getfield 47, 3) := by decide +kernel
theorem dX11_mark_60 : decode cX11_mark 60 = .ok (.iload_n 1, 1) := by decide +kernel
theorem dX11_mark_61 : decode cX11_mark 61 = .ok (.bipush 16, 2) := by decide +kernel
theorem dX11_mark_63 : decode cX11_mark 63 = .ok (.imul, 1) := by decide +kernel
theorem dX11_mark_64 : decode cX11_mark 64 = .ok (.iload_n 2, 1) := by decide +kernel
theorem dX11_mark_65 : decode cX11_mark 65 = .ok (.iadd, 1) := by decide +kernel
theorem dX11_mark_66 : decode cX11_mark 66 = .ok (.iload_n 3, 1) := by decide +kernel
theorem dX11_mark_67 : decode cX11_mark 67 = .ok (.i2s, 1) := by decide +kernel
theorem dX11_mark_68 : decode cX11_mark 68 = .ok (.sastore, 1) := by decide +kernel
theorem dX11_mark_69 : decode cX11_mark 69 = .ok (.iload 4, 2) := by decide +kernel
theorem dX11_mark_71 : decode cX11_mark 71 = .ok (.ireturn, 1) := by decide +kernel
theorem dX11_copy_0 : decode cX11_copy 0 = .ok (.iload_n 1, 1) := by decide +kernel
theorem dX11_copy_1 : decode cX11_copy 1 = .ok (.invokestatic 84, 3) := by decide +kernel
theorem dX11_copy_4 : decode cX11_copy 4 = .ok (.ifCond .eq 10, 3) := by decide +kernel
theorem dX11_copy_7 : decode cX11_copy 7 = .ok (.iload_n 3, 1) := by decide +kernel
theorem dX11_copy_8 : decode cX11_copy 8 = .ok (.invokestatic 84, 3) := by decide +kernel
theorem dX11_copy_11 : decode cX11_copy 11 = .ok (.ifCond .ne 6, 3) := by decide +kernel
theorem dX11_copy_14 : decode cX11_copy 14 = .ok (.ldc 58, 2) := by decide +kernel
theorem dX11_copy_16 : decode cX11_copy 16 = .ok (.ireturn, 1) := by decide +kernel
theorem dX11_copy_17 : decode cX11_copy 17 = .ok (.aload_n 0, 1) := by decide +kernel
theorem dX11_copy_18 : decode cX11_copy 18 = .ok (.getfield 51, 3) := by decide +kernel
theorem dX11_copy_21 : decode cX11_copy 21 = .ok (.iload_n 1, 1) := by decide +kernel
theorem dX11_copy_22 : decode cX11_copy 22 = .ok (.iaload, 1) := by decide +kernel
theorem dX11_copy_23 : decode cX11_copy 23 = .ok (.iconst (-1), 1) := by decide +kernel
theorem dX11_copy_24 : decode cX11_copy 24 = .ok (.if_icmp .eq 13, 3) := by decide +kernel
theorem dX11_copy_27 : decode cX11_copy 27 = .ok (.aload_n 0, 1) := by decide +kernel
theorem dX11_copy_28 : decode cX11_copy 28 = .ok (.getfield 51, 3) := by decide +kernel
theorem dX11_copy_31 : decode cX11_copy 31 = .ok (.iload_n 3, 1) := by decide +kernel
theorem dX11_copy_32 : decode cX11_copy 32 = .ok (.iaload, 1) := by decide +kernel
theorem dX11_copy_33 : decode cX11_copy 33 = .ok (.iconst (-1), 1) := by decide +kernel
theorem dX11_copy_34 : decode cX11_copy 34 = .ok (.if_icmp .ne 6, 3) := by decide +kernel
theorem dX11_copy_37 : decode cX11_copy 37 = .ok (.ldc 87, 2) := by decide +kernel
theorem dX11_copy_39 : decode cX11_copy 39 = .ok (.ireturn, 1) := by decide +kernel
theorem dX11_copy_40 : decode cX11_copy 40 = .ok (.iload_n 2, 1) := by decide +kernel
theorem dX11_copy_41 : decode cX11_copy 41 = .ok (.iload 5, 2) := by decide +kernel
theorem dX11_copy_43 : decode cX11_copy 43 = .ok (.aload_n 0, 1) := by decide +kernel
theorem dX11_copy_44 : decode cX11_copy 44 = .ok (.getfield 51, 3) := by decide +kernel
theorem dX11_copy_47 : decode cX11_copy 47 = .ok (.iload_n 1, 1) := by decide +kernel
theorem dX11_copy_48 : decode cX11_copy 48 = .ok (.iaload, 1) := by decide +kernel
theorem dX11_copy_49 : decode cX11_copy 49 = .ok (.invokestatic 325, 3) := by decide +kernel
theorem dX11_copy_52 : decode cX11_copy 52 = .ok (.ifCond .eq 19, 3) := by decide +kernel
theorem dX11_copy_55 : decode cX11_copy 55 = .ok (.iload 4, 2) := by decide +kernel
theorem dX11_copy_57 : decode cX11_copy 57 = .ok (.iload 5, 2) := by decide +kernel
theorem dX11_copy_59 : decode cX11_copy 59 = .ok (.aload_n 0, 1) := by decide +kernel
theorem dX11_copy_60 : decode cX11_copy 60 = .ok (.getfield 51, 3) := by decide +kernel
theorem dX11_copy_63 : decode cX11_copy 63 = .ok (.iload_n 3, 1) := by decide +kernel
theorem dX11_copy_64 : decode cX11_copy 64 = .ok (.iaload, 1) := by decide +kernel
theorem dX11_copy_65 : decode cX11_copy 65 = .ok (.invokestatic 325, 3) := by decide +kernel
theorem dX11_copy_68 : decode cX11_copy 68 = .ok (.ifCond .ne 7, 3) := by decide +kernel
theorem dX11_copy_71 : decode cX11_copy 71 = .ok (.ldc_w 324, 3) := by decide +kernel
theorem dX11_copy_74 : decode cX11_copy 74 = .ok (.ireturn, 1) := by decide +kernel
theorem dX11_copy_75 : decode cX11_copy 75 = .ok (.aload_n 0, 1) := by decide +kernel
theorem dX11_copy_76 : decode cX11_copy 76 = .ok (.getfield 47, 3) := by decide +kernel
theorem dX11_copy_79 : decode cX11_copy 79 = .ok (.iload_n 1, 1) := by decide +kernel
theorem dX11_copy_80 : decode cX11_copy 80 = .ok (.bipush 16, 2) := by decide +kernel
theorem dX11_copy_82 : decode cX11_copy 82 = .ok (.imul, 1) := by decide +kernel
theorem dX11_copy_83 : decode cX11_copy 83 = .ok (.iload_n 2, 1) := by decide +kernel
theorem dX11_copy_84 : decode cX11_copy 84 = .ok (.iadd, 1) := by decide +kernel
theorem dX11_copy_85 : decode cX11_copy 85 = .ok (.aload_n 0, 1) := by decide +kernel
theorem dX11_copy_86 : decode cX11_copy 86 = .ok (.getfield 47, 3) := by decide +kernel
theorem dX11_copy_89 : decode cX11_copy 89 = .ok (.iload_n 3, 1) := by decide +kernel
theorem dX11_copy_90 : decode cX11_copy 90 = .ok (.bipush 16, 2) := by decide +kernel
theorem dX11_copy_92 : decode cX11_copy 92 = .ok (.imul, 1) := by decide +kernel
theorem dX11_copy_93 : decode cX11_copy 93 = .ok (.iload 4, 2) := by decide +kernel
theorem dX11_copy_95 : decode cX11_copy 95 = .ok (.iadd, 1) := by decide +kernel
theorem dX11_copy_96 : decode cX11_copy 96 = .ok (.iload 5, 2) := by decide +kernel
theorem dX11_copy_98 : decode cX11_copy 98 = .ok (.invokestatic 328, 3) := by decide +kernel
theorem dX11_copy_101 : decode cX11_copy 101 = .ok (.iload 5, 2) := by decide +kernel
theorem dX11_copy_103 : decode cX11_copy 103 = .ok (.ireturn, 1) := by decide +kernel
theorem dX11_count_0 : decode cX11_count 0 = .ok (.iload_n 1, 1) := by decide +kernel
theorem dX11_count_1 : decode cX11_count 1 = .ok (.tableswitch 168 0 10 #[59, 70, 81, 92, 103, 114, 125, 136, 147, 152, 160], 59) := by decide +kernel
theorem dX11_count_60 : decode cX11_count 60 = .ok (.aload_n 0, 1) := by decide +kernel
theorem dX11_count_61 : decode cX11_count 61 = .ok (.getfield 12, 3) := by decide +kernel
theorem dX11_count_64 : decode cX11_count 64 = .ok (.getfield 59, 3) := by decide +kernel
theorem dX11_count_67 : decode cX11_count 67 = .ok (.getfield 88, 3) := by decide +kernel
theorem dX11_count_70 : decode cX11_count 70 = .ok (.ireturn, 1) := by decide +kernel
theorem dX11_count_71 : decode cX11_count 71 = .ok (.aload_n 0, 1) := by decide +kernel
theorem dX11_count_72 : decode cX11_count 72 = .ok (.getfield 12, 3) := by decide +kernel
theorem dX11_count_75 : decode cX11_count 75 = .ok (.getfield 123, 3) := by decide +kernel
theorem dX11_count_78 : decode cX11_count 78 = .ok (.getfield 265, 3) := by decide +kernel
theorem dX11_count_81 : decode cX11_count 81 = .ok (.ireturn, 1) := by decide +kernel
theorem dX11_count_82 : decode cX11_count 82 = .ok (.aload_n 0, 1) := by decide +kernel
theorem dX11_count_83 : decode cX11_count 83 = .ok (.getfield 12, 3) := by decide +kernel
theorem dX11_count_86 : decode cX11_count 86 = .ok (.getfield 123, 3) := by decide +kernel
theorem dX11_count_89 : decode cX11_count 89 = .ok (.invokevirtual 334, 3) := by decide +kernel
theorem dX11_count_92 : decode cX11_count 92 = .ok (.ireturn, 1) := by decide +kernel
theorem dX11_count_93 : decode cX11_count 93 = .ok (.aload_n 0, 1) := by decide +kernel
theorem dX11_count_94 : decode cX11_count 94 = .ok (.getfield 12, 3) := by decide +kernel
theorem dX11_count_97 : decode cX11_count 97 = .ok (.getfield 207, 3) := by decide +kernel
theorem dX11_count_100 : decode cX11_count 100 = .ok (.getfield 211, 3) := by decide +kernel
theorem dX11_count_103 : decode cX11_count 103 = .ok (.ireturn, 1) := by decide +kernel
theorem dX11_count_104 : decode cX11_count 104 = .ok (.aload_n 0, 1) := by decide +kernel
theorem dX11_count_105 : decode cX11_count 105 = .ok (.getfield 12, 3) := by decide +kernel
theorem dX11_count_108 : decode cX11_count 108 = .ok (.getfield 225, 3) := by decide +kernel
theorem dX11_count_111 : decode cX11_count 111 = .ok (.getfield 338, 3) := by decide +kernel
theorem dX11_count_114 : decode cX11_count 114 = .ok (.ireturn, 1) := by decide +kernel
theorem dX11_count_115 : decode cX11_count 115 = .ok (.aload_n 0, 1) := by decide +kernel
theorem dX11_count_116 : decode cX11_count 116 = .ok (.getfield 12, 3) := by decide +kernel
theorem dX11_count_119 : decode cX11_count 119 = .ok (.getfield 225, 3) := by decide +kernel
theorem dX11_count_122 : decode cX11_count 122 = .ok (.getfield 247, 3) := by decide +kernel
theorem dX11_count_125 : decode cX11_count 125 = .ok (.ireturn, 1) := by decide +kernel
theorem dX11_count_126 : decode cX11_count 126 = .ok (.aload_n 0, 1) := by decide +kernel
theorem dX11_count_127 : decode cX11_count 127 = .ok (.getfield 12, 3) := by decide +kernel
theorem dX11_count_130 : decode cX11_count 130 = .ok (.getfield 225, 3) := by decide +kernel
theorem dX11_count_133 : decode cX11_count 133 = .ok (.invokevirtual 341, 3) := by decide +kernel
theorem dX11_count_136 : decode cX11_count 136 = .ok (.ireturn, 1) := by decide +kernel
theorem dX11_count_137 : decode cX11_count 137 = .ok (.aload_n 0, 1) := by decide +kernel
theorem dX11_count_138 : decode cX11_count 138 = .ok (.getfield 12, 3) := by decide +kernel
theorem dX11_count_141 : decode cX11_count 141 = .ok (.getfield 289, 3) := by decide +kernel
theorem dX11_count_144 : decode cX11_count 144 = .ok (.getfield 297, 3) := by decide +kernel
theorem dX11_count_147 : decode cX11_count 147 = .ok (.ireturn, 1) := by decide +kernel
theorem dX11_count_148 : decode cX11_count 148 = .ok (.aload_n 0, 1) := by decide +kernel
theorem dX11_count_149 : decode cX11_count 149 = .ok (.getfield 309, 3) := by decide +kernel
theorem dX11_count_152 : decode cX11_count 152 = .ok (.ireturn, 1) := by decide +kernel
theorem dX11_count_153 : decode cX11_count 153 = .ok (.aload_n 0, 1) := by decide +kernel
theorem dX11_count_154 : decode cX11_count 154 = .ok (.getfield 36, 3) := by decide +kernel
theorem dX11_count_157 : decode cX11_count 157 = .ok (.getfield 189, 3) := by decide +kernel
theorem dX11_count_160 : decode cX11_count 160 = .ok (.ireturn, 1) := by decide +kernel
theorem dX11_count_161 : decode cX11_count 161 = .ok (.aload_n 0, 1) := by decide +kernel
theorem dX11_count_162 : decode cX11_count 162 = .ok (.getfield 12, 3) := by decide +kernel
theorem dX11_count_165 : decode cX11_count 165 = .ok (.getfield 97, 3) := by decide +kernel
theorem dX11_count_168 : decode cX11_count 168 = .ok (.ireturn, 1) := by decide +kernel
theorem dX11_count_169 : decode cX11_count 169 = .ok (.ldc 58, 2) := by decide +kernel
theorem dX11_count_171 : decode cX11_count 171 = .ok (.ireturn, 1) := by decide +kernel
theorem dX11_within_0 : decode cX11_within 0 = .ok (.iload_n 0, 1) := by decide +kernel
theorem dX11_within_1 : decode cX11_within 1 = .ok (.iload_n 1, 1) := by decide +kernel
theorem dX11_within_2 : decode cX11_within 2 = .ok (.if_icmp .lt 12, 3) := by decide +kernel
theorem dX11_within_5 : decode cX11_within 5 = .ok (.iload_n 0, 1) := by decide +kernel
theorem dX11_within_6 : decode cX11_within 6 = .ok (.iload_n 2, 1) := by decide +kernel
theorem dX11_within_7 : decode cX11_within 7 = .ok (.if_icmp .gt 7, 3) := by decide +kernel
theorem dX11_within_10 : decode cX11_within 10 = .ok (.iconst 1, 1) := by decide +kernel
theorem dX11_within_11 : decode cX11_within 11 = .ok (.goto 4, 3) := by decide +kernel
theorem dX11_within_14 : decode cX11_within 14 = .ok (.iconst 0, 1) := by decide +kernel
theorem dX11_within_15 : decode cX11_within 15 = .ok (.ireturn, 1) := by decide +kernel
theorem dX11_held_0 : decode cX11_held 0 = .ok (.iload_n 1, 1) := by decide +kernel
theorem dX11_held_1 : decode cX11_held 1 = .ok (.iload_n 2, 1) := by decide +kernel
theorem dX11_held_2 : decode cX11_held 2 = .ok (.iload_n 0, 1) := by decide +kernel
theorem dX11_held_3 : decode cX11_held 3 = .ok (.invokestatic 92, 3) := by decide +kernel
theorem dX11_held_6 : decode cX11_held 6 = .ok (.invokestatic 344, 3) := by decide +kernel
theorem dX11_held_9 : decode cX11_held 9 = .ok (.ireturn, 1) := by decide +kernel
theorem dX11_isDay_0 : decode cX11_isDay 0 = .ok (.iload_n 0, 1) := by decide +kernel
theorem dX11_isDay_1 : decode cX11_isDay 1 = .ok (.iconst 0, 1) := by decide +kernel
theorem dX11_isDay_2 : decode cX11_isDay 2 = .ok (.sipush 1200, 3) := by decide +kernel
theorem dX11_isDay_5 : decode cX11_isDay 5 = .ok (.invokestatic 54, 3) := by decide +kernel
theorem dX11_isDay_8 : decode cX11_isDay 8 = .ok (.ireturn, 1) := by decide +kernel
theorem dX11_isPartner_0 : decode cX11_isPartner 0 = .ok (.iload_n 0, 1) := by decide +kernel
theorem dX11_isPartner_1 : decode cX11_isPartner 1 = .ok (.iconst 0, 1) := by decide +kernel
theorem dX11_isPartner_2 : decode cX11_isPartner 2 = .ok (.iconst 3, 1) := by decide +kernel
theorem dX11_isPartner_3 : decode cX11_isPartner 3 = .ok (.invokestatic 54, 3) := by decide +kernel
theorem dX11_isPartner_6 : decode cX11_isPartner 6 = .ok (.ireturn, 1) := by decide +kernel
theorem dX11_isSheet_0 : decode cX11_isSheet 0 = .ok (.iload_n 0, 1) := by decide +kernel
theorem dX11_isSheet_1 : decode cX11_isSheet 1 = .ok (.iconst 0, 1) := by decide +kernel
theorem dX11_isSheet_2 : decode cX11_isSheet 2 = .ok (.iconst 1, 1) := by decide +kernel
theorem dX11_isSheet_3 : decode cX11_isSheet 3 = .ok (.invokestatic 54, 3) := by decide +kernel
theorem dX11_isSheet_6 : decode cX11_isSheet 6 = .ok (.ireturn, 1) := by decide +kernel
theorem dX11_isStretch_0 : decode cX11_isStretch 0 = .ok (.iload_n 0, 1) := by decide +kernel
theorem dX11_isStretch_1 : decode cX11_isStretch 1 = .ok (.iconst 0, 1) := by decide +kernel
theorem dX11_isStretch_2 : decode cX11_isStretch 2 = .ok (.iload_n 2, 1) := by decide +kernel
theorem dX11_isStretch_3 : decode cX11_isStretch 3 = .ok (.invokestatic 54, 3) := by decide +kernel
theorem dX11_isStretch_6 : decode cX11_isStretch 6 = .ok (.ifCond .eq 18, 3) := by decide +kernel
theorem dX11_isStretch_9 : decode cX11_isStretch 9 = .ok (.iload_n 1, 1) := by decide +kernel
theorem dX11_isStretch_10 : decode cX11_isStretch 10 = .ok (.iconst 0, 1) := by decide +kernel
theorem dX11_isStretch_11 : decode cX11_isStretch 11 = .ok (.iload_n 2, 1) := by decide +kernel
theorem dX11_isStretch_12 : decode cX11_isStretch 12 = .ok (.iload_n 0, 1) := by decide +kernel
theorem dX11_isStretch_13 : decode cX11_isStretch 13 = .ok (.isub, 1) := by decide +kernel
theorem dX11_isStretch_14 : decode cX11_isStretch 14 = .ok (.invokestatic 54, 3) := by decide +kernel
theorem dX11_isStretch_17 : decode cX11_isStretch 17 = .ok (.ifCond .eq 7, 3) := by decide +kernel
theorem dX11_isStretch_20 : decode cX11_isStretch 20 = .ok (.iconst 1, 1) := by decide +kernel
theorem dX11_isStretch_21 : decode cX11_isStretch 21 = .ok (.goto 4, 3) := by decide +kernel
theorem dX11_isStretch_24 : decode cX11_isStretch 24 = .ok (.iconst 0, 1) := by decide +kernel
theorem dX11_isStretch_25 : decode cX11_isStretch 25 = .ok (.ireturn, 1) := by decide +kernel
theorem dX11_isMember_0 : decode cX11_isMember 0 = .ok (.iload_n 1, 1) := by decide +kernel
theorem dX11_isMember_1 : decode cX11_isMember 1 = .ok (.iconst 0, 1) := by decide +kernel
theorem dX11_isMember_2 : decode cX11_isMember 2 = .ok (.aload_n 0, 1) := by decide +kernel
theorem dX11_isMember_3 : decode cX11_isMember 3 = .ok (.getfield 12, 3) := by decide +kernel
theorem dX11_isMember_6 : decode cX11_isMember 6 = .ok (.getfield 59, 3) := by decide +kernel
theorem dX11_isMember_9 : decode cX11_isMember 9 = .ok (.getfield 88, 3) := by decide +kernel
theorem dX11_isMember_12 : decode cX11_isMember 12 = .ok (.iconst 1, 1) := by decide +kernel
theorem dX11_isMember_13 : decode cX11_isMember 13 = .ok (.isub, 1) := by decide +kernel
theorem dX11_isMember_14 : decode cX11_isMember 14 = .ok (.invokestatic 54, 3) := by decide +kernel
theorem dX11_isMember_17 : decode cX11_isMember 17 = .ok (.ireturn, 1) := by decide +kernel
theorem dX11_isLine_0 : decode cX11_isLine 0 = .ok (.iload_n 1, 1) := by decide +kernel
theorem dX11_isLine_1 : decode cX11_isLine 1 = .ok (.iconst 0, 1) := by decide +kernel
theorem dX11_isLine_2 : decode cX11_isLine 2 = .ok (.aload_n 0, 1) := by decide +kernel
theorem dX11_isLine_3 : decode cX11_isLine 3 = .ok (.getfield 12, 3) := by decide +kernel
theorem dX11_isLine_6 : decode cX11_isLine 6 = .ok (.getfield 123, 3) := by decide +kernel
theorem dX11_isLine_9 : decode cX11_isLine 9 = .ok (.getfield 265, 3) := by decide +kernel
theorem dX11_isLine_12 : decode cX11_isLine 12 = .ok (.iconst 1, 1) := by decide +kernel
theorem dX11_isLine_13 : decode cX11_isLine 13 = .ok (.isub, 1) := by decide +kernel
theorem dX11_isLine_14 : decode cX11_isLine 14 = .ok (.invokestatic 54, 3) := by decide +kernel
theorem dX11_isLine_17 : decode cX11_isLine 17 = .ok (.ireturn, 1) := by decide +kernel
theorem dX11_isFlight_0 : decode cX11_isFlight 0 = .ok (.iload_n 1, 1) := by decide +kernel
theorem dX11_isFlight_1 : decode cX11_isFlight 1 = .ok (.iconst 0, 1) := by decide +kernel
theorem dX11_isFlight_2 : decode cX11_isFlight 2 = .ok (.aload_n 0, 1) := by decide +kernel
theorem dX11_isFlight_3 : decode cX11_isFlight 3 = .ok (.getfield 12, 3) := by decide +kernel
theorem dX11_isFlight_6 : decode cX11_isFlight 6 = .ok (.getfield 225, 3) := by decide +kernel
theorem dX11_isFlight_9 : decode cX11_isFlight 9 = .ok (.getfield 338, 3) := by decide +kernel
theorem dX11_isFlight_12 : decode cX11_isFlight 12 = .ok (.iconst 1, 1) := by decide +kernel
theorem dX11_isFlight_13 : decode cX11_isFlight 13 = .ok (.isub, 1) := by decide +kernel
theorem dX11_isFlight_14 : decode cX11_isFlight 14 = .ok (.invokestatic 54, 3) := by decide +kernel
theorem dX11_isFlight_17 : decode cX11_isFlight 17 = .ok (.ireturn, 1) := by decide +kernel
theorem dX11_isPast_0 : decode cX11_isPast 0 = .ok (.iload_n 1, 1) := by decide +kernel
theorem dX11_isPast_1 : decode cX11_isPast 1 = .ok (.iconst 0, 1) := by decide +kernel
theorem dX11_isPast_2 : decode cX11_isPast 2 = .ok (.aload_n 0, 1) := by decide +kernel
theorem dX11_isPast_3 : decode cX11_isPast 3 = .ok (.getfield 12, 3) := by decide +kernel
theorem dX11_isPast_6 : decode cX11_isPast 6 = .ok (.getfield 97, 3) := by decide +kernel
theorem dX11_isPast_9 : decode cX11_isPast 9 = .ok (.invokestatic 54, 3) := by decide +kernel
theorem dX11_isPast_12 : decode cX11_isPast 12 = .ok (.ireturn, 1) := by decide +kernel
