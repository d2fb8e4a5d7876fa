theorem dX0_init_0 : decode cX0_init 0 = .ok (.aload_n 0, 1) := by decide +kernel
theorem dX0_init_1 : decode cX0_init 1 = .ok (.invokespecial 1, 3) := by decide +kernel
theorem dX0_init_4 : decode cX0_init 4 = .ok (.aload_n 0, 1) := by decide +kernel
theorem dX0_init_5 : decode cX0_init 5 = .ok (.new 7, 3) := by decide +kernel
theorem dX0_init_8 : decode cX0_init 8 = .ok (.dup, 1) := by decide +kernel
theorem dX0_init_9 : decode cX0_init 9 = .ok (.invokespecial 9, 3) := by decide +kernel
theorem dX0_init_12 : decode cX0_init 12 = .ok (.putfield 10, 3) := by decide +kernel
theorem dX0_init_15 : decode cX0_init 15 = .ok (.aload_n 0, 1) := by decide +kernel
theorem dX0_init_16 : decode cX0_init 16 = .ok (.new 16, 3) := by decide +kernel
theorem dX0_init_19 : decode cX0_init 19 = .ok (.dup, 1) := by decide +kernel
theorem dX0_init_20 : decode cX0_init 20 = .ok (.invokespecial 18, 3) := by decide +kernel
theorem dX0_init_23 : decode cX0_init 23 = .ok (.putfield 19, 3) := by decide +kernel
theorem dX0_init_26 : decode cX0_init 26 = .ok (.aload_n 0, 1) := by decide +kernel
theorem dX0_init_27 : decode cX0_init 27 = .ok (.new 23, 3) := by decide +kernel
theorem dX0_init_30 : decode cX0_init 30 = .ok (.dup, 1) := by decide +kernel
theorem dX0_init_31 : decode cX0_init 31 = .ok (.invokespecial 25, 3) := by decide +kernel
theorem dX0_init_34 : decode cX0_init 34 = .ok (.putfield 26, 3) := by decide +kernel
theorem dX0_init_37 : decode cX0_init 37 = .ok (.aload_n 0, 1) := by decide +kernel
theorem dX0_init_38 : decode cX0_init 38 = .ok (.new 30, 3) := by decide +kernel
theorem dX0_init_41 : decode cX0_init 41 = .ok (.dup, 1) := by decide +kernel
theorem dX0_init_42 : decode cX0_init 42 = .ok (.invokespecial 32, 3) := by decide +kernel
theorem dX0_init_45 : decode cX0_init 45 = .ok (.putfield 33, 3) := by decide +kernel
theorem dX0_init_48 : decode cX0_init 48 = .ok (.aload_n 0, 1) := by decide +kernel
theorem dX0_init_49 : decode cX0_init 49 = .ok (.new 37, 3) := by decide +kernel
theorem dX0_init_52 : decode cX0_init 52 = .ok (.dup, 1) := by decide +kernel
theorem dX0_init_53 : decode cX0_init 53 = .ok (.invokespecial 39, 3) := by decide +kernel
theorem dX0_init_56 : decode cX0_init 56 = .ok (.putfield 40, 3) := by decide +kernel
theorem dX0_init_59 : decode cX0_init 59 = .ok (.aload_n 0, 1) := by decide +kernel
theorem dX0_init_60 : decode cX0_init 60 = .ok (.iconst 3, 1) := by decide +kernel
theorem dX0_init_61 : decode cX0_init 61 = .ok (.newarray .int, 2) := by decide +kernel
theorem dX0_init_63 : decode cX0_init 63 = .ok (.dup, 1) := by decide +kernel
theorem dX0_init_64 : decode cX0_init 64 = .ok (.iconst 0, 1) := by decide +kernel
theorem dX0_init_65 : decode cX0_init 65 = .ok (.bipush 30, 2) := by decide +kernel
theorem dX0_init_67 : decode cX0_init 67 = .ok (.iastore, 1) := by decide +kernel
theorem dX0_init_68 : decode cX0_init 68 = .ok (.dup, 1) := by decide +kernel
theorem dX0_init_69 : decode cX0_init 69 = .ok (.iconst 1, 1) := by decide +kernel
theorem dX0_init_70 : decode cX0_init 70 = .ok (.bipush 90, 2) := by decide +kernel
theorem dX0_init_72 : decode cX0_init 72 = .ok (.iastore, 1) := by decide +kernel
theorem dX0_init_73 : decode cX0_init 73 = .ok (.dup, 1) := by decide +kernel
theorem dX0_init_74 : decode cX0_init 74 = .ok (.iconst 2, 1) := by decide +kernel
theorem dX0_init_75 : decode cX0_init 75 = .ok (.bipush 60, 2) := by decide +kernel
theorem dX0_init_77 : decode cX0_init 77 = .ok (.iastore, 1) := by decide +kernel
theorem dX0_init_78 : decode cX0_init 78 = .ok (.putfield 44, 3) := by decide +kernel
theorem dX0_init_81 : decode cX0_init 81 = .ok (.aload_n 0, 1) := by decide +kernel
theorem dX0_init_82 : decode cX0_init 82 = .ok (.iconst 4, 1) := by decide +kernel
theorem dX0_init_83 : decode cX0_init 83 = .ok (.newarray .int, 2) := by decide +kernel
theorem dX0_init_85 : decode cX0_init 85 = .ok (.dup, 1) := by decide +kernel
theorem dX0_init_86 : decode cX0_init 86 = .ok (.iconst 0, 1) := by decide +kernel
theorem dX0_init_87 : decode cX0_init 87 = .ok (.iconst 0, 1) := by decide +kernel
theorem dX0_init_88 : decode cX0_init 88 = .ok (.iastore, 1) := by decide +kernel
theorem dX0_init_89 : decode cX0_init 89 = .ok (.dup, 1) := by decide +kernel
theorem dX0_init_90 : decode cX0_init 90 = .ok (.iconst 1, 1) := by decide +kernel
theorem dX0_init_91 : decode cX0_init 91 = .ok (.bipush 10, 2) := by decide +kernel
theorem dX0_init_93 : decode cX0_init 93 = .ok (.iastore, 1) := by decide +kernel
theorem dX0_init_94 : decode cX0_init 94 = .ok (.dup, 1) := by decide +kernel
theorem dX0_init_95 : decode cX0_init 95 = .ok (.iconst 2, 1) := by decide +kernel
theorem dX0_init_96 : decode cX0_init 96 = .ok (.bipush 10, 2) := by decide +kernel
theorem dX0_init_98 : decode cX0_init 98 = .ok (.iastore, 1) := by decide +kernel
theorem dX0_init_99 : decode cX0_init 99 = .ok (.dup, 1) := by decide +kernel
theorem dX0_init_100 : decode cX0_init 100 = .ok (.iconst 3, 1) := by decide +kernel
theorem dX0_init_101 : decode cX0_init 101 = .ok (.bipush 10, 2) := by decide +kernel
theorem dX0_init_103 : decode cX0_init 103 = .ok (.iastore, 1) := by decide +kernel
theorem dX0_init_104 : decode cX0_init 104 = .ok (.putfield 48, 3) := by decide +kernel
theorem dX0_init_107 : decode cX0_init 107 = .ok (.aload_n 0, 1) := by decide +kernel
theorem dX0_init_108 : decode cX0_init 108 = .ok (.iconst 4, 1) := by decide +kernel
theorem dX0_init_109 : decode cX0_init 109 = .ok (.newarray .int, 2) := by decide +kernel
theorem dX0_init_111 : decode cX0_init 111 = .ok (.dup, 1) := by decide +kernel
theorem dX0_init_112 : decode cX0_init 112 = .ok (.iconst 0, 1) := by decide +kernel
theorem dX0_init_113 : decode cX0_init 113 = .ok (.iconst 0, 1) := by decide +kernel
theorem dX0_init_114 : decode cX0_init 114 = .ok (.iastore, 1) := by decide +kernel
theorem dX0_init_115 : decode cX0_init 115 = .ok (.dup, 1) := by decide +kernel
theorem dX0_init_116 : decode cX0_init 116 = .ok (.iconst 1, 1) := by decide +kernel
theorem dX0_init_117 : decode cX0_init 117 = .ok (.bipush 8, 2) := by decide +kernel
theorem dX0_init_119 : decode cX0_init 119 = .ok (.iastore, 1) := by decide +kernel
theorem dX0_init_120 : decode cX0_init 120 = .ok (.dup, 1) := by decide +kernel
theorem dX0_init_121 : decode cX0_init 121 = .ok (.iconst 2, 1) := by decide +kernel
theorem dX0_init_122 : decode cX0_init 122 = .ok (.bipush 8, 2) := by decide +kernel
theorem dX0_init_124 : decode cX0_init 124 = .ok (.iastore, 1) := by decide +kernel
theorem dX0_init_125 : decode cX0_init 125 = .ok (.dup, 1) := by decide +kernel
theorem dX0_init_126 : decode cX0_init 126 = .ok (.iconst 3, 1) := by decide +kernel
theorem dX0_init_127 : decode cX0_init 127 = .ok (.bipush 8, 2) := by decide +kernel
theorem dX0_init_129 : decode cX0_init 129 = .ok (.iastore, 1) := by decide +kernel
theorem dX0_init_130 : decode cX0_init 130 = .ok (.putfield 51, 3) := by decide +kernel
theorem dX0_init_133 : decode cX0_init 133 = .ok (.return_, 1) := by decide +kernel
theorem dX0_newLine_0 : decode cX0_newLine 0 = .ok (.aload_n 0, 1) := by decide +kernel
theorem dX0_newLine_1 : decode cX0_newLine 1 = .ok (.getfield 19, 3) := by decide +kernel
theorem dX0_newLine_4 : decode cX0_newLine 4 = .ok (.iload_n 1, 1) := by decide +kernel
theorem dX0_newLine_5 : decode cX0_newLine 5 = .ok (.iload_n 2, 1) := by decide +kernel
theorem dX0_newLine_6 : decode cX0_newLine 6 = .ok (.iload_n 3, 1) := by decide +kernel
theorem dX0_newLine_7 : decode cX0_newLine 7 = .ok (.aload_n 0, 1) := by decide +kernel
theorem dX0_newLine_8 : decode cX0_newLine 8 = .ok (.getfield 54, 3) := by decide +kernel
theorem dX0_newLine_11 : decode cX0_newLine 11 = .ok (.iload 4, 2) := by decide +kernel
theorem dX0_newLine_13 : decode cX0_newLine 13 = .ok (.iload 5, 2) := by decide +kernel
theorem dX0_newLine_15 : decode cX0_newLine 15 = .ok (.iload 6, 2) := by decide +kernel
theorem dX0_newLine_17 : decode cX0_newLine 17 = .ok (.invokevirtual 58, 3) := by decide +kernel
theorem dX0_newLine_20 : decode cX0_newLine 20 = .ok (.ireturn, 1) := by decide +kernel
theorem dX0_become_0 : decode cX0_become 0 = .ok (.aload_n 0, 1) := by decide +kernel
theorem dX0_become_1 : decode cX0_become 1 = .ok (.getfield 10, 3) := by decide +kernel
theorem dX0_become_4 : decode cX0_become 4 = .ok (.aload_n 1, 1) := by decide +kernel
theorem dX0_become_5 : decode cX0_become 5 = .ok (.getfield 10, 3) := by decide +kernel
theorem dX0_become_8 : decode cX0_become 8 = .ok (.invokevirtual 62, 3) := by decide +kernel
theorem dX0_become_11 : decode cX0_become 11 = .ok (.aload_n 0, 1) := by decide +kernel
theorem dX0_become_12 : decode cX0_become 12 = .ok (.getfield 19, 3) := by decide +kernel
theorem dX0_become_15 : decode cX0_become 15 = .ok (.aload_n 1, 1) := by decide +kernel
theorem dX0_become_16 : decode cX0_become 16 = .ok (.getfield 19, 3) := by decide +kernel
theorem dX0_become_19 : decode cX0_become 19 = .ok (.invokevirtual 66, 3) := by decide +kernel
theorem dX0_become_22 : decode cX0_become 22 = .ok (.aload_n 0, 1) := by decide +kernel
theorem dX0_become_23 : decode cX0_become 23 = .ok (.getfield 26, 3) := by decide +kernel
theorem dX0_become_26 : decode cX0_become 26 = .ok (.aload_n 1, 1) := by decide +kernel
theorem dX0_become_27 : decode cX0_become 27 = .ok (.getfield 26, 3) := by decide +kernel
theorem dX0_become_30 : decode cX0_become 30 = .ok (.invokevirtual 69, 3) := by decide +kernel
theorem dX0_become_33 : decode cX0_become 33 = .ok (.aload_n 0, 1) := by decide +kernel
theorem dX0_become_34 : decode cX0_become 34 = .ok (.getfield 33, 3) := by decide +kernel
theorem dX0_become_37 : decode cX0_become 37 = .ok (.aload_n 1, 1) := by decide +kernel
theorem dX0_become_38 : decode cX0_become 38 = .ok (.getfield 33, 3) := by decide +kernel
theorem dX0_become_41 : decode cX0_become 41 = .ok (.invokevirtual 72, 3) := by decide +kernel
theorem dX0_become_44 : decode cX0_become 44 = .ok (.aload_n 0, 1) := by decide +kernel
theorem dX0_become_45 : decode cX0_become 45 = .ok (.getfield 40, 3) := by decide +kernel
theorem dX0_become_48 : decode cX0_become 48 = .ok (.aload_n 1, 1) := by decide +kernel
theorem dX0_become_49 : decode cX0_become 49 = .ok (.getfield 40, 3) := by decide +kernel
theorem dX0_become_52 : decode cX0_become 52 = .ok (.invokevirtual 75, 3) := by decide +kernel
theorem dX0_become_55 : decode cX0_become 55 = .ok (.aload_n 0, 1) := by decide +kernel
theorem dX0_become_56 : decode cX0_become 56 = .ok (.getfield 44, 3) := by decide +kernel
theorem dX0_become_59 : decode cX0_become 59 = .ok (.aload_n 1, 1) := by decide +kernel
theorem dX0_become_60 : decode cX0_become 60 = .ok (.getfield 44, 3) := by decide +kernel
theorem dX0_become_63 : decode cX0_become 63 = .ok (.invokestatic 78, 3) := by decide +kernel
theorem dX0_become_66 : decode cX0_become 66 = .ok (.aload_n 0, 1) := by decide +kernel
theorem dX0_become_67 : decode cX0_become 67 = .ok (.getfield 48, 3) := by decide +kernel
theorem dX0_become_70 : decode cX0_become 70 = .ok (.aload_n 1, 1) := by decide +kernel
theorem dX0_become_71 : decode cX0_become 71 = .ok (.getfield 48, 3) := by decide +kernel
theorem dX0_become_74 : decode cX0_become 74 = .ok (.invokestatic 78, 3) := by decide +kernel
theorem dX0_become_77 : decode cX0_become 77 = .ok (.aload_n 0, 1) := by decide +kernel
theorem dX0_become_78 : decode cX0_become 78 = .ok (.getfield 51, 3) := by decide +kernel
theorem dX0_become_81 : decode cX0_become 81 = .ok (.aload_n 1, 1) := by decide +kernel
theorem dX0_become_82 : decode cX0_become 82 = .ok (.getfield 51, 3) := by decide +kernel
theorem dX0_become_85 : decode cX0_become 85 = .ok (.invokestatic 78, 3) := by decide +kernel
theorem dX0_become_88 : decode cX0_become 88 = .ok (.aload_n 0, 1) := by decide +kernel
theorem dX0_become_89 : decode cX0_become 89 = .ok (.aload_n 1, 1) := by decide +kernel
theorem dX0_become_90 : decode cX0_become 90 = .ok (.getfield 54, 3) := by decide +kernel
theorem dX0_become_93 : decode cX0_become 93 = .ok (.putfield 54, 3) := by decide +kernel
theorem dX0_become_96 : decode cX0_become 96 = .ok (.return_, 1) := by decide +kernel
theorem dX0_overwrite_0 : decode cX0_overwrite 0 = .ok (.aload_n 1, 1) := by decide +kernel
theorem dX0_overwrite_1 : decode cX0_overwrite 1 = .ok (.iconst 0, 1) := by decide +kernel
theorem dX0_overwrite_2 : decode cX0_overwrite 2 = .ok (.aload_n 0, 1) := by decide +kernel
theorem dX0_overwrite_3 : decode cX0_overwrite 3 = .ok (.iconst 0, 1) := by decide +kernel
theorem dX0_overwrite_4 : decode cX0_overwrite 4 = .ok (.aload_n 1, 1) := by decide +kernel
theorem dX0_overwrite_5 : decode cX0_overwrite 5 = .ok (.arraylength, 1) := by decide +kernel
theorem dX0_overwrite_6 : decode cX0_overwrite 6 = .ok (.aload_n 0, 1) := by decide +kernel
theorem dX0_overwrite_7 : decode cX0_overwrite 7 = .ok (.arraylength, 1) := by decide +kernel
theorem dX0_overwrite_8 : decode cX0_overwrite 8 = .ok (.invokestatic 82, 3) := by decide +kernel
theorem dX0_overwrite_11 : decode cX0_overwrite 11 = .ok (.invokestatic 88, 3) := by decide +kernel
theorem dX0_overwrite_14 : decode cX0_overwrite 14 = .ok (.return_, 1) := by decide +kernel
theorem dX1_init_0 : decode cX1_init 0 = .ok (.aload_n 0, 1) := by decide +kernel
theorem dX1_init_1 : decode cX1_init 1 = .ok (.invokespecial 3, 3) := by decide +kernel
theorem dX1_init_4 : decode cX1_init 4 = .ok (.aload_n 0, 1) := by decide +kernel
theorem dX1_init_5 : decode cX1_init 5 = .ok (.sipush 132, 3) := by decide +kernel
theorem dX1_init_8 : decode cX1_init 8 = .ok (.newarray .int, 2) := by decide +kernel
theorem dX1_init_10 : decode cX1_init 10 = .ok (.putfield 9, 3) := by decide +kernel
theorem dX1_init_13 : decode cX1_init 13 = .ok (.return_, 1) := by decide +kernel
theorem dX1_forTrip_0 : decode cX1_forTrip 0 = .ok (.aload_n 0, 1) := by decide +kernel
theorem dX1_forTrip_1 : decode cX1_forTrip 1 = .ok (.iload_n 1, 1) := by decide +kernel
theorem dX1_forTrip_2 : decode cX1_forTrip 2 = .ok (.putfield 15, 3) := by decide +kernel
theorem dX1_forTrip_5 : decode cX1_forTrip 5 = .ok (.aload_n 0, 1) := by decide +kernel
theorem dX1_forTrip_6 : decode cX1_forTrip 6 = .ok (.iload_n 2, 1) := by decide +kernel
theorem dX1_forTrip_7 : decode cX1_forTrip 7 = .ok (.putfield 19, 3) := by decide +kernel
theorem dX1_forTrip_10 : decode cX1_forTrip 10 = .ok (.return_, 1) := by decide +kernel
theorem dX1_forMember_0 : decode cX1_forMember 0 = .ok (.aload_n 0, 1) := by decide +kernel
theorem dX1_forMember_1 : decode cX1_forMember 1 = .ok (.iload_n 1, 1) := by decide +kernel
theorem dX1_forMember_2 : decode cX1_forMember 2 = .ok (.putfield 22, 3) := by decide +kernel
theorem dX1_forMember_5 : decode cX1_forMember 5 = .ok (.aload_n 0, 1) := by decide +kernel
theorem dX1_forMember_6 : decode cX1_forMember 6 = .ok (.iload_n 2, 1) := by decide +kernel
theorem dX1_forMember_7 : decode cX1_forMember 7 = .ok (.putfield 25, 3) := by decide +kernel
theorem dX1_forMember_10 : decode cX1_forMember 10 = .ok (.return_, 1) := by decide +kernel
theorem dX1_workedOut_0 : decode cX1_workedOut 0 = .ok (.aload_n 0, 1) := by decide +kernel
theorem dX1_workedOut_1 : decode cX1_workedOut 1 = .ok (.iconst 0, 1) := by decide +kernel
theorem dX1_workedOut_2 : decode cX1_workedOut 2 = .ok (.putfield 28, 3) := by decide +kernel
theorem dX1_workedOut_5 : decode cX1_workedOut 5 = .ok (.aload_n 1, 1) := by decide +kernel
theorem dX1_workedOut_6 : decode cX1_workedOut 6 = .ok (.iload_n 2, 1) := by decide +kernel
theorem dX1_workedOut_7 : decode cX1_workedOut 7 = .ok (.invokevirtual 31, 3) := by decide +kernel
theorem dX1_workedOut_10 : decode cX1_workedOut 10 = .ok (.istore_n 3, 1) := by decide +kernel
theorem dX1_workedOut_11 : decode cX1_workedOut 11 = .ok (.aload_n 1, 1) := by decide +kernel
theorem dX1_workedOut_12 : decode cX1_workedOut 12 = .ok (.iload_n 2, 1) := by decide +kernel
theorem dX1_workedOut_13 : decode cX1_workedOut 13 = .ok (.invokevirtual 37, 3) := by decide +kernel
theorem dX1_workedOut_16 : decode cX1_workedOut 16 = .ok (.istore 4, 2) := by decide +kernel
theorem dX1_workedOut_18 : decode cX1_workedOut 18 = .ok (.iload 4, 2) := by decide +kernel
theorem dX1_workedOut_20 : decode cX1_workedOut 20 = .ok (.iload_n 3, 1) := by decide +kernel
theorem dX1_workedOut_21 : decode cX1_workedOut 21 = .ok (.if_icmp .ge 107, 3) := by decide +kernel
theorem dX1_workedOut_24 : decode cX1_workedOut 24 = .ok (.aload_n 1, 1) := by decide +kernel
theorem dX1_workedOut_25 : decode cX1_workedOut 25 = .ok (.getfield 40, 3) := by decide +kernel
theorem dX1_workedOut_28 : decode cX1_workedOut 28 = .ok (.iload 4, 2) := by decide +kernel
theorem dX1_workedOut_30 : decode cX1_workedOut 30 = .ok (.iaload, 1) := by decide +kernel
theorem dX1_workedOut_31 : decode cX1_workedOut 31 = .ok (.istore 5, 2) := by decide +kernel
theorem dX1_workedOut_33 : decode cX1_workedOut 33 = .ok (.iload 5, 2) := by decide +kernel
theorem dX1_workedOut_35 : decode cX1_workedOut 35 = .ok (.ifCond .lt 12, 3) := by decide +kernel
theorem dX1_workedOut_38 : decode cX1_workedOut 38 = .ok (.aload_n 0, 1) := by decide +kernel
theorem dX1_workedOut_39 : decode cX1_workedOut 39 = .ok (.iload 5, 2) := by decide +kernel
theorem dX1_workedOut_41 : decode cX1_workedOut 41 = .ok (.invokevirtual 43, 3) := by decide +kernel
theorem dX1_workedOut_44 : decode cX1_workedOut 44 = .ok (.goto 78, 3) := by decide +kernel
theorem dX1_workedOut_47 : decode cX1_workedOut 47 = .ok (.iload 5, 2) := by decide +kernel
theorem dX1_workedOut_49 : decode cX1_workedOut 49 = .ok (.ineg, 1) := by decide +kernel
theorem dX1_workedOut_50 : decode cX1_workedOut 50 = .ok (.bipush 97, 2) := by decide +kernel
theorem dX1_workedOut_52 : decode cX1_workedOut 52 = .ok (.bipush 122, 2) := by decide +kernel
theorem dX1_workedOut_54 : decode cX1_workedOut 54 = .ok (.invokestatic 47, 3) := by decide +kernel
theorem dX1_workedOut_57 : decode cX1_workedOut 57 = .ok (.ifCond .eq 17, 3) := by decide +kernel
theorem dX1_workedOut_60 : decode cX1_workedOut 60 = .ok (.aload_n 0, 1) := by decide +kernel
theorem dX1_workedOut_61 : decode cX1_workedOut 61 = .ok (.aload_n 0, 1) := by decide +kernel
theorem dX1_workedOut_62 : decode cX1_workedOut 62 = .ok (.iload 5, 2) := by decide +kernel
theorem dX1_workedOut_64 : decode cX1_workedOut 64 = .ok (.ineg, 1) := by decide +kernel
theorem dX1_workedOut_65 : decode cX1_workedOut 65 = .ok (.invokevirtual 51, 3) := by decide +kernel
theorem dX1_workedOut_68 : decode cX1_workedOut 68 = .ok (.invokevirtual 43, 3) := by decide +kernel
theorem dX1_workedOut_71 : decode cX1_workedOut 71 = .ok (.goto 51, 3) := by decide +kernel
theorem dX1_workedOut_74 : decode cX1_workedOut 74 = .ok (.iload 5, 2) := by decide +kernel
theorem dX1_workedOut_76 : decode cX1_workedOut 76 = .ok (.bipush (-33), 2) := by decide +kernel
theorem dX1_workedOut_78 : decode cX1_workedOut 78 = .ok (.if_icmp .ne 22, 3) := by decide +kernel
theorem dX1_workedOut_81 : decode cX1_workedOut 81 = .ok (.aload_n 0, 1) := by decide +kernel
theorem dX1_workedOut_82 : decode cX1_workedOut 82 = .ok (.aload_n 0, 1) := by decide +kernel
theorem dX1_workedOut_83 : decode cX1_workedOut 83 = .ok (.invokevirtual 54, 3) := by decide +kernel
theorem dX1_workedOut_86 : decode cX1_workedOut 86 = .ok (.ifCond .ne 7, 3) := by decide +kernel
theorem dX1_workedOut_89 : decode cX1_workedOut 89 = .ok (.iconst 1, 1) := by decide +kernel
theorem dX1_workedOut_90 : decode cX1_workedOut 90 = .ok (.goto 4, 3) := by decide +kernel
theorem dX1_workedOut_93 : decode cX1_workedOut 93 = .ok (.iconst 0, 1) := by decide +kernel
theorem dX1_workedOut_94 : decode cX1_workedOut 94 = .ok (.invokevirtual 43, 3) := by decide +kernel
theorem dX1_workedOut_97 : decode cX1_workedOut 97 = .ok (.goto 25, 3) := by decide +kernel
theorem dX1_workedOut_100 : decode cX1_workedOut 100 = .ok (.aload_n 0, 1) := by decide +kernel
theorem dX1_workedOut_101 : decode cX1_workedOut 101 = .ok (.invokevirtual 54, 3) := by decide +kernel
theorem dX1_workedOut_104 : decode cX1_workedOut 104 = .ok (.istore 6, 2) := by decide +kernel
theorem dX1_workedOut_106 : decode cX1_workedOut 106 = .ok (.aload_n 0, 1) := by decide +kernel
theorem dX1_workedOut_107 : decode cX1_workedOut 107 = .ok (.iload 5, 2) := by decide +kernel
theorem dX1_workedOut_109 : decode cX1_workedOut 109 = .ok (.ineg, 1) := by decide +kernel
theorem dX1_workedOut_110 : decode cX1_workedOut 110 = .ok (.aload_n 0, 1) := by decide +kernel
theorem dX1_workedOut_111 : decode cX1_workedOut 111 = .ok (.invokevirtual 54, 3) := by decide +kernel
theorem dX1_workedOut_114 : decode cX1_workedOut 114 = .ok (.iload 6, 2) := by decide +kernel
theorem dX1_workedOut_116 : decode cX1_workedOut 116 = .ok (.invokestatic 58, 3) := by decide +kernel
theorem dX1_workedOut_119 : decode cX1_workedOut 119 = .ok (.invokevirtual 43, 3) := by decide +kernel
theorem dX1_workedOut_122 : decode cX1_workedOut 122 = .ok (.iinc 4 1, 3) := by decide +kernel
theorem dX1_workedOut_125 : decode cX1_workedOut 125 = .ok (.goto (-107), 3) := by decide +kernel
theorem dX1_workedOut_128 : decode cX1_workedOut 128 = .ok (.aload_n 0, 1) := by decide +kernel
theorem dX1_workedOut_129 : decode cX1_workedOut 129 = .ok (.invokevirtual 54, 3) := by decide +kernel
theorem dX1_workedOut_132 : decode cX1_workedOut 132 = .ok (.ireturn, 1) := by decide +kernel
theorem dX1_push_0 : decode cX1_push 0 = .ok (.aload_n 0, 1) := by decide +kernel
theorem dX1_push_1 : decode cX1_push 1 = .ok (.getfield 28, 3) := by decide +kernel
theorem dX1_push_4 : decode cX1_push 4 = .ok (.aload_n 0, 1) := by decide +kernel
theorem dX1_push_5 : decode cX1_push 5 = .ok (.getfield 9, 3) := by decide +kernel
theorem dX1_push_8 : decode cX1_push 8 = .ok (.arraylength, 1) := by decide +kernel
theorem dX1_push_9 : decode cX1_push 9 = .ok (.if_icmp .ge 23, 3) := by decide +kernel
theorem dX1_push_12 : decode cX1_push 12 = .ok (.aload_n 0, 1) := by decide +kernel
theorem dX1_push_13 : decode cX1_push 13 = .ok (.getfield 9, 3) := by decide +kernel
theorem dX1_push_16 : decode cX1_push 16 = .ok (.aload_n 0, 1) := by decide +kernel
theorem dX1_push_17 : decode cX1_push 17 = .ok (.getfield 28, 3) := by decide +kernel
theorem dX1_push_20 : decode cX1_push 20 = .ok (.iload_n 1, 1) := by decide +kernel
theorem dX1_push_21 : decode cX1_push 21 = .ok (.iastore, 1) := by decide +kernel
theorem dX1_push_22 : decode cX1_push 22 = .ok (.aload_n 0, 1) := by decide +kernel
theorem dX1_push_23 : decode cX1_push 23 = .ok (.dup, 1) := by decide +kernel
theorem dX1_push_24 : decode cX1_push 24 = .ok (.getfield 28, 3) := by decide +kernel
theorem dX1_push_27 : decode cX1_push 27 = .ok (.iconst 1, 1) := by decide +kernel
theorem dX1_push_28 : decode cX1_push 28 = .ok (.iadd, 1) := by decide +kernel
theorem dX1_push_29 : decode cX1_push 29 = .ok (.putfield 28, 3) := by decide +kernel
theorem dX1_push_32 : decode cX1_push 32 = .ok (.return_, 1) := by decide +kernel
theorem dX1_pop_0 : decode cX1_pop 0 = .ok (.aload_n 0, 1) := by decide +kernel
theorem dX1_pop_1 : decode cX1_pop 1 = .ok (.getfield 28, 3) := by decide +kernel
theorem dX1_pop_4 : decode cX1_pop 4 = .ok (.ifCond .gt 5, 3) := by decide +kernel
theorem dX1_pop_7 : decode cX1_pop 7 = .ok (.iconst 0, 1) := by decide +kernel
theorem dX1_pop_8 : decode cX1_pop 8 = .ok (.ireturn, 1) := by decide +kernel
theorem dX1_pop_9 : decode cX1_pop 9 = .ok (.aload_n 0, 1) := by decide +kernel
theorem dX1_pop_10 : decode cX1_pop 10 = .ok (.dup, 1) := by decide +kernel
theorem dX1_pop_11 : decode cX1_pop 11 = .ok (.getfield 28, 3) := by decide +kernel
theorem dX1_pop_14 : decode cX1_pop 14 = .ok (.iconst 1, 1) := by decide +kernel
theorem dX1_pop_15 : decode cX1_pop 15 = .ok (.isub, 1) := by decide +kernel
theorem dX1_pop_16 : decode cX1_pop 16 = .ok (.putfield 28, 3) := by decide +kernel
theorem dX1_pop_19 : decode cX1_pop 19 = .ok (.aload_n 0, 1) := by decide +kernel
theorem dX1_pop_20 : decode cX1_pop 20 = .ok (.getfield 9, 3) := by decide +kernel
theorem dX1_pop_23 : decode cX1_pop 23 = .ok (.aload_n 0, 1) := by decide +kernel
theorem dX1_pop_24 : decode cX1_pop 24 = .ok (.getfield 28, 3) := by decide +kernel
theorem dX1_pop_27 : decode cX1_pop 27 = .ok (.iaload, 1) := by decide +kernel
theorem dX1_pop_28 : decode cX1_pop 28 = .ok (.ireturn, 1) := by decide +kernel
theorem dX1_named_0 : decode cX1_named 0 = .ok (.iload_n 1, 1) := by decide +kernel
theorem dX1_named_1 : decode cX1_named 1 = .ok (.tableswitch 127 99 116 #[102, 112, 127, 92, 127, 127, 127, 127, 122, 87, 127, 127, 107, 97, 127, 127, 127, 117], 87) := by decide +kernel
theorem dX1_named_88 : decode cX1_named 88 = .ok (.aload_n 0, 1) := by decide +kernel
theorem dX1_named_89 : decode cX1_named 89 = .ok (.getfield 15, 3) := by decide +kernel
theorem dX1_named_92 : decode cX1_named 92 = .ok (.ireturn, 1) := by decide +kernel
theorem dX1_named_93 : decode cX1_named 93 = .ok (.aload_n 0, 1) := by decide +kernel
theorem dX1_named_94 : decode cX1_named 94 = .ok (.getfield 19, 3) := by decide +kernel
theorem dX1_named_97 : decode cX1_named 97 = .ok (.ireturn, 1) := by decide +kernel
theorem dX1_named_98 : decode cX1_named 98 = .ok (.aload_n 0, 1) := by decide +kernel
theorem dX1_named_99 : decode cX1_named 99 = .ok (.getfield 62, 3) := by decide +kernel
theorem dX1_named_102 : decode cX1_named 102 = .ok (.ireturn, 1) := by decide +kernel
theorem dX1_named_103 : decode cX1_named 103 = .ok (.aload_n 0, 1) := by decide +kernel
theorem dX1_named_104 : decode cX1_named 104 = .ok (.getfield 65, 3) := by decide +kernel
theorem dX1_named_107 : decode cX1_named 107 = .ok (.ireturn, 1) := by decide +kernel
theorem dX1_named_108 : decode cX1_named 108 = .ok (.aload_n 0, 1) := by decide +kernel
theorem dX1_named_109 : decode cX1_named 109 = .ok (.getfield 68, 3) := by decide +kernel
theorem dX1_named_112 : decode cX1_named 112 = .ok (.ireturn, 1) := by decide +kernel
theorem dX1_named_113 : decode cX1_named 113 = .ok (.aload_n 0, 1) := by decide +kernel
theorem dX1_named_114 : decode cX1_named 114 = .ok (.getfield 71, 3) := by decide +kernel
theorem dX1_named_117 : decode cX1_named 117 = .ok (.ireturn, 1) := by decide +kernel
theorem dX1_named_118 : decode cX1_named 118 = .ok (.aload_n 0, 1) := by decide +kernel
theorem dX1_named_119 : decode cX1_named 119 = .ok (.getfield 22, 3) := by decide +kernel
theorem dX1_named_122 : decode cX1_named 122 = .ok (.ireturn, 1) := by decide +kernel
theorem dX1_named_123 : decode cX1_named 123 = .ok (.aload_n 0, 1) := by decide +kernel
theorem dX1_named_124 : decode cX1_named 124 = .ok (.getfield 25, 3) := by decide +kernel
theorem dX1_named_127 : decode cX1_named 127 = .ok (.ireturn, 1) := by decide +kernel
theorem dX1_named_128 : decode cX1_named 128 = .ok (.aload_n 0, 1) := by decide +kernel
theorem dX1_named_129 : decode cX1_named 129 = .ok (.getfield 74, 3) := by decide +kernel
theorem dX1_named_132 : decode cX1_named 132 = .ok (.ireturn, 1) := by decide +kernel
theorem dX1_joined_0 : decode cX1_joined 0 = .ok (.iload_n 0, 1) := by decide +kernel
theorem dX1_joined_1 : decode cX1_joined 1 = .ok (.lookupswitch 148 #[(38, 89), (42, 144), (43, 136), (45, 140), (60, 103), (61, 114), (62, 125), (124, 75)], 75) := by decide +kernel
theorem dX1_joined_76 : decode cX1_joined 76 = .ok (.iload_n 1, 1) := by decide +kernel
theorem dX1_joined_77 : decode cX1_joined 77 = .ok (.ifCond .ne 7, 3) := by decide +kernel
theorem dX1_joined_80 : decode cX1_joined 80 = .ok (.iload_n 2, 1) := by decide +kernel
theorem dX1_joined_81 : decode cX1_joined 81 = .ok (.ifCond .eq 7, 3) := by decide +kernel
theorem dX1_joined_84 : decode cX1_joined 84 = .ok (.iconst 1, 1) := by decide +kernel
theorem dX1_joined_85 : decode cX1_joined 85 = .ok (.goto 4, 3) := by decide +kernel
theorem dX1_joined_88 : decode cX1_joined 88 = .ok (.iconst 0, 1) := by decide +kernel
theorem dX1_joined_89 : decode cX1_joined 89 = .ok (.ireturn, 1) := by decide +kernel
theorem dX1_joined_90 : decode cX1_joined 90 = .ok (.iload_n 1, 1) := by decide +kernel
theorem dX1_joined_91 : decode cX1_joined 91 = .ok (.ifCond .eq 11, 3) := by decide +kernel
theorem dX1_joined_94 : decode cX1_joined 94 = .ok (.iload_n 2, 1) := by decide +kernel
theorem dX1_joined_95 : decode cX1_joined 95 = .ok (.ifCond .eq 7, 3) := by decide +kernel
theorem dX1_joined_98 : decode cX1_joined 98 = .ok (.iconst 1, 1) := by decide +kernel
theorem dX1_joined_99 : decode cX1_joined 99 = .ok (.goto 4, 3) := by decide +kernel
theorem dX1_joined_102 : decode cX1_joined 102 = .ok (.iconst 0, 1) := by decide +kernel
theorem dX1_joined_103 : decode cX1_joined 103 = .ok (.ireturn, 1) := by decide +kernel
theorem dX1_joined_104 : decode cX1_joined 104 = .ok (.iload_n 1, 1) := by decide +kernel
theorem dX1_joined_105 : decode cX1_joined 105 = .ok (.iload_n 2, 1) := by decide +kernel
theorem dX1_joined_106 : decode cX1_joined 106 = .ok (.if_icmp .ge 7, 3) := by decide +kernel
theorem dX1_joined_109 : decode cX1_joined 109 = .ok (.iconst 1, 1) := by decide +kernel
theorem dX1_joined_110 : decode cX1_joined 110 = .ok (.goto 4, 3) := by decide +kernel
theorem dX1_joined_113 : decode cX1_joined 113 = .ok (.iconst 0, 1) := by decide +kernel
theorem dX1_joined_114 : decode cX1_joined 114 = .ok (.ireturn, 1) := by decide +kernel
theorem dX1_joined_115 : decode cX1_joined 115 = .ok (.iload_n 1, 1) := by decide +kernel
theorem dX1_joined_116 : decode cX1_joined 116 = .ok (.iload_n 2, 1) := by decide +kernel
theorem dX1_joined_117 : decode cX1_joined 117 = .ok (.if_icmp .ne 7, 3) := by decide +kernel
theorem dX1_joined_120 : decode cX1_joined 120 = .ok (.iconst 1, 1) := by decide +kernel
theorem dX1_joined_121 : decode cX1_joined 121 = .ok (.goto 4, 3) := by decide +kernel
theorem dX1_joined_124 : decode cX1_joined 124 = .ok (.iconst 0, 1) := by decide +kernel
theorem dX1_joined_125 : decode cX1_joined 125 = .ok (.ireturn, 1) := by decide +kernel
theorem dX1_joined_126 : decode cX1_joined 126 = .ok (.iload_n 1, 1) := by decide +kernel
theorem dX1_joined_127 : decode cX1_joined 127 = .ok (.iload_n 2, 1) := by decide +kernel
theorem dX1_joined_128 : decode cX1_joined 128 = .ok (.if_icmp .le 7, 3) := by decide +kernel
theorem dX1_joined_131 : decode cX1_joined 131 = .ok (.iconst 1, 1) := by decide +kernel
theorem dX1_joined_132 : decode cX1_joined 132 = .ok (.goto 4, 3) := by decide +kernel
theorem dX1_joined_135 : decode cX1_joined 135 = .ok (.iconst 0, 1) := by decide +kernel
theorem dX1_joined_136 : decode cX1_joined 136 = .ok (.ireturn, 1) := by decide +kernel
theorem dX1_joined_137 : decode cX1_joined 137 = .ok (.iload_n 1, 1) := by decide +kernel
theorem dX1_joined_138 : decode cX1_joined 138 = .ok (.iload_n 2, 1) := by decide +kernel
theorem dX1_joined_139 : decode cX1_joined 139 = .ok (.iadd, 1) := by decide +kernel
theorem dX1_joined_140 : decode cX1_joined 140 = .ok (.ireturn, 1) := by decide +kernel
theorem dX1_joined_141 : decode cX1_joined 141 = .ok (.iload_n 1, 1) := by decide +kernel
theorem dX1_joined_142 : decode cX1_joined 142 = .ok (.iload_n 2, 1) := by decide +kernel
theorem dX1_joined_143 : decode cX1_joined 143 = .ok (.isub, 1) := by decide +kernel
theorem dX1_joined_144 : decode cX1_joined 144 = .ok (.ireturn, 1) := by decide +kernel
theorem dX1_joined_145 : decode cX1_joined 145 = .ok (.iload_n 1, 1) := by decide +kernel
theorem dX1_joined_146 : decode cX1_joined 146 = .ok (.iload_n 2, 1) := by decide +kernel
theorem dX1_joined_147 : decode cX1_joined 147 = .ok (.imul, 1) := by decide +kernel
theorem dX1_joined_148 : decode cX1_joined 148 = .ok (.ireturn, 1) := by decide +kernel
theorem dX1_joined_149 : decode cX1_joined 149 = .ok (.iload_n 2, 1) := by decide +kernel
theorem dX1_joined_150 : decode cX1_joined 150 = .ok (.ifCond .ne 7, 3) := by decide +kernel
theorem dX1_joined_153 : decode cX1_joined 153 = .ok (.iconst 0, 1) := by decide +kernel
theorem dX1_joined_154 : decode cX1_joined 154 = .ok (.goto 6, 3) := by decide +kernel
theorem dX1_joined_157 : decode cX1_joined 157 = .ok (.iload_n 1, 1) := by decide +kernel
theorem dX1_joined_158 : decode cX1_joined 158 = .ok (.iload_n 2, 1) := by decide +kernel
theorem dX1_joined_159 : decode cX1_joined 159 = .ok (.idiv, 1) := by decide +kernel
theorem dX1_joined_160 : decode cX1_joined 160 = .ok (.ireturn, 1) := by decide +kernel
theorem dX2_init_0 : decode cX2_init 0 = .ok (.aload_n 0, 1) := by decide +kernel
theorem dX2_init_1 : decode cX2_init 1 = .ok (.invokespecial 3, 3) := by decide +kernel
theorem dX2_init_4 : decode cX2_init 4 = .ok (.aload_n 0, 1) := by decide +kernel
theorem dX2_init_5 : decode cX2_init 5 = .ok (.new 9, 3) := by decide +kernel
theorem dX2_init_8 : decode cX2_init 8 = .ok (.dup, 1) := by decide +kernel
theorem dX2_init_9 : decode cX2_init 9 = .ok (.invokespecial 11, 3) := by decide +kernel
theorem dX2_init_12 : decode cX2_init 12 = .ok (.putfield 12, 3) := by decide +kernel
theorem dX2_init_15 : decode cX2_init 15 = .ok (.aload_n 0, 1) := by decide +kernel
theorem dX2_init_16 : decode cX2_init 16 = .ok (.bipush 100, 2) := by decide +kernel
theorem dX2_init_18 : decode cX2_init 18 = .ok (.newarray .int, 2) := by decide +kernel
theorem dX2_init_20 : decode cX2_init 20 = .ok (.putfield 18, 3) := by decide +kernel
theorem dX2_init_23 : decode cX2_init 23 = .ok (.aload_n 0, 1) := by decide +kernel
theorem dX2_init_24 : decode cX2_init 24 = .ok (.bipush 100, 2) := by decide +kernel
theorem dX2_init_26 : decode cX2_init 26 = .ok (.newarray .int, 2) := by decide +kernel
theorem dX2_init_28 : decode cX2_init 28 = .ok (.putfield 22, 3) := by decide +kernel
theorem dX2_init_31 : decode cX2_init 31 = .ok (.aload_n 0, 1) := by decide +kernel
theorem dX2_init_32 : decode cX2_init 32 = .ok (.bipush 100, 2) := by decide +kernel
theorem dX2_init_34 : decode cX2_init 34 = .ok (.newarray .int, 2) := by decide +kernel
theorem dX2_init_36 : decode cX2_init 36 = .ok (.putfield 25, 3) := by decide +kernel
theorem dX2_init_39 : decode cX2_init 39 = .ok (.aload_n 0, 1) := by decide +kernel
theorem dX2_init_40 : decode cX2_init 40 = .ok (.bipush 40, 2) := by decide +kernel
theorem dX2_init_42 : decode cX2_init 42 = .ok (.newarray .int, 2) := by decide +kernel
theorem dX2_init_44 : decode cX2_init 44 = .ok (.putfield 28, 3) := by decide +kernel
theorem dX2_init_47 : decode cX2_init 47 = .ok (.aload_n 0, 1) := by decide +kernel
theorem dX2_init_48 : decode cX2_init 48 = .ok (.iconst 4, 1) := by decide +kernel
theorem dX2_init_49 : decode cX2_init 49 = .ok (.newarray .int, 2) := by decide +kernel
theorem dX2_init_51 : decode cX2_init 51 = .ok (.putfield 31, 3) := by decide +kernel
theorem dX2_init_54 : decode cX2_init 54 = .ok (.aload_n 0, 1) := by decide +kernel
theorem dX2_init_55 : decode cX2_init 55 = .ok (.iconst 4, 1) := by decide +kernel
theorem dX2_init_56 : decode cX2_init 56 = .ok (.newarray .int, 2) := by decide +kernel
theorem dX2_init_58 : decode cX2_init 58 = .ok (.putfield 34, 3) := by decide +kernel
theorem dX2_init_61 : decode cX2_init 61 = .ok (.aload_n 0, 1) := by decide +kernel
theorem dX2_init_62 : decode cX2_init 62 = .ok (.bipush 100, 2) := by decide +kernel
theorem dX2_init_64 : decode cX2_init 64 = .ok (.newarray .int, 2) := by decide +kernel
theorem dX2_init_66 : decode cX2_init 66 = .ok (.putfield 37, 3) := by decide +kernel
theorem dX2_init_69 : decode cX2_init 69 = .ok (.aload_n 0, 1) := by decide +kernel
theorem dX2_init_70 : decode cX2_init 70 = .ok (.bipush 100, 2) := by decide +kernel
theorem dX2_init_72 : decode cX2_init 72 = .ok (.newarray .int, 2) := by decide +kernel
theorem dX2_init_74 : decode cX2_init 74 = .ok (.putfield 40, 3) := by decide +kernel
theorem dX2_init_77 : decode cX2_init 77 = .ok (.return_, 1) := by decide +kernel
theorem dX2_goThrough_0 : decode cX2_goThrough 0 = .ok (.aload_n 0, 1) := by decide +kernel
theorem dX2_goThrough_1 : decode cX2_goThrough 1 = .ok (.iconst 0, 1) := by decide +kernel
theorem dX2_goThrough_2 : decode cX2_goThrough 2 = .ok (.putfield 43, 3) := by decide +kernel
theorem dX2_goThrough_5 : decode cX2_goThrough 5 = .ok (.aload_n 0, 1) := by decide +kernel
theorem dX2_goThrough_6 : decode cX2_goThrough 6 = .ok (.getfield 28, 3) := by decide +kernel
theorem dX2_goThrough_9 : decode cX2_goThrough 9 = .ok (.iconst 0, 1) := by decide +kernel
theorem dX2_goThrough_10 : decode cX2_goThrough 10 = .ok (.invokestatic 47, 3) := by decide +kernel
theorem dX2_goThrough_13 : decode cX2_goThrough 13 = .ok (.aload_n 0, 1) := by decide +kernel
theorem dX2_goThrough_14 : decode cX2_goThrough 14 = .ok (.getfield 31, 3) := by decide +kernel
theorem dX2_goThrough_17 : decode cX2_goThrough 17 = .ok (.iconst 0, 1) := by decide +kernel
theorem dX2_goThrough_18 : decode cX2_goThrough 18 = .ok (.invokestatic 47, 3) := by decide +kernel
theorem dX2_goThrough_21 : decode cX2_goThrough 21 = .ok (.aload_n 0, 1) := by decide +kernel
theorem dX2_goThrough_22 : decode cX2_goThrough 22 = .ok (.getfield 34, 3) := by decide +kernel
theorem dX2_goThrough_25 : decode cX2_goThrough 25 = .ok (.iconst 0, 1) := by decide +kernel
theorem dX2_goThrough_26 : decode cX2_goThrough 26 = .ok (.invokestatic 47, 3) := by decide +kernel
theorem dX2_goThrough_29 : decode cX2_goThrough 29 = .ok (.aload_n 0, 1) := by decide +kernel
theorem dX2_goThrough_30 : decode cX2_goThrough 30 = .ok (.getfield 37, 3) := by decide +kernel
theorem dX2_goThrough_33 : decode cX2_goThrough 33 = .ok (.iconst 0, 1) := by decide +kernel
theorem dX2_goThrough_34 : decode cX2_goThrough 34 = .ok (.invokestatic 47, 3) := by decide +kernel
theorem dX2_goThrough_37 : decode cX2_goThrough 37 = .ok (.aload_n 0, 1) := by decide +kernel
theorem dX2_goThrough_38 : decode cX2_goThrough 38 = .ok (.getfield 40, 3) := by decide +kernel
theorem dX2_goThrough_41 : decode cX2_goThrough 41 = .ok (.iconst 0, 1) := by decide +kernel
theorem dX2_goThrough_42 : decode cX2_goThrough 42 = .ok (.invokestatic 47, 3) := by decide +kernel
theorem dX2_goThrough_45 : decode cX2_goThrough 45 = .ok (.aload_n 1, 1) := by decide +kernel
theorem dX2_goThrough_46 : decode cX2_goThrough 46 = .ok (.getfield 53, 3) := by decide +kernel
theorem dX2_goThrough_49 : decode cX2_goThrough 49 = .ok (.astore 4, 2) := by decide +kernel
theorem dX2_goThrough_51 : decode cX2_goThrough 51 = .ok (.iconst 0, 1) := by decide +kernel
theorem dX2_goThrough_52 : decode cX2_goThrough 52 = .ok (.istore 5, 2) := by decide +kernel
theorem dX2_goThrough_54 : decode cX2_goThrough 54 = .ok (.iload 5, 2) := by decide +kernel
theorem dX2_goThrough_56 : decode cX2_goThrough 56 = .ok (.aload 4, 2) := by decide +kernel
theorem dX2_goThrough_58 : decode cX2_goThrough 58 = .ok (.getfield 59, 3) := by decide +kernel
theorem dX2_goThrough_61 : decode cX2_goThrough 61 = .ok (.if_icmp .ge 142, 3) := by decide +kernel
theorem dX2_goThrough_64 : decode cX2_goThrough 64 = .ok (.aload 4, 2) := by decide +kernel
theorem dX2_goThrough_66 : decode cX2_goThrough 66 = .ok (.getfield 64, 3) := by decide +kernel
theorem dX2_goThrough_69 : decode cX2_goThrough 69 = .ok (.iload 5, 2) := by decide +kernel
theorem dX2_goThrough_71 : decode cX2_goThrough 71 = .ok (.iaload, 1) := by decide +kernel
theorem dX2_goThrough_72 : decode cX2_goThrough 72 = .ok (.istore 6, 2) := by decide +kernel
theorem dX2_goThrough_74 : decode cX2_goThrough 74 = .ok (.aload 4, 2) := by decide +kernel
theorem dX2_goThrough_76 : decode cX2_goThrough 76 = .ok (.getfield 67, 3) := by decide +kernel
theorem dX2_goThrough_79 : decode cX2_goThrough 79 = .ok (.iload 6, 2) := by decide +kernel
theorem dX2_goThrough_81 : decode cX2_goThrough 81 = .ok (.iaload, 1) := by decide +kernel
theorem dX2_goThrough_82 : decode cX2_goThrough 82 = .ok (.iload_n 2, 1) := by decide +kernel
theorem dX2_goThrough_83 : decode cX2_goThrough 83 = .ok (.if_icmp .gt 114, 3) := by decide +kernel
theorem dX2_goThrough_86 : decode cX2_goThrough 86 = .ok (.aload 4, 2) := by decide +kernel
theorem dX2_goThrough_88 : decode cX2_goThrough 88 = .ok (.iload 6, 2) := by decide +kernel
theorem dX2_goThrough_90 : decode cX2_goThrough 90 = .ok (.iload_n 3, 1) := by decide +kernel
theorem dX2_goThrough_91 : decode cX2_goThrough 91 = .ok (.invokevirtual 70, 3) := by decide +kernel
theorem dX2_goThrough_94 : decode cX2_goThrough 94 = .ok (.ifCond .eq 103, 3) := by decide +kernel
theorem dX2_goThrough_97 : decode cX2_goThrough 97 = .ok (.aload 4, 2) := by decide +kernel
theorem dX2_goThrough_99 : decode cX2_goThrough 99 = .ok (.getfield 74, 3) := by decide +kernel
theorem dX2_goThrough_102 : decode cX2_goThrough 102 = .ok (.iload 6, 2) := by decide +kernel
theorem dX2_goThrough_104 : decode cX2_goThrough 104 = .ok (.iaload, 1) := by decide +kernel
theorem dX2_goThrough_105 : decode cX2_goThrough 105 = .ok (.tableswitch 78 0 2 #[27, 44, 61], 27) := by decide +kernel
theorem dX2_goThrough_132 : decode cX2_goThrough 132 = .ok (.aload_n 0, 1) := by decide +kernel
theorem dX2_goThrough_133 : decode cX2_goThrough 133 = .ok (.getfield 37, 3) := by decide +kernel
theorem dX2_goThrough_136 : decode cX2_goThrough 136 = .ok (.iload 6, 2) := by decide +kernel
theorem dX2_goThrough_138 : decode cX2_goThrough 138 = .ok (.aload_n 0, 1) := by decide +kernel
theorem dX2_goThrough_139 : decode cX2_goThrough 139 = .ok (.aload_n 1, 1) := by decide +kernel
theorem dX2_goThrough_140 : decode cX2_goThrough 140 = .ok (.iload 6, 2) := by decide +kernel
theorem dX2_goThrough_142 : decode cX2_goThrough 142 = .ok (.invokevirtual 77, 3) := by decide +kernel
theorem dX2_goThrough_145 : decode cX2_goThrough 145 = .ok (.iastore, 1) := by decide +kernel
theorem dX2_goThrough_146 : decode cX2_goThrough 146 = .ok (.goto 51, 3) := by decide +kernel
theorem dX2_goThrough_149 : decode cX2_goThrough 149 = .ok (.aload_n 0, 1) := by decide +kernel
theorem dX2_goThrough_150 : decode cX2_goThrough 150 = .ok (.getfield 37, 3) := by decide +kernel
theorem dX2_goThrough_153 : decode cX2_goThrough 153 = .ok (.iload 6, 2) := by decide +kernel
theorem dX2_goThrough_155 : decode cX2_goThrough 155 = .ok (.aload_n 0, 1) := by decide +kernel
theorem dX2_goThrough_156 : decode cX2_goThrough 156 = .ok (.aload_n 1, 1) := by decide +kernel
theorem dX2_goThrough_157 : decode cX2_goThrough 157 = .ok (.iload 6, 2) := by decide +kernel
theorem dX2_goThrough_159 : decode cX2_goThrough 159 = .ok (.invokevirtual 81, 3) := by decide +kernel
theorem dX2_goThrough_162 : decode cX2_goThrough 162 = .ok (.iastore, 1) := by decide +kernel
theorem dX2_goThrough_163 : decode cX2_goThrough 163 = .ok (.goto 34, 3) := by decide +kernel
theorem dX2_goThrough_166 : decode cX2_goThrough 166 = .ok (.aload_n 0, 1) := by decide +kernel
theorem dX2_goThrough_167 : decode cX2_goThrough 167 = .ok (.getfield 37, 3) := by decide +kernel
theorem dX2_goThrough_170 : decode cX2_goThrough 170 = .ok (.iload 6, 2) := by decide +kernel
theorem dX2_goThrough_172 : decode cX2_goThrough 172 = .ok (.aload_n 0, 1) := by decide +kernel
theorem dX2_goThrough_173 : decode cX2_goThrough 173 = .ok (.aload_n 1, 1) := by decide +kernel
theorem dX2_goThrough_174 : decode cX2_goThrough 174 = .ok (.iload 6, 2) := by decide +kernel
theorem dX2_goThrough_176 : decode cX2_goThrough 176 = .ok (.invokevirtual 84, 3) := by decide +kernel
theorem dX2_goThrough_179 : decode cX2_goThrough 179 = .ok (.iastore, 1) := by decide +kernel
theorem dX2_goThrough_180 : decode cX2_goThrough 180 = .ok (.goto 17, 3) := by decide +kernel
theorem dX2_goThrough_183 : decode cX2_goThrough 183 = .ok (.aload_n 0, 1) := by decide +kernel
theorem dX2_goThrough_184 : decode cX2_goThrough 184 = .ok (.getfield 37, 3) := by decide +kernel
theorem dX2_goThrough_187 : decode cX2_goThrough 187 = .ok (.iload 6, 2) := by decide +kernel
theorem dX2_goThrough_189 : decode cX2_goThrough 189 = .ok (.aload_n 0, 1) := by decide +kernel
theorem dX2_goThrough_190 : decode cX2_goThrough 190 = .ok (.aload_n 1, 1) := by decide +kernel
theorem dX2_goThrough_191 : decode cX2_goThrough 191 = .ok (.iload 6, 2) := by decide +kernel
theorem dX2_goThrough_193 : decode cX2_goThrough 193 = .ok (.invokevirtual 87, 3) := by decide +kernel
theorem dX2_goThrough_196 : decode cX2_goThrough 196 = .ok (.iastore, 1) := by decide +kernel
theorem dX2_goThrough_197 : decode cX2_goThrough 197 = .ok (.iinc 5 1, 3) := by decide +kernel
theorem dX2_goThrough_200 : decode cX2_goThrough 200 = .ok (.goto (-146), 3) := by decide +kernel
theorem dX2_goThrough_203 : decode cX2_goThrough 203 = .ok (.return_, 1) := by decide +kernel
theorem dX2_bringFly_0 : decode cX2_bringFly 0 = .ok (.aload_n 1, 1) := by decide +kernel
theorem dX2_bringFly_1 : decode cX2_bringFly 1 = .ok (.getfield 53, 3) := by decide +kernel
theorem dX2_bringFly_4 : decode cX2_bringFly 4 = .ok (.astore_n 3, 1) := by decide +kernel
theorem dX2_bringFly_5 : decode cX2_bringFly 5 = .ok (.aload_n 3, 1) := by decide +kernel
theorem dX2_bringFly_6 : decode cX2_bringFly 6 = .ok (.getfield 90, 3) := by decide +kernel
theorem dX2_bringFly_9 : decode cX2_bringFly 9 = .ok (.iload_n 2, 1) := by decide +kernel
theorem dX2_bringFly_10 : decode cX2_bringFly 10 = .ok (.iaload, 1) := by decide +kernel
theorem dX2_bringFly_11 : decode cX2_bringFly 11 = .ok (.istore 4, 2) := by decide +kernel
theorem dX2_bringFly_13 : decode cX2_bringFly 13 = .ok (.aload_n 3, 1) := by decide +kernel
theorem dX2_bringFly_14 : decode cX2_bringFly 14 = .ok (.getfield 67, 3) := by decide +kernel
theorem dX2_bringFly_17 : decode cX2_bringFly 17 = .ok (.iload_n 2, 1) := by decide +kernel
theorem dX2_bringFly_18 : decode cX2_bringFly 18 = .ok (.iaload, 1) := by decide +kernel
theorem dX2_bringFly_19 : decode cX2_bringFly 19 = .ok (.istore 5, 2) := by decide +kernel
theorem dX2_bringFly_21 : decode cX2_bringFly 21 = .ok (.aload_n 3, 1) := by decide +kernel
theorem dX2_bringFly_22 : decode cX2_bringFly 22 = .ok (.getfield 93, 3) := by decide +kernel
theorem dX2_bringFly_25 : decode cX2_bringFly 25 = .ok (.iload_n 2, 1) := by decide +kernel
theorem dX2_bringFly_26 : decode cX2_bringFly 26 = .ok (.iaload, 1) := by decide +kernel
theorem dX2_bringFly_27 : decode cX2_bringFly 27 = .ok (.istore 6, 2) := by decide +kernel
theorem dX2_bringFly_29 : decode cX2_bringFly 29 = .ok (.aload_n 0, 1) := by decide +kernel
theorem dX2_bringFly_30 : decode cX2_bringFly 30 = .ok (.aload_n 1, 1) := by decide +kernel
theorem dX2_bringFly_31 : decode cX2_bringFly 31 = .ok (.iload 4, 2) := by decide +kernel
theorem dX2_bringFly_33 : decode cX2_bringFly 33 = .ok (.iload 5, 2) := by decide +kernel
theorem dX2_bringFly_35 : decode cX2_bringFly 35 = .ok (.invokevirtual 96, 3) := by decide +kernel
theorem dX2_bringFly_38 : decode cX2_bringFly 38 = .ok (.istore 7, 2) := by decide +kernel
theorem dX2_bringFly_40 : decode cX2_bringFly 40 = .ok (.aload_n 1, 1) := by decide +kernel
theorem dX2_bringFly_41 : decode cX2_bringFly 41 = .ok (.getfield 100, 3) := by decide +kernel
theorem dX2_bringFly_44 : decode cX2_bringFly 44 = .ok (.iload 5, 2) := by decide +kernel
theorem dX2_bringFly_46 : decode cX2_bringFly 46 = .ok (.invokevirtual 104, 3) := by decide +kernel
theorem dX2_bringFly_49 : decode cX2_bringFly 49 = .ok (.astore 8, 2) := by decide +kernel
theorem dX2_bringFly_51 : decode cX2_bringFly 51 = .ok (.aload_n 0, 1) := by decide +kernel
theorem dX2_bringFly_52 : decode cX2_bringFly 52 = .ok (.getfield 12, 3) := by decide +kernel
theorem dX2_bringFly_55 : decode cX2_bringFly 55 = .ok (.aload_n 3, 1) := by decide +kernel
theorem dX2_bringFly_56 : decode cX2_bringFly 56 = .ok (.getfield 110, 3) := by decide +kernel
theorem dX2_bringFly_59 : decode cX2_bringFly 59 = .ok (.iload_n 2, 1) := by decide +kernel
theorem dX2_bringFly_60 : decode cX2_bringFly 60 = .ok (.iaload, 1) := by decide +kernel
theorem dX2_bringFly_61 : decode cX2_bringFly 61 = .ok (.iload 6, 2) := by decide +kernel
theorem dX2_bringFly_63 : decode cX2_bringFly 63 = .ok (.bipush 10, 2) := by decide +kernel
theorem dX2_bringFly_65 : decode cX2_bringFly 65 = .ok (.idiv, 1) := by decide +kernel
theorem dX2_bringFly_66 : decode cX2_bringFly 66 = .ok (.invokevirtual 113, 3) := by decide +kernel
theorem dX2_bringFly_69 : decode cX2_bringFly 69 = .ok (.aload_n 0, 1) := by decide +kernel
theorem dX2_bringFly_70 : decode cX2_bringFly 70 = .ok (.getfield 12, 3) := by decide +kernel
theorem dX2_bringFly_73 : decode cX2_bringFly 73 = .ok (.iload 7, 2) := by decide +kernel
theorem dX2_bringFly_75 : decode cX2_bringFly 75 = .ok (.aload_n 1, 1) := by decide +kernel
theorem dX2_bringFly_76 : decode cX2_bringFly 76 = .ok (.getfield 117, 3) := by decide +kernel
theorem dX2_bringFly_79 : decode cX2_bringFly 79 = .ok (.getfield 121, 3) := by decide +kernel
theorem dX2_bringFly_82 : decode cX2_bringFly 82 = .ok (.iload 4, 2) := by decide +kernel
theorem dX2_bringFly_84 : decode cX2_bringFly 84 = .ok (.iaload, 1) := by decide +kernel
theorem dX2_bringFly_85 : decode cX2_bringFly 85 = .ok (.invokevirtual 124, 3) := by decide +kernel
theorem dX2_bringFly_88 : decode cX2_bringFly 88 = .ok (.aload_n 0, 1) := by decide +kernel
theorem dX2_bringFly_89 : decode cX2_bringFly 89 = .ok (.getfield 12, 3) := by decide +kernel
theorem dX2_bringFly_92 : decode cX2_bringFly 92 = .ok (.iload 6, 2) := by decide +kernel
theorem dX2_bringFly_94 : decode cX2_bringFly 94 = .ok (.bipush 10, 2) := by decide +kernel
theorem dX2_bringFly_96 : decode cX2_bringFly 96 = .ok (.irem, 1) := by decide +kernel
theorem dX2_bringFly_97 : decode cX2_bringFly 97 = .ok (.putfield 127, 3) := by decide +kernel
theorem dX2_bringFly_100 : decode cX2_bringFly 100 = .ok (.aload_n 0, 1) := by decide +kernel
theorem dX2_bringFly_101 : decode cX2_bringFly 101 = .ok (.getfield 12, 3) := by decide +kernel
theorem dX2_bringFly_104 : decode cX2_bringFly 104 = .ok (.aload_n 3, 1) := by decide +kernel
theorem dX2_bringFly_105 : decode cX2_bringFly 105 = .ok (.getfield 130, 3) := by decide +kernel
theorem dX2_bringFly_108 : decode cX2_bringFly 108 = .ok (.iload_n 2, 1) := by decide +kernel
theorem dX2_bringFly_109 : decode cX2_bringFly 109 = .ok (.iaload, 1) := by decide +kernel
theorem dX2_bringFly_110 : decode cX2_bringFly 110 = .ok (.putfield 133, 3) := by decide +kernel
theorem dX2_bringFly_113 : decode cX2_bringFly 113 = .ok (.aload_n 0, 1) := by decide +kernel
theorem dX2_bringFly_114 : decode cX2_bringFly 114 = .ok (.getfield 12, 3) := by decide +kernel
theorem dX2_bringFly_117 : decode cX2_bringFly 117 = .ok (.aload 8, 2) := by decide +kernel
theorem dX2_bringFly_119 : decode cX2_bringFly 119 = .ok (.iconst 0, 1) := by decide +kernel
theorem dX2_bringFly_120 : decode cX2_bringFly 120 = .ok (.invokevirtual 135, 3) := by decide +kernel
theorem dX2_bringFly_123 : decode cX2_bringFly 123 = .ok (.iconst 0, 1) := by decide +kernel
theorem dX2_bringFly_124 : decode cX2_bringFly 124 = .ok (.ldc 139, 2) := by decide +kernel
theorem dX2_bringFly_126 : decode cX2_bringFly 126 = .ok (.invokestatic 140, 3) := by decide +kernel
theorem dX2_bringFly_129 : decode cX2_bringFly 129 = .ok (.istore 9, 2) := by decide +kernel
theorem dX2_bringFly_131 : decode cX2_bringFly 131 = .ok (.sipush 9999, 3) := by decide +kernel
theorem dX2_bringFly_134 : decode cX2_bringFly 134 = .ok (.istore 10, 2) := by decide +kernel
theorem dX2_bringFly_136 : decode cX2_bringFly 136 = .ok (.aload_n 1, 1) := by decide +kernel
theorem dX2_bringFly_137 : decode cX2_bringFly 137 = .ok (.getfield 117, 3) := by decide +kernel
theorem dX2_bringFly_140 : decode cX2_bringFly 140 = .ok (.getfield 121, 3) := by decide +kernel
theorem dX2_bringFly_143 : decode cX2_bringFly 143 = .ok (.iload 4, 2) := by decide +kernel
theorem dX2_bringFly_145 : decode cX2_bringFly 145 = .ok (.iaload, 1) := by decide +kernel
theorem dX2_bringFly_146 : decode cX2_bringFly 146 = .ok (.iconst 1, 1) := by decide +kernel
theorem dX2_bringFly_147 : decode cX2_bringFly 147 = .ok (.if_icmp .eq 22, 3) := by decide +kernel
theorem dX2_bringFly_150 : decode cX2_bringFly 150 = .ok (.aload_n 0, 1) := by decide +kernel
theorem dX2_bringFly_151 : decode cX2_bringFly 151 = .ok (.getfield 12, 3) := by decide +kernel
theorem dX2_bringFly_154 : decode cX2_bringFly 154 = .ok (.aload 8, 2) := by decide +kernel
theorem dX2_bringFly_156 : decode cX2_bringFly 156 = .ok (.iconst 1, 1) := by decide +kernel
theorem dX2_bringFly_157 : decode cX2_bringFly 157 = .ok (.invokevirtual 135, 3) := by decide +kernel
theorem dX2_bringFly_160 : decode cX2_bringFly 160 = .ok (.iconst 1, 1) := by decide +kernel
theorem dX2_bringFly_161 : decode cX2_bringFly 161 = .ok (.sipush 9999, 3) := by decide +kernel
theorem dX2_bringFly_164 : decode cX2_bringFly 164 = .ok (.invokestatic 140, 3) := by decide +kernel
theorem dX2_bringFly_167 : decode cX2_bringFly 167 = .ok (.istore 10, 2) := by decide +kernel
theorem dX2_bringFly_169 : decode cX2_bringFly 169 = .ok (.aload_n 0, 1) := by decide +kernel
theorem dX2_bringFly_170 : decode cX2_bringFly 170 = .ok (.iload 4, 2) := by decide +kernel
theorem dX2_bringFly_172 : decode cX2_bringFly 172 = .ok (.iload 9, 2) := by decide +kernel
theorem dX2_bringFly_174 : decode cX2_bringFly 174 = .ok (.iload 5, 2) := by decide +kernel
theorem dX2_bringFly_176 : decode cX2_bringFly 176 = .ok (.iload 10, 2) := by decide +kernel
theorem dX2_bringFly_178 : decode cX2_bringFly 178 = .ok (.iadd, 1) := by decide +kernel
theorem dX2_bringFly_179 : decode cX2_bringFly 179 = .ok (.invokevirtual 144, 3) := by decide +kernel
theorem dX2_bringFly_182 : decode cX2_bringFly 182 = .ok (.aload_n 0, 1) := by decide +kernel
theorem dX2_bringFly_183 : decode cX2_bringFly 183 = .ok (.getfield 28, 3) := by decide +kernel
theorem dX2_bringFly_186 : decode cX2_bringFly 186 = .ok (.iload 4, 2) := by decide +kernel
theorem dX2_bringFly_188 : decode cX2_bringFly 188 = .ok (.iconst 4, 1) := by decide +kernel
theorem dX2_bringFly_189 : decode cX2_bringFly 189 = .ok (.imul, 1) := by decide +kernel
theorem dX2_bringFly_190 : decode cX2_bringFly 190 = .ok (.iload 5, 2) := by decide +kernel
theorem dX2_bringFly_192 : decode cX2_bringFly 192 = .ok (.sipush 360, 3) := by decide +kernel
theorem dX2_bringFly_195 : decode cX2_bringFly 195 = .ok (.idiv, 1) := by decide +kernel
theorem dX2_bringFly_196 : decode cX2_bringFly 196 = .ok (.iadd, 1) := by decide +kernel
theorem dX2_bringFly_197 : decode cX2_bringFly 197 = .ok (.dup2, 1) := by decide +kernel
theorem dX2_bringFly_198 : decode cX2_bringFly 198 = .ok (.iaload, 1) := by decide +kernel
theorem dX2_bringFly_199 : decode cX2_bringFly 199 = .ok (.iload 9, 2) := by decide +kernel
theorem dX2_bringFly_201 : decode cX2_bringFly 201 = .ok (.iadd, 1) := by decide +kernel
theorem dX2_bringFly_202 : decode cX2_bringFly 202 = .ok (.iastore, 1) := by decide +kernel
theorem dX2_bringFly_203 : decode cX2_bringFly 203 = .ok (.aload_n 0, 1) := by decide +kernel
theorem dX2_bringFly_204 : decode cX2_bringFly 204 = .ok (.getfield 31, 3) := by decide +kernel
theorem dX2_bringFly_207 : decode cX2_bringFly 207 = .ok (.iload 6, 2) := by decide +kernel
theorem dX2_bringFly_209 : decode cX2_bringFly 209 = .ok (.bipush 10, 2) := by decide +kernel
theorem dX2_bringFly_211 : decode cX2_bringFly 211 = .ok (.irem, 1) := by decide +kernel
theorem dX2_bringFly_212 : decode cX2_bringFly 212 = .ok (.dup2, 1) := by decide +kernel
theorem dX2_bringFly_213 : decode cX2_bringFly 213 = .ok (.iaload, 1) := by decide +kernel
theorem dX2_bringFly_214 : decode cX2_bringFly 214 = .ok (.iload 9, 2) := by decide +kernel
theorem dX2_bringFly_216 : decode cX2_bringFly 216 = .ok (.iadd, 1) := by decide +kernel
theorem dX2_bringFly_217 : decode cX2_bringFly 217 = .ok (.iastore, 1) := by decide +kernel
theorem dX2_bringFly_218 : decode cX2_bringFly 218 = .ok (.iload 9, 2) := by decide +kernel
theorem dX2_bringFly_220 : decode cX2_bringFly 220 = .ok (.ireturn, 1) := by decide +kernel
theorem dX2_bringSpend_0 : decode cX2_bringSpend 0 = .ok (.aload_n 1, 1) := by decide +kernel
theorem dX2_bringSpend_1 : decode cX2_bringSpend 1 = .ok (.getfield 53, 3) := by decide +kernel
theorem dX2_bringSpend_4 : decode cX2_bringSpend 4 = .ok (.astore_n 3, 1) := by decide +kernel
theorem dX2_bringSpend_5 : decode cX2_bringSpend 5 = .ok (.aload_n 3, 1) := by decide +kernel
theorem dX2_bringSpend_6 : decode cX2_bringSpend 6 = .ok (.getfield 90, 3) := by decide +kernel
theorem dX2_bringSpend_9 : decode cX2_bringSpend 9 = .ok (.iload_n 2, 1) := by decide +kernel
theorem dX2_bringSpend_10 : decode cX2_bringSpend 10 = .ok (.iaload, 1) := by decide +kernel
theorem dX2_bringSpend_11 : decode cX2_bringSpend 11 = .ok (.istore 4, 2) := by decide +kernel
theorem dX2_bringSpend_13 : decode cX2_bringSpend 13 = .ok (.aload_n 3, 1) := by decide +kernel
theorem dX2_bringSpend_14 : decode cX2_bringSpend 14 = .ok (.getfield 110, 3) := by decide +kernel
theorem dX2_bringSpend_17 : decode cX2_bringSpend 17 = .ok (.iload_n 2, 1) := by decide +kernel
theorem dX2_bringSpend_18 : decode cX2_bringSpend 18 = .ok (.iaload, 1) := by decide +kernel
theorem dX2_bringSpend_19 : decode cX2_bringSpend 19 = .ok (.istore 5, 2) := by decide +kernel
theorem dX2_bringSpend_21 : decode cX2_bringSpend 21 = .ok (.aload_n 3, 1) := by decide +kernel
theorem dX2_bringSpend_22 : decode cX2_bringSpend 22 = .ok (.getfield 67, 3) := by decide +kernel
theorem dX2_bringSpend_25 : decode cX2_bringSpend 25 = .ok (.iload_n 2, 1) := by decide +kernel
theorem dX2_bringSpend_26 : decode cX2_bringSpend 26 = .ok (.iaload, 1) := by decide +kernel
theorem dX2_bringSpend_27 : decode cX2_bringSpend 27 = .ok (.istore 6, 2) := by decide +kernel
theorem dX2_bringSpend_29 : decode cX2_bringSpend 29 = .ok (.aload_n 0, 1) := by decide +kernel
theorem dX2_bringSpend_30 : decode cX2_bringSpend 30 = .ok (.aload_n 1, 1) := by decide +kernel
theorem dX2_bringSpend_31 : decode cX2_bringSpend 31 = .ok (.getfield 117, 3) := by decide +kernel
theorem dX2_bringSpend_34 : decode cX2_bringSpend 34 = .ok (.iload 4, 2) := by decide +kernel
theorem dX2_bringSpend_36 : decode cX2_bringSpend 36 = .ok (.iconst 1, 1) := by decide +kernel
theorem dX2_bringSpend_37 : decode cX2_bringSpend 37 = .ok (.iload 6, 2) := by decide +kernel
theorem dX2_bringSpend_39 : decode cX2_bringSpend 39 = .ok (.invokevirtual 148, 3) := by decide +kernel
theorem dX2_bringSpend_42 : decode cX2_bringSpend 42 = .ok (.iload 5, 2) := by decide +kernel
theorem dX2_bringSpend_44 : decode cX2_bringSpend 44 = .ok (.if_icmp .ge 5, 3) := by decide +kernel
theorem dX2_bringSpend_47 : decode cX2_bringSpend 47 = .ok (.iconst 0, 1) := by decide +kernel
theorem dX2_bringSpend_48 : decode cX2_bringSpend 48 = .ok (.ireturn, 1) := by decide +kernel
theorem dX2_bringSpend_49 : decode cX2_bringSpend 49 = .ok (.aload_n 0, 1) := by decide +kernel
theorem dX2_bringSpend_50 : decode cX2_bringSpend 50 = .ok (.aload_n 1, 1) := by decide +kernel
theorem dX2_bringSpend_51 : decode cX2_bringSpend 51 = .ok (.getfield 117, 3) := by decide +kernel
theorem dX2_bringSpend_54 : decode cX2_bringSpend 54 = .ok (.iload 4, 2) := by decide +kernel
theorem dX2_bringSpend_56 : decode cX2_bringSpend 56 = .ok (.iconst 1, 1) := by decide +kernel
theorem dX2_bringSpend_57 : decode cX2_bringSpend 57 = .ok (.iload 6, 2) := by decide +kernel
theorem dX2_bringSpend_59 : decode cX2_bringSpend 59 = .ok (.iload 5, 2) := by decide +kernel
theorem dX2_bringSpend_61 : decode cX2_bringSpend 61 = .ok (.invokevirtual 152, 3) := by decide +kernel
theorem dX2_bringSpend_64 : decode cX2_bringSpend 64 = .ok (.pop, 1) := by decide +kernel
theorem dX2_bringSpend_65 : decode cX2_bringSpend 65 = .ok (.aload_n 0, 1) := by decide +kernel
theorem dX2_bringSpend_66 : decode cX2_bringSpend 66 = .ok (.getfield 34, 3) := by decide +kernel
theorem dX2_bringSpend_69 : decode cX2_bringSpend 69 = .ok (.aload_n 3, 1) := by decide +kernel
theorem dX2_bringSpend_70 : decode cX2_bringSpend 70 = .ok (.getfield 93, 3) := by decide +kernel
theorem dX2_bringSpend_73 : decode cX2_bringSpend 73 = .ok (.iload_n 2, 1) := by decide +kernel
theorem dX2_bringSpend_74 : decode cX2_bringSpend 74 = .ok (.iaload, 1) := by decide +kernel
theorem dX2_bringSpend_75 : decode cX2_bringSpend 75 = .ok (.dup2, 1) := by decide +kernel
theorem dX2_bringSpend_76 : decode cX2_bringSpend 76 = .ok (.iaload, 1) := by decide +kernel
theorem dX2_bringSpend_77 : decode cX2_bringSpend 77 = .ok (.iload 5, 2) := by decide +kernel
theorem dX2_bringSpend_79 : decode cX2_bringSpend 79 = .ok (.iadd, 1) := by decide +kernel
theorem dX2_bringSpend_80 : decode cX2_bringSpend 80 = .ok (.iastore, 1) := by decide +kernel
theorem dX2_bringSpend_81 : decode cX2_bringSpend 81 = .ok (.iload 5, 2) := by decide +kernel
theorem dX2_bringSpend_83 : decode cX2_bringSpend 83 = .ok (.ireturn, 1) := by decide +kernel
theorem dX2_bringGift_0 : decode cX2_bringGift 0 = .ok (.aload_n 1, 1) := by decide +kernel
theorem dX2_bringGift_1 : decode cX2_bringGift 1 = .ok (.getfield 53, 3) := by decide +kernel
theorem dX2_bringGift_4 : decode cX2_bringGift 4 = .ok (.astore_n 3, 1) := by decide +kernel
theorem dX2_bringGift_5 : decode cX2_bringGift 5 = .ok (.aload_n 3, 1) := by decide +kernel
theorem dX2_bringGift_6 : decode cX2_bringGift 6 = .ok (.getfield 90, 3) := by decide +kernel
theorem dX2_bringGift_9 : decode cX2_bringGift 9 = .ok (.iload_n 2, 1) := by decide +kernel
theorem dX2_bringGift_10 : decode cX2_bringGift 10 = .ok (.iaload, 1) := by decide +kernel
theorem dX2_bringGift_11 : decode cX2_bringGift 11 = .ok (.istore 4, 2) := by decide +kernel
theorem dX2_bringGift_13 : decode cX2_bringGift 13 = .ok (.aload_n 3, 1) := by decide +kernel
theorem dX2_bringGift_14 : decode cX2_bringGift 14 = .ok (.getfield 110, 3) := by decide +kernel
theorem dX2_bringGift_17 : decode cX2_bringGift 17 = .ok (.iload_n 2, 1) := by decide +kernel
theorem dX2_bringGift_18 : decode cX2_bringGift 18 = .ok (.iaload, 1) := by decide +kernel
theorem dX2_bringGift_19 : decode cX2_bringGift 19 = .ok (.istore 5, 2) := by decide +kernel
theorem dX2_bringGift_21 : decode cX2_bringGift 21 = .ok (.aload_n 3, 1) := by decide +kernel
theorem dX2_bringGift_22 : decode cX2_bringGift 22 = .ok (.getfield 67, 3) := by decide +kernel
theorem dX2_bringGift_25 : decode cX2_bringGift 25 = .ok (.iload_n 2, 1) := by decide +kernel
theorem dX2_bringGift_26 : decode cX2_bringGift 26 = .ok (.iaload, 1) := by decide +kernel
theorem dX2_bringGift_27 : decode cX2_bringGift 27 = .ok (.istore 6, 2) := by decide +kernel
theorem dX2_bringGift_29 : decode cX2_bringGift 29 = .ok (.aload_n 0, 1) := by decide +kernel
theorem dX2_bringGift_30 : decode cX2_bringGift 30 = .ok (.aload_n 1, 1) := by decide +kernel
theorem dX2_bringGift_31 : decode cX2_bringGift 31 = .ok (.getfield 117, 3) := by decide +kernel
theorem dX2_bringGift_34 : decode cX2_bringGift 34 = .ok (.iload 4, 2) := by decide +kernel
theorem dX2_bringGift_36 : decode cX2_bringGift 36 = .ok (.iconst 0, 1) := by decide +kernel
theorem dX2_bringGift_37 : decode cX2_bringGift 37 = .ok (.iload 6, 2) := by decide +kernel
theorem dX2_bringGift_39 : decode cX2_bringGift 39 = .ok (.invokevirtual 148, 3) := by decide +kernel
theorem dX2_bringGift_42 : decode cX2_bringGift 42 = .ok (.iload 5, 2) := by decide +kernel
theorem dX2_bringGift_44 : decode cX2_bringGift 44 = .ok (.if_icmp .ge 5, 3) := by decide +kernel
theorem dX2_bringGift_47 : decode cX2_bringGift 47 = .ok (.iconst 0, 1) := by decide +kernel
theorem dX2_bringGift_48 : decode cX2_bringGift 48 = .ok (.ireturn, 1) := by decide +kernel
theorem dX2_bringGift_49 : decode cX2_bringGift 49 = .ok (.aload_n 0, 1) := by decide +kernel
theorem dX2_bringGift_50 : decode cX2_bringGift 50 = .ok (.aload_n 1, 1) := by decide +kernel
theorem dX2_bringGift_51 : decode cX2_bringGift 51 = .ok (.getfield 117, 3) := by decide +kernel
theorem dX2_bringGift_54 : decode cX2_bringGift 54 = .ok (.iload 4, 2) := by decide +kernel
theorem dX2_bringGift_56 : decode cX2_bringGift 56 = .ok (.iconst 0, 1) := by decide +kernel
theorem dX2_bringGift_57 : decode cX2_bringGift 57 = .ok (.iload 6, 2) := by decide +kernel
theorem dX2_bringGift_59 : decode cX2_bringGift 59 = .ok (.iload 5, 2) := by decide +kernel
theorem dX2_bringGift_61 : decode cX2_bringGift 61 = .ok (.invokevirtual 152, 3) := by decide +kernel
theorem dX2_bringGift_64 : decode cX2_bringGift 64 = .ok (.istore 7, 2) := by decide +kernel
theorem dX2_bringGift_66 : decode cX2_bringGift 66 = .ok (.aload_n 0, 1) := by decide +kernel
theorem dX2_bringGift_67 : decode cX2_bringGift 67 = .ok (.aload_n 3, 1) := by decide +kernel
theorem dX2_bringGift_68 : decode cX2_bringGift 68 = .ok (.getfield 93, 3) := by decide +kernel
theorem dX2_bringGift_71 : decode cX2_bringGift 71 = .ok (.iload_n 2, 1) := by decide +kernel
theorem dX2_bringGift_72 : decode cX2_bringGift 72 = .ok (.iaload, 1) := by decide +kernel
theorem dX2_bringGift_73 : decode cX2_bringGift 73 = .ok (.iload 5, 2) := by decide +kernel
theorem dX2_bringGift_75 : decode cX2_bringGift 75 = .ok (.iload 7, 2) := by decide +kernel
theorem dX2_bringGift_77 : decode cX2_bringGift 77 = .ok (.invokevirtual 144, 3) := by decide +kernel
theorem dX2_bringGift_80 : decode cX2_bringGift 80 = .ok (.iload 5, 2) := by decide +kernel
theorem dX2_bringGift_82 : decode cX2_bringGift 82 = .ok (.ireturn, 1) := by decide +kernel
theorem dX2_bringBack_0 : decode cX2_bringBack 0 = .ok (.aload_n 1, 1) := by decide +kernel
theorem dX2_bringBack_1 : decode cX2_bringBack 1 = .ok (.getfield 53, 3) := by decide +kernel
theorem dX2_bringBack_4 : decode cX2_bringBack 4 = .ok (.astore_n 3, 1) := by decide +kernel
theorem dX2_bringBack_5 : decode cX2_bringBack 5 = .ok (.aload_n 3, 1) := by decide +kernel
theorem dX2_bringBack_6 : decode cX2_bringBack 6 = .ok (.getfield 93, 3) := by decide +kernel
theorem dX2_bringBack_9 : decode cX2_bringBack 9 = .ok (.iload_n 2, 1) := by decide +kernel
theorem dX2_bringBack_10 : decode cX2_bringBack 10 = .ok (.iaload, 1) := by decide +kernel
theorem dX2_bringBack_11 : decode cX2_bringBack 11 = .ok (.istore 4, 2) := by decide +kernel
theorem dX2_bringBack_13 : decode cX2_bringBack 13 = .ok (.aload_n 0, 1) := by decide +kernel
theorem dX2_bringBack_14 : decode cX2_bringBack 14 = .ok (.getfield 37, 3) := by decide +kernel
theorem dX2_bringBack_17 : decode cX2_bringBack 17 = .ok (.iload 4, 2) := by decide +kernel
theorem dX2_bringBack_19 : decode cX2_bringBack 19 = .ok (.iaload, 1) := by decide +kernel
theorem dX2_bringBack_20 : decode cX2_bringBack 20 = .ok (.istore 5, 2) := by decide +kernel
theorem dX2_bringBack_22 : decode cX2_bringBack 22 = .ok (.iload 5, 2) := by decide +kernel
theorem dX2_bringBack_24 : decode cX2_bringBack 24 = .ok (.ifCond .le 13, 3) := by decide +kernel
theorem dX2_bringBack_27 : decode cX2_bringBack 27 = .ok (.aload_n 0, 1) := by decide +kernel
theorem dX2_bringBack_28 : decode cX2_bringBack 28 = .ok (.getfield 40, 3) := by decide +kernel
theorem dX2_bringBack_31 : decode cX2_bringBack 31 = .ok (.iload 4, 2) := by decide +kernel
theorem dX2_bringBack_33 : decode cX2_bringBack 33 = .ok (.iaload, 1) := by decide +kernel
theorem dX2_bringBack_34 : decode cX2_bringBack 34 = .ok (.ifCond .eq 5, 3) := by decide +kernel
theorem dX2_bringBack_37 : decode cX2_bringBack 37 = .ok (.iconst 0, 1) := by decide +kernel
theorem dX2_bringBack_38 : decode cX2_bringBack 38 = .ok (.ireturn, 1) := by decide +kernel
theorem dX2_bringBack_39 : decode cX2_bringBack 39 = .ok (.aload_n 0, 1) := by decide +kernel
theorem dX2_bringBack_40 : decode cX2_bringBack 40 = .ok (.getfield 40, 3) := by decide +kernel
theorem dX2_bringBack_43 : decode cX2_bringBack 43 = .ok (.iload 4, 2) := by decide +kernel
theorem dX2_bringBack_45 : decode cX2_bringBack 45 = .ok (.iconst 1, 1) := by decide +kernel
theorem dX2_bringBack_46 : decode cX2_bringBack 46 = .ok (.iastore, 1) := by decide +kernel
theorem dX2_bringBack_47 : decode cX2_bringBack 47 = .ok (.aload_n 0, 1) := by decide +kernel
theorem dX2_bringBack_48 : decode cX2_bringBack 48 = .ok (.aload_n 3, 1) := by decide +kernel
theorem dX2_bringBack_49 : decode cX2_bringBack 49 = .ok (.getfield 90, 3) := by decide +kernel
theorem dX2_bringBack_52 : decode cX2_bringBack 52 = .ok (.iload 4, 2) := by decide +kernel
theorem dX2_bringBack_54 : decode cX2_bringBack 54 = .ok (.iaload, 1) := by decide +kernel
theorem dX2_bringBack_55 : decode cX2_bringBack 55 = .ok (.iload 5, 2) := by decide +kernel
theorem dX2_bringBack_57 : decode cX2_bringBack 57 = .ok (.aload_n 3, 1) := by decide +kernel
theorem dX2_bringBack_58 : decode cX2_bringBack 58 = .ok (.getfield 67, 3) := by decide +kernel
theorem dX2_bringBack_61 : decode cX2_bringBack 61 = .ok (.iload_n 2, 1) := by decide +kernel
theorem dX2_bringBack_62 : decode cX2_bringBack 62 = .ok (.iaload, 1) := by decide +kernel
theorem dX2_bringBack_63 : decode cX2_bringBack 63 = .ok (.aload_n 1, 1) := by decide +kernel
theorem dX2_bringBack_64 : decode cX2_bringBack 64 = .ok (.getfield 156, 3) := by decide +kernel
theorem dX2_bringBack_67 : decode cX2_bringBack 67 = .ok (.iconst 1, 1) := by decide +kernel
theorem dX2_bringBack_68 : decode cX2_bringBack 68 = .ok (.iaload, 1) := by decide +kernel
theorem dX2_bringBack_69 : decode cX2_bringBack 69 = .ok (.iadd, 1) := by decide +kernel
theorem dX2_bringBack_70 : decode cX2_bringBack 70 = .ok (.invokevirtual 144, 3) := by decide +kernel
theorem dX2_bringBack_73 : decode cX2_bringBack 73 = .ok (.aload_n 0, 1) := by decide +kernel
theorem dX2_bringBack_74 : decode cX2_bringBack 74 = .ok (.getfield 34, 3) := by decide +kernel
theorem dX2_bringBack_77 : decode cX2_bringBack 77 = .ok (.aload_n 3, 1) := by decide +kernel
theorem dX2_bringBack_78 : decode cX2_bringBack 78 = .ok (.getfield 93, 3) := by decide +kernel
theorem dX2_bringBack_81 : decode cX2_bringBack 81 = .ok (.iload 4, 2) := by decide +kernel
theorem dX2_bringBack_83 : decode cX2_bringBack 83 = .ok (.iaload, 1) := by decide +kernel
theorem dX2_bringBack_84 : decode cX2_bringBack 84 = .ok (.dup2, 1) := by decide +kernel
theorem dX2_bringBack_85 : decode cX2_bringBack 85 = .ok (.iaload, 1) := by decide +kernel
theorem dX2_bringBack_86 : decode cX2_bringBack 86 = .ok (.iload 5, 2) := by decide +kernel
theorem dX2_bringBack_88 : decode cX2_bringBack 88 = .ok (.isub, 1) := by decide +kernel
theorem dX2_bringBack_89 : decode cX2_bringBack 89 = .ok (.iastore, 1) := by decide +kernel
theorem dX2_bringBack_90 : decode cX2_bringBack 90 = .ok (.iload 5, 2) := by decide +kernel
theorem dX2_bringBack_92 : decode cX2_bringBack 92 = .ok (.ireturn, 1) := by decide +kernel
theorem dX2_come_0 : decode cX2_come 0 = .ok (.aload_n 0, 1) := by decide +kernel
theorem dX2_come_1 : decode cX2_come 1 = .ok (.getfield 43, 3) := by decide +kernel
theorem dX2_come_4 : decode cX2_come 4 = .ok (.bipush 100, 2) := by decide +kernel
theorem dX2_come_6 : decode cX2_come 6 = .ok (.if_icmp .lt 4, 3) := by decide +kernel
theorem dX2_come_9 : decode cX2_come 9 = .ok (.return_, 1) := by decide +kernel
theorem dX2_come_10 : decode cX2_come 10 = .ok (.aload_n 0, 1) := by decide +kernel
theorem dX2_come_11 : decode cX2_come 11 = .ok (.getfield 43, 3) := by decide +kernel
theorem dX2_come_14 : decode cX2_come 14 = .ok (.istore 4, 2) := by decide +kernel
theorem dX2_come_16 : decode cX2_come 16 = .ok (.iload 4, 2) := by decide +kernel
theorem dX2_come_18 : decode cX2_come 18 = .ok (.ifCond .le 70, 3) := by decide +kernel
theorem dX2_come_21 : decode cX2_come 21 = .ok (.aload_n 0, 1) := by decide +kernel
theorem dX2_come_22 : decode cX2_come 22 = .ok (.iload_n 1, 1) := by decide +kernel
theorem dX2_come_23 : decode cX2_come 23 = .ok (.iload_n 3, 1) := by decide +kernel
theorem dX2_come_24 : decode cX2_come 24 = .ok (.iload 4, 2) := by decide +kernel
theorem dX2_come_26 : decode cX2_come 26 = .ok (.iconst 1, 1) := by decide +kernel
theorem dX2_come_27 : decode cX2_come 27 = .ok (.isub, 1) := by decide +kernel
theorem dX2_come_28 : decode cX2_come 28 = .ok (.invokevirtual 159, 3) := by decide +kernel
theorem dX2_come_31 : decode cX2_come 31 = .ok (.ifCond .eq 57, 3) := by decide +kernel
theorem dX2_come_34 : decode cX2_come 34 = .ok (.aload_n 0, 1) := by decide +kernel
theorem dX2_come_35 : decode cX2_come 35 = .ok (.getfield 18, 3) := by decide +kernel
theorem dX2_come_38 : decode cX2_come 38 = .ok (.iload 4, 2) := by decide +kernel
theorem dX2_come_40 : decode cX2_come 40 = .ok (.aload_n 0, 1) := by decide +kernel
theorem dX2_come_41 : decode cX2_come 41 = .ok (.getfield 18, 3) := by decide +kernel
theorem dX2_come_44 : decode cX2_come 44 = .ok (.iload 4, 2) := by decide +kernel
theorem dX2_come_46 : decode cX2_come 46 = .ok (.iconst 1, 1) := by decide +kernel
theorem dX2_come_47 : decode cX2_come 47 = .ok (.isub, 1) := by decide +kernel
theorem dX2_come_48 : decode cX2_come 48 = .ok (.iaload, 1) := by decide +kernel
theorem dX2_come_49 : decode cX2_come 49 = .ok (.iastore, 1) := by decide +kernel
theorem dX2_come_50 : decode cX2_come 50 = .ok (.aload_n 0, 1) := by decide +kernel
theorem dX2_come_51 : decode cX2_come 51 = .ok (.getfield 22, 3) := by decide +kernel
theorem dX2_come_54 : decode cX2_come 54 = .ok (.iload 4, 2) := by decide +kernel
theorem dX2_come_56 : decode cX2_come 56 = .ok (.aload_n 0, 1) := by decide +kernel
theorem dX2_come_57 : decode cX2_come 57 = .ok (.getfield 22, 3) := by decide +kernel
theorem dX2_come_60 : decode cX2_come 60 = .ok (.iload 4, 2) := by decide +kernel
theorem dX2_come_62 : decode cX2_come 62 = .ok (.iconst 1, 1) := by decide +kernel
theorem dX2_come_63 : decode cX2_come 63 = .ok (.isub, 1) := by decide +kernel
theorem dX2_come_64 : decode cX2_come 64 = .ok (.iaload, 1) := by decide +kernel
theorem dX2_come_65 : decode cX2_come 65 = .ok (.iastore, 1) := by decide +kernel
theorem dX2_come_66 : decode cX2_come 66 = .ok (.aload_n 0, 1) := by decide +kernel
theorem dX2_come_67 : decode cX2_come 67 = .ok (.getfield 25, 3) := by decide +kernel
theorem dX2_come_70 : decode cX2_come 70 = .ok (.iload 4, 2) := by decide +kernel
theorem dX2_come_72 : decode cX2_come 72 = .ok (.aload_n 0, 1) := by decide +kernel
theorem dX2_come_73 : decode cX2_come 73 = .ok (.getfield 25, 3) := by decide +kernel
theorem dX2_come_76 : decode cX2_come 76 = .ok (.iload 4, 2) := by decide +kernel
theorem dX2_come_78 : decode cX2_come 78 = .ok (.iconst 1, 1) := by decide +kernel
theorem dX2_come_79 : decode cX2_come 79 = .ok (.isub, 1) := by decide +kernel
theorem dX2_come_80 : decode cX2_come 80 = .ok (.iaload, 1) := by decide +kernel
theorem dX2_come_81 : decode cX2_come 81 = .ok (.iastore, 1) := by decide +kernel
theorem dX2_come_82 : decode cX2_come 82 = .ok (.iinc 4 (-1), 3) := by decide +kernel
theorem dX2_come_85 : decode cX2_come 85 = .ok (.goto (-69), 3) := by decide +kernel
theorem dX2_come_88 : decode cX2_come 88 = .ok (.aload_n 0, 1) := by decide +kernel
theorem dX2_come_89 : decode cX2_come 89 = .ok (.getfield 18, 3) := by decide +kernel
theorem dX2_come_92 : decode cX2_come 92 = .ok (.iload 4, 2) := by decide +kernel
theorem dX2_come_94 : decode cX2_come 94 = .ok (.iload_n 1, 1) := by decide +kernel
theorem dX2_come_95 : decode cX2_come 95 = .ok (.iastore, 1) := by decide +kernel
theorem dX2_come_96 : decode cX2_come 96 = .ok (.aload_n 0, 1) := by decide +kernel
theorem dX2_come_97 : decode cX2_come 97 = .ok (.getfield 22, 3) := by decide +kernel
theorem dX2_come_100 : decode cX2_come 100 = .ok (.iload 4, 2) := by decide +kernel
theorem dX2_come_102 : decode cX2_come 102 = .ok (.iload_n 2, 1) := by decide +kernel
theorem dX2_come_103 : decode cX2_come 103 = .ok (.iastore, 1) := by decide +kernel
theorem dX2_come_104 : decode cX2_come 104 = .ok (.aload_n 0, 1) := by decide +kernel
theorem dX2_come_105 : decode cX2_come 105 = .ok (.getfield 25, 3) := by decide +kernel
theorem dX2_come_108 : decode cX2_come 108 = .ok (.iload 4, 2) := by decide +kernel
theorem dX2_come_110 : decode cX2_come 110 = .ok (.iload_n 3, 1) := by decide +kernel
theorem dX2_come_111 : decode cX2_come 111 = .ok (.iastore, 1) := by decide +kernel
theorem dX2_come_112 : decode cX2_come 112 = .ok (.aload_n 0, 1) := by decide +kernel
theorem dX2_come_113 : decode cX2_come 113 = .ok (.dup, 1) := by decide +kernel
theorem dX2_come_114 : decode cX2_come 114 = .ok (.getfield 43, 3) := by decide +kernel
theorem dX2_come_117 : decode cX2_come 117 = .ok (.iconst 1, 1) := by decide +kernel
theorem dX2_come_118 : decode cX2_come 118 = .ok (.iadd, 1) := by decide +kernel
theorem dX2_come_119 : decode cX2_come 119 = .ok (.putfield 43, 3) := by decide +kernel
theorem dX2_come_122 : decode cX2_come 122 = .ok (.return_, 1) := by decide +kernel
theorem dX2_isAhead_0 : decode cX2_isAhead 0 = .ok (.iload_n 2, 1) := by decide +kernel
theorem dX2_isAhead_1 : decode cX2_isAhead 1 = .ok (.aload_n 0, 1) := by decide +kernel
theorem dX2_isAhead_2 : decode cX2_isAhead 2 = .ok (.getfield 25, 3) := by decide +kernel
theorem dX2_isAhead_5 : decode cX2_isAhead 5 = .ok (.iload_n 3, 1) := by decide +kernel
theorem dX2_isAhead_6 : decode cX2_isAhead 6 = .ok (.iaload, 1) := by decide +kernel
theorem dX2_isAhead_7 : decode cX2_isAhead 7 = .ok (.if_icmp .lt 23, 3) := by decide +kernel
theorem dX2_isAhead_10 : decode cX2_isAhead 10 = .ok (.iload_n 2, 1) := by decide +kernel
theorem dX2_isAhead_11 : decode cX2_isAhead 11 = .ok (.aload_n 0, 1) := by decide +kernel
theorem dX2_isAhead_12 : decode cX2_isAhead 12 = .ok (.getfield 25, 3) := by decide +kernel
theorem dX2_isAhead_15 : decode cX2_isAhead 15 = .ok (.iload_n 3, 1) := by decide +kernel
theorem dX2_isAhead_16 : decode cX2_isAhead 16 = .ok (.iaload, 1) := by decide +kernel
theorem dX2_isAhead_17 : decode cX2_isAhead 17 = .ok (.if_icmp .ne 17, 3) := by decide +kernel
theorem dX2_isAhead_20 : decode cX2_isAhead 20 = .ok (.iload_n 1, 1) := by decide +kernel
theorem dX2_isAhead_21 : decode cX2_isAhead 21 = .ok (.aload_n 0, 1) := by decide +kernel
theorem dX2_isAhead_22 : decode cX2_isAhead 22 = .ok (.getfield 18, 3) := by decide +kernel
theorem dX2_isAhead_25 : decode cX2_isAhead 25 = .ok (.iload_n 3, 1) := by decide +kernel
theorem dX2_isAhead_26 : decode cX2_isAhead 26 = .ok (.iaload, 1) := by decide +kernel
theorem dX2_isAhead_27 : decode cX2_isAhead 27 = .ok (.if_icmp .ge 7, 3) := by decide +kernel
theorem dX2_isAhead_30 : decode cX2_isAhead 30 = .ok (.iconst 1, 1) := by decide +kernel
theorem dX2_isAhead_31 : decode cX2_isAhead 31 = .ok (.goto 4, 3) := by decide +kernel
theorem dX2_isAhead_34 : decode cX2_isAhead 34 = .ok (.iconst 0, 1) := by decide +kernel
theorem dX2_isAhead_35 : decode cX2_isAhead 35 = .ok (.ireturn, 1) := by decide +kernel
theorem dX2_isFor_0 : decode cX2_isFor 0 = .ok (.aload_n 0, 1) := by decide +kernel
theorem dX2_isFor_1 : decode cX2_isFor 1 = .ok (.getfield 18, 3) := by decide +kernel
theorem dX2_isFor_4 : decode cX2_isFor 4 = .ok (.iload 4, 2) := by decide +kernel
theorem dX2_isFor_6 : decode cX2_isFor 6 = .ok (.iaload, 1) := by decide +kernel
theorem dX2_isFor_7 : decode cX2_isFor 7 = .ok (.iload_n 2, 1) := by decide +kernel
theorem dX2_isFor_8 : decode cX2_isFor 8 = .ok (.if_icmp .eq 22, 3) := by decide +kernel
theorem dX2_isFor_11 : decode cX2_isFor 11 = .ok (.iload_n 3, 1) := by decide +kernel
theorem dX2_isFor_12 : decode cX2_isFor 12 = .ok (.ifCond .eq 22, 3) := by decide +kernel
theorem dX2_isFor_15 : decode cX2_isFor 15 = .ok (.aload_n 1, 1) := by decide +kernel
theorem dX2_isFor_16 : decode cX2_isFor 16 = .ok (.iload_n 2, 1) := by decide +kernel
theorem dX2_isFor_17 : decode cX2_isFor 17 = .ok (.aload_n 0, 1) := by decide +kernel
theorem dX2_isFor_18 : decode cX2_isFor 18 = .ok (.getfield 18, 3) := by decide +kernel
theorem dX2_isFor_21 : decode cX2_isFor 21 = .ok (.iload 4, 2) := by decide +kernel
theorem dX2_isFor_23 : decode cX2_isFor 23 = .ok (.iaload, 1) := by decide +kernel
theorem dX2_isFor_24 : decode cX2_isFor 24 = .ok (.invokevirtual 163, 3) := by decide +kernel
theorem dX2_isFor_27 : decode cX2_isFor 27 = .ok (.ifCond .eq 7, 3) := by decide +kernel
theorem dX2_isFor_30 : decode cX2_isFor 30 = .ok (.iconst 1, 1) := by decide +kernel
theorem dX2_isFor_31 : decode cX2_isFor 31 = .ok (.goto 4, 3) := by decide +kernel
theorem dX2_isFor_34 : decode cX2_isFor 34 = .ok (.iconst 0, 1) := by decide +kernel
theorem dX2_isFor_35 : decode cX2_isFor 35 = .ok (.ireturn, 1) := by decide +kernel
theorem dX2_there_0 : decode cX2_there 0 = .ok (.iconst 0, 1) := by decide +kernel
theorem dX2_there_1 : decode cX2_there 1 = .ok (.istore 5, 2) := by decide +kernel
theorem dX2_there_3 : decode cX2_there 3 = .ok (.iconst 0, 1) := by decide +kernel
theorem dX2_there_4 : decode cX2_there 4 = .ok (.istore 6, 2) := by decide +kernel
theorem dX2_there_6 : decode cX2_there 6 = .ok (.iload 6, 2) := by decide +kernel
theorem dX2_there_8 : decode cX2_there 8 = .ok (.aload_n 0, 1) := by decide +kernel
theorem dX2_there_9 : decode cX2_there 9 = .ok (.getfield 43, 3) := by decide +kernel
theorem dX2_there_12 : decode cX2_there 12 = .ok (.if_icmp .ge 45, 3) := by decide +kernel
theorem dX2_there_15 : decode cX2_there 15 = .ok (.aload_n 0, 1) := by decide +kernel
theorem dX2_there_16 : decode cX2_there 16 = .ok (.getfield 25, 3) := by decide +kernel
theorem dX2_there_19 : decode cX2_there 19 = .ok (.iload 6, 2) := by decide +kernel
theorem dX2_there_21 : decode cX2_there 21 = .ok (.iaload, 1) := by decide +kernel
theorem dX2_there_22 : decode cX2_there 22 = .ok (.iload 4, 2) := by decide +kernel
theorem dX2_there_24 : decode cX2_there 24 = .ok (.if_icmp .le 27, 3) := by decide +kernel
theorem dX2_there_27 : decode cX2_there 27 = .ok (.aload_n 0, 1) := by decide +kernel
theorem dX2_there_28 : decode cX2_there 28 = .ok (.aload_n 1, 1) := by decide +kernel
theorem dX2_there_29 : decode cX2_there 29 = .ok (.iload_n 2, 1) := by decide +kernel
theorem dX2_there_30 : decode cX2_there 30 = .ok (.iload_n 3, 1) := by decide +kernel
theorem dX2_there_31 : decode cX2_there 31 = .ok (.iload 6, 2) := by decide +kernel
theorem dX2_there_33 : decode cX2_there 33 = .ok (.invokevirtual 166, 3) := by decide +kernel
theorem dX2_there_36 : decode cX2_there 36 = .ok (.ifCond .eq 15, 3) := by decide +kernel
theorem dX2_there_39 : decode cX2_there 39 = .ok (.iload 5, 2) := by decide +kernel
theorem dX2_there_41 : decode cX2_there 41 = .ok (.aload_n 0, 1) := by decide +kernel
theorem dX2_there_42 : decode cX2_there 42 = .ok (.getfield 22, 3) := by decide +kernel
theorem dX2_there_45 : decode cX2_there 45 = .ok (.iload 6, 2) := by decide +kernel
theorem dX2_there_47 : decode cX2_there 47 = .ok (.iaload, 1) := by decide +kernel
theorem dX2_there_48 : decode cX2_there 48 = .ok (.iadd, 1) := by decide +kernel
theorem dX2_there_49 : decode cX2_there 49 = .ok (.istore 5, 2) := by decide +kernel
theorem dX2_there_51 : decode cX2_there 51 = .ok (.iinc 6 1, 3) := by decide +kernel
theorem dX2_there_54 : decode cX2_there 54 = .ok (.goto (-48), 3) := by decide +kernel
theorem dX2_there_57 : decode cX2_there 57 = .ok (.iload 5, 2) := by decide +kernel
theorem dX2_there_59 : decode cX2_there 59 = .ok (.ireturn, 1) := by decide +kernel
theorem dX2_take_0 : decode cX2_take 0 = .ok (.iload 5, 2) := by decide +kernel
theorem dX2_take_2 : decode cX2_take 2 = .ok (.istore 6, 2) := by decide +kernel
theorem dX2_take_4 : decode cX2_take 4 = .ok (.ldc 170, 2) := by decide +kernel
theorem dX2_take_6 : decode cX2_take 6 = .ok (.istore 7, 2) := by decide +kernel
theorem dX2_take_8 : decode cX2_take 8 = .ok (.iconst 0, 1) := by decide +kernel
theorem dX2_take_9 : decode cX2_take 9 = .ok (.istore 8, 2) := by decide +kernel
theorem dX2_take_11 : decode cX2_take 11 = .ok (.iload 8, 2) := by decide +kernel
theorem dX2_take_13 : decode cX2_take 13 = .ok (.aload_n 0, 1) := by decide +kernel
theorem dX2_take_14 : decode cX2_take 14 = .ok (.getfield 43, 3) := by decide +kernel
theorem dX2_take_17 : decode cX2_take 17 = .ok (.if_icmp .ge 102, 3) := by decide +kernel
theorem dX2_take_20 : decode cX2_take 20 = .ok (.iload 6, 2) := by decide +kernel
theorem dX2_take_22 : decode cX2_take 22 = .ok (.ifCond .le 97, 3) := by decide +kernel
theorem dX2_take_25 : decode cX2_take 25 = .ok (.aload_n 0, 1) := by decide +kernel
theorem dX2_take_26 : decode cX2_take 26 = .ok (.getfield 22, 3) := by decide +kernel
theorem dX2_take_29 : decode cX2_take 29 = .ok (.iload 8, 2) := by decide +kernel
theorem dX2_take_31 : decode cX2_take 31 = .ok (.iaload, 1) := by decide +kernel
theorem dX2_take_32 : decode cX2_take 32 = .ok (.ifCond .le 81, 3) := by decide +kernel
theorem dX2_take_35 : decode cX2_take 35 = .ok (.aload_n 0, 1) := by decide +kernel
theorem dX2_take_36 : decode cX2_take 36 = .ok (.getfield 25, 3) := by decide +kernel
theorem dX2_take_39 : decode cX2_take 39 = .ok (.iload 8, 2) := by decide +kernel
theorem dX2_take_41 : decode cX2_take 41 = .ok (.iaload, 1) := by decide +kernel
theorem dX2_take_42 : decode cX2_take 42 = .ok (.iload 4, 2) := by decide +kernel
theorem dX2_take_44 : decode cX2_take 44 = .ok (.if_icmp .le 69, 3) := by decide +kernel
theorem dX2_take_47 : decode cX2_take 47 = .ok (.aload_n 0, 1) := by decide +kernel
theorem dX2_take_48 : decode cX2_take 48 = .ok (.aload_n 1, 1) := by decide +kernel
theorem dX2_take_49 : decode cX2_take 49 = .ok (.iload_n 2, 1) := by decide +kernel
theorem dX2_take_50 : decode cX2_take 50 = .ok (.iload_n 3, 1) := by decide +kernel
theorem dX2_take_51 : decode cX2_take 51 = .ok (.iload 8, 2) := by decide +kernel
theorem dX2_take_53 : decode cX2_take 53 = .ok (.invokevirtual 166, 3) := by decide +kernel
theorem dX2_take_56 : decode cX2_take 56 = .ok (.ifCond .eq 57, 3) := by decide +kernel
theorem dX2_take_59 : decode cX2_take 59 = .ok (.iload 6, 2) := by decide +kernel
theorem dX2_take_61 : decode cX2_take 61 = .ok (.aload_n 0, 1) := by decide +kernel
theorem dX2_take_62 : decode cX2_take 62 = .ok (.getfield 22, 3) := by decide +kernel
theorem dX2_take_65 : decode cX2_take 65 = .ok (.iload 8, 2) := by decide +kernel
theorem dX2_take_67 : decode cX2_take 67 = .ok (.iaload, 1) := by decide +kernel
theorem dX2_take_68 : decode cX2_take 68 = .ok (.invokestatic 171, 3) := by decide +kernel
theorem dX2_take_71 : decode cX2_take 71 = .ok (.istore 9, 2) := by decide +kernel
theorem dX2_take_73 : decode cX2_take 73 = .ok (.aload_n 0, 1) := by decide +kernel
theorem dX2_take_74 : decode cX2_take 74 = .ok (.getfield 22, 3) := by decide +kernel
theorem dX2_take_77 : decode cX2_take 77 = .ok (.iload 8, 2) := by decide +kernel
theorem dX2_take_79 : decode cX2_take 79 = .ok (.dup2, 1) := by decide +kernel
theorem dX2_take_80 : decode cX2_take 80 = .ok (.iaload, 1) := by decide +kernel
theorem dX2_take_81 : decode cX2_take 81 = .ok (.iload 9, 2) := by decide +kernel
theorem dX2_take_83 : decode cX2_take 83 = .ok (.isub, 1) := by decide +kernel
theorem dX2_take_84 : decode cX2_take 84 = .ok (.iastore, 1) := by decide +kernel
theorem dX2_take_85 : decode cX2_take 85 = .ok (.iload 6, 2) := by decide +kernel
theorem dX2_take_87 : decode cX2_take 87 = .ok (.iload 9, 2) := by decide +kernel
theorem dX2_take_89 : decode cX2_take 89 = .ok (.isub, 1) := by decide +kernel
theorem dX2_take_90 : decode cX2_take 90 = .ok (.istore 6, 2) := by decide +kernel
theorem dX2_take_92 : decode cX2_take 92 = .ok (.iload 7, 2) := by decide +kernel
theorem dX2_take_94 : decode cX2_take 94 = .ok (.ldc 170, 2) := by decide +kernel
theorem dX2_take_96 : decode cX2_take 96 = .ok (.if_icmp .ne 13, 3) := by decide +kernel
theorem dX2_take_99 : decode cX2_take 99 = .ok (.aload_n 0, 1) := by decide +kernel
theorem dX2_take_100 : decode cX2_take 100 = .ok (.getfield 25, 3) := by decide +kernel
theorem dX2_take_103 : decode cX2_take 103 = .ok (.iload 8, 2) := by decide +kernel
theorem dX2_take_105 : decode cX2_take 105 = .ok (.iaload, 1) := by decide +kernel
theorem dX2_take_106 : decode cX2_take 106 = .ok (.goto 5, 3) := by decide +kernel
theorem dX2_take_109 : decode cX2_take 109 = .ok (.iload 7, 2) := by decide +kernel
theorem dX2_take_111 : decode cX2_take 111 = .ok (.istore 7, 2) := by decide +kernel
theorem dX2_take_113 : decode cX2_take 113 = .ok (.iinc 8 1, 3) := by decide +kernel
theorem dX2_take_116 : decode cX2_take 116 = .ok (.goto (-105), 3) := by decide +kernel
theorem dX2_take_119 : decode cX2_take 119 = .ok (.iload 7, 2) := by decide +kernel
theorem dX2_take_121 : decode cX2_take 121 = .ok (.ireturn, 1) := by decide +kernel
theorem dX2_lapsing_0 : decode cX2_lapsing 0 = .ok (.iconst 0, 1) := by decide +kernel
theorem dX2_lapsing_1 : decode cX2_lapsing 1 = .ok (.istore 4, 2) := by decide +kernel
theorem dX2_lapsing_3 : decode cX2_lapsing 3 = .ok (.iconst 0, 1) := by decide +kernel
theorem dX2_lapsing_4 : decode cX2_lapsing 4 = .ok (.istore 5, 2) := by decide +kernel
theorem dX2_lapsing_6 : decode cX2_lapsing 6 = .ok (.iload 5, 2) := by decide +kernel
theorem dX2_lapsing_8 : decode cX2_lapsing 8 = .ok (.aload_n 0, 1) := by decide +kernel
theorem dX2_lapsing_9 : decode cX2_lapsing 9 = .ok (.getfield 43, 3) := by decide +kernel
theorem dX2_lapsing_12 : decode cX2_lapsing 12 = .ok (.if_icmp .ge 47, 3) := by decide +kernel
theorem dX2_lapsing_15 : decode cX2_lapsing 15 = .ok (.aload_n 0, 1) := by decide +kernel
theorem dX2_lapsing_16 : decode cX2_lapsing 16 = .ok (.getfield 18, 3) := by decide +kernel
theorem dX2_lapsing_19 : decode cX2_lapsing 19 = .ok (.iload 5, 2) := by decide +kernel
theorem dX2_lapsing_21 : decode cX2_lapsing 21 = .ok (.iaload, 1) := by decide +kernel
theorem dX2_lapsing_22 : decode cX2_lapsing 22 = .ok (.iload_n 1, 1) := by decide +kernel
theorem dX2_lapsing_23 : decode cX2_lapsing 23 = .ok (.if_icmp .ne 30, 3) := by decide +kernel
theorem dX2_lapsing_26 : decode cX2_lapsing 26 = .ok (.aload_n 0, 1) := by decide +kernel
theorem dX2_lapsing_27 : decode cX2_lapsing 27 = .ok (.getfield 25, 3) := by decide +kernel
theorem dX2_lapsing_30 : decode cX2_lapsing 30 = .ok (.iload 5, 2) := by decide +kernel
theorem dX2_lapsing_32 : decode cX2_lapsing 32 = .ok (.iaload, 1) := by decide +kernel
theorem dX2_lapsing_33 : decode cX2_lapsing 33 = .ok (.iload_n 2, 1) := by decide +kernel
theorem dX2_lapsing_34 : decode cX2_lapsing 34 = .ok (.iload_n 3, 1) := by decide +kernel
theorem dX2_lapsing_35 : decode cX2_lapsing 35 = .ok (.invokestatic 177, 3) := by decide +kernel
theorem dX2_lapsing_38 : decode cX2_lapsing 38 = .ok (.ifCond .eq 15, 3) := by decide +kernel
theorem dX2_lapsing_41 : decode cX2_lapsing 41 = .ok (.iload 4, 2) := by decide +kernel
theorem dX2_lapsing_43 : decode cX2_lapsing 43 = .ok (.aload_n 0, 1) := by decide +kernel
theorem dX2_lapsing_44 : decode cX2_lapsing 44 = .ok (.getfield 22, 3) := by decide +kernel
theorem dX2_lapsing_47 : decode cX2_lapsing 47 = .ok (.iload 5, 2) := by decide +kernel
theorem dX2_lapsing_49 : decode cX2_lapsing 49 = .ok (.iaload, 1) := by decide +kernel
theorem dX2_lapsing_50 : decode cX2_lapsing 50 = .ok (.iadd, 1) := by decide +kernel
theorem dX2_lapsing_51 : decode cX2_lapsing 51 = .ok (.istore 4, 2) := by decide +kernel
theorem dX2_lapsing_53 : decode cX2_lapsing 53 = .ok (.iinc 5 1, 3) := by decide +kernel
theorem dX2_lapsing_56 : decode cX2_lapsing 56 = .ok (.goto (-50), 3) := by decide +kernel
theorem dX2_lapsing_59 : decode cX2_lapsing 59 = .ok (.iload 4, 2) := by decide +kernel
theorem dX2_lapsing_61 : decode cX2_lapsing 61 = .ok (.ireturn, 1) := by decide +kernel
theorem dX2_pointsOf_0 : decode cX2_pointsOf 0 = .ok (.iload_n 2, 1) := by decide +kernel
theorem dX2_pointsOf_1 : decode cX2_pointsOf 1 = .ok (.iconst 0, 1) := by decide +kernel
theorem dX2_pointsOf_2 : decode cX2_pointsOf 2 = .ok (.iconst 3, 1) := by decide +kernel
theorem dX2_pointsOf_3 : decode cX2_pointsOf 3 = .ok (.invokestatic 177, 3) := by decide +kernel
theorem dX2_pointsOf_6 : decode cX2_pointsOf 6 = .ok (.ifCond .eq 16, 3) := by decide +kernel
theorem dX2_pointsOf_9 : decode cX2_pointsOf 9 = .ok (.aload_n 0, 1) := by decide +kernel
theorem dX2_pointsOf_10 : decode cX2_pointsOf 10 = .ok (.getfield 28, 3) := by decide +kernel
theorem dX2_pointsOf_13 : decode cX2_pointsOf 13 = .ok (.iload_n 1, 1) := by decide +kernel
theorem dX2_pointsOf_14 : decode cX2_pointsOf 14 = .ok (.iconst 4, 1) := by decide +kernel
theorem dX2_pointsOf_15 : decode cX2_pointsOf 15 = .ok (.imul, 1) := by decide +kernel
theorem dX2_pointsOf_16 : decode cX2_pointsOf 16 = .ok (.iload_n 2, 1) := by decide +kernel
theorem dX2_pointsOf_17 : decode cX2_pointsOf 17 = .ok (.iadd, 1) := by decide +kernel
theorem dX2_pointsOf_18 : decode cX2_pointsOf 18 = .ok (.iaload, 1) := by decide +kernel
theorem dX2_pointsOf_19 : decode cX2_pointsOf 19 = .ok (.goto 4, 3) := by decide +kernel
theorem dX2_pointsOf_22 : decode cX2_pointsOf 22 = .ok (.iconst 0, 1) := by decide +kernel
theorem dX2_pointsOf_23 : decode cX2_pointsOf 23 = .ok (.ireturn, 1) := by decide +kernel
theorem dX2_tierOf_0 : decode cX2_tierOf 0 = .ok (.aload_n 1, 1) := by decide +kernel
theorem dX2_tierOf_1 : decode cX2_tierOf 1 = .ok (.getfield 100, 3) := by decide +kernel
theorem dX2_tierOf_4 : decode cX2_tierOf 4 = .ok (.iload_n 3, 1) := by decide +kernel
theorem dX2_tierOf_5 : decode cX2_tierOf 5 = .ok (.invokevirtual 104, 3) := by decide +kernel
theorem dX2_tierOf_8 : decode cX2_tierOf 8 = .ok (.astore 4, 2) := by decide +kernel
theorem dX2_tierOf_10 : decode cX2_tierOf 10 = .ok (.iload_n 3, 1) := by decide +kernel
theorem dX2_tierOf_11 : decode cX2_tierOf 11 = .ok (.sipush 360, 3) := by decide +kernel
theorem dX2_tierOf_14 : decode cX2_tierOf 14 = .ok (.idiv, 1) := by decide +kernel
theorem dX2_tierOf_15 : decode cX2_tierOf 15 = .ok (.istore 5, 2) := by decide +kernel
theorem dX2_tierOf_17 : decode cX2_tierOf 17 = .ok (.aload_n 1, 1) := by decide +kernel
theorem dX2_tierOf_18 : decode cX2_tierOf 18 = .ok (.getfield 117, 3) := by decide +kernel
theorem dX2_tierOf_21 : decode cX2_tierOf 21 = .ok (.getfield 121, 3) := by decide +kernel
theorem dX2_tierOf_24 : decode cX2_tierOf 24 = .ok (.iload_n 2, 1) := by decide +kernel
theorem dX2_tierOf_25 : decode cX2_tierOf 25 = .ok (.iaload, 1) := by decide +kernel
theorem dX2_tierOf_26 : decode cX2_tierOf 26 = .ok (.iconst 3, 1) := by decide +kernel
theorem dX2_tierOf_27 : decode cX2_tierOf 27 = .ok (.if_icmp .ne 7, 3) := by decide +kernel
theorem dX2_tierOf_30 : decode cX2_tierOf 30 = .ok (.iconst 1, 1) := by decide +kernel
theorem dX2_tierOf_31 : decode cX2_tierOf 31 = .ok (.goto 4, 3) := by decide +kernel
theorem dX2_tierOf_34 : decode cX2_tierOf 34 = .ok (.iconst 0, 1) := by decide +kernel
theorem dX2_tierOf_35 : decode cX2_tierOf 35 = .ok (.istore 6, 2) := by decide +kernel
theorem dX2_tierOf_37 : decode cX2_tierOf 37 = .ok (.aload_n 0, 1) := by decide +kernel
theorem dX2_tierOf_38 : decode cX2_tierOf 38 = .ok (.aload 4, 2) := by decide +kernel
theorem dX2_tierOf_40 : decode cX2_tierOf 40 = .ok (.aload_n 0, 1) := by decide +kernel
theorem dX2_tierOf_41 : decode cX2_tierOf 41 = .ok (.iload_n 2, 1) := by decide +kernel
theorem dX2_tierOf_42 : decode cX2_tierOf 42 = .ok (.iload 5, 2) := by decide +kernel
theorem dX2_tierOf_44 : decode cX2_tierOf 44 = .ok (.invokevirtual 180, 3) := by decide +kernel
theorem dX2_tierOf_47 : decode cX2_tierOf 47 = .ok (.invokevirtual 183, 3) := by decide +kernel
theorem dX2_tierOf_50 : decode cX2_tierOf 50 = .ok (.istore 7, 2) := by decide +kernel
theorem dX2_tierOf_52 : decode cX2_tierOf 52 = .ok (.aload_n 0, 1) := by decide +kernel
theorem dX2_tierOf_53 : decode cX2_tierOf 53 = .ok (.aload 4, 2) := by decide +kernel
theorem dX2_tierOf_55 : decode cX2_tierOf 55 = .ok (.aload_n 0, 1) := by decide +kernel
theorem dX2_tierOf_56 : decode cX2_tierOf 56 = .ok (.iload_n 2, 1) := by decide +kernel
theorem dX2_tierOf_57 : decode cX2_tierOf 57 = .ok (.iload 5, 2) := by decide +kernel
theorem dX2_tierOf_59 : decode cX2_tierOf 59 = .ok (.iconst 1, 1) := by decide +kernel
theorem dX2_tierOf_60 : decode cX2_tierOf 60 = .ok (.isub, 1) := by decide +kernel
theorem dX2_tierOf_61 : decode cX2_tierOf 61 = .ok (.invokevirtual 180, 3) := by decide +kernel
theorem dX2_tierOf_64 : decode cX2_tierOf 64 = .ok (.invokevirtual 183, 3) := by decide +kernel
theorem dX2_tierOf_67 : decode cX2_tierOf 67 = .ok (.istore 8, 2) := by decide +kernel
theorem dX2_tierOf_69 : decode cX2_tierOf 69 = .ok (.iload 6, 2) := by decide +kernel
theorem dX2_tierOf_71 : decode cX2_tierOf 71 = .ok (.iload 7, 2) := by decide +kernel
theorem dX2_tierOf_73 : decode cX2_tierOf 73 = .ok (.iload 8, 2) := by decide +kernel
theorem dX2_tierOf_75 : decode cX2_tierOf 75 = .ok (.invokestatic 186, 3) := by decide +kernel
theorem dX2_tierOf_78 : decode cX2_tierOf 78 = .ok (.invokestatic 186, 3) := by decide +kernel
theorem dX2_tierOf_81 : decode cX2_tierOf 81 = .ok (.ireturn, 1) := by decide +kernel
theorem dX2_tierBy_0 : decode cX2_tierBy 0 = .ok (.aload_n 0, 1) := by decide +kernel
theorem dX2_tierBy_1 : decode cX2_tierBy 1 = .ok (.getfield 12, 3) := by decide +kernel
theorem dX2_tierBy_4 : decode cX2_tierBy 4 = .ok (.iload_n 2, 1) := by decide +kernel
theorem dX2_tierBy_5 : decode cX2_tierBy 5 = .ok (.putfield 189, 3) := by decide +kernel
theorem dX2_tierBy_8 : decode cX2_tierBy 8 = .ok (.aload_n 0, 1) := by decide +kernel
theorem dX2_tierBy_9 : decode cX2_tierBy 9 = .ok (.getfield 12, 3) := by decide +kernel
theorem dX2_tierBy_12 : decode cX2_tierBy 12 = .ok (.aload_n 1, 1) := by decide +kernel
theorem dX2_tierBy_13 : decode cX2_tierBy 13 = .ok (.iconst 3, 1) := by decide +kernel
theorem dX2_tierBy_14 : decode cX2_tierBy 14 = .ok (.invokevirtual 135, 3) := by decide +kernel
theorem dX2_tierBy_17 : decode cX2_tierBy 17 = .ok (.iconst 0, 1) := by decide +kernel
theorem dX2_tierBy_18 : decode cX2_tierBy 18 = .ok (.iconst 3, 1) := by decide +kernel
theorem dX2_tierBy_19 : decode cX2_tierBy 19 = .ok (.invokestatic 140, 3) := by decide +kernel
theorem dX2_tierBy_22 : decode cX2_tierBy 22 = .ok (.ireturn, 1) := by decide +kernel
theorem dX2_priceOf_0 : decode cX2_priceOf 0 = .ok (.aload_n 1, 1) := by decide +kernel
theorem dX2_priceOf_1 : decode cX2_priceOf 1 = .ok (.getfield 191, 3) := by decide +kernel
theorem dX2_priceOf_4 : decode cX2_priceOf 4 = .ok (.astore 4, 2) := by decide +kernel
theorem dX2_priceOf_6 : decode cX2_priceOf 6 = .ok (.aload 4, 2) := by decide +kernel
theorem dX2_priceOf_8 : decode cX2_priceOf 8 = .ok (.getfield 195, 3) := by decide +kernel
theorem dX2_priceOf_11 : decode cX2_priceOf 11 = .ok (.iload_n 2, 1) := by decide +kernel
theorem dX2_priceOf_12 : decode cX2_priceOf 12 = .ok (.iaload, 1) := by decide +kernel
theorem dX2_priceOf_13 : decode cX2_priceOf 13 = .ok (.istore 5, 2) := by decide +kernel
theorem dX2_priceOf_15 : decode cX2_priceOf 15 = .ok (.aload_n 0, 1) := by decide +kernel
theorem dX2_priceOf_16 : decode cX2_priceOf 16 = .ok (.getfield 12, 3) := by decide +kernel
theorem dX2_priceOf_19 : decode cX2_priceOf 19 = .ok (.aload 4, 2) := by decide +kernel
theorem dX2_priceOf_21 : decode cX2_priceOf 21 = .ok (.getfield 200, 3) := by decide +kernel
theorem dX2_priceOf_24 : decode cX2_priceOf 24 = .ok (.iload 5, 2) := by decide +kernel
theorem dX2_priceOf_26 : decode cX2_priceOf 26 = .ok (.iaload, 1) := by decide +kernel
theorem dX2_priceOf_27 : decode cX2_priceOf 27 = .ok (.aload 4, 2) := by decide +kernel
theorem dX2_priceOf_29 : decode cX2_priceOf 29 = .ok (.getfield 203, 3) := by decide +kernel
theorem dX2_priceOf_32 : decode cX2_priceOf 32 = .ok (.iload_n 2, 1) := by decide +kernel
theorem dX2_priceOf_33 : decode cX2_priceOf 33 = .ok (.iaload, 1) := by decide +kernel
theorem dX2_priceOf_34 : decode cX2_priceOf 34 = .ok (.invokevirtual 113, 3) := by decide +kernel
theorem dX2_priceOf_37 : decode cX2_priceOf 37 = .ok (.aload_n 0, 1) := by decide +kernel
theorem dX2_priceOf_38 : decode cX2_priceOf 38 = .ok (.getfield 12, 3) := by decide +kernel
theorem dX2_priceOf_41 : decode cX2_priceOf 41 = .ok (.iload_n 3, 1) := by decide +kernel
theorem dX2_priceOf_42 : decode cX2_priceOf 42 = .ok (.aload_n 1, 1) := by decide +kernel
theorem dX2_priceOf_43 : decode cX2_priceOf 43 = .ok (.getfield 117, 3) := by decide +kernel
theorem dX2_priceOf_46 : decode cX2_priceOf 46 = .ok (.getfield 121, 3) := by decide +kernel
theorem dX2_priceOf_49 : decode cX2_priceOf 49 = .ok (.aload 4, 2) := by decide +kernel
theorem dX2_priceOf_51 : decode cX2_priceOf 51 = .ok (.getfield 206, 3) := by decide +kernel
theorem dX2_priceOf_54 : decode cX2_priceOf 54 = .ok (.iload_n 2, 1) := by decide +kernel
theorem dX2_priceOf_55 : decode cX2_priceOf 55 = .ok (.iaload, 1) := by decide +kernel
theorem dX2_priceOf_56 : decode cX2_priceOf 56 = .ok (.iaload, 1) := by decide +kernel
theorem dX2_priceOf_57 : decode cX2_priceOf 57 = .ok (.invokevirtual 124, 3) := by decide +kernel
theorem dX2_priceOf_60 : decode cX2_priceOf 60 = .ok (.aload_n 0, 1) := by decide +kernel
theorem dX2_priceOf_61 : decode cX2_priceOf 61 = .ok (.getfield 12, 3) := by decide +kernel
theorem dX2_priceOf_64 : decode cX2_priceOf 64 = .ok (.aload 4, 2) := by decide +kernel
theorem dX2_priceOf_66 : decode cX2_priceOf 66 = .ok (.getfield 209, 3) := by decide +kernel
theorem dX2_priceOf_69 : decode cX2_priceOf 69 = .ok (.iload 5, 2) := by decide +kernel
theorem dX2_priceOf_71 : decode cX2_priceOf 71 = .ok (.iaload, 1) := by decide +kernel
theorem dX2_priceOf_72 : decode cX2_priceOf 72 = .ok (.putfield 212, 3) := by decide +kernel
theorem dX2_priceOf_75 : decode cX2_priceOf 75 = .ok (.aload_n 0, 1) := by decide +kernel
theorem dX2_priceOf_76 : decode cX2_priceOf 76 = .ok (.getfield 12, 3) := by decide +kernel
theorem dX2_priceOf_79 : decode cX2_priceOf 79 = .ok (.aload 4, 2) := by decide +kernel
theorem dX2_priceOf_81 : decode cX2_priceOf 81 = .ok (.getfield 214, 3) := by decide +kernel
theorem dX2_priceOf_84 : decode cX2_priceOf 84 = .ok (.iload 5, 2) := by decide +kernel
theorem dX2_priceOf_86 : decode cX2_priceOf 86 = .ok (.iaload, 1) := by decide +kernel
theorem dX2_priceOf_87 : decode cX2_priceOf 87 = .ok (.aload_n 1, 1) := by decide +kernel
theorem dX2_priceOf_88 : decode cX2_priceOf 88 = .ok (.getfield 217, 3) := by decide +kernel
theorem dX2_priceOf_91 : decode cX2_priceOf 91 = .ok (.isub, 1) := by decide +kernel
theorem dX2_priceOf_92 : decode cX2_priceOf 92 = .ok (.putfield 220, 3) := by decide +kernel
theorem dX2_priceOf_95 : decode cX2_priceOf 95 = .ok (.aload_n 0, 1) := by decide +kernel
theorem dX2_priceOf_96 : decode cX2_priceOf 96 = .ok (.getfield 12, 3) := by decide +kernel
theorem dX2_priceOf_99 : decode cX2_priceOf 99 = .ok (.aload_n 1, 1) := by decide +kernel
theorem dX2_priceOf_100 : decode cX2_priceOf 100 = .ok (.getfield 100, 3) := by decide +kernel
theorem dX2_priceOf_103 : decode cX2_priceOf 103 = .ok (.aload_n 1, 1) := by decide +kernel
theorem dX2_priceOf_104 : decode cX2_priceOf 104 = .ok (.getfield 217, 3) := by decide +kernel
theorem dX2_priceOf_107 : decode cX2_priceOf 107 = .ok (.invokevirtual 104, 3) := by decide +kernel
theorem dX2_priceOf_110 : decode cX2_priceOf 110 = .ok (.iconst 2, 1) := by decide +kernel
theorem dX2_priceOf_111 : decode cX2_priceOf 111 = .ok (.invokevirtual 135, 3) := by decide +kernel
theorem dX2_priceOf_114 : decode cX2_priceOf 114 = .ok (.iconst 0, 1) := by decide +kernel
theorem dX2_priceOf_115 : decode cX2_priceOf 115 = .ok (.ldc 139, 2) := by decide +kernel
theorem dX2_priceOf_117 : decode cX2_priceOf 117 = .ok (.invokestatic 140, 3) := by decide +kernel
theorem dX2_priceOf_120 : decode cX2_priceOf 120 = .ok (.ireturn, 1) := by decide +kernel
theorem dX3_init_0 : decode cX3_init 0 = .ok (.aload_n 0, 1) := by decide +kernel
theorem dX3_init_1 : decode cX3_init 1 = .ok (.invokespecial 3, 3) := by decide +kernel
theorem dX3_init_4 : decode cX3_init 4 = .ok (.aload_n 0, 1) := by decide +kernel
theorem dX3_init_5 : decode cX3_init 5 = .ok (.bipush 100, 2) := by decide +kernel
theorem dX3_init_7 : decode cX3_init 7 = .ok (.newarray .int, 2) := by decide +kernel
theorem dX3_init_9 : decode cX3_init 9 = .ok (.putfield 9, 3) := by decide +kernel
theorem dX3_init_12 : decode cX3_init 12 = .ok (.aload_n 0, 1) := by decide +kernel
theorem dX3_init_13 : decode cX3_init 13 = .ok (.bipush 100, 2) := by decide +kernel
theorem dX3_init_15 : decode cX3_init 15 = .ok (.newarray .int, 2) := by decide +kernel
theorem dX3_init_17 : decode cX3_init 17 = .ok (.putfield 15, 3) := by decide +kernel
theorem dX3_init_20 : decode cX3_init 20 = .ok (.aload_n 0, 1) := by decide +kernel
theorem dX3_init_21 : decode cX3_init 21 = .ok (.bipush 100, 2) := by decide +kernel
theorem dX3_init_23 : decode cX3_init 23 = .ok (.newarray .int, 2) := by decide +kernel
theorem dX3_init_25 : decode cX3_init 25 = .ok (.putfield 18, 3) := by decide +kernel
theorem dX3_init_28 : decode cX3_init 28 = .ok (.aload_n 0, 1) := by decide +kernel
theorem dX3_init_29 : decode cX3_init 29 = .ok (.bipush 100, 2) := by decide +kernel
theorem dX3_init_31 : decode cX3_init 31 = .ok (.newarray .int, 2) := by decide +kernel
theorem dX3_init_33 : decode cX3_init 33 = .ok (.putfield 21, 3) := by decide +kernel
theorem dX3_init_36 : decode cX3_init 36 = .ok (.aload_n 0, 1) := by decide +kernel
theorem dX3_init_37 : decode cX3_init 37 = .ok (.bipush 100, 2) := by decide +kernel
theorem dX3_init_39 : decode cX3_init 39 = .ok (.newarray .int, 2) := by decide +kernel
theorem dX3_init_41 : decode cX3_init 41 = .ok (.putfield 24, 3) := by decide +kernel
theorem dX3_init_44 : decode cX3_init 44 = .ok (.aload_n 0, 1) := by decide +kernel
theorem dX3_init_45 : decode cX3_init 45 = .ok (.bipush 100, 2) := by decide +kernel
theorem dX3_init_47 : decode cX3_init 47 = .ok (.newarray .int, 2) := by decide +kernel
theorem dX3_init_49 : decode cX3_init 49 = .ok (.putfield 27, 3) := by decide +kernel
theorem dX3_init_52 : decode cX3_init 52 = .ok (.aload_n 0, 1) := by decide +kernel
theorem dX3_init_53 : decode cX3_init 53 = .ok (.bipush 100, 2) := by decide +kernel
theorem dX3_init_55 : decode cX3_init 55 = .ok (.newarray .int, 2) := by decide +kernel
theorem dX3_init_57 : decode cX3_init 57 = .ok (.putfield 30, 3) := by decide +kernel
theorem dX3_init_60 : decode cX3_init 60 = .ok (.aload_n 0, 1) := by decide +kernel
theorem dX3_init_61 : decode cX3_init 61 = .ok (.bipush 100, 2) := by decide +kernel
theorem dX3_init_63 : decode cX3_init 63 = .ok (.newarray .int, 2) := by decide +kernel
theorem dX3_init_65 : decode cX3_init 65 = .ok (.putfield 33, 3) := by decide +kernel
theorem dX3_init_68 : decode cX3_init 68 = .ok (.aload_n 0, 1) := by decide +kernel
theorem dX3_init_69 : decode cX3_init 69 = .ok (.bipush 100, 2) := by decide +kernel
theorem dX3_init_71 : decode cX3_init 71 = .ok (.newarray .int, 2) := by decide +kernel
theorem dX3_init_73 : decode cX3_init 73 = .ok (.putfield 36, 3) := by decide +kernel
theorem dX3_init_76 : decode cX3_init 76 = .ok (.return_, 1) := by decide +kernel
theorem dX3_add_0 : decode cX3_add 0 = .ok (.aload_n 0, 1) := by decide +kernel
theorem dX3_add_1 : decode cX3_add 1 = .ok (.getfield 39, 3) := by decide +kernel
theorem dX3_add_4 : decode cX3_add 4 = .ok (.bipush 100, 2) := by decide +kernel
theorem dX3_add_6 : decode cX3_add 6 = .ok (.if_icmp .lt 6, 3) := by decide +kernel
theorem dX3_add_9 : decode cX3_add 9 = .ok (.ldc 43, 2) := by decide +kernel
theorem dX3_add_11 : decode cX3_add 11 = .ok (.ireturn, 1) := by decide +kernel
theorem dX3_add_12 : decode cX3_add 12 = .ok (.aload_n 0, 1) := by decide +kernel
theorem dX3_add_13 : decode cX3_add 13 = .ok (.getfield 9, 3) := by decide +kernel
theorem dX3_add_16 : decode cX3_add 16 = .ok (.aload_n 0, 1) := by decide +kernel
theorem dX3_add_17 : decode cX3_add 17 = .ok (.getfield 39, 3) := by decide +kernel
theorem dX3_add_20 : decode cX3_add 20 = .ok (.iload_n 1, 1) := by decide +kernel
theorem dX3_add_21 : decode cX3_add 21 = .ok (.iastore, 1) := by decide +kernel
theorem dX3_add_22 : decode cX3_add 22 = .ok (.aload_n 0, 1) := by decide +kernel
theorem dX3_add_23 : decode cX3_add 23 = .ok (.getfield 15, 3) := by decide +kernel
theorem dX3_add_26 : decode cX3_add 26 = .ok (.aload_n 0, 1) := by decide +kernel
theorem dX3_add_27 : decode cX3_add 27 = .ok (.getfield 39, 3) := by decide +kernel
theorem dX3_add_30 : decode cX3_add 30 = .ok (.iload_n 2, 1) := by decide +kernel
theorem dX3_add_31 : decode cX3_add 31 = .ok (.iastore, 1) := by decide +kernel
theorem dX3_add_32 : decode cX3_add 32 = .ok (.aload_n 0, 1) := by decide +kernel
theorem dX3_add_33 : decode cX3_add 33 = .ok (.getfield 18, 3) := by decide +kernel
theorem dX3_add_36 : decode cX3_add 36 = .ok (.aload_n 0, 1) := by decide +kernel
theorem dX3_add_37 : decode cX3_add 37 = .ok (.getfield 39, 3) := by decide +kernel
theorem dX3_add_40 : decode cX3_add 40 = .ok (.iload_n 3, 1) := by decide +kernel
theorem dX3_add_41 : decode cX3_add 41 = .ok (.iastore, 1) := by decide +kernel
theorem dX3_add_42 : decode cX3_add 42 = .ok (.aload_n 0, 1) := by decide +kernel
theorem dX3_add_43 : decode cX3_add 43 = .ok (.getfield 21, 3) := by decide +kernel
theorem dX3_add_46 : decode cX3_add 46 = .ok (.aload_n 0, 1) := by decide +kernel
theorem dX3_add_47 : decode cX3_add 47 = .ok (.getfield 39, 3) := by decide +kernel
theorem dX3_add_50 : decode cX3_add 50 = .ok (.iload 4, 2) := by decide +kernel
theorem dX3_add_52 : decode cX3_add 52 = .ok (.iastore, 1) := by decide +kernel
theorem dX3_add_53 : decode cX3_add 53 = .ok (.aload_n 0, 1) := by decide +kernel
theorem dX3_add_54 : decode cX3_add 54 = .ok (.getfield 24, 3) := by decide +kernel
theorem dX3_add_57 : decode cX3_add 57 = .ok (.aload_n 0, 1) := by decide +kernel
theorem dX3_add_58 : decode cX3_add 58 = .ok (.getfield 39, 3) := by decide +kernel
theorem dX3_add_61 : decode cX3_add 61 = .ok (.ldc 44, 2) := by decide +kernel
theorem dX3_add_63 : decode cX3_add 63 = .ok (.iastore, 1) := by decide +kernel
theorem dX3_add_64 : decode cX3_add 64 = .ok (.aload_n 0, 1) := by decide +kernel
theorem dX3_add_65 : decode cX3_add 65 = .ok (.getfield 27, 3) := by decide +kernel
theorem dX3_add_68 : decode cX3_add 68 = .ok (.aload_n 0, 1) := by decide +kernel
theorem dX3_add_69 : decode cX3_add 69 = .ok (.getfield 39, 3) := by decide +kernel
theorem dX3_add_72 : decode cX3_add 72 = .ok (.iload 5, 2) := by decide +kernel
theorem dX3_add_74 : decode cX3_add 74 = .ok (.iastore, 1) := by decide +kernel
theorem dX3_add_75 : decode cX3_add 75 = .ok (.aload_n 0, 1) := by decide +kernel
theorem dX3_add_76 : decode cX3_add 76 = .ok (.getfield 30, 3) := by decide +kernel
theorem dX3_add_79 : decode cX3_add 79 = .ok (.aload_n 0, 1) := by decide +kernel
theorem dX3_add_80 : decode cX3_add 80 = .ok (.getfield 39, 3) := by decide +kernel
theorem dX3_add_83 : decode cX3_add 83 = .ok (.iload 6, 2) := by decide +kernel
theorem dX3_add_85 : decode cX3_add 85 = .ok (.iastore, 1) := by decide +kernel
theorem dX3_add_86 : decode cX3_add 86 = .ok (.aload_n 0, 1) := by decide +kernel
theorem dX3_add_87 : decode cX3_add 87 = .ok (.getfield 33, 3) := by decide +kernel
theorem dX3_add_90 : decode cX3_add 90 = .ok (.aload_n 0, 1) := by decide +kernel
theorem dX3_add_91 : decode cX3_add 91 = .ok (.getfield 39, 3) := by decide +kernel
theorem dX3_add_94 : decode cX3_add 94 = .ok (.iload 7, 2) := by decide +kernel
theorem dX3_add_96 : decode cX3_add 96 = .ok (.iastore, 1) := by decide +kernel
theorem dX3_add_97 : decode cX3_add 97 = .ok (.aload_n 0, 1) := by decide +kernel
theorem dX3_add_98 : decode cX3_add 98 = .ok (.aload_n 0, 1) := by decide +kernel
theorem dX3_add_99 : decode cX3_add 99 = .ok (.getfield 39, 3) := by decide +kernel
theorem dX3_add_102 : decode cX3_add 102 = .ok (.invokevirtual 45, 3) := by decide +kernel
theorem dX3_add_105 : decode cX3_add 105 = .ok (.aload_n 0, 1) := by decide +kernel
theorem dX3_add_106 : decode cX3_add 106 = .ok (.dup, 1) := by decide +kernel
theorem dX3_add_107 : decode cX3_add 107 = .ok (.getfield 39, 3) := by decide +kernel
theorem dX3_add_110 : decode cX3_add 110 = .ok (.iconst 1, 1) := by decide +kernel
theorem dX3_add_111 : decode cX3_add 111 = .ok (.iadd, 1) := by decide +kernel
theorem dX3_add_112 : decode cX3_add 112 = .ok (.putfield 39, 3) := by decide +kernel
theorem dX3_add_115 : decode cX3_add 115 = .ok (.aload_n 0, 1) := by decide +kernel
theorem dX3_add_116 : decode cX3_add 116 = .ok (.getfield 39, 3) := by decide +kernel
theorem dX3_add_119 : decode cX3_add 119 = .ok (.iconst 1, 1) := by decide +kernel
theorem dX3_add_120 : decode cX3_add 120 = .ok (.isub, 1) := by decide +kernel
theorem dX3_add_121 : decode cX3_add 121 = .ok (.ireturn, 1) := by decide +kernel
theorem dX3_putInOrder_0 : decode cX3_putInOrder 0 = .ok (.iload_n 1, 1) := by decide +kernel
theorem dX3_putInOrder_1 : decode cX3_putInOrder 1 = .ok (.istore_n 2, 1) := by decide +kernel
theorem dX3_putInOrder_2 : decode cX3_putInOrder 2 = .ok (.iload_n 2, 1) := by decide +kernel
theorem dX3_putInOrder_3 : decode cX3_putInOrder 3 = .ok (.ifCond .le 45, 3) := by decide +kernel
theorem dX3_putInOrder_6 : decode cX3_putInOrder 6 = .ok (.aload_n 0, 1) := by decide +kernel
theorem dX3_putInOrder_7 : decode cX3_putInOrder 7 = .ok (.getfield 18, 3) := by decide +kernel
theorem dX3_putInOrder_10 : decode cX3_putInOrder 10 = .ok (.aload_n 0, 1) := by decide +kernel
theorem dX3_putInOrder_11 : decode cX3_putInOrder 11 = .ok (.getfield 36, 3) := by decide +kernel
theorem dX3_putInOrder_14 : decode cX3_putInOrder 14 = .ok (.iload_n 2, 1) := by decide +kernel
theorem dX3_putInOrder_15 : decode cX3_putInOrder 15 = .ok (.iconst 1, 1) := by decide +kernel
theorem dX3_putInOrder_16 : decode cX3_putInOrder 16 = .ok (.isub, 1) := by decide +kernel
theorem dX3_putInOrder_17 : decode cX3_putInOrder 17 = .ok (.iaload, 1) := by decide +kernel
theorem dX3_putInOrder_18 : decode cX3_putInOrder 18 = .ok (.iaload, 1) := by decide +kernel
theorem dX3_putInOrder_19 : decode cX3_putInOrder 19 = .ok (.aload_n 0, 1) := by decide +kernel
theorem dX3_putInOrder_20 : decode cX3_putInOrder 20 = .ok (.getfield 18, 3) := by decide +kernel
theorem dX3_putInOrder_23 : decode cX3_putInOrder 23 = .ok (.iload_n 1, 1) := by decide +kernel
theorem dX3_putInOrder_24 : decode cX3_putInOrder 24 = .ok (.iaload, 1) := by decide +kernel
theorem dX3_putInOrder_25 : decode cX3_putInOrder 25 = .ok (.if_icmp .le 23, 3) := by decide +kernel
theorem dX3_putInOrder_28 : decode cX3_putInOrder 28 = .ok (.aload_n 0, 1) := by decide +kernel
theorem dX3_putInOrder_29 : decode cX3_putInOrder 29 = .ok (.getfield 36, 3) := by decide +kernel
theorem dX3_putInOrder_32 : decode cX3_putInOrder 32 = .ok (.iload_n 2, 1) := by decide +kernel
theorem dX3_putInOrder_33 : decode cX3_putInOrder 33 = .ok (.aload_n 0, 1) := by decide +kernel
theorem dX3_putInOrder_34 : decode cX3_putInOrder 34 = .ok (.getfield 36, 3) := by decide +kernel
theorem dX3_putInOrder_37 : decode cX3_putInOrder 37 = .ok (.iload_n 2, 1) := by decide +kernel
theorem dX3_putInOrder_38 : decode cX3_putInOrder 38 = .ok (.iconst 1, 1) := by decide +kernel
theorem dX3_putInOrder_39 : decode cX3_putInOrder 39 = .ok (.isub, 1) := by decide +kernel
theorem dX3_putInOrder_40 : decode cX3_putInOrder 40 = .ok (.iaload, 1) := by decide +kernel
theorem dX3_putInOrder_41 : decode cX3_putInOrder 41 = .ok (.iastore, 1) := by decide +kernel
theorem dX3_putInOrder_42 : decode cX3_putInOrder 42 = .ok (.iinc 2 (-1), 3) := by decide +kernel
theorem dX3_putInOrder_45 : decode cX3_putInOrder 45 = .ok (.goto (-43), 3) := by decide +kernel
theorem dX3_putInOrder_48 : decode cX3_putInOrder 48 = .ok (.aload_n 0, 1) := by decide +kernel
theorem dX3_putInOrder_49 : decode cX3_putInOrder 49 = .ok (.getfield 36, 3) := by decide +kernel
theorem dX3_putInOrder_52 : decode cX3_putInOrder 52 = .ok (.iload_n 2, 1) := by decide +kernel
theorem dX3_putInOrder_53 : decode cX3_putInOrder 53 = .ok (.iload_n 1, 1) := by decide +kernel
theorem dX3_putInOrder_54 : decode cX3_putInOrder 54 = .ok (.iastore, 1) := by decide +kernel
theorem dX3_putInOrder_55 : decode cX3_putInOrder 55 = .ok (.return_, 1) := by decide +kernel
theorem dX3_isKnown_0 : decode cX3_isKnown 0 = .ok (.aload_n 0, 1) := by decide +kernel
theorem dX3_isKnown_1 : decode cX3_isKnown 1 = .ok (.getfield 21, 3) := by decide +kernel
theorem dX3_isKnown_4 : decode cX3_isKnown 4 = .ok (.iload_n 1, 1) := by decide +kernel
theorem dX3_isKnown_5 : decode cX3_isKnown 5 = .ok (.iaload, 1) := by decide +kernel
theorem dX3_isKnown_6 : decode cX3_isKnown 6 = .ok (.iload_n 2, 1) := by decide +kernel
theorem dX3_isKnown_7 : decode cX3_isKnown 7 = .ok (.if_icmp .gt 28, 3) := by decide +kernel
theorem dX3_isKnown_10 : decode cX3_isKnown 10 = .ok (.aload_n 0, 1) := by decide +kernel
theorem dX3_isKnown_11 : decode cX3_isKnown 11 = .ok (.getfield 24, 3) := by decide +kernel
theorem dX3_isKnown_14 : decode cX3_isKnown 14 = .ok (.iload_n 1, 1) := by decide +kernel
theorem dX3_isKnown_15 : decode cX3_isKnown 15 = .ok (.iaload, 1) := by decide +kernel
theorem dX3_isKnown_16 : decode cX3_isKnown 16 = .ok (.ldc 44, 2) := by decide +kernel
theorem dX3_isKnown_18 : decode cX3_isKnown 18 = .ok (.if_icmp .eq 13, 3) := by decide +kernel
theorem dX3_isKnown_21 : decode cX3_isKnown 21 = .ok (.aload_n 0, 1) := by decide +kernel
theorem dX3_isKnown_22 : decode cX3_isKnown 22 = .ok (.getfield 24, 3) := by decide +kernel
theorem dX3_isKnown_25 : decode cX3_isKnown 25 = .ok (.iload_n 1, 1) := by decide +kernel
theorem dX3_isKnown_26 : decode cX3_isKnown 26 = .ok (.iaload, 1) := by decide +kernel
theorem dX3_isKnown_27 : decode cX3_isKnown 27 = .ok (.iload_n 2, 1) := by decide +kernel
theorem dX3_isKnown_28 : decode cX3_isKnown 28 = .ok (.if_icmp .le 7, 3) := by decide +kernel
theorem dX3_isKnown_31 : decode cX3_isKnown 31 = .ok (.iconst 1, 1) := by decide +kernel
theorem dX3_isKnown_32 : decode cX3_isKnown 32 = .ok (.goto 4, 3) := by decide +kernel
theorem dX3_isKnown_35 : decode cX3_isKnown 35 = .ok (.iconst 0, 1) := by decide +kernel
theorem dX3_isKnown_36 : decode cX3_isKnown 36 = .ok (.ireturn, 1) := by decide +kernel
theorem dX3_allWithdrawn_0 : decode cX3_allWithdrawn 0 = .ok (.iconst 0, 1) := by decide +kernel
theorem dX3_allWithdrawn_1 : decode cX3_allWithdrawn 1 = .ok (.istore_n 1, 1) := by decide +kernel
theorem dX3_allWithdrawn_2 : decode cX3_allWithdrawn 2 = .ok (.iconst 0, 1) := by decide +kernel
theorem dX3_allWithdrawn_3 : decode cX3_allWithdrawn 3 = .ok (.istore_n 2, 1) := by decide +kernel
theorem dX3_allWithdrawn_4 : decode cX3_allWithdrawn 4 = .ok (.iload_n 2, 1) := by decide +kernel
theorem dX3_allWithdrawn_5 : decode cX3_allWithdrawn 5 = .ok (.aload_n 0, 1) := by decide +kernel
theorem dX3_allWithdrawn_6 : decode cX3_allWithdrawn 6 = .ok (.getfield 39, 3) := by decide +kernel
theorem dX3_allWithdrawn_9 : decode cX3_allWithdrawn 9 = .ok (.if_icmp .ge 23, 3) := by decide +kernel
theorem dX3_allWithdrawn_12 : decode cX3_allWithdrawn 12 = .ok (.aload_n 0, 1) := by decide +kernel
theorem dX3_allWithdrawn_13 : decode cX3_allWithdrawn 13 = .ok (.getfield 24, 3) := by decide +kernel
theorem dX3_allWithdrawn_16 : decode cX3_allWithdrawn 16 = .ok (.iload_n 2, 1) := by decide +kernel
theorem dX3_allWithdrawn_17 : decode cX3_allWithdrawn 17 = .ok (.iaload, 1) := by decide +kernel
theorem dX3_allWithdrawn_18 : decode cX3_allWithdrawn 18 = .ok (.ldc 44, 2) := by decide +kernel
theorem dX3_allWithdrawn_20 : decode cX3_allWithdrawn 20 = .ok (.if_icmp .eq 6, 3) := by decide +kernel
theorem dX3_allWithdrawn_23 : decode cX3_allWithdrawn 23 = .ok (.iinc 1 1, 3) := by decide +kernel
theorem dX3_allWithdrawn_26 : decode cX3_allWithdrawn 26 = .ok (.iinc 2 1, 3) := by decide +kernel
theorem dX3_allWithdrawn_29 : decode cX3_allWithdrawn 29 = .ok (.goto (-25), 3) := by decide +kernel
theorem dX3_allWithdrawn_32 : decode cX3_allWithdrawn 32 = .ok (.iload_n 1, 1) := by decide +kernel
theorem dX3_allWithdrawn_33 : decode cX3_allWithdrawn 33 = .ok (.ireturn, 1) := by decide +kernel
theorem dX3_become_0 : decode cX3_become 0 = .ok (.aload_n 0, 1) := by decide +kernel
theorem dX3_become_1 : decode cX3_become 1 = .ok (.getfield 9, 3) := by decide +kernel
theorem dX3_become_4 : decode cX3_become 4 = .ok (.aload_n 1, 1) := by decide +kernel
theorem dX3_become_5 : decode cX3_become 5 = .ok (.getfield 9, 3) := by decide +kernel
theorem dX3_become_8 : decode cX3_become 8 = .ok (.invokestatic 49, 3) := by decide +kernel
theorem dX3_become_11 : decode cX3_become 11 = .ok (.aload_n 0, 1) := by decide +kernel
theorem dX3_become_12 : decode cX3_become 12 = .ok (.getfield 15, 3) := by decide +kernel
theorem dX3_become_15 : decode cX3_become 15 = .ok (.aload_n 1, 1) := by decide +kernel
theorem dX3_become_16 : decode cX3_become 16 = .ok (.getfield 15, 3) := by decide +kernel
theorem dX3_become_19 : decode cX3_become 19 = .ok (.invokestatic 49, 3) := by decide +kernel
theorem dX3_become_22 : decode cX3_become 22 = .ok (.aload_n 0, 1) := by decide +kernel
theorem dX3_become_23 : decode cX3_become 23 = .ok (.getfield 18, 3) := by decide +kernel
theorem dX3_become_26 : decode cX3_become 26 = .ok (.aload_n 1, 1) := by decide +kernel
theorem dX3_become_27 : decode cX3_become 27 = .ok (.getfield 18, 3) := by decide +kernel
theorem dX3_become_30 : decode cX3_become 30 = .ok (.invokestatic 49, 3) := by decide +kernel
theorem dX3_become_33 : decode cX3_become 33 = .ok (.aload_n 0, 1) := by decide +kernel
theorem dX3_become_34 : decode cX3_become 34 = .ok (.getfield 21, 3) := by decide +kernel
theorem dX3_become_37 : decode cX3_become 37 = .ok (.aload_n 1, 1) := by decide +kernel
theorem dX3_become_38 : decode cX3_become 38 = .ok (.getfield 21, 3) := by decide +kernel
theorem dX3_become_41 : decode cX3_become 41 = .ok (.invokestatic 49, 3) := by decide +kernel
theorem dX3_become_44 : decode cX3_become 44 = .ok (.aload_n 0, 1) := by decide +kernel
theorem dX3_become_45 : decode cX3_become 45 = .ok (.getfield 24, 3) := by decide +kernel
theorem dX3_become_48 : decode cX3_become 48 = .ok (.aload_n 1, 1) := by decide +kernel
theorem dX3_become_49 : decode cX3_become 49 = .ok (.getfield 24, 3) := by decide +kernel
theorem dX3_become_52 : decode cX3_become 52 = .ok (.invokestatic 49, 3) := by decide +kernel
theorem dX3_become_55 : decode cX3_become 55 = .ok (.aload_n 0, 1) := by decide +kernel
theorem dX3_become_56 : decode cX3_become 56 = .ok (.getfield 27, 3) := by decide +kernel
theorem dX3_become_59 : decode cX3_become 59 = .ok (.aload_n 1, 1) := by decide +kernel
theorem dX3_become_60 : decode cX3_become 60 = .ok (.getfield 27, 3) := by decide +kernel
theorem dX3_become_63 : decode cX3_become 63 = .ok (.invokestatic 49, 3) := by decide +kernel
theorem dX3_become_66 : decode cX3_become 66 = .ok (.aload_n 0, 1) := by decide +kernel
theorem dX3_become_67 : decode cX3_become 67 = .ok (.getfield 30, 3) := by decide +kernel
theorem dX3_become_70 : decode cX3_become 70 = .ok (.aload_n 1, 1) := by decide +kernel
theorem dX3_become_71 : decode cX3_become 71 = .ok (.getfield 30, 3) := by decide +kernel
theorem dX3_become_74 : decode cX3_become 74 = .ok (.invokestatic 49, 3) := by decide +kernel
theorem dX3_become_77 : decode cX3_become 77 = .ok (.aload_n 0, 1) := by decide +kernel
theorem dX3_become_78 : decode cX3_become 78 = .ok (.getfield 33, 3) := by decide +kernel
theorem dX3_become_81 : decode cX3_become 81 = .ok (.aload_n 1, 1) := by decide +kernel
theorem dX3_become_82 : decode cX3_become 82 = .ok (.getfield 33, 3) := by decide +kernel
theorem dX3_become_85 : decode cX3_become 85 = .ok (.invokestatic 49, 3) := by decide +kernel
theorem dX3_become_88 : decode cX3_become 88 = .ok (.aload_n 0, 1) := by decide +kernel
theorem dX3_become_89 : decode cX3_become 89 = .ok (.getfield 36, 3) := by decide +kernel
theorem dX3_become_92 : decode cX3_become 92 = .ok (.aload_n 1, 1) := by decide +kernel
theorem dX3_become_93 : decode cX3_become 93 = .ok (.getfield 36, 3) := by decide +kernel
theorem dX3_become_96 : decode cX3_become 96 = .ok (.invokestatic 49, 3) := by decide +kernel
theorem dX3_become_99 : decode cX3_become 99 = .ok (.aload_n 0, 1) := by decide +kernel
theorem dX3_become_100 : decode cX3_become 100 = .ok (.aload_n 1, 1) := by decide +kernel
theorem dX3_become_101 : decode cX3_become 101 = .ok (.getfield 39, 3) := by decide +kernel
theorem dX3_become_104 : decode cX3_become 104 = .ok (.putfield 39, 3) := by decide +kernel
theorem dX3_become_107 : decode cX3_become 107 = .ok (.return_, 1) := by decide +kernel
theorem dX4_init_0 : decode cX4_init 0 = .ok (.aload_n 0, 1) := by decide +kernel
theorem dX4_init_1 : decode cX4_init 1 = .ok (.invokespecial 3, 3) := by decide +kernel
theorem dX4_init_4 : decode cX4_init 4 = .ok (.aload_n 0, 1) := by decide +kernel
theorem dX4_init_5 : decode cX4_init 5 = .ok (.bipush 10, 2) := by decide +kernel
theorem dX4_init_7 : decode cX4_init 7 = .ok (.newarray .int, 2) := by decide +kernel
theorem dX4_init_9 : decode cX4_init 9 = .ok (.putfield 9, 3) := by decide +kernel
theorem dX4_init_12 : decode cX4_init 12 = .ok (.aload_n 0, 1) := by decide +kernel
theorem dX4_init_13 : decode cX4_init 13 = .ok (.bipush 10, 2) := by decide +kernel
theorem dX4_init_15 : decode cX4_init 15 = .ok (.newarray .int, 2) := by decide +kernel
theorem dX4_init_17 : decode cX4_init 17 = .ok (.putfield 15, 3) := by decide +kernel
theorem dX4_init_20 : decode cX4_init 20 = .ok (.aload_n 0, 1) := by decide +kernel
theorem dX4_init_21 : decode cX4_init 21 = .ok (.bipush 10, 2) := by decide +kernel
theorem dX4_init_23 : decode cX4_init 23 = .ok (.newarray .int, 2) := by decide +kernel
theorem dX4_init_25 : decode cX4_init 25 = .ok (.putfield 18, 3) := by decide +kernel
theorem dX4_init_28 : decode cX4_init 28 = .ok (.return_, 1) := by decide +kernel
theorem dX4_enrol_0 : decode cX4_enrol 0 = .ok (.aload_n 0, 1) := by decide +kernel
theorem dX4_enrol_1 : decode cX4_enrol 1 = .ok (.getfield 21, 3) := by decide +kernel
theorem dX4_enrol_4 : decode cX4_enrol 4 = .ok (.bipush 10, 2) := by decide +kernel
theorem dX4_enrol_6 : decode cX4_enrol 6 = .ok (.if_icmp .lt 6, 3) := by decide +kernel
theorem dX4_enrol_9 : decode cX4_enrol 9 = .ok (.ldc 25, 2) := by decide +kernel
theorem dX4_enrol_11 : decode cX4_enrol 11 = .ok (.ireturn, 1) := by decide +kernel
theorem dX4_enrol_12 : decode cX4_enrol 12 = .ok (.aload_n 0, 1) := by decide +kernel
theorem dX4_enrol_13 : decode cX4_enrol 13 = .ok (.getfield 9, 3) := by decide +kernel
theorem dX4_enrol_16 : decode cX4_enrol 16 = .ok (.aload_n 0, 1) := by decide +kernel
theorem dX4_enrol_17 : decode cX4_enrol 17 = .ok (.getfield 21, 3) := by decide +kernel
theorem dX4_enrol_20 : decode cX4_enrol 20 = .ok (.iload_n 1, 1) := by decide +kernel
theorem dX4_enrol_21 : decode cX4_enrol 21 = .ok (.iastore, 1) := by decide +kernel
theorem dX4_enrol_22 : decode cX4_enrol 22 = .ok (.aload_n 0, 1) := by decide +kernel
theorem dX4_enrol_23 : decode cX4_enrol 23 = .ok (.getfield 15, 3) := by decide +kernel
theorem dX4_enrol_26 : decode cX4_enrol 26 = .ok (.aload_n 0, 1) := by decide +kernel
theorem dX4_enrol_27 : decode cX4_enrol 27 = .ok (.getfield 21, 3) := by decide +kernel
theorem dX4_enrol_30 : decode cX4_enrol 30 = .ok (.iload_n 2, 1) := by decide +kernel
theorem dX4_enrol_31 : decode cX4_enrol 31 = .ok (.iastore, 1) := by decide +kernel
theorem dX4_enrol_32 : decode cX4_enrol 32 = .ok (.aload_n 0, 1) := by decide +kernel
theorem dX4_enrol_33 : decode cX4_enrol 33 = .ok (.getfield 18, 3) := by decide +kernel
theorem dX4_enrol_36 : decode cX4_enrol 36 = .ok (.aload_n 0, 1) := by decide +kernel
theorem dX4_enrol_37 : decode cX4_enrol 37 = .ok (.getfield 21, 3) := by decide +kernel
theorem dX4_enrol_40 : decode cX4_enrol 40 = .ok (.ldc 26, 2) := by decide +kernel
theorem dX4_enrol_42 : decode cX4_enrol 42 = .ok (.iastore, 1) := by decide +kernel
theorem dX4_enrol_43 : decode cX4_enrol 43 = .ok (.aload_n 0, 1) := by decide +kernel
theorem dX4_enrol_44 : decode cX4_enrol 44 = .ok (.dup, 1) := by decide +kernel
theorem dX4_enrol_45 : decode cX4_enrol 45 = .ok (.getfield 21, 3) := by decide +kernel
theorem dX4_enrol_48 : decode cX4_enrol 48 = .ok (.iconst 1, 1) := by decide +kernel
theorem dX4_enrol_49 : decode cX4_enrol 49 = .ok (.iadd, 1) := by decide +kernel
theorem dX4_enrol_50 : decode cX4_enrol 50 = .ok (.putfield 21, 3) := by decide +kernel
theorem dX4_enrol_53 : decode cX4_enrol 53 = .ok (.aload_n 0, 1) := by decide +kernel
theorem dX4_enrol_54 : decode cX4_enrol 54 = .ok (.getfield 21, 3) := by decide +kernel
theorem dX4_enrol_57 : decode cX4_enrol 57 = .ok (.iconst 1, 1) := by decide +kernel
theorem dX4_enrol_58 : decode cX4_enrol 58 = .ok (.isub, 1) := by decide +kernel
theorem dX4_enrol_59 : decode cX4_enrol 59 = .ok (.ireturn, 1) := by decide +kernel
theorem dX4_isOf_0 : decode cX4_isOf 0 = .ok (.aload_n 0, 1) := by decide +kernel
theorem dX4_isOf_1 : decode cX4_isOf 1 = .ok (.getfield 9, 3) := by decide +kernel
theorem dX4_isOf_4 : decode cX4_isOf 4 = .ok (.iload_n 1, 1) := by decide +kernel
theorem dX4_isOf_5 : decode cX4_isOf 5 = .ok (.iaload, 1) := by decide +kernel
theorem dX4_isOf_6 : decode cX4_isOf 6 = .ok (.istore_n 3, 1) := by decide +kernel
theorem dX4_isOf_7 : decode cX4_isOf 7 = .ok (.iload_n 2, 1) := by decide +kernel
theorem dX4_isOf_8 : decode cX4_isOf 8 = .ok (.ifCond .eq 18, 3) := by decide +kernel
theorem dX4_isOf_11 : decode cX4_isOf 11 = .ok (.iload_n 3, 1) := by decide +kernel
theorem dX4_isOf_12 : decode cX4_isOf 12 = .ok (.iload_n 2, 1) := by decide +kernel
theorem dX4_isOf_13 : decode cX4_isOf 13 = .ok (.if_icmp .eq 13, 3) := by decide +kernel
theorem dX4_isOf_16 : decode cX4_isOf 16 = .ok (.iload_n 3, 1) := by decide +kernel
theorem dX4_isOf_17 : decode cX4_isOf 17 = .ok (.iconst 3, 1) := by decide +kernel
theorem dX4_isOf_18 : decode cX4_isOf 18 = .ok (.if_icmp .ne 12, 3) := by decide +kernel
theorem dX4_isOf_21 : decode cX4_isOf 21 = .ok (.iload_n 2, 1) := by decide +kernel
theorem dX4_isOf_22 : decode cX4_isOf 22 = .ok (.iconst 2, 1) := by decide +kernel
theorem dX4_isOf_23 : decode cX4_isOf 23 = .ok (.if_icmp .ne 7, 3) := by decide +kernel
theorem dX4_isOf_26 : decode cX4_isOf 26 = .ok (.iconst 1, 1) := by decide +kernel
theorem dX4_isOf_27 : decode cX4_isOf 27 = .ok (.goto 4, 3) := by decide +kernel
theorem dX4_isOf_30 : decode cX4_isOf 30 = .ok (.iconst 0, 1) := by decide +kernel
theorem dX4_isOf_31 : decode cX4_isOf 31 = .ok (.ireturn, 1) := by decide +kernel
theorem dX4_shares_0 : decode cX4_shares 0 = .ok (.iload_n 1, 1) := by decide +kernel
theorem dX4_shares_1 : decode cX4_shares 1 = .ok (.iload_n 2, 1) := by decide +kernel
theorem dX4_shares_2 : decode cX4_shares 2 = .ok (.if_icmp .eq 29, 3) := by decide +kernel
theorem dX4_shares_5 : decode cX4_shares 5 = .ok (.aload_n 0, 1) := by decide +kernel
theorem dX4_shares_6 : decode cX4_shares 6 = .ok (.getfield 18, 3) := by decide +kernel
theorem dX4_shares_9 : decode cX4_shares 9 = .ok (.iload_n 1, 1) := by decide +kernel
theorem dX4_shares_10 : decode cX4_shares 10 = .ok (.iaload, 1) := by decide +kernel
theorem dX4_shares_11 : decode cX4_shares 11 = .ok (.ldc 26, 2) := by decide +kernel
theorem dX4_shares_13 : decode cX4_shares 13 = .ok (.if_icmp .eq 22, 3) := by decide +kernel
theorem dX4_shares_16 : decode cX4_shares 16 = .ok (.aload_n 0, 1) := by decide +kernel
theorem dX4_shares_17 : decode cX4_shares 17 = .ok (.getfield 18, 3) := by decide +kernel
theorem dX4_shares_20 : decode cX4_shares 20 = .ok (.iload_n 1, 1) := by decide +kernel
theorem dX4_shares_21 : decode cX4_shares 21 = .ok (.iaload, 1) := by decide +kernel
theorem dX4_shares_22 : decode cX4_shares 22 = .ok (.aload_n 0, 1) := by decide +kernel
theorem dX4_shares_23 : decode cX4_shares 23 = .ok (.getfield 18, 3) := by decide +kernel
theorem dX4_shares_26 : decode cX4_shares 26 = .ok (.iload_n 2, 1) := by decide +kernel
theorem dX4_shares_27 : decode cX4_shares 27 = .ok (.iaload, 1) := by decide +kernel
theorem dX4_shares_28 : decode cX4_shares 28 = .ok (.if_icmp .ne 7, 3) := by decide +kernel
theorem dX4_shares_31 : decode cX4_shares 31 = .ok (.iconst 1, 1) := by decide +kernel
theorem dX4_shares_32 : decode cX4_shares 32 = .ok (.goto 4, 3) := by decide +kernel
theorem dX4_shares_35 : decode cX4_shares 35 = .ok (.iconst 0, 1) := by decide +kernel
theorem dX4_shares_36 : decode cX4_shares 36 = .ok (.ireturn, 1) := by decide +kernel
theorem dX4_ringAt_0 : decode cX4_ringAt 0 = .ok (.iconst 0, 1) := by decide +kernel
theorem dX4_ringAt_1 : decode cX4_ringAt 1 = .ok (.istore_n 2, 1) := by decide +kernel
theorem dX4_ringAt_2 : decode cX4_ringAt 2 = .ok (.iconst 0, 1) := by decide +kernel
theorem dX4_ringAt_3 : decode cX4_ringAt 3 = .ok (.istore_n 3, 1) := by decide +kernel
theorem dX4_ringAt_4 : decode cX4_ringAt 4 = .ok (.iconst 0, 1) := by decide +kernel
theorem dX4_ringAt_5 : decode cX4_ringAt 5 = .ok (.istore 4, 2) := by decide +kernel
theorem dX4_ringAt_7 : decode cX4_ringAt 7 = .ok (.iload 4, 2) := by decide +kernel
theorem dX4_ringAt_9 : decode cX4_ringAt 9 = .ok (.aload_n 0, 1) := by decide +kernel
theorem dX4_ringAt_10 : decode cX4_ringAt 10 = .ok (.getfield 21, 3) := by decide +kernel
theorem dX4_ringAt_13 : decode cX4_ringAt 13 = .ok (.if_icmp .ge 51, 3) := by decide +kernel
theorem dX4_ringAt_16 : decode cX4_ringAt 16 = .ok (.iload_n 2, 1) := by decide +kernel
theorem dX4_ringAt_17 : decode cX4_ringAt 17 = .ok (.iload 4, 2) := by decide +kernel
theorem dX4_ringAt_19 : decode cX4_ringAt 19 = .ok (.ishr, 1) := by decide +kernel
theorem dX4_ringAt_20 : decode cX4_ringAt 20 = .ok (.iconst 1, 1) := by decide +kernel
theorem dX4_ringAt_21 : decode cX4_ringAt 21 = .ok (.iand, 1) := by decide +kernel
theorem dX4_ringAt_22 : decode cX4_ringAt 22 = .ok (.ifCond .ne 36, 3) := by decide +kernel
theorem dX4_ringAt_25 : decode cX4_ringAt 25 = .ok (.aload_n 0, 1) := by decide +kernel
theorem dX4_ringAt_26 : decode cX4_ringAt 26 = .ok (.iload 4, 2) := by decide +kernel
theorem dX4_ringAt_28 : decode cX4_ringAt 28 = .ok (.invokevirtual 27, 3) := by decide +kernel
theorem dX4_ringAt_31 : decode cX4_ringAt 31 = .ok (.istore 5, 2) := by decide +kernel
theorem dX4_ringAt_33 : decode cX4_ringAt 33 = .ok (.iload_n 2, 1) := by decide +kernel
theorem dX4_ringAt_34 : decode cX4_ringAt 34 = .ok (.iload 5, 2) := by decide +kernel
theorem dX4_ringAt_36 : decode cX4_ringAt 36 = .ok (.ior, 1) := by decide +kernel
theorem dX4_ringAt_37 : decode cX4_ringAt 37 = .ok (.istore_n 2, 1) := by decide +kernel
theorem dX4_ringAt_38 : decode cX4_ringAt 38 = .ok (.iload 5, 2) := by decide +kernel
theorem dX4_ringAt_40 : decode cX4_ringAt 40 = .ok (.invokestatic 31, 3) := by decide +kernel
theorem dX4_ringAt_43 : decode cX4_ringAt 43 = .ok (.iconst 3, 1) := by decide +kernel
theorem dX4_ringAt_44 : decode cX4_ringAt 44 = .ok (.if_icmp .lt 14, 3) := by decide +kernel
theorem dX4_ringAt_47 : decode cX4_ringAt 47 = .ok (.iload_n 3, 1) := by decide +kernel
theorem dX4_ringAt_48 : decode cX4_ringAt 48 = .ok (.iload_n 1, 1) := by decide +kernel
theorem dX4_ringAt_49 : decode cX4_ringAt 49 = .ok (.if_icmp .ne 6, 3) := by decide +kernel
theorem dX4_ringAt_52 : decode cX4_ringAt 52 = .ok (.iload 5, 2) := by decide +kernel
theorem dX4_ringAt_54 : decode cX4_ringAt 54 = .ok (.ireturn, 1) := by decide +kernel
theorem dX4_ringAt_55 : decode cX4_ringAt 55 = .ok (.iinc 3 1, 3) := by decide +kernel
theorem dX4_ringAt_58 : decode cX4_ringAt 58 = .ok (.iinc 4 1, 3) := by decide +kernel
theorem dX4_ringAt_61 : decode cX4_ringAt 61 = .ok (.goto (-54), 3) := by decide +kernel
theorem dX4_ringAt_64 : decode cX4_ringAt 64 = .ok (.ldc 26, 2) := by decide +kernel
theorem dX4_ringAt_66 : decode cX4_ringAt 66 = .ok (.ireturn, 1) := by decide +kernel
theorem dX4_hangingWith_0 : decode cX4_hangingWith 0 = .ok (.iconst 1, 1) := by decide +kernel
theorem dX4_hangingWith_1 : decode cX4_hangingWith 1 = .ok (.iload_n 1, 1) := by decide +kernel
theorem dX4_hangingWith_2 : decode cX4_hangingWith 2 = .ok (.ishl, 1) := by decide +kernel
theorem dX4_hangingWith_3 : decode cX4_hangingWith 3 = .ok (.istore_n 2, 1) := by decide +kernel
theorem dX4_hangingWith_4 : decode cX4_hangingWith 4 = .ok (.aload_n 0, 1) := by decide +kernel
theorem dX4_hangingWith_5 : decode cX4_hangingWith 5 = .ok (.getfield 15, 3) := by decide +kernel
theorem dX4_hangingWith_8 : decode cX4_hangingWith 8 = .ok (.iload_n 1, 1) := by decide +kernel
theorem dX4_hangingWith_9 : decode cX4_hangingWith 9 = .ok (.iaload, 1) := by decide +kernel
theorem dX4_hangingWith_10 : decode cX4_hangingWith 10 = .ok (.istore_n 3, 1) := by decide +kernel
theorem dX4_hangingWith_11 : decode cX4_hangingWith 11 = .ok (.iconst 0, 1) := by decide +kernel
theorem dX4_hangingWith_12 : decode cX4_hangingWith 12 = .ok (.istore 4, 2) := by decide +kernel
theorem dX4_hangingWith_14 : decode cX4_hangingWith 14 = .ok (.iload 4, 2) := by decide +kernel
theorem dX4_hangingWith_16 : decode cX4_hangingWith 16 = .ok (.aload_n 0, 1) := by decide +kernel
theorem dX4_hangingWith_17 : decode cX4_hangingWith 17 = .ok (.getfield 21, 3) := by decide +kernel
theorem dX4_hangingWith_20 : decode cX4_hangingWith 20 = .ok (.if_icmp .ge 56, 3) := by decide +kernel
theorem dX4_hangingWith_23 : decode cX4_hangingWith 23 = .ok (.iconst 0, 1) := by decide +kernel
theorem dX4_hangingWith_24 : decode cX4_hangingWith 24 = .ok (.istore 5, 2) := by decide +kernel
theorem dX4_hangingWith_26 : decode cX4_hangingWith 26 = .ok (.iload 5, 2) := by decide +kernel
theorem dX4_hangingWith_28 : decode cX4_hangingWith 28 = .ok (.aload_n 0, 1) := by decide +kernel
theorem dX4_hangingWith_29 : decode cX4_hangingWith 29 = .ok (.getfield 21, 3) := by decide +kernel
theorem dX4_hangingWith_32 : decode cX4_hangingWith 32 = .ok (.if_icmp .ge 38, 3) := by decide +kernel
theorem dX4_hangingWith_35 : decode cX4_hangingWith 35 = .ok (.aload_n 0, 1) := by decide +kernel
theorem dX4_hangingWith_36 : decode cX4_hangingWith 36 = .ok (.getfield 15, 3) := by decide +kernel
theorem dX4_hangingWith_39 : decode cX4_hangingWith 39 = .ok (.iload 5, 2) := by decide +kernel
theorem dX4_hangingWith_41 : decode cX4_hangingWith 41 = .ok (.iaload, 1) := by decide +kernel
theorem dX4_hangingWith_42 : decode cX4_hangingWith 42 = .ok (.iload_n 3, 1) := by decide +kernel
theorem dX4_hangingWith_43 : decode cX4_hangingWith 43 = .ok (.iand, 1) := by decide +kernel
theorem dX4_hangingWith_44 : decode cX4_hangingWith 44 = .ok (.ifCond .eq 20, 3) := by decide +kernel
theorem dX4_hangingWith_47 : decode cX4_hangingWith 47 = .ok (.iload_n 2, 1) := by decide +kernel
theorem dX4_hangingWith_48 : decode cX4_hangingWith 48 = .ok (.iconst 1, 1) := by decide +kernel
theorem dX4_hangingWith_49 : decode cX4_hangingWith 49 = .ok (.iload 5, 2) := by decide +kernel
theorem dX4_hangingWith_51 : decode cX4_hangingWith 51 = .ok (.ishl, 1) := by decide +kernel
theorem dX4_hangingWith_52 : decode cX4_hangingWith 52 = .ok (.ior, 1) := by decide +kernel
theorem dX4_hangingWith_53 : decode cX4_hangingWith 53 = .ok (.istore_n 2, 1) := by decide +kernel
theorem dX4_hangingWith_54 : decode cX4_hangingWith 54 = .ok (.iload_n 3, 1) := by decide +kernel
theorem dX4_hangingWith_55 : decode cX4_hangingWith 55 = .ok (.aload_n 0, 1) := by decide +kernel
theorem dX4_hangingWith_56 : decode cX4_hangingWith 56 = .ok (.getfield 15, 3) := by decide +kernel
theorem dX4_hangingWith_59 : decode cX4_hangingWith 59 = .ok (.iload 5, 2) := by decide +kernel
theorem dX4_hangingWith_61 : decode cX4_hangingWith 61 = .ok (.iaload, 1) := by decide +kernel
theorem dX4_hangingWith_62 : decode cX4_hangingWith 62 = .ok (.ior, 1) := by decide +kernel
theorem dX4_hangingWith_63 : decode cX4_hangingWith 63 = .ok (.istore_n 3, 1) := by decide +kernel
theorem dX4_hangingWith_64 : decode cX4_hangingWith 64 = .ok (.iinc 5 1, 3) := by decide +kernel
theorem dX4_hangingWith_67 : decode cX4_hangingWith 67 = .ok (.goto (-41), 3) := by decide +kernel
theorem dX4_hangingWith_70 : decode cX4_hangingWith 70 = .ok (.iinc 4 1, 3) := by decide +kernel
theorem dX4_hangingWith_73 : decode cX4_hangingWith 73 = .ok (.goto (-59), 3) := by decide +kernel
theorem dX4_hangingWith_76 : decode cX4_hangingWith 76 = .ok (.iload_n 2, 1) := by decide +kernel
theorem dX4_hangingWith_77 : decode cX4_hangingWith 77 = .ok (.ireturn, 1) := by decide +kernel
theorem dX4_become_0 : decode cX4_become 0 = .ok (.aload_n 0, 1) := by decide +kernel
theorem dX4_become_1 : decode cX4_become 1 = .ok (.getfield 9, 3) := by decide +kernel
theorem dX4_become_4 : decode cX4_become 4 = .ok (.aload_n 1, 1) := by decide +kernel
theorem dX4_become_5 : decode cX4_become 5 = .ok (.getfield 9, 3) := by decide +kernel
theorem dX4_become_8 : decode cX4_become 8 = .ok (.invokestatic 36, 3) := by decide +kernel
theorem dX4_become_11 : decode cX4_become 11 = .ok (.aload_n 0, 1) := by decide +kernel
theorem dX4_become_12 : decode cX4_become 12 = .ok (.getfield 15, 3) := by decide +kernel
theorem dX4_become_15 : decode cX4_become 15 = .ok (.aload_n 1, 1) := by decide +kernel
theorem dX4_become_16 : decode cX4_become 16 = .ok (.getfield 15, 3) := by decide +kernel
theorem dX4_become_19 : decode cX4_become 19 = .ok (.invokestatic 36, 3) := by decide +kernel
theorem dX4_become_22 : decode cX4_become 22 = .ok (.aload_n 0, 1) := by decide +kernel
theorem dX4_become_23 : decode cX4_become 23 = .ok (.getfield 18, 3) := by decide +kernel
theorem dX4_become_26 : decode cX4_become 26 = .ok (.aload_n 1, 1) := by decide +kernel
theorem dX4_become_27 : decode cX4_become 27 = .ok (.getfield 18, 3) := by decide +kernel
theorem dX4_become_30 : decode cX4_become 30 = .ok (.invokestatic 36, 3) := by decide +kernel
theorem dX4_become_33 : decode cX4_become 33 = .ok (.aload_n 0, 1) := by decide +kernel
theorem dX4_become_34 : decode cX4_become 34 = .ok (.aload_n 1, 1) := by decide +kernel
theorem dX4_become_35 : decode cX4_become 35 = .ok (.getfield 21, 3) := by decide +kernel
theorem dX4_become_38 : decode cX4_become 38 = .ok (.putfield 21, 3) := by decide +kernel
theorem dX4_become_41 : decode cX4_become 41 = .ok (.return_, 1) := by decide +kernel
theorem dX5_init_0 : decode cX5_init 0 = .ok (.aload_n 0, 1) := by decide +kernel
theorem dX5_init_1 : decode cX5_init 1 = .ok (.invokespecial 3, 3) := by decide +kernel
theorem dX5_init_4 : decode cX5_init 4 = .ok (.aload_n 0, 1) := by decide +kernel
theorem dX5_init_5 : decode cX5_init 5 = .ok (.bipush 8, 2) := by decide +kernel
theorem dX5_init_7 : decode cX5_init 7 = .ok (.newarray .int, 2) := by decide +kernel
theorem dX5_init_9 : decode cX5_init 9 = .ok (.putfield 9, 3) := by decide +kernel
theorem dX5_init_12 : decode cX5_init 12 = .ok (.aload_n 0, 1) := by decide +kernel
theorem dX5_init_13 : decode cX5_init 13 = .ok (.bipush 8, 2) := by decide +kernel
theorem dX5_init_15 : decode cX5_init 15 = .ok (.newarray .int, 2) := by decide +kernel
theorem dX5_init_17 : decode cX5_init 17 = .ok (.putfield 15, 3) := by decide +kernel
theorem dX5_init_20 : decode cX5_init 20 = .ok (.aload_n 0, 1) := by decide +kernel
theorem dX5_init_21 : decode cX5_init 21 = .ok (.bipush 8, 2) := by decide +kernel
theorem dX5_init_23 : decode cX5_init 23 = .ok (.newarray .int, 2) := by decide +kernel
theorem dX5_init_25 : decode cX5_init 25 = .ok (.putfield 18, 3) := by decide +kernel
theorem dX5_init_28 : decode cX5_init 28 = .ok (.return_, 1) := by decide +kernel
theorem dX5_add_0 : decode cX5_add 0 = .ok (.aload_n 0, 1) := by decide +kernel
theorem dX5_add_1 : decode cX5_add 1 = .ok (.getfield 21, 3) := by decide +kernel
theorem dX5_add_4 : decode cX5_add 4 = .ok (.bipush 8, 2) := by decide +kernel
theorem dX5_add_6 : decode cX5_add 6 = .ok (.if_icmp .lt 6, 3) := by decide +kernel
theorem dX5_add_9 : decode cX5_add 9 = .ok (.ldc 25, 2) := by decide +kernel
theorem dX5_add_11 : decode cX5_add 11 = .ok (.ireturn, 1) := by decide +kernel
theorem dX5_add_12 : decode cX5_add 12 = .ok (.aload_n 0, 1) := by decide +kernel
theorem dX5_add_13 : decode cX5_add 13 = .ok (.getfield 9, 3) := by decide +kernel
theorem dX5_add_16 : decode cX5_add 16 = .ok (.aload_n 0, 1) := by decide +kernel
theorem dX5_add_17 : decode cX5_add 17 = .ok (.getfield 21, 3) := by decide +kernel
theorem dX5_add_20 : decode cX5_add 20 = .ok (.iload_n 1, 1) := by decide +kernel
theorem dX5_add_21 : decode cX5_add 21 = .ok (.iastore, 1) := by decide +kernel
theorem dX5_add_22 : decode cX5_add 22 = .ok (.aload_n 0, 1) := by decide +kernel
theorem dX5_add_23 : decode cX5_add 23 = .ok (.getfield 15, 3) := by decide +kernel
theorem dX5_add_26 : decode cX5_add 26 = .ok (.aload_n 0, 1) := by decide +kernel
theorem dX5_add_27 : decode cX5_add 27 = .ok (.getfield 21, 3) := by decide +kernel
theorem dX5_add_30 : decode cX5_add 30 = .ok (.iload_n 2, 1) := by decide +kernel
theorem dX5_add_31 : decode cX5_add 31 = .ok (.iastore, 1) := by decide +kernel
theorem dX5_add_32 : decode cX5_add 32 = .ok (.aload_n 0, 1) := by decide +kernel
theorem dX5_add_33 : decode cX5_add 33 = .ok (.getfield 18, 3) := by decide +kernel
theorem dX5_add_36 : decode cX5_add 36 = .ok (.aload_n 0, 1) := by decide +kernel
theorem dX5_add_37 : decode cX5_add 37 = .ok (.getfield 21, 3) := by decide +kernel
theorem dX5_add_40 : decode cX5_add 40 = .ok (.iload_n 3, 1) := by decide +kernel
theorem dX5_add_41 : decode cX5_add 41 = .ok (.iastore, 1) := by decide +kernel
theorem dX5_add_42 : decode cX5_add 42 = .ok (.aload_n 0, 1) := by decide +kernel
theorem dX5_add_43 : decode cX5_add 43 = .ok (.dup, 1) := by decide +kernel
theorem dX5_add_44 : decode cX5_add 44 = .ok (.getfield 21, 3) := by decide +kernel
theorem dX5_add_47 : decode cX5_add 47 = .ok (.iconst 1, 1) := by decide +kernel
theorem dX5_add_48 : decode cX5_add 48 = .ok (.iadd, 1) := by decide +kernel
theorem dX5_add_49 : decode cX5_add 49 = .ok (.putfield 21, 3) := by decide +kernel
theorem dX5_add_52 : decode cX5_add 52 = .ok (.aload_n 0, 1) := by decide +kernel
theorem dX5_add_53 : decode cX5_add 53 = .ok (.getfield 21, 3) := by decide +kernel
theorem dX5_add_56 : decode cX5_add 56 = .ok (.iconst 1, 1) := by decide +kernel
theorem dX5_add_57 : decode cX5_add 57 = .ok (.isub, 1) := by decide +kernel
theorem dX5_add_58 : decode cX5_add 58 = .ok (.ireturn, 1) := by decide +kernel
theorem dX5_become_0 : decode cX5_become 0 = .ok (.aload_n 0, 1) := by decide +kernel
theorem dX5_become_1 : decode cX5_become 1 = .ok (.getfield 9, 3) := by decide +kernel
theorem dX5_become_4 : decode cX5_become 4 = .ok (.aload_n 1, 1) := by decide +kernel
theorem dX5_become_5 : decode cX5_become 5 = .ok (.getfield 9, 3) := by decide +kernel
theorem dX5_become_8 : decode cX5_become 8 = .ok (.invokestatic 26, 3) := by decide +kernel
theorem dX5_become_11 : decode cX5_become 11 = .ok (.aload_n 0, 1) := by decide +kernel
theorem dX5_become_12 : decode cX5_become 12 = .ok (.getfield 15, 3) := by decide +kernel
theorem dX5_become_15 : decode cX5_become 15 = .ok (.aload_n 1, 1) := by decide +kernel
theorem dX5_become_16 : decode cX5_become 16 = .ok (.getfield 15, 3) := by decide +kernel
theorem dX5_become_19 : decode cX5_become 19 = .ok (.invokestatic 26, 3) := by decide +kernel
theorem dX5_become_22 : decode cX5_become 22 = .ok (.aload_n 0, 1) := by decide +kernel
theorem dX5_become_23 : decode cX5_become 23 = .ok (.getfield 18, 3) := by decide +kernel
theorem dX5_become_26 : decode cX5_become 26 = .ok (.aload_n 1, 1) := by decide +kernel
theorem dX5_become_27 : decode cX5_become 27 = .ok (.getfield 18, 3) := by decide +kernel
theorem dX5_become_30 : decode cX5_become 30 = .ok (.invokestatic 26, 3) := by decide +kernel
theorem dX5_become_33 : decode cX5_become 33 = .ok (.aload_n 0, 1) := by decide +kernel
theorem dX5_become_34 : decode cX5_become 34 = .ok (.aload_n 1, 1) := by decide +kernel
theorem dX5_become_35 : decode cX5_become 35 = .ok (.getfield 21, 3) := by decide +kernel
theorem dX5_become_38 : decode cX5_become 38 = .ok (.putfield 21, 3) := by decide +kernel
theorem dX5_become_41 : decode cX5_become 41 = .ok (.return_, 1) := by decide +kernel
theorem dX6_init_0 : decode cX6_init 0 = .ok (.aload_n 0, 1) := by decide +kernel
theorem dX6_init_1 : decode cX6_init 1 = .ok (.invokespecial 3, 3) := by decide +kernel
theorem dX6_init_4 : decode cX6_init 4 = .ok (.aload_n 0, 1) := by decide +kernel
theorem dX6_init_5 : decode cX6_init 5 = .ok (.bipush 8, 2) := by decide +kernel
theorem dX6_init_7 : decode cX6_init 7 = .ok (.newarray .int, 2) := by decide +kernel
theorem dX6_init_9 : decode cX6_init 9 = .ok (.putfield 9, 3) := by decide +kernel
theorem dX6_init_12 : decode cX6_init 12 = .ok (.aload_n 0, 1) := by decide +kernel
theorem dX6_init_13 : decode cX6_init 13 = .ok (.bipush 8, 2) := by decide +kernel
theorem dX6_init_15 : decode cX6_init 15 = .ok (.newarray .int, 2) := by decide +kernel
theorem dX6_init_17 : decode cX6_init 17 = .ok (.putfield 15, 3) := by decide +kernel
theorem dX6_init_20 : decode cX6_init 20 = .ok (.aload_n 0, 1) := by decide +kernel
theorem dX6_init_21 : decode cX6_init 21 = .ok (.bipush 8, 2) := by decide +kernel
theorem dX6_init_23 : decode cX6_init 23 = .ok (.newarray .int, 2) := by decide +kernel
theorem dX6_init_25 : decode cX6_init 25 = .ok (.putfield 18, 3) := by decide +kernel
theorem dX6_init_28 : decode cX6_init 28 = .ok (.aload_n 0, 1) := by decide +kernel
theorem dX6_init_29 : decode cX6_init 29 = .ok (.bipush 8, 2) := by decide +kernel
theorem dX6_init_31 : decode cX6_init 31 = .ok (.newarray .int, 2) := by decide +kernel
theorem dX6_init_33 : decode cX6_init 33 = .ok (.putfield 21, 3) := by decide +kernel
theorem dX6_init_36 : decode cX6_init 36 = .ok (.aload_n 0, 1) := by decide +kernel
theorem dX6_init_37 : decode cX6_init 37 = .ok (.bipush 30, 2) := by decide +kernel
theorem dX6_init_39 : decode cX6_init 39 = .ok (.newarray .int, 2) := by decide +kernel
theorem dX6_init_41 : decode cX6_init 41 = .ok (.putfield 24, 3) := by decide +kernel
theorem dX6_init_44 : decode cX6_init 44 = .ok (.aload_n 0, 1) := by decide +kernel
theorem dX6_init_45 : decode cX6_init 45 = .ok (.bipush 30, 2) := by decide +kernel
theorem dX6_init_47 : decode cX6_init 47 = .ok (.newarray .int, 2) := by decide +kernel
theorem dX6_init_49 : decode cX6_init 49 = .ok (.putfield 27, 3) := by decide +kernel
theorem dX6_init_52 : decode cX6_init 52 = .ok (.aload_n 0, 1) := by decide +kernel
theorem dX6_init_53 : decode cX6_init 53 = .ok (.bipush 30, 2) := by decide +kernel
theorem dX6_init_55 : decode cX6_init 55 = .ok (.newarray .int, 2) := by decide +kernel
theorem dX6_init_57 : decode cX6_init 57 = .ok (.putfield 30, 3) := by decide +kernel
theorem dX6_init_60 : decode cX6_init 60 = .ok (.aload_n 0, 1) := by decide +kernel
theorem dX6_init_61 : decode cX6_init 61 = .ok (.bipush 30, 2) := by decide +kernel
theorem dX6_init_63 : decode cX6_init 63 = .ok (.newarray .int, 2) := by decide +kernel
theorem dX6_init_65 : decode cX6_init 65 = .ok (.putfield 33, 3) := by decide +kernel
theorem dX6_init_68 : decode cX6_init 68 = .ok (.return_, 1) := by decide +kernel
theorem dX6_newFlight_0 : decode cX6_newFlight 0 = .ok (.aload_n 0, 1) := by decide +kernel
theorem dX6_newFlight_1 : decode cX6_newFlight 1 = .ok (.getfield 36, 3) := by decide +kernel
theorem dX6_newFlight_4 : decode cX6_newFlight 4 = .ok (.bipush 8, 2) := by decide +kernel
theorem dX6_newFlight_6 : decode cX6_newFlight 6 = .ok (.if_icmp .lt 6, 3) := by decide +kernel
theorem dX6_newFlight_9 : decode cX6_newFlight 9 = .ok (.ldc 40, 2) := by decide +kernel
theorem dX6_newFlight_11 : decode cX6_newFlight 11 = .ok (.ireturn, 1) := by decide +kernel
theorem dX6_newFlight_12 : decode cX6_newFlight 12 = .ok (.aload_n 0, 1) := by decide +kernel
theorem dX6_newFlight_13 : decode cX6_newFlight 13 = .ok (.getfield 9, 3) := by decide +kernel
theorem dX6_newFlight_16 : decode cX6_newFlight 16 = .ok (.aload_n 0, 1) := by decide +kernel
theorem dX6_newFlight_17 : decode cX6_newFlight 17 = .ok (.getfield 36, 3) := by decide +kernel
theorem dX6_newFlight_20 : decode cX6_newFlight 20 = .ok (.iload_n 1, 1) := by decide +kernel
theorem dX6_newFlight_21 : decode cX6_newFlight 21 = .ok (.iastore, 1) := by decide +kernel
theorem dX6_newFlight_22 : decode cX6_newFlight 22 = .ok (.aload_n 0, 1) := by decide +kernel
theorem dX6_newFlight_23 : decode cX6_newFlight 23 = .ok (.getfield 15, 3) := by decide +kernel
theorem dX6_newFlight_26 : decode cX6_newFlight 26 = .ok (.aload_n 0, 1) := by decide +kernel
theorem dX6_newFlight_27 : decode cX6_newFlight 27 = .ok (.getfield 36, 3) := by decide +kernel
theorem dX6_newFlight_30 : decode cX6_newFlight 30 = .ok (.iload_n 2, 1) := by decide +kernel
theorem dX6_newFlight_31 : decode cX6_newFlight 31 = .ok (.iastore, 1) := by decide +kernel
theorem dX6_newFlight_32 : decode cX6_newFlight 32 = .ok (.aload_n 0, 1) := by decide +kernel
theorem dX6_newFlight_33 : decode cX6_newFlight 33 = .ok (.getfield 18, 3) := by decide +kernel
theorem dX6_newFlight_36 : decode cX6_newFlight 36 = .ok (.aload_n 0, 1) := by decide +kernel
theorem dX6_newFlight_37 : decode cX6_newFlight 37 = .ok (.getfield 36, 3) := by decide +kernel
theorem dX6_newFlight_40 : decode cX6_newFlight 40 = .ok (.iload_n 3, 1) := by decide +kernel
theorem dX6_newFlight_41 : decode cX6_newFlight 41 = .ok (.iastore, 1) := by decide +kernel
theorem dX6_newFlight_42 : decode cX6_newFlight 42 = .ok (.aload_n 0, 1) := by decide +kernel
theorem dX6_newFlight_43 : decode cX6_newFlight 43 = .ok (.getfield 21, 3) := by decide +kernel
theorem dX6_newFlight_46 : decode cX6_newFlight 46 = .ok (.aload_n 0, 1) := by decide +kernel
theorem dX6_newFlight_47 : decode cX6_newFlight 47 = .ok (.getfield 36, 3) := by decide +kernel
theorem dX6_newFlight_50 : decode cX6_newFlight 50 = .ok (.iload 4, 2) := by decide +kernel
theorem dX6_newFlight_52 : decode cX6_newFlight 52 = .ok (.iastore, 1) := by decide +kernel
theorem dX6_newFlight_53 : decode cX6_newFlight 53 = .ok (.aload_n 0, 1) := by decide +kernel
theorem dX6_newFlight_54 : decode cX6_newFlight 54 = .ok (.dup, 1) := by decide +kernel
theorem dX6_newFlight_55 : decode cX6_newFlight 55 = .ok (.getfield 36, 3) := by decide +kernel
theorem dX6_newFlight_58 : decode cX6_newFlight 58 = .ok (.iconst 1, 1) := by decide +kernel
theorem dX6_newFlight_59 : decode cX6_newFlight 59 = .ok (.iadd, 1) := by decide +kernel
theorem dX6_newFlight_60 : decode cX6_newFlight 60 = .ok (.putfield 36, 3) := by decide +kernel
theorem dX6_newFlight_63 : decode cX6_newFlight 63 = .ok (.aload_n 0, 1) := by decide +kernel
theorem dX6_newFlight_64 : decode cX6_newFlight 64 = .ok (.getfield 36, 3) := by decide +kernel
theorem dX6_newFlight_67 : decode cX6_newFlight 67 = .ok (.iconst 1, 1) := by decide +kernel
theorem dX6_newFlight_68 : decode cX6_newFlight 68 = .ok (.isub, 1) := by decide +kernel
theorem dX6_newFlight_69 : decode cX6_newFlight 69 = .ok (.ireturn, 1) := by decide +kernel
theorem dX6_newAsk_0 : decode cX6_newAsk 0 = .ok (.aload_n 0, 1) := by decide +kernel
theorem dX6_newAsk_1 : decode cX6_newAsk 1 = .ok (.getfield 41, 3) := by decide +kernel
theorem dX6_newAsk_4 : decode cX6_newAsk 4 = .ok (.bipush 30, 2) := by decide +kernel
theorem dX6_newAsk_6 : decode cX6_newAsk 6 = .ok (.if_icmp .lt 6, 3) := by decide +kernel
theorem dX6_newAsk_9 : decode cX6_newAsk 9 = .ok (.ldc 40, 2) := by decide +kernel
theorem dX6_newAsk_11 : decode cX6_newAsk 11 = .ok (.ireturn, 1) := by decide +kernel
theorem dX6_newAsk_12 : decode cX6_newAsk 12 = .ok (.aload_n 0, 1) := by decide +kernel
theorem dX6_newAsk_13 : decode cX6_newAsk 13 = .ok (.getfield 24, 3) := by decide +kernel
theorem dX6_newAsk_16 : decode cX6_newAsk 16 = .ok (.aload_n 0, 1) := by decide +kernel
theorem dX6_newAsk_17 : decode cX6_newAsk 17 = .ok (.getfield 41, 3) := by decide +kernel
theorem dX6_newAsk_20 : decode cX6_newAsk 20 = .ok (.iload_n 1, 1) := by decide +kernel
theorem dX6_newAsk_21 : decode cX6_newAsk 21 = .ok (.iastore, 1) := by decide +kernel
theorem dX6_newAsk_22 : decode cX6_newAsk 22 = .ok (.aload_n 0, 1) := by decide +kernel
theorem dX6_newAsk_23 : decode cX6_newAsk 23 = .ok (.getfield 27, 3) := by decide +kernel
theorem dX6_newAsk_26 : decode cX6_newAsk 26 = .ok (.aload_n 0, 1) := by decide +kernel
theorem dX6_newAsk_27 : decode cX6_newAsk 27 = .ok (.getfield 41, 3) := by decide +kernel
theorem dX6_newAsk_30 : decode cX6_newAsk 30 = .ok (.iload_n 2, 1) := by decide +kernel
theorem dX6_newAsk_31 : decode cX6_newAsk 31 = .ok (.iastore, 1) := by decide +kernel
theorem dX6_newAsk_32 : decode cX6_newAsk 32 = .ok (.aload_n 0, 1) := by decide +kernel
theorem dX6_newAsk_33 : decode cX6_newAsk 33 = .ok (.getfield 30, 3) := by decide +kernel
theorem dX6_newAsk_36 : decode cX6_newAsk 36 = .ok (.aload_n 0, 1) := by decide +kernel
theorem dX6_newAsk_37 : decode cX6_newAsk 37 = .ok (.getfield 41, 3) := by decide +kernel
theorem dX6_newAsk_40 : decode cX6_newAsk 40 = .ok (.iload_n 3, 1) := by decide +kernel
theorem dX6_newAsk_41 : decode cX6_newAsk 41 = .ok (.iastore, 1) := by decide +kernel
theorem dX6_newAsk_42 : decode cX6_newAsk 42 = .ok (.aload_n 0, 1) := by decide +kernel
theorem dX6_newAsk_43 : decode cX6_newAsk 43 = .ok (.getfield 33, 3) := by decide +kernel
theorem dX6_newAsk_46 : decode cX6_newAsk 46 = .ok (.aload_n 0, 1) := by decide +kernel
theorem dX6_newAsk_47 : decode cX6_newAsk 47 = .ok (.getfield 41, 3) := by decide +kernel
theorem dX6_newAsk_50 : decode cX6_newAsk 50 = .ok (.ldc 44, 2) := by decide +kernel
theorem dX6_newAsk_52 : decode cX6_newAsk 52 = .ok (.iastore, 1) := by decide +kernel
theorem dX6_newAsk_53 : decode cX6_newAsk 53 = .ok (.aload_n 0, 1) := by decide +kernel
theorem dX6_newAsk_54 : decode cX6_newAsk 54 = .ok (.dup, 1) := by decide +kernel
theorem dX6_newAsk_55 : decode cX6_newAsk 55 = .ok (.getfield 41, 3) := by decide +kernel
theorem dX6_newAsk_58 : decode cX6_newAsk 58 = .ok (.iconst 1, 1) := by decide +kernel
theorem dX6_newAsk_59 : decode cX6_newAsk 59 = .ok (.iadd, 1) := by decide +kernel
theorem dX6_newAsk_60 : decode cX6_newAsk 60 = .ok (.putfield 41, 3) := by decide +kernel
theorem dX6_newAsk_63 : decode cX6_newAsk 63 = .ok (.aload_n 0, 1) := by decide +kernel
theorem dX6_newAsk_64 : decode cX6_newAsk 64 = .ok (.getfield 41, 3) := by decide +kernel
theorem dX6_newAsk_67 : decode cX6_newAsk 67 = .ok (.iconst 1, 1) := by decide +kernel
theorem dX6_newAsk_68 : decode cX6_newAsk 68 = .ok (.isub, 1) := by decide +kernel
theorem dX6_newAsk_69 : decode cX6_newAsk 69 = .ok (.ireturn, 1) := by decide +kernel
theorem dX6_allWaiting_0 : decode cX6_allWaiting 0 = .ok (.iconst 0, 1) := by decide +kernel
theorem dX6_allWaiting_1 : decode cX6_allWaiting 1 = .ok (.istore_n 1, 1) := by decide +kernel
theorem dX6_allWaiting_2 : decode cX6_allWaiting 2 = .ok (.iconst 0, 1) := by decide +kernel
theorem dX6_allWaiting_3 : decode cX6_allWaiting 3 = .ok (.istore_n 2, 1) := by decide +kernel
theorem dX6_allWaiting_4 : decode cX6_allWaiting 4 = .ok (.iload_n 2, 1) := by decide +kernel
theorem dX6_allWaiting_5 : decode cX6_allWaiting 5 = .ok (.aload_n 0, 1) := by decide +kernel
theorem dX6_allWaiting_6 : decode cX6_allWaiting 6 = .ok (.getfield 41, 3) := by decide +kernel
theorem dX6_allWaiting_9 : decode cX6_allWaiting 9 = .ok (.if_icmp .ge 23, 3) := by decide +kernel
theorem dX6_allWaiting_12 : decode cX6_allWaiting 12 = .ok (.aload_n 0, 1) := by decide +kernel
theorem dX6_allWaiting_13 : decode cX6_allWaiting 13 = .ok (.getfield 33, 3) := by decide +kernel
theorem dX6_allWaiting_16 : decode cX6_allWaiting 16 = .ok (.iload_n 2, 1) := by decide +kernel
theorem dX6_allWaiting_17 : decode cX6_allWaiting 17 = .ok (.iaload, 1) := by decide +kernel
theorem dX6_allWaiting_18 : decode cX6_allWaiting 18 = .ok (.ldc 44, 2) := by decide +kernel
theorem dX6_allWaiting_20 : decode cX6_allWaiting 20 = .ok (.if_icmp .ne 6, 3) := by decide +kernel
theorem dX6_allWaiting_23 : decode cX6_allWaiting 23 = .ok (.iinc 1 1, 3) := by decide +kernel
theorem dX6_allWaiting_26 : decode cX6_allWaiting 26 = .ok (.iinc 2 1, 3) := by decide +kernel
theorem dX6_allWaiting_29 : decode cX6_allWaiting 29 = .ok (.goto (-25), 3) := by decide +kernel
theorem dX6_allWaiting_32 : decode cX6_allWaiting 32 = .ok (.iload_n 1, 1) := by decide +kernel
theorem dX6_allWaiting_33 : decode cX6_allWaiting 33 = .ok (.ireturn, 1) := by decide +kernel
theorem dX6_become_0 : decode cX6_become 0 = .ok (.aload_n 0, 1) := by decide +kernel
theorem dX6_become_1 : decode cX6_become 1 = .ok (.getfield 9, 3) := by decide +kernel
theorem dX6_become_4 : decode cX6_become 4 = .ok (.aload_n 1, 1) := by decide +kernel
theorem dX6_become_5 : decode cX6_become 5 = .ok (.getfield 9, 3) := by decide +kernel
theorem dX6_become_8 : decode cX6_become 8 = .ok (.invokestatic 45, 3) := by decide +kernel
theorem dX6_become_11 : decode cX6_become 11 = .ok (.aload_n 0, 1) := by decide +kernel
theorem dX6_become_12 : decode cX6_become 12 = .ok (.getfield 15, 3) := by decide +kernel
theorem dX6_become_15 : decode cX6_become 15 = .ok (.aload_n 1, 1) := by decide +kernel
theorem dX6_become_16 : decode cX6_become 16 = .ok (.getfield 15, 3) := by decide +kernel
theorem dX6_become_19 : decode cX6_become 19 = .ok (.invokestatic 45, 3) := by decide +kernel
theorem dX6_become_22 : decode cX6_become 22 = .ok (.aload_n 0, 1) := by decide +kernel
theorem dX6_become_23 : decode cX6_become 23 = .ok (.getfield 18, 3) := by decide +kernel
theorem dX6_become_26 : decode cX6_become 26 = .ok (.aload_n 1, 1) := by decide +kernel
theorem dX6_become_27 : decode cX6_become 27 = .ok (.getfield 18, 3) := by decide +kernel
theorem dX6_become_30 : decode cX6_become 30 = .ok (.invokestatic 45, 3) := by decide +kernel
theorem dX6_become_33 : decode cX6_become 33 = .ok (.aload_n 0, 1) := by decide +kernel
theorem dX6_become_34 : decode cX6_become 34 = .ok (.getfield 21, 3) := by decide +kernel
theorem dX6_become_37 : decode cX6_become 37 = .ok (.aload_n 1, 1) := by decide +kernel
theorem dX6_become_38 : decode cX6_become 38 = .ok (.getfield 21, 3) := by decide +kernel
theorem dX6_become_41 : decode cX6_become 41 = .ok (.invokestatic 45, 3) := by decide +kernel
theorem dX6_become_44 : decode cX6_become 44 = .ok (.aload_n 0, 1) := by decide +kernel
theorem dX6_become_45 : decode cX6_become 45 = .ok (.getfield 24, 3) := by decide +kernel
theorem dX6_become_48 : decode cX6_become 48 = .ok (.aload_n 1, 1) := by decide +kernel
theorem dX6_become_49 : decode cX6_become 49 = .ok (.getfield 24, 3) := by decide +kernel
theorem dX6_become_52 : decode cX6_become 52 = .ok (.invokestatic 45, 3) := by decide +kernel
theorem dX6_become_55 : decode cX6_become 55 = .ok (.aload_n 0, 1) := by decide +kernel
theorem dX6_become_56 : decode cX6_become 56 = .ok (.getfield 27, 3) := by decide +kernel
theorem dX6_become_59 : decode cX6_become 59 = .ok (.aload_n 1, 1) := by decide +kernel
theorem dX6_become_60 : decode cX6_become 60 = .ok (.getfield 27, 3) := by decide +kernel
theorem dX6_become_63 : decode cX6_become 63 = .ok (.invokestatic 45, 3) := by decide +kernel
theorem dX6_become_66 : decode cX6_become 66 = .ok (.aload_n 0, 1) := by decide +kernel
theorem dX6_become_67 : decode cX6_become 67 = .ok (.getfield 30, 3) := by decide +kernel
theorem dX6_become_70 : decode cX6_become 70 = .ok (.aload_n 1, 1) := by decide +kernel
theorem dX6_become_71 : decode cX6_become 71 = .ok (.getfield 30, 3) := by decide +kernel
theorem dX6_become_74 : decode cX6_become 74 = .ok (.invokestatic 45, 3) := by decide +kernel
theorem dX6_become_77 : decode cX6_become 77 = .ok (.aload_n 0, 1) := by decide +kernel
theorem dX6_become_78 : decode cX6_become 78 = .ok (.getfield 33, 3) := by decide +kernel
theorem dX6_become_81 : decode cX6_become 81 = .ok (.aload_n 1, 1) := by decide +kernel
theorem dX6_become_82 : decode cX6_become 82 = .ok (.getfield 33, 3) := by decide +kernel
theorem dX6_become_85 : decode cX6_become 85 = .ok (.invokestatic 45, 3) := by decide +kernel
theorem dX6_become_88 : decode cX6_become 88 = .ok (.aload_n 0, 1) := by decide +kernel
theorem dX6_become_89 : decode cX6_become 89 = .ok (.aload_n 1, 1) := by decide +kernel
theorem dX6_become_90 : decode cX6_become 90 = .ok (.getfield 36, 3) := by decide +kernel
theorem dX6_become_93 : decode cX6_become 93 = .ok (.putfield 36, 3) := by decide +kernel
theorem dX6_become_96 : decode cX6_become 96 = .ok (.aload_n 0, 1) := by decide +kernel
theorem dX6_become_97 : decode cX6_become 97 = .ok (.aload_n 1, 1) := by decide +kernel
theorem dX6_become_98 : decode cX6_become 98 = .ok (.getfield 41, 3) := by decide +kernel
theorem dX6_become_101 : decode cX6_become 101 = .ok (.putfield 41, 3) := by decide +kernel
theorem dX6_become_104 : decode cX6_become 104 = .ok (.return_, 1) := by decide +kernel
theorem dX7_init_0 : decode cX7_init 0 = .ok (.aload_n 0, 1) := by decide +kernel
theorem dX7_init_1 : decode cX7_init 1 = .ok (.invokespecial 3, 3) := by decide +kernel
theorem dX7_init_4 : decode cX7_init 4 = .ok (.aload_n 0, 1) := by decide +kernel
theorem dX7_init_5 : decode cX7_init 5 = .ok (.sipush 132, 3) := by decide +kernel
theorem dX7_init_8 : decode cX7_init 8 = .ok (.newarray .byte, 2) := by decide +kernel
theorem dX7_init_10 : decode cX7_init 10 = .ok (.putfield 9, 3) := by decide +kernel
theorem dX7_init_13 : decode cX7_init 13 = .ok (.aload_n 0, 1) := by decide +kernel
theorem dX7_init_14 : decode cX7_init 14 = .ok (.sipush 132, 3) := by decide +kernel
theorem dX7_init_17 : decode cX7_init 17 = .ok (.newarray .int, 2) := by decide +kernel
theorem dX7_init_19 : decode cX7_init 19 = .ok (.putfield 15, 3) := by decide +kernel
theorem dX7_init_22 : decode cX7_init 22 = .ok (.aload_n 0, 1) := by decide +kernel
theorem dX7_init_23 : decode cX7_init 23 = .ok (.iconst 4, 1) := by decide +kernel
theorem dX7_init_24 : decode cX7_init 24 = .ok (.newarray .int, 2) := by decide +kernel
theorem dX7_init_26 : decode cX7_init 26 = .ok (.putfield 19, 3) := by decide +kernel
theorem dX7_init_29 : decode cX7_init 29 = .ok (.aload_n 0, 1) := by decide +kernel
theorem dX7_init_30 : decode cX7_init 30 = .ok (.ldc 22, 2) := by decide +kernel
theorem dX7_init_32 : decode cX7_init 32 = .ok (.putfield 24, 3) := by decide +kernel
theorem dX7_init_35 : decode cX7_init 35 = .ok (.return_, 1) := by decide +kernel
theorem dX7_put_0 : decode cX7_put 0 = .ok (.bipush 24, 2) := by decide +kernel
theorem dX7_put_2 : decode cX7_put 2 = .ok (.istore_n 2, 1) := by decide +kernel
theorem dX7_put_3 : decode cX7_put 3 = .ok (.iload_n 2, 1) := by decide +kernel
theorem dX7_put_4 : decode cX7_put 4 = .ok (.ifCond .lt 42, 3) := by decide +kernel
theorem dX7_put_7 : decode cX7_put 7 = .ok (.aload_n 0, 1) := by decide +kernel
theorem dX7_put_8 : decode cX7_put 8 = .ok (.getfield 28, 3) := by decide +kernel
theorem dX7_put_11 : decode cX7_put 11 = .ok (.sipush 132, 3) := by decide +kernel
theorem dX7_put_14 : decode cX7_put 14 = .ok (.if_icmp .ge 32, 3) := by decide +kernel
theorem dX7_put_17 : decode cX7_put 17 = .ok (.aload_n 0, 1) := by decide +kernel
theorem dX7_put_18 : decode cX7_put 18 = .ok (.getfield 9, 3) := by decide +kernel
theorem dX7_put_21 : decode cX7_put 21 = .ok (.aload_n 0, 1) := by decide +kernel
theorem dX7_put_22 : decode cX7_put 22 = .ok (.getfield 28, 3) := by decide +kernel
theorem dX7_put_25 : decode cX7_put 25 = .ok (.iload_n 1, 1) := by decide +kernel
theorem dX7_put_26 : decode cX7_put 26 = .ok (.iload_n 2, 1) := by decide +kernel
theorem dX7_put_27 : decode cX7_put 27 = .ok (.ishr, 1) := by decide +kernel
theorem dX7_put_28 : decode cX7_put 28 = .ok (.i2b, 1) := by decide +kernel
theorem dX7_put_29 : decode cX7_put 29 = .ok (.bastore, 1) := by decide +kernel
theorem dX7_put_30 : decode cX7_put 30 = .ok (.aload_n 0, 1) := by decide +kernel
theorem dX7_put_31 : decode cX7_put 31 = .ok (.dup, 1) := by decide +kernel
theorem dX7_put_32 : decode cX7_put 32 = .ok (.getfield 28, 3) := by decide +kernel
theorem dX7_put_35 : decode cX7_put 35 = .ok (.iconst 1, 1) := by decide +kernel
theorem dX7_put_36 : decode cX7_put 36 = .ok (.iadd, 1) := by decide +kernel
theorem dX7_put_37 : decode cX7_put 37 = .ok (.putfield 28, 3) := by decide +kernel
theorem dX7_put_40 : decode cX7_put 40 = .ok (.iinc 2 (-8), 3) := by decide +kernel
theorem dX7_put_43 : decode cX7_put 43 = .ok (.goto (-40), 3) := by decide +kernel
theorem dX7_put_46 : decode cX7_put 46 = .ok (.return_, 1) := by decide +kernel
theorem dX7_useUp_0 : decode cX7_useUp 0 = .ok (.aload_n 0, 1) := by decide +kernel
theorem dX7_useUp_1 : decode cX7_useUp 1 = .ok (.aload_n 0, 1) := by decide +kernel
theorem dX7_useUp_2 : decode cX7_useUp 2 = .ok (.getfield 28, 3) := by decide +kernel
theorem dX7_useUp_5 : decode cX7_useUp 5 = .ok (.putfield 32, 3) := by decide +kernel
theorem dX7_useUp_8 : decode cX7_useUp 8 = .ok (.aload_n 0, 1) := by decide +kernel
theorem dX7_useUp_9 : decode cX7_useUp 9 = .ok (.iconst 0, 1) := by decide +kernel
theorem dX7_useUp_10 : decode cX7_useUp 10 = .ok (.putfield 28, 3) := by decide +kernel
theorem dX7_useUp_13 : decode cX7_useUp 13 = .ok (.return_, 1) := by decide +kernel
theorem dX7_termsFrom_0 : decode cX7_termsFrom 0 = .ok (.new 35, 3) := by decide +kernel
theorem dX7_termsFrom_3 : decode cX7_termsFrom 3 = .ok (.dup, 1) := by decide +kernel
theorem dX7_termsFrom_4 : decode cX7_termsFrom 4 = .ok (.iload_n 1, 1) := by decide +kernel
theorem dX7_termsFrom_5 : decode cX7_termsFrom 5 = .ok (.aload_n 0, 1) := by decide +kernel
theorem dX7_termsFrom_6 : decode cX7_termsFrom 6 = .ok (.getfield 15, 3) := by decide +kernel
theorem dX7_termsFrom_9 : decode cX7_termsFrom 9 = .ok (.aload_n 0, 1) := by decide +kernel
theorem dX7_termsFrom_10 : decode cX7_termsFrom 10 = .ok (.getfield 37, 3) := by decide +kernel
theorem dX7_termsFrom_13 : decode cX7_termsFrom 13 = .ok (.invokestatic 40, 3) := by decide +kernel
theorem dX7_termsFrom_16 : decode cX7_termsFrom 16 = .ok (.aload_n 0, 1) := by decide +kernel
theorem dX7_termsFrom_17 : decode cX7_termsFrom 17 = .ok (.getfield 19, 3) := by decide +kernel
theorem dX7_termsFrom_20 : decode cX7_termsFrom 20 = .ok (.iconst 4, 1) := by decide +kernel
theorem dX7_termsFrom_21 : decode cX7_termsFrom 21 = .ok (.invokestatic 40, 3) := by decide +kernel
theorem dX7_termsFrom_24 : decode cX7_termsFrom 24 = .ok (.invokespecial 46, 3) := by decide +kernel
theorem dX7_termsFrom_27 : decode cX7_termsFrom 27 = .ok (.areturn, 1) := by decide +kernel
theorem dX7_isTerms_0 : decode cX7_isTerms 0 = .ok (.aload_n 0, 1) := by decide +kernel
theorem dX7_isTerms_1 : decode cX7_isTerms 1 = .ok (.iconst 0, 1) := by decide +kernel
theorem dX7_isTerms_2 : decode cX7_isTerms 2 = .ok (.putfield 49, 3) := by decide +kernel
theorem dX7_isTerms_5 : decode cX7_isTerms 5 = .ok (.aload_n 0, 1) := by decide +kernel
theorem dX7_isTerms_6 : decode cX7_isTerms 6 = .ok (.iconst 0, 1) := by decide +kernel
theorem dX7_isTerms_7 : decode cX7_isTerms 7 = .ok (.putfield 37, 3) := by decide +kernel
theorem dX7_isTerms_10 : decode cX7_isTerms 10 = .ok (.aload_n 0, 1) := by decide +kernel
theorem dX7_isTerms_11 : decode cX7_isTerms 11 = .ok (.iconst 0, 1) := by decide +kernel
theorem dX7_isTerms_12 : decode cX7_isTerms 12 = .ok (.putfield 52, 3) := by decide +kernel
theorem dX7_isTerms_15 : decode cX7_isTerms 15 = .ok (.aload_n 0, 1) := by decide +kernel
theorem dX7_isTerms_16 : decode cX7_isTerms 16 = .ok (.iconst 0, 1) := by decide +kernel
theorem dX7_isTerms_17 : decode cX7_isTerms 17 = .ok (.putfield 55, 3) := by decide +kernel
theorem dX7_isTerms_20 : decode cX7_isTerms 20 = .ok (.aload_n 0, 1) := by decide +kernel
theorem dX7_isTerms_21 : decode cX7_isTerms 21 = .ok (.iconst 0, 1) := by decide +kernel
theorem dX7_isTerms_22 : decode cX7_isTerms 22 = .ok (.putfield 58, 3) := by decide +kernel
theorem dX7_isTerms_25 : decode cX7_isTerms 25 = .ok (.aload_n 0, 1) := by decide +kernel
theorem dX7_isTerms_26 : decode cX7_isTerms 26 = .ok (.iconst 0, 1) := by decide +kernel
theorem dX7_isTerms_27 : decode cX7_isTerms 27 = .ok (.putfield 61, 3) := by decide +kernel
theorem dX7_isTerms_30 : decode cX7_isTerms 30 = .ok (.aload_n 0, 1) := by decide +kernel
theorem dX7_isTerms_31 : decode cX7_isTerms 31 = .ok (.invokevirtual 64, 3) := by decide +kernel
theorem dX7_isTerms_34 : decode cX7_isTerms 34 = .ok (.iconst 0, 1) := by decide +kernel
theorem dX7_isTerms_35 : decode cX7_isTerms 35 = .ok (.istore_n 1, 1) := by decide +kernel
theorem dX7_isTerms_36 : decode cX7_isTerms 36 = .ok (.iload_n 1, 1) := by decide +kernel
theorem dX7_isTerms_37 : decode cX7_isTerms 37 = .ok (.iconst 4, 1) := by decide +kernel
theorem dX7_isTerms_38 : decode cX7_isTerms 38 = .ok (.if_icmp .ge 54, 3) := by decide +kernel
theorem dX7_isTerms_41 : decode cX7_isTerms 41 = .ok (.aload_n 0, 1) := by decide +kernel
theorem dX7_isTerms_42 : decode cX7_isTerms 42 = .ok (.iload_n 1, 1) := by decide +kernel
theorem dX7_isTerms_43 : decode cX7_isTerms 43 = .ok (.invokestatic 67, 3) := by decide +kernel
theorem dX7_isTerms_46 : decode cX7_isTerms 46 = .ok (.invokevirtual 71, 3) := by decide +kernel
theorem dX7_isTerms_49 : decode cX7_isTerms 49 = .ok (.ifCond .ne 5, 3) := by decide +kernel
theorem dX7_isTerms_52 : decode cX7_isTerms 52 = .ok (.iconst 0, 1) := by decide +kernel
theorem dX7_isTerms_53 : decode cX7_isTerms 53 = .ok (.ireturn, 1) := by decide +kernel
theorem dX7_isTerms_54 : decode cX7_isTerms 54 = .ok (.aload_n 0, 1) := by decide +kernel
theorem dX7_isTerms_55 : decode cX7_isTerms 55 = .ok (.invokevirtual 64, 3) := by decide +kernel
theorem dX7_isTerms_58 : decode cX7_isTerms 58 = .ok (.aload_n 0, 1) := by decide +kernel
theorem dX7_isTerms_59 : decode cX7_isTerms 59 = .ok (.iload_n 1, 1) := by decide +kernel
theorem dX7_isTerms_60 : decode cX7_isTerms 60 = .ok (.invokestatic 75, 3) := by decide +kernel
theorem dX7_isTerms_63 : decode cX7_isTerms 63 = .ok (.putfield 24, 3) := by decide +kernel
theorem dX7_isTerms_66 : decode cX7_isTerms 66 = .ok (.aload_n 0, 1) := by decide +kernel
theorem dX7_isTerms_67 : decode cX7_isTerms 67 = .ok (.iconst 0, 1) := by decide +kernel
theorem dX7_isTerms_68 : decode cX7_isTerms 68 = .ok (.invokevirtual 78, 3) := by decide +kernel
theorem dX7_isTerms_71 : decode cX7_isTerms 71 = .ok (.ifCond .ne 5, 3) := by decide +kernel
theorem dX7_isTerms_74 : decode cX7_isTerms 74 = .ok (.iconst 0, 1) := by decide +kernel
theorem dX7_isTerms_75 : decode cX7_isTerms 75 = .ok (.ireturn, 1) := by decide +kernel
theorem dX7_isTerms_76 : decode cX7_isTerms 76 = .ok (.aload_n 0, 1) := by decide +kernel
theorem dX7_isTerms_77 : decode cX7_isTerms 77 = .ok (.getfield 19, 3) := by decide +kernel
theorem dX7_isTerms_80 : decode cX7_isTerms 80 = .ok (.iload_n 1, 1) := by decide +kernel
theorem dX7_isTerms_81 : decode cX7_isTerms 81 = .ok (.aload_n 0, 1) := by decide +kernel
theorem dX7_isTerms_82 : decode cX7_isTerms 82 = .ok (.getfield 37, 3) := by decide +kernel
theorem dX7_isTerms_85 : decode cX7_isTerms 85 = .ok (.iastore, 1) := by decide +kernel
theorem dX7_isTerms_86 : decode cX7_isTerms 86 = .ok (.iinc 1 1, 3) := by decide +kernel
theorem dX7_isTerms_89 : decode cX7_isTerms 89 = .ok (.goto (-53), 3) := by decide +kernel
theorem dX7_isTerms_92 : decode cX7_isTerms 92 = .ok (.aload_n 0, 1) := by decide +kernel
theorem dX7_isTerms_93 : decode cX7_isTerms 93 = .ok (.getfield 61, 3) := by decide +kernel
theorem dX7_isTerms_96 : decode cX7_isTerms 96 = .ok (.ifCond .ne 7, 3) := by decide +kernel
theorem dX7_isTerms_99 : decode cX7_isTerms 99 = .ok (.iconst 1, 1) := by decide +kernel
theorem dX7_isTerms_100 : decode cX7_isTerms 100 = .ok (.goto 4, 3) := by decide +kernel
theorem dX7_isTerms_103 : decode cX7_isTerms 103 = .ok (.iconst 0, 1) := by decide +kernel
theorem dX7_isTerms_104 : decode cX7_isTerms 104 = .ok (.ireturn, 1) := by decide +kernel
theorem dX7_wordOf_0 : decode cX7_wordOf 0 = .ok (.iload_n 0, 1) := by decide +kernel
theorem dX7_wordOf_1 : decode cX7_wordOf 1 = .ok (.tableswitch 36 0 2 #[27, 30, 33], 27) := by decide +kernel
theorem dX7_wordOf_28 : decode cX7_wordOf 28 = .ok (.ldc 82, 2) := by decide +kernel
theorem dX7_wordOf_30 : decode cX7_wordOf 30 = .ok (.areturn, 1) := by decide +kernel
theorem dX7_wordOf_31 : decode cX7_wordOf 31 = .ok (.ldc 84, 2) := by decide +kernel
theorem dX7_wordOf_33 : decode cX7_wordOf 33 = .ok (.areturn, 1) := by decide +kernel
theorem dX7_wordOf_34 : decode cX7_wordOf 34 = .ok (.ldc 86, 2) := by decide +kernel
theorem dX7_wordOf_36 : decode cX7_wordOf 36 = .ok (.areturn, 1) := by decide +kernel
theorem dX7_wordOf_37 : decode cX7_wordOf 37 = .ok (.ldc 88, 2) := by decide +kernel
theorem dX7_wordOf_39 : decode cX7_wordOf 39 = .ok (.areturn, 1) := by decide +kernel
theorem dX7_namesOf_0 : decode cX7_namesOf 0 = .ok (.iload_n 0, 1) := by decide +kernel
theorem dX7_namesOf_1 : decode cX7_namesOf 1 = .ok (.tableswitch 36 0 2 #[27, 30, 33], 27) := by decide +kernel
theorem dX7_namesOf_28 : decode cX7_namesOf 28 = .ok (.ldc 90, 2) := by decide +kernel
theorem dX7_namesOf_30 : decode cX7_namesOf 30 = .ok (.areturn, 1) := by decide +kernel
theorem dX7_namesOf_31 : decode cX7_namesOf 31 = .ok (.ldc 92, 2) := by decide +kernel
theorem dX7_namesOf_33 : decode cX7_namesOf 33 = .ok (.areturn, 1) := by decide +kernel
theorem dX7_namesOf_34 : decode cX7_namesOf 34 = .ok (.ldc 94, 2) := by decide +kernel
theorem dX7_namesOf_36 : decode cX7_namesOf 36 = .ok (.areturn, 1) := by decide +kernel
theorem dX7_namesOf_37 : decode cX7_namesOf 37 = .ok (.ldc 96, 2) := by decide +kernel
theorem dX7_namesOf_39 : decode cX7_namesOf 39 = .ok (.areturn, 1) := by decide +kernel
theorem dX7_signsOf_0 : decode cX7_signsOf 0 = .ok (.iload_n 0, 1) := by decide +kernel
theorem dX7_signsOf_1 : decode cX7_signsOf 1 = .ok (.tableswitch 43 0 3 #[31, 34, 37, 40], 31) := by decide +kernel
theorem dX7_signsOf_32 : decode cX7_signsOf 32 = .ok (.ldc 98, 2) := by decide +kernel
theorem dX7_signsOf_34 : decode cX7_signsOf 34 = .ok (.areturn, 1) := by decide +kernel
theorem dX7_signsOf_35 : decode cX7_signsOf 35 = .ok (.ldc 100, 2) := by decide +kernel
theorem dX7_signsOf_37 : decode cX7_signsOf 37 = .ok (.areturn, 1) := by decide +kernel
theorem dX7_signsOf_38 : decode cX7_signsOf 38 = .ok (.ldc 102, 2) := by decide +kernel
theorem dX7_signsOf_40 : decode cX7_signsOf 40 = .ok (.areturn, 1) := by decide +kernel
theorem dX7_signsOf_41 : decode cX7_signsOf 41 = .ok (.ldc 104, 2) := by decide +kernel
theorem dX7_signsOf_43 : decode cX7_signsOf 43 = .ok (.areturn, 1) := by decide +kernel
theorem dX7_signsOf_44 : decode cX7_signsOf 44 = .ok (.ldc 106, 2) := by decide +kernel
theorem dX7_signsOf_46 : decode cX7_signsOf 46 = .ok (.areturn, 1) := by decide +kernel
theorem dX7_next_0 : decode cX7_next 0 = .ok (.aload_n 0, 1) := by decide +kernel
theorem dX7_next_1 : decode cX7_next 1 = .ok (.getfield 58, 3) := by decide +kernel
theorem dX7_next_4 : decode cX7_next 4 = .ok (.istore_n 1, 1) := by decide +kernel
theorem dX7_next_5 : decode cX7_next 5 = .ok (.aload_n 0, 1) := by decide +kernel
theorem dX7_next_6 : decode cX7_next 6 = .ok (.invokevirtual 108, 3) := by decide +kernel
theorem dX7_next_9 : decode cX7_next 9 = .ok (.istore_n 2, 1) := by decide +kernel
theorem dX7_next_10 : decode cX7_next 10 = .ok (.aload_n 0, 1) := by decide +kernel
theorem dX7_next_11 : decode cX7_next 11 = .ok (.aload_n 0, 1) := by decide +kernel
theorem dX7_next_12 : decode cX7_next 12 = .ok (.iload_n 1, 1) := by decide +kernel
theorem dX7_next_13 : decode cX7_next 13 = .ok (.invokevirtual 112, 3) := by decide +kernel
theorem dX7_next_16 : decode cX7_next 16 = .ok (.putfield 116, 3) := by decide +kernel
theorem dX7_next_19 : decode cX7_next 19 = .ok (.aload_n 0, 1) := by decide +kernel
theorem dX7_next_20 : decode cX7_next 20 = .ok (.aload_n 0, 1) := by decide +kernel
theorem dX7_next_21 : decode cX7_next 21 = .ok (.aload_n 0, 1) := by decide +kernel
theorem dX7_next_22 : decode cX7_next 22 = .ok (.getfield 116, 3) := by decide +kernel
theorem dX7_next_25 : decode cX7_next 25 = .ok (.invokevirtual 119, 3) := by decide +kernel
theorem dX7_next_28 : decode cX7_next 28 = .ok (.putfield 61, 3) := by decide +kernel
theorem dX7_next_31 : decode cX7_next 31 = .ok (.aload_n 0, 1) := by decide +kernel
theorem dX7_next_32 : decode cX7_next 32 = .ok (.aload_n 0, 1) := by decide +kernel
theorem dX7_next_33 : decode cX7_next 33 = .ok (.aload_n 0, 1) := by decide +kernel
theorem dX7_next_34 : decode cX7_next 34 = .ok (.getfield 116, 3) := by decide +kernel
theorem dX7_next_37 : decode cX7_next 37 = .ok (.invokevirtual 122, 3) := by decide +kernel
theorem dX7_next_40 : decode cX7_next 40 = .ok (.putfield 58, 3) := by decide +kernel
theorem dX7_next_43 : decode cX7_next 43 = .ok (.aload_n 0, 1) := by decide +kernel
theorem dX7_next_44 : decode cX7_next 44 = .ok (.iload_n 2, 1) := by decide +kernel
theorem dX7_next_45 : decode cX7_next 45 = .ok (.ifCond .eq 22, 3) := by decide +kernel
theorem dX7_next_48 : decode cX7_next 48 = .ok (.aload_n 0, 1) := by decide +kernel
theorem dX7_next_49 : decode cX7_next 49 = .ok (.invokevirtual 108, 3) := by decide +kernel
theorem dX7_next_52 : decode cX7_next 52 = .ok (.ifCond .eq 15, 3) := by decide +kernel
theorem dX7_next_55 : decode cX7_next 55 = .ok (.aload_n 0, 1) := by decide +kernel
theorem dX7_next_56 : decode cX7_next 56 = .ok (.getfield 116, 3) := by decide +kernel
theorem dX7_next_59 : decode cX7_next 59 = .ok (.iload_n 1, 1) := by decide +kernel
theorem dX7_next_60 : decode cX7_next 60 = .ok (.if_icmp .ne 7, 3) := by decide +kernel
theorem dX7_next_63 : decode cX7_next 63 = .ok (.iconst 1, 1) := by decide +kernel
theorem dX7_next_64 : decode cX7_next 64 = .ok (.goto 4, 3) := by decide +kernel
theorem dX7_next_67 : decode cX7_next 67 = .ok (.iconst 0, 1) := by decide +kernel
theorem dX7_next_68 : decode cX7_next 68 = .ok (.putfield 125, 3) := by decide +kernel
theorem dX7_next_71 : decode cX7_next 71 = .ok (.return_, 1) := by decide +kernel
theorem dX7_isWordKind_0 : decode cX7_isWordKind 0 = .ok (.aload_n 0, 1) := by decide +kernel
theorem dX7_isWordKind_1 : decode cX7_isWordKind 1 = .ok (.getfield 61, 3) := by decide +kernel
theorem dX7_isWordKind_4 : decode cX7_isWordKind 4 = .ok (.iconst 1, 1) := by decide +kernel
theorem dX7_isWordKind_5 : decode cX7_isWordKind 5 = .ok (.if_icmp .eq 11, 3) := by decide +kernel
theorem dX7_isWordKind_8 : decode cX7_isWordKind 8 = .ok (.aload_n 0, 1) := by decide +kernel
theorem dX7_isWordKind_9 : decode cX7_isWordKind 9 = .ok (.getfield 61, 3) := by decide +kernel
theorem dX7_isWordKind_12 : decode cX7_isWordKind 12 = .ok (.iconst 2, 1) := by decide +kernel
theorem dX7_isWordKind_13 : decode cX7_isWordKind 13 = .ok (.if_icmp .ne 7, 3) := by decide +kernel
theorem dX7_isWordKind_16 : decode cX7_isWordKind 16 = .ok (.iconst 1, 1) := by decide +kernel
theorem dX7_isWordKind_17 : decode cX7_isWordKind 17 = .ok (.goto 4, 3) := by decide +kernel
theorem dX7_isWordKind_20 : decode cX7_isWordKind 20 = .ok (.iconst 0, 1) := by decide +kernel
theorem dX7_isWordKind_21 : decode cX7_isWordKind 21 = .ok (.ireturn, 1) := by decide +kernel
theorem dX7_behindBlanks_0 : decode cX7_behindBlanks 0 = .ok (.iload_n 1, 1) := by decide +kernel
theorem dX7_behindBlanks_1 : decode cX7_behindBlanks 1 = .ok (.istore_n 2, 1) := by decide +kernel
theorem dX7_behindBlanks_2 : decode cX7_behindBlanks 2 = .ok (.iload_n 2, 1) := by decide +kernel
theorem dX7_behindBlanks_3 : decode cX7_behindBlanks 3 = .ok (.aload_n 0, 1) := by decide +kernel
theorem dX7_behindBlanks_4 : decode cX7_behindBlanks 4 = .ok (.getfield 32, 3) := by decide +kernel
theorem dX7_behindBlanks_7 : decode cX7_behindBlanks 7 = .ok (.if_icmp .ge 20, 3) := by decide +kernel
theorem dX7_behindBlanks_10 : decode cX7_behindBlanks 10 = .ok (.aload_n 0, 1) := by decide +kernel
theorem dX7_behindBlanks_11 : decode cX7_behindBlanks 11 = .ok (.getfield 9, 3) := by decide +kernel
theorem dX7_behindBlanks_14 : decode cX7_behindBlanks 14 = .ok (.iload_n 2, 1) := by decide +kernel
theorem dX7_behindBlanks_15 : decode cX7_behindBlanks 15 = .ok (.baload, 1) := by decide +kernel
theorem dX7_behindBlanks_16 : decode cX7_behindBlanks 16 = .ok (.bipush 32, 2) := by decide +kernel
theorem dX7_behindBlanks_18 : decode cX7_behindBlanks 18 = .ok (.if_icmp .ne 9, 3) := by decide +kernel
theorem dX7_behindBlanks_21 : decode cX7_behindBlanks 21 = .ok (.iinc 2 1, 3) := by decide +kernel
theorem dX7_behindBlanks_24 : decode cX7_behindBlanks 24 = .ok (.goto (-22), 3) := by decide +kernel
theorem dX7_behindBlanks_27 : decode cX7_behindBlanks 27 = .ok (.iload_n 2, 1) := by decide +kernel
theorem dX7_behindBlanks_28 : decode cX7_behindBlanks 28 = .ok (.ireturn, 1) := by decide +kernel
theorem dX7_behindKind_0 : decode cX7_behindKind 0 = .ok (.iload_n 1, 1) := by decide +kernel
theorem dX7_behindKind_1 : decode cX7_behindKind 1 = .ok (.iconst 1, 1) := by decide +kernel
theorem dX7_behindKind_2 : decode cX7_behindKind 2 = .ok (.iadd, 1) := by decide +kernel
theorem dX7_behindKind_3 : decode cX7_behindKind 3 = .ok (.aload_n 0, 1) := by decide +kernel
theorem dX7_behindKind_4 : decode cX7_behindKind 4 = .ok (.getfield 32, 3) := by decide +kernel
theorem dX7_behindKind_7 : decode cX7_behindKind 7 = .ok (.invokestatic 129, 3) := by decide +kernel
theorem dX7_behindKind_10 : decode cX7_behindKind 10 = .ok (.istore_n 2, 1) := by decide +kernel
theorem dX7_behindKind_11 : decode cX7_behindKind 11 = .ok (.iload_n 2, 1) := by decide +kernel
theorem dX7_behindKind_12 : decode cX7_behindKind 12 = .ok (.aload_n 0, 1) := by decide +kernel
theorem dX7_behindKind_13 : decode cX7_behindKind 13 = .ok (.getfield 32, 3) := by decide +kernel
theorem dX7_behindKind_16 : decode cX7_behindKind 16 = .ok (.if_icmp .ge 28, 3) := by decide +kernel
theorem dX7_behindKind_19 : decode cX7_behindKind 19 = .ok (.aload_n 0, 1) := by decide +kernel
theorem dX7_behindKind_20 : decode cX7_behindKind 20 = .ok (.invokevirtual 108, 3) := by decide +kernel
theorem dX7_behindKind_23 : decode cX7_behindKind 23 = .ok (.ifCond .eq 21, 3) := by decide +kernel
theorem dX7_behindKind_26 : decode cX7_behindKind 26 = .ok (.aload_n 0, 1) := by decide +kernel
theorem dX7_behindKind_27 : decode cX7_behindKind 27 = .ok (.iload_n 2, 1) := by decide +kernel
theorem dX7_behindKind_28 : decode cX7_behindKind 28 = .ok (.invokevirtual 119, 3) := by decide +kernel
theorem dX7_behindKind_31 : decode cX7_behindKind 31 = .ok (.aload_n 0, 1) := by decide +kernel
theorem dX7_behindKind_32 : decode cX7_behindKind 32 = .ok (.getfield 61, 3) := by decide +kernel
theorem dX7_behindKind_35 : decode cX7_behindKind 35 = .ok (.if_icmp .ne 9, 3) := by decide +kernel
theorem dX7_behindKind_38 : decode cX7_behindKind 38 = .ok (.iinc 2 1, 3) := by decide +kernel
theorem dX7_behindKind_41 : decode cX7_behindKind 41 = .ok (.goto (-30), 3) := by decide +kernel
theorem dX7_behindKind_44 : decode cX7_behindKind 44 = .ok (.iload_n 2, 1) := by decide +kernel
theorem dX7_behindKind_45 : decode cX7_behindKind 45 = .ok (.ireturn, 1) := by decide +kernel
theorem dX7_kindAt_0 : decode cX7_kindAt 0 = .ok (.iload_n 1, 1) := by decide +kernel
theorem dX7_kindAt_1 : decode cX7_kindAt 1 = .ok (.aload_n 0, 1) := by decide +kernel
theorem dX7_kindAt_2 : decode cX7_kindAt 2 = .ok (.getfield 32, 3) := by decide +kernel
theorem dX7_kindAt_5 : decode cX7_kindAt 5 = .ok (.if_icmp .lt 5, 3) := by decide +kernel
theorem dX7_kindAt_8 : decode cX7_kindAt 8 = .ok (.iconst 0, 1) := by decide +kernel
theorem dX7_kindAt_9 : decode cX7_kindAt 9 = .ok (.ireturn, 1) := by decide +kernel
theorem dX7_kindAt_10 : decode cX7_kindAt 10 = .ok (.aload_n 0, 1) := by decide +kernel
theorem dX7_kindAt_11 : decode cX7_kindAt 11 = .ok (.getfield 9, 3) := by decide +kernel
theorem dX7_kindAt_14 : decode cX7_kindAt 14 = .ok (.iload_n 1, 1) := by decide +kernel
theorem dX7_kindAt_15 : decode cX7_kindAt 15 = .ok (.baload, 1) := by decide +kernel
theorem dX7_kindAt_16 : decode cX7_kindAt 16 = .ok (.istore_n 2, 1) := by decide +kernel
theorem dX7_kindAt_17 : decode cX7_kindAt 17 = .ok (.iload_n 2, 1) := by decide +kernel
theorem dX7_kindAt_18 : decode cX7_kindAt 18 = .ok (.bipush 97, 2) := by decide +kernel
theorem dX7_kindAt_20 : decode cX7_kindAt 20 = .ok (.if_icmp .lt 11, 3) := by decide +kernel
theorem dX7_kindAt_23 : decode cX7_kindAt 23 = .ok (.iload_n 2, 1) := by decide +kernel
theorem dX7_kindAt_24 : decode cX7_kindAt 24 = .ok (.bipush 122, 2) := by decide +kernel
theorem dX7_kindAt_26 : decode cX7_kindAt 26 = .ok (.if_icmp .gt 5, 3) := by decide +kernel
theorem dX7_kindAt_29 : decode cX7_kindAt 29 = .ok (.iconst 1, 1) := by decide +kernel
theorem dX7_kindAt_30 : decode cX7_kindAt 30 = .ok (.ireturn, 1) := by decide +kernel
theorem dX7_kindAt_31 : decode cX7_kindAt 31 = .ok (.iload_n 2, 1) := by decide +kernel
theorem dX7_kindAt_32 : decode cX7_kindAt 32 = .ok (.bipush 48, 2) := by decide +kernel
theorem dX7_kindAt_34 : decode cX7_kindAt 34 = .ok (.if_icmp .lt 13, 3) := by decide +kernel
theorem dX7_kindAt_37 : decode cX7_kindAt 37 = .ok (.iload_n 2, 1) := by decide +kernel
theorem dX7_kindAt_38 : decode cX7_kindAt 38 = .ok (.bipush 57, 2) := by decide +kernel
theorem dX7_kindAt_40 : decode cX7_kindAt 40 = .ok (.if_icmp .gt 7, 3) := by decide +kernel
theorem dX7_kindAt_43 : decode cX7_kindAt 43 = .ok (.iconst 2, 1) := by decide +kernel
theorem dX7_kindAt_44 : decode cX7_kindAt 44 = .ok (.goto 4, 3) := by decide +kernel
theorem dX7_kindAt_47 : decode cX7_kindAt 47 = .ok (.iconst 3, 1) := by decide +kernel
theorem dX7_kindAt_48 : decode cX7_kindAt 48 = .ok (.ireturn, 1) := by decide +kernel
theorem dX7_letter_0 : decode cX7_letter 0 = .ok (.aload_n 0, 1) := by decide +kernel
theorem dX7_letter_1 : decode cX7_letter 1 = .ok (.getfield 116, 3) := by decide +kernel
theorem dX7_letter_4 : decode cX7_letter 4 = .ok (.aload_n 0, 1) := by decide +kernel
theorem dX7_letter_5 : decode cX7_letter 5 = .ok (.getfield 32, 3) := by decide +kernel
theorem dX7_letter_8 : decode cX7_letter 8 = .ok (.if_icmp .ge 20, 3) := by decide +kernel
theorem dX7_letter_11 : decode cX7_letter 11 = .ok (.aload_n 0, 1) := by decide +kernel
theorem dX7_letter_12 : decode cX7_letter 12 = .ok (.getfield 9, 3) := by decide +kernel
theorem dX7_letter_15 : decode cX7_letter 15 = .ok (.aload_n 0, 1) := by decide +kernel
theorem dX7_letter_16 : decode cX7_letter 16 = .ok (.getfield 116, 3) := by decide +kernel
theorem dX7_letter_19 : decode cX7_letter 19 = .ok (.baload, 1) := by decide +kernel
theorem dX7_letter_20 : decode cX7_letter 20 = .ok (.sipush 255, 3) := by decide +kernel
theorem dX7_letter_23 : decode cX7_letter 23 = .ok (.iand, 1) := by decide +kernel
theorem dX7_letter_24 : decode cX7_letter 24 = .ok (.i2c, 1) := by decide +kernel
theorem dX7_letter_25 : decode cX7_letter 25 = .ok (.goto 5, 3) := by decide +kernel
theorem dX7_letter_28 : decode cX7_letter 28 = .ok (.bipush 32, 2) := by decide +kernel
theorem dX7_letter_30 : decode cX7_letter 30 = .ok (.ireturn, 1) := by decide +kernel
theorem dX7_isWord_0 : decode cX7_isWord 0 = .ok (.aload_n 0, 1) := by decide +kernel
theorem dX7_isWord_1 : decode cX7_isWord 1 = .ok (.getfield 61, 3) := by decide +kernel
theorem dX7_isWord_4 : decode cX7_isWord 4 = .ok (.iconst 1, 1) := by decide +kernel
theorem dX7_isWord_5 : decode cX7_isWord 5 = .ok (.if_icmp .ne 26, 3) := by decide +kernel
theorem dX7_isWord_8 : decode cX7_isWord 8 = .ok (.aload_n 0, 1) := by decide +kernel
theorem dX7_isWord_9 : decode cX7_isWord 9 = .ok (.getfield 125, 3) := by decide +kernel
theorem dX7_isWord_12 : decode cX7_isWord 12 = .ok (.ifCond .ne 19, 3) := by decide +kernel
theorem dX7_isWord_15 : decode cX7_isWord 15 = .ok (.aload_n 0, 1) := by decide +kernel
theorem dX7_isWord_16 : decode cX7_isWord 16 = .ok (.getfield 58, 3) := by decide +kernel
theorem dX7_isWord_19 : decode cX7_isWord 19 = .ok (.aload_n 0, 1) := by decide +kernel
theorem dX7_isWord_20 : decode cX7_isWord 20 = .ok (.getfield 116, 3) := by decide +kernel
theorem dX7_isWord_23 : decode cX7_isWord 23 = .ok (.isub, 1) := by decide +kernel
theorem dX7_isWord_24 : decode cX7_isWord 24 = .ok (.aload_n 1, 1) := by decide +kernel
theorem dX7_isWord_25 : decode cX7_isWord 25 = .ok (.invokevirtual 135, 3) := by decide +kernel
theorem dX7_isWord_28 : decode cX7_isWord 28 = .ok (.if_icmp .eq 5, 3) := by decide +kernel
theorem dX7_isWord_31 : decode cX7_isWord 31 = .ok (.iconst 0, 1) := by decide +kernel
theorem dX7_isWord_32 : decode cX7_isWord 32 = .ok (.ireturn, 1) := by decide +kernel
theorem dX7_isWord_33 : decode cX7_isWord 33 = .ok (.iconst 0, 1) := by decide +kernel
theorem dX7_isWord_34 : decode cX7_isWord 34 = .ok (.istore_n 2, 1) := by decide +kernel
theorem dX7_isWord_35 : decode cX7_isWord 35 = .ok (.iload_n 2, 1) := by decide +kernel
theorem dX7_isWord_36 : decode cX7_isWord 36 = .ok (.aload_n 1, 1) := by decide +kernel
theorem dX7_isWord_37 : decode cX7_isWord 37 = .ok (.invokevirtual 135, 3) := by decide +kernel
theorem dX7_isWord_40 : decode cX7_isWord 40 = .ok (.if_icmp .ge 30, 3) := by decide +kernel
theorem dX7_isWord_43 : decode cX7_isWord 43 = .ok (.aload_n 0, 1) := by decide +kernel
theorem dX7_isWord_44 : decode cX7_isWord 44 = .ok (.getfield 9, 3) := by decide +kernel
theorem dX7_isWord_47 : decode cX7_isWord 47 = .ok (.aload_n 0, 1) := by decide +kernel
theorem dX7_isWord_48 : decode cX7_isWord 48 = .ok (.getfield 116, 3) := by decide +kernel
theorem dX7_isWord_51 : decode cX7_isWord 51 = .ok (.iload_n 2, 1) := by decide +kernel
theorem dX7_isWord_52 : decode cX7_isWord 52 = .ok (.iadd, 1) := by decide +kernel
theorem dX7_isWord_53 : decode cX7_isWord 53 = .ok (.baload, 1) := by decide +kernel
theorem dX7_isWord_54 : decode cX7_isWord 54 = .ok (.aload_n 1, 1) := by decide +kernel
theorem dX7_isWord_55 : decode cX7_isWord 55 = .ok (.iload_n 2, 1) := by decide +kernel
theorem dX7_isWord_56 : decode cX7_isWord 56 = .ok (.invokevirtual 140, 3) := by decide +kernel
theorem dX7_isWord_59 : decode cX7_isWord 59 = .ok (.if_icmp .eq 5, 3) := by decide +kernel
theorem dX7_isWord_62 : decode cX7_isWord 62 = .ok (.iconst 0, 1) := by decide +kernel
theorem dX7_isWord_63 : decode cX7_isWord 63 = .ok (.ireturn, 1) := by decide +kernel
theorem dX7_isWord_64 : decode cX7_isWord 64 = .ok (.iinc 2 1, 3) := by decide +kernel
theorem dX7_isWord_67 : decode cX7_isWord 67 = .ok (.goto (-32), 3) := by decide +kernel
theorem dX7_isWord_70 : decode cX7_isWord 70 = .ok (.iconst 1, 1) := by decide +kernel
theorem dX7_isWord_71 : decode cX7_isWord 71 = .ok (.ireturn, 1) := by decide +kernel
theorem dX7_isSignOf_0 : decode cX7_isSignOf 0 = .ok (.aload_n 0, 1) := by decide +kernel
theorem dX7_isSignOf_1 : decode cX7_isSignOf 1 = .ok (.getfield 61, 3) := by decide +kernel
theorem dX7_isSignOf_4 : decode cX7_isSignOf 4 = .ok (.iconst 3, 1) := by decide +kernel
theorem dX7_isSignOf_5 : decode cX7_isSignOf 5 = .ok (.if_icmp .ne 18, 3) := by decide +kernel
theorem dX7_isSignOf_8 : decode cX7_isSignOf 8 = .ok (.aload_n 1, 1) := by decide +kernel
theorem dX7_isSignOf_9 : decode cX7_isSignOf 9 = .ok (.aload_n 0, 1) := by decide +kernel
theorem dX7_isSignOf_10 : decode cX7_isSignOf 10 = .ok (.invokevirtual 144, 3) := by decide +kernel
theorem dX7_isSignOf_13 : decode cX7_isSignOf 13 = .ok (.invokevirtual 148, 3) := by decide +kernel
theorem dX7_isSignOf_16 : decode cX7_isSignOf 16 = .ok (.ifCond .lt 7, 3) := by decide +kernel
theorem dX7_isSignOf_19 : decode cX7_isSignOf 19 = .ok (.iconst 1, 1) := by decide +kernel
theorem dX7_isSignOf_20 : decode cX7_isSignOf 20 = .ok (.goto 4, 3) := by decide +kernel
theorem dX7_isSignOf_23 : decode cX7_isSignOf 23 = .ok (.iconst 0, 1) := by decide +kernel
theorem dX7_isSignOf_24 : decode cX7_isSignOf 24 = .ok (.ireturn, 1) := by decide +kernel
theorem dX7_isJoined_0 : decode cX7_isJoined 0 = .ok (.iload_n 1, 1) := by decide +kernel
theorem dX7_isJoined_1 : decode cX7_isJoined 1 = .ok (.iconst 5, 1) := by decide +kernel
theorem dX7_isJoined_2 : decode cX7_isJoined 2 = .ok (.if_icmp .lt 8, 3) := by decide +kernel
theorem dX7_isJoined_5 : decode cX7_isJoined 5 = .ok (.aload_n 0, 1) := by decide +kernel
theorem dX7_isJoined_6 : decode cX7_isJoined 6 = .ok (.invokevirtual 151, 3) := by decide +kernel
theorem dX7_isJoined_9 : decode cX7_isJoined 9 = .ok (.ireturn, 1) := by decide +kernel
theorem dX7_isJoined_10 : decode cX7_isJoined 10 = .ok (.aload_n 0, 1) := by decide +kernel
theorem dX7_isJoined_11 : decode cX7_isJoined 11 = .ok (.iload_n 1, 1) := by decide +kernel
theorem dX7_isJoined_12 : decode cX7_isJoined 12 = .ok (.iconst 1, 1) := by decide +kernel
theorem dX7_isJoined_13 : decode cX7_isJoined 13 = .ok (.iadd, 1) := by decide +kernel
theorem dX7_isJoined_14 : decode cX7_isJoined 14 = .ok (.invokevirtual 78, 3) := by decide +kernel
theorem dX7_isJoined_17 : decode cX7_isJoined 17 = .ok (.ifCond .ne 5, 3) := by decide +kernel
theorem dX7_isJoined_20 : decode cX7_isJoined 20 = .ok (.iconst 0, 1) := by decide +kernel
theorem dX7_isJoined_21 : decode cX7_isJoined 21 = .ok (.ireturn, 1) := by decide +kernel
theorem dX7_isJoined_22 : decode cX7_isJoined 22 = .ok (.iload_n 1, 1) := by decide +kernel
theorem dX7_isJoined_23 : decode cX7_isJoined 23 = .ok (.iconst 2, 1) := by decide +kernel
theorem dX7_isJoined_24 : decode cX7_isJoined 24 = .ok (.if_icmp .ne 7, 3) := by decide +kernel
theorem dX7_isJoined_27 : decode cX7_isJoined 27 = .ok (.iconst 1, 1) := by decide +kernel
theorem dX7_isJoined_28 : decode cX7_isJoined 28 = .ok (.goto 6, 3) := by decide +kernel
theorem dX7_isJoined_31 : decode cX7_isJoined 31 = .ok (.sipush 132, 3) := by decide +kernel
