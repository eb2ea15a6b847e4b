theorem dX8_compileProbe_25 : decode cX8_compileProbe 25 = .ok (.aload_n 0, 1) := by decide +kernel
theorem dX8_compileProbe_26 : decode cX8_compileProbe 26 = .ok (.getfield 43, 3) := by decide +kernel
theorem dX8_compileProbe_29 : decode cX8_compileProbe 29 = .ok (.iconst 0, 1) := by decide +kernel
theorem dX8_compileProbe_30 : decode cX8_compileProbe 30 = .ok (.aaload, 1) := by decide +kernel
theorem dX8_compileProbe_31 : decode cX8_compileProbe 31 = .ok (.getfield 429, 3) := by decide +kernel
theorem dX8_compileProbe_34 : decode cX8_compileProbe 34 = .ok (.invokevirtual 430, 3) := by decide +kernel
theorem dX8_compileProbe_37 : decode cX8_compileProbe 37 = .ok (.iconst 1, 1) := by decide +kernel
theorem dX8_compileProbe_38 : decode cX8_compileProbe 38 = .ok (.ireturn, 1) := by decide +kernel
theorem dX8_saveState_0 : decode cX8_saveState 0 = .ok (.aload_n 0, 1) := by decide +kernel
theorem dX8_saveState_1 : decode cX8_saveState 1 = .ok (.getfield 20, 3) := by decide +kernel
theorem dX8_saveState_4 : decode cX8_saveState 4 = .ok (.aload_n 0, 1) := by decide +kernel
theorem dX8_saveState_5 : decode cX8_saveState 5 = .ok (.getfield 24, 3) := by decide +kernel
theorem dX8_saveState_8 : decode cX8_saveState 8 = .ok (.iadd, 1) := by decide +kernel
theorem dX8_saveState_9 : decode cX8_saveState 9 = .ok (.iconst 5, 1) := by decide +kernel
theorem dX8_saveState_10 : decode cX8_saveState 10 = .ok (.irem, 1) := by decide +kernel
theorem dX8_saveState_11 : decode cX8_saveState 11 = .ok (.istore_n 1, 1) := by decide +kernel
theorem dX8_saveState_12 : decode cX8_saveState 12 = .ok (.aload_n 0, 1) := by decide +kernel
theorem dX8_saveState_13 : decode cX8_saveState 13 = .ok (.getfield 24, 3) := by decide +kernel
theorem dX8_saveState_16 : decode cX8_saveState 16 = .ok (.iconst 5, 1) := by decide +kernel
theorem dX8_saveState_17 : decode cX8_saveState 17 = .ok (.if_icmp .ne 18, 3) := by decide +kernel
theorem dX8_saveState_20 : decode cX8_saveState 20 = .ok (.aload_n 0, 1) := by decide +kernel
theorem dX8_saveState_21 : decode cX8_saveState 21 = .ok (.aload_n 0, 1) := by decide +kernel
theorem dX8_saveState_22 : decode cX8_saveState 22 = .ok (.getfield 20, 3) := by decide +kernel
theorem dX8_saveState_25 : decode cX8_saveState 25 = .ok (.iconst 1, 1) := by decide +kernel
theorem dX8_saveState_26 : decode cX8_saveState 26 = .ok (.iadd, 1) := by decide +kernel
theorem dX8_saveState_27 : decode cX8_saveState 27 = .ok (.iconst 5, 1) := by decide +kernel
theorem dX8_saveState_28 : decode cX8_saveState 28 = .ok (.irem, 1) := by decide +kernel
theorem dX8_saveState_29 : decode cX8_saveState 29 = .ok (.putfield 20, 3) := by decide +kernel
theorem dX8_saveState_32 : decode cX8_saveState 32 = .ok (.goto 13, 3) := by decide +kernel
theorem dX8_saveState_35 : decode cX8_saveState 35 = .ok (.aload_n 0, 1) := by decide +kernel
theorem dX8_saveState_36 : decode cX8_saveState 36 = .ok (.dup, 1) := by decide +kernel
theorem dX8_saveState_37 : decode cX8_saveState 37 = .ok (.getfield 24, 3) := by decide +kernel
theorem dX8_saveState_40 : decode cX8_saveState 40 = .ok (.iconst 1, 1) := by decide +kernel
theorem dX8_saveState_41 : decode cX8_saveState 41 = .ok (.iadd, 1) := by decide +kernel
theorem dX8_saveState_42 : decode cX8_saveState 42 = .ok (.putfield 24, 3) := by decide +kernel
theorem dX8_saveState_45 : decode cX8_saveState 45 = .ok (.aload_n 0, 1) := by decide +kernel
theorem dX8_saveState_46 : decode cX8_saveState 46 = .ok (.getfield 16, 3) := by decide +kernel
theorem dX8_saveState_49 : decode cX8_saveState 49 = .ok (.iload_n 1, 1) := by decide +kernel
theorem dX8_saveState_50 : decode cX8_saveState 50 = .ok (.aaload, 1) := by decide +kernel
theorem dX8_saveState_51 : decode cX8_saveState 51 = .ok (.aload_n 0, 1) := by decide +kernel
theorem dX8_saveState_52 : decode cX8_saveState 52 = .ok (.getfield 10, 3) := by decide +kernel
theorem dX8_saveState_55 : decode cX8_saveState 55 = .ok (.invokevirtual 444, 3) := by decide +kernel
theorem dX8_saveState_58 : decode cX8_saveState 58 = .ok (.return_, 1) := by decide +kernel
theorem dX8_addClient_0 : decode cX8_addClient 0 = .ok (.iload_n 1, 1) := by decide +kernel
theorem dX8_addClient_1 : decode cX8_addClient 1 = .ok (.ifCond .lt 26, 3) := by decide +kernel
theorem dX8_addClient_4 : decode cX8_addClient 4 = .ok (.iload_n 1, 1) := by decide +kernel
theorem dX8_addClient_5 : decode cX8_addClient 5 = .ok (.iconst 5, 1) := by decide +kernel
theorem dX8_addClient_6 : decode cX8_addClient 6 = .ok (.if_icmp .gt 21, 3) := by decide +kernel
theorem dX8_addClient_9 : decode cX8_addClient 9 = .ok (.iload_n 2, 1) := by decide +kernel
theorem dX8_addClient_10 : decode cX8_addClient 10 = .ok (.ifCond .lt 17, 3) := by decide +kernel
theorem dX8_addClient_13 : decode cX8_addClient 13 = .ok (.iload_n 2, 1) := by decide +kernel
theorem dX8_addClient_14 : decode cX8_addClient 14 = .ok (.bipush 10, 2) := by decide +kernel
theorem dX8_addClient_16 : decode cX8_addClient 16 = .ok (.if_icmp .ge 11, 3) := by decide +kernel
theorem dX8_addClient_19 : decode cX8_addClient 19 = .ok (.iload 4, 2) := by decide +kernel
theorem dX8_addClient_21 : decode cX8_addClient 21 = .ok (.invokestatic 337, 3) := by decide +kernel
theorem dX8_addClient_24 : decode cX8_addClient 24 = .ok (.ifCond .ne 14, 3) := by decide +kernel
theorem dX8_addClient_27 : decode cX8_addClient 27 = .ok (.new 122, 3) := by decide +kernel
theorem dX8_addClient_30 : decode cX8_addClient 30 = .ok (.dup, 1) := by decide +kernel
theorem dX8_addClient_31 : decode cX8_addClient 31 = .ok (.ldc_w 340, 3) := by decide +kernel
theorem dX8_addClient_34 : decode cX8_addClient 34 = .ok (.invokespecial 126, 3) := by decide +kernel
theorem dX8_addClient_37 : decode cX8_addClient 37 = .ok (.athrow, 1) := by decide +kernel
theorem dX8_addClient_38 : decode cX8_addClient 38 = .ok (.iload_n 1, 1) := by decide +kernel
theorem dX8_addClient_39 : decode cX8_addClient 39 = .ok (.iconst 2, 1) := by decide +kernel
theorem dX8_addClient_40 : decode cX8_addClient 40 = .ok (.if_icmp .gt 21, 3) := by decide +kernel
theorem dX8_addClient_43 : decode cX8_addClient 43 = .ok (.iload_n 3, 1) := by decide +kernel
theorem dX8_addClient_44 : decode cX8_addClient 44 = .ok (.invokestatic 216, 3) := by decide +kernel
theorem dX8_addClient_47 : decode cX8_addClient 47 = .ok (.ifCond .ne 14, 3) := by decide +kernel
theorem dX8_addClient_50 : decode cX8_addClient 50 = .ok (.new 122, 3) := by decide +kernel
theorem dX8_addClient_53 : decode cX8_addClient 53 = .ok (.dup, 1) := by decide +kernel
theorem dX8_addClient_54 : decode cX8_addClient 54 = .ok (.ldc_w 342, 3) := by decide +kernel
theorem dX8_addClient_57 : decode cX8_addClient 57 = .ok (.invokespecial 126, 3) := by decide +kernel
theorem dX8_addClient_60 : decode cX8_addClient 60 = .ok (.athrow, 1) := by decide +kernel
theorem dX8_addClient_61 : decode cX8_addClient 61 = .ok (.aload_n 0, 1) := by decide +kernel
theorem dX8_addClient_62 : decode cX8_addClient 62 = .ok (.getfield 37, 3) := by decide +kernel
theorem dX8_addClient_65 : decode cX8_addClient 65 = .ok (.iload_n 1, 1) := by decide +kernel
theorem dX8_addClient_66 : decode cX8_addClient 66 = .ok (.iload_n 2, 1) := by decide +kernel
theorem dX8_addClient_67 : decode cX8_addClient 67 = .ok (.iload_n 3, 1) := by decide +kernel
theorem dX8_addClient_68 : decode cX8_addClient 68 = .ok (.iload 4, 2) := by decide +kernel
theorem dX8_addClient_70 : decode cX8_addClient 70 = .ok (.invokevirtual 99, 3) := by decide +kernel
theorem dX8_addClient_73 : decode cX8_addClient 73 = .ok (.iload_n 1, 1) := by decide +kernel
theorem dX8_addClient_74 : decode cX8_addClient 74 = .ok (.iconst 2, 1) := by decide +kernel
theorem dX8_addClient_75 : decode cX8_addClient 75 = .ok (.if_icmp .ne 31, 3) := by decide +kernel
theorem dX8_addClient_78 : decode cX8_addClient 78 = .ok (.aload_n 0, 1) := by decide +kernel
theorem dX8_addClient_79 : decode cX8_addClient 79 = .ok (.getfield 37, 3) := by decide +kernel
theorem dX8_addClient_82 : decode cX8_addClient 82 = .ok (.aload_n 0, 1) := by decide +kernel
theorem dX8_addClient_83 : decode cX8_addClient 83 = .ok (.getfield 30, 3) := by decide +kernel
theorem dX8_addClient_86 : decode cX8_addClient 86 = .ok (.getfield 213, 3) := by decide +kernel
theorem dX8_addClient_89 : decode cX8_addClient 89 = .ok (.aload_n 0, 1) := by decide +kernel
theorem dX8_addClient_90 : decode cX8_addClient 90 = .ok (.getfield 30, 3) := by decide +kernel
theorem dX8_addClient_93 : decode cX8_addClient 93 = .ok (.getfield 241, 3) := by decide +kernel
theorem dX8_addClient_96 : decode cX8_addClient 96 = .ok (.aload_n 0, 1) := by decide +kernel
theorem dX8_addClient_97 : decode cX8_addClient 97 = .ok (.getfield 30, 3) := by decide +kernel
theorem dX8_addClient_100 : decode cX8_addClient 100 = .ok (.getfield 244, 3) := by decide +kernel
theorem dX8_addClient_103 : decode cX8_addClient 103 = .ok (.invokevirtual 344, 3) := by decide +kernel
theorem dX8_addClient_106 : decode cX8_addClient 106 = .ok (.aload_n 0, 1) := by decide +kernel
theorem dX8_addClient_107 : decode cX8_addClient 107 = .ok (.invokevirtual 100, 3) := by decide +kernel
theorem dX8_addClient_110 : decode cX8_addClient 110 = .ok (.ifCond .ne 14, 3) := by decide +kernel
theorem dX8_addClient_113 : decode cX8_addClient 113 = .ok (.new 122, 3) := by decide +kernel
theorem dX8_addClient_116 : decode cX8_addClient 116 = .ok (.dup, 1) := by decide +kernel
theorem dX8_addClient_117 : decode cX8_addClient 117 = .ok (.ldc_w 347, 3) := by decide +kernel
theorem dX8_addClient_120 : decode cX8_addClient 120 = .ok (.invokespecial 126, 3) := by decide +kernel
theorem dX8_addClient_123 : decode cX8_addClient 123 = .ok (.athrow, 1) := by decide +kernel
theorem dX8_addClient_124 : decode cX8_addClient 124 = .ok (.aload_n 0, 1) := by decide +kernel
theorem dX8_addClient_125 : decode cX8_addClient 125 = .ok (.getfield 10, 3) := by decide +kernel
theorem dX8_addClient_128 : decode cX8_addClient 128 = .ok (.getfield 349, 3) := by decide +kernel
theorem dX8_addClient_131 : decode cX8_addClient 131 = .ok (.bipush 12, 2) := by decide +kernel
theorem dX8_addClient_133 : decode cX8_addClient 133 = .ok (.if_icmp .lt 14, 3) := by decide +kernel
theorem dX8_addClient_136 : decode cX8_addClient 136 = .ok (.new 136, 3) := by decide +kernel
theorem dX8_addClient_139 : decode cX8_addClient 139 = .ok (.dup, 1) := by decide +kernel
theorem dX8_addClient_140 : decode cX8_addClient 140 = .ok (.ldc_w 350, 3) := by decide +kernel
theorem dX8_addClient_143 : decode cX8_addClient 143 = .ok (.invokespecial 140, 3) := by decide +kernel
theorem dX8_addClient_146 : decode cX8_addClient 146 = .ok (.athrow, 1) := by decide +kernel
theorem dX8_addClient_147 : decode cX8_addClient 147 = .ok (.aload_n 0, 1) := by decide +kernel
theorem dX8_addClient_148 : decode cX8_addClient 148 = .ok (.invokevirtual 141, 3) := by decide +kernel
theorem dX8_addClient_151 : decode cX8_addClient 151 = .ok (.aload_n 0, 1) := by decide +kernel
theorem dX8_addClient_152 : decode cX8_addClient 152 = .ok (.getfield 10, 3) := by decide +kernel
theorem dX8_addClient_155 : decode cX8_addClient 155 = .ok (.aload_n 0, 1) := by decide +kernel
theorem dX8_addClient_156 : decode cX8_addClient 156 = .ok (.getfield 37, 3) := by decide +kernel
theorem dX8_addClient_159 : decode cX8_addClient 159 = .ok (.invokevirtual 104, 3) := by decide +kernel
theorem dX8_addClient_162 : decode cX8_addClient 162 = .ok (.aload_n 0, 1) := by decide +kernel
theorem dX8_addClient_163 : decode cX8_addClient 163 = .ok (.getfield 10, 3) := by decide +kernel
theorem dX8_addClient_166 : decode cX8_addClient 166 = .ok (.getfield 349, 3) := by decide +kernel
theorem dX8_addClient_169 : decode cX8_addClient 169 = .ok (.iconst 1, 1) := by decide +kernel
theorem dX8_addClient_170 : decode cX8_addClient 170 = .ok (.isub, 1) := by decide +kernel
theorem dX8_addClient_171 : decode cX8_addClient 171 = .ok (.ireturn, 1) := by decide +kernel
theorem dX8_requireVersion_0 : decode cX8_requireVersion 0 = .ok (.iload_n 0, 1) := by decide +kernel
theorem dX8_requireVersion_1 : decode cX8_requireVersion 1 = .ok (.ifCond .lt 8, 3) := by decide +kernel
theorem dX8_requireVersion_4 : decode cX8_requireVersion 4 = .ok (.iload_n 0, 1) := by decide +kernel
theorem dX8_requireVersion_5 : decode cX8_requireVersion 5 = .ok (.iconst 2, 1) := by decide +kernel
theorem dX8_requireVersion_6 : decode cX8_requireVersion 6 = .ok (.if_icmp .lt 14, 3) := by decide +kernel
theorem dX8_requireVersion_9 : decode cX8_requireVersion 9 = .ok (.new 111, 3) := by decide +kernel
theorem dX8_requireVersion_12 : decode cX8_requireVersion 12 = .ok (.dup, 1) := by decide +kernel
theorem dX8_requireVersion_13 : decode cX8_requireVersion 13 = .ok (.ldc_w 467, 3) := by decide +kernel
theorem dX8_requireVersion_16 : decode cX8_requireVersion 16 = .ok (.invokespecial 115, 3) := by decide +kernel
theorem dX8_requireVersion_19 : decode cX8_requireVersion 19 = .ok (.athrow, 1) := by decide +kernel
theorem dX8_requireVersion_20 : decode cX8_requireVersion 20 = .ok (.return_, 1) := by decide +kernel
theorem dX8_libraryOf_0 : decode cX8_libraryOf 0 = .ok (.iload_n 1, 1) := by decide +kernel
theorem dX8_libraryOf_1 : decode cX8_libraryOf 1 = .ok (.invokestatic 377, 3) := by decide +kernel
theorem dX8_libraryOf_4 : decode cX8_libraryOf 4 = .ok (.aload_n 0, 1) := by decide +kernel
theorem dX8_libraryOf_5 : decode cX8_libraryOf 5 = .ok (.getfield 10, 3) := by decide +kernel
theorem dX8_libraryOf_8 : decode cX8_libraryOf 8 = .ok (.getfield 53, 3) := by decide +kernel
theorem dX8_libraryOf_11 : decode cX8_libraryOf 11 = .ok (.iload_n 1, 1) := by decide +kernel
theorem dX8_libraryOf_12 : decode cX8_libraryOf 12 = .ok (.aaload, 1) := by decide +kernel
theorem dX8_libraryOf_13 : decode cX8_libraryOf 13 = .ok (.areturn, 1) := by decide +kernel
theorem dX8_libraryWith_0 : decode cX8_libraryWith 0 = .ok (.aload_n 0, 1) := by decide +kernel
theorem dX8_libraryWith_1 : decode cX8_libraryWith 1 = .ok (.iload_n 1, 1) := by decide +kernel
theorem dX8_libraryWith_2 : decode cX8_libraryWith 2 = .ok (.invokevirtual 107, 3) := by decide +kernel
theorem dX8_libraryWith_5 : decode cX8_libraryWith 5 = .ok (.astore_n 3, 1) := by decide +kernel
theorem dX8_libraryWith_6 : decode cX8_libraryWith 6 = .ok (.aload_n 3, 1) := by decide +kernel
theorem dX8_libraryWith_7 : decode cX8_libraryWith 7 = .ok (.iload_n 2, 1) := by decide +kernel
theorem dX8_libraryWith_8 : decode cX8_libraryWith 8 = .ok (.invokevirtual 132, 3) := by decide +kernel
theorem dX8_libraryWith_11 : decode cX8_libraryWith 11 = .ok (.ifCond .ne 14, 3) := by decide +kernel
theorem dX8_libraryWith_14 : decode cX8_libraryWith 14 = .ok (.new 111, 3) := by decide +kernel
theorem dX8_libraryWith_17 : decode cX8_libraryWith 17 = .ok (.dup, 1) := by decide +kernel
theorem dX8_libraryWith_18 : decode cX8_libraryWith 18 = .ok (.ldc_w 288, 3) := by decide +kernel
theorem dX8_libraryWith_21 : decode cX8_libraryWith 21 = .ok (.invokespecial 115, 3) := by decide +kernel
theorem dX8_libraryWith_24 : decode cX8_libraryWith 24 = .ok (.athrow, 1) := by decide +kernel
theorem dX8_libraryWith_25 : decode cX8_libraryWith 25 = .ok (.aload_n 3, 1) := by decide +kernel
theorem dX8_libraryWith_26 : decode cX8_libraryWith 26 = .ok (.areturn, 1) := by decide +kernel
theorem dX8_isAccess_0 : decode cX8_isAccess 0 = .ok (.iload_n 0, 1) := by decide +kernel
theorem dX8_isAccess_1 : decode cX8_isAccess 1 = .ok (.ifCond .lt 12, 3) := by decide +kernel
theorem dX8_isAccess_4 : decode cX8_isAccess 4 = .ok (.iload_n 0, 1) := by decide +kernel
theorem dX8_isAccess_5 : decode cX8_isAccess 5 = .ok (.iconst 3, 1) := by decide +kernel
theorem dX8_isAccess_6 : decode cX8_isAccess 6 = .ok (.if_icmp .gt 7, 3) := by decide +kernel
theorem dX8_isAccess_9 : decode cX8_isAccess 9 = .ok (.iconst 1, 1) := by decide +kernel
theorem dX8_isAccess_10 : decode cX8_isAccess 10 = .ok (.goto 4, 3) := by decide +kernel
theorem dX8_isAccess_13 : decode cX8_isAccess 13 = .ok (.iconst 0, 1) := by decide +kernel
theorem dX8_isAccess_14 : decode cX8_isAccess 14 = .ok (.ireturn, 1) := by decide +kernel
theorem dX8_addField_0 : decode cX8_addField 0 = .ok (.aload_n 0, 1) := by decide +kernel
theorem dX8_addField_1 : decode cX8_addField 1 = .ok (.iload_n 1, 1) := by decide +kernel
theorem dX8_addField_2 : decode cX8_addField 2 = .ok (.iload_n 2, 1) := by decide +kernel
theorem dX8_addField_3 : decode cX8_addField 3 = .ok (.invokevirtual 153, 3) := by decide +kernel
theorem dX8_addField_6 : decode cX8_addField 6 = .ok (.astore 6, 2) := by decide +kernel
theorem dX8_addField_8 : decode cX8_addField 8 = .ok (.iload_n 3, 1) := by decide +kernel
theorem dX8_addField_9 : decode cX8_addField 9 = .ok (.invokestatic 216, 3) := by decide +kernel
theorem dX8_addField_12 : decode cX8_addField 12 = .ok (.ifCond .eq 24, 3) := by decide +kernel
theorem dX8_addField_15 : decode cX8_addField 15 = .ok (.iload 4, 2) := by decide +kernel
theorem dX8_addField_17 : decode cX8_addField 17 = .ok (.invokestatic 219, 3) := by decide +kernel
theorem dX8_addField_20 : decode cX8_addField 20 = .ok (.ifCond .eq 16, 3) := by decide +kernel
theorem dX8_addField_23 : decode cX8_addField 23 = .ok (.aload 6, 2) := by decide +kernel
theorem dX8_addField_25 : decode cX8_addField 25 = .ok (.iload_n 2, 1) := by decide +kernel
theorem dX8_addField_26 : decode cX8_addField 26 = .ok (.iload 4, 2) := by decide +kernel
theorem dX8_addField_28 : decode cX8_addField 28 = .ok (.iload 5, 2) := by decide +kernel
theorem dX8_addField_30 : decode cX8_addField 30 = .ok (.invokevirtual 222, 3) := by decide +kernel
theorem dX8_addField_33 : decode cX8_addField 33 = .ok (.ifCond .ne 13, 3) := by decide +kernel
theorem dX8_addField_36 : decode cX8_addField 36 = .ok (.new 122, 3) := by decide +kernel
theorem dX8_addField_39 : decode cX8_addField 39 = .ok (.dup, 1) := by decide +kernel
theorem dX8_addField_40 : decode cX8_addField 40 = .ok (.ldc 226, 2) := by decide +kernel
theorem dX8_addField_42 : decode cX8_addField 42 = .ok (.invokespecial 126, 3) := by decide +kernel
theorem dX8_addField_45 : decode cX8_addField 45 = .ok (.athrow, 1) := by decide +kernel
theorem dX8_addField_46 : decode cX8_addField 46 = .ok (.iload_n 2, 1) := by decide +kernel
theorem dX8_addField_47 : decode cX8_addField 47 = .ok (.ifCond .eq 27, 3) := by decide +kernel
theorem dX8_addField_50 : decode cX8_addField 50 = .ok (.aload 6, 2) := by decide +kernel
theorem dX8_addField_52 : decode cX8_addField 52 = .ok (.getfield 64, 3) := by decide +kernel
theorem dX8_addField_55 : decode cX8_addField 55 = .ok (.iload_n 2, 1) := by decide +kernel
theorem dX8_addField_56 : decode cX8_addField 56 = .ok (.iload_n 3, 1) := by decide +kernel
theorem dX8_addField_57 : decode cX8_addField 57 = .ok (.invokevirtual 228, 3) := by decide +kernel
theorem dX8_addField_60 : decode cX8_addField 60 = .ok (.ifCond .ne 14, 3) := by decide +kernel
theorem dX8_addField_63 : decode cX8_addField 63 = .ok (.aload 6, 2) := by decide +kernel
theorem dX8_addField_65 : decode cX8_addField 65 = .ok (.getfield 64, 3) := by decide +kernel
theorem dX8_addField_68 : decode cX8_addField 68 = .ok (.invokevirtual 231, 3) := by decide +kernel
theorem dX8_addField_71 : decode cX8_addField 71 = .ok (.ifCond .eq 13, 3) := by decide +kernel
theorem dX8_addField_74 : decode cX8_addField 74 = .ok (.new 136, 3) := by decide +kernel
theorem dX8_addField_77 : decode cX8_addField 77 = .ok (.dup, 1) := by decide +kernel
theorem dX8_addField_78 : decode cX8_addField 78 = .ok (.ldc 234, 2) := by decide +kernel
theorem dX8_addField_80 : decode cX8_addField 80 = .ok (.invokespecial 140, 3) := by decide +kernel
theorem dX8_addField_83 : decode cX8_addField 83 = .ok (.athrow, 1) := by decide +kernel
theorem dX8_addField_84 : decode cX8_addField 84 = .ok (.aload_n 0, 1) := by decide +kernel
theorem dX8_addField_85 : decode cX8_addField 85 = .ok (.invokevirtual 141, 3) := by decide +kernel
theorem dX8_addField_88 : decode cX8_addField 88 = .ok (.aload 6, 2) := by decide +kernel
theorem dX8_addField_90 : decode cX8_addField 90 = .ok (.getfield 64, 3) := by decide +kernel
theorem dX8_addField_93 : decode cX8_addField 93 = .ok (.iconst 0, 1) := by decide +kernel
theorem dX8_addField_94 : decode cX8_addField 94 = .ok (.iload_n 2, 1) := by decide +kernel
theorem dX8_addField_95 : decode cX8_addField 95 = .ok (.iload_n 3, 1) := by decide +kernel
theorem dX8_addField_96 : decode cX8_addField 96 = .ok (.iload 4, 2) := by decide +kernel
theorem dX8_addField_98 : decode cX8_addField 98 = .ok (.iload 5, 2) := by decide +kernel
theorem dX8_addField_100 : decode cX8_addField 100 = .ok (.aload_n 0, 1) := by decide +kernel
theorem dX8_addField_101 : decode cX8_addField 101 = .ok (.getfield 30, 3) := by decide +kernel
theorem dX8_addField_104 : decode cX8_addField 104 = .ok (.invokevirtual 88, 3) := by decide +kernel
theorem dX8_addField_107 : decode cX8_addField 107 = .ok (.aload 6, 2) := by decide +kernel
theorem dX8_addField_109 : decode cX8_addField 109 = .ok (.getfield 64, 3) := by decide +kernel
theorem dX8_addField_112 : decode cX8_addField 112 = .ok (.getfield 203, 3) := by decide +kernel
theorem dX8_addField_115 : decode cX8_addField 115 = .ok (.iconst 1, 1) := by decide +kernel
theorem dX8_addField_116 : decode cX8_addField 116 = .ok (.isub, 1) := by decide +kernel
theorem dX8_addField_117 : decode cX8_addField 117 = .ok (.ireturn, 1) := by decide +kernel
theorem dX8_addMethod_0 : decode cX8_addMethod 0 = .ok (.aload_n 0, 1) := by decide +kernel
theorem dX8_addMethod_1 : decode cX8_addMethod 1 = .ok (.iload_n 1, 1) := by decide +kernel
theorem dX8_addMethod_2 : decode cX8_addMethod 2 = .ok (.iload_n 2, 1) := by decide +kernel
theorem dX8_addMethod_3 : decode cX8_addMethod 3 = .ok (.invokevirtual 153, 3) := by decide +kernel
theorem dX8_addMethod_6 : decode cX8_addMethod 6 = .ok (.astore 6, 2) := by decide +kernel
theorem dX8_addMethod_8 : decode cX8_addMethod 8 = .ok (.iload_n 3, 1) := by decide +kernel
theorem dX8_addMethod_9 : decode cX8_addMethod 9 = .ok (.invokestatic 216, 3) := by decide +kernel
theorem dX8_addMethod_12 : decode cX8_addMethod 12 = .ok (.ifCond .eq 24, 3) := by decide +kernel
theorem dX8_addMethod_15 : decode cX8_addMethod 15 = .ok (.iload 4, 2) := by decide +kernel
theorem dX8_addMethod_17 : decode cX8_addMethod 17 = .ok (.invokestatic 219, 3) := by decide +kernel
theorem dX8_addMethod_20 : decode cX8_addMethod 20 = .ok (.ifCond .eq 16, 3) := by decide +kernel
theorem dX8_addMethod_23 : decode cX8_addMethod 23 = .ok (.aload 6, 2) := by decide +kernel
theorem dX8_addMethod_25 : decode cX8_addMethod 25 = .ok (.iload_n 2, 1) := by decide +kernel
theorem dX8_addMethod_26 : decode cX8_addMethod 26 = .ok (.iload 4, 2) := by decide +kernel
theorem dX8_addMethod_28 : decode cX8_addMethod 28 = .ok (.iload 5, 2) := by decide +kernel
theorem dX8_addMethod_30 : decode cX8_addMethod 30 = .ok (.invokevirtual 236, 3) := by decide +kernel
theorem dX8_addMethod_33 : decode cX8_addMethod 33 = .ok (.ifCond .ne 13, 3) := by decide +kernel
theorem dX8_addMethod_36 : decode cX8_addMethod 36 = .ok (.new 122, 3) := by decide +kernel
theorem dX8_addMethod_39 : decode cX8_addMethod 39 = .ok (.dup, 1) := by decide +kernel
theorem dX8_addMethod_40 : decode cX8_addMethod 40 = .ok (.ldc 239, 2) := by decide +kernel
theorem dX8_addMethod_42 : decode cX8_addMethod 42 = .ok (.invokespecial 126, 3) := by decide +kernel
theorem dX8_addMethod_45 : decode cX8_addMethod 45 = .ok (.athrow, 1) := by decide +kernel
theorem dX8_addMethod_46 : decode cX8_addMethod 46 = .ok (.iload_n 3, 1) := by decide +kernel
theorem dX8_addMethod_47 : decode cX8_addMethod 47 = .ok (.aload_n 0, 1) := by decide +kernel
theorem dX8_addMethod_48 : decode cX8_addMethod 48 = .ok (.getfield 30, 3) := by decide +kernel
theorem dX8_addMethod_51 : decode cX8_addMethod 51 = .ok (.getfield 241, 3) := by decide +kernel
theorem dX8_addMethod_54 : decode cX8_addMethod 54 = .ok (.aload_n 0, 1) := by decide +kernel
theorem dX8_addMethod_55 : decode cX8_addMethod 55 = .ok (.getfield 30, 3) := by decide +kernel
theorem dX8_addMethod_58 : decode cX8_addMethod 58 = .ok (.getfield 244, 3) := by decide +kernel
theorem dX8_addMethod_61 : decode cX8_addMethod 61 = .ok (.invokestatic 247, 3) := by decide +kernel
theorem dX8_addMethod_64 : decode cX8_addMethod 64 = .ok (.istore 7, 2) := by decide +kernel
theorem dX8_addMethod_66 : decode cX8_addMethod 66 = .ok (.iload_n 2, 1) := by decide +kernel
theorem dX8_addMethod_67 : decode cX8_addMethod 67 = .ok (.ifCond .eq 28, 3) := by decide +kernel
theorem dX8_addMethod_70 : decode cX8_addMethod 70 = .ok (.aload 6, 2) := by decide +kernel
theorem dX8_addMethod_72 : decode cX8_addMethod 72 = .ok (.getfield 64, 3) := by decide +kernel
theorem dX8_addMethod_75 : decode cX8_addMethod 75 = .ok (.iload_n 2, 1) := by decide +kernel
theorem dX8_addMethod_76 : decode cX8_addMethod 76 = .ok (.iload 7, 2) := by decide +kernel
theorem dX8_addMethod_78 : decode cX8_addMethod 78 = .ok (.invokevirtual 251, 3) := by decide +kernel
theorem dX8_addMethod_81 : decode cX8_addMethod 81 = .ok (.ifCond .ne 14, 3) := by decide +kernel
theorem dX8_addMethod_84 : decode cX8_addMethod 84 = .ok (.aload 6, 2) := by decide +kernel
theorem dX8_addMethod_86 : decode cX8_addMethod 86 = .ok (.getfield 64, 3) := by decide +kernel
theorem dX8_addMethod_89 : decode cX8_addMethod 89 = .ok (.invokevirtual 231, 3) := by decide +kernel
theorem dX8_addMethod_92 : decode cX8_addMethod 92 = .ok (.ifCond .eq 13, 3) := by decide +kernel
theorem dX8_addMethod_95 : decode cX8_addMethod 95 = .ok (.new 136, 3) := by decide +kernel
theorem dX8_addMethod_98 : decode cX8_addMethod 98 = .ok (.dup, 1) := by decide +kernel
theorem dX8_addMethod_99 : decode cX8_addMethod 99 = .ok (.ldc 254, 2) := by decide +kernel
theorem dX8_addMethod_101 : decode cX8_addMethod 101 = .ok (.invokespecial 140, 3) := by decide +kernel
theorem dX8_addMethod_104 : decode cX8_addMethod 104 = .ok (.athrow, 1) := by decide +kernel
theorem dX8_addMethod_105 : decode cX8_addMethod 105 = .ok (.aload_n 0, 1) := by decide +kernel
theorem dX8_addMethod_106 : decode cX8_addMethod 106 = .ok (.invokevirtual 141, 3) := by decide +kernel
theorem dX8_addMethod_109 : decode cX8_addMethod 109 = .ok (.aload 6, 2) := by decide +kernel
theorem dX8_addMethod_111 : decode cX8_addMethod 111 = .ok (.getfield 64, 3) := by decide +kernel
theorem dX8_addMethod_114 : decode cX8_addMethod 114 = .ok (.iconst 1, 1) := by decide +kernel
theorem dX8_addMethod_115 : decode cX8_addMethod 115 = .ok (.iload_n 2, 1) := by decide +kernel
theorem dX8_addMethod_116 : decode cX8_addMethod 116 = .ok (.iload_n 3, 1) := by decide +kernel
theorem dX8_addMethod_117 : decode cX8_addMethod 117 = .ok (.iload 4, 2) := by decide +kernel
theorem dX8_addMethod_119 : decode cX8_addMethod 119 = .ok (.iload 5, 2) := by decide +kernel
theorem dX8_addMethod_121 : decode cX8_addMethod 121 = .ok (.aload_n 0, 1) := by decide +kernel
theorem dX8_addMethod_122 : decode cX8_addMethod 122 = .ok (.getfield 30, 3) := by decide +kernel
theorem dX8_addMethod_125 : decode cX8_addMethod 125 = .ok (.invokevirtual 88, 3) := by decide +kernel
theorem dX8_addMethod_128 : decode cX8_addMethod 128 = .ok (.aload 6, 2) := by decide +kernel
theorem dX8_addMethod_130 : decode cX8_addMethod 130 = .ok (.getfield 64, 3) := by decide +kernel
theorem dX8_addMethod_133 : decode cX8_addMethod 133 = .ok (.getfield 203, 3) := by decide +kernel
theorem dX8_addMethod_136 : decode cX8_addMethod 136 = .ok (.iconst 1, 1) := by decide +kernel
theorem dX8_addMethod_137 : decode cX8_addMethod 137 = .ok (.isub, 1) := by decide +kernel
theorem dX8_addMethod_138 : decode cX8_addMethod 138 = .ok (.ireturn, 1) := by decide +kernel
theorem dX8_buildFirstClasses_0 : decode cX8_buildFirstClasses 0 = .ok (.aload_n 0, 1) := by decide +kernel
theorem dX8_buildFirstClasses_1 : decode cX8_buildFirstClasses 1 = .ok (.iconst 0, 1) := by decide +kernel
theorem dX8_buildFirstClasses_2 : decode cX8_buildFirstClasses 2 = .ok (.iconst 0, 1) := by decide +kernel
theorem dX8_buildFirstClasses_3 : decode cX8_buildFirstClasses 3 = .ok (.bipush (-2), 2) := by decide +kernel
theorem dX8_buildFirstClasses_5 : decode cX8_buildFirstClasses 5 = .ok (.iconst 0, 1) := by decide +kernel
theorem dX8_buildFirstClasses_6 : decode cX8_buildFirstClasses 6 = .ok (.invokevirtual 80, 3) := by decide +kernel
theorem dX8_buildFirstClasses_9 : decode cX8_buildFirstClasses 9 = .ok (.aload_n 0, 1) := by decide +kernel
theorem dX8_buildFirstClasses_10 : decode cX8_buildFirstClasses 10 = .ok (.iconst 1, 1) := by decide +kernel
theorem dX8_buildFirstClasses_11 : decode cX8_buildFirstClasses 11 = .ok (.iconst 0, 1) := by decide +kernel
theorem dX8_buildFirstClasses_12 : decode cX8_buildFirstClasses 12 = .ok (.iconst 0, 1) := by decide +kernel
theorem dX8_buildFirstClasses_13 : decode cX8_buildFirstClasses 13 = .ok (.iconst 0, 1) := by decide +kernel
theorem dX8_buildFirstClasses_14 : decode cX8_buildFirstClasses 14 = .ok (.invokevirtual 80, 3) := by decide +kernel
theorem dX8_buildFirstClasses_17 : decode cX8_buildFirstClasses 17 = .ok (.aload_n 0, 1) := by decide +kernel
theorem dX8_buildFirstClasses_18 : decode cX8_buildFirstClasses 18 = .ok (.iconst 2, 1) := by decide +kernel
theorem dX8_buildFirstClasses_19 : decode cX8_buildFirstClasses 19 = .ok (.iconst 1, 1) := by decide +kernel
theorem dX8_buildFirstClasses_20 : decode cX8_buildFirstClasses 20 = .ok (.iconst 0, 1) := by decide +kernel
theorem dX8_buildFirstClasses_21 : decode cX8_buildFirstClasses 21 = .ok (.iconst 0, 1) := by decide +kernel
theorem dX8_buildFirstClasses_22 : decode cX8_buildFirstClasses 22 = .ok (.invokevirtual 80, 3) := by decide +kernel
theorem dX8_buildFirstClasses_25 : decode cX8_buildFirstClasses 25 = .ok (.aload_n 0, 1) := by decide +kernel
theorem dX8_buildFirstClasses_26 : decode cX8_buildFirstClasses 26 = .ok (.iconst 3, 1) := by decide +kernel
theorem dX8_buildFirstClasses_27 : decode cX8_buildFirstClasses 27 = .ok (.iconst 0, 1) := by decide +kernel
theorem dX8_buildFirstClasses_28 : decode cX8_buildFirstClasses 28 = .ok (.iconst 1, 1) := by decide +kernel
theorem dX8_buildFirstClasses_29 : decode cX8_buildFirstClasses 29 = .ok (.iconst 4, 1) := by decide +kernel
theorem dX8_buildFirstClasses_30 : decode cX8_buildFirstClasses 30 = .ok (.invokevirtual 80, 3) := by decide +kernel
theorem dX8_buildFirstClasses_33 : decode cX8_buildFirstClasses 33 = .ok (.aload_n 0, 1) := by decide +kernel
theorem dX8_buildFirstClasses_34 : decode cX8_buildFirstClasses 34 = .ok (.iconst 4, 1) := by decide +kernel
theorem dX8_buildFirstClasses_35 : decode cX8_buildFirstClasses 35 = .ok (.iconst 0, 1) := by decide +kernel
theorem dX8_buildFirstClasses_36 : decode cX8_buildFirstClasses 36 = .ok (.iconst 1, 1) := by decide +kernel
theorem dX8_buildFirstClasses_37 : decode cX8_buildFirstClasses 37 = .ok (.iconst 0, 1) := by decide +kernel
theorem dX8_buildFirstClasses_38 : decode cX8_buildFirstClasses 38 = .ok (.invokevirtual 80, 3) := by decide +kernel
theorem dX8_buildFirstClasses_41 : decode cX8_buildFirstClasses 41 = .ok (.iconst 0, 1) := by decide +kernel
theorem dX8_buildFirstClasses_42 : decode cX8_buildFirstClasses 42 = .ok (.istore_n 1, 1) := by decide +kernel
theorem dX8_buildFirstClasses_43 : decode cX8_buildFirstClasses 43 = .ok (.iload_n 1, 1) := by decide +kernel
theorem dX8_buildFirstClasses_44 : decode cX8_buildFirstClasses 44 = .ok (.iconst 4, 1) := by decide +kernel
theorem dX8_buildFirstClasses_45 : decode cX8_buildFirstClasses 45 = .ok (.if_icmp .gt 16, 3) := by decide +kernel
theorem dX8_buildFirstClasses_48 : decode cX8_buildFirstClasses 48 = .ok (.aload_n 0, 1) := by decide +kernel
theorem dX8_buildFirstClasses_49 : decode cX8_buildFirstClasses 49 = .ok (.iload_n 1, 1) := by decide +kernel
theorem dX8_buildFirstClasses_50 : decode cX8_buildFirstClasses 50 = .ok (.iconst 0, 1) := by decide +kernel
theorem dX8_buildFirstClasses_51 : decode cX8_buildFirstClasses 51 = .ok (.iconst 1, 1) := by decide +kernel
theorem dX8_buildFirstClasses_52 : decode cX8_buildFirstClasses 52 = .ok (.invokevirtual 84, 3) := by decide +kernel
theorem dX8_buildFirstClasses_55 : decode cX8_buildFirstClasses 55 = .ok (.iinc 1 1, 3) := by decide +kernel
theorem dX8_buildFirstClasses_58 : decode cX8_buildFirstClasses 58 = .ok (.goto (-15), 3) := by decide +kernel
theorem dX8_buildFirstClasses_61 : decode cX8_buildFirstClasses 61 = .ok (.aload_n 0, 1) := by decide +kernel
theorem dX8_buildFirstClasses_62 : decode cX8_buildFirstClasses 62 = .ok (.iconst 4, 1) := by decide +kernel
theorem dX8_buildFirstClasses_63 : decode cX8_buildFirstClasses 63 = .ok (.iconst 2, 1) := by decide +kernel
theorem dX8_buildFirstClasses_64 : decode cX8_buildFirstClasses 64 = .ok (.iconst 1, 1) := by decide +kernel
theorem dX8_buildFirstClasses_65 : decode cX8_buildFirstClasses 65 = .ok (.invokevirtual 84, 3) := by decide +kernel
theorem dX8_buildFirstClasses_68 : decode cX8_buildFirstClasses 68 = .ok (.aload_n 0, 1) := by decide +kernel
theorem dX8_buildFirstClasses_69 : decode cX8_buildFirstClasses 69 = .ok (.iconst 4, 1) := by decide +kernel
theorem dX8_buildFirstClasses_70 : decode cX8_buildFirstClasses 70 = .ok (.iconst 3, 1) := by decide +kernel
theorem dX8_buildFirstClasses_71 : decode cX8_buildFirstClasses 71 = .ok (.iconst 1, 1) := by decide +kernel
theorem dX8_buildFirstClasses_72 : decode cX8_buildFirstClasses 72 = .ok (.invokevirtual 84, 3) := by decide +kernel
theorem dX8_buildFirstClasses_75 : decode cX8_buildFirstClasses 75 = .ok (.return_, 1) := by decide +kernel
theorem dX8_buildFirstClients_0 : decode cX8_buildFirstClients 0 = .ok (.aload_n 0, 1) := by decide +kernel
theorem dX8_buildFirstClients_1 : decode cX8_buildFirstClients 1 = .ok (.getfield 37, 3) := by decide +kernel
theorem dX8_buildFirstClients_4 : decode cX8_buildFirstClients 4 = .ok (.iconst 0, 1) := by decide +kernel
theorem dX8_buildFirstClients_5 : decode cX8_buildFirstClients 5 = .ok (.iconst 3, 1) := by decide +kernel
theorem dX8_buildFirstClients_6 : decode cX8_buildFirstClients 6 = .ok (.iconst 1, 1) := by decide +kernel
theorem dX8_buildFirstClients_7 : decode cX8_buildFirstClients 7 = .ok (.iconst 2, 1) := by decide +kernel
theorem dX8_buildFirstClients_8 : decode cX8_buildFirstClients 8 = .ok (.invokevirtual 99, 3) := by decide +kernel
theorem dX8_buildFirstClients_11 : decode cX8_buildFirstClients 11 = .ok (.aload_n 0, 1) := by decide +kernel
theorem dX8_buildFirstClients_12 : decode cX8_buildFirstClients 12 = .ok (.invokevirtual 100, 3) := by decide +kernel
theorem dX8_buildFirstClients_15 : decode cX8_buildFirstClients 15 = .ok (.pop, 1) := by decide +kernel
theorem dX8_buildFirstClients_16 : decode cX8_buildFirstClients 16 = .ok (.aload_n 0, 1) := by decide +kernel
theorem dX8_buildFirstClients_17 : decode cX8_buildFirstClients 17 = .ok (.getfield 10, 3) := by decide +kernel
theorem dX8_buildFirstClients_20 : decode cX8_buildFirstClients 20 = .ok (.aload_n 0, 1) := by decide +kernel
theorem dX8_buildFirstClients_21 : decode cX8_buildFirstClients 21 = .ok (.getfield 37, 3) := by decide +kernel
theorem dX8_buildFirstClients_24 : decode cX8_buildFirstClients 24 = .ok (.invokevirtual 104, 3) := by decide +kernel
theorem dX8_buildFirstClients_27 : decode cX8_buildFirstClients 27 = .ok (.aload_n 0, 1) := by decide +kernel
theorem dX8_buildFirstClients_28 : decode cX8_buildFirstClients 28 = .ok (.getfield 37, 3) := by decide +kernel
theorem dX8_buildFirstClients_31 : decode cX8_buildFirstClients 31 = .ok (.iconst 2, 1) := by decide +kernel
theorem dX8_buildFirstClients_32 : decode cX8_buildFirstClients 32 = .ok (.iconst 3, 1) := by decide +kernel
theorem dX8_buildFirstClients_33 : decode cX8_buildFirstClients 33 = .ok (.iconst 2, 1) := by decide +kernel
theorem dX8_buildFirstClients_34 : decode cX8_buildFirstClients 34 = .ok (.iconst 2, 1) := by decide +kernel
theorem dX8_buildFirstClients_35 : decode cX8_buildFirstClients 35 = .ok (.invokevirtual 99, 3) := by decide +kernel
theorem dX8_buildFirstClients_38 : decode cX8_buildFirstClients 38 = .ok (.aload_n 0, 1) := by decide +kernel
theorem dX8_buildFirstClients_39 : decode cX8_buildFirstClients 39 = .ok (.invokevirtual 100, 3) := by decide +kernel
theorem dX8_buildFirstClients_42 : decode cX8_buildFirstClients 42 = .ok (.pop, 1) := by decide +kernel
theorem dX8_buildFirstClients_43 : decode cX8_buildFirstClients 43 = .ok (.aload_n 0, 1) := by decide +kernel
theorem dX8_buildFirstClients_44 : decode cX8_buildFirstClients 44 = .ok (.getfield 10, 3) := by decide +kernel
theorem dX8_buildFirstClients_47 : decode cX8_buildFirstClients 47 = .ok (.aload_n 0, 1) := by decide +kernel
theorem dX8_buildFirstClients_48 : decode cX8_buildFirstClients 48 = .ok (.getfield 37, 3) := by decide +kernel
theorem dX8_buildFirstClients_51 : decode cX8_buildFirstClients 51 = .ok (.invokevirtual 104, 3) := by decide +kernel
theorem dX8_buildFirstClients_54 : decode cX8_buildFirstClients 54 = .ok (.aload_n 0, 1) := by decide +kernel
theorem dX8_buildFirstClients_55 : decode cX8_buildFirstClients 55 = .ok (.getfield 37, 3) := by decide +kernel
theorem dX8_buildFirstClients_58 : decode cX8_buildFirstClients 58 = .ok (.iconst 2, 1) := by decide +kernel
theorem dX8_buildFirstClients_59 : decode cX8_buildFirstClients 59 = .ok (.iconst 4, 1) := by decide +kernel
theorem dX8_buildFirstClients_60 : decode cX8_buildFirstClients 60 = .ok (.iconst 0, 1) := by decide +kernel
theorem dX8_buildFirstClients_61 : decode cX8_buildFirstClients 61 = .ok (.iconst 2, 1) := by decide +kernel
theorem dX8_buildFirstClients_62 : decode cX8_buildFirstClients 62 = .ok (.invokevirtual 99, 3) := by decide +kernel
theorem dX8_buildFirstClients_65 : decode cX8_buildFirstClients 65 = .ok (.aload_n 0, 1) := by decide +kernel
theorem dX8_buildFirstClients_66 : decode cX8_buildFirstClients 66 = .ok (.invokevirtual 100, 3) := by decide +kernel
theorem dX8_buildFirstClients_69 : decode cX8_buildFirstClients 69 = .ok (.pop, 1) := by decide +kernel
theorem dX8_buildFirstClients_70 : decode cX8_buildFirstClients 70 = .ok (.aload_n 0, 1) := by decide +kernel
theorem dX8_buildFirstClients_71 : decode cX8_buildFirstClients 71 = .ok (.getfield 10, 3) := by decide +kernel
theorem dX8_buildFirstClients_74 : decode cX8_buildFirstClients 74 = .ok (.aload_n 0, 1) := by decide +kernel
theorem dX8_buildFirstClients_75 : decode cX8_buildFirstClients 75 = .ok (.getfield 37, 3) := by decide +kernel
theorem dX8_buildFirstClients_78 : decode cX8_buildFirstClients 78 = .ok (.invokevirtual 104, 3) := by decide +kernel
theorem dX8_buildFirstClients_81 : decode cX8_buildFirstClients 81 = .ok (.return_, 1) := by decide +kernel
theorem dX8_buildFirstMembers_0 : decode cX8_buildFirstMembers 0 = .ok (.new 27, 3) := by decide +kernel
theorem dX8_buildFirstMembers_3 : decode cX8_buildFirstMembers 3 = .ok (.dup, 1) := by decide +kernel
theorem dX8_buildFirstMembers_4 : decode cX8_buildFirstMembers 4 = .ok (.invokespecial 29, 3) := by decide +kernel
theorem dX8_buildFirstMembers_7 : decode cX8_buildFirstMembers 7 = .ok (.astore_n 1, 1) := by decide +kernel
theorem dX8_buildFirstMembers_8 : decode cX8_buildFirstMembers 8 = .ok (.aload_n 0, 1) := by decide +kernel
theorem dX8_buildFirstMembers_9 : decode cX8_buildFirstMembers 9 = .ok (.iconst 0, 1) := by decide +kernel
theorem dX8_buildFirstMembers_10 : decode cX8_buildFirstMembers 10 = .ok (.iconst 1, 1) := by decide +kernel
theorem dX8_buildFirstMembers_11 : decode cX8_buildFirstMembers 11 = .ok (.iconst 0, 1) := by decide +kernel
theorem dX8_buildFirstMembers_12 : decode cX8_buildFirstMembers 12 = .ok (.iconst 3, 1) := by decide +kernel
theorem dX8_buildFirstMembers_13 : decode cX8_buildFirstMembers 13 = .ok (.iconst 0, 1) := by decide +kernel
theorem dX8_buildFirstMembers_14 : decode cX8_buildFirstMembers 14 = .ok (.aload_n 1, 1) := by decide +kernel
theorem dX8_buildFirstMembers_15 : decode cX8_buildFirstMembers 15 = .ok (.invokevirtual 88, 3) := by decide +kernel
theorem dX8_buildFirstMembers_18 : decode cX8_buildFirstMembers 18 = .ok (.aload_n 0, 1) := by decide +kernel
theorem dX8_buildFirstMembers_19 : decode cX8_buildFirstMembers 19 = .ok (.iconst 0, 1) := by decide +kernel
theorem dX8_buildFirstMembers_20 : decode cX8_buildFirstMembers 20 = .ok (.iconst 1, 1) := by decide +kernel
theorem dX8_buildFirstMembers_21 : decode cX8_buildFirstMembers 21 = .ok (.iconst 1, 1) := by decide +kernel
theorem dX8_buildFirstMembers_22 : decode cX8_buildFirstMembers 22 = .ok (.iconst 3, 1) := by decide +kernel
theorem dX8_buildFirstMembers_23 : decode cX8_buildFirstMembers 23 = .ok (.iconst 3, 1) := by decide +kernel
theorem dX8_buildFirstMembers_24 : decode cX8_buildFirstMembers 24 = .ok (.aload_n 1, 1) := by decide +kernel
theorem dX8_buildFirstMembers_25 : decode cX8_buildFirstMembers 25 = .ok (.invokevirtual 88, 3) := by decide +kernel
theorem dX8_buildFirstMembers_28 : decode cX8_buildFirstMembers 28 = .ok (.aload_n 0, 1) := by decide +kernel
theorem dX8_buildFirstMembers_29 : decode cX8_buildFirstMembers 29 = .ok (.iconst 1, 1) := by decide +kernel
theorem dX8_buildFirstMembers_30 : decode cX8_buildFirstMembers 30 = .ok (.iconst 2, 1) := by decide +kernel
theorem dX8_buildFirstMembers_31 : decode cX8_buildFirstMembers 31 = .ok (.bipush 7, 2) := by decide +kernel
theorem dX8_buildFirstMembers_33 : decode cX8_buildFirstMembers 33 = .ok (.invokevirtual 94, 3) := by decide +kernel
theorem dX8_buildFirstMembers_36 : decode cX8_buildFirstMembers 36 = .ok (.aload_n 0, 1) := by decide +kernel
theorem dX8_buildFirstMembers_37 : decode cX8_buildFirstMembers 37 = .ok (.iconst 1, 1) := by decide +kernel
theorem dX8_buildFirstMembers_38 : decode cX8_buildFirstMembers 38 = .ok (.iconst 1, 1) := by decide +kernel
theorem dX8_buildFirstMembers_39 : decode cX8_buildFirstMembers 39 = .ok (.iconst 0, 1) := by decide +kernel
theorem dX8_buildFirstMembers_40 : decode cX8_buildFirstMembers 40 = .ok (.iconst 3, 1) := by decide +kernel
theorem dX8_buildFirstMembers_41 : decode cX8_buildFirstMembers 41 = .ok (.iconst 0, 1) := by decide +kernel
theorem dX8_buildFirstMembers_42 : decode cX8_buildFirstMembers 42 = .ok (.aload_n 1, 1) := by decide +kernel
theorem dX8_buildFirstMembers_43 : decode cX8_buildFirstMembers 43 = .ok (.invokevirtual 88, 3) := by decide +kernel
theorem dX8_buildFirstMembers_46 : decode cX8_buildFirstMembers 46 = .ok (.aload_n 1, 1) := by decide +kernel
theorem dX8_buildFirstMembers_47 : decode cX8_buildFirstMembers 47 = .ok (.iconst (-1), 1) := by decide +kernel
theorem dX8_buildFirstMembers_48 : decode cX8_buildFirstMembers 48 = .ok (.iconst 1, 1) := by decide +kernel
theorem dX8_buildFirstMembers_49 : decode cX8_buildFirstMembers 49 = .ok (.iconst 1, 1) := by decide +kernel
theorem dX8_buildFirstMembers_50 : decode cX8_buildFirstMembers 50 = .ok (.bipush (-2), 2) := by decide +kernel
theorem dX8_buildFirstMembers_52 : decode cX8_buildFirstMembers 52 = .ok (.invokevirtual 95, 3) := by decide +kernel
theorem dX8_buildFirstMembers_55 : decode cX8_buildFirstMembers 55 = .ok (.aload_n 0, 1) := by decide +kernel
theorem dX8_buildFirstMembers_56 : decode cX8_buildFirstMembers 56 = .ok (.iconst 1, 1) := by decide +kernel
theorem dX8_buildFirstMembers_57 : decode cX8_buildFirstMembers 57 = .ok (.iconst 1, 1) := by decide +kernel
theorem dX8_buildFirstMembers_58 : decode cX8_buildFirstMembers 58 = .ok (.iconst 1, 1) := by decide +kernel
theorem dX8_buildFirstMembers_59 : decode cX8_buildFirstMembers 59 = .ok (.iconst 2, 1) := by decide +kernel
theorem dX8_buildFirstMembers_60 : decode cX8_buildFirstMembers 60 = .ok (.iconst 0, 1) := by decide +kernel
theorem dX8_buildFirstMembers_61 : decode cX8_buildFirstMembers 61 = .ok (.aload_n 1, 1) := by decide +kernel
theorem dX8_buildFirstMembers_62 : decode cX8_buildFirstMembers 62 = .ok (.invokevirtual 88, 3) := by decide +kernel
theorem dX8_buildFirstMembers_65 : decode cX8_buildFirstMembers 65 = .ok (.aload_n 1, 1) := by decide +kernel
theorem dX8_buildFirstMembers_66 : decode cX8_buildFirstMembers 66 = .ok (.iconst 1, 1) := by decide +kernel
theorem dX8_buildFirstMembers_67 : decode cX8_buildFirstMembers 67 = .ok (.iconst 0, 1) := by decide +kernel
theorem dX8_buildFirstMembers_68 : decode cX8_buildFirstMembers 68 = .ok (.bipush (-2), 2) := by decide +kernel
theorem dX8_buildFirstMembers_70 : decode cX8_buildFirstMembers 70 = .ok (.bipush (-2), 2) := by decide +kernel
theorem dX8_buildFirstMembers_72 : decode cX8_buildFirstMembers 72 = .ok (.invokevirtual 95, 3) := by decide +kernel
theorem dX8_buildFirstMembers_75 : decode cX8_buildFirstMembers 75 = .ok (.aload_n 0, 1) := by decide +kernel
theorem dX8_buildFirstMembers_76 : decode cX8_buildFirstMembers 76 = .ok (.iconst 1, 1) := by decide +kernel
theorem dX8_buildFirstMembers_77 : decode cX8_buildFirstMembers 77 = .ok (.iconst 2, 1) := by decide +kernel
theorem dX8_buildFirstMembers_78 : decode cX8_buildFirstMembers 78 = .ok (.iconst 2, 1) := by decide +kernel
theorem dX8_buildFirstMembers_79 : decode cX8_buildFirstMembers 79 = .ok (.iconst 3, 1) := by decide +kernel
theorem dX8_buildFirstMembers_80 : decode cX8_buildFirstMembers 80 = .ok (.iconst 4, 1) := by decide +kernel
theorem dX8_buildFirstMembers_81 : decode cX8_buildFirstMembers 81 = .ok (.aload_n 1, 1) := by decide +kernel
theorem dX8_buildFirstMembers_82 : decode cX8_buildFirstMembers 82 = .ok (.invokevirtual 88, 3) := by decide +kernel
theorem dX8_buildFirstMembers_85 : decode cX8_buildFirstMembers 85 = .ok (.aload_n 0, 1) := by decide +kernel
theorem dX8_buildFirstMembers_86 : decode cX8_buildFirstMembers 86 = .ok (.iconst 1, 1) := by decide +kernel
theorem dX8_buildFirstMembers_87 : decode cX8_buildFirstMembers 87 = .ok (.iconst 3, 1) := by decide +kernel
theorem dX8_buildFirstMembers_88 : decode cX8_buildFirstMembers 88 = .ok (.iconst 2, 1) := by decide +kernel
theorem dX8_buildFirstMembers_89 : decode cX8_buildFirstMembers 89 = .ok (.iconst 3, 1) := by decide +kernel
theorem dX8_buildFirstMembers_90 : decode cX8_buildFirstMembers 90 = .ok (.iconst 0, 1) := by decide +kernel
theorem dX8_buildFirstMembers_91 : decode cX8_buildFirstMembers 91 = .ok (.aload_n 1, 1) := by decide +kernel
theorem dX8_buildFirstMembers_92 : decode cX8_buildFirstMembers 92 = .ok (.invokevirtual 88, 3) := by decide +kernel
theorem dX8_buildFirstMembers_95 : decode cX8_buildFirstMembers 95 = .ok (.aload_n 1, 1) := by decide +kernel
theorem dX8_buildFirstMembers_96 : decode cX8_buildFirstMembers 96 = .ok (.iconst (-1), 1) := by decide +kernel
theorem dX8_buildFirstMembers_97 : decode cX8_buildFirstMembers 97 = .ok (.iconst 0, 1) := by decide +kernel
theorem dX8_buildFirstMembers_98 : decode cX8_buildFirstMembers 98 = .ok (.bipush (-2), 2) := by decide +kernel
theorem dX8_buildFirstMembers_100 : decode cX8_buildFirstMembers 100 = .ok (.bipush (-2), 2) := by decide +kernel
theorem dX8_buildFirstMembers_102 : decode cX8_buildFirstMembers 102 = .ok (.invokevirtual 95, 3) := by decide +kernel
theorem dX8_buildFirstMembers_105 : decode cX8_buildFirstMembers 105 = .ok (.aload_n 0, 1) := by decide +kernel
theorem dX8_buildFirstMembers_106 : decode cX8_buildFirstMembers 106 = .ok (.iconst 1, 1) := by decide +kernel
theorem dX8_buildFirstMembers_107 : decode cX8_buildFirstMembers 107 = .ok (.iconst 3, 1) := by decide +kernel
theorem dX8_buildFirstMembers_108 : decode cX8_buildFirstMembers 108 = .ok (.iconst 0, 1) := by decide +kernel
theorem dX8_buildFirstMembers_109 : decode cX8_buildFirstMembers 109 = .ok (.iconst 3, 1) := by decide +kernel
theorem dX8_buildFirstMembers_110 : decode cX8_buildFirstMembers 110 = .ok (.iconst 0, 1) := by decide +kernel
theorem dX8_buildFirstMembers_111 : decode cX8_buildFirstMembers 111 = .ok (.aload_n 1, 1) := by decide +kernel
theorem dX8_buildFirstMembers_112 : decode cX8_buildFirstMembers 112 = .ok (.invokevirtual 88, 3) := by decide +kernel
theorem dX8_buildFirstMembers_115 : decode cX8_buildFirstMembers 115 = .ok (.aload_n 1, 1) := by decide +kernel
theorem dX8_buildFirstMembers_116 : decode cX8_buildFirstMembers 116 = .ok (.iconst (-1), 1) := by decide +kernel
theorem dX8_buildFirstMembers_117 : decode cX8_buildFirstMembers 117 = .ok (.iconst 1, 1) := by decide +kernel
theorem dX8_buildFirstMembers_118 : decode cX8_buildFirstMembers 118 = .ok (.iconst 3, 1) := by decide +kernel
theorem dX8_buildFirstMembers_119 : decode cX8_buildFirstMembers 119 = .ok (.bipush (-2), 2) := by decide +kernel
theorem dX8_buildFirstMembers_121 : decode cX8_buildFirstMembers 121 = .ok (.invokevirtual 95, 3) := by decide +kernel
theorem dX8_buildFirstMembers_124 : decode cX8_buildFirstMembers 124 = .ok (.aload_n 0, 1) := by decide +kernel
theorem dX8_buildFirstMembers_125 : decode cX8_buildFirstMembers 125 = .ok (.iconst 1, 1) := by decide +kernel
theorem dX8_buildFirstMembers_126 : decode cX8_buildFirstMembers 126 = .ok (.iconst 4, 1) := by decide +kernel
theorem dX8_buildFirstMembers_127 : decode cX8_buildFirstMembers 127 = .ok (.iconst 1, 1) := by decide +kernel
theorem dX8_buildFirstMembers_128 : decode cX8_buildFirstMembers 128 = .ok (.iconst 3, 1) := by decide +kernel
theorem dX8_buildFirstMembers_129 : decode cX8_buildFirstMembers 129 = .ok (.iconst 0, 1) := by decide +kernel
theorem dX8_buildFirstMembers_130 : decode cX8_buildFirstMembers 130 = .ok (.aload_n 1, 1) := by decide +kernel
theorem dX8_buildFirstMembers_131 : decode cX8_buildFirstMembers 131 = .ok (.invokevirtual 88, 3) := by decide +kernel
theorem dX8_buildFirstMembers_134 : decode cX8_buildFirstMembers 134 = .ok (.return_, 1) := by decide +kernel
theorem dX8_withNumber_0 : decode cX8_withNumber 0 = .ok (.ldc2_w 465, 3) := by decide +kernel
theorem dX8_withNumber_3 : decode cX8_withNumber 3 = .ok (.lload_n 0, 1) := by decide +kernel
theorem dX8_withNumber_4 : decode cX8_withNumber 4 = .ok (.lmul, 1) := by decide +kernel
theorem dX8_withNumber_5 : decode cX8_withNumber 5 = .ok (.iload_n 2, 1) := by decide +kernel
theorem dX8_withNumber_6 : decode cX8_withNumber 6 = .ok (.i2l, 1) := by decide +kernel
theorem dX8_withNumber_7 : decode cX8_withNumber 7 = .ok (.ladd, 1) := by decide +kernel
theorem dX8_withNumber_8 : decode cX8_withNumber 8 = .ok (.lreturn, 1) := by decide +kernel
theorem dX8_withClasses_0 : decode cX8_withClasses 0 = .ok (.lload_n 0, 1) := by decide +kernel
theorem dX8_withClasses_1 : decode cX8_withClasses 1 = .ok (.lstore_n 3, 1) := by decide +kernel
theorem dX8_withClasses_2 : decode cX8_withClasses 2 = .ok (.iconst 0, 1) := by decide +kernel
theorem dX8_withClasses_3 : decode cX8_withClasses 3 = .ok (.istore 5, 2) := by decide +kernel
theorem dX8_withClasses_5 : decode cX8_withClasses 5 = .ok (.iload 5, 2) := by decide +kernel
theorem dX8_withClasses_7 : decode cX8_withClasses 7 = .ok (.bipush 10, 2) := by decide +kernel
theorem dX8_withClasses_9 : decode cX8_withClasses 9 = .ok (.if_icmp .ge 57, 3) := by decide +kernel
theorem dX8_withClasses_12 : decode cX8_withClasses 12 = .ok (.aload_n 2, 1) := by decide +kernel
theorem dX8_withClasses_13 : decode cX8_withClasses 13 = .ok (.iload 5, 2) := by decide +kernel
theorem dX8_withClasses_15 : decode cX8_withClasses 15 = .ok (.invokevirtual 132, 3) := by decide +kernel
theorem dX8_withClasses_18 : decode cX8_withClasses 18 = .ok (.ifCond .eq 35, 3) := by decide +kernel
theorem dX8_withClasses_21 : decode cX8_withClasses 21 = .ok (.iconst 0, 1) := by decide +kernel
theorem dX8_withClasses_22 : decode cX8_withClasses 22 = .ok (.istore 6, 2) := by decide +kernel
theorem dX8_withClasses_24 : decode cX8_withClasses 24 = .ok (.iload 6, 2) := by decide +kernel
theorem dX8_withClasses_26 : decode cX8_withClasses 26 = .ok (.bipush 9, 2) := by decide +kernel
theorem dX8_withClasses_28 : decode cX8_withClasses 28 = .ok (.if_icmp .gt 22, 3) := by decide +kernel
theorem dX8_withClasses_31 : decode cX8_withClasses 31 = .ok (.lload_n 3, 1) := by decide +kernel
theorem dX8_withClasses_32 : decode cX8_withClasses 32 = .ok (.aload_n 2, 1) := by decide +kernel
theorem dX8_withClasses_33 : decode cX8_withClasses 33 = .ok (.iload 5, 2) := by decide +kernel
theorem dX8_withClasses_35 : decode cX8_withClasses 35 = .ok (.iload 6, 2) := by decide +kernel
theorem dX8_withClasses_37 : decode cX8_withClasses 37 = .ok (.invokevirtual 194, 3) := by decide +kernel
theorem dX8_withClasses_40 : decode cX8_withClasses 40 = .ok (.invokestatic 457, 3) := by decide +kernel
theorem dX8_withClasses_43 : decode cX8_withClasses 43 = .ok (.lstore_n 3, 1) := by decide +kernel
theorem dX8_withClasses_44 : decode cX8_withClasses 44 = .ok (.iinc 6 1, 3) := by decide +kernel
theorem dX8_withClasses_47 : decode cX8_withClasses 47 = .ok (.goto (-23), 3) := by decide +kernel
theorem dX8_withClasses_50 : decode cX8_withClasses 50 = .ok (.goto 10, 3) := by decide +kernel
theorem dX8_withClasses_53 : decode cX8_withClasses 53 = .ok (.lload_n 3, 1) := by decide +kernel
theorem dX8_withClasses_54 : decode cX8_withClasses 54 = .ok (.bipush (-3), 2) := by decide +kernel
theorem dX8_withClasses_56 : decode cX8_withClasses 56 = .ok (.invokestatic 457, 3) := by decide +kernel
theorem dX8_withClasses_59 : decode cX8_withClasses 59 = .ok (.lstore_n 3, 1) := by decide +kernel
theorem dX8_withClasses_60 : decode cX8_withClasses 60 = .ok (.iinc 5 1, 3) := by decide +kernel
theorem dX8_withClasses_63 : decode cX8_withClasses 63 = .ok (.goto (-58), 3) := by decide +kernel
theorem dX8_withClasses_66 : decode cX8_withClasses 66 = .ok (.lload_n 3, 1) := by decide +kernel
theorem dX8_withClasses_67 : decode cX8_withClasses 67 = .ok (.lreturn, 1) := by decide +kernel
theorem dX8_withMembers_0 : decode cX8_withMembers 0 = .ok (.lload_n 0, 1) := by decide +kernel
theorem dX8_withMembers_1 : decode cX8_withMembers 1 = .ok (.aload_n 2, 1) := by decide +kernel
theorem dX8_withMembers_2 : decode cX8_withMembers 2 = .ok (.getfield 203, 3) := by decide +kernel
theorem dX8_withMembers_5 : decode cX8_withMembers 5 = .ok (.invokestatic 457, 3) := by decide +kernel
theorem dX8_withMembers_8 : decode cX8_withMembers 8 = .ok (.lstore_n 3, 1) := by decide +kernel
theorem dX8_withMembers_9 : decode cX8_withMembers 9 = .ok (.iconst 0, 1) := by decide +kernel
theorem dX8_withMembers_10 : decode cX8_withMembers 10 = .ok (.istore 5, 2) := by decide +kernel
theorem dX8_withMembers_12 : decode cX8_withMembers 12 = .ok (.iload 5, 2) := by decide +kernel
theorem dX8_withMembers_14 : decode cX8_withMembers 14 = .ok (.aload_n 2, 1) := by decide +kernel
theorem dX8_withMembers_15 : decode cX8_withMembers 15 = .ok (.getfield 203, 3) := by decide +kernel
theorem dX8_withMembers_18 : decode cX8_withMembers 18 = .ok (.if_icmp .ge 38, 3) := by decide +kernel
theorem dX8_withMembers_21 : decode cX8_withMembers 21 = .ok (.iconst 0, 1) := by decide +kernel
theorem dX8_withMembers_22 : decode cX8_withMembers 22 = .ok (.istore 6, 2) := by decide +kernel
theorem dX8_withMembers_24 : decode cX8_withMembers 24 = .ok (.iload 6, 2) := by decide +kernel
theorem dX8_withMembers_26 : decode cX8_withMembers 26 = .ok (.bipush 9, 2) := by decide +kernel
theorem dX8_withMembers_28 : decode cX8_withMembers 28 = .ok (.if_icmp .gt 22, 3) := by decide +kernel
theorem dX8_withMembers_31 : decode cX8_withMembers 31 = .ok (.lload_n 3, 1) := by decide +kernel
theorem dX8_withMembers_32 : decode cX8_withMembers 32 = .ok (.aload_n 2, 1) := by decide +kernel
theorem dX8_withMembers_33 : decode cX8_withMembers 33 = .ok (.iload 5, 2) := by decide +kernel
theorem dX8_withMembers_35 : decode cX8_withMembers 35 = .ok (.iload 6, 2) := by decide +kernel
theorem dX8_withMembers_37 : decode cX8_withMembers 37 = .ok (.invokevirtual 265, 3) := by decide +kernel
theorem dX8_withMembers_40 : decode cX8_withMembers 40 = .ok (.invokestatic 457, 3) := by decide +kernel
theorem dX8_withMembers_43 : decode cX8_withMembers 43 = .ok (.lstore_n 3, 1) := by decide +kernel
theorem dX8_withMembers_44 : decode cX8_withMembers 44 = .ok (.iinc 6 1, 3) := by decide +kernel
theorem dX8_withMembers_47 : decode cX8_withMembers 47 = .ok (.goto (-23), 3) := by decide +kernel
theorem dX8_withMembers_50 : decode cX8_withMembers 50 = .ok (.iinc 5 1, 3) := by decide +kernel
theorem dX8_withMembers_53 : decode cX8_withMembers 53 = .ok (.goto (-41), 3) := by decide +kernel
theorem dX8_withMembers_56 : decode cX8_withMembers 56 = .ok (.lload_n 3, 1) := by decide +kernel
theorem dX8_withMembers_57 : decode cX8_withMembers 57 = .ok (.lreturn, 1) := by decide +kernel
theorem dX8_targetOf_0 : decode cX8_targetOf 0 = .ok (.aload_n 0, 1) := by decide +kernel
theorem dX8_targetOf_1 : decode cX8_targetOf 1 = .ok (.getfield 49, 3) := by decide +kernel
theorem dX8_targetOf_4 : decode cX8_targetOf 4 = .ok (.iload_n 2, 1) := by decide +kernel
theorem dX8_targetOf_5 : decode cX8_targetOf 5 = .ok (.aaload, 1) := by decide +kernel
theorem dX8_targetOf_6 : decode cX8_targetOf 6 = .ok (.aload_n 1, 1) := by decide +kernel
theorem dX8_targetOf_7 : decode cX8_targetOf 7 = .ok (.invokevirtual 384, 3) := by decide +kernel
theorem dX8_targetOf_10 : decode cX8_targetOf 10 = .ok (.pop, 1) := by decide +kernel
theorem dX8_targetOf_11 : decode cX8_targetOf 11 = .ok (.aload_n 0, 1) := by decide +kernel
theorem dX8_targetOf_12 : decode cX8_targetOf 12 = .ok (.getfield 49, 3) := by decide +kernel
theorem dX8_targetOf_15 : decode cX8_targetOf 15 = .ok (.iload_n 2, 1) := by decide +kernel
theorem dX8_targetOf_16 : decode cX8_targetOf 16 = .ok (.aaload, 1) := by decide +kernel
theorem dX8_targetOf_17 : decode cX8_targetOf 17 = .ok (.getfield 435, 3) := by decide +kernel
theorem dX8_targetOf_20 : decode cX8_targetOf 20 = .ok (.ireturn, 1) := by decide +kernel
theorem dX8_verdictOf_0 : decode cX8_verdictOf 0 = .ok (.aload_n 0, 1) := by decide +kernel
theorem dX8_verdictOf_1 : decode cX8_verdictOf 1 = .ok (.getfield 49, 3) := by decide +kernel
theorem dX8_verdictOf_4 : decode cX8_verdictOf 4 = .ok (.iconst 1, 1) := by decide +kernel
theorem dX8_verdictOf_5 : decode cX8_verdictOf 5 = .ok (.aaload, 1) := by decide +kernel
theorem dX8_verdictOf_6 : decode cX8_verdictOf 6 = .ok (.aload_n 1, 1) := by decide +kernel
theorem dX8_verdictOf_7 : decode cX8_verdictOf 7 = .ok (.invokevirtual 384, 3) := by decide +kernel
theorem dX8_verdictOf_10 : decode cX8_verdictOf 10 = .ok (.istore_n 2, 1) := by decide +kernel
theorem dX8_verdictOf_11 : decode cX8_verdictOf 11 = .ok (.iload_n 2, 1) := by decide +kernel
theorem dX8_verdictOf_12 : decode cX8_verdictOf 12 = .ok (.ifCond .eq 15, 3) := by decide +kernel
theorem dX8_verdictOf_15 : decode cX8_verdictOf 15 = .ok (.iload_n 2, 1) := by decide +kernel
theorem dX8_verdictOf_16 : decode cX8_verdictOf 16 = .ok (.bipush 6, 2) := by decide +kernel
theorem dX8_verdictOf_18 : decode cX8_verdictOf 18 = .ok (.if_icmp .ne 7, 3) := by decide +kernel
theorem dX8_verdictOf_21 : decode cX8_verdictOf 21 = .ok (.iconst 2, 1) := by decide +kernel
theorem dX8_verdictOf_22 : decode cX8_verdictOf 22 = .ok (.goto 4, 3) := by decide +kernel
theorem dX8_verdictOf_25 : decode cX8_verdictOf 25 = .ok (.iconst 1, 1) := by decide +kernel
theorem dX8_verdictOf_26 : decode cX8_verdictOf 26 = .ok (.ireturn, 1) := by decide +kernel
theorem dX8_verdictOf_27 : decode cX8_verdictOf 27 = .ok (.aload_n 0, 1) := by decide +kernel
theorem dX8_verdictOf_28 : decode cX8_verdictOf 28 = .ok (.getfield 43, 3) := by decide +kernel
theorem dX8_verdictOf_31 : decode cX8_verdictOf 31 = .ok (.iconst 1, 1) := by decide +kernel
theorem dX8_verdictOf_32 : decode cX8_verdictOf 32 = .ok (.aaload, 1) := by decide +kernel
theorem dX8_verdictOf_33 : decode cX8_verdictOf 33 = .ok (.aload_n 1, 1) := by decide +kernel
theorem dX8_verdictOf_34 : decode cX8_verdictOf 34 = .ok (.invokevirtual 380, 3) := by decide +kernel
theorem dX8_verdictOf_37 : decode cX8_verdictOf 37 = .ok (.ifCond .eq 5, 3) := by decide +kernel
theorem dX8_verdictOf_40 : decode cX8_verdictOf 40 = .ok (.iconst 3, 1) := by decide +kernel
theorem dX8_verdictOf_41 : decode cX8_verdictOf 41 = .ok (.ireturn, 1) := by decide +kernel
theorem dX8_verdictOf_42 : decode cX8_verdictOf 42 = .ok (.aload_n 0, 1) := by decide +kernel
theorem dX8_verdictOf_43 : decode cX8_verdictOf 43 = .ok (.getfield 43, 3) := by decide +kernel
theorem dX8_verdictOf_46 : decode cX8_verdictOf 46 = .ok (.iconst 1, 1) := by decide +kernel
theorem dX8_verdictOf_47 : decode cX8_verdictOf 47 = .ok (.aaload, 1) := by decide +kernel
theorem dX8_verdictOf_48 : decode cX8_verdictOf 48 = .ok (.getfield 429, 3) := by decide +kernel
theorem dX8_verdictOf_51 : decode cX8_verdictOf 51 = .ok (.aload_n 1, 1) := by decide +kernel
theorem dX8_verdictOf_52 : decode cX8_verdictOf 52 = .ok (.getfield 425, 3) := by decide +kernel
theorem dX8_verdictOf_55 : decode cX8_verdictOf 55 = .ok (.invokevirtual 438, 3) := by decide +kernel
theorem dX8_verdictOf_58 : decode cX8_verdictOf 58 = .ok (.ifCond .ne 5, 3) := by decide +kernel
theorem dX8_verdictOf_61 : decode cX8_verdictOf 61 = .ok (.iconst 4, 1) := by decide +kernel
theorem dX8_verdictOf_62 : decode cX8_verdictOf 62 = .ok (.ireturn, 1) := by decide +kernel
theorem dX8_verdictOf_63 : decode cX8_verdictOf 63 = .ok (.aload_n 0, 1) := by decide +kernel
theorem dX8_verdictOf_64 : decode cX8_verdictOf 64 = .ok (.getfield 49, 3) := by decide +kernel
theorem dX8_verdictOf_67 : decode cX8_verdictOf 67 = .ok (.iconst 0, 1) := by decide +kernel
theorem dX8_verdictOf_68 : decode cX8_verdictOf 68 = .ok (.aaload, 1) := by decide +kernel
theorem dX8_verdictOf_69 : decode cX8_verdictOf 69 = .ok (.aload_n 1, 1) := by decide +kernel
theorem dX8_verdictOf_70 : decode cX8_verdictOf 70 = .ok (.invokevirtual 384, 3) := by decide +kernel
theorem dX8_verdictOf_73 : decode cX8_verdictOf 73 = .ok (.ifCond .ne 24, 3) := by decide +kernel
theorem dX8_verdictOf_76 : decode cX8_verdictOf 76 = .ok (.aload_n 0, 1) := by decide +kernel
theorem dX8_verdictOf_77 : decode cX8_verdictOf 77 = .ok (.getfield 49, 3) := by decide +kernel
theorem dX8_verdictOf_80 : decode cX8_verdictOf 80 = .ok (.iconst 0, 1) := by decide +kernel
theorem dX8_verdictOf_81 : decode cX8_verdictOf 81 = .ok (.aaload, 1) := by decide +kernel
theorem dX8_verdictOf_82 : decode cX8_verdictOf 82 = .ok (.getfield 435, 3) := by decide +kernel
theorem dX8_verdictOf_85 : decode cX8_verdictOf 85 = .ok (.aload_n 0, 1) := by decide +kernel
theorem dX8_verdictOf_86 : decode cX8_verdictOf 86 = .ok (.getfield 49, 3) := by decide +kernel
theorem dX8_verdictOf_89 : decode cX8_verdictOf 89 = .ok (.iconst 1, 1) := by decide +kernel
theorem dX8_verdictOf_90 : decode cX8_verdictOf 90 = .ok (.aaload, 1) := by decide +kernel
theorem dX8_verdictOf_91 : decode cX8_verdictOf 91 = .ok (.getfield 435, 3) := by decide +kernel
theorem dX8_verdictOf_94 : decode cX8_verdictOf 94 = .ok (.if_icmp .eq 5, 3) := by decide +kernel
theorem dX8_verdictOf_97 : decode cX8_verdictOf 97 = .ok (.iconst 5, 1) := by decide +kernel
theorem dX8_verdictOf_98 : decode cX8_verdictOf 98 = .ok (.ireturn, 1) := by decide +kernel
theorem dX8_verdictOf_99 : decode cX8_verdictOf 99 = .ok (.iconst 0, 1) := by decide +kernel
theorem dX8_verdictOf_100 : decode cX8_verdictOf 100 = .ok (.ireturn, 1) := by decide +kernel
theorem dX8_withClient_0 : decode cX8_withClient 0 = .ok (.lload_n 1, 1) := by decide +kernel
theorem dX8_withClient_1 : decode cX8_withClient 1 = .ok (.lstore 4, 2) := by decide +kernel
theorem dX8_withClient_3 : decode cX8_withClient 3 = .ok (.iconst 0, 1) := by decide +kernel
theorem dX8_withClient_4 : decode cX8_withClient 4 = .ok (.istore 6, 2) := by decide +kernel
theorem dX8_withClient_6 : decode cX8_withClient 6 = .ok (.iload 6, 2) := by decide +kernel
theorem dX8_withClient_8 : decode cX8_withClient 8 = .ok (.bipush 9, 2) := by decide +kernel
theorem dX8_withClient_10 : decode cX8_withClient 10 = .ok (.if_icmp .gt 22, 3) := by decide +kernel
theorem dX8_withClient_13 : decode cX8_withClient 13 = .ok (.lload 4, 2) := by decide +kernel
theorem dX8_withClient_15 : decode cX8_withClient 15 = .ok (.aload_n 3, 1) := by decide +kernel
theorem dX8_withClient_16 : decode cX8_withClient 16 = .ok (.iload 6, 2) := by decide +kernel
theorem dX8_withClient_18 : decode cX8_withClient 18 = .ok (.invokevirtual 375, 3) := by decide +kernel
theorem dX8_withClient_21 : decode cX8_withClient 21 = .ok (.invokestatic 457, 3) := by decide +kernel
theorem dX8_withClient_24 : decode cX8_withClient 24 = .ok (.lstore 4, 2) := by decide +kernel
theorem dX8_withClient_26 : decode cX8_withClient 26 = .ok (.iinc 6 1, 3) := by decide +kernel
theorem dX8_withClient_29 : decode cX8_withClient 29 = .ok (.goto (-23), 3) := by decide +kernel
theorem dX8_withClient_32 : decode cX8_withClient 32 = .ok (.lload 4, 2) := by decide +kernel
theorem dX8_withClient_34 : decode cX8_withClient 34 = .ok (.aload_n 0, 1) := by decide +kernel
theorem dX8_withClient_35 : decode cX8_withClient 35 = .ok (.getfield 43, 3) := by decide +kernel
theorem dX8_withClient_38 : decode cX8_withClient 38 = .ok (.iconst 0, 1) := by decide +kernel
theorem dX8_withClient_39 : decode cX8_withClient 39 = .ok (.aaload, 1) := by decide +kernel
theorem dX8_withClient_40 : decode cX8_withClient 40 = .ok (.aload_n 3, 1) := by decide +kernel
theorem dX8_withClient_41 : decode cX8_withClient 41 = .ok (.invokevirtual 380, 3) := by decide +kernel
theorem dX8_withClient_44 : decode cX8_withClient 44 = .ok (.invokestatic 457, 3) := by decide +kernel
theorem dX8_withClient_47 : decode cX8_withClient 47 = .ok (.lstore 4, 2) := by decide +kernel
theorem dX8_withClient_49 : decode cX8_withClient 49 = .ok (.lload 4, 2) := by decide +kernel
theorem dX8_withClient_51 : decode cX8_withClient 51 = .ok (.aload_n 0, 1) := by decide +kernel
theorem dX8_withClient_52 : decode cX8_withClient 52 = .ok (.getfield 43, 3) := by decide +kernel
theorem dX8_withClient_55 : decode cX8_withClient 55 = .ok (.iconst 1, 1) := by decide +kernel
theorem dX8_withClient_56 : decode cX8_withClient 56 = .ok (.aaload, 1) := by decide +kernel
theorem dX8_withClient_57 : decode cX8_withClient 57 = .ok (.aload_n 3, 1) := by decide +kernel
theorem dX8_withClient_58 : decode cX8_withClient 58 = .ok (.invokevirtual 380, 3) := by decide +kernel
theorem dX8_withClient_61 : decode cX8_withClient 61 = .ok (.invokestatic 457, 3) := by decide +kernel
theorem dX8_withClient_64 : decode cX8_withClient 64 = .ok (.lstore 4, 2) := by decide +kernel
theorem dX8_withClient_66 : decode cX8_withClient 66 = .ok (.lload 4, 2) := by decide +kernel
theorem dX8_withClient_68 : decode cX8_withClient 68 = .ok (.aload_n 0, 1) := by decide +kernel
theorem dX8_withClient_69 : decode cX8_withClient 69 = .ok (.getfield 49, 3) := by decide +kernel
theorem dX8_withClient_72 : decode cX8_withClient 72 = .ok (.iconst 0, 1) := by decide +kernel
theorem dX8_withClient_73 : decode cX8_withClient 73 = .ok (.aaload, 1) := by decide +kernel
theorem dX8_withClient_74 : decode cX8_withClient 74 = .ok (.aload_n 3, 1) := by decide +kernel
theorem dX8_withClient_75 : decode cX8_withClient 75 = .ok (.invokevirtual 384, 3) := by decide +kernel
theorem dX8_withClient_78 : decode cX8_withClient 78 = .ok (.invokestatic 457, 3) := by decide +kernel
theorem dX8_withClient_81 : decode cX8_withClient 81 = .ok (.lstore 4, 2) := by decide +kernel
theorem dX8_withClient_83 : decode cX8_withClient 83 = .ok (.lload 4, 2) := by decide +kernel
theorem dX8_withClient_85 : decode cX8_withClient 85 = .ok (.aload_n 0, 1) := by decide +kernel
theorem dX8_withClient_86 : decode cX8_withClient 86 = .ok (.getfield 49, 3) := by decide +kernel
theorem dX8_withClient_89 : decode cX8_withClient 89 = .ok (.iconst 1, 1) := by decide +kernel
theorem dX8_withClient_90 : decode cX8_withClient 90 = .ok (.aaload, 1) := by decide +kernel
theorem dX8_withClient_91 : decode cX8_withClient 91 = .ok (.aload_n 3, 1) := by decide +kernel
theorem dX8_withClient_92 : decode cX8_withClient 92 = .ok (.invokevirtual 384, 3) := by decide +kernel
theorem dX8_withClient_95 : decode cX8_withClient 95 = .ok (.invokestatic 457, 3) := by decide +kernel
theorem dX8_withClient_98 : decode cX8_withClient 98 = .ok (.lstore 4, 2) := by decide +kernel
theorem dX8_withClient_100 : decode cX8_withClient 100 = .ok (.lload 4, 2) := by decide +kernel
theorem dX8_withClient_102 : decode cX8_withClient 102 = .ok (.aload_n 0, 1) := by decide +kernel
theorem dX8_withClient_103 : decode cX8_withClient 103 = .ok (.aload_n 3, 1) := by decide +kernel
theorem dX8_withClient_104 : decode cX8_withClient 104 = .ok (.iconst 0, 1) := by decide +kernel
theorem dX8_withClient_105 : decode cX8_withClient 105 = .ok (.invokevirtual 385, 3) := by decide +kernel
theorem dX8_withClient_108 : decode cX8_withClient 108 = .ok (.invokestatic 457, 3) := by decide +kernel
theorem dX8_withClient_111 : decode cX8_withClient 111 = .ok (.lstore 4, 2) := by decide +kernel
theorem dX8_withClient_113 : decode cX8_withClient 113 = .ok (.lload 4, 2) := by decide +kernel
theorem dX8_withClient_115 : decode cX8_withClient 115 = .ok (.aload_n 0, 1) := by decide +kernel
theorem dX8_withClient_116 : decode cX8_withClient 116 = .ok (.aload_n 3, 1) := by decide +kernel
theorem dX8_withClient_117 : decode cX8_withClient 117 = .ok (.iconst 1, 1) := by decide +kernel
theorem dX8_withClient_118 : decode cX8_withClient 118 = .ok (.invokevirtual 385, 3) := by decide +kernel
theorem dX8_withClient_121 : decode cX8_withClient 121 = .ok (.invokestatic 457, 3) := by decide +kernel
theorem dX8_withClient_124 : decode cX8_withClient 124 = .ok (.lstore 4, 2) := by decide +kernel
theorem dX8_withClient_126 : decode cX8_withClient 126 = .ok (.lload 4, 2) := by decide +kernel
theorem dX8_withClient_128 : decode cX8_withClient 128 = .ok (.aload_n 0, 1) := by decide +kernel
theorem dX8_withClient_129 : decode cX8_withClient 129 = .ok (.aload_n 3, 1) := by decide +kernel
theorem dX8_withClient_130 : decode cX8_withClient 130 = .ok (.invokevirtual 389, 3) := by decide +kernel
theorem dX8_withClient_133 : decode cX8_withClient 133 = .ok (.invokestatic 457, 3) := by decide +kernel
theorem dX8_withClient_136 : decode cX8_withClient 136 = .ok (.lreturn, 1) := by decide +kernel
theorem dX8_checksum_0 : decode cX8_checksum 0 = .ok (.ldc2_w 447, 3) := by decide +kernel
theorem dX8_checksum_3 : decode cX8_checksum 3 = .ok (.lstore_n 1, 1) := by decide +kernel
theorem dX8_checksum_4 : decode cX8_checksum 4 = .ok (.iconst 0, 1) := by decide +kernel
theorem dX8_checksum_5 : decode cX8_checksum 5 = .ok (.istore_n 3, 1) := by decide +kernel
theorem dX8_checksum_6 : decode cX8_checksum 6 = .ok (.iload_n 3, 1) := by decide +kernel
theorem dX8_checksum_7 : decode cX8_checksum 7 = .ok (.iconst 2, 1) := by decide +kernel
theorem dX8_checksum_8 : decode cX8_checksum 8 = .ok (.if_icmp .ge 40, 3) := by decide +kernel
theorem dX8_checksum_11 : decode cX8_checksum 11 = .ok (.lload_n 1, 1) := by decide +kernel
theorem dX8_checksum_12 : decode cX8_checksum 12 = .ok (.aload_n 0, 1) := by decide +kernel
theorem dX8_checksum_13 : decode cX8_checksum 13 = .ok (.getfield 10, 3) := by decide +kernel
theorem dX8_checksum_16 : decode cX8_checksum 16 = .ok (.getfield 53, 3) := by decide +kernel
theorem dX8_checksum_19 : decode cX8_checksum 19 = .ok (.iload_n 3, 1) := by decide +kernel
theorem dX8_checksum_20 : decode cX8_checksum 20 = .ok (.aaload, 1) := by decide +kernel
theorem dX8_checksum_21 : decode cX8_checksum 21 = .ok (.invokestatic 449, 3) := by decide +kernel
theorem dX8_checksum_24 : decode cX8_checksum 24 = .ok (.lstore_n 1, 1) := by decide +kernel
theorem dX8_checksum_25 : decode cX8_checksum 25 = .ok (.lload_n 1, 1) := by decide +kernel
theorem dX8_checksum_26 : decode cX8_checksum 26 = .ok (.aload_n 0, 1) := by decide +kernel
theorem dX8_checksum_27 : decode cX8_checksum 27 = .ok (.getfield 10, 3) := by decide +kernel
theorem dX8_checksum_30 : decode cX8_checksum 30 = .ok (.getfield 53, 3) := by decide +kernel
theorem dX8_checksum_33 : decode cX8_checksum 33 = .ok (.iload_n 3, 1) := by decide +kernel
theorem dX8_checksum_34 : decode cX8_checksum 34 = .ok (.aaload, 1) := by decide +kernel
theorem dX8_checksum_35 : decode cX8_checksum 35 = .ok (.getfield 64, 3) := by decide +kernel
theorem dX8_checksum_38 : decode cX8_checksum 38 = .ok (.invokestatic 453, 3) := by decide +kernel
theorem dX8_checksum_41 : decode cX8_checksum 41 = .ok (.lstore_n 1, 1) := by decide +kernel
theorem dX8_checksum_42 : decode cX8_checksum 42 = .ok (.iinc 3 1, 3) := by decide +kernel
theorem dX8_checksum_45 : decode cX8_checksum 45 = .ok (.goto (-39), 3) := by decide +kernel
theorem dX8_checksum_48 : decode cX8_checksum 48 = .ok (.lload_n 1, 1) := by decide +kernel
theorem dX8_checksum_49 : decode cX8_checksum 49 = .ok (.aload_n 0, 1) := by decide +kernel
theorem dX8_checksum_50 : decode cX8_checksum 50 = .ok (.getfield 10, 3) := by decide +kernel
theorem dX8_checksum_53 : decode cX8_checksum 53 = .ok (.getfield 349, 3) := by decide +kernel
theorem dX8_checksum_56 : decode cX8_checksum 56 = .ok (.invokestatic 457, 3) := by decide +kernel
theorem dX8_checksum_59 : decode cX8_checksum 59 = .ok (.lstore_n 1, 1) := by decide +kernel
theorem dX8_checksum_60 : decode cX8_checksum 60 = .ok (.iconst 0, 1) := by decide +kernel
theorem dX8_checksum_61 : decode cX8_checksum 61 = .ok (.istore_n 3, 1) := by decide +kernel
theorem dX8_checksum_62 : decode cX8_checksum 62 = .ok (.iload_n 3, 1) := by decide +kernel
theorem dX8_checksum_63 : decode cX8_checksum 63 = .ok (.aload_n 0, 1) := by decide +kernel
theorem dX8_checksum_64 : decode cX8_checksum 64 = .ok (.getfield 10, 3) := by decide +kernel
theorem dX8_checksum_67 : decode cX8_checksum 67 = .ok (.getfield 349, 3) := by decide +kernel
theorem dX8_checksum_70 : decode cX8_checksum 70 = .ok (.if_icmp .ge 24, 3) := by decide +kernel
theorem dX8_checksum_73 : decode cX8_checksum 73 = .ok (.aload_n 0, 1) := by decide +kernel
theorem dX8_checksum_74 : decode cX8_checksum 74 = .ok (.lload_n 1, 1) := by decide +kernel
theorem dX8_checksum_75 : decode cX8_checksum 75 = .ok (.aload_n 0, 1) := by decide +kernel
theorem dX8_checksum_76 : decode cX8_checksum 76 = .ok (.getfield 10, 3) := by decide +kernel
theorem dX8_checksum_79 : decode cX8_checksum 79 = .ok (.getfield 394, 3) := by decide +kernel
theorem dX8_checksum_82 : decode cX8_checksum 82 = .ok (.iload_n 3, 1) := by decide +kernel
theorem dX8_checksum_83 : decode cX8_checksum 83 = .ok (.aaload, 1) := by decide +kernel
theorem dX8_checksum_84 : decode cX8_checksum 84 = .ok (.invokevirtual 461, 3) := by decide +kernel
theorem dX8_checksum_87 : decode cX8_checksum 87 = .ok (.lstore_n 1, 1) := by decide +kernel
theorem dX8_checksum_88 : decode cX8_checksum 88 = .ok (.iinc 3 1, 3) := by decide +kernel
theorem dX8_checksum_91 : decode cX8_checksum 91 = .ok (.goto (-29), 3) := by decide +kernel
theorem dX8_checksum_94 : decode cX8_checksum 94 = .ok (.lload_n 1, 1) := by decide +kernel
theorem dX8_checksum_95 : decode cX8_checksum 95 = .ok (.aload_n 0, 1) := by decide +kernel
theorem dX8_checksum_96 : decode cX8_checksum 96 = .ok (.getfield 30, 3) := by decide +kernel
theorem dX8_checksum_99 : decode cX8_checksum 99 = .ok (.getfield 309, 3) := by decide +kernel
theorem dX8_checksum_102 : decode cX8_checksum 102 = .ok (.invokestatic 457, 3) := by decide +kernel
theorem dX8_checksum_105 : decode cX8_checksum 105 = .ok (.lstore_n 1, 1) := by decide +kernel
theorem dX8_checksum_106 : decode cX8_checksum 106 = .ok (.lload_n 1, 1) := by decide +kernel
theorem dX8_checksum_107 : decode cX8_checksum 107 = .ok (.aload_n 0, 1) := by decide +kernel
theorem dX8_checksum_108 : decode cX8_checksum 108 = .ok (.getfield 30, 3) := by decide +kernel
theorem dX8_checksum_111 : decode cX8_checksum 111 = .ok (.getfield 213, 3) := by decide +kernel
theorem dX8_checksum_114 : decode cX8_checksum 114 = .ok (.invokestatic 457, 3) := by decide +kernel
theorem dX8_checksum_117 : decode cX8_checksum 117 = .ok (.lstore_n 1, 1) := by decide +kernel
theorem dX8_checksum_118 : decode cX8_checksum 118 = .ok (.lload_n 1, 1) := by decide +kernel
theorem dX8_checksum_119 : decode cX8_checksum 119 = .ok (.aload_n 0, 1) := by decide +kernel
theorem dX8_checksum_120 : decode cX8_checksum 120 = .ok (.getfield 24, 3) := by decide +kernel
theorem dX8_checksum_123 : decode cX8_checksum 123 = .ok (.invokestatic 457, 3) := by decide +kernel
theorem dX8_checksum_126 : decode cX8_checksum 126 = .ok (.lreturn, 1) := by decide +kernel
theorem dX8_requireInfo_0 : decode cX8_requireInfo 0 = .ok (.iload_n 0, 1) := by decide +kernel
theorem dX8_requireInfo_1 : decode cX8_requireInfo 1 = .ok (.ifCond .lt 9, 3) := by decide +kernel
theorem dX8_requireInfo_4 : decode cX8_requireInfo 4 = .ok (.iload_n 0, 1) := by decide +kernel
theorem dX8_requireInfo_5 : decode cX8_requireInfo 5 = .ok (.bipush 9, 2) := by decide +kernel
theorem dX8_requireInfo_7 : decode cX8_requireInfo 7 = .ok (.if_icmp .le 14, 3) := by decide +kernel
theorem dX8_requireInfo_10 : decode cX8_requireInfo 10 = .ok (.new 122, 3) := by decide +kernel
theorem dX8_requireInfo_13 : decode cX8_requireInfo 13 = .ok (.dup, 1) := by decide +kernel
theorem dX8_requireInfo_14 : decode cX8_requireInfo 14 = .ok (.ldc_w 476, 3) := by decide +kernel
theorem dX8_requireInfo_17 : decode cX8_requireInfo 17 = .ok (.invokespecial 126, 3) := by decide +kernel
theorem dX8_requireInfo_20 : decode cX8_requireInfo 20 = .ok (.athrow, 1) := by decide +kernel
theorem dX8_requireInfo_21 : decode cX8_requireInfo 21 = .ok (.return_, 1) := by decide +kernel
theorem dX8_classInfo_0 : decode cX8_classInfo 0 = .ok (.aload_n 0, 1) := by decide +kernel
theorem dX8_classInfo_1 : decode cX8_classInfo 1 = .ok (.iload_n 1, 1) := by decide +kernel
theorem dX8_classInfo_2 : decode cX8_classInfo 2 = .ok (.iload_n 2, 1) := by decide +kernel
theorem dX8_classInfo_3 : decode cX8_classInfo 3 = .ok (.invokevirtual 153, 3) := by decide +kernel
theorem dX8_classInfo_6 : decode cX8_classInfo 6 = .ok (.astore 4, 2) := by decide +kernel
theorem dX8_classInfo_8 : decode cX8_classInfo 8 = .ok (.iload_n 3, 1) := by decide +kernel
theorem dX8_classInfo_9 : decode cX8_classInfo 9 = .ok (.invokestatic 200, 3) := by decide +kernel
theorem dX8_classInfo_12 : decode cX8_classInfo 12 = .ok (.aload 4, 2) := by decide +kernel
theorem dX8_classInfo_14 : decode cX8_classInfo 14 = .ok (.iload_n 2, 1) := by decide +kernel
theorem dX8_classInfo_15 : decode cX8_classInfo 15 = .ok (.iload_n 3, 1) := by decide +kernel
theorem dX8_classInfo_16 : decode cX8_classInfo 16 = .ok (.invokevirtual 194, 3) := by decide +kernel
theorem dX8_classInfo_19 : decode cX8_classInfo 19 = .ok (.ireturn, 1) := by decide +kernel
theorem dX8_requireClient_0 : decode cX8_requireClient 0 = .ok (.iload_n 1, 1) := by decide +kernel
theorem dX8_requireClient_1 : decode cX8_requireClient 1 = .ok (.ifCond .lt 14, 3) := by decide +kernel
theorem dX8_requireClient_4 : decode cX8_requireClient 4 = .ok (.iload_n 1, 1) := by decide +kernel
theorem dX8_requireClient_5 : decode cX8_requireClient 5 = .ok (.aload_n 0, 1) := by decide +kernel
theorem dX8_requireClient_6 : decode cX8_requireClient 6 = .ok (.getfield 10, 3) := by decide +kernel
theorem dX8_requireClient_9 : decode cX8_requireClient 9 = .ok (.getfield 349, 3) := by decide +kernel
theorem dX8_requireClient_12 : decode cX8_requireClient 12 = .ok (.if_icmp .lt 14, 3) := by decide +kernel
theorem dX8_requireClient_15 : decode cX8_requireClient 15 = .ok (.new 111, 3) := by decide +kernel
theorem dX8_requireClient_18 : decode cX8_requireClient 18 = .ok (.dup, 1) := by decide +kernel
theorem dX8_requireClient_19 : decode cX8_requireClient 19 = .ok (.ldc_w 474, 3) := by decide +kernel
theorem dX8_requireClient_22 : decode cX8_requireClient 22 = .ok (.invokespecial 115, 3) := by decide +kernel
theorem dX8_requireClient_25 : decode cX8_requireClient 25 = .ok (.athrow, 1) := by decide +kernel
theorem dX8_requireClient_26 : decode cX8_requireClient 26 = .ok (.return_, 1) := by decide +kernel
theorem dX8_clientAt_0 : decode cX8_clientAt 0 = .ok (.aload_n 0, 1) := by decide +kernel
theorem dX8_clientAt_1 : decode cX8_clientAt 1 = .ok (.iload_n 1, 1) := by decide +kernel
theorem dX8_clientAt_2 : decode cX8_clientAt 2 = .ok (.invokevirtual 371, 3) := by decide +kernel
theorem dX8_clientAt_5 : decode cX8_clientAt 5 = .ok (.aload_n 0, 1) := by decide +kernel
theorem dX8_clientAt_6 : decode cX8_clientAt 6 = .ok (.getfield 10, 3) := by decide +kernel
theorem dX8_clientAt_9 : decode cX8_clientAt 9 = .ok (.getfield 394, 3) := by decide +kernel
theorem dX8_clientAt_12 : decode cX8_clientAt 12 = .ok (.iload_n 1, 1) := by decide +kernel
theorem dX8_clientAt_13 : decode cX8_clientAt 13 = .ok (.aaload, 1) := by decide +kernel
theorem dX8_clientAt_14 : decode cX8_clientAt 14 = .ok (.areturn, 1) := by decide +kernel
theorem dX8_clientInfo_0 : decode cX8_clientInfo 0 = .ok (.aload_n 0, 1) := by decide +kernel
theorem dX8_clientInfo_1 : decode cX8_clientInfo 1 = .ok (.iload_n 1, 1) := by decide +kernel
theorem dX8_clientInfo_2 : decode cX8_clientInfo 2 = .ok (.invokevirtual 352, 3) := by decide +kernel
theorem dX8_clientInfo_5 : decode cX8_clientInfo 5 = .ok (.astore_n 3, 1) := by decide +kernel
theorem dX8_clientInfo_6 : decode cX8_clientInfo 6 = .ok (.iload_n 2, 1) := by decide +kernel
theorem dX8_clientInfo_7 : decode cX8_clientInfo 7 = .ok (.invokestatic 200, 3) := by decide +kernel
theorem dX8_clientInfo_10 : decode cX8_clientInfo 10 = .ok (.aload_n 3, 1) := by decide +kernel
theorem dX8_clientInfo_11 : decode cX8_clientInfo 11 = .ok (.iload_n 2, 1) := by decide +kernel
theorem dX8_clientInfo_12 : decode cX8_clientInfo 12 = .ok (.invokevirtual 375, 3) := by decide +kernel
theorem dX8_clientInfo_15 : decode cX8_clientInfo 15 = .ok (.ireturn, 1) := by decide +kernel
theorem dX8_clients_0 : decode cX8_clients 0 = .ok (.aload_n 0, 1) := by decide +kernel
theorem dX8_clients_1 : decode cX8_clients 1 = .ok (.getfield 10, 3) := by decide +kernel
theorem dX8_clients_4 : decode cX8_clients 4 = .ok (.getfield 349, 3) := by decide +kernel
theorem dX8_clients_7 : decode cX8_clients 7 = .ok (.ireturn, 1) := by decide +kernel
theorem dX8_compile_0 : decode cX8_compile 0 = .ok (.aload_n 0, 1) := by decide +kernel
theorem dX8_compile_1 : decode cX8_compile 1 = .ok (.iload_n 1, 1) := by decide +kernel
theorem dX8_compile_2 : decode cX8_compile 2 = .ok (.invokevirtual 352, 3) := by decide +kernel
theorem dX8_compile_5 : decode cX8_compile 5 = .ok (.astore_n 3, 1) := by decide +kernel
theorem dX8_compile_6 : decode cX8_compile 6 = .ok (.iload_n 2, 1) := by decide +kernel
theorem dX8_compile_7 : decode cX8_compile 7 = .ok (.invokestatic 377, 3) := by decide +kernel
theorem dX8_compile_10 : decode cX8_compile 10 = .ok (.aload_n 0, 1) := by decide +kernel
theorem dX8_compile_11 : decode cX8_compile 11 = .ok (.getfield 43, 3) := by decide +kernel
theorem dX8_compile_14 : decode cX8_compile 14 = .ok (.iload_n 2, 1) := by decide +kernel
theorem dX8_compile_15 : decode cX8_compile 15 = .ok (.aaload, 1) := by decide +kernel
theorem dX8_compile_16 : decode cX8_compile 16 = .ok (.aload_n 3, 1) := by decide +kernel
theorem dX8_compile_17 : decode cX8_compile 17 = .ok (.invokevirtual 380, 3) := by decide +kernel
theorem dX8_compile_20 : decode cX8_compile 20 = .ok (.ireturn, 1) := by decide +kernel
theorem dX8_copyVersion_0 : decode cX8_copyVersion 0 = .ok (.aload_n 0, 1) := by decide +kernel
theorem dX8_copyVersion_1 : decode cX8_copyVersion 1 = .ok (.invokevirtual 141, 3) := by decide +kernel
theorem dX8_copyVersion_4 : decode cX8_copyVersion 4 = .ok (.aload_n 0, 1) := by decide +kernel
theorem dX8_copyVersion_5 : decode cX8_copyVersion 5 = .ok (.getfield 10, 3) := by decide +kernel
theorem dX8_copyVersion_8 : decode cX8_copyVersion 8 = .ok (.getfield 53, 3) := by decide +kernel
theorem dX8_copyVersion_11 : decode cX8_copyVersion 11 = .ok (.iconst 1, 1) := by decide +kernel
theorem dX8_copyVersion_12 : decode cX8_copyVersion 12 = .ok (.aaload, 1) := by decide +kernel
theorem dX8_copyVersion_13 : decode cX8_copyVersion 13 = .ok (.aload_n 0, 1) := by decide +kernel
theorem dX8_copyVersion_14 : decode cX8_copyVersion 14 = .ok (.getfield 10, 3) := by decide +kernel
theorem dX8_copyVersion_17 : decode cX8_copyVersion 17 = .ok (.getfield 53, 3) := by decide +kernel
theorem dX8_copyVersion_20 : decode cX8_copyVersion 20 = .ok (.iconst 0, 1) := by decide +kernel
theorem dX8_copyVersion_21 : decode cX8_copyVersion 21 = .ok (.aaload, 1) := by decide +kernel
theorem dX8_copyVersion_22 : decode cX8_copyVersion 22 = .ok (.invokevirtual 74, 3) := by decide +kernel
theorem dX8_copyVersion_25 : decode cX8_copyVersion 25 = .ok (.aload_n 0, 1) := by decide +kernel
theorem dX8_copyVersion_26 : decode cX8_copyVersion 26 = .ok (.getfield 10, 3) := by decide +kernel
theorem dX8_copyVersion_29 : decode cX8_copyVersion 29 = .ok (.getfield 53, 3) := by decide +kernel
theorem dX8_copyVersion_32 : decode cX8_copyVersion 32 = .ok (.iconst 1, 1) := by decide +kernel
theorem dX8_copyVersion_33 : decode cX8_copyVersion 33 = .ok (.aaload, 1) := by decide +kernel
theorem dX8_copyVersion_34 : decode cX8_copyVersion 34 = .ok (.getfield 64, 3) := by decide +kernel
theorem dX8_copyVersion_37 : decode cX8_copyVersion 37 = .ok (.getfield 203, 3) := by decide +kernel
theorem dX8_copyVersion_40 : decode cX8_copyVersion 40 = .ok (.ireturn, 1) := by decide +kernel
theorem dX8_count_0 : decode cX8_count 0 = .ok (.iload_n 1, 1) := by decide +kernel
theorem dX8_count_1 : decode cX8_count 1 = .ok (.ifCond .lt 8, 3) := by decide +kernel
theorem dX8_count_4 : decode cX8_count 4 = .ok (.iload_n 1, 1) := by decide +kernel
theorem dX8_count_5 : decode cX8_count 5 = .ok (.iconst 5, 1) := by decide +kernel
theorem dX8_count_6 : decode cX8_count 6 = .ok (.if_icmp .le 14, 3) := by decide +kernel
theorem dX8_count_9 : decode cX8_count 9 = .ok (.new 122, 3) := by decide +kernel
theorem dX8_count_12 : decode cX8_count 12 = .ok (.dup, 1) := by decide +kernel
theorem dX8_count_13 : decode cX8_count 13 = .ok (.ldc_w 392, 3) := by decide +kernel
theorem dX8_count_16 : decode cX8_count 16 = .ok (.invokespecial 126, 3) := by decide +kernel
theorem dX8_count_19 : decode cX8_count 19 = .ok (.athrow, 1) := by decide +kernel
theorem dX8_count_20 : decode cX8_count 20 = .ok (.iconst 0, 1) := by decide +kernel
theorem dX8_count_21 : decode cX8_count 21 = .ok (.istore_n 2, 1) := by decide +kernel
theorem dX8_count_22 : decode cX8_count 22 = .ok (.iconst 0, 1) := by decide +kernel
theorem dX8_count_23 : decode cX8_count 23 = .ok (.istore_n 3, 1) := by decide +kernel
theorem dX8_count_24 : decode cX8_count 24 = .ok (.iload_n 3, 1) := by decide +kernel
theorem dX8_count_25 : decode cX8_count 25 = .ok (.aload_n 0, 1) := by decide +kernel
theorem dX8_count_26 : decode cX8_count 26 = .ok (.getfield 10, 3) := by decide +kernel
theorem dX8_count_29 : decode cX8_count 29 = .ok (.getfield 349, 3) := by decide +kernel
theorem dX8_count_32 : decode cX8_count 32 = .ok (.if_icmp .ge 29, 3) := by decide +kernel
theorem dX8_count_35 : decode cX8_count 35 = .ok (.aload_n 0, 1) := by decide +kernel
theorem dX8_count_36 : decode cX8_count 36 = .ok (.aload_n 0, 1) := by decide +kernel
theorem dX8_count_37 : decode cX8_count 37 = .ok (.getfield 10, 3) := by decide +kernel
theorem dX8_count_40 : decode cX8_count 40 = .ok (.getfield 394, 3) := by decide +kernel
theorem dX8_count_43 : decode cX8_count 43 = .ok (.iload_n 3, 1) := by decide +kernel
theorem dX8_count_44 : decode cX8_count 44 = .ok (.aaload, 1) := by decide +kernel
theorem dX8_count_45 : decode cX8_count 45 = .ok (.invokevirtual 389, 3) := by decide +kernel
theorem dX8_count_48 : decode cX8_count 48 = .ok (.iload_n 1, 1) := by decide +kernel
theorem dX8_count_49 : decode cX8_count 49 = .ok (.if_icmp .ne 6, 3) := by decide +kernel
theorem dX8_count_52 : decode cX8_count 52 = .ok (.iinc 2 1, 3) := by decide +kernel
theorem dX8_count_55 : decode cX8_count 55 = .ok (.iinc 3 1, 3) := by decide +kernel
theorem dX8_count_58 : decode cX8_count 58 = .ok (.goto (-34), 3) := by decide +kernel
theorem dX8_count_61 : decode cX8_count 61 = .ok (.iload_n 2, 1) := by decide +kernel
theorem dX8_count_62 : decode cX8_count 62 = .ok (.ireturn, 1) := by decide +kernel
theorem dX8_define_0 : decode cX8_define 0 = .ok (.aload_n 0, 1) := by decide +kernel
theorem dX8_define_1 : decode cX8_define 1 = .ok (.iload_n 1, 1) := by decide +kernel
theorem dX8_define_2 : decode cX8_define 2 = .ok (.invokevirtual 107, 3) := by decide +kernel
theorem dX8_define_5 : decode cX8_define 5 = .ok (.astore 6, 2) := by decide +kernel
theorem dX8_define_7 : decode cX8_define 7 = .ok (.iload_n 2, 1) := by decide +kernel
theorem dX8_define_8 : decode cX8_define 8 = .ok (.iconst 1, 1) := by decide +kernel
theorem dX8_define_9 : decode cX8_define 9 = .ok (.if_icmp .lt 9, 3) := by decide +kernel
theorem dX8_define_12 : decode cX8_define 12 = .ok (.iload_n 2, 1) := by decide +kernel
theorem dX8_define_13 : decode cX8_define 13 = .ok (.bipush 10, 2) := by decide +kernel
theorem dX8_define_15 : decode cX8_define 15 = .ok (.if_icmp .lt 13, 3) := by decide +kernel
theorem dX8_define_18 : decode cX8_define 18 = .ok (.new 111, 3) := by decide +kernel
theorem dX8_define_21 : decode cX8_define 21 = .ok (.dup, 1) := by decide +kernel
theorem dX8_define_22 : decode cX8_define 22 = .ok (.ldc 113, 2) := by decide +kernel
theorem dX8_define_24 : decode cX8_define 24 = .ok (.invokespecial 115, 3) := by decide +kernel
theorem dX8_define_27 : decode cX8_define 27 = .ok (.athrow, 1) := by decide +kernel
theorem dX8_define_28 : decode cX8_define 28 = .ok (.iload_n 3, 1) := by decide +kernel
theorem dX8_define_29 : decode cX8_define 29 = .ok (.ifCond .ne 24, 3) := by decide +kernel
theorem dX8_define_32 : decode cX8_define 32 = .ok (.aload 6, 2) := by decide +kernel
theorem dX8_define_34 : decode cX8_define 34 = .ok (.iload_n 2, 1) := by decide +kernel
theorem dX8_define_35 : decode cX8_define 35 = .ok (.iload 4, 2) := by decide +kernel
theorem dX8_define_37 : decode cX8_define 37 = .ok (.invokevirtual 118, 3) := by decide +kernel
theorem dX8_define_40 : decode cX8_define 40 = .ok (.ifCond .ne 13, 3) := by decide +kernel
theorem dX8_define_43 : decode cX8_define 43 = .ok (.new 122, 3) := by decide +kernel
theorem dX8_define_46 : decode cX8_define 46 = .ok (.dup, 1) := by decide +kernel
theorem dX8_define_47 : decode cX8_define 47 = .ok (.ldc 124, 2) := by decide +kernel
theorem dX8_define_49 : decode cX8_define 49 = .ok (.invokespecial 126, 3) := by decide +kernel
theorem dX8_define_52 : decode cX8_define 52 = .ok (.athrow, 1) := by decide +kernel
theorem dX8_define_53 : decode cX8_define 53 = .ok (.aload 6, 2) := by decide +kernel
theorem dX8_define_55 : decode cX8_define 55 = .ok (.iload_n 2, 1) := by decide +kernel
theorem dX8_define_56 : decode cX8_define 56 = .ok (.iload 5, 2) := by decide +kernel
theorem dX8_define_58 : decode cX8_define 58 = .ok (.invokevirtual 127, 3) := by decide +kernel
theorem dX8_define_61 : decode cX8_define 61 = .ok (.ifCond .ne 13, 3) := by decide +kernel
theorem dX8_define_64 : decode cX8_define 64 = .ok (.new 122, 3) := by decide +kernel
theorem dX8_define_67 : decode cX8_define 67 = .ok (.dup, 1) := by decide +kernel
theorem dX8_define_68 : decode cX8_define 68 = .ok (.ldc 130, 2) := by decide +kernel
theorem dX8_define_70 : decode cX8_define 70 = .ok (.invokespecial 126, 3) := by decide +kernel
theorem dX8_define_73 : decode cX8_define 73 = .ok (.athrow, 1) := by decide +kernel
theorem dX8_define_74 : decode cX8_define 74 = .ok (.aload 6, 2) := by decide +kernel
theorem dX8_define_76 : decode cX8_define 76 = .ok (.iload_n 2, 1) := by decide +kernel
theorem dX8_define_77 : decode cX8_define 77 = .ok (.invokevirtual 132, 3) := by decide +kernel
theorem dX8_define_80 : decode cX8_define 80 = .ok (.ifCond .eq 13, 3) := by decide +kernel
theorem dX8_define_83 : decode cX8_define 83 = .ok (.new 136, 3) := by decide +kernel
theorem dX8_define_86 : decode cX8_define 86 = .ok (.dup, 1) := by decide +kernel
theorem dX8_define_87 : decode cX8_define 87 = .ok (.ldc 138, 2) := by decide +kernel
theorem dX8_define_89 : decode cX8_define 89 = .ok (.invokespecial 140, 3) := by decide +kernel
theorem dX8_define_92 : decode cX8_define 92 = .ok (.athrow, 1) := by decide +kernel
theorem dX8_define_93 : decode cX8_define 93 = .ok (.aload_n 0, 1) := by decide +kernel
theorem dX8_define_94 : decode cX8_define 94 = .ok (.invokevirtual 141, 3) := by decide +kernel
theorem dX8_define_97 : decode cX8_define 97 = .ok (.aload 6, 2) := by decide +kernel
theorem dX8_define_99 : decode cX8_define 99 = .ok (.iload_n 2, 1) := by decide +kernel
theorem dX8_define_100 : decode cX8_define 100 = .ok (.iload_n 3, 1) := by decide +kernel
theorem dX8_define_101 : decode cX8_define 101 = .ok (.iload_n 3, 1) := by decide +kernel
theorem dX8_define_102 : decode cX8_define 102 = .ok (.ifCond .eq 7, 3) := by decide +kernel
theorem dX8_define_105 : decode cX8_define 105 = .ok (.iconst 0, 1) := by decide +kernel
theorem dX8_define_106 : decode cX8_define 106 = .ok (.goto 5, 3) := by decide +kernel
theorem dX8_define_109 : decode cX8_define 109 = .ok (.iload 4, 2) := by decide +kernel
theorem dX8_define_111 : decode cX8_define 111 = .ok (.iload 5, 2) := by decide +kernel
theorem dX8_define_113 : decode cX8_define 113 = .ok (.invokevirtual 80, 3) := by decide +kernel
theorem dX8_define_116 : decode cX8_define 116 = .ok (.aload 6, 2) := by decide +kernel
theorem dX8_define_118 : decode cX8_define 118 = .ok (.getfield 144, 3) := by decide +kernel
theorem dX8_define_121 : decode cX8_define 121 = .ok (.invokestatic 147, 3) := by decide +kernel
theorem dX8_define_124 : decode cX8_define 124 = .ok (.ireturn, 1) := by decide +kernel
theorem dX8_isType_0 : decode cX8_isType 0 = .ok (.iload_n 0, 1) := by decide +kernel
theorem dX8_isType_1 : decode cX8_isType 1 = .ok (.iconst (-1), 1) := by decide +kernel
theorem dX8_isType_2 : decode cX8_isType 2 = .ok (.if_icmp .lt 13, 3) := by decide +kernel
theorem dX8_isType_5 : decode cX8_isType 5 = .ok (.iload_n 0, 1) := by decide +kernel
theorem dX8_isType_6 : decode cX8_isType 6 = .ok (.bipush 10, 2) := by decide +kernel
theorem dX8_isType_8 : decode cX8_isType 8 = .ok (.if_icmp .ge 7, 3) := by decide +kernel
theorem dX8_isType_11 : decode cX8_isType 11 = .ok (.iconst 1, 1) := by decide +kernel
theorem dX8_isType_12 : decode cX8_isType 12 = .ok (.goto 4, 3) := by decide +kernel
theorem dX8_isType_15 : decode cX8_isType 15 = .ok (.iconst 0, 1) := by decide +kernel
theorem dX8_isType_16 : decode cX8_isType 16 = .ok (.ireturn, 1) := by decide +kernel
theorem dX8_draft_0 : decode cX8_draft 0 = .ok (.iload_n 2, 1) := by decide +kernel
theorem dX8_draft_1 : decode cX8_draft 1 = .ok (.ifCond .lt 8, 3) := by decide +kernel
theorem dX8_draft_4 : decode cX8_draft 4 = .ok (.iload_n 2, 1) := by decide +kernel
theorem dX8_draft_5 : decode cX8_draft 5 = .ok (.iconst 2, 1) := by decide +kernel
theorem dX8_draft_6 : decode cX8_draft 6 = .ok (.if_icmp .le 13, 3) := by decide +kernel
theorem dX8_draft_9 : decode cX8_draft 9 = .ok (.new 122, 3) := by decide +kernel
theorem dX8_draft_12 : decode cX8_draft 12 = .ok (.dup, 1) := by decide +kernel
theorem dX8_draft_13 : decode cX8_draft 13 = .ok (.ldc 206, 2) := by decide +kernel
theorem dX8_draft_15 : decode cX8_draft 15 = .ok (.invokespecial 126, 3) := by decide +kernel
theorem dX8_draft_18 : decode cX8_draft 18 = .ok (.athrow, 1) := by decide +kernel
theorem dX8_draft_19 : decode cX8_draft 19 = .ok (.iload_n 1, 1) := by decide +kernel
theorem dX8_draft_20 : decode cX8_draft 20 = .ok (.invokestatic 208, 3) := by decide +kernel
theorem dX8_draft_23 : decode cX8_draft 23 = .ok (.ifCond .eq 28, 3) := by decide +kernel
theorem dX8_draft_26 : decode cX8_draft 26 = .ok (.iload_n 2, 1) := by decide +kernel
theorem dX8_draft_27 : decode cX8_draft 27 = .ok (.iconst 1, 1) := by decide +kernel
theorem dX8_draft_28 : decode cX8_draft 28 = .ok (.if_icmp .lt 10, 3) := by decide +kernel
theorem dX8_draft_31 : decode cX8_draft 31 = .ok (.iload_n 3, 1) := by decide +kernel
theorem dX8_draft_32 : decode cX8_draft 32 = .ok (.invokestatic 208, 3) := by decide +kernel
theorem dX8_draft_35 : decode cX8_draft 35 = .ok (.ifCond .eq 16, 3) := by decide +kernel
theorem dX8_draft_38 : decode cX8_draft 38 = .ok (.iload_n 2, 1) := by decide +kernel
theorem dX8_draft_39 : decode cX8_draft 39 = .ok (.iconst 2, 1) := by decide +kernel
theorem dX8_draft_40 : decode cX8_draft 40 = .ok (.if_icmp .lt 21, 3) := by decide +kernel
theorem dX8_draft_43 : decode cX8_draft 43 = .ok (.iload 4, 2) := by decide +kernel
theorem dX8_draft_45 : decode cX8_draft 45 = .ok (.invokestatic 208, 3) := by decide +kernel
theorem dX8_draft_48 : decode cX8_draft 48 = .ok (.ifCond .ne 13, 3) := by decide +kernel
theorem dX8_draft_51 : decode cX8_draft 51 = .ok (.new 122, 3) := by decide +kernel
theorem dX8_draft_54 : decode cX8_draft 54 = .ok (.dup, 1) := by decide +kernel
theorem dX8_draft_55 : decode cX8_draft 55 = .ok (.ldc 211, 2) := by decide +kernel
theorem dX8_draft_57 : decode cX8_draft 57 = .ok (.invokespecial 126, 3) := by decide +kernel
theorem dX8_draft_60 : decode cX8_draft 60 = .ok (.athrow, 1) := by decide +kernel
theorem dX8_draft_61 : decode cX8_draft 61 = .ok (.aload_n 0, 1) := by decide +kernel
theorem dX8_draft_62 : decode cX8_draft 62 = .ok (.getfield 30, 3) := by decide +kernel
theorem dX8_draft_65 : decode cX8_draft 65 = .ok (.getfield 213, 3) := by decide +kernel
theorem dX8_draft_68 : decode cX8_draft 68 = .ok (.istore 5, 2) := by decide +kernel
theorem dX8_draft_70 : decode cX8_draft 70 = .ok (.aload_n 0, 1) := by decide +kernel
theorem dX8_draft_71 : decode cX8_draft 71 = .ok (.getfield 30, 3) := by decide +kernel
theorem dX8_draft_74 : decode cX8_draft 74 = .ok (.iload_n 1, 1) := by decide +kernel
theorem dX8_draft_75 : decode cX8_draft 75 = .ok (.iload_n 2, 1) := by decide +kernel
theorem dX8_draft_76 : decode cX8_draft 76 = .ok (.iload_n 3, 1) := by decide +kernel
theorem dX8_draft_77 : decode cX8_draft 77 = .ok (.iload 4, 2) := by decide +kernel
theorem dX8_draft_79 : decode cX8_draft 79 = .ok (.invokevirtual 95, 3) := by decide +kernel
theorem dX8_draft_82 : decode cX8_draft 82 = .ok (.iload 5, 2) := by decide +kernel
theorem dX8_draft_84 : decode cX8_draft 84 = .ok (.ireturn, 1) := by decide +kernel
theorem dX8_exists_0 : decode cX8_exists 0 = .ok (.aload_n 0, 1) := by decide +kernel
theorem dX8_exists_1 : decode cX8_exists 1 = .ok (.iload_n 1, 1) := by decide +kernel
theorem dX8_exists_2 : decode cX8_exists 2 = .ok (.invokevirtual 107, 3) := by decide +kernel
theorem dX8_exists_5 : decode cX8_exists 5 = .ok (.astore_n 3, 1) := by decide +kernel
theorem dX8_exists_6 : decode cX8_exists 6 = .ok (.iload_n 2, 1) := by decide +kernel
theorem dX8_exists_7 : decode cX8_exists 7 = .ok (.ifCond .lt 9, 3) := by decide +kernel
theorem dX8_exists_10 : decode cX8_exists 10 = .ok (.iload_n 2, 1) := by decide +kernel
theorem dX8_exists_11 : decode cX8_exists 11 = .ok (.bipush 10, 2) := by decide +kernel
theorem dX8_exists_13 : decode cX8_exists 13 = .ok (.if_icmp .lt 13, 3) := by decide +kernel
theorem dX8_exists_16 : decode cX8_exists 16 = .ok (.new 111, 3) := by decide +kernel
theorem dX8_exists_19 : decode cX8_exists 19 = .ok (.dup, 1) := by decide +kernel
theorem dX8_exists_20 : decode cX8_exists 20 = .ok (.ldc 198, 2) := by decide +kernel
theorem dX8_exists_22 : decode cX8_exists 22 = .ok (.invokespecial 115, 3) := by decide +kernel
theorem dX8_exists_25 : decode cX8_exists 25 = .ok (.athrow, 1) := by decide +kernel
theorem dX8_exists_26 : decode cX8_exists 26 = .ok (.aload_n 3, 1) := by decide +kernel
theorem dX8_exists_27 : decode cX8_exists 27 = .ok (.iload_n 2, 1) := by decide +kernel
theorem dX8_exists_28 : decode cX8_exists 28 = .ok (.invokevirtual 132, 3) := by decide +kernel
theorem dX8_exists_31 : decode cX8_exists 31 = .ok (.ireturn, 1) := by decide +kernel
theorem dX8_requireName_0 : decode cX8_requireName 0 = .ok (.iload_n 0, 1) := by decide +kernel
theorem dX8_requireName_1 : decode cX8_requireName 1 = .ok (.invokestatic 216, 3) := by decide +kernel
theorem dX8_requireName_4 : decode cX8_requireName 4 = .ok (.ifCond .ne 14, 3) := by decide +kernel
theorem dX8_requireName_7 : decode cX8_requireName 7 = .ok (.new 122, 3) := by decide +kernel
theorem dX8_requireName_10 : decode cX8_requireName 10 = .ok (.dup, 1) := by decide +kernel
theorem dX8_requireName_11 : decode cX8_requireName 11 = .ok (.ldc_w 342, 3) := by decide +kernel
theorem dX8_requireName_14 : decode cX8_requireName 14 = .ok (.invokespecial 126, 3) := by decide +kernel
theorem dX8_requireName_17 : decode cX8_requireName 17 = .ok (.athrow, 1) := by decide +kernel
theorem dX8_requireName_18 : decode cX8_requireName 18 = .ok (.return_, 1) := by decide +kernel
theorem dX8_field_0 : decode cX8_field 0 = .ok (.aload_n 0, 1) := by decide +kernel
theorem dX8_field_1 : decode cX8_field 1 = .ok (.iload_n 1, 1) := by decide +kernel
theorem dX8_field_2 : decode cX8_field 2 = .ok (.iload_n 2, 1) := by decide +kernel
theorem dX8_field_3 : decode cX8_field 3 = .ok (.invokevirtual 153, 3) := by decide +kernel
theorem dX8_field_6 : decode cX8_field 6 = .ok (.astore 4, 2) := by decide +kernel
theorem dX8_field_8 : decode cX8_field 8 = .ok (.iload_n 3, 1) := by decide +kernel
theorem dX8_field_9 : decode cX8_field 9 = .ok (.invokestatic 306, 3) := by decide +kernel
theorem dX8_field_12 : decode cX8_field 12 = .ok (.aload 4, 2) := by decide +kernel
theorem dX8_field_14 : decode cX8_field 14 = .ok (.iload_n 2, 1) := by decide +kernel
theorem dX8_field_15 : decode cX8_field 15 = .ok (.iload_n 3, 1) := by decide +kernel
theorem dX8_field_16 : decode cX8_field 16 = .ok (.aload_n 0, 1) := by decide +kernel
theorem dX8_field_17 : decode cX8_field 17 = .ok (.getfield 30, 3) := by decide +kernel
theorem dX8_field_20 : decode cX8_field 20 = .ok (.getfield 309, 3) := by decide +kernel
theorem dX8_field_23 : decode cX8_field 23 = .ok (.invokevirtual 312, 3) := by decide +kernel
theorem dX8_field_26 : decode cX8_field 26 = .ok (.ireturn, 1) := by decide +kernel
theorem dX8_fits_0 : decode cX8_fits 0 = .ok (.aload_n 0, 1) := by decide +kernel
theorem dX8_fits_1 : decode cX8_fits 1 = .ok (.iload_n 1, 1) := by decide +kernel
theorem dX8_fits_2 : decode cX8_fits 2 = .ok (.invokevirtual 107, 3) := by decide +kernel
theorem dX8_fits_5 : decode cX8_fits 5 = .ok (.astore 4, 2) := by decide +kernel
theorem dX8_fits_7 : decode cX8_fits 7 = .ok (.iload_n 2, 1) := by decide +kernel
theorem dX8_fits_8 : decode cX8_fits 8 = .ok (.invokestatic 208, 3) := by decide +kernel
theorem dX8_fits_11 : decode cX8_fits 11 = .ok (.ifCond .eq 10, 3) := by decide +kernel
theorem dX8_fits_14 : decode cX8_fits 14 = .ok (.iload_n 3, 1) := by decide +kernel
theorem dX8_fits_15 : decode cX8_fits 15 = .ok (.invokestatic 208, 3) := by decide +kernel
theorem dX8_fits_18 : decode cX8_fits 18 = .ok (.ifCond .ne 13, 3) := by decide +kernel
theorem dX8_fits_21 : decode cX8_fits 21 = .ok (.new 122, 3) := by decide +kernel
theorem dX8_fits_24 : decode cX8_fits 24 = .ok (.dup, 1) := by decide +kernel
theorem dX8_fits_25 : decode cX8_fits 25 = .ok (.ldc 211, 2) := by decide +kernel
theorem dX8_fits_27 : decode cX8_fits 27 = .ok (.invokespecial 126, 3) := by decide +kernel
theorem dX8_fits_30 : decode cX8_fits 30 = .ok (.athrow, 1) := by decide +kernel
theorem dX8_fits_31 : decode cX8_fits 31 = .ok (.aload 4, 2) := by decide +kernel
theorem dX8_fits_33 : decode cX8_fits 33 = .ok (.iload_n 2, 1) := by decide +kernel
theorem dX8_fits_34 : decode cX8_fits 34 = .ok (.iload_n 3, 1) := by decide +kernel
theorem dX8_fits_35 : decode cX8_fits 35 = .ok (.invokevirtual 303, 3) := by decide +kernel
theorem dX8_fits_38 : decode cX8_fits 38 = .ok (.ireturn, 1) := by decide +kernel
theorem dX8_init_0 : decode cX8_init 0 = .ok (.aload_n 0, 1) := by decide +kernel
theorem dX8_init_1 : decode cX8_init 1 = .ok (.invokespecial 1, 3) := by decide +kernel
theorem dX8_init_4 : decode cX8_init 4 = .ok (.aload_n 0, 1) := by decide +kernel
theorem dX8_init_5 : decode cX8_init 5 = .ok (.new 7, 3) := by decide +kernel
theorem dX8_init_8 : decode cX8_init 8 = .ok (.dup, 1) := by decide +kernel
theorem dX8_init_9 : decode cX8_init 9 = .ok (.invokespecial 9, 3) := by decide +kernel
theorem dX8_init_12 : decode cX8_init 12 = .ok (.putfield 10, 3) := by decide +kernel
theorem dX8_init_15 : decode cX8_init 15 = .ok (.aload_n 0, 1) := by decide +kernel
theorem dX8_init_16 : decode cX8_init 16 = .ok (.iconst 5, 1) := by decide +kernel
theorem dX8_init_17 : decode cX8_init 17 = .ok (.anewarray 7, 3) := by decide +kernel
theorem dX8_init_20 : decode cX8_init 20 = .ok (.putfield 16, 3) := by decide +kernel
theorem dX8_init_23 : decode cX8_init 23 = .ok (.iconst 0, 1) := by decide +kernel
theorem dX8_init_24 : decode cX8_init 24 = .ok (.istore_n 1, 1) := by decide +kernel
theorem dX8_init_25 : decode cX8_init 25 = .ok (.iload_n 1, 1) := by decide +kernel
theorem dX8_init_26 : decode cX8_init 26 = .ok (.iconst 5, 1) := by decide +kernel
theorem dX8_init_27 : decode cX8_init 27 = .ok (.if_icmp .ge 22, 3) := by decide +kernel
theorem dX8_init_30 : decode cX8_init 30 = .ok (.aload_n 0, 1) := by decide +kernel
theorem dX8_init_31 : decode cX8_init 31 = .ok (.getfield 16, 3) := by decide +kernel
theorem dX8_init_34 : decode cX8_init 34 = .ok (.iload_n 1, 1) := by decide +kernel
theorem dX8_init_35 : decode cX8_init 35 = .ok (.new 7, 3) := by decide +kernel
theorem dX8_init_38 : decode cX8_init 38 = .ok (.dup, 1) := by decide +kernel
theorem dX8_init_39 : decode cX8_init 39 = .ok (.invokespecial 9, 3) := by decide +kernel
theorem dX8_init_42 : decode cX8_init 42 = .ok (.aastore, 1) := by decide +kernel
theorem dX8_init_43 : decode cX8_init 43 = .ok (.iinc 1 1, 3) := by decide +kernel
theorem dX8_init_46 : decode cX8_init 46 = .ok (.goto (-21), 3) := by decide +kernel
theorem dX8_init_49 : decode cX8_init 49 = .ok (.aload_n 0, 1) := by decide +kernel
theorem dX8_init_50 : decode cX8_init 50 = .ok (.iconst 0, 1) := by decide +kernel
theorem dX8_init_51 : decode cX8_init 51 = .ok (.putfield 20, 3) := by decide +kernel
theorem dX8_init_54 : decode cX8_init 54 = .ok (.aload_n 0, 1) := by decide +kernel
theorem dX8_init_55 : decode cX8_init 55 = .ok (.iconst 0, 1) := by decide +kernel
theorem dX8_init_56 : decode cX8_init 56 = .ok (.putfield 24, 3) := by decide +kernel
theorem dX8_init_59 : decode cX8_init 59 = .ok (.aload_n 0, 1) := by decide +kernel
theorem dX8_init_60 : decode cX8_init 60 = .ok (.new 27, 3) := by decide +kernel
theorem dX8_init_63 : decode cX8_init 63 = .ok (.dup, 1) := by decide +kernel
theorem dX8_init_64 : decode cX8_init 64 = .ok (.invokespecial 29, 3) := by decide +kernel
theorem dX8_init_67 : decode cX8_init 67 = .ok (.putfield 30, 3) := by decide +kernel
theorem dX8_init_70 : decode cX8_init 70 = .ok (.aload_n 0, 1) := by decide +kernel
theorem dX8_init_71 : decode cX8_init 71 = .ok (.new 34, 3) := by decide +kernel
theorem dX8_init_74 : decode cX8_init 74 = .ok (.dup, 1) := by decide +kernel
theorem dX8_init_75 : decode cX8_init 75 = .ok (.invokespecial 36, 3) := by decide +kernel
theorem dX8_init_78 : decode cX8_init 78 = .ok (.putfield 37, 3) := by decide +kernel
theorem dX8_init_81 : decode cX8_init 81 = .ok (.aload_n 0, 1) := by decide +kernel
theorem dX8_init_82 : decode cX8_init 82 = .ok (.iconst 2, 1) := by decide +kernel
theorem dX8_init_83 : decode cX8_init 83 = .ok (.anewarray 41, 3) := by decide +kernel
theorem dX8_init_86 : decode cX8_init 86 = .ok (.putfield 43, 3) := by decide +kernel
theorem dX8_init_89 : decode cX8_init 89 = .ok (.aload_n 0, 1) := by decide +kernel
theorem dX8_init_90 : decode cX8_init 90 = .ok (.iconst 2, 1) := by decide +kernel
theorem dX8_init_91 : decode cX8_init 91 = .ok (.anewarray 47, 3) := by decide +kernel
theorem dX8_init_94 : decode cX8_init 94 = .ok (.putfield 49, 3) := by decide +kernel
theorem dX8_init_97 : decode cX8_init 97 = .ok (.iconst 0, 1) := by decide +kernel
theorem dX8_init_98 : decode cX8_init 98 = .ok (.istore_n 1, 1) := by decide +kernel
theorem dX8_init_99 : decode cX8_init 99 = .ok (.iload_n 1, 1) := by decide +kernel
theorem dX8_init_100 : decode cX8_init 100 = .ok (.iconst 2, 1) := by decide +kernel
theorem dX8_init_101 : decode cX8_init 101 = .ok (.if_icmp .ge 53, 3) := by decide +kernel
theorem dX8_init_104 : decode cX8_init 104 = .ok (.aload_n 0, 1) := by decide +kernel
theorem dX8_init_105 : decode cX8_init 105 = .ok (.getfield 43, 3) := by decide +kernel
theorem dX8_init_108 : decode cX8_init 108 = .ok (.iload_n 1, 1) := by decide +kernel
theorem dX8_init_109 : decode cX8_init 109 = .ok (.new 41, 3) := by decide +kernel
theorem dX8_init_112 : decode cX8_init 112 = .ok (.dup, 1) := by decide +kernel
theorem dX8_init_113 : decode cX8_init 113 = .ok (.aload_n 0, 1) := by decide +kernel
theorem dX8_init_114 : decode cX8_init 114 = .ok (.getfield 10, 3) := by decide +kernel
theorem dX8_init_117 : decode cX8_init 117 = .ok (.getfield 53, 3) := by decide +kernel
theorem dX8_init_120 : decode cX8_init 120 = .ok (.iload_n 1, 1) := by decide +kernel
theorem dX8_init_121 : decode cX8_init 121 = .ok (.aaload, 1) := by decide +kernel
theorem dX8_init_122 : decode cX8_init 122 = .ok (.invokespecial 57, 3) := by decide +kernel
theorem dX8_init_125 : decode cX8_init 125 = .ok (.aastore, 1) := by decide +kernel
theorem dX8_init_126 : decode cX8_init 126 = .ok (.aload_n 0, 1) := by decide +kernel
theorem dX8_init_127 : decode cX8_init 127 = .ok (.getfield 49, 3) := by decide +kernel
theorem dX8_init_130 : decode cX8_init 130 = .ok (.iload_n 1, 1) := by decide +kernel
theorem dX8_init_131 : decode cX8_init 131 = .ok (.new 47, 3) := by decide +kernel
theorem dX8_init_134 : decode cX8_init 134 = .ok (.dup, 1) := by decide +kernel
theorem dX8_init_135 : decode cX8_init 135 = .ok (.aload_n 0, 1) := by decide +kernel
theorem dX8_init_136 : decode cX8_init 136 = .ok (.getfield 10, 3) := by decide +kernel
theorem dX8_init_139 : decode cX8_init 139 = .ok (.getfield 53, 3) := by decide +kernel
theorem dX8_init_142 : decode cX8_init 142 = .ok (.iload_n 1, 1) := by decide +kernel
theorem dX8_init_143 : decode cX8_init 143 = .ok (.aaload, 1) := by decide +kernel
theorem dX8_init_144 : decode cX8_init 144 = .ok (.invokespecial 60, 3) := by decide +kernel
theorem dX8_init_147 : decode cX8_init 147 = .ok (.aastore, 1) := by decide +kernel
theorem dX8_init_148 : decode cX8_init 148 = .ok (.iinc 1 1, 3) := by decide +kernel
theorem dX8_init_151 : decode cX8_init 151 = .ok (.goto (-52), 3) := by decide +kernel
theorem dX8_init_154 : decode cX8_init 154 = .ok (.aload_n 0, 1) := by decide +kernel
theorem dX8_init_155 : decode cX8_init 155 = .ok (.getfield 10, 3) := by decide +kernel
theorem dX8_init_158 : decode cX8_init 158 = .ok (.getfield 53, 3) := by decide +kernel
theorem dX8_init_161 : decode cX8_init 161 = .ok (.iconst 0, 1) := by decide +kernel
theorem dX8_init_162 : decode cX8_init 162 = .ok (.aaload, 1) := by decide +kernel
theorem dX8_init_163 : decode cX8_init 163 = .ok (.invokestatic 61, 3) := by decide +kernel
theorem dX8_init_166 : decode cX8_init 166 = .ok (.aload_n 0, 1) := by decide +kernel
theorem dX8_init_167 : decode cX8_init 167 = .ok (.getfield 10, 3) := by decide +kernel
theorem dX8_init_170 : decode cX8_init 170 = .ok (.getfield 53, 3) := by decide +kernel
theorem dX8_init_173 : decode cX8_init 173 = .ok (.iconst 0, 1) := by decide +kernel
theorem dX8_init_174 : decode cX8_init 174 = .ok (.aaload, 1) := by decide +kernel
theorem dX8_init_175 : decode cX8_init 175 = .ok (.getfield 64, 3) := by decide +kernel
theorem dX8_init_178 : decode cX8_init 178 = .ok (.invokestatic 70, 3) := by decide +kernel
theorem dX8_init_181 : decode cX8_init 181 = .ok (.aload_n 0, 1) := by decide +kernel
theorem dX8_init_182 : decode cX8_init 182 = .ok (.getfield 10, 3) := by decide +kernel
theorem dX8_init_185 : decode cX8_init 185 = .ok (.getfield 53, 3) := by decide +kernel
theorem dX8_init_188 : decode cX8_init 188 = .ok (.iconst 1, 1) := by decide +kernel
theorem dX8_init_189 : decode cX8_init 189 = .ok (.aaload, 1) := by decide +kernel
theorem dX8_init_190 : decode cX8_init 190 = .ok (.aload_n 0, 1) := by decide +kernel
theorem dX8_init_191 : decode cX8_init 191 = .ok (.getfield 10, 3) := by decide +kernel
theorem dX8_init_194 : decode cX8_init 194 = .ok (.getfield 53, 3) := by decide +kernel
theorem dX8_init_197 : decode cX8_init 197 = .ok (.iconst 0, 1) := by decide +kernel
theorem dX8_init_198 : decode cX8_init 198 = .ok (.aaload, 1) := by decide +kernel
theorem dX8_init_199 : decode cX8_init 199 = .ok (.invokevirtual 74, 3) := by decide +kernel
theorem dX8_init_202 : decode cX8_init 202 = .ok (.aload_n 0, 1) := by decide +kernel
theorem dX8_init_203 : decode cX8_init 203 = .ok (.invokevirtual 77, 3) := by decide +kernel
theorem dX8_init_206 : decode cX8_init 206 = .ok (.return_, 1) := by decide +kernel
theorem dX8_isClassValue_0 : decode cX8_isClassValue 0 = .ok (.iload_n 2, 1) := by decide +kernel
theorem dX8_isClassValue_1 : decode cX8_isClassValue 1 = .ok (.tableswitch 99 0 5 #[39, 39, 39, 54, 69, 92], 39) := by decide +kernel
theorem dX8_isClassValue_40 : decode cX8_isClassValue 40 = .ok (.iload_n 3, 1) := by decide +kernel
theorem dX8_isClassValue_41 : decode cX8_isClassValue 41 = .ok (.ifCond .eq 8, 3) := by decide +kernel
theorem dX8_isClassValue_44 : decode cX8_isClassValue 44 = .ok (.iload_n 3, 1) := by decide +kernel
theorem dX8_isClassValue_45 : decode cX8_isClassValue 45 = .ok (.iconst 1, 1) := by decide +kernel
theorem dX8_isClassValue_46 : decode cX8_isClassValue 46 = .ok (.if_icmp .ne 7, 3) := by decide +kernel
theorem dX8_isClassValue_49 : decode cX8_isClassValue 49 = .ok (.iconst 1, 1) := by decide +kernel
theorem dX8_isClassValue_50 : decode cX8_isClassValue 50 = .ok (.goto 4, 3) := by decide +kernel
theorem dX8_isClassValue_53 : decode cX8_isClassValue 53 = .ok (.iconst 0, 1) := by decide +kernel
theorem dX8_isClassValue_54 : decode cX8_isClassValue 54 = .ok (.ireturn, 1) := by decide +kernel
theorem dX8_isClassValue_55 : decode cX8_isClassValue 55 = .ok (.iload_n 3, 1) := by decide +kernel
theorem dX8_isClassValue_56 : decode cX8_isClassValue 56 = .ok (.ifCond .lt 12, 3) := by decide +kernel
theorem dX8_isClassValue_59 : decode cX8_isClassValue 59 = .ok (.iload_n 3, 1) := by decide +kernel
theorem dX8_isClassValue_60 : decode cX8_isClassValue 60 = .ok (.iconst 4, 1) := by decide +kernel
theorem dX8_isClassValue_61 : decode cX8_isClassValue 61 = .ok (.if_icmp .ge 7, 3) := by decide +kernel
theorem dX8_isClassValue_64 : decode cX8_isClassValue 64 = .ok (.iconst 1, 1) := by decide +kernel
theorem dX8_isClassValue_65 : decode cX8_isClassValue 65 = .ok (.goto 4, 3) := by decide +kernel
theorem dX8_isClassValue_68 : decode cX8_isClassValue 68 = .ok (.iconst 0, 1) := by decide +kernel
theorem dX8_isClassValue_69 : decode cX8_isClassValue 69 = .ok (.ireturn, 1) := by decide +kernel
theorem dX8_isClassValue_70 : decode cX8_isClassValue 70 = .ok (.aload_n 0, 1) := by decide +kernel
theorem dX8_isClassValue_71 : decode cX8_isClassValue 71 = .ok (.iload_n 1, 1) := by decide +kernel
theorem dX8_isClassValue_72 : decode cX8_isClassValue 72 = .ok (.invokevirtual 182, 3) := by decide +kernel
theorem dX8_isClassValue_75 : decode cX8_isClassValue 75 = .ok (.ifCond .ne 12, 3) := by decide +kernel
theorem dX8_isClassValue_78 : decode cX8_isClassValue 78 = .ok (.aload_n 0, 1) := by decide +kernel
theorem dX8_isClassValue_79 : decode cX8_isClassValue 79 = .ok (.iload_n 1, 1) := by decide +kernel
theorem dX8_isClassValue_80 : decode cX8_isClassValue 80 = .ok (.iload_n 3, 1) := by decide +kernel
theorem dX8_isClassValue_81 : decode cX8_isClassValue 81 = .ok (.invokevirtual 118, 3) := by decide +kernel
theorem dX8_isClassValue_84 : decode cX8_isClassValue 84 = .ok (.ifCond .eq 7, 3) := by decide +kernel
theorem dX8_isClassValue_87 : decode cX8_isClassValue 87 = .ok (.iconst 1, 1) := by decide +kernel
theorem dX8_isClassValue_88 : decode cX8_isClassValue 88 = .ok (.goto 4, 3) := by decide +kernel
theorem dX8_isClassValue_91 : decode cX8_isClassValue 91 = .ok (.iconst 0, 1) := by decide +kernel
theorem dX8_isClassValue_92 : decode cX8_isClassValue 92 = .ok (.ireturn, 1) := by decide +kernel
theorem dX8_isClassValue_93 : decode cX8_isClassValue 93 = .ok (.aload_n 0, 1) := by decide +kernel
theorem dX8_isClassValue_94 : decode cX8_isClassValue 94 = .ok (.iload_n 1, 1) := by decide +kernel
theorem dX8_isClassValue_95 : decode cX8_isClassValue 95 = .ok (.iload_n 3, 1) := by decide +kernel
theorem dX8_isClassValue_96 : decode cX8_isClassValue 96 = .ok (.invokevirtual 127, 3) := by decide +kernel
theorem dX8_isClassValue_99 : decode cX8_isClassValue 99 = .ok (.ireturn, 1) := by decide +kernel
theorem dX8_isClassValue_100 : decode cX8_isClassValue 100 = .ok (.iconst 0, 1) := by decide +kernel
theorem dX8_isClassValue_101 : decode cX8_isClassValue 101 = .ok (.ireturn, 1) := by decide +kernel
theorem dX8_isConstantValue_0 : decode cX8_isConstantValue 0 = .ok (.iload_n 0, 1) := by decide +kernel
theorem dX8_isConstantValue_1 : decode cX8_isConstantValue 1 = .ok (.bipush (-99), 2) := by decide +kernel
theorem dX8_isConstantValue_3 : decode cX8_isConstantValue 3 = .ok (.if_icmp .lt 13, 3) := by decide +kernel
theorem dX8_isConstantValue_6 : decode cX8_isConstantValue 6 = .ok (.iload_n 0, 1) := by decide +kernel
theorem dX8_isConstantValue_7 : decode cX8_isConstantValue 7 = .ok (.bipush 99, 2) := by decide +kernel
theorem dX8_isConstantValue_9 : decode cX8_isConstantValue 9 = .ok (.if_icmp .gt 7, 3) := by decide +kernel
theorem dX8_isConstantValue_12 : decode cX8_isConstantValue 12 = .ok (.iconst 1, 1) := by decide +kernel
theorem dX8_isConstantValue_13 : decode cX8_isConstantValue 13 = .ok (.goto 4, 3) := by decide +kernel
theorem dX8_isConstantValue_16 : decode cX8_isConstantValue 16 = .ok (.iconst 0, 1) := by decide +kernel
theorem dX8_isConstantValue_17 : decode cX8_isConstantValue 17 = .ok (.ireturn, 1) := by decide +kernel
theorem dX8_isMemberValue_0 : decode cX8_isMemberValue 0 = .ok (.aload_n 0, 1) := by decide +kernel
theorem dX8_isMemberValue_1 : decode cX8_isMemberValue 1 = .ok (.getfield 64, 3) := by decide +kernel
theorem dX8_isMemberValue_4 : decode cX8_isMemberValue 4 = .ok (.astore 4, 2) := by decide +kernel
theorem dX8_isMemberValue_6 : decode cX8_isMemberValue 6 = .ok (.aload 4, 2) := by decide +kernel
theorem dX8_isMemberValue_8 : decode cX8_isMemberValue 8 = .ok (.getfield 266, 3) := by decide +kernel
theorem dX8_isMemberValue_11 : decode cX8_isMemberValue 11 = .ok (.iload_n 1, 1) := by decide +kernel
theorem dX8_isMemberValue_12 : decode cX8_isMemberValue 12 = .ok (.iaload, 1) := by decide +kernel
theorem dX8_isMemberValue_13 : decode cX8_isMemberValue 13 = .ok (.istore 5, 2) := by decide +kernel
theorem dX8_isMemberValue_15 : decode cX8_isMemberValue 15 = .ok (.aload 4, 2) := by decide +kernel
theorem dX8_isMemberValue_17 : decode cX8_isMemberValue 17 = .ok (.getfield 270, 3) := by decide +kernel
theorem dX8_isMemberValue_20 : decode cX8_isMemberValue 20 = .ok (.iload_n 1, 1) := by decide +kernel
theorem dX8_isMemberValue_21 : decode cX8_isMemberValue 21 = .ok (.iaload, 1) := by decide +kernel
theorem dX8_isMemberValue_22 : decode cX8_isMemberValue 22 = .ok (.ifCond .ne 7, 3) := by decide +kernel
theorem dX8_isMemberValue_25 : decode cX8_isMemberValue 25 = .ok (.iconst 1, 1) := by decide +kernel
theorem dX8_isMemberValue_26 : decode cX8_isMemberValue 26 = .ok (.goto 4, 3) := by decide +kernel
theorem dX8_isMemberValue_29 : decode cX8_isMemberValue 29 = .ok (.iconst 0, 1) := by decide +kernel
theorem dX8_isMemberValue_30 : decode cX8_isMemberValue 30 = .ok (.istore 6, 2) := by decide +kernel
theorem dX8_isMemberValue_32 : decode cX8_isMemberValue 32 = .ok (.aload 4, 2) := by decide +kernel
theorem dX8_isMemberValue_34 : decode cX8_isMemberValue 34 = .ok (.getfield 273, 3) := by decide +kernel
theorem dX8_isMemberValue_37 : decode cX8_isMemberValue 37 = .ok (.iload_n 1, 1) := by decide +kernel
theorem dX8_isMemberValue_38 : decode cX8_isMemberValue 38 = .ok (.iaload, 1) := by decide +kernel
theorem dX8_isMemberValue_39 : decode cX8_isMemberValue 39 = .ok (.istore 7, 2) := by decide +kernel
theorem dX8_isMemberValue_41 : decode cX8_isMemberValue 41 = .ok (.aload 4, 2) := by decide +kernel
theorem dX8_isMemberValue_43 : decode cX8_isMemberValue 43 = .ok (.getfield 276, 3) := by decide +kernel
theorem dX8_isMemberValue_46 : decode cX8_isMemberValue 46 = .ok (.iload_n 1, 1) := by decide +kernel
theorem dX8_isMemberValue_47 : decode cX8_isMemberValue 47 = .ok (.iaload, 1) := by decide +kernel
theorem dX8_isMemberValue_48 : decode cX8_isMemberValue 48 = .ok (.istore 8, 2) := by decide +kernel
theorem dX8_isMemberValue_50 : decode cX8_isMemberValue 50 = .ok (.iload_n 2, 1) := by decide +kernel
theorem dX8_isMemberValue_51 : decode cX8_isMemberValue 51 = .ok (.tableswitch 141 0 2 #[25, 70, 97], 25) := by decide +kernel
theorem dX8_isMemberValue_76 : decode cX8_isMemberValue 76 = .ok (.iload_n 3, 1) := by decide +kernel
theorem dX8_isMemberValue_77 : decode cX8_isMemberValue 77 = .ok (.invokestatic 219, 3) := by decide +kernel
theorem dX8_isMemberValue_80 : decode cX8_isMemberValue 80 = .ok (.ifCond .eq 39, 3) := by decide +kernel
theorem dX8_isMemberValue_83 : decode cX8_isMemberValue 83 = .ok (.iload 6, 2) := by decide +kernel
theorem dX8_isMemberValue_85 : decode cX8_isMemberValue 85 = .ok (.ifCond .eq 18, 3) := by decide +kernel
theorem dX8_isMemberValue_88 : decode cX8_isMemberValue 88 = .ok (.aload_n 0, 1) := by decide +kernel
theorem dX8_isMemberValue_89 : decode cX8_isMemberValue 89 = .ok (.iload 5, 2) := by decide +kernel
theorem dX8_isMemberValue_91 : decode cX8_isMemberValue 91 = .ok (.iload_n 3, 1) := by decide +kernel
theorem dX8_isMemberValue_92 : decode cX8_isMemberValue 92 = .ok (.iload 8, 2) := by decide +kernel
theorem dX8_isMemberValue_94 : decode cX8_isMemberValue 94 = .ok (.invokevirtual 222, 3) := by decide +kernel
theorem dX8_isMemberValue_97 : decode cX8_isMemberValue 97 = .ok (.ifCond .eq 22, 3) := by decide +kernel
theorem dX8_isMemberValue_100 : decode cX8_isMemberValue 100 = .ok (.goto 15, 3) := by decide +kernel
theorem dX8_isMemberValue_103 : decode cX8_isMemberValue 103 = .ok (.aload_n 0, 1) := by decide +kernel
theorem dX8_isMemberValue_104 : decode cX8_isMemberValue 104 = .ok (.iload 5, 2) := by decide +kernel
theorem dX8_isMemberValue_106 : decode cX8_isMemberValue 106 = .ok (.iload_n 3, 1) := by decide +kernel
theorem dX8_isMemberValue_107 : decode cX8_isMemberValue 107 = .ok (.iload 8, 2) := by decide +kernel
theorem dX8_isMemberValue_109 : decode cX8_isMemberValue 109 = .ok (.invokevirtual 236, 3) := by decide +kernel
theorem dX8_isMemberValue_112 : decode cX8_isMemberValue 112 = .ok (.ifCond .eq 7, 3) := by decide +kernel
theorem dX8_isMemberValue_115 : decode cX8_isMemberValue 115 = .ok (.iconst 1, 1) := by decide +kernel
theorem dX8_isMemberValue_116 : decode cX8_isMemberValue 116 = .ok (.goto 4, 3) := by decide +kernel
theorem dX8_isMemberValue_119 : decode cX8_isMemberValue 119 = .ok (.iconst 0, 1) := by decide +kernel
theorem dX8_isMemberValue_120 : decode cX8_isMemberValue 120 = .ok (.ireturn, 1) := by decide +kernel
theorem dX8_isMemberValue_121 : decode cX8_isMemberValue 121 = .ok (.iload 6, 2) := by decide +kernel
theorem dX8_isMemberValue_123 : decode cX8_isMemberValue 123 = .ok (.ifCond .eq 15, 3) := by decide +kernel
theorem dX8_isMemberValue_126 : decode cX8_isMemberValue 126 = .ok (.aload_n 0, 1) := by decide +kernel
theorem dX8_isMemberValue_127 : decode cX8_isMemberValue 127 = .ok (.iload 5, 2) := by decide +kernel
theorem dX8_isMemberValue_129 : decode cX8_isMemberValue 129 = .ok (.iload 7, 2) := by decide +kernel
theorem dX8_isMemberValue_131 : decode cX8_isMemberValue 131 = .ok (.iload_n 3, 1) := by decide +kernel
theorem dX8_isMemberValue_132 : decode cX8_isMemberValue 132 = .ok (.invokevirtual 222, 3) := by decide +kernel
theorem dX8_isMemberValue_135 : decode cX8_isMemberValue 135 = .ok (.goto 12, 3) := by decide +kernel
theorem dX8_isMemberValue_138 : decode cX8_isMemberValue 138 = .ok (.aload_n 0, 1) := by decide +kernel
theorem dX8_isMemberValue_139 : decode cX8_isMemberValue 139 = .ok (.iload 5, 2) := by decide +kernel
theorem dX8_isMemberValue_141 : decode cX8_isMemberValue 141 = .ok (.iload 7, 2) := by decide +kernel
theorem dX8_isMemberValue_143 : decode cX8_isMemberValue 143 = .ok (.iload_n 3, 1) := by decide +kernel
theorem dX8_isMemberValue_144 : decode cX8_isMemberValue 144 = .ok (.invokevirtual 236, 3) := by decide +kernel
theorem dX8_isMemberValue_147 : decode cX8_isMemberValue 147 = .ok (.ireturn, 1) := by decide +kernel
theorem dX8_isMemberValue_148 : decode cX8_isMemberValue 148 = .ok (.iload 6, 2) := by decide +kernel
theorem dX8_isMemberValue_150 : decode cX8_isMemberValue 150 = .ok (.ifCond .eq 40, 3) := by decide +kernel
theorem dX8_isMemberValue_153 : decode cX8_isMemberValue 153 = .ok (.iload_n 3, 1) := by decide +kernel
theorem dX8_isMemberValue_154 : decode cX8_isMemberValue 154 = .ok (.bipush (-2), 2) := by decide +kernel
theorem dX8_isMemberValue_156 : decode cX8_isMemberValue 156 = .ok (.if_icmp .eq 30, 3) := by decide +kernel
theorem dX8_isMemberValue_159 : decode cX8_isMemberValue 159 = .ok (.iload_n 3, 1) := by decide +kernel
theorem dX8_isMemberValue_160 : decode cX8_isMemberValue 160 = .ok (.invokestatic 279, 3) := by decide +kernel
theorem dX8_isMemberValue_163 : decode cX8_isMemberValue 163 = .ok (.ifCond .eq 27, 3) := by decide +kernel
theorem dX8_isMemberValue_166 : decode cX8_isMemberValue 166 = .ok (.aload 4, 2) := by decide +kernel
theorem dX8_isMemberValue_168 : decode cX8_isMemberValue 168 = .ok (.iload_n 1, 1) := by decide +kernel
theorem dX8_isMemberValue_169 : decode cX8_isMemberValue 169 = .ok (.invokevirtual 282, 3) := by decide +kernel
theorem dX8_isMemberValue_172 : decode cX8_isMemberValue 172 = .ok (.ifCond .eq 18, 3) := by decide +kernel
theorem dX8_isMemberValue_175 : decode cX8_isMemberValue 175 = .ok (.aload 4, 2) := by decide +kernel
theorem dX8_isMemberValue_177 : decode cX8_isMemberValue 177 = .ok (.getfield 285, 3) := by decide +kernel
theorem dX8_isMemberValue_180 : decode cX8_isMemberValue 180 = .ok (.iload_n 1, 1) := by decide +kernel
theorem dX8_isMemberValue_181 : decode cX8_isMemberValue 181 = .ok (.iaload, 1) := by decide +kernel
theorem dX8_isMemberValue_182 : decode cX8_isMemberValue 182 = .ok (.iconst (-1), 1) := by decide +kernel
theorem dX8_isMemberValue_183 : decode cX8_isMemberValue 183 = .ok (.if_icmp .ne 7, 3) := by decide +kernel
theorem dX8_isMemberValue_186 : decode cX8_isMemberValue 186 = .ok (.iconst 1, 1) := by decide +kernel
theorem dX8_isMemberValue_187 : decode cX8_isMemberValue 187 = .ok (.goto 4, 3) := by decide +kernel
theorem dX8_isMemberValue_190 : decode cX8_isMemberValue 190 = .ok (.iconst 0, 1) := by decide +kernel
theorem dX8_isMemberValue_191 : decode cX8_isMemberValue 191 = .ok (.ireturn, 1) := by decide +kernel
theorem dX8_isMemberValue_192 : decode cX8_isMemberValue 192 = .ok (.iconst 0, 1) := by decide +kernel
theorem dX8_isMemberValue_193 : decode cX8_isMemberValue 193 = .ok (.ireturn, 1) := by decide +kernel
theorem dX8_libraryWithMember_0 : decode cX8_libraryWithMember 0 = .ok (.aload_n 0, 1) := by decide +kernel
theorem dX8_libraryWithMember_1 : decode cX8_libraryWithMember 1 = .ok (.iload_n 1, 1) := by decide +kernel
theorem dX8_libraryWithMember_2 : decode cX8_libraryWithMember 2 = .ok (.invokevirtual 107, 3) := by decide +kernel
theorem dX8_libraryWithMember_5 : decode cX8_libraryWithMember 5 = .ok (.astore_n 3, 1) := by decide +kernel
theorem dX8_libraryWithMember_6 : decode cX8_libraryWithMember 6 = .ok (.aload_n 3, 1) := by decide +kernel
theorem dX8_libraryWithMember_7 : decode cX8_libraryWithMember 7 = .ok (.iload_n 2, 1) := by decide +kernel
theorem dX8_libraryWithMember_8 : decode cX8_libraryWithMember 8 = .ok (.invokevirtual 469, 3) := by decide +kernel
theorem dX8_libraryWithMember_11 : decode cX8_libraryWithMember 11 = .ok (.ifCond .ne 14, 3) := by decide +kernel
theorem dX8_libraryWithMember_14 : decode cX8_libraryWithMember 14 = .ok (.new 111, 3) := by decide +kernel
theorem dX8_libraryWithMember_17 : decode cX8_libraryWithMember 17 = .ok (.dup, 1) := by decide +kernel
theorem dX8_libraryWithMember_18 : decode cX8_libraryWithMember 18 = .ok (.ldc_w 472, 3) := by decide +kernel
theorem dX8_libraryWithMember_21 : decode cX8_libraryWithMember 21 = .ok (.invokespecial 115, 3) := by decide +kernel
theorem dX8_libraryWithMember_24 : decode cX8_libraryWithMember 24 = .ok (.athrow, 1) := by decide +kernel
theorem dX8_libraryWithMember_25 : decode cX8_libraryWithMember 25 = .ok (.aload_n 3, 1) := by decide +kernel
theorem dX8_libraryWithMember_26 : decode cX8_libraryWithMember 26 = .ok (.areturn, 1) := by decide +kernel
theorem dX8_link_0 : decode cX8_link 0 = .ok (.aload_n 0, 1) := by decide +kernel
theorem dX8_link_1 : decode cX8_link 1 = .ok (.iload_n 1, 1) := by decide +kernel
theorem dX8_link_2 : decode cX8_link 2 = .ok (.invokevirtual 352, 3) := by decide +kernel
theorem dX8_link_5 : decode cX8_link 5 = .ok (.astore_n 3, 1) := by decide +kernel
theorem dX8_link_6 : decode cX8_link 6 = .ok (.iload_n 2, 1) := by decide +kernel
theorem dX8_link_7 : decode cX8_link 7 = .ok (.invokestatic 377, 3) := by decide +kernel
theorem dX8_link_10 : decode cX8_link 10 = .ok (.aload_n 0, 1) := by decide +kernel
theorem dX8_link_11 : decode cX8_link 11 = .ok (.getfield 49, 3) := by decide +kernel
theorem dX8_link_14 : decode cX8_link 14 = .ok (.iload_n 2, 1) := by decide +kernel
theorem dX8_link_15 : decode cX8_link 15 = .ok (.aaload, 1) := by decide +kernel
theorem dX8_link_16 : decode cX8_link 16 = .ok (.aload_n 3, 1) := by decide +kernel
theorem dX8_link_17 : decode cX8_link 17 = .ok (.invokevirtual 384, 3) := by decide +kernel
theorem dX8_link_20 : decode cX8_link 20 = .ok (.ireturn, 1) := by decide +kernel
theorem dX8_memberInfo_0 : decode cX8_memberInfo 0 = .ok (.aload_n 0, 1) := by decide +kernel
theorem dX8_memberInfo_1 : decode cX8_memberInfo 1 = .ok (.iload_n 1, 1) := by decide +kernel
theorem dX8_memberInfo_2 : decode cX8_memberInfo 2 = .ok (.iload_n 2, 1) := by decide +kernel
theorem dX8_memberInfo_3 : decode cX8_memberInfo 3 = .ok (.invokevirtual 256, 3) := by decide +kernel
theorem dX8_memberInfo_6 : decode cX8_memberInfo 6 = .ok (.astore 4, 2) := by decide +kernel
theorem dX8_memberInfo_8 : decode cX8_memberInfo 8 = .ok (.iload_n 3, 1) := by decide +kernel
theorem dX8_memberInfo_9 : decode cX8_memberInfo 9 = .ok (.invokestatic 200, 3) := by decide +kernel
theorem dX8_memberInfo_12 : decode cX8_memberInfo 12 = .ok (.aload 4, 2) := by decide +kernel
theorem dX8_memberInfo_14 : decode cX8_memberInfo 14 = .ok (.getfield 64, 3) := by decide +kernel
theorem dX8_memberInfo_17 : decode cX8_memberInfo 17 = .ok (.iload_n 2, 1) := by decide +kernel
theorem dX8_memberInfo_18 : decode cX8_memberInfo 18 = .ok (.iload_n 3, 1) := by decide +kernel
theorem dX8_memberInfo_19 : decode cX8_memberInfo 19 = .ok (.invokevirtual 265, 3) := by decide +kernel
theorem dX8_memberInfo_22 : decode cX8_memberInfo 22 = .ok (.ireturn, 1) := by decide +kernel
theorem dX8_members_0 : decode cX8_members 0 = .ok (.aload_n 0, 1) := by decide +kernel
theorem dX8_members_1 : decode cX8_members 1 = .ok (.iload_n 1, 1) := by decide +kernel
theorem dX8_members_2 : decode cX8_members 2 = .ok (.invokevirtual 107, 3) := by decide +kernel
theorem dX8_members_5 : decode cX8_members 5 = .ok (.getfield 64, 3) := by decide +kernel
theorem dX8_members_8 : decode cX8_members 8 = .ok (.getfield 203, 3) := by decide +kernel
theorem dX8_members_11 : decode cX8_members 11 = .ok (.ireturn, 1) := by decide +kernel
theorem dX8_method_0 : decode cX8_method 0 = .ok (.aload_n 0, 1) := by decide +kernel
theorem dX8_method_1 : decode cX8_method 1 = .ok (.iload_n 1, 1) := by decide +kernel
theorem dX8_method_2 : decode cX8_method 2 = .ok (.iload_n 2, 1) := by decide +kernel
theorem dX8_method_3 : decode cX8_method 3 = .ok (.invokevirtual 153, 3) := by decide +kernel
theorem dX8_method_6 : decode cX8_method 6 = .ok (.astore 4, 2) := by decide +kernel
theorem dX8_method_8 : decode cX8_method 8 = .ok (.iload_n 3, 1) := by decide +kernel
theorem dX8_method_9 : decode cX8_method 9 = .ok (.invokestatic 306, 3) := by decide +kernel
theorem dX8_method_12 : decode cX8_method 12 = .ok (.iload_n 3, 1) := by decide +kernel
theorem dX8_method_13 : decode cX8_method 13 = .ok (.aload_n 0, 1) := by decide +kernel
theorem dX8_method_14 : decode cX8_method 14 = .ok (.getfield 30, 3) := by decide +kernel
theorem dX8_method_17 : decode cX8_method 17 = .ok (.getfield 241, 3) := by decide +kernel
theorem dX8_method_20 : decode cX8_method 20 = .ok (.aload_n 0, 1) := by decide +kernel
theorem dX8_method_21 : decode cX8_method 21 = .ok (.getfield 30, 3) := by decide +kernel
theorem dX8_method_24 : decode cX8_method 24 = .ok (.getfield 244, 3) := by decide +kernel
theorem dX8_method_27 : decode cX8_method 27 = .ok (.invokestatic 247, 3) := by decide +kernel
theorem dX8_method_30 : decode cX8_method 30 = .ok (.istore 5, 2) := by decide +kernel
theorem dX8_method_32 : decode cX8_method 32 = .ok (.aload 4, 2) := by decide +kernel
theorem dX8_method_34 : decode cX8_method 34 = .ok (.iload_n 2, 1) := by decide +kernel
theorem dX8_method_35 : decode cX8_method 35 = .ok (.iload 5, 2) := by decide +kernel
theorem dX8_method_37 : decode cX8_method 37 = .ok (.aload_n 0, 1) := by decide +kernel
theorem dX8_method_38 : decode cX8_method 38 = .ok (.getfield 30, 3) := by decide +kernel
theorem dX8_method_41 : decode cX8_method 41 = .ok (.getfield 309, 3) := by decide +kernel
theorem dX8_method_44 : decode cX8_method 44 = .ok (.invokestatic 315, 3) := by decide +kernel
theorem dX8_method_47 : decode cX8_method 47 = .ok (.invokevirtual 318, 3) := by decide +kernel
theorem dX8_method_50 : decode cX8_method 50 = .ok (.ireturn, 1) := by decide +kernel
theorem dX8_moveMember_0 : decode cX8_moveMember 0 = .ok (.aload_n 0, 1) := by decide +kernel
theorem dX8_moveMember_1 : decode cX8_moveMember 1 = .ok (.iload_n 1, 1) := by decide +kernel
theorem dX8_moveMember_2 : decode cX8_moveMember 2 = .ok (.iload_n 2, 1) := by decide +kernel
theorem dX8_moveMember_3 : decode cX8_moveMember 3 = .ok (.invokevirtual 256, 3) := by decide +kernel
theorem dX8_moveMember_6 : decode cX8_moveMember 6 = .ok (.astore 4, 2) := by decide +kernel
theorem dX8_moveMember_8 : decode cX8_moveMember 8 = .ok (.aload 4, 2) := by decide +kernel
theorem dX8_moveMember_10 : decode cX8_moveMember 10 = .ok (.iload_n 3, 1) := by decide +kernel
theorem dX8_moveMember_11 : decode cX8_moveMember 11 = .ok (.invokevirtual 132, 3) := by decide +kernel
theorem dX8_moveMember_14 : decode cX8_moveMember 14 = .ok (.ifCond .ne 14, 3) := by decide +kernel
theorem dX8_moveMember_17 : decode cX8_moveMember 17 = .ok (.new 111, 3) := by decide +kernel
theorem dX8_moveMember_20 : decode cX8_moveMember 20 = .ok (.dup, 1) := by decide +kernel
theorem dX8_moveMember_21 : decode cX8_moveMember 21 = .ok (.ldc_w 288, 3) := by decide +kernel
theorem dX8_moveMember_24 : decode cX8_moveMember 24 = .ok (.invokespecial 115, 3) := by decide +kernel
theorem dX8_moveMember_27 : decode cX8_moveMember 27 = .ok (.athrow, 1) := by decide +kernel
theorem dX8_moveMember_28 : decode cX8_moveMember 28 = .ok (.aload 4, 2) := by decide +kernel
theorem dX8_moveMember_30 : decode cX8_moveMember 30 = .ok (.iload_n 3, 1) := by decide +kernel
theorem dX8_moveMember_31 : decode cX8_moveMember 31 = .ok (.iload_n 2, 1) := by decide +kernel
theorem dX8_moveMember_32 : decode cX8_moveMember 32 = .ok (.invokevirtual 290, 3) := by decide +kernel
theorem dX8_moveMember_35 : decode cX8_moveMember 35 = .ok (.ifCond .ne 14, 3) := by decide +kernel
theorem dX8_moveMember_38 : decode cX8_moveMember 38 = .ok (.new 122, 3) := by decide +kernel
theorem dX8_moveMember_41 : decode cX8_moveMember 41 = .ok (.dup, 1) := by decide +kernel
theorem dX8_moveMember_42 : decode cX8_moveMember 42 = .ok (.ldc_w 293, 3) := by decide +kernel
theorem dX8_moveMember_45 : decode cX8_moveMember 45 = .ok (.invokespecial 126, 3) := by decide +kernel
theorem dX8_moveMember_48 : decode cX8_moveMember 48 = .ok (.athrow, 1) := by decide +kernel
theorem dX8_moveMember_49 : decode cX8_moveMember 49 = .ok (.aload 4, 2) := by decide +kernel
theorem dX8_moveMember_51 : decode cX8_moveMember 51 = .ok (.getfield 64, 3) := by decide +kernel
theorem dX8_moveMember_54 : decode cX8_moveMember 54 = .ok (.astore 5, 2) := by decide +kernel
theorem dX8_moveMember_56 : decode cX8_moveMember 56 = .ok (.aload 5, 2) := by decide +kernel
theorem dX8_moveMember_58 : decode cX8_moveMember 58 = .ok (.getfield 270, 3) := by decide +kernel
theorem dX8_moveMember_61 : decode cX8_moveMember 61 = .ok (.iload_n 2, 1) := by decide +kernel
theorem dX8_moveMember_62 : decode cX8_moveMember 62 = .ok (.iaload, 1) := by decide +kernel
theorem dX8_moveMember_63 : decode cX8_moveMember 63 = .ok (.ifCond .ne 19, 3) := by decide +kernel
theorem dX8_moveMember_66 : decode cX8_moveMember 66 = .ok (.aload 5, 2) := by decide +kernel
theorem dX8_moveMember_68 : decode cX8_moveMember 68 = .ok (.iload_n 3, 1) := by decide +kernel
theorem dX8_moveMember_69 : decode cX8_moveMember 69 = .ok (.aload 5, 2) := by decide +kernel
theorem dX8_moveMember_71 : decode cX8_moveMember 71 = .ok (.getfield 295, 3) := by decide +kernel
theorem dX8_moveMember_74 : decode cX8_moveMember 74 = .ok (.iload_n 2, 1) := by decide +kernel
theorem dX8_moveMember_75 : decode cX8_moveMember 75 = .ok (.iaload, 1) := by decide +kernel
theorem dX8_moveMember_76 : decode cX8_moveMember 76 = .ok (.invokevirtual 228, 3) := by decide +kernel
theorem dX8_moveMember_79 : decode cX8_moveMember 79 = .ok (.goto 16, 3) := by decide +kernel
theorem dX8_moveMember_82 : decode cX8_moveMember 82 = .ok (.aload 5, 2) := by decide +kernel
theorem dX8_moveMember_84 : decode cX8_moveMember 84 = .ok (.iload_n 3, 1) := by decide +kernel
theorem dX8_moveMember_85 : decode cX8_moveMember 85 = .ok (.aload 5, 2) := by decide +kernel
theorem dX8_moveMember_87 : decode cX8_moveMember 87 = .ok (.getfield 298, 3) := by decide +kernel
theorem dX8_moveMember_90 : decode cX8_moveMember 90 = .ok (.iload_n 2, 1) := by decide +kernel
theorem dX8_moveMember_91 : decode cX8_moveMember 91 = .ok (.iaload, 1) := by decide +kernel
theorem dX8_moveMember_92 : decode cX8_moveMember 92 = .ok (.invokevirtual 251, 3) := by decide +kernel
theorem dX8_moveMember_95 : decode cX8_moveMember 95 = .ok (.istore 6, 2) := by decide +kernel
theorem dX8_moveMember_97 : decode cX8_moveMember 97 = .ok (.iload_n 3, 1) := by decide +kernel
theorem dX8_moveMember_98 : decode cX8_moveMember 98 = .ok (.ifCond .eq 8, 3) := by decide +kernel
theorem dX8_moveMember_101 : decode cX8_moveMember 101 = .ok (.iload 6, 2) := by decide +kernel
theorem dX8_moveMember_103 : decode cX8_moveMember 103 = .ok (.ifCond .eq 14, 3) := by decide +kernel
theorem dX8_moveMember_106 : decode cX8_moveMember 106 = .ok (.new 136, 3) := by decide +kernel
theorem dX8_moveMember_109 : decode cX8_moveMember 109 = .ok (.dup, 1) := by decide +kernel
theorem dX8_moveMember_110 : decode cX8_moveMember 110 = .ok (.ldc_w 301, 3) := by decide +kernel
theorem dX8_moveMember_113 : decode cX8_moveMember 113 = .ok (.invokespecial 140, 3) := by decide +kernel
theorem dX8_moveMember_116 : decode cX8_moveMember 116 = .ok (.athrow, 1) := by decide +kernel
theorem dX8_moveMember_117 : decode cX8_moveMember 117 = .ok (.aload_n 0, 1) := by decide +kernel
theorem dX8_moveMember_118 : decode cX8_moveMember 118 = .ok (.invokevirtual 141, 3) := by decide +kernel
theorem dX8_moveMember_121 : decode cX8_moveMember 121 = .ok (.aload 5, 2) := by decide +kernel
theorem dX8_moveMember_123 : decode cX8_moveMember 123 = .ok (.getfield 266, 3) := by decide +kernel
theorem dX8_moveMember_126 : decode cX8_moveMember 126 = .ok (.iload_n 2, 1) := by decide +kernel
theorem dX8_moveMember_127 : decode cX8_moveMember 127 = .ok (.iaload, 1) := by decide +kernel
theorem dX8_moveMember_128 : decode cX8_moveMember 128 = .ok (.istore 7, 2) := by decide +kernel
theorem dX8_moveMember_130 : decode cX8_moveMember 130 = .ok (.aload 5, 2) := by decide +kernel
theorem dX8_moveMember_132 : decode cX8_moveMember 132 = .ok (.getfield 266, 3) := by decide +kernel
theorem dX8_moveMember_135 : decode cX8_moveMember 135 = .ok (.iload_n 2, 1) := by decide +kernel
theorem dX8_moveMember_136 : decode cX8_moveMember 136 = .ok (.iload_n 3, 1) := by decide +kernel
theorem dX8_moveMember_137 : decode cX8_moveMember 137 = .ok (.iastore, 1) := by decide +kernel
theorem dX8_moveMember_138 : decode cX8_moveMember 138 = .ok (.iload 7, 2) := by decide +kernel
theorem dX8_moveMember_140 : decode cX8_moveMember 140 = .ok (.ireturn, 1) := by decide +kernel
theorem dX8_removeClass_0 : decode cX8_removeClass 0 = .ok (.aload_n 0, 1) := by decide +kernel
theorem dX8_removeClass_1 : decode cX8_removeClass 1 = .ok (.iload_n 1, 1) := by decide +kernel
theorem dX8_removeClass_2 : decode cX8_removeClass 2 = .ok (.iload_n 2, 1) := by decide +kernel
theorem dX8_removeClass_3 : decode cX8_removeClass 3 = .ok (.invokevirtual 153, 3) := by decide +kernel
theorem dX8_removeClass_6 : decode cX8_removeClass 6 = .ok (.astore_n 3, 1) := by decide +kernel
theorem dX8_removeClass_7 : decode cX8_removeClass 7 = .ok (.iload_n 2, 1) := by decide +kernel
theorem dX8_removeClass_8 : decode cX8_removeClass 8 = .ok (.ifCond .ne 13, 3) := by decide +kernel
theorem dX8_removeClass_11 : decode cX8_removeClass 11 = .ok (.new 136, 3) := by decide +kernel
theorem dX8_removeClass_14 : decode cX8_removeClass 14 = .ok (.dup, 1) := by decide +kernel
theorem dX8_removeClass_15 : decode cX8_removeClass 15 = .ok (.ldc 157, 2) := by decide +kernel
theorem dX8_removeClass_17 : decode cX8_removeClass 17 = .ok (.invokespecial 140, 3) := by decide +kernel
theorem dX8_removeClass_20 : decode cX8_removeClass 20 = .ok (.athrow, 1) := by decide +kernel
theorem dX8_removeClass_21 : decode cX8_removeClass 21 = .ok (.aload_n 3, 1) := by decide +kernel
theorem dX8_removeClass_22 : decode cX8_removeClass 22 = .ok (.iload_n 2, 1) := by decide +kernel
theorem dX8_removeClass_23 : decode cX8_removeClass 23 = .ok (.invokevirtual 159, 3) := by decide +kernel
theorem dX8_removeClass_26 : decode cX8_removeClass 26 = .ok (.ifCond .ne 11, 3) := by decide +kernel
theorem dX8_removeClass_29 : decode cX8_removeClass 29 = .ok (.aload_n 3, 1) := by decide +kernel
theorem dX8_removeClass_30 : decode cX8_removeClass 30 = .ok (.iload_n 2, 1) := by decide +kernel
theorem dX8_removeClass_31 : decode cX8_removeClass 31 = .ok (.invokevirtual 162, 3) := by decide +kernel
theorem dX8_removeClass_34 : decode cX8_removeClass 34 = .ok (.ifCond .eq 13, 3) := by decide +kernel
theorem dX8_removeClass_37 : decode cX8_removeClass 37 = .ok (.new 136, 3) := by decide +kernel
theorem dX8_removeClass_40 : decode cX8_removeClass 40 = .ok (.dup, 1) := by decide +kernel
theorem dX8_removeClass_41 : decode cX8_removeClass 41 = .ok (.ldc 165, 2) := by decide +kernel
theorem dX8_removeClass_43 : decode cX8_removeClass 43 = .ok (.invokespecial 140, 3) := by decide +kernel
theorem dX8_removeClass_46 : decode cX8_removeClass 46 = .ok (.athrow, 1) := by decide +kernel
theorem dX8_removeClass_47 : decode cX8_removeClass 47 = .ok (.aload_n 0, 1) := by decide +kernel
theorem dX8_removeClass_48 : decode cX8_removeClass 48 = .ok (.invokevirtual 141, 3) := by decide +kernel
theorem dX8_removeClass_51 : decode cX8_removeClass 51 = .ok (.aload_n 3, 1) := by decide +kernel
theorem dX8_removeClass_52 : decode cX8_removeClass 52 = .ok (.iload_n 2, 1) := by decide +kernel
theorem dX8_removeClass_53 : decode cX8_removeClass 53 = .ok (.invokevirtual 167, 3) := by decide +kernel
theorem dX8_removeClass_56 : decode cX8_removeClass 56 = .ok (.aload_n 3, 1) := by decide +kernel
theorem dX8_removeClass_57 : decode cX8_removeClass 57 = .ok (.getfield 64, 3) := by decide +kernel
theorem dX8_removeClass_60 : decode cX8_removeClass 60 = .ok (.iload_n 2, 1) := by decide +kernel
theorem dX8_removeClass_61 : decode cX8_removeClass 61 = .ok (.invokevirtual 171, 3) := by decide +kernel
theorem dX8_removeClass_64 : decode cX8_removeClass 64 = .ok (.ireturn, 1) := by decide +kernel
theorem dX8_removeClient_0 : decode cX8_removeClient 0 = .ok (.aload_n 0, 1) := by decide +kernel
theorem dX8_removeClient_1 : decode cX8_removeClient 1 = .ok (.iload_n 1, 1) := by decide +kernel
theorem dX8_removeClient_2 : decode cX8_removeClient 2 = .ok (.invokevirtual 371, 3) := by decide +kernel
theorem dX8_removeClient_5 : decode cX8_removeClient 5 = .ok (.aload_n 0, 1) := by decide +kernel
theorem dX8_removeClient_6 : decode cX8_removeClient 6 = .ok (.invokevirtual 141, 3) := by decide +kernel
theorem dX8_removeClient_9 : decode cX8_removeClient 9 = .ok (.aload_n 0, 1) := by decide +kernel
theorem dX8_removeClient_10 : decode cX8_removeClient 10 = .ok (.getfield 10, 3) := by decide +kernel
theorem dX8_removeClient_13 : decode cX8_removeClient 13 = .ok (.iload_n 1, 1) := by decide +kernel
theorem dX8_removeClient_14 : decode cX8_removeClient 14 = .ok (.invokevirtual 374, 3) := by decide +kernel
theorem dX8_removeClient_17 : decode cX8_removeClient 17 = .ok (.aload_n 0, 1) := by decide +kernel
theorem dX8_removeClient_18 : decode cX8_removeClient 18 = .ok (.getfield 10, 3) := by decide +kernel
theorem dX8_removeClient_21 : decode cX8_removeClient 21 = .ok (.getfield 349, 3) := by decide +kernel
theorem dX8_removeClient_24 : decode cX8_removeClient 24 = .ok (.ireturn, 1) := by decide +kernel
theorem dX8_removeMember_0 : decode cX8_removeMember 0 = .ok (.aload_n 0, 1) := by decide +kernel
theorem dX8_removeMember_1 : decode cX8_removeMember 1 = .ok (.iload_n 1, 1) := by decide +kernel
theorem dX8_removeMember_2 : decode cX8_removeMember 2 = .ok (.iload_n 2, 1) := by decide +kernel
theorem dX8_removeMember_3 : decode cX8_removeMember 3 = .ok (.invokevirtual 256, 3) := by decide +kernel
theorem dX8_removeMember_6 : decode cX8_removeMember 6 = .ok (.astore_n 3, 1) := by decide +kernel
theorem dX8_removeMember_7 : decode cX8_removeMember 7 = .ok (.aload_n 0, 1) := by decide +kernel
theorem dX8_removeMember_8 : decode cX8_removeMember 8 = .ok (.invokevirtual 141, 3) := by decide +kernel
theorem dX8_removeMember_11 : decode cX8_removeMember 11 = .ok (.aload_n 3, 1) := by decide +kernel
theorem dX8_removeMember_12 : decode cX8_removeMember 12 = .ok (.getfield 64, 3) := by decide +kernel
theorem dX8_removeMember_15 : decode cX8_removeMember 15 = .ok (.iload_n 2, 1) := by decide +kernel
theorem dX8_removeMember_16 : decode cX8_removeMember 16 = .ok (.invokevirtual 259, 3) := by decide +kernel
theorem dX8_removeMember_19 : decode cX8_removeMember 19 = .ok (.aload_n 3, 1) := by decide +kernel
theorem dX8_removeMember_20 : decode cX8_removeMember 20 = .ok (.getfield 64, 3) := by decide +kernel
theorem dX8_removeMember_23 : decode cX8_removeMember 23 = .ok (.getfield 203, 3) := by decide +kernel
theorem dX8_removeMember_26 : decode cX8_removeMember 26 = .ok (.ireturn, 1) := by decide +kernel
theorem dX8_sampleValue_0 : decode cX8_sampleValue 0 = .ok (.iload_n 1, 1) := by decide +kernel
theorem dX8_sampleValue_1 : decode cX8_sampleValue 1 = .ok (.tableswitch 75 0 4 #[35, 43, 51, 59, 67], 35) := by decide +kernel
theorem dX8_sampleValue_36 : decode cX8_sampleValue 36 = .ok (.aload_n 0, 1) := by decide +kernel
theorem dX8_sampleValue_37 : decode cX8_sampleValue 37 = .ok (.getfield 37, 3) := by decide +kernel
theorem dX8_sampleValue_40 : decode cX8_sampleValue 40 = .ok (.getfield 414, 3) := by decide +kernel
theorem dX8_sampleValue_43 : decode cX8_sampleValue 43 = .ok (.ireturn, 1) := by decide +kernel
theorem dX8_sampleValue_44 : decode cX8_sampleValue 44 = .ok (.aload_n 0, 1) := by decide +kernel
theorem dX8_sampleValue_45 : decode cX8_sampleValue 45 = .ok (.getfield 37, 3) := by decide +kernel
theorem dX8_sampleValue_48 : decode cX8_sampleValue 48 = .ok (.getfield 417, 3) := by decide +kernel
theorem dX8_sampleValue_51 : decode cX8_sampleValue 51 = .ok (.ireturn, 1) := by decide +kernel
theorem dX8_sampleValue_52 : decode cX8_sampleValue 52 = .ok (.aload_n 0, 1) := by decide +kernel
theorem dX8_sampleValue_53 : decode cX8_sampleValue 53 = .ok (.getfield 37, 3) := by decide +kernel
theorem dX8_sampleValue_56 : decode cX8_sampleValue 56 = .ok (.getfield 420, 3) := by decide +kernel
theorem dX8_sampleValue_59 : decode cX8_sampleValue 59 = .ok (.ireturn, 1) := by decide +kernel
theorem dX8_sampleValue_60 : decode cX8_sampleValue 60 = .ok (.aload_n 0, 1) := by decide +kernel
theorem dX8_sampleValue_61 : decode cX8_sampleValue 61 = .ok (.getfield 37, 3) := by decide +kernel
theorem dX8_sampleValue_64 : decode cX8_sampleValue 64 = .ok (.getfield 422, 3) := by decide +kernel
theorem dX8_sampleValue_67 : decode cX8_sampleValue 67 = .ok (.ireturn, 1) := by decide +kernel
theorem dX8_sampleValue_68 : decode cX8_sampleValue 68 = .ok (.aload_n 0, 1) := by decide +kernel
theorem dX8_sampleValue_69 : decode cX8_sampleValue 69 = .ok (.getfield 37, 3) := by decide +kernel
theorem dX8_sampleValue_72 : decode cX8_sampleValue 72 = .ok (.getfield 423, 3) := by decide +kernel
theorem dX8_sampleValue_75 : decode cX8_sampleValue 75 = .ok (.ireturn, 1) := by decide +kernel
theorem dX8_sampleValue_76 : decode cX8_sampleValue 76 = .ok (.aload_n 0, 1) := by decide +kernel
theorem dX8_sampleValue_77 : decode cX8_sampleValue 77 = .ok (.getfield 37, 3) := by decide +kernel
theorem dX8_sampleValue_80 : decode cX8_sampleValue 80 = .ok (.getfield 424, 3) := by decide +kernel
theorem dX8_sampleValue_83 : decode cX8_sampleValue 83 = .ok (.ireturn, 1) := by decide +kernel
theorem dX8_sample_0 : decode cX8_sample 0 = .ok (.iload_n 1, 1) := by decide +kernel
theorem dX8_sample_1 : decode cX8_sample 1 = .ok (.iconst 1, 1) := by decide +kernel
theorem dX8_sample_2 : decode cX8_sample 2 = .ok (.if_icmp .lt 15, 3) := by decide +kernel
theorem dX8_sample_5 : decode cX8_sample 5 = .ok (.iload_n 1, 1) := by decide +kernel
theorem dX8_sample_6 : decode cX8_sample 6 = .ok (.iconst 5, 1) := by decide +kernel
theorem dX8_sample_7 : decode cX8_sample 7 = .ok (.if_icmp .gt 10, 3) := by decide +kernel
theorem dX8_sample_10 : decode cX8_sample 10 = .ok (.iload_n 2, 1) := by decide +kernel
theorem dX8_sample_11 : decode cX8_sample 11 = .ok (.invokestatic 337, 3) := by decide +kernel
theorem dX8_sample_14 : decode cX8_sample 14 = .ok (.ifCond .ne 14, 3) := by decide +kernel
theorem dX8_sample_17 : decode cX8_sample 17 = .ok (.new 122, 3) := by decide +kernel
theorem dX8_sample_20 : decode cX8_sample 20 = .ok (.dup, 1) := by decide +kernel
theorem dX8_sample_21 : decode cX8_sample 21 = .ok (.ldc_w 398, 3) := by decide +kernel
theorem dX8_sample_24 : decode cX8_sample 24 = .ok (.invokespecial 126, 3) := by decide +kernel
theorem dX8_sample_27 : decode cX8_sample 27 = .ok (.athrow, 1) := by decide +kernel
theorem dX8_sample_28 : decode cX8_sample 28 = .ok (.iload_n 3, 1) := by decide +kernel
theorem dX8_sample_29 : decode cX8_sample 29 = .ok (.ifCond .lt 8, 3) := by decide +kernel
theorem dX8_sample_32 : decode cX8_sample 32 = .ok (.iload_n 3, 1) := by decide +kernel
theorem dX8_sample_33 : decode cX8_sample 33 = .ok (.iconst 5, 1) := by decide +kernel
theorem dX8_sample_34 : decode cX8_sample 34 = .ok (.if_icmp .le 14, 3) := by decide +kernel
theorem dX8_sample_37 : decode cX8_sample 37 = .ok (.new 122, 3) := by decide +kernel
theorem dX8_sample_40 : decode cX8_sample 40 = .ok (.dup, 1) := by decide +kernel
theorem dX8_sample_41 : decode cX8_sample 41 = .ok (.ldc_w 400, 3) := by decide +kernel
theorem dX8_sample_44 : decode cX8_sample 44 = .ok (.invokespecial 126, 3) := by decide +kernel
theorem dX8_sample_47 : decode cX8_sample 47 = .ok (.athrow, 1) := by decide +kernel
theorem dX8_sample_48 : decode cX8_sample 48 = .ok (.aload_n 0, 1) := by decide +kernel
theorem dX8_sample_49 : decode cX8_sample 49 = .ok (.getfield 37, 3) := by decide +kernel
theorem dX8_sample_52 : decode cX8_sample 52 = .ok (.iconst 0, 1) := by decide +kernel
theorem dX8_sample_53 : decode cX8_sample 53 = .ok (.iconst 0, 1) := by decide +kernel
theorem dX8_sample_54 : decode cX8_sample 54 = .ok (.iconst 0, 1) := by decide +kernel
theorem dX8_sample_55 : decode cX8_sample 55 = .ok (.iload_n 2, 1) := by decide +kernel
theorem dX8_sample_56 : decode cX8_sample 56 = .ok (.invokevirtual 99, 3) := by decide +kernel
theorem dX8_sample_59 : decode cX8_sample 59 = .ok (.iconst 0, 1) := by decide +kernel
theorem dX8_sample_60 : decode cX8_sample 60 = .ok (.istore 4, 2) := by decide +kernel
theorem dX8_sample_62 : decode cX8_sample 62 = .ok (.iload 4, 2) := by decide +kernel
theorem dX8_sample_64 : decode cX8_sample 64 = .ok (.ldc_w 402, 3) := by decide +kernel
theorem dX8_sample_67 : decode cX8_sample 67 = .ok (.if_icmp .ge 64, 3) := by decide +kernel
theorem dX8_sample_70 : decode cX8_sample 70 = .ok (.aload_n 0, 1) := by decide +kernel
theorem dX8_sample_71 : decode cX8_sample 71 = .ok (.invokevirtual 100, 3) := by decide +kernel
theorem dX8_sample_74 : decode cX8_sample 74 = .ok (.ifCond .eq 21, 3) := by decide +kernel
theorem dX8_sample_77 : decode cX8_sample 77 = .ok (.aload_n 0, 1) := by decide +kernel
theorem dX8_sample_78 : decode cX8_sample 78 = .ok (.aload_n 0, 1) := by decide +kernel
theorem dX8_sample_79 : decode cX8_sample 79 = .ok (.getfield 37, 3) := by decide +kernel
theorem dX8_sample_82 : decode cX8_sample 82 = .ok (.invokevirtual 389, 3) := by decide +kernel
theorem dX8_sample_85 : decode cX8_sample 85 = .ok (.iload_n 1, 1) := by decide +kernel
theorem dX8_sample_86 : decode cX8_sample 86 = .ok (.if_icmp .ne 9, 3) := by decide +kernel
theorem dX8_sample_89 : decode cX8_sample 89 = .ok (.aload_n 0, 1) := by decide +kernel
theorem dX8_sample_90 : decode cX8_sample 90 = .ok (.iload_n 3, 1) := by decide +kernel
theorem dX8_sample_91 : decode cX8_sample 91 = .ok (.invokevirtual 403, 3) := by decide +kernel
theorem dX8_sample_94 : decode cX8_sample 94 = .ok (.ireturn, 1) := by decide +kernel
theorem dX8_sample_95 : decode cX8_sample 95 = .ok (.aload_n 0, 1) := by decide +kernel
theorem dX8_sample_96 : decode cX8_sample 96 = .ok (.getfield 37, 3) := by decide +kernel
theorem dX8_sample_99 : decode cX8_sample 99 = .ok (.aload_n 0, 1) := by decide +kernel
theorem dX8_sample_100 : decode cX8_sample 100 = .ok (.getfield 43, 3) := by decide +kernel
theorem dX8_sample_103 : decode cX8_sample 103 = .ok (.iconst 0, 1) := by decide +kernel
theorem dX8_sample_104 : decode cX8_sample 104 = .ok (.aaload, 1) := by decide +kernel
theorem dX8_sample_105 : decode cX8_sample 105 = .ok (.getfield 406, 3) := by decide +kernel
theorem dX8_sample_108 : decode cX8_sample 108 = .ok (.ifCond .ne 7, 3) := by decide +kernel
theorem dX8_sample_111 : decode cX8_sample 111 = .ok (.iconst 1, 1) := by decide +kernel
theorem dX8_sample_112 : decode cX8_sample 112 = .ok (.goto 4, 3) := by decide +kernel
theorem dX8_sample_115 : decode cX8_sample 115 = .ok (.iconst 0, 1) := by decide +kernel
theorem dX8_sample_116 : decode cX8_sample 116 = .ok (.invokevirtual 410, 3) := by decide +kernel
theorem dX8_sample_119 : decode cX8_sample 119 = .ok (.ifCond .ne 6, 3) := by decide +kernel
theorem dX8_sample_122 : decode cX8_sample 122 = .ok (.bipush (-2), 2) := by decide +kernel
theorem dX8_sample_124 : decode cX8_sample 124 = .ok (.ireturn, 1) := by decide +kernel
theorem dX8_sample_125 : decode cX8_sample 125 = .ok (.iinc 4 1, 3) := by decide +kernel
theorem dX8_sample_128 : decode cX8_sample 128 = .ok (.goto (-66), 3) := by decide +kernel
theorem dX8_sample_131 : decode cX8_sample 131 = .ok (.bipush (-2), 2) := by decide +kernel
theorem dX8_sample_133 : decode cX8_sample 133 = .ok (.ireturn, 1) := by decide +kernel
theorem dX8_selected_0 : decode cX8_selected 0 = .ok (.aload_n 0, 1) := by decide +kernel
theorem dX8_selected_1 : decode cX8_selected 1 = .ok (.iload_n 1, 1) := by decide +kernel
theorem dX8_selected_2 : decode cX8_selected 2 = .ok (.iload_n 2, 1) := by decide +kernel
theorem dX8_selected_3 : decode cX8_selected 3 = .ok (.invokevirtual 256, 3) := by decide +kernel
theorem dX8_selected_6 : decode cX8_selected 6 = .ok (.astore 4, 2) := by decide +kernel
theorem dX8_selected_8 : decode cX8_selected 8 = .ok (.aload 4, 2) := by decide +kernel
theorem dX8_selected_10 : decode cX8_selected 10 = .ok (.iload_n 3, 1) := by decide +kernel
theorem dX8_selected_11 : decode cX8_selected 11 = .ok (.invokevirtual 132, 3) := by decide +kernel
theorem dX8_selected_14 : decode cX8_selected 14 = .ok (.ifCond .ne 14, 3) := by decide +kernel
theorem dX8_selected_17 : decode cX8_selected 17 = .ok (.new 111, 3) := by decide +kernel
theorem dX8_selected_20 : decode cX8_selected 20 = .ok (.dup, 1) := by decide +kernel
theorem dX8_selected_21 : decode cX8_selected 21 = .ok (.ldc_w 288, 3) := by decide +kernel
theorem dX8_selected_24 : decode cX8_selected 24 = .ok (.invokespecial 115, 3) := by decide +kernel
theorem dX8_selected_27 : decode cX8_selected 27 = .ok (.athrow, 1) := by decide +kernel
theorem dX8_selected_28 : decode cX8_selected 28 = .ok (.aload 4, 2) := by decide +kernel
theorem dX8_selected_30 : decode cX8_selected 30 = .ok (.getfield 64, 3) := by decide +kernel
theorem dX8_selected_33 : decode cX8_selected 33 = .ok (.astore 5, 2) := by decide +kernel
theorem dX8_selected_35 : decode cX8_selected 35 = .ok (.aload 5, 2) := by decide +kernel
theorem dX8_selected_37 : decode cX8_selected 37 = .ok (.getfield 270, 3) := by decide +kernel
theorem dX8_selected_40 : decode cX8_selected 40 = .ok (.iload_n 2, 1) := by decide +kernel
theorem dX8_selected_41 : decode cX8_selected 41 = .ok (.iaload, 1) := by decide +kernel
theorem dX8_selected_42 : decode cX8_selected 42 = .ok (.ifCond .eq 15, 3) := by decide +kernel
theorem dX8_selected_45 : decode cX8_selected 45 = .ok (.aload 5, 2) := by decide +kernel
theorem dX8_selected_47 : decode cX8_selected 47 = .ok (.getfield 276, 3) := by decide +kernel
theorem dX8_selected_50 : decode cX8_selected 50 = .ok (.iload_n 2, 1) := by decide +kernel
theorem dX8_selected_51 : decode cX8_selected 51 = .ok (.iaload, 1) := by decide +kernel
theorem dX8_selected_52 : decode cX8_selected 52 = .ok (.iconst 1, 1) := by decide +kernel
theorem dX8_selected_53 : decode cX8_selected 53 = .ok (.iand, 1) := by decide +kernel
theorem dX8_selected_54 : decode cX8_selected 54 = .ok (.ifCond .eq 14, 3) := by decide +kernel
theorem dX8_selected_57 : decode cX8_selected 57 = .ok (.new 122, 3) := by decide +kernel
theorem dX8_selected_60 : decode cX8_selected 60 = .ok (.dup, 1) := by decide +kernel
theorem dX8_selected_61 : decode cX8_selected 61 = .ok (.ldc_w 321, 3) := by decide +kernel
theorem dX8_selected_64 : decode cX8_selected 64 = .ok (.invokespecial 126, 3) := by decide +kernel
theorem dX8_selected_67 : decode cX8_selected 67 = .ok (.athrow, 1) := by decide +kernel
theorem dX8_selected_68 : decode cX8_selected 68 = .ok (.aload 4, 2) := by decide +kernel
theorem dX8_selected_70 : decode cX8_selected 70 = .ok (.iload_n 3, 1) := by decide +kernel
theorem dX8_selected_71 : decode cX8_selected 71 = .ok (.invokevirtual 182, 3) := by decide +kernel
theorem dX8_selected_74 : decode cX8_selected 74 = .ok (.ifCond .ne 23, 3) := by decide +kernel
theorem dX8_selected_77 : decode cX8_selected 77 = .ok (.aload 4, 2) := by decide +kernel
theorem dX8_selected_79 : decode cX8_selected 79 = .ok (.getfield 323, 3) := by decide +kernel
theorem dX8_selected_82 : decode cX8_selected 82 = .ok (.iload_n 3, 1) := by decide +kernel
theorem dX8_selected_83 : decode cX8_selected 83 = .ok (.iaload, 1) := by decide +kernel
theorem dX8_selected_84 : decode cX8_selected 84 = .ok (.aload 5, 2) := by decide +kernel
theorem dX8_selected_86 : decode cX8_selected 86 = .ok (.getfield 266, 3) := by decide +kernel
theorem dX8_selected_89 : decode cX8_selected 89 = .ok (.iload_n 2, 1) := by decide +kernel
theorem dX8_selected_90 : decode cX8_selected 90 = .ok (.iaload, 1) := by decide +kernel
theorem dX8_selected_91 : decode cX8_selected 91 = .ok (.ishr, 1) := by decide +kernel
theorem dX8_selected_92 : decode cX8_selected 92 = .ok (.iconst 1, 1) := by decide +kernel
theorem dX8_selected_93 : decode cX8_selected 93 = .ok (.iand, 1) := by decide +kernel
theorem dX8_selected_94 : decode cX8_selected 94 = .ok (.ifCond .ne 14, 3) := by decide +kernel
theorem dX8_selected_97 : decode cX8_selected 97 = .ok (.new 122, 3) := by decide +kernel
theorem dX8_selected_100 : decode cX8_selected 100 = .ok (.dup, 1) := by decide +kernel
theorem dX8_selected_101 : decode cX8_selected 101 = .ok (.ldc_w 326, 3) := by decide +kernel
theorem dX8_selected_104 : decode cX8_selected 104 = .ok (.invokespecial 126, 3) := by decide +kernel
theorem dX8_selected_107 : decode cX8_selected 107 = .ok (.athrow, 1) := by decide +kernel
theorem dX8_selected_108 : decode cX8_selected 108 = .ok (.aload 5, 2) := by decide +kernel
theorem dX8_selected_110 : decode cX8_selected 110 = .ok (.getfield 273, 3) := by decide +kernel
theorem dX8_selected_113 : decode cX8_selected 113 = .ok (.iload_n 2, 1) := by decide +kernel
theorem dX8_selected_114 : decode cX8_selected 114 = .ok (.iaload, 1) := by decide +kernel
theorem dX8_selected_115 : decode cX8_selected 115 = .ok (.ifCond .ne 5, 3) := by decide +kernel
theorem dX8_selected_118 : decode cX8_selected 118 = .ok (.iload_n 2, 1) := by decide +kernel
theorem dX8_selected_119 : decode cX8_selected 119 = .ok (.ireturn, 1) := by decide +kernel
theorem dX8_selected_120 : decode cX8_selected 120 = .ok (.aload 4, 2) := by decide +kernel
theorem dX8_selected_122 : decode cX8_selected 122 = .ok (.aload 5, 2) := by decide +kernel
theorem dX8_selected_124 : decode cX8_selected 124 = .ok (.getfield 328, 3) := by decide +kernel
theorem dX8_selected_127 : decode cX8_selected 127 = .ok (.iload_n 2, 1) := by decide +kernel
theorem dX8_selected_128 : decode cX8_selected 128 = .ok (.iaload, 1) := by decide +kernel
theorem dX8_selected_129 : decode cX8_selected 129 = .ok (.aload 4, 2) := by decide +kernel
theorem dX8_selected_131 : decode cX8_selected 131 = .ok (.getfield 331, 3) := by decide +kernel
theorem dX8_selected_134 : decode cX8_selected 134 = .ok (.iload_n 3, 1) := by decide +kernel
theorem dX8_selected_135 : decode cX8_selected 135 = .ok (.iaload, 1) := by decide +kernel
theorem dX8_selected_136 : decode cX8_selected 136 = .ok (.aload 4, 2) := by decide +kernel
theorem dX8_selected_138 : decode cX8_selected 138 = .ok (.getfield 323, 3) := by decide +kernel
theorem dX8_selected_141 : decode cX8_selected 141 = .ok (.iload_n 3, 1) := by decide +kernel
theorem dX8_selected_142 : decode cX8_selected 142 = .ok (.iaload, 1) := by decide +kernel
theorem dX8_selected_143 : decode cX8_selected 143 = .ok (.invokevirtual 334, 3) := by decide +kernel
theorem dX8_selected_146 : decode cX8_selected 146 = .ok (.ireturn, 1) := by decide +kernel
theorem dX8_setBase_0 : decode cX8_setBase 0 = .ok (.aload_n 0, 1) := by decide +kernel
theorem dX8_setBase_1 : decode cX8_setBase 1 = .ok (.iload_n 1, 1) := by decide +kernel
theorem dX8_setBase_2 : decode cX8_setBase 2 = .ok (.invokevirtual 352, 3) := by decide +kernel
theorem dX8_setBase_5 : decode cX8_setBase 5 = .ok (.astore_n 3, 1) := by decide +kernel
theorem dX8_setBase_6 : decode cX8_setBase 6 = .ok (.aload_n 0, 1) := by decide +kernel
theorem dX8_setBase_7 : decode cX8_setBase 7 = .ok (.getfield 43, 3) := by decide +kernel
theorem dX8_setBase_10 : decode cX8_setBase 10 = .ok (.iconst 0, 1) := by decide +kernel
theorem dX8_setBase_11 : decode cX8_setBase 11 = .ok (.aaload, 1) := by decide +kernel
theorem dX8_setBase_12 : decode cX8_setBase 12 = .ok (.iload_n 2, 1) := by decide +kernel
theorem dX8_setBase_13 : decode cX8_setBase 13 = .ok (.aload_n 3, 1) := by decide +kernel
theorem dX8_setBase_14 : decode cX8_setBase 14 = .ok (.getfield 356, 3) := by decide +kernel
theorem dX8_setBase_17 : decode cX8_setBase 17 = .ok (.invokevirtual 359, 3) := by decide +kernel
theorem dX8_setBase_20 : decode cX8_setBase 20 = .ok (.ifCond .ne 14, 3) := by decide +kernel
theorem dX8_setBase_23 : decode cX8_setBase 23 = .ok (.new 122, 3) := by decide +kernel
theorem dX8_setBase_26 : decode cX8_setBase 26 = .ok (.dup, 1) := by decide +kernel
theorem dX8_setBase_27 : decode cX8_setBase 27 = .ok (.ldc_w 362, 3) := by decide +kernel
theorem dX8_setBase_30 : decode cX8_setBase 30 = .ok (.invokespecial 126, 3) := by decide +kernel
theorem dX8_setBase_33 : decode cX8_setBase 33 = .ok (.athrow, 1) := by decide +kernel
theorem dX8_setBase_34 : decode cX8_setBase 34 = .ok (.aload_n 0, 1) := by decide +kernel
theorem dX8_setBase_35 : decode cX8_setBase 35 = .ok (.getfield 37, 3) := by decide +kernel
theorem dX8_setBase_38 : decode cX8_setBase 38 = .ok (.aload_n 3, 1) := by decide +kernel
theorem dX8_setBase_39 : decode cX8_setBase 39 = .ok (.invokevirtual 364, 3) := by decide +kernel
theorem dX8_setBase_42 : decode cX8_setBase 42 = .ok (.aload_n 0, 1) := by decide +kernel
theorem dX8_setBase_43 : decode cX8_setBase 43 = .ok (.getfield 37, 3) := by decide +kernel
theorem dX8_setBase_46 : decode cX8_setBase 46 = .ok (.iload_n 2, 1) := by decide +kernel
theorem dX8_setBase_47 : decode cX8_setBase 47 = .ok (.putfield 366, 3) := by decide +kernel
theorem dX8_setBase_50 : decode cX8_setBase 50 = .ok (.aload_n 0, 1) := by decide +kernel
theorem dX8_setBase_51 : decode cX8_setBase 51 = .ok (.invokevirtual 100, 3) := by decide +kernel
theorem dX8_setBase_54 : decode cX8_setBase 54 = .ok (.ifCond .ne 14, 3) := by decide +kernel
theorem dX8_setBase_57 : decode cX8_setBase 57 = .ok (.new 122, 3) := by decide +kernel
theorem dX8_setBase_60 : decode cX8_setBase 60 = .ok (.dup, 1) := by decide +kernel
theorem dX8_setBase_61 : decode cX8_setBase 61 = .ok (.ldc_w 369, 3) := by decide +kernel
theorem dX8_setBase_64 : decode cX8_setBase 64 = .ok (.invokespecial 126, 3) := by decide +kernel
theorem dX8_setBase_67 : decode cX8_setBase 67 = .ok (.athrow, 1) := by decide +kernel
theorem dX8_setBase_68 : decode cX8_setBase 68 = .ok (.aload_n 0, 1) := by decide +kernel
theorem dX8_setBase_69 : decode cX8_setBase 69 = .ok (.invokevirtual 141, 3) := by decide +kernel
theorem dX8_setBase_72 : decode cX8_setBase 72 = .ok (.aload_n 3, 1) := by decide +kernel
theorem dX8_setBase_73 : decode cX8_setBase 73 = .ok (.getfield 366, 3) := by decide +kernel
theorem dX8_setBase_76 : decode cX8_setBase 76 = .ok (.istore 4, 2) := by decide +kernel
theorem dX8_setBase_78 : decode cX8_setBase 78 = .ok (.aload_n 3, 1) := by decide +kernel
theorem dX8_setBase_79 : decode cX8_setBase 79 = .ok (.aload_n 0, 1) := by decide +kernel
theorem dX8_setBase_80 : decode cX8_setBase 80 = .ok (.getfield 37, 3) := by decide +kernel
theorem dX8_setBase_83 : decode cX8_setBase 83 = .ok (.invokevirtual 364, 3) := by decide +kernel
theorem dX8_setBase_86 : decode cX8_setBase 86 = .ok (.iload 4, 2) := by decide +kernel
theorem dX8_setBase_88 : decode cX8_setBase 88 = .ok (.ireturn, 1) := by decide +kernel
theorem dX8_setClass_0 : decode cX8_setClass 0 = .ok (.aload_n 0, 1) := by decide +kernel
theorem dX8_setClass_1 : decode cX8_setClass 1 = .ok (.iload_n 1, 1) := by decide +kernel
theorem dX8_setClass_2 : decode cX8_setClass 2 = .ok (.iload_n 2, 1) := by decide +kernel
theorem dX8_setClass_3 : decode cX8_setClass 3 = .ok (.invokevirtual 153, 3) := by decide +kernel
theorem dX8_setClass_6 : decode cX8_setClass 6 = .ok (.astore 5, 2) := by decide +kernel
theorem dX8_setClass_8 : decode cX8_setClass 8 = .ok (.aload 5, 2) := by decide +kernel
theorem dX8_setClass_10 : decode cX8_setClass 10 = .ok (.iload_n 2, 1) := by decide +kernel
theorem dX8_setClass_11 : decode cX8_setClass 11 = .ok (.iload_n 3, 1) := by decide +kernel
theorem dX8_setClass_12 : decode cX8_setClass 12 = .ok (.iload 4, 2) := by decide +kernel
theorem dX8_setClass_14 : decode cX8_setClass 14 = .ok (.invokestatic 174, 3) := by decide +kernel
theorem dX8_setClass_17 : decode cX8_setClass 17 = .ok (.ifCond .ne 13, 3) := by decide +kernel
theorem dX8_setClass_20 : decode cX8_setClass 20 = .ok (.new 122, 3) := by decide +kernel
theorem dX8_setClass_23 : decode cX8_setClass 23 = .ok (.dup, 1) := by decide +kernel
theorem dX8_setClass_24 : decode cX8_setClass 24 = .ok (.ldc 178, 2) := by decide +kernel
theorem dX8_setClass_26 : decode cX8_setClass 26 = .ok (.invokespecial 126, 3) := by decide +kernel
theorem dX8_setClass_29 : decode cX8_setClass 29 = .ok (.athrow, 1) := by decide +kernel
theorem dX8_setClass_30 : decode cX8_setClass 30 = .ok (.iload_n 2, 1) := by decide +kernel
theorem dX8_setClass_31 : decode cX8_setClass 31 = .ok (.ifCond .ne 13, 3) := by decide +kernel
theorem dX8_setClass_34 : decode cX8_setClass 34 = .ok (.new 136, 3) := by decide +kernel
theorem dX8_setClass_37 : decode cX8_setClass 37 = .ok (.dup, 1) := by decide +kernel
theorem dX8_setClass_38 : decode cX8_setClass 38 = .ok (.ldc 180, 2) := by decide +kernel
theorem dX8_setClass_40 : decode cX8_setClass 40 = .ok (.invokespecial 140, 3) := by decide +kernel
theorem dX8_setClass_43 : decode cX8_setClass 43 = .ok (.athrow, 1) := by decide +kernel
theorem dX8_setClass_44 : decode cX8_setClass 44 = .ok (.aload 5, 2) := by decide +kernel
theorem dX8_setClass_46 : decode cX8_setClass 46 = .ok (.iload_n 2, 1) := by decide +kernel
theorem dX8_setClass_47 : decode cX8_setClass 47 = .ok (.invokevirtual 182, 3) := by decide +kernel
theorem dX8_setClass_50 : decode cX8_setClass 50 = .ok (.ifCond .eq 28, 3) := by decide +kernel
theorem dX8_setClass_53 : decode cX8_setClass 53 = .ok (.iload_n 3, 1) := by decide +kernel
theorem dX8_setClass_54 : decode cX8_setClass 54 = .ok (.iconst 1, 1) := by decide +kernel
theorem dX8_setClass_55 : decode cX8_setClass 55 = .ok (.if_icmp .eq 13, 3) := by decide +kernel
theorem dX8_setClass_58 : decode cX8_setClass 58 = .ok (.iload_n 3, 1) := by decide +kernel
theorem dX8_setClass_59 : decode cX8_setClass 59 = .ok (.iconst 2, 1) := by decide +kernel
theorem dX8_setClass_60 : decode cX8_setClass 60 = .ok (.if_icmp .eq 8, 3) := by decide +kernel
theorem dX8_setClass_63 : decode cX8_setClass 63 = .ok (.iload_n 3, 1) := by decide +kernel
theorem dX8_setClass_64 : decode cX8_setClass 64 = .ok (.iconst 4, 1) := by decide +kernel
theorem dX8_setClass_65 : decode cX8_setClass 65 = .ok (.if_icmp .ne 13, 3) := by decide +kernel
theorem dX8_setClass_68 : decode cX8_setClass 68 = .ok (.new 136, 3) := by decide +kernel
theorem dX8_setClass_71 : decode cX8_setClass 71 = .ok (.dup, 1) := by decide +kernel
theorem dX8_setClass_72 : decode cX8_setClass 72 = .ok (.ldc 185, 2) := by decide +kernel
theorem dX8_setClass_74 : decode cX8_setClass 74 = .ok (.invokespecial 140, 3) := by decide +kernel
theorem dX8_setClass_77 : decode cX8_setClass 77 = .ok (.athrow, 1) := by decide +kernel
theorem dX8_setClass_78 : decode cX8_setClass 78 = .ok (.iload_n 3, 1) := by decide +kernel
theorem dX8_setClass_79 : decode cX8_setClass 79 = .ok (.iconst 1, 1) := by decide +kernel
theorem dX8_setClass_80 : decode cX8_setClass 80 = .ok (.if_icmp .ne 28, 3) := by decide +kernel
theorem dX8_setClass_83 : decode cX8_setClass 83 = .ok (.iload 4, 2) := by decide +kernel
theorem dX8_setClass_85 : decode cX8_setClass 85 = .ok (.iconst 1, 1) := by decide +kernel
theorem dX8_setClass_86 : decode cX8_setClass 86 = .ok (.if_icmp .ne 22, 3) := by decide +kernel
theorem dX8_setClass_89 : decode cX8_setClass 89 = .ok (.aload 5, 2) := by decide +kernel
theorem dX8_setClass_91 : decode cX8_setClass 91 = .ok (.iload_n 2, 1) := by decide +kernel
theorem dX8_setClass_92 : decode cX8_setClass 92 = .ok (.invokevirtual 159, 3) := by decide +kernel
theorem dX8_setClass_95 : decode cX8_setClass 95 = .ok (.ifCond .eq 13, 3) := by decide +kernel
theorem dX8_setClass_98 : decode cX8_setClass 98 = .ok (.new 136, 3) := by decide +kernel
theorem dX8_setClass_101 : decode cX8_setClass 101 = .ok (.dup, 1) := by decide +kernel
theorem dX8_setClass_102 : decode cX8_setClass 102 = .ok (.ldc 187, 2) := by decide +kernel
theorem dX8_setClass_104 : decode cX8_setClass 104 = .ok (.invokespecial 140, 3) := by decide +kernel
theorem dX8_setClass_107 : decode cX8_setClass 107 = .ok (.athrow, 1) := by decide +kernel
theorem dX8_setClass_108 : decode cX8_setClass 108 = .ok (.iload_n 3, 1) := by decide +kernel
theorem dX8_setClass_109 : decode cX8_setClass 109 = .ok (.iconst 2, 1) := by decide +kernel
theorem dX8_setClass_110 : decode cX8_setClass 110 = .ok (.if_icmp .ne 30, 3) := by decide +kernel
theorem dX8_setClass_113 : decode cX8_setClass 113 = .ok (.iload 4, 2) := by decide +kernel
theorem dX8_setClass_115 : decode cX8_setClass 115 = .ok (.ifCond .ne 25, 3) := by decide +kernel
theorem dX8_setClass_118 : decode cX8_setClass 118 = .ok (.aload 5, 2) := by decide +kernel
theorem dX8_setClass_120 : decode cX8_setClass 120 = .ok (.getfield 64, 3) := by decide +kernel
theorem dX8_setClass_123 : decode cX8_setClass 123 = .ok (.iload_n 2, 1) := by decide +kernel
theorem dX8_setClass_124 : decode cX8_setClass 124 = .ok (.invokevirtual 189, 3) := by decide +kernel
theorem dX8_setClass_127 : decode cX8_setClass 127 = .ok (.ifCond .eq 13, 3) := by decide +kernel
theorem dX8_setClass_130 : decode cX8_setClass 130 = .ok (.new 136, 3) := by decide +kernel
theorem dX8_setClass_133 : decode cX8_setClass 133 = .ok (.dup, 1) := by decide +kernel
theorem dX8_setClass_134 : decode cX8_setClass 134 = .ok (.ldc 192, 2) := by decide +kernel
theorem dX8_setClass_136 : decode cX8_setClass 136 = .ok (.invokespecial 140, 3) := by decide +kernel
theorem dX8_setClass_139 : decode cX8_setClass 139 = .ok (.athrow, 1) := by decide +kernel
theorem dX8_setClass_140 : decode cX8_setClass 140 = .ok (.aload_n 0, 1) := by decide +kernel
theorem dX8_setClass_141 : decode cX8_setClass 141 = .ok (.invokevirtual 141, 3) := by decide +kernel
theorem dX8_setClass_144 : decode cX8_setClass 144 = .ok (.aload 5, 2) := by decide +kernel
theorem dX8_setClass_146 : decode cX8_setClass 146 = .ok (.iload_n 2, 1) := by decide +kernel
theorem dX8_setClass_147 : decode cX8_setClass 147 = .ok (.iload_n 3, 1) := by decide +kernel
theorem dX8_setClass_148 : decode cX8_setClass 148 = .ok (.invokevirtual 194, 3) := by decide +kernel
theorem dX8_setClass_151 : decode cX8_setClass 151 = .ok (.istore 6, 2) := by decide +kernel
theorem dX8_setClass_153 : decode cX8_setClass 153 = .ok (.aload 5, 2) := by decide +kernel
theorem dX8_setClass_155 : decode cX8_setClass 155 = .ok (.iload_n 2, 1) := by decide +kernel
theorem dX8_setClass_156 : decode cX8_setClass 156 = .ok (.iload_n 3, 1) := by decide +kernel
theorem dX8_setClass_157 : decode cX8_setClass 157 = .ok (.iload 4, 2) := by decide +kernel
theorem dX8_setClass_159 : decode cX8_setClass 159 = .ok (.invokevirtual 84, 3) := by decide +kernel
theorem dX8_setClass_162 : decode cX8_setClass 162 = .ok (.iload 6, 2) := by decide +kernel
theorem dX8_setClass_164 : decode cX8_setClass 164 = .ok (.ireturn, 1) := by decide +kernel
theorem dX8_setMember_0 : decode cX8_setMember 0 = .ok (.aload_n 0, 1) := by decide +kernel
theorem dX8_setMember_1 : decode cX8_setMember 1 = .ok (.iload_n 1, 1) := by decide +kernel
theorem dX8_setMember_2 : decode cX8_setMember 2 = .ok (.iload_n 2, 1) := by decide +kernel
theorem dX8_setMember_3 : decode cX8_setMember 3 = .ok (.invokevirtual 256, 3) := by decide +kernel
theorem dX8_setMember_6 : decode cX8_setMember 6 = .ok (.astore 5, 2) := by decide +kernel
theorem dX8_setMember_8 : decode cX8_setMember 8 = .ok (.aload 5, 2) := by decide +kernel
theorem dX8_setMember_10 : decode cX8_setMember 10 = .ok (.iload_n 2, 1) := by decide +kernel
theorem dX8_setMember_11 : decode cX8_setMember 11 = .ok (.iload_n 3, 1) := by decide +kernel
theorem dX8_setMember_12 : decode cX8_setMember 12 = .ok (.iload 4, 2) := by decide +kernel
theorem dX8_setMember_14 : decode cX8_setMember 14 = .ok (.invokestatic 262, 3) := by decide +kernel
theorem dX8_setMember_17 : decode cX8_setMember 17 = .ok (.ifCond .ne 13, 3) := by decide +kernel
theorem dX8_setMember_20 : decode cX8_setMember 20 = .ok (.new 122, 3) := by decide +kernel
theorem dX8_setMember_23 : decode cX8_setMember 23 = .ok (.dup, 1) := by decide +kernel
theorem dX8_setMember_24 : decode cX8_setMember 24 = .ok (.ldc 178, 2) := by decide +kernel
theorem dX8_setMember_26 : decode cX8_setMember 26 = .ok (.invokespecial 126, 3) := by decide +kernel
theorem dX8_setMember_29 : decode cX8_setMember 29 = .ok (.athrow, 1) := by decide +kernel
theorem dX8_setMember_30 : decode cX8_setMember 30 = .ok (.aload_n 0, 1) := by decide +kernel
theorem dX8_setMember_31 : decode cX8_setMember 31 = .ok (.invokevirtual 141, 3) := by decide +kernel
theorem dX8_setMember_34 : decode cX8_setMember 34 = .ok (.aload 5, 2) := by decide +kernel
theorem dX8_setMember_36 : decode cX8_setMember 36 = .ok (.getfield 64, 3) := by decide +kernel
theorem dX8_setMember_39 : decode cX8_setMember 39 = .ok (.iload_n 2, 1) := by decide +kernel
theorem dX8_setMember_40 : decode cX8_setMember 40 = .ok (.iload_n 3, 1) := by decide +kernel
theorem dX8_setMember_41 : decode cX8_setMember 41 = .ok (.invokevirtual 265, 3) := by decide +kernel
theorem dX8_setMember_44 : decode cX8_setMember 44 = .ok (.istore 6, 2) := by decide +kernel
theorem dX8_setMember_46 : decode cX8_setMember 46 = .ok (.aload 5, 2) := by decide +kernel
theorem dX8_setMember_48 : decode cX8_setMember 48 = .ok (.getfield 64, 3) := by decide +kernel
theorem dX8_setMember_51 : decode cX8_setMember 51 = .ok (.iload_n 2, 1) := by decide +kernel
theorem dX8_setMember_52 : decode cX8_setMember 52 = .ok (.iload_n 3, 1) := by decide +kernel
theorem dX8_setMember_53 : decode cX8_setMember 53 = .ok (.iload 4, 2) := by decide +kernel
theorem dX8_setMember_55 : decode cX8_setMember 55 = .ok (.invokevirtual 94, 3) := by decide +kernel
theorem dX8_setMember_58 : decode cX8_setMember 58 = .ok (.iload 6, 2) := by decide +kernel
theorem dX8_setMember_60 : decode cX8_setMember 60 = .ok (.ireturn, 1) := by decide +kernel
theorem dX8_target_0 : decode cX8_target 0 = .ok (.aload_n 0, 1) := by decide +kernel
theorem dX8_target_1 : decode cX8_target 1 = .ok (.iload_n 1, 1) := by decide +kernel
theorem dX8_target_2 : decode cX8_target 2 = .ok (.invokevirtual 352, 3) := by decide +kernel
theorem dX8_target_5 : decode cX8_target 5 = .ok (.astore_n 3, 1) := by decide +kernel
theorem dX8_target_6 : decode cX8_target 6 = .ok (.iload_n 2, 1) := by decide +kernel
theorem dX8_target_7 : decode cX8_target 7 = .ok (.invokestatic 377, 3) := by decide +kernel
theorem dX8_target_10 : decode cX8_target 10 = .ok (.aload_n 0, 1) := by decide +kernel
theorem dX8_target_11 : decode cX8_target 11 = .ok (.aload_n 3, 1) := by decide +kernel
theorem dX8_target_12 : decode cX8_target 12 = .ok (.iload_n 2, 1) := by decide +kernel
theorem dX8_target_13 : decode cX8_target 13 = .ok (.invokevirtual 385, 3) := by decide +kernel
theorem dX8_target_16 : decode cX8_target 16 = .ok (.ireturn, 1) := by decide +kernel
theorem dX8_undo_0 : decode cX8_undo 0 = .ok (.aload_n 0, 1) := by decide +kernel
theorem dX8_undo_1 : decode cX8_undo 1 = .ok (.getfield 24, 3) := by decide +kernel
theorem dX8_undo_4 : decode cX8_undo 4 = .ok (.ifCond .ne 14, 3) := by decide +kernel
theorem dX8_undo_7 : decode cX8_undo 7 = .ok (.new 136, 3) := by decide +kernel
theorem dX8_undo_10 : decode cX8_undo 10 = .ok (.dup, 1) := by decide +kernel
theorem dX8_undo_11 : decode cX8_undo 11 = .ok (.ldc_w 442, 3) := by decide +kernel
theorem dX8_undo_14 : decode cX8_undo 14 = .ok (.invokespecial 140, 3) := by decide +kernel
theorem dX8_undo_17 : decode cX8_undo 17 = .ok (.athrow, 1) := by decide +kernel
theorem dX8_undo_18 : decode cX8_undo 18 = .ok (.aload_n 0, 1) := by decide +kernel
theorem dX8_undo_19 : decode cX8_undo 19 = .ok (.dup, 1) := by decide +kernel
theorem dX8_undo_20 : decode cX8_undo 20 = .ok (.getfield 24, 3) := by decide +kernel
theorem dX8_undo_23 : decode cX8_undo 23 = .ok (.iconst 1, 1) := by decide +kernel
theorem dX8_undo_24 : decode cX8_undo 24 = .ok (.isub, 1) := by decide +kernel
theorem dX8_undo_25 : decode cX8_undo 25 = .ok (.putfield 24, 3) := by decide +kernel
theorem dX8_undo_28 : decode cX8_undo 28 = .ok (.aload_n 0, 1) := by decide +kernel
theorem dX8_undo_29 : decode cX8_undo 29 = .ok (.getfield 10, 3) := by decide +kernel
theorem dX8_undo_32 : decode cX8_undo 32 = .ok (.aload_n 0, 1) := by decide +kernel
theorem dX8_undo_33 : decode cX8_undo 33 = .ok (.getfield 16, 3) := by decide +kernel
theorem dX8_undo_36 : decode cX8_undo 36 = .ok (.aload_n 0, 1) := by decide +kernel
theorem dX8_undo_37 : decode cX8_undo 37 = .ok (.getfield 20, 3) := by decide +kernel
theorem dX8_undo_40 : decode cX8_undo 40 = .ok (.aload_n 0, 1) := by decide +kernel
theorem dX8_undo_41 : decode cX8_undo 41 = .ok (.getfield 24, 3) := by decide +kernel
theorem dX8_undo_44 : decode cX8_undo 44 = .ok (.iadd, 1) := by decide +kernel
theorem dX8_undo_45 : decode cX8_undo 45 = .ok (.iconst 5, 1) := by decide +kernel
theorem dX8_undo_46 : decode cX8_undo 46 = .ok (.irem, 1) := by decide +kernel
theorem dX8_undo_47 : decode cX8_undo 47 = .ok (.aaload, 1) := by decide +kernel
theorem dX8_undo_48 : decode cX8_undo 48 = .ok (.invokevirtual 444, 3) := by decide +kernel
theorem dX8_undo_51 : decode cX8_undo 51 = .ok (.aload_n 0, 1) := by decide +kernel
theorem dX8_undo_52 : decode cX8_undo 52 = .ok (.getfield 24, 3) := by decide +kernel
theorem dX8_undo_55 : decode cX8_undo 55 = .ok (.ireturn, 1) := by decide +kernel
theorem dX8_verdict_0 : decode cX8_verdict 0 = .ok (.aload_n 0, 1) := by decide +kernel
theorem dX8_verdict_1 : decode cX8_verdict 1 = .ok (.aload_n 0, 1) := by decide +kernel
theorem dX8_verdict_2 : decode cX8_verdict 2 = .ok (.iload_n 1, 1) := by decide +kernel
theorem dX8_verdict_3 : decode cX8_verdict 3 = .ok (.invokevirtual 352, 3) := by decide +kernel
theorem dX8_verdict_6 : decode cX8_verdict 6 = .ok (.invokevirtual 389, 3) := by decide +kernel
theorem dX8_verdict_9 : decode cX8_verdict 9 = .ok (.ireturn, 1) := by decide +kernel
theorem dX9_within_0 : decode cX9_within 0 = .ok (.iload_n 0, 1) := by decide +kernel
theorem dX9_within_1 : decode cX9_within 1 = .ok (.iload_n 1, 1) := by decide +kernel
theorem dX9_within_2 : decode cX9_within 2 = .ok (.if_icmp .lt 12, 3) := by decide +kernel
theorem dX9_within_5 : decode cX9_within 5 = .ok (.iload_n 0, 1) := by decide +kernel
theorem dX9_within_6 : decode cX9_within 6 = .ok (.iload_n 2, 1) := by decide +kernel
theorem dX9_within_7 : decode cX9_within 7 = .ok (.if_icmp .gt 7, 3) := by decide +kernel
theorem dX9_within_10 : decode cX9_within 10 = .ok (.iconst 1, 1) := by decide +kernel
theorem dX9_within_11 : decode cX9_within 11 = .ok (.goto 4, 3) := by decide +kernel
theorem dX9_within_14 : decode cX9_within 14 = .ok (.iconst 0, 1) := by decide +kernel
theorem dX9_within_15 : decode cX9_within 15 = .ok (.ireturn, 1) := by decide +kernel
theorem dX9_makes_0 : decode cX9_makes 0 = .ok (.aload_n 0, 1) := by decide +kernel
theorem dX9_makes_1 : decode cX9_makes 1 = .ok (.getfield 22, 3) := by decide +kernel
theorem dX9_makes_4 : decode cX9_makes 4 = .ok (.iconst 0, 1) := by decide +kernel
theorem dX9_makes_5 : decode cX9_makes 5 = .ok (.iload_n 1, 1) := by decide +kernel
theorem dX9_makes_6 : decode cX9_makes 6 = .ok (.iastore, 1) := by decide +kernel
theorem dX9_makes_7 : decode cX9_makes 7 = .ok (.aload_n 0, 1) := by decide +kernel
theorem dX9_makes_8 : decode cX9_makes 8 = .ok (.getfield 22, 3) := by decide +kernel
theorem dX9_makes_11 : decode cX9_makes 11 = .ok (.iconst 1, 1) := by decide +kernel
theorem dX9_makes_12 : decode cX9_makes 12 = .ok (.iload_n 2, 1) := by decide +kernel
theorem dX9_makes_13 : decode cX9_makes 13 = .ok (.iastore, 1) := by decide +kernel
theorem dX9_makes_14 : decode cX9_makes 14 = .ok (.aload_n 0, 1) := by decide +kernel
theorem dX9_makes_15 : decode cX9_makes 15 = .ok (.getfield 22, 3) := by decide +kernel
theorem dX9_makes_18 : decode cX9_makes 18 = .ok (.iconst 2, 1) := by decide +kernel
theorem dX9_makes_19 : decode cX9_makes 19 = .ok (.iload_n 1, 1) := by decide +kernel
theorem dX9_makes_20 : decode cX9_makes 20 = .ok (.iconst 3, 1) := by decide +kernel
theorem dX9_makes_21 : decode cX9_makes 21 = .ok (.if_icmp .ge 7, 3) := by decide +kernel
theorem dX9_makes_24 : decode cX9_makes 24 = .ok (.iload_n 3, 1) := by decide +kernel
theorem dX9_makes_25 : decode cX9_makes 25 = .ok (.goto 5, 3) := by decide +kernel
theorem dX9_makes_28 : decode cX9_makes 28 = .ok (.bipush (-2), 2) := by decide +kernel
theorem dX9_makes_30 : decode cX9_makes 30 = .ok (.iastore, 1) := by decide +kernel
theorem dX9_makes_31 : decode cX9_makes 31 = .ok (.aload_n 0, 1) := by decide +kernel
theorem dX9_makes_32 : decode cX9_makes 32 = .ok (.getfield 22, 3) := by decide +kernel
theorem dX9_makes_35 : decode cX9_makes 35 = .ok (.iconst 3, 1) := by decide +kernel
theorem dX9_makes_36 : decode cX9_makes 36 = .ok (.iload 4, 2) := by decide +kernel
theorem dX9_makes_38 : decode cX9_makes 38 = .ok (.iastore, 1) := by decide +kernel
theorem dX9_makes_39 : decode cX9_makes 39 = .ok (.aload_n 0, 1) := by decide +kernel
theorem dX9_makes_40 : decode cX9_makes 40 = .ok (.getfield 22, 3) := by decide +kernel
theorem dX9_makes_43 : decode cX9_makes 43 = .ok (.iconst 4, 1) := by decide +kernel
theorem dX9_makes_44 : decode cX9_makes 44 = .ok (.iconst 0, 1) := by decide +kernel
theorem dX9_makes_45 : decode cX9_makes 45 = .ok (.iastore, 1) := by decide +kernel
theorem dX9_makes_46 : decode cX9_makes 46 = .ok (.aload_n 0, 1) := by decide +kernel
theorem dX9_makes_47 : decode cX9_makes 47 = .ok (.getfield 22, 3) := by decide +kernel
theorem dX9_makes_50 : decode cX9_makes 50 = .ok (.iconst 5, 1) := by decide +kernel
theorem dX9_makes_51 : decode cX9_makes 51 = .ok (.iload_n 1, 1) := by decide +kernel
theorem dX9_makes_52 : decode cX9_makes 52 = .ok (.iconst 2, 1) := by decide +kernel
theorem dX9_makes_53 : decode cX9_makes 53 = .ok (.if_icmp .ne 8, 3) := by decide +kernel
theorem dX9_makes_56 : decode cX9_makes 56 = .ok (.iload 5, 2) := by decide +kernel
theorem dX9_makes_58 : decode cX9_makes 58 = .ok (.goto 5, 3) := by decide +kernel
theorem dX9_makes_61 : decode cX9_makes 61 = .ok (.bipush (-2), 2) := by decide +kernel
theorem dX9_makes_63 : decode cX9_makes 63 = .ok (.iastore, 1) := by decide +kernel
theorem dX9_makes_64 : decode cX9_makes 64 = .ok (.aload_n 0, 1) := by decide +kernel
theorem dX9_makes_65 : decode cX9_makes 65 = .ok (.getfield 22, 3) := by decide +kernel
theorem dX9_makes_68 : decode cX9_makes 68 = .ok (.bipush 6, 2) := by decide +kernel
theorem dX9_makes_70 : decode cX9_makes 70 = .ok (.iload_n 1, 1) := by decide +kernel
theorem dX9_makes_71 : decode cX9_makes 71 = .ok (.iconst 2, 1) := by decide +kernel
theorem dX9_makes_72 : decode cX9_makes 72 = .ok (.if_icmp .ne 13, 3) := by decide +kernel
theorem dX9_makes_75 : decode cX9_makes 75 = .ok (.iload 5, 2) := by decide +kernel
theorem dX9_makes_77 : decode cX9_makes 77 = .ok (.ifCond .le 8, 3) := by decide +kernel
theorem dX9_makes_80 : decode cX9_makes 80 = .ok (.iload 6, 2) := by decide +kernel
theorem dX9_makes_82 : decode cX9_makes 82 = .ok (.goto 5, 3) := by decide +kernel
theorem dX9_makes_85 : decode cX9_makes 85 = .ok (.bipush (-2), 2) := by decide +kernel
theorem dX9_makes_87 : decode cX9_makes 87 = .ok (.iastore, 1) := by decide +kernel
theorem dX9_makes_88 : decode cX9_makes 88 = .ok (.aload_n 0, 1) := by decide +kernel
theorem dX9_makes_89 : decode cX9_makes 89 = .ok (.getfield 22, 3) := by decide +kernel
theorem dX9_makes_92 : decode cX9_makes 92 = .ok (.bipush 7, 2) := by decide +kernel
theorem dX9_makes_94 : decode cX9_makes 94 = .ok (.iload_n 1, 1) := by decide +kernel
theorem dX9_makes_95 : decode cX9_makes 95 = .ok (.iconst 2, 1) := by decide +kernel
theorem dX9_makes_96 : decode cX9_makes 96 = .ok (.if_icmp .ne 14, 3) := by decide +kernel
theorem dX9_makes_99 : decode cX9_makes 99 = .ok (.iload 5, 2) := by decide +kernel
theorem dX9_makes_101 : decode cX9_makes 101 = .ok (.iconst 1, 1) := by decide +kernel
theorem dX9_makes_102 : decode cX9_makes 102 = .ok (.if_icmp .le 8, 3) := by decide +kernel
theorem dX9_makes_105 : decode cX9_makes 105 = .ok (.iload 7, 2) := by decide +kernel
theorem dX9_makes_107 : decode cX9_makes 107 = .ok (.goto 5, 3) := by decide +kernel
theorem dX9_makes_110 : decode cX9_makes 110 = .ok (.bipush (-2), 2) := by decide +kernel
theorem dX9_makes_112 : decode cX9_makes 112 = .ok (.iastore, 1) := by decide +kernel
theorem dX9_makes_113 : decode cX9_makes 113 = .ok (.return_, 1) := by decide +kernel
theorem dX9_noReference_0 : decode cX9_noReference 0 = .ok (.iconst 0, 1) := by decide +kernel
theorem dX9_noReference_1 : decode cX9_noReference 1 = .ok (.istore_n 1, 1) := by decide +kernel
theorem dX9_noReference_2 : decode cX9_noReference 2 = .ok (.iload_n 1, 1) := by decide +kernel
theorem dX9_noReference_3 : decode cX9_noReference 3 = .ok (.bipush 8, 2) := by decide +kernel
theorem dX9_noReference_5 : decode cX9_noReference 5 = .ok (.if_icmp .ge 17, 3) := by decide +kernel
theorem dX9_noReference_8 : decode cX9_noReference 8 = .ok (.aload_n 0, 1) := by decide +kernel
theorem dX9_noReference_9 : decode cX9_noReference 9 = .ok (.getfield 25, 3) := by decide +kernel
theorem dX9_noReference_12 : decode cX9_noReference 12 = .ok (.iload_n 1, 1) := by decide +kernel
theorem dX9_noReference_13 : decode cX9_noReference 13 = .ok (.bipush (-2), 2) := by decide +kernel
theorem dX9_noReference_15 : decode cX9_noReference 15 = .ok (.iastore, 1) := by decide +kernel
theorem dX9_noReference_16 : decode cX9_noReference 16 = .ok (.iinc 1 1, 3) := by decide +kernel
theorem dX9_noReference_19 : decode cX9_noReference 19 = .ok (.goto (-17), 3) := by decide +kernel
theorem dX9_noReference_22 : decode cX9_noReference 22 = .ok (.aload_n 0, 1) := by decide +kernel
theorem dX9_noReference_23 : decode cX9_noReference 23 = .ok (.getfield 25, 3) := by decide +kernel
theorem dX9_noReference_26 : decode cX9_noReference 26 = .ok (.iconst 0, 1) := by decide +kernel
theorem dX9_noReference_27 : decode cX9_noReference 27 = .ok (.iconst 0, 1) := by decide +kernel
theorem dX9_noReference_28 : decode cX9_noReference 28 = .ok (.iastore, 1) := by decide +kernel
theorem dX9_noReference_29 : decode cX9_noReference 29 = .ok (.return_, 1) := by decide +kernel
theorem dX9_isVersion_0 : decode cX9_isVersion 0 = .ok (.iload_n 0, 1) := by decide +kernel
theorem dX9_isVersion_1 : decode cX9_isVersion 1 = .ok (.iconst 0, 1) := by decide +kernel
theorem dX9_isVersion_2 : decode cX9_isVersion 2 = .ok (.iconst 1, 1) := by decide +kernel
theorem dX9_isVersion_3 : decode cX9_isVersion 3 = .ok (.invokestatic 66, 3) := by decide +kernel
theorem dX9_isVersion_6 : decode cX9_isVersion 6 = .ok (.ireturn, 1) := by decide +kernel
theorem dX9_at_0 : decode cX9_at 0 = .ok (.sipush 481, 3) := by decide +kernel
theorem dX9_at_3 : decode cX9_at 3 = .ok (.iload_n 0, 1) := by decide +kernel
theorem dX9_at_4 : decode cX9_at 4 = .ok (.imul, 1) := by decide +kernel
theorem dX9_at_5 : decode cX9_at 5 = .ok (.bipush 8, 2) := by decide +kernel
theorem dX9_at_7 : decode cX9_at 7 = .ok (.iload_n 1, 1) := by decide +kernel
theorem dX9_at_8 : decode cX9_at 8 = .ok (.imul, 1) := by decide +kernel
theorem dX9_at_9 : decode cX9_at 9 = .ok (.iadd, 1) := by decide +kernel
theorem dX9_at_10 : decode cX9_at 10 = .ok (.ireturn, 1) := by decide +kernel
theorem dX9_of_0 : decode cX9_of 0 = .ok (.aload_n 0, 1) := by decide +kernel
theorem dX9_of_1 : decode cX9_of 1 = .ok (.getfield 7, 3) := by decide +kernel
theorem dX9_of_4 : decode cX9_of 4 = .ok (.iload_n 1, 1) := by decide +kernel
theorem dX9_of_5 : decode cX9_of 5 = .ok (.iload_n 2, 1) := by decide +kernel
theorem dX9_of_6 : decode cX9_of 6 = .ok (.invokestatic 48, 3) := by decide +kernel
theorem dX9_of_9 : decode cX9_of 9 = .ok (.iload_n 3, 1) := by decide +kernel
theorem dX9_of_10 : decode cX9_of 10 = .ok (.iadd, 1) := by decide +kernel
theorem dX9_of_11 : decode cX9_of 11 = .ok (.iaload, 1) := by decide +kernel
theorem dX9_of_12 : decode cX9_of 12 = .ok (.ireturn, 1) := by decide +kernel
theorem dX9_isClass_0 : decode cX9_isClass 0 = .ok (.iload_n 1, 1) := by decide +kernel
theorem dX9_isClass_1 : decode cX9_isClass 1 = .ok (.invokestatic 70, 3) := by decide +kernel
theorem dX9_isClass_4 : decode cX9_isClass 4 = .ok (.ifCond .eq 28, 3) := by decide +kernel
theorem dX9_isClass_7 : decode cX9_isClass 7 = .ok (.iload_n 2, 1) := by decide +kernel
theorem dX9_isClass_8 : decode cX9_isClass 8 = .ok (.iconst 0, 1) := by decide +kernel
theorem dX9_isClass_9 : decode cX9_isClass 9 = .ok (.bipush 9, 2) := by decide +kernel
theorem dX9_isClass_11 : decode cX9_isClass 11 = .ok (.invokestatic 66, 3) := by decide +kernel
theorem dX9_isClass_14 : decode cX9_isClass 14 = .ok (.ifCond .eq 18, 3) := by decide +kernel
theorem dX9_isClass_17 : decode cX9_isClass 17 = .ok (.aload_n 0, 1) := by decide +kernel
theorem dX9_isClass_18 : decode cX9_isClass 18 = .ok (.iload_n 1, 1) := by decide +kernel
theorem dX9_isClass_19 : decode cX9_isClass 19 = .ok (.iload_n 2, 1) := by decide +kernel
theorem dX9_isClass_20 : decode cX9_isClass 20 = .ok (.iconst 0, 1) := by decide +kernel
theorem dX9_isClass_21 : decode cX9_isClass 21 = .ok (.invokevirtual 73, 3) := by decide +kernel
theorem dX9_isClass_24 : decode cX9_isClass 24 = .ok (.iconst 1, 1) := by decide +kernel
theorem dX9_isClass_25 : decode cX9_isClass 25 = .ok (.if_icmp .ne 7, 3) := by decide +kernel
theorem dX9_isClass_28 : decode cX9_isClass 28 = .ok (.iconst 1, 1) := by decide +kernel
theorem dX9_isClass_29 : decode cX9_isClass 29 = .ok (.goto 4, 3) := by decide +kernel
theorem dX9_isClass_32 : decode cX9_isClass 32 = .ok (.iconst 0, 1) := by decide +kernel
theorem dX9_isClass_33 : decode cX9_isClass 33 = .ok (.ireturn, 1) := by decide +kernel
theorem dX9_isOpenClass_0 : decode cX9_isOpenClass 0 = .ok (.aload_n 0, 1) := by decide +kernel
theorem dX9_isOpenClass_1 : decode cX9_isOpenClass 1 = .ok (.iload_n 1, 1) := by decide +kernel
theorem dX9_isOpenClass_2 : decode cX9_isOpenClass 2 = .ok (.iload_n 2, 1) := by decide +kernel
theorem dX9_isOpenClass_3 : decode cX9_isOpenClass 3 = .ok (.iconst 5, 1) := by decide +kernel
theorem dX9_isOpenClass_4 : decode cX9_isOpenClass 4 = .ok (.invokevirtual 73, 3) := by decide +kernel
theorem dX9_isOpenClass_7 : decode cX9_isOpenClass 7 = .ok (.iconst 1, 1) := by decide +kernel
theorem dX9_isOpenClass_8 : decode cX9_isOpenClass 8 = .ok (.if_icmp .eq 19, 3) := by decide +kernel
theorem dX9_isOpenClass_11 : decode cX9_isOpenClass 11 = .ok (.aload_n 0, 1) := by decide +kernel
theorem dX9_isOpenClass_12 : decode cX9_isOpenClass 12 = .ok (.iload_n 1, 1) := by decide +kernel
theorem dX9_isOpenClass_13 : decode cX9_isOpenClass 13 = .ok (.iload_n 2, 1) := by decide +kernel
theorem dX9_isOpenClass_14 : decode cX9_isOpenClass 14 = .ok (.iconst 4, 1) := by decide +kernel
theorem dX9_isOpenClass_15 : decode cX9_isOpenClass 15 = .ok (.invokevirtual 73, 3) := by decide +kernel
theorem dX9_isOpenClass_18 : decode cX9_isOpenClass 18 = .ok (.aload_n 0, 1) := by decide +kernel
theorem dX9_isOpenClass_19 : decode cX9_isOpenClass 19 = .ok (.getfield 22, 3) := by decide +kernel
theorem dX9_isOpenClass_22 : decode cX9_isOpenClass 22 = .ok (.iconst 3, 1) := by decide +kernel
theorem dX9_isOpenClass_23 : decode cX9_isOpenClass 23 = .ok (.iaload, 1) := by decide +kernel
theorem dX9_isOpenClass_24 : decode cX9_isOpenClass 24 = .ok (.if_icmp .ne 7, 3) := by decide +kernel
theorem dX9_isOpenClass_27 : decode cX9_isOpenClass 27 = .ok (.iconst 1, 1) := by decide +kernel
theorem dX9_isOpenClass_28 : decode cX9_isOpenClass 28 = .ok (.goto 4, 3) := by decide +kernel
theorem dX9_isOpenClass_31 : decode cX9_isOpenClass 31 = .ok (.iconst 0, 1) := by decide +kernel
theorem dX9_isOpenClass_32 : decode cX9_isOpenClass 32 = .ok (.ireturn, 1) := by decide +kernel
theorem dX9_memberMany_0 : decode cX9_memberMany 0 = .ok (.aload_n 0, 1) := by decide +kernel
theorem dX9_memberMany_1 : decode cX9_memberMany 1 = .ok (.getfield 7, 3) := by decide +kernel
theorem dX9_memberMany_4 : decode cX9_memberMany 4 = .ok (.sipush 481, 3) := by decide +kernel
theorem dX9_memberMany_7 : decode cX9_memberMany 7 = .ok (.iload_n 1, 1) := by decide +kernel
theorem dX9_memberMany_8 : decode cX9_memberMany 8 = .ok (.imul, 1) := by decide +kernel
theorem dX9_memberMany_9 : decode cX9_memberMany 9 = .ok (.bipush 80, 2) := by decide +kernel
theorem dX9_memberMany_11 : decode cX9_memberMany 11 = .ok (.iadd, 1) := by decide +kernel
theorem dX9_memberMany_12 : decode cX9_memberMany 12 = .ok (.iaload, 1) := by decide +kernel
theorem dX9_memberMany_13 : decode cX9_memberMany 13 = .ok (.ireturn, 1) := by decide +kernel
theorem dX9_member_0 : decode cX9_member 0 = .ok (.sipush 481, 3) := by decide +kernel
theorem dX9_member_3 : decode cX9_member 3 = .ok (.iload_n 0, 1) := by decide +kernel
theorem dX9_member_4 : decode cX9_member 4 = .ok (.imul, 1) := by decide +kernel
theorem dX9_member_5 : decode cX9_member 5 = .ok (.bipush 81, 2) := by decide +kernel
theorem dX9_member_7 : decode cX9_member 7 = .ok (.iadd, 1) := by decide +kernel
theorem dX9_member_8 : decode cX9_member 8 = .ok (.bipush 10, 2) := by decide +kernel
theorem dX9_member_10 : decode cX9_member 10 = .ok (.iload_n 1, 1) := by decide +kernel
theorem dX9_member_11 : decode cX9_member 11 = .ok (.imul, 1) := by decide +kernel
theorem dX9_member_12 : decode cX9_member 12 = .ok (.iadd, 1) := by decide +kernel
theorem dX9_member_13 : decode cX9_member 13 = .ok (.ireturn, 1) := by decide +kernel
theorem dX9_its_0 : decode cX9_its 0 = .ok (.aload_n 0, 1) := by decide +kernel
theorem dX9_its_1 : decode cX9_its 1 = .ok (.getfield 7, 3) := by decide +kernel
theorem dX9_its_4 : decode cX9_its 4 = .ok (.iload_n 1, 1) := by decide +kernel
theorem dX9_its_5 : decode cX9_its 5 = .ok (.iload_n 2, 1) := by decide +kernel
theorem dX9_its_6 : decode cX9_its 6 = .ok (.invokestatic 40, 3) := by decide +kernel
theorem dX9_its_9 : decode cX9_its 9 = .ok (.iload_n 3, 1) := by decide +kernel
theorem dX9_its_10 : decode cX9_its 10 = .ok (.iadd, 1) := by decide +kernel
theorem dX9_its_11 : decode cX9_its 11 = .ok (.iaload, 1) := by decide +kernel
theorem dX9_its_12 : decode cX9_its 12 = .ok (.ireturn, 1) := by decide +kernel
theorem dX9_hasParameters_0 : decode cX9_hasParameters 0 = .ok (.aload_n 0, 1) := by decide +kernel
theorem dX9_hasParameters_1 : decode cX9_hasParameters 1 = .ok (.iload_n 1, 1) := by decide +kernel
theorem dX9_hasParameters_2 : decode cX9_hasParameters 2 = .ok (.iload_n 2, 1) := by decide +kernel
theorem dX9_hasParameters_3 : decode cX9_hasParameters 3 = .ok (.bipush 6, 2) := by decide +kernel
theorem dX9_hasParameters_5 : decode cX9_hasParameters 5 = .ok (.invokevirtual 102, 3) := by decide +kernel
theorem dX9_hasParameters_8 : decode cX9_hasParameters 8 = .ok (.iload_n 3, 1) := by decide +kernel
theorem dX9_hasParameters_9 : decode cX9_hasParameters 9 = .ok (.if_icmp .ne 43, 3) := by decide +kernel
theorem dX9_hasParameters_12 : decode cX9_hasParameters 12 = .ok (.iload_n 3, 1) := by decide +kernel
theorem dX9_hasParameters_13 : decode cX9_hasParameters 13 = .ok (.iconst 1, 1) := by decide +kernel
theorem dX9_hasParameters_14 : decode cX9_hasParameters 14 = .ok (.if_icmp .lt 16, 3) := by decide +kernel
theorem dX9_hasParameters_17 : decode cX9_hasParameters 17 = .ok (.aload_n 0, 1) := by decide +kernel
theorem dX9_hasParameters_18 : decode cX9_hasParameters 18 = .ok (.iload_n 1, 1) := by decide +kernel
theorem dX9_hasParameters_19 : decode cX9_hasParameters 19 = .ok (.iload_n 2, 1) := by decide +kernel
theorem dX9_hasParameters_20 : decode cX9_hasParameters 20 = .ok (.bipush 7, 2) := by decide +kernel
theorem dX9_hasParameters_22 : decode cX9_hasParameters 22 = .ok (.invokevirtual 102, 3) := by decide +kernel
theorem dX9_hasParameters_25 : decode cX9_hasParameters 25 = .ok (.iload 4, 2) := by decide +kernel
theorem dX9_hasParameters_27 : decode cX9_hasParameters 27 = .ok (.if_icmp .ne 25, 3) := by decide +kernel
theorem dX9_hasParameters_30 : decode cX9_hasParameters 30 = .ok (.iload_n 3, 1) := by decide +kernel
theorem dX9_hasParameters_31 : decode cX9_hasParameters 31 = .ok (.iconst 2, 1) := by decide +kernel
theorem dX9_hasParameters_32 : decode cX9_hasParameters 32 = .ok (.if_icmp .lt 16, 3) := by decide +kernel
theorem dX9_hasParameters_35 : decode cX9_hasParameters 35 = .ok (.aload_n 0, 1) := by decide +kernel
theorem dX9_hasParameters_36 : decode cX9_hasParameters 36 = .ok (.iload_n 1, 1) := by decide +kernel
theorem dX9_hasParameters_37 : decode cX9_hasParameters 37 = .ok (.iload_n 2, 1) := by decide +kernel
theorem dX9_hasParameters_38 : decode cX9_hasParameters 38 = .ok (.bipush 8, 2) := by decide +kernel
theorem dX9_hasParameters_40 : decode cX9_hasParameters 40 = .ok (.invokevirtual 102, 3) := by decide +kernel
theorem dX9_hasParameters_43 : decode cX9_hasParameters 43 = .ok (.iload 5, 2) := by decide +kernel
theorem dX9_hasParameters_45 : decode cX9_hasParameters 45 = .ok (.if_icmp .ne 7, 3) := by decide +kernel
theorem dX9_hasParameters_48 : decode cX9_hasParameters 48 = .ok (.iconst 1, 1) := by decide +kernel
theorem dX9_hasParameters_49 : decode cX9_hasParameters 49 = .ok (.goto 4, 3) := by decide +kernel
theorem dX9_hasParameters_52 : decode cX9_hasParameters 52 = .ok (.iconst 0, 1) := by decide +kernel
theorem dX9_hasParameters_53 : decode cX9_hasParameters 53 = .ok (.ireturn, 1) := by decide +kernel
theorem dX9_found_0 : decode cX9_found 0 = .ok (.iconst 0, 1) := by decide +kernel
theorem dX9_found_1 : decode cX9_found 1 = .ok (.istore 8, 2) := by decide +kernel
theorem dX9_found_3 : decode cX9_found 3 = .ok (.iload 8, 2) := by decide +kernel
theorem dX9_found_5 : decode cX9_found 5 = .ok (.aload_n 0, 1) := by decide +kernel
theorem dX9_found_6 : decode cX9_found 6 = .ok (.iload_n 1, 1) := by decide +kernel
theorem dX9_found_7 : decode cX9_found 7 = .ok (.invokevirtual 51, 3) := by decide +kernel
theorem dX9_found_10 : decode cX9_found 10 = .ok (.if_icmp .ge 81, 3) := by decide +kernel
theorem dX9_found_13 : decode cX9_found 13 = .ok (.aload_n 0, 1) := by decide +kernel
theorem dX9_found_14 : decode cX9_found 14 = .ok (.iload_n 1, 1) := by decide +kernel
theorem dX9_found_15 : decode cX9_found 15 = .ok (.iload 8, 2) := by decide +kernel
theorem dX9_found_17 : decode cX9_found 17 = .ok (.iconst 1, 1) := by decide +kernel
theorem dX9_found_18 : decode cX9_found 18 = .ok (.invokevirtual 102, 3) := by decide +kernel
theorem dX9_found_21 : decode cX9_found 21 = .ok (.iload_n 2, 1) := by decide +kernel
theorem dX9_found_22 : decode cX9_found 22 = .ok (.if_icmp .ne 32, 3) := by decide +kernel
theorem dX9_found_25 : decode cX9_found 25 = .ok (.aload_n 0, 1) := by decide +kernel
theorem dX9_found_26 : decode cX9_found 26 = .ok (.iload_n 1, 1) := by decide +kernel
theorem dX9_found_27 : decode cX9_found 27 = .ok (.iload 8, 2) := by decide +kernel
theorem dX9_found_29 : decode cX9_found 29 = .ok (.iconst 0, 1) := by decide +kernel
theorem dX9_found_30 : decode cX9_found 30 = .ok (.invokevirtual 102, 3) := by decide +kernel
theorem dX9_found_33 : decode cX9_found 33 = .ok (.iload_n 3, 1) := by decide +kernel
theorem dX9_found_34 : decode cX9_found 34 = .ok (.if_icmp .ne 20, 3) := by decide +kernel
theorem dX9_found_37 : decode cX9_found 37 = .ok (.aload_n 0, 1) := by decide +kernel
theorem dX9_found_38 : decode cX9_found 38 = .ok (.iload_n 1, 1) := by decide +kernel
theorem dX9_found_39 : decode cX9_found 39 = .ok (.iload 8, 2) := by decide +kernel
theorem dX9_found_41 : decode cX9_found 41 = .ok (.iconst 2, 1) := by decide +kernel
theorem dX9_found_42 : decode cX9_found 42 = .ok (.invokevirtual 102, 3) := by decide +kernel
theorem dX9_found_45 : decode cX9_found 45 = .ok (.iload 4, 2) := by decide +kernel
theorem dX9_found_47 : decode cX9_found 47 = .ok (.if_icmp .ne 7, 3) := by decide +kernel
theorem dX9_found_50 : decode cX9_found 50 = .ok (.iconst 1, 1) := by decide +kernel
theorem dX9_found_51 : decode cX9_found 51 = .ok (.goto 4, 3) := by decide +kernel
theorem dX9_found_54 : decode cX9_found 54 = .ok (.iconst 0, 1) := by decide +kernel
theorem dX9_found_55 : decode cX9_found 55 = .ok (.istore 9, 2) := by decide +kernel
theorem dX9_found_57 : decode cX9_found 57 = .ok (.iload 9, 2) := by decide +kernel
theorem dX9_found_59 : decode cX9_found 59 = .ok (.ifCond .eq 26, 3) := by decide +kernel
theorem dX9_found_62 : decode cX9_found 62 = .ok (.iload_n 3, 1) := by decide +kernel
theorem dX9_found_63 : decode cX9_found 63 = .ok (.ifCond .eq 19, 3) := by decide +kernel
theorem dX9_found_66 : decode cX9_found 66 = .ok (.aload_n 0, 1) := by decide +kernel
theorem dX9_found_67 : decode cX9_found 67 = .ok (.iload_n 1, 1) := by decide +kernel
theorem dX9_found_68 : decode cX9_found 68 = .ok (.iload 8, 2) := by decide +kernel
theorem dX9_found_70 : decode cX9_found 70 = .ok (.iload 5, 2) := by decide +kernel
theorem dX9_found_72 : decode cX9_found 72 = .ok (.iload 6, 2) := by decide +kernel
theorem dX9_found_74 : decode cX9_found 74 = .ok (.iload 7, 2) := by decide +kernel
theorem dX9_found_76 : decode cX9_found 76 = .ok (.invokevirtual 134, 3) := by decide +kernel
theorem dX9_found_79 : decode cX9_found 79 = .ok (.ifCond .eq 6, 3) := by decide +kernel
theorem dX9_found_82 : decode cX9_found 82 = .ok (.iload 8, 2) := by decide +kernel
theorem dX9_found_84 : decode cX9_found 84 = .ok (.ireturn, 1) := by decide +kernel
theorem dX9_found_85 : decode cX9_found 85 = .ok (.iinc 8 1, 3) := by decide +kernel
theorem dX9_found_88 : decode cX9_found 88 = .ok (.goto (-85), 3) := by decide +kernel
theorem dX9_found_91 : decode cX9_found 91 = .ok (.bipush (-2), 2) := by decide +kernel
theorem dX9_found_93 : decode cX9_found 93 = .ok (.ireturn, 1) := by decide +kernel
theorem dX9_ownField_0 : decode cX9_ownField 0 = .ok (.aload_n 0, 1) := by decide +kernel
theorem dX9_ownField_1 : decode cX9_ownField 1 = .ok (.iload_n 1, 1) := by decide +kernel
theorem dX9_ownField_2 : decode cX9_ownField 2 = .ok (.iload_n 2, 1) := by decide +kernel
theorem dX9_ownField_3 : decode cX9_ownField 3 = .ok (.iconst 0, 1) := by decide +kernel
theorem dX9_ownField_4 : decode cX9_ownField 4 = .ok (.iload_n 3, 1) := by decide +kernel
theorem dX9_ownField_5 : decode cX9_ownField 5 = .ok (.iconst 0, 1) := by decide +kernel
theorem dX9_ownField_6 : decode cX9_ownField 6 = .ok (.bipush (-2), 2) := by decide +kernel
theorem dX9_ownField_8 : decode cX9_ownField 8 = .ok (.bipush (-2), 2) := by decide +kernel
theorem dX9_ownField_10 : decode cX9_ownField 10 = .ok (.invokevirtual 144, 3) := by decide +kernel
theorem dX9_ownField_13 : decode cX9_ownField 13 = .ok (.istore 6, 2) := by decide +kernel
theorem dX9_ownField_15 : decode cX9_ownField 15 = .ok (.iload 6, 2) := by decide +kernel
theorem dX9_ownField_17 : decode cX9_ownField 17 = .ok (.bipush (-2), 2) := by decide +kernel
theorem dX9_ownField_19 : decode cX9_ownField 19 = .ok (.if_icmp .eq 26, 3) := by decide +kernel
theorem dX9_ownField_22 : decode cX9_ownField 22 = .ok (.iload 4, 2) := by decide +kernel
theorem dX9_ownField_24 : decode cX9_ownField 24 = .ok (.ifCond .ne 16, 3) := by decide +kernel
theorem dX9_ownField_27 : decode cX9_ownField 27 = .ok (.aload_n 0, 1) := by decide +kernel
theorem dX9_ownField_28 : decode cX9_ownField 28 = .ok (.iload_n 1, 1) := by decide +kernel
theorem dX9_ownField_29 : decode cX9_ownField 29 = .ok (.iload 6, 2) := by decide +kernel
theorem dX9_ownField_31 : decode cX9_ownField 31 = .ok (.iconst 5, 1) := by decide +kernel
theorem dX9_ownField_32 : decode cX9_ownField 32 = .ok (.invokevirtual 102, 3) := by decide +kernel
theorem dX9_ownField_35 : decode cX9_ownField 35 = .ok (.iload 5, 2) := by decide +kernel
theorem dX9_ownField_37 : decode cX9_ownField 37 = .ok (.if_icmp .ne 8, 3) := by decide +kernel
theorem dX9_ownField_40 : decode cX9_ownField 40 = .ok (.iload 6, 2) := by decide +kernel
theorem dX9_ownField_42 : decode cX9_ownField 42 = .ok (.goto 5, 3) := by decide +kernel
theorem dX9_ownField_45 : decode cX9_ownField 45 = .ok (.bipush (-2), 2) := by decide +kernel
theorem dX9_ownField_47 : decode cX9_ownField 47 = .ok (.ireturn, 1) := by decide +kernel
theorem dX9_has_0 : decode cX9_has 0 = .ok (.iload_n 0, 1) := by decide +kernel
theorem dX9_has_1 : decode cX9_has 1 = .ok (.iload_n 1, 1) := by decide +kernel
theorem dX9_has_2 : decode cX9_has 2 = .ok (.ishr, 1) := by decide +kernel
theorem dX9_has_3 : decode cX9_has 3 = .ok (.iconst 1, 1) := by decide +kernel
theorem dX9_has_4 : decode cX9_has 4 = .ok (.iand, 1) := by decide +kernel
theorem dX9_has_5 : decode cX9_has 5 = .ok (.iconst 1, 1) := by decide +kernel
theorem dX9_has_6 : decode cX9_has 6 = .ok (.if_icmp .ne 7, 3) := by decide +kernel
theorem dX9_has_9 : decode cX9_has 9 = .ok (.iconst 1, 1) := by decide +kernel
theorem dX9_has_10 : decode cX9_has 10 = .ok (.goto 4, 3) := by decide +kernel
theorem dX9_has_13 : decode cX9_has 13 = .ok (.iconst 0, 1) := by decide +kernel
theorem dX9_has_14 : decode cX9_has 14 = .ok (.ireturn, 1) := by decide +kernel
theorem dX9_fieldOf_0 : decode cX9_fieldOf 0 = .ok (.iconst 0, 1) := by decide +kernel
theorem dX9_fieldOf_1 : decode cX9_fieldOf 1 = .ok (.istore 6, 2) := by decide +kernel
theorem dX9_fieldOf_3 : decode cX9_fieldOf 3 = .ok (.iload 6, 2) := by decide +kernel
theorem dX9_fieldOf_5 : decode cX9_fieldOf 5 = .ok (.iload_n 2, 1) := by decide +kernel
theorem dX9_fieldOf_6 : decode cX9_fieldOf 6 = .ok (.if_icmp .gt 134, 3) := by decide +kernel
theorem dX9_fieldOf_9 : decode cX9_fieldOf 9 = .ok (.aload_n 0, 1) := by decide +kernel
theorem dX9_fieldOf_10 : decode cX9_fieldOf 10 = .ok (.getfield 19, 3) := by decide +kernel
theorem dX9_fieldOf_13 : decode cX9_fieldOf 13 = .ok (.iload 6, 2) := by decide +kernel
theorem dX9_fieldOf_15 : decode cX9_fieldOf 15 = .ok (.bipush (-2), 2) := by decide +kernel
theorem dX9_fieldOf_17 : decode cX9_fieldOf 17 = .ok (.iastore, 1) := by decide +kernel
theorem dX9_fieldOf_18 : decode cX9_fieldOf 18 = .ok (.aload_n 0, 1) := by decide +kernel
theorem dX9_fieldOf_19 : decode cX9_fieldOf 19 = .ok (.iload_n 1, 1) := by decide +kernel
theorem dX9_fieldOf_20 : decode cX9_fieldOf 20 = .ok (.iload 6, 2) := by decide +kernel
theorem dX9_fieldOf_22 : decode cX9_fieldOf 22 = .ok (.iconst 0, 1) := by decide +kernel
theorem dX9_fieldOf_23 : decode cX9_fieldOf 23 = .ok (.invokevirtual 73, 3) := by decide +kernel
theorem dX9_fieldOf_26 : decode cX9_fieldOf 26 = .ok (.iconst 1, 1) := by decide +kernel
theorem dX9_fieldOf_27 : decode cX9_fieldOf 27 = .ok (.if_icmp .ne 107, 3) := by decide +kernel
theorem dX9_fieldOf_30 : decode cX9_fieldOf 30 = .ok (.aload_n 0, 1) := by decide +kernel
theorem dX9_fieldOf_31 : decode cX9_fieldOf 31 = .ok (.iload_n 1, 1) := by decide +kernel
theorem dX9_fieldOf_32 : decode cX9_fieldOf 32 = .ok (.iload 6, 2) := by decide +kernel
theorem dX9_fieldOf_34 : decode cX9_fieldOf 34 = .ok (.iload_n 3, 1) := by decide +kernel
theorem dX9_fieldOf_35 : decode cX9_fieldOf 35 = .ok (.iload 4, 2) := by decide +kernel
theorem dX9_fieldOf_37 : decode cX9_fieldOf 37 = .ok (.iload 5, 2) := by decide +kernel
theorem dX9_fieldOf_39 : decode cX9_fieldOf 39 = .ok (.invokevirtual 173, 3) := by decide +kernel
theorem dX9_fieldOf_42 : decode cX9_fieldOf 42 = .ok (.istore 7, 2) := by decide +kernel
theorem dX9_fieldOf_44 : decode cX9_fieldOf 44 = .ok (.iconst 0, 1) := by decide +kernel
theorem dX9_fieldOf_45 : decode cX9_fieldOf 45 = .ok (.istore 8, 2) := by decide +kernel
theorem dX9_fieldOf_47 : decode cX9_fieldOf 47 = .ok (.iload 8, 2) := by decide +kernel
theorem dX9_fieldOf_49 : decode cX9_fieldOf 49 = .ok (.iload 6, 2) := by decide +kernel
theorem dX9_fieldOf_51 : decode cX9_fieldOf 51 = .ok (.if_icmp .ge 46, 3) := by decide +kernel
theorem dX9_fieldOf_54 : decode cX9_fieldOf 54 = .ok (.iload 7, 2) := by decide +kernel
theorem dX9_fieldOf_56 : decode cX9_fieldOf 56 = .ok (.bipush (-2), 2) := by decide +kernel
theorem dX9_fieldOf_58 : decode cX9_fieldOf 58 = .ok (.if_icmp .ne 39, 3) := by decide +kernel
theorem dX9_fieldOf_61 : decode cX9_fieldOf 61 = .ok (.aload_n 0, 1) := by decide +kernel
theorem dX9_fieldOf_62 : decode cX9_fieldOf 62 = .ok (.iload_n 1, 1) := by decide +kernel
theorem dX9_fieldOf_63 : decode cX9_fieldOf 63 = .ok (.iload 6, 2) := by decide +kernel
theorem dX9_fieldOf_65 : decode cX9_fieldOf 65 = .ok (.iconst 3, 1) := by decide +kernel
theorem dX9_fieldOf_66 : decode cX9_fieldOf 66 = .ok (.invokevirtual 73, 3) := by decide +kernel
theorem dX9_fieldOf_69 : decode cX9_fieldOf 69 = .ok (.iload 8, 2) := by decide +kernel
theorem dX9_fieldOf_71 : decode cX9_fieldOf 71 = .ok (.invokestatic 84, 3) := by decide +kernel
theorem dX9_fieldOf_74 : decode cX9_fieldOf 74 = .ok (.ifCond .eq 13, 3) := by decide +kernel
theorem dX9_fieldOf_77 : decode cX9_fieldOf 77 = .ok (.aload_n 0, 1) := by decide +kernel
theorem dX9_fieldOf_78 : decode cX9_fieldOf 78 = .ok (.getfield 19, 3) := by decide +kernel
theorem dX9_fieldOf_81 : decode cX9_fieldOf 81 = .ok (.iload 8, 2) := by decide +kernel
theorem dX9_fieldOf_83 : decode cX9_fieldOf 83 = .ok (.iaload, 1) := by decide +kernel
theorem dX9_fieldOf_84 : decode cX9_fieldOf 84 = .ok (.goto 5, 3) := by decide +kernel
theorem dX9_fieldOf_87 : decode cX9_fieldOf 87 = .ok (.bipush (-2), 2) := by decide +kernel
theorem dX9_fieldOf_89 : decode cX9_fieldOf 89 = .ok (.istore 7, 2) := by decide +kernel
theorem dX9_fieldOf_91 : decode cX9_fieldOf 91 = .ok (.iinc 8 1, 3) := by decide +kernel
theorem dX9_fieldOf_94 : decode cX9_fieldOf 94 = .ok (.goto (-47), 3) := by decide +kernel
theorem dX9_fieldOf_97 : decode cX9_fieldOf 97 = .ok (.aload_n 0, 1) := by decide +kernel
theorem dX9_fieldOf_98 : decode cX9_fieldOf 98 = .ok (.getfield 19, 3) := by decide +kernel
theorem dX9_fieldOf_101 : decode cX9_fieldOf 101 = .ok (.iload 6, 2) := by decide +kernel
theorem dX9_fieldOf_103 : decode cX9_fieldOf 103 = .ok (.iload 7, 2) := by decide +kernel
theorem dX9_fieldOf_105 : decode cX9_fieldOf 105 = .ok (.bipush (-2), 2) := by decide +kernel
theorem dX9_fieldOf_107 : decode cX9_fieldOf 107 = .ok (.if_icmp .ne 24, 3) := by decide +kernel
theorem dX9_fieldOf_110 : decode cX9_fieldOf 110 = .ok (.iload 6, 2) := by decide +kernel
theorem dX9_fieldOf_112 : decode cX9_fieldOf 112 = .ok (.ifCond .le 19, 3) := by decide +kernel
theorem dX9_fieldOf_115 : decode cX9_fieldOf 115 = .ok (.aload_n 0, 1) := by decide +kernel
theorem dX9_fieldOf_116 : decode cX9_fieldOf 116 = .ok (.getfield 19, 3) := by decide +kernel
theorem dX9_fieldOf_119 : decode cX9_fieldOf 119 = .ok (.aload_n 0, 1) := by decide +kernel
theorem dX9_fieldOf_120 : decode cX9_fieldOf 120 = .ok (.iload_n 1, 1) := by decide +kernel
theorem dX9_fieldOf_121 : decode cX9_fieldOf 121 = .ok (.iload 6, 2) := by decide +kernel
theorem dX9_fieldOf_123 : decode cX9_fieldOf 123 = .ok (.iconst 2, 1) := by decide +kernel
theorem dX9_fieldOf_124 : decode cX9_fieldOf 124 = .ok (.invokevirtual 73, 3) := by decide +kernel
theorem dX9_fieldOf_127 : decode cX9_fieldOf 127 = .ok (.iaload, 1) := by decide +kernel
theorem dX9_fieldOf_128 : decode cX9_fieldOf 128 = .ok (.goto 5, 3) := by decide +kernel
theorem dX9_fieldOf_131 : decode cX9_fieldOf 131 = .ok (.iload 7, 2) := by decide +kernel
theorem dX9_fieldOf_133 : decode cX9_fieldOf 133 = .ok (.iastore, 1) := by decide +kernel
theorem dX9_fieldOf_134 : decode cX9_fieldOf 134 = .ok (.iinc 6 1, 3) := by decide +kernel
theorem dX9_fieldOf_137 : decode cX9_fieldOf 137 = .ok (.goto (-134), 3) := by decide +kernel
theorem dX9_fieldOf_140 : decode cX9_fieldOf 140 = .ok (.aload_n 0, 1) := by decide +kernel
theorem dX9_fieldOf_141 : decode cX9_fieldOf 141 = .ok (.getfield 19, 3) := by decide +kernel
theorem dX9_fieldOf_144 : decode cX9_fieldOf 144 = .ok (.iload_n 2, 1) := by decide +kernel
theorem dX9_fieldOf_145 : decode cX9_fieldOf 145 = .ok (.iaload, 1) := by decide +kernel
theorem dX9_fieldOf_146 : decode cX9_fieldOf 146 = .ok (.ireturn, 1) := by decide +kernel
theorem dX9_supertypes_0 : decode cX9_supertypes 0 = .ok (.iconst 1, 1) := by decide +kernel
theorem dX9_supertypes_1 : decode cX9_supertypes 1 = .ok (.iload_n 2, 1) := by decide +kernel
theorem dX9_supertypes_2 : decode cX9_supertypes 2 = .ok (.ishl, 1) := by decide +kernel
theorem dX9_supertypes_3 : decode cX9_supertypes 3 = .ok (.iconst 1, 1) := by decide +kernel
theorem dX9_supertypes_4 : decode cX9_supertypes 4 = .ok (.ior, 1) := by decide +kernel
theorem dX9_supertypes_5 : decode cX9_supertypes 5 = .ok (.istore_n 3, 1) := by decide +kernel
theorem dX9_supertypes_6 : decode cX9_supertypes 6 = .ok (.iload_n 2, 1) := by decide +kernel
theorem dX9_supertypes_7 : decode cX9_supertypes 7 = .ok (.istore 4, 2) := by decide +kernel
theorem dX9_supertypes_9 : decode cX9_supertypes 9 = .ok (.iload 4, 2) := by decide +kernel
theorem dX9_supertypes_11 : decode cX9_supertypes 11 = .ok (.ifCond .le 40, 3) := by decide +kernel
theorem dX9_supertypes_14 : decode cX9_supertypes 14 = .ok (.iload_n 3, 1) := by decide +kernel
theorem dX9_supertypes_15 : decode cX9_supertypes 15 = .ok (.iload 4, 2) := by decide +kernel
theorem dX9_supertypes_17 : decode cX9_supertypes 17 = .ok (.invokestatic 84, 3) := by decide +kernel
theorem dX9_supertypes_20 : decode cX9_supertypes 20 = .ok (.ifCond .eq 25, 3) := by decide +kernel
theorem dX9_supertypes_23 : decode cX9_supertypes 23 = .ok (.iload_n 3, 1) := by decide +kernel
theorem dX9_supertypes_24 : decode cX9_supertypes 24 = .ok (.aload_n 0, 1) := by decide +kernel
theorem dX9_supertypes_25 : decode cX9_supertypes 25 = .ok (.iload_n 1, 1) := by decide +kernel
theorem dX9_supertypes_26 : decode cX9_supertypes 26 = .ok (.iload 4, 2) := by decide +kernel
theorem dX9_supertypes_28 : decode cX9_supertypes 28 = .ok (.iconst 3, 1) := by decide +kernel
theorem dX9_supertypes_29 : decode cX9_supertypes 29 = .ok (.invokevirtual 73, 3) := by decide +kernel
theorem dX9_supertypes_32 : decode cX9_supertypes 32 = .ok (.iconst 1, 1) := by decide +kernel
theorem dX9_supertypes_33 : decode cX9_supertypes 33 = .ok (.aload_n 0, 1) := by decide +kernel
theorem dX9_supertypes_34 : decode cX9_supertypes 34 = .ok (.iload_n 1, 1) := by decide +kernel
theorem dX9_supertypes_35 : decode cX9_supertypes 35 = .ok (.iload 4, 2) := by decide +kernel
theorem dX9_supertypes_37 : decode cX9_supertypes 37 = .ok (.iconst 2, 1) := by decide +kernel
theorem dX9_supertypes_38 : decode cX9_supertypes 38 = .ok (.invokevirtual 73, 3) := by decide +kernel
theorem dX9_supertypes_41 : decode cX9_supertypes 41 = .ok (.ishl, 1) := by decide +kernel
theorem dX9_supertypes_42 : decode cX9_supertypes 42 = .ok (.ior, 1) := by decide +kernel
theorem dX9_supertypes_43 : decode cX9_supertypes 43 = .ok (.ior, 1) := by decide +kernel
theorem dX9_supertypes_44 : decode cX9_supertypes 44 = .ok (.istore_n 3, 1) := by decide +kernel
theorem dX9_supertypes_45 : decode cX9_supertypes 45 = .ok (.iinc 4 (-1), 3) := by decide +kernel
theorem dX9_supertypes_48 : decode cX9_supertypes 48 = .ok (.goto (-39), 3) := by decide +kernel
theorem dX9_supertypes_51 : decode cX9_supertypes 51 = .ok (.iload_n 3, 1) := by decide +kernel
theorem dX9_supertypes_52 : decode cX9_supertypes 52 = .ok (.ireturn, 1) := by decide +kernel
theorem dX9_isOpen_0 : decode cX9_isOpen 0 = .ok (.aload_n 0, 1) := by decide +kernel
theorem dX9_isOpen_1 : decode cX9_isOpen 1 = .ok (.iload_n 1, 1) := by decide +kernel
theorem dX9_isOpen_2 : decode cX9_isOpen 2 = .ok (.iload_n 2, 1) := by decide +kernel
theorem dX9_isOpen_3 : decode cX9_isOpen 3 = .ok (.iconst 1, 1) := by decide +kernel
theorem dX9_isOpen_4 : decode cX9_isOpen 4 = .ok (.invokevirtual 102, 3) := by decide +kernel
theorem dX9_isOpen_7 : decode cX9_isOpen 7 = .ok (.istore_n 3, 1) := by decide +kernel
theorem dX9_isOpen_8 : decode cX9_isOpen 8 = .ok (.aload_n 0, 1) := by decide +kernel
theorem dX9_isOpen_9 : decode cX9_isOpen 9 = .ok (.iload_n 1, 1) := by decide +kernel
theorem dX9_isOpen_10 : decode cX9_isOpen 10 = .ok (.iload_n 2, 1) := by decide +kernel
theorem dX9_isOpen_11 : decode cX9_isOpen 11 = .ok (.iconst 3, 1) := by decide +kernel
theorem dX9_isOpen_12 : decode cX9_isOpen 12 = .ok (.invokevirtual 102, 3) := by decide +kernel
theorem dX9_isOpen_15 : decode cX9_isOpen 15 = .ok (.istore 4, 2) := by decide +kernel
theorem dX9_isOpen_17 : decode cX9_isOpen 17 = .ok (.iload 4, 2) := by decide +kernel
theorem dX9_isOpen_19 : decode cX9_isOpen 19 = .ok (.ifCond .le 23, 3) := by decide +kernel
theorem dX9_isOpen_22 : decode cX9_isOpen 22 = .ok (.aload_n 0, 1) := by decide +kernel
theorem dX9_isOpen_23 : decode cX9_isOpen 23 = .ok (.iload_n 1, 1) := by decide +kernel
theorem dX9_isOpen_24 : decode cX9_isOpen 24 = .ok (.iload_n 3, 1) := by decide +kernel
theorem dX9_isOpen_25 : decode cX9_isOpen 25 = .ok (.iconst 4, 1) := by decide +kernel
theorem dX9_isOpen_26 : decode cX9_isOpen 26 = .ok (.invokevirtual 73, 3) := by decide +kernel
theorem dX9_isOpen_29 : decode cX9_isOpen 29 = .ok (.aload_n 0, 1) := by decide +kernel
theorem dX9_isOpen_30 : decode cX9_isOpen 30 = .ok (.getfield 22, 3) := by decide +kernel
theorem dX9_isOpen_33 : decode cX9_isOpen 33 = .ok (.iconst 3, 1) := by decide +kernel
theorem dX9_isOpen_34 : decode cX9_isOpen 34 = .ok (.iaload, 1) := by decide +kernel
theorem dX9_isOpen_35 : decode cX9_isOpen 35 = .ok (.if_icmp .ne 7, 3) := by decide +kernel
theorem dX9_isOpen_38 : decode cX9_isOpen 38 = .ok (.iconst 1, 1) := by decide +kernel
theorem dX9_isOpen_39 : decode cX9_isOpen 39 = .ok (.goto 4, 3) := by decide +kernel
theorem dX9_isOpen_42 : decode cX9_isOpen 42 = .ok (.iconst 0, 1) := by decide +kernel
theorem dX9_isOpen_43 : decode cX9_isOpen 43 = .ok (.istore 5, 2) := by decide +kernel
theorem dX9_isOpen_45 : decode cX9_isOpen 45 = .ok (.iload 4, 2) := by decide +kernel
theorem dX9_isOpen_47 : decode cX9_isOpen 47 = .ok (.iconst 3, 1) := by decide +kernel
theorem dX9_isOpen_48 : decode cX9_isOpen 48 = .ok (.if_icmp .eq 46, 3) := by decide +kernel
theorem dX9_isOpen_51 : decode cX9_isOpen 51 = .ok (.iload 5, 2) := by decide +kernel
theorem dX9_isOpen_53 : decode cX9_isOpen 53 = .ok (.ifCond .ne 41, 3) := by decide +kernel
theorem dX9_isOpen_56 : decode cX9_isOpen 56 = .ok (.iload 4, 2) := by decide +kernel
theorem dX9_isOpen_58 : decode cX9_isOpen 58 = .ok (.iconst 2, 1) := by decide +kernel
theorem dX9_isOpen_59 : decode cX9_isOpen 59 = .ok (.if_icmp .ne 39, 3) := by decide +kernel
theorem dX9_isOpen_62 : decode cX9_isOpen 62 = .ok (.aload_n 0, 1) := by decide +kernel
theorem dX9_isOpen_63 : decode cX9_isOpen 63 = .ok (.iload_n 1, 1) := by decide +kernel
theorem dX9_isOpen_64 : decode cX9_isOpen 64 = .ok (.aload_n 0, 1) := by decide +kernel
theorem dX9_isOpen_65 : decode cX9_isOpen 65 = .ok (.getfield 22, 3) := by decide +kernel
theorem dX9_isOpen_68 : decode cX9_isOpen 68 = .ok (.iconst 4, 1) := by decide +kernel
theorem dX9_isOpen_69 : decode cX9_isOpen 69 = .ok (.iaload, 1) := by decide +kernel
theorem dX9_isOpen_70 : decode cX9_isOpen 70 = .ok (.invokevirtual 77, 3) := by decide +kernel
theorem dX9_isOpen_73 : decode cX9_isOpen 73 = .ok (.ifCond .eq 25, 3) := by decide +kernel
theorem dX9_isOpen_76 : decode cX9_isOpen 76 = .ok (.aload_n 0, 1) := by decide +kernel
theorem dX9_isOpen_77 : decode cX9_isOpen 77 = .ok (.iload_n 1, 1) := by decide +kernel
theorem dX9_isOpen_78 : decode cX9_isOpen 78 = .ok (.aload_n 0, 1) := by decide +kernel
theorem dX9_isOpen_79 : decode cX9_isOpen 79 = .ok (.getfield 22, 3) := by decide +kernel
theorem dX9_isOpen_82 : decode cX9_isOpen 82 = .ok (.iconst 4, 1) := by decide +kernel
theorem dX9_isOpen_83 : decode cX9_isOpen 83 = .ok (.iaload, 1) := by decide +kernel
theorem dX9_isOpen_84 : decode cX9_isOpen 84 = .ok (.invokevirtual 125, 3) := by decide +kernel
theorem dX9_isOpen_87 : decode cX9_isOpen 87 = .ok (.iload_n 3, 1) := by decide +kernel
theorem dX9_isOpen_88 : decode cX9_isOpen 88 = .ok (.invokestatic 84, 3) := by decide +kernel
theorem dX9_isOpen_91 : decode cX9_isOpen 91 = .ok (.ifCond .eq 7, 3) := by decide +kernel
theorem dX9_isOpen_94 : decode cX9_isOpen 94 = .ok (.iconst 1, 1) := by decide +kernel
theorem dX9_isOpen_95 : decode cX9_isOpen 95 = .ok (.goto 4, 3) := by decide +kernel
theorem dX9_isOpen_98 : decode cX9_isOpen 98 = .ok (.iconst 0, 1) := by decide +kernel
theorem dX9_isOpen_99 : decode cX9_isOpen 99 = .ok (.ireturn, 1) := by decide +kernel
theorem dX9_isFinal_0 : decode cX9_isFinal 0 = .ok (.aload_n 0, 1) := by decide +kernel
theorem dX9_isFinal_1 : decode cX9_isFinal 1 = .ok (.iload_n 1, 1) := by decide +kernel
theorem dX9_isFinal_2 : decode cX9_isFinal 2 = .ok (.iload_n 2, 1) := by decide +kernel
theorem dX9_isFinal_3 : decode cX9_isFinal 3 = .ok (.iconst 4, 1) := by decide +kernel
theorem dX9_isFinal_4 : decode cX9_isFinal 4 = .ok (.invokevirtual 102, 3) := by decide +kernel
theorem dX9_isFinal_7 : decode cX9_isFinal 7 = .ok (.iconst 1, 1) := by decide +kernel
theorem dX9_isFinal_8 : decode cX9_isFinal 8 = .ok (.invokestatic 84, 3) := by decide +kernel
theorem dX9_isFinal_11 : decode cX9_isFinal 11 = .ok (.ireturn, 1) := by decide +kernel
theorem dX9_isStatic_0 : decode cX9_isStatic 0 = .ok (.aload_n 0, 1) := by decide +kernel
theorem dX9_isStatic_1 : decode cX9_isStatic 1 = .ok (.iload_n 1, 1) := by decide +kernel
theorem dX9_isStatic_2 : decode cX9_isStatic 2 = .ok (.iload_n 2, 1) := by decide +kernel
theorem dX9_isStatic_3 : decode cX9_isStatic 3 = .ok (.iconst 4, 1) := by decide +kernel
theorem dX9_isStatic_4 : decode cX9_isStatic 4 = .ok (.invokevirtual 102, 3) := by decide +kernel
theorem dX9_isStatic_7 : decode cX9_isStatic 7 = .ok (.iconst 0, 1) := by decide +kernel
theorem dX9_isStatic_8 : decode cX9_isStatic 8 = .ok (.invokestatic 84, 3) := by decide +kernel
theorem dX9_isStatic_11 : decode cX9_isStatic 11 = .ok (.ireturn, 1) := by decide +kernel
theorem dX9_compiledField_0 : decode cX9_compiledField 0 = .ok (.aload_n 0, 1) := by decide +kernel
theorem dX9_compiledField_1 : decode cX9_compiledField 1 = .ok (.iload_n 1, 1) := by decide +kernel
theorem dX9_compiledField_2 : decode cX9_compiledField 2 = .ok (.iload_n 2, 1) := by decide +kernel
theorem dX9_compiledField_3 : decode cX9_compiledField 3 = .ok (.aload_n 0, 1) := by decide +kernel
theorem dX9_compiledField_4 : decode cX9_compiledField 4 = .ok (.getfield 22, 3) := by decide +kernel
theorem dX9_compiledField_7 : decode cX9_compiledField 7 = .ok (.iconst 2, 1) := by decide +kernel
theorem dX9_compiledField_8 : decode cX9_compiledField 8 = .ok (.iaload, 1) := by decide +kernel
theorem dX9_compiledField_9 : decode cX9_compiledField 9 = .ok (.iconst 1, 1) := by decide +kernel
theorem dX9_compiledField_10 : decode cX9_compiledField 10 = .ok (.iconst 0, 1) := by decide +kernel
theorem dX9_compiledField_11 : decode cX9_compiledField 11 = .ok (.invokevirtual 177, 3) := by decide +kernel
theorem dX9_compiledField_14 : decode cX9_compiledField 14 = .ok (.istore_n 3, 1) := by decide +kernel
theorem dX9_compiledField_15 : decode cX9_compiledField 15 = .ok (.iload_n 3, 1) := by decide +kernel
theorem dX9_compiledField_16 : decode cX9_compiledField 16 = .ok (.bipush (-2), 2) := by decide +kernel
theorem dX9_compiledField_18 : decode cX9_compiledField 18 = .ok (.if_icmp .ne 5, 3) := by decide +kernel
theorem dX9_compiledField_21 : decode cX9_compiledField 21 = .ok (.iconst 3, 1) := by decide +kernel
theorem dX9_compiledField_22 : decode cX9_compiledField 22 = .ok (.ireturn, 1) := by decide +kernel
theorem dX9_compiledField_23 : decode cX9_compiledField 23 = .ok (.aload_n 0, 1) := by decide +kernel
theorem dX9_compiledField_24 : decode cX9_compiledField 24 = .ok (.iload_n 1, 1) := by decide +kernel
theorem dX9_compiledField_25 : decode cX9_compiledField 25 = .ok (.iload_n 3, 1) := by decide +kernel
theorem dX9_compiledField_26 : decode cX9_compiledField 26 = .ok (.invokevirtual 256, 3) := by decide +kernel
theorem dX9_compiledField_29 : decode cX9_compiledField 29 = .ok (.ifCond .ne 5, 3) := by decide +kernel
theorem dX9_compiledField_32 : decode cX9_compiledField 32 = .ok (.iconst 5, 1) := by decide +kernel
theorem dX9_compiledField_33 : decode cX9_compiledField 33 = .ok (.ireturn, 1) := by decide +kernel
theorem dX9_compiledField_34 : decode cX9_compiledField 34 = .ok (.aload_n 0, 1) := by decide +kernel
theorem dX9_compiledField_35 : decode cX9_compiledField 35 = .ok (.getfield 22, 3) := by decide +kernel
theorem dX9_compiledField_38 : decode cX9_compiledField 38 = .ok (.iconst 0, 1) := by decide +kernel
theorem dX9_compiledField_39 : decode cX9_compiledField 39 = .ok (.iaload, 1) := by decide +kernel
theorem dX9_compiledField_40 : decode cX9_compiledField 40 = .ok (.iconst 1, 1) := by decide +kernel
theorem dX9_compiledField_41 : decode cX9_compiledField 41 = .ok (.if_icmp .ne 15, 3) := by decide +kernel
theorem dX9_compiledField_44 : decode cX9_compiledField 44 = .ok (.aload_n 0, 1) := by decide +kernel
theorem dX9_compiledField_45 : decode cX9_compiledField 45 = .ok (.iload_n 1, 1) := by decide +kernel
theorem dX9_compiledField_46 : decode cX9_compiledField 46 = .ok (.iload_n 3, 1) := by decide +kernel
theorem dX9_compiledField_47 : decode cX9_compiledField 47 = .ok (.invokevirtual 161, 3) := by decide +kernel
theorem dX9_compiledField_50 : decode cX9_compiledField 50 = .ok (.ifCond .eq 6, 3) := by decide +kernel
theorem dX9_compiledField_53 : decode cX9_compiledField 53 = .ok (.bipush 6, 2) := by decide +kernel
theorem dX9_compiledField_55 : decode cX9_compiledField 55 = .ok (.ireturn, 1) := by decide +kernel
theorem dX9_compiledField_56 : decode cX9_compiledField 56 = .ok (.aload_n 0, 1) := by decide +kernel
theorem dX9_compiledField_57 : decode cX9_compiledField 57 = .ok (.getfield 22, 3) := by decide +kernel
theorem dX9_compiledField_60 : decode cX9_compiledField 60 = .ok (.iconst 0, 1) := by decide +kernel
theorem dX9_compiledField_61 : decode cX9_compiledField 61 = .ok (.iaload, 1) := by decide +kernel
theorem dX9_compiledField_62 : decode cX9_compiledField 62 = .ok (.ifCond .ne 39, 3) := by decide +kernel
theorem dX9_compiledField_65 : decode cX9_compiledField 65 = .ok (.aload_n 0, 1) := by decide +kernel
theorem dX9_compiledField_66 : decode cX9_compiledField 66 = .ok (.iload_n 1, 1) := by decide +kernel
theorem dX9_compiledField_67 : decode cX9_compiledField 67 = .ok (.iload_n 3, 1) := by decide +kernel
theorem dX9_compiledField_68 : decode cX9_compiledField 68 = .ok (.bipush 9, 2) := by decide +kernel
theorem dX9_compiledField_70 : decode cX9_compiledField 70 = .ok (.invokevirtual 102, 3) := by decide +kernel
theorem dX9_compiledField_73 : decode cX9_compiledField 73 = .ok (.bipush (-2), 2) := by decide +kernel
theorem dX9_compiledField_75 : decode cX9_compiledField 75 = .ok (.if_icmp .eq 26, 3) := by decide +kernel
theorem dX9_compiledField_78 : decode cX9_compiledField 78 = .ok (.aload_n 0, 1) := by decide +kernel
theorem dX9_compiledField_79 : decode cX9_compiledField 79 = .ok (.getfield 25, 3) := by decide +kernel
theorem dX9_compiledField_82 : decode cX9_compiledField 82 = .ok (.iconst 0, 1) := by decide +kernel
theorem dX9_compiledField_83 : decode cX9_compiledField 83 = .ok (.iconst 1, 1) := by decide +kernel
theorem dX9_compiledField_84 : decode cX9_compiledField 84 = .ok (.iastore, 1) := by decide +kernel
theorem dX9_compiledField_85 : decode cX9_compiledField 85 = .ok (.aload_n 0, 1) := by decide +kernel
theorem dX9_compiledField_86 : decode cX9_compiledField 86 = .ok (.getfield 25, 3) := by decide +kernel
theorem dX9_compiledField_89 : decode cX9_compiledField 89 = .ok (.iconst 1, 1) := by decide +kernel
theorem dX9_compiledField_90 : decode cX9_compiledField 90 = .ok (.aload_n 0, 1) := by decide +kernel
theorem dX9_compiledField_91 : decode cX9_compiledField 91 = .ok (.iload_n 1, 1) := by decide +kernel
theorem dX9_compiledField_92 : decode cX9_compiledField 92 = .ok (.iload_n 3, 1) := by decide +kernel
theorem dX9_compiledField_93 : decode cX9_compiledField 93 = .ok (.bipush 9, 2) := by decide +kernel
theorem dX9_compiledField_95 : decode cX9_compiledField 95 = .ok (.invokevirtual 102, 3) := by decide +kernel
theorem dX9_compiledField_98 : decode cX9_compiledField 98 = .ok (.iastore, 1) := by decide +kernel
theorem dX9_compiledField_99 : decode cX9_compiledField 99 = .ok (.iconst 0, 1) := by decide +kernel
theorem dX9_compiledField_100 : decode cX9_compiledField 100 = .ok (.ireturn, 1) := by decide +kernel
theorem dX9_compiledField_101 : decode cX9_compiledField 101 = .ok (.aload_n 0, 1) := by decide +kernel
theorem dX9_compiledField_102 : decode cX9_compiledField 102 = .ok (.getfield 25, 3) := by decide +kernel
theorem dX9_compiledField_105 : decode cX9_compiledField 105 = .ok (.iconst 2, 1) := by decide +kernel
theorem dX9_compiledField_106 : decode cX9_compiledField 106 = .ok (.aload_n 0, 1) := by decide +kernel
theorem dX9_compiledField_107 : decode cX9_compiledField 107 = .ok (.iload_n 1, 1) := by decide +kernel
theorem dX9_compiledField_108 : decode cX9_compiledField 108 = .ok (.iload_n 3, 1) := by decide +kernel
theorem dX9_compiledField_109 : decode cX9_compiledField 109 = .ok (.iconst 5, 1) := by decide +kernel
theorem dX9_compiledField_110 : decode cX9_compiledField 110 = .ok (.invokevirtual 102, 3) := by decide +kernel
theorem dX9_compiledField_113 : decode cX9_compiledField 113 = .ok (.iastore, 1) := by decide +kernel
theorem dX9_compiledField_114 : decode cX9_compiledField 114 = .ok (.aload_n 0, 1) := by decide +kernel
theorem dX9_compiledField_115 : decode cX9_compiledField 115 = .ok (.getfield 25, 3) := by decide +kernel
theorem dX9_compiledField_118 : decode cX9_compiledField 118 = .ok (.iconst 3, 1) := by decide +kernel
theorem dX9_compiledField_119 : decode cX9_compiledField 119 = .ok (.aload_n 0, 1) := by decide +kernel
theorem dX9_compiledField_120 : decode cX9_compiledField 120 = .ok (.iload_n 1, 1) := by decide +kernel
theorem dX9_compiledField_121 : decode cX9_compiledField 121 = .ok (.iload_n 3, 1) := by decide +kernel
theorem dX9_compiledField_122 : decode cX9_compiledField 122 = .ok (.invokevirtual 199, 3) := by decide +kernel
theorem dX9_compiledField_125 : decode cX9_compiledField 125 = .ok (.ifCond .eq 7, 3) := by decide +kernel
theorem dX9_compiledField_128 : decode cX9_compiledField 128 = .ok (.iconst 1, 1) := by decide +kernel
theorem dX9_compiledField_129 : decode cX9_compiledField 129 = .ok (.goto 4, 3) := by decide +kernel
theorem dX9_compiledField_132 : decode cX9_compiledField 132 = .ok (.iconst 0, 1) := by decide +kernel
theorem dX9_compiledField_133 : decode cX9_compiledField 133 = .ok (.iastore, 1) := by decide +kernel
theorem dX9_compiledField_134 : decode cX9_compiledField 134 = .ok (.iconst 0, 1) := by decide +kernel
theorem dX9_compiledField_135 : decode cX9_compiledField 135 = .ok (.ireturn, 1) := by decide +kernel
theorem dX9_isMethod_0 : decode cX9_isMethod 0 = .ok (.aload_n 0, 1) := by decide +kernel
theorem dX9_isMethod_1 : decode cX9_isMethod 1 = .ok (.iload_n 1, 1) := by decide +kernel
theorem dX9_isMethod_2 : decode cX9_isMethod 2 = .ok (.iload_n 2, 1) := by decide +kernel
theorem dX9_isMethod_3 : decode cX9_isMethod 3 = .ok (.iconst 0, 1) := by decide +kernel
theorem dX9_isMethod_4 : decode cX9_isMethod 4 = .ok (.invokevirtual 102, 3) := by decide +kernel
theorem dX9_isMethod_7 : decode cX9_isMethod 7 = .ok (.iconst 1, 1) := by decide +kernel
theorem dX9_isMethod_8 : decode cX9_isMethod 8 = .ok (.if_icmp .ne 7, 3) := by decide +kernel
theorem dX9_isMethod_11 : decode cX9_isMethod 11 = .ok (.iconst 1, 1) := by decide +kernel
theorem dX9_isMethod_12 : decode cX9_isMethod 12 = .ok (.goto 4, 3) := by decide +kernel
theorem dX9_isMethod_15 : decode cX9_isMethod 15 = .ok (.iconst 0, 1) := by decide +kernel
theorem dX9_isMethod_16 : decode cX9_isMethod 16 = .ok (.ireturn, 1) := by decide +kernel
theorem dX9_isInterface_0 : decode cX9_isInterface 0 = .ok (.aload_n 0, 1) := by decide +kernel
theorem dX9_isInterface_1 : decode cX9_isInterface 1 = .ok (.iload_n 1, 1) := by decide +kernel
theorem dX9_isInterface_2 : decode cX9_isInterface 2 = .ok (.iload_n 2, 1) := by decide +kernel
theorem dX9_isInterface_3 : decode cX9_isInterface 3 = .ok (.iconst 1, 1) := by decide +kernel
theorem dX9_isInterface_4 : decode cX9_isInterface 4 = .ok (.invokevirtual 73, 3) := by decide +kernel
theorem dX9_isInterface_7 : decode cX9_isInterface 7 = .ok (.iconst 1, 1) := by decide +kernel
theorem dX9_isInterface_8 : decode cX9_isInterface 8 = .ok (.if_icmp .ne 7, 3) := by decide +kernel
theorem dX9_isInterface_11 : decode cX9_isInterface 11 = .ok (.iconst 1, 1) := by decide +kernel
theorem dX9_isInterface_12 : decode cX9_isInterface 12 = .ok (.goto 4, 3) := by decide +kernel
theorem dX9_isInterface_15 : decode cX9_isInterface 15 = .ok (.iconst 0, 1) := by decide +kernel
theorem dX9_isInterface_16 : decode cX9_isInterface 16 = .ok (.ireturn, 1) := by decide +kernel
theorem dX9_isHidden_0 : decode cX9_isHidden 0 = .ok (.iconst 0, 1) := by decide +kernel
theorem dX9_isHidden_1 : decode cX9_isHidden 1 = .ok (.istore 4, 2) := by decide +kernel
theorem dX9_isHidden_3 : decode cX9_isHidden 3 = .ok (.aload_n 0, 1) := by decide +kernel
theorem dX9_isHidden_4 : decode cX9_isHidden 4 = .ok (.iload_n 1, 1) := by decide +kernel
theorem dX9_isHidden_5 : decode cX9_isHidden 5 = .ok (.iload_n 2, 1) := by decide +kernel
theorem dX9_isHidden_6 : decode cX9_isHidden 6 = .ok (.iconst 1, 1) := by decide +kernel
theorem dX9_isHidden_7 : decode cX9_isHidden 7 = .ok (.invokevirtual 102, 3) := by decide +kernel
theorem dX9_isHidden_10 : decode cX9_isHidden 10 = .ok (.istore 5, 2) := by decide +kernel
theorem dX9_isHidden_12 : decode cX9_isHidden 12 = .ok (.iconst 0, 1) := by decide +kernel
theorem dX9_isHidden_13 : decode cX9_isHidden 13 = .ok (.istore 6, 2) := by decide +kernel
theorem dX9_isHidden_15 : decode cX9_isHidden 15 = .ok (.iload 6, 2) := by decide +kernel
theorem dX9_isHidden_17 : decode cX9_isHidden 17 = .ok (.aload_n 0, 1) := by decide +kernel
theorem dX9_isHidden_18 : decode cX9_isHidden 18 = .ok (.iload_n 1, 1) := by decide +kernel
theorem dX9_isHidden_19 : decode cX9_isHidden 19 = .ok (.invokevirtual 51, 3) := by decide +kernel
theorem dX9_isHidden_22 : decode cX9_isHidden 22 = .ok (.if_icmp .ge 147, 3) := by decide +kernel
theorem dX9_isHidden_25 : decode cX9_isHidden 25 = .ok (.iload 4, 2) := by decide +kernel
theorem dX9_isHidden_27 : decode cX9_isHidden 27 = .ok (.ifCond .ne 142, 3) := by decide +kernel
theorem dX9_isHidden_30 : decode cX9_isHidden 30 = .ok (.aload_n 0, 1) := by decide +kernel
theorem dX9_isHidden_31 : decode cX9_isHidden 31 = .ok (.iload_n 1, 1) := by decide +kernel
theorem dX9_isHidden_32 : decode cX9_isHidden 32 = .ok (.iload 6, 2) := by decide +kernel
theorem dX9_isHidden_34 : decode cX9_isHidden 34 = .ok (.iconst 1, 1) := by decide +kernel
theorem dX9_isHidden_35 : decode cX9_isHidden 35 = .ok (.invokevirtual 102, 3) := by decide +kernel
theorem dX9_isHidden_38 : decode cX9_isHidden 38 = .ok (.istore 7, 2) := by decide +kernel
theorem dX9_isHidden_40 : decode cX9_isHidden 40 = .ok (.aload_n 0, 1) := by decide +kernel
theorem dX9_isHidden_41 : decode cX9_isHidden 41 = .ok (.iload_n 1, 1) := by decide +kernel
theorem dX9_isHidden_42 : decode cX9_isHidden 42 = .ok (.iload 6, 2) := by decide +kernel
theorem dX9_isHidden_44 : decode cX9_isHidden 44 = .ok (.invokevirtual 155, 3) := by decide +kernel
theorem dX9_isHidden_47 : decode cX9_isHidden 47 = .ok (.ifCond .eq 59, 3) := by decide +kernel
theorem dX9_isHidden_50 : decode cX9_isHidden 50 = .ok (.aload_n 0, 1) := by decide +kernel
theorem dX9_isHidden_51 : decode cX9_isHidden 51 = .ok (.iload_n 1, 1) := by decide +kernel
theorem dX9_isHidden_52 : decode cX9_isHidden 52 = .ok (.iload 6, 2) := by decide +kernel
theorem dX9_isHidden_54 : decode cX9_isHidden 54 = .ok (.iconst 2, 1) := by decide +kernel
theorem dX9_isHidden_55 : decode cX9_isHidden 55 = .ok (.invokevirtual 102, 3) := by decide +kernel
theorem dX9_isHidden_58 : decode cX9_isHidden 58 = .ok (.aload_n 0, 1) := by decide +kernel
theorem dX9_isHidden_59 : decode cX9_isHidden 59 = .ok (.iload_n 1, 1) := by decide +kernel
theorem dX9_isHidden_60 : decode cX9_isHidden 60 = .ok (.iload_n 2, 1) := by decide +kernel
theorem dX9_isHidden_61 : decode cX9_isHidden 61 = .ok (.iconst 2, 1) := by decide +kernel
theorem dX9_isHidden_62 : decode cX9_isHidden 62 = .ok (.invokevirtual 102, 3) := by decide +kernel
theorem dX9_isHidden_65 : decode cX9_isHidden 65 = .ok (.if_icmp .ne 41, 3) := by decide +kernel
theorem dX9_isHidden_68 : decode cX9_isHidden 68 = .ok (.aload_n 0, 1) := by decide +kernel
theorem dX9_isHidden_69 : decode cX9_isHidden 69 = .ok (.iload_n 1, 1) := by decide +kernel
theorem dX9_isHidden_70 : decode cX9_isHidden 70 = .ok (.iload 6, 2) := by decide +kernel
theorem dX9_isHidden_72 : decode cX9_isHidden 72 = .ok (.aload_n 0, 1) := by decide +kernel
theorem dX9_isHidden_73 : decode cX9_isHidden 73 = .ok (.iload_n 1, 1) := by decide +kernel
theorem dX9_isHidden_74 : decode cX9_isHidden 74 = .ok (.iload_n 2, 1) := by decide +kernel
theorem dX9_isHidden_75 : decode cX9_isHidden 75 = .ok (.bipush 6, 2) := by decide +kernel
theorem dX9_isHidden_77 : decode cX9_isHidden 77 = .ok (.invokevirtual 102, 3) := by decide +kernel
theorem dX9_isHidden_80 : decode cX9_isHidden 80 = .ok (.aload_n 0, 1) := by decide +kernel
theorem dX9_isHidden_81 : decode cX9_isHidden 81 = .ok (.iload_n 1, 1) := by decide +kernel
theorem dX9_isHidden_82 : decode cX9_isHidden 82 = .ok (.iload_n 2, 1) := by decide +kernel
theorem dX9_isHidden_83 : decode cX9_isHidden 83 = .ok (.bipush 7, 2) := by decide +kernel
theorem dX9_isHidden_85 : decode cX9_isHidden 85 = .ok (.invokevirtual 102, 3) := by decide +kernel
theorem dX9_isHidden_88 : decode cX9_isHidden 88 = .ok (.aload_n 0, 1) := by decide +kernel
theorem dX9_isHidden_89 : decode cX9_isHidden 89 = .ok (.iload_n 1, 1) := by decide +kernel
theorem dX9_isHidden_90 : decode cX9_isHidden 90 = .ok (.iload_n 2, 1) := by decide +kernel
theorem dX9_isHidden_91 : decode cX9_isHidden 91 = .ok (.bipush 8, 2) := by decide +kernel
theorem dX9_isHidden_93 : decode cX9_isHidden 93 = .ok (.invokevirtual 102, 3) := by decide +kernel
theorem dX9_isHidden_96 : decode cX9_isHidden 96 = .ok (.invokevirtual 134, 3) := by decide +kernel
theorem dX9_isHidden_99 : decode cX9_isHidden 99 = .ok (.ifCond .eq 7, 3) := by decide +kernel
theorem dX9_isHidden_102 : decode cX9_isHidden 102 = .ok (.iconst 1, 1) := by decide +kernel
theorem dX9_isHidden_103 : decode cX9_isHidden 103 = .ok (.goto 4, 3) := by decide +kernel
theorem dX9_isHidden_106 : decode cX9_isHidden 106 = .ok (.iconst 0, 1) := by decide +kernel
theorem dX9_isHidden_107 : decode cX9_isHidden 107 = .ok (.istore 8, 2) := by decide +kernel
theorem dX9_isHidden_109 : decode cX9_isHidden 109 = .ok (.iload 8, 2) := by decide +kernel
theorem dX9_isHidden_111 : decode cX9_isHidden 111 = .ok (.ifCond .eq 49, 3) := by decide +kernel
theorem dX9_isHidden_114 : decode cX9_isHidden 114 = .ok (.iload 7, 2) := by decide +kernel
theorem dX9_isHidden_116 : decode cX9_isHidden 116 = .ok (.iload 5, 2) := by decide +kernel
theorem dX9_isHidden_118 : decode cX9_isHidden 118 = .ok (.if_icmp .eq 42, 3) := by decide +kernel
theorem dX9_isHidden_121 : decode cX9_isHidden 121 = .ok (.iload_n 3, 1) := by decide +kernel
theorem dX9_isHidden_122 : decode cX9_isHidden 122 = .ok (.iload 7, 2) := by decide +kernel
theorem dX9_isHidden_124 : decode cX9_isHidden 124 = .ok (.invokestatic 84, 3) := by decide +kernel
theorem dX9_isHidden_127 : decode cX9_isHidden 127 = .ok (.ifCond .eq 33, 3) := by decide +kernel
theorem dX9_isHidden_130 : decode cX9_isHidden 130 = .ok (.aload_n 0, 1) := by decide +kernel
theorem dX9_isHidden_131 : decode cX9_isHidden 131 = .ok (.iload_n 1, 1) := by decide +kernel
theorem dX9_isHidden_132 : decode cX9_isHidden 132 = .ok (.iload 6, 2) := by decide +kernel
theorem dX9_isHidden_134 : decode cX9_isHidden 134 = .ok (.iconst 3, 1) := by decide +kernel
theorem dX9_isHidden_135 : decode cX9_isHidden 135 = .ok (.invokevirtual 102, 3) := by decide +kernel
theorem dX9_isHidden_138 : decode cX9_isHidden 138 = .ok (.ifCond .le 22, 3) := by decide +kernel
theorem dX9_isHidden_141 : decode cX9_isHidden 141 = .ok (.aload_n 0, 1) := by decide +kernel
theorem dX9_isHidden_142 : decode cX9_isHidden 142 = .ok (.iload_n 1, 1) := by decide +kernel
theorem dX9_isHidden_143 : decode cX9_isHidden 143 = .ok (.iload 7, 2) := by decide +kernel
theorem dX9_isHidden_145 : decode cX9_isHidden 145 = .ok (.invokevirtual 125, 3) := by decide +kernel
theorem dX9_isHidden_148 : decode cX9_isHidden 148 = .ok (.iload 5, 2) := by decide +kernel
theorem dX9_isHidden_150 : decode cX9_isHidden 150 = .ok (.invokestatic 84, 3) := by decide +kernel
theorem dX9_isHidden_153 : decode cX9_isHidden 153 = .ok (.ifCond .eq 7, 3) := by decide +kernel
theorem dX9_isHidden_156 : decode cX9_isHidden 156 = .ok (.iconst 1, 1) := by decide +kernel
theorem dX9_isHidden_157 : decode cX9_isHidden 157 = .ok (.goto 4, 3) := by decide +kernel
theorem dX9_isHidden_160 : decode cX9_isHidden 160 = .ok (.iconst 0, 1) := by decide +kernel
theorem dX9_isHidden_161 : decode cX9_isHidden 161 = .ok (.istore 4, 2) := by decide +kernel
theorem dX9_isHidden_163 : decode cX9_isHidden 163 = .ok (.iinc 6 1, 3) := by decide +kernel
theorem dX9_isHidden_166 : decode cX9_isHidden 166 = .ok (.goto (-151), 3) := by decide +kernel
theorem dX9_isHidden_169 : decode cX9_isHidden 169 = .ok (.iload 4, 2) := by decide +kernel
theorem dX9_isHidden_171 : decode cX9_isHidden 171 = .ok (.ireturn, 1) := by decide +kernel
theorem dX9_isFit_0 : decode cX9_isFit 0 = .ok (.iload_n 2, 1) := by decide +kernel
theorem dX9_isFit_1 : decode cX9_isFit 1 = .ok (.iload_n 3, 1) := by decide +kernel
theorem dX9_isFit_2 : decode cX9_isFit 2 = .ok (.if_icmp .ne 5, 3) := by decide +kernel
theorem dX9_isFit_5 : decode cX9_isFit 5 = .ok (.iconst 1, 1) := by decide +kernel
theorem dX9_isFit_6 : decode cX9_isFit 6 = .ok (.ireturn, 1) := by decide +kernel
theorem dX9_isFit_7 : decode cX9_isFit 7 = .ok (.iload_n 2, 1) := by decide +kernel
theorem dX9_isFit_8 : decode cX9_isFit 8 = .ok (.ifCond .lt 42, 3) := by decide +kernel
theorem dX9_isFit_11 : decode cX9_isFit 11 = .ok (.iload_n 3, 1) := by decide +kernel
theorem dX9_isFit_12 : decode cX9_isFit 12 = .ok (.ifCond .lt 38, 3) := by decide +kernel
theorem dX9_isFit_15 : decode cX9_isFit 15 = .ok (.aload_n 0, 1) := by decide +kernel
theorem dX9_isFit_16 : decode cX9_isFit 16 = .ok (.iload_n 1, 1) := by decide +kernel
theorem dX9_isFit_17 : decode cX9_isFit 17 = .ok (.iload_n 2, 1) := by decide +kernel
theorem dX9_isFit_18 : decode cX9_isFit 18 = .ok (.invokevirtual 77, 3) := by decide +kernel
theorem dX9_isFit_21 : decode cX9_isFit 21 = .ok (.ifCond .eq 29, 3) := by decide +kernel
theorem dX9_isFit_24 : decode cX9_isFit 24 = .ok (.aload_n 0, 1) := by decide +kernel
theorem dX9_isFit_25 : decode cX9_isFit 25 = .ok (.iload_n 1, 1) := by decide +kernel
theorem dX9_isFit_26 : decode cX9_isFit 26 = .ok (.iload_n 3, 1) := by decide +kernel
theorem dX9_isFit_27 : decode cX9_isFit 27 = .ok (.invokevirtual 77, 3) := by decide +kernel
theorem dX9_isFit_30 : decode cX9_isFit 30 = .ok (.ifCond .eq 20, 3) := by decide +kernel
theorem dX9_isFit_33 : decode cX9_isFit 33 = .ok (.aload_n 0, 1) := by decide +kernel
theorem dX9_isFit_34 : decode cX9_isFit 34 = .ok (.iload_n 1, 1) := by decide +kernel
theorem dX9_isFit_35 : decode cX9_isFit 35 = .ok (.iload_n 2, 1) := by decide +kernel
theorem dX9_isFit_36 : decode cX9_isFit 36 = .ok (.invokevirtual 125, 3) := by decide +kernel
theorem dX9_isFit_39 : decode cX9_isFit 39 = .ok (.iload_n 3, 1) := by decide +kernel
theorem dX9_isFit_40 : decode cX9_isFit 40 = .ok (.invokestatic 84, 3) := by decide +kernel
theorem dX9_isFit_43 : decode cX9_isFit 43 = .ok (.ifCond .eq 7, 3) := by decide +kernel
theorem dX9_isFit_46 : decode cX9_isFit 46 = .ok (.iconst 1, 1) := by decide +kernel
theorem dX9_isFit_47 : decode cX9_isFit 47 = .ok (.goto 4, 3) := by decide +kernel
theorem dX9_isFit_50 : decode cX9_isFit 50 = .ok (.iconst 0, 1) := by decide +kernel
theorem dX9_isFit_51 : decode cX9_isFit 51 = .ok (.ireturn, 1) := by decide +kernel
theorem dX9_isApplicable_0 : decode cX9_isApplicable 0 = .ok (.aload_n 0, 1) := by decide +kernel
theorem dX9_isApplicable_1 : decode cX9_isApplicable 1 = .ok (.iload_n 1, 1) := by decide +kernel
theorem dX9_isApplicable_2 : decode cX9_isApplicable 2 = .ok (.iload_n 2, 1) := by decide +kernel
theorem dX9_isApplicable_3 : decode cX9_isApplicable 3 = .ok (.iconst 1, 1) := by decide +kernel
theorem dX9_isApplicable_4 : decode cX9_isApplicable 4 = .ok (.invokevirtual 102, 3) := by decide +kernel
theorem dX9_isApplicable_7 : decode cX9_isApplicable 7 = .ok (.istore 5, 2) := by decide +kernel
theorem dX9_isApplicable_9 : decode cX9_isApplicable 9 = .ok (.aload_n 0, 1) := by decide +kernel
theorem dX9_isApplicable_10 : decode cX9_isApplicable 10 = .ok (.iload_n 1, 1) := by decide +kernel
theorem dX9_isApplicable_11 : decode cX9_isApplicable 11 = .ok (.iload_n 2, 1) := by decide +kernel
theorem dX9_isApplicable_12 : decode cX9_isApplicable 12 = .ok (.invokevirtual 155, 3) := by decide +kernel
theorem dX9_isApplicable_15 : decode cX9_isApplicable 15 = .ok (.ifCond .eq 69, 3) := by decide +kernel
theorem dX9_isApplicable_18 : decode cX9_isApplicable 18 = .ok (.iload 4, 2) := by decide +kernel
theorem dX9_isApplicable_20 : decode cX9_isApplicable 20 = .ok (.iload 5, 2) := by decide +kernel
theorem dX9_isApplicable_22 : decode cX9_isApplicable 22 = .ok (.invokestatic 84, 3) := by decide +kernel
theorem dX9_isApplicable_25 : decode cX9_isApplicable 25 = .ok (.ifCond .eq 59, 3) := by decide +kernel
theorem dX9_isApplicable_28 : decode cX9_isApplicable 28 = .ok (.aload_n 0, 1) := by decide +kernel
theorem dX9_isApplicable_29 : decode cX9_isApplicable 29 = .ok (.iload_n 1, 1) := by decide +kernel
theorem dX9_isApplicable_30 : decode cX9_isApplicable 30 = .ok (.iload_n 2, 1) := by decide +kernel
theorem dX9_isApplicable_31 : decode cX9_isApplicable 31 = .ok (.iconst 2, 1) := by decide +kernel
theorem dX9_isApplicable_32 : decode cX9_isApplicable 32 = .ok (.invokevirtual 102, 3) := by decide +kernel
theorem dX9_isApplicable_35 : decode cX9_isApplicable 35 = .ok (.aload_n 0, 1) := by decide +kernel
theorem dX9_isApplicable_36 : decode cX9_isApplicable 36 = .ok (.getfield 22, 3) := by decide +kernel
theorem dX9_isApplicable_39 : decode cX9_isApplicable 39 = .ok (.iconst 2, 1) := by decide +kernel
theorem dX9_isApplicable_40 : decode cX9_isApplicable 40 = .ok (.iaload, 1) := by decide +kernel
theorem dX9_isApplicable_41 : decode cX9_isApplicable 41 = .ok (.if_icmp .ne 43, 3) := by decide +kernel
theorem dX9_isApplicable_44 : decode cX9_isApplicable 44 = .ok (.aload_n 0, 1) := by decide +kernel
theorem dX9_isApplicable_45 : decode cX9_isApplicable 45 = .ok (.iload_n 1, 1) := by decide +kernel
theorem dX9_isApplicable_46 : decode cX9_isApplicable 46 = .ok (.iload_n 2, 1) := by decide +kernel
theorem dX9_isApplicable_47 : decode cX9_isApplicable 47 = .ok (.bipush 6, 2) := by decide +kernel
theorem dX9_isApplicable_49 : decode cX9_isApplicable 49 = .ok (.invokevirtual 102, 3) := by decide +kernel
theorem dX9_isApplicable_52 : decode cX9_isApplicable 52 = .ok (.aload_n 0, 1) := by decide +kernel
theorem dX9_isApplicable_53 : decode cX9_isApplicable 53 = .ok (.getfield 22, 3) := by decide +kernel
theorem dX9_isApplicable_56 : decode cX9_isApplicable 56 = .ok (.iconst 5, 1) := by decide +kernel
theorem dX9_isApplicable_57 : decode cX9_isApplicable 57 = .ok (.iaload, 1) := by decide +kernel
theorem dX9_isApplicable_58 : decode cX9_isApplicable 58 = .ok (.if_icmp .ne 26, 3) := by decide +kernel
theorem dX9_isApplicable_61 : decode cX9_isApplicable 61 = .ok (.aload_n 0, 1) := by decide +kernel
theorem dX9_isApplicable_62 : decode cX9_isApplicable 62 = .ok (.iload_n 1, 1) := by decide +kernel
theorem dX9_isApplicable_63 : decode cX9_isApplicable 63 = .ok (.iload_n 2, 1) := by decide +kernel
theorem dX9_isApplicable_64 : decode cX9_isApplicable 64 = .ok (.iconst 3, 1) := by decide +kernel
theorem dX9_isApplicable_65 : decode cX9_isApplicable 65 = .ok (.invokevirtual 102, 3) := by decide +kernel
theorem dX9_isApplicable_68 : decode cX9_isApplicable 68 = .ok (.ifCond .le 16, 3) := by decide +kernel
theorem dX9_isApplicable_71 : decode cX9_isApplicable 71 = .ok (.aload_n 0, 1) := by decide +kernel
theorem dX9_isApplicable_72 : decode cX9_isApplicable 72 = .ok (.iload_n 1, 1) := by decide +kernel
theorem dX9_isApplicable_73 : decode cX9_isApplicable 73 = .ok (.iload_n 2, 1) := by decide +kernel
theorem dX9_isApplicable_74 : decode cX9_isApplicable 74 = .ok (.invokevirtual 256, 3) := by decide +kernel
theorem dX9_isApplicable_77 : decode cX9_isApplicable 77 = .ok (.ifCond .eq 7, 3) := by decide +kernel
theorem dX9_isApplicable_80 : decode cX9_isApplicable 80 = .ok (.iconst 1, 1) := by decide +kernel
theorem dX9_isApplicable_81 : decode cX9_isApplicable 81 = .ok (.goto 4, 3) := by decide +kernel
theorem dX9_isApplicable_84 : decode cX9_isApplicable 84 = .ok (.iconst 0, 1) := by decide +kernel
theorem dX9_isApplicable_85 : decode cX9_isApplicable 85 = .ok (.istore 6, 2) := by decide +kernel
theorem dX9_isApplicable_87 : decode cX9_isApplicable 87 = .ok (.iload 6, 2) := by decide +kernel
theorem dX9_isApplicable_89 : decode cX9_isApplicable 89 = .ok (.ifCond .eq 43, 3) := by decide +kernel
theorem dX9_isApplicable_92 : decode cX9_isApplicable 92 = .ok (.aload_n 0, 1) := by decide +kernel
theorem dX9_isApplicable_93 : decode cX9_isApplicable 93 = .ok (.iload_n 1, 1) := by decide +kernel
theorem dX9_isApplicable_94 : decode cX9_isApplicable 94 = .ok (.iload_n 2, 1) := by decide +kernel
theorem dX9_isApplicable_95 : decode cX9_isApplicable 95 = .ok (.invokevirtual 199, 3) := by decide +kernel
theorem dX9_isApplicable_98 : decode cX9_isApplicable 98 = .ok (.ifCond .eq 19, 3) := by decide +kernel
theorem dX9_isApplicable_101 : decode cX9_isApplicable 101 = .ok (.aload_n 0, 1) := by decide +kernel
theorem dX9_isApplicable_102 : decode cX9_isApplicable 102 = .ok (.iload_n 1, 1) := by decide +kernel
theorem dX9_isApplicable_103 : decode cX9_isApplicable 103 = .ok (.iload 5, 2) := by decide +kernel
theorem dX9_isApplicable_105 : decode cX9_isApplicable 105 = .ok (.invokevirtual 81, 3) := by decide +kernel
theorem dX9_isApplicable_108 : decode cX9_isApplicable 108 = .ok (.ifCond .eq 9, 3) := by decide +kernel
theorem dX9_isApplicable_111 : decode cX9_isApplicable 111 = .ok (.iload 5, 2) := by decide +kernel
theorem dX9_isApplicable_113 : decode cX9_isApplicable 113 = .ok (.iload_n 3, 1) := by decide +kernel
theorem dX9_isApplicable_114 : decode cX9_isApplicable 114 = .ok (.if_icmp .ne 18, 3) := by decide +kernel
theorem dX9_isApplicable_117 : decode cX9_isApplicable 117 = .ok (.aload_n 0, 1) := by decide +kernel
theorem dX9_isApplicable_118 : decode cX9_isApplicable 118 = .ok (.iload_n 1, 1) := by decide +kernel
theorem dX9_isApplicable_119 : decode cX9_isApplicable 119 = .ok (.iload_n 2, 1) := by decide +kernel
theorem dX9_isApplicable_120 : decode cX9_isApplicable 120 = .ok (.iload 4, 2) := by decide +kernel
theorem dX9_isApplicable_122 : decode cX9_isApplicable 122 = .ok (.invokevirtual 259, 3) := by decide +kernel
theorem dX9_isApplicable_125 : decode cX9_isApplicable 125 = .ok (.ifCond .ne 7, 3) := by decide +kernel
theorem dX9_isApplicable_128 : decode cX9_isApplicable 128 = .ok (.iconst 1, 1) := by decide +kernel
theorem dX9_isApplicable_129 : decode cX9_isApplicable 129 = .ok (.goto 4, 3) := by decide +kernel
theorem dX9_isApplicable_132 : decode cX9_isApplicable 132 = .ok (.iconst 0, 1) := by decide +kernel
theorem dX9_isApplicable_133 : decode cX9_isApplicable 133 = .ok (.istore 6, 2) := by decide +kernel
theorem dX9_isApplicable_135 : decode cX9_isApplicable 135 = .ok (.iconst 0, 1) := by decide +kernel
theorem dX9_isApplicable_136 : decode cX9_isApplicable 136 = .ok (.istore 7, 2) := by decide +kernel
theorem dX9_isApplicable_138 : decode cX9_isApplicable 138 = .ok (.iload 7, 2) := by decide +kernel
theorem dX9_isApplicable_140 : decode cX9_isApplicable 140 = .ok (.aload_n 0, 1) := by decide +kernel
theorem dX9_isApplicable_141 : decode cX9_isApplicable 141 = .ok (.getfield 22, 3) := by decide +kernel
theorem dX9_isApplicable_144 : decode cX9_isApplicable 144 = .ok (.iconst 5, 1) := by decide +kernel
theorem dX9_isApplicable_145 : decode cX9_isApplicable 145 = .ok (.iaload, 1) := by decide +kernel
theorem dX9_isApplicable_146 : decode cX9_isApplicable 146 = .ok (.if_icmp .ge 42, 3) := by decide +kernel
theorem dX9_isApplicable_149 : decode cX9_isApplicable 149 = .ok (.iload 6, 2) := by decide +kernel
theorem dX9_isApplicable_151 : decode cX9_isApplicable 151 = .ok (.ifCond .eq 37, 3) := by decide +kernel
theorem dX9_isApplicable_154 : decode cX9_isApplicable 154 = .ok (.aload_n 0, 1) := by decide +kernel
theorem dX9_isApplicable_155 : decode cX9_isApplicable 155 = .ok (.iload_n 1, 1) := by decide +kernel
theorem dX9_isApplicable_156 : decode cX9_isApplicable 156 = .ok (.aload_n 0, 1) := by decide +kernel
theorem dX9_isApplicable_157 : decode cX9_isApplicable 157 = .ok (.getfield 22, 3) := by decide +kernel
theorem dX9_isApplicable_160 : decode cX9_isApplicable 160 = .ok (.bipush 6, 2) := by decide +kernel
theorem dX9_isApplicable_162 : decode cX9_isApplicable 162 = .ok (.iload 7, 2) := by decide +kernel
theorem dX9_isApplicable_164 : decode cX9_isApplicable 164 = .ok (.iadd, 1) := by decide +kernel
theorem dX9_isApplicable_165 : decode cX9_isApplicable 165 = .ok (.iaload, 1) := by decide +kernel
theorem dX9_isApplicable_166 : decode cX9_isApplicable 166 = .ok (.aload_n 0, 1) := by decide +kernel
theorem dX9_isApplicable_167 : decode cX9_isApplicable 167 = .ok (.iload_n 1, 1) := by decide +kernel
theorem dX9_isApplicable_168 : decode cX9_isApplicable 168 = .ok (.iload_n 2, 1) := by decide +kernel
theorem dX9_isApplicable_169 : decode cX9_isApplicable 169 = .ok (.bipush 7, 2) := by decide +kernel
theorem dX9_isApplicable_171 : decode cX9_isApplicable 171 = .ok (.iload 7, 2) := by decide +kernel
theorem dX9_isApplicable_173 : decode cX9_isApplicable 173 = .ok (.iadd, 1) := by decide +kernel
theorem dX9_isApplicable_174 : decode cX9_isApplicable 174 = .ok (.invokevirtual 102, 3) := by decide +kernel
theorem dX9_isApplicable_177 : decode cX9_isApplicable 177 = .ok (.invokevirtual 170, 3) := by decide +kernel
theorem dX9_isApplicable_180 : decode cX9_isApplicable 180 = .ok (.istore 6, 2) := by decide +kernel
theorem dX9_isApplicable_182 : decode cX9_isApplicable 182 = .ok (.iinc 7 1, 3) := by decide +kernel
theorem dX9_isApplicable_185 : decode cX9_isApplicable 185 = .ok (.goto (-47), 3) := by decide +kernel
theorem dX9_isApplicable_188 : decode cX9_isApplicable 188 = .ok (.iload 6, 2) := by decide +kernel
theorem dX9_isApplicable_190 : decode cX9_isApplicable 190 = .ok (.ireturn, 1) := by decide +kernel
theorem dX9_isAbstract_0 : decode cX9_isAbstract 0 = .ok (.aload_n 0, 1) := by decide +kernel
theorem dX9_isAbstract_1 : decode cX9_isAbstract 1 = .ok (.iload_n 1, 1) := by decide +kernel
theorem dX9_isAbstract_2 : decode cX9_isAbstract 2 = .ok (.iload_n 2, 1) := by decide +kernel
theorem dX9_isAbstract_3 : decode cX9_isAbstract 3 = .ok (.iconst 4, 1) := by decide +kernel
theorem dX9_isAbstract_4 : decode cX9_isAbstract 4 = .ok (.invokevirtual 102, 3) := by decide +kernel
theorem dX9_isAbstract_7 : decode cX9_isAbstract 7 = .ok (.iconst 2, 1) := by decide +kernel
theorem dX9_isAbstract_8 : decode cX9_isAbstract 8 = .ok (.invokestatic 84, 3) := by decide +kernel
theorem dX9_isAbstract_11 : decode cX9_isAbstract 11 = .ok (.ireturn, 1) := by decide +kernel
theorem dX9_compiledCall_0 : decode cX9_compiledCall 0 = .ok (.aload_n 0, 1) := by decide +kernel
theorem dX9_compiledCall_1 : decode cX9_compiledCall 1 = .ok (.iload_n 1, 1) := by decide +kernel
theorem dX9_compiledCall_2 : decode cX9_compiledCall 2 = .ok (.iload_n 2, 1) := by decide +kernel
theorem dX9_compiledCall_3 : decode cX9_compiledCall 3 = .ok (.invokevirtual 125, 3) := by decide +kernel
theorem dX9_compiledCall_6 : decode cX9_compiledCall 6 = .ok (.istore_n 3, 1) := by decide +kernel
theorem dX9_compiledCall_7 : decode cX9_compiledCall 7 = .ok (.iconst 0, 1) := by decide +kernel
theorem dX9_compiledCall_8 : decode cX9_compiledCall 8 = .ok (.istore 4, 2) := by decide +kernel
theorem dX9_compiledCall_10 : decode cX9_compiledCall 10 = .ok (.iconst 0, 1) := by decide +kernel
theorem dX9_compiledCall_11 : decode cX9_compiledCall 11 = .ok (.istore 5, 2) := by decide +kernel
theorem dX9_compiledCall_13 : decode cX9_compiledCall 13 = .ok (.iload 5, 2) := by decide +kernel
theorem dX9_compiledCall_15 : decode cX9_compiledCall 15 = .ok (.aload_n 0, 1) := by decide +kernel
theorem dX9_compiledCall_16 : decode cX9_compiledCall 16 = .ok (.iload_n 1, 1) := by decide +kernel
theorem dX9_compiledCall_17 : decode cX9_compiledCall 17 = .ok (.invokevirtual 51, 3) := by decide +kernel
theorem dX9_compiledCall_20 : decode cX9_compiledCall 20 = .ok (.if_icmp .ge 45, 3) := by decide +kernel
theorem dX9_compiledCall_23 : decode cX9_compiledCall 23 = .ok (.aload_n 0, 1) := by decide +kernel
theorem dX9_compiledCall_24 : decode cX9_compiledCall 24 = .ok (.getfield 28, 3) := by decide +kernel
theorem dX9_compiledCall_27 : decode cX9_compiledCall 27 = .ok (.iload 5, 2) := by decide +kernel
theorem dX9_compiledCall_29 : decode cX9_compiledCall 29 = .ok (.aload_n 0, 1) := by decide +kernel
theorem dX9_compiledCall_30 : decode cX9_compiledCall 30 = .ok (.iload_n 1, 1) := by decide +kernel
theorem dX9_compiledCall_31 : decode cX9_compiledCall 31 = .ok (.iload 5, 2) := by decide +kernel
theorem dX9_compiledCall_33 : decode cX9_compiledCall 33 = .ok (.iload_n 2, 1) := by decide +kernel
theorem dX9_compiledCall_34 : decode cX9_compiledCall 34 = .ok (.iload_n 3, 1) := by decide +kernel
theorem dX9_compiledCall_35 : decode cX9_compiledCall 35 = .ok (.invokevirtual 262, 3) := by decide +kernel
theorem dX9_compiledCall_38 : decode cX9_compiledCall 38 = .ok (.bastore, 1) := by decide +kernel
theorem dX9_compiledCall_39 : decode cX9_compiledCall 39 = .ok (.iload 4, 2) := by decide +kernel
theorem dX9_compiledCall_41 : decode cX9_compiledCall 41 = .ok (.aload_n 0, 1) := by decide +kernel
theorem dX9_compiledCall_42 : decode cX9_compiledCall 42 = .ok (.getfield 28, 3) := by decide +kernel
theorem dX9_compiledCall_45 : decode cX9_compiledCall 45 = .ok (.iload 5, 2) := by decide +kernel
theorem dX9_compiledCall_47 : decode cX9_compiledCall 47 = .ok (.baload, 1) := by decide +kernel
theorem dX9_compiledCall_48 : decode cX9_compiledCall 48 = .ok (.ifCond .eq 7, 3) := by decide +kernel
theorem dX9_compiledCall_51 : decode cX9_compiledCall 51 = .ok (.iconst 1, 1) := by decide +kernel
theorem dX9_compiledCall_52 : decode cX9_compiledCall 52 = .ok (.goto 4, 3) := by decide +kernel
theorem dX9_compiledCall_55 : decode cX9_compiledCall 55 = .ok (.iconst 0, 1) := by decide +kernel
theorem dX9_compiledCall_56 : decode cX9_compiledCall 56 = .ok (.iadd, 1) := by decide +kernel
theorem dX9_compiledCall_57 : decode cX9_compiledCall 57 = .ok (.istore 4, 2) := by decide +kernel
theorem dX9_compiledCall_59 : decode cX9_compiledCall 59 = .ok (.iinc 5 1, 3) := by decide +kernel
theorem dX9_compiledCall_62 : decode cX9_compiledCall 62 = .ok (.goto (-49), 3) := by decide +kernel
theorem dX9_compiledCall_65 : decode cX9_compiledCall 65 = .ok (.iload 4, 2) := by decide +kernel
theorem dX9_compiledCall_67 : decode cX9_compiledCall 67 = .ok (.ifCond .ne 5, 3) := by decide +kernel
theorem dX9_compiledCall_70 : decode cX9_compiledCall 70 = .ok (.iconst 3, 1) := by decide +kernel
theorem dX9_compiledCall_71 : decode cX9_compiledCall 71 = .ok (.ireturn, 1) := by decide +kernel
theorem dX9_compiledCall_72 : decode cX9_compiledCall 72 = .ok (.bipush (-2), 2) := by decide +kernel
theorem dX9_compiledCall_74 : decode cX9_compiledCall 74 = .ok (.istore 5, 2) := by decide +kernel
theorem dX9_compiledCall_76 : decode cX9_compiledCall 76 = .ok (.bipush (-2), 2) := by decide +kernel
theorem dX9_compiledCall_78 : decode cX9_compiledCall 78 = .ok (.istore 6, 2) := by decide +kernel
theorem dX9_compiledCall_80 : decode cX9_compiledCall 80 = .ok (.iconst 0, 1) := by decide +kernel
theorem dX9_compiledCall_81 : decode cX9_compiledCall 81 = .ok (.istore 7, 2) := by decide +kernel
theorem dX9_compiledCall_83 : decode cX9_compiledCall 83 = .ok (.iconst 0, 1) := by decide +kernel
theorem dX9_compiledCall_84 : decode cX9_compiledCall 84 = .ok (.istore 8, 2) := by decide +kernel
theorem dX9_compiledCall_86 : decode cX9_compiledCall 86 = .ok (.iload 8, 2) := by decide +kernel
theorem dX9_compiledCall_88 : decode cX9_compiledCall 88 = .ok (.aload_n 0, 1) := by decide +kernel
theorem dX9_compiledCall_89 : decode cX9_compiledCall 89 = .ok (.iload_n 1, 1) := by decide +kernel
theorem dX9_compiledCall_90 : decode cX9_compiledCall 90 = .ok (.invokevirtual 51, 3) := by decide +kernel
theorem dX9_compiledCall_93 : decode cX9_compiledCall 93 = .ok (.if_icmp .ge 168, 3) := by decide +kernel
theorem dX9_compiledCall_96 : decode cX9_compiledCall 96 = .ok (.aload_n 0, 1) := by decide +kernel
theorem dX9_compiledCall_97 : decode cX9_compiledCall 97 = .ok (.getfield 28, 3) := by decide +kernel
theorem dX9_compiledCall_100 : decode cX9_compiledCall 100 = .ok (.iload 8, 2) := by decide +kernel
theorem dX9_compiledCall_102 : decode cX9_compiledCall 102 = .ok (.baload, 1) := by decide +kernel
theorem dX9_compiledCall_103 : decode cX9_compiledCall 103 = .ok (.istore 9, 2) := by decide +kernel
theorem dX9_compiledCall_105 : decode cX9_compiledCall 105 = .ok (.iconst 0, 1) := by decide +kernel
theorem dX9_compiledCall_106 : decode cX9_compiledCall 106 = .ok (.istore 10, 2) := by decide +kernel
theorem dX9_compiledCall_108 : decode cX9_compiledCall 108 = .ok (.iload 10, 2) := by decide +kernel
theorem dX9_compiledCall_110 : decode cX9_compiledCall 110 = .ok (.aload_n 0, 1) := by decide +kernel
theorem dX9_compiledCall_111 : decode cX9_compiledCall 111 = .ok (.iload_n 1, 1) := by decide +kernel
theorem dX9_compiledCall_112 : decode cX9_compiledCall 112 = .ok (.invokevirtual 51, 3) := by decide +kernel
theorem dX9_compiledCall_115 : decode cX9_compiledCall 115 = .ok (.if_icmp .ge 80, 3) := by decide +kernel
theorem dX9_compiledCall_118 : decode cX9_compiledCall 118 = .ok (.iload 9, 2) := by decide +kernel
theorem dX9_compiledCall_120 : decode cX9_compiledCall 120 = .ok (.ifCond .eq 75, 3) := by decide +kernel
theorem dX9_compiledCall_123 : decode cX9_compiledCall 123 = .ok (.iconst 0, 1) := by decide +kernel
theorem dX9_compiledCall_124 : decode cX9_compiledCall 124 = .ok (.istore 11, 2) := by decide +kernel
theorem dX9_compiledCall_126 : decode cX9_compiledCall 126 = .ok (.iload 11, 2) := by decide +kernel
theorem dX9_compiledCall_128 : decode cX9_compiledCall 128 = .ok (.aload_n 0, 1) := by decide +kernel
theorem dX9_compiledCall_129 : decode cX9_compiledCall 129 = .ok (.getfield 22, 3) := by decide +kernel
theorem dX9_compiledCall_132 : decode cX9_compiledCall 132 = .ok (.iconst 5, 1) := by decide +kernel
theorem dX9_compiledCall_133 : decode cX9_compiledCall 133 = .ok (.iaload, 1) := by decide +kernel
theorem dX9_compiledCall_134 : decode cX9_compiledCall 134 = .ok (.if_icmp .ge 55, 3) := by decide +kernel
theorem dX9_compiledCall_137 : decode cX9_compiledCall 137 = .ok (.iload 9, 2) := by decide +kernel
theorem dX9_compiledCall_139 : decode cX9_compiledCall 139 = .ok (.ifCond .eq 50, 3) := by decide +kernel
theorem dX9_compiledCall_142 : decode cX9_compiledCall 142 = .ok (.aload_n 0, 1) := by decide +kernel
theorem dX9_compiledCall_143 : decode cX9_compiledCall 143 = .ok (.getfield 28, 3) := by decide +kernel
theorem dX9_compiledCall_146 : decode cX9_compiledCall 146 = .ok (.iload 10, 2) := by decide +kernel
theorem dX9_compiledCall_148 : decode cX9_compiledCall 148 = .ok (.baload, 1) := by decide +kernel
theorem dX9_compiledCall_149 : decode cX9_compiledCall 149 = .ok (.ifCond .eq 40, 3) := by decide +kernel
theorem dX9_compiledCall_152 : decode cX9_compiledCall 152 = .ok (.aload_n 0, 1) := by decide +kernel
theorem dX9_compiledCall_153 : decode cX9_compiledCall 153 = .ok (.iload_n 1, 1) := by decide +kernel
theorem dX9_compiledCall_154 : decode cX9_compiledCall 154 = .ok (.aload_n 0, 1) := by decide +kernel
theorem dX9_compiledCall_155 : decode cX9_compiledCall 155 = .ok (.iload_n 1, 1) := by decide +kernel
theorem dX9_compiledCall_156 : decode cX9_compiledCall 156 = .ok (.iload 8, 2) := by decide +kernel
theorem dX9_compiledCall_158 : decode cX9_compiledCall 158 = .ok (.bipush 7, 2) := by decide +kernel
theorem dX9_compiledCall_160 : decode cX9_compiledCall 160 = .ok (.iload 11, 2) := by decide +kernel
theorem dX9_compiledCall_162 : decode cX9_compiledCall 162 = .ok (.iadd, 1) := by decide +kernel
theorem dX9_compiledCall_163 : decode cX9_compiledCall 163 = .ok (.invokevirtual 102, 3) := by decide +kernel
theorem dX9_compiledCall_166 : decode cX9_compiledCall 166 = .ok (.aload_n 0, 1) := by decide +kernel
theorem dX9_compiledCall_167 : decode cX9_compiledCall 167 = .ok (.iload_n 1, 1) := by decide +kernel
theorem dX9_compiledCall_168 : decode cX9_compiledCall 168 = .ok (.iload 10, 2) := by decide +kernel
theorem dX9_compiledCall_170 : decode cX9_compiledCall 170 = .ok (.bipush 7, 2) := by decide +kernel
theorem dX9_compiledCall_172 : decode cX9_compiledCall 172 = .ok (.iload 11, 2) := by decide +kernel
theorem dX9_compiledCall_174 : decode cX9_compiledCall 174 = .ok (.iadd, 1) := by decide +kernel
theorem dX9_compiledCall_175 : decode cX9_compiledCall 175 = .ok (.invokevirtual 102, 3) := by decide +kernel
theorem dX9_compiledCall_178 : decode cX9_compiledCall 178 = .ok (.invokevirtual 170, 3) := by decide +kernel
theorem dX9_compiledCall_181 : decode cX9_compiledCall 181 = .ok (.istore 9, 2) := by decide +kernel
theorem dX9_compiledCall_183 : decode cX9_compiledCall 183 = .ok (.iinc 11 1, 3) := by decide +kernel
theorem dX9_compiledCall_186 : decode cX9_compiledCall 186 = .ok (.goto (-60), 3) := by decide +kernel
theorem dX9_compiledCall_189 : decode cX9_compiledCall 189 = .ok (.iinc 10 1, 3) := by decide +kernel
theorem dX9_compiledCall_192 : decode cX9_compiledCall 192 = .ok (.goto (-84), 3) := by decide +kernel
theorem dX9_compiledCall_195 : decode cX9_compiledCall 195 = .ok (.iload 9, 2) := by decide +kernel
theorem dX9_compiledCall_197 : decode cX9_compiledCall 197 = .ok (.ifCond .eq 58, 3) := by decide +kernel
theorem dX9_compiledCall_200 : decode cX9_compiledCall 200 = .ok (.iload 5, 2) := by decide +kernel
theorem dX9_compiledCall_202 : decode cX9_compiledCall 202 = .ok (.bipush (-2), 2) := by decide +kernel
theorem dX9_compiledCall_204 : decode cX9_compiledCall 204 = .ok (.if_icmp .ne 8, 3) := by decide +kernel
theorem dX9_compiledCall_207 : decode cX9_compiledCall 207 = .ok (.iload 8, 2) := by decide +kernel
theorem dX9_compiledCall_209 : decode cX9_compiledCall 209 = .ok (.goto 5, 3) := by decide +kernel
theorem dX9_compiledCall_212 : decode cX9_compiledCall 212 = .ok (.iload 5, 2) := by decide +kernel
theorem dX9_compiledCall_214 : decode cX9_compiledCall 214 = .ok (.istore 5, 2) := by decide +kernel
theorem dX9_compiledCall_216 : decode cX9_compiledCall 216 = .ok (.aload_n 0, 1) := by decide +kernel
theorem dX9_compiledCall_217 : decode cX9_compiledCall 217 = .ok (.iload_n 1, 1) := by decide +kernel
theorem dX9_compiledCall_218 : decode cX9_compiledCall 218 = .ok (.iload 8, 2) := by decide +kernel
theorem dX9_compiledCall_220 : decode cX9_compiledCall 220 = .ok (.invokevirtual 109, 3) := by decide +kernel
theorem dX9_compiledCall_223 : decode cX9_compiledCall 223 = .ok (.ifCond .eq 8, 3) := by decide +kernel
theorem dX9_compiledCall_226 : decode cX9_compiledCall 226 = .ok (.iload 6, 2) := by decide +kernel
theorem dX9_compiledCall_228 : decode cX9_compiledCall 228 = .ok (.goto 5, 3) := by decide +kernel
theorem dX9_compiledCall_231 : decode cX9_compiledCall 231 = .ok (.iload 8, 2) := by decide +kernel
theorem dX9_compiledCall_233 : decode cX9_compiledCall 233 = .ok (.istore 6, 2) := by decide +kernel
theorem dX9_compiledCall_235 : decode cX9_compiledCall 235 = .ok (.iload 7, 2) := by decide +kernel
theorem dX9_compiledCall_237 : decode cX9_compiledCall 237 = .ok (.aload_n 0, 1) := by decide +kernel
theorem dX9_compiledCall_238 : decode cX9_compiledCall 238 = .ok (.iload_n 1, 1) := by decide +kernel
theorem dX9_compiledCall_239 : decode cX9_compiledCall 239 = .ok (.iload 8, 2) := by decide +kernel
theorem dX9_compiledCall_241 : decode cX9_compiledCall 241 = .ok (.invokevirtual 109, 3) := by decide +kernel
theorem dX9_compiledCall_244 : decode cX9_compiledCall 244 = .ok (.ifCond .eq 7, 3) := by decide +kernel
theorem dX9_compiledCall_247 : decode cX9_compiledCall 247 = .ok (.iconst 0, 1) := by decide +kernel
theorem dX9_compiledCall_248 : decode cX9_compiledCall 248 = .ok (.goto 4, 3) := by decide +kernel
theorem dX9_compiledCall_251 : decode cX9_compiledCall 251 = .ok (.iconst 1, 1) := by decide +kernel
theorem dX9_compiledCall_252 : decode cX9_compiledCall 252 = .ok (.iadd, 1) := by decide +kernel
theorem dX9_compiledCall_253 : decode cX9_compiledCall 253 = .ok (.istore 7, 2) := by decide +kernel
theorem dX9_compiledCall_255 : decode cX9_compiledCall 255 = .ok (.iinc 8 1, 3) := by decide +kernel
theorem dX9_compiledCall_258 : decode cX9_compiledCall 258 = .ok (.goto (-172), 3) := by decide +kernel
theorem dX9_compiledCall_261 : decode cX9_compiledCall 261 = .ok (.iload 5, 2) := by decide +kernel
theorem dX9_compiledCall_263 : decode cX9_compiledCall 263 = .ok (.bipush (-2), 2) := by decide +kernel
theorem dX9_compiledCall_265 : decode cX9_compiledCall 265 = .ok (.if_icmp .ne 5, 3) := by decide +kernel
theorem dX9_compiledCall_268 : decode cX9_compiledCall 268 = .ok (.iconst 4, 1) := by decide +kernel
theorem dX9_compiledCall_269 : decode cX9_compiledCall 269 = .ok (.ireturn, 1) := by decide +kernel
theorem dX9_compiledCall_270 : decode cX9_compiledCall 270 = .ok (.iload 7, 2) := by decide +kernel
theorem dX9_compiledCall_272 : decode cX9_compiledCall 272 = .ok (.iconst 1, 1) := by decide +kernel
theorem dX9_compiledCall_273 : decode cX9_compiledCall 273 = .ok (.if_icmp .ne 8, 3) := by decide +kernel
theorem dX9_compiledCall_276 : decode cX9_compiledCall 276 = .ok (.iload 6, 2) := by decide +kernel
theorem dX9_compiledCall_278 : decode cX9_compiledCall 278 = .ok (.goto 5, 3) := by decide +kernel
theorem dX9_compiledCall_281 : decode cX9_compiledCall 281 = .ok (.iload 5, 2) := by decide +kernel
theorem dX9_compiledCall_283 : decode cX9_compiledCall 283 = .ok (.istore 8, 2) := by decide +kernel
theorem dX9_compiledCall_285 : decode cX9_compiledCall 285 = .ok (.aload_n 0, 1) := by decide +kernel
theorem dX9_compiledCall_286 : decode cX9_compiledCall 286 = .ok (.getfield 25, 3) := by decide +kernel
theorem dX9_compiledCall_289 : decode cX9_compiledCall 289 = .ok (.iconst 2, 1) := by decide +kernel
theorem dX9_compiledCall_290 : decode cX9_compiledCall 290 = .ok (.aload_n 0, 1) := by decide +kernel
theorem dX9_compiledCall_291 : decode cX9_compiledCall 291 = .ok (.iload_n 1, 1) := by decide +kernel
theorem dX9_compiledCall_292 : decode cX9_compiledCall 292 = .ok (.iload 8, 2) := by decide +kernel
theorem dX9_compiledCall_294 : decode cX9_compiledCall 294 = .ok (.iconst 5, 1) := by decide +kernel
theorem dX9_compiledCall_295 : decode cX9_compiledCall 295 = .ok (.invokevirtual 102, 3) := by decide +kernel
theorem dX9_compiledCall_298 : decode cX9_compiledCall 298 = .ok (.iastore, 1) := by decide +kernel
theorem dX9_compiledCall_299 : decode cX9_compiledCall 299 = .ok (.aload_n 0, 1) := by decide +kernel
theorem dX9_compiledCall_300 : decode cX9_compiledCall 300 = .ok (.getfield 25, 3) := by decide +kernel
theorem dX9_compiledCall_303 : decode cX9_compiledCall 303 = .ok (.iconst 3, 1) := by decide +kernel
theorem dX9_compiledCall_304 : decode cX9_compiledCall 304 = .ok (.aload_n 0, 1) := by decide +kernel
theorem dX9_compiledCall_305 : decode cX9_compiledCall 305 = .ok (.iload_n 1, 1) := by decide +kernel
theorem dX9_compiledCall_306 : decode cX9_compiledCall 306 = .ok (.iload 8, 2) := by decide +kernel
theorem dX9_compiledCall_308 : decode cX9_compiledCall 308 = .ok (.invokevirtual 199, 3) := by decide +kernel
theorem dX9_compiledCall_311 : decode cX9_compiledCall 311 = .ok (.ifCond .eq 7, 3) := by decide +kernel
theorem dX9_compiledCall_314 : decode cX9_compiledCall 314 = .ok (.iconst 1, 1) := by decide +kernel
theorem dX9_compiledCall_315 : decode cX9_compiledCall 315 = .ok (.goto 4, 3) := by decide +kernel
theorem dX9_compiledCall_318 : decode cX9_compiledCall 318 = .ok (.iconst 0, 1) := by decide +kernel
theorem dX9_compiledCall_319 : decode cX9_compiledCall 319 = .ok (.iastore, 1) := by decide +kernel
theorem dX9_compiledCall_320 : decode cX9_compiledCall 320 = .ok (.aload_n 0, 1) := by decide +kernel
theorem dX9_compiledCall_321 : decode cX9_compiledCall 321 = .ok (.getfield 25, 3) := by decide +kernel
theorem dX9_compiledCall_324 : decode cX9_compiledCall 324 = .ok (.iconst 4, 1) := by decide +kernel
theorem dX9_compiledCall_325 : decode cX9_compiledCall 325 = .ok (.aload_n 0, 1) := by decide +kernel
theorem dX9_compiledCall_326 : decode cX9_compiledCall 326 = .ok (.iload_n 1, 1) := by decide +kernel
theorem dX9_compiledCall_327 : decode cX9_compiledCall 327 = .ok (.iload 8, 2) := by decide +kernel
theorem dX9_compiledCall_329 : decode cX9_compiledCall 329 = .ok (.bipush 6, 2) := by decide +kernel
theorem dX9_compiledCall_331 : decode cX9_compiledCall 331 = .ok (.invokevirtual 102, 3) := by decide +kernel
theorem dX9_compiledCall_334 : decode cX9_compiledCall 334 = .ok (.iastore, 1) := by decide +kernel
theorem dX9_compiledCall_335 : decode cX9_compiledCall 335 = .ok (.aload_n 0, 1) := by decide +kernel
theorem dX9_compiledCall_336 : decode cX9_compiledCall 336 = .ok (.getfield 25, 3) := by decide +kernel
theorem dX9_compiledCall_339 : decode cX9_compiledCall 339 = .ok (.iconst 5, 1) := by decide +kernel
theorem dX9_compiledCall_340 : decode cX9_compiledCall 340 = .ok (.aload_n 0, 1) := by decide +kernel
theorem dX9_compiledCall_341 : decode cX9_compiledCall 341 = .ok (.iload_n 1, 1) := by decide +kernel
theorem dX9_compiledCall_342 : decode cX9_compiledCall 342 = .ok (.iload 8, 2) := by decide +kernel
theorem dX9_compiledCall_344 : decode cX9_compiledCall 344 = .ok (.bipush 7, 2) := by decide +kernel
theorem dX9_compiledCall_346 : decode cX9_compiledCall 346 = .ok (.invokevirtual 102, 3) := by decide +kernel
theorem dX9_compiledCall_349 : decode cX9_compiledCall 349 = .ok (.iastore, 1) := by decide +kernel
theorem dX9_compiledCall_350 : decode cX9_compiledCall 350 = .ok (.aload_n 0, 1) := by decide +kernel
theorem dX9_compiledCall_351 : decode cX9_compiledCall 351 = .ok (.getfield 25, 3) := by decide +kernel
theorem dX9_compiledCall_354 : decode cX9_compiledCall 354 = .ok (.bipush 6, 2) := by decide +kernel
theorem dX9_compiledCall_356 : decode cX9_compiledCall 356 = .ok (.aload_n 0, 1) := by decide +kernel
theorem dX9_compiledCall_357 : decode cX9_compiledCall 357 = .ok (.iload_n 1, 1) := by decide +kernel
theorem dX9_compiledCall_358 : decode cX9_compiledCall 358 = .ok (.iload 8, 2) := by decide +kernel
theorem dX9_compiledCall_360 : decode cX9_compiledCall 360 = .ok (.bipush 8, 2) := by decide +kernel
theorem dX9_compiledCall_362 : decode cX9_compiledCall 362 = .ok (.invokevirtual 102, 3) := by decide +kernel
theorem dX9_compiledCall_365 : decode cX9_compiledCall 365 = .ok (.iastore, 1) := by decide +kernel
theorem dX9_compiledCall_366 : decode cX9_compiledCall 366 = .ok (.aload_n 0, 1) := by decide +kernel
theorem dX9_compiledCall_367 : decode cX9_compiledCall 367 = .ok (.getfield 25, 3) := by decide +kernel
theorem dX9_compiledCall_370 : decode cX9_compiledCall 370 = .ok (.bipush 7, 2) := by decide +kernel
theorem dX9_compiledCall_372 : decode cX9_compiledCall 372 = .ok (.aload_n 0, 1) := by decide +kernel
theorem dX9_compiledCall_373 : decode cX9_compiledCall 373 = .ok (.iload_n 1, 1) := by decide +kernel
theorem dX9_compiledCall_374 : decode cX9_compiledCall 374 = .ok (.iload_n 2, 1) := by decide +kernel
theorem dX9_compiledCall_375 : decode cX9_compiledCall 375 = .ok (.iconst 1, 1) := by decide +kernel
theorem dX9_compiledCall_376 : decode cX9_compiledCall 376 = .ok (.invokevirtual 73, 3) := by decide +kernel
theorem dX9_compiledCall_379 : decode cX9_compiledCall 379 = .ok (.iastore, 1) := by decide +kernel
theorem dX9_compiledCall_380 : decode cX9_compiledCall 380 = .ok (.iconst 0, 1) := by decide +kernel
theorem dX9_compiledCall_381 : decode cX9_compiledCall 381 = .ok (.ireturn, 1) := by decide +kernel
theorem dX9_wants_0 : decode cX9_wants 0 = .ok (.aload_n 0, 1) := by decide +kernel
theorem dX9_wants_1 : decode cX9_wants 1 = .ok (.iload_n 1, 1) := by decide +kernel
theorem dX9_wants_2 : decode cX9_wants 2 = .ok (.putfield 180, 3) := by decide +kernel
theorem dX9_wants_5 : decode cX9_wants 5 = .ok (.aload_n 0, 1) := by decide +kernel
theorem dX9_wants_6 : decode cX9_wants 6 = .ok (.iload_n 2, 1) := by decide +kernel
theorem dX9_wants_7 : decode cX9_wants 7 = .ok (.putfield 183, 3) := by decide +kernel
theorem dX9_wants_10 : decode cX9_wants 10 = .ok (.aload_n 0, 1) := by decide +kernel
theorem dX9_wants_11 : decode cX9_wants 11 = .ok (.iload_n 3, 1) := by decide +kernel
theorem dX9_wants_12 : decode cX9_wants 12 = .ok (.putfield 186, 3) := by decide +kernel
theorem dX9_wants_15 : decode cX9_wants 15 = .ok (.aload_n 0, 1) := by decide +kernel
theorem dX9_wants_16 : decode cX9_wants 16 = .ok (.iload 4, 2) := by decide +kernel
theorem dX9_wants_18 : decode cX9_wants 18 = .ok (.putfield 189, 3) := by decide +kernel
theorem dX9_wants_21 : decode cX9_wants 21 = .ok (.aload_n 0, 1) := by decide +kernel
theorem dX9_wants_22 : decode cX9_wants 22 = .ok (.iload 5, 2) := by decide +kernel
theorem dX9_wants_24 : decode cX9_wants 24 = .ok (.putfield 192, 3) := by decide +kernel
theorem dX9_wants_27 : decode cX9_wants 27 = .ok (.return_, 1) := by decide +kernel
theorem dX9_wantsLike_0 : decode cX9_wantsLike 0 = .ok (.aload_n 0, 1) := by decide +kernel
theorem dX9_wantsLike_1 : decode cX9_wantsLike 1 = .ok (.aload_n 0, 1) := by decide +kernel
theorem dX9_wantsLike_2 : decode cX9_wantsLike 2 = .ok (.iload_n 1, 1) := by decide +kernel
theorem dX9_wantsLike_3 : decode cX9_wantsLike 3 = .ok (.iload_n 2, 1) := by decide +kernel
theorem dX9_wantsLike_4 : decode cX9_wantsLike 4 = .ok (.iconst 2, 1) := by decide +kernel
theorem dX9_wantsLike_5 : decode cX9_wantsLike 5 = .ok (.invokevirtual 102, 3) := by decide +kernel
theorem dX9_wantsLike_8 : decode cX9_wantsLike 8 = .ok (.aload_n 0, 1) := by decide +kernel
theorem dX9_wantsLike_9 : decode cX9_wantsLike 9 = .ok (.iload_n 1, 1) := by decide +kernel
theorem dX9_wantsLike_10 : decode cX9_wantsLike 10 = .ok (.iload_n 2, 1) := by decide +kernel
theorem dX9_wantsLike_11 : decode cX9_wantsLike 11 = .ok (.iconst 5, 1) := by decide +kernel
theorem dX9_wantsLike_12 : decode cX9_wantsLike 12 = .ok (.invokevirtual 102, 3) := by decide +kernel
theorem dX9_wantsLike_15 : decode cX9_wantsLike 15 = .ok (.aload_n 0, 1) := by decide +kernel
theorem dX9_wantsLike_16 : decode cX9_wantsLike 16 = .ok (.iload_n 1, 1) := by decide +kernel
theorem dX9_wantsLike_17 : decode cX9_wantsLike 17 = .ok (.iload_n 2, 1) := by decide +kernel
theorem dX9_wantsLike_18 : decode cX9_wantsLike 18 = .ok (.bipush 6, 2) := by decide +kernel
theorem dX9_wantsLike_20 : decode cX9_wantsLike 20 = .ok (.invokevirtual 102, 3) := by decide +kernel
theorem dX9_wantsLike_23 : decode cX9_wantsLike 23 = .ok (.aload_n 0, 1) := by decide +kernel
theorem dX9_wantsLike_24 : decode cX9_wantsLike 24 = .ok (.iload_n 1, 1) := by decide +kernel
theorem dX9_wantsLike_25 : decode cX9_wantsLike 25 = .ok (.iload_n 2, 1) := by decide +kernel
theorem dX9_wantsLike_26 : decode cX9_wantsLike 26 = .ok (.bipush 7, 2) := by decide +kernel
theorem dX9_wantsLike_28 : decode cX9_wantsLike 28 = .ok (.invokevirtual 102, 3) := by decide +kernel
theorem dX9_wantsLike_31 : decode cX9_wantsLike 31 = .ok (.aload_n 0, 1) := by decide +kernel
theorem dX9_wantsLike_32 : decode cX9_wantsLike 32 = .ok (.iload_n 1, 1) := by decide +kernel
theorem dX9_wantsLike_33 : decode cX9_wantsLike 33 = .ok (.iload_n 2, 1) := by decide +kernel
theorem dX9_wantsLike_34 : decode cX9_wantsLike 34 = .ok (.bipush 8, 2) := by decide +kernel
theorem dX9_wantsLike_36 : decode cX9_wantsLike 36 = .ok (.invokevirtual 102, 3) := by decide +kernel
theorem dX9_wantsLike_39 : decode cX9_wantsLike 39 = .ok (.invokevirtual 195, 3) := by decide +kernel
theorem dX9_wantsLike_42 : decode cX9_wantsLike 42 = .ok (.return_, 1) := by decide +kernel
theorem dX9_own_0 : decode cX9_own 0 = .ok (.aload_n 0, 1) := by decide +kernel
theorem dX9_own_1 : decode cX9_own 1 = .ok (.iload_n 1, 1) := by decide +kernel
theorem dX9_own_2 : decode cX9_own 2 = .ok (.iload_n 2, 1) := by decide +kernel
theorem dX9_own_3 : decode cX9_own 3 = .ok (.iconst 1, 1) := by decide +kernel
theorem dX9_own_4 : decode cX9_own 4 = .ok (.aload_n 0, 1) := by decide +kernel
theorem dX9_own_5 : decode cX9_own 5 = .ok (.getfield 180, 3) := by decide +kernel
theorem dX9_own_8 : decode cX9_own 8 = .ok (.aload_n 0, 1) := by decide +kernel
theorem dX9_own_9 : decode cX9_own 9 = .ok (.getfield 186, 3) := by decide +kernel
theorem dX9_own_12 : decode cX9_own 12 = .ok (.aload_n 0, 1) := by decide +kernel
theorem dX9_own_13 : decode cX9_own 13 = .ok (.getfield 189, 3) := by decide +kernel
theorem dX9_own_16 : decode cX9_own 16 = .ok (.aload_n 0, 1) := by decide +kernel
theorem dX9_own_17 : decode cX9_own 17 = .ok (.getfield 192, 3) := by decide +kernel
theorem dX9_own_20 : decode cX9_own 20 = .ok (.invokevirtual 144, 3) := by decide +kernel
theorem dX9_own_23 : decode cX9_own 23 = .ok (.istore_n 3, 1) := by decide +kernel
theorem dX9_own_24 : decode cX9_own 24 = .ok (.iload_n 3, 1) := by decide +kernel
theorem dX9_own_25 : decode cX9_own 25 = .ok (.bipush (-2), 2) := by decide +kernel
theorem dX9_own_27 : decode cX9_own 27 = .ok (.if_icmp .eq 21, 3) := by decide +kernel
theorem dX9_own_30 : decode cX9_own 30 = .ok (.aload_n 0, 1) := by decide +kernel
theorem dX9_own_31 : decode cX9_own 31 = .ok (.iload_n 1, 1) := by decide +kernel
theorem dX9_own_32 : decode cX9_own 32 = .ok (.iload_n 3, 1) := by decide +kernel
theorem dX9_own_33 : decode cX9_own 33 = .ok (.iconst 5, 1) := by decide +kernel
theorem dX9_own_34 : decode cX9_own 34 = .ok (.invokevirtual 102, 3) := by decide +kernel
theorem dX9_own_37 : decode cX9_own 37 = .ok (.aload_n 0, 1) := by decide +kernel
theorem dX9_own_38 : decode cX9_own 38 = .ok (.getfield 183, 3) := by decide +kernel
theorem dX9_own_41 : decode cX9_own 41 = .ok (.if_icmp .ne 7, 3) := by decide +kernel
theorem dX9_own_44 : decode cX9_own 44 = .ok (.iload_n 3, 1) := by decide +kernel
theorem dX9_own_45 : decode cX9_own 45 = .ok (.goto 5, 3) := by decide +kernel
theorem dX9_own_48 : decode cX9_own 48 = .ok (.bipush (-2), 2) := by decide +kernel
theorem dX9_own_50 : decode cX9_own 50 = .ok (.ireturn, 1) := by decide +kernel
theorem dX9_isCandidate_0 : decode cX9_isCandidate 0 = .ok (.iload_n 2, 1) := by decide +kernel
theorem dX9_isCandidate_1 : decode cX9_isCandidate 1 = .ok (.bipush (-2), 2) := by decide +kernel
theorem dX9_isCandidate_3 : decode cX9_isCandidate 3 = .ok (.if_icmp .eq 26, 3) := by decide +kernel
theorem dX9_isCandidate_6 : decode cX9_isCandidate 6 = .ok (.aload_n 0, 1) := by decide +kernel
theorem dX9_isCandidate_7 : decode cX9_isCandidate 7 = .ok (.iload_n 1, 1) := by decide +kernel
theorem dX9_isCandidate_8 : decode cX9_isCandidate 8 = .ok (.iload_n 2, 1) := by decide +kernel
theorem dX9_isCandidate_9 : decode cX9_isCandidate 9 = .ok (.invokevirtual 199, 3) := by decide +kernel
theorem dX9_isCandidate_12 : decode cX9_isCandidate 12 = .ok (.ifCond .ne 17, 3) := by decide +kernel
theorem dX9_isCandidate_15 : decode cX9_isCandidate 15 = .ok (.aload_n 0, 1) := by decide +kernel
theorem dX9_isCandidate_16 : decode cX9_isCandidate 16 = .ok (.iload_n 1, 1) := by decide +kernel
theorem dX9_isCandidate_17 : decode cX9_isCandidate 17 = .ok (.iload_n 2, 1) := by decide +kernel
theorem dX9_isCandidate_18 : decode cX9_isCandidate 18 = .ok (.iconst 3, 1) := by decide +kernel
theorem dX9_isCandidate_19 : decode cX9_isCandidate 19 = .ok (.invokevirtual 102, 3) := by decide +kernel
theorem dX9_isCandidate_22 : decode cX9_isCandidate 22 = .ok (.ifCond .le 7, 3) := by decide +kernel
theorem dX9_isCandidate_25 : decode cX9_isCandidate 25 = .ok (.iconst 1, 1) := by decide +kernel
theorem dX9_isCandidate_26 : decode cX9_isCandidate 26 = .ok (.goto 4, 3) := by decide +kernel
theorem dX9_isCandidate_29 : decode cX9_isCandidate 29 = .ok (.iconst 0, 1) := by decide +kernel
theorem dX9_isCandidate_30 : decode cX9_isCandidate 30 = .ok (.ireturn, 1) := by decide +kernel
theorem dX9_looksAt_0 : decode cX9_looksAt 0 = .ok (.aload_n 0, 1) := by decide +kernel
theorem dX9_looksAt_1 : decode cX9_looksAt 1 = .ok (.iconst 0, 1) := by decide +kernel
theorem dX9_looksAt_2 : decode cX9_looksAt 2 = .ok (.putfield 202, 3) := by decide +kernel
theorem dX9_looksAt_5 : decode cX9_looksAt 5 = .ok (.aload_n 0, 1) := by decide +kernel
theorem dX9_looksAt_6 : decode cX9_looksAt 6 = .ok (.bipush (-2), 2) := by decide +kernel
theorem dX9_looksAt_8 : decode cX9_looksAt 8 = .ok (.putfield 205, 3) := by decide +kernel
theorem dX9_looksAt_11 : decode cX9_looksAt 11 = .ok (.aload_n 0, 1) := by decide +kernel
theorem dX9_looksAt_12 : decode cX9_looksAt 12 = .ok (.iconst 0, 1) := by decide +kernel
theorem dX9_looksAt_13 : decode cX9_looksAt 13 = .ok (.putfield 208, 3) := by decide +kernel
theorem dX9_looksAt_16 : decode cX9_looksAt 16 = .ok (.aload_n 0, 1) := by decide +kernel
theorem dX9_looksAt_17 : decode cX9_looksAt 17 = .ok (.bipush (-2), 2) := by decide +kernel
theorem dX9_looksAt_19 : decode cX9_looksAt 19 = .ok (.putfield 211, 3) := by decide +kernel
theorem dX9_looksAt_22 : decode cX9_looksAt 22 = .ok (.iconst 0, 1) := by decide +kernel
theorem dX9_looksAt_23 : decode cX9_looksAt 23 = .ok (.istore_n 3, 1) := by decide +kernel
theorem dX9_looksAt_24 : decode cX9_looksAt 24 = .ok (.iload_n 3, 1) := by decide +kernel
theorem dX9_looksAt_25 : decode cX9_looksAt 25 = .ok (.bipush 10, 2) := by decide +kernel
theorem dX9_looksAt_27 : decode cX9_looksAt 27 = .ok (.if_icmp .ge 217, 3) := by decide +kernel
theorem dX9_looksAt_30 : decode cX9_looksAt 30 = .ok (.iload_n 2, 1) := by decide +kernel
theorem dX9_looksAt_31 : decode cX9_looksAt 31 = .ok (.iload_n 3, 1) := by decide +kernel
theorem dX9_looksAt_32 : decode cX9_looksAt 32 = .ok (.invokestatic 84, 3) := by decide +kernel
theorem dX9_looksAt_35 : decode cX9_looksAt 35 = .ok (.ifCond .eq 21, 3) := by decide +kernel
theorem dX9_looksAt_38 : decode cX9_looksAt 38 = .ok (.aload_n 0, 1) := by decide +kernel
theorem dX9_looksAt_39 : decode cX9_looksAt 39 = .ok (.iload_n 1, 1) := by decide +kernel
theorem dX9_looksAt_40 : decode cX9_looksAt 40 = .ok (.iload_n 3, 1) := by decide +kernel
theorem dX9_looksAt_41 : decode cX9_looksAt 41 = .ok (.invokevirtual 81, 3) := by decide +kernel
theorem dX9_looksAt_44 : decode cX9_looksAt 44 = .ok (.ifCond .eq 12, 3) := by decide +kernel
theorem dX9_looksAt_47 : decode cX9_looksAt 47 = .ok (.aload_n 0, 1) := by decide +kernel
theorem dX9_looksAt_48 : decode cX9_looksAt 48 = .ok (.iload_n 1, 1) := by decide +kernel
theorem dX9_looksAt_49 : decode cX9_looksAt 49 = .ok (.iload_n 3, 1) := by decide +kernel
theorem dX9_looksAt_50 : decode cX9_looksAt 50 = .ok (.invokevirtual 214, 3) := by decide +kernel
theorem dX9_looksAt_53 : decode cX9_looksAt 53 = .ok (.goto 5, 3) := by decide +kernel
theorem dX9_looksAt_56 : decode cX9_looksAt 56 = .ok (.bipush (-2), 2) := by decide +kernel
theorem dX9_looksAt_58 : decode cX9_looksAt 58 = .ok (.istore 4, 2) := by decide +kernel
theorem dX9_looksAt_60 : decode cX9_looksAt 60 = .ok (.aload_n 0, 1) := by decide +kernel
theorem dX9_looksAt_61 : decode cX9_looksAt 61 = .ok (.iload_n 1, 1) := by decide +kernel
theorem dX9_looksAt_62 : decode cX9_looksAt 62 = .ok (.iload 4, 2) := by decide +kernel
theorem dX9_looksAt_64 : decode cX9_looksAt 64 = .ok (.invokevirtual 217, 3) := by decide +kernel
theorem dX9_looksAt_67 : decode cX9_looksAt 67 = .ok (.istore 5, 2) := by decide +kernel
theorem dX9_looksAt_69 : decode cX9_looksAt 69 = .ok (.iconst 0, 1) := by decide +kernel
theorem dX9_looksAt_70 : decode cX9_looksAt 70 = .ok (.istore 6, 2) := by decide +kernel
theorem dX9_looksAt_72 : decode cX9_looksAt 72 = .ok (.iload 6, 2) := by decide +kernel
theorem dX9_looksAt_74 : decode cX9_looksAt 74 = .ok (.bipush 10, 2) := by decide +kernel
theorem dX9_looksAt_76 : decode cX9_looksAt 76 = .ok (.if_icmp .ge 87, 3) := by decide +kernel
theorem dX9_looksAt_79 : decode cX9_looksAt 79 = .ok (.iload 5, 2) := by decide +kernel
theorem dX9_looksAt_81 : decode cX9_looksAt 81 = .ok (.ifCond .eq 82, 3) := by decide +kernel
theorem dX9_looksAt_84 : decode cX9_looksAt 84 = .ok (.iload 6, 2) := by decide +kernel
theorem dX9_looksAt_86 : decode cX9_looksAt 86 = .ok (.iload_n 3, 1) := by decide +kernel
theorem dX9_looksAt_87 : decode cX9_looksAt 87 = .ok (.if_icmp .eq 40, 3) := by decide +kernel
theorem dX9_looksAt_90 : decode cX9_looksAt 90 = .ok (.iload_n 2, 1) := by decide +kernel
theorem dX9_looksAt_91 : decode cX9_looksAt 91 = .ok (.iload 6, 2) := by decide +kernel
theorem dX9_looksAt_93 : decode cX9_looksAt 93 = .ok (.invokestatic 84, 3) := by decide +kernel
theorem dX9_looksAt_96 : decode cX9_looksAt 96 = .ok (.ifCond .eq 31, 3) := by decide +kernel
theorem dX9_looksAt_99 : decode cX9_looksAt 99 = .ok (.aload_n 0, 1) := by decide +kernel
theorem dX9_looksAt_100 : decode cX9_looksAt 100 = .ok (.iload_n 1, 1) := by decide +kernel
theorem dX9_looksAt_101 : decode cX9_looksAt 101 = .ok (.iload 6, 2) := by decide +kernel
theorem dX9_looksAt_103 : decode cX9_looksAt 103 = .ok (.invokevirtual 81, 3) := by decide +kernel
theorem dX9_looksAt_106 : decode cX9_looksAt 106 = .ok (.ifCond .eq 21, 3) := by decide +kernel
theorem dX9_looksAt_109 : decode cX9_looksAt 109 = .ok (.aload_n 0, 1) := by decide +kernel
theorem dX9_looksAt_110 : decode cX9_looksAt 110 = .ok (.iload_n 1, 1) := by decide +kernel
theorem dX9_looksAt_111 : decode cX9_looksAt 111 = .ok (.iload 6, 2) := by decide +kernel
theorem dX9_looksAt_113 : decode cX9_looksAt 113 = .ok (.invokevirtual 125, 3) := by decide +kernel
theorem dX9_looksAt_116 : decode cX9_looksAt 116 = .ok (.iload_n 3, 1) := by decide +kernel
theorem dX9_looksAt_117 : decode cX9_looksAt 117 = .ok (.invokestatic 84, 3) := by decide +kernel
theorem dX9_looksAt_120 : decode cX9_looksAt 120 = .ok (.ifCond .eq 7, 3) := by decide +kernel
theorem dX9_looksAt_123 : decode cX9_looksAt 123 = .ok (.iconst 1, 1) := by decide +kernel
theorem dX9_looksAt_124 : decode cX9_looksAt 124 = .ok (.goto 4, 3) := by decide +kernel
theorem dX9_looksAt_127 : decode cX9_looksAt 127 = .ok (.iconst 0, 1) := by decide +kernel
theorem dX9_looksAt_128 : decode cX9_looksAt 128 = .ok (.istore 7, 2) := by decide +kernel
theorem dX9_looksAt_130 : decode cX9_looksAt 130 = .ok (.iload 7, 2) := by decide +kernel
theorem dX9_looksAt_132 : decode cX9_looksAt 132 = .ok (.ifCond .eq 18, 3) := by decide +kernel
theorem dX9_looksAt_135 : decode cX9_looksAt 135 = .ok (.aload_n 0, 1) := by decide +kernel
theorem dX9_looksAt_136 : decode cX9_looksAt 136 = .ok (.iload_n 1, 1) := by decide +kernel
theorem dX9_looksAt_137 : decode cX9_looksAt 137 = .ok (.aload_n 0, 1) := by decide +kernel
theorem dX9_looksAt_138 : decode cX9_looksAt 138 = .ok (.iload_n 1, 1) := by decide +kernel
theorem dX9_looksAt_139 : decode cX9_looksAt 139 = .ok (.iload 6, 2) := by decide +kernel
theorem dX9_looksAt_141 : decode cX9_looksAt 141 = .ok (.invokevirtual 214, 3) := by decide +kernel
theorem dX9_looksAt_144 : decode cX9_looksAt 144 = .ok (.invokevirtual 217, 3) := by decide +kernel
theorem dX9_looksAt_147 : decode cX9_looksAt 147 = .ok (.ifCond .ne 7, 3) := by decide +kernel
theorem dX9_looksAt_150 : decode cX9_looksAt 150 = .ok (.iconst 1, 1) := by decide +kernel
theorem dX9_looksAt_151 : decode cX9_looksAt 151 = .ok (.goto 4, 3) := by decide +kernel
theorem dX9_looksAt_154 : decode cX9_looksAt 154 = .ok (.iconst 0, 1) := by decide +kernel
theorem dX9_looksAt_155 : decode cX9_looksAt 155 = .ok (.istore 5, 2) := by decide +kernel
theorem dX9_looksAt_157 : decode cX9_looksAt 157 = .ok (.iinc 6 1, 3) := by decide +kernel
theorem dX9_looksAt_160 : decode cX9_looksAt 160 = .ok (.goto (-88), 3) := by decide +kernel
theorem dX9_looksAt_163 : decode cX9_looksAt 163 = .ok (.iload 5, 2) := by decide +kernel
theorem dX9_looksAt_165 : decode cX9_looksAt 165 = .ok (.ifCond .eq 73, 3) := by decide +kernel
theorem dX9_looksAt_168 : decode cX9_looksAt 168 = .ok (.aload_n 0, 1) := by decide +kernel
theorem dX9_looksAt_169 : decode cX9_looksAt 169 = .ok (.aload_n 0, 1) := by decide +kernel
theorem dX9_looksAt_170 : decode cX9_looksAt 170 = .ok (.getfield 202, 3) := by decide +kernel
theorem dX9_looksAt_173 : decode cX9_looksAt 173 = .ok (.ifCond .ne 8, 3) := by decide +kernel
theorem dX9_looksAt_176 : decode cX9_looksAt 176 = .ok (.iload 4, 2) := by decide +kernel
theorem dX9_looksAt_178 : decode cX9_looksAt 178 = .ok (.goto 7, 3) := by decide +kernel
theorem dX9_looksAt_181 : decode cX9_looksAt 181 = .ok (.aload_n 0, 1) := by decide +kernel
theorem dX9_looksAt_182 : decode cX9_looksAt 182 = .ok (.getfield 205, 3) := by decide +kernel
theorem dX9_looksAt_185 : decode cX9_looksAt 185 = .ok (.putfield 205, 3) := by decide +kernel
theorem dX9_looksAt_188 : decode cX9_looksAt 188 = .ok (.aload_n 0, 1) := by decide +kernel
theorem dX9_looksAt_189 : decode cX9_looksAt 189 = .ok (.dup, 1) := by decide +kernel
theorem dX9_looksAt_190 : decode cX9_looksAt 190 = .ok (.getfield 202, 3) := by decide +kernel
theorem dX9_looksAt_193 : decode cX9_looksAt 193 = .ok (.iconst 1, 1) := by decide +kernel
theorem dX9_looksAt_194 : decode cX9_looksAt 194 = .ok (.iadd, 1) := by decide +kernel
theorem dX9_looksAt_195 : decode cX9_looksAt 195 = .ok (.putfield 202, 3) := by decide +kernel
theorem dX9_looksAt_198 : decode cX9_looksAt 198 = .ok (.aload_n 0, 1) := by decide +kernel
theorem dX9_looksAt_199 : decode cX9_looksAt 199 = .ok (.iload_n 1, 1) := by decide +kernel
theorem dX9_looksAt_200 : decode cX9_looksAt 200 = .ok (.iload 4, 2) := by decide +kernel
theorem dX9_looksAt_202 : decode cX9_looksAt 202 = .ok (.invokevirtual 109, 3) := by decide +kernel
theorem dX9_looksAt_205 : decode cX9_looksAt 205 = .ok (.ifCond .ne 33, 3) := by decide +kernel
theorem dX9_looksAt_208 : decode cX9_looksAt 208 = .ok (.aload_n 0, 1) := by decide +kernel
theorem dX9_looksAt_209 : decode cX9_looksAt 209 = .ok (.aload_n 0, 1) := by decide +kernel
theorem dX9_looksAt_210 : decode cX9_looksAt 210 = .ok (.getfield 208, 3) := by decide +kernel
theorem dX9_looksAt_213 : decode cX9_looksAt 213 = .ok (.ifCond .ne 8, 3) := by decide +kernel
theorem dX9_looksAt_216 : decode cX9_looksAt 216 = .ok (.iload 4, 2) := by decide +kernel
theorem dX9_looksAt_218 : decode cX9_looksAt 218 = .ok (.goto 7, 3) := by decide +kernel
theorem dX9_looksAt_221 : decode cX9_looksAt 221 = .ok (.aload_n 0, 1) := by decide +kernel
theorem dX9_looksAt_222 : decode cX9_looksAt 222 = .ok (.getfield 211, 3) := by decide +kernel
theorem dX9_looksAt_225 : decode cX9_looksAt 225 = .ok (.putfield 211, 3) := by decide +kernel
theorem dX9_looksAt_228 : decode cX9_looksAt 228 = .ok (.aload_n 0, 1) := by decide +kernel
theorem dX9_looksAt_229 : decode cX9_looksAt 229 = .ok (.dup, 1) := by decide +kernel
theorem dX9_looksAt_230 : decode cX9_looksAt 230 = .ok (.getfield 208, 3) := by decide +kernel
theorem dX9_looksAt_233 : decode cX9_looksAt 233 = .ok (.iconst 1, 1) := by decide +kernel
theorem dX9_looksAt_234 : decode cX9_looksAt 234 = .ok (.iadd, 1) := by decide +kernel
theorem dX9_looksAt_235 : decode cX9_looksAt 235 = .ok (.putfield 208, 3) := by decide +kernel
theorem dX9_looksAt_238 : decode cX9_looksAt 238 = .ok (.iinc 3 1, 3) := by decide +kernel
theorem dX9_looksAt_241 : decode cX9_looksAt 241 = .ok (.goto (-217), 3) := by decide +kernel
theorem dX9_looksAt_244 : decode cX9_looksAt 244 = .ok (.return_, 1) := by decide +kernel
theorem dX9_selectedBy_0 : decode cX9_selectedBy 0 = .ok (.iload_n 2, 1) := by decide +kernel
theorem dX9_selectedBy_1 : decode cX9_selectedBy 1 = .ok (.bipush (-2), 2) := by decide +kernel
theorem dX9_selectedBy_3 : decode cX9_selectedBy 3 = .ok (.if_icmp .ne 8, 3) := by decide +kernel
theorem dX9_selectedBy_6 : decode cX9_selectedBy 6 = .ok (.bipush (-2), 2) := by decide +kernel
theorem dX9_selectedBy_8 : decode cX9_selectedBy 8 = .ok (.goto 9, 3) := by decide +kernel
theorem dX9_selectedBy_11 : decode cX9_selectedBy 11 = .ok (.aload_n 0, 1) := by decide +kernel
theorem dX9_selectedBy_12 : decode cX9_selectedBy 12 = .ok (.iload_n 1, 1) := by decide +kernel
theorem dX9_selectedBy_13 : decode cX9_selectedBy 13 = .ok (.iload_n 2, 1) := by decide +kernel
theorem dX9_selectedBy_14 : decode cX9_selectedBy 14 = .ok (.invokevirtual 214, 3) := by decide +kernel
theorem dX9_selectedBy_17 : decode cX9_selectedBy 17 = .ok (.istore 5, 2) := by decide +kernel
theorem dX9_selectedBy_19 : decode cX9_selectedBy 19 = .ok (.iload_n 3, 1) := by decide +kernel
theorem dX9_selectedBy_20 : decode cX9_selectedBy 20 = .ok (.istore 6, 2) := by decide +kernel
theorem dX9_selectedBy_22 : decode cX9_selectedBy 22 = .ok (.aload_n 0, 1) := by decide +kernel
theorem dX9_selectedBy_23 : decode cX9_selectedBy 23 = .ok (.iload_n 1, 1) := by decide +kernel
theorem dX9_selectedBy_24 : decode cX9_selectedBy 24 = .ok (.iload 5, 2) := by decide +kernel
theorem dX9_selectedBy_26 : decode cX9_selectedBy 26 = .ok (.invokevirtual 217, 3) := by decide +kernel
theorem dX9_selectedBy_29 : decode cX9_selectedBy 29 = .ok (.ifCond .ne 40, 3) := by decide +kernel
theorem dX9_selectedBy_32 : decode cX9_selectedBy 32 = .ok (.iload 6, 2) := by decide +kernel
theorem dX9_selectedBy_34 : decode cX9_selectedBy 34 = .ok (.ifCond .lt 35, 3) := by decide +kernel
theorem dX9_selectedBy_37 : decode cX9_selectedBy 37 = .ok (.aload_n 0, 1) := by decide +kernel
theorem dX9_selectedBy_38 : decode cX9_selectedBy 38 = .ok (.iload_n 1, 1) := by decide +kernel
theorem dX9_selectedBy_39 : decode cX9_selectedBy 39 = .ok (.iload 6, 2) := by decide +kernel
theorem dX9_selectedBy_41 : decode cX9_selectedBy 41 = .ok (.invokevirtual 214, 3) := by decide +kernel
theorem dX9_selectedBy_44 : decode cX9_selectedBy 44 = .ok (.istore 5, 2) := by decide +kernel
theorem dX9_selectedBy_46 : decode cX9_selectedBy 46 = .ok (.iload 6, 2) := by decide +kernel
theorem dX9_selectedBy_48 : decode cX9_selectedBy 48 = .ok (.ifCond .ne 8, 3) := by decide +kernel
theorem dX9_selectedBy_51 : decode cX9_selectedBy 51 = .ok (.bipush (-2), 2) := by decide +kernel
theorem dX9_selectedBy_53 : decode cX9_selectedBy 53 = .ok (.goto 11, 3) := by decide +kernel
theorem dX9_selectedBy_56 : decode cX9_selectedBy 56 = .ok (.aload_n 0, 1) := by decide +kernel
theorem dX9_selectedBy_57 : decode cX9_selectedBy 57 = .ok (.iload_n 1, 1) := by decide +kernel
theorem dX9_selectedBy_58 : decode cX9_selectedBy 58 = .ok (.iload 6, 2) := by decide +kernel
theorem dX9_selectedBy_60 : decode cX9_selectedBy 60 = .ok (.iconst 2, 1) := by decide +kernel
theorem dX9_selectedBy_61 : decode cX9_selectedBy 61 = .ok (.invokevirtual 73, 3) := by decide +kernel
theorem dX9_selectedBy_64 : decode cX9_selectedBy 64 = .ok (.istore 6, 2) := by decide +kernel
theorem dX9_selectedBy_66 : decode cX9_selectedBy 66 = .ok (.goto (-44), 3) := by decide +kernel
theorem dX9_selectedBy_69 : decode cX9_selectedBy 69 = .ok (.aload_n 0, 1) := by decide +kernel
theorem dX9_selectedBy_70 : decode cX9_selectedBy 70 = .ok (.iload_n 1, 1) := by decide +kernel
theorem dX9_selectedBy_71 : decode cX9_selectedBy 71 = .ok (.iload 5, 2) := by decide +kernel
theorem dX9_selectedBy_73 : decode cX9_selectedBy 73 = .ok (.invokevirtual 217, 3) := by decide +kernel
theorem dX9_selectedBy_76 : decode cX9_selectedBy 76 = .ok (.ifCond .eq 6, 3) := by decide +kernel
theorem dX9_selectedBy_79 : decode cX9_selectedBy 79 = .ok (.iload 5, 2) := by decide +kernel
theorem dX9_selectedBy_81 : decode cX9_selectedBy 81 = .ok (.ireturn, 1) := by decide +kernel
theorem dX9_selectedBy_82 : decode cX9_selectedBy 82 = .ok (.aload_n 0, 1) := by decide +kernel
theorem dX9_selectedBy_83 : decode cX9_selectedBy 83 = .ok (.iload_n 1, 1) := by decide +kernel
theorem dX9_selectedBy_84 : decode cX9_selectedBy 84 = .ok (.iload 4, 2) := by decide +kernel
theorem dX9_selectedBy_86 : decode cX9_selectedBy 86 = .ok (.invokevirtual 220, 3) := by decide +kernel
theorem dX9_selectedBy_89 : decode cX9_selectedBy 89 = .ok (.aload_n 0, 1) := by decide +kernel
theorem dX9_selectedBy_90 : decode cX9_selectedBy 90 = .ok (.getfield 208, 3) := by decide +kernel
theorem dX9_selectedBy_93 : decode cX9_selectedBy 93 = .ok (.iconst 1, 1) := by decide +kernel
theorem dX9_selectedBy_94 : decode cX9_selectedBy 94 = .ok (.if_icmp .ne 10, 3) := by decide +kernel
theorem dX9_selectedBy_97 : decode cX9_selectedBy 97 = .ok (.aload_n 0, 1) := by decide +kernel
theorem dX9_selectedBy_98 : decode cX9_selectedBy 98 = .ok (.getfield 211, 3) := by decide +kernel
theorem dX9_selectedBy_101 : decode cX9_selectedBy 101 = .ok (.goto 5, 3) := by decide +kernel
theorem dX9_selectedBy_104 : decode cX9_selectedBy 104 = .ok (.bipush (-2), 2) := by decide +kernel
theorem dX9_selectedBy_106 : decode cX9_selectedBy 106 = .ok (.ireturn, 1) := by decide +kernel
theorem dX9_isIncomplete_0 : decode cX9_isIncomplete 0 = .ok (.iload_n 3, 1) := by decide +kernel
theorem dX9_isIncomplete_1 : decode cX9_isIncomplete 1 = .ok (.bipush (-2), 2) := by decide +kernel
theorem dX9_isIncomplete_3 : decode cX9_isIncomplete 3 = .ok (.if_icmp .eq 7, 3) := by decide +kernel
theorem dX9_isIncomplete_6 : decode cX9_isIncomplete 6 = .ok (.iconst 1, 1) := by decide +kernel
theorem dX9_isIncomplete_7 : decode cX9_isIncomplete 7 = .ok (.goto 4, 3) := by decide +kernel
theorem dX9_isIncomplete_10 : decode cX9_isIncomplete 10 = .ok (.iconst 0, 1) := by decide +kernel
theorem dX9_isIncomplete_11 : decode cX9_isIncomplete 11 = .ok (.istore 4, 2) := by decide +kernel
theorem dX9_isIncomplete_13 : decode cX9_isIncomplete 13 = .ok (.aload_n 0, 1) := by decide +kernel
theorem dX9_isIncomplete_14 : decode cX9_isIncomplete 14 = .ok (.iload_n 1, 1) := by decide +kernel
theorem dX9_isIncomplete_15 : decode cX9_isIncomplete 15 = .ok (.iload_n 2, 1) := by decide +kernel
theorem dX9_isIncomplete_16 : decode cX9_isIncomplete 16 = .ok (.invokevirtual 125, 3) := by decide +kernel
theorem dX9_isIncomplete_19 : decode cX9_isIncomplete 19 = .ok (.iload 4, 2) := by decide +kernel
theorem dX9_isIncomplete_21 : decode cX9_isIncomplete 21 = .ok (.ifCond .eq 12, 3) := by decide +kernel
theorem dX9_isIncomplete_24 : decode cX9_isIncomplete 24 = .ok (.aload_n 0, 1) := by decide +kernel
theorem dX9_isIncomplete_25 : decode cX9_isIncomplete 25 = .ok (.iload_n 1, 1) := by decide +kernel
theorem dX9_isIncomplete_26 : decode cX9_isIncomplete 26 = .ok (.iload_n 3, 1) := by decide +kernel
theorem dX9_isIncomplete_27 : decode cX9_isIncomplete 27 = .ok (.invokevirtual 125, 3) := by decide +kernel
theorem dX9_isIncomplete_30 : decode cX9_isIncomplete 30 = .ok (.goto 4, 3) := by decide +kernel
theorem dX9_isIncomplete_33 : decode cX9_isIncomplete 33 = .ok (.iconst 0, 1) := by decide +kernel
theorem dX9_isIncomplete_34 : decode cX9_isIncomplete 34 = .ok (.ior, 1) := by decide +kernel
theorem dX9_isIncomplete_35 : decode cX9_isIncomplete 35 = .ok (.istore 5, 2) := by decide +kernel
theorem dX9_isIncomplete_37 : decode cX9_isIncomplete 37 = .ok (.iconst 0, 1) := by decide +kernel
theorem dX9_isIncomplete_38 : decode cX9_isIncomplete 38 = .ok (.istore 6, 2) := by decide +kernel
theorem dX9_isIncomplete_40 : decode cX9_isIncomplete 40 = .ok (.iconst 0, 1) := by decide +kernel
theorem dX9_isIncomplete_41 : decode cX9_isIncomplete 41 = .ok (.istore 7, 2) := by decide +kernel
theorem dX9_isIncomplete_43 : decode cX9_isIncomplete 43 = .ok (.iload 7, 2) := by decide +kernel
theorem dX9_isIncomplete_45 : decode cX9_isIncomplete 45 = .ok (.aload_n 0, 1) := by decide +kernel
theorem dX9_isIncomplete_46 : decode cX9_isIncomplete 46 = .ok (.iload_n 1, 1) := by decide +kernel
theorem dX9_isIncomplete_47 : decode cX9_isIncomplete 47 = .ok (.invokevirtual 51, 3) := by decide +kernel
theorem dX9_isIncomplete_50 : decode cX9_isIncomplete 50 = .ok (.if_icmp .ge 131, 3) := by decide +kernel
theorem dX9_isIncomplete_53 : decode cX9_isIncomplete 53 = .ok (.iload 6, 2) := by decide +kernel
theorem dX9_isIncomplete_55 : decode cX9_isIncomplete 55 = .ok (.ifCond .ne 126, 3) := by decide +kernel
theorem dX9_isIncomplete_58 : decode cX9_isIncomplete 58 = .ok (.iload 5, 2) := by decide +kernel
theorem dX9_isIncomplete_60 : decode cX9_isIncomplete 60 = .ok (.aload_n 0, 1) := by decide +kernel
theorem dX9_isIncomplete_61 : decode cX9_isIncomplete 61 = .ok (.iload_n 1, 1) := by decide +kernel
theorem dX9_isIncomplete_62 : decode cX9_isIncomplete 62 = .ok (.iload 7, 2) := by decide +kernel
theorem dX9_isIncomplete_64 : decode cX9_isIncomplete 64 = .ok (.iconst 1, 1) := by decide +kernel
theorem dX9_isIncomplete_65 : decode cX9_isIncomplete 65 = .ok (.invokevirtual 102, 3) := by decide +kernel
theorem dX9_isIncomplete_68 : decode cX9_isIncomplete 68 = .ok (.invokestatic 84, 3) := by decide +kernel
theorem dX9_isIncomplete_71 : decode cX9_isIncomplete 71 = .ok (.ifCond .eq 104, 3) := by decide +kernel
theorem dX9_isIncomplete_74 : decode cX9_isIncomplete 74 = .ok (.aload_n 0, 1) := by decide +kernel
theorem dX9_isIncomplete_75 : decode cX9_isIncomplete 75 = .ok (.iload_n 1, 1) := by decide +kernel
theorem dX9_isIncomplete_76 : decode cX9_isIncomplete 76 = .ok (.iload 7, 2) := by decide +kernel
theorem dX9_isIncomplete_78 : decode cX9_isIncomplete 78 = .ok (.invokevirtual 155, 3) := by decide +kernel
theorem dX9_isIncomplete_81 : decode cX9_isIncomplete 81 = .ok (.ifCond .eq 94, 3) := by decide +kernel
theorem dX9_isIncomplete_84 : decode cX9_isIncomplete 84 = .ok (.aload_n 0, 1) := by decide +kernel
theorem dX9_isIncomplete_85 : decode cX9_isIncomplete 85 = .ok (.iload_n 1, 1) := by decide +kernel
theorem dX9_isIncomplete_86 : decode cX9_isIncomplete 86 = .ok (.iload 7, 2) := by decide +kernel
theorem dX9_isIncomplete_88 : decode cX9_isIncomplete 88 = .ok (.invokevirtual 109, 3) := by decide +kernel
theorem dX9_isIncomplete_91 : decode cX9_isIncomplete 91 = .ok (.ifCond .eq 84, 3) := by decide +kernel
theorem dX9_isIncomplete_94 : decode cX9_isIncomplete 94 = .ok (.aload_n 0, 1) := by decide +kernel
theorem dX9_isIncomplete_95 : decode cX9_isIncomplete 95 = .ok (.iload_n 1, 1) := by decide +kernel
theorem dX9_isIncomplete_96 : decode cX9_isIncomplete 96 = .ok (.iload 7, 2) := by decide +kernel
theorem dX9_isIncomplete_98 : decode cX9_isIncomplete 98 = .ok (.invokevirtual 229, 3) := by decide +kernel
theorem dX9_isIncomplete_101 : decode cX9_isIncomplete 101 = .ok (.iload 4, 2) := by decide +kernel
theorem dX9_isIncomplete_103 : decode cX9_isIncomplete 103 = .ok (.ifCond .eq 16, 3) := by decide +kernel
theorem dX9_isIncomplete_106 : decode cX9_isIncomplete 106 = .ok (.aload_n 0, 1) := by decide +kernel
theorem dX9_isIncomplete_107 : decode cX9_isIncomplete 107 = .ok (.iload_n 1, 1) := by decide +kernel
theorem dX9_isIncomplete_108 : decode cX9_isIncomplete 108 = .ok (.bipush (-2), 2) := by decide +kernel
theorem dX9_isIncomplete_110 : decode cX9_isIncomplete 110 = .ok (.iload_n 3, 1) := by decide +kernel
theorem dX9_isIncomplete_111 : decode cX9_isIncomplete 111 = .ok (.iload 5, 2) := by decide +kernel
theorem dX9_isIncomplete_113 : decode cX9_isIncomplete 113 = .ok (.invokevirtual 232, 3) := by decide +kernel
theorem dX9_isIncomplete_116 : decode cX9_isIncomplete 116 = .ok (.goto 33, 3) := by decide +kernel
theorem dX9_isIncomplete_119 : decode cX9_isIncomplete 119 = .ok (.aload_n 0, 1) := by decide +kernel
theorem dX9_isIncomplete_120 : decode cX9_isIncomplete 120 = .ok (.iload_n 1, 1) := by decide +kernel
theorem dX9_isIncomplete_121 : decode cX9_isIncomplete 121 = .ok (.iload_n 2, 1) := by decide +kernel
theorem dX9_isIncomplete_122 : decode cX9_isIncomplete 122 = .ok (.iload_n 2, 1) := by decide +kernel
theorem dX9_isIncomplete_123 : decode cX9_isIncomplete 123 = .ok (.ifCond .ne 8, 3) := by decide +kernel
theorem dX9_isIncomplete_126 : decode cX9_isIncomplete 126 = .ok (.bipush (-2), 2) := by decide +kernel
theorem dX9_isIncomplete_128 : decode cX9_isIncomplete 128 = .ok (.goto 10, 3) := by decide +kernel
theorem dX9_isIncomplete_131 : decode cX9_isIncomplete 131 = .ok (.aload_n 0, 1) := by decide +kernel
theorem dX9_isIncomplete_132 : decode cX9_isIncomplete 132 = .ok (.iload_n 1, 1) := by decide +kernel
theorem dX9_isIncomplete_133 : decode cX9_isIncomplete 133 = .ok (.iload_n 2, 1) := by decide +kernel
theorem dX9_isIncomplete_134 : decode cX9_isIncomplete 134 = .ok (.iconst 2, 1) := by decide +kernel
theorem dX9_isIncomplete_135 : decode cX9_isIncomplete 135 = .ok (.invokevirtual 73, 3) := by decide +kernel
theorem dX9_isIncomplete_138 : decode cX9_isIncomplete 138 = .ok (.iload 5, 2) := by decide +kernel
theorem dX9_isIncomplete_140 : decode cX9_isIncomplete 140 = .ok (.iconst 1, 1) := by decide +kernel
theorem dX9_isIncomplete_141 : decode cX9_isIncomplete 141 = .ok (.iload_n 2, 1) := by decide +kernel
theorem dX9_isIncomplete_142 : decode cX9_isIncomplete 142 = .ok (.ishl, 1) := by decide +kernel
theorem dX9_isIncomplete_143 : decode cX9_isIncomplete 143 = .ok (.iconst (-1), 1) := by decide +kernel
theorem dX9_isIncomplete_144 : decode cX9_isIncomplete 144 = .ok (.ixor, 1) := by decide +kernel
theorem dX9_isIncomplete_145 : decode cX9_isIncomplete 145 = .ok (.iand, 1) := by decide +kernel
theorem dX9_isIncomplete_146 : decode cX9_isIncomplete 146 = .ok (.invokevirtual 232, 3) := by decide +kernel
theorem dX9_isIncomplete_149 : decode cX9_isIncomplete 149 = .ok (.istore 8, 2) := by decide +kernel
theorem dX9_isIncomplete_151 : decode cX9_isIncomplete 151 = .ok (.iload 8, 2) := by decide +kernel
theorem dX9_isIncomplete_153 : decode cX9_isIncomplete 153 = .ok (.bipush (-2), 2) := by decide +kernel
theorem dX9_isIncomplete_155 : decode cX9_isIncomplete 155 = .ok (.if_icmp .eq 13, 3) := by decide +kernel
theorem dX9_isIncomplete_158 : decode cX9_isIncomplete 158 = .ok (.aload_n 0, 1) := by decide +kernel
theorem dX9_isIncomplete_159 : decode cX9_isIncomplete 159 = .ok (.iload_n 1, 1) := by decide +kernel
theorem dX9_isIncomplete_160 : decode cX9_isIncomplete 160 = .ok (.iload 8, 2) := by decide +kernel
theorem dX9_isIncomplete_162 : decode cX9_isIncomplete 162 = .ok (.invokevirtual 109, 3) := by decide +kernel
theorem dX9_isIncomplete_165 : decode cX9_isIncomplete 165 = .ok (.ifCond .eq 7, 3) := by decide +kernel
theorem dX9_isIncomplete_168 : decode cX9_isIncomplete 168 = .ok (.iconst 1, 1) := by decide +kernel
theorem dX9_isIncomplete_169 : decode cX9_isIncomplete 169 = .ok (.goto 4, 3) := by decide +kernel
theorem dX9_isIncomplete_172 : decode cX9_isIncomplete 172 = .ok (.iconst 0, 1) := by decide +kernel
theorem dX9_isIncomplete_173 : decode cX9_isIncomplete 173 = .ok (.istore 6, 2) := by decide +kernel
theorem dX9_isIncomplete_175 : decode cX9_isIncomplete 175 = .ok (.iinc 7 1, 3) := by decide +kernel
theorem dX9_isIncomplete_178 : decode cX9_isIncomplete 178 = .ok (.goto (-135), 3) := by decide +kernel
theorem dX9_isIncomplete_181 : decode cX9_isIncomplete 181 = .ok (.iload 6, 2) := by decide +kernel
theorem dX9_isIncomplete_183 : decode cX9_isIncomplete 183 = .ok (.ireturn, 1) := by decide +kernel
theorem dX9_isBase_0 : decode cX9_isBase 0 = .ok (.aload_n 0, 1) := by decide +kernel
theorem dX9_isBase_1 : decode cX9_isBase 1 = .ok (.iload_n 1, 1) := by decide +kernel
theorem dX9_isBase_2 : decode cX9_isBase 2 = .ok (.iload_n 2, 1) := by decide +kernel
theorem dX9_isBase_3 : decode cX9_isBase 3 = .ok (.invokevirtual 77, 3) := by decide +kernel
theorem dX9_isBase_6 : decode cX9_isBase 6 = .ok (.ifCond .eq 36, 3) := by decide +kernel
theorem dX9_isBase_9 : decode cX9_isBase 9 = .ok (.aload_n 0, 1) := by decide +kernel
theorem dX9_isBase_10 : decode cX9_isBase 10 = .ok (.iload_n 1, 1) := by decide +kernel
theorem dX9_isBase_11 : decode cX9_isBase 11 = .ok (.iload_n 2, 1) := by decide +kernel
theorem dX9_isBase_12 : decode cX9_isBase 12 = .ok (.invokevirtual 81, 3) := by decide +kernel
theorem dX9_isBase_15 : decode cX9_isBase 15 = .ok (.ifCond .ne 27, 3) := by decide +kernel
theorem dX9_isBase_18 : decode cX9_isBase 18 = .ok (.aload_n 0, 1) := by decide +kernel
theorem dX9_isBase_19 : decode cX9_isBase 19 = .ok (.iload_n 1, 1) := by decide +kernel
theorem dX9_isBase_20 : decode cX9_isBase 20 = .ok (.iload_n 2, 1) := by decide +kernel
theorem dX9_isBase_21 : decode cX9_isBase 21 = .ok (.bipush 6, 2) := by decide +kernel
theorem dX9_isBase_23 : decode cX9_isBase 23 = .ok (.invokevirtual 73, 3) := by decide +kernel
theorem dX9_isBase_26 : decode cX9_isBase 26 = .ok (.ifCond .ne 16, 3) := by decide +kernel
theorem dX9_isBase_29 : decode cX9_isBase 29 = .ok (.aload_n 0, 1) := by decide +kernel
theorem dX9_isBase_30 : decode cX9_isBase 30 = .ok (.iload_n 1, 1) := by decide +kernel
theorem dX9_isBase_31 : decode cX9_isBase 31 = .ok (.iload_n 2, 1) := by decide +kernel
theorem dX9_isBase_32 : decode cX9_isBase 32 = .ok (.invokevirtual 244, 3) := by decide +kernel
theorem dX9_isBase_35 : decode cX9_isBase 35 = .ok (.ifCond .eq 7, 3) := by decide +kernel
theorem dX9_isBase_38 : decode cX9_isBase 38 = .ok (.iconst 1, 1) := by decide +kernel
theorem dX9_isBase_39 : decode cX9_isBase 39 = .ok (.goto 4, 3) := by decide +kernel
theorem dX9_isBase_42 : decode cX9_isBase 42 = .ok (.iconst 0, 1) := by decide +kernel
theorem dX9_isBase_43 : decode cX9_isBase 43 = .ok (.ireturn, 1) := by decide +kernel
theorem dX9_compiled_0 : decode cX9_compiled 0 = .ok (.aload_n 0, 1) := by decide +kernel
theorem dX9_compiled_1 : decode cX9_compiled 1 = .ok (.invokevirtual 241, 3) := by decide +kernel
theorem dX9_compiled_4 : decode cX9_compiled 4 = .ok (.aload_n 0, 1) := by decide +kernel
theorem dX9_compiled_5 : decode cX9_compiled 5 = .ok (.getfield 22, 3) := by decide +kernel
theorem dX9_compiled_8 : decode cX9_compiled 8 = .ok (.iconst 1, 1) := by decide +kernel
theorem dX9_compiled_9 : decode cX9_compiled 9 = .ok (.iaload, 1) := by decide +kernel
theorem dX9_compiled_10 : decode cX9_compiled 10 = .ok (.istore_n 2, 1) := by decide +kernel
theorem dX9_compiled_11 : decode cX9_compiled 11 = .ok (.aload_n 0, 1) := by decide +kernel
theorem dX9_compiled_12 : decode cX9_compiled 12 = .ok (.iload_n 1, 1) := by decide +kernel
theorem dX9_compiled_13 : decode cX9_compiled 13 = .ok (.iload_n 2, 1) := by decide +kernel
theorem dX9_compiled_14 : decode cX9_compiled 14 = .ok (.invokevirtual 77, 3) := by decide +kernel
theorem dX9_compiled_17 : decode cX9_compiled 17 = .ok (.ifCond .ne 5, 3) := by decide +kernel
theorem dX9_compiled_20 : decode cX9_compiled 20 = .ok (.iconst 1, 1) := by decide +kernel
theorem dX9_compiled_21 : decode cX9_compiled 21 = .ok (.ireturn, 1) := by decide +kernel
theorem dX9_compiled_22 : decode cX9_compiled 22 = .ok (.aload_n 0, 1) := by decide +kernel
theorem dX9_compiled_23 : decode cX9_compiled 23 = .ok (.iload_n 1, 1) := by decide +kernel
theorem dX9_compiled_24 : decode cX9_compiled 24 = .ok (.iload_n 2, 1) := by decide +kernel
theorem dX9_compiled_25 : decode cX9_compiled 25 = .ok (.invokevirtual 244, 3) := by decide +kernel
theorem dX9_compiled_28 : decode cX9_compiled 28 = .ok (.ifCond .ne 5, 3) := by decide +kernel
theorem dX9_compiled_31 : decode cX9_compiled 31 = .ok (.iconst 2, 1) := by decide +kernel
theorem dX9_compiled_32 : decode cX9_compiled 32 = .ok (.ireturn, 1) := by decide +kernel
theorem dX9_compiled_33 : decode cX9_compiled 33 = .ok (.aload_n 0, 1) := by decide +kernel
theorem dX9_compiled_34 : decode cX9_compiled 34 = .ok (.getfield 22, 3) := by decide +kernel
theorem dX9_compiled_37 : decode cX9_compiled 37 = .ok (.iconst 0, 1) := by decide +kernel
theorem dX9_compiled_38 : decode cX9_compiled 38 = .ok (.iaload, 1) := by decide +kernel
theorem dX9_compiled_39 : decode cX9_compiled 39 = .ok (.tableswitch 110 0 4 #[33, 33, 40, 47, 66], 33) := by decide +kernel
theorem dX9_compiled_72 : decode cX9_compiled 72 = .ok (.aload_n 0, 1) := by decide +kernel
theorem dX9_compiled_73 : decode cX9_compiled 73 = .ok (.iload_n 1, 1) := by decide +kernel
theorem dX9_compiled_74 : decode cX9_compiled 74 = .ok (.iload_n 2, 1) := by decide +kernel
theorem dX9_compiled_75 : decode cX9_compiled 75 = .ok (.invokevirtual 247, 3) := by decide +kernel
theorem dX9_compiled_78 : decode cX9_compiled 78 = .ok (.ireturn, 1) := by decide +kernel
theorem dX9_compiled_79 : decode cX9_compiled 79 = .ok (.aload_n 0, 1) := by decide +kernel
theorem dX9_compiled_80 : decode cX9_compiled 80 = .ok (.iload_n 1, 1) := by decide +kernel
theorem dX9_compiled_81 : decode cX9_compiled 81 = .ok (.iload_n 2, 1) := by decide +kernel
theorem dX9_compiled_82 : decode cX9_compiled 82 = .ok (.invokevirtual 250, 3) := by decide +kernel
theorem dX9_compiled_85 : decode cX9_compiled 85 = .ok (.ireturn, 1) := by decide +kernel
theorem dX9_compiled_86 : decode cX9_compiled 86 = .ok (.aload_n 0, 1) := by decide +kernel
theorem dX9_compiled_87 : decode cX9_compiled 87 = .ok (.iload_n 1, 1) := by decide +kernel
theorem dX9_compiled_88 : decode cX9_compiled 88 = .ok (.iload_n 2, 1) := by decide +kernel
theorem dX9_compiled_89 : decode cX9_compiled 89 = .ok (.bipush 7, 2) := by decide +kernel
theorem dX9_compiled_91 : decode cX9_compiled 91 = .ok (.invokevirtual 73, 3) := by decide +kernel
theorem dX9_compiled_94 : decode cX9_compiled 94 = .ok (.iconst 1, 1) := by decide +kernel
theorem dX9_compiled_95 : decode cX9_compiled 95 = .ok (.if_icmp .ne 8, 3) := by decide +kernel
theorem dX9_compiled_98 : decode cX9_compiled 98 = .ok (.bipush 6, 2) := by decide +kernel
theorem dX9_compiled_100 : decode cX9_compiled 100 = .ok (.goto 4, 3) := by decide +kernel
theorem dX9_compiled_103 : decode cX9_compiled 103 = .ok (.iconst 0, 1) := by decide +kernel
theorem dX9_compiled_104 : decode cX9_compiled 104 = .ok (.ireturn, 1) := by decide +kernel
theorem dX9_compiled_105 : decode cX9_compiled 105 = .ok (.aload_n 0, 1) := by decide +kernel
theorem dX9_compiled_106 : decode cX9_compiled 106 = .ok (.iload_n 1, 1) := by decide +kernel
theorem dX9_compiled_107 : decode cX9_compiled 107 = .ok (.iload_n 2, 1) := by decide +kernel
theorem dX9_compiled_108 : decode cX9_compiled 108 = .ok (.invokevirtual 81, 3) := by decide +kernel
theorem dX9_compiled_111 : decode cX9_compiled 111 = .ok (.ifCond .ne 15, 3) := by decide +kernel
theorem dX9_compiled_114 : decode cX9_compiled 114 = .ok (.aload_n 0, 1) := by decide +kernel
theorem dX9_compiled_115 : decode cX9_compiled 115 = .ok (.iload_n 1, 1) := by decide +kernel
theorem dX9_compiled_116 : decode cX9_compiled 116 = .ok (.iload_n 2, 1) := by decide +kernel
theorem dX9_compiled_117 : decode cX9_compiled 117 = .ok (.bipush 6, 2) := by decide +kernel
theorem dX9_compiled_119 : decode cX9_compiled 119 = .ok (.invokevirtual 73, 3) := by decide +kernel
theorem dX9_compiled_122 : decode cX9_compiled 122 = .ok (.iconst 1, 1) := by decide +kernel
theorem dX9_compiled_123 : decode cX9_compiled 123 = .ok (.if_icmp .ne 8, 3) := by decide +kernel
theorem dX9_compiled_126 : decode cX9_compiled 126 = .ok (.bipush 6, 2) := by decide +kernel
theorem dX9_compiled_128 : decode cX9_compiled 128 = .ok (.goto 20, 3) := by decide +kernel
theorem dX9_compiled_131 : decode cX9_compiled 131 = .ok (.aload_n 0, 1) := by decide +kernel
theorem dX9_compiled_132 : decode cX9_compiled 132 = .ok (.iload_n 1, 1) := by decide +kernel
theorem dX9_compiled_133 : decode cX9_compiled 133 = .ok (.iload_n 2, 1) := by decide +kernel
theorem dX9_compiled_134 : decode cX9_compiled 134 = .ok (.bipush (-2), 2) := by decide +kernel
theorem dX9_compiled_136 : decode cX9_compiled 136 = .ok (.invokevirtual 128, 3) := by decide +kernel
theorem dX9_compiled_139 : decode cX9_compiled 139 = .ok (.ifCond .eq 8, 3) := by decide +kernel
theorem dX9_compiled_142 : decode cX9_compiled 142 = .ok (.bipush 7, 2) := by decide +kernel
theorem dX9_compiled_144 : decode cX9_compiled 144 = .ok (.goto 4, 3) := by decide +kernel
theorem dX9_compiled_147 : decode cX9_compiled 147 = .ok (.iconst 0, 1) := by decide +kernel
theorem dX9_compiled_148 : decode cX9_compiled 148 = .ok (.ireturn, 1) := by decide +kernel
theorem dX9_compiled_149 : decode cX9_compiled 149 = .ok (.aload_n 0, 1) := by decide +kernel
theorem dX9_compiled_150 : decode cX9_compiled 150 = .ok (.iload_n 1, 1) := by decide +kernel
theorem dX9_compiled_151 : decode cX9_compiled 151 = .ok (.iload_n 2, 1) := by decide +kernel
theorem dX9_compiled_152 : decode cX9_compiled 152 = .ok (.invokevirtual 81, 3) := by decide +kernel
theorem dX9_compiled_155 : decode cX9_compiled 155 = .ok (.ifCond .ne 8, 3) := by decide +kernel
theorem dX9_compiled_158 : decode cX9_compiled 158 = .ok (.bipush 6, 2) := by decide +kernel
theorem dX9_compiled_160 : decode cX9_compiled 160 = .ok (.goto 43, 3) := by decide +kernel
theorem dX9_compiled_163 : decode cX9_compiled 163 = .ok (.aload_n 0, 1) := by decide +kernel
theorem dX9_compiled_164 : decode cX9_compiled 164 = .ok (.iload_n 1, 1) := by decide +kernel
theorem dX9_compiled_165 : decode cX9_compiled 165 = .ok (.aload_n 0, 1) := by decide +kernel
theorem dX9_compiled_166 : decode cX9_compiled 166 = .ok (.getfield 22, 3) := by decide +kernel
theorem dX9_compiled_169 : decode cX9_compiled 169 = .ok (.iconst 4, 1) := by decide +kernel
theorem dX9_compiled_170 : decode cX9_compiled 170 = .ok (.iaload, 1) := by decide +kernel
theorem dX9_compiled_171 : decode cX9_compiled 171 = .ok (.invokevirtual 253, 3) := by decide +kernel
theorem dX9_compiled_174 : decode cX9_compiled 174 = .ok (.ifCond .ne 8, 3) := by decide +kernel
theorem dX9_compiled_177 : decode cX9_compiled 177 = .ok (.bipush 8, 2) := by decide +kernel
theorem dX9_compiled_179 : decode cX9_compiled 179 = .ok (.goto 24, 3) := by decide +kernel
theorem dX9_compiled_182 : decode cX9_compiled 182 = .ok (.aload_n 0, 1) := by decide +kernel
theorem dX9_compiled_183 : decode cX9_compiled 183 = .ok (.iload_n 1, 1) := by decide +kernel
theorem dX9_compiled_184 : decode cX9_compiled 184 = .ok (.iload_n 2, 1) := by decide +kernel
theorem dX9_compiled_185 : decode cX9_compiled 185 = .ok (.aload_n 0, 1) := by decide +kernel
theorem dX9_compiled_186 : decode cX9_compiled 186 = .ok (.getfield 22, 3) := by decide +kernel
theorem dX9_compiled_189 : decode cX9_compiled 189 = .ok (.iconst 4, 1) := by decide +kernel
theorem dX9_compiled_190 : decode cX9_compiled 190 = .ok (.iaload, 1) := by decide +kernel
theorem dX9_compiled_191 : decode cX9_compiled 191 = .ok (.invokevirtual 128, 3) := by decide +kernel
theorem dX9_compiled_194 : decode cX9_compiled 194 = .ok (.ifCond .eq 8, 3) := by decide +kernel
theorem dX9_compiled_197 : decode cX9_compiled 197 = .ok (.bipush 7, 2) := by decide +kernel
theorem dX9_compiled_199 : decode cX9_compiled 199 = .ok (.goto 4, 3) := by decide +kernel
theorem dX9_compiled_202 : decode cX9_compiled 202 = .ok (.iconst 0, 1) := by decide +kernel
theorem dX9_compiled_203 : decode cX9_compiled 203 = .ok (.ireturn, 1) := by decide +kernel
theorem dX9_clientMany_0 : decode cX9_clientMany 0 = .ok (.aload_n 0, 1) := by decide +kernel
theorem dX9_clientMany_1 : decode cX9_clientMany 1 = .ok (.getfield 7, 3) := by decide +kernel
theorem dX9_clientMany_4 : decode cX9_clientMany 4 = .ok (.sipush 962, 3) := by decide +kernel
theorem dX9_clientMany_7 : decode cX9_clientMany 7 = .ok (.iaload, 1) := by decide +kernel
theorem dX9_clientMany_8 : decode cX9_clientMany 8 = .ok (.ireturn, 1) := by decide +kernel
theorem dX9_refused_0 : decode cX9_refused 0 = .ok (.aload_n 0, 1) := by decide +kernel
theorem dX9_refused_1 : decode cX9_refused 1 = .ok (.iload_n 1, 1) := by decide +kernel
theorem dX9_refused_2 : decode cX9_refused 2 = .ok (.putfield 55, 3) := by decide +kernel
theorem dX9_refused_5 : decode cX9_refused 5 = .ok (.iload_n 1, 1) := by decide +kernel
theorem dX9_refused_6 : decode cX9_refused 6 = .ok (.ifCond .le 7, 3) := by decide +kernel
theorem dX9_refused_9 : decode cX9_refused 9 = .ok (.iconst 1, 1) := by decide +kernel
theorem dX9_refused_10 : decode cX9_refused 10 = .ok (.goto 4, 3) := by decide +kernel
theorem dX9_refused_13 : decode cX9_refused 13 = .ok (.iconst 0, 1) := by decide +kernel
theorem dX9_refused_14 : decode cX9_refused 14 = .ok (.ireturn, 1) := by decide +kernel
theorem dX9_saves_0 : decode cX9_saves 0 = .ok (.aload_n 0, 1) := by decide +kernel
theorem dX9_saves_1 : decode cX9_saves 1 = .ok (.getfield 59, 3) := by decide +kernel
theorem dX9_saves_4 : decode cX9_saves 4 = .ok (.iconst 5, 1) := by decide +kernel
theorem dX9_saves_5 : decode cX9_saves 5 = .ok (.if_icmp .ne 44, 3) := by decide +kernel
theorem dX9_saves_8 : decode cX9_saves 8 = .ok (.iconst 0, 1) := by decide +kernel
theorem dX9_saves_9 : decode cX9_saves 9 = .ok (.istore_n 1, 1) := by decide +kernel
theorem dX9_saves_10 : decode cX9_saves 10 = .ok (.iload_n 1, 1) := by decide +kernel
theorem dX9_saves_11 : decode cX9_saves 11 = .ok (.sipush 4620, 3) := by decide +kernel
theorem dX9_saves_14 : decode cX9_saves 14 = .ok (.if_icmp .ge 25, 3) := by decide +kernel
theorem dX9_saves_17 : decode cX9_saves 17 = .ok (.aload_n 0, 1) := by decide +kernel
theorem dX9_saves_18 : decode cX9_saves 18 = .ok (.getfield 13, 3) := by decide +kernel
theorem dX9_saves_21 : decode cX9_saves 21 = .ok (.iload_n 1, 1) := by decide +kernel
theorem dX9_saves_22 : decode cX9_saves 22 = .ok (.aload_n 0, 1) := by decide +kernel
theorem dX9_saves_23 : decode cX9_saves 23 = .ok (.getfield 13, 3) := by decide +kernel
theorem dX9_saves_26 : decode cX9_saves 26 = .ok (.iload_n 1, 1) := by decide +kernel
theorem dX9_saves_27 : decode cX9_saves 27 = .ok (.sipush 1155, 3) := by decide +kernel
theorem dX9_saves_30 : decode cX9_saves 30 = .ok (.iadd, 1) := by decide +kernel
theorem dX9_saves_31 : decode cX9_saves 31 = .ok (.iaload, 1) := by decide +kernel
theorem dX9_saves_32 : decode cX9_saves 32 = .ok (.iastore, 1) := by decide +kernel
theorem dX9_saves_33 : decode cX9_saves 33 = .ok (.iinc 1 1, 3) := by decide +kernel
theorem dX9_saves_36 : decode cX9_saves 36 = .ok (.goto (-26), 3) := by decide +kernel
theorem dX9_saves_39 : decode cX9_saves 39 = .ok (.aload_n 0, 1) := by decide +kernel
theorem dX9_saves_40 : decode cX9_saves 40 = .ok (.dup, 1) := by decide +kernel
theorem dX9_saves_41 : decode cX9_saves 41 = .ok (.getfield 59, 3) := by decide +kernel
theorem dX9_saves_44 : decode cX9_saves 44 = .ok (.iconst 1, 1) := by decide +kernel
theorem dX9_saves_45 : decode cX9_saves 45 = .ok (.isub, 1) := by decide +kernel
theorem dX9_saves_46 : decode cX9_saves 46 = .ok (.putfield 59, 3) := by decide +kernel
theorem dX9_saves_49 : decode cX9_saves 49 = .ok (.iconst 0, 1) := by decide +kernel
theorem dX9_saves_50 : decode cX9_saves 50 = .ok (.istore_n 1, 1) := by decide +kernel
theorem dX9_saves_51 : decode cX9_saves 51 = .ok (.iload_n 1, 1) := by decide +kernel
theorem dX9_saves_52 : decode cX9_saves 52 = .ok (.sipush 1155, 3) := by decide +kernel
theorem dX9_saves_55 : decode cX9_saves 55 = .ok (.if_icmp .ge 30, 3) := by decide +kernel
theorem dX9_saves_58 : decode cX9_saves 58 = .ok (.aload_n 0, 1) := by decide +kernel
theorem dX9_saves_59 : decode cX9_saves 59 = .ok (.getfield 13, 3) := by decide +kernel
theorem dX9_saves_62 : decode cX9_saves 62 = .ok (.sipush 1155, 3) := by decide +kernel
theorem dX9_saves_65 : decode cX9_saves 65 = .ok (.aload_n 0, 1) := by decide +kernel
theorem dX9_saves_66 : decode cX9_saves 66 = .ok (.getfield 59, 3) := by decide +kernel
theorem dX9_saves_69 : decode cX9_saves 69 = .ok (.imul, 1) := by decide +kernel
theorem dX9_saves_70 : decode cX9_saves 70 = .ok (.iload_n 1, 1) := by decide +kernel
theorem dX9_saves_71 : decode cX9_saves 71 = .ok (.iadd, 1) := by decide +kernel
theorem dX9_saves_72 : decode cX9_saves 72 = .ok (.aload_n 0, 1) := by decide +kernel
theorem dX9_saves_73 : decode cX9_saves 73 = .ok (.getfield 7, 3) := by decide +kernel
theorem dX9_saves_76 : decode cX9_saves 76 = .ok (.iload_n 1, 1) := by decide +kernel
theorem dX9_saves_77 : decode cX9_saves 77 = .ok (.iaload, 1) := by decide +kernel
theorem dX9_saves_78 : decode cX9_saves 78 = .ok (.iastore, 1) := by decide +kernel
theorem dX9_saves_79 : decode cX9_saves 79 = .ok (.iinc 1 1, 3) := by decide +kernel
theorem dX9_saves_82 : decode cX9_saves 82 = .ok (.goto (-31), 3) := by decide +kernel
theorem dX9_saves_85 : decode cX9_saves 85 = .ok (.aload_n 0, 1) := by decide +kernel
theorem dX9_saves_86 : decode cX9_saves 86 = .ok (.dup, 1) := by decide +kernel
