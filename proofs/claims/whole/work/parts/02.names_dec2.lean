theorem dX9_saves_87 : decode cX9_saves 87 = .ok (.getfield 59, 3) := by decide +kernel
theorem dX9_saves_90 : decode cX9_saves 90 = .ok (.iconst 1, 1) := by decide +kernel
theorem dX9_saves_91 : decode cX9_saves 91 = .ok (.iadd, 1) := by decide +kernel
theorem dX9_saves_92 : decode cX9_saves 92 = .ok (.putfield 59, 3) := by decide +kernel
theorem dX9_saves_95 : decode cX9_saves 95 = .ok (.return_, 1) := by decide +kernel
theorem dX9_keepsReference_0 : decode cX9_keepsReference 0 = .ok (.iconst 0, 1) := by decide +kernel
theorem dX9_keepsReference_1 : decode cX9_keepsReference 1 = .ok (.istore_n 1, 1) := by decide +kernel
theorem dX9_keepsReference_2 : decode cX9_keepsReference 2 = .ok (.iload_n 1, 1) := by decide +kernel
theorem dX9_keepsReference_3 : decode cX9_keepsReference 3 = .ok (.bipush 8, 2) := by decide +kernel
theorem dX9_keepsReference_5 : decode cX9_keepsReference 5 = .ok (.if_icmp .ge 24, 3) := by decide +kernel
theorem dX9_keepsReference_8 : decode cX9_keepsReference 8 = .ok (.aload_n 0, 1) := by decide +kernel
theorem dX9_keepsReference_9 : decode cX9_keepsReference 9 = .ok (.getfield 22, 3) := by decide +kernel
theorem dX9_keepsReference_12 : decode cX9_keepsReference 12 = .ok (.bipush 8, 2) := by decide +kernel
theorem dX9_keepsReference_14 : decode cX9_keepsReference 14 = .ok (.iload_n 1, 1) := by decide +kernel
theorem dX9_keepsReference_15 : decode cX9_keepsReference 15 = .ok (.iadd, 1) := by decide +kernel
theorem dX9_keepsReference_16 : decode cX9_keepsReference 16 = .ok (.aload_n 0, 1) := by decide +kernel
theorem dX9_keepsReference_17 : decode cX9_keepsReference 17 = .ok (.getfield 25, 3) := by decide +kernel
theorem dX9_keepsReference_20 : decode cX9_keepsReference 20 = .ok (.iload_n 1, 1) := by decide +kernel
theorem dX9_keepsReference_21 : decode cX9_keepsReference 21 = .ok (.iaload, 1) := by decide +kernel
theorem dX9_keepsReference_22 : decode cX9_keepsReference 22 = .ok (.iastore, 1) := by decide +kernel
theorem dX9_keepsReference_23 : decode cX9_keepsReference 23 = .ok (.iinc 1 1, 3) := by decide +kernel
theorem dX9_keepsReference_26 : decode cX9_keepsReference 26 = .ok (.goto (-24), 3) := by decide +kernel
theorem dX9_keepsReference_29 : decode cX9_keepsReference 29 = .ok (.return_, 1) := by decide +kernel
theorem dX9_client_0 : decode cX9_client 0 = .ok (.sipush 963, 3) := by decide +kernel
theorem dX9_client_3 : decode cX9_client 3 = .ok (.bipush 16, 2) := by decide +kernel
theorem dX9_client_5 : decode cX9_client 5 = .ok (.iload_n 0, 1) := by decide +kernel
theorem dX9_client_6 : decode cX9_client 6 = .ok (.imul, 1) := by decide +kernel
theorem dX9_client_7 : decode cX9_client 7 = .ok (.iadd, 1) := by decide +kernel
theorem dX9_client_8 : decode cX9_client 8 = .ok (.ireturn, 1) := by decide +kernel
theorem dX9_lies_0 : decode cX9_lies 0 = .ok (.iconst 0, 1) := by decide +kernel
theorem dX9_lies_1 : decode cX9_lies 1 = .ok (.istore_n 2, 1) := by decide +kernel
theorem dX9_lies_2 : decode cX9_lies 2 = .ok (.iload_n 2, 1) := by decide +kernel
theorem dX9_lies_3 : decode cX9_lies 3 = .ok (.bipush 16, 2) := by decide +kernel
theorem dX9_lies_5 : decode cX9_lies 5 = .ok (.if_icmp .ge 26, 3) := by decide +kernel
theorem dX9_lies_8 : decode cX9_lies 8 = .ok (.aload_n 0, 1) := by decide +kernel
theorem dX9_lies_9 : decode cX9_lies 9 = .ok (.getfield 7, 3) := by decide +kernel
theorem dX9_lies_12 : decode cX9_lies 12 = .ok (.iload_n 1, 1) := by decide +kernel
theorem dX9_lies_13 : decode cX9_lies 13 = .ok (.invokestatic 239, 3) := by decide +kernel
theorem dX9_lies_16 : decode cX9_lies 16 = .ok (.iload_n 2, 1) := by decide +kernel
theorem dX9_lies_17 : decode cX9_lies 17 = .ok (.iadd, 1) := by decide +kernel
theorem dX9_lies_18 : decode cX9_lies 18 = .ok (.aload_n 0, 1) := by decide +kernel
theorem dX9_lies_19 : decode cX9_lies 19 = .ok (.getfield 22, 3) := by decide +kernel
theorem dX9_lies_22 : decode cX9_lies 22 = .ok (.iload_n 2, 1) := by decide +kernel
theorem dX9_lies_23 : decode cX9_lies 23 = .ok (.iaload, 1) := by decide +kernel
theorem dX9_lies_24 : decode cX9_lies 24 = .ok (.iastore, 1) := by decide +kernel
theorem dX9_lies_25 : decode cX9_lies 25 = .ok (.iinc 2 1, 3) := by decide +kernel
theorem dX9_lies_28 : decode cX9_lies 28 = .ok (.goto (-26), 3) := by decide +kernel
theorem dX9_lies_31 : decode cX9_lies 31 = .ok (.return_, 1) := by decide +kernel
theorem dX9_comes_0 : decode cX9_comes 0 = .ok (.aload_n 0, 1) := by decide +kernel
theorem dX9_comes_1 : decode cX9_comes 1 = .ok (.iload_n 1, 1) := by decide +kernel
theorem dX9_comes_2 : decode cX9_comes 2 = .ok (.iload_n 2, 1) := by decide +kernel
theorem dX9_comes_3 : decode cX9_comes 3 = .ok (.iload_n 3, 1) := by decide +kernel
theorem dX9_comes_4 : decode cX9_comes 4 = .ok (.iload 4, 2) := by decide +kernel
theorem dX9_comes_6 : decode cX9_comes 6 = .ok (.aload_n 0, 1) := by decide +kernel
theorem dX9_comes_7 : decode cX9_comes 7 = .ok (.getfield 16, 3) := by decide +kernel
theorem dX9_comes_10 : decode cX9_comes 10 = .ok (.iconst 1, 1) := by decide +kernel
theorem dX9_comes_11 : decode cX9_comes 11 = .ok (.iaload, 1) := by decide +kernel
theorem dX9_comes_12 : decode cX9_comes 12 = .ok (.aload_n 0, 1) := by decide +kernel
theorem dX9_comes_13 : decode cX9_comes 13 = .ok (.getfield 16, 3) := by decide +kernel
theorem dX9_comes_16 : decode cX9_comes 16 = .ok (.iconst 2, 1) := by decide +kernel
theorem dX9_comes_17 : decode cX9_comes 17 = .ok (.iaload, 1) := by decide +kernel
theorem dX9_comes_18 : decode cX9_comes 18 = .ok (.aload_n 0, 1) := by decide +kernel
theorem dX9_comes_19 : decode cX9_comes 19 = .ok (.getfield 16, 3) := by decide +kernel
theorem dX9_comes_22 : decode cX9_comes 22 = .ok (.iconst 3, 1) := by decide +kernel
theorem dX9_comes_23 : decode cX9_comes 23 = .ok (.iaload, 1) := by decide +kernel
theorem dX9_comes_24 : decode cX9_comes 24 = .ok (.invokevirtual 291, 3) := by decide +kernel
theorem dX9_comes_27 : decode cX9_comes 27 = .ok (.aload_n 0, 1) := by decide +kernel
theorem dX9_comes_28 : decode cX9_comes 28 = .ok (.iconst 0, 1) := by decide +kernel
theorem dX9_comes_29 : decode cX9_comes 29 = .ok (.invokevirtual 280, 3) := by decide +kernel
theorem dX9_comes_32 : decode cX9_comes 32 = .ok (.pop, 1) := by decide +kernel
theorem dX9_comes_33 : decode cX9_comes 33 = .ok (.aload_n 0, 1) := by decide +kernel
theorem dX9_comes_34 : decode cX9_comes 34 = .ok (.invokevirtual 295, 3) := by decide +kernel
theorem dX9_comes_37 : decode cX9_comes 37 = .ok (.aload_n 0, 1) := by decide +kernel
theorem dX9_comes_38 : decode cX9_comes 38 = .ok (.aload_n 0, 1) := by decide +kernel
theorem dX9_comes_39 : decode cX9_comes 39 = .ok (.invokevirtual 287, 3) := by decide +kernel
theorem dX9_comes_42 : decode cX9_comes 42 = .ok (.invokevirtual 298, 3) := by decide +kernel
theorem dX9_comes_45 : decode cX9_comes 45 = .ok (.aload_n 0, 1) := by decide +kernel
theorem dX9_comes_46 : decode cX9_comes 46 = .ok (.getfield 7, 3) := by decide +kernel
theorem dX9_comes_49 : decode cX9_comes 49 = .ok (.sipush 962, 3) := by decide +kernel
theorem dX9_comes_52 : decode cX9_comes 52 = .ok (.dup2, 1) := by decide +kernel
theorem dX9_comes_53 : decode cX9_comes 53 = .ok (.iaload, 1) := by decide +kernel
theorem dX9_comes_54 : decode cX9_comes 54 = .ok (.iconst 1, 1) := by decide +kernel
theorem dX9_comes_55 : decode cX9_comes 55 = .ok (.iadd, 1) := by decide +kernel
theorem dX9_comes_56 : decode cX9_comes 56 = .ok (.iastore, 1) := by decide +kernel
theorem dX9_comes_57 : decode cX9_comes 57 = .ok (.return_, 1) := by decide +kernel
theorem dX9_addClient_0 : decode cX9_addClient 0 = .ok (.iload_n 1, 1) := by decide +kernel
theorem dX9_addClient_1 : decode cX9_addClient 1 = .ok (.iconst 0, 1) := by decide +kernel
theorem dX9_addClient_2 : decode cX9_addClient 2 = .ok (.iconst 5, 1) := by decide +kernel
theorem dX9_addClient_3 : decode cX9_addClient 3 = .ok (.invokestatic 66, 3) := by decide +kernel
theorem dX9_addClient_6 : decode cX9_addClient 6 = .ok (.ifCond .eq 42, 3) := by decide +kernel
theorem dX9_addClient_9 : decode cX9_addClient 9 = .ok (.iload_n 2, 1) := by decide +kernel
theorem dX9_addClient_10 : decode cX9_addClient 10 = .ok (.iconst 0, 1) := by decide +kernel
theorem dX9_addClient_11 : decode cX9_addClient 11 = .ok (.bipush 9, 2) := by decide +kernel
theorem dX9_addClient_13 : decode cX9_addClient 13 = .ok (.invokestatic 66, 3) := by decide +kernel
theorem dX9_addClient_16 : decode cX9_addClient 16 = .ok (.ifCond .eq 32, 3) := by decide +kernel
theorem dX9_addClient_19 : decode cX9_addClient 19 = .ok (.iload_n 1, 1) := by decide +kernel
theorem dX9_addClient_20 : decode cX9_addClient 20 = .ok (.iconst 2, 1) := by decide +kernel
theorem dX9_addClient_21 : decode cX9_addClient 21 = .ok (.if_icmp .gt 13, 3) := by decide +kernel
theorem dX9_addClient_24 : decode cX9_addClient 24 = .ok (.iload_n 3, 1) := by decide +kernel
theorem dX9_addClient_25 : decode cX9_addClient 25 = .ok (.iconst 0, 1) := by decide +kernel
theorem dX9_addClient_26 : decode cX9_addClient 26 = .ok (.bipush 7, 2) := by decide +kernel
theorem dX9_addClient_28 : decode cX9_addClient 28 = .ok (.invokestatic 66, 3) := by decide +kernel
theorem dX9_addClient_31 : decode cX9_addClient 31 = .ok (.ifCond .eq 17, 3) := by decide +kernel
theorem dX9_addClient_34 : decode cX9_addClient 34 = .ok (.iload 4, 2) := by decide +kernel
theorem dX9_addClient_36 : decode cX9_addClient 36 = .ok (.iconst 0, 1) := by decide +kernel
theorem dX9_addClient_37 : decode cX9_addClient 37 = .ok (.iconst 3, 1) := by decide +kernel
theorem dX9_addClient_38 : decode cX9_addClient 38 = .ok (.invokestatic 66, 3) := by decide +kernel
theorem dX9_addClient_41 : decode cX9_addClient 41 = .ok (.ifCond .eq 7, 3) := by decide +kernel
theorem dX9_addClient_44 : decode cX9_addClient 44 = .ok (.iconst 1, 1) := by decide +kernel
theorem dX9_addClient_45 : decode cX9_addClient 45 = .ok (.goto 4, 3) := by decide +kernel
theorem dX9_addClient_48 : decode cX9_addClient 48 = .ok (.iconst 0, 1) := by decide +kernel
theorem dX9_addClient_49 : decode cX9_addClient 49 = .ok (.istore 5, 2) := by decide +kernel
theorem dX9_addClient_51 : decode cX9_addClient 51 = .ok (.iload 5, 2) := by decide +kernel
theorem dX9_addClient_53 : decode cX9_addClient 53 = .ok (.ifCond .eq 45, 3) := by decide +kernel
theorem dX9_addClient_56 : decode cX9_addClient 56 = .ok (.aload_n 0, 1) := by decide +kernel
theorem dX9_addClient_57 : decode cX9_addClient 57 = .ok (.iload_n 1, 1) := by decide +kernel
theorem dX9_addClient_58 : decode cX9_addClient 58 = .ok (.iload_n 2, 1) := by decide +kernel
theorem dX9_addClient_59 : decode cX9_addClient 59 = .ok (.iload_n 3, 1) := by decide +kernel
theorem dX9_addClient_60 : decode cX9_addClient 60 = .ok (.iload 4, 2) := by decide +kernel
theorem dX9_addClient_62 : decode cX9_addClient 62 = .ok (.aload_n 0, 1) := by decide +kernel
theorem dX9_addClient_63 : decode cX9_addClient 63 = .ok (.getfield 16, 3) := by decide +kernel
theorem dX9_addClient_66 : decode cX9_addClient 66 = .ok (.iconst 1, 1) := by decide +kernel
theorem dX9_addClient_67 : decode cX9_addClient 67 = .ok (.iaload, 1) := by decide +kernel
theorem dX9_addClient_68 : decode cX9_addClient 68 = .ok (.aload_n 0, 1) := by decide +kernel
theorem dX9_addClient_69 : decode cX9_addClient 69 = .ok (.getfield 16, 3) := by decide +kernel
theorem dX9_addClient_72 : decode cX9_addClient 72 = .ok (.iconst 2, 1) := by decide +kernel
theorem dX9_addClient_73 : decode cX9_addClient 73 = .ok (.iaload, 1) := by decide +kernel
theorem dX9_addClient_74 : decode cX9_addClient 74 = .ok (.aload_n 0, 1) := by decide +kernel
theorem dX9_addClient_75 : decode cX9_addClient 75 = .ok (.getfield 16, 3) := by decide +kernel
theorem dX9_addClient_78 : decode cX9_addClient 78 = .ok (.iconst 3, 1) := by decide +kernel
theorem dX9_addClient_79 : decode cX9_addClient 79 = .ok (.iaload, 1) := by decide +kernel
theorem dX9_addClient_80 : decode cX9_addClient 80 = .ok (.invokevirtual 291, 3) := by decide +kernel
theorem dX9_addClient_83 : decode cX9_addClient 83 = .ok (.aload_n 0, 1) := by decide +kernel
theorem dX9_addClient_84 : decode cX9_addClient 84 = .ok (.iconst 0, 1) := by decide +kernel
theorem dX9_addClient_85 : decode cX9_addClient 85 = .ok (.invokevirtual 280, 3) := by decide +kernel
theorem dX9_addClient_88 : decode cX9_addClient 88 = .ok (.ifCond .ne 7, 3) := by decide +kernel
theorem dX9_addClient_91 : decode cX9_addClient 91 = .ok (.iconst 1, 1) := by decide +kernel
theorem dX9_addClient_92 : decode cX9_addClient 92 = .ok (.goto 4, 3) := by decide +kernel
theorem dX9_addClient_95 : decode cX9_addClient 95 = .ok (.iconst 0, 1) := by decide +kernel
theorem dX9_addClient_96 : decode cX9_addClient 96 = .ok (.istore 5, 2) := by decide +kernel
theorem dX9_addClient_98 : decode cX9_addClient 98 = .ok (.aload_n 0, 1) := by decide +kernel
theorem dX9_addClient_99 : decode cX9_addClient 99 = .ok (.iload 5, 2) := by decide +kernel
theorem dX9_addClient_101 : decode cX9_addClient 101 = .ok (.ifCond .ne 7, 3) := by decide +kernel
theorem dX9_addClient_104 : decode cX9_addClient 104 = .ok (.iconst 1, 1) := by decide +kernel
theorem dX9_addClient_105 : decode cX9_addClient 105 = .ok (.goto 17, 3) := by decide +kernel
theorem dX9_addClient_108 : decode cX9_addClient 108 = .ok (.aload_n 0, 1) := by decide +kernel
theorem dX9_addClient_109 : decode cX9_addClient 109 = .ok (.invokevirtual 287, 3) := by decide +kernel
theorem dX9_addClient_112 : decode cX9_addClient 112 = .ok (.bipush 12, 2) := by decide +kernel
theorem dX9_addClient_114 : decode cX9_addClient 114 = .ok (.if_icmp .ne 7, 3) := by decide +kernel
theorem dX9_addClient_117 : decode cX9_addClient 117 = .ok (.iconst 2, 1) := by decide +kernel
theorem dX9_addClient_118 : decode cX9_addClient 118 = .ok (.goto 4, 3) := by decide +kernel
theorem dX9_addClient_121 : decode cX9_addClient 121 = .ok (.iconst 0, 1) := by decide +kernel
theorem dX9_addClient_122 : decode cX9_addClient 122 = .ok (.invokevirtual 62, 3) := by decide +kernel
theorem dX9_addClient_125 : decode cX9_addClient 125 = .ok (.ifCond .eq 5, 3) := by decide +kernel
theorem dX9_addClient_128 : decode cX9_addClient 128 = .ok (.iconst 0, 1) := by decide +kernel
theorem dX9_addClient_129 : decode cX9_addClient 129 = .ok (.ireturn, 1) := by decide +kernel
theorem dX9_addClient_130 : decode cX9_addClient 130 = .ok (.aload_n 0, 1) := by decide +kernel
theorem dX9_addClient_131 : decode cX9_addClient 131 = .ok (.invokevirtual 93, 3) := by decide +kernel
theorem dX9_addClient_134 : decode cX9_addClient 134 = .ok (.aload_n 0, 1) := by decide +kernel
theorem dX9_addClient_135 : decode cX9_addClient 135 = .ok (.iload_n 1, 1) := by decide +kernel
theorem dX9_addClient_136 : decode cX9_addClient 136 = .ok (.iload_n 2, 1) := by decide +kernel
theorem dX9_addClient_137 : decode cX9_addClient 137 = .ok (.iload_n 3, 1) := by decide +kernel
theorem dX9_addClient_138 : decode cX9_addClient 138 = .ok (.iload 4, 2) := by decide +kernel
theorem dX9_addClient_140 : decode cX9_addClient 140 = .ok (.invokevirtual 44, 3) := by decide +kernel
theorem dX9_addClient_143 : decode cX9_addClient 143 = .ok (.aload_n 0, 1) := by decide +kernel
theorem dX9_addClient_144 : decode cX9_addClient 144 = .ok (.invokevirtual 287, 3) := by decide +kernel
theorem dX9_addClient_147 : decode cX9_addClient 147 = .ok (.iconst 1, 1) := by decide +kernel
theorem dX9_addClient_148 : decode cX9_addClient 148 = .ok (.isub, 1) := by decide +kernel
theorem dX9_addClient_149 : decode cX9_addClient 149 = .ok (.ireturn, 1) := by decide +kernel
theorem dX9_mayBeMethod_0 : decode cX9_mayBeMethod 0 = .ok (.iload_n 3, 1) := by decide +kernel
theorem dX9_mayBeMethod_1 : decode cX9_mayBeMethod 1 = .ok (.iconst 0, 1) := by decide +kernel
theorem dX9_mayBeMethod_2 : decode cX9_mayBeMethod 2 = .ok (.iconst 3, 1) := by decide +kernel
theorem dX9_mayBeMethod_3 : decode cX9_mayBeMethod 3 = .ok (.invokestatic 66, 3) := by decide +kernel
theorem dX9_mayBeMethod_6 : decode cX9_mayBeMethod 6 = .ok (.ifCond .eq 41, 3) := by decide +kernel
theorem dX9_mayBeMethod_9 : decode cX9_mayBeMethod 9 = .ok (.iload 4, 2) := by decide +kernel
theorem dX9_mayBeMethod_11 : decode cX9_mayBeMethod 11 = .ok (.iconst 0, 1) := by decide +kernel
theorem dX9_mayBeMethod_12 : decode cX9_mayBeMethod 12 = .ok (.bipush 7, 2) := by decide +kernel
theorem dX9_mayBeMethod_14 : decode cX9_mayBeMethod 14 = .ok (.invokestatic 66, 3) := by decide +kernel
theorem dX9_mayBeMethod_17 : decode cX9_mayBeMethod 17 = .ok (.ifCond .eq 30, 3) := by decide +kernel
theorem dX9_mayBeMethod_20 : decode cX9_mayBeMethod 20 = .ok (.aload_n 0, 1) := by decide +kernel
theorem dX9_mayBeMethod_21 : decode cX9_mayBeMethod 21 = .ok (.iload_n 1, 1) := by decide +kernel
theorem dX9_mayBeMethod_22 : decode cX9_mayBeMethod 22 = .ok (.iload_n 2, 1) := by decide +kernel
theorem dX9_mayBeMethod_23 : decode cX9_mayBeMethod 23 = .ok (.invokevirtual 81, 3) := by decide +kernel
theorem dX9_mayBeMethod_26 : decode cX9_mayBeMethod 26 = .ok (.ifCond .eq 17, 3) := by decide +kernel
theorem dX9_mayBeMethod_29 : decode cX9_mayBeMethod 29 = .ok (.iload_n 3, 1) := by decide +kernel
theorem dX9_mayBeMethod_30 : decode cX9_mayBeMethod 30 = .ok (.iconst 3, 1) := by decide +kernel
theorem dX9_mayBeMethod_31 : decode cX9_mayBeMethod 31 = .ok (.if_icmp .ne 16, 3) := by decide +kernel
theorem dX9_mayBeMethod_34 : decode cX9_mayBeMethod 34 = .ok (.iload 4, 2) := by decide +kernel
theorem dX9_mayBeMethod_36 : decode cX9_mayBeMethod 36 = .ok (.iconst 1, 1) := by decide +kernel
theorem dX9_mayBeMethod_37 : decode cX9_mayBeMethod 37 = .ok (.invokestatic 84, 3) := by decide +kernel
theorem dX9_mayBeMethod_40 : decode cX9_mayBeMethod 40 = .ok (.ifCond .ne 7, 3) := by decide +kernel
theorem dX9_mayBeMethod_43 : decode cX9_mayBeMethod 43 = .ok (.iconst 1, 1) := by decide +kernel
theorem dX9_mayBeMethod_44 : decode cX9_mayBeMethod 44 = .ok (.goto 4, 3) := by decide +kernel
theorem dX9_mayBeMethod_47 : decode cX9_mayBeMethod 47 = .ok (.iconst 0, 1) := by decide +kernel
theorem dX9_mayBeMethod_48 : decode cX9_mayBeMethod 48 = .ok (.istore 5, 2) := by decide +kernel
theorem dX9_mayBeMethod_50 : decode cX9_mayBeMethod 50 = .ok (.iload 5, 2) := by decide +kernel
theorem dX9_mayBeMethod_52 : decode cX9_mayBeMethod 52 = .ok (.ifCond .eq 38, 3) := by decide +kernel
theorem dX9_mayBeMethod_55 : decode cX9_mayBeMethod 55 = .ok (.iload 4, 2) := by decide +kernel
theorem dX9_mayBeMethod_57 : decode cX9_mayBeMethod 57 = .ok (.iconst 2, 1) := by decide +kernel
theorem dX9_mayBeMethod_58 : decode cX9_mayBeMethod 58 = .ok (.invokestatic 84, 3) := by decide +kernel
theorem dX9_mayBeMethod_61 : decode cX9_mayBeMethod 61 = .ok (.ifCond .eq 25, 3) := by decide +kernel
theorem dX9_mayBeMethod_64 : decode cX9_mayBeMethod 64 = .ok (.iload 4, 2) := by decide +kernel
theorem dX9_mayBeMethod_66 : decode cX9_mayBeMethod 66 = .ok (.iconst 4, 1) := by decide +kernel
theorem dX9_mayBeMethod_67 : decode cX9_mayBeMethod 67 = .ok (.if_icmp .ne 23, 3) := by decide +kernel
theorem dX9_mayBeMethod_70 : decode cX9_mayBeMethod 70 = .ok (.iload_n 3, 1) := by decide +kernel
theorem dX9_mayBeMethod_71 : decode cX9_mayBeMethod 71 = .ok (.ifCond .le 19, 3) := by decide +kernel
theorem dX9_mayBeMethod_74 : decode cX9_mayBeMethod 74 = .ok (.aload_n 0, 1) := by decide +kernel
theorem dX9_mayBeMethod_75 : decode cX9_mayBeMethod 75 = .ok (.iload_n 1, 1) := by decide +kernel
theorem dX9_mayBeMethod_76 : decode cX9_mayBeMethod 76 = .ok (.iload_n 2, 1) := by decide +kernel
theorem dX9_mayBeMethod_77 : decode cX9_mayBeMethod 77 = .ok (.bipush 7, 2) := by decide +kernel
theorem dX9_mayBeMethod_79 : decode cX9_mayBeMethod 79 = .ok (.invokevirtual 73, 3) := by decide +kernel
theorem dX9_mayBeMethod_82 : decode cX9_mayBeMethod 82 = .ok (.iconst 1, 1) := by decide +kernel
theorem dX9_mayBeMethod_83 : decode cX9_mayBeMethod 83 = .ok (.if_icmp .ne 7, 3) := by decide +kernel
theorem dX9_mayBeMethod_86 : decode cX9_mayBeMethod 86 = .ok (.iconst 1, 1) := by decide +kernel
theorem dX9_mayBeMethod_87 : decode cX9_mayBeMethod 87 = .ok (.goto 4, 3) := by decide +kernel
theorem dX9_mayBeMethod_90 : decode cX9_mayBeMethod 90 = .ok (.iconst 0, 1) := by decide +kernel
theorem dX9_mayBeMethod_91 : decode cX9_mayBeMethod 91 = .ok (.ireturn, 1) := by decide +kernel
theorem dX9_mayBeField_0 : decode cX9_mayBeField 0 = .ok (.iload_n 3, 1) := by decide +kernel
theorem dX9_mayBeField_1 : decode cX9_mayBeField 1 = .ok (.iconst 0, 1) := by decide +kernel
theorem dX9_mayBeField_2 : decode cX9_mayBeField 2 = .ok (.iconst 3, 1) := by decide +kernel
theorem dX9_mayBeField_3 : decode cX9_mayBeField 3 = .ok (.invokestatic 66, 3) := by decide +kernel
theorem dX9_mayBeField_6 : decode cX9_mayBeField 6 = .ok (.ifCond .eq 37, 3) := by decide +kernel
theorem dX9_mayBeField_9 : decode cX9_mayBeField 9 = .ok (.iload 4, 2) := by decide +kernel
theorem dX9_mayBeField_11 : decode cX9_mayBeField 11 = .ok (.iconst 0, 1) := by decide +kernel
theorem dX9_mayBeField_12 : decode cX9_mayBeField 12 = .ok (.iconst 3, 1) := by decide +kernel
theorem dX9_mayBeField_13 : decode cX9_mayBeField 13 = .ok (.invokestatic 66, 3) := by decide +kernel
theorem dX9_mayBeField_16 : decode cX9_mayBeField 16 = .ok (.ifCond .eq 27, 3) := by decide +kernel
theorem dX9_mayBeField_19 : decode cX9_mayBeField 19 = .ok (.aload_n 0, 1) := by decide +kernel
theorem dX9_mayBeField_20 : decode cX9_mayBeField 20 = .ok (.iload_n 1, 1) := by decide +kernel
theorem dX9_mayBeField_21 : decode cX9_mayBeField 21 = .ok (.iload_n 2, 1) := by decide +kernel
theorem dX9_mayBeField_22 : decode cX9_mayBeField 22 = .ok (.invokevirtual 81, 3) := by decide +kernel
theorem dX9_mayBeField_25 : decode cX9_mayBeField 25 = .ok (.ifCond .eq 14, 3) := by decide +kernel
theorem dX9_mayBeField_28 : decode cX9_mayBeField 28 = .ok (.iload_n 3, 1) := by decide +kernel
theorem dX9_mayBeField_29 : decode cX9_mayBeField 29 = .ok (.iconst 3, 1) := by decide +kernel
theorem dX9_mayBeField_30 : decode cX9_mayBeField 30 = .ok (.if_icmp .ne 13, 3) := by decide +kernel
theorem dX9_mayBeField_33 : decode cX9_mayBeField 33 = .ok (.iload 4, 2) := by decide +kernel
theorem dX9_mayBeField_35 : decode cX9_mayBeField 35 = .ok (.iconst 3, 1) := by decide +kernel
theorem dX9_mayBeField_36 : decode cX9_mayBeField 36 = .ok (.if_icmp .ne 7, 3) := by decide +kernel
theorem dX9_mayBeField_39 : decode cX9_mayBeField 39 = .ok (.iconst 1, 1) := by decide +kernel
theorem dX9_mayBeField_40 : decode cX9_mayBeField 40 = .ok (.goto 4, 3) := by decide +kernel
theorem dX9_mayBeField_43 : decode cX9_mayBeField 43 = .ok (.iconst 0, 1) := by decide +kernel
theorem dX9_mayBeField_44 : decode cX9_mayBeField 44 = .ok (.ireturn, 1) := by decide +kernel
theorem dX9_adds_0 : decode cX9_adds 0 = .ok (.aload_n 0, 1) := by decide +kernel
theorem dX9_adds_1 : decode cX9_adds 1 = .ok (.iload_n 1, 1) := by decide +kernel
theorem dX9_adds_2 : decode cX9_adds 2 = .ok (.invokevirtual 51, 3) := by decide +kernel
theorem dX9_adds_5 : decode cX9_adds 5 = .ok (.istore 10, 2) := by decide +kernel
theorem dX9_adds_7 : decode cX9_adds 7 = .ok (.iload_n 1, 1) := by decide +kernel
theorem dX9_adds_8 : decode cX9_adds 8 = .ok (.iload 10, 2) := by decide +kernel
theorem dX9_adds_10 : decode cX9_adds 10 = .ok (.invokestatic 40, 3) := by decide +kernel
theorem dX9_adds_13 : decode cX9_adds 13 = .ok (.istore 11, 2) := by decide +kernel
theorem dX9_adds_15 : decode cX9_adds 15 = .ok (.aload_n 0, 1) := by decide +kernel
theorem dX9_adds_16 : decode cX9_adds 16 = .ok (.getfield 7, 3) := by decide +kernel
theorem dX9_adds_19 : decode cX9_adds 19 = .ok (.iload 11, 2) := by decide +kernel
theorem dX9_adds_21 : decode cX9_adds 21 = .ok (.iconst 0, 1) := by decide +kernel
theorem dX9_adds_22 : decode cX9_adds 22 = .ok (.iadd, 1) := by decide +kernel
theorem dX9_adds_23 : decode cX9_adds 23 = .ok (.iload_n 2, 1) := by decide +kernel
theorem dX9_adds_24 : decode cX9_adds 24 = .ok (.iastore, 1) := by decide +kernel
theorem dX9_adds_25 : decode cX9_adds 25 = .ok (.aload_n 0, 1) := by decide +kernel
theorem dX9_adds_26 : decode cX9_adds 26 = .ok (.getfield 7, 3) := by decide +kernel
theorem dX9_adds_29 : decode cX9_adds 29 = .ok (.iload 11, 2) := by decide +kernel
theorem dX9_adds_31 : decode cX9_adds 31 = .ok (.iconst 1, 1) := by decide +kernel
theorem dX9_adds_32 : decode cX9_adds 32 = .ok (.iadd, 1) := by decide +kernel
theorem dX9_adds_33 : decode cX9_adds 33 = .ok (.iload_n 3, 1) := by decide +kernel
theorem dX9_adds_34 : decode cX9_adds 34 = .ok (.iastore, 1) := by decide +kernel
theorem dX9_adds_35 : decode cX9_adds 35 = .ok (.aload_n 0, 1) := by decide +kernel
theorem dX9_adds_36 : decode cX9_adds 36 = .ok (.getfield 7, 3) := by decide +kernel
theorem dX9_adds_39 : decode cX9_adds 39 = .ok (.iload 11, 2) := by decide +kernel
theorem dX9_adds_41 : decode cX9_adds 41 = .ok (.iconst 2, 1) := by decide +kernel
theorem dX9_adds_42 : decode cX9_adds 42 = .ok (.iadd, 1) := by decide +kernel
theorem dX9_adds_43 : decode cX9_adds 43 = .ok (.iload 4, 2) := by decide +kernel
theorem dX9_adds_45 : decode cX9_adds 45 = .ok (.iastore, 1) := by decide +kernel
theorem dX9_adds_46 : decode cX9_adds 46 = .ok (.aload_n 0, 1) := by decide +kernel
theorem dX9_adds_47 : decode cX9_adds 47 = .ok (.getfield 7, 3) := by decide +kernel
theorem dX9_adds_50 : decode cX9_adds 50 = .ok (.iload 11, 2) := by decide +kernel
theorem dX9_adds_52 : decode cX9_adds 52 = .ok (.iconst 3, 1) := by decide +kernel
theorem dX9_adds_53 : decode cX9_adds 53 = .ok (.iadd, 1) := by decide +kernel
theorem dX9_adds_54 : decode cX9_adds 54 = .ok (.iload 5, 2) := by decide +kernel
theorem dX9_adds_56 : decode cX9_adds 56 = .ok (.iastore, 1) := by decide +kernel
theorem dX9_adds_57 : decode cX9_adds 57 = .ok (.aload_n 0, 1) := by decide +kernel
theorem dX9_adds_58 : decode cX9_adds 58 = .ok (.getfield 7, 3) := by decide +kernel
theorem dX9_adds_61 : decode cX9_adds 61 = .ok (.iload 11, 2) := by decide +kernel
theorem dX9_adds_63 : decode cX9_adds 63 = .ok (.iconst 4, 1) := by decide +kernel
theorem dX9_adds_64 : decode cX9_adds 64 = .ok (.iadd, 1) := by decide +kernel
theorem dX9_adds_65 : decode cX9_adds 65 = .ok (.iload 6, 2) := by decide +kernel
theorem dX9_adds_67 : decode cX9_adds 67 = .ok (.iastore, 1) := by decide +kernel
theorem dX9_adds_68 : decode cX9_adds 68 = .ok (.aload_n 0, 1) := by decide +kernel
theorem dX9_adds_69 : decode cX9_adds 69 = .ok (.getfield 7, 3) := by decide +kernel
theorem dX9_adds_72 : decode cX9_adds 72 = .ok (.iload 11, 2) := by decide +kernel
theorem dX9_adds_74 : decode cX9_adds 74 = .ok (.iconst 5, 1) := by decide +kernel
theorem dX9_adds_75 : decode cX9_adds 75 = .ok (.iadd, 1) := by decide +kernel
theorem dX9_adds_76 : decode cX9_adds 76 = .ok (.iload 7, 2) := by decide +kernel
theorem dX9_adds_78 : decode cX9_adds 78 = .ok (.iastore, 1) := by decide +kernel
theorem dX9_adds_79 : decode cX9_adds 79 = .ok (.aload_n 0, 1) := by decide +kernel
theorem dX9_adds_80 : decode cX9_adds 80 = .ok (.getfield 7, 3) := by decide +kernel
theorem dX9_adds_83 : decode cX9_adds 83 = .ok (.iload 11, 2) := by decide +kernel
theorem dX9_adds_85 : decode cX9_adds 85 = .ok (.bipush 6, 2) := by decide +kernel
theorem dX9_adds_87 : decode cX9_adds 87 = .ok (.iadd, 1) := by decide +kernel
theorem dX9_adds_88 : decode cX9_adds 88 = .ok (.iload 8, 2) := by decide +kernel
theorem dX9_adds_90 : decode cX9_adds 90 = .ok (.iastore, 1) := by decide +kernel
theorem dX9_adds_91 : decode cX9_adds 91 = .ok (.aload_n 0, 1) := by decide +kernel
theorem dX9_adds_92 : decode cX9_adds 92 = .ok (.getfield 7, 3) := by decide +kernel
theorem dX9_adds_95 : decode cX9_adds 95 = .ok (.iload 11, 2) := by decide +kernel
theorem dX9_adds_97 : decode cX9_adds 97 = .ok (.bipush 7, 2) := by decide +kernel
theorem dX9_adds_99 : decode cX9_adds 99 = .ok (.iadd, 1) := by decide +kernel
theorem dX9_adds_100 : decode cX9_adds 100 = .ok (.iload 8, 2) := by decide +kernel
theorem dX9_adds_102 : decode cX9_adds 102 = .ok (.ifCond .le 8, 3) := by decide +kernel
theorem dX9_adds_105 : decode cX9_adds 105 = .ok (.iload 9, 2) := by decide +kernel
theorem dX9_adds_107 : decode cX9_adds 107 = .ok (.goto 5, 3) := by decide +kernel
theorem dX9_adds_110 : decode cX9_adds 110 = .ok (.bipush (-2), 2) := by decide +kernel
theorem dX9_adds_112 : decode cX9_adds 112 = .ok (.iastore, 1) := by decide +kernel
theorem dX9_adds_113 : decode cX9_adds 113 = .ok (.aload_n 0, 1) := by decide +kernel
theorem dX9_adds_114 : decode cX9_adds 114 = .ok (.getfield 7, 3) := by decide +kernel
theorem dX9_adds_117 : decode cX9_adds 117 = .ok (.iload 11, 2) := by decide +kernel
theorem dX9_adds_119 : decode cX9_adds 119 = .ok (.bipush 7, 2) := by decide +kernel
theorem dX9_adds_121 : decode cX9_adds 121 = .ok (.iadd, 1) := by decide +kernel
theorem dX9_adds_122 : decode cX9_adds 122 = .ok (.iconst 1, 1) := by decide +kernel
theorem dX9_adds_123 : decode cX9_adds 123 = .ok (.iadd, 1) := by decide +kernel
theorem dX9_adds_124 : decode cX9_adds 124 = .ok (.bipush (-2), 2) := by decide +kernel
theorem dX9_adds_126 : decode cX9_adds 126 = .ok (.iastore, 1) := by decide +kernel
theorem dX9_adds_127 : decode cX9_adds 127 = .ok (.aload_n 0, 1) := by decide +kernel
theorem dX9_adds_128 : decode cX9_adds 128 = .ok (.getfield 7, 3) := by decide +kernel
theorem dX9_adds_131 : decode cX9_adds 131 = .ok (.iload 11, 2) := by decide +kernel
theorem dX9_adds_133 : decode cX9_adds 133 = .ok (.bipush 9, 2) := by decide +kernel
theorem dX9_adds_135 : decode cX9_adds 135 = .ok (.iadd, 1) := by decide +kernel
theorem dX9_adds_136 : decode cX9_adds 136 = .ok (.bipush (-2), 2) := by decide +kernel
theorem dX9_adds_138 : decode cX9_adds 138 = .ok (.iastore, 1) := by decide +kernel
theorem dX9_adds_139 : decode cX9_adds 139 = .ok (.aload_n 0, 1) := by decide +kernel
theorem dX9_adds_140 : decode cX9_adds 140 = .ok (.getfield 7, 3) := by decide +kernel
theorem dX9_adds_143 : decode cX9_adds 143 = .ok (.sipush 481, 3) := by decide +kernel
theorem dX9_adds_146 : decode cX9_adds 146 = .ok (.iload_n 1, 1) := by decide +kernel
theorem dX9_adds_147 : decode cX9_adds 147 = .ok (.imul, 1) := by decide +kernel
theorem dX9_adds_148 : decode cX9_adds 148 = .ok (.bipush 80, 2) := by decide +kernel
theorem dX9_adds_150 : decode cX9_adds 150 = .ok (.iadd, 1) := by decide +kernel
theorem dX9_adds_151 : decode cX9_adds 151 = .ok (.dup2, 1) := by decide +kernel
theorem dX9_adds_152 : decode cX9_adds 152 = .ok (.iaload, 1) := by decide +kernel
theorem dX9_adds_153 : decode cX9_adds 153 = .ok (.iconst 1, 1) := by decide +kernel
theorem dX9_adds_154 : decode cX9_adds 154 = .ok (.iadd, 1) := by decide +kernel
theorem dX9_adds_155 : decode cX9_adds 155 = .ok (.iastore, 1) := by decide +kernel
theorem dX9_adds_156 : decode cX9_adds 156 = .ok (.iload 10, 2) := by decide +kernel
theorem dX9_adds_158 : decode cX9_adds 158 = .ok (.ireturn, 1) := by decide +kernel
theorem dX9_added_0 : decode cX9_added 0 = .ok (.aload_n 0, 1) := by decide +kernel
theorem dX9_added_1 : decode cX9_added 1 = .ok (.iload_n 1, 1) := by decide +kernel
theorem dX9_added_2 : decode cX9_added 2 = .ok (.iload_n 3, 1) := by decide +kernel
theorem dX9_added_3 : decode cX9_added 3 = .ok (.invokevirtual 77, 3) := by decide +kernel
theorem dX9_added_6 : decode cX9_added 6 = .ok (.istore 7, 2) := by decide +kernel
theorem dX9_added_8 : decode cX9_added 8 = .ok (.iload 7, 2) := by decide +kernel
theorem dX9_added_10 : decode cX9_added 10 = .ok (.ifCond .eq 52, 3) := by decide +kernel
theorem dX9_added_13 : decode cX9_added 13 = .ok (.iload 4, 2) := by decide +kernel
theorem dX9_added_15 : decode cX9_added 15 = .ok (.iconst 0, 1) := by decide +kernel
theorem dX9_added_16 : decode cX9_added 16 = .ok (.bipush 7, 2) := by decide +kernel
theorem dX9_added_18 : decode cX9_added 18 = .ok (.invokestatic 66, 3) := by decide +kernel
theorem dX9_added_21 : decode cX9_added 21 = .ok (.ifCond .eq 41, 3) := by decide +kernel
theorem dX9_added_24 : decode cX9_added 24 = .ok (.iload_n 2, 1) := by decide +kernel
theorem dX9_added_25 : decode cX9_added 25 = .ok (.iconst 1, 1) := by decide +kernel
theorem dX9_added_26 : decode cX9_added 26 = .ok (.if_icmp .ne 19, 3) := by decide +kernel
theorem dX9_added_29 : decode cX9_added 29 = .ok (.aload_n 0, 1) := by decide +kernel
theorem dX9_added_30 : decode cX9_added 30 = .ok (.iload_n 1, 1) := by decide +kernel
theorem dX9_added_31 : decode cX9_added 31 = .ok (.iload_n 3, 1) := by decide +kernel
theorem dX9_added_32 : decode cX9_added 32 = .ok (.iload 5, 2) := by decide +kernel
theorem dX9_added_34 : decode cX9_added 34 = .ok (.iload 6, 2) := by decide +kernel
theorem dX9_added_36 : decode cX9_added 36 = .ok (.invokevirtual 138, 3) := by decide +kernel
theorem dX9_added_39 : decode cX9_added 39 = .ok (.ifCond .eq 23, 3) := by decide +kernel
theorem dX9_added_42 : decode cX9_added 42 = .ok (.goto 16, 3) := by decide +kernel
theorem dX9_added_45 : decode cX9_added 45 = .ok (.aload_n 0, 1) := by decide +kernel
theorem dX9_added_46 : decode cX9_added 46 = .ok (.iload_n 1, 1) := by decide +kernel
theorem dX9_added_47 : decode cX9_added 47 = .ok (.iload_n 3, 1) := by decide +kernel
theorem dX9_added_48 : decode cX9_added 48 = .ok (.iload 5, 2) := by decide +kernel
theorem dX9_added_50 : decode cX9_added 50 = .ok (.iload 6, 2) := by decide +kernel
theorem dX9_added_52 : decode cX9_added 52 = .ok (.invokevirtual 141, 3) := by decide +kernel
theorem dX9_added_55 : decode cX9_added 55 = .ok (.ifCond .eq 7, 3) := by decide +kernel
theorem dX9_added_58 : decode cX9_added 58 = .ok (.iconst 1, 1) := by decide +kernel
theorem dX9_added_59 : decode cX9_added 59 = .ok (.goto 4, 3) := by decide +kernel
theorem dX9_added_62 : decode cX9_added 62 = .ok (.iconst 0, 1) := by decide +kernel
theorem dX9_added_63 : decode cX9_added 63 = .ok (.istore 8, 2) := by decide +kernel
theorem dX9_added_65 : decode cX9_added 65 = .ok (.iload 8, 2) := by decide +kernel
theorem dX9_added_67 : decode cX9_added 67 = .ok (.ifCond .eq 53, 3) := by decide +kernel
theorem dX9_added_70 : decode cX9_added 70 = .ok (.iload_n 3, 1) := by decide +kernel
theorem dX9_added_71 : decode cX9_added 71 = .ok (.ifCond .eq 49, 3) := by decide +kernel
theorem dX9_added_74 : decode cX9_added 74 = .ok (.aload_n 0, 1) := by decide +kernel
theorem dX9_added_75 : decode cX9_added 75 = .ok (.iload_n 1, 1) := by decide +kernel
theorem dX9_added_76 : decode cX9_added 76 = .ok (.invokevirtual 51, 3) := by decide +kernel
theorem dX9_added_79 : decode cX9_added 79 = .ok (.bipush 40, 2) := by decide +kernel
theorem dX9_added_81 : decode cX9_added 81 = .ok (.if_icmp .ge 39, 3) := by decide +kernel
theorem dX9_added_84 : decode cX9_added 84 = .ok (.aload_n 0, 1) := by decide +kernel
theorem dX9_added_85 : decode cX9_added 85 = .ok (.iload_n 1, 1) := by decide +kernel
theorem dX9_added_86 : decode cX9_added 86 = .ok (.iload_n 3, 1) := by decide +kernel
theorem dX9_added_87 : decode cX9_added 87 = .ok (.iload_n 2, 1) := by decide +kernel
theorem dX9_added_88 : decode cX9_added 88 = .ok (.iload 4, 2) := by decide +kernel
theorem dX9_added_90 : decode cX9_added 90 = .ok (.aload_n 0, 1) := by decide +kernel
theorem dX9_added_91 : decode cX9_added 91 = .ok (.getfield 16, 3) := by decide +kernel
theorem dX9_added_94 : decode cX9_added 94 = .ok (.iconst 1, 1) := by decide +kernel
theorem dX9_added_95 : decode cX9_added 95 = .ok (.iaload, 1) := by decide +kernel
theorem dX9_added_96 : decode cX9_added 96 = .ok (.aload_n 0, 1) := by decide +kernel
theorem dX9_added_97 : decode cX9_added 97 = .ok (.getfield 16, 3) := by decide +kernel
theorem dX9_added_100 : decode cX9_added 100 = .ok (.iconst 2, 1) := by decide +kernel
theorem dX9_added_101 : decode cX9_added 101 = .ok (.iaload, 1) := by decide +kernel
theorem dX9_added_102 : decode cX9_added 102 = .ok (.aload_n 0, 1) := by decide +kernel
theorem dX9_added_103 : decode cX9_added 103 = .ok (.getfield 16, 3) := by decide +kernel
theorem dX9_added_106 : decode cX9_added 106 = .ok (.iconst 3, 1) := by decide +kernel
theorem dX9_added_107 : decode cX9_added 107 = .ok (.iaload, 1) := by decide +kernel
theorem dX9_added_108 : decode cX9_added 108 = .ok (.invokevirtual 144, 3) := by decide +kernel
theorem dX9_added_111 : decode cX9_added 111 = .ok (.bipush (-2), 2) := by decide +kernel
theorem dX9_added_113 : decode cX9_added 113 = .ok (.if_icmp .ne 7, 3) := by decide +kernel
theorem dX9_added_116 : decode cX9_added 116 = .ok (.iconst 1, 1) := by decide +kernel
theorem dX9_added_117 : decode cX9_added 117 = .ok (.goto 4, 3) := by decide +kernel
theorem dX9_added_120 : decode cX9_added 120 = .ok (.iconst 0, 1) := by decide +kernel
theorem dX9_added_121 : decode cX9_added 121 = .ok (.istore 9, 2) := by decide +kernel
theorem dX9_added_123 : decode cX9_added 123 = .ok (.aload_n 0, 1) := by decide +kernel
theorem dX9_added_124 : decode cX9_added 124 = .ok (.iload 7, 2) := by decide +kernel
theorem dX9_added_126 : decode cX9_added 126 = .ok (.ifCond .ne 7, 3) := by decide +kernel
theorem dX9_added_129 : decode cX9_added 129 = .ok (.iconst 1, 1) := by decide +kernel
theorem dX9_added_130 : decode cX9_added 130 = .ok (.goto 22, 3) := by decide +kernel
theorem dX9_added_133 : decode cX9_added 133 = .ok (.iload 8, 2) := by decide +kernel
theorem dX9_added_135 : decode cX9_added 135 = .ok (.ifCond .ne 7, 3) := by decide +kernel
theorem dX9_added_138 : decode cX9_added 138 = .ok (.iconst 2, 1) := by decide +kernel
theorem dX9_added_139 : decode cX9_added 139 = .ok (.goto 13, 3) := by decide +kernel
theorem dX9_added_142 : decode cX9_added 142 = .ok (.iload 9, 2) := by decide +kernel
theorem dX9_added_144 : decode cX9_added 144 = .ok (.ifCond .ne 7, 3) := by decide +kernel
theorem dX9_added_147 : decode cX9_added 147 = .ok (.iconst 3, 1) := by decide +kernel
theorem dX9_added_148 : decode cX9_added 148 = .ok (.goto 4, 3) := by decide +kernel
theorem dX9_added_151 : decode cX9_added 151 = .ok (.iconst 0, 1) := by decide +kernel
theorem dX9_added_152 : decode cX9_added 152 = .ok (.invokevirtual 62, 3) := by decide +kernel
theorem dX9_added_155 : decode cX9_added 155 = .ok (.ifCond .eq 5, 3) := by decide +kernel
theorem dX9_added_158 : decode cX9_added 158 = .ok (.iconst 0, 1) := by decide +kernel
theorem dX9_added_159 : decode cX9_added 159 = .ok (.ireturn, 1) := by decide +kernel
theorem dX9_added_160 : decode cX9_added 160 = .ok (.aload_n 0, 1) := by decide +kernel
theorem dX9_added_161 : decode cX9_added 161 = .ok (.invokevirtual 93, 3) := by decide +kernel
theorem dX9_added_164 : decode cX9_added 164 = .ok (.aload_n 0, 1) := by decide +kernel
theorem dX9_added_165 : decode cX9_added 165 = .ok (.iload_n 1, 1) := by decide +kernel
theorem dX9_added_166 : decode cX9_added 166 = .ok (.iload_n 2, 1) := by decide +kernel
theorem dX9_added_167 : decode cX9_added 167 = .ok (.iload_n 3, 1) := by decide +kernel
theorem dX9_added_168 : decode cX9_added 168 = .ok (.iload 4, 2) := by decide +kernel
theorem dX9_added_170 : decode cX9_added 170 = .ok (.iload 5, 2) := by decide +kernel
theorem dX9_added_172 : decode cX9_added 172 = .ok (.iload 6, 2) := by decide +kernel
theorem dX9_added_174 : decode cX9_added 174 = .ok (.aload_n 0, 1) := by decide +kernel
theorem dX9_added_175 : decode cX9_added 175 = .ok (.getfield 16, 3) := by decide +kernel
theorem dX9_added_178 : decode cX9_added 178 = .ok (.iconst 0, 1) := by decide +kernel
theorem dX9_added_179 : decode cX9_added 179 = .ok (.iaload, 1) := by decide +kernel
theorem dX9_added_180 : decode cX9_added 180 = .ok (.iload_n 2, 1) := by decide +kernel
theorem dX9_added_181 : decode cX9_added 181 = .ok (.iconst 1, 1) := by decide +kernel
theorem dX9_added_182 : decode cX9_added 182 = .ok (.if_icmp .ne 12, 3) := by decide +kernel
theorem dX9_added_185 : decode cX9_added 185 = .ok (.aload_n 0, 1) := by decide +kernel
theorem dX9_added_186 : decode cX9_added 186 = .ok (.getfield 16, 3) := by decide +kernel
theorem dX9_added_189 : decode cX9_added 189 = .ok (.iconst 1, 1) := by decide +kernel
theorem dX9_added_190 : decode cX9_added 190 = .ok (.iaload, 1) := by decide +kernel
theorem dX9_added_191 : decode cX9_added 191 = .ok (.goto 4, 3) := by decide +kernel
theorem dX9_added_194 : decode cX9_added 194 = .ok (.iconst 0, 1) := by decide +kernel
theorem dX9_added_195 : decode cX9_added 195 = .ok (.aload_n 0, 1) := by decide +kernel
theorem dX9_added_196 : decode cX9_added 196 = .ok (.getfield 16, 3) := by decide +kernel
theorem dX9_added_199 : decode cX9_added 199 = .ok (.iconst 2, 1) := by decide +kernel
theorem dX9_added_200 : decode cX9_added 200 = .ok (.iaload, 1) := by decide +kernel
theorem dX9_added_201 : decode cX9_added 201 = .ok (.invokevirtual 36, 3) := by decide +kernel
theorem dX9_added_204 : decode cX9_added 204 = .ok (.istore 10, 2) := by decide +kernel
theorem dX9_added_206 : decode cX9_added 206 = .ok (.iload_n 2, 1) := by decide +kernel
theorem dX9_added_207 : decode cX9_added 207 = .ok (.iconst 1, 1) := by decide +kernel
theorem dX9_added_208 : decode cX9_added 208 = .ok (.if_icmp .ne 35, 3) := by decide +kernel
theorem dX9_added_211 : decode cX9_added 211 = .ok (.aload_n 0, 1) := by decide +kernel
theorem dX9_added_212 : decode cX9_added 212 = .ok (.getfield 16, 3) := by decide +kernel
theorem dX9_added_215 : decode cX9_added 215 = .ok (.iconst 1, 1) := by decide +kernel
theorem dX9_added_216 : decode cX9_added 216 = .ok (.iaload, 1) := by decide +kernel
theorem dX9_added_217 : decode cX9_added 217 = .ok (.iconst 2, 1) := by decide +kernel
theorem dX9_added_218 : decode cX9_added 218 = .ok (.if_icmp .ne 25, 3) := by decide +kernel
theorem dX9_added_221 : decode cX9_added 221 = .ok (.aload_n 0, 1) := by decide +kernel
theorem dX9_added_222 : decode cX9_added 222 = .ok (.getfield 7, 3) := by decide +kernel
theorem dX9_added_225 : decode cX9_added 225 = .ok (.iload_n 1, 1) := by decide +kernel
theorem dX9_added_226 : decode cX9_added 226 = .ok (.iload 10, 2) := by decide +kernel
theorem dX9_added_228 : decode cX9_added 228 = .ok (.invokestatic 40, 3) := by decide +kernel
theorem dX9_added_231 : decode cX9_added 231 = .ok (.bipush 7, 2) := by decide +kernel
theorem dX9_added_233 : decode cX9_added 233 = .ok (.iadd, 1) := by decide +kernel
theorem dX9_added_234 : decode cX9_added 234 = .ok (.iconst 1, 1) := by decide +kernel
theorem dX9_added_235 : decode cX9_added 235 = .ok (.iadd, 1) := by decide +kernel
theorem dX9_added_236 : decode cX9_added 236 = .ok (.aload_n 0, 1) := by decide +kernel
theorem dX9_added_237 : decode cX9_added 237 = .ok (.getfield 16, 3) := by decide +kernel
theorem dX9_added_240 : decode cX9_added 240 = .ok (.iconst 3, 1) := by decide +kernel
theorem dX9_added_241 : decode cX9_added 241 = .ok (.iaload, 1) := by decide +kernel
theorem dX9_added_242 : decode cX9_added 242 = .ok (.iastore, 1) := by decide +kernel
theorem dX9_added_243 : decode cX9_added 243 = .ok (.iload 10, 2) := by decide +kernel
theorem dX9_added_245 : decode cX9_added 245 = .ok (.ireturn, 1) := by decide +kernel
theorem dX9_addField_0 : decode cX9_addField 0 = .ok (.aload_n 0, 1) := by decide +kernel
theorem dX9_addField_1 : decode cX9_addField 1 = .ok (.iload_n 1, 1) := by decide +kernel
theorem dX9_addField_2 : decode cX9_addField 2 = .ok (.iconst 0, 1) := by decide +kernel
theorem dX9_addField_3 : decode cX9_addField 3 = .ok (.iload_n 2, 1) := by decide +kernel
theorem dX9_addField_4 : decode cX9_addField 4 = .ok (.iload_n 3, 1) := by decide +kernel
theorem dX9_addField_5 : decode cX9_addField 5 = .ok (.iload 4, 2) := by decide +kernel
theorem dX9_addField_7 : decode cX9_addField 7 = .ok (.iload 5, 2) := by decide +kernel
theorem dX9_addField_9 : decode cX9_addField 9 = .ok (.invokevirtual 148, 3) := by decide +kernel
theorem dX9_addField_12 : decode cX9_addField 12 = .ok (.ireturn, 1) := by decide +kernel
theorem dX9_addMethod_0 : decode cX9_addMethod 0 = .ok (.aload_n 0, 1) := by decide +kernel
theorem dX9_addMethod_1 : decode cX9_addMethod 1 = .ok (.iload_n 1, 1) := by decide +kernel
theorem dX9_addMethod_2 : decode cX9_addMethod 2 = .ok (.iconst 1, 1) := by decide +kernel
theorem dX9_addMethod_3 : decode cX9_addMethod 3 = .ok (.iload_n 2, 1) := by decide +kernel
theorem dX9_addMethod_4 : decode cX9_addMethod 4 = .ok (.iload_n 3, 1) := by decide +kernel
theorem dX9_addMethod_5 : decode cX9_addMethod 5 = .ok (.iload 4, 2) := by decide +kernel
theorem dX9_addMethod_7 : decode cX9_addMethod 7 = .ok (.iload 5, 2) := by decide +kernel
theorem dX9_addMethod_9 : decode cX9_addMethod 9 = .ok (.invokevirtual 148, 3) := by decide +kernel
theorem dX9_addMethod_12 : decode cX9_addMethod 12 = .ok (.ireturn, 1) := by decide +kernel
theorem dX9_areInterfaces_0 : decode cX9_areInterfaces 0 = .ok (.iload_n 3, 1) := by decide +kernel
theorem dX9_areInterfaces_1 : decode cX9_areInterfaces 1 = .ok (.ifCond .lt 13, 3) := by decide +kernel
theorem dX9_areInterfaces_4 : decode cX9_areInterfaces 4 = .ok (.iload_n 3, 1) := by decide +kernel
theorem dX9_areInterfaces_5 : decode cX9_areInterfaces 5 = .ok (.iload_n 2, 1) := by decide +kernel
theorem dX9_areInterfaces_6 : decode cX9_areInterfaces 6 = .ok (.ishr, 1) := by decide +kernel
theorem dX9_areInterfaces_7 : decode cX9_areInterfaces 7 = .ok (.ifCond .ne 7, 3) := by decide +kernel
theorem dX9_areInterfaces_10 : decode cX9_areInterfaces 10 = .ok (.iconst 1, 1) := by decide +kernel
theorem dX9_areInterfaces_11 : decode cX9_areInterfaces 11 = .ok (.goto 4, 3) := by decide +kernel
theorem dX9_areInterfaces_14 : decode cX9_areInterfaces 14 = .ok (.iconst 0, 1) := by decide +kernel
theorem dX9_areInterfaces_15 : decode cX9_areInterfaces 15 = .ok (.istore 4, 2) := by decide +kernel
theorem dX9_areInterfaces_17 : decode cX9_areInterfaces 17 = .ok (.iconst 0, 1) := by decide +kernel
theorem dX9_areInterfaces_18 : decode cX9_areInterfaces 18 = .ok (.istore 5, 2) := by decide +kernel
theorem dX9_areInterfaces_20 : decode cX9_areInterfaces 20 = .ok (.iload 5, 2) := by decide +kernel
theorem dX9_areInterfaces_22 : decode cX9_areInterfaces 22 = .ok (.iload_n 2, 1) := by decide +kernel
theorem dX9_areInterfaces_23 : decode cX9_areInterfaces 23 = .ok (.if_icmp .ge 50, 3) := by decide +kernel
theorem dX9_areInterfaces_26 : decode cX9_areInterfaces 26 = .ok (.iload 4, 2) := by decide +kernel
theorem dX9_areInterfaces_28 : decode cX9_areInterfaces 28 = .ok (.ifCond .eq 45, 3) := by decide +kernel
theorem dX9_areInterfaces_31 : decode cX9_areInterfaces 31 = .ok (.iload_n 3, 1) := by decide +kernel
theorem dX9_areInterfaces_32 : decode cX9_areInterfaces 32 = .ok (.iload 5, 2) := by decide +kernel
theorem dX9_areInterfaces_34 : decode cX9_areInterfaces 34 = .ok (.invokestatic 84, 3) := by decide +kernel
theorem dX9_areInterfaces_37 : decode cX9_areInterfaces 37 = .ok (.ifCond .eq 23, 3) := by decide +kernel
theorem dX9_areInterfaces_40 : decode cX9_areInterfaces 40 = .ok (.aload_n 0, 1) := by decide +kernel
theorem dX9_areInterfaces_41 : decode cX9_areInterfaces 41 = .ok (.iload_n 1, 1) := by decide +kernel
theorem dX9_areInterfaces_42 : decode cX9_areInterfaces 42 = .ok (.iload 5, 2) := by decide +kernel
theorem dX9_areInterfaces_44 : decode cX9_areInterfaces 44 = .ok (.invokevirtual 77, 3) := by decide +kernel
theorem dX9_areInterfaces_47 : decode cX9_areInterfaces 47 = .ok (.ifCond .eq 17, 3) := by decide +kernel
theorem dX9_areInterfaces_50 : decode cX9_areInterfaces 50 = .ok (.aload_n 0, 1) := by decide +kernel
theorem dX9_areInterfaces_51 : decode cX9_areInterfaces 51 = .ok (.iload_n 1, 1) := by decide +kernel
theorem dX9_areInterfaces_52 : decode cX9_areInterfaces 52 = .ok (.iload 5, 2) := by decide +kernel
theorem dX9_areInterfaces_54 : decode cX9_areInterfaces 54 = .ok (.invokevirtual 81, 3) := by decide +kernel
theorem dX9_areInterfaces_57 : decode cX9_areInterfaces 57 = .ok (.ifCond .eq 7, 3) := by decide +kernel
theorem dX9_areInterfaces_60 : decode cX9_areInterfaces 60 = .ok (.iconst 1, 1) := by decide +kernel
theorem dX9_areInterfaces_61 : decode cX9_areInterfaces 61 = .ok (.goto 4, 3) := by decide +kernel
theorem dX9_areInterfaces_64 : decode cX9_areInterfaces 64 = .ok (.iconst 0, 1) := by decide +kernel
theorem dX9_areInterfaces_65 : decode cX9_areInterfaces 65 = .ok (.istore 4, 2) := by decide +kernel
theorem dX9_areInterfaces_67 : decode cX9_areInterfaces 67 = .ok (.iinc 5 1, 3) := by decide +kernel
theorem dX9_areInterfaces_70 : decode cX9_areInterfaces 70 = .ok (.goto (-50), 3) := by decide +kernel
theorem dX9_areInterfaces_73 : decode cX9_areInterfaces 73 = .ok (.iload 4, 2) := by decide +kernel
theorem dX9_areInterfaces_75 : decode cX9_areInterfaces 75 = .ok (.ireturn, 1) := by decide +kernel
theorem dX9_mix_0 : decode cX9_mix 0 = .ok (.aload_n 0, 1) := by decide +kernel
theorem dX9_mix_1 : decode cX9_mix 1 = .ok (.ldc2_w 323, 3) := by decide +kernel
theorem dX9_mix_4 : decode cX9_mix 4 = .ok (.aload_n 0, 1) := by decide +kernel
theorem dX9_mix_5 : decode cX9_mix 5 = .ok (.getfield 325, 3) := by decide +kernel
theorem dX9_mix_8 : decode cX9_mix 8 = .ok (.lmul, 1) := by decide +kernel
theorem dX9_mix_9 : decode cX9_mix 9 = .ok (.lload_n 1, 1) := by decide +kernel
theorem dX9_mix_10 : decode cX9_mix 10 = .ok (.ladd, 1) := by decide +kernel
theorem dX9_mix_11 : decode cX9_mix 11 = .ok (.putfield 325, 3) := by decide +kernel
theorem dX9_mix_14 : decode cX9_mix 14 = .ok (.return_, 1) := by decide +kernel
theorem dX9_placeOf_0 : decode cX9_placeOf 0 = .ok (.iload_n 0, 1) := by decide +kernel
theorem dX9_placeOf_1 : decode cX9_placeOf 1 = .ok (.tableswitch 47 0 4 #[35, 37, 40, 43, 45], 35) := by decide +kernel
theorem dX9_placeOf_36 : decode cX9_placeOf 36 = .ok (.iconst 5, 1) := by decide +kernel
theorem dX9_placeOf_37 : decode cX9_placeOf 37 = .ok (.ireturn, 1) := by decide +kernel
theorem dX9_placeOf_38 : decode cX9_placeOf 38 = .ok (.bipush 6, 2) := by decide +kernel
theorem dX9_placeOf_40 : decode cX9_placeOf 40 = .ok (.ireturn, 1) := by decide +kernel
theorem dX9_placeOf_41 : decode cX9_placeOf 41 = .ok (.bipush 7, 2) := by decide +kernel
theorem dX9_placeOf_43 : decode cX9_placeOf 43 = .ok (.ireturn, 1) := by decide +kernel
theorem dX9_placeOf_44 : decode cX9_placeOf 44 = .ok (.iconst 4, 1) := by decide +kernel
theorem dX9_placeOf_45 : decode cX9_placeOf 45 = .ok (.ireturn, 1) := by decide +kernel
theorem dX9_placeOf_46 : decode cX9_placeOf 46 = .ok (.iconst 2, 1) := by decide +kernel
theorem dX9_placeOf_47 : decode cX9_placeOf 47 = .ok (.ireturn, 1) := by decide +kernel
theorem dX9_placeOf_48 : decode cX9_placeOf 48 = .ok (.iconst 3, 1) := by decide +kernel
theorem dX9_placeOf_49 : decode cX9_placeOf 49 = .ok (.ireturn, 1) := by decide +kernel
theorem dX9_infoOf_0 : decode cX9_infoOf 0 = .ok (.iload_n 3, 1) := by decide +kernel
theorem dX9_infoOf_1 : decode cX9_infoOf 1 = .ok (.bipush 6, 2) := by decide +kernel
theorem dX9_infoOf_3 : decode cX9_infoOf 3 = .ok (.if_icmp .ge 19, 3) := by decide +kernel
theorem dX9_infoOf_6 : decode cX9_infoOf 6 = .ok (.aload_n 0, 1) := by decide +kernel
theorem dX9_infoOf_7 : decode cX9_infoOf 7 = .ok (.getfield 7, 3) := by decide +kernel
theorem dX9_infoOf_10 : decode cX9_infoOf 10 = .ok (.iload_n 1, 1) := by decide +kernel
theorem dX9_infoOf_11 : decode cX9_infoOf 11 = .ok (.iload_n 2, 1) := by decide +kernel
theorem dX9_infoOf_12 : decode cX9_infoOf 12 = .ok (.invokestatic 48, 3) := by decide +kernel
theorem dX9_infoOf_15 : decode cX9_infoOf 15 = .ok (.iload_n 3, 1) := by decide +kernel
theorem dX9_infoOf_16 : decode cX9_infoOf 16 = .ok (.invokestatic 122, 3) := by decide +kernel
theorem dX9_infoOf_19 : decode cX9_infoOf 19 = .ok (.iadd, 1) := by decide +kernel
theorem dX9_infoOf_20 : decode cX9_infoOf 20 = .ok (.iaload, 1) := by decide +kernel
theorem dX9_infoOf_21 : decode cX9_infoOf 21 = .ok (.ireturn, 1) := by decide +kernel
theorem dX9_infoOf_22 : decode cX9_infoOf 22 = .ok (.iconst 0, 1) := by decide +kernel
theorem dX9_infoOf_23 : decode cX9_infoOf 23 = .ok (.istore 4, 2) := by decide +kernel
theorem dX9_infoOf_25 : decode cX9_infoOf 25 = .ok (.iload_n 3, 1) := by decide +kernel
theorem dX9_infoOf_26 : decode cX9_infoOf 26 = .ok (.tableswitch 85 6 8 #[26, 34, 78], 26) := by decide +kernel
theorem dX9_infoOf_52 : decode cX9_infoOf 52 = .ok (.aload_n 0, 1) := by decide +kernel
theorem dX9_infoOf_53 : decode cX9_infoOf 53 = .ok (.iload_n 1, 1) := by decide +kernel
theorem dX9_infoOf_54 : decode cX9_infoOf 54 = .ok (.iload_n 2, 1) := by decide +kernel
theorem dX9_infoOf_55 : decode cX9_infoOf 55 = .ok (.iconst 1, 1) := by decide +kernel
theorem dX9_infoOf_56 : decode cX9_infoOf 56 = .ok (.invokevirtual 73, 3) := by decide +kernel
theorem dX9_infoOf_59 : decode cX9_infoOf 59 = .ok (.ireturn, 1) := by decide +kernel
theorem dX9_infoOf_60 : decode cX9_infoOf 60 = .ok (.iconst 0, 1) := by decide +kernel
theorem dX9_infoOf_61 : decode cX9_infoOf 61 = .ok (.istore 5, 2) := by decide +kernel
theorem dX9_infoOf_63 : decode cX9_infoOf 63 = .ok (.iload 5, 2) := by decide +kernel
theorem dX9_infoOf_65 : decode cX9_infoOf 65 = .ok (.aload_n 0, 1) := by decide +kernel
theorem dX9_infoOf_66 : decode cX9_infoOf 66 = .ok (.iload_n 1, 1) := by decide +kernel
theorem dX9_infoOf_67 : decode cX9_infoOf 67 = .ok (.invokevirtual 51, 3) := by decide +kernel
theorem dX9_infoOf_70 : decode cX9_infoOf 70 = .ok (.if_icmp .ge 31, 3) := by decide +kernel
theorem dX9_infoOf_73 : decode cX9_infoOf 73 = .ok (.iload 4, 2) := by decide +kernel
theorem dX9_infoOf_75 : decode cX9_infoOf 75 = .ok (.aload_n 0, 1) := by decide +kernel
theorem dX9_infoOf_76 : decode cX9_infoOf 76 = .ok (.iload_n 1, 1) := by decide +kernel
theorem dX9_infoOf_77 : decode cX9_infoOf 77 = .ok (.iload 5, 2) := by decide +kernel
theorem dX9_infoOf_79 : decode cX9_infoOf 79 = .ok (.iconst 1, 1) := by decide +kernel
theorem dX9_infoOf_80 : decode cX9_infoOf 80 = .ok (.invokevirtual 102, 3) := by decide +kernel
theorem dX9_infoOf_83 : decode cX9_infoOf 83 = .ok (.iload_n 2, 1) := by decide +kernel
theorem dX9_infoOf_84 : decode cX9_infoOf 84 = .ok (.if_icmp .ne 7, 3) := by decide +kernel
theorem dX9_infoOf_87 : decode cX9_infoOf 87 = .ok (.iconst 1, 1) := by decide +kernel
theorem dX9_infoOf_88 : decode cX9_infoOf 88 = .ok (.goto 4, 3) := by decide +kernel
theorem dX9_infoOf_91 : decode cX9_infoOf 91 = .ok (.iconst 0, 1) := by decide +kernel
theorem dX9_infoOf_92 : decode cX9_infoOf 92 = .ok (.iadd, 1) := by decide +kernel
theorem dX9_infoOf_93 : decode cX9_infoOf 93 = .ok (.istore 4, 2) := by decide +kernel
theorem dX9_infoOf_95 : decode cX9_infoOf 95 = .ok (.iinc 5 1, 3) := by decide +kernel
theorem dX9_infoOf_98 : decode cX9_infoOf 98 = .ok (.goto (-35), 3) := by decide +kernel
theorem dX9_infoOf_101 : decode cX9_infoOf 101 = .ok (.iload 4, 2) := by decide +kernel
theorem dX9_infoOf_103 : decode cX9_infoOf 103 = .ok (.ireturn, 1) := by decide +kernel
theorem dX9_infoOf_104 : decode cX9_infoOf 104 = .ok (.aload_n 0, 1) := by decide +kernel
theorem dX9_infoOf_105 : decode cX9_infoOf 105 = .ok (.iload_n 1, 1) := by decide +kernel
theorem dX9_infoOf_106 : decode cX9_infoOf 106 = .ok (.iload_n 2, 1) := by decide +kernel
theorem dX9_infoOf_107 : decode cX9_infoOf 107 = .ok (.invokevirtual 125, 3) := by decide +kernel
theorem dX9_infoOf_110 : decode cX9_infoOf 110 = .ok (.ireturn, 1) := by decide +kernel
theorem dX9_infoOf_111 : decode cX9_infoOf 111 = .ok (.aload_n 0, 1) := by decide +kernel
theorem dX9_infoOf_112 : decode cX9_infoOf 112 = .ok (.iload_n 1, 1) := by decide +kernel
theorem dX9_infoOf_113 : decode cX9_infoOf 113 = .ok (.iload_n 2, 1) := by decide +kernel
theorem dX9_infoOf_114 : decode cX9_infoOf 114 = .ok (.bipush (-2), 2) := by decide +kernel
theorem dX9_infoOf_116 : decode cX9_infoOf 116 = .ok (.invokevirtual 128, 3) := by decide +kernel
theorem dX9_infoOf_119 : decode cX9_infoOf 119 = .ok (.ifCond .eq 7, 3) := by decide +kernel
theorem dX9_infoOf_122 : decode cX9_infoOf 122 = .ok (.iconst 1, 1) := by decide +kernel
theorem dX9_infoOf_123 : decode cX9_infoOf 123 = .ok (.goto 4, 3) := by decide +kernel
theorem dX9_infoOf_126 : decode cX9_infoOf 126 = .ok (.iconst 0, 1) := by decide +kernel
theorem dX9_infoOf_127 : decode cX9_infoOf 127 = .ok (.ireturn, 1) := by decide +kernel
theorem dX9_toldOf_0 : decode cX9_toldOf 0 = .ok (.aload_n 0, 1) := by decide +kernel
theorem dX9_toldOf_1 : decode cX9_toldOf 1 = .ok (.iload_n 1, 1) := by decide +kernel
theorem dX9_toldOf_2 : decode cX9_toldOf 2 = .ok (.iload_n 2, 1) := by decide +kernel
theorem dX9_toldOf_3 : decode cX9_toldOf 3 = .ok (.invokevirtual 155, 3) := by decide +kernel
theorem dX9_toldOf_6 : decode cX9_toldOf 6 = .ok (.istore 4, 2) := by decide +kernel
theorem dX9_toldOf_8 : decode cX9_toldOf 8 = .ok (.iload_n 3, 1) := by decide +kernel
theorem dX9_toldOf_9 : decode cX9_toldOf 9 = .ok (.tableswitch 139 0 8 #[51, 59, 67, 76, 87, 95, 103, 111, 130], 51) := by decide +kernel
theorem dX9_toldOf_60 : decode cX9_toldOf 60 = .ok (.aload_n 0, 1) := by decide +kernel
theorem dX9_toldOf_61 : decode cX9_toldOf 61 = .ok (.iload_n 1, 1) := by decide +kernel
theorem dX9_toldOf_62 : decode cX9_toldOf 62 = .ok (.iload_n 2, 1) := by decide +kernel
theorem dX9_toldOf_63 : decode cX9_toldOf 63 = .ok (.iconst 3, 1) := by decide +kernel
theorem dX9_toldOf_64 : decode cX9_toldOf 64 = .ok (.invokevirtual 102, 3) := by decide +kernel
theorem dX9_toldOf_67 : decode cX9_toldOf 67 = .ok (.ireturn, 1) := by decide +kernel
theorem dX9_toldOf_68 : decode cX9_toldOf 68 = .ok (.aload_n 0, 1) := by decide +kernel
theorem dX9_toldOf_69 : decode cX9_toldOf 69 = .ok (.iload_n 1, 1) := by decide +kernel
theorem dX9_toldOf_70 : decode cX9_toldOf 70 = .ok (.iload_n 2, 1) := by decide +kernel
theorem dX9_toldOf_71 : decode cX9_toldOf 71 = .ok (.iconst 4, 1) := by decide +kernel
theorem dX9_toldOf_72 : decode cX9_toldOf 72 = .ok (.invokevirtual 102, 3) := by decide +kernel
theorem dX9_toldOf_75 : decode cX9_toldOf 75 = .ok (.ireturn, 1) := by decide +kernel
theorem dX9_toldOf_76 : decode cX9_toldOf 76 = .ok (.aload_n 0, 1) := by decide +kernel
theorem dX9_toldOf_77 : decode cX9_toldOf 77 = .ok (.iload_n 1, 1) := by decide +kernel
theorem dX9_toldOf_78 : decode cX9_toldOf 78 = .ok (.iload_n 2, 1) := by decide +kernel
theorem dX9_toldOf_79 : decode cX9_toldOf 79 = .ok (.bipush 9, 2) := by decide +kernel
theorem dX9_toldOf_81 : decode cX9_toldOf 81 = .ok (.invokevirtual 102, 3) := by decide +kernel
theorem dX9_toldOf_84 : decode cX9_toldOf 84 = .ok (.ireturn, 1) := by decide +kernel
theorem dX9_toldOf_85 : decode cX9_toldOf 85 = .ok (.iload 4, 2) := by decide +kernel
theorem dX9_toldOf_87 : decode cX9_toldOf 87 = .ok (.ifCond .eq 7, 3) := by decide +kernel
theorem dX9_toldOf_90 : decode cX9_toldOf 90 = .ok (.iconst 1, 1) := by decide +kernel
theorem dX9_toldOf_91 : decode cX9_toldOf 91 = .ok (.goto 4, 3) := by decide +kernel
theorem dX9_toldOf_94 : decode cX9_toldOf 94 = .ok (.iconst 0, 1) := by decide +kernel
theorem dX9_toldOf_95 : decode cX9_toldOf 95 = .ok (.ireturn, 1) := by decide +kernel
theorem dX9_toldOf_96 : decode cX9_toldOf 96 = .ok (.aload_n 0, 1) := by decide +kernel
theorem dX9_toldOf_97 : decode cX9_toldOf 97 = .ok (.iload_n 1, 1) := by decide +kernel
theorem dX9_toldOf_98 : decode cX9_toldOf 98 = .ok (.iload_n 2, 1) := by decide +kernel
theorem dX9_toldOf_99 : decode cX9_toldOf 99 = .ok (.iconst 1, 1) := by decide +kernel
theorem dX9_toldOf_100 : decode cX9_toldOf 100 = .ok (.invokevirtual 102, 3) := by decide +kernel
theorem dX9_toldOf_103 : decode cX9_toldOf 103 = .ok (.ireturn, 1) := by decide +kernel
theorem dX9_toldOf_104 : decode cX9_toldOf 104 = .ok (.aload_n 0, 1) := by decide +kernel
theorem dX9_toldOf_105 : decode cX9_toldOf 105 = .ok (.iload_n 1, 1) := by decide +kernel
theorem dX9_toldOf_106 : decode cX9_toldOf 106 = .ok (.iload_n 2, 1) := by decide +kernel
theorem dX9_toldOf_107 : decode cX9_toldOf 107 = .ok (.iconst 2, 1) := by decide +kernel
theorem dX9_toldOf_108 : decode cX9_toldOf 108 = .ok (.invokevirtual 102, 3) := by decide +kernel
theorem dX9_toldOf_111 : decode cX9_toldOf 111 = .ok (.ireturn, 1) := by decide +kernel
theorem dX9_toldOf_112 : decode cX9_toldOf 112 = .ok (.aload_n 0, 1) := by decide +kernel
theorem dX9_toldOf_113 : decode cX9_toldOf 113 = .ok (.iload_n 1, 1) := by decide +kernel
theorem dX9_toldOf_114 : decode cX9_toldOf 114 = .ok (.iload_n 2, 1) := by decide +kernel
theorem dX9_toldOf_115 : decode cX9_toldOf 115 = .ok (.iconst 5, 1) := by decide +kernel
theorem dX9_toldOf_116 : decode cX9_toldOf 116 = .ok (.invokevirtual 102, 3) := by decide +kernel
theorem dX9_toldOf_119 : decode cX9_toldOf 119 = .ok (.ireturn, 1) := by decide +kernel
theorem dX9_toldOf_120 : decode cX9_toldOf 120 = .ok (.iload 4, 2) := by decide +kernel
theorem dX9_toldOf_122 : decode cX9_toldOf 122 = .ok (.ifCond .eq 14, 3) := by decide +kernel
theorem dX9_toldOf_125 : decode cX9_toldOf 125 = .ok (.aload_n 0, 1) := by decide +kernel
theorem dX9_toldOf_126 : decode cX9_toldOf 126 = .ok (.iload_n 1, 1) := by decide +kernel
theorem dX9_toldOf_127 : decode cX9_toldOf 127 = .ok (.iload_n 2, 1) := by decide +kernel
theorem dX9_toldOf_128 : decode cX9_toldOf 128 = .ok (.bipush 6, 2) := by decide +kernel
theorem dX9_toldOf_130 : decode cX9_toldOf 130 = .ok (.invokevirtual 102, 3) := by decide +kernel
theorem dX9_toldOf_133 : decode cX9_toldOf 133 = .ok (.goto 5, 3) := by decide +kernel
theorem dX9_toldOf_136 : decode cX9_toldOf 136 = .ok (.bipush (-2), 2) := by decide +kernel
theorem dX9_toldOf_138 : decode cX9_toldOf 138 = .ok (.ireturn, 1) := by decide +kernel
theorem dX9_toldOf_139 : decode cX9_toldOf 139 = .ok (.aload_n 0, 1) := by decide +kernel
theorem dX9_toldOf_140 : decode cX9_toldOf 140 = .ok (.iload_n 1, 1) := by decide +kernel
theorem dX9_toldOf_141 : decode cX9_toldOf 141 = .ok (.iload_n 2, 1) := by decide +kernel
theorem dX9_toldOf_142 : decode cX9_toldOf 142 = .ok (.bipush 7, 2) := by decide +kernel
theorem dX9_toldOf_144 : decode cX9_toldOf 144 = .ok (.invokevirtual 102, 3) := by decide +kernel
theorem dX9_toldOf_147 : decode cX9_toldOf 147 = .ok (.ireturn, 1) := by decide +kernel
theorem dX9_toldOf_148 : decode cX9_toldOf 148 = .ok (.aload_n 0, 1) := by decide +kernel
theorem dX9_toldOf_149 : decode cX9_toldOf 149 = .ok (.iload_n 1, 1) := by decide +kernel
theorem dX9_toldOf_150 : decode cX9_toldOf 150 = .ok (.iload_n 2, 1) := by decide +kernel
theorem dX9_toldOf_151 : decode cX9_toldOf 151 = .ok (.bipush 8, 2) := by decide +kernel
theorem dX9_toldOf_153 : decode cX9_toldOf 153 = .ok (.invokevirtual 102, 3) := by decide +kernel
theorem dX9_toldOf_156 : decode cX9_toldOf 156 = .ok (.ireturn, 1) := by decide +kernel
theorem dX9_clientTold_0 : decode cX9_clientTold 0 = .ok (.iload_n 2, 1) := by decide +kernel
theorem dX9_clientTold_1 : decode cX9_clientTold 1 = .ok (.tableswitch 91 6 9 #[31, 46, 61, 76], 31) := by decide +kernel
theorem dX9_clientTold_32 : decode cX9_clientTold 32 = .ok (.aload_n 0, 1) := by decide +kernel
theorem dX9_clientTold_33 : decode cX9_clientTold 33 = .ok (.getfield 7, 3) := by decide +kernel
theorem dX9_clientTold_36 : decode cX9_clientTold 36 = .ok (.iload_n 1, 1) := by decide +kernel
theorem dX9_clientTold_37 : decode cX9_clientTold 37 = .ok (.invokestatic 239, 3) := by decide +kernel
theorem dX9_clientTold_40 : decode cX9_clientTold 40 = .ok (.bipush 8, 2) := by decide +kernel
theorem dX9_clientTold_42 : decode cX9_clientTold 42 = .ok (.iadd, 1) := by decide +kernel
theorem dX9_clientTold_43 : decode cX9_clientTold 43 = .ok (.iconst 0, 1) := by decide +kernel
theorem dX9_clientTold_44 : decode cX9_clientTold 44 = .ok (.iadd, 1) := by decide +kernel
theorem dX9_clientTold_45 : decode cX9_clientTold 45 = .ok (.iaload, 1) := by decide +kernel
theorem dX9_clientTold_46 : decode cX9_clientTold 46 = .ok (.ireturn, 1) := by decide +kernel
theorem dX9_clientTold_47 : decode cX9_clientTold 47 = .ok (.aload_n 0, 1) := by decide +kernel
theorem dX9_clientTold_48 : decode cX9_clientTold 48 = .ok (.getfield 7, 3) := by decide +kernel
theorem dX9_clientTold_51 : decode cX9_clientTold 51 = .ok (.iload_n 1, 1) := by decide +kernel
theorem dX9_clientTold_52 : decode cX9_clientTold 52 = .ok (.invokestatic 239, 3) := by decide +kernel
theorem dX9_clientTold_55 : decode cX9_clientTold 55 = .ok (.bipush 8, 2) := by decide +kernel
theorem dX9_clientTold_57 : decode cX9_clientTold 57 = .ok (.iadd, 1) := by decide +kernel
theorem dX9_clientTold_58 : decode cX9_clientTold 58 = .ok (.iconst 1, 1) := by decide +kernel
theorem dX9_clientTold_59 : decode cX9_clientTold 59 = .ok (.iadd, 1) := by decide +kernel
theorem dX9_clientTold_60 : decode cX9_clientTold 60 = .ok (.iaload, 1) := by decide +kernel
theorem dX9_clientTold_61 : decode cX9_clientTold 61 = .ok (.ireturn, 1) := by decide +kernel
theorem dX9_clientTold_62 : decode cX9_clientTold 62 = .ok (.aload_n 0, 1) := by decide +kernel
theorem dX9_clientTold_63 : decode cX9_clientTold 63 = .ok (.getfield 7, 3) := by decide +kernel
theorem dX9_clientTold_66 : decode cX9_clientTold 66 = .ok (.iload_n 1, 1) := by decide +kernel
theorem dX9_clientTold_67 : decode cX9_clientTold 67 = .ok (.invokestatic 239, 3) := by decide +kernel
theorem dX9_clientTold_70 : decode cX9_clientTold 70 = .ok (.bipush 8, 2) := by decide +kernel
theorem dX9_clientTold_72 : decode cX9_clientTold 72 = .ok (.iadd, 1) := by decide +kernel
theorem dX9_clientTold_73 : decode cX9_clientTold 73 = .ok (.iconst 2, 1) := by decide +kernel
theorem dX9_clientTold_74 : decode cX9_clientTold 74 = .ok (.iadd, 1) := by decide +kernel
theorem dX9_clientTold_75 : decode cX9_clientTold 75 = .ok (.iaload, 1) := by decide +kernel
theorem dX9_clientTold_76 : decode cX9_clientTold 76 = .ok (.ireturn, 1) := by decide +kernel
theorem dX9_clientTold_77 : decode cX9_clientTold 77 = .ok (.aload_n 0, 1) := by decide +kernel
theorem dX9_clientTold_78 : decode cX9_clientTold 78 = .ok (.getfield 7, 3) := by decide +kernel
theorem dX9_clientTold_81 : decode cX9_clientTold 81 = .ok (.iload_n 1, 1) := by decide +kernel
theorem dX9_clientTold_82 : decode cX9_clientTold 82 = .ok (.invokestatic 239, 3) := by decide +kernel
theorem dX9_clientTold_85 : decode cX9_clientTold 85 = .ok (.bipush 8, 2) := by decide +kernel
theorem dX9_clientTold_87 : decode cX9_clientTold 87 = .ok (.iadd, 1) := by decide +kernel
theorem dX9_clientTold_88 : decode cX9_clientTold 88 = .ok (.iconst 3, 1) := by decide +kernel
theorem dX9_clientTold_89 : decode cX9_clientTold 89 = .ok (.iadd, 1) := by decide +kernel
theorem dX9_clientTold_90 : decode cX9_clientTold 90 = .ok (.iaload, 1) := by decide +kernel
theorem dX9_clientTold_91 : decode cX9_clientTold 91 = .ok (.ireturn, 1) := by decide +kernel
theorem dX9_clientTold_92 : decode cX9_clientTold 92 = .ok (.aload_n 0, 1) := by decide +kernel
theorem dX9_clientTold_93 : decode cX9_clientTold 93 = .ok (.getfield 7, 3) := by decide +kernel
theorem dX9_clientTold_96 : decode cX9_clientTold 96 = .ok (.iload_n 1, 1) := by decide +kernel
theorem dX9_clientTold_97 : decode cX9_clientTold 97 = .ok (.invokestatic 239, 3) := by decide +kernel
theorem dX9_clientTold_100 : decode cX9_clientTold 100 = .ok (.iload_n 2, 1) := by decide +kernel
theorem dX9_clientTold_101 : decode cX9_clientTold 101 = .ok (.iadd, 1) := by decide +kernel
theorem dX9_clientTold_102 : decode cX9_clientTold 102 = .ok (.iaload, 1) := by decide +kernel
theorem dX9_clientTold_103 : decode cX9_clientTold 103 = .ok (.ireturn, 1) := by decide +kernel
theorem dX9_takes_0 : decode cX9_takes 0 = .ok (.iconst 0, 1) := by decide +kernel
theorem dX9_takes_1 : decode cX9_takes 1 = .ok (.istore_n 2, 1) := by decide +kernel
theorem dX9_takes_2 : decode cX9_takes 2 = .ok (.iload_n 2, 1) := by decide +kernel
theorem dX9_takes_3 : decode cX9_takes 3 = .ok (.bipush 16, 2) := by decide +kernel
theorem dX9_takes_5 : decode cX9_takes 5 = .ok (.if_icmp .ge 26, 3) := by decide +kernel
theorem dX9_takes_8 : decode cX9_takes 8 = .ok (.aload_n 0, 1) := by decide +kernel
theorem dX9_takes_9 : decode cX9_takes 9 = .ok (.getfield 22, 3) := by decide +kernel
theorem dX9_takes_12 : decode cX9_takes 12 = .ok (.iload_n 2, 1) := by decide +kernel
theorem dX9_takes_13 : decode cX9_takes 13 = .ok (.aload_n 0, 1) := by decide +kernel
theorem dX9_takes_14 : decode cX9_takes 14 = .ok (.getfield 7, 3) := by decide +kernel
theorem dX9_takes_17 : decode cX9_takes 17 = .ok (.iload_n 1, 1) := by decide +kernel
theorem dX9_takes_18 : decode cX9_takes 18 = .ok (.invokestatic 239, 3) := by decide +kernel
theorem dX9_takes_21 : decode cX9_takes 21 = .ok (.iload_n 2, 1) := by decide +kernel
theorem dX9_takes_22 : decode cX9_takes 22 = .ok (.iadd, 1) := by decide +kernel
theorem dX9_takes_23 : decode cX9_takes 23 = .ok (.iaload, 1) := by decide +kernel
theorem dX9_takes_24 : decode cX9_takes 24 = .ok (.iastore, 1) := by decide +kernel
theorem dX9_takes_25 : decode cX9_takes 25 = .ok (.iinc 2 1, 3) := by decide +kernel
theorem dX9_takes_28 : decode cX9_takes 28 = .ok (.goto (-26), 3) := by decide +kernel
theorem dX9_takes_31 : decode cX9_takes 31 = .ok (.return_, 1) := by decide +kernel
theorem dX9_linkedField_0 : decode cX9_linkedField 0 = .ok (.aload_n 0, 1) := by decide +kernel
theorem dX9_linkedField_1 : decode cX9_linkedField 1 = .ok (.iload_n 1, 1) := by decide +kernel
theorem dX9_linkedField_2 : decode cX9_linkedField 2 = .ok (.iload_n 2, 1) := by decide +kernel
theorem dX9_linkedField_3 : decode cX9_linkedField 3 = .ok (.aload_n 0, 1) := by decide +kernel
theorem dX9_linkedField_4 : decode cX9_linkedField 4 = .ok (.getfield 22, 3) := by decide +kernel
theorem dX9_linkedField_7 : decode cX9_linkedField 7 = .ok (.iconst 2, 1) := by decide +kernel
theorem dX9_linkedField_8 : decode cX9_linkedField 8 = .ok (.iaload, 1) := by decide +kernel
theorem dX9_linkedField_9 : decode cX9_linkedField 9 = .ok (.iconst 0, 1) := by decide +kernel
theorem dX9_linkedField_10 : decode cX9_linkedField 10 = .ok (.aload_n 0, 1) := by decide +kernel
theorem dX9_linkedField_11 : decode cX9_linkedField 11 = .ok (.getfield 22, 3) := by decide +kernel
theorem dX9_linkedField_14 : decode cX9_linkedField 14 = .ok (.bipush 10, 2) := by decide +kernel
theorem dX9_linkedField_16 : decode cX9_linkedField 16 = .ok (.iaload, 1) := by decide +kernel
theorem dX9_linkedField_17 : decode cX9_linkedField 17 = .ok (.invokevirtual 177, 3) := by decide +kernel
theorem dX9_linkedField_20 : decode cX9_linkedField 20 = .ok (.istore_n 3, 1) := by decide +kernel
theorem dX9_linkedField_21 : decode cX9_linkedField 21 = .ok (.iload_n 3, 1) := by decide +kernel
theorem dX9_linkedField_22 : decode cX9_linkedField 22 = .ok (.bipush (-2), 2) := by decide +kernel
theorem dX9_linkedField_24 : decode cX9_linkedField 24 = .ok (.if_icmp .ne 5, 3) := by decide +kernel
theorem dX9_linkedField_27 : decode cX9_linkedField 27 = .ok (.iconst 3, 1) := by decide +kernel
theorem dX9_linkedField_28 : decode cX9_linkedField 28 = .ok (.ireturn, 1) := by decide +kernel
theorem dX9_linkedField_29 : decode cX9_linkedField 29 = .ok (.aload_n 0, 1) := by decide +kernel
theorem dX9_linkedField_30 : decode cX9_linkedField 30 = .ok (.iload_n 1, 1) := by decide +kernel
theorem dX9_linkedField_31 : decode cX9_linkedField 31 = .ok (.iload_n 3, 1) := by decide +kernel
theorem dX9_linkedField_32 : decode cX9_linkedField 32 = .ok (.invokevirtual 256, 3) := by decide +kernel
theorem dX9_linkedField_35 : decode cX9_linkedField 35 = .ok (.ifCond .ne 5, 3) := by decide +kernel
theorem dX9_linkedField_38 : decode cX9_linkedField 38 = .ok (.iconst 2, 1) := by decide +kernel
theorem dX9_linkedField_39 : decode cX9_linkedField 39 = .ok (.ireturn, 1) := by decide +kernel
theorem dX9_linkedField_40 : decode cX9_linkedField 40 = .ok (.aload_n 0, 1) := by decide +kernel
theorem dX9_linkedField_41 : decode cX9_linkedField 41 = .ok (.iload_n 1, 1) := by decide +kernel
theorem dX9_linkedField_42 : decode cX9_linkedField 42 = .ok (.iload_n 3, 1) := by decide +kernel
theorem dX9_linkedField_43 : decode cX9_linkedField 43 = .ok (.invokevirtual 199, 3) := by decide +kernel
theorem dX9_linkedField_46 : decode cX9_linkedField 46 = .ok (.ifCond .eq 7, 3) := by decide +kernel
theorem dX9_linkedField_49 : decode cX9_linkedField 49 = .ok (.iconst 1, 1) := by decide +kernel
theorem dX9_linkedField_50 : decode cX9_linkedField 50 = .ok (.goto 4, 3) := by decide +kernel
theorem dX9_linkedField_53 : decode cX9_linkedField 53 = .ok (.iconst 0, 1) := by decide +kernel
theorem dX9_linkedField_54 : decode cX9_linkedField 54 = .ok (.aload_n 0, 1) := by decide +kernel
theorem dX9_linkedField_55 : decode cX9_linkedField 55 = .ok (.getfield 22, 3) := by decide +kernel
theorem dX9_linkedField_58 : decode cX9_linkedField 58 = .ok (.bipush 11, 2) := by decide +kernel
theorem dX9_linkedField_60 : decode cX9_linkedField 60 = .ok (.iaload, 1) := by decide +kernel
theorem dX9_linkedField_61 : decode cX9_linkedField 61 = .ok (.if_icmp .eq 5, 3) := by decide +kernel
theorem dX9_linkedField_64 : decode cX9_linkedField 64 = .ok (.iconst 5, 1) := by decide +kernel
theorem dX9_linkedField_65 : decode cX9_linkedField 65 = .ok (.ireturn, 1) := by decide +kernel
theorem dX9_linkedField_66 : decode cX9_linkedField 66 = .ok (.aload_n 0, 1) := by decide +kernel
theorem dX9_linkedField_67 : decode cX9_linkedField 67 = .ok (.getfield 22, 3) := by decide +kernel
theorem dX9_linkedField_70 : decode cX9_linkedField 70 = .ok (.iconst 0, 1) := by decide +kernel
theorem dX9_linkedField_71 : decode cX9_linkedField 71 = .ok (.iaload, 1) := by decide +kernel
theorem dX9_linkedField_72 : decode cX9_linkedField 72 = .ok (.iconst 1, 1) := by decide +kernel
theorem dX9_linkedField_73 : decode cX9_linkedField 73 = .ok (.if_icmp .ne 14, 3) := by decide +kernel
theorem dX9_linkedField_76 : decode cX9_linkedField 76 = .ok (.aload_n 0, 1) := by decide +kernel
theorem dX9_linkedField_77 : decode cX9_linkedField 77 = .ok (.iload_n 1, 1) := by decide +kernel
theorem dX9_linkedField_78 : decode cX9_linkedField 78 = .ok (.iload_n 3, 1) := by decide +kernel
theorem dX9_linkedField_79 : decode cX9_linkedField 79 = .ok (.invokevirtual 161, 3) := by decide +kernel
theorem dX9_linkedField_82 : decode cX9_linkedField 82 = .ok (.ifCond .eq 5, 3) := by decide +kernel
theorem dX9_linkedField_85 : decode cX9_linkedField 85 = .ok (.iconst 2, 1) := by decide +kernel
theorem dX9_linkedField_86 : decode cX9_linkedField 86 = .ok (.ireturn, 1) := by decide +kernel
theorem dX9_linkedField_87 : decode cX9_linkedField 87 = .ok (.aload_n 0, 1) := by decide +kernel
theorem dX9_linkedField_88 : decode cX9_linkedField 88 = .ok (.aload_n 0, 1) := by decide +kernel
theorem dX9_linkedField_89 : decode cX9_linkedField 89 = .ok (.iload_n 1, 1) := by decide +kernel
theorem dX9_linkedField_90 : decode cX9_linkedField 90 = .ok (.iload_n 3, 1) := by decide +kernel
theorem dX9_linkedField_91 : decode cX9_linkedField 91 = .ok (.iconst 1, 1) := by decide +kernel
theorem dX9_linkedField_92 : decode cX9_linkedField 92 = .ok (.invokevirtual 102, 3) := by decide +kernel
theorem dX9_linkedField_95 : decode cX9_linkedField 95 = .ok (.putfield 265, 3) := by decide +kernel
theorem dX9_linkedField_98 : decode cX9_linkedField 98 = .ok (.iconst 0, 1) := by decide +kernel
theorem dX9_linkedField_99 : decode cX9_linkedField 99 = .ok (.ireturn, 1) := by decide +kernel
theorem dX9_interfaceMethod_0 : decode cX9_interfaceMethod 0 = .ok (.aload_n 0, 1) := by decide +kernel
theorem dX9_interfaceMethod_1 : decode cX9_interfaceMethod 1 = .ok (.iload_n 1, 1) := by decide +kernel
theorem dX9_interfaceMethod_2 : decode cX9_interfaceMethod 2 = .ok (.aload_n 0, 1) := by decide +kernel
theorem dX9_interfaceMethod_3 : decode cX9_interfaceMethod 3 = .ok (.iload_n 1, 1) := by decide +kernel
theorem dX9_interfaceMethod_4 : decode cX9_interfaceMethod 4 = .ok (.iload_n 2, 1) := by decide +kernel
theorem dX9_interfaceMethod_5 : decode cX9_interfaceMethod 5 = .ok (.invokevirtual 125, 3) := by decide +kernel
theorem dX9_interfaceMethod_8 : decode cX9_interfaceMethod 8 = .ok (.iconst 1, 1) := by decide +kernel
theorem dX9_interfaceMethod_9 : decode cX9_interfaceMethod 9 = .ok (.iload_n 2, 1) := by decide +kernel
theorem dX9_interfaceMethod_10 : decode cX9_interfaceMethod 10 = .ok (.ishl, 1) := by decide +kernel
theorem dX9_interfaceMethod_11 : decode cX9_interfaceMethod 11 = .ok (.iconst (-1), 1) := by decide +kernel
theorem dX9_interfaceMethod_12 : decode cX9_interfaceMethod 12 = .ok (.ixor, 1) := by decide +kernel
theorem dX9_interfaceMethod_13 : decode cX9_interfaceMethod 13 = .ok (.iand, 1) := by decide +kernel
theorem dX9_interfaceMethod_14 : decode cX9_interfaceMethod 14 = .ok (.invokevirtual 220, 3) := by decide +kernel
theorem dX9_interfaceMethod_17 : decode cX9_interfaceMethod 17 = .ok (.aload_n 0, 1) := by decide +kernel
theorem dX9_interfaceMethod_18 : decode cX9_interfaceMethod 18 = .ok (.getfield 208, 3) := by decide +kernel
theorem dX9_interfaceMethod_21 : decode cX9_interfaceMethod 21 = .ok (.iconst 1, 1) := by decide +kernel
theorem dX9_interfaceMethod_22 : decode cX9_interfaceMethod 22 = .ok (.if_icmp .ne 10, 3) := by decide +kernel
theorem dX9_interfaceMethod_25 : decode cX9_interfaceMethod 25 = .ok (.aload_n 0, 1) := by decide +kernel
theorem dX9_interfaceMethod_26 : decode cX9_interfaceMethod 26 = .ok (.getfield 211, 3) := by decide +kernel
theorem dX9_interfaceMethod_29 : decode cX9_interfaceMethod 29 = .ok (.goto 7, 3) := by decide +kernel
theorem dX9_interfaceMethod_32 : decode cX9_interfaceMethod 32 = .ok (.aload_n 0, 1) := by decide +kernel
theorem dX9_interfaceMethod_33 : decode cX9_interfaceMethod 33 = .ok (.getfield 205, 3) := by decide +kernel
theorem dX9_interfaceMethod_36 : decode cX9_interfaceMethod 36 = .ok (.ireturn, 1) := by decide +kernel
theorem dX9_methodOf_0 : decode cX9_methodOf 0 = .ok (.aload_n 0, 1) := by decide +kernel
theorem dX9_methodOf_1 : decode cX9_methodOf 1 = .ok (.iload_n 1, 1) := by decide +kernel
theorem dX9_methodOf_2 : decode cX9_methodOf 2 = .ok (.iload_n 2, 1) := by decide +kernel
theorem dX9_methodOf_3 : decode cX9_methodOf 3 = .ok (.invokevirtual 214, 3) := by decide +kernel
theorem dX9_methodOf_6 : decode cX9_methodOf 6 = .ok (.istore_n 3, 1) := by decide +kernel
theorem dX9_methodOf_7 : decode cX9_methodOf 7 = .ok (.iload_n 2, 1) := by decide +kernel
theorem dX9_methodOf_8 : decode cX9_methodOf 8 = .ok (.istore 4, 2) := by decide +kernel
theorem dX9_methodOf_10 : decode cX9_methodOf 10 = .ok (.iload_n 3, 1) := by decide +kernel
theorem dX9_methodOf_11 : decode cX9_methodOf 11 = .ok (.bipush (-2), 2) := by decide +kernel
theorem dX9_methodOf_13 : decode cX9_methodOf 13 = .ok (.if_icmp .ne 38, 3) := by decide +kernel
theorem dX9_methodOf_16 : decode cX9_methodOf 16 = .ok (.iload 4, 2) := by decide +kernel
theorem dX9_methodOf_18 : decode cX9_methodOf 18 = .ok (.ifCond .le 33, 3) := by decide +kernel
theorem dX9_methodOf_21 : decode cX9_methodOf 21 = .ok (.aload_n 0, 1) := by decide +kernel
theorem dX9_methodOf_22 : decode cX9_methodOf 22 = .ok (.iload_n 1, 1) := by decide +kernel
theorem dX9_methodOf_23 : decode cX9_methodOf 23 = .ok (.iload_n 2, 1) := by decide +kernel
theorem dX9_methodOf_24 : decode cX9_methodOf 24 = .ok (.invokevirtual 81, 3) := by decide +kernel
theorem dX9_methodOf_27 : decode cX9_methodOf 27 = .ok (.ifCond .ne 24, 3) := by decide +kernel
theorem dX9_methodOf_30 : decode cX9_methodOf 30 = .ok (.aload_n 0, 1) := by decide +kernel
theorem dX9_methodOf_31 : decode cX9_methodOf 31 = .ok (.iload_n 1, 1) := by decide +kernel
theorem dX9_methodOf_32 : decode cX9_methodOf 32 = .ok (.iload 4, 2) := by decide +kernel
theorem dX9_methodOf_34 : decode cX9_methodOf 34 = .ok (.iconst 2, 1) := by decide +kernel
theorem dX9_methodOf_35 : decode cX9_methodOf 35 = .ok (.invokevirtual 73, 3) := by decide +kernel
theorem dX9_methodOf_38 : decode cX9_methodOf 38 = .ok (.istore 4, 2) := by decide +kernel
theorem dX9_methodOf_40 : decode cX9_methodOf 40 = .ok (.aload_n 0, 1) := by decide +kernel
theorem dX9_methodOf_41 : decode cX9_methodOf 41 = .ok (.iload_n 1, 1) := by decide +kernel
theorem dX9_methodOf_42 : decode cX9_methodOf 42 = .ok (.iload 4, 2) := by decide +kernel
theorem dX9_methodOf_44 : decode cX9_methodOf 44 = .ok (.invokevirtual 214, 3) := by decide +kernel
theorem dX9_methodOf_47 : decode cX9_methodOf 47 = .ok (.istore_n 3, 1) := by decide +kernel
theorem dX9_methodOf_48 : decode cX9_methodOf 48 = .ok (.goto (-38), 3) := by decide +kernel
theorem dX9_methodOf_51 : decode cX9_methodOf 51 = .ok (.iload_n 3, 1) := by decide +kernel
theorem dX9_methodOf_52 : decode cX9_methodOf 52 = .ok (.bipush (-2), 2) := by decide +kernel
theorem dX9_methodOf_54 : decode cX9_methodOf 54 = .ok (.if_icmp .eq 7, 3) := by decide +kernel
theorem dX9_methodOf_57 : decode cX9_methodOf 57 = .ok (.iload_n 3, 1) := by decide +kernel
theorem dX9_methodOf_58 : decode cX9_methodOf 58 = .ok (.goto 9, 3) := by decide +kernel
theorem dX9_methodOf_61 : decode cX9_methodOf 61 = .ok (.aload_n 0, 1) := by decide +kernel
theorem dX9_methodOf_62 : decode cX9_methodOf 62 = .ok (.iload_n 1, 1) := by decide +kernel
theorem dX9_methodOf_63 : decode cX9_methodOf 63 = .ok (.iload_n 2, 1) := by decide +kernel
theorem dX9_methodOf_64 : decode cX9_methodOf 64 = .ok (.invokevirtual 223, 3) := by decide +kernel
theorem dX9_methodOf_67 : decode cX9_methodOf 67 = .ok (.ireturn, 1) := by decide +kernel
theorem dX9_selectedFor_0 : decode cX9_selectedFor 0 = .ok (.aload_n 0, 1) := by decide +kernel
theorem dX9_selectedFor_1 : decode cX9_selectedFor 1 = .ok (.iload_n 1, 1) := by decide +kernel
theorem dX9_selectedFor_2 : decode cX9_selectedFor 2 = .ok (.iload_n 2, 1) := by decide +kernel
theorem dX9_selectedFor_3 : decode cX9_selectedFor 3 = .ok (.iconst 3, 1) := by decide +kernel
theorem dX9_selectedFor_4 : decode cX9_selectedFor 4 = .ok (.invokevirtual 102, 3) := by decide +kernel
theorem dX9_selectedFor_7 : decode cX9_selectedFor 7 = .ok (.ifCond .ne 5, 3) := by decide +kernel
theorem dX9_selectedFor_10 : decode cX9_selectedFor 10 = .ok (.iload_n 2, 1) := by decide +kernel
theorem dX9_selectedFor_11 : decode cX9_selectedFor 11 = .ok (.ireturn, 1) := by decide +kernel
theorem dX9_selectedFor_12 : decode cX9_selectedFor 12 = .ok (.aload_n 0, 1) := by decide +kernel
theorem dX9_selectedFor_13 : decode cX9_selectedFor 13 = .ok (.iload_n 1, 1) := by decide +kernel
theorem dX9_selectedFor_14 : decode cX9_selectedFor 14 = .ok (.iload_n 2, 1) := by decide +kernel
theorem dX9_selectedFor_15 : decode cX9_selectedFor 15 = .ok (.invokevirtual 229, 3) := by decide +kernel
theorem dX9_selectedFor_18 : decode cX9_selectedFor 18 = .ok (.aload_n 0, 1) := by decide +kernel
theorem dX9_selectedFor_19 : decode cX9_selectedFor 19 = .ok (.iload_n 1, 1) := by decide +kernel
theorem dX9_selectedFor_20 : decode cX9_selectedFor 20 = .ok (.iload_n 3, 1) := by decide +kernel
theorem dX9_selectedFor_21 : decode cX9_selectedFor 21 = .ok (.iload_n 3, 1) := by decide +kernel
theorem dX9_selectedFor_22 : decode cX9_selectedFor 22 = .ok (.ifCond .ne 8, 3) := by decide +kernel
theorem dX9_selectedFor_25 : decode cX9_selectedFor 25 = .ok (.bipush (-2), 2) := by decide +kernel
theorem dX9_selectedFor_27 : decode cX9_selectedFor 27 = .ok (.goto 10, 3) := by decide +kernel
theorem dX9_selectedFor_30 : decode cX9_selectedFor 30 = .ok (.aload_n 0, 1) := by decide +kernel
theorem dX9_selectedFor_31 : decode cX9_selectedFor 31 = .ok (.iload_n 1, 1) := by decide +kernel
theorem dX9_selectedFor_32 : decode cX9_selectedFor 32 = .ok (.iload_n 3, 1) := by decide +kernel
theorem dX9_selectedFor_33 : decode cX9_selectedFor 33 = .ok (.iconst 2, 1) := by decide +kernel
theorem dX9_selectedFor_34 : decode cX9_selectedFor 34 = .ok (.invokevirtual 73, 3) := by decide +kernel
theorem dX9_selectedFor_37 : decode cX9_selectedFor 37 = .ok (.aload_n 0, 1) := by decide +kernel
theorem dX9_selectedFor_38 : decode cX9_selectedFor 38 = .ok (.iload_n 1, 1) := by decide +kernel
theorem dX9_selectedFor_39 : decode cX9_selectedFor 39 = .ok (.iload_n 3, 1) := by decide +kernel
theorem dX9_selectedFor_40 : decode cX9_selectedFor 40 = .ok (.invokevirtual 125, 3) := by decide +kernel
theorem dX9_selectedFor_43 : decode cX9_selectedFor 43 = .ok (.iconst 1, 1) := by decide +kernel
theorem dX9_selectedFor_44 : decode cX9_selectedFor 44 = .ok (.iload_n 3, 1) := by decide +kernel
theorem dX9_selectedFor_45 : decode cX9_selectedFor 45 = .ok (.ishl, 1) := by decide +kernel
theorem dX9_selectedFor_46 : decode cX9_selectedFor 46 = .ok (.iconst (-1), 1) := by decide +kernel
theorem dX9_selectedFor_47 : decode cX9_selectedFor 47 = .ok (.ixor, 1) := by decide +kernel
theorem dX9_selectedFor_48 : decode cX9_selectedFor 48 = .ok (.iand, 1) := by decide +kernel
theorem dX9_selectedFor_49 : decode cX9_selectedFor 49 = .ok (.invokevirtual 232, 3) := by decide +kernel
theorem dX9_selectedFor_52 : decode cX9_selectedFor 52 = .ok (.ireturn, 1) := by decide +kernel
theorem dX9_linkedCall_0 : decode cX9_linkedCall 0 = .ok (.aload_n 0, 1) := by decide +kernel
theorem dX9_linkedCall_1 : decode cX9_linkedCall 1 = .ok (.iload_n 1, 1) := by decide +kernel
theorem dX9_linkedCall_2 : decode cX9_linkedCall 2 = .ok (.iload_n 2, 1) := by decide +kernel
theorem dX9_linkedCall_3 : decode cX9_linkedCall 3 = .ok (.iconst 1, 1) := by decide +kernel
theorem dX9_linkedCall_4 : decode cX9_linkedCall 4 = .ok (.invokevirtual 73, 3) := by decide +kernel
theorem dX9_linkedCall_7 : decode cX9_linkedCall 7 = .ok (.aload_n 0, 1) := by decide +kernel
theorem dX9_linkedCall_8 : decode cX9_linkedCall 8 = .ok (.getfield 22, 3) := by decide +kernel
theorem dX9_linkedCall_11 : decode cX9_linkedCall 11 = .ok (.bipush 15, 2) := by decide +kernel
theorem dX9_linkedCall_13 : decode cX9_linkedCall 13 = .ok (.iaload, 1) := by decide +kernel
theorem dX9_linkedCall_14 : decode cX9_linkedCall 14 = .ok (.if_icmp .eq 5, 3) := by decide +kernel
theorem dX9_linkedCall_17 : decode cX9_linkedCall 17 = .ok (.iconst 5, 1) := by decide +kernel
theorem dX9_linkedCall_18 : decode cX9_linkedCall 18 = .ok (.ireturn, 1) := by decide +kernel
theorem dX9_linkedCall_19 : decode cX9_linkedCall 19 = .ok (.aload_n 0, 1) := by decide +kernel
theorem dX9_linkedCall_20 : decode cX9_linkedCall 20 = .ok (.aload_n 0, 1) := by decide +kernel
theorem dX9_linkedCall_21 : decode cX9_linkedCall 21 = .ok (.getfield 22, 3) := by decide +kernel
theorem dX9_linkedCall_24 : decode cX9_linkedCall 24 = .ok (.iconst 2, 1) := by decide +kernel
theorem dX9_linkedCall_25 : decode cX9_linkedCall 25 = .ok (.iaload, 1) := by decide +kernel
theorem dX9_linkedCall_26 : decode cX9_linkedCall 26 = .ok (.aload_n 0, 1) := by decide +kernel
theorem dX9_linkedCall_27 : decode cX9_linkedCall 27 = .ok (.getfield 22, 3) := by decide +kernel
theorem dX9_linkedCall_30 : decode cX9_linkedCall 30 = .ok (.bipush 10, 2) := by decide +kernel
theorem dX9_linkedCall_32 : decode cX9_linkedCall 32 = .ok (.iaload, 1) := by decide +kernel
theorem dX9_linkedCall_33 : decode cX9_linkedCall 33 = .ok (.aload_n 0, 1) := by decide +kernel
theorem dX9_linkedCall_34 : decode cX9_linkedCall 34 = .ok (.getfield 22, 3) := by decide +kernel
theorem dX9_linkedCall_37 : decode cX9_linkedCall 37 = .ok (.bipush 12, 2) := by decide +kernel
theorem dX9_linkedCall_39 : decode cX9_linkedCall 39 = .ok (.iaload, 1) := by decide +kernel
theorem dX9_linkedCall_40 : decode cX9_linkedCall 40 = .ok (.aload_n 0, 1) := by decide +kernel
theorem dX9_linkedCall_41 : decode cX9_linkedCall 41 = .ok (.getfield 22, 3) := by decide +kernel
theorem dX9_linkedCall_44 : decode cX9_linkedCall 44 = .ok (.bipush 13, 2) := by decide +kernel
theorem dX9_linkedCall_46 : decode cX9_linkedCall 46 = .ok (.iaload, 1) := by decide +kernel
theorem dX9_linkedCall_47 : decode cX9_linkedCall 47 = .ok (.aload_n 0, 1) := by decide +kernel
theorem dX9_linkedCall_48 : decode cX9_linkedCall 48 = .ok (.getfield 22, 3) := by decide +kernel
theorem dX9_linkedCall_51 : decode cX9_linkedCall 51 = .ok (.bipush 14, 2) := by decide +kernel
theorem dX9_linkedCall_53 : decode cX9_linkedCall 53 = .ok (.iaload, 1) := by decide +kernel
theorem dX9_linkedCall_54 : decode cX9_linkedCall 54 = .ok (.invokevirtual 195, 3) := by decide +kernel
theorem dX9_linkedCall_57 : decode cX9_linkedCall 57 = .ok (.aload_n 0, 1) := by decide +kernel
theorem dX9_linkedCall_58 : decode cX9_linkedCall 58 = .ok (.iload_n 1, 1) := by decide +kernel
theorem dX9_linkedCall_59 : decode cX9_linkedCall 59 = .ok (.iload_n 2, 1) := by decide +kernel
theorem dX9_linkedCall_60 : decode cX9_linkedCall 60 = .ok (.invokevirtual 226, 3) := by decide +kernel
theorem dX9_linkedCall_63 : decode cX9_linkedCall 63 = .ok (.istore_n 3, 1) := by decide +kernel
theorem dX9_linkedCall_64 : decode cX9_linkedCall 64 = .ok (.iload_n 3, 1) := by decide +kernel
theorem dX9_linkedCall_65 : decode cX9_linkedCall 65 = .ok (.bipush (-2), 2) := by decide +kernel
theorem dX9_linkedCall_67 : decode cX9_linkedCall 67 = .ok (.if_icmp .ne 5, 3) := by decide +kernel
theorem dX9_linkedCall_70 : decode cX9_linkedCall 70 = .ok (.iconst 4, 1) := by decide +kernel
theorem dX9_linkedCall_71 : decode cX9_linkedCall 71 = .ok (.ireturn, 1) := by decide +kernel
theorem dX9_linkedCall_72 : decode cX9_linkedCall 72 = .ok (.aload_n 0, 1) := by decide +kernel
theorem dX9_linkedCall_73 : decode cX9_linkedCall 73 = .ok (.iload_n 1, 1) := by decide +kernel
theorem dX9_linkedCall_74 : decode cX9_linkedCall 74 = .ok (.iload_n 3, 1) := by decide +kernel
theorem dX9_linkedCall_75 : decode cX9_linkedCall 75 = .ok (.invokevirtual 256, 3) := by decide +kernel
theorem dX9_linkedCall_78 : decode cX9_linkedCall 78 = .ok (.ifCond .ne 5, 3) := by decide +kernel
theorem dX9_linkedCall_81 : decode cX9_linkedCall 81 = .ok (.iconst 2, 1) := by decide +kernel
theorem dX9_linkedCall_82 : decode cX9_linkedCall 82 = .ok (.ireturn, 1) := by decide +kernel
theorem dX9_linkedCall_83 : decode cX9_linkedCall 83 = .ok (.aload_n 0, 1) := by decide +kernel
theorem dX9_linkedCall_84 : decode cX9_linkedCall 84 = .ok (.iload_n 1, 1) := by decide +kernel
theorem dX9_linkedCall_85 : decode cX9_linkedCall 85 = .ok (.iload_n 3, 1) := by decide +kernel
theorem dX9_linkedCall_86 : decode cX9_linkedCall 86 = .ok (.invokevirtual 199, 3) := by decide +kernel
theorem dX9_linkedCall_89 : decode cX9_linkedCall 89 = .ok (.ifCond .eq 7, 3) := by decide +kernel
theorem dX9_linkedCall_92 : decode cX9_linkedCall 92 = .ok (.iconst 1, 1) := by decide +kernel
theorem dX9_linkedCall_93 : decode cX9_linkedCall 93 = .ok (.goto 4, 3) := by decide +kernel
theorem dX9_linkedCall_96 : decode cX9_linkedCall 96 = .ok (.iconst 0, 1) := by decide +kernel
theorem dX9_linkedCall_97 : decode cX9_linkedCall 97 = .ok (.aload_n 0, 1) := by decide +kernel
theorem dX9_linkedCall_98 : decode cX9_linkedCall 98 = .ok (.getfield 22, 3) := by decide +kernel
theorem dX9_linkedCall_101 : decode cX9_linkedCall 101 = .ok (.bipush 11, 2) := by decide +kernel
theorem dX9_linkedCall_103 : decode cX9_linkedCall 103 = .ok (.iaload, 1) := by decide +kernel
theorem dX9_linkedCall_104 : decode cX9_linkedCall 104 = .ok (.if_icmp .eq 5, 3) := by decide +kernel
theorem dX9_linkedCall_107 : decode cX9_linkedCall 107 = .ok (.iconst 5, 1) := by decide +kernel
theorem dX9_linkedCall_108 : decode cX9_linkedCall 108 = .ok (.ireturn, 1) := by decide +kernel
theorem dX9_linkedCall_109 : decode cX9_linkedCall 109 = .ok (.aload_n 0, 1) := by decide +kernel
theorem dX9_linkedCall_110 : decode cX9_linkedCall 110 = .ok (.iload_n 1, 1) := by decide +kernel
theorem dX9_linkedCall_111 : decode cX9_linkedCall 111 = .ok (.iload_n 2, 1) := by decide +kernel
theorem dX9_linkedCall_112 : decode cX9_linkedCall 112 = .ok (.invokevirtual 81, 3) := by decide +kernel
theorem dX9_linkedCall_115 : decode cX9_linkedCall 115 = .ok (.ifCond .ne 52, 3) := by decide +kernel
theorem dX9_linkedCall_118 : decode cX9_linkedCall 118 = .ok (.aload_n 0, 1) := by decide +kernel
theorem dX9_linkedCall_119 : decode cX9_linkedCall 119 = .ok (.iload_n 1, 1) := by decide +kernel
theorem dX9_linkedCall_120 : decode cX9_linkedCall 120 = .ok (.iload_n 2, 1) := by decide +kernel
theorem dX9_linkedCall_121 : decode cX9_linkedCall 121 = .ok (.bipush 7, 2) := by decide +kernel
theorem dX9_linkedCall_123 : decode cX9_linkedCall 123 = .ok (.invokevirtual 73, 3) := by decide +kernel
theorem dX9_linkedCall_126 : decode cX9_linkedCall 126 = .ok (.ifCond .ne 41, 3) := by decide +kernel
theorem dX9_linkedCall_129 : decode cX9_linkedCall 129 = .ok (.aload_n 0, 1) := by decide +kernel
theorem dX9_linkedCall_130 : decode cX9_linkedCall 130 = .ok (.iload_n 1, 1) := by decide +kernel
theorem dX9_linkedCall_131 : decode cX9_linkedCall 131 = .ok (.iload_n 3, 1) := by decide +kernel
theorem dX9_linkedCall_132 : decode cX9_linkedCall 132 = .ok (.invokevirtual 199, 3) := by decide +kernel
theorem dX9_linkedCall_135 : decode cX9_linkedCall 135 = .ok (.ifCond .ne 32, 3) := by decide +kernel
theorem dX9_linkedCall_138 : decode cX9_linkedCall 138 = .ok (.aload_n 0, 1) := by decide +kernel
theorem dX9_linkedCall_139 : decode cX9_linkedCall 139 = .ok (.iload_n 1, 1) := by decide +kernel
theorem dX9_linkedCall_140 : decode cX9_linkedCall 140 = .ok (.iload_n 3, 1) := by decide +kernel
theorem dX9_linkedCall_141 : decode cX9_linkedCall 141 = .ok (.iload_n 2, 1) := by decide +kernel
theorem dX9_linkedCall_142 : decode cX9_linkedCall 142 = .ok (.invokevirtual 236, 3) := by decide +kernel
theorem dX9_linkedCall_145 : decode cX9_linkedCall 145 = .ok (.istore 4, 2) := by decide +kernel
theorem dX9_linkedCall_147 : decode cX9_linkedCall 147 = .ok (.iload 4, 2) := by decide +kernel
theorem dX9_linkedCall_149 : decode cX9_linkedCall 149 = .ok (.bipush (-2), 2) := by decide +kernel
theorem dX9_linkedCall_151 : decode cX9_linkedCall 151 = .ok (.if_icmp .eq 13, 3) := by decide +kernel
theorem dX9_linkedCall_154 : decode cX9_linkedCall 154 = .ok (.aload_n 0, 1) := by decide +kernel
theorem dX9_linkedCall_155 : decode cX9_linkedCall 155 = .ok (.iload_n 1, 1) := by decide +kernel
theorem dX9_linkedCall_156 : decode cX9_linkedCall 156 = .ok (.iload 4, 2) := by decide +kernel
theorem dX9_linkedCall_158 : decode cX9_linkedCall 158 = .ok (.invokevirtual 109, 3) := by decide +kernel
theorem dX9_linkedCall_161 : decode cX9_linkedCall 161 = .ok (.ifCond .eq 6, 3) := by decide +kernel
theorem dX9_linkedCall_164 : decode cX9_linkedCall 164 = .ok (.bipush 6, 2) := by decide +kernel
theorem dX9_linkedCall_166 : decode cX9_linkedCall 166 = .ok (.ireturn, 1) := by decide +kernel
theorem dX9_linkedCall_167 : decode cX9_linkedCall 167 = .ok (.aload_n 0, 1) := by decide +kernel
theorem dX9_linkedCall_168 : decode cX9_linkedCall 168 = .ok (.aload_n 0, 1) := by decide +kernel
theorem dX9_linkedCall_169 : decode cX9_linkedCall 169 = .ok (.iload_n 1, 1) := by decide +kernel
theorem dX9_linkedCall_170 : decode cX9_linkedCall 170 = .ok (.iload_n 3, 1) := by decide +kernel
theorem dX9_linkedCall_171 : decode cX9_linkedCall 171 = .ok (.iconst 1, 1) := by decide +kernel
theorem dX9_linkedCall_172 : decode cX9_linkedCall 172 = .ok (.invokevirtual 102, 3) := by decide +kernel
theorem dX9_linkedCall_175 : decode cX9_linkedCall 175 = .ok (.putfield 265, 3) := by decide +kernel
theorem dX9_linkedCall_178 : decode cX9_linkedCall 178 = .ok (.iconst 0, 1) := by decide +kernel
theorem dX9_linkedCall_179 : decode cX9_linkedCall 179 = .ok (.ireturn, 1) := by decide +kernel
theorem dX9_linkedBase_0 : decode cX9_linkedBase 0 = .ok (.aload_n 0, 1) := by decide +kernel
theorem dX9_linkedBase_1 : decode cX9_linkedBase 1 = .ok (.iload_n 1, 1) := by decide +kernel
theorem dX9_linkedBase_2 : decode cX9_linkedBase 2 = .ok (.iload_n 3, 1) := by decide +kernel
theorem dX9_linkedBase_3 : decode cX9_linkedBase 3 = .ok (.invokevirtual 77, 3) := by decide +kernel
theorem dX9_linkedBase_6 : decode cX9_linkedBase 6 = .ok (.ifCond .ne 5, 3) := by decide +kernel
theorem dX9_linkedBase_9 : decode cX9_linkedBase 9 = .ok (.iconst 1, 1) := by decide +kernel
theorem dX9_linkedBase_10 : decode cX9_linkedBase 10 = .ok (.ireturn, 1) := by decide +kernel
theorem dX9_linkedBase_11 : decode cX9_linkedBase 11 = .ok (.aload_n 0, 1) := by decide +kernel
theorem dX9_linkedBase_12 : decode cX9_linkedBase 12 = .ok (.iload_n 1, 1) := by decide +kernel
theorem dX9_linkedBase_13 : decode cX9_linkedBase 13 = .ok (.iload_n 3, 1) := by decide +kernel
theorem dX9_linkedBase_14 : decode cX9_linkedBase 14 = .ok (.invokevirtual 244, 3) := by decide +kernel
theorem dX9_linkedBase_17 : decode cX9_linkedBase 17 = .ok (.ifCond .ne 5, 3) := by decide +kernel
theorem dX9_linkedBase_20 : decode cX9_linkedBase 20 = .ok (.iconst 2, 1) := by decide +kernel
theorem dX9_linkedBase_21 : decode cX9_linkedBase 21 = .ok (.ireturn, 1) := by decide +kernel
theorem dX9_linkedBase_22 : decode cX9_linkedBase 22 = .ok (.aload_n 0, 1) := by decide +kernel
theorem dX9_linkedBase_23 : decode cX9_linkedBase 23 = .ok (.iload_n 1, 1) := by decide +kernel
theorem dX9_linkedBase_24 : decode cX9_linkedBase 24 = .ok (.iload_n 3, 1) := by decide +kernel
theorem dX9_linkedBase_25 : decode cX9_linkedBase 25 = .ok (.invokevirtual 81, 3) := by decide +kernel
theorem dX9_linkedBase_28 : decode cX9_linkedBase 28 = .ok (.ifCond .ne 15, 3) := by decide +kernel
theorem dX9_linkedBase_31 : decode cX9_linkedBase 31 = .ok (.aload_n 0, 1) := by decide +kernel
theorem dX9_linkedBase_32 : decode cX9_linkedBase 32 = .ok (.iload_n 1, 1) := by decide +kernel
theorem dX9_linkedBase_33 : decode cX9_linkedBase 33 = .ok (.iload_n 3, 1) := by decide +kernel
theorem dX9_linkedBase_34 : decode cX9_linkedBase 34 = .ok (.bipush 6, 2) := by decide +kernel
theorem dX9_linkedBase_36 : decode cX9_linkedBase 36 = .ok (.invokevirtual 73, 3) := by decide +kernel
theorem dX9_linkedBase_39 : decode cX9_linkedBase 39 = .ok (.iconst 1, 1) := by decide +kernel
theorem dX9_linkedBase_40 : decode cX9_linkedBase 40 = .ok (.if_icmp .ne 7, 3) := by decide +kernel
theorem dX9_linkedBase_43 : decode cX9_linkedBase 43 = .ok (.iconst 5, 1) := by decide +kernel
theorem dX9_linkedBase_44 : decode cX9_linkedBase 44 = .ok (.goto 19, 3) := by decide +kernel
theorem dX9_linkedBase_47 : decode cX9_linkedBase 47 = .ok (.aload_n 0, 1) := by decide +kernel
theorem dX9_linkedBase_48 : decode cX9_linkedBase 48 = .ok (.iload_n 1, 1) := by decide +kernel
theorem dX9_linkedBase_49 : decode cX9_linkedBase 49 = .ok (.iload_n 2, 1) := by decide +kernel
theorem dX9_linkedBase_50 : decode cX9_linkedBase 50 = .ok (.iload_n 3, 1) := by decide +kernel
theorem dX9_linkedBase_51 : decode cX9_linkedBase 51 = .ok (.invokevirtual 128, 3) := by decide +kernel
theorem dX9_linkedBase_54 : decode cX9_linkedBase 54 = .ok (.ifCond .eq 8, 3) := by decide +kernel
theorem dX9_linkedBase_57 : decode cX9_linkedBase 57 = .ok (.bipush 6, 2) := by decide +kernel
theorem dX9_linkedBase_59 : decode cX9_linkedBase 59 = .ok (.goto 4, 3) := by decide +kernel
theorem dX9_linkedBase_62 : decode cX9_linkedBase 62 = .ok (.iconst 0, 1) := by decide +kernel
theorem dX9_linkedBase_63 : decode cX9_linkedBase 63 = .ok (.ireturn, 1) := by decide +kernel
theorem dX9_linked_0 : decode cX9_linked 0 = .ok (.aload_n 0, 1) := by decide +kernel
theorem dX9_linked_1 : decode cX9_linked 1 = .ok (.bipush (-2), 2) := by decide +kernel
theorem dX9_linked_3 : decode cX9_linked 3 = .ok (.putfield 265, 3) := by decide +kernel
theorem dX9_linked_6 : decode cX9_linked 6 = .ok (.aload_n 0, 1) := by decide +kernel
theorem dX9_linked_7 : decode cX9_linked 7 = .ok (.getfield 22, 3) := by decide +kernel
theorem dX9_linked_10 : decode cX9_linked 10 = .ok (.bipush 8, 2) := by decide +kernel
theorem dX9_linked_12 : decode cX9_linked 12 = .ok (.iaload, 1) := by decide +kernel
theorem dX9_linked_13 : decode cX9_linked 13 = .ok (.iconst 1, 1) := by decide +kernel
theorem dX9_linked_14 : decode cX9_linked 14 = .ok (.if_icmp .ne 5, 3) := by decide +kernel
theorem dX9_linked_17 : decode cX9_linked 17 = .ok (.iconst 0, 1) := by decide +kernel
theorem dX9_linked_18 : decode cX9_linked 18 = .ok (.ireturn, 1) := by decide +kernel
theorem dX9_linked_19 : decode cX9_linked 19 = .ok (.aload_n 0, 1) := by decide +kernel
theorem dX9_linked_20 : decode cX9_linked 20 = .ok (.getfield 22, 3) := by decide +kernel
theorem dX9_linked_23 : decode cX9_linked 23 = .ok (.iconst 1, 1) := by decide +kernel
theorem dX9_linked_24 : decode cX9_linked 24 = .ok (.iaload, 1) := by decide +kernel
theorem dX9_linked_25 : decode cX9_linked 25 = .ok (.istore_n 2, 1) := by decide +kernel
theorem dX9_linked_26 : decode cX9_linked 26 = .ok (.aload_n 0, 1) := by decide +kernel
theorem dX9_linked_27 : decode cX9_linked 27 = .ok (.iload_n 1, 1) := by decide +kernel
theorem dX9_linked_28 : decode cX9_linked 28 = .ok (.iload_n 2, 1) := by decide +kernel
theorem dX9_linked_29 : decode cX9_linked 29 = .ok (.invokevirtual 77, 3) := by decide +kernel
theorem dX9_linked_32 : decode cX9_linked 32 = .ok (.ifCond .ne 5, 3) := by decide +kernel
theorem dX9_linked_35 : decode cX9_linked 35 = .ok (.iconst 1, 1) := by decide +kernel
theorem dX9_linked_36 : decode cX9_linked 36 = .ok (.ireturn, 1) := by decide +kernel
theorem dX9_linked_37 : decode cX9_linked 37 = .ok (.aload_n 0, 1) := by decide +kernel
theorem dX9_linked_38 : decode cX9_linked 38 = .ok (.iload_n 1, 1) := by decide +kernel
theorem dX9_linked_39 : decode cX9_linked 39 = .ok (.iload_n 2, 1) := by decide +kernel
theorem dX9_linked_40 : decode cX9_linked 40 = .ok (.invokevirtual 244, 3) := by decide +kernel
theorem dX9_linked_43 : decode cX9_linked 43 = .ok (.ifCond .ne 5, 3) := by decide +kernel
theorem dX9_linked_46 : decode cX9_linked 46 = .ok (.iconst 2, 1) := by decide +kernel
theorem dX9_linked_47 : decode cX9_linked 47 = .ok (.ireturn, 1) := by decide +kernel
theorem dX9_linked_48 : decode cX9_linked 48 = .ok (.aload_n 0, 1) := by decide +kernel
theorem dX9_linked_49 : decode cX9_linked 49 = .ok (.getfield 22, 3) := by decide +kernel
theorem dX9_linked_52 : decode cX9_linked 52 = .ok (.iconst 0, 1) := by decide +kernel
theorem dX9_linked_53 : decode cX9_linked 53 = .ok (.iaload, 1) := by decide +kernel
theorem dX9_linked_54 : decode cX9_linked 54 = .ok (.tableswitch 110 0 4 #[34, 34, 41, 48, 67], 34) := by decide +kernel
theorem dX9_linked_88 : decode cX9_linked 88 = .ok (.aload_n 0, 1) := by decide +kernel
theorem dX9_linked_89 : decode cX9_linked 89 = .ok (.iload_n 1, 1) := by decide +kernel
theorem dX9_linked_90 : decode cX9_linked 90 = .ok (.iload_n 2, 1) := by decide +kernel
theorem dX9_linked_91 : decode cX9_linked 91 = .ok (.invokevirtual 268, 3) := by decide +kernel
theorem dX9_linked_94 : decode cX9_linked 94 = .ok (.ireturn, 1) := by decide +kernel
theorem dX9_linked_95 : decode cX9_linked 95 = .ok (.aload_n 0, 1) := by decide +kernel
theorem dX9_linked_96 : decode cX9_linked 96 = .ok (.iload_n 1, 1) := by decide +kernel
theorem dX9_linked_97 : decode cX9_linked 97 = .ok (.iload_n 2, 1) := by decide +kernel
theorem dX9_linked_98 : decode cX9_linked 98 = .ok (.invokevirtual 271, 3) := by decide +kernel
theorem dX9_linked_101 : decode cX9_linked 101 = .ok (.ireturn, 1) := by decide +kernel
theorem dX9_linked_102 : decode cX9_linked 102 = .ok (.aload_n 0, 1) := by decide +kernel
theorem dX9_linked_103 : decode cX9_linked 103 = .ok (.iload_n 1, 1) := by decide +kernel
theorem dX9_linked_104 : decode cX9_linked 104 = .ok (.iload_n 2, 1) := by decide +kernel
theorem dX9_linked_105 : decode cX9_linked 105 = .ok (.bipush 7, 2) := by decide +kernel
theorem dX9_linked_107 : decode cX9_linked 107 = .ok (.invokevirtual 73, 3) := by decide +kernel
theorem dX9_linked_110 : decode cX9_linked 110 = .ok (.iconst 1, 1) := by decide +kernel
theorem dX9_linked_111 : decode cX9_linked 111 = .ok (.if_icmp .ne 8, 3) := by decide +kernel
theorem dX9_linked_114 : decode cX9_linked 114 = .ok (.bipush 7, 2) := by decide +kernel
theorem dX9_linked_116 : decode cX9_linked 116 = .ok (.goto 4, 3) := by decide +kernel
theorem dX9_linked_119 : decode cX9_linked 119 = .ok (.iconst 0, 1) := by decide +kernel
theorem dX9_linked_120 : decode cX9_linked 120 = .ok (.ireturn, 1) := by decide +kernel
theorem dX9_linked_121 : decode cX9_linked 121 = .ok (.aload_n 0, 1) := by decide +kernel
theorem dX9_linked_122 : decode cX9_linked 122 = .ok (.iload_n 1, 1) := by decide +kernel
theorem dX9_linked_123 : decode cX9_linked 123 = .ok (.iload_n 2, 1) := by decide +kernel
theorem dX9_linked_124 : decode cX9_linked 124 = .ok (.invokevirtual 81, 3) := by decide +kernel
theorem dX9_linked_127 : decode cX9_linked 127 = .ok (.ifCond .ne 15, 3) := by decide +kernel
theorem dX9_linked_130 : decode cX9_linked 130 = .ok (.aload_n 0, 1) := by decide +kernel
theorem dX9_linked_131 : decode cX9_linked 131 = .ok (.iload_n 1, 1) := by decide +kernel
theorem dX9_linked_132 : decode cX9_linked 132 = .ok (.iload_n 2, 1) := by decide +kernel
theorem dX9_linked_133 : decode cX9_linked 133 = .ok (.bipush 6, 2) := by decide +kernel
theorem dX9_linked_135 : decode cX9_linked 135 = .ok (.invokevirtual 73, 3) := by decide +kernel
theorem dX9_linked_138 : decode cX9_linked 138 = .ok (.iconst 1, 1) := by decide +kernel
theorem dX9_linked_139 : decode cX9_linked 139 = .ok (.if_icmp .ne 7, 3) := by decide +kernel
theorem dX9_linked_142 : decode cX9_linked 142 = .ok (.iconst 5, 1) := by decide +kernel
theorem dX9_linked_143 : decode cX9_linked 143 = .ok (.goto 20, 3) := by decide +kernel
theorem dX9_linked_146 : decode cX9_linked 146 = .ok (.aload_n 0, 1) := by decide +kernel
theorem dX9_linked_147 : decode cX9_linked 147 = .ok (.iload_n 1, 1) := by decide +kernel
theorem dX9_linked_148 : decode cX9_linked 148 = .ok (.iload_n 2, 1) := by decide +kernel
theorem dX9_linked_149 : decode cX9_linked 149 = .ok (.bipush (-2), 2) := by decide +kernel
theorem dX9_linked_151 : decode cX9_linked 151 = .ok (.invokevirtual 128, 3) := by decide +kernel
theorem dX9_linked_154 : decode cX9_linked 154 = .ok (.ifCond .eq 8, 3) := by decide +kernel
theorem dX9_linked_157 : decode cX9_linked 157 = .ok (.bipush 6, 2) := by decide +kernel
theorem dX9_linked_159 : decode cX9_linked 159 = .ok (.goto 4, 3) := by decide +kernel
theorem dX9_linked_162 : decode cX9_linked 162 = .ok (.iconst 0, 1) := by decide +kernel
theorem dX9_linked_163 : decode cX9_linked 163 = .ok (.ireturn, 1) := by decide +kernel
theorem dX9_linked_164 : decode cX9_linked 164 = .ok (.aload_n 0, 1) := by decide +kernel
theorem dX9_linked_165 : decode cX9_linked 165 = .ok (.iload_n 1, 1) := by decide +kernel
theorem dX9_linked_166 : decode cX9_linked 166 = .ok (.iload_n 2, 1) := by decide +kernel
theorem dX9_linked_167 : decode cX9_linked 167 = .ok (.invokevirtual 81, 3) := by decide +kernel
theorem dX9_linked_170 : decode cX9_linked 170 = .ok (.ifCond .ne 7, 3) := by decide +kernel
theorem dX9_linked_173 : decode cX9_linked 173 = .ok (.iconst 5, 1) := by decide +kernel
theorem dX9_linked_174 : decode cX9_linked 174 = .ok (.goto 15, 3) := by decide +kernel
theorem dX9_linked_177 : decode cX9_linked 177 = .ok (.aload_n 0, 1) := by decide +kernel
theorem dX9_linked_178 : decode cX9_linked 178 = .ok (.iload_n 1, 1) := by decide +kernel
theorem dX9_linked_179 : decode cX9_linked 179 = .ok (.iload_n 2, 1) := by decide +kernel
theorem dX9_linked_180 : decode cX9_linked 180 = .ok (.aload_n 0, 1) := by decide +kernel
theorem dX9_linked_181 : decode cX9_linked 181 = .ok (.getfield 22, 3) := by decide +kernel
theorem dX9_linked_184 : decode cX9_linked 184 = .ok (.iconst 4, 1) := by decide +kernel
theorem dX9_linked_185 : decode cX9_linked 185 = .ok (.iaload, 1) := by decide +kernel
theorem dX9_linked_186 : decode cX9_linked 186 = .ok (.invokevirtual 274, 3) := by decide +kernel
theorem dX9_linked_189 : decode cX9_linked 189 = .ok (.ireturn, 1) := by decide +kernel
theorem dX9_isOther_0 : decode cX9_isOther 0 = .ok (.iconst 0, 1) := by decide +kernel
theorem dX9_isOther_1 : decode cX9_isOther 1 = .ok (.istore_n 1, 1) := by decide +kernel
theorem dX9_isOther_2 : decode cX9_isOther 2 = .ok (.iconst 0, 1) := by decide +kernel
theorem dX9_isOther_3 : decode cX9_isOther 3 = .ok (.istore_n 2, 1) := by decide +kernel
theorem dX9_isOther_4 : decode cX9_isOther 4 = .ok (.iload_n 2, 1) := by decide +kernel
theorem dX9_isOther_5 : decode cX9_isOther 5 = .ok (.bipush 8, 2) := by decide +kernel
theorem dX9_isOther_7 : decode cX9_isOther 7 = .ok (.if_icmp .ge 37, 3) := by decide +kernel
theorem dX9_isOther_10 : decode cX9_isOther 10 = .ok (.iload_n 1, 1) := by decide +kernel
theorem dX9_isOther_11 : decode cX9_isOther 11 = .ok (.ifCond .ne 21, 3) := by decide +kernel
theorem dX9_isOther_14 : decode cX9_isOther 14 = .ok (.aload_n 0, 1) := by decide +kernel
theorem dX9_isOther_15 : decode cX9_isOther 15 = .ok (.getfield 25, 3) := by decide +kernel
theorem dX9_isOther_18 : decode cX9_isOther 18 = .ok (.iload_n 2, 1) := by decide +kernel
theorem dX9_isOther_19 : decode cX9_isOther 19 = .ok (.iaload, 1) := by decide +kernel
theorem dX9_isOther_20 : decode cX9_isOther 20 = .ok (.aload_n 0, 1) := by decide +kernel
theorem dX9_isOther_21 : decode cX9_isOther 21 = .ok (.getfield 22, 3) := by decide +kernel
theorem dX9_isOther_24 : decode cX9_isOther 24 = .ok (.bipush 8, 2) := by decide +kernel
theorem dX9_isOther_26 : decode cX9_isOther 26 = .ok (.iload_n 2, 1) := by decide +kernel
theorem dX9_isOther_27 : decode cX9_isOther 27 = .ok (.iadd, 1) := by decide +kernel
theorem dX9_isOther_28 : decode cX9_isOther 28 = .ok (.iaload, 1) := by decide +kernel
theorem dX9_isOther_29 : decode cX9_isOther 29 = .ok (.if_icmp .eq 7, 3) := by decide +kernel
theorem dX9_isOther_32 : decode cX9_isOther 32 = .ok (.iconst 1, 1) := by decide +kernel
theorem dX9_isOther_33 : decode cX9_isOther 33 = .ok (.goto 4, 3) := by decide +kernel
theorem dX9_isOther_36 : decode cX9_isOther 36 = .ok (.iconst 0, 1) := by decide +kernel
theorem dX9_isOther_37 : decode cX9_isOther 37 = .ok (.istore_n 1, 1) := by decide +kernel
theorem dX9_isOther_38 : decode cX9_isOther 38 = .ok (.iinc 2 1, 3) := by decide +kernel
theorem dX9_isOther_41 : decode cX9_isOther 41 = .ok (.goto (-37), 3) := by decide +kernel
theorem dX9_isOther_44 : decode cX9_isOther 44 = .ok (.iload_n 1, 1) := by decide +kernel
theorem dX9_isOther_45 : decode cX9_isOther 45 = .ok (.ireturn, 1) := by decide +kernel
theorem dX9_judged_0 : decode cX9_judged 0 = .ok (.aload_n 0, 1) := by decide +kernel
theorem dX9_judged_1 : decode cX9_judged 1 = .ok (.iconst 1, 1) := by decide +kernel
theorem dX9_judged_2 : decode cX9_judged 2 = .ok (.invokevirtual 277, 3) := by decide +kernel
theorem dX9_judged_5 : decode cX9_judged 5 = .ok (.istore_n 1, 1) := by decide +kernel
theorem dX9_judged_6 : decode cX9_judged 6 = .ok (.aload_n 0, 1) := by decide +kernel
theorem dX9_judged_7 : decode cX9_judged 7 = .ok (.getfield 265, 3) := by decide +kernel
theorem dX9_judged_10 : decode cX9_judged 10 = .ok (.istore_n 2, 1) := by decide +kernel
theorem dX9_judged_11 : decode cX9_judged 11 = .ok (.iload_n 1, 1) := by decide +kernel
theorem dX9_judged_12 : decode cX9_judged 12 = .ok (.ifCond .le 15, 3) := by decide +kernel
theorem dX9_judged_15 : decode cX9_judged 15 = .ok (.iload_n 1, 1) := by decide +kernel
theorem dX9_judged_16 : decode cX9_judged 16 = .ok (.bipush 6, 2) := by decide +kernel
theorem dX9_judged_18 : decode cX9_judged 18 = .ok (.if_icmp .ne 7, 3) := by decide +kernel
theorem dX9_judged_21 : decode cX9_judged 21 = .ok (.iconst 2, 1) := by decide +kernel
theorem dX9_judged_22 : decode cX9_judged 22 = .ok (.goto 4, 3) := by decide +kernel
theorem dX9_judged_25 : decode cX9_judged 25 = .ok (.iconst 1, 1) := by decide +kernel
theorem dX9_judged_26 : decode cX9_judged 26 = .ok (.ireturn, 1) := by decide +kernel
theorem dX9_judged_27 : decode cX9_judged 27 = .ok (.aload_n 0, 1) := by decide +kernel
theorem dX9_judged_28 : decode cX9_judged 28 = .ok (.iconst 1, 1) := by decide +kernel
theorem dX9_judged_29 : decode cX9_judged 29 = .ok (.invokevirtual 280, 3) := by decide +kernel
theorem dX9_judged_32 : decode cX9_judged 32 = .ok (.ifCond .le 5, 3) := by decide +kernel
theorem dX9_judged_35 : decode cX9_judged 35 = .ok (.iconst 3, 1) := by decide +kernel
theorem dX9_judged_36 : decode cX9_judged 36 = .ok (.ireturn, 1) := by decide +kernel
theorem dX9_judged_37 : decode cX9_judged 37 = .ok (.aload_n 0, 1) := by decide +kernel
theorem dX9_judged_38 : decode cX9_judged 38 = .ok (.invokevirtual 283, 3) := by decide +kernel
theorem dX9_judged_41 : decode cX9_judged 41 = .ok (.ifCond .eq 5, 3) := by decide +kernel
theorem dX9_judged_44 : decode cX9_judged 44 = .ok (.iconst 4, 1) := by decide +kernel
theorem dX9_judged_45 : decode cX9_judged 45 = .ok (.ireturn, 1) := by decide +kernel
theorem dX9_judged_46 : decode cX9_judged 46 = .ok (.aload_n 0, 1) := by decide +kernel
theorem dX9_judged_47 : decode cX9_judged 47 = .ok (.iconst 0, 1) := by decide +kernel
theorem dX9_judged_48 : decode cX9_judged 48 = .ok (.invokevirtual 277, 3) := by decide +kernel
theorem dX9_judged_51 : decode cX9_judged 51 = .ok (.ifCond .gt 11, 3) := by decide +kernel
theorem dX9_judged_54 : decode cX9_judged 54 = .ok (.aload_n 0, 1) := by decide +kernel
theorem dX9_judged_55 : decode cX9_judged 55 = .ok (.getfield 265, 3) := by decide +kernel
theorem dX9_judged_58 : decode cX9_judged 58 = .ok (.iload_n 2, 1) := by decide +kernel
theorem dX9_judged_59 : decode cX9_judged 59 = .ok (.if_icmp .eq 7, 3) := by decide +kernel
theorem dX9_judged_62 : decode cX9_judged 62 = .ok (.iconst 5, 1) := by decide +kernel
theorem dX9_judged_63 : decode cX9_judged 63 = .ok (.goto 4, 3) := by decide +kernel
theorem dX9_judged_66 : decode cX9_judged 66 = .ok (.iconst 0, 1) := by decide +kernel
theorem dX9_judged_67 : decode cX9_judged 67 = .ok (.ireturn, 1) := by decide +kernel
theorem dX9_checksum_0 : decode cX9_checksum 0 = .ok (.aload_n 0, 1) := by decide +kernel
theorem dX9_checksum_1 : decode cX9_checksum 1 = .ok (.iconst 0, 1) := by decide +kernel
theorem dX9_checksum_2 : decode cX9_checksum 2 = .ok (.putfield 55, 3) := by decide +kernel
theorem dX9_checksum_5 : decode cX9_checksum 5 = .ok (.aload_n 0, 1) := by decide +kernel
theorem dX9_checksum_6 : decode cX9_checksum 6 = .ok (.ldc2_w 329, 3) := by decide +kernel
theorem dX9_checksum_9 : decode cX9_checksum 9 = .ok (.putfield 325, 3) := by decide +kernel
theorem dX9_checksum_12 : decode cX9_checksum 12 = .ok (.iconst 0, 1) := by decide +kernel
theorem dX9_checksum_13 : decode cX9_checksum 13 = .ok (.istore_n 1, 1) := by decide +kernel
theorem dX9_checksum_14 : decode cX9_checksum 14 = .ok (.iload_n 1, 1) := by decide +kernel
theorem dX9_checksum_15 : decode cX9_checksum 15 = .ok (.iconst 2, 1) := by decide +kernel
theorem dX9_checksum_16 : decode cX9_checksum 16 = .ok (.if_icmp .ge 122, 3) := by decide +kernel
theorem dX9_checksum_19 : decode cX9_checksum 19 = .ok (.iconst 0, 1) := by decide +kernel
theorem dX9_checksum_20 : decode cX9_checksum 20 = .ok (.istore_n 2, 1) := by decide +kernel
theorem dX9_checksum_21 : decode cX9_checksum 21 = .ok (.iload_n 2, 1) := by decide +kernel
theorem dX9_checksum_22 : decode cX9_checksum 22 = .ok (.bipush 10, 2) := by decide +kernel
theorem dX9_checksum_24 : decode cX9_checksum 24 = .ok (.if_icmp .ge 55, 3) := by decide +kernel
theorem dX9_checksum_27 : decode cX9_checksum 27 = .ok (.aload_n 0, 1) := by decide +kernel
theorem dX9_checksum_28 : decode cX9_checksum 28 = .ok (.iload_n 1, 1) := by decide +kernel
theorem dX9_checksum_29 : decode cX9_checksum 29 = .ok (.iload_n 2, 1) := by decide +kernel
theorem dX9_checksum_30 : decode cX9_checksum 30 = .ok (.iconst 0, 1) := by decide +kernel
theorem dX9_checksum_31 : decode cX9_checksum 31 = .ok (.invokevirtual 73, 3) := by decide +kernel
theorem dX9_checksum_34 : decode cX9_checksum 34 = .ok (.ifCond .ne 13, 3) := by decide +kernel
theorem dX9_checksum_37 : decode cX9_checksum 37 = .ok (.aload_n 0, 1) := by decide +kernel
theorem dX9_checksum_38 : decode cX9_checksum 38 = .ok (.ldc2_w 331, 3) := by decide +kernel
theorem dX9_checksum_41 : decode cX9_checksum 41 = .ok (.invokevirtual 333, 3) := by decide +kernel
theorem dX9_checksum_44 : decode cX9_checksum 44 = .ok (.goto 29, 3) := by decide +kernel
theorem dX9_checksum_47 : decode cX9_checksum 47 = .ok (.iconst 0, 1) := by decide +kernel
theorem dX9_checksum_48 : decode cX9_checksum 48 = .ok (.istore_n 3, 1) := by decide +kernel
theorem dX9_checksum_49 : decode cX9_checksum 49 = .ok (.iload_n 3, 1) := by decide +kernel
theorem dX9_checksum_50 : decode cX9_checksum 50 = .ok (.bipush 10, 2) := by decide +kernel
theorem dX9_checksum_52 : decode cX9_checksum 52 = .ok (.if_icmp .ge 21, 3) := by decide +kernel
theorem dX9_checksum_55 : decode cX9_checksum 55 = .ok (.aload_n 0, 1) := by decide +kernel
theorem dX9_checksum_56 : decode cX9_checksum 56 = .ok (.aload_n 0, 1) := by decide +kernel
theorem dX9_checksum_57 : decode cX9_checksum 57 = .ok (.iload_n 1, 1) := by decide +kernel
theorem dX9_checksum_58 : decode cX9_checksum 58 = .ok (.iload_n 2, 1) := by decide +kernel
theorem dX9_checksum_59 : decode cX9_checksum 59 = .ok (.iload_n 3, 1) := by decide +kernel
theorem dX9_checksum_60 : decode cX9_checksum 60 = .ok (.invokevirtual 131, 3) := by decide +kernel
theorem dX9_checksum_63 : decode cX9_checksum 63 = .ok (.i2l, 1) := by decide +kernel
theorem dX9_checksum_64 : decode cX9_checksum 64 = .ok (.invokevirtual 333, 3) := by decide +kernel
theorem dX9_checksum_67 : decode cX9_checksum 67 = .ok (.iinc 3 1, 3) := by decide +kernel
theorem dX9_checksum_70 : decode cX9_checksum 70 = .ok (.goto (-21), 3) := by decide +kernel
theorem dX9_checksum_73 : decode cX9_checksum 73 = .ok (.iinc 2 1, 3) := by decide +kernel
theorem dX9_checksum_76 : decode cX9_checksum 76 = .ok (.goto (-55), 3) := by decide +kernel
theorem dX9_checksum_79 : decode cX9_checksum 79 = .ok (.aload_n 0, 1) := by decide +kernel
theorem dX9_checksum_80 : decode cX9_checksum 80 = .ok (.aload_n 0, 1) := by decide +kernel
theorem dX9_checksum_81 : decode cX9_checksum 81 = .ok (.iload_n 1, 1) := by decide +kernel
theorem dX9_checksum_82 : decode cX9_checksum 82 = .ok (.invokevirtual 51, 3) := by decide +kernel
theorem dX9_checksum_85 : decode cX9_checksum 85 = .ok (.i2l, 1) := by decide +kernel
theorem dX9_checksum_86 : decode cX9_checksum 86 = .ok (.invokevirtual 333, 3) := by decide +kernel
theorem dX9_checksum_89 : decode cX9_checksum 89 = .ok (.iconst 0, 1) := by decide +kernel
theorem dX9_checksum_90 : decode cX9_checksum 90 = .ok (.istore_n 2, 1) := by decide +kernel
theorem dX9_checksum_91 : decode cX9_checksum 91 = .ok (.iload_n 2, 1) := by decide +kernel
theorem dX9_checksum_92 : decode cX9_checksum 92 = .ok (.aload_n 0, 1) := by decide +kernel
theorem dX9_checksum_93 : decode cX9_checksum 93 = .ok (.iload_n 1, 1) := by decide +kernel
theorem dX9_checksum_94 : decode cX9_checksum 94 = .ok (.invokevirtual 51, 3) := by decide +kernel
theorem dX9_checksum_97 : decode cX9_checksum 97 = .ok (.if_icmp .ge 35, 3) := by decide +kernel
theorem dX9_checksum_100 : decode cX9_checksum 100 = .ok (.iconst 0, 1) := by decide +kernel
theorem dX9_checksum_101 : decode cX9_checksum 101 = .ok (.istore_n 3, 1) := by decide +kernel
theorem dX9_checksum_102 : decode cX9_checksum 102 = .ok (.iload_n 3, 1) := by decide +kernel
theorem dX9_checksum_103 : decode cX9_checksum 103 = .ok (.bipush 10, 2) := by decide +kernel
theorem dX9_checksum_105 : decode cX9_checksum 105 = .ok (.if_icmp .ge 21, 3) := by decide +kernel
theorem dX9_checksum_108 : decode cX9_checksum 108 = .ok (.aload_n 0, 1) := by decide +kernel
theorem dX9_checksum_109 : decode cX9_checksum 109 = .ok (.aload_n 0, 1) := by decide +kernel
theorem dX9_checksum_110 : decode cX9_checksum 110 = .ok (.iload_n 1, 1) := by decide +kernel
theorem dX9_checksum_111 : decode cX9_checksum 111 = .ok (.iload_n 2, 1) := by decide +kernel
theorem dX9_checksum_112 : decode cX9_checksum 112 = .ok (.iload_n 3, 1) := by decide +kernel
theorem dX9_checksum_113 : decode cX9_checksum 113 = .ok (.invokevirtual 164, 3) := by decide +kernel
theorem dX9_checksum_116 : decode cX9_checksum 116 = .ok (.i2l, 1) := by decide +kernel
theorem dX9_checksum_117 : decode cX9_checksum 117 = .ok (.invokevirtual 333, 3) := by decide +kernel
theorem dX9_checksum_120 : decode cX9_checksum 120 = .ok (.iinc 3 1, 3) := by decide +kernel
theorem dX9_checksum_123 : decode cX9_checksum 123 = .ok (.goto (-21), 3) := by decide +kernel
theorem dX9_checksum_126 : decode cX9_checksum 126 = .ok (.iinc 2 1, 3) := by decide +kernel
theorem dX9_checksum_129 : decode cX9_checksum 129 = .ok (.goto (-38), 3) := by decide +kernel
theorem dX9_checksum_132 : decode cX9_checksum 132 = .ok (.iinc 1 1, 3) := by decide +kernel
theorem dX9_checksum_135 : decode cX9_checksum 135 = .ok (.goto (-121), 3) := by decide +kernel
theorem dX9_checksum_138 : decode cX9_checksum 138 = .ok (.aload_n 0, 1) := by decide +kernel
theorem dX9_checksum_139 : decode cX9_checksum 139 = .ok (.aload_n 0, 1) := by decide +kernel
theorem dX9_checksum_140 : decode cX9_checksum 140 = .ok (.invokevirtual 287, 3) := by decide +kernel
theorem dX9_checksum_143 : decode cX9_checksum 143 = .ok (.i2l, 1) := by decide +kernel
theorem dX9_checksum_144 : decode cX9_checksum 144 = .ok (.invokevirtual 333, 3) := by decide +kernel
theorem dX9_checksum_147 : decode cX9_checksum 147 = .ok (.iconst 0, 1) := by decide +kernel
theorem dX9_checksum_148 : decode cX9_checksum 148 = .ok (.istore_n 1, 1) := by decide +kernel
theorem dX9_checksum_149 : decode cX9_checksum 149 = .ok (.iload_n 1, 1) := by decide +kernel
theorem dX9_checksum_150 : decode cX9_checksum 150 = .ok (.aload_n 0, 1) := by decide +kernel
theorem dX9_checksum_151 : decode cX9_checksum 151 = .ok (.invokevirtual 287, 3) := by decide +kernel
theorem dX9_checksum_154 : decode cX9_checksum 154 = .ok (.if_icmp .ge 108, 3) := by decide +kernel
theorem dX9_checksum_157 : decode cX9_checksum 157 = .ok (.iconst 0, 1) := by decide +kernel
theorem dX9_checksum_158 : decode cX9_checksum 158 = .ok (.istore_n 2, 1) := by decide +kernel
theorem dX9_checksum_159 : decode cX9_checksum 159 = .ok (.iload_n 2, 1) := by decide +kernel
theorem dX9_checksum_160 : decode cX9_checksum 160 = .ok (.bipush 10, 2) := by decide +kernel
theorem dX9_checksum_162 : decode cX9_checksum 162 = .ok (.if_icmp .ge 20, 3) := by decide +kernel
theorem dX9_checksum_165 : decode cX9_checksum 165 = .ok (.aload_n 0, 1) := by decide +kernel
theorem dX9_checksum_166 : decode cX9_checksum 166 = .ok (.aload_n 0, 1) := by decide +kernel
theorem dX9_checksum_167 : decode cX9_checksum 167 = .ok (.iload_n 1, 1) := by decide +kernel
theorem dX9_checksum_168 : decode cX9_checksum 168 = .ok (.iload_n 2, 1) := by decide +kernel
theorem dX9_checksum_169 : decode cX9_checksum 169 = .ok (.invokevirtual 308, 3) := by decide +kernel
theorem dX9_checksum_172 : decode cX9_checksum 172 = .ok (.i2l, 1) := by decide +kernel
theorem dX9_checksum_173 : decode cX9_checksum 173 = .ok (.invokevirtual 333, 3) := by decide +kernel
theorem dX9_checksum_176 : decode cX9_checksum 176 = .ok (.iinc 2 1, 3) := by decide +kernel
theorem dX9_checksum_179 : decode cX9_checksum 179 = .ok (.goto (-20), 3) := by decide +kernel
theorem dX9_checksum_182 : decode cX9_checksum 182 = .ok (.aload_n 0, 1) := by decide +kernel
theorem dX9_checksum_183 : decode cX9_checksum 183 = .ok (.iload_n 1, 1) := by decide +kernel
theorem dX9_checksum_184 : decode cX9_checksum 184 = .ok (.invokevirtual 305, 3) := by decide +kernel
theorem dX9_checksum_187 : decode cX9_checksum 187 = .ok (.aload_n 0, 1) := by decide +kernel
theorem dX9_checksum_188 : decode cX9_checksum 188 = .ok (.aload_n 0, 1) := by decide +kernel
theorem dX9_checksum_189 : decode cX9_checksum 189 = .ok (.iconst 0, 1) := by decide +kernel
theorem dX9_checksum_190 : decode cX9_checksum 190 = .ok (.invokevirtual 280, 3) := by decide +kernel
theorem dX9_checksum_193 : decode cX9_checksum 193 = .ok (.i2l, 1) := by decide +kernel
theorem dX9_checksum_194 : decode cX9_checksum 194 = .ok (.invokevirtual 333, 3) := by decide +kernel
theorem dX9_checksum_197 : decode cX9_checksum 197 = .ok (.aload_n 0, 1) := by decide +kernel
theorem dX9_checksum_198 : decode cX9_checksum 198 = .ok (.aload_n 0, 1) := by decide +kernel
theorem dX9_checksum_199 : decode cX9_checksum 199 = .ok (.iconst 1, 1) := by decide +kernel
theorem dX9_checksum_200 : decode cX9_checksum 200 = .ok (.invokevirtual 280, 3) := by decide +kernel
theorem dX9_checksum_203 : decode cX9_checksum 203 = .ok (.i2l, 1) := by decide +kernel
theorem dX9_checksum_204 : decode cX9_checksum 204 = .ok (.invokevirtual 333, 3) := by decide +kernel
theorem dX9_checksum_207 : decode cX9_checksum 207 = .ok (.aload_n 0, 1) := by decide +kernel
theorem dX9_checksum_208 : decode cX9_checksum 208 = .ok (.aload_n 0, 1) := by decide +kernel
theorem dX9_checksum_209 : decode cX9_checksum 209 = .ok (.iconst 0, 1) := by decide +kernel
theorem dX9_checksum_210 : decode cX9_checksum 210 = .ok (.invokevirtual 277, 3) := by decide +kernel
theorem dX9_checksum_213 : decode cX9_checksum 213 = .ok (.i2l, 1) := by decide +kernel
theorem dX9_checksum_214 : decode cX9_checksum 214 = .ok (.invokevirtual 333, 3) := by decide +kernel
theorem dX9_checksum_217 : decode cX9_checksum 217 = .ok (.aload_n 0, 1) := by decide +kernel
theorem dX9_checksum_218 : decode cX9_checksum 218 = .ok (.getfield 265, 3) := by decide +kernel
theorem dX9_checksum_221 : decode cX9_checksum 221 = .ok (.istore_n 2, 1) := by decide +kernel
theorem dX9_checksum_222 : decode cX9_checksum 222 = .ok (.aload_n 0, 1) := by decide +kernel
theorem dX9_checksum_223 : decode cX9_checksum 223 = .ok (.aload_n 0, 1) := by decide +kernel
theorem dX9_checksum_224 : decode cX9_checksum 224 = .ok (.iconst 1, 1) := by decide +kernel
theorem dX9_checksum_225 : decode cX9_checksum 225 = .ok (.invokevirtual 277, 3) := by decide +kernel
theorem dX9_checksum_228 : decode cX9_checksum 228 = .ok (.i2l, 1) := by decide +kernel
theorem dX9_checksum_229 : decode cX9_checksum 229 = .ok (.invokevirtual 333, 3) := by decide +kernel
theorem dX9_checksum_232 : decode cX9_checksum 232 = .ok (.aload_n 0, 1) := by decide +kernel
theorem dX9_checksum_233 : decode cX9_checksum 233 = .ok (.iload_n 2, 1) := by decide +kernel
theorem dX9_checksum_234 : decode cX9_checksum 234 = .ok (.i2l, 1) := by decide +kernel
theorem dX9_checksum_235 : decode cX9_checksum 235 = .ok (.invokevirtual 333, 3) := by decide +kernel
theorem dX9_checksum_238 : decode cX9_checksum 238 = .ok (.aload_n 0, 1) := by decide +kernel
theorem dX9_checksum_239 : decode cX9_checksum 239 = .ok (.aload_n 0, 1) := by decide +kernel
theorem dX9_checksum_240 : decode cX9_checksum 240 = .ok (.getfield 265, 3) := by decide +kernel
theorem dX9_checksum_243 : decode cX9_checksum 243 = .ok (.i2l, 1) := by decide +kernel
theorem dX9_checksum_244 : decode cX9_checksum 244 = .ok (.invokevirtual 333, 3) := by decide +kernel
theorem dX9_checksum_247 : decode cX9_checksum 247 = .ok (.aload_n 0, 1) := by decide +kernel
theorem dX9_checksum_248 : decode cX9_checksum 248 = .ok (.aload_n 0, 1) := by decide +kernel
theorem dX9_checksum_249 : decode cX9_checksum 249 = .ok (.invokevirtual 314, 3) := by decide +kernel
theorem dX9_checksum_252 : decode cX9_checksum 252 = .ok (.i2l, 1) := by decide +kernel
theorem dX9_checksum_253 : decode cX9_checksum 253 = .ok (.invokevirtual 333, 3) := by decide +kernel
theorem dX9_checksum_256 : decode cX9_checksum 256 = .ok (.iinc 1 1, 3) := by decide +kernel
theorem dX9_checksum_259 : decode cX9_checksum 259 = .ok (.goto (-110), 3) := by decide +kernel
theorem dX9_checksum_262 : decode cX9_checksum 262 = .ok (.aload_n 0, 1) := by decide +kernel
theorem dX9_checksum_263 : decode cX9_checksum 263 = .ok (.aload_n 0, 1) := by decide +kernel
theorem dX9_checksum_264 : decode cX9_checksum 264 = .ok (.getfield 16, 3) := by decide +kernel
theorem dX9_checksum_267 : decode cX9_checksum 267 = .ok (.iconst 0, 1) := by decide +kernel
theorem dX9_checksum_268 : decode cX9_checksum 268 = .ok (.iaload, 1) := by decide +kernel
theorem dX9_checksum_269 : decode cX9_checksum 269 = .ok (.i2l, 1) := by decide +kernel
theorem dX9_checksum_270 : decode cX9_checksum 270 = .ok (.invokevirtual 333, 3) := by decide +kernel
theorem dX9_checksum_273 : decode cX9_checksum 273 = .ok (.aload_n 0, 1) := by decide +kernel
theorem dX9_checksum_274 : decode cX9_checksum 274 = .ok (.aload_n 0, 1) := by decide +kernel
theorem dX9_checksum_275 : decode cX9_checksum 275 = .ok (.getfield 16, 3) := by decide +kernel
theorem dX9_checksum_278 : decode cX9_checksum 278 = .ok (.iconst 1, 1) := by decide +kernel
theorem dX9_checksum_279 : decode cX9_checksum 279 = .ok (.iaload, 1) := by decide +kernel
theorem dX9_checksum_280 : decode cX9_checksum 280 = .ok (.i2l, 1) := by decide +kernel
theorem dX9_checksum_281 : decode cX9_checksum 281 = .ok (.invokevirtual 333, 3) := by decide +kernel
theorem dX9_checksum_284 : decode cX9_checksum 284 = .ok (.aload_n 0, 1) := by decide +kernel
theorem dX9_checksum_285 : decode cX9_checksum 285 = .ok (.aload_n 0, 1) := by decide +kernel
theorem dX9_checksum_286 : decode cX9_checksum 286 = .ok (.getfield 59, 3) := by decide +kernel
theorem dX9_checksum_289 : decode cX9_checksum 289 = .ok (.i2l, 1) := by decide +kernel
theorem dX9_checksum_290 : decode cX9_checksum 290 = .ok (.invokevirtual 333, 3) := by decide +kernel
theorem dX9_checksum_293 : decode cX9_checksum 293 = .ok (.aload_n 0, 1) := by decide +kernel
theorem dX9_checksum_294 : decode cX9_checksum 294 = .ok (.getfield 325, 3) := by decide +kernel
theorem dX9_checksum_297 : decode cX9_checksum 297 = .ok (.lreturn, 1) := by decide +kernel
theorem dX9_classInfo_0 : decode cX9_classInfo 0 = .ok (.aload_n 0, 1) := by decide +kernel
theorem dX9_classInfo_1 : decode cX9_classInfo 1 = .ok (.aload_n 0, 1) := by decide +kernel
theorem dX9_classInfo_2 : decode cX9_classInfo 2 = .ok (.iload_n 1, 1) := by decide +kernel
theorem dX9_classInfo_3 : decode cX9_classInfo 3 = .ok (.iload_n 2, 1) := by decide +kernel
theorem dX9_classInfo_4 : decode cX9_classInfo 4 = .ok (.invokevirtual 77, 3) := by decide +kernel
theorem dX9_classInfo_7 : decode cX9_classInfo 7 = .ok (.ifCond .ne 7, 3) := by decide +kernel
theorem dX9_classInfo_10 : decode cX9_classInfo 10 = .ok (.iconst 1, 1) := by decide +kernel
theorem dX9_classInfo_11 : decode cX9_classInfo 11 = .ok (.goto 18, 3) := by decide +kernel
theorem dX9_classInfo_14 : decode cX9_classInfo 14 = .ok (.iload_n 3, 1) := by decide +kernel
theorem dX9_classInfo_15 : decode cX9_classInfo 15 = .ok (.iconst 0, 1) := by decide +kernel
theorem dX9_classInfo_16 : decode cX9_classInfo 16 = .ok (.bipush 9, 2) := by decide +kernel
theorem dX9_classInfo_18 : decode cX9_classInfo 18 = .ok (.invokestatic 66, 3) := by decide +kernel
theorem dX9_classInfo_21 : decode cX9_classInfo 21 = .ok (.ifCond .ne 7, 3) := by decide +kernel
theorem dX9_classInfo_24 : decode cX9_classInfo 24 = .ok (.iconst 2, 1) := by decide +kernel
theorem dX9_classInfo_25 : decode cX9_classInfo 25 = .ok (.goto 4, 3) := by decide +kernel
theorem dX9_classInfo_28 : decode cX9_classInfo 28 = .ok (.iconst 0, 1) := by decide +kernel
theorem dX9_classInfo_29 : decode cX9_classInfo 29 = .ok (.invokevirtual 62, 3) := by decide +kernel
theorem dX9_classInfo_32 : decode cX9_classInfo 32 = .ok (.ifCond .eq 5, 3) := by decide +kernel
theorem dX9_classInfo_35 : decode cX9_classInfo 35 = .ok (.iconst 0, 1) := by decide +kernel
theorem dX9_classInfo_36 : decode cX9_classInfo 36 = .ok (.ireturn, 1) := by decide +kernel
theorem dX9_classInfo_37 : decode cX9_classInfo 37 = .ok (.aload_n 0, 1) := by decide +kernel
theorem dX9_classInfo_38 : decode cX9_classInfo 38 = .ok (.iload_n 1, 1) := by decide +kernel
theorem dX9_classInfo_39 : decode cX9_classInfo 39 = .ok (.iload_n 2, 1) := by decide +kernel
theorem dX9_classInfo_40 : decode cX9_classInfo 40 = .ok (.iload_n 3, 1) := by decide +kernel
theorem dX9_classInfo_41 : decode cX9_classInfo 41 = .ok (.invokevirtual 131, 3) := by decide +kernel
theorem dX9_classInfo_44 : decode cX9_classInfo 44 = .ok (.ireturn, 1) := by decide +kernel
theorem dX9_classMany_0 : decode cX9_classMany 0 = .ok (.iconst 0, 1) := by decide +kernel
theorem dX9_classMany_1 : decode cX9_classMany 1 = .ok (.istore_n 2, 1) := by decide +kernel
theorem dX9_classMany_2 : decode cX9_classMany 2 = .ok (.iconst 0, 1) := by decide +kernel
theorem dX9_classMany_3 : decode cX9_classMany 3 = .ok (.istore_n 3, 1) := by decide +kernel
theorem dX9_classMany_4 : decode cX9_classMany 4 = .ok (.iload_n 3, 1) := by decide +kernel
theorem dX9_classMany_5 : decode cX9_classMany 5 = .ok (.bipush 10, 2) := by decide +kernel
theorem dX9_classMany_7 : decode cX9_classMany 7 = .ok (.if_icmp .ge 19, 3) := by decide +kernel
theorem dX9_classMany_10 : decode cX9_classMany 10 = .ok (.iload_n 2, 1) := by decide +kernel
theorem dX9_classMany_11 : decode cX9_classMany 11 = .ok (.aload_n 0, 1) := by decide +kernel
theorem dX9_classMany_12 : decode cX9_classMany 12 = .ok (.iload_n 1, 1) := by decide +kernel
theorem dX9_classMany_13 : decode cX9_classMany 13 = .ok (.iload_n 3, 1) := by decide +kernel
theorem dX9_classMany_14 : decode cX9_classMany 14 = .ok (.iconst 0, 1) := by decide +kernel
theorem dX9_classMany_15 : decode cX9_classMany 15 = .ok (.invokevirtual 73, 3) := by decide +kernel
theorem dX9_classMany_18 : decode cX9_classMany 18 = .ok (.iadd, 1) := by decide +kernel
theorem dX9_classMany_19 : decode cX9_classMany 19 = .ok (.istore_n 2, 1) := by decide +kernel
theorem dX9_classMany_20 : decode cX9_classMany 20 = .ok (.iinc 3 1, 3) := by decide +kernel
theorem dX9_classMany_23 : decode cX9_classMany 23 = .ok (.goto (-19), 3) := by decide +kernel
theorem dX9_classMany_26 : decode cX9_classMany 26 = .ok (.iload_n 2, 1) := by decide +kernel
theorem dX9_classMany_27 : decode cX9_classMany 27 = .ok (.ireturn, 1) := by decide +kernel
theorem dX9_isClient_0 : decode cX9_isClient 0 = .ok (.iload_n 1, 1) := by decide +kernel
theorem dX9_isClient_1 : decode cX9_isClient 1 = .ok (.iconst 0, 1) := by decide +kernel
theorem dX9_isClient_2 : decode cX9_isClient 2 = .ok (.aload_n 0, 1) := by decide +kernel
theorem dX9_isClient_3 : decode cX9_isClient 3 = .ok (.invokevirtual 287, 3) := by decide +kernel
theorem dX9_isClient_6 : decode cX9_isClient 6 = .ok (.iconst 1, 1) := by decide +kernel
theorem dX9_isClient_7 : decode cX9_isClient 7 = .ok (.isub, 1) := by decide +kernel
theorem dX9_isClient_8 : decode cX9_isClient 8 = .ok (.invokestatic 66, 3) := by decide +kernel
theorem dX9_isClient_11 : decode cX9_isClient 11 = .ok (.ireturn, 1) := by decide +kernel
theorem dX9_clientInfo_0 : decode cX9_clientInfo 0 = .ok (.aload_n 0, 1) := by decide +kernel
theorem dX9_clientInfo_1 : decode cX9_clientInfo 1 = .ok (.aload_n 0, 1) := by decide +kernel
theorem dX9_clientInfo_2 : decode cX9_clientInfo 2 = .ok (.iload_n 1, 1) := by decide +kernel
theorem dX9_clientInfo_3 : decode cX9_clientInfo 3 = .ok (.invokevirtual 302, 3) := by decide +kernel
theorem dX9_clientInfo_6 : decode cX9_clientInfo 6 = .ok (.ifCond .ne 7, 3) := by decide +kernel
theorem dX9_clientInfo_9 : decode cX9_clientInfo 9 = .ok (.iconst 1, 1) := by decide +kernel
theorem dX9_clientInfo_10 : decode cX9_clientInfo 10 = .ok (.goto 18, 3) := by decide +kernel
theorem dX9_clientInfo_13 : decode cX9_clientInfo 13 = .ok (.iload_n 2, 1) := by decide +kernel
theorem dX9_clientInfo_14 : decode cX9_clientInfo 14 = .ok (.iconst 0, 1) := by decide +kernel
theorem dX9_clientInfo_15 : decode cX9_clientInfo 15 = .ok (.bipush 9, 2) := by decide +kernel
theorem dX9_clientInfo_17 : decode cX9_clientInfo 17 = .ok (.invokestatic 66, 3) := by decide +kernel
theorem dX9_clientInfo_20 : decode cX9_clientInfo 20 = .ok (.ifCond .ne 7, 3) := by decide +kernel
theorem dX9_clientInfo_23 : decode cX9_clientInfo 23 = .ok (.iconst 2, 1) := by decide +kernel
theorem dX9_clientInfo_24 : decode cX9_clientInfo 24 = .ok (.goto 4, 3) := by decide +kernel
theorem dX9_clientInfo_27 : decode cX9_clientInfo 27 = .ok (.iconst 0, 1) := by decide +kernel
theorem dX9_clientInfo_28 : decode cX9_clientInfo 28 = .ok (.invokevirtual 62, 3) := by decide +kernel
theorem dX9_clientInfo_31 : decode cX9_clientInfo 31 = .ok (.ifCond .eq 5, 3) := by decide +kernel
theorem dX9_clientInfo_34 : decode cX9_clientInfo 34 = .ok (.iconst 0, 1) := by decide +kernel
theorem dX9_clientInfo_35 : decode cX9_clientInfo 35 = .ok (.ireturn, 1) := by decide +kernel
theorem dX9_clientInfo_36 : decode cX9_clientInfo 36 = .ok (.aload_n 0, 1) := by decide +kernel
theorem dX9_clientInfo_37 : decode cX9_clientInfo 37 = .ok (.iload_n 1, 1) := by decide +kernel
theorem dX9_clientInfo_38 : decode cX9_clientInfo 38 = .ok (.iload_n 2, 1) := by decide +kernel
theorem dX9_clientInfo_39 : decode cX9_clientInfo 39 = .ok (.invokevirtual 308, 3) := by decide +kernel
theorem dX9_clientInfo_42 : decode cX9_clientInfo 42 = .ok (.ireturn, 1) := by decide +kernel
theorem dX9_clients_0 : decode cX9_clients 0 = .ok (.aload_n 0, 1) := by decide +kernel
theorem dX9_clients_1 : decode cX9_clients 1 = .ok (.iconst 0, 1) := by decide +kernel
theorem dX9_clients_2 : decode cX9_clients 2 = .ok (.putfield 55, 3) := by decide +kernel
theorem dX9_clients_5 : decode cX9_clients 5 = .ok (.aload_n 0, 1) := by decide +kernel
theorem dX9_clients_6 : decode cX9_clients 6 = .ok (.invokevirtual 287, 3) := by decide +kernel
theorem dX9_clients_9 : decode cX9_clients 9 = .ok (.ireturn, 1) := by decide +kernel
theorem dX9_isBoth_0 : decode cX9_isBoth 0 = .ok (.aload_n 0, 1) := by decide +kernel
theorem dX9_isBoth_1 : decode cX9_isBoth 1 = .ok (.iload_n 1, 1) := by decide +kernel
theorem dX9_isBoth_2 : decode cX9_isBoth 2 = .ok (.invokevirtual 302, 3) := by decide +kernel
theorem dX9_isBoth_5 : decode cX9_isBoth 5 = .ok (.ifCond .eq 14, 3) := by decide +kernel
theorem dX9_isBoth_8 : decode cX9_isBoth 8 = .ok (.iload_n 2, 1) := by decide +kernel
theorem dX9_isBoth_9 : decode cX9_isBoth 9 = .ok (.invokestatic 70, 3) := by decide +kernel
theorem dX9_isBoth_12 : decode cX9_isBoth 12 = .ok (.ifCond .eq 7, 3) := by decide +kernel
theorem dX9_isBoth_15 : decode cX9_isBoth 15 = .ok (.iconst 1, 1) := by decide +kernel
theorem dX9_isBoth_16 : decode cX9_isBoth 16 = .ok (.goto 4, 3) := by decide +kernel
theorem dX9_isBoth_19 : decode cX9_isBoth 19 = .ok (.iconst 0, 1) := by decide +kernel
theorem dX9_isBoth_20 : decode cX9_isBoth 20 = .ok (.ireturn, 1) := by decide +kernel
theorem dX9_compile_0 : decode cX9_compile 0 = .ok (.aload_n 0, 1) := by decide +kernel
theorem dX9_compile_1 : decode cX9_compile 1 = .ok (.aload_n 0, 1) := by decide +kernel
theorem dX9_compile_2 : decode cX9_compile 2 = .ok (.iload_n 1, 1) := by decide +kernel
theorem dX9_compile_3 : decode cX9_compile 3 = .ok (.iload_n 2, 1) := by decide +kernel
theorem dX9_compile_4 : decode cX9_compile 4 = .ok (.invokevirtual 311, 3) := by decide +kernel
theorem dX9_compile_7 : decode cX9_compile 7 = .ok (.ifCond .eq 7, 3) := by decide +kernel
theorem dX9_compile_10 : decode cX9_compile 10 = .ok (.iconst 0, 1) := by decide +kernel
theorem dX9_compile_11 : decode cX9_compile 11 = .ok (.goto 4, 3) := by decide +kernel
theorem dX9_compile_14 : decode cX9_compile 14 = .ok (.iconst 1, 1) := by decide +kernel
theorem dX9_compile_15 : decode cX9_compile 15 = .ok (.invokevirtual 62, 3) := by decide +kernel
theorem dX9_compile_18 : decode cX9_compile 18 = .ok (.ifCond .eq 5, 3) := by decide +kernel
theorem dX9_compile_21 : decode cX9_compile 21 = .ok (.iconst 0, 1) := by decide +kernel
theorem dX9_compile_22 : decode cX9_compile 22 = .ok (.ireturn, 1) := by decide +kernel
theorem dX9_compile_23 : decode cX9_compile 23 = .ok (.aload_n 0, 1) := by decide +kernel
theorem dX9_compile_24 : decode cX9_compile 24 = .ok (.iload_n 1, 1) := by decide +kernel
theorem dX9_compile_25 : decode cX9_compile 25 = .ok (.invokevirtual 305, 3) := by decide +kernel
theorem dX9_compile_28 : decode cX9_compile 28 = .ok (.aload_n 0, 1) := by decide +kernel
theorem dX9_compile_29 : decode cX9_compile 29 = .ok (.iload_n 2, 1) := by decide +kernel
theorem dX9_compile_30 : decode cX9_compile 30 = .ok (.invokevirtual 280, 3) := by decide +kernel
theorem dX9_compile_33 : decode cX9_compile 33 = .ok (.ireturn, 1) := by decide +kernel
theorem dX9_copyVersion_0 : decode cX9_copyVersion 0 = .ok (.aload_n 0, 1) := by decide +kernel
theorem dX9_copyVersion_1 : decode cX9_copyVersion 1 = .ok (.iconst 0, 1) := by decide +kernel
theorem dX9_copyVersion_2 : decode cX9_copyVersion 2 = .ok (.putfield 55, 3) := by decide +kernel
theorem dX9_copyVersion_5 : decode cX9_copyVersion 5 = .ok (.aload_n 0, 1) := by decide +kernel
theorem dX9_copyVersion_6 : decode cX9_copyVersion 6 = .ok (.invokevirtual 93, 3) := by decide +kernel
theorem dX9_copyVersion_9 : decode cX9_copyVersion 9 = .ok (.iconst 0, 1) := by decide +kernel
theorem dX9_copyVersion_10 : decode cX9_copyVersion 10 = .ok (.istore_n 1, 1) := by decide +kernel
theorem dX9_copyVersion_11 : decode cX9_copyVersion 11 = .ok (.iload_n 1, 1) := by decide +kernel
theorem dX9_copyVersion_12 : decode cX9_copyVersion 12 = .ok (.sipush 481, 3) := by decide +kernel
theorem dX9_copyVersion_15 : decode cX9_copyVersion 15 = .ok (.if_icmp .ge 25, 3) := by decide +kernel
theorem dX9_copyVersion_18 : decode cX9_copyVersion 18 = .ok (.aload_n 0, 1) := by decide +kernel
theorem dX9_copyVersion_19 : decode cX9_copyVersion 19 = .ok (.getfield 7, 3) := by decide +kernel
theorem dX9_copyVersion_22 : decode cX9_copyVersion 22 = .ok (.sipush 481, 3) := by decide +kernel
theorem dX9_copyVersion_25 : decode cX9_copyVersion 25 = .ok (.iload_n 1, 1) := by decide +kernel
theorem dX9_copyVersion_26 : decode cX9_copyVersion 26 = .ok (.iadd, 1) := by decide +kernel
theorem dX9_copyVersion_27 : decode cX9_copyVersion 27 = .ok (.aload_n 0, 1) := by decide +kernel
theorem dX9_copyVersion_28 : decode cX9_copyVersion 28 = .ok (.getfield 7, 3) := by decide +kernel
theorem dX9_copyVersion_31 : decode cX9_copyVersion 31 = .ok (.iload_n 1, 1) := by decide +kernel
theorem dX9_copyVersion_32 : decode cX9_copyVersion 32 = .ok (.iaload, 1) := by decide +kernel
theorem dX9_copyVersion_33 : decode cX9_copyVersion 33 = .ok (.iastore, 1) := by decide +kernel
theorem dX9_copyVersion_34 : decode cX9_copyVersion 34 = .ok (.iinc 1 1, 3) := by decide +kernel
theorem dX9_copyVersion_37 : decode cX9_copyVersion 37 = .ok (.goto (-26), 3) := by decide +kernel
theorem dX9_copyVersion_40 : decode cX9_copyVersion 40 = .ok (.aload_n 0, 1) := by decide +kernel
theorem dX9_copyVersion_41 : decode cX9_copyVersion 41 = .ok (.iconst 1, 1) := by decide +kernel
theorem dX9_copyVersion_42 : decode cX9_copyVersion 42 = .ok (.invokevirtual 51, 3) := by decide +kernel
theorem dX9_copyVersion_45 : decode cX9_copyVersion 45 = .ok (.ireturn, 1) := by decide +kernel
theorem dX9_count_0 : decode cX9_count 0 = .ok (.aload_n 0, 1) := by decide +kernel
theorem dX9_count_1 : decode cX9_count 1 = .ok (.iload_n 1, 1) := by decide +kernel
theorem dX9_count_2 : decode cX9_count 2 = .ok (.iconst 0, 1) := by decide +kernel
theorem dX9_count_3 : decode cX9_count 3 = .ok (.iconst 5, 1) := by decide +kernel
theorem dX9_count_4 : decode cX9_count 4 = .ok (.invokestatic 66, 3) := by decide +kernel
theorem dX9_count_7 : decode cX9_count 7 = .ok (.ifCond .eq 7, 3) := by decide +kernel
theorem dX9_count_10 : decode cX9_count 10 = .ok (.iconst 0, 1) := by decide +kernel
theorem dX9_count_11 : decode cX9_count 11 = .ok (.goto 4, 3) := by decide +kernel
theorem dX9_count_14 : decode cX9_count 14 = .ok (.iconst 1, 1) := by decide +kernel
theorem dX9_count_15 : decode cX9_count 15 = .ok (.invokevirtual 62, 3) := by decide +kernel
theorem dX9_count_18 : decode cX9_count 18 = .ok (.ifCond .eq 5, 3) := by decide +kernel
theorem dX9_count_21 : decode cX9_count 21 = .ok (.iconst 0, 1) := by decide +kernel
theorem dX9_count_22 : decode cX9_count 22 = .ok (.ireturn, 1) := by decide +kernel
theorem dX9_count_23 : decode cX9_count 23 = .ok (.iconst 0, 1) := by decide +kernel
theorem dX9_count_24 : decode cX9_count 24 = .ok (.istore_n 2, 1) := by decide +kernel
theorem dX9_count_25 : decode cX9_count 25 = .ok (.iconst 0, 1) := by decide +kernel
theorem dX9_count_26 : decode cX9_count 26 = .ok (.istore_n 3, 1) := by decide +kernel
theorem dX9_count_27 : decode cX9_count 27 = .ok (.iload_n 3, 1) := by decide +kernel
theorem dX9_count_28 : decode cX9_count 28 = .ok (.aload_n 0, 1) := by decide +kernel
theorem dX9_count_29 : decode cX9_count 29 = .ok (.invokevirtual 287, 3) := by decide +kernel
theorem dX9_count_32 : decode cX9_count 32 = .ok (.if_icmp .ge 30, 3) := by decide +kernel
theorem dX9_count_35 : decode cX9_count 35 = .ok (.aload_n 0, 1) := by decide +kernel
theorem dX9_count_36 : decode cX9_count 36 = .ok (.iload_n 3, 1) := by decide +kernel
theorem dX9_count_37 : decode cX9_count 37 = .ok (.invokevirtual 305, 3) := by decide +kernel
theorem dX9_count_40 : decode cX9_count 40 = .ok (.iload_n 2, 1) := by decide +kernel
theorem dX9_count_41 : decode cX9_count 41 = .ok (.aload_n 0, 1) := by decide +kernel
theorem dX9_count_42 : decode cX9_count 42 = .ok (.invokevirtual 314, 3) := by decide +kernel
theorem dX9_count_45 : decode cX9_count 45 = .ok (.iload_n 1, 1) := by decide +kernel
theorem dX9_count_46 : decode cX9_count 46 = .ok (.if_icmp .ne 7, 3) := by decide +kernel
theorem dX9_count_49 : decode cX9_count 49 = .ok (.iconst 1, 1) := by decide +kernel
theorem dX9_count_50 : decode cX9_count 50 = .ok (.goto 4, 3) := by decide +kernel
theorem dX9_count_53 : decode cX9_count 53 = .ok (.iconst 0, 1) := by decide +kernel
theorem dX9_count_54 : decode cX9_count 54 = .ok (.iadd, 1) := by decide +kernel
theorem dX9_count_55 : decode cX9_count 55 = .ok (.istore_n 2, 1) := by decide +kernel
theorem dX9_count_56 : decode cX9_count 56 = .ok (.iinc 3 1, 3) := by decide +kernel
theorem dX9_count_59 : decode cX9_count 59 = .ok (.goto (-32), 3) := by decide +kernel
theorem dX9_count_62 : decode cX9_count 62 = .ok (.iload_n 2, 1) := by decide +kernel
theorem dX9_count_63 : decode cX9_count 63 = .ok (.ireturn, 1) := by decide +kernel
theorem dX9_mayBeAbove_0 : decode cX9_mayBeAbove 0 = .ok (.iload_n 3, 1) := by decide +kernel
theorem dX9_mayBeAbove_1 : decode cX9_mayBeAbove 1 = .ok (.iload_n 2, 1) := by decide +kernel
theorem dX9_mayBeAbove_2 : decode cX9_mayBeAbove 2 = .ok (.if_icmp .ge 36, 3) := by decide +kernel
theorem dX9_mayBeAbove_5 : decode cX9_mayBeAbove 5 = .ok (.aload_n 0, 1) := by decide +kernel
theorem dX9_mayBeAbove_6 : decode cX9_mayBeAbove 6 = .ok (.iload_n 1, 1) := by decide +kernel
theorem dX9_mayBeAbove_7 : decode cX9_mayBeAbove 7 = .ok (.iload_n 3, 1) := by decide +kernel
theorem dX9_mayBeAbove_8 : decode cX9_mayBeAbove 8 = .ok (.invokevirtual 77, 3) := by decide +kernel
theorem dX9_mayBeAbove_11 : decode cX9_mayBeAbove 11 = .ok (.ifCond .eq 27, 3) := by decide +kernel
theorem dX9_mayBeAbove_14 : decode cX9_mayBeAbove 14 = .ok (.aload_n 0, 1) := by decide +kernel
theorem dX9_mayBeAbove_15 : decode cX9_mayBeAbove 15 = .ok (.iload_n 1, 1) := by decide +kernel
theorem dX9_mayBeAbove_16 : decode cX9_mayBeAbove 16 = .ok (.iload_n 3, 1) := by decide +kernel
theorem dX9_mayBeAbove_17 : decode cX9_mayBeAbove 17 = .ok (.invokevirtual 81, 3) := by decide +kernel
theorem dX9_mayBeAbove_20 : decode cX9_mayBeAbove 20 = .ok (.ifCond .ne 18, 3) := by decide +kernel
theorem dX9_mayBeAbove_23 : decode cX9_mayBeAbove 23 = .ok (.aload_n 0, 1) := by decide +kernel
theorem dX9_mayBeAbove_24 : decode cX9_mayBeAbove 24 = .ok (.iload_n 1, 1) := by decide +kernel
theorem dX9_mayBeAbove_25 : decode cX9_mayBeAbove 25 = .ok (.iload_n 3, 1) := by decide +kernel
theorem dX9_mayBeAbove_26 : decode cX9_mayBeAbove 26 = .ok (.bipush 6, 2) := by decide +kernel
theorem dX9_mayBeAbove_28 : decode cX9_mayBeAbove 28 = .ok (.invokevirtual 73, 3) := by decide +kernel
theorem dX9_mayBeAbove_31 : decode cX9_mayBeAbove 31 = .ok (.ifCond .ne 7, 3) := by decide +kernel
theorem dX9_mayBeAbove_34 : decode cX9_mayBeAbove 34 = .ok (.iconst 1, 1) := by decide +kernel
theorem dX9_mayBeAbove_35 : decode cX9_mayBeAbove 35 = .ok (.goto 4, 3) := by decide +kernel
theorem dX9_mayBeAbove_38 : decode cX9_mayBeAbove 38 = .ok (.iconst 0, 1) := by decide +kernel
theorem dX9_mayBeAbove_39 : decode cX9_mayBeAbove 39 = .ok (.ireturn, 1) := by decide +kernel
theorem dX9_puts_0 : decode cX9_puts 0 = .ok (.iload_n 1, 1) := by decide +kernel
theorem dX9_puts_1 : decode cX9_puts 1 = .ok (.iload_n 2, 1) := by decide +kernel
theorem dX9_puts_2 : decode cX9_puts 2 = .ok (.invokestatic 48, 3) := by decide +kernel
theorem dX9_puts_5 : decode cX9_puts 5 = .ok (.istore 9, 2) := by decide +kernel
theorem dX9_puts_7 : decode cX9_puts 7 = .ok (.aload_n 0, 1) := by decide +kernel
theorem dX9_puts_8 : decode cX9_puts 8 = .ok (.getfield 7, 3) := by decide +kernel
theorem dX9_puts_11 : decode cX9_puts 11 = .ok (.iload 9, 2) := by decide +kernel
theorem dX9_puts_13 : decode cX9_puts 13 = .ok (.iconst 0, 1) := by decide +kernel
theorem dX9_puts_14 : decode cX9_puts 14 = .ok (.iadd, 1) := by decide +kernel
theorem dX9_puts_15 : decode cX9_puts 15 = .ok (.iconst 1, 1) := by decide +kernel
theorem dX9_puts_16 : decode cX9_puts 16 = .ok (.iastore, 1) := by decide +kernel
theorem dX9_puts_17 : decode cX9_puts 17 = .ok (.aload_n 0, 1) := by decide +kernel
theorem dX9_puts_18 : decode cX9_puts 18 = .ok (.getfield 7, 3) := by decide +kernel
theorem dX9_puts_21 : decode cX9_puts 21 = .ok (.iload 9, 2) := by decide +kernel
theorem dX9_puts_23 : decode cX9_puts 23 = .ok (.iconst 1, 1) := by decide +kernel
theorem dX9_puts_24 : decode cX9_puts 24 = .ok (.iadd, 1) := by decide +kernel
theorem dX9_puts_25 : decode cX9_puts 25 = .ok (.iload_n 3, 1) := by decide +kernel
theorem dX9_puts_26 : decode cX9_puts 26 = .ok (.ifCond .eq 7, 3) := by decide +kernel
theorem dX9_puts_29 : decode cX9_puts 29 = .ok (.iconst 1, 1) := by decide +kernel
theorem dX9_puts_30 : decode cX9_puts 30 = .ok (.goto 4, 3) := by decide +kernel
theorem dX9_puts_33 : decode cX9_puts 33 = .ok (.iconst 0, 1) := by decide +kernel
theorem dX9_puts_34 : decode cX9_puts 34 = .ok (.iastore, 1) := by decide +kernel
theorem dX9_puts_35 : decode cX9_puts 35 = .ok (.aload_n 0, 1) := by decide +kernel
theorem dX9_puts_36 : decode cX9_puts 36 = .ok (.getfield 7, 3) := by decide +kernel
theorem dX9_puts_39 : decode cX9_puts 39 = .ok (.iload 9, 2) := by decide +kernel
theorem dX9_puts_41 : decode cX9_puts 41 = .ok (.iconst 2, 1) := by decide +kernel
theorem dX9_puts_42 : decode cX9_puts 42 = .ok (.iadd, 1) := by decide +kernel
theorem dX9_puts_43 : decode cX9_puts 43 = .ok (.iload 4, 2) := by decide +kernel
theorem dX9_puts_45 : decode cX9_puts 45 = .ok (.iastore, 1) := by decide +kernel
theorem dX9_puts_46 : decode cX9_puts 46 = .ok (.aload_n 0, 1) := by decide +kernel
theorem dX9_puts_47 : decode cX9_puts 47 = .ok (.getfield 7, 3) := by decide +kernel
theorem dX9_puts_50 : decode cX9_puts 50 = .ok (.iload 9, 2) := by decide +kernel
theorem dX9_puts_52 : decode cX9_puts 52 = .ok (.iconst 3, 1) := by decide +kernel
theorem dX9_puts_53 : decode cX9_puts 53 = .ok (.iadd, 1) := by decide +kernel
theorem dX9_puts_54 : decode cX9_puts 54 = .ok (.iload 5, 2) := by decide +kernel
theorem dX9_puts_56 : decode cX9_puts 56 = .ok (.iastore, 1) := by decide +kernel
theorem dX9_puts_57 : decode cX9_puts 57 = .ok (.aload_n 0, 1) := by decide +kernel
theorem dX9_puts_58 : decode cX9_puts 58 = .ok (.getfield 7, 3) := by decide +kernel
theorem dX9_puts_61 : decode cX9_puts 61 = .ok (.iload 9, 2) := by decide +kernel
theorem dX9_puts_63 : decode cX9_puts 63 = .ok (.iconst 4, 1) := by decide +kernel
theorem dX9_puts_64 : decode cX9_puts 64 = .ok (.iadd, 1) := by decide +kernel
theorem dX9_puts_65 : decode cX9_puts 65 = .ok (.iload 6, 2) := by decide +kernel
theorem dX9_puts_67 : decode cX9_puts 67 = .ok (.iastore, 1) := by decide +kernel
theorem dX9_puts_68 : decode cX9_puts 68 = .ok (.aload_n 0, 1) := by decide +kernel
theorem dX9_puts_69 : decode cX9_puts 69 = .ok (.getfield 7, 3) := by decide +kernel
theorem dX9_puts_72 : decode cX9_puts 72 = .ok (.iload 9, 2) := by decide +kernel
theorem dX9_puts_74 : decode cX9_puts 74 = .ok (.iconst 5, 1) := by decide +kernel
theorem dX9_puts_75 : decode cX9_puts 75 = .ok (.iadd, 1) := by decide +kernel
theorem dX9_puts_76 : decode cX9_puts 76 = .ok (.iload 7, 2) := by decide +kernel
theorem dX9_puts_78 : decode cX9_puts 78 = .ok (.iastore, 1) := by decide +kernel
theorem dX9_puts_79 : decode cX9_puts 79 = .ok (.aload_n 0, 1) := by decide +kernel
theorem dX9_puts_80 : decode cX9_puts 80 = .ok (.getfield 7, 3) := by decide +kernel
theorem dX9_puts_83 : decode cX9_puts 83 = .ok (.iload 9, 2) := by decide +kernel
theorem dX9_puts_85 : decode cX9_puts 85 = .ok (.bipush 6, 2) := by decide +kernel
theorem dX9_puts_87 : decode cX9_puts 87 = .ok (.iadd, 1) := by decide +kernel
theorem dX9_puts_88 : decode cX9_puts 88 = .ok (.iconst 0, 1) := by decide +kernel
theorem dX9_puts_89 : decode cX9_puts 89 = .ok (.iastore, 1) := by decide +kernel
theorem dX9_puts_90 : decode cX9_puts 90 = .ok (.aload_n 0, 1) := by decide +kernel
theorem dX9_puts_91 : decode cX9_puts 91 = .ok (.getfield 7, 3) := by decide +kernel
theorem dX9_puts_94 : decode cX9_puts 94 = .ok (.iload 9, 2) := by decide +kernel
theorem dX9_puts_96 : decode cX9_puts 96 = .ok (.bipush 7, 2) := by decide +kernel
theorem dX9_puts_98 : decode cX9_puts 98 = .ok (.iadd, 1) := by decide +kernel
theorem dX9_puts_99 : decode cX9_puts 99 = .ok (.iload 8, 2) := by decide +kernel
theorem dX9_puts_101 : decode cX9_puts 101 = .ok (.iastore, 1) := by decide +kernel
theorem dX9_puts_102 : decode cX9_puts 102 = .ok (.return_, 1) := by decide +kernel
theorem dX9_define_0 : decode cX9_define 0 = .ok (.iload_n 1, 1) := by decide +kernel
theorem dX9_define_1 : decode cX9_define 1 = .ok (.invokestatic 70, 3) := by decide +kernel
theorem dX9_define_4 : decode cX9_define 4 = .ok (.ifCond .eq 17, 3) := by decide +kernel
theorem dX9_define_7 : decode cX9_define 7 = .ok (.iload_n 2, 1) := by decide +kernel
theorem dX9_define_8 : decode cX9_define 8 = .ok (.iconst 1, 1) := by decide +kernel
theorem dX9_define_9 : decode cX9_define 9 = .ok (.bipush 9, 2) := by decide +kernel
theorem dX9_define_11 : decode cX9_define 11 = .ok (.invokestatic 66, 3) := by decide +kernel
theorem dX9_define_14 : decode cX9_define 14 = .ok (.ifCond .eq 7, 3) := by decide +kernel
theorem dX9_define_17 : decode cX9_define 17 = .ok (.iconst 1, 1) := by decide +kernel
theorem dX9_define_18 : decode cX9_define 18 = .ok (.goto 4, 3) := by decide +kernel
theorem dX9_define_21 : decode cX9_define 21 = .ok (.iconst 0, 1) := by decide +kernel
theorem dX9_define_22 : decode cX9_define 22 = .ok (.istore 6, 2) := by decide +kernel
theorem dX9_define_24 : decode cX9_define 24 = .ok (.iload 6, 2) := by decide +kernel
theorem dX9_define_26 : decode cX9_define 26 = .ok (.ifCond .eq 33, 3) := by decide +kernel
theorem dX9_define_29 : decode cX9_define 29 = .ok (.iload_n 3, 1) := by decide +kernel
theorem dX9_define_30 : decode cX9_define 30 = .ok (.ifCond .ne 14, 3) := by decide +kernel
theorem dX9_define_33 : decode cX9_define 33 = .ok (.aload_n 0, 1) := by decide +kernel
theorem dX9_define_34 : decode cX9_define 34 = .ok (.iload_n 1, 1) := by decide +kernel
theorem dX9_define_35 : decode cX9_define 35 = .ok (.iload_n 2, 1) := by decide +kernel
theorem dX9_define_36 : decode cX9_define 36 = .ok (.iload 4, 2) := by decide +kernel
theorem dX9_define_38 : decode cX9_define 38 = .ok (.invokevirtual 87, 3) := by decide +kernel
theorem dX9_define_41 : decode cX9_define 41 = .ok (.ifCond .eq 18, 3) := by decide +kernel
theorem dX9_define_44 : decode cX9_define 44 = .ok (.aload_n 0, 1) := by decide +kernel
theorem dX9_define_45 : decode cX9_define 45 = .ok (.iload_n 1, 1) := by decide +kernel
theorem dX9_define_46 : decode cX9_define 46 = .ok (.iload_n 2, 1) := by decide +kernel
theorem dX9_define_47 : decode cX9_define 47 = .ok (.iload 5, 2) := by decide +kernel
theorem dX9_define_49 : decode cX9_define 49 = .ok (.invokevirtual 90, 3) := by decide +kernel
theorem dX9_define_52 : decode cX9_define 52 = .ok (.ifCond .eq 7, 3) := by decide +kernel
theorem dX9_define_55 : decode cX9_define 55 = .ok (.iconst 1, 1) := by decide +kernel
theorem dX9_define_56 : decode cX9_define 56 = .ok (.goto 4, 3) := by decide +kernel
theorem dX9_define_59 : decode cX9_define 59 = .ok (.iconst 0, 1) := by decide +kernel
theorem dX9_define_60 : decode cX9_define 60 = .ok (.istore 7, 2) := by decide +kernel
theorem dX9_define_62 : decode cX9_define 62 = .ok (.aload_n 0, 1) := by decide +kernel
theorem dX9_define_63 : decode cX9_define 63 = .ok (.iload 6, 2) := by decide +kernel
theorem dX9_define_65 : decode cX9_define 65 = .ok (.ifCond .ne 7, 3) := by decide +kernel
theorem dX9_define_68 : decode cX9_define 68 = .ok (.iconst 1, 1) := by decide +kernel
theorem dX9_define_69 : decode cX9_define 69 = .ok (.goto 28, 3) := by decide +kernel
theorem dX9_define_72 : decode cX9_define 72 = .ok (.iload 7, 2) := by decide +kernel
theorem dX9_define_74 : decode cX9_define 74 = .ok (.ifCond .ne 7, 3) := by decide +kernel
theorem dX9_define_77 : decode cX9_define 77 = .ok (.iconst 2, 1) := by decide +kernel
theorem dX9_define_78 : decode cX9_define 78 = .ok (.goto 19, 3) := by decide +kernel
theorem dX9_define_81 : decode cX9_define 81 = .ok (.aload_n 0, 1) := by decide +kernel
theorem dX9_define_82 : decode cX9_define 82 = .ok (.iload_n 1, 1) := by decide +kernel
theorem dX9_define_83 : decode cX9_define 83 = .ok (.iload_n 2, 1) := by decide +kernel
theorem dX9_define_84 : decode cX9_define 84 = .ok (.iconst 0, 1) := by decide +kernel
theorem dX9_define_85 : decode cX9_define 85 = .ok (.invokevirtual 73, 3) := by decide +kernel
theorem dX9_define_88 : decode cX9_define 88 = .ok (.iconst 1, 1) := by decide +kernel
theorem dX9_define_89 : decode cX9_define 89 = .ok (.if_icmp .ne 7, 3) := by decide +kernel
theorem dX9_define_92 : decode cX9_define 92 = .ok (.iconst 3, 1) := by decide +kernel
theorem dX9_define_93 : decode cX9_define 93 = .ok (.goto 4, 3) := by decide +kernel
theorem dX9_define_96 : decode cX9_define 96 = .ok (.iconst 0, 1) := by decide +kernel
theorem dX9_define_97 : decode cX9_define 97 = .ok (.invokevirtual 62, 3) := by decide +kernel
theorem dX9_define_100 : decode cX9_define 100 = .ok (.ifCond .eq 5, 3) := by decide +kernel
theorem dX9_define_103 : decode cX9_define 103 = .ok (.iconst 0, 1) := by decide +kernel
theorem dX9_define_104 : decode cX9_define 104 = .ok (.ireturn, 1) := by decide +kernel
theorem dX9_define_105 : decode cX9_define 105 = .ok (.aload_n 0, 1) := by decide +kernel
theorem dX9_define_106 : decode cX9_define 106 = .ok (.invokevirtual 93, 3) := by decide +kernel
theorem dX9_define_109 : decode cX9_define 109 = .ok (.aload_n 0, 1) := by decide +kernel
theorem dX9_define_110 : decode cX9_define 110 = .ok (.iload_n 1, 1) := by decide +kernel
theorem dX9_define_111 : decode cX9_define 111 = .ok (.iload_n 2, 1) := by decide +kernel
theorem dX9_define_112 : decode cX9_define 112 = .ok (.iload_n 3, 1) := by decide +kernel
theorem dX9_define_113 : decode cX9_define 113 = .ok (.iload_n 3, 1) := by decide +kernel
theorem dX9_define_114 : decode cX9_define 114 = .ok (.ifCond .eq 7, 3) := by decide +kernel
theorem dX9_define_117 : decode cX9_define 117 = .ok (.iconst 0, 1) := by decide +kernel
theorem dX9_define_118 : decode cX9_define 118 = .ok (.goto 5, 3) := by decide +kernel
theorem dX9_define_121 : decode cX9_define 121 = .ok (.iload 4, 2) := by decide +kernel
theorem dX9_define_123 : decode cX9_define 123 = .ok (.iload 5, 2) := by decide +kernel
theorem dX9_define_125 : decode cX9_define 125 = .ok (.iconst 0, 1) := by decide +kernel
theorem dX9_define_126 : decode cX9_define 126 = .ok (.iconst 0, 1) := by decide +kernel
theorem dX9_define_127 : decode cX9_define 127 = .ok (.iload_n 3, 1) := by decide +kernel
theorem dX9_define_128 : decode cX9_define 128 = .ok (.ifCond .eq 7, 3) := by decide +kernel
theorem dX9_define_131 : decode cX9_define 131 = .ok (.iconst 1, 1) := by decide +kernel
theorem dX9_define_132 : decode cX9_define 132 = .ok (.goto 4, 3) := by decide +kernel
theorem dX9_define_135 : decode cX9_define 135 = .ok (.iconst 0, 1) := by decide +kernel
theorem dX9_define_136 : decode cX9_define 136 = .ok (.invokevirtual 32, 3) := by decide +kernel
theorem dX9_define_139 : decode cX9_define 139 = .ok (.aload_n 0, 1) := by decide +kernel
theorem dX9_define_140 : decode cX9_define 140 = .ok (.iload_n 1, 1) := by decide +kernel
theorem dX9_define_141 : decode cX9_define 141 = .ok (.invokevirtual 96, 3) := by decide +kernel
theorem dX9_define_144 : decode cX9_define 144 = .ok (.ireturn, 1) := by decide +kernel
theorem dX9_draft_0 : decode cX9_draft 0 = .ok (.iload_n 2, 1) := by decide +kernel
theorem dX9_draft_1 : decode cX9_draft 1 = .ok (.iconst 0, 1) := by decide +kernel
theorem dX9_draft_2 : decode cX9_draft 2 = .ok (.iconst 2, 1) := by decide +kernel
theorem dX9_draft_3 : decode cX9_draft 3 = .ok (.invokestatic 66, 3) := by decide +kernel
theorem dX9_draft_6 : decode cX9_draft 6 = .ok (.ifCond .eq 48, 3) := by decide +kernel
theorem dX9_draft_9 : decode cX9_draft 9 = .ok (.iload_n 1, 1) := by decide +kernel
theorem dX9_draft_10 : decode cX9_draft 10 = .ok (.iconst (-1), 1) := by decide +kernel
theorem dX9_draft_11 : decode cX9_draft 11 = .ok (.bipush 9, 2) := by decide +kernel
theorem dX9_draft_13 : decode cX9_draft 13 = .ok (.invokestatic 66, 3) := by decide +kernel
theorem dX9_draft_16 : decode cX9_draft 16 = .ok (.ifCond .eq 38, 3) := by decide +kernel
theorem dX9_draft_19 : decode cX9_draft 19 = .ok (.iload_n 2, 1) := by decide +kernel
theorem dX9_draft_20 : decode cX9_draft 20 = .ok (.iconst 1, 1) := by decide +kernel
theorem dX9_draft_21 : decode cX9_draft 21 = .ok (.if_icmp .lt 13, 3) := by decide +kernel
theorem dX9_draft_24 : decode cX9_draft 24 = .ok (.iload_n 3, 1) := by decide +kernel
theorem dX9_draft_25 : decode cX9_draft 25 = .ok (.iconst (-1), 1) := by decide +kernel
theorem dX9_draft_26 : decode cX9_draft 26 = .ok (.bipush 9, 2) := by decide +kernel
theorem dX9_draft_28 : decode cX9_draft 28 = .ok (.invokestatic 66, 3) := by decide +kernel
theorem dX9_draft_31 : decode cX9_draft 31 = .ok (.ifCond .eq 23, 3) := by decide +kernel
theorem dX9_draft_34 : decode cX9_draft 34 = .ok (.iload_n 2, 1) := by decide +kernel
theorem dX9_draft_35 : decode cX9_draft 35 = .ok (.iconst 2, 1) := by decide +kernel
theorem dX9_draft_36 : decode cX9_draft 36 = .ok (.if_icmp .lt 14, 3) := by decide +kernel
theorem dX9_draft_39 : decode cX9_draft 39 = .ok (.iload 4, 2) := by decide +kernel
theorem dX9_draft_41 : decode cX9_draft 41 = .ok (.iconst (-1), 1) := by decide +kernel
theorem dX9_draft_42 : decode cX9_draft 42 = .ok (.bipush 9, 2) := by decide +kernel
theorem dX9_draft_44 : decode cX9_draft 44 = .ok (.invokestatic 66, 3) := by decide +kernel
theorem dX9_draft_47 : decode cX9_draft 47 = .ok (.ifCond .eq 7, 3) := by decide +kernel
theorem dX9_draft_50 : decode cX9_draft 50 = .ok (.iconst 1, 1) := by decide +kernel
theorem dX9_draft_51 : decode cX9_draft 51 = .ok (.goto 4, 3) := by decide +kernel
theorem dX9_draft_54 : decode cX9_draft 54 = .ok (.iconst 0, 1) := by decide +kernel
theorem dX9_draft_55 : decode cX9_draft 55 = .ok (.istore 5, 2) := by decide +kernel
theorem dX9_draft_57 : decode cX9_draft 57 = .ok (.aload_n 0, 1) := by decide +kernel
theorem dX9_draft_58 : decode cX9_draft 58 = .ok (.iload 5, 2) := by decide +kernel
theorem dX9_draft_60 : decode cX9_draft 60 = .ok (.ifCond .eq 7, 3) := by decide +kernel
theorem dX9_draft_63 : decode cX9_draft 63 = .ok (.iconst 0, 1) := by decide +kernel
theorem dX9_draft_64 : decode cX9_draft 64 = .ok (.goto 4, 3) := by decide +kernel
theorem dX9_draft_67 : decode cX9_draft 67 = .ok (.iconst 1, 1) := by decide +kernel
theorem dX9_draft_68 : decode cX9_draft 68 = .ok (.invokevirtual 62, 3) := by decide +kernel
theorem dX9_draft_71 : decode cX9_draft 71 = .ok (.ifCond .eq 5, 3) := by decide +kernel
theorem dX9_draft_74 : decode cX9_draft 74 = .ok (.iconst 0, 1) := by decide +kernel
theorem dX9_draft_75 : decode cX9_draft 75 = .ok (.ireturn, 1) := by decide +kernel
theorem dX9_draft_76 : decode cX9_draft 76 = .ok (.aload_n 0, 1) := by decide +kernel
theorem dX9_draft_77 : decode cX9_draft 77 = .ok (.getfield 16, 3) := by decide +kernel
theorem dX9_draft_80 : decode cX9_draft 80 = .ok (.iconst 1, 1) := by decide +kernel
theorem dX9_draft_81 : decode cX9_draft 81 = .ok (.iaload, 1) := by decide +kernel
theorem dX9_draft_82 : decode cX9_draft 82 = .ok (.istore 6, 2) := by decide +kernel
theorem dX9_draft_84 : decode cX9_draft 84 = .ok (.aload_n 0, 1) := by decide +kernel
theorem dX9_draft_85 : decode cX9_draft 85 = .ok (.getfield 16, 3) := by decide +kernel
theorem dX9_draft_88 : decode cX9_draft 88 = .ok (.iconst 0, 1) := by decide +kernel
theorem dX9_draft_89 : decode cX9_draft 89 = .ok (.iload_n 1, 1) := by decide +kernel
theorem dX9_draft_90 : decode cX9_draft 90 = .ok (.iastore, 1) := by decide +kernel
theorem dX9_draft_91 : decode cX9_draft 91 = .ok (.aload_n 0, 1) := by decide +kernel
theorem dX9_draft_92 : decode cX9_draft 92 = .ok (.getfield 16, 3) := by decide +kernel
theorem dX9_draft_95 : decode cX9_draft 95 = .ok (.iconst 1, 1) := by decide +kernel
theorem dX9_draft_96 : decode cX9_draft 96 = .ok (.iload_n 2, 1) := by decide +kernel
theorem dX9_draft_97 : decode cX9_draft 97 = .ok (.iastore, 1) := by decide +kernel
theorem dX9_draft_98 : decode cX9_draft 98 = .ok (.aload_n 0, 1) := by decide +kernel
theorem dX9_draft_99 : decode cX9_draft 99 = .ok (.getfield 16, 3) := by decide +kernel
theorem dX9_draft_102 : decode cX9_draft 102 = .ok (.iconst 2, 1) := by decide +kernel
theorem dX9_draft_103 : decode cX9_draft 103 = .ok (.iload_n 2, 1) := by decide +kernel
theorem dX9_draft_104 : decode cX9_draft 104 = .ok (.ifCond .le 7, 3) := by decide +kernel
theorem dX9_draft_107 : decode cX9_draft 107 = .ok (.iload_n 3, 1) := by decide +kernel
theorem dX9_draft_108 : decode cX9_draft 108 = .ok (.goto 5, 3) := by decide +kernel
theorem dX9_draft_111 : decode cX9_draft 111 = .ok (.bipush (-2), 2) := by decide +kernel
theorem dX9_draft_113 : decode cX9_draft 113 = .ok (.iastore, 1) := by decide +kernel
theorem dX9_draft_114 : decode cX9_draft 114 = .ok (.aload_n 0, 1) := by decide +kernel
theorem dX9_draft_115 : decode cX9_draft 115 = .ok (.getfield 16, 3) := by decide +kernel
theorem dX9_draft_118 : decode cX9_draft 118 = .ok (.iconst 3, 1) := by decide +kernel
theorem dX9_draft_119 : decode cX9_draft 119 = .ok (.iload_n 2, 1) := by decide +kernel
theorem dX9_draft_120 : decode cX9_draft 120 = .ok (.iconst 1, 1) := by decide +kernel
theorem dX9_draft_121 : decode cX9_draft 121 = .ok (.if_icmp .le 8, 3) := by decide +kernel
theorem dX9_draft_124 : decode cX9_draft 124 = .ok (.iload 4, 2) := by decide +kernel
theorem dX9_draft_126 : decode cX9_draft 126 = .ok (.goto 5, 3) := by decide +kernel
theorem dX9_draft_129 : decode cX9_draft 129 = .ok (.bipush (-2), 2) := by decide +kernel
theorem dX9_draft_131 : decode cX9_draft 131 = .ok (.iastore, 1) := by decide +kernel
theorem dX9_draft_132 : decode cX9_draft 132 = .ok (.iload 6, 2) := by decide +kernel
theorem dX9_draft_134 : decode cX9_draft 134 = .ok (.ireturn, 1) := by decide +kernel
theorem dX9_drops_0 : decode cX9_drops 0 = .ok (.iload_n 1, 1) := by decide +kernel
theorem dX9_drops_1 : decode cX9_drops 1 = .ok (.iload_n 2, 1) := by decide +kernel
theorem dX9_drops_2 : decode cX9_drops 2 = .ok (.invokestatic 40, 3) := by decide +kernel
theorem dX9_drops_5 : decode cX9_drops 5 = .ok (.istore_n 3, 1) := by decide +kernel
theorem dX9_drops_6 : decode cX9_drops 6 = .ok (.iload_n 3, 1) := by decide +kernel
theorem dX9_drops_7 : decode cX9_drops 7 = .ok (.iload_n 1, 1) := by decide +kernel
theorem dX9_drops_8 : decode cX9_drops 8 = .ok (.aload_n 0, 1) := by decide +kernel
theorem dX9_drops_9 : decode cX9_drops 9 = .ok (.iload_n 1, 1) := by decide +kernel
theorem dX9_drops_10 : decode cX9_drops 10 = .ok (.invokevirtual 51, 3) := by decide +kernel
theorem dX9_drops_13 : decode cX9_drops 13 = .ok (.iconst 1, 1) := by decide +kernel
theorem dX9_drops_14 : decode cX9_drops 14 = .ok (.isub, 1) := by decide +kernel
theorem dX9_drops_15 : decode cX9_drops 15 = .ok (.invokestatic 40, 3) := by decide +kernel
theorem dX9_drops_18 : decode cX9_drops 18 = .ok (.if_icmp .ge 24, 3) := by decide +kernel
theorem dX9_drops_21 : decode cX9_drops 21 = .ok (.aload_n 0, 1) := by decide +kernel
theorem dX9_drops_22 : decode cX9_drops 22 = .ok (.getfield 7, 3) := by decide +kernel
theorem dX9_drops_25 : decode cX9_drops 25 = .ok (.iload_n 3, 1) := by decide +kernel
theorem dX9_drops_26 : decode cX9_drops 26 = .ok (.aload_n 0, 1) := by decide +kernel
theorem dX9_drops_27 : decode cX9_drops 27 = .ok (.getfield 7, 3) := by decide +kernel
theorem dX9_drops_30 : decode cX9_drops 30 = .ok (.iload_n 3, 1) := by decide +kernel
theorem dX9_drops_31 : decode cX9_drops 31 = .ok (.bipush 10, 2) := by decide +kernel
theorem dX9_drops_33 : decode cX9_drops 33 = .ok (.iadd, 1) := by decide +kernel
theorem dX9_drops_34 : decode cX9_drops 34 = .ok (.iaload, 1) := by decide +kernel
theorem dX9_drops_35 : decode cX9_drops 35 = .ok (.iastore, 1) := by decide +kernel
theorem dX9_drops_36 : decode cX9_drops 36 = .ok (.iinc 3 1, 3) := by decide +kernel
theorem dX9_drops_39 : decode cX9_drops 39 = .ok (.goto (-33), 3) := by decide +kernel
theorem dX9_drops_42 : decode cX9_drops 42 = .ok (.aload_n 0, 1) := by decide +kernel
theorem dX9_drops_43 : decode cX9_drops 43 = .ok (.getfield 7, 3) := by decide +kernel
theorem dX9_drops_46 : decode cX9_drops 46 = .ok (.sipush 481, 3) := by decide +kernel
theorem dX9_drops_49 : decode cX9_drops 49 = .ok (.iload_n 1, 1) := by decide +kernel
theorem dX9_drops_50 : decode cX9_drops 50 = .ok (.imul, 1) := by decide +kernel
theorem dX9_drops_51 : decode cX9_drops 51 = .ok (.bipush 80, 2) := by decide +kernel
theorem dX9_drops_53 : decode cX9_drops 53 = .ok (.iadd, 1) := by decide +kernel
theorem dX9_drops_54 : decode cX9_drops 54 = .ok (.dup2, 1) := by decide +kernel
theorem dX9_drops_55 : decode cX9_drops 55 = .ok (.iaload, 1) := by decide +kernel
theorem dX9_drops_56 : decode cX9_drops 56 = .ok (.iconst 1, 1) := by decide +kernel
theorem dX9_drops_57 : decode cX9_drops 57 = .ok (.isub, 1) := by decide +kernel
theorem dX9_drops_58 : decode cX9_drops 58 = .ok (.iastore, 1) := by decide +kernel
theorem dX9_drops_59 : decode cX9_drops 59 = .ok (.return_, 1) := by decide +kernel
theorem dX9_exists_0 : decode cX9_exists 0 = .ok (.aload_n 0, 1) := by decide +kernel
theorem dX9_exists_1 : decode cX9_exists 1 = .ok (.iload_n 1, 1) := by decide +kernel
theorem dX9_exists_2 : decode cX9_exists 2 = .ok (.invokestatic 70, 3) := by decide +kernel
theorem dX9_exists_5 : decode cX9_exists 5 = .ok (.ifCond .eq 13, 3) := by decide +kernel
theorem dX9_exists_8 : decode cX9_exists 8 = .ok (.iload_n 2, 1) := by decide +kernel
theorem dX9_exists_9 : decode cX9_exists 9 = .ok (.iconst 0, 1) := by decide +kernel
theorem dX9_exists_10 : decode cX9_exists 10 = .ok (.bipush 9, 2) := by decide +kernel
theorem dX9_exists_12 : decode cX9_exists 12 = .ok (.invokestatic 66, 3) := by decide +kernel
theorem dX9_exists_15 : decode cX9_exists 15 = .ok (.ifCond .ne 7, 3) := by decide +kernel
theorem dX9_exists_18 : decode cX9_exists 18 = .ok (.iconst 1, 1) := by decide +kernel
theorem dX9_exists_19 : decode cX9_exists 19 = .ok (.goto 4, 3) := by decide +kernel
theorem dX9_exists_22 : decode cX9_exists 22 = .ok (.iconst 0, 1) := by decide +kernel
theorem dX9_exists_23 : decode cX9_exists 23 = .ok (.invokevirtual 62, 3) := by decide +kernel
theorem dX9_exists_26 : decode cX9_exists 26 = .ok (.ifCond .ne 18, 3) := by decide +kernel
theorem dX9_exists_29 : decode cX9_exists 29 = .ok (.aload_n 0, 1) := by decide +kernel
theorem dX9_exists_30 : decode cX9_exists 30 = .ok (.iload_n 1, 1) := by decide +kernel
theorem dX9_exists_31 : decode cX9_exists 31 = .ok (.iload_n 2, 1) := by decide +kernel
theorem dX9_exists_32 : decode cX9_exists 32 = .ok (.iconst 0, 1) := by decide +kernel
theorem dX9_exists_33 : decode cX9_exists 33 = .ok (.invokevirtual 73, 3) := by decide +kernel
theorem dX9_exists_36 : decode cX9_exists 36 = .ok (.iconst 1, 1) := by decide +kernel
theorem dX9_exists_37 : decode cX9_exists 37 = .ok (.if_icmp .ne 7, 3) := by decide +kernel
theorem dX9_exists_40 : decode cX9_exists 40 = .ok (.iconst 1, 1) := by decide +kernel
theorem dX9_exists_41 : decode cX9_exists 41 = .ok (.goto 4, 3) := by decide +kernel
theorem dX9_exists_44 : decode cX9_exists 44 = .ok (.iconst 0, 1) := by decide +kernel
theorem dX9_exists_45 : decode cX9_exists 45 = .ok (.ireturn, 1) := by decide +kernel
theorem dX9_field_0 : decode cX9_field 0 = .ok (.aload_n 0, 1) := by decide +kernel
theorem dX9_field_1 : decode cX9_field 1 = .ok (.aload_n 0, 1) := by decide +kernel
theorem dX9_field_2 : decode cX9_field 2 = .ok (.iload_n 1, 1) := by decide +kernel
theorem dX9_field_3 : decode cX9_field 3 = .ok (.iload_n 2, 1) := by decide +kernel
theorem dX9_field_4 : decode cX9_field 4 = .ok (.invokevirtual 77, 3) := by decide +kernel
theorem dX9_field_7 : decode cX9_field 7 = .ok (.ifCond .ne 7, 3) := by decide +kernel
theorem dX9_field_10 : decode cX9_field 10 = .ok (.iconst 1, 1) := by decide +kernel
theorem dX9_field_11 : decode cX9_field 11 = .ok (.goto 18, 3) := by decide +kernel
theorem dX9_field_14 : decode cX9_field 14 = .ok (.iload_n 3, 1) := by decide +kernel
theorem dX9_field_15 : decode cX9_field 15 = .ok (.iconst 0, 1) := by decide +kernel
theorem dX9_field_16 : decode cX9_field 16 = .ok (.bipush 7, 2) := by decide +kernel
theorem dX9_field_18 : decode cX9_field 18 = .ok (.invokestatic 66, 3) := by decide +kernel
theorem dX9_field_21 : decode cX9_field 21 = .ok (.ifCond .ne 7, 3) := by decide +kernel
theorem dX9_field_24 : decode cX9_field 24 = .ok (.iconst 2, 1) := by decide +kernel
theorem dX9_field_25 : decode cX9_field 25 = .ok (.goto 4, 3) := by decide +kernel
theorem dX9_field_28 : decode cX9_field 28 = .ok (.iconst 0, 1) := by decide +kernel
theorem dX9_field_29 : decode cX9_field 29 = .ok (.invokevirtual 62, 3) := by decide +kernel
theorem dX9_field_32 : decode cX9_field 32 = .ok (.ifCond .eq 5, 3) := by decide +kernel
theorem dX9_field_35 : decode cX9_field 35 = .ok (.iconst 0, 1) := by decide +kernel
theorem dX9_field_36 : decode cX9_field 36 = .ok (.ireturn, 1) := by decide +kernel
theorem dX9_field_37 : decode cX9_field 37 = .ok (.aload_n 0, 1) := by decide +kernel
theorem dX9_field_38 : decode cX9_field 38 = .ok (.iload_n 1, 1) := by decide +kernel
theorem dX9_field_39 : decode cX9_field 39 = .ok (.iload_n 2, 1) := by decide +kernel
theorem dX9_field_40 : decode cX9_field 40 = .ok (.iload_n 3, 1) := by decide +kernel
theorem dX9_field_41 : decode cX9_field 41 = .ok (.iconst 0, 1) := by decide +kernel
theorem dX9_field_42 : decode cX9_field 42 = .ok (.aload_n 0, 1) := by decide +kernel
theorem dX9_field_43 : decode cX9_field 43 = .ok (.getfield 16, 3) := by decide +kernel
theorem dX9_field_46 : decode cX9_field 46 = .ok (.iconst 0, 1) := by decide +kernel
theorem dX9_field_47 : decode cX9_field 47 = .ok (.iaload, 1) := by decide +kernel
theorem dX9_field_48 : decode cX9_field 48 = .ok (.invokevirtual 177, 3) := by decide +kernel
theorem dX9_field_51 : decode cX9_field 51 = .ok (.ireturn, 1) := by decide +kernel
theorem dX9_isType_0 : decode cX9_isType 0 = .ok (.iload_n 0, 1) := by decide +kernel
theorem dX9_isType_1 : decode cX9_isType 1 = .ok (.iconst (-1), 1) := by decide +kernel
theorem dX9_isType_2 : decode cX9_isType 2 = .ok (.bipush 9, 2) := by decide +kernel
theorem dX9_isType_4 : decode cX9_isType 4 = .ok (.invokestatic 66, 3) := by decide +kernel
theorem dX9_isType_7 : decode cX9_isType 7 = .ok (.ireturn, 1) := by decide +kernel
theorem dX9_fits_0 : decode cX9_fits 0 = .ok (.aload_n 0, 1) := by decide +kernel
theorem dX9_fits_1 : decode cX9_fits 1 = .ok (.iload_n 1, 1) := by decide +kernel
theorem dX9_fits_2 : decode cX9_fits 2 = .ok (.invokestatic 70, 3) := by decide +kernel
theorem dX9_fits_5 : decode cX9_fits 5 = .ok (.ifCond .ne 7, 3) := by decide +kernel
theorem dX9_fits_8 : decode cX9_fits 8 = .ok (.iconst 1, 1) := by decide +kernel
theorem dX9_fits_9 : decode cX9_fits 9 = .ok (.goto 22, 3) := by decide +kernel
theorem dX9_fits_12 : decode cX9_fits 12 = .ok (.iload_n 2, 1) := by decide +kernel
theorem dX9_fits_13 : decode cX9_fits 13 = .ok (.invokestatic 167, 3) := by decide +kernel
theorem dX9_fits_16 : decode cX9_fits 16 = .ok (.ifCond .eq 10, 3) := by decide +kernel
theorem dX9_fits_19 : decode cX9_fits 19 = .ok (.iload_n 3, 1) := by decide +kernel
theorem dX9_fits_20 : decode cX9_fits 20 = .ok (.invokestatic 167, 3) := by decide +kernel
theorem dX9_fits_23 : decode cX9_fits 23 = .ok (.ifCond .ne 7, 3) := by decide +kernel
theorem dX9_fits_26 : decode cX9_fits 26 = .ok (.iconst 2, 1) := by decide +kernel
theorem dX9_fits_27 : decode cX9_fits 27 = .ok (.goto 4, 3) := by decide +kernel
theorem dX9_fits_30 : decode cX9_fits 30 = .ok (.iconst 0, 1) := by decide +kernel
theorem dX9_fits_31 : decode cX9_fits 31 = .ok (.invokevirtual 62, 3) := by decide +kernel
theorem dX9_fits_34 : decode cX9_fits 34 = .ok (.ifCond .ne 17, 3) := by decide +kernel
theorem dX9_fits_37 : decode cX9_fits 37 = .ok (.aload_n 0, 1) := by decide +kernel
theorem dX9_fits_38 : decode cX9_fits 38 = .ok (.iload_n 1, 1) := by decide +kernel
theorem dX9_fits_39 : decode cX9_fits 39 = .ok (.iload_n 2, 1) := by decide +kernel
theorem dX9_fits_40 : decode cX9_fits 40 = .ok (.iload_n 3, 1) := by decide +kernel
theorem dX9_fits_41 : decode cX9_fits 41 = .ok (.invokevirtual 170, 3) := by decide +kernel
theorem dX9_fits_44 : decode cX9_fits 44 = .ok (.ifCond .eq 7, 3) := by decide +kernel
theorem dX9_fits_47 : decode cX9_fits 47 = .ok (.iconst 1, 1) := by decide +kernel
theorem dX9_fits_48 : decode cX9_fits 48 = .ok (.goto 4, 3) := by decide +kernel
theorem dX9_fits_51 : decode cX9_fits 51 = .ok (.iconst 0, 1) := by decide +kernel
theorem dX9_fits_52 : decode cX9_fits 52 = .ok (.ireturn, 1) := by decide +kernel
theorem dX9_hasAbstract_0 : decode cX9_hasAbstract 0 = .ok (.iconst 0, 1) := by decide +kernel
theorem dX9_hasAbstract_1 : decode cX9_hasAbstract 1 = .ok (.istore_n 3, 1) := by decide +kernel
theorem dX9_hasAbstract_2 : decode cX9_hasAbstract 2 = .ok (.iconst 0, 1) := by decide +kernel
theorem dX9_hasAbstract_3 : decode cX9_hasAbstract 3 = .ok (.istore 4, 2) := by decide +kernel
theorem dX9_hasAbstract_5 : decode cX9_hasAbstract 5 = .ok (.iload 4, 2) := by decide +kernel
theorem dX9_hasAbstract_7 : decode cX9_hasAbstract 7 = .ok (.aload_n 0, 1) := by decide +kernel
theorem dX9_hasAbstract_8 : decode cX9_hasAbstract 8 = .ok (.iload_n 1, 1) := by decide +kernel
theorem dX9_hasAbstract_9 : decode cX9_hasAbstract 9 = .ok (.invokevirtual 51, 3) := by decide +kernel
theorem dX9_hasAbstract_12 : decode cX9_hasAbstract 12 = .ok (.if_icmp .ge 41, 3) := by decide +kernel
theorem dX9_hasAbstract_15 : decode cX9_hasAbstract 15 = .ok (.iload_n 3, 1) := by decide +kernel
theorem dX9_hasAbstract_16 : decode cX9_hasAbstract 16 = .ok (.ifCond .ne 25, 3) := by decide +kernel
theorem dX9_hasAbstract_19 : decode cX9_hasAbstract 19 = .ok (.aload_n 0, 1) := by decide +kernel
theorem dX9_hasAbstract_20 : decode cX9_hasAbstract 20 = .ok (.iload_n 1, 1) := by decide +kernel
theorem dX9_hasAbstract_21 : decode cX9_hasAbstract 21 = .ok (.iload 4, 2) := by decide +kernel
theorem dX9_hasAbstract_23 : decode cX9_hasAbstract 23 = .ok (.iconst 1, 1) := by decide +kernel
theorem dX9_hasAbstract_24 : decode cX9_hasAbstract 24 = .ok (.invokevirtual 102, 3) := by decide +kernel
theorem dX9_hasAbstract_27 : decode cX9_hasAbstract 27 = .ok (.iload_n 2, 1) := by decide +kernel
theorem dX9_hasAbstract_28 : decode cX9_hasAbstract 28 = .ok (.if_icmp .ne 17, 3) := by decide +kernel
theorem dX9_hasAbstract_31 : decode cX9_hasAbstract 31 = .ok (.aload_n 0, 1) := by decide +kernel
theorem dX9_hasAbstract_32 : decode cX9_hasAbstract 32 = .ok (.iload_n 1, 1) := by decide +kernel
theorem dX9_hasAbstract_33 : decode cX9_hasAbstract 33 = .ok (.iload 4, 2) := by decide +kernel
theorem dX9_hasAbstract_35 : decode cX9_hasAbstract 35 = .ok (.invokevirtual 109, 3) := by decide +kernel
theorem dX9_hasAbstract_38 : decode cX9_hasAbstract 38 = .ok (.ifCond .eq 7, 3) := by decide +kernel
theorem dX9_hasAbstract_41 : decode cX9_hasAbstract 41 = .ok (.iconst 1, 1) := by decide +kernel
theorem dX9_hasAbstract_42 : decode cX9_hasAbstract 42 = .ok (.goto 4, 3) := by decide +kernel
theorem dX9_hasAbstract_45 : decode cX9_hasAbstract 45 = .ok (.iconst 0, 1) := by decide +kernel
theorem dX9_hasAbstract_46 : decode cX9_hasAbstract 46 = .ok (.istore_n 3, 1) := by decide +kernel
theorem dX9_hasAbstract_47 : decode cX9_hasAbstract 47 = .ok (.iinc 4 1, 3) := by decide +kernel
theorem dX9_hasAbstract_50 : decode cX9_hasAbstract 50 = .ok (.goto (-45), 3) := by decide +kernel
theorem dX9_hasAbstract_53 : decode cX9_hasAbstract 53 = .ok (.iload_n 3, 1) := by decide +kernel
theorem dX9_hasAbstract_54 : decode cX9_hasAbstract 54 = .ok (.ireturn, 1) := by decide +kernel
theorem dX9_init_0 : decode cX9_init 0 = .ok (.aload_n 0, 1) := by decide +kernel
theorem dX9_init_1 : decode cX9_init 1 = .ok (.invokespecial 1, 3) := by decide +kernel
theorem dX9_init_4 : decode cX9_init 4 = .ok (.aload_n 0, 1) := by decide +kernel
theorem dX9_init_5 : decode cX9_init 5 = .ok (.sipush 1155, 3) := by decide +kernel
theorem dX9_init_8 : decode cX9_init 8 = .ok (.newarray .int, 2) := by decide +kernel
theorem dX9_init_10 : decode cX9_init 10 = .ok (.putfield 7, 3) := by decide +kernel
theorem dX9_init_13 : decode cX9_init 13 = .ok (.aload_n 0, 1) := by decide +kernel
theorem dX9_init_14 : decode cX9_init 14 = .ok (.sipush 5775, 3) := by decide +kernel
theorem dX9_init_17 : decode cX9_init 17 = .ok (.newarray .int, 2) := by decide +kernel
theorem dX9_init_19 : decode cX9_init 19 = .ok (.putfield 13, 3) := by decide +kernel
theorem dX9_init_22 : decode cX9_init 22 = .ok (.aload_n 0, 1) := by decide +kernel
theorem dX9_init_23 : decode cX9_init 23 = .ok (.iconst 4, 1) := by decide +kernel
theorem dX9_init_24 : decode cX9_init 24 = .ok (.newarray .int, 2) := by decide +kernel
theorem dX9_init_26 : decode cX9_init 26 = .ok (.putfield 16, 3) := by decide +kernel
theorem dX9_init_29 : decode cX9_init 29 = .ok (.aload_n 0, 1) := by decide +kernel
theorem dX9_init_30 : decode cX9_init 30 = .ok (.bipush 10, 2) := by decide +kernel
theorem dX9_init_32 : decode cX9_init 32 = .ok (.newarray .int, 2) := by decide +kernel
theorem dX9_init_34 : decode cX9_init 34 = .ok (.putfield 19, 3) := by decide +kernel
theorem dX9_init_37 : decode cX9_init 37 = .ok (.aload_n 0, 1) := by decide +kernel
theorem dX9_init_38 : decode cX9_init 38 = .ok (.bipush 16, 2) := by decide +kernel
theorem dX9_init_40 : decode cX9_init 40 = .ok (.newarray .int, 2) := by decide +kernel
theorem dX9_init_42 : decode cX9_init 42 = .ok (.putfield 22, 3) := by decide +kernel
theorem dX9_init_45 : decode cX9_init 45 = .ok (.aload_n 0, 1) := by decide +kernel
theorem dX9_init_46 : decode cX9_init 46 = .ok (.bipush 8, 2) := by decide +kernel
theorem dX9_init_48 : decode cX9_init 48 = .ok (.newarray .int, 2) := by decide +kernel
theorem dX9_init_50 : decode cX9_init 50 = .ok (.putfield 25, 3) := by decide +kernel
theorem dX9_init_53 : decode cX9_init 53 = .ok (.aload_n 0, 1) := by decide +kernel
theorem dX9_init_54 : decode cX9_init 54 = .ok (.bipush 40, 2) := by decide +kernel
theorem dX9_init_56 : decode cX9_init 56 = .ok (.newarray .boolean, 2) := by decide +kernel
theorem dX9_init_58 : decode cX9_init 58 = .ok (.putfield 28, 3) := by decide +kernel
theorem dX9_init_61 : decode cX9_init 61 = .ok (.aload_n 0, 1) := by decide +kernel
theorem dX9_init_62 : decode cX9_init 62 = .ok (.getfield 16, 3) := by decide +kernel
theorem dX9_init_65 : decode cX9_init 65 = .ok (.iconst 0, 1) := by decide +kernel
theorem dX9_init_66 : decode cX9_init 66 = .ok (.iconst (-1), 1) := by decide +kernel
theorem dX9_init_67 : decode cX9_init 67 = .ok (.iastore, 1) := by decide +kernel
theorem dX9_init_68 : decode cX9_init 68 = .ok (.iconst 0, 1) := by decide +kernel
theorem dX9_init_69 : decode cX9_init 69 = .ok (.istore_n 1, 1) := by decide +kernel
theorem dX9_init_70 : decode cX9_init 70 = .ok (.iload_n 1, 1) := by decide +kernel
theorem dX9_init_71 : decode cX9_init 71 = .ok (.iconst 2, 1) := by decide +kernel
theorem dX9_init_72 : decode cX9_init 72 = .ok (.if_icmp .ge 197, 3) := by decide +kernel
theorem dX9_init_75 : decode cX9_init 75 = .ok (.aload_n 0, 1) := by decide +kernel
theorem dX9_init_76 : decode cX9_init 76 = .ok (.iload_n 1, 1) := by decide +kernel
theorem dX9_init_77 : decode cX9_init 77 = .ok (.iconst 0, 1) := by decide +kernel
theorem dX9_init_78 : decode cX9_init 78 = .ok (.iconst 0, 1) := by decide +kernel
theorem dX9_init_79 : decode cX9_init 79 = .ok (.bipush (-2), 2) := by decide +kernel
theorem dX9_init_81 : decode cX9_init 81 = .ok (.iconst 0, 1) := by decide +kernel
theorem dX9_init_82 : decode cX9_init 82 = .ok (.iconst 0, 1) := by decide +kernel
theorem dX9_init_83 : decode cX9_init 83 = .ok (.iconst 1, 1) := by decide +kernel
theorem dX9_init_84 : decode cX9_init 84 = .ok (.iconst 0, 1) := by decide +kernel
theorem dX9_init_85 : decode cX9_init 85 = .ok (.invokevirtual 32, 3) := by decide +kernel
theorem dX9_init_88 : decode cX9_init 88 = .ok (.aload_n 0, 1) := by decide +kernel
theorem dX9_init_89 : decode cX9_init 89 = .ok (.iload_n 1, 1) := by decide +kernel
theorem dX9_init_90 : decode cX9_init 90 = .ok (.iconst 1, 1) := by decide +kernel
theorem dX9_init_91 : decode cX9_init 91 = .ok (.iconst 0, 1) := by decide +kernel
theorem dX9_init_92 : decode cX9_init 92 = .ok (.iconst 0, 1) := by decide +kernel
theorem dX9_init_93 : decode cX9_init 93 = .ok (.iconst 0, 1) := by decide +kernel
theorem dX9_init_94 : decode cX9_init 94 = .ok (.iconst 0, 1) := by decide +kernel
theorem dX9_init_95 : decode cX9_init 95 = .ok (.iconst 1, 1) := by decide +kernel
theorem dX9_init_96 : decode cX9_init 96 = .ok (.iconst 0, 1) := by decide +kernel
theorem dX9_init_97 : decode cX9_init 97 = .ok (.invokevirtual 32, 3) := by decide +kernel
theorem dX9_init_100 : decode cX9_init 100 = .ok (.aload_n 0, 1) := by decide +kernel
theorem dX9_init_101 : decode cX9_init 101 = .ok (.iload_n 1, 1) := by decide +kernel
theorem dX9_init_102 : decode cX9_init 102 = .ok (.iconst 2, 1) := by decide +kernel
theorem dX9_init_103 : decode cX9_init 103 = .ok (.iconst 1, 1) := by decide +kernel
theorem dX9_init_104 : decode cX9_init 104 = .ok (.iconst 0, 1) := by decide +kernel
theorem dX9_init_105 : decode cX9_init 105 = .ok (.iconst 0, 1) := by decide +kernel
theorem dX9_init_106 : decode cX9_init 106 = .ok (.iconst 0, 1) := by decide +kernel
theorem dX9_init_107 : decode cX9_init 107 = .ok (.iconst 1, 1) := by decide +kernel
theorem dX9_init_108 : decode cX9_init 108 = .ok (.iconst 1, 1) := by decide +kernel
theorem dX9_init_109 : decode cX9_init 109 = .ok (.invokevirtual 32, 3) := by decide +kernel
theorem dX9_init_112 : decode cX9_init 112 = .ok (.aload_n 0, 1) := by decide +kernel
theorem dX9_init_113 : decode cX9_init 113 = .ok (.iload_n 1, 1) := by decide +kernel
theorem dX9_init_114 : decode cX9_init 114 = .ok (.iconst 3, 1) := by decide +kernel
theorem dX9_init_115 : decode cX9_init 115 = .ok (.iconst 0, 1) := by decide +kernel
theorem dX9_init_116 : decode cX9_init 116 = .ok (.iconst 1, 1) := by decide +kernel
theorem dX9_init_117 : decode cX9_init 117 = .ok (.iconst 4, 1) := by decide +kernel
theorem dX9_init_118 : decode cX9_init 118 = .ok (.iconst 0, 1) := by decide +kernel
theorem dX9_init_119 : decode cX9_init 119 = .ok (.iconst 1, 1) := by decide +kernel
theorem dX9_init_120 : decode cX9_init 120 = .ok (.iconst 0, 1) := by decide +kernel
theorem dX9_init_121 : decode cX9_init 121 = .ok (.invokevirtual 32, 3) := by decide +kernel
theorem dX9_init_124 : decode cX9_init 124 = .ok (.aload_n 0, 1) := by decide +kernel
theorem dX9_init_125 : decode cX9_init 125 = .ok (.iload_n 1, 1) := by decide +kernel
theorem dX9_init_126 : decode cX9_init 126 = .ok (.iconst 4, 1) := by decide +kernel
theorem dX9_init_127 : decode cX9_init 127 = .ok (.iconst 0, 1) := by decide +kernel
theorem dX9_init_128 : decode cX9_init 128 = .ok (.iconst 1, 1) := by decide +kernel
theorem dX9_init_129 : decode cX9_init 129 = .ok (.iconst 0, 1) := by decide +kernel
theorem dX9_init_130 : decode cX9_init 130 = .ok (.iconst 1, 1) := by decide +kernel
theorem dX9_init_131 : decode cX9_init 131 = .ok (.iconst 1, 1) := by decide +kernel
theorem dX9_init_132 : decode cX9_init 132 = .ok (.iconst 1, 1) := by decide +kernel
theorem dX9_init_133 : decode cX9_init 133 = .ok (.invokevirtual 32, 3) := by decide +kernel
theorem dX9_init_136 : decode cX9_init 136 = .ok (.aload_n 0, 1) := by decide +kernel
theorem dX9_init_137 : decode cX9_init 137 = .ok (.iload_n 1, 1) := by decide +kernel
theorem dX9_init_138 : decode cX9_init 138 = .ok (.iconst 0, 1) := by decide +kernel
theorem dX9_init_139 : decode cX9_init 139 = .ok (.iconst 1, 1) := by decide +kernel
theorem dX9_init_140 : decode cX9_init 140 = .ok (.iconst 0, 1) := by decide +kernel
theorem dX9_init_141 : decode cX9_init 141 = .ok (.iconst 3, 1) := by decide +kernel
theorem dX9_init_142 : decode cX9_init 142 = .ok (.iconst 0, 1) := by decide +kernel
theorem dX9_init_143 : decode cX9_init 143 = .ok (.iconst (-1), 1) := by decide +kernel
theorem dX9_init_144 : decode cX9_init 144 = .ok (.iconst 0, 1) := by decide +kernel
theorem dX9_init_145 : decode cX9_init 145 = .ok (.iconst 0, 1) := by decide +kernel
theorem dX9_init_146 : decode cX9_init 146 = .ok (.invokevirtual 36, 3) := by decide +kernel
theorem dX9_init_149 : decode cX9_init 149 = .ok (.pop, 1) := by decide +kernel
theorem dX9_init_150 : decode cX9_init 150 = .ok (.aload_n 0, 1) := by decide +kernel
theorem dX9_init_151 : decode cX9_init 151 = .ok (.iload_n 1, 1) := by decide +kernel
theorem dX9_init_152 : decode cX9_init 152 = .ok (.iconst 0, 1) := by decide +kernel
theorem dX9_init_153 : decode cX9_init 153 = .ok (.iconst 1, 1) := by decide +kernel
theorem dX9_init_154 : decode cX9_init 154 = .ok (.iconst 1, 1) := by decide +kernel
theorem dX9_init_155 : decode cX9_init 155 = .ok (.iconst 3, 1) := by decide +kernel
theorem dX9_init_156 : decode cX9_init 156 = .ok (.iconst 3, 1) := by decide +kernel
theorem dX9_init_157 : decode cX9_init 157 = .ok (.iconst (-1), 1) := by decide +kernel
theorem dX9_init_158 : decode cX9_init 158 = .ok (.iconst 0, 1) := by decide +kernel
theorem dX9_init_159 : decode cX9_init 159 = .ok (.iconst 0, 1) := by decide +kernel
theorem dX9_init_160 : decode cX9_init 160 = .ok (.invokevirtual 36, 3) := by decide +kernel
theorem dX9_init_163 : decode cX9_init 163 = .ok (.pop, 1) := by decide +kernel
theorem dX9_init_164 : decode cX9_init 164 = .ok (.aload_n 0, 1) := by decide +kernel
theorem dX9_init_165 : decode cX9_init 165 = .ok (.getfield 7, 3) := by decide +kernel
theorem dX9_init_168 : decode cX9_init 168 = .ok (.iload_n 1, 1) := by decide +kernel
theorem dX9_init_169 : decode cX9_init 169 = .ok (.iconst 1, 1) := by decide +kernel
theorem dX9_init_170 : decode cX9_init 170 = .ok (.invokestatic 40, 3) := by decide +kernel
theorem dX9_init_173 : decode cX9_init 173 = .ok (.bipush 9, 2) := by decide +kernel
theorem dX9_init_175 : decode cX9_init 175 = .ok (.iadd, 1) := by decide +kernel
theorem dX9_init_176 : decode cX9_init 176 = .ok (.bipush 7, 2) := by decide +kernel
theorem dX9_init_178 : decode cX9_init 178 = .ok (.iastore, 1) := by decide +kernel
theorem dX9_init_179 : decode cX9_init 179 = .ok (.aload_n 0, 1) := by decide +kernel
theorem dX9_init_180 : decode cX9_init 180 = .ok (.iload_n 1, 1) := by decide +kernel
theorem dX9_init_181 : decode cX9_init 181 = .ok (.iconst 1, 1) := by decide +kernel
theorem dX9_init_182 : decode cX9_init 182 = .ok (.iconst 1, 1) := by decide +kernel
theorem dX9_init_183 : decode cX9_init 183 = .ok (.iconst 0, 1) := by decide +kernel
theorem dX9_init_184 : decode cX9_init 184 = .ok (.iconst 3, 1) := by decide +kernel
theorem dX9_init_185 : decode cX9_init 185 = .ok (.iconst 0, 1) := by decide +kernel
theorem dX9_init_186 : decode cX9_init 186 = .ok (.iconst (-1), 1) := by decide +kernel
theorem dX9_init_187 : decode cX9_init 187 = .ok (.iconst 0, 1) := by decide +kernel
theorem dX9_init_188 : decode cX9_init 188 = .ok (.iconst 0, 1) := by decide +kernel
theorem dX9_init_189 : decode cX9_init 189 = .ok (.invokevirtual 36, 3) := by decide +kernel
theorem dX9_init_192 : decode cX9_init 192 = .ok (.pop, 1) := by decide +kernel
theorem dX9_init_193 : decode cX9_init 193 = .ok (.aload_n 0, 1) := by decide +kernel
theorem dX9_init_194 : decode cX9_init 194 = .ok (.iload_n 1, 1) := by decide +kernel
theorem dX9_init_195 : decode cX9_init 195 = .ok (.iconst 1, 1) := by decide +kernel
theorem dX9_init_196 : decode cX9_init 196 = .ok (.iconst 1, 1) := by decide +kernel
theorem dX9_init_197 : decode cX9_init 197 = .ok (.iconst 1, 1) := by decide +kernel
theorem dX9_init_198 : decode cX9_init 198 = .ok (.iconst 2, 1) := by decide +kernel
theorem dX9_init_199 : decode cX9_init 199 = .ok (.iconst 0, 1) := by decide +kernel
theorem dX9_init_200 : decode cX9_init 200 = .ok (.iconst (-1), 1) := by decide +kernel
theorem dX9_init_201 : decode cX9_init 201 = .ok (.iconst 1, 1) := by decide +kernel
theorem dX9_init_202 : decode cX9_init 202 = .ok (.iconst 1, 1) := by decide +kernel
theorem dX9_init_203 : decode cX9_init 203 = .ok (.invokevirtual 36, 3) := by decide +kernel
theorem dX9_init_206 : decode cX9_init 206 = .ok (.pop, 1) := by decide +kernel
theorem dX9_init_207 : decode cX9_init 207 = .ok (.aload_n 0, 1) := by decide +kernel
theorem dX9_init_208 : decode cX9_init 208 = .ok (.iload_n 1, 1) := by decide +kernel
theorem dX9_init_209 : decode cX9_init 209 = .ok (.iconst 1, 1) := by decide +kernel
theorem dX9_init_210 : decode cX9_init 210 = .ok (.iconst 2, 1) := by decide +kernel
theorem dX9_init_211 : decode cX9_init 211 = .ok (.iconst 2, 1) := by decide +kernel
theorem dX9_init_212 : decode cX9_init 212 = .ok (.iconst 3, 1) := by decide +kernel
theorem dX9_init_213 : decode cX9_init 213 = .ok (.iconst 4, 1) := by decide +kernel
theorem dX9_init_214 : decode cX9_init 214 = .ok (.iconst 1, 1) := by decide +kernel
theorem dX9_init_215 : decode cX9_init 215 = .ok (.iconst 0, 1) := by decide +kernel
theorem dX9_init_216 : decode cX9_init 216 = .ok (.iconst 0, 1) := by decide +kernel
theorem dX9_init_217 : decode cX9_init 217 = .ok (.invokevirtual 36, 3) := by decide +kernel
theorem dX9_init_220 : decode cX9_init 220 = .ok (.pop, 1) := by decide +kernel
theorem dX9_init_221 : decode cX9_init 221 = .ok (.aload_n 0, 1) := by decide +kernel
theorem dX9_init_222 : decode cX9_init 222 = .ok (.iload_n 1, 1) := by decide +kernel
theorem dX9_init_223 : decode cX9_init 223 = .ok (.iconst 1, 1) := by decide +kernel
theorem dX9_init_224 : decode cX9_init 224 = .ok (.iconst 3, 1) := by decide +kernel
theorem dX9_init_225 : decode cX9_init 225 = .ok (.iconst 2, 1) := by decide +kernel
theorem dX9_init_226 : decode cX9_init 226 = .ok (.iconst 3, 1) := by decide +kernel
theorem dX9_init_227 : decode cX9_init 227 = .ok (.iconst 0, 1) := by decide +kernel
theorem dX9_init_228 : decode cX9_init 228 = .ok (.iconst 1, 1) := by decide +kernel
theorem dX9_init_229 : decode cX9_init 229 = .ok (.iconst 0, 1) := by decide +kernel
theorem dX9_init_230 : decode cX9_init 230 = .ok (.iconst 0, 1) := by decide +kernel
theorem dX9_init_231 : decode cX9_init 231 = .ok (.invokevirtual 36, 3) := by decide +kernel
theorem dX9_init_234 : decode cX9_init 234 = .ok (.pop, 1) := by decide +kernel
theorem dX9_init_235 : decode cX9_init 235 = .ok (.aload_n 0, 1) := by decide +kernel
theorem dX9_init_236 : decode cX9_init 236 = .ok (.iload_n 1, 1) := by decide +kernel
theorem dX9_init_237 : decode cX9_init 237 = .ok (.iconst 1, 1) := by decide +kernel
theorem dX9_init_238 : decode cX9_init 238 = .ok (.iconst 3, 1) := by decide +kernel
theorem dX9_init_239 : decode cX9_init 239 = .ok (.iconst 0, 1) := by decide +kernel
theorem dX9_init_240 : decode cX9_init 240 = .ok (.iconst 3, 1) := by decide +kernel
theorem dX9_init_241 : decode cX9_init 241 = .ok (.iconst 0, 1) := by decide +kernel
theorem dX9_init_242 : decode cX9_init 242 = .ok (.iconst (-1), 1) := by decide +kernel
theorem dX9_init_243 : decode cX9_init 243 = .ok (.iconst 0, 1) := by decide +kernel
theorem dX9_init_244 : decode cX9_init 244 = .ok (.iconst 0, 1) := by decide +kernel
theorem dX9_init_245 : decode cX9_init 245 = .ok (.invokevirtual 36, 3) := by decide +kernel
theorem dX9_init_248 : decode cX9_init 248 = .ok (.pop, 1) := by decide +kernel
theorem dX9_init_249 : decode cX9_init 249 = .ok (.aload_n 0, 1) := by decide +kernel
theorem dX9_init_250 : decode cX9_init 250 = .ok (.iload_n 1, 1) := by decide +kernel
theorem dX9_init_251 : decode cX9_init 251 = .ok (.iconst 1, 1) := by decide +kernel
theorem dX9_init_252 : decode cX9_init 252 = .ok (.iconst 4, 1) := by decide +kernel
theorem dX9_init_253 : decode cX9_init 253 = .ok (.iconst 1, 1) := by decide +kernel
theorem dX9_init_254 : decode cX9_init 254 = .ok (.iconst 3, 1) := by decide +kernel
theorem dX9_init_255 : decode cX9_init 255 = .ok (.iconst 0, 1) := by decide +kernel
theorem dX9_init_256 : decode cX9_init 256 = .ok (.iconst (-1), 1) := by decide +kernel
theorem dX9_init_257 : decode cX9_init 257 = .ok (.iconst 1, 1) := by decide +kernel
theorem dX9_init_258 : decode cX9_init 258 = .ok (.iconst 3, 1) := by decide +kernel
theorem dX9_init_259 : decode cX9_init 259 = .ok (.invokevirtual 36, 3) := by decide +kernel
theorem dX9_init_262 : decode cX9_init 262 = .ok (.pop, 1) := by decide +kernel
theorem dX9_init_263 : decode cX9_init 263 = .ok (.iinc 1 1, 3) := by decide +kernel
theorem dX9_init_266 : decode cX9_init 266 = .ok (.goto (-196), 3) := by decide +kernel
theorem dX9_init_269 : decode cX9_init 269 = .ok (.aload_n 0, 1) := by decide +kernel
theorem dX9_init_270 : decode cX9_init 270 = .ok (.iconst 0, 1) := by decide +kernel
theorem dX9_init_271 : decode cX9_init 271 = .ok (.iconst 3, 1) := by decide +kernel
theorem dX9_init_272 : decode cX9_init 272 = .ok (.iconst 1, 1) := by decide +kernel
theorem dX9_init_273 : decode cX9_init 273 = .ok (.iconst 2, 1) := by decide +kernel
theorem dX9_init_274 : decode cX9_init 274 = .ok (.invokevirtual 44, 3) := by decide +kernel
theorem dX9_init_277 : decode cX9_init 277 = .ok (.aload_n 0, 1) := by decide +kernel
theorem dX9_init_278 : decode cX9_init 278 = .ok (.iconst 2, 1) := by decide +kernel
theorem dX9_init_279 : decode cX9_init 279 = .ok (.iconst 3, 1) := by decide +kernel
theorem dX9_init_280 : decode cX9_init 280 = .ok (.iconst 2, 1) := by decide +kernel
theorem dX9_init_281 : decode cX9_init 281 = .ok (.iconst 2, 1) := by decide +kernel
theorem dX9_init_282 : decode cX9_init 282 = .ok (.invokevirtual 44, 3) := by decide +kernel
theorem dX9_init_285 : decode cX9_init 285 = .ok (.aload_n 0, 1) := by decide +kernel
theorem dX9_init_286 : decode cX9_init 286 = .ok (.iconst 2, 1) := by decide +kernel
theorem dX9_init_287 : decode cX9_init 287 = .ok (.iconst 4, 1) := by decide +kernel
theorem dX9_init_288 : decode cX9_init 288 = .ok (.iconst 0, 1) := by decide +kernel
theorem dX9_init_289 : decode cX9_init 289 = .ok (.iconst 2, 1) := by decide +kernel
theorem dX9_init_290 : decode cX9_init 290 = .ok (.invokevirtual 44, 3) := by decide +kernel
theorem dX9_init_293 : decode cX9_init 293 = .ok (.return_, 1) := by decide +kernel
theorem dX9_isAbove_0 : decode cX9_isAbove 0 = .ok (.iconst 0, 1) := by decide +kernel
theorem dX9_isAbove_1 : decode cX9_isAbove 1 = .ok (.istore_n 3, 1) := by decide +kernel
theorem dX9_isAbove_2 : decode cX9_isAbove 2 = .ok (.iconst 1, 1) := by decide +kernel
theorem dX9_isAbove_3 : decode cX9_isAbove 3 = .ok (.istore 4, 2) := by decide +kernel
theorem dX9_isAbove_5 : decode cX9_isAbove 5 = .ok (.iload 4, 2) := by decide +kernel
theorem dX9_isAbove_7 : decode cX9_isAbove 7 = .ok (.bipush 10, 2) := by decide +kernel
theorem dX9_isAbove_9 : decode cX9_isAbove 9 = .ok (.if_icmp .ge 43, 3) := by decide +kernel
theorem dX9_isAbove_12 : decode cX9_isAbove 12 = .ok (.iload_n 3, 1) := by decide +kernel
theorem dX9_isAbove_13 : decode cX9_isAbove 13 = .ok (.ifCond .ne 27, 3) := by decide +kernel
theorem dX9_isAbove_16 : decode cX9_isAbove 16 = .ok (.aload_n 0, 1) := by decide +kernel
theorem dX9_isAbove_17 : decode cX9_isAbove 17 = .ok (.iload_n 1, 1) := by decide +kernel
theorem dX9_isAbove_18 : decode cX9_isAbove 18 = .ok (.iload 4, 2) := by decide +kernel
theorem dX9_isAbove_20 : decode cX9_isAbove 20 = .ok (.iconst 0, 1) := by decide +kernel
theorem dX9_isAbove_21 : decode cX9_isAbove 21 = .ok (.invokevirtual 73, 3) := by decide +kernel
theorem dX9_isAbove_24 : decode cX9_isAbove 24 = .ok (.iconst 1, 1) := by decide +kernel
theorem dX9_isAbove_25 : decode cX9_isAbove 25 = .ok (.if_icmp .ne 19, 3) := by decide +kernel
theorem dX9_isAbove_28 : decode cX9_isAbove 28 = .ok (.aload_n 0, 1) := by decide +kernel
theorem dX9_isAbove_29 : decode cX9_isAbove 29 = .ok (.iload_n 1, 1) := by decide +kernel
theorem dX9_isAbove_30 : decode cX9_isAbove 30 = .ok (.iload 4, 2) := by decide +kernel
theorem dX9_isAbove_32 : decode cX9_isAbove 32 = .ok (.iconst 2, 1) := by decide +kernel
theorem dX9_isAbove_33 : decode cX9_isAbove 33 = .ok (.invokevirtual 73, 3) := by decide +kernel
theorem dX9_isAbove_36 : decode cX9_isAbove 36 = .ok (.iload_n 2, 1) := by decide +kernel
theorem dX9_isAbove_37 : decode cX9_isAbove 37 = .ok (.if_icmp .ne 7, 3) := by decide +kernel
theorem dX9_isAbove_40 : decode cX9_isAbove 40 = .ok (.iconst 1, 1) := by decide +kernel
theorem dX9_isAbove_41 : decode cX9_isAbove 41 = .ok (.goto 4, 3) := by decide +kernel
theorem dX9_isAbove_44 : decode cX9_isAbove 44 = .ok (.iconst 0, 1) := by decide +kernel
theorem dX9_isAbove_45 : decode cX9_isAbove 45 = .ok (.istore_n 3, 1) := by decide +kernel
theorem dX9_isAbove_46 : decode cX9_isAbove 46 = .ok (.iinc 4 1, 3) := by decide +kernel
theorem dX9_isAbove_49 : decode cX9_isAbove 49 = .ok (.goto (-44), 3) := by decide +kernel
theorem dX9_isAbove_52 : decode cX9_isAbove 52 = .ok (.iload_n 3, 1) := by decide +kernel
theorem dX9_isAbove_53 : decode cX9_isAbove 53 = .ok (.ireturn, 1) := by decide +kernel
theorem dX9_isAboveOne_0 : decode cX9_isAboveOne 0 = .ok (.iconst 0, 1) := by decide +kernel
theorem dX9_isAboveOne_1 : decode cX9_isAboveOne 1 = .ok (.istore_n 3, 1) := by decide +kernel
theorem dX9_isAboveOne_2 : decode cX9_isAboveOne 2 = .ok (.iconst 1, 1) := by decide +kernel
theorem dX9_isAboveOne_3 : decode cX9_isAboveOne 3 = .ok (.istore 4, 2) := by decide +kernel
theorem dX9_isAboveOne_5 : decode cX9_isAboveOne 5 = .ok (.iload 4, 2) := by decide +kernel
theorem dX9_isAboveOne_7 : decode cX9_isAboveOne 7 = .ok (.bipush 10, 2) := by decide +kernel
theorem dX9_isAboveOne_9 : decode cX9_isAboveOne 9 = .ok (.if_icmp .ge 58, 3) := by decide +kernel
theorem dX9_isAboveOne_12 : decode cX9_isAboveOne 12 = .ok (.iload_n 3, 1) := by decide +kernel
theorem dX9_isAboveOne_13 : decode cX9_isAboveOne 13 = .ok (.ifCond .ne 42, 3) := by decide +kernel
theorem dX9_isAboveOne_16 : decode cX9_isAboveOne 16 = .ok (.aload_n 0, 1) := by decide +kernel
theorem dX9_isAboveOne_17 : decode cX9_isAboveOne 17 = .ok (.iload_n 1, 1) := by decide +kernel
theorem dX9_isAboveOne_18 : decode cX9_isAboveOne 18 = .ok (.iload 4, 2) := by decide +kernel
theorem dX9_isAboveOne_20 : decode cX9_isAboveOne 20 = .ok (.iconst 0, 1) := by decide +kernel
theorem dX9_isAboveOne_21 : decode cX9_isAboveOne 21 = .ok (.invokevirtual 73, 3) := by decide +kernel
theorem dX9_isAboveOne_24 : decode cX9_isAboveOne 24 = .ok (.iconst 1, 1) := by decide +kernel
theorem dX9_isAboveOne_25 : decode cX9_isAboveOne 25 = .ok (.if_icmp .ne 34, 3) := by decide +kernel
theorem dX9_isAboveOne_28 : decode cX9_isAboveOne 28 = .ok (.aload_n 0, 1) := by decide +kernel
theorem dX9_isAboveOne_29 : decode cX9_isAboveOne 29 = .ok (.iload_n 1, 1) := by decide +kernel
theorem dX9_isAboveOne_30 : decode cX9_isAboveOne 30 = .ok (.iload 4, 2) := by decide +kernel
theorem dX9_isAboveOne_32 : decode cX9_isAboveOne 32 = .ok (.iconst 2, 1) := by decide +kernel
theorem dX9_isAboveOne_33 : decode cX9_isAboveOne 33 = .ok (.invokevirtual 73, 3) := by decide +kernel
theorem dX9_isAboveOne_36 : decode cX9_isAboveOne 36 = .ok (.iload_n 2, 1) := by decide +kernel
theorem dX9_isAboveOne_37 : decode cX9_isAboveOne 37 = .ok (.if_icmp .eq 18, 3) := by decide +kernel
theorem dX9_isAboveOne_40 : decode cX9_isAboveOne 40 = .ok (.aload_n 0, 1) := by decide +kernel
theorem dX9_isAboveOne_41 : decode cX9_isAboveOne 41 = .ok (.iload_n 1, 1) := by decide +kernel
theorem dX9_isAboveOne_42 : decode cX9_isAboveOne 42 = .ok (.iload 4, 2) := by decide +kernel
theorem dX9_isAboveOne_44 : decode cX9_isAboveOne 44 = .ok (.iconst 3, 1) := by decide +kernel
theorem dX9_isAboveOne_45 : decode cX9_isAboveOne 45 = .ok (.invokevirtual 73, 3) := by decide +kernel
theorem dX9_isAboveOne_48 : decode cX9_isAboveOne 48 = .ok (.iload_n 2, 1) := by decide +kernel
theorem dX9_isAboveOne_49 : decode cX9_isAboveOne 49 = .ok (.invokestatic 84, 3) := by decide +kernel
theorem dX9_isAboveOne_52 : decode cX9_isAboveOne 52 = .ok (.ifCond .eq 7, 3) := by decide +kernel
theorem dX9_isAboveOne_55 : decode cX9_isAboveOne 55 = .ok (.iconst 1, 1) := by decide +kernel
theorem dX9_isAboveOne_56 : decode cX9_isAboveOne 56 = .ok (.goto 4, 3) := by decide +kernel
theorem dX9_isAboveOne_59 : decode cX9_isAboveOne 59 = .ok (.iconst 0, 1) := by decide +kernel
theorem dX9_isAboveOne_60 : decode cX9_isAboveOne 60 = .ok (.istore_n 3, 1) := by decide +kernel
theorem dX9_isAboveOne_61 : decode cX9_isAboveOne 61 = .ok (.iinc 4 1, 3) := by decide +kernel
theorem dX9_isAboveOne_64 : decode cX9_isAboveOne 64 = .ok (.goto (-59), 3) := by decide +kernel
theorem dX9_isAboveOne_67 : decode cX9_isAboveOne 67 = .ok (.iload_n 3, 1) := by decide +kernel
theorem dX9_isAboveOne_68 : decode cX9_isAboveOne 68 = .ok (.ireturn, 1) := by decide +kernel
theorem dX9_isMember_0 : decode cX9_isMember 0 = .ok (.iload_n 1, 1) := by decide +kernel
theorem dX9_isMember_1 : decode cX9_isMember 1 = .ok (.invokestatic 70, 3) := by decide +kernel
theorem dX9_isMember_4 : decode cX9_isMember 4 = .ok (.ifCond .eq 22, 3) := by decide +kernel
theorem dX9_isMember_7 : decode cX9_isMember 7 = .ok (.iload_n 2, 1) := by decide +kernel
theorem dX9_isMember_8 : decode cX9_isMember 8 = .ok (.iconst 0, 1) := by decide +kernel
theorem dX9_isMember_9 : decode cX9_isMember 9 = .ok (.aload_n 0, 1) := by decide +kernel
theorem dX9_isMember_10 : decode cX9_isMember 10 = .ok (.iload_n 1, 1) := by decide +kernel
theorem dX9_isMember_11 : decode cX9_isMember 11 = .ok (.invokevirtual 51, 3) := by decide +kernel
theorem dX9_isMember_14 : decode cX9_isMember 14 = .ok (.iconst 1, 1) := by decide +kernel
theorem dX9_isMember_15 : decode cX9_isMember 15 = .ok (.isub, 1) := by decide +kernel
theorem dX9_isMember_16 : decode cX9_isMember 16 = .ok (.invokestatic 66, 3) := by decide +kernel
theorem dX9_isMember_19 : decode cX9_isMember 19 = .ok (.ifCond .eq 7, 3) := by decide +kernel
theorem dX9_isMember_22 : decode cX9_isMember 22 = .ok (.iconst 1, 1) := by decide +kernel
theorem dX9_isMember_23 : decode cX9_isMember 23 = .ok (.goto 4, 3) := by decide +kernel
theorem dX9_isMember_26 : decode cX9_isMember 26 = .ok (.iconst 0, 1) := by decide +kernel
theorem dX9_isMember_27 : decode cX9_isMember 27 = .ok (.ireturn, 1) := by decide +kernel
theorem dX9_isSought_0 : decode cX9_isSought 0 = .ok (.aload_n 0, 1) := by decide +kernel
theorem dX9_isSought_1 : decode cX9_isSought 1 = .ok (.iconst 0, 1) := by decide +kernel
theorem dX9_isSought_2 : decode cX9_isSought 2 = .ok (.invokevirtual 280, 3) := by decide +kernel
theorem dX9_isSought_5 : decode cX9_isSought 5 = .ok (.ifCond .ne 7, 3) := by decide +kernel
theorem dX9_isSought_8 : decode cX9_isSought 8 = .ok (.iconst 1, 1) := by decide +kernel
theorem dX9_isSought_9 : decode cX9_isSought 9 = .ok (.goto 4, 3) := by decide +kernel
theorem dX9_isSought_12 : decode cX9_isSought 12 = .ok (.iconst 0, 1) := by decide +kernel
theorem dX9_isSought_13 : decode cX9_isSought 13 = .ok (.istore_n 2, 1) := by decide +kernel
theorem dX9_isSought_14 : decode cX9_isSought 14 = .ok (.aload_n 0, 1) := by decide +kernel
theorem dX9_isSought_15 : decode cX9_isSought 15 = .ok (.invokevirtual 295, 3) := by decide +kernel
theorem dX9_isSought_18 : decode cX9_isSought 18 = .ok (.iload_n 2, 1) := by decide +kernel
theorem dX9_isSought_19 : decode cX9_isSought 19 = .ok (.ifCond .eq 15, 3) := by decide +kernel
theorem dX9_isSought_22 : decode cX9_isSought 22 = .ok (.aload_n 0, 1) := by decide +kernel
theorem dX9_isSought_23 : decode cX9_isSought 23 = .ok (.invokevirtual 314, 3) := by decide +kernel
theorem dX9_isSought_26 : decode cX9_isSought 26 = .ok (.iload_n 1, 1) := by decide +kernel
theorem dX9_isSought_27 : decode cX9_isSought 27 = .ok (.if_icmp .ne 7, 3) := by decide +kernel
theorem dX9_isSought_30 : decode cX9_isSought 30 = .ok (.iconst 1, 1) := by decide +kernel
theorem dX9_isSought_31 : decode cX9_isSought 31 = .ok (.goto 4, 3) := by decide +kernel
theorem dX9_isSought_34 : decode cX9_isSought 34 = .ok (.iconst 0, 1) := by decide +kernel
theorem dX9_isSought_35 : decode cX9_isSought 35 = .ok (.ireturn, 1) := by decide +kernel
theorem dX9_link_0 : decode cX9_link 0 = .ok (.aload_n 0, 1) := by decide +kernel
theorem dX9_link_1 : decode cX9_link 1 = .ok (.aload_n 0, 1) := by decide +kernel
theorem dX9_link_2 : decode cX9_link 2 = .ok (.iload_n 1, 1) := by decide +kernel
theorem dX9_link_3 : decode cX9_link 3 = .ok (.iload_n 2, 1) := by decide +kernel
theorem dX9_link_4 : decode cX9_link 4 = .ok (.invokevirtual 311, 3) := by decide +kernel
theorem dX9_link_7 : decode cX9_link 7 = .ok (.ifCond .eq 7, 3) := by decide +kernel
theorem dX9_link_10 : decode cX9_link 10 = .ok (.iconst 0, 1) := by decide +kernel
theorem dX9_link_11 : decode cX9_link 11 = .ok (.goto 4, 3) := by decide +kernel
theorem dX9_link_14 : decode cX9_link 14 = .ok (.iconst 1, 1) := by decide +kernel
theorem dX9_link_15 : decode cX9_link 15 = .ok (.invokevirtual 62, 3) := by decide +kernel
theorem dX9_link_18 : decode cX9_link 18 = .ok (.ifCond .eq 5, 3) := by decide +kernel
theorem dX9_link_21 : decode cX9_link 21 = .ok (.iconst 0, 1) := by decide +kernel
theorem dX9_link_22 : decode cX9_link 22 = .ok (.ireturn, 1) := by decide +kernel
theorem dX9_link_23 : decode cX9_link 23 = .ok (.aload_n 0, 1) := by decide +kernel
theorem dX9_link_24 : decode cX9_link 24 = .ok (.iload_n 1, 1) := by decide +kernel
theorem dX9_link_25 : decode cX9_link 25 = .ok (.invokevirtual 305, 3) := by decide +kernel
theorem dX9_link_28 : decode cX9_link 28 = .ok (.aload_n 0, 1) := by decide +kernel
theorem dX9_link_29 : decode cX9_link 29 = .ok (.iload_n 2, 1) := by decide +kernel
theorem dX9_link_30 : decode cX9_link 30 = .ok (.invokevirtual 277, 3) := by decide +kernel
theorem dX9_link_33 : decode cX9_link 33 = .ok (.ireturn, 1) := by decide +kernel
theorem dX9_mayBe_0 : decode cX9_mayBe 0 = .ok (.iload_n 3, 1) := by decide +kernel
theorem dX9_mayBe_1 : decode cX9_mayBe 1 = .ok (.tableswitch 77 0 4 #[35, 35, 35, 43, 51], 35) := by decide +kernel
theorem dX9_mayBe_36 : decode cX9_mayBe 36 = .ok (.iload 4, 2) := by decide +kernel
theorem dX9_mayBe_38 : decode cX9_mayBe 38 = .ok (.iconst 0, 1) := by decide +kernel
theorem dX9_mayBe_39 : decode cX9_mayBe 39 = .ok (.iconst 1, 1) := by decide +kernel
theorem dX9_mayBe_40 : decode cX9_mayBe 40 = .ok (.invokestatic 66, 3) := by decide +kernel
theorem dX9_mayBe_43 : decode cX9_mayBe 43 = .ok (.ireturn, 1) := by decide +kernel
theorem dX9_mayBe_44 : decode cX9_mayBe 44 = .ok (.iload 4, 2) := by decide +kernel
theorem dX9_mayBe_46 : decode cX9_mayBe 46 = .ok (.iconst 0, 1) := by decide +kernel
theorem dX9_mayBe_47 : decode cX9_mayBe 47 = .ok (.iconst 3, 1) := by decide +kernel
theorem dX9_mayBe_48 : decode cX9_mayBe 48 = .ok (.invokestatic 66, 3) := by decide +kernel
theorem dX9_mayBe_51 : decode cX9_mayBe 51 = .ok (.ireturn, 1) := by decide +kernel
theorem dX9_mayBe_52 : decode cX9_mayBe 52 = .ok (.aload_n 0, 1) := by decide +kernel
theorem dX9_mayBe_53 : decode cX9_mayBe 53 = .ok (.iload_n 1, 1) := by decide +kernel
theorem dX9_mayBe_54 : decode cX9_mayBe 54 = .ok (.iload_n 2, 1) := by decide +kernel
theorem dX9_mayBe_55 : decode cX9_mayBe 55 = .ok (.invokevirtual 81, 3) := by decide +kernel
theorem dX9_mayBe_58 : decode cX9_mayBe 58 = .ok (.ifCond .ne 14, 3) := by decide +kernel
theorem dX9_mayBe_61 : decode cX9_mayBe 61 = .ok (.aload_n 0, 1) := by decide +kernel
theorem dX9_mayBe_62 : decode cX9_mayBe 62 = .ok (.iload_n 1, 1) := by decide +kernel
theorem dX9_mayBe_63 : decode cX9_mayBe 63 = .ok (.iload_n 2, 1) := by decide +kernel
theorem dX9_mayBe_64 : decode cX9_mayBe 64 = .ok (.iload 4, 2) := by decide +kernel
theorem dX9_mayBe_66 : decode cX9_mayBe 66 = .ok (.invokevirtual 87, 3) := by decide +kernel
theorem dX9_mayBe_69 : decode cX9_mayBe 69 = .ok (.ifCond .eq 7, 3) := by decide +kernel
theorem dX9_mayBe_72 : decode cX9_mayBe 72 = .ok (.iconst 1, 1) := by decide +kernel
theorem dX9_mayBe_73 : decode cX9_mayBe 73 = .ok (.goto 4, 3) := by decide +kernel
theorem dX9_mayBe_76 : decode cX9_mayBe 76 = .ok (.iconst 0, 1) := by decide +kernel
theorem dX9_mayBe_77 : decode cX9_mayBe 77 = .ok (.ireturn, 1) := by decide +kernel
theorem dX9_mayBe_78 : decode cX9_mayBe 78 = .ok (.iload_n 3, 1) := by decide +kernel
theorem dX9_mayBe_79 : decode cX9_mayBe 79 = .ok (.iconst 5, 1) := by decide +kernel
theorem dX9_mayBe_80 : decode cX9_mayBe 80 = .ok (.if_icmp .ne 18, 3) := by decide +kernel
theorem dX9_mayBe_83 : decode cX9_mayBe 83 = .ok (.aload_n 0, 1) := by decide +kernel
theorem dX9_mayBe_84 : decode cX9_mayBe 84 = .ok (.iload_n 1, 1) := by decide +kernel
theorem dX9_mayBe_85 : decode cX9_mayBe 85 = .ok (.iload_n 2, 1) := by decide +kernel
theorem dX9_mayBe_86 : decode cX9_mayBe 86 = .ok (.iload 4, 2) := by decide +kernel
theorem dX9_mayBe_88 : decode cX9_mayBe 88 = .ok (.invokevirtual 90, 3) := by decide +kernel
theorem dX9_mayBe_91 : decode cX9_mayBe 91 = .ok (.ifCond .eq 7, 3) := by decide +kernel
theorem dX9_mayBe_94 : decode cX9_mayBe 94 = .ok (.iconst 1, 1) := by decide +kernel
theorem dX9_mayBe_95 : decode cX9_mayBe 95 = .ok (.goto 4, 3) := by decide +kernel
theorem dX9_mayBe_98 : decode cX9_mayBe 98 = .ok (.iconst 0, 1) := by decide +kernel
theorem dX9_mayBe_99 : decode cX9_mayBe 99 = .ok (.ireturn, 1) := by decide +kernel
theorem dX9_maySet_0 : decode cX9_maySet 0 = .ok (.aload_n 0, 1) := by decide +kernel
theorem dX9_maySet_1 : decode cX9_maySet 1 = .ok (.iload_n 1, 1) := by decide +kernel
theorem dX9_maySet_2 : decode cX9_maySet 2 = .ok (.iload_n 2, 1) := by decide +kernel
theorem dX9_maySet_3 : decode cX9_maySet 3 = .ok (.iconst 1, 1) := by decide +kernel
theorem dX9_maySet_4 : decode cX9_maySet 4 = .ok (.invokevirtual 102, 3) := by decide +kernel
theorem dX9_maySet_7 : decode cX9_maySet 7 = .ok (.istore 5, 2) := by decide +kernel
theorem dX9_maySet_9 : decode cX9_maySet 9 = .ok (.iload_n 3, 1) := by decide +kernel
theorem dX9_maySet_10 : decode cX9_maySet 10 = .ok (.lookupswitch 117 #[(0, 26), (1, 72)], 26) := by decide +kernel
theorem dX9_maySet_36 : decode cX9_maySet 36 = .ok (.iload 4, 2) := by decide +kernel
theorem dX9_maySet_38 : decode cX9_maySet 38 = .ok (.iconst 0, 1) := by decide +kernel
theorem dX9_maySet_39 : decode cX9_maySet 39 = .ok (.iconst 3, 1) := by decide +kernel
theorem dX9_maySet_40 : decode cX9_maySet 40 = .ok (.invokestatic 66, 3) := by decide +kernel
theorem dX9_maySet_43 : decode cX9_maySet 43 = .ok (.ifCond .eq 37, 3) := by decide +kernel
theorem dX9_maySet_46 : decode cX9_maySet 46 = .ok (.aload_n 0, 1) := by decide +kernel
theorem dX9_maySet_47 : decode cX9_maySet 47 = .ok (.iload_n 1, 1) := by decide +kernel
theorem dX9_maySet_48 : decode cX9_maySet 48 = .ok (.iload 5, 2) := by decide +kernel
theorem dX9_maySet_50 : decode cX9_maySet 50 = .ok (.invokevirtual 81, 3) := by decide +kernel
theorem dX9_maySet_53 : decode cX9_maySet 53 = .ok (.ifCond .eq 9, 3) := by decide +kernel
theorem dX9_maySet_56 : decode cX9_maySet 56 = .ok (.iload 4, 2) := by decide +kernel
theorem dX9_maySet_58 : decode cX9_maySet 58 = .ok (.iconst 3, 1) := by decide +kernel
theorem dX9_maySet_59 : decode cX9_maySet 59 = .ok (.if_icmp .ne 21, 3) := by decide +kernel
theorem dX9_maySet_62 : decode cX9_maySet 62 = .ok (.iload 4, 2) := by decide +kernel
theorem dX9_maySet_64 : decode cX9_maySet 64 = .ok (.ifCond .gt 12, 3) := by decide +kernel
theorem dX9_maySet_67 : decode cX9_maySet 67 = .ok (.aload_n 0, 1) := by decide +kernel
theorem dX9_maySet_68 : decode cX9_maySet 68 = .ok (.iload_n 1, 1) := by decide +kernel
theorem dX9_maySet_69 : decode cX9_maySet 69 = .ok (.iload_n 2, 1) := by decide +kernel
theorem dX9_maySet_70 : decode cX9_maySet 70 = .ok (.invokevirtual 109, 3) := by decide +kernel
theorem dX9_maySet_73 : decode cX9_maySet 73 = .ok (.ifCond .ne 7, 3) := by decide +kernel
theorem dX9_maySet_76 : decode cX9_maySet 76 = .ok (.iconst 1, 1) := by decide +kernel
theorem dX9_maySet_77 : decode cX9_maySet 77 = .ok (.goto 4, 3) := by decide +kernel
theorem dX9_maySet_80 : decode cX9_maySet 80 = .ok (.iconst 0, 1) := by decide +kernel
theorem dX9_maySet_81 : decode cX9_maySet 81 = .ok (.ireturn, 1) := by decide +kernel
theorem dX9_maySet_82 : decode cX9_maySet 82 = .ok (.aload_n 0, 1) := by decide +kernel
theorem dX9_maySet_83 : decode cX9_maySet 83 = .ok (.iload_n 1, 1) := by decide +kernel
theorem dX9_maySet_84 : decode cX9_maySet 84 = .ok (.iload_n 2, 1) := by decide +kernel
theorem dX9_maySet_85 : decode cX9_maySet 85 = .ok (.invokevirtual 155, 3) := by decide +kernel
theorem dX9_maySet_88 : decode cX9_maySet 88 = .ok (.ifCond .eq 22, 3) := by decide +kernel
theorem dX9_maySet_91 : decode cX9_maySet 91 = .ok (.aload_n 0, 1) := by decide +kernel
theorem dX9_maySet_92 : decode cX9_maySet 92 = .ok (.iload_n 1, 1) := by decide +kernel
theorem dX9_maySet_93 : decode cX9_maySet 93 = .ok (.iload 5, 2) := by decide +kernel
theorem dX9_maySet_95 : decode cX9_maySet 95 = .ok (.aload_n 0, 1) := by decide +kernel
theorem dX9_maySet_96 : decode cX9_maySet 96 = .ok (.iload_n 1, 1) := by decide +kernel
theorem dX9_maySet_97 : decode cX9_maySet 97 = .ok (.iload_n 2, 1) := by decide +kernel
theorem dX9_maySet_98 : decode cX9_maySet 98 = .ok (.iconst 3, 1) := by decide +kernel
theorem dX9_maySet_99 : decode cX9_maySet 99 = .ok (.invokevirtual 102, 3) := by decide +kernel
theorem dX9_maySet_102 : decode cX9_maySet 102 = .ok (.iload 4, 2) := by decide +kernel
theorem dX9_maySet_104 : decode cX9_maySet 104 = .ok (.invokevirtual 138, 3) := by decide +kernel
theorem dX9_maySet_107 : decode cX9_maySet 107 = .ok (.goto 19, 3) := by decide +kernel
theorem dX9_maySet_110 : decode cX9_maySet 110 = .ok (.aload_n 0, 1) := by decide +kernel
theorem dX9_maySet_111 : decode cX9_maySet 111 = .ok (.iload_n 1, 1) := by decide +kernel
theorem dX9_maySet_112 : decode cX9_maySet 112 = .ok (.iload 5, 2) := by decide +kernel
theorem dX9_maySet_114 : decode cX9_maySet 114 = .ok (.aload_n 0, 1) := by decide +kernel
theorem dX9_maySet_115 : decode cX9_maySet 115 = .ok (.iload_n 1, 1) := by decide +kernel
theorem dX9_maySet_116 : decode cX9_maySet 116 = .ok (.iload_n 2, 1) := by decide +kernel
theorem dX9_maySet_117 : decode cX9_maySet 117 = .ok (.iconst 3, 1) := by decide +kernel
theorem dX9_maySet_118 : decode cX9_maySet 118 = .ok (.invokevirtual 102, 3) := by decide +kernel
theorem dX9_maySet_121 : decode cX9_maySet 121 = .ok (.iload 4, 2) := by decide +kernel
theorem dX9_maySet_123 : decode cX9_maySet 123 = .ok (.invokevirtual 141, 3) := by decide +kernel
theorem dX9_maySet_126 : decode cX9_maySet 126 = .ok (.ireturn, 1) := by decide +kernel
theorem dX9_maySet_127 : decode cX9_maySet 127 = .ok (.iload_n 3, 1) := by decide +kernel
theorem dX9_maySet_128 : decode cX9_maySet 128 = .ok (.iconst 2, 1) := by decide +kernel
theorem dX9_maySet_129 : decode cX9_maySet 129 = .ok (.if_icmp .ne 57, 3) := by decide +kernel
theorem dX9_maySet_132 : decode cX9_maySet 132 = .ok (.aload_n 0, 1) := by decide +kernel
theorem dX9_maySet_133 : decode cX9_maySet 133 = .ok (.iload_n 1, 1) := by decide +kernel
theorem dX9_maySet_134 : decode cX9_maySet 134 = .ok (.iload_n 2, 1) := by decide +kernel
theorem dX9_maySet_135 : decode cX9_maySet 135 = .ok (.invokevirtual 155, 3) := by decide +kernel
theorem dX9_maySet_138 : decode cX9_maySet 138 = .ok (.ifCond .ne 48, 3) := by decide +kernel
theorem dX9_maySet_141 : decode cX9_maySet 141 = .ok (.iload 4, 2) := by decide +kernel
theorem dX9_maySet_143 : decode cX9_maySet 143 = .ok (.bipush (-2), 2) := by decide +kernel
theorem dX9_maySet_145 : decode cX9_maySet 145 = .ok (.if_icmp .eq 37, 3) := by decide +kernel
theorem dX9_maySet_148 : decode cX9_maySet 148 = .ok (.aload_n 0, 1) := by decide +kernel
theorem dX9_maySet_149 : decode cX9_maySet 149 = .ok (.iload_n 1, 1) := by decide +kernel
theorem dX9_maySet_150 : decode cX9_maySet 150 = .ok (.iload_n 2, 1) := by decide +kernel
theorem dX9_maySet_151 : decode cX9_maySet 151 = .ok (.iconst 4, 1) := by decide +kernel
theorem dX9_maySet_152 : decode cX9_maySet 152 = .ok (.invokevirtual 102, 3) := by decide +kernel
theorem dX9_maySet_155 : decode cX9_maySet 155 = .ok (.iconst 3, 1) := by decide +kernel
theorem dX9_maySet_156 : decode cX9_maySet 156 = .ok (.if_icmp .ne 30, 3) := by decide +kernel
theorem dX9_maySet_159 : decode cX9_maySet 159 = .ok (.aload_n 0, 1) := by decide +kernel
theorem dX9_maySet_160 : decode cX9_maySet 160 = .ok (.iload_n 1, 1) := by decide +kernel
theorem dX9_maySet_161 : decode cX9_maySet 161 = .ok (.iload_n 2, 1) := by decide +kernel
theorem dX9_maySet_162 : decode cX9_maySet 162 = .ok (.iconst 5, 1) := by decide +kernel
theorem dX9_maySet_163 : decode cX9_maySet 163 = .ok (.invokevirtual 102, 3) := by decide +kernel
theorem dX9_maySet_166 : decode cX9_maySet 166 = .ok (.iconst (-1), 1) := by decide +kernel
theorem dX9_maySet_167 : decode cX9_maySet 167 = .ok (.if_icmp .ne 19, 3) := by decide +kernel
theorem dX9_maySet_170 : decode cX9_maySet 170 = .ok (.iload 4, 2) := by decide +kernel
theorem dX9_maySet_172 : decode cX9_maySet 172 = .ok (.bipush (-99), 2) := by decide +kernel
theorem dX9_maySet_174 : decode cX9_maySet 174 = .ok (.bipush 99, 2) := by decide +kernel
theorem dX9_maySet_176 : decode cX9_maySet 176 = .ok (.invokestatic 66, 3) := by decide +kernel
theorem dX9_maySet_179 : decode cX9_maySet 179 = .ok (.ifCond .eq 7, 3) := by decide +kernel
theorem dX9_maySet_182 : decode cX9_maySet 182 = .ok (.iconst 1, 1) := by decide +kernel
theorem dX9_maySet_183 : decode cX9_maySet 183 = .ok (.goto 4, 3) := by decide +kernel
theorem dX9_maySet_186 : decode cX9_maySet 186 = .ok (.iconst 0, 1) := by decide +kernel
theorem dX9_maySet_187 : decode cX9_maySet 187 = .ok (.ireturn, 1) := by decide +kernel
theorem dX9_memberInfo_0 : decode cX9_memberInfo 0 = .ok (.aload_n 0, 1) := by decide +kernel
theorem dX9_memberInfo_1 : decode cX9_memberInfo 1 = .ok (.aload_n 0, 1) := by decide +kernel
theorem dX9_memberInfo_2 : decode cX9_memberInfo 2 = .ok (.iload_n 1, 1) := by decide +kernel
theorem dX9_memberInfo_3 : decode cX9_memberInfo 3 = .ok (.iload_n 2, 1) := by decide +kernel
theorem dX9_memberInfo_4 : decode cX9_memberInfo 4 = .ok (.invokevirtual 152, 3) := by decide +kernel
theorem dX9_memberInfo_7 : decode cX9_memberInfo 7 = .ok (.ifCond .ne 7, 3) := by decide +kernel
theorem dX9_memberInfo_10 : decode cX9_memberInfo 10 = .ok (.iconst 1, 1) := by decide +kernel
theorem dX9_memberInfo_11 : decode cX9_memberInfo 11 = .ok (.goto 18, 3) := by decide +kernel
theorem dX9_memberInfo_14 : decode cX9_memberInfo 14 = .ok (.iload_n 3, 1) := by decide +kernel
theorem dX9_memberInfo_15 : decode cX9_memberInfo 15 = .ok (.iconst 0, 1) := by decide +kernel
theorem dX9_memberInfo_16 : decode cX9_memberInfo 16 = .ok (.bipush 9, 2) := by decide +kernel
theorem dX9_memberInfo_18 : decode cX9_memberInfo 18 = .ok (.invokestatic 66, 3) := by decide +kernel
theorem dX9_memberInfo_21 : decode cX9_memberInfo 21 = .ok (.ifCond .ne 7, 3) := by decide +kernel
theorem dX9_memberInfo_24 : decode cX9_memberInfo 24 = .ok (.iconst 2, 1) := by decide +kernel
theorem dX9_memberInfo_25 : decode cX9_memberInfo 25 = .ok (.goto 4, 3) := by decide +kernel
theorem dX9_memberInfo_28 : decode cX9_memberInfo 28 = .ok (.iconst 0, 1) := by decide +kernel
theorem dX9_memberInfo_29 : decode cX9_memberInfo 29 = .ok (.invokevirtual 62, 3) := by decide +kernel
theorem dX9_memberInfo_32 : decode cX9_memberInfo 32 = .ok (.ifCond .eq 5, 3) := by decide +kernel
theorem dX9_memberInfo_35 : decode cX9_memberInfo 35 = .ok (.iconst 0, 1) := by decide +kernel
theorem dX9_memberInfo_36 : decode cX9_memberInfo 36 = .ok (.ireturn, 1) := by decide +kernel
theorem dX9_memberInfo_37 : decode cX9_memberInfo 37 = .ok (.aload_n 0, 1) := by decide +kernel
theorem dX9_memberInfo_38 : decode cX9_memberInfo 38 = .ok (.iload_n 1, 1) := by decide +kernel
theorem dX9_memberInfo_39 : decode cX9_memberInfo 39 = .ok (.iload_n 2, 1) := by decide +kernel
theorem dX9_memberInfo_40 : decode cX9_memberInfo 40 = .ok (.iload_n 3, 1) := by decide +kernel
theorem dX9_memberInfo_41 : decode cX9_memberInfo 41 = .ok (.invokevirtual 164, 3) := by decide +kernel
theorem dX9_memberInfo_44 : decode cX9_memberInfo 44 = .ok (.ireturn, 1) := by decide +kernel
theorem dX9_members_0 : decode cX9_members 0 = .ok (.aload_n 0, 1) := by decide +kernel
theorem dX9_members_1 : decode cX9_members 1 = .ok (.iload_n 1, 1) := by decide +kernel
theorem dX9_members_2 : decode cX9_members 2 = .ok (.invokestatic 70, 3) := by decide +kernel
theorem dX9_members_5 : decode cX9_members 5 = .ok (.ifCond .eq 7, 3) := by decide +kernel
theorem dX9_members_8 : decode cX9_members 8 = .ok (.iconst 0, 1) := by decide +kernel
theorem dX9_members_9 : decode cX9_members 9 = .ok (.goto 4, 3) := by decide +kernel
theorem dX9_members_12 : decode cX9_members 12 = .ok (.iconst 1, 1) := by decide +kernel
theorem dX9_members_13 : decode cX9_members 13 = .ok (.invokevirtual 62, 3) := by decide +kernel
theorem dX9_members_16 : decode cX9_members 16 = .ok (.ifCond .eq 7, 3) := by decide +kernel
theorem dX9_members_19 : decode cX9_members 19 = .ok (.iconst 0, 1) := by decide +kernel
theorem dX9_members_20 : decode cX9_members 20 = .ok (.goto 8, 3) := by decide +kernel
theorem dX9_members_23 : decode cX9_members 23 = .ok (.aload_n 0, 1) := by decide +kernel
theorem dX9_members_24 : decode cX9_members 24 = .ok (.iload_n 1, 1) := by decide +kernel
theorem dX9_members_25 : decode cX9_members 25 = .ok (.invokevirtual 51, 3) := by decide +kernel
theorem dX9_members_28 : decode cX9_members 28 = .ok (.ireturn, 1) := by decide +kernel
theorem dX9_method_0 : decode cX9_method 0 = .ok (.aload_n 0, 1) := by decide +kernel
theorem dX9_method_1 : decode cX9_method 1 = .ok (.aload_n 0, 1) := by decide +kernel
theorem dX9_method_2 : decode cX9_method 2 = .ok (.iload_n 1, 1) := by decide +kernel
theorem dX9_method_3 : decode cX9_method 3 = .ok (.iload_n 2, 1) := by decide +kernel
theorem dX9_method_4 : decode cX9_method 4 = .ok (.invokevirtual 77, 3) := by decide +kernel
theorem dX9_method_7 : decode cX9_method 7 = .ok (.ifCond .ne 7, 3) := by decide +kernel
theorem dX9_method_10 : decode cX9_method 10 = .ok (.iconst 1, 1) := by decide +kernel
theorem dX9_method_11 : decode cX9_method 11 = .ok (.goto 18, 3) := by decide +kernel
theorem dX9_method_14 : decode cX9_method 14 = .ok (.iload_n 3, 1) := by decide +kernel
theorem dX9_method_15 : decode cX9_method 15 = .ok (.iconst 0, 1) := by decide +kernel
theorem dX9_method_16 : decode cX9_method 16 = .ok (.bipush 7, 2) := by decide +kernel
theorem dX9_method_18 : decode cX9_method 18 = .ok (.invokestatic 66, 3) := by decide +kernel
theorem dX9_method_21 : decode cX9_method 21 = .ok (.ifCond .ne 7, 3) := by decide +kernel
theorem dX9_method_24 : decode cX9_method 24 = .ok (.iconst 2, 1) := by decide +kernel
theorem dX9_method_25 : decode cX9_method 25 = .ok (.goto 4, 3) := by decide +kernel
theorem dX9_method_28 : decode cX9_method 28 = .ok (.iconst 0, 1) := by decide +kernel
theorem dX9_method_29 : decode cX9_method 29 = .ok (.invokevirtual 62, 3) := by decide +kernel
theorem dX9_method_32 : decode cX9_method 32 = .ok (.ifCond .eq 5, 3) := by decide +kernel
theorem dX9_method_35 : decode cX9_method 35 = .ok (.iconst 0, 1) := by decide +kernel
theorem dX9_method_36 : decode cX9_method 36 = .ok (.ireturn, 1) := by decide +kernel
theorem dX9_method_37 : decode cX9_method 37 = .ok (.aload_n 0, 1) := by decide +kernel
theorem dX9_method_38 : decode cX9_method 38 = .ok (.iload_n 3, 1) := by decide +kernel
theorem dX9_method_39 : decode cX9_method 39 = .ok (.aload_n 0, 1) := by decide +kernel
theorem dX9_method_40 : decode cX9_method 40 = .ok (.getfield 16, 3) := by decide +kernel
theorem dX9_method_43 : decode cX9_method 43 = .ok (.iconst 0, 1) := by decide +kernel
theorem dX9_method_44 : decode cX9_method 44 = .ok (.iaload, 1) := by decide +kernel
theorem dX9_method_45 : decode cX9_method 45 = .ok (.aload_n 0, 1) := by decide +kernel
theorem dX9_method_46 : decode cX9_method 46 = .ok (.getfield 16, 3) := by decide +kernel
theorem dX9_method_49 : decode cX9_method 49 = .ok (.iconst 1, 1) := by decide +kernel
theorem dX9_method_50 : decode cX9_method 50 = .ok (.iaload, 1) := by decide +kernel
theorem dX9_method_51 : decode cX9_method 51 = .ok (.aload_n 0, 1) := by decide +kernel
theorem dX9_method_52 : decode cX9_method 52 = .ok (.getfield 16, 3) := by decide +kernel
theorem dX9_method_55 : decode cX9_method 55 = .ok (.iconst 2, 1) := by decide +kernel
theorem dX9_method_56 : decode cX9_method 56 = .ok (.iaload, 1) := by decide +kernel
theorem dX9_method_57 : decode cX9_method 57 = .ok (.aload_n 0, 1) := by decide +kernel
theorem dX9_method_58 : decode cX9_method 58 = .ok (.getfield 16, 3) := by decide +kernel
theorem dX9_method_61 : decode cX9_method 61 = .ok (.iconst 3, 1) := by decide +kernel
theorem dX9_method_62 : decode cX9_method 62 = .ok (.iaload, 1) := by decide +kernel
theorem dX9_method_63 : decode cX9_method 63 = .ok (.invokevirtual 195, 3) := by decide +kernel
theorem dX9_method_66 : decode cX9_method 66 = .ok (.aload_n 0, 1) := by decide +kernel
theorem dX9_method_67 : decode cX9_method 67 = .ok (.iload_n 1, 1) := by decide +kernel
theorem dX9_method_68 : decode cX9_method 68 = .ok (.iload_n 2, 1) := by decide +kernel
theorem dX9_method_69 : decode cX9_method 69 = .ok (.invokevirtual 226, 3) := by decide +kernel
theorem dX9_method_72 : decode cX9_method 72 = .ok (.ireturn, 1) := by decide +kernel
theorem dX9_moveMember_0 : decode cX9_moveMember 0 = .ok (.aload_n 0, 1) := by decide +kernel
theorem dX9_moveMember_1 : decode cX9_moveMember 1 = .ok (.iload_n 1, 1) := by decide +kernel
theorem dX9_moveMember_2 : decode cX9_moveMember 2 = .ok (.iload_n 2, 1) := by decide +kernel
theorem dX9_moveMember_3 : decode cX9_moveMember 3 = .ok (.invokevirtual 152, 3) := by decide +kernel
theorem dX9_moveMember_6 : decode cX9_moveMember 6 = .ok (.ifCond .eq 16, 3) := by decide +kernel
theorem dX9_moveMember_9 : decode cX9_moveMember 9 = .ok (.aload_n 0, 1) := by decide +kernel
theorem dX9_moveMember_10 : decode cX9_moveMember 10 = .ok (.iload_n 1, 1) := by decide +kernel
theorem dX9_moveMember_11 : decode cX9_moveMember 11 = .ok (.iload_n 3, 1) := by decide +kernel
theorem dX9_moveMember_12 : decode cX9_moveMember 12 = .ok (.invokevirtual 77, 3) := by decide +kernel
theorem dX9_moveMember_15 : decode cX9_moveMember 15 = .ok (.ifCond .eq 7, 3) := by decide +kernel
theorem dX9_moveMember_18 : decode cX9_moveMember 18 = .ok (.iconst 1, 1) := by decide +kernel
theorem dX9_moveMember_19 : decode cX9_moveMember 19 = .ok (.goto 4, 3) := by decide +kernel
theorem dX9_moveMember_22 : decode cX9_moveMember 22 = .ok (.iconst 0, 1) := by decide +kernel
theorem dX9_moveMember_23 : decode cX9_moveMember 23 = .ok (.istore 4, 2) := by decide +kernel
theorem dX9_moveMember_25 : decode cX9_moveMember 25 = .ok (.iload 4, 2) := by decide +kernel
theorem dX9_moveMember_27 : decode cX9_moveMember 27 = .ok (.ifCond .eq 28, 3) := by decide +kernel
theorem dX9_moveMember_30 : decode cX9_moveMember 30 = .ok (.aload_n 0, 1) := by decide +kernel
theorem dX9_moveMember_31 : decode cX9_moveMember 31 = .ok (.iload_n 1, 1) := by decide +kernel
theorem dX9_moveMember_32 : decode cX9_moveMember 32 = .ok (.iload_n 2, 1) := by decide +kernel
theorem dX9_moveMember_33 : decode cX9_moveMember 33 = .ok (.invokevirtual 109, 3) := by decide +kernel
theorem dX9_moveMember_36 : decode cX9_moveMember 36 = .ok (.ifCond .eq 15, 3) := by decide +kernel
theorem dX9_moveMember_39 : decode cX9_moveMember 39 = .ok (.aload_n 0, 1) := by decide +kernel
theorem dX9_moveMember_40 : decode cX9_moveMember 40 = .ok (.iload_n 1, 1) := by decide +kernel
theorem dX9_moveMember_41 : decode cX9_moveMember 41 = .ok (.iload_n 3, 1) := by decide +kernel
theorem dX9_moveMember_42 : decode cX9_moveMember 42 = .ok (.bipush 7, 2) := by decide +kernel
theorem dX9_moveMember_44 : decode cX9_moveMember 44 = .ok (.invokevirtual 73, 3) := by decide +kernel
theorem dX9_moveMember_47 : decode cX9_moveMember 47 = .ok (.iconst 1, 1) := by decide +kernel
theorem dX9_moveMember_48 : decode cX9_moveMember 48 = .ok (.if_icmp .ne 7, 3) := by decide +kernel
theorem dX9_moveMember_51 : decode cX9_moveMember 51 = .ok (.iconst 1, 1) := by decide +kernel
theorem dX9_moveMember_52 : decode cX9_moveMember 52 = .ok (.goto 4, 3) := by decide +kernel
theorem dX9_moveMember_55 : decode cX9_moveMember 55 = .ok (.iconst 0, 1) := by decide +kernel
theorem dX9_moveMember_56 : decode cX9_moveMember 56 = .ok (.istore 5, 2) := by decide +kernel
theorem dX9_moveMember_58 : decode cX9_moveMember 58 = .ok (.iload 5, 2) := by decide +kernel
theorem dX9_moveMember_60 : decode cX9_moveMember 60 = .ok (.ifCond .eq 59, 3) := by decide +kernel
theorem dX9_moveMember_63 : decode cX9_moveMember 63 = .ok (.aload_n 0, 1) := by decide +kernel
theorem dX9_moveMember_64 : decode cX9_moveMember 64 = .ok (.iload_n 1, 1) := by decide +kernel
theorem dX9_moveMember_65 : decode cX9_moveMember 65 = .ok (.iload_n 3, 1) := by decide +kernel
theorem dX9_moveMember_66 : decode cX9_moveMember 66 = .ok (.invokevirtual 81, 3) := by decide +kernel
theorem dX9_moveMember_69 : decode cX9_moveMember 69 = .ok (.ifCond .eq 46, 3) := by decide +kernel
theorem dX9_moveMember_72 : decode cX9_moveMember 72 = .ok (.aload_n 0, 1) := by decide +kernel
theorem dX9_moveMember_73 : decode cX9_moveMember 73 = .ok (.iload_n 1, 1) := by decide +kernel
theorem dX9_moveMember_74 : decode cX9_moveMember 74 = .ok (.iload_n 2, 1) := by decide +kernel
theorem dX9_moveMember_75 : decode cX9_moveMember 75 = .ok (.iconst 3, 1) := by decide +kernel
theorem dX9_moveMember_76 : decode cX9_moveMember 76 = .ok (.invokevirtual 102, 3) := by decide +kernel
theorem dX9_moveMember_79 : decode cX9_moveMember 79 = .ok (.iconst 3, 1) := by decide +kernel
theorem dX9_moveMember_80 : decode cX9_moveMember 80 = .ok (.if_icmp .ne 39, 3) := by decide +kernel
theorem dX9_moveMember_83 : decode cX9_moveMember 83 = .ok (.aload_n 0, 1) := by decide +kernel
theorem dX9_moveMember_84 : decode cX9_moveMember 84 = .ok (.iload_n 1, 1) := by decide +kernel
theorem dX9_moveMember_85 : decode cX9_moveMember 85 = .ok (.iload_n 2, 1) := by decide +kernel
theorem dX9_moveMember_86 : decode cX9_moveMember 86 = .ok (.invokevirtual 155, 3) := by decide +kernel
theorem dX9_moveMember_89 : decode cX9_moveMember 89 = .ok (.ifCond .eq 15, 3) := by decide +kernel
theorem dX9_moveMember_92 : decode cX9_moveMember 92 = .ok (.aload_n 0, 1) := by decide +kernel
theorem dX9_moveMember_93 : decode cX9_moveMember 93 = .ok (.iload_n 1, 1) := by decide +kernel
theorem dX9_moveMember_94 : decode cX9_moveMember 94 = .ok (.iload_n 2, 1) := by decide +kernel
theorem dX9_moveMember_95 : decode cX9_moveMember 95 = .ok (.invokevirtual 161, 3) := by decide +kernel
theorem dX9_moveMember_98 : decode cX9_moveMember 98 = .ok (.ifCond .ne 21, 3) := by decide +kernel
theorem dX9_moveMember_101 : decode cX9_moveMember 101 = .ok (.goto 14, 3) := by decide +kernel
theorem dX9_moveMember_104 : decode cX9_moveMember 104 = .ok (.aload_n 0, 1) := by decide +kernel
theorem dX9_moveMember_105 : decode cX9_moveMember 105 = .ok (.iload_n 1, 1) := by decide +kernel
theorem dX9_moveMember_106 : decode cX9_moveMember 106 = .ok (.iload_n 2, 1) := by decide +kernel
theorem dX9_moveMember_107 : decode cX9_moveMember 107 = .ok (.iconst 4, 1) := by decide +kernel
theorem dX9_moveMember_108 : decode cX9_moveMember 108 = .ok (.invokevirtual 102, 3) := by decide +kernel
theorem dX9_moveMember_111 : decode cX9_moveMember 111 = .ok (.iconst 3, 1) := by decide +kernel
theorem dX9_moveMember_112 : decode cX9_moveMember 112 = .ok (.if_icmp .ne 7, 3) := by decide +kernel
theorem dX9_moveMember_115 : decode cX9_moveMember 115 = .ok (.iconst 1, 1) := by decide +kernel
theorem dX9_moveMember_116 : decode cX9_moveMember 116 = .ok (.goto 4, 3) := by decide +kernel
theorem dX9_moveMember_119 : decode cX9_moveMember 119 = .ok (.iconst 0, 1) := by decide +kernel
theorem dX9_moveMember_120 : decode cX9_moveMember 120 = .ok (.istore 5, 2) := by decide +kernel
theorem dX9_moveMember_122 : decode cX9_moveMember 122 = .ok (.iload 5, 2) := by decide +kernel
theorem dX9_moveMember_124 : decode cX9_moveMember 124 = .ok (.ifCond .eq 60, 3) := by decide +kernel
theorem dX9_moveMember_127 : decode cX9_moveMember 127 = .ok (.iload_n 3, 1) := by decide +kernel
theorem dX9_moveMember_128 : decode cX9_moveMember 128 = .ok (.ifCond .eq 56, 3) := by decide +kernel
theorem dX9_moveMember_131 : decode cX9_moveMember 131 = .ok (.aload_n 0, 1) := by decide +kernel
theorem dX9_moveMember_132 : decode cX9_moveMember 132 = .ok (.iload_n 1, 1) := by decide +kernel
theorem dX9_moveMember_133 : decode cX9_moveMember 133 = .ok (.iload_n 3, 1) := by decide +kernel
theorem dX9_moveMember_134 : decode cX9_moveMember 134 = .ok (.aload_n 0, 1) := by decide +kernel
theorem dX9_moveMember_135 : decode cX9_moveMember 135 = .ok (.iload_n 1, 1) := by decide +kernel
theorem dX9_moveMember_136 : decode cX9_moveMember 136 = .ok (.iload_n 2, 1) := by decide +kernel
theorem dX9_moveMember_137 : decode cX9_moveMember 137 = .ok (.iconst 0, 1) := by decide +kernel
theorem dX9_moveMember_138 : decode cX9_moveMember 138 = .ok (.invokevirtual 102, 3) := by decide +kernel
theorem dX9_moveMember_141 : decode cX9_moveMember 141 = .ok (.aload_n 0, 1) := by decide +kernel
theorem dX9_moveMember_142 : decode cX9_moveMember 142 = .ok (.iload_n 1, 1) := by decide +kernel
theorem dX9_moveMember_143 : decode cX9_moveMember 143 = .ok (.iload_n 2, 1) := by decide +kernel
theorem dX9_moveMember_144 : decode cX9_moveMember 144 = .ok (.iconst 2, 1) := by decide +kernel
theorem dX9_moveMember_145 : decode cX9_moveMember 145 = .ok (.invokevirtual 102, 3) := by decide +kernel
theorem dX9_moveMember_148 : decode cX9_moveMember 148 = .ok (.aload_n 0, 1) := by decide +kernel
theorem dX9_moveMember_149 : decode cX9_moveMember 149 = .ok (.iload_n 1, 1) := by decide +kernel
theorem dX9_moveMember_150 : decode cX9_moveMember 150 = .ok (.iload_n 2, 1) := by decide +kernel
theorem dX9_moveMember_151 : decode cX9_moveMember 151 = .ok (.bipush 6, 2) := by decide +kernel
theorem dX9_moveMember_153 : decode cX9_moveMember 153 = .ok (.invokevirtual 102, 3) := by decide +kernel
theorem dX9_moveMember_156 : decode cX9_moveMember 156 = .ok (.aload_n 0, 1) := by decide +kernel
theorem dX9_moveMember_157 : decode cX9_moveMember 157 = .ok (.iload_n 1, 1) := by decide +kernel
theorem dX9_moveMember_158 : decode cX9_moveMember 158 = .ok (.iload_n 2, 1) := by decide +kernel
theorem dX9_moveMember_159 : decode cX9_moveMember 159 = .ok (.bipush 7, 2) := by decide +kernel
theorem dX9_moveMember_161 : decode cX9_moveMember 161 = .ok (.invokevirtual 102, 3) := by decide +kernel
theorem dX9_moveMember_164 : decode cX9_moveMember 164 = .ok (.aload_n 0, 1) := by decide +kernel
theorem dX9_moveMember_165 : decode cX9_moveMember 165 = .ok (.iload_n 1, 1) := by decide +kernel
theorem dX9_moveMember_166 : decode cX9_moveMember 166 = .ok (.iload_n 2, 1) := by decide +kernel
theorem dX9_moveMember_167 : decode cX9_moveMember 167 = .ok (.bipush 8, 2) := by decide +kernel
theorem dX9_moveMember_169 : decode cX9_moveMember 169 = .ok (.invokevirtual 102, 3) := by decide +kernel
theorem dX9_moveMember_172 : decode cX9_moveMember 172 = .ok (.invokevirtual 144, 3) := by decide +kernel
theorem dX9_moveMember_175 : decode cX9_moveMember 175 = .ok (.bipush (-2), 2) := by decide +kernel
theorem dX9_moveMember_177 : decode cX9_moveMember 177 = .ok (.if_icmp .ne 7, 3) := by decide +kernel
theorem dX9_moveMember_180 : decode cX9_moveMember 180 = .ok (.iconst 1, 1) := by decide +kernel
theorem dX9_moveMember_181 : decode cX9_moveMember 181 = .ok (.goto 4, 3) := by decide +kernel
theorem dX9_moveMember_184 : decode cX9_moveMember 184 = .ok (.iconst 0, 1) := by decide +kernel
theorem dX9_moveMember_185 : decode cX9_moveMember 185 = .ok (.istore 6, 2) := by decide +kernel
theorem dX9_moveMember_187 : decode cX9_moveMember 187 = .ok (.aload_n 0, 1) := by decide +kernel
theorem dX9_moveMember_188 : decode cX9_moveMember 188 = .ok (.iload 4, 2) := by decide +kernel
theorem dX9_moveMember_190 : decode cX9_moveMember 190 = .ok (.ifCond .ne 7, 3) := by decide +kernel
theorem dX9_moveMember_193 : decode cX9_moveMember 193 = .ok (.iconst 1, 1) := by decide +kernel
theorem dX9_moveMember_194 : decode cX9_moveMember 194 = .ok (.goto 22, 3) := by decide +kernel
theorem dX9_moveMember_197 : decode cX9_moveMember 197 = .ok (.iload 5, 2) := by decide +kernel
theorem dX9_moveMember_199 : decode cX9_moveMember 199 = .ok (.ifCond .ne 7, 3) := by decide +kernel
theorem dX9_moveMember_202 : decode cX9_moveMember 202 = .ok (.iconst 2, 1) := by decide +kernel
theorem dX9_moveMember_203 : decode cX9_moveMember 203 = .ok (.goto 13, 3) := by decide +kernel
theorem dX9_moveMember_206 : decode cX9_moveMember 206 = .ok (.iload 6, 2) := by decide +kernel
theorem dX9_moveMember_208 : decode cX9_moveMember 208 = .ok (.ifCond .ne 7, 3) := by decide +kernel
theorem dX9_moveMember_211 : decode cX9_moveMember 211 = .ok (.iconst 3, 1) := by decide +kernel
theorem dX9_moveMember_212 : decode cX9_moveMember 212 = .ok (.goto 4, 3) := by decide +kernel
theorem dX9_moveMember_215 : decode cX9_moveMember 215 = .ok (.iconst 0, 1) := by decide +kernel
theorem dX9_moveMember_216 : decode cX9_moveMember 216 = .ok (.invokevirtual 62, 3) := by decide +kernel
theorem dX9_moveMember_219 : decode cX9_moveMember 219 = .ok (.ifCond .eq 5, 3) := by decide +kernel
theorem dX9_moveMember_222 : decode cX9_moveMember 222 = .ok (.iconst 0, 1) := by decide +kernel
theorem dX9_moveMember_223 : decode cX9_moveMember 223 = .ok (.ireturn, 1) := by decide +kernel
theorem dX9_moveMember_224 : decode cX9_moveMember 224 = .ok (.aload_n 0, 1) := by decide +kernel
theorem dX9_moveMember_225 : decode cX9_moveMember 225 = .ok (.iload_n 1, 1) := by decide +kernel
theorem dX9_moveMember_226 : decode cX9_moveMember 226 = .ok (.iload_n 2, 1) := by decide +kernel
theorem dX9_moveMember_227 : decode cX9_moveMember 227 = .ok (.iconst 1, 1) := by decide +kernel
theorem dX9_moveMember_228 : decode cX9_moveMember 228 = .ok (.invokevirtual 102, 3) := by decide +kernel
theorem dX9_moveMember_231 : decode cX9_moveMember 231 = .ok (.istore 7, 2) := by decide +kernel
theorem dX9_moveMember_233 : decode cX9_moveMember 233 = .ok (.aload_n 0, 1) := by decide +kernel
theorem dX9_moveMember_234 : decode cX9_moveMember 234 = .ok (.invokevirtual 93, 3) := by decide +kernel
theorem dX9_moveMember_237 : decode cX9_moveMember 237 = .ok (.aload_n 0, 1) := by decide +kernel
theorem dX9_moveMember_238 : decode cX9_moveMember 238 = .ok (.getfield 7, 3) := by decide +kernel
theorem dX9_moveMember_241 : decode cX9_moveMember 241 = .ok (.iload_n 1, 1) := by decide +kernel
theorem dX9_moveMember_242 : decode cX9_moveMember 242 = .ok (.iload_n 2, 1) := by decide +kernel
theorem dX9_moveMember_243 : decode cX9_moveMember 243 = .ok (.invokestatic 40, 3) := by decide +kernel
theorem dX9_moveMember_246 : decode cX9_moveMember 246 = .ok (.iconst 1, 1) := by decide +kernel
theorem dX9_moveMember_247 : decode cX9_moveMember 247 = .ok (.iadd, 1) := by decide +kernel
theorem dX9_moveMember_248 : decode cX9_moveMember 248 = .ok (.iload_n 3, 1) := by decide +kernel
theorem dX9_moveMember_249 : decode cX9_moveMember 249 = .ok (.iastore, 1) := by decide +kernel
theorem dX9_moveMember_250 : decode cX9_moveMember 250 = .ok (.iload 7, 2) := by decide +kernel
theorem dX9_moveMember_252 : decode cX9_moveMember 252 = .ok (.ireturn, 1) := by decide +kernel
theorem dX9_removeClass_0 : decode cX9_removeClass 0 = .ok (.aload_n 0, 1) := by decide +kernel
theorem dX9_removeClass_1 : decode cX9_removeClass 1 = .ok (.aload_n 0, 1) := by decide +kernel
theorem dX9_removeClass_2 : decode cX9_removeClass 2 = .ok (.iload_n 1, 1) := by decide +kernel
theorem dX9_removeClass_3 : decode cX9_removeClass 3 = .ok (.iload_n 2, 1) := by decide +kernel
theorem dX9_removeClass_4 : decode cX9_removeClass 4 = .ok (.invokevirtual 77, 3) := by decide +kernel
theorem dX9_removeClass_7 : decode cX9_removeClass 7 = .ok (.ifCond .ne 7, 3) := by decide +kernel
theorem dX9_removeClass_10 : decode cX9_removeClass 10 = .ok (.iconst 1, 1) := by decide +kernel
theorem dX9_removeClass_11 : decode cX9_removeClass 11 = .ok (.goto 21, 3) := by decide +kernel
theorem dX9_removeClass_14 : decode cX9_removeClass 14 = .ok (.iload_n 2, 1) := by decide +kernel
theorem dX9_removeClass_15 : decode cX9_removeClass 15 = .ok (.ifCond .eq 12, 3) := by decide +kernel
theorem dX9_removeClass_18 : decode cX9_removeClass 18 = .ok (.aload_n 0, 1) := by decide +kernel
theorem dX9_removeClass_19 : decode cX9_removeClass 19 = .ok (.iload_n 1, 1) := by decide +kernel
theorem dX9_removeClass_20 : decode cX9_removeClass 20 = .ok (.iload_n 2, 1) := by decide +kernel
theorem dX9_removeClass_21 : decode cX9_removeClass 21 = .ok (.invokevirtual 99, 3) := by decide +kernel
theorem dX9_removeClass_24 : decode cX9_removeClass 24 = .ok (.ifCond .eq 7, 3) := by decide +kernel
theorem dX9_removeClass_27 : decode cX9_removeClass 27 = .ok (.iconst 2, 1) := by decide +kernel
theorem dX9_removeClass_28 : decode cX9_removeClass 28 = .ok (.goto 4, 3) := by decide +kernel
theorem dX9_removeClass_31 : decode cX9_removeClass 31 = .ok (.iconst 0, 1) := by decide +kernel
theorem dX9_removeClass_32 : decode cX9_removeClass 32 = .ok (.invokevirtual 62, 3) := by decide +kernel
theorem dX9_removeClass_35 : decode cX9_removeClass 35 = .ok (.ifCond .eq 5, 3) := by decide +kernel
theorem dX9_removeClass_38 : decode cX9_removeClass 38 = .ok (.iconst 0, 1) := by decide +kernel
theorem dX9_removeClass_39 : decode cX9_removeClass 39 = .ok (.ireturn, 1) := by decide +kernel
theorem dX9_removeClass_40 : decode cX9_removeClass 40 = .ok (.aload_n 0, 1) := by decide +kernel
theorem dX9_removeClass_41 : decode cX9_removeClass 41 = .ok (.invokevirtual 93, 3) := by decide +kernel
theorem dX9_removeClass_44 : decode cX9_removeClass 44 = .ok (.aload_n 0, 1) := by decide +kernel
theorem dX9_removeClass_45 : decode cX9_removeClass 45 = .ok (.getfield 7, 3) := by decide +kernel
theorem dX9_removeClass_48 : decode cX9_removeClass 48 = .ok (.iload_n 1, 1) := by decide +kernel
theorem dX9_removeClass_49 : decode cX9_removeClass 49 = .ok (.iload_n 2, 1) := by decide +kernel
theorem dX9_removeClass_50 : decode cX9_removeClass 50 = .ok (.invokestatic 48, 3) := by decide +kernel
theorem dX9_removeClass_53 : decode cX9_removeClass 53 = .ok (.iconst 0, 1) := by decide +kernel
theorem dX9_removeClass_54 : decode cX9_removeClass 54 = .ok (.iadd, 1) := by decide +kernel
theorem dX9_removeClass_55 : decode cX9_removeClass 55 = .ok (.iconst 0, 1) := by decide +kernel
theorem dX9_removeClass_56 : decode cX9_removeClass 56 = .ok (.iastore, 1) := by decide +kernel
theorem dX9_removeClass_57 : decode cX9_removeClass 57 = .ok (.aload_n 0, 1) := by decide +kernel
theorem dX9_removeClass_58 : decode cX9_removeClass 58 = .ok (.iload_n 1, 1) := by decide +kernel
theorem dX9_removeClass_59 : decode cX9_removeClass 59 = .ok (.invokevirtual 51, 3) := by decide +kernel
theorem dX9_removeClass_62 : decode cX9_removeClass 62 = .ok (.istore_n 3, 1) := by decide +kernel
theorem dX9_removeClass_63 : decode cX9_removeClass 63 = .ok (.iload_n 3, 1) := by decide +kernel
theorem dX9_removeClass_64 : decode cX9_removeClass 64 = .ok (.iconst 1, 1) := by decide +kernel
theorem dX9_removeClass_65 : decode cX9_removeClass 65 = .ok (.isub, 1) := by decide +kernel
theorem dX9_removeClass_66 : decode cX9_removeClass 66 = .ok (.istore 4, 2) := by decide +kernel
theorem dX9_removeClass_68 : decode cX9_removeClass 68 = .ok (.iload 4, 2) := by decide +kernel
theorem dX9_removeClass_70 : decode cX9_removeClass 70 = .ok (.ifCond .lt 28, 3) := by decide +kernel
theorem dX9_removeClass_73 : decode cX9_removeClass 73 = .ok (.aload_n 0, 1) := by decide +kernel
theorem dX9_removeClass_74 : decode cX9_removeClass 74 = .ok (.iload_n 1, 1) := by decide +kernel
theorem dX9_removeClass_75 : decode cX9_removeClass 75 = .ok (.iload 4, 2) := by decide +kernel
theorem dX9_removeClass_77 : decode cX9_removeClass 77 = .ok (.iconst 1, 1) := by decide +kernel
theorem dX9_removeClass_78 : decode cX9_removeClass 78 = .ok (.invokevirtual 102, 3) := by decide +kernel
theorem dX9_removeClass_81 : decode cX9_removeClass 81 = .ok (.iload_n 2, 1) := by decide +kernel
theorem dX9_removeClass_82 : decode cX9_removeClass 82 = .ok (.if_icmp .ne 10, 3) := by decide +kernel
theorem dX9_removeClass_85 : decode cX9_removeClass 85 = .ok (.aload_n 0, 1) := by decide +kernel
theorem dX9_removeClass_86 : decode cX9_removeClass 86 = .ok (.iload_n 1, 1) := by decide +kernel
theorem dX9_removeClass_87 : decode cX9_removeClass 87 = .ok (.iload 4, 2) := by decide +kernel
theorem dX9_removeClass_89 : decode cX9_removeClass 89 = .ok (.invokevirtual 105, 3) := by decide +kernel
theorem dX9_removeClass_92 : decode cX9_removeClass 92 = .ok (.iinc 4 (-1), 3) := by decide +kernel
theorem dX9_removeClass_95 : decode cX9_removeClass 95 = .ok (.goto (-27), 3) := by decide +kernel
theorem dX9_removeClass_98 : decode cX9_removeClass 98 = .ok (.iload_n 3, 1) := by decide +kernel
theorem dX9_removeClass_99 : decode cX9_removeClass 99 = .ok (.aload_n 0, 1) := by decide +kernel
theorem dX9_removeClass_100 : decode cX9_removeClass 100 = .ok (.iload_n 1, 1) := by decide +kernel
theorem dX9_removeClass_101 : decode cX9_removeClass 101 = .ok (.invokevirtual 51, 3) := by decide +kernel
theorem dX9_removeClass_104 : decode cX9_removeClass 104 = .ok (.isub, 1) := by decide +kernel
theorem dX9_removeClass_105 : decode cX9_removeClass 105 = .ok (.ireturn, 1) := by decide +kernel
theorem dX9_removeClient_0 : decode cX9_removeClient 0 = .ok (.aload_n 0, 1) := by decide +kernel
theorem dX9_removeClient_1 : decode cX9_removeClient 1 = .ok (.aload_n 0, 1) := by decide +kernel
theorem dX9_removeClient_2 : decode cX9_removeClient 2 = .ok (.iload_n 1, 1) := by decide +kernel
theorem dX9_removeClient_3 : decode cX9_removeClient 3 = .ok (.invokevirtual 302, 3) := by decide +kernel
theorem dX9_removeClient_6 : decode cX9_removeClient 6 = .ok (.ifCond .eq 7, 3) := by decide +kernel
theorem dX9_removeClient_9 : decode cX9_removeClient 9 = .ok (.iconst 0, 1) := by decide +kernel
theorem dX9_removeClient_10 : decode cX9_removeClient 10 = .ok (.goto 4, 3) := by decide +kernel
theorem dX9_removeClient_13 : decode cX9_removeClient 13 = .ok (.iconst 1, 1) := by decide +kernel
theorem dX9_removeClient_14 : decode cX9_removeClient 14 = .ok (.invokevirtual 62, 3) := by decide +kernel
theorem dX9_removeClient_17 : decode cX9_removeClient 17 = .ok (.ifCond .eq 5, 3) := by decide +kernel
theorem dX9_removeClient_20 : decode cX9_removeClient 20 = .ok (.iconst 0, 1) := by decide +kernel
theorem dX9_removeClient_21 : decode cX9_removeClient 21 = .ok (.ireturn, 1) := by decide +kernel
theorem dX9_removeClient_22 : decode cX9_removeClient 22 = .ok (.aload_n 0, 1) := by decide +kernel
theorem dX9_removeClient_23 : decode cX9_removeClient 23 = .ok (.invokevirtual 93, 3) := by decide +kernel
theorem dX9_removeClient_26 : decode cX9_removeClient 26 = .ok (.iload_n 1, 1) := by decide +kernel
theorem dX9_removeClient_27 : decode cX9_removeClient 27 = .ok (.invokestatic 239, 3) := by decide +kernel
theorem dX9_removeClient_30 : decode cX9_removeClient 30 = .ok (.istore_n 2, 1) := by decide +kernel
theorem dX9_removeClient_31 : decode cX9_removeClient 31 = .ok (.iload_n 2, 1) := by decide +kernel
theorem dX9_removeClient_32 : decode cX9_removeClient 32 = .ok (.aload_n 0, 1) := by decide +kernel
theorem dX9_removeClient_33 : decode cX9_removeClient 33 = .ok (.invokevirtual 287, 3) := by decide +kernel
theorem dX9_removeClient_36 : decode cX9_removeClient 36 = .ok (.iconst 1, 1) := by decide +kernel
theorem dX9_removeClient_37 : decode cX9_removeClient 37 = .ok (.isub, 1) := by decide +kernel
theorem dX9_removeClient_38 : decode cX9_removeClient 38 = .ok (.invokestatic 239, 3) := by decide +kernel
theorem dX9_removeClient_41 : decode cX9_removeClient 41 = .ok (.if_icmp .ge 24, 3) := by decide +kernel
theorem dX9_removeClient_44 : decode cX9_removeClient 44 = .ok (.aload_n 0, 1) := by decide +kernel
theorem dX9_removeClient_45 : decode cX9_removeClient 45 = .ok (.getfield 7, 3) := by decide +kernel
theorem dX9_removeClient_48 : decode cX9_removeClient 48 = .ok (.iload_n 2, 1) := by decide +kernel
theorem dX9_removeClient_49 : decode cX9_removeClient 49 = .ok (.aload_n 0, 1) := by decide +kernel
theorem dX9_removeClient_50 : decode cX9_removeClient 50 = .ok (.getfield 7, 3) := by decide +kernel
theorem dX9_removeClient_53 : decode cX9_removeClient 53 = .ok (.iload_n 2, 1) := by decide +kernel
theorem dX9_removeClient_54 : decode cX9_removeClient 54 = .ok (.bipush 16, 2) := by decide +kernel
theorem dX9_removeClient_56 : decode cX9_removeClient 56 = .ok (.iadd, 1) := by decide +kernel
theorem dX9_removeClient_57 : decode cX9_removeClient 57 = .ok (.iaload, 1) := by decide +kernel
theorem dX9_removeClient_58 : decode cX9_removeClient 58 = .ok (.iastore, 1) := by decide +kernel
theorem dX9_removeClient_59 : decode cX9_removeClient 59 = .ok (.iinc 2 1, 3) := by decide +kernel
theorem dX9_removeClient_62 : decode cX9_removeClient 62 = .ok (.goto (-31), 3) := by decide +kernel
theorem dX9_removeClient_65 : decode cX9_removeClient 65 = .ok (.aload_n 0, 1) := by decide +kernel
theorem dX9_removeClient_66 : decode cX9_removeClient 66 = .ok (.getfield 7, 3) := by decide +kernel
theorem dX9_removeClient_69 : decode cX9_removeClient 69 = .ok (.sipush 962, 3) := by decide +kernel
theorem dX9_removeClient_72 : decode cX9_removeClient 72 = .ok (.dup2, 1) := by decide +kernel
theorem dX9_removeClient_73 : decode cX9_removeClient 73 = .ok (.iaload, 1) := by decide +kernel
theorem dX9_removeClient_74 : decode cX9_removeClient 74 = .ok (.iconst 1, 1) := by decide +kernel
theorem dX9_removeClient_75 : decode cX9_removeClient 75 = .ok (.isub, 1) := by decide +kernel
theorem dX9_removeClient_76 : decode cX9_removeClient 76 = .ok (.iastore, 1) := by decide +kernel
theorem dX9_removeClient_77 : decode cX9_removeClient 77 = .ok (.aload_n 0, 1) := by decide +kernel
theorem dX9_removeClient_78 : decode cX9_removeClient 78 = .ok (.invokevirtual 287, 3) := by decide +kernel
theorem dX9_removeClient_81 : decode cX9_removeClient 81 = .ok (.ireturn, 1) := by decide +kernel
theorem dX9_removeMember_0 : decode cX9_removeMember 0 = .ok (.aload_n 0, 1) := by decide +kernel
theorem dX9_removeMember_1 : decode cX9_removeMember 1 = .ok (.aload_n 0, 1) := by decide +kernel
theorem dX9_removeMember_2 : decode cX9_removeMember 2 = .ok (.iload_n 1, 1) := by decide +kernel
theorem dX9_removeMember_3 : decode cX9_removeMember 3 = .ok (.iload_n 2, 1) := by decide +kernel
theorem dX9_removeMember_4 : decode cX9_removeMember 4 = .ok (.invokevirtual 152, 3) := by decide +kernel
theorem dX9_removeMember_7 : decode cX9_removeMember 7 = .ok (.ifCond .eq 7, 3) := by decide +kernel
theorem dX9_removeMember_10 : decode cX9_removeMember 10 = .ok (.iconst 0, 1) := by decide +kernel
theorem dX9_removeMember_11 : decode cX9_removeMember 11 = .ok (.goto 4, 3) := by decide +kernel
theorem dX9_removeMember_14 : decode cX9_removeMember 14 = .ok (.iconst 1, 1) := by decide +kernel
theorem dX9_removeMember_15 : decode cX9_removeMember 15 = .ok (.invokevirtual 62, 3) := by decide +kernel
theorem dX9_removeMember_18 : decode cX9_removeMember 18 = .ok (.ifCond .eq 5, 3) := by decide +kernel
theorem dX9_removeMember_21 : decode cX9_removeMember 21 = .ok (.iconst 0, 1) := by decide +kernel
theorem dX9_removeMember_22 : decode cX9_removeMember 22 = .ok (.ireturn, 1) := by decide +kernel
theorem dX9_removeMember_23 : decode cX9_removeMember 23 = .ok (.aload_n 0, 1) := by decide +kernel
theorem dX9_removeMember_24 : decode cX9_removeMember 24 = .ok (.invokevirtual 93, 3) := by decide +kernel
theorem dX9_removeMember_27 : decode cX9_removeMember 27 = .ok (.aload_n 0, 1) := by decide +kernel
theorem dX9_removeMember_28 : decode cX9_removeMember 28 = .ok (.iload_n 1, 1) := by decide +kernel
theorem dX9_removeMember_29 : decode cX9_removeMember 29 = .ok (.iload_n 2, 1) := by decide +kernel
theorem dX9_removeMember_30 : decode cX9_removeMember 30 = .ok (.invokevirtual 105, 3) := by decide +kernel
theorem dX9_removeMember_33 : decode cX9_removeMember 33 = .ok (.aload_n 0, 1) := by decide +kernel
theorem dX9_removeMember_34 : decode cX9_removeMember 34 = .ok (.iload_n 1, 1) := by decide +kernel
theorem dX9_removeMember_35 : decode cX9_removeMember 35 = .ok (.invokevirtual 51, 3) := by decide +kernel
theorem dX9_removeMember_38 : decode cX9_removeMember 38 = .ok (.ireturn, 1) := by decide +kernel
theorem dX9_seeks_0 : decode cX9_seeks 0 = .ok (.iconst 0, 1) := by decide +kernel
theorem dX9_seeks_1 : decode cX9_seeks 1 = .ok (.istore_n 3, 1) := by decide +kernel
theorem dX9_seeks_2 : decode cX9_seeks 2 = .ok (.iload_n 3, 1) := by decide +kernel
theorem dX9_seeks_3 : decode cX9_seeks 3 = .ok (.bipush 6, 2) := by decide +kernel
theorem dX9_seeks_5 : decode cX9_seeks 5 = .ok (.if_icmp .ge 164, 3) := by decide +kernel
theorem dX9_seeks_8 : decode cX9_seeks 8 = .ok (.iconst 0, 1) := by decide +kernel
theorem dX9_seeks_9 : decode cX9_seeks 9 = .ok (.istore 4, 2) := by decide +kernel
theorem dX9_seeks_11 : decode cX9_seeks 11 = .ok (.iload 4, 2) := by decide +kernel
theorem dX9_seeks_13 : decode cX9_seeks 13 = .ok (.bipush 10, 2) := by decide +kernel
theorem dX9_seeks_15 : decode cX9_seeks 15 = .ok (.if_icmp .ge 148, 3) := by decide +kernel
theorem dX9_seeks_18 : decode cX9_seeks 18 = .ok (.iconst 0, 1) := by decide +kernel
theorem dX9_seeks_19 : decode cX9_seeks 19 = .ok (.istore 5, 2) := by decide +kernel
theorem dX9_seeks_21 : decode cX9_seeks 21 = .ok (.iload 5, 2) := by decide +kernel
theorem dX9_seeks_23 : decode cX9_seeks 23 = .ok (.iload_n 3, 1) := by decide +kernel
theorem dX9_seeks_24 : decode cX9_seeks 24 = .ok (.iconst 3, 1) := by decide +kernel
theorem dX9_seeks_25 : decode cX9_seeks 25 = .ok (.if_icmp .ge 8, 3) := by decide +kernel
theorem dX9_seeks_28 : decode cX9_seeks 28 = .ok (.bipush 8, 2) := by decide +kernel
theorem dX9_seeks_30 : decode cX9_seeks 30 = .ok (.goto 4, 3) := by decide +kernel
theorem dX9_seeks_33 : decode cX9_seeks 33 = .ok (.iconst 1, 1) := by decide +kernel
theorem dX9_seeks_34 : decode cX9_seeks 34 = .ok (.if_icmp .ge 123, 3) := by decide +kernel
theorem dX9_seeks_37 : decode cX9_seeks 37 = .ok (.iconst 0, 1) := by decide +kernel
theorem dX9_seeks_38 : decode cX9_seeks 38 = .ok (.istore 6, 2) := by decide +kernel
theorem dX9_seeks_40 : decode cX9_seeks 40 = .ok (.iload 6, 2) := by decide +kernel
theorem dX9_seeks_42 : decode cX9_seeks 42 = .ok (.iload_n 3, 1) := by decide +kernel
theorem dX9_seeks_43 : decode cX9_seeks 43 = .ok (.iconst 2, 1) := by decide +kernel
theorem dX9_seeks_44 : decode cX9_seeks 44 = .ok (.if_icmp .ne 9, 3) := by decide +kernel
theorem dX9_seeks_47 : decode cX9_seeks 47 = .ok (.sipush 133, 3) := by decide +kernel
theorem dX9_seeks_50 : decode cX9_seeks 50 = .ok (.goto 4, 3) := by decide +kernel
theorem dX9_seeks_53 : decode cX9_seeks 53 = .ok (.iconst 1, 1) := by decide +kernel
theorem dX9_seeks_54 : decode cX9_seeks 54 = .ok (.if_icmp .ge 97, 3) := by decide +kernel
theorem dX9_seeks_57 : decode cX9_seeks 57 = .ok (.iload 6, 2) := by decide +kernel
theorem dX9_seeks_59 : decode cX9_seeks 59 = .ok (.bipush 12, 2) := by decide +kernel
theorem dX9_seeks_61 : decode cX9_seeks 61 = .ok (.isub, 1) := by decide +kernel
theorem dX9_seeks_62 : decode cX9_seeks 62 = .ok (.istore 7, 2) := by decide +kernel
theorem dX9_seeks_64 : decode cX9_seeks 64 = .ok (.aload_n 0, 1) := by decide +kernel
theorem dX9_seeks_65 : decode cX9_seeks 65 = .ok (.iload_n 3, 1) := by decide +kernel
theorem dX9_seeks_66 : decode cX9_seeks 66 = .ok (.iload 4, 2) := by decide +kernel
theorem dX9_seeks_68 : decode cX9_seeks 68 = .ok (.iload 5, 2) := by decide +kernel
theorem dX9_seeks_70 : decode cX9_seeks 70 = .ok (.iload_n 2, 1) := by decide +kernel
theorem dX9_seeks_71 : decode cX9_seeks 71 = .ok (.iload 6, 2) := by decide +kernel
theorem dX9_seeks_73 : decode cX9_seeks 73 = .ok (.ifCond .ne 7, 3) := by decide +kernel
theorem dX9_seeks_76 : decode cX9_seeks 76 = .ok (.iconst 0, 1) := by decide +kernel
theorem dX9_seeks_77 : decode cX9_seeks 77 = .ok (.goto 15, 3) := by decide +kernel
theorem dX9_seeks_80 : decode cX9_seeks 80 = .ok (.iload 6, 2) := by decide +kernel
theorem dX9_seeks_82 : decode cX9_seeks 82 = .ok (.bipush 12, 2) := by decide +kernel
theorem dX9_seeks_84 : decode cX9_seeks 84 = .ok (.if_icmp .ge 7, 3) := by decide +kernel
theorem dX9_seeks_87 : decode cX9_seeks 87 = .ok (.iconst 1, 1) := by decide +kernel
theorem dX9_seeks_88 : decode cX9_seeks 88 = .ok (.goto 4, 3) := by decide +kernel
theorem dX9_seeks_91 : decode cX9_seeks 91 = .ok (.iconst 2, 1) := by decide +kernel
theorem dX9_seeks_92 : decode cX9_seeks 92 = .ok (.iload 6, 2) := by decide +kernel
theorem dX9_seeks_94 : decode cX9_seeks 94 = .ok (.bipush 12, 2) := by decide +kernel
theorem dX9_seeks_96 : decode cX9_seeks 96 = .ok (.if_icmp .ge 10, 3) := by decide +kernel
theorem dX9_seeks_99 : decode cX9_seeks 99 = .ok (.iload 6, 2) := by decide +kernel
theorem dX9_seeks_101 : decode cX9_seeks 101 = .ok (.iconst 2, 1) := by decide +kernel
theorem dX9_seeks_102 : decode cX9_seeks 102 = .ok (.isub, 1) := by decide +kernel
theorem dX9_seeks_103 : decode cX9_seeks 103 = .ok (.goto 10, 3) := by decide +kernel
theorem dX9_seeks_106 : decode cX9_seeks 106 = .ok (.iload 7, 2) := by decide +kernel
theorem dX9_seeks_108 : decode cX9_seeks 108 = .ok (.bipush 11, 2) := by decide +kernel
theorem dX9_seeks_110 : decode cX9_seeks 110 = .ok (.idiv, 1) := by decide +kernel
theorem dX9_seeks_111 : decode cX9_seeks 111 = .ok (.iconst 1, 1) := by decide +kernel
theorem dX9_seeks_112 : decode cX9_seeks 112 = .ok (.isub, 1) := by decide +kernel
theorem dX9_seeks_113 : decode cX9_seeks 113 = .ok (.iload 6, 2) := by decide +kernel
theorem dX9_seeks_115 : decode cX9_seeks 115 = .ok (.bipush 12, 2) := by decide +kernel
theorem dX9_seeks_117 : decode cX9_seeks 117 = .ok (.if_icmp .ge 8, 3) := by decide +kernel
theorem dX9_seeks_120 : decode cX9_seeks 120 = .ok (.bipush (-2), 2) := by decide +kernel
theorem dX9_seeks_122 : decode cX9_seeks 122 = .ok (.goto 10, 3) := by decide +kernel
theorem dX9_seeks_125 : decode cX9_seeks 125 = .ok (.iload 7, 2) := by decide +kernel
theorem dX9_seeks_127 : decode cX9_seeks 127 = .ok (.bipush 11, 2) := by decide +kernel
theorem dX9_seeks_129 : decode cX9_seeks 129 = .ok (.irem, 1) := by decide +kernel
theorem dX9_seeks_130 : decode cX9_seeks 130 = .ok (.iconst 1, 1) := by decide +kernel
theorem dX9_seeks_131 : decode cX9_seeks 131 = .ok (.isub, 1) := by decide +kernel
theorem dX9_seeks_132 : decode cX9_seeks 132 = .ok (.invokevirtual 291, 3) := by decide +kernel
theorem dX9_seeks_135 : decode cX9_seeks 135 = .ok (.aload_n 0, 1) := by decide +kernel
theorem dX9_seeks_136 : decode cX9_seeks 136 = .ok (.iload_n 1, 1) := by decide +kernel
theorem dX9_seeks_137 : decode cX9_seeks 137 = .ok (.invokevirtual 317, 3) := by decide +kernel
theorem dX9_seeks_140 : decode cX9_seeks 140 = .ok (.ifCond .eq 5, 3) := by decide +kernel
theorem dX9_seeks_143 : decode cX9_seeks 143 = .ok (.iconst 1, 1) := by decide +kernel
theorem dX9_seeks_144 : decode cX9_seeks 144 = .ok (.ireturn, 1) := by decide +kernel
theorem dX9_seeks_145 : decode cX9_seeks 145 = .ok (.iinc 6 1, 3) := by decide +kernel
theorem dX9_seeks_148 : decode cX9_seeks 148 = .ok (.goto (-108), 3) := by decide +kernel
theorem dX9_seeks_151 : decode cX9_seeks 151 = .ok (.iinc 5 1, 3) := by decide +kernel
theorem dX9_seeks_154 : decode cX9_seeks 154 = .ok (.goto (-133), 3) := by decide +kernel
theorem dX9_seeks_157 : decode cX9_seeks 157 = .ok (.iinc 4 1, 3) := by decide +kernel
theorem dX9_seeks_160 : decode cX9_seeks 160 = .ok (.goto (-149), 3) := by decide +kernel
theorem dX9_seeks_163 : decode cX9_seeks 163 = .ok (.iinc 3 1, 3) := by decide +kernel
theorem dX9_seeks_166 : decode cX9_seeks 166 = .ok (.goto (-164), 3) := by decide +kernel
theorem dX9_seeks_169 : decode cX9_seeks 169 = .ok (.iconst 0, 1) := by decide +kernel
theorem dX9_seeks_170 : decode cX9_seeks 170 = .ok (.ireturn, 1) := by decide +kernel
theorem dX9_sample_0 : decode cX9_sample 0 = .ok (.iload_n 1, 1) := by decide +kernel
theorem dX9_sample_1 : decode cX9_sample 1 = .ok (.iconst 1, 1) := by decide +kernel
theorem dX9_sample_2 : decode cX9_sample 2 = .ok (.iconst 5, 1) := by decide +kernel
theorem dX9_sample_3 : decode cX9_sample 3 = .ok (.invokestatic 66, 3) := by decide +kernel
theorem dX9_sample_6 : decode cX9_sample 6 = .ok (.ifCond .eq 25, 3) := by decide +kernel
theorem dX9_sample_9 : decode cX9_sample 9 = .ok (.iload_n 2, 1) := by decide +kernel
theorem dX9_sample_10 : decode cX9_sample 10 = .ok (.iconst 0, 1) := by decide +kernel
theorem dX9_sample_11 : decode cX9_sample 11 = .ok (.iconst 3, 1) := by decide +kernel
theorem dX9_sample_12 : decode cX9_sample 12 = .ok (.invokestatic 66, 3) := by decide +kernel
theorem dX9_sample_15 : decode cX9_sample 15 = .ok (.ifCond .eq 16, 3) := by decide +kernel
theorem dX9_sample_18 : decode cX9_sample 18 = .ok (.iload_n 3, 1) := by decide +kernel
theorem dX9_sample_19 : decode cX9_sample 19 = .ok (.iconst 0, 1) := by decide +kernel
theorem dX9_sample_20 : decode cX9_sample 20 = .ok (.iconst 5, 1) := by decide +kernel
theorem dX9_sample_21 : decode cX9_sample 21 = .ok (.invokestatic 66, 3) := by decide +kernel
theorem dX9_sample_24 : decode cX9_sample 24 = .ok (.ifCond .eq 7, 3) := by decide +kernel
theorem dX9_sample_27 : decode cX9_sample 27 = .ok (.iconst 1, 1) := by decide +kernel
theorem dX9_sample_28 : decode cX9_sample 28 = .ok (.goto 4, 3) := by decide +kernel
theorem dX9_sample_31 : decode cX9_sample 31 = .ok (.iconst 0, 1) := by decide +kernel
theorem dX9_sample_32 : decode cX9_sample 32 = .ok (.istore 4, 2) := by decide +kernel
theorem dX9_sample_34 : decode cX9_sample 34 = .ok (.aload_n 0, 1) := by decide +kernel
theorem dX9_sample_35 : decode cX9_sample 35 = .ok (.iload 4, 2) := by decide +kernel
theorem dX9_sample_37 : decode cX9_sample 37 = .ok (.ifCond .eq 7, 3) := by decide +kernel
theorem dX9_sample_40 : decode cX9_sample 40 = .ok (.iconst 0, 1) := by decide +kernel
theorem dX9_sample_41 : decode cX9_sample 41 = .ok (.goto 4, 3) := by decide +kernel
theorem dX9_sample_44 : decode cX9_sample 44 = .ok (.iconst 1, 1) := by decide +kernel
theorem dX9_sample_45 : decode cX9_sample 45 = .ok (.invokevirtual 62, 3) := by decide +kernel
theorem dX9_sample_48 : decode cX9_sample 48 = .ok (.ifCond .eq 5, 3) := by decide +kernel
theorem dX9_sample_51 : decode cX9_sample 51 = .ok (.iconst 0, 1) := by decide +kernel
theorem dX9_sample_52 : decode cX9_sample 52 = .ok (.ireturn, 1) := by decide +kernel
theorem dX9_sample_53 : decode cX9_sample 53 = .ok (.aload_n 0, 1) := by decide +kernel
theorem dX9_sample_54 : decode cX9_sample 54 = .ok (.iload_n 1, 1) := by decide +kernel
theorem dX9_sample_55 : decode cX9_sample 55 = .ok (.iload_n 2, 1) := by decide +kernel
theorem dX9_sample_56 : decode cX9_sample 56 = .ok (.invokevirtual 320, 3) := by decide +kernel
theorem dX9_sample_59 : decode cX9_sample 59 = .ok (.ifCond .ne 6, 3) := by decide +kernel
theorem dX9_sample_62 : decode cX9_sample 62 = .ok (.bipush (-2), 2) := by decide +kernel
theorem dX9_sample_64 : decode cX9_sample 64 = .ok (.ireturn, 1) := by decide +kernel
theorem dX9_sample_65 : decode cX9_sample 65 = .ok (.iload_n 3, 1) := by decide +kernel
theorem dX9_sample_66 : decode cX9_sample 66 = .ok (.iconst 3, 1) := by decide +kernel
theorem dX9_sample_67 : decode cX9_sample 67 = .ok (.if_icmp .ge 12, 3) := by decide +kernel
theorem dX9_sample_70 : decode cX9_sample 70 = .ok (.aload_n 0, 1) := by decide +kernel
theorem dX9_sample_71 : decode cX9_sample 71 = .ok (.getfield 22, 3) := by decide +kernel
theorem dX9_sample_74 : decode cX9_sample 74 = .ok (.iload_n 3, 1) := by decide +kernel
theorem dX9_sample_75 : decode cX9_sample 75 = .ok (.iaload, 1) := by decide +kernel
theorem dX9_sample_76 : decode cX9_sample 76 = .ok (.goto 13, 3) := by decide +kernel
theorem dX9_sample_79 : decode cX9_sample 79 = .ok (.aload_n 0, 1) := by decide +kernel
theorem dX9_sample_80 : decode cX9_sample 80 = .ok (.getfield 22, 3) := by decide +kernel
theorem dX9_sample_83 : decode cX9_sample 83 = .ok (.iconst 5, 1) := by decide +kernel
theorem dX9_sample_84 : decode cX9_sample 84 = .ok (.iload_n 3, 1) := by decide +kernel
theorem dX9_sample_85 : decode cX9_sample 85 = .ok (.iadd, 1) := by decide +kernel
theorem dX9_sample_86 : decode cX9_sample 86 = .ok (.iconst 3, 1) := by decide +kernel
theorem dX9_sample_87 : decode cX9_sample 87 = .ok (.isub, 1) := by decide +kernel
theorem dX9_sample_88 : decode cX9_sample 88 = .ok (.iaload, 1) := by decide +kernel
theorem dX9_sample_89 : decode cX9_sample 89 = .ok (.ireturn, 1) := by decide +kernel
theorem dX9_selected_0 : decode cX9_selected 0 = .ok (.aload_n 0, 1) := by decide +kernel
theorem dX9_selected_1 : decode cX9_selected 1 = .ok (.iload_n 1, 1) := by decide +kernel
theorem dX9_selected_2 : decode cX9_selected 2 = .ok (.iload_n 2, 1) := by decide +kernel
theorem dX9_selected_3 : decode cX9_selected 3 = .ok (.invokevirtual 152, 3) := by decide +kernel
theorem dX9_selected_6 : decode cX9_selected 6 = .ok (.ifCond .eq 16, 3) := by decide +kernel
theorem dX9_selected_9 : decode cX9_selected 9 = .ok (.aload_n 0, 1) := by decide +kernel
theorem dX9_selected_10 : decode cX9_selected 10 = .ok (.iload_n 1, 1) := by decide +kernel
theorem dX9_selected_11 : decode cX9_selected 11 = .ok (.iload_n 3, 1) := by decide +kernel
theorem dX9_selected_12 : decode cX9_selected 12 = .ok (.invokevirtual 77, 3) := by decide +kernel
theorem dX9_selected_15 : decode cX9_selected 15 = .ok (.ifCond .eq 7, 3) := by decide +kernel
theorem dX9_selected_18 : decode cX9_selected 18 = .ok (.iconst 1, 1) := by decide +kernel
theorem dX9_selected_19 : decode cX9_selected 19 = .ok (.goto 4, 3) := by decide +kernel
theorem dX9_selected_22 : decode cX9_selected 22 = .ok (.iconst 0, 1) := by decide +kernel
theorem dX9_selected_23 : decode cX9_selected 23 = .ok (.istore 4, 2) := by decide +kernel
theorem dX9_selected_25 : decode cX9_selected 25 = .ok (.iload 4, 2) := by decide +kernel
theorem dX9_selected_27 : decode cX9_selected 27 = .ok (.ifCond .eq 53, 3) := by decide +kernel
theorem dX9_selected_30 : decode cX9_selected 30 = .ok (.aload_n 0, 1) := by decide +kernel
theorem dX9_selected_31 : decode cX9_selected 31 = .ok (.iload_n 1, 1) := by decide +kernel
theorem dX9_selected_32 : decode cX9_selected 32 = .ok (.iload_n 2, 1) := by decide +kernel
theorem dX9_selected_33 : decode cX9_selected 33 = .ok (.invokevirtual 155, 3) := by decide +kernel
theorem dX9_selected_36 : decode cX9_selected 36 = .ok (.ifCond .eq 44, 3) := by decide +kernel
theorem dX9_selected_39 : decode cX9_selected 39 = .ok (.aload_n 0, 1) := by decide +kernel
theorem dX9_selected_40 : decode cX9_selected 40 = .ok (.iload_n 1, 1) := by decide +kernel
theorem dX9_selected_41 : decode cX9_selected 41 = .ok (.iload_n 2, 1) := by decide +kernel
theorem dX9_selected_42 : decode cX9_selected 42 = .ok (.invokevirtual 199, 3) := by decide +kernel
theorem dX9_selected_45 : decode cX9_selected 45 = .ok (.ifCond .ne 35, 3) := by decide +kernel
theorem dX9_selected_48 : decode cX9_selected 48 = .ok (.aload_n 0, 1) := by decide +kernel
theorem dX9_selected_49 : decode cX9_selected 49 = .ok (.iload_n 1, 1) := by decide +kernel
theorem dX9_selected_50 : decode cX9_selected 50 = .ok (.iload_n 3, 1) := by decide +kernel
theorem dX9_selected_51 : decode cX9_selected 51 = .ok (.invokevirtual 81, 3) := by decide +kernel
theorem dX9_selected_54 : decode cX9_selected 54 = .ok (.ifCond .ne 26, 3) := by decide +kernel
theorem dX9_selected_57 : decode cX9_selected 57 = .ok (.aload_n 0, 1) := by decide +kernel
theorem dX9_selected_58 : decode cX9_selected 58 = .ok (.iload_n 1, 1) := by decide +kernel
theorem dX9_selected_59 : decode cX9_selected 59 = .ok (.iload_n 3, 1) := by decide +kernel
theorem dX9_selected_60 : decode cX9_selected 60 = .ok (.invokevirtual 125, 3) := by decide +kernel
theorem dX9_selected_63 : decode cX9_selected 63 = .ok (.aload_n 0, 1) := by decide +kernel
theorem dX9_selected_64 : decode cX9_selected 64 = .ok (.iload_n 1, 1) := by decide +kernel
theorem dX9_selected_65 : decode cX9_selected 65 = .ok (.iload_n 2, 1) := by decide +kernel
theorem dX9_selected_66 : decode cX9_selected 66 = .ok (.iconst 1, 1) := by decide +kernel
theorem dX9_selected_67 : decode cX9_selected 67 = .ok (.invokevirtual 102, 3) := by decide +kernel
theorem dX9_selected_70 : decode cX9_selected 70 = .ok (.invokestatic 84, 3) := by decide +kernel
theorem dX9_selected_73 : decode cX9_selected 73 = .ok (.ifCond .eq 7, 3) := by decide +kernel
theorem dX9_selected_76 : decode cX9_selected 76 = .ok (.iconst 1, 1) := by decide +kernel
theorem dX9_selected_77 : decode cX9_selected 77 = .ok (.goto 4, 3) := by decide +kernel
theorem dX9_selected_80 : decode cX9_selected 80 = .ok (.iconst 0, 1) := by decide +kernel
theorem dX9_selected_81 : decode cX9_selected 81 = .ok (.istore 5, 2) := by decide +kernel
theorem dX9_selected_83 : decode cX9_selected 83 = .ok (.aload_n 0, 1) := by decide +kernel
theorem dX9_selected_84 : decode cX9_selected 84 = .ok (.iload 4, 2) := by decide +kernel
theorem dX9_selected_86 : decode cX9_selected 86 = .ok (.ifCond .ne 7, 3) := by decide +kernel
theorem dX9_selected_89 : decode cX9_selected 89 = .ok (.iconst 1, 1) := by decide +kernel
theorem dX9_selected_90 : decode cX9_selected 90 = .ok (.goto 13, 3) := by decide +kernel
theorem dX9_selected_93 : decode cX9_selected 93 = .ok (.iload 5, 2) := by decide +kernel
theorem dX9_selected_95 : decode cX9_selected 95 = .ok (.ifCond .ne 7, 3) := by decide +kernel
theorem dX9_selected_98 : decode cX9_selected 98 = .ok (.iconst 2, 1) := by decide +kernel
theorem dX9_selected_99 : decode cX9_selected 99 = .ok (.goto 4, 3) := by decide +kernel
theorem dX9_selected_102 : decode cX9_selected 102 = .ok (.iconst 0, 1) := by decide +kernel
theorem dX9_selected_103 : decode cX9_selected 103 = .ok (.invokevirtual 62, 3) := by decide +kernel
theorem dX9_selected_106 : decode cX9_selected 106 = .ok (.ifCond .eq 5, 3) := by decide +kernel
theorem dX9_selected_109 : decode cX9_selected 109 = .ok (.iconst 0, 1) := by decide +kernel
theorem dX9_selected_110 : decode cX9_selected 110 = .ok (.ireturn, 1) := by decide +kernel
theorem dX9_selected_111 : decode cX9_selected 111 = .ok (.aload_n 0, 1) := by decide +kernel
theorem dX9_selected_112 : decode cX9_selected 112 = .ok (.iload_n 1, 1) := by decide +kernel
theorem dX9_selected_113 : decode cX9_selected 113 = .ok (.iload_n 2, 1) := by decide +kernel
theorem dX9_selected_114 : decode cX9_selected 114 = .ok (.iload_n 3, 1) := by decide +kernel
theorem dX9_selected_115 : decode cX9_selected 115 = .ok (.invokevirtual 236, 3) := by decide +kernel
theorem dX9_selected_118 : decode cX9_selected 118 = .ok (.ireturn, 1) := by decide +kernel
theorem dX9_setBase_0 : decode cX9_setBase 0 = .ok (.aload_n 0, 1) := by decide +kernel
theorem dX9_setBase_1 : decode cX9_setBase 1 = .ok (.iload_n 1, 1) := by decide +kernel
theorem dX9_setBase_2 : decode cX9_setBase 2 = .ok (.invokevirtual 302, 3) := by decide +kernel
theorem dX9_setBase_5 : decode cX9_setBase 5 = .ok (.istore_n 3, 1) := by decide +kernel
theorem dX9_setBase_6 : decode cX9_setBase 6 = .ok (.iload_n 3, 1) := by decide +kernel
theorem dX9_setBase_7 : decode cX9_setBase 7 = .ok (.istore 4, 2) := by decide +kernel
theorem dX9_setBase_9 : decode cX9_setBase 9 = .ok (.iconst 0, 1) := by decide +kernel
theorem dX9_setBase_10 : decode cX9_setBase 10 = .ok (.istore 5, 2) := by decide +kernel
theorem dX9_setBase_12 : decode cX9_setBase 12 = .ok (.iload_n 3, 1) := by decide +kernel
theorem dX9_setBase_13 : decode cX9_setBase 13 = .ok (.ifCond .eq 47, 3) := by decide +kernel
theorem dX9_setBase_16 : decode cX9_setBase 16 = .ok (.aload_n 0, 1) := by decide +kernel
theorem dX9_setBase_17 : decode cX9_setBase 17 = .ok (.iload_n 1, 1) := by decide +kernel
theorem dX9_setBase_18 : decode cX9_setBase 18 = .ok (.invokevirtual 305, 3) := by decide +kernel
theorem dX9_setBase_21 : decode cX9_setBase 21 = .ok (.aload_n 0, 1) := by decide +kernel
theorem dX9_setBase_22 : decode cX9_setBase 22 = .ok (.getfield 22, 3) := by decide +kernel
theorem dX9_setBase_25 : decode cX9_setBase 25 = .ok (.iconst 4, 1) := by decide +kernel
theorem dX9_setBase_26 : decode cX9_setBase 26 = .ok (.iaload, 1) := by decide +kernel
theorem dX9_setBase_27 : decode cX9_setBase 27 = .ok (.istore 5, 2) := by decide +kernel
theorem dX9_setBase_29 : decode cX9_setBase 29 = .ok (.aload_n 0, 1) := by decide +kernel
theorem dX9_setBase_30 : decode cX9_setBase 30 = .ok (.getfield 22, 3) := by decide +kernel
theorem dX9_setBase_33 : decode cX9_setBase 33 = .ok (.iconst 4, 1) := by decide +kernel
theorem dX9_setBase_34 : decode cX9_setBase 34 = .ok (.iload_n 2, 1) := by decide +kernel
theorem dX9_setBase_35 : decode cX9_setBase 35 = .ok (.iastore, 1) := by decide +kernel
theorem dX9_setBase_36 : decode cX9_setBase 36 = .ok (.aload_n 0, 1) := by decide +kernel
theorem dX9_setBase_37 : decode cX9_setBase 37 = .ok (.iconst 0, 1) := by decide +kernel
theorem dX9_setBase_38 : decode cX9_setBase 38 = .ok (.iload_n 2, 1) := by decide +kernel
theorem dX9_setBase_39 : decode cX9_setBase 39 = .ok (.invokevirtual 253, 3) := by decide +kernel
theorem dX9_setBase_42 : decode cX9_setBase 42 = .ok (.ifCond .eq 15, 3) := by decide +kernel
theorem dX9_setBase_45 : decode cX9_setBase 45 = .ok (.aload_n 0, 1) := by decide +kernel
theorem dX9_setBase_46 : decode cX9_setBase 46 = .ok (.iconst 0, 1) := by decide +kernel
theorem dX9_setBase_47 : decode cX9_setBase 47 = .ok (.invokevirtual 280, 3) := by decide +kernel
theorem dX9_setBase_50 : decode cX9_setBase 50 = .ok (.ifCond .ne 7, 3) := by decide +kernel
theorem dX9_setBase_53 : decode cX9_setBase 53 = .ok (.iconst 1, 1) := by decide +kernel
theorem dX9_setBase_54 : decode cX9_setBase 54 = .ok (.goto 4, 3) := by decide +kernel
theorem dX9_setBase_57 : decode cX9_setBase 57 = .ok (.iconst 0, 1) := by decide +kernel
theorem dX9_setBase_58 : decode cX9_setBase 58 = .ok (.istore 4, 2) := by decide +kernel
theorem dX9_setBase_60 : decode cX9_setBase 60 = .ok (.aload_n 0, 1) := by decide +kernel
theorem dX9_setBase_61 : decode cX9_setBase 61 = .ok (.iload_n 3, 1) := by decide +kernel
theorem dX9_setBase_62 : decode cX9_setBase 62 = .ok (.ifCond .ne 7, 3) := by decide +kernel
theorem dX9_setBase_65 : decode cX9_setBase 65 = .ok (.iconst 1, 1) := by decide +kernel
theorem dX9_setBase_66 : decode cX9_setBase 66 = .ok (.goto 13, 3) := by decide +kernel
theorem dX9_setBase_69 : decode cX9_setBase 69 = .ok (.iload 4, 2) := by decide +kernel
theorem dX9_setBase_71 : decode cX9_setBase 71 = .ok (.ifCond .ne 7, 3) := by decide +kernel
theorem dX9_setBase_74 : decode cX9_setBase 74 = .ok (.iconst 2, 1) := by decide +kernel
theorem dX9_setBase_75 : decode cX9_setBase 75 = .ok (.goto 4, 3) := by decide +kernel
theorem dX9_setBase_78 : decode cX9_setBase 78 = .ok (.iconst 0, 1) := by decide +kernel
theorem dX9_setBase_79 : decode cX9_setBase 79 = .ok (.invokevirtual 62, 3) := by decide +kernel
theorem dX9_setBase_82 : decode cX9_setBase 82 = .ok (.ifCond .eq 5, 3) := by decide +kernel
theorem dX9_setBase_85 : decode cX9_setBase 85 = .ok (.iconst 0, 1) := by decide +kernel
theorem dX9_setBase_86 : decode cX9_setBase 86 = .ok (.ireturn, 1) := by decide +kernel
theorem dX9_setBase_87 : decode cX9_setBase 87 = .ok (.aload_n 0, 1) := by decide +kernel
theorem dX9_setBase_88 : decode cX9_setBase 88 = .ok (.invokevirtual 93, 3) := by decide +kernel
theorem dX9_setBase_91 : decode cX9_setBase 91 = .ok (.aload_n 0, 1) := by decide +kernel
theorem dX9_setBase_92 : decode cX9_setBase 92 = .ok (.invokevirtual 295, 3) := by decide +kernel
theorem dX9_setBase_95 : decode cX9_setBase 95 = .ok (.aload_n 0, 1) := by decide +kernel
theorem dX9_setBase_96 : decode cX9_setBase 96 = .ok (.iload_n 1, 1) := by decide +kernel
theorem dX9_setBase_97 : decode cX9_setBase 97 = .ok (.invokevirtual 298, 3) := by decide +kernel
theorem dX9_setBase_100 : decode cX9_setBase 100 = .ok (.iload 5, 2) := by decide +kernel
theorem dX9_setBase_102 : decode cX9_setBase 102 = .ok (.ireturn, 1) := by decide +kernel
theorem dX9_setClass_0 : decode cX9_setClass 0 = .ok (.aload_n 0, 1) := by decide +kernel
theorem dX9_setClass_1 : decode cX9_setClass 1 = .ok (.iload_n 1, 1) := by decide +kernel
theorem dX9_setClass_2 : decode cX9_setClass 2 = .ok (.iload_n 2, 1) := by decide +kernel
theorem dX9_setClass_3 : decode cX9_setClass 3 = .ok (.invokevirtual 77, 3) := by decide +kernel
theorem dX9_setClass_6 : decode cX9_setClass 6 = .ok (.istore 5, 2) := by decide +kernel
theorem dX9_setClass_8 : decode cX9_setClass 8 = .ok (.iload 5, 2) := by decide +kernel
theorem dX9_setClass_10 : decode cX9_setClass 10 = .ok (.ifCond .eq 19, 3) := by decide +kernel
theorem dX9_setClass_13 : decode cX9_setClass 13 = .ok (.aload_n 0, 1) := by decide +kernel
theorem dX9_setClass_14 : decode cX9_setClass 14 = .ok (.iload_n 1, 1) := by decide +kernel
theorem dX9_setClass_15 : decode cX9_setClass 15 = .ok (.iload_n 2, 1) := by decide +kernel
theorem dX9_setClass_16 : decode cX9_setClass 16 = .ok (.iload_n 3, 1) := by decide +kernel
theorem dX9_setClass_17 : decode cX9_setClass 17 = .ok (.iload 4, 2) := by decide +kernel
theorem dX9_setClass_19 : decode cX9_setClass 19 = .ok (.invokevirtual 112, 3) := by decide +kernel
theorem dX9_setClass_22 : decode cX9_setClass 22 = .ok (.ifCond .eq 7, 3) := by decide +kernel
theorem dX9_setClass_25 : decode cX9_setClass 25 = .ok (.iconst 1, 1) := by decide +kernel
theorem dX9_setClass_26 : decode cX9_setClass 26 = .ok (.goto 4, 3) := by decide +kernel
theorem dX9_setClass_29 : decode cX9_setClass 29 = .ok (.iconst 0, 1) := by decide +kernel
theorem dX9_setClass_30 : decode cX9_setClass 30 = .ok (.istore 6, 2) := by decide +kernel
theorem dX9_setClass_32 : decode cX9_setClass 32 = .ok (.iload 6, 2) := by decide +kernel
theorem dX9_setClass_34 : decode cX9_setClass 34 = .ok (.ifCond .eq 35, 3) := by decide +kernel
theorem dX9_setClass_37 : decode cX9_setClass 37 = .ok (.iload_n 2, 1) := by decide +kernel
theorem dX9_setClass_38 : decode cX9_setClass 38 = .ok (.ifCond .eq 31, 3) := by decide +kernel
theorem dX9_setClass_41 : decode cX9_setClass 41 = .ok (.aload_n 0, 1) := by decide +kernel
theorem dX9_setClass_42 : decode cX9_setClass 42 = .ok (.iload_n 1, 1) := by decide +kernel
theorem dX9_setClass_43 : decode cX9_setClass 43 = .ok (.iload_n 2, 1) := by decide +kernel
theorem dX9_setClass_44 : decode cX9_setClass 44 = .ok (.invokevirtual 81, 3) := by decide +kernel
theorem dX9_setClass_47 : decode cX9_setClass 47 = .ok (.ifCond .eq 18, 3) := by decide +kernel
theorem dX9_setClass_50 : decode cX9_setClass 50 = .ok (.iload_n 3, 1) := by decide +kernel
theorem dX9_setClass_51 : decode cX9_setClass 51 = .ok (.iconst 1, 1) := by decide +kernel
theorem dX9_setClass_52 : decode cX9_setClass 52 = .ok (.if_icmp .eq 17, 3) := by decide +kernel
theorem dX9_setClass_55 : decode cX9_setClass 55 = .ok (.iload_n 3, 1) := by decide +kernel
theorem dX9_setClass_56 : decode cX9_setClass 56 = .ok (.iconst 2, 1) := by decide +kernel
theorem dX9_setClass_57 : decode cX9_setClass 57 = .ok (.if_icmp .eq 12, 3) := by decide +kernel
theorem dX9_setClass_60 : decode cX9_setClass 60 = .ok (.iload_n 3, 1) := by decide +kernel
theorem dX9_setClass_61 : decode cX9_setClass 61 = .ok (.iconst 4, 1) := by decide +kernel
theorem dX9_setClass_62 : decode cX9_setClass 62 = .ok (.if_icmp .eq 7, 3) := by decide +kernel
theorem dX9_setClass_65 : decode cX9_setClass 65 = .ok (.iconst 1, 1) := by decide +kernel
theorem dX9_setClass_66 : decode cX9_setClass 66 = .ok (.goto 4, 3) := by decide +kernel
theorem dX9_setClass_69 : decode cX9_setClass 69 = .ok (.iconst 0, 1) := by decide +kernel
theorem dX9_setClass_70 : decode cX9_setClass 70 = .ok (.istore 7, 2) := by decide +kernel
theorem dX9_setClass_72 : decode cX9_setClass 72 = .ok (.iload 7, 2) := by decide +kernel
theorem dX9_setClass_74 : decode cX9_setClass 74 = .ok (.ifCond .eq 46, 3) := by decide +kernel
theorem dX9_setClass_77 : decode cX9_setClass 77 = .ok (.iload_n 3, 1) := by decide +kernel
theorem dX9_setClass_78 : decode cX9_setClass 78 = .ok (.iconst 1, 1) := by decide +kernel
theorem dX9_setClass_79 : decode cX9_setClass 79 = .ok (.if_icmp .ne 18, 3) := by decide +kernel
theorem dX9_setClass_82 : decode cX9_setClass 82 = .ok (.iload 4, 2) := by decide +kernel
theorem dX9_setClass_84 : decode cX9_setClass 84 = .ok (.iconst 1, 1) := by decide +kernel
theorem dX9_setClass_85 : decode cX9_setClass 85 = .ok (.if_icmp .ne 12, 3) := by decide +kernel
theorem dX9_setClass_88 : decode cX9_setClass 88 = .ok (.aload_n 0, 1) := by decide +kernel
theorem dX9_setClass_89 : decode cX9_setClass 89 = .ok (.iload_n 1, 1) := by decide +kernel
theorem dX9_setClass_90 : decode cX9_setClass 90 = .ok (.iload_n 2, 1) := by decide +kernel
theorem dX9_setClass_91 : decode cX9_setClass 91 = .ok (.invokevirtual 116, 3) := by decide +kernel
theorem dX9_setClass_94 : decode cX9_setClass 94 = .ok (.ifCond .ne 26, 3) := by decide +kernel
theorem dX9_setClass_97 : decode cX9_setClass 97 = .ok (.iload_n 3, 1) := by decide +kernel
theorem dX9_setClass_98 : decode cX9_setClass 98 = .ok (.iconst 2, 1) := by decide +kernel
theorem dX9_setClass_99 : decode cX9_setClass 99 = .ok (.if_icmp .ne 17, 3) := by decide +kernel
theorem dX9_setClass_102 : decode cX9_setClass 102 = .ok (.iload 4, 2) := by decide +kernel
theorem dX9_setClass_104 : decode cX9_setClass 104 = .ok (.ifCond .ne 12, 3) := by decide +kernel
theorem dX9_setClass_107 : decode cX9_setClass 107 = .ok (.aload_n 0, 1) := by decide +kernel
theorem dX9_setClass_108 : decode cX9_setClass 108 = .ok (.iload_n 1, 1) := by decide +kernel
theorem dX9_setClass_109 : decode cX9_setClass 109 = .ok (.iload_n 2, 1) := by decide +kernel
theorem dX9_setClass_110 : decode cX9_setClass 110 = .ok (.invokevirtual 119, 3) := by decide +kernel
theorem dX9_setClass_113 : decode cX9_setClass 113 = .ok (.ifCond .ne 7, 3) := by decide +kernel
theorem dX9_setClass_116 : decode cX9_setClass 116 = .ok (.iconst 1, 1) := by decide +kernel
theorem dX9_setClass_117 : decode cX9_setClass 117 = .ok (.goto 4, 3) := by decide +kernel
theorem dX9_setClass_120 : decode cX9_setClass 120 = .ok (.iconst 0, 1) := by decide +kernel
theorem dX9_setClass_121 : decode cX9_setClass 121 = .ok (.istore 7, 2) := by decide +kernel
theorem dX9_setClass_123 : decode cX9_setClass 123 = .ok (.aload_n 0, 1) := by decide +kernel
theorem dX9_setClass_124 : decode cX9_setClass 124 = .ok (.iload 5, 2) := by decide +kernel
theorem dX9_setClass_126 : decode cX9_setClass 126 = .ok (.ifCond .ne 7, 3) := by decide +kernel
theorem dX9_setClass_129 : decode cX9_setClass 129 = .ok (.iconst 1, 1) := by decide +kernel
theorem dX9_setClass_130 : decode cX9_setClass 130 = .ok (.goto 22, 3) := by decide +kernel
theorem dX9_setClass_133 : decode cX9_setClass 133 = .ok (.iload 6, 2) := by decide +kernel
theorem dX9_setClass_135 : decode cX9_setClass 135 = .ok (.ifCond .ne 7, 3) := by decide +kernel
theorem dX9_setClass_138 : decode cX9_setClass 138 = .ok (.iconst 2, 1) := by decide +kernel
theorem dX9_setClass_139 : decode cX9_setClass 139 = .ok (.goto 13, 3) := by decide +kernel
theorem dX9_setClass_142 : decode cX9_setClass 142 = .ok (.iload 7, 2) := by decide +kernel
theorem dX9_setClass_144 : decode cX9_setClass 144 = .ok (.ifCond .ne 7, 3) := by decide +kernel
theorem dX9_setClass_147 : decode cX9_setClass 147 = .ok (.iconst 3, 1) := by decide +kernel
theorem dX9_setClass_148 : decode cX9_setClass 148 = .ok (.goto 4, 3) := by decide +kernel
theorem dX9_setClass_151 : decode cX9_setClass 151 = .ok (.iconst 0, 1) := by decide +kernel
theorem dX9_setClass_152 : decode cX9_setClass 152 = .ok (.invokevirtual 62, 3) := by decide +kernel
theorem dX9_setClass_155 : decode cX9_setClass 155 = .ok (.ifCond .eq 5, 3) := by decide +kernel
theorem dX9_setClass_158 : decode cX9_setClass 158 = .ok (.iconst 0, 1) := by decide +kernel
theorem dX9_setClass_159 : decode cX9_setClass 159 = .ok (.ireturn, 1) := by decide +kernel
theorem dX9_setClass_160 : decode cX9_setClass 160 = .ok (.iload_n 1, 1) := by decide +kernel
theorem dX9_setClass_161 : decode cX9_setClass 161 = .ok (.iload_n 2, 1) := by decide +kernel
theorem dX9_setClass_162 : decode cX9_setClass 162 = .ok (.invokestatic 48, 3) := by decide +kernel
theorem dX9_setClass_165 : decode cX9_setClass 165 = .ok (.iload_n 3, 1) := by decide +kernel
theorem dX9_setClass_166 : decode cX9_setClass 166 = .ok (.invokestatic 122, 3) := by decide +kernel
theorem dX9_setClass_169 : decode cX9_setClass 169 = .ok (.iadd, 1) := by decide +kernel
theorem dX9_setClass_170 : decode cX9_setClass 170 = .ok (.istore 8, 2) := by decide +kernel
theorem dX9_setClass_172 : decode cX9_setClass 172 = .ok (.aload_n 0, 1) := by decide +kernel
theorem dX9_setClass_173 : decode cX9_setClass 173 = .ok (.getfield 7, 3) := by decide +kernel
theorem dX9_setClass_176 : decode cX9_setClass 176 = .ok (.iload 8, 2) := by decide +kernel
theorem dX9_setClass_178 : decode cX9_setClass 178 = .ok (.iaload, 1) := by decide +kernel
theorem dX9_setClass_179 : decode cX9_setClass 179 = .ok (.istore 9, 2) := by decide +kernel
theorem dX9_setClass_181 : decode cX9_setClass 181 = .ok (.aload_n 0, 1) := by decide +kernel
theorem dX9_setClass_182 : decode cX9_setClass 182 = .ok (.invokevirtual 93, 3) := by decide +kernel
theorem dX9_setClass_185 : decode cX9_setClass 185 = .ok (.aload_n 0, 1) := by decide +kernel
theorem dX9_setClass_186 : decode cX9_setClass 186 = .ok (.getfield 7, 3) := by decide +kernel
theorem dX9_setClass_189 : decode cX9_setClass 189 = .ok (.iload 8, 2) := by decide +kernel
theorem dX9_setClass_191 : decode cX9_setClass 191 = .ok (.iload 4, 2) := by decide +kernel
theorem dX9_setClass_193 : decode cX9_setClass 193 = .ok (.iastore, 1) := by decide +kernel
theorem dX9_setClass_194 : decode cX9_setClass 194 = .ok (.iload 9, 2) := by decide +kernel
theorem dX9_setClass_196 : decode cX9_setClass 196 = .ok (.ireturn, 1) := by decide +kernel
theorem dX9_setMember_0 : decode cX9_setMember 0 = .ok (.aload_n 0, 1) := by decide +kernel
theorem dX9_setMember_1 : decode cX9_setMember 1 = .ok (.iload_n 1, 1) := by decide +kernel
theorem dX9_setMember_2 : decode cX9_setMember 2 = .ok (.iload_n 2, 1) := by decide +kernel
theorem dX9_setMember_3 : decode cX9_setMember 3 = .ok (.invokevirtual 152, 3) := by decide +kernel
theorem dX9_setMember_6 : decode cX9_setMember 6 = .ok (.istore 5, 2) := by decide +kernel
theorem dX9_setMember_8 : decode cX9_setMember 8 = .ok (.aload_n 0, 1) := by decide +kernel
theorem dX9_setMember_9 : decode cX9_setMember 9 = .ok (.iload 5, 2) := by decide +kernel
theorem dX9_setMember_11 : decode cX9_setMember 11 = .ok (.ifCond .ne 7, 3) := by decide +kernel
theorem dX9_setMember_14 : decode cX9_setMember 14 = .ok (.iconst 1, 1) := by decide +kernel
theorem dX9_setMember_15 : decode cX9_setMember 15 = .ok (.goto 20, 3) := by decide +kernel
theorem dX9_setMember_18 : decode cX9_setMember 18 = .ok (.aload_n 0, 1) := by decide +kernel
theorem dX9_setMember_19 : decode cX9_setMember 19 = .ok (.iload_n 1, 1) := by decide +kernel
theorem dX9_setMember_20 : decode cX9_setMember 20 = .ok (.iload_n 2, 1) := by decide +kernel
theorem dX9_setMember_21 : decode cX9_setMember 21 = .ok (.iload_n 3, 1) := by decide +kernel
theorem dX9_setMember_22 : decode cX9_setMember 22 = .ok (.iload 4, 2) := by decide +kernel
theorem dX9_setMember_24 : decode cX9_setMember 24 = .ok (.invokevirtual 158, 3) := by decide +kernel
theorem dX9_setMember_27 : decode cX9_setMember 27 = .ok (.ifCond .ne 7, 3) := by decide +kernel
theorem dX9_setMember_30 : decode cX9_setMember 30 = .ok (.iconst 2, 1) := by decide +kernel
theorem dX9_setMember_31 : decode cX9_setMember 31 = .ok (.goto 4, 3) := by decide +kernel
theorem dX9_setMember_34 : decode cX9_setMember 34 = .ok (.iconst 0, 1) := by decide +kernel
theorem dX9_setMember_35 : decode cX9_setMember 35 = .ok (.invokevirtual 62, 3) := by decide +kernel
theorem dX9_setMember_38 : decode cX9_setMember 38 = .ok (.ifCond .eq 5, 3) := by decide +kernel
theorem dX9_setMember_41 : decode cX9_setMember 41 = .ok (.iconst 0, 1) := by decide +kernel
theorem dX9_setMember_42 : decode cX9_setMember 42 = .ok (.ireturn, 1) := by decide +kernel
theorem dX9_setMember_43 : decode cX9_setMember 43 = .ok (.iload_n 1, 1) := by decide +kernel
theorem dX9_setMember_44 : decode cX9_setMember 44 = .ok (.iload_n 2, 1) := by decide +kernel
theorem dX9_setMember_45 : decode cX9_setMember 45 = .ok (.invokestatic 40, 3) := by decide +kernel
theorem dX9_setMember_48 : decode cX9_setMember 48 = .ok (.iload_n 3, 1) := by decide +kernel
theorem dX9_setMember_49 : decode cX9_setMember 49 = .ok (.ifCond .ne 7, 3) := by decide +kernel
theorem dX9_setMember_52 : decode cX9_setMember 52 = .ok (.iconst 3, 1) := by decide +kernel
theorem dX9_setMember_53 : decode cX9_setMember 53 = .ok (.goto 14, 3) := by decide +kernel
theorem dX9_setMember_56 : decode cX9_setMember 56 = .ok (.iload_n 3, 1) := by decide +kernel
theorem dX9_setMember_57 : decode cX9_setMember 57 = .ok (.iconst 1, 1) := by decide +kernel
theorem dX9_setMember_58 : decode cX9_setMember 58 = .ok (.if_icmp .ne 7, 3) := by decide +kernel
theorem dX9_setMember_61 : decode cX9_setMember 61 = .ok (.iconst 4, 1) := by decide +kernel
theorem dX9_setMember_62 : decode cX9_setMember 62 = .ok (.goto 5, 3) := by decide +kernel
theorem dX9_setMember_65 : decode cX9_setMember 65 = .ok (.bipush 9, 2) := by decide +kernel
theorem dX9_setMember_67 : decode cX9_setMember 67 = .ok (.iadd, 1) := by decide +kernel
theorem dX9_setMember_68 : decode cX9_setMember 68 = .ok (.istore 6, 2) := by decide +kernel
theorem dX9_setMember_70 : decode cX9_setMember 70 = .ok (.aload_n 0, 1) := by decide +kernel
theorem dX9_setMember_71 : decode cX9_setMember 71 = .ok (.getfield 7, 3) := by decide +kernel
theorem dX9_setMember_74 : decode cX9_setMember 74 = .ok (.iload 6, 2) := by decide +kernel
theorem dX9_setMember_76 : decode cX9_setMember 76 = .ok (.iaload, 1) := by decide +kernel
theorem dX9_setMember_77 : decode cX9_setMember 77 = .ok (.istore 7, 2) := by decide +kernel
theorem dX9_setMember_79 : decode cX9_setMember 79 = .ok (.aload_n 0, 1) := by decide +kernel
theorem dX9_setMember_80 : decode cX9_setMember 80 = .ok (.invokevirtual 93, 3) := by decide +kernel
theorem dX9_setMember_83 : decode cX9_setMember 83 = .ok (.aload_n 0, 1) := by decide +kernel
theorem dX9_setMember_84 : decode cX9_setMember 84 = .ok (.getfield 7, 3) := by decide +kernel
theorem dX9_setMember_87 : decode cX9_setMember 87 = .ok (.iload 6, 2) := by decide +kernel
theorem dX9_setMember_89 : decode cX9_setMember 89 = .ok (.iload 4, 2) := by decide +kernel
theorem dX9_setMember_91 : decode cX9_setMember 91 = .ok (.iastore, 1) := by decide +kernel
theorem dX9_setMember_92 : decode cX9_setMember 92 = .ok (.aload_n 0, 1) := by decide +kernel
theorem dX9_setMember_93 : decode cX9_setMember 93 = .ok (.iload_n 1, 1) := by decide +kernel
theorem dX9_setMember_94 : decode cX9_setMember 94 = .ok (.iload_n 2, 1) := by decide +kernel
theorem dX9_setMember_95 : decode cX9_setMember 95 = .ok (.iconst 4, 1) := by decide +kernel
theorem dX9_setMember_96 : decode cX9_setMember 96 = .ok (.invokevirtual 102, 3) := by decide +kernel
theorem dX9_setMember_99 : decode cX9_setMember 99 = .ok (.iconst 3, 1) := by decide +kernel
theorem dX9_setMember_100 : decode cX9_setMember 100 = .ok (.if_icmp .eq 18, 3) := by decide +kernel
theorem dX9_setMember_103 : decode cX9_setMember 103 = .ok (.aload_n 0, 1) := by decide +kernel
theorem dX9_setMember_104 : decode cX9_setMember 104 = .ok (.getfield 7, 3) := by decide +kernel
theorem dX9_setMember_107 : decode cX9_setMember 107 = .ok (.iload_n 1, 1) := by decide +kernel
theorem dX9_setMember_108 : decode cX9_setMember 108 = .ok (.iload_n 2, 1) := by decide +kernel
theorem dX9_setMember_109 : decode cX9_setMember 109 = .ok (.invokestatic 40, 3) := by decide +kernel
theorem dX9_setMember_112 : decode cX9_setMember 112 = .ok (.bipush 9, 2) := by decide +kernel
theorem dX9_setMember_114 : decode cX9_setMember 114 = .ok (.iadd, 1) := by decide +kernel
theorem dX9_setMember_115 : decode cX9_setMember 115 = .ok (.bipush (-2), 2) := by decide +kernel
theorem dX9_setMember_117 : decode cX9_setMember 117 = .ok (.iastore, 1) := by decide +kernel
theorem dX9_setMember_118 : decode cX9_setMember 118 = .ok (.iload 7, 2) := by decide +kernel
theorem dX9_setMember_120 : decode cX9_setMember 120 = .ok (.ireturn, 1) := by decide +kernel
theorem dX9_target_0 : decode cX9_target 0 = .ok (.aload_n 0, 1) := by decide +kernel
theorem dX9_target_1 : decode cX9_target 1 = .ok (.aload_n 0, 1) := by decide +kernel
theorem dX9_target_2 : decode cX9_target 2 = .ok (.iload_n 1, 1) := by decide +kernel
theorem dX9_target_3 : decode cX9_target 3 = .ok (.iload_n 2, 1) := by decide +kernel
theorem dX9_target_4 : decode cX9_target 4 = .ok (.invokevirtual 311, 3) := by decide +kernel
theorem dX9_target_7 : decode cX9_target 7 = .ok (.ifCond .eq 7, 3) := by decide +kernel
theorem dX9_target_10 : decode cX9_target 10 = .ok (.iconst 0, 1) := by decide +kernel
theorem dX9_target_11 : decode cX9_target 11 = .ok (.goto 4, 3) := by decide +kernel
theorem dX9_target_14 : decode cX9_target 14 = .ok (.iconst 1, 1) := by decide +kernel
theorem dX9_target_15 : decode cX9_target 15 = .ok (.invokevirtual 62, 3) := by decide +kernel
theorem dX9_target_18 : decode cX9_target 18 = .ok (.ifCond .eq 5, 3) := by decide +kernel
theorem dX9_target_21 : decode cX9_target 21 = .ok (.iconst 0, 1) := by decide +kernel
theorem dX9_target_22 : decode cX9_target 22 = .ok (.ireturn, 1) := by decide +kernel
theorem dX9_target_23 : decode cX9_target 23 = .ok (.aload_n 0, 1) := by decide +kernel
theorem dX9_target_24 : decode cX9_target 24 = .ok (.iload_n 1, 1) := by decide +kernel
theorem dX9_target_25 : decode cX9_target 25 = .ok (.invokevirtual 305, 3) := by decide +kernel
theorem dX9_target_28 : decode cX9_target 28 = .ok (.aload_n 0, 1) := by decide +kernel
theorem dX9_target_29 : decode cX9_target 29 = .ok (.iload_n 2, 1) := by decide +kernel
theorem dX9_target_30 : decode cX9_target 30 = .ok (.invokevirtual 277, 3) := by decide +kernel
theorem dX9_target_33 : decode cX9_target 33 = .ok (.pop, 1) := by decide +kernel
theorem dX9_target_34 : decode cX9_target 34 = .ok (.aload_n 0, 1) := by decide +kernel
theorem dX9_target_35 : decode cX9_target 35 = .ok (.getfield 265, 3) := by decide +kernel
theorem dX9_target_38 : decode cX9_target 38 = .ok (.ireturn, 1) := by decide +kernel
theorem dX9_thrown_0 : decode cX9_thrown 0 = .ok (.aload_n 0, 1) := by decide +kernel
theorem dX9_thrown_1 : decode cX9_thrown 1 = .ok (.getfield 55, 3) := by decide +kernel
theorem dX9_thrown_4 : decode cX9_thrown 4 = .ok (.ireturn, 1) := by decide +kernel
theorem dX9_undo_0 : decode cX9_undo 0 = .ok (.aload_n 0, 1) := by decide +kernel
theorem dX9_undo_1 : decode cX9_undo 1 = .ok (.aload_n 0, 1) := by decide +kernel
theorem dX9_undo_2 : decode cX9_undo 2 = .ok (.getfield 59, 3) := by decide +kernel
theorem dX9_undo_5 : decode cX9_undo 5 = .ok (.ifCond .ne 7, 3) := by decide +kernel
theorem dX9_undo_8 : decode cX9_undo 8 = .ok (.iconst 1, 1) := by decide +kernel
theorem dX9_undo_9 : decode cX9_undo 9 = .ok (.goto 4, 3) := by decide +kernel
theorem dX9_undo_12 : decode cX9_undo 12 = .ok (.iconst 0, 1) := by decide +kernel
theorem dX9_undo_13 : decode cX9_undo 13 = .ok (.invokevirtual 62, 3) := by decide +kernel
theorem dX9_undo_16 : decode cX9_undo 16 = .ok (.ifCond .eq 5, 3) := by decide +kernel
theorem dX9_undo_19 : decode cX9_undo 19 = .ok (.iconst 0, 1) := by decide +kernel
theorem dX9_undo_20 : decode cX9_undo 20 = .ok (.ireturn, 1) := by decide +kernel
theorem dX9_undo_21 : decode cX9_undo 21 = .ok (.aload_n 0, 1) := by decide +kernel
theorem dX9_undo_22 : decode cX9_undo 22 = .ok (.dup, 1) := by decide +kernel
theorem dX9_undo_23 : decode cX9_undo 23 = .ok (.getfield 59, 3) := by decide +kernel
theorem dX9_undo_26 : decode cX9_undo 26 = .ok (.iconst 1, 1) := by decide +kernel
theorem dX9_undo_27 : decode cX9_undo 27 = .ok (.isub, 1) := by decide +kernel
theorem dX9_undo_28 : decode cX9_undo 28 = .ok (.putfield 59, 3) := by decide +kernel
theorem dX9_undo_31 : decode cX9_undo 31 = .ok (.iconst 0, 1) := by decide +kernel
theorem dX9_undo_32 : decode cX9_undo 32 = .ok (.istore_n 1, 1) := by decide +kernel
theorem dX9_undo_33 : decode cX9_undo 33 = .ok (.iload_n 1, 1) := by decide +kernel
theorem dX9_undo_34 : decode cX9_undo 34 = .ok (.sipush 1155, 3) := by decide +kernel
theorem dX9_undo_37 : decode cX9_undo 37 = .ok (.if_icmp .ge 30, 3) := by decide +kernel
theorem dX9_undo_40 : decode cX9_undo 40 = .ok (.aload_n 0, 1) := by decide +kernel
theorem dX9_undo_41 : decode cX9_undo 41 = .ok (.getfield 7, 3) := by decide +kernel
theorem dX9_undo_44 : decode cX9_undo 44 = .ok (.iload_n 1, 1) := by decide +kernel
theorem dX9_undo_45 : decode cX9_undo 45 = .ok (.aload_n 0, 1) := by decide +kernel
theorem dX9_undo_46 : decode cX9_undo 46 = .ok (.getfield 13, 3) := by decide +kernel
theorem dX9_undo_49 : decode cX9_undo 49 = .ok (.sipush 1155, 3) := by decide +kernel
theorem dX9_undo_52 : decode cX9_undo 52 = .ok (.aload_n 0, 1) := by decide +kernel
theorem dX9_undo_53 : decode cX9_undo 53 = .ok (.getfield 59, 3) := by decide +kernel
theorem dX9_undo_56 : decode cX9_undo 56 = .ok (.imul, 1) := by decide +kernel
theorem dX9_undo_57 : decode cX9_undo 57 = .ok (.iload_n 1, 1) := by decide +kernel
theorem dX9_undo_58 : decode cX9_undo 58 = .ok (.iadd, 1) := by decide +kernel
theorem dX9_undo_59 : decode cX9_undo 59 = .ok (.iaload, 1) := by decide +kernel
theorem dX9_undo_60 : decode cX9_undo 60 = .ok (.iastore, 1) := by decide +kernel
theorem dX9_undo_61 : decode cX9_undo 61 = .ok (.iinc 1 1, 3) := by decide +kernel
theorem dX9_undo_64 : decode cX9_undo 64 = .ok (.goto (-31), 3) := by decide +kernel
theorem dX9_undo_67 : decode cX9_undo 67 = .ok (.aload_n 0, 1) := by decide +kernel
theorem dX9_undo_68 : decode cX9_undo 68 = .ok (.getfield 59, 3) := by decide +kernel
theorem dX9_undo_71 : decode cX9_undo 71 = .ok (.ireturn, 1) := by decide +kernel
theorem dX9_verdict_0 : decode cX9_verdict 0 = .ok (.aload_n 0, 1) := by decide +kernel
theorem dX9_verdict_1 : decode cX9_verdict 1 = .ok (.aload_n 0, 1) := by decide +kernel
theorem dX9_verdict_2 : decode cX9_verdict 2 = .ok (.iload_n 1, 1) := by decide +kernel
theorem dX9_verdict_3 : decode cX9_verdict 3 = .ok (.invokevirtual 302, 3) := by decide +kernel
theorem dX9_verdict_6 : decode cX9_verdict 6 = .ok (.ifCond .eq 7, 3) := by decide +kernel
theorem dX9_verdict_9 : decode cX9_verdict 9 = .ok (.iconst 0, 1) := by decide +kernel
theorem dX9_verdict_10 : decode cX9_verdict 10 = .ok (.goto 4, 3) := by decide +kernel
theorem dX9_verdict_13 : decode cX9_verdict 13 = .ok (.iconst 1, 1) := by decide +kernel
theorem dX9_verdict_14 : decode cX9_verdict 14 = .ok (.invokevirtual 62, 3) := by decide +kernel
theorem dX9_verdict_17 : decode cX9_verdict 17 = .ok (.ifCond .eq 5, 3) := by decide +kernel
theorem dX9_verdict_20 : decode cX9_verdict 20 = .ok (.iconst 0, 1) := by decide +kernel
theorem dX9_verdict_21 : decode cX9_verdict 21 = .ok (.ireturn, 1) := by decide +kernel
theorem dX9_verdict_22 : decode cX9_verdict 22 = .ok (.aload_n 0, 1) := by decide +kernel
theorem dX9_verdict_23 : decode cX9_verdict 23 = .ok (.iload_n 1, 1) := by decide +kernel
theorem dX9_verdict_24 : decode cX9_verdict 24 = .ok (.invokevirtual 305, 3) := by decide +kernel
theorem dX9_verdict_27 : decode cX9_verdict 27 = .ok (.aload_n 0, 1) := by decide +kernel
theorem dX9_verdict_28 : decode cX9_verdict 28 = .ok (.invokevirtual 314, 3) := by decide +kernel
theorem dX9_verdict_31 : decode cX9_verdict 31 = .ok (.ireturn, 1) := by decide +kernel
theorem dL_addClient_0 : decode cL_addClient 0 = .ok (.aload 5, 2) := by decide +kernel
theorem dL_addClient_2 : decode cL_addClient 2 = .ok (.iconst 0, 1) := by decide +kernel
theorem dL_addClient_3 : decode cL_addClient 3 = .ok (.aload_n 0, 1) := by decide +kernel
theorem dL_addClient_4 : decode cL_addClient 4 = .ok (.iload_n 1, 1) := by decide +kernel
theorem dL_addClient_5 : decode cL_addClient 5 = .ok (.iload_n 2, 1) := by decide +kernel
theorem dL_addClient_6 : decode cL_addClient 6 = .ok (.iload_n 3, 1) := by decide +kernel
theorem dL_addClient_7 : decode cL_addClient 7 = .ok (.iload 4, 2) := by decide +kernel
theorem dL_addClient_9 : decode cL_addClient 9 = .ok (.invokevirtual 74, 3) := by decide +kernel
theorem dL_addClient_12 : decode cL_addClient 12 = .ok (.i2l, 1) := by decide +kernel
theorem dL_addClient_13 : decode cL_addClient 13 = .ok (.lastore, 1) := by decide +kernel
theorem dL_addClient_14 : decode cL_addClient 14 = .ok (.goto 11, 3) := by decide +kernel
theorem dL_addClient_17 : decode cL_addClient 17 = .ok (.astore 6, 2) := by decide +kernel
theorem dL_addClient_19 : decode cL_addClient 19 = .ok (.iconst 1, 1) := by decide +kernel
theorem dL_addClient_20 : decode cL_addClient 20 = .ok (.ireturn, 1) := by decide +kernel
theorem dL_addClient_21 : decode cL_addClient 21 = .ok (.astore 6, 2) := by decide +kernel
theorem dL_addClient_23 : decode cL_addClient 23 = .ok (.iconst 2, 1) := by decide +kernel
theorem dL_addClient_24 : decode cL_addClient 24 = .ok (.ireturn, 1) := by decide +kernel
theorem dL_addClient_25 : decode cL_addClient 25 = .ok (.iconst 0, 1) := by decide +kernel
theorem dL_addClient_26 : decode cL_addClient 26 = .ok (.ireturn, 1) := by decide +kernel
theorem dL_addField_0 : decode cL_addField 0 = .ok (.aload 6, 2) := by decide +kernel
theorem dL_addField_2 : decode cL_addField 2 = .ok (.iconst 0, 1) := by decide +kernel
theorem dL_addField_3 : decode cL_addField 3 = .ok (.aload_n 0, 1) := by decide +kernel
theorem dL_addField_4 : decode cL_addField 4 = .ok (.iload_n 1, 1) := by decide +kernel
theorem dL_addField_5 : decode cL_addField 5 = .ok (.iload_n 2, 1) := by decide +kernel
theorem dL_addField_6 : decode cL_addField 6 = .ok (.iload_n 3, 1) := by decide +kernel
theorem dL_addField_7 : decode cL_addField 7 = .ok (.iload 4, 2) := by decide +kernel
theorem dL_addField_9 : decode cL_addField 9 = .ok (.iload 5, 2) := by decide +kernel
theorem dL_addField_11 : decode cL_addField 11 = .ok (.invokevirtual 38, 3) := by decide +kernel
theorem dL_addField_14 : decode cL_addField 14 = .ok (.i2l, 1) := by decide +kernel
theorem dL_addField_15 : decode cL_addField 15 = .ok (.lastore, 1) := by decide +kernel
theorem dL_addField_16 : decode cL_addField 16 = .ok (.goto 15, 3) := by decide +kernel
theorem dL_addField_19 : decode cL_addField 19 = .ok (.astore 7, 2) := by decide +kernel
theorem dL_addField_21 : decode cL_addField 21 = .ok (.iconst 1, 1) := by decide +kernel
theorem dL_addField_22 : decode cL_addField 22 = .ok (.ireturn, 1) := by decide +kernel
theorem dL_addField_23 : decode cL_addField 23 = .ok (.astore 7, 2) := by decide +kernel
theorem dL_addField_25 : decode cL_addField 25 = .ok (.iconst 2, 1) := by decide +kernel
theorem dL_addField_26 : decode cL_addField 26 = .ok (.ireturn, 1) := by decide +kernel
theorem dL_addField_27 : decode cL_addField 27 = .ok (.astore 7, 2) := by decide +kernel
theorem dL_addField_29 : decode cL_addField 29 = .ok (.iconst 3, 1) := by decide +kernel
theorem dL_addField_30 : decode cL_addField 30 = .ok (.ireturn, 1) := by decide +kernel
theorem dL_addField_31 : decode cL_addField 31 = .ok (.iconst 0, 1) := by decide +kernel
theorem dL_addField_32 : decode cL_addField 32 = .ok (.ireturn, 1) := by decide +kernel
theorem dL_addMethod_0 : decode cL_addMethod 0 = .ok (.aload 6, 2) := by decide +kernel
theorem dL_addMethod_2 : decode cL_addMethod 2 = .ok (.iconst 0, 1) := by decide +kernel
theorem dL_addMethod_3 : decode cL_addMethod 3 = .ok (.aload_n 0, 1) := by decide +kernel
theorem dL_addMethod_4 : decode cL_addMethod 4 = .ok (.iload_n 1, 1) := by decide +kernel
theorem dL_addMethod_5 : decode cL_addMethod 5 = .ok (.iload_n 2, 1) := by decide +kernel
theorem dL_addMethod_6 : decode cL_addMethod 6 = .ok (.iload_n 3, 1) := by decide +kernel
theorem dL_addMethod_7 : decode cL_addMethod 7 = .ok (.iload 4, 2) := by decide +kernel
theorem dL_addMethod_9 : decode cL_addMethod 9 = .ok (.iload 5, 2) := by decide +kernel
theorem dL_addMethod_11 : decode cL_addMethod 11 = .ok (.invokevirtual 42, 3) := by decide +kernel
theorem dL_addMethod_14 : decode cL_addMethod 14 = .ok (.i2l, 1) := by decide +kernel
theorem dL_addMethod_15 : decode cL_addMethod 15 = .ok (.lastore, 1) := by decide +kernel
theorem dL_addMethod_16 : decode cL_addMethod 16 = .ok (.goto 15, 3) := by decide +kernel
theorem dL_addMethod_19 : decode cL_addMethod 19 = .ok (.astore 7, 2) := by decide +kernel
theorem dL_addMethod_21 : decode cL_addMethod 21 = .ok (.iconst 1, 1) := by decide +kernel
theorem dL_addMethod_22 : decode cL_addMethod 22 = .ok (.ireturn, 1) := by decide +kernel
theorem dL_addMethod_23 : decode cL_addMethod 23 = .ok (.astore 7, 2) := by decide +kernel
theorem dL_addMethod_25 : decode cL_addMethod 25 = .ok (.iconst 2, 1) := by decide +kernel
theorem dL_addMethod_26 : decode cL_addMethod 26 = .ok (.ireturn, 1) := by decide +kernel
theorem dL_addMethod_27 : decode cL_addMethod 27 = .ok (.astore 7, 2) := by decide +kernel
theorem dL_addMethod_29 : decode cL_addMethod 29 = .ok (.iconst 3, 1) := by decide +kernel
theorem dL_addMethod_30 : decode cL_addMethod 30 = .ok (.ireturn, 1) := by decide +kernel
theorem dL_addMethod_31 : decode cL_addMethod 31 = .ok (.iconst 0, 1) := by decide +kernel
theorem dL_addMethod_32 : decode cL_addMethod 32 = .ok (.ireturn, 1) := by decide +kernel
theorem dL_classInfo_0 : decode cL_classInfo 0 = .ok (.aload 4, 2) := by decide +kernel
theorem dL_classInfo_2 : decode cL_classInfo 2 = .ok (.iconst 0, 1) := by decide +kernel
theorem dL_classInfo_3 : decode cL_classInfo 3 = .ok (.aload_n 0, 1) := by decide +kernel
theorem dL_classInfo_4 : decode cL_classInfo 4 = .ok (.iload_n 1, 1) := by decide +kernel
theorem dL_classInfo_5 : decode cL_classInfo 5 = .ok (.iload_n 2, 1) := by decide +kernel
theorem dL_classInfo_6 : decode cL_classInfo 6 = .ok (.iload_n 3, 1) := by decide +kernel
theorem dL_classInfo_7 : decode cL_classInfo 7 = .ok (.invokevirtual 31, 3) := by decide +kernel
theorem dL_classInfo_10 : decode cL_classInfo 10 = .ok (.i2l, 1) := by decide +kernel
theorem dL_classInfo_11 : decode cL_classInfo 11 = .ok (.lastore, 1) := by decide +kernel
theorem dL_classInfo_12 : decode cL_classInfo 12 = .ok (.goto 11, 3) := by decide +kernel
theorem dL_classInfo_15 : decode cL_classInfo 15 = .ok (.astore 5, 2) := by decide +kernel
theorem dL_classInfo_17 : decode cL_classInfo 17 = .ok (.iconst 1, 1) := by decide +kernel
theorem dL_classInfo_18 : decode cL_classInfo 18 = .ok (.ireturn, 1) := by decide +kernel
theorem dL_classInfo_19 : decode cL_classInfo 19 = .ok (.astore 5, 2) := by decide +kernel
theorem dL_classInfo_21 : decode cL_classInfo 21 = .ok (.iconst 2, 1) := by decide +kernel
theorem dL_classInfo_22 : decode cL_classInfo 22 = .ok (.ireturn, 1) := by decide +kernel
theorem dL_classInfo_23 : decode cL_classInfo 23 = .ok (.iconst 0, 1) := by decide +kernel
theorem dL_classInfo_24 : decode cL_classInfo 24 = .ok (.ireturn, 1) := by decide +kernel
theorem dL_clientInfo_0 : decode cL_clientInfo 0 = .ok (.aload_n 3, 1) := by decide +kernel
theorem dL_clientInfo_1 : decode cL_clientInfo 1 = .ok (.iconst 0, 1) := by decide +kernel
theorem dL_clientInfo_2 : decode cL_clientInfo 2 = .ok (.aload_n 0, 1) := by decide +kernel
theorem dL_clientInfo_3 : decode cL_clientInfo 3 = .ok (.iload_n 1, 1) := by decide +kernel
theorem dL_clientInfo_4 : decode cL_clientInfo 4 = .ok (.iload_n 2, 1) := by decide +kernel
theorem dL_clientInfo_5 : decode cL_clientInfo 5 = .ok (.invokevirtual 83, 3) := by decide +kernel
theorem dL_clientInfo_8 : decode cL_clientInfo 8 = .ok (.i2l, 1) := by decide +kernel
theorem dL_clientInfo_9 : decode cL_clientInfo 9 = .ok (.lastore, 1) := by decide +kernel
theorem dL_clientInfo_10 : decode cL_clientInfo 10 = .ok (.goto 11, 3) := by decide +kernel
theorem dL_clientInfo_13 : decode cL_clientInfo 13 = .ok (.astore 4, 2) := by decide +kernel
theorem dL_clientInfo_15 : decode cL_clientInfo 15 = .ok (.iconst 1, 1) := by decide +kernel
theorem dL_clientInfo_16 : decode cL_clientInfo 16 = .ok (.ireturn, 1) := by decide +kernel
theorem dL_clientInfo_17 : decode cL_clientInfo 17 = .ok (.astore 4, 2) := by decide +kernel
theorem dL_clientInfo_19 : decode cL_clientInfo 19 = .ok (.iconst 2, 1) := by decide +kernel
theorem dL_clientInfo_20 : decode cL_clientInfo 20 = .ok (.ireturn, 1) := by decide +kernel
theorem dL_clientInfo_21 : decode cL_clientInfo 21 = .ok (.iconst 0, 1) := by decide +kernel
theorem dL_clientInfo_22 : decode cL_clientInfo 22 = .ok (.ireturn, 1) := by decide +kernel
theorem dL_compile_0 : decode cL_compile 0 = .ok (.aload_n 3, 1) := by decide +kernel
theorem dL_compile_1 : decode cL_compile 1 = .ok (.iconst 0, 1) := by decide +kernel
theorem dL_compile_2 : decode cL_compile 2 = .ok (.aload_n 0, 1) := by decide +kernel
theorem dL_compile_3 : decode cL_compile 3 = .ok (.iload_n 1, 1) := by decide +kernel
theorem dL_compile_4 : decode cL_compile 4 = .ok (.iload_n 2, 1) := by decide +kernel
theorem dL_compile_5 : decode cL_compile 5 = .ok (.invokevirtual 86, 3) := by decide +kernel
theorem dL_compile_8 : decode cL_compile 8 = .ok (.i2l, 1) := by decide +kernel
theorem dL_compile_9 : decode cL_compile 9 = .ok (.lastore, 1) := by decide +kernel
theorem dL_compile_10 : decode cL_compile 10 = .ok (.goto 7, 3) := by decide +kernel
theorem dL_compile_13 : decode cL_compile 13 = .ok (.astore 4, 2) := by decide +kernel
theorem dL_compile_15 : decode cL_compile 15 = .ok (.iconst 1, 1) := by decide +kernel
theorem dL_compile_16 : decode cL_compile 16 = .ok (.ireturn, 1) := by decide +kernel
theorem dL_compile_17 : decode cL_compile 17 = .ok (.iconst 0, 1) := by decide +kernel
theorem dL_compile_18 : decode cL_compile 18 = .ok (.ireturn, 1) := by decide +kernel
theorem dL_count_0 : decode cL_count 0 = .ok (.aload_n 2, 1) := by decide +kernel
theorem dL_count_1 : decode cL_count 1 = .ok (.iconst 0, 1) := by decide +kernel
theorem dL_count_2 : decode cL_count 2 = .ok (.aload_n 0, 1) := by decide +kernel
theorem dL_count_3 : decode cL_count 3 = .ok (.iload_n 1, 1) := by decide +kernel
theorem dL_count_4 : decode cL_count 4 = .ok (.invokevirtual 98, 3) := by decide +kernel
theorem dL_count_7 : decode cL_count 7 = .ok (.i2l, 1) := by decide +kernel
theorem dL_count_8 : decode cL_count 8 = .ok (.lastore, 1) := by decide +kernel
theorem dL_count_9 : decode cL_count 9 = .ok (.goto 6, 3) := by decide +kernel
theorem dL_count_12 : decode cL_count 12 = .ok (.astore_n 3, 1) := by decide +kernel
theorem dL_count_13 : decode cL_count 13 = .ok (.iconst 1, 1) := by decide +kernel
theorem dL_count_14 : decode cL_count 14 = .ok (.ireturn, 1) := by decide +kernel
theorem dL_count_15 : decode cL_count 15 = .ok (.iconst 0, 1) := by decide +kernel
theorem dL_count_16 : decode cL_count 16 = .ok (.ireturn, 1) := by decide +kernel
theorem dL_define_0 : decode cL_define 0 = .ok (.aload 6, 2) := by decide +kernel
theorem dL_define_2 : decode cL_define 2 = .ok (.iconst 0, 1) := by decide +kernel
theorem dL_define_3 : decode cL_define 3 = .ok (.aload_n 0, 1) := by decide +kernel
theorem dL_define_4 : decode cL_define 4 = .ok (.iload_n 1, 1) := by decide +kernel
theorem dL_define_5 : decode cL_define 5 = .ok (.iload_n 2, 1) := by decide +kernel
theorem dL_define_6 : decode cL_define 6 = .ok (.iload_n 3, 1) := by decide +kernel
theorem dL_define_7 : decode cL_define 7 = .ok (.iload 4, 2) := by decide +kernel
theorem dL_define_9 : decode cL_define 9 = .ok (.iload 5, 2) := by decide +kernel
theorem dL_define_11 : decode cL_define 11 = .ok (.invokevirtual 7, 3) := by decide +kernel
theorem dL_define_14 : decode cL_define 14 = .ok (.i2l, 1) := by decide +kernel
theorem dL_define_15 : decode cL_define 15 = .ok (.lastore, 1) := by decide +kernel
theorem dL_define_16 : decode cL_define 16 = .ok (.goto 15, 3) := by decide +kernel
theorem dL_define_19 : decode cL_define 19 = .ok (.astore 7, 2) := by decide +kernel
theorem dL_define_21 : decode cL_define 21 = .ok (.iconst 1, 1) := by decide +kernel
theorem dL_define_22 : decode cL_define 22 = .ok (.ireturn, 1) := by decide +kernel
theorem dL_define_23 : decode cL_define 23 = .ok (.astore 7, 2) := by decide +kernel
theorem dL_define_25 : decode cL_define 25 = .ok (.iconst 2, 1) := by decide +kernel
theorem dL_define_26 : decode cL_define 26 = .ok (.ireturn, 1) := by decide +kernel
theorem dL_define_27 : decode cL_define 27 = .ok (.astore 7, 2) := by decide +kernel
theorem dL_define_29 : decode cL_define 29 = .ok (.iconst 3, 1) := by decide +kernel
theorem dL_define_30 : decode cL_define 30 = .ok (.ireturn, 1) := by decide +kernel
theorem dL_define_31 : decode cL_define 31 = .ok (.iconst 0, 1) := by decide +kernel
theorem dL_define_32 : decode cL_define 32 = .ok (.ireturn, 1) := by decide +kernel
theorem dL_draft_0 : decode cL_draft 0 = .ok (.aload 5, 2) := by decide +kernel
theorem dL_draft_2 : decode cL_draft 2 = .ok (.iconst 0, 1) := by decide +kernel
theorem dL_draft_3 : decode cL_draft 3 = .ok (.aload_n 0, 1) := by decide +kernel
theorem dL_draft_4 : decode cL_draft 4 = .ok (.iload_n 1, 1) := by decide +kernel
theorem dL_draft_5 : decode cL_draft 5 = .ok (.iload_n 2, 1) := by decide +kernel
theorem dL_draft_6 : decode cL_draft 6 = .ok (.iload_n 3, 1) := by decide +kernel
theorem dL_draft_7 : decode cL_draft 7 = .ok (.iload 4, 2) := by decide +kernel
theorem dL_draft_9 : decode cL_draft 9 = .ok (.invokevirtual 35, 3) := by decide +kernel
theorem dL_draft_12 : decode cL_draft 12 = .ok (.i2l, 1) := by decide +kernel
theorem dL_draft_13 : decode cL_draft 13 = .ok (.lastore, 1) := by decide +kernel
theorem dL_draft_14 : decode cL_draft 14 = .ok (.goto 7, 3) := by decide +kernel
theorem dL_draft_17 : decode cL_draft 17 = .ok (.astore 6, 2) := by decide +kernel
theorem dL_draft_19 : decode cL_draft 19 = .ok (.iconst 1, 1) := by decide +kernel
theorem dL_draft_20 : decode cL_draft 20 = .ok (.ireturn, 1) := by decide +kernel
