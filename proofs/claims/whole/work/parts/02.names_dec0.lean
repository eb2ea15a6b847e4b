theorem dJ6_bitCount_0f7a4_0 : decode cJ6_bitCount_0f7a4 0 = .ok (.iload_n 0, 1) := by decide +kernel
theorem dJ6_bitCount_0f7a4_1 : decode cJ6_bitCount_0f7a4 1 = .ok (.iload_n 0, 1) := by decide +kernel
theorem dJ6_bitCount_0f7a4_2 : decode cJ6_bitCount_0f7a4 2 = .ok (.iconst 1, 1) := by decide +kernel
theorem dJ6_bitCount_0f7a4_3 : decode cJ6_bitCount_0f7a4 3 = .ok (.iushr, 1) := by decide +kernel
theorem dJ6_bitCount_0f7a4_4 : decode cJ6_bitCount_0f7a4 4 = .ok (.ldc_w 265, 3) := by decide +kernel
theorem dJ6_bitCount_0f7a4_7 : decode cJ6_bitCount_0f7a4 7 = .ok (.iand, 1) := by decide +kernel
theorem dJ6_bitCount_0f7a4_8 : decode cJ6_bitCount_0f7a4 8 = .ok (.isub, 1) := by decide +kernel
theorem dJ6_bitCount_0f7a4_9 : decode cJ6_bitCount_0f7a4 9 = .ok (.istore_n 0, 1) := by decide +kernel
theorem dJ6_bitCount_0f7a4_10 : decode cJ6_bitCount_0f7a4 10 = .ok (.iload_n 0, 1) := by decide +kernel
theorem dJ6_bitCount_0f7a4_11 : decode cJ6_bitCount_0f7a4 11 = .ok (.ldc_w 266, 3) := by decide +kernel
theorem dJ6_bitCount_0f7a4_14 : decode cJ6_bitCount_0f7a4 14 = .ok (.iand, 1) := by decide +kernel
theorem dJ6_bitCount_0f7a4_15 : decode cJ6_bitCount_0f7a4 15 = .ok (.iload_n 0, 1) := by decide +kernel
theorem dJ6_bitCount_0f7a4_16 : decode cJ6_bitCount_0f7a4 16 = .ok (.iconst 2, 1) := by decide +kernel
theorem dJ6_bitCount_0f7a4_17 : decode cJ6_bitCount_0f7a4 17 = .ok (.iushr, 1) := by decide +kernel
theorem dJ6_bitCount_0f7a4_18 : decode cJ6_bitCount_0f7a4 18 = .ok (.ldc_w 266, 3) := by decide +kernel
theorem dJ6_bitCount_0f7a4_21 : decode cJ6_bitCount_0f7a4 21 = .ok (.iand, 1) := by decide +kernel
theorem dJ6_bitCount_0f7a4_22 : decode cJ6_bitCount_0f7a4 22 = .ok (.iadd, 1) := by decide +kernel
theorem dJ6_bitCount_0f7a4_23 : decode cJ6_bitCount_0f7a4 23 = .ok (.istore_n 0, 1) := by decide +kernel
theorem dJ6_bitCount_0f7a4_24 : decode cJ6_bitCount_0f7a4 24 = .ok (.iload_n 0, 1) := by decide +kernel
theorem dJ6_bitCount_0f7a4_25 : decode cJ6_bitCount_0f7a4 25 = .ok (.iload_n 0, 1) := by decide +kernel
theorem dJ6_bitCount_0f7a4_26 : decode cJ6_bitCount_0f7a4 26 = .ok (.iconst 4, 1) := by decide +kernel
theorem dJ6_bitCount_0f7a4_27 : decode cJ6_bitCount_0f7a4 27 = .ok (.iushr, 1) := by decide +kernel
theorem dJ6_bitCount_0f7a4_28 : decode cJ6_bitCount_0f7a4 28 = .ok (.iadd, 1) := by decide +kernel
theorem dJ6_bitCount_0f7a4_29 : decode cJ6_bitCount_0f7a4 29 = .ok (.ldc_w 267, 3) := by decide +kernel
theorem dJ6_bitCount_0f7a4_32 : decode cJ6_bitCount_0f7a4 32 = .ok (.iand, 1) := by decide +kernel
theorem dJ6_bitCount_0f7a4_33 : decode cJ6_bitCount_0f7a4 33 = .ok (.istore_n 0, 1) := by decide +kernel
theorem dJ6_bitCount_0f7a4_34 : decode cJ6_bitCount_0f7a4 34 = .ok (.iload_n 0, 1) := by decide +kernel
theorem dJ6_bitCount_0f7a4_35 : decode cJ6_bitCount_0f7a4 35 = .ok (.iload_n 0, 1) := by decide +kernel
theorem dJ6_bitCount_0f7a4_36 : decode cJ6_bitCount_0f7a4 36 = .ok (.bipush 8, 2) := by decide +kernel
theorem dJ6_bitCount_0f7a4_38 : decode cJ6_bitCount_0f7a4 38 = .ok (.iushr, 1) := by decide +kernel
theorem dJ6_bitCount_0f7a4_39 : decode cJ6_bitCount_0f7a4 39 = .ok (.iadd, 1) := by decide +kernel
theorem dJ6_bitCount_0f7a4_40 : decode cJ6_bitCount_0f7a4 40 = .ok (.istore_n 0, 1) := by decide +kernel
theorem dJ6_bitCount_0f7a4_41 : decode cJ6_bitCount_0f7a4 41 = .ok (.iload_n 0, 1) := by decide +kernel
theorem dJ6_bitCount_0f7a4_42 : decode cJ6_bitCount_0f7a4 42 = .ok (.iload_n 0, 1) := by decide +kernel
theorem dJ6_bitCount_0f7a4_43 : decode cJ6_bitCount_0f7a4 43 = .ok (.bipush 16, 2) := by decide +kernel
theorem dJ6_bitCount_0f7a4_45 : decode cJ6_bitCount_0f7a4 45 = .ok (.iushr, 1) := by decide +kernel
theorem dJ6_bitCount_0f7a4_46 : decode cJ6_bitCount_0f7a4 46 = .ok (.iadd, 1) := by decide +kernel
theorem dJ6_bitCount_0f7a4_47 : decode cJ6_bitCount_0f7a4 47 = .ok (.istore_n 0, 1) := by decide +kernel
theorem dJ6_bitCount_0f7a4_48 : decode cJ6_bitCount_0f7a4 48 = .ok (.iload_n 0, 1) := by decide +kernel
theorem dJ6_bitCount_0f7a4_49 : decode cJ6_bitCount_0f7a4 49 = .ok (.bipush 63, 2) := by decide +kernel
theorem dJ6_bitCount_0f7a4_51 : decode cJ6_bitCount_0f7a4 51 = .ok (.iand, 1) := by decide +kernel
theorem dJ6_bitCount_0f7a4_52 : decode cJ6_bitCount_0f7a4 52 = .ok (.ireturn, 1) := by decide +kernel
theorem dX0_nextTypes_0 : decode cX0_nextTypes 0 = .ok (.aload_n 0, 1) := by decide +kernel
theorem dX0_nextTypes_1 : decode cX0_nextTypes 1 = .ok (.getfield 27, 3) := by decide +kernel
theorem dX0_nextTypes_4 : decode cX0_nextTypes 4 = .ok (.iconst 2, 1) := by decide +kernel
theorem dX0_nextTypes_5 : decode cX0_nextTypes 5 = .ok (.if_icmp .lt 26, 3) := by decide +kernel
theorem dX0_nextTypes_8 : decode cX0_nextTypes 8 = .ok (.aload_n 0, 1) := by decide +kernel
theorem dX0_nextTypes_9 : decode cX0_nextTypes 9 = .ok (.getfield 33, 3) := by decide +kernel
theorem dX0_nextTypes_12 : decode cX0_nextTypes 12 = .ok (.iconst 1, 1) := by decide +kernel
theorem dX0_nextTypes_13 : decode cX0_nextTypes 13 = .ok (.iadd, 1) := by decide +kernel
theorem dX0_nextTypes_14 : decode cX0_nextTypes 14 = .ok (.bipush 10, 2) := by decide +kernel
theorem dX0_nextTypes_16 : decode cX0_nextTypes 16 = .ok (.if_icmp .ge 15, 3) := by decide +kernel
theorem dX0_nextTypes_19 : decode cX0_nextTypes 19 = .ok (.aload_n 0, 1) := by decide +kernel
theorem dX0_nextTypes_20 : decode cX0_nextTypes 20 = .ok (.dup, 1) := by decide +kernel
theorem dX0_nextTypes_21 : decode cX0_nextTypes 21 = .ok (.getfield 33, 3) := by decide +kernel
theorem dX0_nextTypes_24 : decode cX0_nextTypes 24 = .ok (.iconst 1, 1) := by decide +kernel
theorem dX0_nextTypes_25 : decode cX0_nextTypes 25 = .ok (.iadd, 1) := by decide +kernel
theorem dX0_nextTypes_26 : decode cX0_nextTypes 26 = .ok (.putfield 33, 3) := by decide +kernel
theorem dX0_nextTypes_29 : decode cX0_nextTypes 29 = .ok (.iconst 1, 1) := by decide +kernel
theorem dX0_nextTypes_30 : decode cX0_nextTypes 30 = .ok (.ireturn, 1) := by decide +kernel
theorem dX0_nextTypes_31 : decode cX0_nextTypes 31 = .ok (.aload_n 0, 1) := by decide +kernel
theorem dX0_nextTypes_32 : decode cX0_nextTypes 32 = .ok (.getfield 27, 3) := by decide +kernel
theorem dX0_nextTypes_35 : decode cX0_nextTypes 35 = .ok (.iconst 1, 1) := by decide +kernel
theorem dX0_nextTypes_36 : decode cX0_nextTypes 36 = .ok (.if_icmp .lt 44, 3) := by decide +kernel
theorem dX0_nextTypes_39 : decode cX0_nextTypes 39 = .ok (.aload_n 0, 1) := by decide +kernel
theorem dX0_nextTypes_40 : decode cX0_nextTypes 40 = .ok (.getfield 30, 3) := by decide +kernel
theorem dX0_nextTypes_43 : decode cX0_nextTypes 43 = .ok (.iconst 1, 1) := by decide +kernel
theorem dX0_nextTypes_44 : decode cX0_nextTypes 44 = .ok (.iadd, 1) := by decide +kernel
theorem dX0_nextTypes_45 : decode cX0_nextTypes 45 = .ok (.bipush 10, 2) := by decide +kernel
theorem dX0_nextTypes_47 : decode cX0_nextTypes 47 = .ok (.if_icmp .ge 33, 3) := by decide +kernel
theorem dX0_nextTypes_50 : decode cX0_nextTypes 50 = .ok (.aload_n 0, 1) := by decide +kernel
theorem dX0_nextTypes_51 : decode cX0_nextTypes 51 = .ok (.dup, 1) := by decide +kernel
theorem dX0_nextTypes_52 : decode cX0_nextTypes 52 = .ok (.getfield 30, 3) := by decide +kernel
theorem dX0_nextTypes_55 : decode cX0_nextTypes 55 = .ok (.iconst 1, 1) := by decide +kernel
theorem dX0_nextTypes_56 : decode cX0_nextTypes 56 = .ok (.iadd, 1) := by decide +kernel
theorem dX0_nextTypes_57 : decode cX0_nextTypes 57 = .ok (.putfield 30, 3) := by decide +kernel
theorem dX0_nextTypes_60 : decode cX0_nextTypes 60 = .ok (.aload_n 0, 1) := by decide +kernel
theorem dX0_nextTypes_61 : decode cX0_nextTypes 61 = .ok (.aload_n 0, 1) := by decide +kernel
theorem dX0_nextTypes_62 : decode cX0_nextTypes 62 = .ok (.getfield 27, 3) := by decide +kernel
theorem dX0_nextTypes_65 : decode cX0_nextTypes 65 = .ok (.iconst 2, 1) := by decide +kernel
theorem dX0_nextTypes_66 : decode cX0_nextTypes 66 = .ok (.if_icmp .lt 7, 3) := by decide +kernel
theorem dX0_nextTypes_69 : decode cX0_nextTypes 69 = .ok (.iconst (-1), 1) := by decide +kernel
theorem dX0_nextTypes_70 : decode cX0_nextTypes 70 = .ok (.goto 5, 3) := by decide +kernel
theorem dX0_nextTypes_73 : decode cX0_nextTypes 73 = .ok (.bipush (-2), 2) := by decide +kernel
theorem dX0_nextTypes_75 : decode cX0_nextTypes 75 = .ok (.putfield 33, 3) := by decide +kernel
theorem dX0_nextTypes_78 : decode cX0_nextTypes 78 = .ok (.iconst 1, 1) := by decide +kernel
theorem dX0_nextTypes_79 : decode cX0_nextTypes 79 = .ok (.ireturn, 1) := by decide +kernel
theorem dX0_nextTypes_80 : decode cX0_nextTypes 80 = .ok (.iconst 0, 1) := by decide +kernel
theorem dX0_nextTypes_81 : decode cX0_nextTypes 81 = .ok (.ireturn, 1) := by decide +kernel
theorem dX0_nextMany_0 : decode cX0_nextMany 0 = .ok (.aload_n 0, 1) := by decide +kernel
theorem dX0_nextMany_1 : decode cX0_nextMany 1 = .ok (.getfield 27, 3) := by decide +kernel
theorem dX0_nextMany_4 : decode cX0_nextMany 4 = .ok (.iconst 2, 1) := by decide +kernel
theorem dX0_nextMany_5 : decode cX0_nextMany 5 = .ok (.if_icmp .lt 5, 3) := by decide +kernel
theorem dX0_nextMany_8 : decode cX0_nextMany 8 = .ok (.iconst 0, 1) := by decide +kernel
theorem dX0_nextMany_9 : decode cX0_nextMany 9 = .ok (.ireturn, 1) := by decide +kernel
theorem dX0_nextMany_10 : decode cX0_nextMany 10 = .ok (.aload_n 0, 1) := by decide +kernel
theorem dX0_nextMany_11 : decode cX0_nextMany 11 = .ok (.dup, 1) := by decide +kernel
theorem dX0_nextMany_12 : decode cX0_nextMany 12 = .ok (.getfield 27, 3) := by decide +kernel
theorem dX0_nextMany_15 : decode cX0_nextMany 15 = .ok (.iconst 1, 1) := by decide +kernel
theorem dX0_nextMany_16 : decode cX0_nextMany 16 = .ok (.iadd, 1) := by decide +kernel
theorem dX0_nextMany_17 : decode cX0_nextMany 17 = .ok (.putfield 27, 3) := by decide +kernel
theorem dX0_nextMany_20 : decode cX0_nextMany 20 = .ok (.aload_n 0, 1) := by decide +kernel
theorem dX0_nextMany_21 : decode cX0_nextMany 21 = .ok (.iconst (-1), 1) := by decide +kernel
theorem dX0_nextMany_22 : decode cX0_nextMany 22 = .ok (.putfield 30, 3) := by decide +kernel
theorem dX0_nextMany_25 : decode cX0_nextMany 25 = .ok (.aload_n 0, 1) := by decide +kernel
theorem dX0_nextMany_26 : decode cX0_nextMany 26 = .ok (.aload_n 0, 1) := by decide +kernel
theorem dX0_nextMany_27 : decode cX0_nextMany 27 = .ok (.getfield 27, 3) := by decide +kernel
theorem dX0_nextMany_30 : decode cX0_nextMany 30 = .ok (.iconst 2, 1) := by decide +kernel
theorem dX0_nextMany_31 : decode cX0_nextMany 31 = .ok (.if_icmp .lt 7, 3) := by decide +kernel
theorem dX0_nextMany_34 : decode cX0_nextMany 34 = .ok (.iconst (-1), 1) := by decide +kernel
theorem dX0_nextMany_35 : decode cX0_nextMany 35 = .ok (.goto 5, 3) := by decide +kernel
theorem dX0_nextMany_38 : decode cX0_nextMany 38 = .ok (.bipush (-2), 2) := by decide +kernel
theorem dX0_nextMany_40 : decode cX0_nextMany 40 = .ok (.putfield 33, 3) := by decide +kernel
theorem dX0_nextMany_43 : decode cX0_nextMany 43 = .ok (.iconst 1, 1) := by decide +kernel
theorem dX0_nextMany_44 : decode cX0_nextMany 44 = .ok (.ireturn, 1) := by decide +kernel
theorem dX7_clear_0 : decode cX7_clear 0 = .ok (.aload_n 0, 1) := by decide +kernel
theorem dX7_clear_1 : decode cX7_clear 1 = .ok (.iconst 0, 1) := by decide +kernel
theorem dX7_clear_2 : decode cX7_clear 2 = .ok (.putfield 9, 3) := by decide +kernel
theorem dX7_clear_5 : decode cX7_clear 5 = .ok (.aload_n 0, 1) := by decide +kernel
theorem dX7_clear_6 : decode cX7_clear 6 = .ok (.bipush (-2), 2) := by decide +kernel
theorem dX7_clear_8 : decode cX7_clear 8 = .ok (.putfield 15, 3) := by decide +kernel
theorem dX7_clear_11 : decode cX7_clear 11 = .ok (.aload_n 0, 1) := by decide +kernel
theorem dX7_clear_12 : decode cX7_clear 12 = .ok (.bipush (-2), 2) := by decide +kernel
theorem dX7_clear_14 : decode cX7_clear 14 = .ok (.putfield 19, 3) := by decide +kernel
theorem dX7_clear_17 : decode cX7_clear 17 = .ok (.aload_n 0, 1) := by decide +kernel
theorem dX7_clear_18 : decode cX7_clear 18 = .ok (.bipush (-2), 2) := by decide +kernel
theorem dX7_clear_20 : decode cX7_clear 20 = .ok (.putfield 22, 3) := by decide +kernel
theorem dX7_clear_23 : decode cX7_clear 23 = .ok (.aload_n 0, 1) := by decide +kernel
theorem dX7_clear_24 : decode cX7_clear 24 = .ok (.bipush (-2), 2) := by decide +kernel
theorem dX7_clear_26 : decode cX7_clear 26 = .ok (.putfield 25, 3) := by decide +kernel
theorem dX7_clear_29 : decode cX7_clear 29 = .ok (.aload_n 0, 1) := by decide +kernel
theorem dX7_clear_30 : decode cX7_clear 30 = .ok (.bipush (-2), 2) := by decide +kernel
theorem dX7_clear_32 : decode cX7_clear 32 = .ok (.putfield 28, 3) := by decide +kernel
theorem dX7_clear_35 : decode cX7_clear 35 = .ok (.aload_n 0, 1) := by decide +kernel
theorem dX7_clear_36 : decode cX7_clear 36 = .ok (.bipush (-2), 2) := by decide +kernel
theorem dX7_clear_38 : decode cX7_clear 38 = .ok (.putfield 31, 3) := by decide +kernel
theorem dX7_clear_41 : decode cX7_clear 41 = .ok (.return_, 1) := by decide +kernel
theorem dX0_put_0 : decode cX0_put 0 = .ok (.aload_n 0, 1) := by decide +kernel
theorem dX0_put_1 : decode cX0_put 1 = .ok (.iload_n 1, 1) := by decide +kernel
theorem dX0_put_2 : decode cX0_put 2 = .ok (.putfield 9, 3) := by decide +kernel
theorem dX0_put_5 : decode cX0_put 5 = .ok (.aload_n 0, 1) := by decide +kernel
theorem dX0_put_6 : decode cX0_put 6 = .ok (.iload_n 2, 1) := by decide +kernel
theorem dX0_put_7 : decode cX0_put 7 = .ok (.putfield 15, 3) := by decide +kernel
theorem dX0_put_10 : decode cX0_put 10 = .ok (.aload_n 0, 1) := by decide +kernel
theorem dX0_put_11 : decode cX0_put 11 = .ok (.iload_n 1, 1) := by decide +kernel
theorem dX0_put_12 : decode cX0_put 12 = .ok (.iconst 2, 1) := by decide +kernel
theorem dX0_put_13 : decode cX0_put 13 = .ok (.if_icmp .gt 7, 3) := by decide +kernel
theorem dX0_put_16 : decode cX0_put 16 = .ok (.iload_n 3, 1) := by decide +kernel
theorem dX0_put_17 : decode cX0_put 17 = .ok (.goto 5, 3) := by decide +kernel
theorem dX0_put_20 : decode cX0_put 20 = .ok (.bipush (-2), 2) := by decide +kernel
theorem dX0_put_22 : decode cX0_put 22 = .ok (.putfield 18, 3) := by decide +kernel
theorem dX0_put_25 : decode cX0_put 25 = .ok (.aload_n 0, 1) := by decide +kernel
theorem dX0_put_26 : decode cX0_put 26 = .ok (.iload 4, 2) := by decide +kernel
theorem dX0_put_28 : decode cX0_put 28 = .ok (.putfield 21, 3) := by decide +kernel
theorem dX0_put_31 : decode cX0_put 31 = .ok (.aload_n 0, 1) := by decide +kernel
theorem dX0_put_32 : decode cX0_put 32 = .ok (.iconst 0, 1) := by decide +kernel
theorem dX0_put_33 : decode cX0_put 33 = .ok (.putfield 24, 3) := by decide +kernel
theorem dX0_put_36 : decode cX0_put 36 = .ok (.aload_n 0, 1) := by decide +kernel
theorem dX0_put_37 : decode cX0_put 37 = .ok (.iload_n 1, 1) := by decide +kernel
theorem dX0_put_38 : decode cX0_put 38 = .ok (.iconst 2, 1) := by decide +kernel
theorem dX0_put_39 : decode cX0_put 39 = .ok (.if_icmp .ne 7, 3) := by decide +kernel
theorem dX0_put_42 : decode cX0_put 42 = .ok (.iconst 0, 1) := by decide +kernel
theorem dX0_put_43 : decode cX0_put 43 = .ok (.goto 5, 3) := by decide +kernel
theorem dX0_put_46 : decode cX0_put 46 = .ok (.bipush (-2), 2) := by decide +kernel
theorem dX0_put_48 : decode cX0_put 48 = .ok (.putfield 27, 3) := by decide +kernel
theorem dX0_put_51 : decode cX0_put 51 = .ok (.aload_n 0, 1) := by decide +kernel
theorem dX0_put_52 : decode cX0_put 52 = .ok (.bipush (-2), 2) := by decide +kernel
theorem dX0_put_54 : decode cX0_put 54 = .ok (.putfield 30, 3) := by decide +kernel
theorem dX0_put_57 : decode cX0_put 57 = .ok (.aload_n 0, 1) := by decide +kernel
theorem dX0_put_58 : decode cX0_put 58 = .ok (.bipush (-2), 2) := by decide +kernel
theorem dX0_put_60 : decode cX0_put 60 = .ok (.putfield 33, 3) := by decide +kernel
theorem dX0_put_63 : decode cX0_put 63 = .ok (.aload_n 0, 1) := by decide +kernel
theorem dX0_put_64 : decode cX0_put 64 = .ok (.getfield 39, 3) := by decide +kernel
theorem dX0_put_67 : decode cX0_put 67 = .ok (.invokevirtual 43, 3) := by decide +kernel
theorem dX0_put_70 : decode cX0_put 70 = .ok (.return_, 1) := by decide +kernel
theorem dX0_advance_0 : decode cX0_advance 0 = .ok (.aload_n 0, 1) := by decide +kernel
theorem dX0_advance_1 : decode cX0_advance 1 = .ok (.getfield 9, 3) := by decide +kernel
theorem dX0_advance_4 : decode cX0_advance 4 = .ok (.iconst 2, 1) := by decide +kernel
theorem dX0_advance_5 : decode cX0_advance 5 = .ok (.if_icmp .ne 23, 3) := by decide +kernel
theorem dX0_advance_8 : decode cX0_advance 8 = .ok (.iload_n 1, 1) := by decide +kernel
theorem dX0_advance_9 : decode cX0_advance 9 = .ok (.ifCond .ne 10, 3) := by decide +kernel
theorem dX0_advance_12 : decode cX0_advance 12 = .ok (.aload_n 0, 1) := by decide +kernel
theorem dX0_advance_13 : decode cX0_advance 13 = .ok (.invokevirtual 46, 3) := by decide +kernel
theorem dX0_advance_16 : decode cX0_advance 16 = .ok (.ifCond .ne 10, 3) := by decide +kernel
theorem dX0_advance_19 : decode cX0_advance 19 = .ok (.aload_n 0, 1) := by decide +kernel
theorem dX0_advance_20 : decode cX0_advance 20 = .ok (.invokevirtual 50, 3) := by decide +kernel
theorem dX0_advance_23 : decode cX0_advance 23 = .ok (.ifCond .eq 5, 3) := by decide +kernel
theorem dX0_advance_26 : decode cX0_advance 26 = .ok (.iconst 1, 1) := by decide +kernel
theorem dX0_advance_27 : decode cX0_advance 27 = .ok (.ireturn, 1) := by decide +kernel
theorem dX0_advance_28 : decode cX0_advance 28 = .ok (.aload_n 0, 1) := by decide +kernel
theorem dX0_advance_29 : decode cX0_advance 29 = .ok (.getfield 9, 3) := by decide +kernel
theorem dX0_advance_32 : decode cX0_advance 32 = .ok (.iconst 2, 1) := by decide +kernel
theorem dX0_advance_33 : decode cX0_advance 33 = .ok (.if_icmp .gt 39, 3) := by decide +kernel
theorem dX0_advance_36 : decode cX0_advance 36 = .ok (.aload_n 0, 1) := by decide +kernel
theorem dX0_advance_37 : decode cX0_advance 37 = .ok (.getfield 18, 3) := by decide +kernel
theorem dX0_advance_40 : decode cX0_advance 40 = .ok (.iconst 1, 1) := by decide +kernel
theorem dX0_advance_41 : decode cX0_advance 41 = .ok (.iadd, 1) := by decide +kernel
theorem dX0_advance_42 : decode cX0_advance 42 = .ok (.bipush 8, 2) := by decide +kernel
theorem dX0_advance_44 : decode cX0_advance 44 = .ok (.if_icmp .ge 28, 3) := by decide +kernel
theorem dX0_advance_47 : decode cX0_advance 47 = .ok (.aload_n 0, 1) := by decide +kernel
theorem dX0_advance_48 : decode cX0_advance 48 = .ok (.aload_n 0, 1) := by decide +kernel
theorem dX0_advance_49 : decode cX0_advance 49 = .ok (.getfield 9, 3) := by decide +kernel
theorem dX0_advance_52 : decode cX0_advance 52 = .ok (.aload_n 0, 1) := by decide +kernel
theorem dX0_advance_53 : decode cX0_advance 53 = .ok (.getfield 15, 3) := by decide +kernel
theorem dX0_advance_56 : decode cX0_advance 56 = .ok (.aload_n 0, 1) := by decide +kernel
theorem dX0_advance_57 : decode cX0_advance 57 = .ok (.getfield 18, 3) := by decide +kernel
theorem dX0_advance_60 : decode cX0_advance 60 = .ok (.iconst 1, 1) := by decide +kernel
theorem dX0_advance_61 : decode cX0_advance 61 = .ok (.iadd, 1) := by decide +kernel
theorem dX0_advance_62 : decode cX0_advance 62 = .ok (.aload_n 0, 1) := by decide +kernel
theorem dX0_advance_63 : decode cX0_advance 63 = .ok (.getfield 21, 3) := by decide +kernel
theorem dX0_advance_66 : decode cX0_advance 66 = .ok (.invokevirtual 53, 3) := by decide +kernel
theorem dX0_advance_69 : decode cX0_advance 69 = .ok (.goto 65, 3) := by decide +kernel
theorem dX0_advance_72 : decode cX0_advance 72 = .ok (.aload_n 0, 1) := by decide +kernel
theorem dX0_advance_73 : decode cX0_advance 73 = .ok (.getfield 15, 3) := by decide +kernel
theorem dX0_advance_76 : decode cX0_advance 76 = .ok (.iconst 1, 1) := by decide +kernel
theorem dX0_advance_77 : decode cX0_advance 77 = .ok (.iadd, 1) := by decide +kernel
theorem dX0_advance_78 : decode cX0_advance 78 = .ok (.bipush 10, 2) := by decide +kernel
theorem dX0_advance_80 : decode cX0_advance 80 = .ok (.if_icmp .ge 25, 3) := by decide +kernel
theorem dX0_advance_83 : decode cX0_advance 83 = .ok (.aload_n 0, 1) := by decide +kernel
theorem dX0_advance_84 : decode cX0_advance 84 = .ok (.aload_n 0, 1) := by decide +kernel
theorem dX0_advance_85 : decode cX0_advance 85 = .ok (.getfield 9, 3) := by decide +kernel
theorem dX0_advance_88 : decode cX0_advance 88 = .ok (.aload_n 0, 1) := by decide +kernel
theorem dX0_advance_89 : decode cX0_advance 89 = .ok (.getfield 15, 3) := by decide +kernel
theorem dX0_advance_92 : decode cX0_advance 92 = .ok (.iconst 1, 1) := by decide +kernel
theorem dX0_advance_93 : decode cX0_advance 93 = .ok (.iadd, 1) := by decide +kernel
theorem dX0_advance_94 : decode cX0_advance 94 = .ok (.iconst 0, 1) := by decide +kernel
theorem dX0_advance_95 : decode cX0_advance 95 = .ok (.aload_n 0, 1) := by decide +kernel
theorem dX0_advance_96 : decode cX0_advance 96 = .ok (.getfield 21, 3) := by decide +kernel
theorem dX0_advance_99 : decode cX0_advance 99 = .ok (.invokevirtual 53, 3) := by decide +kernel
theorem dX0_advance_102 : decode cX0_advance 102 = .ok (.goto 32, 3) := by decide +kernel
theorem dX0_advance_105 : decode cX0_advance 105 = .ok (.aload_n 0, 1) := by decide +kernel
theorem dX0_advance_106 : decode cX0_advance 106 = .ok (.getfield 9, 3) := by decide +kernel
theorem dX0_advance_109 : decode cX0_advance 109 = .ok (.iconst 5, 1) := by decide +kernel
theorem dX0_advance_110 : decode cX0_advance 110 = .ok (.if_icmp .ge 22, 3) := by decide +kernel
theorem dX0_advance_113 : decode cX0_advance 113 = .ok (.aload_n 0, 1) := by decide +kernel
theorem dX0_advance_114 : decode cX0_advance 114 = .ok (.aload_n 0, 1) := by decide +kernel
theorem dX0_advance_115 : decode cX0_advance 115 = .ok (.getfield 9, 3) := by decide +kernel
theorem dX0_advance_118 : decode cX0_advance 118 = .ok (.iconst 1, 1) := by decide +kernel
theorem dX0_advance_119 : decode cX0_advance 119 = .ok (.iadd, 1) := by decide +kernel
theorem dX0_advance_120 : decode cX0_advance 120 = .ok (.iconst 0, 1) := by decide +kernel
theorem dX0_advance_121 : decode cX0_advance 121 = .ok (.iconst 0, 1) := by decide +kernel
theorem dX0_advance_122 : decode cX0_advance 122 = .ok (.aload_n 0, 1) := by decide +kernel
theorem dX0_advance_123 : decode cX0_advance 123 = .ok (.getfield 21, 3) := by decide +kernel
theorem dX0_advance_126 : decode cX0_advance 126 = .ok (.invokevirtual 53, 3) := by decide +kernel
theorem dX0_advance_129 : decode cX0_advance 129 = .ok (.goto 5, 3) := by decide +kernel
theorem dX0_advance_132 : decode cX0_advance 132 = .ok (.iconst 0, 1) := by decide +kernel
theorem dX0_advance_133 : decode cX0_advance 133 = .ok (.ireturn, 1) := by decide +kernel
theorem dX0_advance_134 : decode cX0_advance 134 = .ok (.iconst 1, 1) := by decide +kernel
theorem dX0_advance_135 : decode cX0_advance 135 = .ok (.ireturn, 1) := by decide +kernel
theorem dX7_copyFrom_0 : decode cX7_copyFrom 0 = .ok (.aload_n 0, 1) := by decide +kernel
theorem dX7_copyFrom_1 : decode cX7_copyFrom 1 = .ok (.aload_n 1, 1) := by decide +kernel
theorem dX7_copyFrom_2 : decode cX7_copyFrom 2 = .ok (.getfield 9, 3) := by decide +kernel
theorem dX7_copyFrom_5 : decode cX7_copyFrom 5 = .ok (.putfield 9, 3) := by decide +kernel
theorem dX7_copyFrom_8 : decode cX7_copyFrom 8 = .ok (.aload_n 0, 1) := by decide +kernel
theorem dX7_copyFrom_9 : decode cX7_copyFrom 9 = .ok (.aload_n 1, 1) := by decide +kernel
theorem dX7_copyFrom_10 : decode cX7_copyFrom 10 = .ok (.getfield 15, 3) := by decide +kernel
theorem dX7_copyFrom_13 : decode cX7_copyFrom 13 = .ok (.putfield 15, 3) := by decide +kernel
theorem dX7_copyFrom_16 : decode cX7_copyFrom 16 = .ok (.aload_n 0, 1) := by decide +kernel
theorem dX7_copyFrom_17 : decode cX7_copyFrom 17 = .ok (.aload_n 1, 1) := by decide +kernel
theorem dX7_copyFrom_18 : decode cX7_copyFrom 18 = .ok (.getfield 19, 3) := by decide +kernel
theorem dX7_copyFrom_21 : decode cX7_copyFrom 21 = .ok (.putfield 19, 3) := by decide +kernel
theorem dX7_copyFrom_24 : decode cX7_copyFrom 24 = .ok (.aload_n 0, 1) := by decide +kernel
theorem dX7_copyFrom_25 : decode cX7_copyFrom 25 = .ok (.aload_n 1, 1) := by decide +kernel
theorem dX7_copyFrom_26 : decode cX7_copyFrom 26 = .ok (.getfield 22, 3) := by decide +kernel
theorem dX7_copyFrom_29 : decode cX7_copyFrom 29 = .ok (.putfield 22, 3) := by decide +kernel
theorem dX7_copyFrom_32 : decode cX7_copyFrom 32 = .ok (.aload_n 0, 1) := by decide +kernel
theorem dX7_copyFrom_33 : decode cX7_copyFrom 33 = .ok (.aload_n 1, 1) := by decide +kernel
theorem dX7_copyFrom_34 : decode cX7_copyFrom 34 = .ok (.getfield 25, 3) := by decide +kernel
theorem dX7_copyFrom_37 : decode cX7_copyFrom 37 = .ok (.putfield 25, 3) := by decide +kernel
theorem dX7_copyFrom_40 : decode cX7_copyFrom 40 = .ok (.aload_n 0, 1) := by decide +kernel
theorem dX7_copyFrom_41 : decode cX7_copyFrom 41 = .ok (.aload_n 1, 1) := by decide +kernel
theorem dX7_copyFrom_42 : decode cX7_copyFrom 42 = .ok (.getfield 28, 3) := by decide +kernel
theorem dX7_copyFrom_45 : decode cX7_copyFrom 45 = .ok (.putfield 28, 3) := by decide +kernel
theorem dX7_copyFrom_48 : decode cX7_copyFrom 48 = .ok (.aload_n 0, 1) := by decide +kernel
theorem dX7_copyFrom_49 : decode cX7_copyFrom 49 = .ok (.aload_n 1, 1) := by decide +kernel
theorem dX7_copyFrom_50 : decode cX7_copyFrom 50 = .ok (.getfield 31, 3) := by decide +kernel
theorem dX7_copyFrom_53 : decode cX7_copyFrom 53 = .ok (.putfield 31, 3) := by decide +kernel
theorem dX7_copyFrom_56 : decode cX7_copyFrom 56 = .ok (.return_, 1) := by decide +kernel
theorem dX0_copyFrom_0 : decode cX0_copyFrom 0 = .ok (.aload_n 0, 1) := by decide +kernel
theorem dX0_copyFrom_1 : decode cX0_copyFrom 1 = .ok (.aload_n 1, 1) := by decide +kernel
theorem dX0_copyFrom_2 : decode cX0_copyFrom 2 = .ok (.getfield 9, 3) := by decide +kernel
theorem dX0_copyFrom_5 : decode cX0_copyFrom 5 = .ok (.putfield 9, 3) := by decide +kernel
theorem dX0_copyFrom_8 : decode cX0_copyFrom 8 = .ok (.aload_n 0, 1) := by decide +kernel
theorem dX0_copyFrom_9 : decode cX0_copyFrom 9 = .ok (.aload_n 1, 1) := by decide +kernel
theorem dX0_copyFrom_10 : decode cX0_copyFrom 10 = .ok (.getfield 15, 3) := by decide +kernel
theorem dX0_copyFrom_13 : decode cX0_copyFrom 13 = .ok (.putfield 15, 3) := by decide +kernel
theorem dX0_copyFrom_16 : decode cX0_copyFrom 16 = .ok (.aload_n 0, 1) := by decide +kernel
theorem dX0_copyFrom_17 : decode cX0_copyFrom 17 = .ok (.aload_n 1, 1) := by decide +kernel
theorem dX0_copyFrom_18 : decode cX0_copyFrom 18 = .ok (.getfield 18, 3) := by decide +kernel
theorem dX0_copyFrom_21 : decode cX0_copyFrom 21 = .ok (.putfield 18, 3) := by decide +kernel
theorem dX0_copyFrom_24 : decode cX0_copyFrom 24 = .ok (.aload_n 0, 1) := by decide +kernel
theorem dX0_copyFrom_25 : decode cX0_copyFrom 25 = .ok (.aload_n 1, 1) := by decide +kernel
theorem dX0_copyFrom_26 : decode cX0_copyFrom 26 = .ok (.getfield 21, 3) := by decide +kernel
theorem dX0_copyFrom_29 : decode cX0_copyFrom 29 = .ok (.putfield 21, 3) := by decide +kernel
theorem dX0_copyFrom_32 : decode cX0_copyFrom 32 = .ok (.aload_n 0, 1) := by decide +kernel
theorem dX0_copyFrom_33 : decode cX0_copyFrom 33 = .ok (.aload_n 1, 1) := by decide +kernel
theorem dX0_copyFrom_34 : decode cX0_copyFrom 34 = .ok (.getfield 24, 3) := by decide +kernel
theorem dX0_copyFrom_37 : decode cX0_copyFrom 37 = .ok (.putfield 24, 3) := by decide +kernel
theorem dX0_copyFrom_40 : decode cX0_copyFrom 40 = .ok (.aload_n 0, 1) := by decide +kernel
theorem dX0_copyFrom_41 : decode cX0_copyFrom 41 = .ok (.aload_n 1, 1) := by decide +kernel
theorem dX0_copyFrom_42 : decode cX0_copyFrom 42 = .ok (.getfield 27, 3) := by decide +kernel
theorem dX0_copyFrom_45 : decode cX0_copyFrom 45 = .ok (.putfield 27, 3) := by decide +kernel
theorem dX0_copyFrom_48 : decode cX0_copyFrom 48 = .ok (.aload_n 0, 1) := by decide +kernel
theorem dX0_copyFrom_49 : decode cX0_copyFrom 49 = .ok (.aload_n 1, 1) := by decide +kernel
theorem dX0_copyFrom_50 : decode cX0_copyFrom 50 = .ok (.getfield 30, 3) := by decide +kernel
theorem dX0_copyFrom_53 : decode cX0_copyFrom 53 = .ok (.putfield 30, 3) := by decide +kernel
theorem dX0_copyFrom_56 : decode cX0_copyFrom 56 = .ok (.aload_n 0, 1) := by decide +kernel
theorem dX0_copyFrom_57 : decode cX0_copyFrom 57 = .ok (.aload_n 1, 1) := by decide +kernel
theorem dX0_copyFrom_58 : decode cX0_copyFrom 58 = .ok (.getfield 33, 3) := by decide +kernel
theorem dX0_copyFrom_61 : decode cX0_copyFrom 61 = .ok (.putfield 33, 3) := by decide +kernel
theorem dX0_copyFrom_64 : decode cX0_copyFrom 64 = .ok (.aload_n 0, 1) := by decide +kernel
theorem dX0_copyFrom_65 : decode cX0_copyFrom 65 = .ok (.getfield 39, 3) := by decide +kernel
theorem dX0_copyFrom_68 : decode cX0_copyFrom 68 = .ok (.aload_n 1, 1) := by decide +kernel
theorem dX0_copyFrom_69 : decode cX0_copyFrom 69 = .ok (.getfield 39, 3) := by decide +kernel
theorem dX0_copyFrom_72 : decode cX0_copyFrom 72 = .ok (.invokevirtual 57, 3) := by decide +kernel
theorem dX0_copyFrom_75 : decode cX0_copyFrom 75 = .ok (.return_, 1) := by decide +kernel
theorem dX7_init_0 : decode cX7_init 0 = .ok (.aload_n 0, 1) := by decide +kernel
theorem dX7_init_1 : decode cX7_init 1 = .ok (.invokespecial 3, 3) := by decide +kernel
theorem dX7_init_4 : decode cX7_init 4 = .ok (.aload_n 0, 1) := by decide +kernel
theorem dX7_init_5 : decode cX7_init 5 = .ok (.iconst 0, 1) := by decide +kernel
theorem dX7_init_6 : decode cX7_init 6 = .ok (.putfield 9, 3) := by decide +kernel
theorem dX7_init_9 : decode cX7_init 9 = .ok (.aload_n 0, 1) := by decide +kernel
theorem dX7_init_10 : decode cX7_init 10 = .ok (.bipush (-2), 2) := by decide +kernel
theorem dX7_init_12 : decode cX7_init 12 = .ok (.putfield 15, 3) := by decide +kernel
theorem dX7_init_15 : decode cX7_init 15 = .ok (.aload_n 0, 1) := by decide +kernel
theorem dX7_init_16 : decode cX7_init 16 = .ok (.bipush (-2), 2) := by decide +kernel
theorem dX7_init_18 : decode cX7_init 18 = .ok (.putfield 19, 3) := by decide +kernel
theorem dX7_init_21 : decode cX7_init 21 = .ok (.aload_n 0, 1) := by decide +kernel
theorem dX7_init_22 : decode cX7_init 22 = .ok (.bipush (-2), 2) := by decide +kernel
theorem dX7_init_24 : decode cX7_init 24 = .ok (.putfield 22, 3) := by decide +kernel
theorem dX7_init_27 : decode cX7_init 27 = .ok (.aload_n 0, 1) := by decide +kernel
theorem dX7_init_28 : decode cX7_init 28 = .ok (.bipush (-2), 2) := by decide +kernel
theorem dX7_init_30 : decode cX7_init 30 = .ok (.putfield 25, 3) := by decide +kernel
theorem dX7_init_33 : decode cX7_init 33 = .ok (.aload_n 0, 1) := by decide +kernel
theorem dX7_init_34 : decode cX7_init 34 = .ok (.bipush (-2), 2) := by decide +kernel
theorem dX7_init_36 : decode cX7_init 36 = .ok (.putfield 28, 3) := by decide +kernel
theorem dX7_init_39 : decode cX7_init 39 = .ok (.aload_n 0, 1) := by decide +kernel
theorem dX7_init_40 : decode cX7_init 40 = .ok (.bipush (-2), 2) := by decide +kernel
theorem dX7_init_42 : decode cX7_init 42 = .ok (.putfield 31, 3) := by decide +kernel
theorem dX7_init_45 : decode cX7_init 45 = .ok (.return_, 1) := by decide +kernel
theorem dX0_init_0 : decode cX0_init 0 = .ok (.aload_n 0, 1) := by decide +kernel
theorem dX0_init_1 : decode cX0_init 1 = .ok (.invokespecial 3, 3) := by decide +kernel
theorem dX0_init_4 : decode cX0_init 4 = .ok (.aload_n 0, 1) := by decide +kernel
theorem dX0_init_5 : decode cX0_init 5 = .ok (.iconst 0, 1) := by decide +kernel
theorem dX0_init_6 : decode cX0_init 6 = .ok (.putfield 9, 3) := by decide +kernel
theorem dX0_init_9 : decode cX0_init 9 = .ok (.aload_n 0, 1) := by decide +kernel
theorem dX0_init_10 : decode cX0_init 10 = .ok (.iconst 0, 1) := by decide +kernel
theorem dX0_init_11 : decode cX0_init 11 = .ok (.putfield 15, 3) := by decide +kernel
theorem dX0_init_14 : decode cX0_init 14 = .ok (.aload_n 0, 1) := by decide +kernel
theorem dX0_init_15 : decode cX0_init 15 = .ok (.bipush (-2), 2) := by decide +kernel
theorem dX0_init_17 : decode cX0_init 17 = .ok (.putfield 18, 3) := by decide +kernel
theorem dX0_init_20 : decode cX0_init 20 = .ok (.aload_n 0, 1) := by decide +kernel
theorem dX0_init_21 : decode cX0_init 21 = .ok (.iconst 0, 1) := by decide +kernel
theorem dX0_init_22 : decode cX0_init 22 = .ok (.putfield 21, 3) := by decide +kernel
theorem dX0_init_25 : decode cX0_init 25 = .ok (.aload_n 0, 1) := by decide +kernel
theorem dX0_init_26 : decode cX0_init 26 = .ok (.iconst 0, 1) := by decide +kernel
theorem dX0_init_27 : decode cX0_init 27 = .ok (.putfield 24, 3) := by decide +kernel
theorem dX0_init_30 : decode cX0_init 30 = .ok (.aload_n 0, 1) := by decide +kernel
theorem dX0_init_31 : decode cX0_init 31 = .ok (.bipush (-2), 2) := by decide +kernel
theorem dX0_init_33 : decode cX0_init 33 = .ok (.putfield 27, 3) := by decide +kernel
theorem dX0_init_36 : decode cX0_init 36 = .ok (.aload_n 0, 1) := by decide +kernel
theorem dX0_init_37 : decode cX0_init 37 = .ok (.bipush (-2), 2) := by decide +kernel
theorem dX0_init_39 : decode cX0_init 39 = .ok (.putfield 30, 3) := by decide +kernel
theorem dX0_init_42 : decode cX0_init 42 = .ok (.aload_n 0, 1) := by decide +kernel
theorem dX0_init_43 : decode cX0_init 43 = .ok (.bipush (-2), 2) := by decide +kernel
theorem dX0_init_45 : decode cX0_init 45 = .ok (.putfield 33, 3) := by decide +kernel
theorem dX0_init_48 : decode cX0_init 48 = .ok (.aload_n 0, 1) := by decide +kernel
theorem dX0_init_49 : decode cX0_init 49 = .ok (.new 36, 3) := by decide +kernel
theorem dX0_init_52 : decode cX0_init 52 = .ok (.dup, 1) := by decide +kernel
theorem dX0_init_53 : decode cX0_init 53 = .ok (.invokespecial 38, 3) := by decide +kernel
theorem dX0_init_56 : decode cX0_init 56 = .ok (.putfield 39, 3) := by decide +kernel
theorem dX0_init_59 : decode cX0_init 59 = .ok (.return_, 1) := by decide +kernel
theorem dX0_putArguments_0 : decode cX0_putArguments 0 = .ok (.aload_n 0, 1) := by decide +kernel
theorem dX0_putArguments_1 : decode cX0_putArguments 1 = .ok (.iload_n 1, 1) := by decide +kernel
theorem dX0_putArguments_2 : decode cX0_putArguments 2 = .ok (.putfield 27, 3) := by decide +kernel
theorem dX0_putArguments_5 : decode cX0_putArguments 5 = .ok (.aload_n 0, 1) := by decide +kernel
theorem dX0_putArguments_6 : decode cX0_putArguments 6 = .ok (.iload_n 2, 1) := by decide +kernel
theorem dX0_putArguments_7 : decode cX0_putArguments 7 = .ok (.putfield 30, 3) := by decide +kernel
theorem dX0_putArguments_10 : decode cX0_putArguments 10 = .ok (.aload_n 0, 1) := by decide +kernel
theorem dX0_putArguments_11 : decode cX0_putArguments 11 = .ok (.iload_n 3, 1) := by decide +kernel
theorem dX0_putArguments_12 : decode cX0_putArguments 12 = .ok (.putfield 33, 3) := by decide +kernel
theorem dX0_putArguments_15 : decode cX0_putArguments 15 = .ok (.return_, 1) := by decide +kernel
theorem dX0_valueOf_0 : decode cX0_valueOf 0 = .ok (.iload_n 1, 1) := by decide +kernel
theorem dX0_valueOf_1 : decode cX0_valueOf 1 = .ok (.tableswitch 113 0 8 #[51, 56, 61, 66, 71, 76, 81, 97, 105], 51) := by decide +kernel
theorem dX0_valueOf_52 : decode cX0_valueOf 52 = .ok (.aload_n 0, 1) := by decide +kernel
theorem dX0_valueOf_53 : decode cX0_valueOf 53 = .ok (.getfield 9, 3) := by decide +kernel
theorem dX0_valueOf_56 : decode cX0_valueOf 56 = .ok (.ireturn, 1) := by decide +kernel
theorem dX0_valueOf_57 : decode cX0_valueOf 57 = .ok (.aload_n 0, 1) := by decide +kernel
theorem dX0_valueOf_58 : decode cX0_valueOf 58 = .ok (.getfield 15, 3) := by decide +kernel
theorem dX0_valueOf_61 : decode cX0_valueOf 61 = .ok (.ireturn, 1) := by decide +kernel
theorem dX0_valueOf_62 : decode cX0_valueOf 62 = .ok (.aload_n 0, 1) := by decide +kernel
theorem dX0_valueOf_63 : decode cX0_valueOf 63 = .ok (.getfield 18, 3) := by decide +kernel
theorem dX0_valueOf_66 : decode cX0_valueOf 66 = .ok (.ireturn, 1) := by decide +kernel
theorem dX0_valueOf_67 : decode cX0_valueOf 67 = .ok (.aload_n 0, 1) := by decide +kernel
theorem dX0_valueOf_68 : decode cX0_valueOf 68 = .ok (.getfield 21, 3) := by decide +kernel
theorem dX0_valueOf_71 : decode cX0_valueOf 71 = .ok (.ireturn, 1) := by decide +kernel
theorem dX0_valueOf_72 : decode cX0_valueOf 72 = .ok (.aload_n 0, 1) := by decide +kernel
theorem dX0_valueOf_73 : decode cX0_valueOf 73 = .ok (.getfield 24, 3) := by decide +kernel
theorem dX0_valueOf_76 : decode cX0_valueOf 76 = .ok (.ireturn, 1) := by decide +kernel
theorem dX0_valueOf_77 : decode cX0_valueOf 77 = .ok (.aload_n 0, 1) := by decide +kernel
theorem dX0_valueOf_78 : decode cX0_valueOf 78 = .ok (.getfield 27, 3) := by decide +kernel
theorem dX0_valueOf_81 : decode cX0_valueOf 81 = .ok (.ireturn, 1) := by decide +kernel
theorem dX0_valueOf_82 : decode cX0_valueOf 82 = .ok (.aload_n 0, 1) := by decide +kernel
theorem dX0_valueOf_83 : decode cX0_valueOf 83 = .ok (.getfield 39, 3) := by decide +kernel
theorem dX0_valueOf_86 : decode cX0_valueOf 86 = .ok (.getfield 61, 3) := by decide +kernel
theorem dX0_valueOf_89 : decode cX0_valueOf 89 = .ok (.ifCond .eq 7, 3) := by decide +kernel
theorem dX0_valueOf_92 : decode cX0_valueOf 92 = .ok (.iconst 1, 1) := by decide +kernel
theorem dX0_valueOf_93 : decode cX0_valueOf 93 = .ok (.goto 4, 3) := by decide +kernel
theorem dX0_valueOf_96 : decode cX0_valueOf 96 = .ok (.iconst 0, 1) := by decide +kernel
theorem dX0_valueOf_97 : decode cX0_valueOf 97 = .ok (.ireturn, 1) := by decide +kernel
theorem dX0_valueOf_98 : decode cX0_valueOf 98 = .ok (.aload_n 0, 1) := by decide +kernel
theorem dX0_valueOf_99 : decode cX0_valueOf 99 = .ok (.getfield 39, 3) := by decide +kernel
theorem dX0_valueOf_102 : decode cX0_valueOf 102 = .ok (.getfield 65, 3) := by decide +kernel
theorem dX0_valueOf_105 : decode cX0_valueOf 105 = .ok (.ireturn, 1) := by decide +kernel
theorem dX0_valueOf_106 : decode cX0_valueOf 106 = .ok (.aload_n 0, 1) := by decide +kernel
theorem dX0_valueOf_107 : decode cX0_valueOf 107 = .ok (.getfield 39, 3) := by decide +kernel
theorem dX0_valueOf_110 : decode cX0_valueOf 110 = .ok (.getfield 68, 3) := by decide +kernel
theorem dX0_valueOf_113 : decode cX0_valueOf 113 = .ok (.ireturn, 1) := by decide +kernel
theorem dX0_valueOf_114 : decode cX0_valueOf 114 = .ok (.aload_n 0, 1) := by decide +kernel
theorem dX0_valueOf_115 : decode cX0_valueOf 115 = .ok (.getfield 39, 3) := by decide +kernel
theorem dX0_valueOf_118 : decode cX0_valueOf 118 = .ok (.getfield 71, 3) := by decide +kernel
theorem dX0_valueOf_121 : decode cX0_valueOf 121 = .ok (.ireturn, 1) := by decide +kernel
theorem dX2_fitsType_0 : decode cX2_fitsType 0 = .ok (.iload_n 1, 1) := by decide +kernel
theorem dX2_fitsType_1 : decode cX2_fitsType 1 = .ok (.iload_n 2, 1) := by decide +kernel
theorem dX2_fitsType_2 : decode cX2_fitsType 2 = .ok (.if_icmp .eq 24, 3) := by decide +kernel
theorem dX2_fitsType_5 : decode cX2_fitsType 5 = .ok (.iload_n 1, 1) := by decide +kernel
theorem dX2_fitsType_6 : decode cX2_fitsType 6 = .ok (.ifCond .lt 24, 3) := by decide +kernel
theorem dX2_fitsType_9 : decode cX2_fitsType 9 = .ok (.iload_n 2, 1) := by decide +kernel
theorem dX2_fitsType_10 : decode cX2_fitsType 10 = .ok (.ifCond .lt 20, 3) := by decide +kernel
theorem dX2_fitsType_13 : decode cX2_fitsType 13 = .ok (.aload_n 0, 1) := by decide +kernel
theorem dX2_fitsType_14 : decode cX2_fitsType 14 = .ok (.getfield 37, 3) := by decide +kernel
theorem dX2_fitsType_17 : decode cX2_fitsType 17 = .ok (.iload_n 1, 1) := by decide +kernel
theorem dX2_fitsType_18 : decode cX2_fitsType 18 = .ok (.iaload, 1) := by decide +kernel
theorem dX2_fitsType_19 : decode cX2_fitsType 19 = .ok (.iload_n 2, 1) := by decide +kernel
theorem dX2_fitsType_20 : decode cX2_fitsType 20 = .ok (.ishr, 1) := by decide +kernel
theorem dX2_fitsType_21 : decode cX2_fitsType 21 = .ok (.iconst 1, 1) := by decide +kernel
theorem dX2_fitsType_22 : decode cX2_fitsType 22 = .ok (.iand, 1) := by decide +kernel
theorem dX2_fitsType_23 : decode cX2_fitsType 23 = .ok (.ifCond .eq 7, 3) := by decide +kernel
theorem dX2_fitsType_26 : decode cX2_fitsType 26 = .ok (.iconst 1, 1) := by decide +kernel
theorem dX2_fitsType_27 : decode cX2_fitsType 27 = .ok (.goto 4, 3) := by decide +kernel
theorem dX2_fitsType_30 : decode cX2_fitsType 30 = .ok (.iconst 0, 1) := by decide +kernel
theorem dX2_fitsType_31 : decode cX2_fitsType 31 = .ok (.ireturn, 1) := by decide +kernel
theorem dX1_isBest_0 : decode cX1_isBest 0 = .ok (.aload_n 0, 1) := by decide +kernel
theorem dX1_isBest_1 : decode cX1_isBest 1 = .ok (.getfield 30, 3) := by decide +kernel
theorem dX1_isBest_4 : decode cX1_isBest 4 = .ok (.getfield 86, 3) := by decide +kernel
theorem dX1_isBest_7 : decode cX1_isBest 7 = .ok (.astore_n 2, 1) := by decide +kernel
theorem dX1_isBest_8 : decode cX1_isBest 8 = .ok (.iconst 0, 1) := by decide +kernel
theorem dX1_isBest_9 : decode cX1_isBest 9 = .ok (.istore_n 3, 1) := by decide +kernel
theorem dX1_isBest_10 : decode cX1_isBest 10 = .ok (.iload_n 3, 1) := by decide +kernel
theorem dX1_isBest_11 : decode cX1_isBest 11 = .ok (.aload_n 0, 1) := by decide +kernel
theorem dX1_isBest_12 : decode cX1_isBest 12 = .ok (.getfield 22, 3) := by decide +kernel
theorem dX1_isBest_15 : decode cX1_isBest 15 = .ok (.if_icmp .ge 65, 3) := by decide +kernel
theorem dX1_isBest_18 : decode cX1_isBest 18 = .ok (.aload_n 0, 1) := by decide +kernel
theorem dX1_isBest_19 : decode cX1_isBest 19 = .ok (.getfield 18, 3) := by decide +kernel
theorem dX1_isBest_22 : decode cX1_isBest 22 = .ok (.iload_n 3, 1) := by decide +kernel
theorem dX1_isBest_23 : decode cX1_isBest 23 = .ok (.iaload, 1) := by decide +kernel
theorem dX1_isBest_24 : decode cX1_isBest 24 = .ok (.istore 4, 2) := by decide +kernel
theorem dX1_isBest_26 : decode cX1_isBest 26 = .ok (.aload_n 0, 1) := by decide +kernel
theorem dX1_isBest_27 : decode cX1_isBest 27 = .ok (.getfield 30, 3) := by decide +kernel
theorem dX1_isBest_30 : decode cX1_isBest 30 = .ok (.aload_n 2, 1) := by decide +kernel
theorem dX1_isBest_31 : decode cX1_isBest 31 = .ok (.getfield 119, 3) := by decide +kernel
theorem dX1_isBest_34 : decode cX1_isBest 34 = .ok (.iload_n 1, 1) := by decide +kernel
theorem dX1_isBest_35 : decode cX1_isBest 35 = .ok (.iaload, 1) := by decide +kernel
theorem dX1_isBest_36 : decode cX1_isBest 36 = .ok (.aload_n 2, 1) := by decide +kernel
theorem dX1_isBest_37 : decode cX1_isBest 37 = .ok (.getfield 119, 3) := by decide +kernel
theorem dX1_isBest_40 : decode cX1_isBest 40 = .ok (.iload 4, 2) := by decide +kernel
theorem dX1_isBest_42 : decode cX1_isBest 42 = .ok (.iaload, 1) := by decide +kernel
theorem dX1_isBest_43 : decode cX1_isBest 43 = .ok (.invokevirtual 155, 3) := by decide +kernel
theorem dX1_isBest_46 : decode cX1_isBest 46 = .ok (.ifCond .eq 26, 3) := by decide +kernel
theorem dX1_isBest_49 : decode cX1_isBest 49 = .ok (.aload_n 0, 1) := by decide +kernel
theorem dX1_isBest_50 : decode cX1_isBest 50 = .ok (.getfield 30, 3) := by decide +kernel
theorem dX1_isBest_53 : decode cX1_isBest 53 = .ok (.aload_n 2, 1) := by decide +kernel
theorem dX1_isBest_54 : decode cX1_isBest 54 = .ok (.getfield 124, 3) := by decide +kernel
theorem dX1_isBest_57 : decode cX1_isBest 57 = .ok (.iload_n 1, 1) := by decide +kernel
theorem dX1_isBest_58 : decode cX1_isBest 58 = .ok (.iaload, 1) := by decide +kernel
theorem dX1_isBest_59 : decode cX1_isBest 59 = .ok (.aload_n 2, 1) := by decide +kernel
theorem dX1_isBest_60 : decode cX1_isBest 60 = .ok (.getfield 124, 3) := by decide +kernel
theorem dX1_isBest_63 : decode cX1_isBest 63 = .ok (.iload 4, 2) := by decide +kernel
theorem dX1_isBest_65 : decode cX1_isBest 65 = .ok (.iaload, 1) := by decide +kernel
theorem dX1_isBest_66 : decode cX1_isBest 66 = .ok (.invokevirtual 155, 3) := by decide +kernel
theorem dX1_isBest_69 : decode cX1_isBest 69 = .ok (.ifCond .ne 5, 3) := by decide +kernel
theorem dX1_isBest_72 : decode cX1_isBest 72 = .ok (.iconst 0, 1) := by decide +kernel
theorem dX1_isBest_73 : decode cX1_isBest 73 = .ok (.ireturn, 1) := by decide +kernel
theorem dX1_isBest_74 : decode cX1_isBest 74 = .ok (.iinc 3 1, 3) := by decide +kernel
theorem dX1_isBest_77 : decode cX1_isBest 77 = .ok (.goto (-67), 3) := by decide +kernel
theorem dX1_isBest_80 : decode cX1_isBest 80 = .ok (.iconst 1, 1) := by decide +kernel
theorem dX1_isBest_81 : decode cX1_isBest 81 = .ok (.ireturn, 1) := by decide +kernel
theorem dX4_isAbstract_0 : decode cX4_isAbstract 0 = .ok (.aload_n 0, 1) := by decide +kernel
theorem dX4_isAbstract_1 : decode cX4_isAbstract 1 = .ok (.getfield 19, 3) := by decide +kernel
theorem dX4_isAbstract_4 : decode cX4_isAbstract 4 = .ok (.iload_n 1, 1) := by decide +kernel
theorem dX4_isAbstract_5 : decode cX4_isAbstract 5 = .ok (.iaload, 1) := by decide +kernel
theorem dX4_isAbstract_6 : decode cX4_isAbstract 6 = .ok (.iconst 4, 1) := by decide +kernel
theorem dX4_isAbstract_7 : decode cX4_isAbstract 7 = .ok (.iand, 1) := by decide +kernel
theorem dX4_isAbstract_8 : decode cX4_isAbstract 8 = .ok (.ifCond .eq 7, 3) := by decide +kernel
theorem dX4_isAbstract_11 : decode cX4_isAbstract 11 = .ok (.iconst 1, 1) := by decide +kernel
theorem dX4_isAbstract_12 : decode cX4_isAbstract 12 = .ok (.goto 4, 3) := by decide +kernel
theorem dX4_isAbstract_15 : decode cX4_isAbstract 15 = .ok (.iconst 0, 1) := by decide +kernel
theorem dX4_isAbstract_16 : decode cX4_isAbstract 16 = .ok (.ireturn, 1) := by decide +kernel
theorem dX1_bestApplicable_0 : decode cX1_bestApplicable 0 = .ok (.bipush (-2), 2) := by decide +kernel
theorem dX1_bestApplicable_2 : decode cX1_bestApplicable 2 = .ok (.istore_n 1, 1) := by decide +kernel
theorem dX1_bestApplicable_3 : decode cX1_bestApplicable 3 = .ok (.bipush (-2), 2) := by decide +kernel
theorem dX1_bestApplicable_5 : decode cX1_bestApplicable 5 = .ok (.istore_n 2, 1) := by decide +kernel
theorem dX1_bestApplicable_6 : decode cX1_bestApplicable 6 = .ok (.iconst 0, 1) := by decide +kernel
theorem dX1_bestApplicable_7 : decode cX1_bestApplicable 7 = .ok (.istore_n 3, 1) := by decide +kernel
theorem dX1_bestApplicable_8 : decode cX1_bestApplicable 8 = .ok (.iconst 0, 1) := by decide +kernel
theorem dX1_bestApplicable_9 : decode cX1_bestApplicable 9 = .ok (.istore 4, 2) := by decide +kernel
theorem dX1_bestApplicable_11 : decode cX1_bestApplicable 11 = .ok (.iload 4, 2) := by decide +kernel
theorem dX1_bestApplicable_13 : decode cX1_bestApplicable 13 = .ok (.aload_n 0, 1) := by decide +kernel
theorem dX1_bestApplicable_14 : decode cX1_bestApplicable 14 = .ok (.getfield 22, 3) := by decide +kernel
theorem dX1_bestApplicable_17 : decode cX1_bestApplicable 17 = .ok (.if_icmp .ge 57, 3) := by decide +kernel
theorem dX1_bestApplicable_20 : decode cX1_bestApplicable 20 = .ok (.aload_n 0, 1) := by decide +kernel
theorem dX1_bestApplicable_21 : decode cX1_bestApplicable 21 = .ok (.getfield 18, 3) := by decide +kernel
theorem dX1_bestApplicable_24 : decode cX1_bestApplicable 24 = .ok (.iload 4, 2) := by decide +kernel
theorem dX1_bestApplicable_26 : decode cX1_bestApplicable 26 = .ok (.iaload, 1) := by decide +kernel
theorem dX1_bestApplicable_27 : decode cX1_bestApplicable 27 = .ok (.istore 5, 2) := by decide +kernel
theorem dX1_bestApplicable_29 : decode cX1_bestApplicable 29 = .ok (.aload_n 0, 1) := by decide +kernel
theorem dX1_bestApplicable_30 : decode cX1_bestApplicable 30 = .ok (.iload 5, 2) := by decide +kernel
theorem dX1_bestApplicable_32 : decode cX1_bestApplicable 32 = .ok (.invokevirtual 171, 3) := by decide +kernel
theorem dX1_bestApplicable_35 : decode cX1_bestApplicable 35 = .ok (.ifCond .eq 33, 3) := by decide +kernel
theorem dX1_bestApplicable_38 : decode cX1_bestApplicable 38 = .ok (.iload_n 1, 1) := by decide +kernel
theorem dX1_bestApplicable_39 : decode cX1_bestApplicable 39 = .ok (.bipush (-2), 2) := by decide +kernel
theorem dX1_bestApplicable_41 : decode cX1_bestApplicable 41 = .ok (.if_icmp .ne 6, 3) := by decide +kernel
theorem dX1_bestApplicable_44 : decode cX1_bestApplicable 44 = .ok (.iload 5, 2) := by decide +kernel
theorem dX1_bestApplicable_46 : decode cX1_bestApplicable 46 = .ok (.istore_n 1, 1) := by decide +kernel
theorem dX1_bestApplicable_47 : decode cX1_bestApplicable 47 = .ok (.aload_n 0, 1) := by decide +kernel
theorem dX1_bestApplicable_48 : decode cX1_bestApplicable 48 = .ok (.getfield 30, 3) := by decide +kernel
theorem dX1_bestApplicable_51 : decode cX1_bestApplicable 51 = .ok (.getfield 86, 3) := by decide +kernel
theorem dX1_bestApplicable_54 : decode cX1_bestApplicable 54 = .ok (.iload 5, 2) := by decide +kernel
theorem dX1_bestApplicable_56 : decode cX1_bestApplicable 56 = .ok (.invokevirtual 174, 3) := by decide +kernel
theorem dX1_bestApplicable_59 : decode cX1_bestApplicable 59 = .ok (.ifCond .ne 9, 3) := by decide +kernel
theorem dX1_bestApplicable_62 : decode cX1_bestApplicable 62 = .ok (.iload 5, 2) := by decide +kernel
theorem dX1_bestApplicable_64 : decode cX1_bestApplicable 64 = .ok (.istore_n 2, 1) := by decide +kernel
theorem dX1_bestApplicable_65 : decode cX1_bestApplicable 65 = .ok (.iinc 3 1, 3) := by decide +kernel
theorem dX1_bestApplicable_68 : decode cX1_bestApplicable 68 = .ok (.iinc 4 1, 3) := by decide +kernel
theorem dX1_bestApplicable_71 : decode cX1_bestApplicable 71 = .ok (.goto (-60), 3) := by decide +kernel
theorem dX1_bestApplicable_74 : decode cX1_bestApplicable 74 = .ok (.iload_n 3, 1) := by decide +kernel
theorem dX1_bestApplicable_75 : decode cX1_bestApplicable 75 = .ok (.iconst 1, 1) := by decide +kernel
theorem dX1_bestApplicable_76 : decode cX1_bestApplicable 76 = .ok (.if_icmp .ne 7, 3) := by decide +kernel
theorem dX1_bestApplicable_79 : decode cX1_bestApplicable 79 = .ok (.iload_n 2, 1) := by decide +kernel
theorem dX1_bestApplicable_80 : decode cX1_bestApplicable 80 = .ok (.goto 4, 3) := by decide +kernel
theorem dX1_bestApplicable_83 : decode cX1_bestApplicable 83 = .ok (.iload_n 1, 1) := by decide +kernel
theorem dX1_bestApplicable_84 : decode cX1_bestApplicable 84 = .ok (.ireturn, 1) := by decide +kernel
theorem dX2_isMemberOpen_0 : decode cX2_isMemberOpen 0 = .ok (.aload_n 0, 1) := by decide +kernel
theorem dX2_isMemberOpen_1 : decode cX2_isMemberOpen 1 = .ok (.getfield 46, 3) := by decide +kernel
theorem dX2_isMemberOpen_4 : decode cX2_isMemberOpen 4 = .ok (.getfield 104, 3) := by decide +kernel
theorem dX2_isMemberOpen_7 : decode cX2_isMemberOpen 7 = .ok (.iload_n 1, 1) := by decide +kernel
theorem dX2_isMemberOpen_8 : decode cX2_isMemberOpen 8 = .ok (.iaload, 1) := by decide +kernel
theorem dX2_isMemberOpen_9 : decode cX2_isMemberOpen 9 = .ok (.istore_n 3, 1) := by decide +kernel
theorem dX2_isMemberOpen_10 : decode cX2_isMemberOpen 10 = .ok (.aload_n 0, 1) := by decide +kernel
theorem dX2_isMemberOpen_11 : decode cX2_isMemberOpen 11 = .ok (.getfield 46, 3) := by decide +kernel
theorem dX2_isMemberOpen_14 : decode cX2_isMemberOpen 14 = .ok (.getfield 117, 3) := by decide +kernel
theorem dX2_isMemberOpen_17 : decode cX2_isMemberOpen 17 = .ok (.iload_n 1, 1) := by decide +kernel
theorem dX2_isMemberOpen_18 : decode cX2_isMemberOpen 18 = .ok (.iaload, 1) := by decide +kernel
theorem dX2_isMemberOpen_19 : decode cX2_isMemberOpen 19 = .ok (.istore 4, 2) := by decide +kernel
theorem dX2_isMemberOpen_21 : decode cX2_isMemberOpen 21 = .ok (.iload_n 3, 1) := by decide +kernel
theorem dX2_isMemberOpen_22 : decode cX2_isMemberOpen 22 = .ok (.iconst 3, 1) := by decide +kernel
theorem dX2_isMemberOpen_23 : decode cX2_isMemberOpen 23 = .ok (.if_icmp .ne 5, 3) := by decide +kernel
theorem dX2_isMemberOpen_26 : decode cX2_isMemberOpen 26 = .ok (.iconst 1, 1) := by decide +kernel
theorem dX2_isMemberOpen_27 : decode cX2_isMemberOpen 27 = .ok (.ireturn, 1) := by decide +kernel
theorem dX2_isMemberOpen_28 : decode cX2_isMemberOpen 28 = .ok (.iload_n 3, 1) := by decide +kernel
theorem dX2_isMemberOpen_29 : decode cX2_isMemberOpen 29 = .ok (.ifCond .eq 19, 3) := by decide +kernel
theorem dX2_isMemberOpen_32 : decode cX2_isMemberOpen 32 = .ok (.aload_n 0, 1) := by decide +kernel
theorem dX2_isMemberOpen_33 : decode cX2_isMemberOpen 33 = .ok (.getfield 27, 3) := by decide +kernel
theorem dX2_isMemberOpen_36 : decode cX2_isMemberOpen 36 = .ok (.iload 4, 2) := by decide +kernel
theorem dX2_isMemberOpen_38 : decode cX2_isMemberOpen 38 = .ok (.iaload, 1) := by decide +kernel
theorem dX2_isMemberOpen_39 : decode cX2_isMemberOpen 39 = .ok (.aload_n 2, 1) := by decide +kernel
theorem dX2_isMemberOpen_40 : decode cX2_isMemberOpen 40 = .ok (.getfield 120, 3) := by decide +kernel
theorem dX2_isMemberOpen_43 : decode cX2_isMemberOpen 43 = .ok (.if_icmp .ne 5, 3) := by decide +kernel
theorem dX2_isMemberOpen_46 : decode cX2_isMemberOpen 46 = .ok (.iconst 1, 1) := by decide +kernel
theorem dX2_isMemberOpen_47 : decode cX2_isMemberOpen 47 = .ok (.ireturn, 1) := by decide +kernel
theorem dX2_isMemberOpen_48 : decode cX2_isMemberOpen 48 = .ok (.iload_n 3, 1) := by decide +kernel
theorem dX2_isMemberOpen_49 : decode cX2_isMemberOpen 49 = .ok (.iconst 2, 1) := by decide +kernel
theorem dX2_isMemberOpen_50 : decode cX2_isMemberOpen 50 = .ok (.if_icmp .ne 24, 3) := by decide +kernel
theorem dX2_isMemberOpen_53 : decode cX2_isMemberOpen 53 = .ok (.aload_n 0, 1) := by decide +kernel
theorem dX2_isMemberOpen_54 : decode cX2_isMemberOpen 54 = .ok (.getfield 37, 3) := by decide +kernel
theorem dX2_isMemberOpen_57 : decode cX2_isMemberOpen 57 = .ok (.aload_n 2, 1) := by decide +kernel
theorem dX2_isMemberOpen_58 : decode cX2_isMemberOpen 58 = .ok (.getfield 124, 3) := by decide +kernel
theorem dX2_isMemberOpen_61 : decode cX2_isMemberOpen 61 = .ok (.iaload, 1) := by decide +kernel
theorem dX2_isMemberOpen_62 : decode cX2_isMemberOpen 62 = .ok (.iload 4, 2) := by decide +kernel
theorem dX2_isMemberOpen_64 : decode cX2_isMemberOpen 64 = .ok (.ishr, 1) := by decide +kernel
theorem dX2_isMemberOpen_65 : decode cX2_isMemberOpen 65 = .ok (.iconst 1, 1) := by decide +kernel
theorem dX2_isMemberOpen_66 : decode cX2_isMemberOpen 66 = .ok (.iand, 1) := by decide +kernel
theorem dX2_isMemberOpen_67 : decode cX2_isMemberOpen 67 = .ok (.ifCond .eq 7, 3) := by decide +kernel
theorem dX2_isMemberOpen_70 : decode cX2_isMemberOpen 70 = .ok (.iconst 1, 1) := by decide +kernel
theorem dX2_isMemberOpen_71 : decode cX2_isMemberOpen 71 = .ok (.goto 4, 3) := by decide +kernel
theorem dX2_isMemberOpen_74 : decode cX2_isMemberOpen 74 = .ok (.iconst 0, 1) := by decide +kernel
theorem dX2_isMemberOpen_75 : decode cX2_isMemberOpen 75 = .ok (.ireturn, 1) := by decide +kernel
theorem dX2_isInterface_0 : decode cX2_isInterface 0 = .ok (.aload_n 0, 1) := by decide +kernel
theorem dX2_isInterface_1 : decode cX2_isInterface 1 = .ok (.getfield 15, 3) := by decide +kernel
theorem dX2_isInterface_4 : decode cX2_isInterface 4 = .ok (.iload_n 1, 1) := by decide +kernel
theorem dX2_isInterface_5 : decode cX2_isInterface 5 = .ok (.ishr, 1) := by decide +kernel
theorem dX2_isInterface_6 : decode cX2_isInterface 6 = .ok (.iconst 1, 1) := by decide +kernel
theorem dX2_isInterface_7 : decode cX2_isInterface 7 = .ok (.iand, 1) := by decide +kernel
theorem dX2_isInterface_8 : decode cX2_isInterface 8 = .ok (.ifCond .eq 7, 3) := by decide +kernel
theorem dX2_isInterface_11 : decode cX2_isInterface 11 = .ok (.iconst 1, 1) := by decide +kernel
theorem dX2_isInterface_12 : decode cX2_isInterface 12 = .ok (.goto 4, 3) := by decide +kernel
theorem dX2_isInterface_15 : decode cX2_isInterface 15 = .ok (.iconst 0, 1) := by decide +kernel
theorem dX2_isInterface_16 : decode cX2_isInterface 16 = .ok (.ireturn, 1) := by decide +kernel
theorem dX1_isHidden_0 : decode cX1_isHidden 0 = .ok (.aload_n 0, 1) := by decide +kernel
theorem dX1_isHidden_1 : decode cX1_isHidden 1 = .ok (.getfield 30, 3) := by decide +kernel
theorem dX1_isHidden_4 : decode cX1_isHidden 4 = .ok (.getfield 86, 3) := by decide +kernel
theorem dX1_isHidden_7 : decode cX1_isHidden 7 = .ok (.astore_n 3, 1) := by decide +kernel
theorem dX1_isHidden_8 : decode cX1_isHidden 8 = .ok (.aload_n 3, 1) := by decide +kernel
theorem dX1_isHidden_9 : decode cX1_isHidden 9 = .ok (.getfield 151, 3) := by decide +kernel
theorem dX1_isHidden_12 : decode cX1_isHidden 12 = .ok (.iload_n 1, 1) := by decide +kernel
theorem dX1_isHidden_13 : decode cX1_isHidden 13 = .ok (.iaload, 1) := by decide +kernel
theorem dX1_isHidden_14 : decode cX1_isHidden 14 = .ok (.istore 4, 2) := by decide +kernel
theorem dX1_isHidden_16 : decode cX1_isHidden 16 = .ok (.iconst 0, 1) := by decide +kernel
theorem dX1_isHidden_17 : decode cX1_isHidden 17 = .ok (.istore 5, 2) := by decide +kernel
theorem dX1_isHidden_19 : decode cX1_isHidden 19 = .ok (.iload 5, 2) := by decide +kernel
theorem dX1_isHidden_21 : decode cX1_isHidden 21 = .ok (.aload_n 3, 1) := by decide +kernel
theorem dX1_isHidden_22 : decode cX1_isHidden 22 = .ok (.getfield 138, 3) := by decide +kernel
theorem dX1_isHidden_25 : decode cX1_isHidden 25 = .ok (.if_icmp .ge 80, 3) := by decide +kernel
theorem dX1_isHidden_28 : decode cX1_isHidden 28 = .ok (.aload_n 3, 1) := by decide +kernel
theorem dX1_isHidden_29 : decode cX1_isHidden 29 = .ok (.getfield 151, 3) := by decide +kernel
theorem dX1_isHidden_32 : decode cX1_isHidden 32 = .ok (.iload 5, 2) := by decide +kernel
theorem dX1_isHidden_34 : decode cX1_isHidden 34 = .ok (.iaload, 1) := by decide +kernel
theorem dX1_isHidden_35 : decode cX1_isHidden 35 = .ok (.istore 6, 2) := by decide +kernel
theorem dX1_isHidden_37 : decode cX1_isHidden 37 = .ok (.aload_n 3, 1) := by decide +kernel
theorem dX1_isHidden_38 : decode cX1_isHidden 38 = .ok (.getfield 168, 3) := by decide +kernel
theorem dX1_isHidden_41 : decode cX1_isHidden 41 = .ok (.iload 5, 2) := by decide +kernel
theorem dX1_isHidden_43 : decode cX1_isHidden 43 = .ok (.iaload, 1) := by decide +kernel
theorem dX1_isHidden_44 : decode cX1_isHidden 44 = .ok (.aload_n 3, 1) := by decide +kernel
theorem dX1_isHidden_45 : decode cX1_isHidden 45 = .ok (.getfield 168, 3) := by decide +kernel
theorem dX1_isHidden_48 : decode cX1_isHidden 48 = .ok (.iload_n 1, 1) := by decide +kernel
theorem dX1_isHidden_49 : decode cX1_isHidden 49 = .ok (.iaload, 1) := by decide +kernel
theorem dX1_isHidden_50 : decode cX1_isHidden 50 = .ok (.if_icmp .ne 49, 3) := by decide +kernel
theorem dX1_isHidden_53 : decode cX1_isHidden 53 = .ok (.iload 6, 2) := by decide +kernel
theorem dX1_isHidden_55 : decode cX1_isHidden 55 = .ok (.iload 4, 2) := by decide +kernel
theorem dX1_isHidden_57 : decode cX1_isHidden 57 = .ok (.if_icmp .eq 42, 3) := by decide +kernel
theorem dX1_isHidden_60 : decode cX1_isHidden 60 = .ok (.iload_n 2, 1) := by decide +kernel
theorem dX1_isHidden_61 : decode cX1_isHidden 61 = .ok (.iload 6, 2) := by decide +kernel
theorem dX1_isHidden_63 : decode cX1_isHidden 63 = .ok (.ishr, 1) := by decide +kernel
theorem dX1_isHidden_64 : decode cX1_isHidden 64 = .ok (.iconst 1, 1) := by decide +kernel
theorem dX1_isHidden_65 : decode cX1_isHidden 65 = .ok (.iand, 1) := by decide +kernel
theorem dX1_isHidden_66 : decode cX1_isHidden 66 = .ok (.ifCond .eq 33, 3) := by decide +kernel
theorem dX1_isHidden_69 : decode cX1_isHidden 69 = .ok (.aload_n 0, 1) := by decide +kernel
theorem dX1_isHidden_70 : decode cX1_isHidden 70 = .ok (.getfield 30, 3) := by decide +kernel
theorem dX1_isHidden_73 : decode cX1_isHidden 73 = .ok (.getfield 135, 3) := by decide +kernel
theorem dX1_isHidden_76 : decode cX1_isHidden 76 = .ok (.iload 6, 2) := by decide +kernel
theorem dX1_isHidden_78 : decode cX1_isHidden 78 = .ok (.iaload, 1) := by decide +kernel
theorem dX1_isHidden_79 : decode cX1_isHidden 79 = .ok (.iload 4, 2) := by decide +kernel
theorem dX1_isHidden_81 : decode cX1_isHidden 81 = .ok (.ishr, 1) := by decide +kernel
theorem dX1_isHidden_82 : decode cX1_isHidden 82 = .ok (.iconst 1, 1) := by decide +kernel
theorem dX1_isHidden_83 : decode cX1_isHidden 83 = .ok (.iand, 1) := by decide +kernel
theorem dX1_isHidden_84 : decode cX1_isHidden 84 = .ok (.ifCond .eq 15, 3) := by decide +kernel
theorem dX1_isHidden_87 : decode cX1_isHidden 87 = .ok (.aload_n 3, 1) := by decide +kernel
theorem dX1_isHidden_88 : decode cX1_isHidden 88 = .ok (.getfield 162, 3) := by decide +kernel
theorem dX1_isHidden_91 : decode cX1_isHidden 91 = .ok (.iload 5, 2) := by decide +kernel
theorem dX1_isHidden_93 : decode cX1_isHidden 93 = .ok (.iaload, 1) := by decide +kernel
theorem dX1_isHidden_94 : decode cX1_isHidden 94 = .ok (.ifCond .eq 5, 3) := by decide +kernel
theorem dX1_isHidden_97 : decode cX1_isHidden 97 = .ok (.iconst 1, 1) := by decide +kernel
theorem dX1_isHidden_98 : decode cX1_isHidden 98 = .ok (.ireturn, 1) := by decide +kernel
theorem dX1_isHidden_99 : decode cX1_isHidden 99 = .ok (.iinc 5 1, 3) := by decide +kernel
theorem dX1_isHidden_102 : decode cX1_isHidden 102 = .ok (.goto (-83), 3) := by decide +kernel
theorem dX1_isHidden_105 : decode cX1_isHidden 105 = .ok (.iconst 0, 1) := by decide +kernel
theorem dX1_isHidden_106 : decode cX1_isHidden 106 = .ok (.ireturn, 1) := by decide +kernel
theorem dX1_isCandidate_0 : decode cX1_isCandidate 0 = .ok (.aload_n 0, 1) := by decide +kernel
theorem dX1_isCandidate_1 : decode cX1_isCandidate 1 = .ok (.getfield 30, 3) := by decide +kernel
theorem dX1_isCandidate_4 : decode cX1_isCandidate 4 = .ok (.getfield 86, 3) := by decide +kernel
theorem dX1_isCandidate_7 : decode cX1_isCandidate 7 = .ok (.astore_n 3, 1) := by decide +kernel
theorem dX1_isCandidate_8 : decode cX1_isCandidate 8 = .ok (.aload_n 3, 1) := by decide +kernel
theorem dX1_isCandidate_9 : decode cX1_isCandidate 9 = .ok (.getfield 151, 3) := by decide +kernel
theorem dX1_isCandidate_12 : decode cX1_isCandidate 12 = .ok (.iload_n 1, 1) := by decide +kernel
theorem dX1_isCandidate_13 : decode cX1_isCandidate 13 = .ok (.iaload, 1) := by decide +kernel
theorem dX1_isCandidate_14 : decode cX1_isCandidate 14 = .ok (.istore 4, 2) := by decide +kernel
theorem dX1_isCandidate_16 : decode cX1_isCandidate 16 = .ok (.aload_n 3, 1) := by decide +kernel
theorem dX1_isCandidate_17 : decode cX1_isCandidate 17 = .ok (.getfield 162, 3) := by decide +kernel
theorem dX1_isCandidate_20 : decode cX1_isCandidate 20 = .ok (.iload_n 1, 1) := by decide +kernel
theorem dX1_isCandidate_21 : decode cX1_isCandidate 21 = .ok (.iaload, 1) := by decide +kernel
theorem dX1_isCandidate_22 : decode cX1_isCandidate 22 = .ok (.ifCond .eq 15, 3) := by decide +kernel
theorem dX1_isCandidate_25 : decode cX1_isCandidate 25 = .ok (.aload_n 0, 1) := by decide +kernel
theorem dX1_isCandidate_26 : decode cX1_isCandidate 26 = .ok (.getfield 30, 3) := by decide +kernel
theorem dX1_isCandidate_29 : decode cX1_isCandidate 29 = .ok (.iload_n 1, 1) := by decide +kernel
theorem dX1_isCandidate_30 : decode cX1_isCandidate 30 = .ok (.aload_n 2, 1) := by decide +kernel
theorem dX1_isCandidate_31 : decode cX1_isCandidate 31 = .ok (.invokevirtual 82, 3) := by decide +kernel
theorem dX1_isCandidate_34 : decode cX1_isCandidate 34 = .ok (.ifCond .ne 5, 3) := by decide +kernel
theorem dX1_isCandidate_37 : decode cX1_isCandidate 37 = .ok (.iconst 0, 1) := by decide +kernel
theorem dX1_isCandidate_38 : decode cX1_isCandidate 38 = .ok (.ireturn, 1) := by decide +kernel
theorem dX1_isCandidate_39 : decode cX1_isCandidate 39 = .ok (.aload_n 3, 1) := by decide +kernel
theorem dX1_isCandidate_40 : decode cX1_isCandidate 40 = .ok (.getfield 90, 3) := by decide +kernel
theorem dX1_isCandidate_43 : decode cX1_isCandidate 43 = .ok (.iload_n 1, 1) := by decide +kernel
theorem dX1_isCandidate_44 : decode cX1_isCandidate 44 = .ok (.iaload, 1) := by decide +kernel
theorem dX1_isCandidate_45 : decode cX1_isCandidate 45 = .ok (.iconst 1, 1) := by decide +kernel
theorem dX1_isCandidate_46 : decode cX1_isCandidate 46 = .ok (.iand, 1) := by decide +kernel
theorem dX1_isCandidate_47 : decode cX1_isCandidate 47 = .ok (.ifCond .eq 26, 3) := by decide +kernel
theorem dX1_isCandidate_50 : decode cX1_isCandidate 50 = .ok (.aload_n 0, 1) := by decide +kernel
theorem dX1_isCandidate_51 : decode cX1_isCandidate 51 = .ok (.getfield 30, 3) := by decide +kernel
theorem dX1_isCandidate_54 : decode cX1_isCandidate 54 = .ok (.iload 4, 2) := by decide +kernel
theorem dX1_isCandidate_56 : decode cX1_isCandidate 56 = .ok (.invokevirtual 129, 3) := by decide +kernel
theorem dX1_isCandidate_59 : decode cX1_isCandidate 59 = .ok (.ifCond .eq 14, 3) := by decide +kernel
theorem dX1_isCandidate_62 : decode cX1_isCandidate 62 = .ok (.iload 4, 2) := by decide +kernel
theorem dX1_isCandidate_64 : decode cX1_isCandidate 64 = .ok (.aload_n 2, 1) := by decide +kernel
theorem dX1_isCandidate_65 : decode cX1_isCandidate 65 = .ok (.getfield 37, 3) := by decide +kernel
theorem dX1_isCandidate_68 : decode cX1_isCandidate 68 = .ok (.if_icmp .eq 5, 3) := by decide +kernel
theorem dX1_isCandidate_71 : decode cX1_isCandidate 71 = .ok (.iconst 0, 1) := by decide +kernel
theorem dX1_isCandidate_72 : decode cX1_isCandidate 72 = .ok (.ireturn, 1) := by decide +kernel
theorem dX1_isCandidate_73 : decode cX1_isCandidate 73 = .ok (.aload_n 0, 1) := by decide +kernel
theorem dX1_isCandidate_74 : decode cX1_isCandidate 74 = .ok (.iload_n 1, 1) := by decide +kernel
theorem dX1_isCandidate_75 : decode cX1_isCandidate 75 = .ok (.aload_n 0, 1) := by decide +kernel
theorem dX1_isCandidate_76 : decode cX1_isCandidate 76 = .ok (.getfield 30, 3) := by decide +kernel
theorem dX1_isCandidate_79 : decode cX1_isCandidate 79 = .ok (.getfield 135, 3) := by decide +kernel
theorem dX1_isCandidate_82 : decode cX1_isCandidate 82 = .ok (.aload_n 2, 1) := by decide +kernel
theorem dX1_isCandidate_83 : decode cX1_isCandidate 83 = .ok (.getfield 37, 3) := by decide +kernel
theorem dX1_isCandidate_86 : decode cX1_isCandidate 86 = .ok (.iaload, 1) := by decide +kernel
theorem dX1_isCandidate_87 : decode cX1_isCandidate 87 = .ok (.invokevirtual 165, 3) := by decide +kernel
theorem dX1_isCandidate_90 : decode cX1_isCandidate 90 = .ok (.ifCond .ne 7, 3) := by decide +kernel
theorem dX1_isCandidate_93 : decode cX1_isCandidate 93 = .ok (.iconst 1, 1) := by decide +kernel
theorem dX1_isCandidate_94 : decode cX1_isCandidate 94 = .ok (.goto 4, 3) := by decide +kernel
theorem dX1_isCandidate_97 : decode cX1_isCandidate 97 = .ok (.iconst 0, 1) := by decide +kernel
theorem dX1_isCandidate_98 : decode cX1_isCandidate 98 = .ok (.ireturn, 1) := by decide +kernel
theorem dX1_gatherApplicable_0 : decode cX1_gatherApplicable 0 = .ok (.aload_n 0, 1) := by decide +kernel
theorem dX1_gatherApplicable_1 : decode cX1_gatherApplicable 1 = .ok (.getfield 30, 3) := by decide +kernel
theorem dX1_gatherApplicable_4 : decode cX1_gatherApplicable 4 = .ok (.getfield 86, 3) := by decide +kernel
theorem dX1_gatherApplicable_7 : decode cX1_gatherApplicable 7 = .ok (.astore_n 2, 1) := by decide +kernel
theorem dX1_gatherApplicable_8 : decode cX1_gatherApplicable 8 = .ok (.aload_n 0, 1) := by decide +kernel
theorem dX1_gatherApplicable_9 : decode cX1_gatherApplicable 9 = .ok (.getfield 30, 3) := by decide +kernel
theorem dX1_gatherApplicable_12 : decode cX1_gatherApplicable 12 = .ok (.getfield 135, 3) := by decide +kernel
theorem dX1_gatherApplicable_15 : decode cX1_gatherApplicable 15 = .ok (.aload_n 1, 1) := by decide +kernel
theorem dX1_gatherApplicable_16 : decode cX1_gatherApplicable 16 = .ok (.getfield 37, 3) := by decide +kernel
theorem dX1_gatherApplicable_19 : decode cX1_gatherApplicable 19 = .ok (.iaload, 1) := by decide +kernel
theorem dX1_gatherApplicable_20 : decode cX1_gatherApplicable 20 = .ok (.istore_n 3, 1) := by decide +kernel
theorem dX1_gatherApplicable_21 : decode cX1_gatherApplicable 21 = .ok (.aload_n 0, 1) := by decide +kernel
theorem dX1_gatherApplicable_22 : decode cX1_gatherApplicable 22 = .ok (.iconst 0, 1) := by decide +kernel
theorem dX1_gatherApplicable_23 : decode cX1_gatherApplicable 23 = .ok (.putfield 22, 3) := by decide +kernel
theorem dX1_gatherApplicable_26 : decode cX1_gatherApplicable 26 = .ok (.iconst 0, 1) := by decide +kernel
theorem dX1_gatherApplicable_27 : decode cX1_gatherApplicable 27 = .ok (.istore 4, 2) := by decide +kernel
theorem dX1_gatherApplicable_29 : decode cX1_gatherApplicable 29 = .ok (.iload 4, 2) := by decide +kernel
theorem dX1_gatherApplicable_31 : decode cX1_gatherApplicable 31 = .ok (.aload_n 2, 1) := by decide +kernel
theorem dX1_gatherApplicable_32 : decode cX1_gatherApplicable 32 = .ok (.getfield 138, 3) := by decide +kernel
theorem dX1_gatherApplicable_35 : decode cX1_gatherApplicable 35 = .ok (.if_icmp .ge 140, 3) := by decide +kernel
theorem dX1_gatherApplicable_38 : decode cX1_gatherApplicable 38 = .ok (.aload_n 2, 1) := by decide +kernel
theorem dX1_gatherApplicable_39 : decode cX1_gatherApplicable 39 = .ok (.getfield 141, 3) := by decide +kernel
theorem dX1_gatherApplicable_42 : decode cX1_gatherApplicable 42 = .ok (.iload 4, 2) := by decide +kernel
theorem dX1_gatherApplicable_44 : decode cX1_gatherApplicable 44 = .ok (.iaload, 1) := by decide +kernel
theorem dX1_gatherApplicable_45 : decode cX1_gatherApplicable 45 = .ok (.iconst 1, 1) := by decide +kernel
theorem dX1_gatherApplicable_46 : decode cX1_gatherApplicable 46 = .ok (.if_icmp .ne 123, 3) := by decide +kernel
theorem dX1_gatherApplicable_49 : decode cX1_gatherApplicable 49 = .ok (.aload_n 2, 1) := by decide +kernel
theorem dX1_gatherApplicable_50 : decode cX1_gatherApplicable 50 = .ok (.getfield 144, 3) := by decide +kernel
theorem dX1_gatherApplicable_53 : decode cX1_gatherApplicable 53 = .ok (.iload 4, 2) := by decide +kernel
theorem dX1_gatherApplicable_55 : decode cX1_gatherApplicable 55 = .ok (.iaload, 1) := by decide +kernel
theorem dX1_gatherApplicable_56 : decode cX1_gatherApplicable 56 = .ok (.aload_n 1, 1) := by decide +kernel
theorem dX1_gatherApplicable_57 : decode cX1_gatherApplicable 57 = .ok (.getfield 75, 3) := by decide +kernel
theorem dX1_gatherApplicable_60 : decode cX1_gatherApplicable 60 = .ok (.if_icmp .ne 109, 3) := by decide +kernel
theorem dX1_gatherApplicable_63 : decode cX1_gatherApplicable 63 = .ok (.aload_n 2, 1) := by decide +kernel
theorem dX1_gatherApplicable_64 : decode cX1_gatherApplicable 64 = .ok (.getfield 146, 3) := by decide +kernel
theorem dX1_gatherApplicable_67 : decode cX1_gatherApplicable 67 = .ok (.iload 4, 2) := by decide +kernel
theorem dX1_gatherApplicable_69 : decode cX1_gatherApplicable 69 = .ok (.iaload, 1) := by decide +kernel
theorem dX1_gatherApplicable_70 : decode cX1_gatherApplicable 70 = .ok (.aload_n 1, 1) := by decide +kernel
theorem dX1_gatherApplicable_71 : decode cX1_gatherApplicable 71 = .ok (.getfield 149, 3) := by decide +kernel
theorem dX1_gatherApplicable_74 : decode cX1_gatherApplicable 74 = .ok (.if_icmp .ne 95, 3) := by decide +kernel
theorem dX1_gatherApplicable_77 : decode cX1_gatherApplicable 77 = .ok (.iload_n 3, 1) := by decide +kernel
theorem dX1_gatherApplicable_78 : decode cX1_gatherApplicable 78 = .ok (.aload_n 2, 1) := by decide +kernel
theorem dX1_gatherApplicable_79 : decode cX1_gatherApplicable 79 = .ok (.getfield 151, 3) := by decide +kernel
theorem dX1_gatherApplicable_82 : decode cX1_gatherApplicable 82 = .ok (.iload 4, 2) := by decide +kernel
theorem dX1_gatherApplicable_84 : decode cX1_gatherApplicable 84 = .ok (.iaload, 1) := by decide +kernel
theorem dX1_gatherApplicable_85 : decode cX1_gatherApplicable 85 = .ok (.ishr, 1) := by decide +kernel
theorem dX1_gatherApplicable_86 : decode cX1_gatherApplicable 86 = .ok (.iconst 1, 1) := by decide +kernel
theorem dX1_gatherApplicable_87 : decode cX1_gatherApplicable 87 = .ok (.iand, 1) := by decide +kernel
theorem dX1_gatherApplicable_88 : decode cX1_gatherApplicable 88 = .ok (.ifCond .eq 81, 3) := by decide +kernel
theorem dX1_gatherApplicable_91 : decode cX1_gatherApplicable 91 = .ok (.aload_n 0, 1) := by decide +kernel
theorem dX1_gatherApplicable_92 : decode cX1_gatherApplicable 92 = .ok (.iconst 1, 1) := by decide +kernel
theorem dX1_gatherApplicable_93 : decode cX1_gatherApplicable 93 = .ok (.putfield 26, 3) := by decide +kernel
theorem dX1_gatherApplicable_96 : decode cX1_gatherApplicable 96 = .ok (.aload_n 0, 1) := by decide +kernel
theorem dX1_gatherApplicable_97 : decode cX1_gatherApplicable 97 = .ok (.getfield 30, 3) := by decide +kernel
theorem dX1_gatherApplicable_100 : decode cX1_gatherApplicable 100 = .ok (.aload_n 1, 1) := by decide +kernel
theorem dX1_gatherApplicable_101 : decode cX1_gatherApplicable 101 = .ok (.getfield 154, 3) := by decide +kernel
theorem dX1_gatherApplicable_104 : decode cX1_gatherApplicable 104 = .ok (.aload_n 2, 1) := by decide +kernel
theorem dX1_gatherApplicable_105 : decode cX1_gatherApplicable 105 = .ok (.getfield 119, 3) := by decide +kernel
theorem dX1_gatherApplicable_108 : decode cX1_gatherApplicable 108 = .ok (.iload 4, 2) := by decide +kernel
theorem dX1_gatherApplicable_110 : decode cX1_gatherApplicable 110 = .ok (.iaload, 1) := by decide +kernel
theorem dX1_gatherApplicable_111 : decode cX1_gatherApplicable 111 = .ok (.invokevirtual 155, 3) := by decide +kernel
theorem dX1_gatherApplicable_114 : decode cX1_gatherApplicable 114 = .ok (.ifCond .eq 55, 3) := by decide +kernel
theorem dX1_gatherApplicable_117 : decode cX1_gatherApplicable 117 = .ok (.aload_n 0, 1) := by decide +kernel
theorem dX1_gatherApplicable_118 : decode cX1_gatherApplicable 118 = .ok (.getfield 30, 3) := by decide +kernel
theorem dX1_gatherApplicable_121 : decode cX1_gatherApplicable 121 = .ok (.aload_n 1, 1) := by decide +kernel
theorem dX1_gatherApplicable_122 : decode cX1_gatherApplicable 122 = .ok (.getfield 158, 3) := by decide +kernel
theorem dX1_gatherApplicable_125 : decode cX1_gatherApplicable 125 = .ok (.aload_n 2, 1) := by decide +kernel
theorem dX1_gatherApplicable_126 : decode cX1_gatherApplicable 126 = .ok (.getfield 124, 3) := by decide +kernel
theorem dX1_gatherApplicable_129 : decode cX1_gatherApplicable 129 = .ok (.iload 4, 2) := by decide +kernel
theorem dX1_gatherApplicable_131 : decode cX1_gatherApplicable 131 = .ok (.iaload, 1) := by decide +kernel
theorem dX1_gatherApplicable_132 : decode cX1_gatherApplicable 132 = .ok (.invokevirtual 155, 3) := by decide +kernel
theorem dX1_gatherApplicable_135 : decode cX1_gatherApplicable 135 = .ok (.ifCond .eq 34, 3) := by decide +kernel
theorem dX1_gatherApplicable_138 : decode cX1_gatherApplicable 138 = .ok (.aload_n 0, 1) := by decide +kernel
theorem dX1_gatherApplicable_139 : decode cX1_gatherApplicable 139 = .ok (.iload 4, 2) := by decide +kernel
theorem dX1_gatherApplicable_141 : decode cX1_gatherApplicable 141 = .ok (.aload_n 1, 1) := by decide +kernel
theorem dX1_gatherApplicable_142 : decode cX1_gatherApplicable 142 = .ok (.invokevirtual 159, 3) := by decide +kernel
theorem dX1_gatherApplicable_145 : decode cX1_gatherApplicable 145 = .ok (.ifCond .eq 24, 3) := by decide +kernel
theorem dX1_gatherApplicable_148 : decode cX1_gatherApplicable 148 = .ok (.aload_n 0, 1) := by decide +kernel
theorem dX1_gatherApplicable_149 : decode cX1_gatherApplicable 149 = .ok (.getfield 18, 3) := by decide +kernel
theorem dX1_gatherApplicable_152 : decode cX1_gatherApplicable 152 = .ok (.aload_n 0, 1) := by decide +kernel
theorem dX1_gatherApplicable_153 : decode cX1_gatherApplicable 153 = .ok (.getfield 22, 3) := by decide +kernel
theorem dX1_gatherApplicable_156 : decode cX1_gatherApplicable 156 = .ok (.iload 4, 2) := by decide +kernel
theorem dX1_gatherApplicable_158 : decode cX1_gatherApplicable 158 = .ok (.iastore, 1) := by decide +kernel
theorem dX1_gatherApplicable_159 : decode cX1_gatherApplicable 159 = .ok (.aload_n 0, 1) := by decide +kernel
theorem dX1_gatherApplicable_160 : decode cX1_gatherApplicable 160 = .ok (.dup, 1) := by decide +kernel
theorem dX1_gatherApplicable_161 : decode cX1_gatherApplicable 161 = .ok (.getfield 22, 3) := by decide +kernel
theorem dX1_gatherApplicable_164 : decode cX1_gatherApplicable 164 = .ok (.iconst 1, 1) := by decide +kernel
theorem dX1_gatherApplicable_165 : decode cX1_gatherApplicable 165 = .ok (.iadd, 1) := by decide +kernel
theorem dX1_gatherApplicable_166 : decode cX1_gatherApplicable 166 = .ok (.putfield 22, 3) := by decide +kernel
theorem dX1_gatherApplicable_169 : decode cX1_gatherApplicable 169 = .ok (.iinc 4 1, 3) := by decide +kernel
theorem dX1_gatherApplicable_172 : decode cX1_gatherApplicable 172 = .ok (.goto (-143), 3) := by decide +kernel
theorem dX1_gatherApplicable_175 : decode cX1_gatherApplicable 175 = .ok (.return_, 1) := by decide +kernel
theorem dX1_callError_0 : decode cX1_callError 0 = .ok (.aload_n 0, 1) := by decide +kernel
theorem dX1_callError_1 : decode cX1_callError 1 = .ok (.aload_n 1, 1) := by decide +kernel
theorem dX1_callError_2 : decode cX1_callError 2 = .ok (.invokevirtual 111, 3) := by decide +kernel
theorem dX1_callError_5 : decode cX1_callError 5 = .ok (.aload_n 0, 1) := by decide +kernel
theorem dX1_callError_6 : decode cX1_callError 6 = .ok (.getfield 22, 3) := by decide +kernel
theorem dX1_callError_9 : decode cX1_callError 9 = .ok (.ifCond .ne 5, 3) := by decide +kernel
theorem dX1_callError_12 : decode cX1_callError 12 = .ok (.iconst 3, 1) := by decide +kernel
theorem dX1_callError_13 : decode cX1_callError 13 = .ok (.ireturn, 1) := by decide +kernel
theorem dX1_callError_14 : decode cX1_callError 14 = .ok (.aload_n 0, 1) := by decide +kernel
theorem dX1_callError_15 : decode cX1_callError 15 = .ok (.invokevirtual 115, 3) := by decide +kernel
theorem dX1_callError_18 : decode cX1_callError 18 = .ok (.istore_n 2, 1) := by decide +kernel
theorem dX1_callError_19 : decode cX1_callError 19 = .ok (.iload_n 2, 1) := by decide +kernel
theorem dX1_callError_20 : decode cX1_callError 20 = .ok (.bipush (-2), 2) := by decide +kernel
theorem dX1_callError_22 : decode cX1_callError 22 = .ok (.if_icmp .ne 5, 3) := by decide +kernel
theorem dX1_callError_25 : decode cX1_callError 25 = .ok (.iconst 4, 1) := by decide +kernel
theorem dX1_callError_26 : decode cX1_callError 26 = .ok (.ireturn, 1) := by decide +kernel
theorem dX1_callError_27 : decode cX1_callError 27 = .ok (.aload_n 0, 1) := by decide +kernel
theorem dX1_callError_28 : decode cX1_callError 28 = .ok (.getfield 12, 3) := by decide +kernel
theorem dX1_callError_31 : decode cX1_callError 31 = .ok (.aload_n 0, 1) := by decide +kernel
theorem dX1_callError_32 : decode cX1_callError 32 = .ok (.getfield 30, 3) := by decide +kernel
theorem dX1_callError_35 : decode cX1_callError 35 = .ok (.getfield 86, 3) := by decide +kernel
theorem dX1_callError_38 : decode cX1_callError 38 = .ok (.getfield 103, 3) := by decide +kernel
theorem dX1_callError_41 : decode cX1_callError 41 = .ok (.iload_n 2, 1) := by decide +kernel
theorem dX1_callError_42 : decode cX1_callError 42 = .ok (.iaload, 1) := by decide +kernel
theorem dX1_callError_43 : decode cX1_callError 43 = .ok (.putfield 106, 3) := by decide +kernel
theorem dX1_callError_46 : decode cX1_callError 46 = .ok (.aload_n 0, 1) := by decide +kernel
theorem dX1_callError_47 : decode cX1_callError 47 = .ok (.getfield 12, 3) := by decide +kernel
theorem dX1_callError_50 : decode cX1_callError 50 = .ok (.aload_n 0, 1) := by decide +kernel
theorem dX1_callError_51 : decode cX1_callError 51 = .ok (.getfield 30, 3) := by decide +kernel
theorem dX1_callError_54 : decode cX1_callError 54 = .ok (.getfield 86, 3) := by decide +kernel
theorem dX1_callError_57 : decode cX1_callError 57 = .ok (.getfield 119, 3) := by decide +kernel
theorem dX1_callError_60 : decode cX1_callError 60 = .ok (.iload_n 2, 1) := by decide +kernel
theorem dX1_callError_61 : decode cX1_callError 61 = .ok (.iaload, 1) := by decide +kernel
theorem dX1_callError_62 : decode cX1_callError 62 = .ok (.putfield 122, 3) := by decide +kernel
theorem dX1_callError_65 : decode cX1_callError 65 = .ok (.aload_n 0, 1) := by decide +kernel
theorem dX1_callError_66 : decode cX1_callError 66 = .ok (.getfield 12, 3) := by decide +kernel
theorem dX1_callError_69 : decode cX1_callError 69 = .ok (.aload_n 0, 1) := by decide +kernel
theorem dX1_callError_70 : decode cX1_callError 70 = .ok (.getfield 30, 3) := by decide +kernel
theorem dX1_callError_73 : decode cX1_callError 73 = .ok (.getfield 86, 3) := by decide +kernel
theorem dX1_callError_76 : decode cX1_callError 76 = .ok (.getfield 124, 3) := by decide +kernel
theorem dX1_callError_79 : decode cX1_callError 79 = .ok (.iload_n 2, 1) := by decide +kernel
theorem dX1_callError_80 : decode cX1_callError 80 = .ok (.iaload, 1) := by decide +kernel
theorem dX1_callError_81 : decode cX1_callError 81 = .ok (.putfield 127, 3) := by decide +kernel
theorem dX1_callError_84 : decode cX1_callError 84 = .ok (.aload_n 0, 1) := by decide +kernel
theorem dX1_callError_85 : decode cX1_callError 85 = .ok (.getfield 12, 3) := by decide +kernel
theorem dX1_callError_88 : decode cX1_callError 88 = .ok (.aload_n 0, 1) := by decide +kernel
theorem dX1_callError_89 : decode cX1_callError 89 = .ok (.getfield 30, 3) := by decide +kernel
theorem dX1_callError_92 : decode cX1_callError 92 = .ok (.getfield 86, 3) := by decide +kernel
theorem dX1_callError_95 : decode cX1_callError 95 = .ok (.getfield 90, 3) := by decide +kernel
theorem dX1_callError_98 : decode cX1_callError 98 = .ok (.iload_n 2, 1) := by decide +kernel
theorem dX1_callError_99 : decode cX1_callError 99 = .ok (.iaload, 1) := by decide +kernel
theorem dX1_callError_100 : decode cX1_callError 100 = .ok (.iconst 1, 1) := by decide +kernel
theorem dX1_callError_101 : decode cX1_callError 101 = .ok (.iand, 1) := by decide +kernel
theorem dX1_callError_102 : decode cX1_callError 102 = .ok (.putfield 108, 3) := by decide +kernel
theorem dX1_callError_105 : decode cX1_callError 105 = .ok (.aload_n 0, 1) := by decide +kernel
theorem dX1_callError_106 : decode cX1_callError 106 = .ok (.getfield 12, 3) := by decide +kernel
theorem dX1_callError_109 : decode cX1_callError 109 = .ok (.aload_n 0, 1) := by decide +kernel
theorem dX1_callError_110 : decode cX1_callError 110 = .ok (.getfield 30, 3) := by decide +kernel
theorem dX1_callError_113 : decode cX1_callError 113 = .ok (.aload_n 1, 1) := by decide +kernel
theorem dX1_callError_114 : decode cX1_callError 114 = .ok (.getfield 37, 3) := by decide +kernel
theorem dX1_callError_117 : decode cX1_callError 117 = .ok (.invokevirtual 129, 3) := by decide +kernel
theorem dX1_callError_120 : decode cX1_callError 120 = .ok (.ifCond .eq 7, 3) := by decide +kernel
theorem dX1_callError_123 : decode cX1_callError 123 = .ok (.iconst 1, 1) := by decide +kernel
theorem dX1_callError_124 : decode cX1_callError 124 = .ok (.goto 4, 3) := by decide +kernel
theorem dX1_callError_127 : decode cX1_callError 127 = .ok (.iconst 0, 1) := by decide +kernel
theorem dX1_callError_128 : decode cX1_callError 128 = .ok (.putfield 132, 3) := by decide +kernel
theorem dX1_callError_131 : decode cX1_callError 131 = .ok (.iconst 0, 1) := by decide +kernel
theorem dX1_callError_132 : decode cX1_callError 132 = .ok (.ireturn, 1) := by decide +kernel
theorem dX2_isThere_0 : decode cX2_isThere 0 = .ok (.iload_n 1, 1) := by decide +kernel
theorem dX2_isThere_1 : decode cX2_isThere 1 = .ok (.ifCond .lt 24, 3) := by decide +kernel
theorem dX2_isThere_4 : decode cX2_isThere 4 = .ok (.iload_n 1, 1) := by decide +kernel
theorem dX2_isThere_5 : decode cX2_isThere 5 = .ok (.bipush 10, 2) := by decide +kernel
theorem dX2_isThere_7 : decode cX2_isThere 7 = .ok (.if_icmp .ge 18, 3) := by decide +kernel
theorem dX2_isThere_10 : decode cX2_isThere 10 = .ok (.aload_n 0, 1) := by decide +kernel
theorem dX2_isThere_11 : decode cX2_isThere 11 = .ok (.getfield 9, 3) := by decide +kernel
theorem dX2_isThere_14 : decode cX2_isThere 14 = .ok (.iload_n 1, 1) := by decide +kernel
theorem dX2_isThere_15 : decode cX2_isThere 15 = .ok (.ishr, 1) := by decide +kernel
theorem dX2_isThere_16 : decode cX2_isThere 16 = .ok (.iconst 1, 1) := by decide +kernel
theorem dX2_isThere_17 : decode cX2_isThere 17 = .ok (.iand, 1) := by decide +kernel
theorem dX2_isThere_18 : decode cX2_isThere 18 = .ok (.ifCond .eq 7, 3) := by decide +kernel
theorem dX2_isThere_21 : decode cX2_isThere 21 = .ok (.iconst 1, 1) := by decide +kernel
theorem dX2_isThere_22 : decode cX2_isThere 22 = .ok (.goto 4, 3) := by decide +kernel
theorem dX2_isThere_25 : decode cX2_isThere 25 = .ok (.iconst 0, 1) := by decide +kernel
theorem dX2_isThere_26 : decode cX2_isThere 26 = .ok (.ireturn, 1) := by decide +kernel
theorem dX2_isFinal_0 : decode cX2_isFinal 0 = .ok (.aload_n 0, 1) := by decide +kernel
theorem dX2_isFinal_1 : decode cX2_isFinal 1 = .ok (.getfield 21, 3) := by decide +kernel
theorem dX2_isFinal_4 : decode cX2_isFinal 4 = .ok (.iload_n 1, 1) := by decide +kernel
theorem dX2_isFinal_5 : decode cX2_isFinal 5 = .ok (.ishr, 1) := by decide +kernel
theorem dX2_isFinal_6 : decode cX2_isFinal 6 = .ok (.iconst 1, 1) := by decide +kernel
theorem dX2_isFinal_7 : decode cX2_isFinal 7 = .ok (.iand, 1) := by decide +kernel
theorem dX2_isFinal_8 : decode cX2_isFinal 8 = .ok (.ifCond .eq 7, 3) := by decide +kernel
theorem dX2_isFinal_11 : decode cX2_isFinal 11 = .ok (.iconst 1, 1) := by decide +kernel
theorem dX2_isFinal_12 : decode cX2_isFinal 12 = .ok (.goto 4, 3) := by decide +kernel
theorem dX2_isFinal_15 : decode cX2_isFinal 15 = .ok (.iconst 0, 1) := by decide +kernel
theorem dX2_isFinal_16 : decode cX2_isFinal 16 = .ok (.ireturn, 1) := by decide +kernel
theorem dX2_isClassOpen_0 : decode cX2_isClassOpen 0 = .ok (.aload_n 0, 1) := by decide +kernel
theorem dX2_isClassOpen_1 : decode cX2_isClassOpen 1 = .ok (.getfield 18, 3) := by decide +kernel
theorem dX2_isClassOpen_4 : decode cX2_isClassOpen 4 = .ok (.iload_n 1, 1) := by decide +kernel
theorem dX2_isClassOpen_5 : decode cX2_isClassOpen 5 = .ok (.ishr, 1) := by decide +kernel
theorem dX2_isClassOpen_6 : decode cX2_isClassOpen 6 = .ok (.iconst 1, 1) := by decide +kernel
theorem dX2_isClassOpen_7 : decode cX2_isClassOpen 7 = .ok (.iand, 1) := by decide +kernel
theorem dX2_isClassOpen_8 : decode cX2_isClassOpen 8 = .ok (.ifCond .ne 13, 3) := by decide +kernel
theorem dX2_isClassOpen_11 : decode cX2_isClassOpen 11 = .ok (.aload_n 0, 1) := by decide +kernel
theorem dX2_isClassOpen_12 : decode cX2_isClassOpen 12 = .ok (.getfield 27, 3) := by decide +kernel
theorem dX2_isClassOpen_15 : decode cX2_isClassOpen 15 = .ok (.iload_n 1, 1) := by decide +kernel
theorem dX2_isClassOpen_16 : decode cX2_isClassOpen 16 = .ok (.iaload, 1) := by decide +kernel
theorem dX2_isClassOpen_17 : decode cX2_isClassOpen 17 = .ok (.iload_n 2, 1) := by decide +kernel
theorem dX2_isClassOpen_18 : decode cX2_isClassOpen 18 = .ok (.if_icmp .ne 7, 3) := by decide +kernel
theorem dX2_isClassOpen_21 : decode cX2_isClassOpen 21 = .ok (.iconst 1, 1) := by decide +kernel
theorem dX2_isClassOpen_22 : decode cX2_isClassOpen 22 = .ok (.goto 4, 3) := by decide +kernel
theorem dX2_isClassOpen_25 : decode cX2_isClassOpen 25 = .ok (.iconst 0, 1) := by decide +kernel
theorem dX2_isClassOpen_26 : decode cX2_isClassOpen 26 = .ok (.ireturn, 1) := by decide +kernel
theorem dX1_canBeBase_0 : decode cX1_canBeBase 0 = .ok (.aload_n 0, 1) := by decide +kernel
theorem dX1_canBeBase_1 : decode cX1_canBeBase 1 = .ok (.getfield 30, 3) := by decide +kernel
theorem dX1_canBeBase_4 : decode cX1_canBeBase 4 = .ok (.iload_n 1, 1) := by decide +kernel
theorem dX1_canBeBase_5 : decode cX1_canBeBase 5 = .ok (.invokevirtual 42, 3) := by decide +kernel
theorem dX1_canBeBase_8 : decode cX1_canBeBase 8 = .ok (.ifCond .eq 41, 3) := by decide +kernel
theorem dX1_canBeBase_11 : decode cX1_canBeBase 11 = .ok (.aload_n 0, 1) := by decide +kernel
theorem dX1_canBeBase_12 : decode cX1_canBeBase 12 = .ok (.getfield 30, 3) := by decide +kernel
theorem dX1_canBeBase_15 : decode cX1_canBeBase 15 = .ok (.iload_n 1, 1) := by decide +kernel
theorem dX1_canBeBase_16 : decode cX1_canBeBase 16 = .ok (.invokevirtual 129, 3) := by decide +kernel
theorem dX1_canBeBase_19 : decode cX1_canBeBase 19 = .ok (.ifCond .ne 30, 3) := by decide +kernel
theorem dX1_canBeBase_22 : decode cX1_canBeBase 22 = .ok (.aload_n 0, 1) := by decide +kernel
theorem dX1_canBeBase_23 : decode cX1_canBeBase 23 = .ok (.getfield 30, 3) := by decide +kernel
theorem dX1_canBeBase_26 : decode cX1_canBeBase 26 = .ok (.iload_n 1, 1) := by decide +kernel
theorem dX1_canBeBase_27 : decode cX1_canBeBase 27 = .ok (.invokevirtual 175, 3) := by decide +kernel
theorem dX1_canBeBase_30 : decode cX1_canBeBase 30 = .ok (.ifCond .ne 19, 3) := by decide +kernel
theorem dX1_canBeBase_33 : decode cX1_canBeBase 33 = .ok (.aload_n 0, 1) := by decide +kernel
theorem dX1_canBeBase_34 : decode cX1_canBeBase 34 = .ok (.getfield 30, 3) := by decide +kernel
theorem dX1_canBeBase_37 : decode cX1_canBeBase 37 = .ok (.iload_n 1, 1) := by decide +kernel
theorem dX1_canBeBase_38 : decode cX1_canBeBase 38 = .ok (.iload_n 2, 1) := by decide +kernel
theorem dX1_canBeBase_39 : decode cX1_canBeBase 39 = .ok (.invokevirtual 51, 3) := by decide +kernel
theorem dX1_canBeBase_42 : decode cX1_canBeBase 42 = .ok (.ifCond .eq 7, 3) := by decide +kernel
theorem dX1_canBeBase_45 : decode cX1_canBeBase 45 = .ok (.iconst 1, 1) := by decide +kernel
theorem dX1_canBeBase_46 : decode cX1_canBeBase 46 = .ok (.goto 4, 3) := by decide +kernel
theorem dX1_canBeBase_49 : decode cX1_canBeBase 49 = .ok (.iconst 0, 1) := by decide +kernel
theorem dX1_canBeBase_50 : decode cX1_canBeBase 50 = .ok (.ireturn, 1) := by decide +kernel
theorem dX2_inheritedField_0 : decode cX2_inheritedField 0 = .ok (.iconst 0, 1) := by decide +kernel
theorem dX2_inheritedField_1 : decode cX2_inheritedField 1 = .ok (.istore_n 2, 1) := by decide +kernel
theorem dX2_inheritedField_2 : decode cX2_inheritedField 2 = .ok (.iload_n 2, 1) := by decide +kernel
theorem dX2_inheritedField_3 : decode cX2_inheritedField 3 = .ok (.iload_n 1, 1) := by decide +kernel
theorem dX2_inheritedField_4 : decode cX2_inheritedField 4 = .ok (.if_icmp .ge 40, 3) := by decide +kernel
theorem dX2_inheritedField_7 : decode cX2_inheritedField 7 = .ok (.aload_n 0, 1) := by decide +kernel
theorem dX2_inheritedField_8 : decode cX2_inheritedField 8 = .ok (.getfield 34, 3) := by decide +kernel
theorem dX2_inheritedField_11 : decode cX2_inheritedField 11 = .ok (.iload_n 1, 1) := by decide +kernel
theorem dX2_inheritedField_12 : decode cX2_inheritedField 12 = .ok (.iaload, 1) := by decide +kernel
theorem dX2_inheritedField_13 : decode cX2_inheritedField 13 = .ok (.iload_n 2, 1) := by decide +kernel
theorem dX2_inheritedField_14 : decode cX2_inheritedField 14 = .ok (.ishr, 1) := by decide +kernel
theorem dX2_inheritedField_15 : decode cX2_inheritedField 15 = .ok (.iconst 1, 1) := by decide +kernel
theorem dX2_inheritedField_16 : decode cX2_inheritedField 16 = .ok (.iand, 1) := by decide +kernel
theorem dX2_inheritedField_17 : decode cX2_inheritedField 17 = .ok (.ifCond .eq 21, 3) := by decide +kernel
theorem dX2_inheritedField_20 : decode cX2_inheritedField 20 = .ok (.aload_n 0, 1) := by decide +kernel
theorem dX2_inheritedField_21 : decode cX2_inheritedField 21 = .ok (.getfield 50, 3) := by decide +kernel
theorem dX2_inheritedField_24 : decode cX2_inheritedField 24 = .ok (.iload_n 2, 1) := by decide +kernel
theorem dX2_inheritedField_25 : decode cX2_inheritedField 25 = .ok (.iaload, 1) := by decide +kernel
theorem dX2_inheritedField_26 : decode cX2_inheritedField 26 = .ok (.bipush (-2), 2) := by decide +kernel
theorem dX2_inheritedField_28 : decode cX2_inheritedField 28 = .ok (.if_icmp .eq 10, 3) := by decide +kernel
theorem dX2_inheritedField_31 : decode cX2_inheritedField 31 = .ok (.aload_n 0, 1) := by decide +kernel
theorem dX2_inheritedField_32 : decode cX2_inheritedField 32 = .ok (.getfield 50, 3) := by decide +kernel
theorem dX2_inheritedField_35 : decode cX2_inheritedField 35 = .ok (.iload_n 2, 1) := by decide +kernel
theorem dX2_inheritedField_36 : decode cX2_inheritedField 36 = .ok (.iaload, 1) := by decide +kernel
theorem dX2_inheritedField_37 : decode cX2_inheritedField 37 = .ok (.ireturn, 1) := by decide +kernel
theorem dX2_inheritedField_38 : decode cX2_inheritedField 38 = .ok (.iinc 2 1, 3) := by decide +kernel
theorem dX2_inheritedField_41 : decode cX2_inheritedField 41 = .ok (.goto (-39), 3) := by decide +kernel
theorem dX2_inheritedField_44 : decode cX2_inheritedField 44 = .ok (.aload_n 0, 1) := by decide +kernel
theorem dX2_inheritedField_45 : decode cX2_inheritedField 45 = .ok (.getfield 31, 3) := by decide +kernel
theorem dX2_inheritedField_48 : decode cX2_inheritedField 48 = .ok (.iload_n 1, 1) := by decide +kernel
theorem dX2_inheritedField_49 : decode cX2_inheritedField 49 = .ok (.iaload, 1) := by decide +kernel
theorem dX2_inheritedField_50 : decode cX2_inheritedField 50 = .ok (.istore_n 2, 1) := by decide +kernel
theorem dX2_inheritedField_51 : decode cX2_inheritedField 51 = .ok (.iload_n 2, 1) := by decide +kernel
theorem dX2_inheritedField_52 : decode cX2_inheritedField 52 = .ok (.ifCond .lt 17, 3) := by decide +kernel
theorem dX2_inheritedField_55 : decode cX2_inheritedField 55 = .ok (.iload_n 2, 1) := by decide +kernel
theorem dX2_inheritedField_56 : decode cX2_inheritedField 56 = .ok (.iload_n 1, 1) := by decide +kernel
theorem dX2_inheritedField_57 : decode cX2_inheritedField 57 = .ok (.if_icmp .ge 12, 3) := by decide +kernel
theorem dX2_inheritedField_60 : decode cX2_inheritedField 60 = .ok (.aload_n 0, 1) := by decide +kernel
theorem dX2_inheritedField_61 : decode cX2_inheritedField 61 = .ok (.getfield 50, 3) := by decide +kernel
theorem dX2_inheritedField_64 : decode cX2_inheritedField 64 = .ok (.iload_n 2, 1) := by decide +kernel
theorem dX2_inheritedField_65 : decode cX2_inheritedField 65 = .ok (.iaload, 1) := by decide +kernel
theorem dX2_inheritedField_66 : decode cX2_inheritedField 66 = .ok (.goto 5, 3) := by decide +kernel
theorem dX2_inheritedField_69 : decode cX2_inheritedField 69 = .ok (.bipush (-2), 2) := by decide +kernel
theorem dX2_inheritedField_71 : decode cX2_inheritedField 71 = .ok (.ireturn, 1) := by decide +kernel
theorem dX2_fieldFor_0 : decode cX2_fieldFor 0 = .ok (.iconst 0, 1) := by decide +kernel
theorem dX2_fieldFor_1 : decode cX2_fieldFor 1 = .ok (.istore 4, 2) := by decide +kernel
theorem dX2_fieldFor_3 : decode cX2_fieldFor 3 = .ok (.iload 4, 2) := by decide +kernel
theorem dX2_fieldFor_5 : decode cX2_fieldFor 5 = .ok (.bipush 10, 2) := by decide +kernel
theorem dX2_fieldFor_7 : decode cX2_fieldFor 7 = .ok (.if_icmp .ge 18, 3) := by decide +kernel
theorem dX2_fieldFor_10 : decode cX2_fieldFor 10 = .ok (.aload_n 0, 1) := by decide +kernel
theorem dX2_fieldFor_11 : decode cX2_fieldFor 11 = .ok (.getfield 50, 3) := by decide +kernel
theorem dX2_fieldFor_14 : decode cX2_fieldFor 14 = .ok (.iload 4, 2) := by decide +kernel
theorem dX2_fieldFor_16 : decode cX2_fieldFor 16 = .ok (.bipush (-2), 2) := by decide +kernel
theorem dX2_fieldFor_18 : decode cX2_fieldFor 18 = .ok (.iastore, 1) := by decide +kernel
theorem dX2_fieldFor_19 : decode cX2_fieldFor 19 = .ok (.iinc 4 1, 3) := by decide +kernel
theorem dX2_fieldFor_22 : decode cX2_fieldFor 22 = .ok (.goto (-19), 3) := by decide +kernel
theorem dX2_fieldFor_25 : decode cX2_fieldFor 25 = .ok (.iconst 0, 1) := by decide +kernel
theorem dX2_fieldFor_26 : decode cX2_fieldFor 26 = .ok (.istore 4, 2) := by decide +kernel
theorem dX2_fieldFor_28 : decode cX2_fieldFor 28 = .ok (.iload 4, 2) := by decide +kernel
theorem dX2_fieldFor_30 : decode cX2_fieldFor 30 = .ok (.aload_n 0, 1) := by decide +kernel
theorem dX2_fieldFor_31 : decode cX2_fieldFor 31 = .ok (.getfield 46, 3) := by decide +kernel
theorem dX2_fieldFor_34 : decode cX2_fieldFor 34 = .ok (.getfield 53, 3) := by decide +kernel
theorem dX2_fieldFor_37 : decode cX2_fieldFor 37 = .ok (.if_icmp .ge 73, 3) := by decide +kernel
theorem dX2_fieldFor_40 : decode cX2_fieldFor 40 = .ok (.aload_n 0, 1) := by decide +kernel
theorem dX2_fieldFor_41 : decode cX2_fieldFor 41 = .ok (.getfield 46, 3) := by decide +kernel
theorem dX2_fieldFor_44 : decode cX2_fieldFor 44 = .ok (.getfield 101, 3) := by decide +kernel
theorem dX2_fieldFor_47 : decode cX2_fieldFor 47 = .ok (.iload 4, 2) := by decide +kernel
theorem dX2_fieldFor_49 : decode cX2_fieldFor 49 = .ok (.iaload, 1) := by decide +kernel
theorem dX2_fieldFor_50 : decode cX2_fieldFor 50 = .ok (.ifCond .ne 54, 3) := by decide +kernel
theorem dX2_fieldFor_53 : decode cX2_fieldFor 53 = .ok (.aload_n 0, 1) := by decide +kernel
theorem dX2_fieldFor_54 : decode cX2_fieldFor 54 = .ok (.getfield 46, 3) := by decide +kernel
theorem dX2_fieldFor_57 : decode cX2_fieldFor 57 = .ok (.getfield 127, 3) := by decide +kernel
theorem dX2_fieldFor_60 : decode cX2_fieldFor 60 = .ok (.iload 4, 2) := by decide +kernel
theorem dX2_fieldFor_62 : decode cX2_fieldFor 62 = .ok (.iaload, 1) := by decide +kernel
theorem dX2_fieldFor_63 : decode cX2_fieldFor 63 = .ok (.iload_n 2, 1) := by decide +kernel
theorem dX2_fieldFor_64 : decode cX2_fieldFor 64 = .ok (.if_icmp .ne 40, 3) := by decide +kernel
theorem dX2_fieldFor_67 : decode cX2_fieldFor 67 = .ok (.iload_n 3, 1) := by decide +kernel
theorem dX2_fieldFor_68 : decode cX2_fieldFor 68 = .ok (.bipush (-3), 2) := by decide +kernel
theorem dX2_fieldFor_70 : decode cX2_fieldFor 70 = .ok (.if_icmp .eq 17, 3) := by decide +kernel
theorem dX2_fieldFor_73 : decode cX2_fieldFor 73 = .ok (.aload_n 0, 1) := by decide +kernel
theorem dX2_fieldFor_74 : decode cX2_fieldFor 74 = .ok (.getfield 46, 3) := by decide +kernel
theorem dX2_fieldFor_77 : decode cX2_fieldFor 77 = .ok (.getfield 130, 3) := by decide +kernel
theorem dX2_fieldFor_80 : decode cX2_fieldFor 80 = .ok (.iload 4, 2) := by decide +kernel
theorem dX2_fieldFor_82 : decode cX2_fieldFor 82 = .ok (.iaload, 1) := by decide +kernel
theorem dX2_fieldFor_83 : decode cX2_fieldFor 83 = .ok (.iload_n 3, 1) := by decide +kernel
theorem dX2_fieldFor_84 : decode cX2_fieldFor 84 = .ok (.if_icmp .ne 20, 3) := by decide +kernel
theorem dX2_fieldFor_87 : decode cX2_fieldFor 87 = .ok (.aload_n 0, 1) := by decide +kernel
theorem dX2_fieldFor_88 : decode cX2_fieldFor 88 = .ok (.getfield 50, 3) := by decide +kernel
theorem dX2_fieldFor_91 : decode cX2_fieldFor 91 = .ok (.aload_n 0, 1) := by decide +kernel
theorem dX2_fieldFor_92 : decode cX2_fieldFor 92 = .ok (.getfield 46, 3) := by decide +kernel
theorem dX2_fieldFor_95 : decode cX2_fieldFor 95 = .ok (.getfield 117, 3) := by decide +kernel
theorem dX2_fieldFor_98 : decode cX2_fieldFor 98 = .ok (.iload 4, 2) := by decide +kernel
theorem dX2_fieldFor_100 : decode cX2_fieldFor 100 = .ok (.iaload, 1) := by decide +kernel
theorem dX2_fieldFor_101 : decode cX2_fieldFor 101 = .ok (.iload 4, 2) := by decide +kernel
theorem dX2_fieldFor_103 : decode cX2_fieldFor 103 = .ok (.iastore, 1) := by decide +kernel
theorem dX2_fieldFor_104 : decode cX2_fieldFor 104 = .ok (.iinc 4 1, 3) := by decide +kernel
theorem dX2_fieldFor_107 : decode cX2_fieldFor 107 = .ok (.goto (-79), 3) := by decide +kernel
theorem dX2_fieldFor_110 : decode cX2_fieldFor 110 = .ok (.iconst 1, 1) := by decide +kernel
theorem dX2_fieldFor_111 : decode cX2_fieldFor 111 = .ok (.istore 4, 2) := by decide +kernel
theorem dX2_fieldFor_113 : decode cX2_fieldFor 113 = .ok (.iload 4, 2) := by decide +kernel
theorem dX2_fieldFor_115 : decode cX2_fieldFor 115 = .ok (.iload_n 1, 1) := by decide +kernel
theorem dX2_fieldFor_116 : decode cX2_fieldFor 116 = .ok (.if_icmp .gt 43, 3) := by decide +kernel
theorem dX2_fieldFor_119 : decode cX2_fieldFor 119 = .ok (.aload_n 0, 1) := by decide +kernel
theorem dX2_fieldFor_120 : decode cX2_fieldFor 120 = .ok (.getfield 50, 3) := by decide +kernel
theorem dX2_fieldFor_123 : decode cX2_fieldFor 123 = .ok (.iload 4, 2) := by decide +kernel
theorem dX2_fieldFor_125 : decode cX2_fieldFor 125 = .ok (.iaload, 1) := by decide +kernel
theorem dX2_fieldFor_126 : decode cX2_fieldFor 126 = .ok (.bipush (-2), 2) := by decide +kernel
theorem dX2_fieldFor_128 : decode cX2_fieldFor 128 = .ok (.if_icmp .ne 25, 3) := by decide +kernel
theorem dX2_fieldFor_131 : decode cX2_fieldFor 131 = .ok (.aload_n 0, 1) := by decide +kernel
theorem dX2_fieldFor_132 : decode cX2_fieldFor 132 = .ok (.iload 4, 2) := by decide +kernel
theorem dX2_fieldFor_134 : decode cX2_fieldFor 134 = .ok (.invokevirtual 56, 3) := by decide +kernel
theorem dX2_fieldFor_137 : decode cX2_fieldFor 137 = .ok (.ifCond .eq 16, 3) := by decide +kernel
theorem dX2_fieldFor_140 : decode cX2_fieldFor 140 = .ok (.aload_n 0, 1) := by decide +kernel
theorem dX2_fieldFor_141 : decode cX2_fieldFor 141 = .ok (.getfield 50, 3) := by decide +kernel
theorem dX2_fieldFor_144 : decode cX2_fieldFor 144 = .ok (.iload 4, 2) := by decide +kernel
theorem dX2_fieldFor_146 : decode cX2_fieldFor 146 = .ok (.aload_n 0, 1) := by decide +kernel
theorem dX2_fieldFor_147 : decode cX2_fieldFor 147 = .ok (.iload 4, 2) := by decide +kernel
theorem dX2_fieldFor_149 : decode cX2_fieldFor 149 = .ok (.invokevirtual 133, 3) := by decide +kernel
theorem dX2_fieldFor_152 : decode cX2_fieldFor 152 = .ok (.iastore, 1) := by decide +kernel
theorem dX2_fieldFor_153 : decode cX2_fieldFor 153 = .ok (.iinc 4 1, 3) := by decide +kernel
theorem dX2_fieldFor_156 : decode cX2_fieldFor 156 = .ok (.goto (-43), 3) := by decide +kernel
theorem dX2_fieldFor_159 : decode cX2_fieldFor 159 = .ok (.aload_n 0, 1) := by decide +kernel
theorem dX2_fieldFor_160 : decode cX2_fieldFor 160 = .ok (.getfield 50, 3) := by decide +kernel
theorem dX2_fieldFor_163 : decode cX2_fieldFor 163 = .ok (.iload_n 1, 1) := by decide +kernel
theorem dX2_fieldFor_164 : decode cX2_fieldFor 164 = .ok (.iaload, 1) := by decide +kernel
theorem dX2_fieldFor_165 : decode cX2_fieldFor 165 = .ok (.ireturn, 1) := by decide +kernel
theorem dX1_fieldError_0 : decode cX1_fieldError 0 = .ok (.aload_n 0, 1) := by decide +kernel
theorem dX1_fieldError_1 : decode cX1_fieldError 1 = .ok (.getfield 30, 3) := by decide +kernel
theorem dX1_fieldError_4 : decode cX1_fieldError 4 = .ok (.aload_n 1, 1) := by decide +kernel
theorem dX1_fieldError_5 : decode cX1_fieldError 5 = .ok (.getfield 37, 3) := by decide +kernel
theorem dX1_fieldError_8 : decode cX1_fieldError 8 = .ok (.aload_n 1, 1) := by decide +kernel
theorem dX1_fieldError_9 : decode cX1_fieldError 9 = .ok (.getfield 75, 3) := by decide +kernel
theorem dX1_fieldError_12 : decode cX1_fieldError 12 = .ok (.bipush (-3), 2) := by decide +kernel
theorem dX1_fieldError_14 : decode cX1_fieldError 14 = .ok (.invokevirtual 78, 3) := by decide +kernel
theorem dX1_fieldError_17 : decode cX1_fieldError 17 = .ok (.istore_n 2, 1) := by decide +kernel
theorem dX1_fieldError_18 : decode cX1_fieldError 18 = .ok (.iload_n 2, 1) := by decide +kernel
theorem dX1_fieldError_19 : decode cX1_fieldError 19 = .ok (.bipush (-2), 2) := by decide +kernel
theorem dX1_fieldError_21 : decode cX1_fieldError 21 = .ok (.if_icmp .ne 5, 3) := by decide +kernel
theorem dX1_fieldError_24 : decode cX1_fieldError 24 = .ok (.iconst 3, 1) := by decide +kernel
theorem dX1_fieldError_25 : decode cX1_fieldError 25 = .ok (.ireturn, 1) := by decide +kernel
theorem dX1_fieldError_26 : decode cX1_fieldError 26 = .ok (.aload_n 0, 1) := by decide +kernel
theorem dX1_fieldError_27 : decode cX1_fieldError 27 = .ok (.getfield 30, 3) := by decide +kernel
theorem dX1_fieldError_30 : decode cX1_fieldError 30 = .ok (.iload_n 2, 1) := by decide +kernel
theorem dX1_fieldError_31 : decode cX1_fieldError 31 = .ok (.aload_n 1, 1) := by decide +kernel
theorem dX1_fieldError_32 : decode cX1_fieldError 32 = .ok (.invokevirtual 82, 3) := by decide +kernel
theorem dX1_fieldError_35 : decode cX1_fieldError 35 = .ok (.ifCond .ne 5, 3) := by decide +kernel
theorem dX1_fieldError_38 : decode cX1_fieldError 38 = .ok (.iconst 5, 1) := by decide +kernel
theorem dX1_fieldError_39 : decode cX1_fieldError 39 = .ok (.ireturn, 1) := by decide +kernel
theorem dX1_fieldError_40 : decode cX1_fieldError 40 = .ok (.aload_n 1, 1) := by decide +kernel
theorem dX1_fieldError_41 : decode cX1_fieldError 41 = .ok (.getfield 55, 3) := by decide +kernel
theorem dX1_fieldError_44 : decode cX1_fieldError 44 = .ok (.iconst 1, 1) := by decide +kernel
theorem dX1_fieldError_45 : decode cX1_fieldError 45 = .ok (.if_icmp .ne 23, 3) := by decide +kernel
theorem dX1_fieldError_48 : decode cX1_fieldError 48 = .ok (.aload_n 0, 1) := by decide +kernel
theorem dX1_fieldError_49 : decode cX1_fieldError 49 = .ok (.getfield 30, 3) := by decide +kernel
theorem dX1_fieldError_52 : decode cX1_fieldError 52 = .ok (.getfield 86, 3) := by decide +kernel
theorem dX1_fieldError_55 : decode cX1_fieldError 55 = .ok (.getfield 90, 3) := by decide +kernel
theorem dX1_fieldError_58 : decode cX1_fieldError 58 = .ok (.iload_n 2, 1) := by decide +kernel
theorem dX1_fieldError_59 : decode cX1_fieldError 59 = .ok (.iaload, 1) := by decide +kernel
theorem dX1_fieldError_60 : decode cX1_fieldError 60 = .ok (.iconst 2, 1) := by decide +kernel
theorem dX1_fieldError_61 : decode cX1_fieldError 61 = .ok (.iand, 1) := by decide +kernel
theorem dX1_fieldError_62 : decode cX1_fieldError 62 = .ok (.ifCond .eq 6, 3) := by decide +kernel
theorem dX1_fieldError_65 : decode cX1_fieldError 65 = .ok (.bipush 6, 2) := by decide +kernel
theorem dX1_fieldError_67 : decode cX1_fieldError 67 = .ok (.ireturn, 1) := by decide +kernel
theorem dX1_fieldError_68 : decode cX1_fieldError 68 = .ok (.aload_n 1, 1) := by decide +kernel
theorem dX1_fieldError_69 : decode cX1_fieldError 69 = .ok (.getfield 55, 3) := by decide +kernel
theorem dX1_fieldError_72 : decode cX1_fieldError 72 = .ok (.ifCond .ne 49, 3) := by decide +kernel
theorem dX1_fieldError_75 : decode cX1_fieldError 75 = .ok (.aload_n 0, 1) := by decide +kernel
theorem dX1_fieldError_76 : decode cX1_fieldError 76 = .ok (.getfield 30, 3) := by decide +kernel
theorem dX1_fieldError_79 : decode cX1_fieldError 79 = .ok (.getfield 86, 3) := by decide +kernel
theorem dX1_fieldError_82 : decode cX1_fieldError 82 = .ok (.getfield 95, 3) := by decide +kernel
theorem dX1_fieldError_85 : decode cX1_fieldError 85 = .ok (.iload_n 2, 1) := by decide +kernel
theorem dX1_fieldError_86 : decode cX1_fieldError 86 = .ok (.iaload, 1) := by decide +kernel
theorem dX1_fieldError_87 : decode cX1_fieldError 87 = .ok (.bipush (-2), 2) := by decide +kernel
theorem dX1_fieldError_89 : decode cX1_fieldError 89 = .ok (.if_icmp .eq 32, 3) := by decide +kernel
theorem dX1_fieldError_92 : decode cX1_fieldError 92 = .ok (.aload_n 0, 1) := by decide +kernel
theorem dX1_fieldError_93 : decode cX1_fieldError 93 = .ok (.getfield 12, 3) := by decide +kernel
theorem dX1_fieldError_96 : decode cX1_fieldError 96 = .ok (.iconst 1, 1) := by decide +kernel
theorem dX1_fieldError_97 : decode cX1_fieldError 97 = .ok (.putfield 98, 3) := by decide +kernel
theorem dX1_fieldError_100 : decode cX1_fieldError 100 = .ok (.aload_n 0, 1) := by decide +kernel
theorem dX1_fieldError_101 : decode cX1_fieldError 101 = .ok (.getfield 12, 3) := by decide +kernel
theorem dX1_fieldError_104 : decode cX1_fieldError 104 = .ok (.aload_n 0, 1) := by decide +kernel
theorem dX1_fieldError_105 : decode cX1_fieldError 105 = .ok (.getfield 30, 3) := by decide +kernel
theorem dX1_fieldError_108 : decode cX1_fieldError 108 = .ok (.getfield 86, 3) := by decide +kernel
theorem dX1_fieldError_111 : decode cX1_fieldError 111 = .ok (.getfield 95, 3) := by decide +kernel
theorem dX1_fieldError_114 : decode cX1_fieldError 114 = .ok (.iload_n 2, 1) := by decide +kernel
theorem dX1_fieldError_115 : decode cX1_fieldError 115 = .ok (.iaload, 1) := by decide +kernel
theorem dX1_fieldError_116 : decode cX1_fieldError 116 = .ok (.putfield 101, 3) := by decide +kernel
theorem dX1_fieldError_119 : decode cX1_fieldError 119 = .ok (.iconst 0, 1) := by decide +kernel
theorem dX1_fieldError_120 : decode cX1_fieldError 120 = .ok (.ireturn, 1) := by decide +kernel
theorem dX1_fieldError_121 : decode cX1_fieldError 121 = .ok (.aload_n 0, 1) := by decide +kernel
theorem dX1_fieldError_122 : decode cX1_fieldError 122 = .ok (.getfield 12, 3) := by decide +kernel
theorem dX1_fieldError_125 : decode cX1_fieldError 125 = .ok (.aload_n 0, 1) := by decide +kernel
theorem dX1_fieldError_126 : decode cX1_fieldError 126 = .ok (.getfield 30, 3) := by decide +kernel
theorem dX1_fieldError_129 : decode cX1_fieldError 129 = .ok (.getfield 86, 3) := by decide +kernel
theorem dX1_fieldError_132 : decode cX1_fieldError 132 = .ok (.getfield 103, 3) := by decide +kernel
theorem dX1_fieldError_135 : decode cX1_fieldError 135 = .ok (.iload_n 2, 1) := by decide +kernel
theorem dX1_fieldError_136 : decode cX1_fieldError 136 = .ok (.iaload, 1) := by decide +kernel
theorem dX1_fieldError_137 : decode cX1_fieldError 137 = .ok (.putfield 106, 3) := by decide +kernel
theorem dX1_fieldError_140 : decode cX1_fieldError 140 = .ok (.aload_n 0, 1) := by decide +kernel
theorem dX1_fieldError_141 : decode cX1_fieldError 141 = .ok (.getfield 12, 3) := by decide +kernel
theorem dX1_fieldError_144 : decode cX1_fieldError 144 = .ok (.aload_n 0, 1) := by decide +kernel
theorem dX1_fieldError_145 : decode cX1_fieldError 145 = .ok (.getfield 30, 3) := by decide +kernel
theorem dX1_fieldError_148 : decode cX1_fieldError 148 = .ok (.getfield 86, 3) := by decide +kernel
theorem dX1_fieldError_151 : decode cX1_fieldError 151 = .ok (.getfield 90, 3) := by decide +kernel
theorem dX1_fieldError_154 : decode cX1_fieldError 154 = .ok (.iload_n 2, 1) := by decide +kernel
theorem dX1_fieldError_155 : decode cX1_fieldError 155 = .ok (.iaload, 1) := by decide +kernel
theorem dX1_fieldError_156 : decode cX1_fieldError 156 = .ok (.iconst 1, 1) := by decide +kernel
theorem dX1_fieldError_157 : decode cX1_fieldError 157 = .ok (.iand, 1) := by decide +kernel
theorem dX1_fieldError_158 : decode cX1_fieldError 158 = .ok (.putfield 108, 3) := by decide +kernel
theorem dX1_fieldError_161 : decode cX1_fieldError 161 = .ok (.iconst 0, 1) := by decide +kernel
theorem dX1_fieldError_162 : decode cX1_fieldError 162 = .ok (.ireturn, 1) := by decide +kernel
theorem dX2_isAbstract_0 : decode cX2_isAbstract 0 = .ok (.aload_n 0, 1) := by decide +kernel
theorem dX2_isAbstract_1 : decode cX2_isAbstract 1 = .ok (.getfield 24, 3) := by decide +kernel
theorem dX2_isAbstract_4 : decode cX2_isAbstract 4 = .ok (.iload_n 1, 1) := by decide +kernel
theorem dX2_isAbstract_5 : decode cX2_isAbstract 5 = .ok (.ishr, 1) := by decide +kernel
theorem dX2_isAbstract_6 : decode cX2_isAbstract 6 = .ok (.iconst 1, 1) := by decide +kernel
theorem dX2_isAbstract_7 : decode cX2_isAbstract 7 = .ok (.iand, 1) := by decide +kernel
theorem dX2_isAbstract_8 : decode cX2_isAbstract 8 = .ok (.ifCond .eq 7, 3) := by decide +kernel
theorem dX2_isAbstract_11 : decode cX2_isAbstract 11 = .ok (.iconst 1, 1) := by decide +kernel
theorem dX2_isAbstract_12 : decode cX2_isAbstract 12 = .ok (.goto 4, 3) := by decide +kernel
theorem dX2_isAbstract_15 : decode cX2_isAbstract 15 = .ok (.iconst 0, 1) := by decide +kernel
theorem dX2_isAbstract_16 : decode cX2_isAbstract 16 = .ok (.ireturn, 1) := by decide +kernel
theorem dX2_interfaceMethod_0 : decode cX2_interfaceMethod 0 = .ok (.iconst 0, 1) := by decide +kernel
theorem dX2_interfaceMethod_1 : decode cX2_interfaceMethod 1 = .ok (.istore 4, 2) := by decide +kernel
theorem dX2_interfaceMethod_3 : decode cX2_interfaceMethod 3 = .ok (.iconst 0, 1) := by decide +kernel
theorem dX2_interfaceMethod_4 : decode cX2_interfaceMethod 4 = .ok (.istore 5, 2) := by decide +kernel
theorem dX2_interfaceMethod_6 : decode cX2_interfaceMethod 6 = .ok (.iconst 0, 1) := by decide +kernel
theorem dX2_interfaceMethod_7 : decode cX2_interfaceMethod 7 = .ok (.istore 6, 2) := by decide +kernel
theorem dX2_interfaceMethod_9 : decode cX2_interfaceMethod 9 = .ok (.iload 6, 2) := by decide +kernel
theorem dX2_interfaceMethod_11 : decode cX2_interfaceMethod 11 = .ok (.aload_n 0, 1) := by decide +kernel
theorem dX2_interfaceMethod_12 : decode cX2_interfaceMethod 12 = .ok (.getfield 46, 3) := by decide +kernel
theorem dX2_interfaceMethod_15 : decode cX2_interfaceMethod 15 = .ok (.getfield 53, 3) := by decide +kernel
theorem dX2_interfaceMethod_18 : decode cX2_interfaceMethod 18 = .ok (.if_icmp .ge 100, 3) := by decide +kernel
theorem dX2_interfaceMethod_21 : decode cX2_interfaceMethod 21 = .ok (.aload_n 0, 1) := by decide +kernel
theorem dX2_interfaceMethod_22 : decode cX2_interfaceMethod 22 = .ok (.getfield 46, 3) := by decide +kernel
theorem dX2_interfaceMethod_25 : decode cX2_interfaceMethod 25 = .ok (.getfield 117, 3) := by decide +kernel
theorem dX2_interfaceMethod_28 : decode cX2_interfaceMethod 28 = .ok (.iload 6, 2) := by decide +kernel
theorem dX2_interfaceMethod_30 : decode cX2_interfaceMethod 30 = .ok (.iaload, 1) := by decide +kernel
theorem dX2_interfaceMethod_31 : decode cX2_interfaceMethod 31 = .ok (.istore 7, 2) := by decide +kernel
theorem dX2_interfaceMethod_33 : decode cX2_interfaceMethod 33 = .ok (.aload_n 0, 1) := by decide +kernel
theorem dX2_interfaceMethod_34 : decode cX2_interfaceMethod 34 = .ok (.getfield 46, 3) := by decide +kernel
theorem dX2_interfaceMethod_37 : decode cX2_interfaceMethod 37 = .ok (.getfield 136, 3) := by decide +kernel
theorem dX2_interfaceMethod_40 : decode cX2_interfaceMethod 40 = .ok (.iload 6, 2) := by decide +kernel
theorem dX2_interfaceMethod_42 : decode cX2_interfaceMethod 42 = .ok (.iaload, 1) := by decide +kernel
theorem dX2_interfaceMethod_43 : decode cX2_interfaceMethod 43 = .ok (.iload_n 1, 1) := by decide +kernel
theorem dX2_interfaceMethod_44 : decode cX2_interfaceMethod 44 = .ok (.if_icmp .ne 68, 3) := by decide +kernel
theorem dX2_interfaceMethod_47 : decode cX2_interfaceMethod 47 = .ok (.iload_n 2, 1) := by decide +kernel
theorem dX2_interfaceMethod_48 : decode cX2_interfaceMethod 48 = .ok (.iload 7, 2) := by decide +kernel
theorem dX2_interfaceMethod_50 : decode cX2_interfaceMethod 50 = .ok (.ishr, 1) := by decide +kernel
theorem dX2_interfaceMethod_51 : decode cX2_interfaceMethod 51 = .ok (.iconst 1, 1) := by decide +kernel
theorem dX2_interfaceMethod_52 : decode cX2_interfaceMethod 52 = .ok (.iand, 1) := by decide +kernel
theorem dX2_interfaceMethod_53 : decode cX2_interfaceMethod 53 = .ok (.ifCond .eq 59, 3) := by decide +kernel
theorem dX2_interfaceMethod_56 : decode cX2_interfaceMethod 56 = .ok (.aload_n 0, 1) := by decide +kernel
theorem dX2_interfaceMethod_57 : decode cX2_interfaceMethod 57 = .ok (.getfield 46, 3) := by decide +kernel
theorem dX2_interfaceMethod_60 : decode cX2_interfaceMethod 60 = .ok (.getfield 104, 3) := by decide +kernel
theorem dX2_interfaceMethod_63 : decode cX2_interfaceMethod 63 = .ok (.iload 6, 2) := by decide +kernel
theorem dX2_interfaceMethod_65 : decode cX2_interfaceMethod 65 = .ok (.iaload, 1) := by decide +kernel
theorem dX2_interfaceMethod_66 : decode cX2_interfaceMethod 66 = .ok (.ifCond .eq 46, 3) := by decide +kernel
theorem dX2_interfaceMethod_69 : decode cX2_interfaceMethod 69 = .ok (.aload_n 0, 1) := by decide +kernel
theorem dX2_interfaceMethod_70 : decode cX2_interfaceMethod 70 = .ok (.getfield 46, 3) := by decide +kernel
theorem dX2_interfaceMethod_73 : decode cX2_interfaceMethod 73 = .ok (.getfield 107, 3) := by decide +kernel
theorem dX2_interfaceMethod_76 : decode cX2_interfaceMethod 76 = .ok (.iload 6, 2) := by decide +kernel
theorem dX2_interfaceMethod_78 : decode cX2_interfaceMethod 78 = .ok (.iaload, 1) := by decide +kernel
theorem dX2_interfaceMethod_79 : decode cX2_interfaceMethod 79 = .ok (.iconst 1, 1) := by decide +kernel
theorem dX2_interfaceMethod_80 : decode cX2_interfaceMethod 80 = .ok (.iand, 1) := by decide +kernel
theorem dX2_interfaceMethod_81 : decode cX2_interfaceMethod 81 = .ok (.ifCond .ne 31, 3) := by decide +kernel
theorem dX2_interfaceMethod_84 : decode cX2_interfaceMethod 84 = .ok (.iload 4, 2) := by decide +kernel
theorem dX2_interfaceMethod_86 : decode cX2_interfaceMethod 86 = .ok (.iconst 1, 1) := by decide +kernel
theorem dX2_interfaceMethod_87 : decode cX2_interfaceMethod 87 = .ok (.iload 7, 2) := by decide +kernel
theorem dX2_interfaceMethod_89 : decode cX2_interfaceMethod 89 = .ok (.ishl, 1) := by decide +kernel
theorem dX2_interfaceMethod_90 : decode cX2_interfaceMethod 90 = .ok (.ior, 1) := by decide +kernel
theorem dX2_interfaceMethod_91 : decode cX2_interfaceMethod 91 = .ok (.istore 4, 2) := by decide +kernel
theorem dX2_interfaceMethod_93 : decode cX2_interfaceMethod 93 = .ok (.iload 5, 2) := by decide +kernel
theorem dX2_interfaceMethod_95 : decode cX2_interfaceMethod 95 = .ok (.aload_n 0, 1) := by decide +kernel
theorem dX2_interfaceMethod_96 : decode cX2_interfaceMethod 96 = .ok (.getfield 37, 3) := by decide +kernel
theorem dX2_interfaceMethod_99 : decode cX2_interfaceMethod 99 = .ok (.iload 7, 2) := by decide +kernel
theorem dX2_interfaceMethod_101 : decode cX2_interfaceMethod 101 = .ok (.iaload, 1) := by decide +kernel
theorem dX2_interfaceMethod_102 : decode cX2_interfaceMethod 102 = .ok (.iconst 1, 1) := by decide +kernel
theorem dX2_interfaceMethod_103 : decode cX2_interfaceMethod 103 = .ok (.iload 7, 2) := by decide +kernel
theorem dX2_interfaceMethod_105 : decode cX2_interfaceMethod 105 = .ok (.ishl, 1) := by decide +kernel
theorem dX2_interfaceMethod_106 : decode cX2_interfaceMethod 106 = .ok (.iconst (-1), 1) := by decide +kernel
theorem dX2_interfaceMethod_107 : decode cX2_interfaceMethod 107 = .ok (.ixor, 1) := by decide +kernel
theorem dX2_interfaceMethod_108 : decode cX2_interfaceMethod 108 = .ok (.iand, 1) := by decide +kernel
theorem dX2_interfaceMethod_109 : decode cX2_interfaceMethod 109 = .ok (.ior, 1) := by decide +kernel
theorem dX2_interfaceMethod_110 : decode cX2_interfaceMethod 110 = .ok (.istore 5, 2) := by decide +kernel
theorem dX2_interfaceMethod_112 : decode cX2_interfaceMethod 112 = .ok (.iinc 6 1, 3) := by decide +kernel
theorem dX2_interfaceMethod_115 : decode cX2_interfaceMethod 115 = .ok (.goto (-106), 3) := by decide +kernel
theorem dX2_interfaceMethod_118 : decode cX2_interfaceMethod 118 = .ok (.iload 4, 2) := by decide +kernel
theorem dX2_interfaceMethod_120 : decode cX2_interfaceMethod 120 = .ok (.iload 5, 2) := by decide +kernel
theorem dX2_interfaceMethod_122 : decode cX2_interfaceMethod 122 = .ok (.iconst (-1), 1) := by decide +kernel
theorem dX2_interfaceMethod_123 : decode cX2_interfaceMethod 123 = .ok (.ixor, 1) := by decide +kernel
theorem dX2_interfaceMethod_124 : decode cX2_interfaceMethod 124 = .ok (.iand, 1) := by decide +kernel
theorem dX2_interfaceMethod_125 : decode cX2_interfaceMethod 125 = .ok (.istore 6, 2) := by decide +kernel
theorem dX2_interfaceMethod_127 : decode cX2_interfaceMethod 127 = .ok (.bipush (-2), 2) := by decide +kernel
theorem dX2_interfaceMethod_129 : decode cX2_interfaceMethod 129 = .ok (.istore 7, 2) := by decide +kernel
theorem dX2_interfaceMethod_131 : decode cX2_interfaceMethod 131 = .ok (.bipush 10, 2) := by decide +kernel
theorem dX2_interfaceMethod_133 : decode cX2_interfaceMethod 133 = .ok (.istore 8, 2) := by decide +kernel
theorem dX2_interfaceMethod_135 : decode cX2_interfaceMethod 135 = .ok (.bipush (-2), 2) := by decide +kernel
theorem dX2_interfaceMethod_137 : decode cX2_interfaceMethod 137 = .ok (.istore 9, 2) := by decide +kernel
theorem dX2_interfaceMethod_139 : decode cX2_interfaceMethod 139 = .ok (.iconst 0, 1) := by decide +kernel
theorem dX2_interfaceMethod_140 : decode cX2_interfaceMethod 140 = .ok (.istore 10, 2) := by decide +kernel
theorem dX2_interfaceMethod_142 : decode cX2_interfaceMethod 142 = .ok (.iconst 0, 1) := by decide +kernel
theorem dX2_interfaceMethod_143 : decode cX2_interfaceMethod 143 = .ok (.istore 11, 2) := by decide +kernel
theorem dX2_interfaceMethod_145 : decode cX2_interfaceMethod 145 = .ok (.iload 11, 2) := by decide +kernel
theorem dX2_interfaceMethod_147 : decode cX2_interfaceMethod 147 = .ok (.aload_n 0, 1) := by decide +kernel
theorem dX2_interfaceMethod_148 : decode cX2_interfaceMethod 148 = .ok (.getfield 46, 3) := by decide +kernel
theorem dX2_interfaceMethod_151 : decode cX2_interfaceMethod 151 = .ok (.getfield 53, 3) := by decide +kernel
theorem dX2_interfaceMethod_154 : decode cX2_interfaceMethod 154 = .ok (.if_icmp .ge 82, 3) := by decide +kernel
theorem dX2_interfaceMethod_157 : decode cX2_interfaceMethod 157 = .ok (.aload_n 0, 1) := by decide +kernel
theorem dX2_interfaceMethod_158 : decode cX2_interfaceMethod 158 = .ok (.getfield 46, 3) := by decide +kernel
theorem dX2_interfaceMethod_161 : decode cX2_interfaceMethod 161 = .ok (.getfield 117, 3) := by decide +kernel
theorem dX2_interfaceMethod_164 : decode cX2_interfaceMethod 164 = .ok (.iload 11, 2) := by decide +kernel
theorem dX2_interfaceMethod_166 : decode cX2_interfaceMethod 166 = .ok (.iaload, 1) := by decide +kernel
theorem dX2_interfaceMethod_167 : decode cX2_interfaceMethod 167 = .ok (.istore 12, 2) := by decide +kernel
theorem dX2_interfaceMethod_169 : decode cX2_interfaceMethod 169 = .ok (.aload_n 0, 1) := by decide +kernel
theorem dX2_interfaceMethod_170 : decode cX2_interfaceMethod 170 = .ok (.getfield 46, 3) := by decide +kernel
theorem dX2_interfaceMethod_173 : decode cX2_interfaceMethod 173 = .ok (.getfield 136, 3) := by decide +kernel
theorem dX2_interfaceMethod_176 : decode cX2_interfaceMethod 176 = .ok (.iload 11, 2) := by decide +kernel
theorem dX2_interfaceMethod_178 : decode cX2_interfaceMethod 178 = .ok (.iaload, 1) := by decide +kernel
theorem dX2_interfaceMethod_179 : decode cX2_interfaceMethod 179 = .ok (.iload_n 1, 1) := by decide +kernel
theorem dX2_interfaceMethod_180 : decode cX2_interfaceMethod 180 = .ok (.if_icmp .ne 50, 3) := by decide +kernel
theorem dX2_interfaceMethod_183 : decode cX2_interfaceMethod 183 = .ok (.iload 6, 2) := by decide +kernel
theorem dX2_interfaceMethod_185 : decode cX2_interfaceMethod 185 = .ok (.iload 12, 2) := by decide +kernel
theorem dX2_interfaceMethod_187 : decode cX2_interfaceMethod 187 = .ok (.ishr, 1) := by decide +kernel
theorem dX2_interfaceMethod_188 : decode cX2_interfaceMethod 188 = .ok (.iconst 1, 1) := by decide +kernel
theorem dX2_interfaceMethod_189 : decode cX2_interfaceMethod 189 = .ok (.iand, 1) := by decide +kernel
theorem dX2_interfaceMethod_190 : decode cX2_interfaceMethod 190 = .ok (.ifCond .eq 40, 3) := by decide +kernel
theorem dX2_interfaceMethod_193 : decode cX2_interfaceMethod 193 = .ok (.iload 12, 2) := by decide +kernel
theorem dX2_interfaceMethod_195 : decode cX2_interfaceMethod 195 = .ok (.iload 8, 2) := by decide +kernel
theorem dX2_interfaceMethod_197 : decode cX2_interfaceMethod 197 = .ok (.if_icmp .ge 11, 3) := by decide +kernel
theorem dX2_interfaceMethod_200 : decode cX2_interfaceMethod 200 = .ok (.iload 11, 2) := by decide +kernel
theorem dX2_interfaceMethod_202 : decode cX2_interfaceMethod 202 = .ok (.istore 7, 2) := by decide +kernel
theorem dX2_interfaceMethod_204 : decode cX2_interfaceMethod 204 = .ok (.iload 12, 2) := by decide +kernel
theorem dX2_interfaceMethod_206 : decode cX2_interfaceMethod 206 = .ok (.istore 8, 2) := by decide +kernel
theorem dX2_interfaceMethod_208 : decode cX2_interfaceMethod 208 = .ok (.aload_n 0, 1) := by decide +kernel
theorem dX2_interfaceMethod_209 : decode cX2_interfaceMethod 209 = .ok (.getfield 46, 3) := by decide +kernel
theorem dX2_interfaceMethod_212 : decode cX2_interfaceMethod 212 = .ok (.getfield 107, 3) := by decide +kernel
theorem dX2_interfaceMethod_215 : decode cX2_interfaceMethod 215 = .ok (.iload 11, 2) := by decide +kernel
theorem dX2_interfaceMethod_217 : decode cX2_interfaceMethod 217 = .ok (.iaload, 1) := by decide +kernel
theorem dX2_interfaceMethod_218 : decode cX2_interfaceMethod 218 = .ok (.iconst 4, 1) := by decide +kernel
theorem dX2_interfaceMethod_219 : decode cX2_interfaceMethod 219 = .ok (.iand, 1) := by decide +kernel
theorem dX2_interfaceMethod_220 : decode cX2_interfaceMethod 220 = .ok (.ifCond .ne 10, 3) := by decide +kernel
theorem dX2_interfaceMethod_223 : decode cX2_interfaceMethod 223 = .ok (.iload 11, 2) := by decide +kernel
theorem dX2_interfaceMethod_225 : decode cX2_interfaceMethod 225 = .ok (.istore 9, 2) := by decide +kernel
theorem dX2_interfaceMethod_227 : decode cX2_interfaceMethod 227 = .ok (.iinc 10 1, 3) := by decide +kernel
theorem dX2_interfaceMethod_230 : decode cX2_interfaceMethod 230 = .ok (.iinc 11 1, 3) := by decide +kernel
theorem dX2_interfaceMethod_233 : decode cX2_interfaceMethod 233 = .ok (.goto (-88), 3) := by decide +kernel
theorem dX2_interfaceMethod_236 : decode cX2_interfaceMethod 236 = .ok (.iload 10, 2) := by decide +kernel
theorem dX2_interfaceMethod_238 : decode cX2_interfaceMethod 238 = .ok (.iconst 1, 1) := by decide +kernel
theorem dX2_interfaceMethod_239 : decode cX2_interfaceMethod 239 = .ok (.if_icmp .ne 6, 3) := by decide +kernel
theorem dX2_interfaceMethod_242 : decode cX2_interfaceMethod 242 = .ok (.iload 9, 2) := by decide +kernel
theorem dX2_interfaceMethod_244 : decode cX2_interfaceMethod 244 = .ok (.ireturn, 1) := by decide +kernel
theorem dX2_interfaceMethod_245 : decode cX2_interfaceMethod 245 = .ok (.iload_n 3, 1) := by decide +kernel
theorem dX2_interfaceMethod_246 : decode cX2_interfaceMethod 246 = .ok (.ifCond .eq 8, 3) := by decide +kernel
theorem dX2_interfaceMethod_249 : decode cX2_interfaceMethod 249 = .ok (.iload 7, 2) := by decide +kernel
theorem dX2_interfaceMethod_251 : decode cX2_interfaceMethod 251 = .ok (.goto 5, 3) := by decide +kernel
theorem dX2_interfaceMethod_254 : decode cX2_interfaceMethod 254 = .ok (.bipush (-2), 2) := by decide +kernel
theorem dX2_interfaceMethod_256 : decode cX2_interfaceMethod 256 = .ok (.ireturn, 1) := by decide +kernel
theorem dX2_selectedAlong_0 : decode cX2_selectedAlong 0 = .ok (.bipush (-2), 2) := by decide +kernel
theorem dX2_selectedAlong_2 : decode cX2_selectedAlong 2 = .ok (.istore 4, 2) := by decide +kernel
theorem dX2_selectedAlong_4 : decode cX2_selectedAlong 4 = .ok (.bipush (-2), 2) := by decide +kernel
theorem dX2_selectedAlong_6 : decode cX2_selectedAlong 6 = .ok (.istore 5, 2) := by decide +kernel
theorem dX2_selectedAlong_8 : decode cX2_selectedAlong 8 = .ok (.iconst 0, 1) := by decide +kernel
theorem dX2_selectedAlong_9 : decode cX2_selectedAlong 9 = .ok (.istore 6, 2) := by decide +kernel
theorem dX2_selectedAlong_11 : decode cX2_selectedAlong 11 = .ok (.iload 6, 2) := by decide +kernel
theorem dX2_selectedAlong_13 : decode cX2_selectedAlong 13 = .ok (.aload_n 0, 1) := by decide +kernel
theorem dX2_selectedAlong_14 : decode cX2_selectedAlong 14 = .ok (.getfield 46, 3) := by decide +kernel
theorem dX2_selectedAlong_17 : decode cX2_selectedAlong 17 = .ok (.getfield 53, 3) := by decide +kernel
theorem dX2_selectedAlong_20 : decode cX2_selectedAlong 20 = .ok (.if_icmp .ge 87, 3) := by decide +kernel
theorem dX2_selectedAlong_23 : decode cX2_selectedAlong 23 = .ok (.aload_n 0, 1) := by decide +kernel
theorem dX2_selectedAlong_24 : decode cX2_selectedAlong 24 = .ok (.getfield 46, 3) := by decide +kernel
theorem dX2_selectedAlong_27 : decode cX2_selectedAlong 27 = .ok (.getfield 117, 3) := by decide +kernel
theorem dX2_selectedAlong_30 : decode cX2_selectedAlong 30 = .ok (.iload 6, 2) := by decide +kernel
theorem dX2_selectedAlong_32 : decode cX2_selectedAlong 32 = .ok (.iaload, 1) := by decide +kernel
theorem dX2_selectedAlong_33 : decode cX2_selectedAlong 33 = .ok (.istore 7, 2) := by decide +kernel
theorem dX2_selectedAlong_35 : decode cX2_selectedAlong 35 = .ok (.aload_n 0, 1) := by decide +kernel
theorem dX2_selectedAlong_36 : decode cX2_selectedAlong 36 = .ok (.getfield 46, 3) := by decide +kernel
theorem dX2_selectedAlong_39 : decode cX2_selectedAlong 39 = .ok (.getfield 136, 3) := by decide +kernel
theorem dX2_selectedAlong_42 : decode cX2_selectedAlong 42 = .ok (.iload 6, 2) := by decide +kernel
theorem dX2_selectedAlong_44 : decode cX2_selectedAlong 44 = .ok (.iaload, 1) := by decide +kernel
theorem dX2_selectedAlong_45 : decode cX2_selectedAlong 45 = .ok (.iload_n 1, 1) := by decide +kernel
theorem dX2_selectedAlong_46 : decode cX2_selectedAlong 46 = .ok (.if_icmp .ne 55, 3) := by decide +kernel
theorem dX2_selectedAlong_49 : decode cX2_selectedAlong 49 = .ok (.iload_n 2, 1) := by decide +kernel
theorem dX2_selectedAlong_50 : decode cX2_selectedAlong 50 = .ok (.iload 7, 2) := by decide +kernel
theorem dX2_selectedAlong_52 : decode cX2_selectedAlong 52 = .ok (.ishr, 1) := by decide +kernel
theorem dX2_selectedAlong_53 : decode cX2_selectedAlong 53 = .ok (.iconst 1, 1) := by decide +kernel
theorem dX2_selectedAlong_54 : decode cX2_selectedAlong 54 = .ok (.iand, 1) := by decide +kernel
theorem dX2_selectedAlong_55 : decode cX2_selectedAlong 55 = .ok (.ifCond .eq 46, 3) := by decide +kernel
theorem dX2_selectedAlong_58 : decode cX2_selectedAlong 58 = .ok (.iload 7, 2) := by decide +kernel
theorem dX2_selectedAlong_60 : decode cX2_selectedAlong 60 = .ok (.iload 5, 2) := by decide +kernel
theorem dX2_selectedAlong_62 : decode cX2_selectedAlong 62 = .ok (.if_icmp .le 39, 3) := by decide +kernel
theorem dX2_selectedAlong_65 : decode cX2_selectedAlong 65 = .ok (.aload_n 0, 1) := by decide +kernel
theorem dX2_selectedAlong_66 : decode cX2_selectedAlong 66 = .ok (.getfield 46, 3) := by decide +kernel
theorem dX2_selectedAlong_69 : decode cX2_selectedAlong 69 = .ok (.getfield 104, 3) := by decide +kernel
theorem dX2_selectedAlong_72 : decode cX2_selectedAlong 72 = .ok (.iload 6, 2) := by decide +kernel
theorem dX2_selectedAlong_74 : decode cX2_selectedAlong 74 = .ok (.iaload, 1) := by decide +kernel
theorem dX2_selectedAlong_75 : decode cX2_selectedAlong 75 = .ok (.ifCond .eq 26, 3) := by decide +kernel
theorem dX2_selectedAlong_78 : decode cX2_selectedAlong 78 = .ok (.aload_n 0, 1) := by decide +kernel
theorem dX2_selectedAlong_79 : decode cX2_selectedAlong 79 = .ok (.getfield 46, 3) := by decide +kernel
theorem dX2_selectedAlong_82 : decode cX2_selectedAlong 82 = .ok (.getfield 107, 3) := by decide +kernel
theorem dX2_selectedAlong_85 : decode cX2_selectedAlong 85 = .ok (.iload 6, 2) := by decide +kernel
theorem dX2_selectedAlong_87 : decode cX2_selectedAlong 87 = .ok (.iaload, 1) := by decide +kernel
theorem dX2_selectedAlong_88 : decode cX2_selectedAlong 88 = .ok (.iconst 1, 1) := by decide +kernel
theorem dX2_selectedAlong_89 : decode cX2_selectedAlong 89 = .ok (.iand, 1) := by decide +kernel
theorem dX2_selectedAlong_90 : decode cX2_selectedAlong 90 = .ok (.ifCond .ne 11, 3) := by decide +kernel
theorem dX2_selectedAlong_93 : decode cX2_selectedAlong 93 = .ok (.iload 6, 2) := by decide +kernel
theorem dX2_selectedAlong_95 : decode cX2_selectedAlong 95 = .ok (.istore 4, 2) := by decide +kernel
theorem dX2_selectedAlong_97 : decode cX2_selectedAlong 97 = .ok (.iload 7, 2) := by decide +kernel
theorem dX2_selectedAlong_99 : decode cX2_selectedAlong 99 = .ok (.istore 5, 2) := by decide +kernel
theorem dX2_selectedAlong_101 : decode cX2_selectedAlong 101 = .ok (.iinc 6 1, 3) := by decide +kernel
theorem dX2_selectedAlong_104 : decode cX2_selectedAlong 104 = .ok (.goto (-93), 3) := by decide +kernel
theorem dX2_selectedAlong_107 : decode cX2_selectedAlong 107 = .ok (.iload 4, 2) := by decide +kernel
theorem dX2_selectedAlong_109 : decode cX2_selectedAlong 109 = .ok (.bipush (-2), 2) := by decide +kernel
theorem dX2_selectedAlong_111 : decode cX2_selectedAlong 111 = .ok (.if_icmp .eq 8, 3) := by decide +kernel
theorem dX2_selectedAlong_114 : decode cX2_selectedAlong 114 = .ok (.iload 4, 2) := by decide +kernel
theorem dX2_selectedAlong_116 : decode cX2_selectedAlong 116 = .ok (.goto 19, 3) := by decide +kernel
theorem dX2_selectedAlong_119 : decode cX2_selectedAlong 119 = .ok (.aload_n 0, 1) := by decide +kernel
theorem dX2_selectedAlong_120 : decode cX2_selectedAlong 120 = .ok (.iload_n 1, 1) := by decide +kernel
theorem dX2_selectedAlong_121 : decode cX2_selectedAlong 121 = .ok (.iload_n 3, 1) := by decide +kernel
theorem dX2_selectedAlong_122 : decode cX2_selectedAlong 122 = .ok (.aload_n 0, 1) := by decide +kernel
theorem dX2_selectedAlong_123 : decode cX2_selectedAlong 123 = .ok (.getfield 15, 3) := by decide +kernel
theorem dX2_selectedAlong_126 : decode cX2_selectedAlong 126 = .ok (.iand, 1) := by decide +kernel
theorem dX2_selectedAlong_127 : decode cX2_selectedAlong 127 = .ok (.iload_n 2, 1) := by decide +kernel
theorem dX2_selectedAlong_128 : decode cX2_selectedAlong 128 = .ok (.iconst (-1), 1) := by decide +kernel
theorem dX2_selectedAlong_129 : decode cX2_selectedAlong 129 = .ok (.ixor, 1) := by decide +kernel
theorem dX2_selectedAlong_130 : decode cX2_selectedAlong 130 = .ok (.iand, 1) := by decide +kernel
theorem dX2_selectedAlong_131 : decode cX2_selectedAlong 131 = .ok (.iconst 0, 1) := by decide +kernel
theorem dX2_selectedAlong_132 : decode cX2_selectedAlong 132 = .ok (.invokevirtual 139, 3) := by decide +kernel
theorem dX2_selectedAlong_135 : decode cX2_selectedAlong 135 = .ok (.ireturn, 1) := by decide +kernel
theorem dX2_isIncomplete_0 : decode cX2_isIncomplete 0 = .ok (.iconst 0, 1) := by decide +kernel
theorem dX2_isIncomplete_1 : decode cX2_isIncomplete 1 = .ok (.istore_n 3, 1) := by decide +kernel
theorem dX2_isIncomplete_2 : decode cX2_isIncomplete 2 = .ok (.iload_n 3, 1) := by decide +kernel
theorem dX2_isIncomplete_3 : decode cX2_isIncomplete 3 = .ok (.aload_n 0, 1) := by decide +kernel
theorem dX2_isIncomplete_4 : decode cX2_isIncomplete 4 = .ok (.getfield 46, 3) := by decide +kernel
theorem dX2_isIncomplete_7 : decode cX2_isIncomplete 7 = .ok (.getfield 53, 3) := by decide +kernel
theorem dX2_isIncomplete_10 : decode cX2_isIncomplete 10 = .ok (.if_icmp .ge 74, 3) := by decide +kernel
theorem dX2_isIncomplete_13 : decode cX2_isIncomplete 13 = .ok (.iload_n 2, 1) := by decide +kernel
theorem dX2_isIncomplete_14 : decode cX2_isIncomplete 14 = .ok (.aload_n 0, 1) := by decide +kernel
theorem dX2_isIncomplete_15 : decode cX2_isIncomplete 15 = .ok (.getfield 46, 3) := by decide +kernel
theorem dX2_isIncomplete_18 : decode cX2_isIncomplete 18 = .ok (.getfield 117, 3) := by decide +kernel
theorem dX2_isIncomplete_21 : decode cX2_isIncomplete 21 = .ok (.iload_n 3, 1) := by decide +kernel
theorem dX2_isIncomplete_22 : decode cX2_isIncomplete 22 = .ok (.iaload, 1) := by decide +kernel
theorem dX2_isIncomplete_23 : decode cX2_isIncomplete 23 = .ok (.ishr, 1) := by decide +kernel
theorem dX2_isIncomplete_24 : decode cX2_isIncomplete 24 = .ok (.iconst 1, 1) := by decide +kernel
theorem dX2_isIncomplete_25 : decode cX2_isIncomplete 25 = .ok (.iand, 1) := by decide +kernel
theorem dX2_isIncomplete_26 : decode cX2_isIncomplete 26 = .ok (.ifCond .eq 52, 3) := by decide +kernel
theorem dX2_isIncomplete_29 : decode cX2_isIncomplete 29 = .ok (.aload_n 0, 1) := by decide +kernel
theorem dX2_isIncomplete_30 : decode cX2_isIncomplete 30 = .ok (.getfield 46, 3) := by decide +kernel
theorem dX2_isIncomplete_33 : decode cX2_isIncomplete 33 = .ok (.iload_n 3, 1) := by decide +kernel
theorem dX2_isIncomplete_34 : decode cX2_isIncomplete 34 = .ok (.invokevirtual 143, 3) := by decide +kernel
theorem dX2_isIncomplete_37 : decode cX2_isIncomplete 37 = .ok (.ifCond .eq 41, 3) := by decide +kernel
theorem dX2_isIncomplete_40 : decode cX2_isIncomplete 40 = .ok (.aload_n 0, 1) := by decide +kernel
theorem dX2_isIncomplete_41 : decode cX2_isIncomplete 41 = .ok (.aload_n 0, 1) := by decide +kernel
theorem dX2_isIncomplete_42 : decode cX2_isIncomplete 42 = .ok (.getfield 46, 3) := by decide +kernel
theorem dX2_isIncomplete_45 : decode cX2_isIncomplete 45 = .ok (.getfield 136, 3) := by decide +kernel
theorem dX2_isIncomplete_48 : decode cX2_isIncomplete 48 = .ok (.iload_n 3, 1) := by decide +kernel
theorem dX2_isIncomplete_49 : decode cX2_isIncomplete 49 = .ok (.iaload, 1) := by decide +kernel
theorem dX2_isIncomplete_50 : decode cX2_isIncomplete 50 = .ok (.iload_n 1, 1) := by decide +kernel
theorem dX2_isIncomplete_51 : decode cX2_isIncomplete 51 = .ok (.iload_n 2, 1) := by decide +kernel
theorem dX2_isIncomplete_52 : decode cX2_isIncomplete 52 = .ok (.invokevirtual 144, 3) := by decide +kernel
theorem dX2_isIncomplete_55 : decode cX2_isIncomplete 55 = .ok (.istore 4, 2) := by decide +kernel
theorem dX2_isIncomplete_57 : decode cX2_isIncomplete 57 = .ok (.iload 4, 2) := by decide +kernel
theorem dX2_isIncomplete_59 : decode cX2_isIncomplete 59 = .ok (.bipush (-2), 2) := by decide +kernel
theorem dX2_isIncomplete_61 : decode cX2_isIncomplete 61 = .ok (.if_icmp .eq 15, 3) := by decide +kernel
theorem dX2_isIncomplete_64 : decode cX2_isIncomplete 64 = .ok (.aload_n 0, 1) := by decide +kernel
theorem dX2_isIncomplete_65 : decode cX2_isIncomplete 65 = .ok (.getfield 46, 3) := by decide +kernel
theorem dX2_isIncomplete_68 : decode cX2_isIncomplete 68 = .ok (.iload 4, 2) := by decide +kernel
theorem dX2_isIncomplete_70 : decode cX2_isIncomplete 70 = .ok (.invokevirtual 143, 3) := by decide +kernel
theorem dX2_isIncomplete_73 : decode cX2_isIncomplete 73 = .ok (.ifCond .eq 5, 3) := by decide +kernel
theorem dX2_isIncomplete_76 : decode cX2_isIncomplete 76 = .ok (.iconst 1, 1) := by decide +kernel
theorem dX2_isIncomplete_77 : decode cX2_isIncomplete 77 = .ok (.ireturn, 1) := by decide +kernel
theorem dX2_isIncomplete_78 : decode cX2_isIncomplete 78 = .ok (.iinc 3 1, 3) := by decide +kernel
theorem dX2_isIncomplete_81 : decode cX2_isIncomplete 81 = .ok (.goto (-79), 3) := by decide +kernel
theorem dX2_isIncomplete_84 : decode cX2_isIncomplete 84 = .ok (.iconst 0, 1) := by decide +kernel
theorem dX2_isIncomplete_85 : decode cX2_isIncomplete 85 = .ok (.ireturn, 1) := by decide +kernel
theorem dX1_extendingError_0 : decode cX1_extendingError 0 = .ok (.aload_n 0, 1) := by decide +kernel
theorem dX1_extendingError_1 : decode cX1_extendingError 1 = .ok (.getfield 30, 3) := by decide +kernel
theorem dX1_extendingError_4 : decode cX1_extendingError 4 = .ok (.iload_n 1, 1) := by decide +kernel
theorem dX1_extendingError_5 : decode cX1_extendingError 5 = .ok (.invokevirtual 129, 3) := by decide +kernel
theorem dX1_extendingError_8 : decode cX1_extendingError 8 = .ok (.ifCond .ne 14, 3) := by decide +kernel
theorem dX1_extendingError_11 : decode cX1_extendingError 11 = .ok (.aload_n 0, 1) := by decide +kernel
theorem dX1_extendingError_12 : decode cX1_extendingError 12 = .ok (.getfield 30, 3) := by decide +kernel
theorem dX1_extendingError_15 : decode cX1_extendingError 15 = .ok (.iload_n 1, 1) := by decide +kernel
theorem dX1_extendingError_16 : decode cX1_extendingError 16 = .ok (.invokevirtual 175, 3) := by decide +kernel
theorem dX1_extendingError_19 : decode cX1_extendingError 19 = .ok (.ifCond .eq 6, 3) := by decide +kernel
theorem dX1_extendingError_22 : decode cX1_extendingError 22 = .ok (.bipush 6, 2) := by decide +kernel
theorem dX1_extendingError_24 : decode cX1_extendingError 24 = .ok (.ireturn, 1) := by decide +kernel
theorem dX1_extendingError_25 : decode cX1_extendingError 25 = .ok (.aload_n 0, 1) := by decide +kernel
theorem dX1_extendingError_26 : decode cX1_extendingError 26 = .ok (.getfield 30, 3) := by decide +kernel
theorem dX1_extendingError_29 : decode cX1_extendingError 29 = .ok (.aload_n 0, 1) := by decide +kernel
theorem dX1_extendingError_30 : decode cX1_extendingError 30 = .ok (.getfield 30, 3) := by decide +kernel
theorem dX1_extendingError_33 : decode cX1_extendingError 33 = .ok (.getfield 178, 3) := by decide +kernel
theorem dX1_extendingError_36 : decode cX1_extendingError 36 = .ok (.iload_n 1, 1) := by decide +kernel
theorem dX1_extendingError_37 : decode cX1_extendingError 37 = .ok (.iaload, 1) := by decide +kernel
theorem dX1_extendingError_38 : decode cX1_extendingError 38 = .ok (.aload_n 0, 1) := by decide +kernel
theorem dX1_extendingError_39 : decode cX1_extendingError 39 = .ok (.getfield 30, 3) := by decide +kernel
theorem dX1_extendingError_42 : decode cX1_extendingError 42 = .ok (.getfield 135, 3) := by decide +kernel
theorem dX1_extendingError_45 : decode cX1_extendingError 45 = .ok (.iload_n 1, 1) := by decide +kernel
theorem dX1_extendingError_46 : decode cX1_extendingError 46 = .ok (.iaload, 1) := by decide +kernel
theorem dX1_extendingError_47 : decode cX1_extendingError 47 = .ok (.invokevirtual 181, 3) := by decide +kernel
theorem dX1_extendingError_50 : decode cX1_extendingError 50 = .ok (.ifCond .eq 8, 3) := by decide +kernel
theorem dX1_extendingError_53 : decode cX1_extendingError 53 = .ok (.bipush 7, 2) := by decide +kernel
theorem dX1_extendingError_55 : decode cX1_extendingError 55 = .ok (.goto 4, 3) := by decide +kernel
theorem dX1_extendingError_58 : decode cX1_extendingError 58 = .ok (.iconst 0, 1) := by decide +kernel
theorem dX1_extendingError_59 : decode cX1_extendingError 59 = .ok (.ireturn, 1) := by decide +kernel
theorem dX1_implementingError_0 : decode cX1_implementingError 0 = .ok (.aload_n 0, 1) := by decide +kernel
theorem dX1_implementingError_1 : decode cX1_implementingError 1 = .ok (.getfield 30, 3) := by decide +kernel
theorem dX1_implementingError_4 : decode cX1_implementingError 4 = .ok (.aload_n 1, 1) := by decide +kernel
theorem dX1_implementingError_5 : decode cX1_implementingError 5 = .ok (.getfield 37, 3) := by decide +kernel
theorem dX1_implementingError_8 : decode cX1_implementingError 8 = .ok (.invokevirtual 129, 3) := by decide +kernel
theorem dX1_implementingError_11 : decode cX1_implementingError 11 = .ok (.ifCond .ne 6, 3) := by decide +kernel
theorem dX1_implementingError_14 : decode cX1_implementingError 14 = .ok (.bipush 6, 2) := by decide +kernel
theorem dX1_implementingError_16 : decode cX1_implementingError 16 = .ok (.ireturn, 1) := by decide +kernel
theorem dX1_implementingError_17 : decode cX1_implementingError 17 = .ok (.aload_n 0, 1) := by decide +kernel
theorem dX1_implementingError_18 : decode cX1_implementingError 18 = .ok (.aload_n 1, 1) := by decide +kernel
theorem dX1_implementingError_19 : decode cX1_implementingError 19 = .ok (.getfield 184, 3) := by decide +kernel
theorem dX1_implementingError_22 : decode cX1_implementingError 22 = .ok (.aload_n 1, 1) := by decide +kernel
theorem dX1_implementingError_23 : decode cX1_implementingError 23 = .ok (.getfield 48, 3) := by decide +kernel
theorem dX1_implementingError_26 : decode cX1_implementingError 26 = .ok (.invokevirtual 187, 3) := by decide +kernel
theorem dX1_implementingError_29 : decode cX1_implementingError 29 = .ok (.ifCond .ne 6, 3) := by decide +kernel
theorem dX1_implementingError_32 : decode cX1_implementingError 32 = .ok (.bipush 8, 2) := by decide +kernel
theorem dX1_implementingError_34 : decode cX1_implementingError 34 = .ok (.ireturn, 1) := by decide +kernel
theorem dX1_implementingError_35 : decode cX1_implementingError 35 = .ok (.aload_n 0, 1) := by decide +kernel
theorem dX1_implementingError_36 : decode cX1_implementingError 36 = .ok (.getfield 30, 3) := by decide +kernel
theorem dX1_implementingError_39 : decode cX1_implementingError 39 = .ok (.getfield 135, 3) := by decide +kernel
theorem dX1_implementingError_42 : decode cX1_implementingError 42 = .ok (.aload_n 1, 1) := by decide +kernel
theorem dX1_implementingError_43 : decode cX1_implementingError 43 = .ok (.getfield 184, 3) := by decide +kernel
theorem dX1_implementingError_46 : decode cX1_implementingError 46 = .ok (.iaload, 1) := by decide +kernel
theorem dX1_implementingError_47 : decode cX1_implementingError 47 = .ok (.aload_n 0, 1) := by decide +kernel
theorem dX1_implementingError_48 : decode cX1_implementingError 48 = .ok (.getfield 30, 3) := by decide +kernel
theorem dX1_implementingError_51 : decode cX1_implementingError 51 = .ok (.getfield 135, 3) := by decide +kernel
theorem dX1_implementingError_54 : decode cX1_implementingError 54 = .ok (.aload_n 1, 1) := by decide +kernel
theorem dX1_implementingError_55 : decode cX1_implementingError 55 = .ok (.getfield 37, 3) := by decide +kernel
theorem dX1_implementingError_58 : decode cX1_implementingError 58 = .ok (.iaload, 1) := by decide +kernel
theorem dX1_implementingError_59 : decode cX1_implementingError 59 = .ok (.ior, 1) := by decide +kernel
theorem dX1_implementingError_60 : decode cX1_implementingError 60 = .ok (.istore_n 2, 1) := by decide +kernel
theorem dX1_implementingError_61 : decode cX1_implementingError 61 = .ok (.aload_n 0, 1) := by decide +kernel
theorem dX1_implementingError_62 : decode cX1_implementingError 62 = .ok (.getfield 30, 3) := by decide +kernel
theorem dX1_implementingError_65 : decode cX1_implementingError 65 = .ok (.aload_n 0, 1) := by decide +kernel
theorem dX1_implementingError_66 : decode cX1_implementingError 66 = .ok (.getfield 30, 3) := by decide +kernel
theorem dX1_implementingError_69 : decode cX1_implementingError 69 = .ok (.getfield 178, 3) := by decide +kernel
theorem dX1_implementingError_72 : decode cX1_implementingError 72 = .ok (.aload_n 1, 1) := by decide +kernel
theorem dX1_implementingError_73 : decode cX1_implementingError 73 = .ok (.getfield 184, 3) := by decide +kernel
theorem dX1_implementingError_76 : decode cX1_implementingError 76 = .ok (.iaload, 1) := by decide +kernel
theorem dX1_implementingError_77 : decode cX1_implementingError 77 = .ok (.iload_n 2, 1) := by decide +kernel
theorem dX1_implementingError_78 : decode cX1_implementingError 78 = .ok (.invokevirtual 181, 3) := by decide +kernel
theorem dX1_implementingError_81 : decode cX1_implementingError 81 = .ok (.ifCond .eq 8, 3) := by decide +kernel
theorem dX1_implementingError_84 : decode cX1_implementingError 84 = .ok (.bipush 7, 2) := by decide +kernel
theorem dX1_implementingError_86 : decode cX1_implementingError 86 = .ok (.goto 4, 3) := by decide +kernel
theorem dX1_implementingError_89 : decode cX1_implementingError 89 = .ok (.iconst 0, 1) := by decide +kernel
theorem dX1_implementingError_90 : decode cX1_implementingError 90 = .ok (.ireturn, 1) := by decide +kernel
theorem dX1_errorOf_0 : decode cX1_errorOf 0 = .ok (.aload_n 0, 1) := by decide +kernel
theorem dX1_errorOf_1 : decode cX1_errorOf 1 = .ok (.getfield 12, 3) := by decide +kernel
theorem dX1_errorOf_4 : decode cX1_errorOf 4 = .ok (.invokevirtual 34, 3) := by decide +kernel
theorem dX1_errorOf_7 : decode cX1_errorOf 7 = .ok (.aload_n 0, 1) := by decide +kernel
theorem dX1_errorOf_8 : decode cX1_errorOf 8 = .ok (.iconst 0, 1) := by decide +kernel
theorem dX1_errorOf_9 : decode cX1_errorOf 9 = .ok (.putfield 26, 3) := by decide +kernel
theorem dX1_errorOf_12 : decode cX1_errorOf 12 = .ok (.aload_n 0, 1) := by decide +kernel
theorem dX1_errorOf_13 : decode cX1_errorOf 13 = .ok (.getfield 30, 3) := by decide +kernel
theorem dX1_errorOf_16 : decode cX1_errorOf 16 = .ok (.aload_n 1, 1) := by decide +kernel
theorem dX1_errorOf_17 : decode cX1_errorOf 17 = .ok (.getfield 37, 3) := by decide +kernel
theorem dX1_errorOf_20 : decode cX1_errorOf 20 = .ok (.invokevirtual 42, 3) := by decide +kernel
theorem dX1_errorOf_23 : decode cX1_errorOf 23 = .ok (.ifCond .ne 5, 3) := by decide +kernel
theorem dX1_errorOf_26 : decode cX1_errorOf 26 = .ok (.iconst 1, 1) := by decide +kernel
theorem dX1_errorOf_27 : decode cX1_errorOf 27 = .ok (.ireturn, 1) := by decide +kernel
theorem dX1_errorOf_28 : decode cX1_errorOf 28 = .ok (.aload_n 0, 1) := by decide +kernel
theorem dX1_errorOf_29 : decode cX1_errorOf 29 = .ok (.getfield 30, 3) := by decide +kernel
theorem dX1_errorOf_32 : decode cX1_errorOf 32 = .ok (.aload_n 1, 1) := by decide +kernel
theorem dX1_errorOf_33 : decode cX1_errorOf 33 = .ok (.getfield 37, 3) := by decide +kernel
theorem dX1_errorOf_36 : decode cX1_errorOf 36 = .ok (.aload_n 1, 1) := by decide +kernel
theorem dX1_errorOf_37 : decode cX1_errorOf 37 = .ok (.getfield 48, 3) := by decide +kernel
theorem dX1_errorOf_40 : decode cX1_errorOf 40 = .ok (.invokevirtual 51, 3) := by decide +kernel
theorem dX1_errorOf_43 : decode cX1_errorOf 43 = .ok (.ifCond .ne 5, 3) := by decide +kernel
theorem dX1_errorOf_46 : decode cX1_errorOf 46 = .ok (.iconst 2, 1) := by decide +kernel
theorem dX1_errorOf_47 : decode cX1_errorOf 47 = .ok (.ireturn, 1) := by decide +kernel
theorem dX1_errorOf_48 : decode cX1_errorOf 48 = .ok (.aload_n 1, 1) := by decide +kernel
theorem dX1_errorOf_49 : decode cX1_errorOf 49 = .ok (.getfield 55, 3) := by decide +kernel
theorem dX1_errorOf_52 : decode cX1_errorOf 52 = .ok (.tableswitch 78 0 4 #[36, 36, 42, 48, 69], 36) := by decide +kernel
theorem dX1_errorOf_88 : decode cX1_errorOf 88 = .ok (.aload_n 0, 1) := by decide +kernel
theorem dX1_errorOf_89 : decode cX1_errorOf 89 = .ok (.aload_n 1, 1) := by decide +kernel
theorem dX1_errorOf_90 : decode cX1_errorOf 90 = .ok (.invokevirtual 58, 3) := by decide +kernel
theorem dX1_errorOf_93 : decode cX1_errorOf 93 = .ok (.ireturn, 1) := by decide +kernel
theorem dX1_errorOf_94 : decode cX1_errorOf 94 = .ok (.aload_n 0, 1) := by decide +kernel
theorem dX1_errorOf_95 : decode cX1_errorOf 95 = .ok (.aload_n 1, 1) := by decide +kernel
theorem dX1_errorOf_96 : decode cX1_errorOf 96 = .ok (.invokevirtual 62, 3) := by decide +kernel
theorem dX1_errorOf_99 : decode cX1_errorOf 99 = .ok (.ireturn, 1) := by decide +kernel
theorem dX1_errorOf_100 : decode cX1_errorOf 100 = .ok (.aload_n 0, 1) := by decide +kernel
theorem dX1_errorOf_101 : decode cX1_errorOf 101 = .ok (.getfield 30, 3) := by decide +kernel
theorem dX1_errorOf_104 : decode cX1_errorOf 104 = .ok (.aload_n 1, 1) := by decide +kernel
theorem dX1_errorOf_105 : decode cX1_errorOf 105 = .ok (.getfield 37, 3) := by decide +kernel
theorem dX1_errorOf_108 : decode cX1_errorOf 108 = .ok (.invokevirtual 65, 3) := by decide +kernel
theorem dX1_errorOf_111 : decode cX1_errorOf 111 = .ok (.ifCond .eq 8, 3) := by decide +kernel
theorem dX1_errorOf_114 : decode cX1_errorOf 114 = .ok (.bipush 6, 2) := by decide +kernel
theorem dX1_errorOf_116 : decode cX1_errorOf 116 = .ok (.goto 4, 3) := by decide +kernel
theorem dX1_errorOf_119 : decode cX1_errorOf 119 = .ok (.iconst 0, 1) := by decide +kernel
theorem dX1_errorOf_120 : decode cX1_errorOf 120 = .ok (.ireturn, 1) := by decide +kernel
theorem dX1_errorOf_121 : decode cX1_errorOf 121 = .ok (.aload_n 0, 1) := by decide +kernel
theorem dX1_errorOf_122 : decode cX1_errorOf 122 = .ok (.aload_n 1, 1) := by decide +kernel
theorem dX1_errorOf_123 : decode cX1_errorOf 123 = .ok (.getfield 37, 3) := by decide +kernel
theorem dX1_errorOf_126 : decode cX1_errorOf 126 = .ok (.invokevirtual 68, 3) := by decide +kernel
theorem dX1_errorOf_129 : decode cX1_errorOf 129 = .ok (.ireturn, 1) := by decide +kernel
theorem dX1_errorOf_130 : decode cX1_errorOf 130 = .ok (.aload_n 0, 1) := by decide +kernel
theorem dX1_errorOf_131 : decode cX1_errorOf 131 = .ok (.aload_n 1, 1) := by decide +kernel
theorem dX1_errorOf_132 : decode cX1_errorOf 132 = .ok (.invokevirtual 72, 3) := by decide +kernel
theorem dX1_errorOf_135 : decode cX1_errorOf 135 = .ok (.ireturn, 1) := by decide +kernel
theorem dX1_init_0 : decode cX1_init 0 = .ok (.aload_n 0, 1) := by decide +kernel
theorem dX1_init_1 : decode cX1_init 1 = .ok (.invokespecial 3, 3) := by decide +kernel
theorem dX1_init_4 : decode cX1_init 4 = .ok (.aload_n 0, 1) := by decide +kernel
theorem dX1_init_5 : decode cX1_init 5 = .ok (.new 9, 3) := by decide +kernel
theorem dX1_init_8 : decode cX1_init 8 = .ok (.dup, 1) := by decide +kernel
theorem dX1_init_9 : decode cX1_init 9 = .ok (.invokespecial 11, 3) := by decide +kernel
theorem dX1_init_12 : decode cX1_init 12 = .ok (.putfield 12, 3) := by decide +kernel
theorem dX1_init_15 : decode cX1_init 15 = .ok (.aload_n 0, 1) := by decide +kernel
theorem dX1_init_16 : decode cX1_init 16 = .ok (.bipush 40, 2) := by decide +kernel
theorem dX1_init_18 : decode cX1_init 18 = .ok (.newarray .int, 2) := by decide +kernel
theorem dX1_init_20 : decode cX1_init 20 = .ok (.putfield 18, 3) := by decide +kernel
theorem dX1_init_23 : decode cX1_init 23 = .ok (.aload_n 0, 1) := by decide +kernel
theorem dX1_init_24 : decode cX1_init 24 = .ok (.iconst 0, 1) := by decide +kernel
theorem dX1_init_25 : decode cX1_init 25 = .ok (.putfield 22, 3) := by decide +kernel
theorem dX1_init_28 : decode cX1_init 28 = .ok (.aload_n 0, 1) := by decide +kernel
theorem dX1_init_29 : decode cX1_init 29 = .ok (.iconst 0, 1) := by decide +kernel
theorem dX1_init_30 : decode cX1_init 30 = .ok (.putfield 26, 3) := by decide +kernel
theorem dX1_init_33 : decode cX1_init 33 = .ok (.aload_n 0, 1) := by decide +kernel
theorem dX1_init_34 : decode cX1_init 34 = .ok (.aload_n 1, 1) := by decide +kernel
theorem dX1_init_35 : decode cX1_init 35 = .ok (.putfield 30, 3) := by decide +kernel
theorem dX1_init_38 : decode cX1_init 38 = .ok (.return_, 1) := by decide +kernel
theorem dX2_allowsField_0 : decode cX2_allowsField 0 = .ok (.iload_n 3, 1) := by decide +kernel
theorem dX2_allowsField_1 : decode cX2_allowsField 1 = .ok (.ifCond .lt 30, 3) := by decide +kernel
theorem dX2_allowsField_4 : decode cX2_allowsField 4 = .ok (.iload_n 3, 1) := by decide +kernel
theorem dX2_allowsField_5 : decode cX2_allowsField 5 = .ok (.iconst 3, 1) := by decide +kernel
theorem dX2_allowsField_6 : decode cX2_allowsField 6 = .ok (.if_icmp .gt 25, 3) := by decide +kernel
theorem dX2_allowsField_9 : decode cX2_allowsField 9 = .ok (.aload_n 0, 1) := by decide +kernel
theorem dX2_allowsField_10 : decode cX2_allowsField 10 = .ok (.iload_n 1, 1) := by decide +kernel
theorem dX2_allowsField_11 : decode cX2_allowsField 11 = .ok (.invokevirtual 60, 3) := by decide +kernel
theorem dX2_allowsField_14 : decode cX2_allowsField 14 = .ok (.ifCond .eq 13, 3) := by decide +kernel
theorem dX2_allowsField_17 : decode cX2_allowsField 17 = .ok (.iload_n 2, 1) := by decide +kernel
theorem dX2_allowsField_18 : decode cX2_allowsField 18 = .ok (.iconst 3, 1) := by decide +kernel
theorem dX2_allowsField_19 : decode cX2_allowsField 19 = .ok (.if_icmp .ne 12, 3) := by decide +kernel
theorem dX2_allowsField_22 : decode cX2_allowsField 22 = .ok (.iload_n 3, 1) := by decide +kernel
theorem dX2_allowsField_23 : decode cX2_allowsField 23 = .ok (.iconst 3, 1) := by decide +kernel
theorem dX2_allowsField_24 : decode cX2_allowsField 24 = .ok (.if_icmp .ne 7, 3) := by decide +kernel
theorem dX2_allowsField_27 : decode cX2_allowsField 27 = .ok (.iconst 1, 1) := by decide +kernel
theorem dX2_allowsField_28 : decode cX2_allowsField 28 = .ok (.goto 4, 3) := by decide +kernel
theorem dX2_allowsField_31 : decode cX2_allowsField 31 = .ok (.iconst 0, 1) := by decide +kernel
theorem dX2_allowsField_32 : decode cX2_allowsField 32 = .ok (.ireturn, 1) := by decide +kernel
theorem dX2_allowsMethod_0 : decode cX2_allowsMethod 0 = .ok (.iload_n 3, 1) := by decide +kernel
theorem dX2_allowsMethod_1 : decode cX2_allowsMethod 1 = .ok (.ifCond .lt 9, 3) := by decide +kernel
theorem dX2_allowsMethod_4 : decode cX2_allowsMethod 4 = .ok (.iload_n 3, 1) := by decide +kernel
theorem dX2_allowsMethod_5 : decode cX2_allowsMethod 5 = .ok (.bipush 7, 2) := by decide +kernel
theorem dX2_allowsMethod_7 : decode cX2_allowsMethod 7 = .ok (.if_icmp .le 5, 3) := by decide +kernel
theorem dX2_allowsMethod_10 : decode cX2_allowsMethod 10 = .ok (.iconst 0, 1) := by decide +kernel
theorem dX2_allowsMethod_11 : decode cX2_allowsMethod 11 = .ok (.ireturn, 1) := by decide +kernel
theorem dX2_allowsMethod_12 : decode cX2_allowsMethod 12 = .ok (.iload_n 3, 1) := by decide +kernel
theorem dX2_allowsMethod_13 : decode cX2_allowsMethod 13 = .ok (.iconst 4, 1) := by decide +kernel
theorem dX2_allowsMethod_14 : decode cX2_allowsMethod 14 = .ok (.iand, 1) := by decide +kernel
theorem dX2_allowsMethod_15 : decode cX2_allowsMethod 15 = .ok (.ifCond .eq 22, 3) := by decide +kernel
theorem dX2_allowsMethod_18 : decode cX2_allowsMethod 18 = .ok (.iload_n 3, 1) := by decide +kernel
theorem dX2_allowsMethod_19 : decode cX2_allowsMethod 19 = .ok (.iconst 4, 1) := by decide +kernel
theorem dX2_allowsMethod_20 : decode cX2_allowsMethod 20 = .ok (.if_icmp .ne 15, 3) := by decide +kernel
theorem dX2_allowsMethod_23 : decode cX2_allowsMethod 23 = .ok (.iload_n 2, 1) := by decide +kernel
theorem dX2_allowsMethod_24 : decode cX2_allowsMethod 24 = .ok (.ifCond .eq 11, 3) := by decide +kernel
theorem dX2_allowsMethod_27 : decode cX2_allowsMethod 27 = .ok (.aload_n 0, 1) := by decide +kernel
theorem dX2_allowsMethod_28 : decode cX2_allowsMethod 28 = .ok (.iload_n 1, 1) := by decide +kernel
theorem dX2_allowsMethod_29 : decode cX2_allowsMethod 29 = .ok (.invokevirtual 98, 3) := by decide +kernel
theorem dX2_allowsMethod_32 : decode cX2_allowsMethod 32 = .ok (.ifCond .ne 5, 3) := by decide +kernel
theorem dX2_allowsMethod_35 : decode cX2_allowsMethod 35 = .ok (.iconst 0, 1) := by decide +kernel
theorem dX2_allowsMethod_36 : decode cX2_allowsMethod 36 = .ok (.ireturn, 1) := by decide +kernel
theorem dX2_allowsMethod_37 : decode cX2_allowsMethod 37 = .ok (.aload_n 0, 1) := by decide +kernel
theorem dX2_allowsMethod_38 : decode cX2_allowsMethod 38 = .ok (.iload_n 1, 1) := by decide +kernel
theorem dX2_allowsMethod_39 : decode cX2_allowsMethod 39 = .ok (.invokevirtual 60, 3) := by decide +kernel
theorem dX2_allowsMethod_42 : decode cX2_allowsMethod 42 = .ok (.ifCond .eq 14, 3) := by decide +kernel
theorem dX2_allowsMethod_45 : decode cX2_allowsMethod 45 = .ok (.iload_n 2, 1) := by decide +kernel
theorem dX2_allowsMethod_46 : decode cX2_allowsMethod 46 = .ok (.iconst 3, 1) := by decide +kernel
theorem dX2_allowsMethod_47 : decode cX2_allowsMethod 47 = .ok (.if_icmp .ne 13, 3) := by decide +kernel
theorem dX2_allowsMethod_50 : decode cX2_allowsMethod 50 = .ok (.iload_n 3, 1) := by decide +kernel
theorem dX2_allowsMethod_51 : decode cX2_allowsMethod 51 = .ok (.iconst 2, 1) := by decide +kernel
theorem dX2_allowsMethod_52 : decode cX2_allowsMethod 52 = .ok (.iand, 1) := by decide +kernel
theorem dX2_allowsMethod_53 : decode cX2_allowsMethod 53 = .ok (.ifCond .ne 7, 3) := by decide +kernel
theorem dX2_allowsMethod_56 : decode cX2_allowsMethod 56 = .ok (.iconst 1, 1) := by decide +kernel
theorem dX2_allowsMethod_57 : decode cX2_allowsMethod 57 = .ok (.goto 4, 3) := by decide +kernel
theorem dX2_allowsMethod_60 : decode cX2_allowsMethod 60 = .ok (.iconst 0, 1) := by decide +kernel
theorem dX2_allowsMethod_61 : decode cX2_allowsMethod 61 = .ok (.ireturn, 1) := by decide +kernel
theorem dX2_allowsMember_0 : decode cX2_allowsMember 0 = .ok (.aload_n 0, 1) := by decide +kernel
theorem dX2_allowsMember_1 : decode cX2_allowsMember 1 = .ok (.getfield 46, 3) := by decide +kernel
theorem dX2_allowsMember_4 : decode cX2_allowsMember 4 = .ok (.getfield 101, 3) := by decide +kernel
theorem dX2_allowsMember_7 : decode cX2_allowsMember 7 = .ok (.iload_n 2, 1) := by decide +kernel
theorem dX2_allowsMember_8 : decode cX2_allowsMember 8 = .ok (.iaload, 1) := by decide +kernel
theorem dX2_allowsMember_9 : decode cX2_allowsMember 9 = .ok (.ifCond .ne 29, 3) := by decide +kernel
theorem dX2_allowsMember_12 : decode cX2_allowsMember 12 = .ok (.aload_n 0, 1) := by decide +kernel
theorem dX2_allowsMember_13 : decode cX2_allowsMember 13 = .ok (.iload_n 1, 1) := by decide +kernel
theorem dX2_allowsMember_14 : decode cX2_allowsMember 14 = .ok (.aload_n 0, 1) := by decide +kernel
theorem dX2_allowsMember_15 : decode cX2_allowsMember 15 = .ok (.getfield 46, 3) := by decide +kernel
theorem dX2_allowsMember_18 : decode cX2_allowsMember 18 = .ok (.getfield 104, 3) := by decide +kernel
theorem dX2_allowsMember_21 : decode cX2_allowsMember 21 = .ok (.iload_n 2, 1) := by decide +kernel
theorem dX2_allowsMember_22 : decode cX2_allowsMember 22 = .ok (.iaload, 1) := by decide +kernel
theorem dX2_allowsMember_23 : decode cX2_allowsMember 23 = .ok (.aload_n 0, 1) := by decide +kernel
theorem dX2_allowsMember_24 : decode cX2_allowsMember 24 = .ok (.getfield 46, 3) := by decide +kernel
theorem dX2_allowsMember_27 : decode cX2_allowsMember 27 = .ok (.getfield 107, 3) := by decide +kernel
theorem dX2_allowsMember_30 : decode cX2_allowsMember 30 = .ok (.iload_n 2, 1) := by decide +kernel
theorem dX2_allowsMember_31 : decode cX2_allowsMember 31 = .ok (.iaload, 1) := by decide +kernel
theorem dX2_allowsMember_32 : decode cX2_allowsMember 32 = .ok (.invokevirtual 110, 3) := by decide +kernel
theorem dX2_allowsMember_35 : decode cX2_allowsMember 35 = .ok (.goto 26, 3) := by decide +kernel
theorem dX2_allowsMember_38 : decode cX2_allowsMember 38 = .ok (.aload_n 0, 1) := by decide +kernel
theorem dX2_allowsMember_39 : decode cX2_allowsMember 39 = .ok (.iload_n 1, 1) := by decide +kernel
theorem dX2_allowsMember_40 : decode cX2_allowsMember 40 = .ok (.aload_n 0, 1) := by decide +kernel
theorem dX2_allowsMember_41 : decode cX2_allowsMember 41 = .ok (.getfield 46, 3) := by decide +kernel
theorem dX2_allowsMember_44 : decode cX2_allowsMember 44 = .ok (.getfield 104, 3) := by decide +kernel
theorem dX2_allowsMember_47 : decode cX2_allowsMember 47 = .ok (.iload_n 2, 1) := by decide +kernel
theorem dX2_allowsMember_48 : decode cX2_allowsMember 48 = .ok (.iaload, 1) := by decide +kernel
theorem dX2_allowsMember_49 : decode cX2_allowsMember 49 = .ok (.aload_n 0, 1) := by decide +kernel
theorem dX2_allowsMember_50 : decode cX2_allowsMember 50 = .ok (.getfield 46, 3) := by decide +kernel
theorem dX2_allowsMember_53 : decode cX2_allowsMember 53 = .ok (.getfield 107, 3) := by decide +kernel
theorem dX2_allowsMember_56 : decode cX2_allowsMember 56 = .ok (.iload_n 2, 1) := by decide +kernel
theorem dX2_allowsMember_57 : decode cX2_allowsMember 57 = .ok (.iaload, 1) := by decide +kernel
theorem dX2_allowsMember_58 : decode cX2_allowsMember 58 = .ok (.invokevirtual 114, 3) := by decide +kernel
theorem dX2_allowsMember_61 : decode cX2_allowsMember 61 = .ok (.ireturn, 1) := by decide +kernel
theorem dX2_canHaveInterfaces_0 : decode cX2_canHaveInterfaces 0 = .ok (.iconst 1, 1) := by decide +kernel
theorem dX2_canHaveInterfaces_1 : decode cX2_canHaveInterfaces 1 = .ok (.iload_n 1, 1) := by decide +kernel
theorem dX2_canHaveInterfaces_2 : decode cX2_canHaveInterfaces 2 = .ok (.ishl, 1) := by decide +kernel
theorem dX2_canHaveInterfaces_3 : decode cX2_canHaveInterfaces 3 = .ok (.iconst 1, 1) := by decide +kernel
theorem dX2_canHaveInterfaces_4 : decode cX2_canHaveInterfaces 4 = .ok (.isub, 1) := by decide +kernel
theorem dX2_canHaveInterfaces_5 : decode cX2_canHaveInterfaces 5 = .ok (.istore_n 3, 1) := by decide +kernel
theorem dX2_canHaveInterfaces_6 : decode cX2_canHaveInterfaces 6 = .ok (.iload_n 2, 1) := by decide +kernel
theorem dX2_canHaveInterfaces_7 : decode cX2_canHaveInterfaces 7 = .ok (.aload_n 0, 1) := by decide +kernel
theorem dX2_canHaveInterfaces_8 : decode cX2_canHaveInterfaces 8 = .ok (.getfield 15, 3) := by decide +kernel
theorem dX2_canHaveInterfaces_11 : decode cX2_canHaveInterfaces 11 = .ok (.iload_n 3, 1) := by decide +kernel
theorem dX2_canHaveInterfaces_12 : decode cX2_canHaveInterfaces 12 = .ok (.iand, 1) := by decide +kernel
theorem dX2_canHaveInterfaces_13 : decode cX2_canHaveInterfaces 13 = .ok (.iconst (-1), 1) := by decide +kernel
theorem dX2_canHaveInterfaces_14 : decode cX2_canHaveInterfaces 14 = .ok (.ixor, 1) := by decide +kernel
theorem dX2_canHaveInterfaces_15 : decode cX2_canHaveInterfaces 15 = .ok (.iand, 1) := by decide +kernel
theorem dX2_canHaveInterfaces_16 : decode cX2_canHaveInterfaces 16 = .ok (.ifCond .ne 7, 3) := by decide +kernel
theorem dX2_canHaveInterfaces_19 : decode cX2_canHaveInterfaces 19 = .ok (.iconst 1, 1) := by decide +kernel
theorem dX2_canHaveInterfaces_20 : decode cX2_canHaveInterfaces 20 = .ok (.goto 4, 3) := by decide +kernel
theorem dX2_canHaveInterfaces_23 : decode cX2_canHaveInterfaces 23 = .ok (.iconst 0, 1) := by decide +kernel
theorem dX2_canHaveInterfaces_24 : decode cX2_canHaveInterfaces 24 = .ok (.ireturn, 1) := by decide +kernel
theorem dX2_canHaveSuperclass_0 : decode cX2_canHaveSuperclass 0 = .ok (.iload_n 2, 1) := by decide +kernel
theorem dX2_canHaveSuperclass_1 : decode cX2_canHaveSuperclass 1 = .ok (.iload_n 1, 1) := by decide +kernel
theorem dX2_canHaveSuperclass_2 : decode cX2_canHaveSuperclass 2 = .ok (.if_icmp .ge 31, 3) := by decide +kernel
theorem dX2_canHaveSuperclass_5 : decode cX2_canHaveSuperclass 5 = .ok (.aload_n 0, 1) := by decide +kernel
theorem dX2_canHaveSuperclass_6 : decode cX2_canHaveSuperclass 6 = .ok (.iload_n 2, 1) := by decide +kernel
theorem dX2_canHaveSuperclass_7 : decode cX2_canHaveSuperclass 7 = .ok (.invokevirtual 56, 3) := by decide +kernel
theorem dX2_canHaveSuperclass_10 : decode cX2_canHaveSuperclass 10 = .ok (.ifCond .eq 23, 3) := by decide +kernel
theorem dX2_canHaveSuperclass_13 : decode cX2_canHaveSuperclass 13 = .ok (.aload_n 0, 1) := by decide +kernel
theorem dX2_canHaveSuperclass_14 : decode cX2_canHaveSuperclass 14 = .ok (.iload_n 2, 1) := by decide +kernel
theorem dX2_canHaveSuperclass_15 : decode cX2_canHaveSuperclass 15 = .ok (.invokevirtual 60, 3) := by decide +kernel
theorem dX2_canHaveSuperclass_18 : decode cX2_canHaveSuperclass 18 = .ok (.ifCond .ne 15, 3) := by decide +kernel
theorem dX2_canHaveSuperclass_21 : decode cX2_canHaveSuperclass 21 = .ok (.aload_n 0, 1) := by decide +kernel
theorem dX2_canHaveSuperclass_22 : decode cX2_canHaveSuperclass 22 = .ok (.iload_n 2, 1) := by decide +kernel
theorem dX2_canHaveSuperclass_23 : decode cX2_canHaveSuperclass 23 = .ok (.invokevirtual 63, 3) := by decide +kernel
theorem dX2_canHaveSuperclass_26 : decode cX2_canHaveSuperclass 26 = .ok (.ifCond .ne 7, 3) := by decide +kernel
theorem dX2_canHaveSuperclass_29 : decode cX2_canHaveSuperclass 29 = .ok (.iconst 1, 1) := by decide +kernel
theorem dX2_canHaveSuperclass_30 : decode cX2_canHaveSuperclass 30 = .ok (.goto 4, 3) := by decide +kernel
theorem dX2_canHaveSuperclass_33 : decode cX2_canHaveSuperclass 33 = .ok (.iconst 0, 1) := by decide +kernel
theorem dX2_canHaveSuperclass_34 : decode cX2_canHaveSuperclass 34 = .ok (.ireturn, 1) := by decide +kernel
theorem dX4_copyFrom_0 : decode cX4_copyFrom 0 = .ok (.aload_n 0, 1) := by decide +kernel
theorem dX4_copyFrom_1 : decode cX4_copyFrom 1 = .ok (.aload_n 1, 1) := by decide +kernel
theorem dX4_copyFrom_2 : decode cX4_copyFrom 2 = .ok (.getfield 9, 3) := by decide +kernel
theorem dX4_copyFrom_5 : decode cX4_copyFrom 5 = .ok (.putfield 9, 3) := by decide +kernel
theorem dX4_copyFrom_8 : decode cX4_copyFrom 8 = .ok (.aload_n 1, 1) := by decide +kernel
theorem dX4_copyFrom_9 : decode cX4_copyFrom 9 = .ok (.getfield 15, 3) := by decide +kernel
theorem dX4_copyFrom_12 : decode cX4_copyFrom 12 = .ok (.iconst 0, 1) := by decide +kernel
theorem dX4_copyFrom_13 : decode cX4_copyFrom 13 = .ok (.aload_n 0, 1) := by decide +kernel
theorem dX4_copyFrom_14 : decode cX4_copyFrom 14 = .ok (.getfield 15, 3) := by decide +kernel
theorem dX4_copyFrom_17 : decode cX4_copyFrom 17 = .ok (.iconst 0, 1) := by decide +kernel
theorem dX4_copyFrom_18 : decode cX4_copyFrom 18 = .ok (.aload_n 0, 1) := by decide +kernel
theorem dX4_copyFrom_19 : decode cX4_copyFrom 19 = .ok (.getfield 9, 3) := by decide +kernel
theorem dX4_copyFrom_22 : decode cX4_copyFrom 22 = .ok (.invokestatic 75, 3) := by decide +kernel
theorem dX4_copyFrom_25 : decode cX4_copyFrom 25 = .ok (.aload_n 1, 1) := by decide +kernel
theorem dX4_copyFrom_26 : decode cX4_copyFrom 26 = .ok (.getfield 19, 3) := by decide +kernel
theorem dX4_copyFrom_29 : decode cX4_copyFrom 29 = .ok (.iconst 0, 1) := by decide +kernel
theorem dX4_copyFrom_30 : decode cX4_copyFrom 30 = .ok (.aload_n 0, 1) := by decide +kernel
theorem dX4_copyFrom_31 : decode cX4_copyFrom 31 = .ok (.getfield 19, 3) := by decide +kernel
theorem dX4_copyFrom_34 : decode cX4_copyFrom 34 = .ok (.iconst 0, 1) := by decide +kernel
theorem dX4_copyFrom_35 : decode cX4_copyFrom 35 = .ok (.aload_n 0, 1) := by decide +kernel
theorem dX4_copyFrom_36 : decode cX4_copyFrom 36 = .ok (.getfield 9, 3) := by decide +kernel
theorem dX4_copyFrom_39 : decode cX4_copyFrom 39 = .ok (.invokestatic 75, 3) := by decide +kernel
theorem dX4_copyFrom_42 : decode cX4_copyFrom 42 = .ok (.aload_n 1, 1) := by decide +kernel
theorem dX4_copyFrom_43 : decode cX4_copyFrom 43 = .ok (.getfield 22, 3) := by decide +kernel
theorem dX4_copyFrom_46 : decode cX4_copyFrom 46 = .ok (.iconst 0, 1) := by decide +kernel
theorem dX4_copyFrom_47 : decode cX4_copyFrom 47 = .ok (.aload_n 0, 1) := by decide +kernel
theorem dX4_copyFrom_48 : decode cX4_copyFrom 48 = .ok (.getfield 22, 3) := by decide +kernel
theorem dX4_copyFrom_51 : decode cX4_copyFrom 51 = .ok (.iconst 0, 1) := by decide +kernel
theorem dX4_copyFrom_52 : decode cX4_copyFrom 52 = .ok (.aload_n 0, 1) := by decide +kernel
theorem dX4_copyFrom_53 : decode cX4_copyFrom 53 = .ok (.getfield 9, 3) := by decide +kernel
theorem dX4_copyFrom_56 : decode cX4_copyFrom 56 = .ok (.invokestatic 75, 3) := by decide +kernel
theorem dX4_copyFrom_59 : decode cX4_copyFrom 59 = .ok (.aload_n 1, 1) := by decide +kernel
theorem dX4_copyFrom_60 : decode cX4_copyFrom 60 = .ok (.getfield 25, 3) := by decide +kernel
theorem dX4_copyFrom_63 : decode cX4_copyFrom 63 = .ok (.iconst 0, 1) := by decide +kernel
theorem dX4_copyFrom_64 : decode cX4_copyFrom 64 = .ok (.aload_n 0, 1) := by decide +kernel
theorem dX4_copyFrom_65 : decode cX4_copyFrom 65 = .ok (.getfield 25, 3) := by decide +kernel
theorem dX4_copyFrom_68 : decode cX4_copyFrom 68 = .ok (.iconst 0, 1) := by decide +kernel
theorem dX4_copyFrom_69 : decode cX4_copyFrom 69 = .ok (.aload_n 0, 1) := by decide +kernel
theorem dX4_copyFrom_70 : decode cX4_copyFrom 70 = .ok (.getfield 9, 3) := by decide +kernel
theorem dX4_copyFrom_73 : decode cX4_copyFrom 73 = .ok (.invokestatic 75, 3) := by decide +kernel
theorem dX4_copyFrom_76 : decode cX4_copyFrom 76 = .ok (.aload_n 1, 1) := by decide +kernel
theorem dX4_copyFrom_77 : decode cX4_copyFrom 77 = .ok (.getfield 28, 3) := by decide +kernel
theorem dX4_copyFrom_80 : decode cX4_copyFrom 80 = .ok (.iconst 0, 1) := by decide +kernel
theorem dX4_copyFrom_81 : decode cX4_copyFrom 81 = .ok (.aload_n 0, 1) := by decide +kernel
theorem dX4_copyFrom_82 : decode cX4_copyFrom 82 = .ok (.getfield 28, 3) := by decide +kernel
theorem dX4_copyFrom_85 : decode cX4_copyFrom 85 = .ok (.iconst 0, 1) := by decide +kernel
theorem dX4_copyFrom_86 : decode cX4_copyFrom 86 = .ok (.aload_n 0, 1) := by decide +kernel
theorem dX4_copyFrom_87 : decode cX4_copyFrom 87 = .ok (.getfield 9, 3) := by decide +kernel
theorem dX4_copyFrom_90 : decode cX4_copyFrom 90 = .ok (.invokestatic 75, 3) := by decide +kernel
theorem dX4_copyFrom_93 : decode cX4_copyFrom 93 = .ok (.aload_n 1, 1) := by decide +kernel
theorem dX4_copyFrom_94 : decode cX4_copyFrom 94 = .ok (.getfield 31, 3) := by decide +kernel
theorem dX4_copyFrom_97 : decode cX4_copyFrom 97 = .ok (.iconst 0, 1) := by decide +kernel
theorem dX4_copyFrom_98 : decode cX4_copyFrom 98 = .ok (.aload_n 0, 1) := by decide +kernel
theorem dX4_copyFrom_99 : decode cX4_copyFrom 99 = .ok (.getfield 31, 3) := by decide +kernel
theorem dX4_copyFrom_102 : decode cX4_copyFrom 102 = .ok (.iconst 0, 1) := by decide +kernel
theorem dX4_copyFrom_103 : decode cX4_copyFrom 103 = .ok (.aload_n 0, 1) := by decide +kernel
theorem dX4_copyFrom_104 : decode cX4_copyFrom 104 = .ok (.getfield 9, 3) := by decide +kernel
theorem dX4_copyFrom_107 : decode cX4_copyFrom 107 = .ok (.invokestatic 75, 3) := by decide +kernel
theorem dX4_copyFrom_110 : decode cX4_copyFrom 110 = .ok (.aload_n 1, 1) := by decide +kernel
theorem dX4_copyFrom_111 : decode cX4_copyFrom 111 = .ok (.getfield 34, 3) := by decide +kernel
theorem dX4_copyFrom_114 : decode cX4_copyFrom 114 = .ok (.iconst 0, 1) := by decide +kernel
theorem dX4_copyFrom_115 : decode cX4_copyFrom 115 = .ok (.aload_n 0, 1) := by decide +kernel
theorem dX4_copyFrom_116 : decode cX4_copyFrom 116 = .ok (.getfield 34, 3) := by decide +kernel
theorem dX4_copyFrom_119 : decode cX4_copyFrom 119 = .ok (.iconst 0, 1) := by decide +kernel
theorem dX4_copyFrom_120 : decode cX4_copyFrom 120 = .ok (.aload_n 0, 1) := by decide +kernel
theorem dX4_copyFrom_121 : decode cX4_copyFrom 121 = .ok (.getfield 9, 3) := by decide +kernel
theorem dX4_copyFrom_124 : decode cX4_copyFrom 124 = .ok (.invokestatic 75, 3) := by decide +kernel
theorem dX4_copyFrom_127 : decode cX4_copyFrom 127 = .ok (.aload_n 1, 1) := by decide +kernel
theorem dX4_copyFrom_128 : decode cX4_copyFrom 128 = .ok (.getfield 37, 3) := by decide +kernel
theorem dX4_copyFrom_131 : decode cX4_copyFrom 131 = .ok (.iconst 0, 1) := by decide +kernel
theorem dX4_copyFrom_132 : decode cX4_copyFrom 132 = .ok (.aload_n 0, 1) := by decide +kernel
theorem dX4_copyFrom_133 : decode cX4_copyFrom 133 = .ok (.getfield 37, 3) := by decide +kernel
theorem dX4_copyFrom_136 : decode cX4_copyFrom 136 = .ok (.iconst 0, 1) := by decide +kernel
theorem dX4_copyFrom_137 : decode cX4_copyFrom 137 = .ok (.aload_n 0, 1) := by decide +kernel
theorem dX4_copyFrom_138 : decode cX4_copyFrom 138 = .ok (.getfield 9, 3) := by decide +kernel
theorem dX4_copyFrom_141 : decode cX4_copyFrom 141 = .ok (.invokestatic 75, 3) := by decide +kernel
theorem dX4_copyFrom_144 : decode cX4_copyFrom 144 = .ok (.aload_n 1, 1) := by decide +kernel
theorem dX4_copyFrom_145 : decode cX4_copyFrom 145 = .ok (.getfield 40, 3) := by decide +kernel
theorem dX4_copyFrom_148 : decode cX4_copyFrom 148 = .ok (.iconst 0, 1) := by decide +kernel
theorem dX4_copyFrom_149 : decode cX4_copyFrom 149 = .ok (.aload_n 0, 1) := by decide +kernel
theorem dX4_copyFrom_150 : decode cX4_copyFrom 150 = .ok (.getfield 40, 3) := by decide +kernel
theorem dX4_copyFrom_153 : decode cX4_copyFrom 153 = .ok (.iconst 0, 1) := by decide +kernel
theorem dX4_copyFrom_154 : decode cX4_copyFrom 154 = .ok (.aload_n 0, 1) := by decide +kernel
theorem dX4_copyFrom_155 : decode cX4_copyFrom 155 = .ok (.getfield 9, 3) := by decide +kernel
theorem dX4_copyFrom_158 : decode cX4_copyFrom 158 = .ok (.invokestatic 75, 3) := by decide +kernel
theorem dX4_copyFrom_161 : decode cX4_copyFrom 161 = .ok (.aload_n 1, 1) := by decide +kernel
theorem dX4_copyFrom_162 : decode cX4_copyFrom 162 = .ok (.getfield 43, 3) := by decide +kernel
theorem dX4_copyFrom_165 : decode cX4_copyFrom 165 = .ok (.iconst 0, 1) := by decide +kernel
theorem dX4_copyFrom_166 : decode cX4_copyFrom 166 = .ok (.aload_n 0, 1) := by decide +kernel
theorem dX4_copyFrom_167 : decode cX4_copyFrom 167 = .ok (.getfield 43, 3) := by decide +kernel
theorem dX4_copyFrom_170 : decode cX4_copyFrom 170 = .ok (.iconst 0, 1) := by decide +kernel
theorem dX4_copyFrom_171 : decode cX4_copyFrom 171 = .ok (.aload_n 0, 1) := by decide +kernel
theorem dX4_copyFrom_172 : decode cX4_copyFrom 172 = .ok (.getfield 9, 3) := by decide +kernel
theorem dX4_copyFrom_175 : decode cX4_copyFrom 175 = .ok (.invokestatic 75, 3) := by decide +kernel
theorem dX4_copyFrom_178 : decode cX4_copyFrom 178 = .ok (.aload_n 1, 1) := by decide +kernel
theorem dX4_copyFrom_179 : decode cX4_copyFrom 179 = .ok (.getfield 46, 3) := by decide +kernel
theorem dX4_copyFrom_182 : decode cX4_copyFrom 182 = .ok (.iconst 0, 1) := by decide +kernel
theorem dX4_copyFrom_183 : decode cX4_copyFrom 183 = .ok (.aload_n 0, 1) := by decide +kernel
theorem dX4_copyFrom_184 : decode cX4_copyFrom 184 = .ok (.getfield 46, 3) := by decide +kernel
theorem dX4_copyFrom_187 : decode cX4_copyFrom 187 = .ok (.iconst 0, 1) := by decide +kernel
theorem dX4_copyFrom_188 : decode cX4_copyFrom 188 = .ok (.aload_n 0, 1) := by decide +kernel
theorem dX4_copyFrom_189 : decode cX4_copyFrom 189 = .ok (.getfield 9, 3) := by decide +kernel
theorem dX4_copyFrom_192 : decode cX4_copyFrom 192 = .ok (.invokestatic 75, 3) := by decide +kernel
theorem dX4_copyFrom_195 : decode cX4_copyFrom 195 = .ok (.aload_n 1, 1) := by decide +kernel
theorem dX4_copyFrom_196 : decode cX4_copyFrom 196 = .ok (.getfield 49, 3) := by decide +kernel
theorem dX4_copyFrom_199 : decode cX4_copyFrom 199 = .ok (.iconst 0, 1) := by decide +kernel
theorem dX4_copyFrom_200 : decode cX4_copyFrom 200 = .ok (.aload_n 0, 1) := by decide +kernel
theorem dX4_copyFrom_201 : decode cX4_copyFrom 201 = .ok (.getfield 49, 3) := by decide +kernel
theorem dX4_copyFrom_204 : decode cX4_copyFrom 204 = .ok (.iconst 0, 1) := by decide +kernel
theorem dX4_copyFrom_205 : decode cX4_copyFrom 205 = .ok (.aload_n 0, 1) := by decide +kernel
theorem dX4_copyFrom_206 : decode cX4_copyFrom 206 = .ok (.getfield 9, 3) := by decide +kernel
theorem dX4_copyFrom_209 : decode cX4_copyFrom 209 = .ok (.invokestatic 75, 3) := by decide +kernel
theorem dX4_copyFrom_212 : decode cX4_copyFrom 212 = .ok (.return_, 1) := by decide +kernel
theorem dX2_copyFrom_0 : decode cX2_copyFrom 0 = .ok (.aload_n 0, 1) := by decide +kernel
theorem dX2_copyFrom_1 : decode cX2_copyFrom 1 = .ok (.aload_n 1, 1) := by decide +kernel
theorem dX2_copyFrom_2 : decode cX2_copyFrom 2 = .ok (.getfield 9, 3) := by decide +kernel
theorem dX2_copyFrom_5 : decode cX2_copyFrom 5 = .ok (.putfield 9, 3) := by decide +kernel
theorem dX2_copyFrom_8 : decode cX2_copyFrom 8 = .ok (.aload_n 0, 1) := by decide +kernel
theorem dX2_copyFrom_9 : decode cX2_copyFrom 9 = .ok (.aload_n 1, 1) := by decide +kernel
theorem dX2_copyFrom_10 : decode cX2_copyFrom 10 = .ok (.getfield 15, 3) := by decide +kernel
theorem dX2_copyFrom_13 : decode cX2_copyFrom 13 = .ok (.putfield 15, 3) := by decide +kernel
theorem dX2_copyFrom_16 : decode cX2_copyFrom 16 = .ok (.aload_n 0, 1) := by decide +kernel
theorem dX2_copyFrom_17 : decode cX2_copyFrom 17 = .ok (.aload_n 1, 1) := by decide +kernel
theorem dX2_copyFrom_18 : decode cX2_copyFrom 18 = .ok (.getfield 18, 3) := by decide +kernel
theorem dX2_copyFrom_21 : decode cX2_copyFrom 21 = .ok (.putfield 18, 3) := by decide +kernel
theorem dX2_copyFrom_24 : decode cX2_copyFrom 24 = .ok (.aload_n 0, 1) := by decide +kernel
theorem dX2_copyFrom_25 : decode cX2_copyFrom 25 = .ok (.aload_n 1, 1) := by decide +kernel
theorem dX2_copyFrom_26 : decode cX2_copyFrom 26 = .ok (.getfield 21, 3) := by decide +kernel
theorem dX2_copyFrom_29 : decode cX2_copyFrom 29 = .ok (.putfield 21, 3) := by decide +kernel
theorem dX2_copyFrom_32 : decode cX2_copyFrom 32 = .ok (.aload_n 0, 1) := by decide +kernel
theorem dX2_copyFrom_33 : decode cX2_copyFrom 33 = .ok (.aload_n 1, 1) := by decide +kernel
theorem dX2_copyFrom_34 : decode cX2_copyFrom 34 = .ok (.getfield 24, 3) := by decide +kernel
theorem dX2_copyFrom_37 : decode cX2_copyFrom 37 = .ok (.putfield 24, 3) := by decide +kernel
theorem dX2_copyFrom_40 : decode cX2_copyFrom 40 = .ok (.aload_n 1, 1) := by decide +kernel
theorem dX2_copyFrom_41 : decode cX2_copyFrom 41 = .ok (.getfield 27, 3) := by decide +kernel
theorem dX2_copyFrom_44 : decode cX2_copyFrom 44 = .ok (.iconst 0, 1) := by decide +kernel
theorem dX2_copyFrom_45 : decode cX2_copyFrom 45 = .ok (.aload_n 0, 1) := by decide +kernel
theorem dX2_copyFrom_46 : decode cX2_copyFrom 46 = .ok (.getfield 27, 3) := by decide +kernel
theorem dX2_copyFrom_49 : decode cX2_copyFrom 49 = .ok (.iconst 0, 1) := by decide +kernel
theorem dX2_copyFrom_50 : decode cX2_copyFrom 50 = .ok (.bipush 10, 2) := by decide +kernel
theorem dX2_copyFrom_52 : decode cX2_copyFrom 52 = .ok (.invokestatic 76, 3) := by decide +kernel
theorem dX2_copyFrom_55 : decode cX2_copyFrom 55 = .ok (.aload_n 1, 1) := by decide +kernel
theorem dX2_copyFrom_56 : decode cX2_copyFrom 56 = .ok (.getfield 31, 3) := by decide +kernel
theorem dX2_copyFrom_59 : decode cX2_copyFrom 59 = .ok (.iconst 0, 1) := by decide +kernel
theorem dX2_copyFrom_60 : decode cX2_copyFrom 60 = .ok (.aload_n 0, 1) := by decide +kernel
theorem dX2_copyFrom_61 : decode cX2_copyFrom 61 = .ok (.getfield 31, 3) := by decide +kernel
theorem dX2_copyFrom_64 : decode cX2_copyFrom 64 = .ok (.iconst 0, 1) := by decide +kernel
theorem dX2_copyFrom_65 : decode cX2_copyFrom 65 = .ok (.bipush 10, 2) := by decide +kernel
theorem dX2_copyFrom_67 : decode cX2_copyFrom 67 = .ok (.invokestatic 76, 3) := by decide +kernel
theorem dX2_copyFrom_70 : decode cX2_copyFrom 70 = .ok (.aload_n 1, 1) := by decide +kernel
theorem dX2_copyFrom_71 : decode cX2_copyFrom 71 = .ok (.getfield 34, 3) := by decide +kernel
theorem dX2_copyFrom_74 : decode cX2_copyFrom 74 = .ok (.iconst 0, 1) := by decide +kernel
theorem dX2_copyFrom_75 : decode cX2_copyFrom 75 = .ok (.aload_n 0, 1) := by decide +kernel
theorem dX2_copyFrom_76 : decode cX2_copyFrom 76 = .ok (.getfield 34, 3) := by decide +kernel
theorem dX2_copyFrom_79 : decode cX2_copyFrom 79 = .ok (.iconst 0, 1) := by decide +kernel
theorem dX2_copyFrom_80 : decode cX2_copyFrom 80 = .ok (.bipush 10, 2) := by decide +kernel
theorem dX2_copyFrom_82 : decode cX2_copyFrom 82 = .ok (.invokestatic 76, 3) := by decide +kernel
theorem dX2_copyFrom_85 : decode cX2_copyFrom 85 = .ok (.aload_n 1, 1) := by decide +kernel
theorem dX2_copyFrom_86 : decode cX2_copyFrom 86 = .ok (.getfield 37, 3) := by decide +kernel
theorem dX2_copyFrom_89 : decode cX2_copyFrom 89 = .ok (.iconst 0, 1) := by decide +kernel
theorem dX2_copyFrom_90 : decode cX2_copyFrom 90 = .ok (.aload_n 0, 1) := by decide +kernel
theorem dX2_copyFrom_91 : decode cX2_copyFrom 91 = .ok (.getfield 37, 3) := by decide +kernel
theorem dX2_copyFrom_94 : decode cX2_copyFrom 94 = .ok (.iconst 0, 1) := by decide +kernel
theorem dX2_copyFrom_95 : decode cX2_copyFrom 95 = .ok (.bipush 10, 2) := by decide +kernel
theorem dX2_copyFrom_97 : decode cX2_copyFrom 97 = .ok (.invokestatic 76, 3) := by decide +kernel
theorem dX2_copyFrom_100 : decode cX2_copyFrom 100 = .ok (.aload_n 1, 1) := by decide +kernel
theorem dX2_copyFrom_101 : decode cX2_copyFrom 101 = .ok (.getfield 40, 3) := by decide +kernel
theorem dX2_copyFrom_104 : decode cX2_copyFrom 104 = .ok (.iconst 0, 1) := by decide +kernel
theorem dX2_copyFrom_105 : decode cX2_copyFrom 105 = .ok (.aload_n 0, 1) := by decide +kernel
theorem dX2_copyFrom_106 : decode cX2_copyFrom 106 = .ok (.getfield 40, 3) := by decide +kernel
theorem dX2_copyFrom_109 : decode cX2_copyFrom 109 = .ok (.iconst 0, 1) := by decide +kernel
theorem dX2_copyFrom_110 : decode cX2_copyFrom 110 = .ok (.bipush 10, 2) := by decide +kernel
theorem dX2_copyFrom_112 : decode cX2_copyFrom 112 = .ok (.invokestatic 76, 3) := by decide +kernel
theorem dX2_copyFrom_115 : decode cX2_copyFrom 115 = .ok (.aload_n 0, 1) := by decide +kernel
theorem dX2_copyFrom_116 : decode cX2_copyFrom 116 = .ok (.getfield 46, 3) := by decide +kernel
theorem dX2_copyFrom_119 : decode cX2_copyFrom 119 = .ok (.aload_n 1, 1) := by decide +kernel
theorem dX2_copyFrom_120 : decode cX2_copyFrom 120 = .ok (.getfield 46, 3) := by decide +kernel
theorem dX2_copyFrom_123 : decode cX2_copyFrom 123 = .ok (.invokevirtual 82, 3) := by decide +kernel
theorem dX2_copyFrom_126 : decode cX2_copyFrom 126 = .ok (.return_, 1) := by decide +kernel
theorem dX2_deriveSupertypesOf_0 : decode cX2_deriveSupertypesOf 0 = .ok (.aload_n 0, 1) := by decide +kernel
theorem dX2_deriveSupertypesOf_1 : decode cX2_deriveSupertypesOf 1 = .ok (.getfield 31, 3) := by decide +kernel
theorem dX2_deriveSupertypesOf_4 : decode cX2_deriveSupertypesOf 4 = .ok (.iload_n 1, 1) := by decide +kernel
theorem dX2_deriveSupertypesOf_5 : decode cX2_deriveSupertypesOf 5 = .ok (.iaload, 1) := by decide +kernel
theorem dX2_deriveSupertypesOf_6 : decode cX2_deriveSupertypesOf 6 = .ok (.istore_n 2, 1) := by decide +kernel
theorem dX2_deriveSupertypesOf_7 : decode cX2_deriveSupertypesOf 7 = .ok (.aload_n 0, 1) := by decide +kernel
theorem dX2_deriveSupertypesOf_8 : decode cX2_deriveSupertypesOf 8 = .ok (.getfield 37, 3) := by decide +kernel
theorem dX2_deriveSupertypesOf_11 : decode cX2_deriveSupertypesOf 11 = .ok (.iload_n 1, 1) := by decide +kernel
theorem dX2_deriveSupertypesOf_12 : decode cX2_deriveSupertypesOf 12 = .ok (.iconst 1, 1) := by decide +kernel
theorem dX2_deriveSupertypesOf_13 : decode cX2_deriveSupertypesOf 13 = .ok (.iload_n 1, 1) := by decide +kernel
theorem dX2_deriveSupertypesOf_14 : decode cX2_deriveSupertypesOf 14 = .ok (.ishl, 1) := by decide +kernel
theorem dX2_deriveSupertypesOf_15 : decode cX2_deriveSupertypesOf 15 = .ok (.iconst 1, 1) := by decide +kernel
theorem dX2_deriveSupertypesOf_16 : decode cX2_deriveSupertypesOf 16 = .ok (.ior, 1) := by decide +kernel
theorem dX2_deriveSupertypesOf_17 : decode cX2_deriveSupertypesOf 17 = .ok (.iastore, 1) := by decide +kernel
theorem dX2_deriveSupertypesOf_18 : decode cX2_deriveSupertypesOf 18 = .ok (.aload_n 0, 1) := by decide +kernel
theorem dX2_deriveSupertypesOf_19 : decode cX2_deriveSupertypesOf 19 = .ok (.getfield 40, 3) := by decide +kernel
theorem dX2_deriveSupertypesOf_22 : decode cX2_deriveSupertypesOf 22 = .ok (.iload_n 1, 1) := by decide +kernel
theorem dX2_deriveSupertypesOf_23 : decode cX2_deriveSupertypesOf 23 = .ok (.iconst 1, 1) := by decide +kernel
theorem dX2_deriveSupertypesOf_24 : decode cX2_deriveSupertypesOf 24 = .ok (.iload_n 1, 1) := by decide +kernel
theorem dX2_deriveSupertypesOf_25 : decode cX2_deriveSupertypesOf 25 = .ok (.ishl, 1) := by decide +kernel
theorem dX2_deriveSupertypesOf_26 : decode cX2_deriveSupertypesOf 26 = .ok (.iastore, 1) := by decide +kernel
theorem dX2_deriveSupertypesOf_27 : decode cX2_deriveSupertypesOf 27 = .ok (.iload_n 2, 1) := by decide +kernel
theorem dX2_deriveSupertypesOf_28 : decode cX2_deriveSupertypesOf 28 = .ok (.ifCond .lt 50, 3) := by decide +kernel
theorem dX2_deriveSupertypesOf_31 : decode cX2_deriveSupertypesOf 31 = .ok (.iload_n 2, 1) := by decide +kernel
theorem dX2_deriveSupertypesOf_32 : decode cX2_deriveSupertypesOf 32 = .ok (.iload_n 1, 1) := by decide +kernel
theorem dX2_deriveSupertypesOf_33 : decode cX2_deriveSupertypesOf 33 = .ok (.if_icmp .ge 45, 3) := by decide +kernel
theorem dX2_deriveSupertypesOf_36 : decode cX2_deriveSupertypesOf 36 = .ok (.aload_n 0, 1) := by decide +kernel
theorem dX2_deriveSupertypesOf_37 : decode cX2_deriveSupertypesOf 37 = .ok (.getfield 37, 3) := by decide +kernel
theorem dX2_deriveSupertypesOf_40 : decode cX2_deriveSupertypesOf 40 = .ok (.iload_n 1, 1) := by decide +kernel
theorem dX2_deriveSupertypesOf_41 : decode cX2_deriveSupertypesOf 41 = .ok (.dup2, 1) := by decide +kernel
theorem dX2_deriveSupertypesOf_42 : decode cX2_deriveSupertypesOf 42 = .ok (.iaload, 1) := by decide +kernel
theorem dX2_deriveSupertypesOf_43 : decode cX2_deriveSupertypesOf 43 = .ok (.aload_n 0, 1) := by decide +kernel
theorem dX2_deriveSupertypesOf_44 : decode cX2_deriveSupertypesOf 44 = .ok (.getfield 37, 3) := by decide +kernel
theorem dX2_deriveSupertypesOf_47 : decode cX2_deriveSupertypesOf 47 = .ok (.iload_n 2, 1) := by decide +kernel
theorem dX2_deriveSupertypesOf_48 : decode cX2_deriveSupertypesOf 48 = .ok (.iaload, 1) := by decide +kernel
theorem dX2_deriveSupertypesOf_49 : decode cX2_deriveSupertypesOf 49 = .ok (.ior, 1) := by decide +kernel
theorem dX2_deriveSupertypesOf_50 : decode cX2_deriveSupertypesOf 50 = .ok (.iastore, 1) := by decide +kernel
theorem dX2_deriveSupertypesOf_51 : decode cX2_deriveSupertypesOf 51 = .ok (.aload_n 0, 1) := by decide +kernel
theorem dX2_deriveSupertypesOf_52 : decode cX2_deriveSupertypesOf 52 = .ok (.getfield 40, 3) := by decide +kernel
theorem dX2_deriveSupertypesOf_55 : decode cX2_deriveSupertypesOf 55 = .ok (.iload_n 1, 1) := by decide +kernel
theorem dX2_deriveSupertypesOf_56 : decode cX2_deriveSupertypesOf 56 = .ok (.dup2, 1) := by decide +kernel
theorem dX2_deriveSupertypesOf_57 : decode cX2_deriveSupertypesOf 57 = .ok (.iaload, 1) := by decide +kernel
theorem dX2_deriveSupertypesOf_58 : decode cX2_deriveSupertypesOf 58 = .ok (.aload_n 0, 1) := by decide +kernel
theorem dX2_deriveSupertypesOf_59 : decode cX2_deriveSupertypesOf 59 = .ok (.iload_n 1, 1) := by decide +kernel
theorem dX2_deriveSupertypesOf_60 : decode cX2_deriveSupertypesOf 60 = .ok (.invokevirtual 60, 3) := by decide +kernel
theorem dX2_deriveSupertypesOf_63 : decode cX2_deriveSupertypesOf 63 = .ok (.ifCond .eq 7, 3) := by decide +kernel
theorem dX2_deriveSupertypesOf_66 : decode cX2_deriveSupertypesOf 66 = .ok (.iconst 0, 1) := by decide +kernel
theorem dX2_deriveSupertypesOf_67 : decode cX2_deriveSupertypesOf 67 = .ok (.goto 9, 3) := by decide +kernel
theorem dX2_deriveSupertypesOf_70 : decode cX2_deriveSupertypesOf 70 = .ok (.aload_n 0, 1) := by decide +kernel
theorem dX2_deriveSupertypesOf_71 : decode cX2_deriveSupertypesOf 71 = .ok (.getfield 40, 3) := by decide +kernel
theorem dX2_deriveSupertypesOf_74 : decode cX2_deriveSupertypesOf 74 = .ok (.iload_n 2, 1) := by decide +kernel
theorem dX2_deriveSupertypesOf_75 : decode cX2_deriveSupertypesOf 75 = .ok (.iaload, 1) := by decide +kernel
theorem dX2_deriveSupertypesOf_76 : decode cX2_deriveSupertypesOf 76 = .ok (.ior, 1) := by decide +kernel
theorem dX2_deriveSupertypesOf_77 : decode cX2_deriveSupertypesOf 77 = .ok (.iastore, 1) := by decide +kernel
theorem dX2_deriveSupertypesOf_78 : decode cX2_deriveSupertypesOf 78 = .ok (.iconst 0, 1) := by decide +kernel
theorem dX2_deriveSupertypesOf_79 : decode cX2_deriveSupertypesOf 79 = .ok (.istore_n 3, 1) := by decide +kernel
theorem dX2_deriveSupertypesOf_80 : decode cX2_deriveSupertypesOf 80 = .ok (.iload_n 3, 1) := by decide +kernel
theorem dX2_deriveSupertypesOf_81 : decode cX2_deriveSupertypesOf 81 = .ok (.iload_n 1, 1) := by decide +kernel
theorem dX2_deriveSupertypesOf_82 : decode cX2_deriveSupertypesOf 82 = .ok (.if_icmp .ge 37, 3) := by decide +kernel
theorem dX2_deriveSupertypesOf_85 : decode cX2_deriveSupertypesOf 85 = .ok (.aload_n 0, 1) := by decide +kernel
theorem dX2_deriveSupertypesOf_86 : decode cX2_deriveSupertypesOf 86 = .ok (.getfield 34, 3) := by decide +kernel
theorem dX2_deriveSupertypesOf_89 : decode cX2_deriveSupertypesOf 89 = .ok (.iload_n 1, 1) := by decide +kernel
theorem dX2_deriveSupertypesOf_90 : decode cX2_deriveSupertypesOf 90 = .ok (.iaload, 1) := by decide +kernel
theorem dX2_deriveSupertypesOf_91 : decode cX2_deriveSupertypesOf 91 = .ok (.iload_n 3, 1) := by decide +kernel
theorem dX2_deriveSupertypesOf_92 : decode cX2_deriveSupertypesOf 92 = .ok (.ishr, 1) := by decide +kernel
theorem dX2_deriveSupertypesOf_93 : decode cX2_deriveSupertypesOf 93 = .ok (.iconst 1, 1) := by decide +kernel
theorem dX2_deriveSupertypesOf_94 : decode cX2_deriveSupertypesOf 94 = .ok (.iand, 1) := by decide +kernel
theorem dX2_deriveSupertypesOf_95 : decode cX2_deriveSupertypesOf 95 = .ok (.ifCond .eq 18, 3) := by decide +kernel
theorem dX2_deriveSupertypesOf_98 : decode cX2_deriveSupertypesOf 98 = .ok (.aload_n 0, 1) := by decide +kernel
theorem dX2_deriveSupertypesOf_99 : decode cX2_deriveSupertypesOf 99 = .ok (.getfield 37, 3) := by decide +kernel
theorem dX2_deriveSupertypesOf_102 : decode cX2_deriveSupertypesOf 102 = .ok (.iload_n 1, 1) := by decide +kernel
theorem dX2_deriveSupertypesOf_103 : decode cX2_deriveSupertypesOf 103 = .ok (.dup2, 1) := by decide +kernel
theorem dX2_deriveSupertypesOf_104 : decode cX2_deriveSupertypesOf 104 = .ok (.iaload, 1) := by decide +kernel
theorem dX2_deriveSupertypesOf_105 : decode cX2_deriveSupertypesOf 105 = .ok (.aload_n 0, 1) := by decide +kernel
theorem dX2_deriveSupertypesOf_106 : decode cX2_deriveSupertypesOf 106 = .ok (.getfield 37, 3) := by decide +kernel
theorem dX2_deriveSupertypesOf_109 : decode cX2_deriveSupertypesOf 109 = .ok (.iload_n 3, 1) := by decide +kernel
theorem dX2_deriveSupertypesOf_110 : decode cX2_deriveSupertypesOf 110 = .ok (.iaload, 1) := by decide +kernel
theorem dX2_deriveSupertypesOf_111 : decode cX2_deriveSupertypesOf 111 = .ok (.ior, 1) := by decide +kernel
theorem dX2_deriveSupertypesOf_112 : decode cX2_deriveSupertypesOf 112 = .ok (.iastore, 1) := by decide +kernel
theorem dX2_deriveSupertypesOf_113 : decode cX2_deriveSupertypesOf 113 = .ok (.iinc 3 1, 3) := by decide +kernel
theorem dX2_deriveSupertypesOf_116 : decode cX2_deriveSupertypesOf 116 = .ok (.goto (-36), 3) := by decide +kernel
theorem dX2_deriveSupertypesOf_119 : decode cX2_deriveSupertypesOf 119 = .ok (.return_, 1) := by decide +kernel
theorem dX2_deriveSupertypes_0 : decode cX2_deriveSupertypes 0 = .ok (.iconst 0, 1) := by decide +kernel
theorem dX2_deriveSupertypes_1 : decode cX2_deriveSupertypes 1 = .ok (.istore_n 1, 1) := by decide +kernel
theorem dX2_deriveSupertypes_2 : decode cX2_deriveSupertypes 2 = .ok (.iload_n 1, 1) := by decide +kernel
theorem dX2_deriveSupertypes_3 : decode cX2_deriveSupertypes 3 = .ok (.bipush 10, 2) := by decide +kernel
theorem dX2_deriveSupertypes_5 : decode cX2_deriveSupertypes 5 = .ok (.if_icmp .ge 36, 3) := by decide +kernel
theorem dX2_deriveSupertypes_8 : decode cX2_deriveSupertypes 8 = .ok (.aload_n 0, 1) := by decide +kernel
theorem dX2_deriveSupertypes_9 : decode cX2_deriveSupertypes 9 = .ok (.getfield 37, 3) := by decide +kernel
theorem dX2_deriveSupertypes_12 : decode cX2_deriveSupertypes 12 = .ok (.iload_n 1, 1) := by decide +kernel
theorem dX2_deriveSupertypes_13 : decode cX2_deriveSupertypes 13 = .ok (.iconst 0, 1) := by decide +kernel
theorem dX2_deriveSupertypes_14 : decode cX2_deriveSupertypes 14 = .ok (.iastore, 1) := by decide +kernel
theorem dX2_deriveSupertypes_15 : decode cX2_deriveSupertypes 15 = .ok (.aload_n 0, 1) := by decide +kernel
theorem dX2_deriveSupertypes_16 : decode cX2_deriveSupertypes 16 = .ok (.getfield 40, 3) := by decide +kernel
theorem dX2_deriveSupertypes_19 : decode cX2_deriveSupertypes 19 = .ok (.iload_n 1, 1) := by decide +kernel
theorem dX2_deriveSupertypes_20 : decode cX2_deriveSupertypes 20 = .ok (.iconst 0, 1) := by decide +kernel
theorem dX2_deriveSupertypes_21 : decode cX2_deriveSupertypes 21 = .ok (.iastore, 1) := by decide +kernel
theorem dX2_deriveSupertypes_22 : decode cX2_deriveSupertypes 22 = .ok (.aload_n 0, 1) := by decide +kernel
theorem dX2_deriveSupertypes_23 : decode cX2_deriveSupertypes 23 = .ok (.iload_n 1, 1) := by decide +kernel
theorem dX2_deriveSupertypes_24 : decode cX2_deriveSupertypes 24 = .ok (.invokevirtual 56, 3) := by decide +kernel
theorem dX2_deriveSupertypes_27 : decode cX2_deriveSupertypes 27 = .ok (.ifCond .eq 8, 3) := by decide +kernel
theorem dX2_deriveSupertypes_30 : decode cX2_deriveSupertypes 30 = .ok (.aload_n 0, 1) := by decide +kernel
theorem dX2_deriveSupertypes_31 : decode cX2_deriveSupertypes 31 = .ok (.iload_n 1, 1) := by decide +kernel
theorem dX2_deriveSupertypes_32 : decode cX2_deriveSupertypes 32 = .ok (.invokevirtual 73, 3) := by decide +kernel
theorem dX2_deriveSupertypes_35 : decode cX2_deriveSupertypes 35 = .ok (.iinc 1 1, 3) := by decide +kernel
theorem dX2_deriveSupertypes_38 : decode cX2_deriveSupertypes 38 = .ok (.goto (-36), 3) := by decide +kernel
theorem dX2_deriveSupertypes_41 : decode cX2_deriveSupertypes 41 = .ok (.return_, 1) := by decide +kernel
theorem dX2_hasMember_0 : decode cX2_hasMember 0 = .ok (.iload_n 1, 1) := by decide +kernel
theorem dX2_hasMember_1 : decode cX2_hasMember 1 = .ok (.ifCond .lt 18, 3) := by decide +kernel
theorem dX2_hasMember_4 : decode cX2_hasMember 4 = .ok (.iload_n 1, 1) := by decide +kernel
theorem dX2_hasMember_5 : decode cX2_hasMember 5 = .ok (.aload_n 0, 1) := by decide +kernel
theorem dX2_hasMember_6 : decode cX2_hasMember 6 = .ok (.getfield 46, 3) := by decide +kernel
theorem dX2_hasMember_9 : decode cX2_hasMember 9 = .ok (.getfield 53, 3) := by decide +kernel
theorem dX2_hasMember_12 : decode cX2_hasMember 12 = .ok (.if_icmp .ge 7, 3) := by decide +kernel
theorem dX2_hasMember_15 : decode cX2_hasMember 15 = .ok (.iconst 1, 1) := by decide +kernel
theorem dX2_hasMember_16 : decode cX2_hasMember 16 = .ok (.goto 4, 3) := by decide +kernel
theorem dX2_hasMember_19 : decode cX2_hasMember 19 = .ok (.iconst 0, 1) := by decide +kernel
theorem dX2_hasMember_20 : decode cX2_hasMember 20 = .ok (.ireturn, 1) := by decide +kernel
theorem dX4_init_0 : decode cX4_init 0 = .ok (.aload_n 0, 1) := by decide +kernel
theorem dX4_init_1 : decode cX4_init 1 = .ok (.invokespecial 3, 3) := by decide +kernel
theorem dX4_init_4 : decode cX4_init 4 = .ok (.aload_n 0, 1) := by decide +kernel
theorem dX4_init_5 : decode cX4_init 5 = .ok (.iconst 0, 1) := by decide +kernel
theorem dX4_init_6 : decode cX4_init 6 = .ok (.putfield 9, 3) := by decide +kernel
theorem dX4_init_9 : decode cX4_init 9 = .ok (.aload_n 0, 1) := by decide +kernel
theorem dX4_init_10 : decode cX4_init 10 = .ok (.bipush 40, 2) := by decide +kernel
theorem dX4_init_12 : decode cX4_init 12 = .ok (.newarray .int, 2) := by decide +kernel
theorem dX4_init_14 : decode cX4_init 14 = .ok (.putfield 15, 3) := by decide +kernel
theorem dX4_init_17 : decode cX4_init 17 = .ok (.aload_n 0, 1) := by decide +kernel
theorem dX4_init_18 : decode cX4_init 18 = .ok (.bipush 40, 2) := by decide +kernel
theorem dX4_init_20 : decode cX4_init 20 = .ok (.newarray .int, 2) := by decide +kernel
theorem dX4_init_22 : decode cX4_init 22 = .ok (.putfield 19, 3) := by decide +kernel
theorem dX4_init_25 : decode cX4_init 25 = .ok (.aload_n 0, 1) := by decide +kernel
theorem dX4_init_26 : decode cX4_init 26 = .ok (.bipush 40, 2) := by decide +kernel
theorem dX4_init_28 : decode cX4_init 28 = .ok (.newarray .int, 2) := by decide +kernel
theorem dX4_init_30 : decode cX4_init 30 = .ok (.putfield 22, 3) := by decide +kernel
theorem dX4_init_33 : decode cX4_init 33 = .ok (.aload_n 0, 1) := by decide +kernel
theorem dX4_init_34 : decode cX4_init 34 = .ok (.bipush 40, 2) := by decide +kernel
theorem dX4_init_36 : decode cX4_init 36 = .ok (.newarray .int, 2) := by decide +kernel
theorem dX4_init_38 : decode cX4_init 38 = .ok (.putfield 25, 3) := by decide +kernel
theorem dX4_init_41 : decode cX4_init 41 = .ok (.aload_n 0, 1) := by decide +kernel
theorem dX4_init_42 : decode cX4_init 42 = .ok (.bipush 40, 2) := by decide +kernel
theorem dX4_init_44 : decode cX4_init 44 = .ok (.newarray .int, 2) := by decide +kernel
theorem dX4_init_46 : decode cX4_init 46 = .ok (.putfield 28, 3) := by decide +kernel
theorem dX4_init_49 : decode cX4_init 49 = .ok (.aload_n 0, 1) := by decide +kernel
theorem dX4_init_50 : decode cX4_init 50 = .ok (.bipush 40, 2) := by decide +kernel
theorem dX4_init_52 : decode cX4_init 52 = .ok (.newarray .int, 2) := by decide +kernel
theorem dX4_init_54 : decode cX4_init 54 = .ok (.putfield 31, 3) := by decide +kernel
theorem dX4_init_57 : decode cX4_init 57 = .ok (.aload_n 0, 1) := by decide +kernel
theorem dX4_init_58 : decode cX4_init 58 = .ok (.bipush 40, 2) := by decide +kernel
theorem dX4_init_60 : decode cX4_init 60 = .ok (.newarray .int, 2) := by decide +kernel
theorem dX4_init_62 : decode cX4_init 62 = .ok (.putfield 34, 3) := by decide +kernel
theorem dX4_init_65 : decode cX4_init 65 = .ok (.aload_n 0, 1) := by decide +kernel
theorem dX4_init_66 : decode cX4_init 66 = .ok (.bipush 40, 2) := by decide +kernel
theorem dX4_init_68 : decode cX4_init 68 = .ok (.newarray .int, 2) := by decide +kernel
theorem dX4_init_70 : decode cX4_init 70 = .ok (.putfield 37, 3) := by decide +kernel
theorem dX4_init_73 : decode cX4_init 73 = .ok (.aload_n 0, 1) := by decide +kernel
theorem dX4_init_74 : decode cX4_init 74 = .ok (.bipush 40, 2) := by decide +kernel
theorem dX4_init_76 : decode cX4_init 76 = .ok (.newarray .int, 2) := by decide +kernel
theorem dX4_init_78 : decode cX4_init 78 = .ok (.putfield 40, 3) := by decide +kernel
theorem dX4_init_81 : decode cX4_init 81 = .ok (.aload_n 0, 1) := by decide +kernel
theorem dX4_init_82 : decode cX4_init 82 = .ok (.bipush 40, 2) := by decide +kernel
theorem dX4_init_84 : decode cX4_init 84 = .ok (.newarray .int, 2) := by decide +kernel
theorem dX4_init_86 : decode cX4_init 86 = .ok (.putfield 43, 3) := by decide +kernel
theorem dX4_init_89 : decode cX4_init 89 = .ok (.aload_n 0, 1) := by decide +kernel
theorem dX4_init_90 : decode cX4_init 90 = .ok (.bipush 40, 2) := by decide +kernel
theorem dX4_init_92 : decode cX4_init 92 = .ok (.newarray .int, 2) := by decide +kernel
theorem dX4_init_94 : decode cX4_init 94 = .ok (.putfield 46, 3) := by decide +kernel
theorem dX4_init_97 : decode cX4_init 97 = .ok (.aload_n 0, 1) := by decide +kernel
theorem dX4_init_98 : decode cX4_init 98 = .ok (.bipush 40, 2) := by decide +kernel
theorem dX4_init_100 : decode cX4_init 100 = .ok (.newarray .int, 2) := by decide +kernel
theorem dX4_init_102 : decode cX4_init 102 = .ok (.putfield 49, 3) := by decide +kernel
theorem dX4_init_105 : decode cX4_init 105 = .ok (.return_, 1) := by decide +kernel
theorem dX2_init_0 : decode cX2_init 0 = .ok (.aload_n 0, 1) := by decide +kernel
theorem dX2_init_1 : decode cX2_init 1 = .ok (.invokespecial 3, 3) := by decide +kernel
theorem dX2_init_4 : decode cX2_init 4 = .ok (.aload_n 0, 1) := by decide +kernel
theorem dX2_init_5 : decode cX2_init 5 = .ok (.iconst 0, 1) := by decide +kernel
theorem dX2_init_6 : decode cX2_init 6 = .ok (.putfield 9, 3) := by decide +kernel
theorem dX2_init_9 : decode cX2_init 9 = .ok (.aload_n 0, 1) := by decide +kernel
theorem dX2_init_10 : decode cX2_init 10 = .ok (.iconst 0, 1) := by decide +kernel
theorem dX2_init_11 : decode cX2_init 11 = .ok (.putfield 15, 3) := by decide +kernel
theorem dX2_init_14 : decode cX2_init 14 = .ok (.aload_n 0, 1) := by decide +kernel
theorem dX2_init_15 : decode cX2_init 15 = .ok (.iconst 0, 1) := by decide +kernel
theorem dX2_init_16 : decode cX2_init 16 = .ok (.putfield 18, 3) := by decide +kernel
theorem dX2_init_19 : decode cX2_init 19 = .ok (.aload_n 0, 1) := by decide +kernel
theorem dX2_init_20 : decode cX2_init 20 = .ok (.iconst 0, 1) := by decide +kernel
theorem dX2_init_21 : decode cX2_init 21 = .ok (.putfield 21, 3) := by decide +kernel
theorem dX2_init_24 : decode cX2_init 24 = .ok (.aload_n 0, 1) := by decide +kernel
theorem dX2_init_25 : decode cX2_init 25 = .ok (.iconst 0, 1) := by decide +kernel
theorem dX2_init_26 : decode cX2_init 26 = .ok (.putfield 24, 3) := by decide +kernel
theorem dX2_init_29 : decode cX2_init 29 = .ok (.aload_n 0, 1) := by decide +kernel
theorem dX2_init_30 : decode cX2_init 30 = .ok (.bipush 10, 2) := by decide +kernel
theorem dX2_init_32 : decode cX2_init 32 = .ok (.newarray .int, 2) := by decide +kernel
theorem dX2_init_34 : decode cX2_init 34 = .ok (.putfield 27, 3) := by decide +kernel
theorem dX2_init_37 : decode cX2_init 37 = .ok (.aload_n 0, 1) := by decide +kernel
theorem dX2_init_38 : decode cX2_init 38 = .ok (.bipush 10, 2) := by decide +kernel
theorem dX2_init_40 : decode cX2_init 40 = .ok (.newarray .int, 2) := by decide +kernel
theorem dX2_init_42 : decode cX2_init 42 = .ok (.putfield 31, 3) := by decide +kernel
theorem dX2_init_45 : decode cX2_init 45 = .ok (.aload_n 0, 1) := by decide +kernel
theorem dX2_init_46 : decode cX2_init 46 = .ok (.bipush 10, 2) := by decide +kernel
theorem dX2_init_48 : decode cX2_init 48 = .ok (.newarray .int, 2) := by decide +kernel
theorem dX2_init_50 : decode cX2_init 50 = .ok (.putfield 34, 3) := by decide +kernel
theorem dX2_init_53 : decode cX2_init 53 = .ok (.aload_n 0, 1) := by decide +kernel
theorem dX2_init_54 : decode cX2_init 54 = .ok (.bipush 10, 2) := by decide +kernel
theorem dX2_init_56 : decode cX2_init 56 = .ok (.newarray .int, 2) := by decide +kernel
theorem dX2_init_58 : decode cX2_init 58 = .ok (.putfield 37, 3) := by decide +kernel
theorem dX2_init_61 : decode cX2_init 61 = .ok (.aload_n 0, 1) := by decide +kernel
theorem dX2_init_62 : decode cX2_init 62 = .ok (.bipush 10, 2) := by decide +kernel
theorem dX2_init_64 : decode cX2_init 64 = .ok (.newarray .int, 2) := by decide +kernel
theorem dX2_init_66 : decode cX2_init 66 = .ok (.putfield 40, 3) := by decide +kernel
theorem dX2_init_69 : decode cX2_init 69 = .ok (.aload_n 0, 1) := by decide +kernel
theorem dX2_init_70 : decode cX2_init 70 = .ok (.new 43, 3) := by decide +kernel
theorem dX2_init_73 : decode cX2_init 73 = .ok (.dup, 1) := by decide +kernel
theorem dX2_init_74 : decode cX2_init 74 = .ok (.invokespecial 45, 3) := by decide +kernel
theorem dX2_init_77 : decode cX2_init 77 = .ok (.putfield 46, 3) := by decide +kernel
theorem dX2_init_80 : decode cX2_init 80 = .ok (.aload_n 0, 1) := by decide +kernel
theorem dX2_init_81 : decode cX2_init 81 = .ok (.bipush 10, 2) := by decide +kernel
theorem dX2_init_83 : decode cX2_init 83 = .ok (.newarray .int, 2) := by decide +kernel
theorem dX2_init_85 : decode cX2_init 85 = .ok (.putfield 50, 3) := by decide +kernel
theorem dX2_init_88 : decode cX2_init 88 = .ok (.return_, 1) := by decide +kernel
theorem dX2_isSuperclass_0 : decode cX2_isSuperclass 0 = .ok (.iload_n 1, 1) := by decide +kernel
theorem dX2_isSuperclass_1 : decode cX2_isSuperclass 1 = .ok (.iconst 1, 1) := by decide +kernel
theorem dX2_isSuperclass_2 : decode cX2_isSuperclass 2 = .ok (.iadd, 1) := by decide +kernel
theorem dX2_isSuperclass_3 : decode cX2_isSuperclass 3 = .ok (.istore_n 2, 1) := by decide +kernel
theorem dX2_isSuperclass_4 : decode cX2_isSuperclass 4 = .ok (.iload_n 2, 1) := by decide +kernel
theorem dX2_isSuperclass_5 : decode cX2_isSuperclass 5 = .ok (.bipush 10, 2) := by decide +kernel
theorem dX2_isSuperclass_7 : decode cX2_isSuperclass 7 = .ok (.if_icmp .ge 29, 3) := by decide +kernel
theorem dX2_isSuperclass_10 : decode cX2_isSuperclass 10 = .ok (.aload_n 0, 1) := by decide +kernel
theorem dX2_isSuperclass_11 : decode cX2_isSuperclass 11 = .ok (.iload_n 2, 1) := by decide +kernel
theorem dX2_isSuperclass_12 : decode cX2_isSuperclass 12 = .ok (.invokevirtual 56, 3) := by decide +kernel
theorem dX2_isSuperclass_15 : decode cX2_isSuperclass 15 = .ok (.ifCond .eq 15, 3) := by decide +kernel
theorem dX2_isSuperclass_18 : decode cX2_isSuperclass 18 = .ok (.aload_n 0, 1) := by decide +kernel
theorem dX2_isSuperclass_19 : decode cX2_isSuperclass 19 = .ok (.getfield 31, 3) := by decide +kernel
theorem dX2_isSuperclass_22 : decode cX2_isSuperclass 22 = .ok (.iload_n 2, 1) := by decide +kernel
theorem dX2_isSuperclass_23 : decode cX2_isSuperclass 23 = .ok (.iaload, 1) := by decide +kernel
theorem dX2_isSuperclass_24 : decode cX2_isSuperclass 24 = .ok (.iload_n 1, 1) := by decide +kernel
theorem dX2_isSuperclass_25 : decode cX2_isSuperclass 25 = .ok (.if_icmp .ne 5, 3) := by decide +kernel
theorem dX2_isSuperclass_28 : decode cX2_isSuperclass 28 = .ok (.iconst 1, 1) := by decide +kernel
theorem dX2_isSuperclass_29 : decode cX2_isSuperclass 29 = .ok (.ireturn, 1) := by decide +kernel
theorem dX2_isSuperclass_30 : decode cX2_isSuperclass 30 = .ok (.iinc 2 1, 3) := by decide +kernel
theorem dX2_isSuperclass_33 : decode cX2_isSuperclass 33 = .ok (.goto (-29), 3) := by decide +kernel
theorem dX2_isSuperclass_36 : decode cX2_isSuperclass 36 = .ok (.iconst 0, 1) := by decide +kernel
theorem dX2_isSuperclass_37 : decode cX2_isSuperclass 37 = .ok (.ireturn, 1) := by decide +kernel
theorem dX2_isSuperinterface_0 : decode cX2_isSuperinterface 0 = .ok (.iload_n 1, 1) := by decide +kernel
theorem dX2_isSuperinterface_1 : decode cX2_isSuperinterface 1 = .ok (.iconst 1, 1) := by decide +kernel
theorem dX2_isSuperinterface_2 : decode cX2_isSuperinterface 2 = .ok (.iadd, 1) := by decide +kernel
theorem dX2_isSuperinterface_3 : decode cX2_isSuperinterface 3 = .ok (.istore_n 2, 1) := by decide +kernel
theorem dX2_isSuperinterface_4 : decode cX2_isSuperinterface 4 = .ok (.iload_n 2, 1) := by decide +kernel
theorem dX2_isSuperinterface_5 : decode cX2_isSuperinterface 5 = .ok (.bipush 10, 2) := by decide +kernel
theorem dX2_isSuperinterface_7 : decode cX2_isSuperinterface 7 = .ok (.if_icmp .ge 32, 3) := by decide +kernel
theorem dX2_isSuperinterface_10 : decode cX2_isSuperinterface 10 = .ok (.aload_n 0, 1) := by decide +kernel
theorem dX2_isSuperinterface_11 : decode cX2_isSuperinterface 11 = .ok (.iload_n 2, 1) := by decide +kernel
theorem dX2_isSuperinterface_12 : decode cX2_isSuperinterface 12 = .ok (.invokevirtual 56, 3) := by decide +kernel
theorem dX2_isSuperinterface_15 : decode cX2_isSuperinterface 15 = .ok (.ifCond .eq 18, 3) := by decide +kernel
theorem dX2_isSuperinterface_18 : decode cX2_isSuperinterface 18 = .ok (.aload_n 0, 1) := by decide +kernel
theorem dX2_isSuperinterface_19 : decode cX2_isSuperinterface 19 = .ok (.getfield 34, 3) := by decide +kernel
theorem dX2_isSuperinterface_22 : decode cX2_isSuperinterface 22 = .ok (.iload_n 2, 1) := by decide +kernel
theorem dX2_isSuperinterface_23 : decode cX2_isSuperinterface 23 = .ok (.iaload, 1) := by decide +kernel
theorem dX2_isSuperinterface_24 : decode cX2_isSuperinterface 24 = .ok (.iload_n 1, 1) := by decide +kernel
theorem dX2_isSuperinterface_25 : decode cX2_isSuperinterface 25 = .ok (.ishr, 1) := by decide +kernel
theorem dX2_isSuperinterface_26 : decode cX2_isSuperinterface 26 = .ok (.iconst 1, 1) := by decide +kernel
theorem dX2_isSuperinterface_27 : decode cX2_isSuperinterface 27 = .ok (.iand, 1) := by decide +kernel
theorem dX2_isSuperinterface_28 : decode cX2_isSuperinterface 28 = .ok (.ifCond .eq 5, 3) := by decide +kernel
theorem dX2_isSuperinterface_31 : decode cX2_isSuperinterface 31 = .ok (.iconst 1, 1) := by decide +kernel
theorem dX2_isSuperinterface_32 : decode cX2_isSuperinterface 32 = .ok (.ireturn, 1) := by decide +kernel
theorem dX2_isSuperinterface_33 : decode cX2_isSuperinterface 33 = .ok (.iinc 2 1, 3) := by decide +kernel
theorem dX2_isSuperinterface_36 : decode cX2_isSuperinterface 36 = .ok (.goto (-32), 3) := by decide +kernel
theorem dX2_isSuperinterface_39 : decode cX2_isSuperinterface 39 = .ok (.iconst 0, 1) := by decide +kernel
theorem dX2_isSuperinterface_40 : decode cX2_isSuperinterface 40 = .ok (.ireturn, 1) := by decide +kernel
theorem dX2_methodFor_0 : decode cX2_methodFor 0 = .ok (.aload_n 0, 1) := by decide +kernel
theorem dX2_methodFor_1 : decode cX2_methodFor 1 = .ok (.getfield 40, 3) := by decide +kernel
theorem dX2_methodFor_4 : decode cX2_methodFor 4 = .ok (.iload_n 1, 1) := by decide +kernel
theorem dX2_methodFor_5 : decode cX2_methodFor 5 = .ok (.iaload, 1) := by decide +kernel
theorem dX2_methodFor_6 : decode cX2_methodFor 6 = .ok (.istore_n 3, 1) := by decide +kernel
theorem dX2_methodFor_7 : decode cX2_methodFor 7 = .ok (.bipush (-2), 2) := by decide +kernel
theorem dX2_methodFor_9 : decode cX2_methodFor 9 = .ok (.istore 4, 2) := by decide +kernel
theorem dX2_methodFor_11 : decode cX2_methodFor 11 = .ok (.bipush (-2), 2) := by decide +kernel
theorem dX2_methodFor_13 : decode cX2_methodFor 13 = .ok (.istore 5, 2) := by decide +kernel
theorem dX2_methodFor_15 : decode cX2_methodFor 15 = .ok (.iconst 0, 1) := by decide +kernel
theorem dX2_methodFor_16 : decode cX2_methodFor 16 = .ok (.istore 6, 2) := by decide +kernel
theorem dX2_methodFor_18 : decode cX2_methodFor 18 = .ok (.iload 6, 2) := by decide +kernel
theorem dX2_methodFor_20 : decode cX2_methodFor 20 = .ok (.aload_n 0, 1) := by decide +kernel
theorem dX2_methodFor_21 : decode cX2_methodFor 21 = .ok (.getfield 46, 3) := by decide +kernel
theorem dX2_methodFor_24 : decode cX2_methodFor 24 = .ok (.getfield 53, 3) := by decide +kernel
theorem dX2_methodFor_27 : decode cX2_methodFor 27 = .ok (.if_icmp .ge 59, 3) := by decide +kernel
theorem dX2_methodFor_30 : decode cX2_methodFor 30 = .ok (.aload_n 0, 1) := by decide +kernel
theorem dX2_methodFor_31 : decode cX2_methodFor 31 = .ok (.getfield 46, 3) := by decide +kernel
theorem dX2_methodFor_34 : decode cX2_methodFor 34 = .ok (.getfield 117, 3) := by decide +kernel
theorem dX2_methodFor_37 : decode cX2_methodFor 37 = .ok (.iload 6, 2) := by decide +kernel
theorem dX2_methodFor_39 : decode cX2_methodFor 39 = .ok (.iaload, 1) := by decide +kernel
theorem dX2_methodFor_40 : decode cX2_methodFor 40 = .ok (.istore 7, 2) := by decide +kernel
theorem dX2_methodFor_42 : decode cX2_methodFor 42 = .ok (.aload_n 0, 1) := by decide +kernel
theorem dX2_methodFor_43 : decode cX2_methodFor 43 = .ok (.getfield 46, 3) := by decide +kernel
theorem dX2_methodFor_46 : decode cX2_methodFor 46 = .ok (.getfield 136, 3) := by decide +kernel
theorem dX2_methodFor_49 : decode cX2_methodFor 49 = .ok (.iload 6, 2) := by decide +kernel
theorem dX2_methodFor_51 : decode cX2_methodFor 51 = .ok (.iaload, 1) := by decide +kernel
theorem dX2_methodFor_52 : decode cX2_methodFor 52 = .ok (.iload_n 2, 1) := by decide +kernel
theorem dX2_methodFor_53 : decode cX2_methodFor 53 = .ok (.if_icmp .ne 27, 3) := by decide +kernel
theorem dX2_methodFor_56 : decode cX2_methodFor 56 = .ok (.iload_n 3, 1) := by decide +kernel
theorem dX2_methodFor_57 : decode cX2_methodFor 57 = .ok (.iload 7, 2) := by decide +kernel
theorem dX2_methodFor_59 : decode cX2_methodFor 59 = .ok (.ishr, 1) := by decide +kernel
theorem dX2_methodFor_60 : decode cX2_methodFor 60 = .ok (.iconst 1, 1) := by decide +kernel
theorem dX2_methodFor_61 : decode cX2_methodFor 61 = .ok (.iand, 1) := by decide +kernel
theorem dX2_methodFor_62 : decode cX2_methodFor 62 = .ok (.ifCond .eq 18, 3) := by decide +kernel
theorem dX2_methodFor_65 : decode cX2_methodFor 65 = .ok (.iload 7, 2) := by decide +kernel
theorem dX2_methodFor_67 : decode cX2_methodFor 67 = .ok (.iload 5, 2) := by decide +kernel
theorem dX2_methodFor_69 : decode cX2_methodFor 69 = .ok (.if_icmp .le 11, 3) := by decide +kernel
theorem dX2_methodFor_72 : decode cX2_methodFor 72 = .ok (.iload 6, 2) := by decide +kernel
theorem dX2_methodFor_74 : decode cX2_methodFor 74 = .ok (.istore 4, 2) := by decide +kernel
theorem dX2_methodFor_76 : decode cX2_methodFor 76 = .ok (.iload 7, 2) := by decide +kernel
theorem dX2_methodFor_78 : decode cX2_methodFor 78 = .ok (.istore 5, 2) := by decide +kernel
theorem dX2_methodFor_80 : decode cX2_methodFor 80 = .ok (.iinc 6 1, 3) := by decide +kernel
theorem dX2_methodFor_83 : decode cX2_methodFor 83 = .ok (.goto (-65), 3) := by decide +kernel
theorem dX2_methodFor_86 : decode cX2_methodFor 86 = .ok (.iload 4, 2) := by decide +kernel
theorem dX2_methodFor_88 : decode cX2_methodFor 88 = .ok (.bipush (-2), 2) := by decide +kernel
theorem dX2_methodFor_90 : decode cX2_methodFor 90 = .ok (.if_icmp .eq 8, 3) := by decide +kernel
theorem dX2_methodFor_93 : decode cX2_methodFor 93 = .ok (.iload 4, 2) := by decide +kernel
theorem dX2_methodFor_95 : decode cX2_methodFor 95 = .ok (.goto 24, 3) := by decide +kernel
theorem dX2_methodFor_98 : decode cX2_methodFor 98 = .ok (.aload_n 0, 1) := by decide +kernel
theorem dX2_methodFor_99 : decode cX2_methodFor 99 = .ok (.iload_n 2, 1) := by decide +kernel
theorem dX2_methodFor_100 : decode cX2_methodFor 100 = .ok (.aload_n 0, 1) := by decide +kernel
theorem dX2_methodFor_101 : decode cX2_methodFor 101 = .ok (.getfield 37, 3) := by decide +kernel
theorem dX2_methodFor_104 : decode cX2_methodFor 104 = .ok (.iload_n 1, 1) := by decide +kernel
theorem dX2_methodFor_105 : decode cX2_methodFor 105 = .ok (.iaload, 1) := by decide +kernel
theorem dX2_methodFor_106 : decode cX2_methodFor 106 = .ok (.aload_n 0, 1) := by decide +kernel
theorem dX2_methodFor_107 : decode cX2_methodFor 107 = .ok (.getfield 15, 3) := by decide +kernel
theorem dX2_methodFor_110 : decode cX2_methodFor 110 = .ok (.iand, 1) := by decide +kernel
theorem dX2_methodFor_111 : decode cX2_methodFor 111 = .ok (.iload_n 3, 1) := by decide +kernel
theorem dX2_methodFor_112 : decode cX2_methodFor 112 = .ok (.iconst (-1), 1) := by decide +kernel
theorem dX2_methodFor_113 : decode cX2_methodFor 113 = .ok (.ixor, 1) := by decide +kernel
theorem dX2_methodFor_114 : decode cX2_methodFor 114 = .ok (.iand, 1) := by decide +kernel
theorem dX2_methodFor_115 : decode cX2_methodFor 115 = .ok (.iconst 1, 1) := by decide +kernel
theorem dX2_methodFor_116 : decode cX2_methodFor 116 = .ok (.invokevirtual 139, 3) := by decide +kernel
theorem dX2_methodFor_119 : decode cX2_methodFor 119 = .ok (.ireturn, 1) := by decide +kernel
theorem dX2_takeClass_0 : decode cX2_takeClass 0 = .ok (.iconst 1, 1) := by decide +kernel
theorem dX2_takeClass_1 : decode cX2_takeClass 1 = .ok (.iload_n 1, 1) := by decide +kernel
theorem dX2_takeClass_2 : decode cX2_takeClass 2 = .ok (.ishl, 1) := by decide +kernel
theorem dX2_takeClass_3 : decode cX2_takeClass 3 = .ok (.iconst (-1), 1) := by decide +kernel
theorem dX2_takeClass_4 : decode cX2_takeClass 4 = .ok (.ixor, 1) := by decide +kernel
theorem dX2_takeClass_5 : decode cX2_takeClass 5 = .ok (.istore_n 2, 1) := by decide +kernel
theorem dX2_takeClass_6 : decode cX2_takeClass 6 = .ok (.aload_n 0, 1) := by decide +kernel
theorem dX2_takeClass_7 : decode cX2_takeClass 7 = .ok (.dup, 1) := by decide +kernel
theorem dX2_takeClass_8 : decode cX2_takeClass 8 = .ok (.getfield 9, 3) := by decide +kernel
theorem dX2_takeClass_11 : decode cX2_takeClass 11 = .ok (.iload_n 2, 1) := by decide +kernel
theorem dX2_takeClass_12 : decode cX2_takeClass 12 = .ok (.iand, 1) := by decide +kernel
theorem dX2_takeClass_13 : decode cX2_takeClass 13 = .ok (.putfield 9, 3) := by decide +kernel
theorem dX2_takeClass_16 : decode cX2_takeClass 16 = .ok (.aload_n 0, 1) := by decide +kernel
theorem dX2_takeClass_17 : decode cX2_takeClass 17 = .ok (.dup, 1) := by decide +kernel
theorem dX2_takeClass_18 : decode cX2_takeClass 18 = .ok (.getfield 15, 3) := by decide +kernel
theorem dX2_takeClass_21 : decode cX2_takeClass 21 = .ok (.iload_n 2, 1) := by decide +kernel
theorem dX2_takeClass_22 : decode cX2_takeClass 22 = .ok (.iand, 1) := by decide +kernel
theorem dX2_takeClass_23 : decode cX2_takeClass 23 = .ok (.putfield 15, 3) := by decide +kernel
theorem dX2_takeClass_26 : decode cX2_takeClass 26 = .ok (.aload_n 0, 1) := by decide +kernel
theorem dX2_takeClass_27 : decode cX2_takeClass 27 = .ok (.dup, 1) := by decide +kernel
theorem dX2_takeClass_28 : decode cX2_takeClass 28 = .ok (.getfield 18, 3) := by decide +kernel
theorem dX2_takeClass_31 : decode cX2_takeClass 31 = .ok (.iload_n 2, 1) := by decide +kernel
theorem dX2_takeClass_32 : decode cX2_takeClass 32 = .ok (.iand, 1) := by decide +kernel
theorem dX2_takeClass_33 : decode cX2_takeClass 33 = .ok (.putfield 18, 3) := by decide +kernel
theorem dX2_takeClass_36 : decode cX2_takeClass 36 = .ok (.aload_n 0, 1) := by decide +kernel
theorem dX2_takeClass_37 : decode cX2_takeClass 37 = .ok (.dup, 1) := by decide +kernel
theorem dX2_takeClass_38 : decode cX2_takeClass 38 = .ok (.getfield 21, 3) := by decide +kernel
theorem dX2_takeClass_41 : decode cX2_takeClass 41 = .ok (.iload_n 2, 1) := by decide +kernel
theorem dX2_takeClass_42 : decode cX2_takeClass 42 = .ok (.iand, 1) := by decide +kernel
theorem dX2_takeClass_43 : decode cX2_takeClass 43 = .ok (.putfield 21, 3) := by decide +kernel
theorem dX2_takeClass_46 : decode cX2_takeClass 46 = .ok (.aload_n 0, 1) := by decide +kernel
theorem dX2_takeClass_47 : decode cX2_takeClass 47 = .ok (.dup, 1) := by decide +kernel
theorem dX2_takeClass_48 : decode cX2_takeClass 48 = .ok (.getfield 24, 3) := by decide +kernel
theorem dX2_takeClass_51 : decode cX2_takeClass 51 = .ok (.iload_n 2, 1) := by decide +kernel
theorem dX2_takeClass_52 : decode cX2_takeClass 52 = .ok (.iand, 1) := by decide +kernel
theorem dX2_takeClass_53 : decode cX2_takeClass 53 = .ok (.putfield 24, 3) := by decide +kernel
theorem dX2_takeClass_56 : decode cX2_takeClass 56 = .ok (.aload_n 0, 1) := by decide +kernel
theorem dX2_takeClass_57 : decode cX2_takeClass 57 = .ok (.invokevirtual 70, 3) := by decide +kernel
theorem dX2_takeClass_60 : decode cX2_takeClass 60 = .ok (.return_, 1) := by decide +kernel
theorem dX2_putClass_0 : decode cX2_putClass 0 = .ok (.aload_n 0, 1) := by decide +kernel
theorem dX2_putClass_1 : decode cX2_putClass 1 = .ok (.iload_n 1, 1) := by decide +kernel
theorem dX2_putClass_2 : decode cX2_putClass 2 = .ok (.invokevirtual 66, 3) := by decide +kernel
theorem dX2_putClass_5 : decode cX2_putClass 5 = .ok (.iconst 1, 1) := by decide +kernel
theorem dX2_putClass_6 : decode cX2_putClass 6 = .ok (.iload_n 1, 1) := by decide +kernel
theorem dX2_putClass_7 : decode cX2_putClass 7 = .ok (.ishl, 1) := by decide +kernel
theorem dX2_putClass_8 : decode cX2_putClass 8 = .ok (.istore 5, 2) := by decide +kernel
theorem dX2_putClass_10 : decode cX2_putClass 10 = .ok (.aload_n 0, 1) := by decide +kernel
theorem dX2_putClass_11 : decode cX2_putClass 11 = .ok (.dup, 1) := by decide +kernel
theorem dX2_putClass_12 : decode cX2_putClass 12 = .ok (.getfield 9, 3) := by decide +kernel
theorem dX2_putClass_15 : decode cX2_putClass 15 = .ok (.iload 5, 2) := by decide +kernel
theorem dX2_putClass_17 : decode cX2_putClass 17 = .ok (.ior, 1) := by decide +kernel
theorem dX2_putClass_18 : decode cX2_putClass 18 = .ok (.putfield 9, 3) := by decide +kernel
theorem dX2_putClass_21 : decode cX2_putClass 21 = .ok (.iload_n 2, 1) := by decide +kernel
theorem dX2_putClass_22 : decode cX2_putClass 22 = .ok (.ifCond .eq 25, 3) := by decide +kernel
theorem dX2_putClass_25 : decode cX2_putClass 25 = .ok (.aload_n 0, 1) := by decide +kernel
theorem dX2_putClass_26 : decode cX2_putClass 26 = .ok (.dup, 1) := by decide +kernel
theorem dX2_putClass_27 : decode cX2_putClass 27 = .ok (.getfield 15, 3) := by decide +kernel
theorem dX2_putClass_30 : decode cX2_putClass 30 = .ok (.iload 5, 2) := by decide +kernel
theorem dX2_putClass_32 : decode cX2_putClass 32 = .ok (.ior, 1) := by decide +kernel
theorem dX2_putClass_33 : decode cX2_putClass 33 = .ok (.putfield 15, 3) := by decide +kernel
theorem dX2_putClass_36 : decode cX2_putClass 36 = .ok (.aload_n 0, 1) := by decide +kernel
theorem dX2_putClass_37 : decode cX2_putClass 37 = .ok (.dup, 1) := by decide +kernel
theorem dX2_putClass_38 : decode cX2_putClass 38 = .ok (.getfield 24, 3) := by decide +kernel
theorem dX2_putClass_41 : decode cX2_putClass 41 = .ok (.iload 5, 2) := by decide +kernel
theorem dX2_putClass_43 : decode cX2_putClass 43 = .ok (.ior, 1) := by decide +kernel
theorem dX2_putClass_44 : decode cX2_putClass 44 = .ok (.putfield 24, 3) := by decide +kernel
theorem dX2_putClass_47 : decode cX2_putClass 47 = .ok (.aload_n 0, 1) := by decide +kernel
theorem dX2_putClass_48 : decode cX2_putClass 48 = .ok (.getfield 27, 3) := by decide +kernel
theorem dX2_putClass_51 : decode cX2_putClass 51 = .ok (.iload_n 1, 1) := by decide +kernel
theorem dX2_putClass_52 : decode cX2_putClass 52 = .ok (.iconst 0, 1) := by decide +kernel
theorem dX2_putClass_53 : decode cX2_putClass 53 = .ok (.iastore, 1) := by decide +kernel
theorem dX2_putClass_54 : decode cX2_putClass 54 = .ok (.aload_n 0, 1) := by decide +kernel
theorem dX2_putClass_55 : decode cX2_putClass 55 = .ok (.getfield 31, 3) := by decide +kernel
theorem dX2_putClass_58 : decode cX2_putClass 58 = .ok (.iload_n 1, 1) := by decide +kernel
theorem dX2_putClass_59 : decode cX2_putClass 59 = .ok (.iload_n 3, 1) := by decide +kernel
theorem dX2_putClass_60 : decode cX2_putClass 60 = .ok (.iastore, 1) := by decide +kernel
theorem dX2_putClass_61 : decode cX2_putClass 61 = .ok (.aload_n 0, 1) := by decide +kernel
theorem dX2_putClass_62 : decode cX2_putClass 62 = .ok (.getfield 34, 3) := by decide +kernel
theorem dX2_putClass_65 : decode cX2_putClass 65 = .ok (.iload_n 1, 1) := by decide +kernel
theorem dX2_putClass_66 : decode cX2_putClass 66 = .ok (.iload 4, 2) := by decide +kernel
theorem dX2_putClass_68 : decode cX2_putClass 68 = .ok (.iastore, 1) := by decide +kernel
theorem dX2_putClass_69 : decode cX2_putClass 69 = .ok (.aload_n 0, 1) := by decide +kernel
theorem dX2_putClass_70 : decode cX2_putClass 70 = .ok (.invokevirtual 70, 3) := by decide +kernel
theorem dX2_putClass_73 : decode cX2_putClass 73 = .ok (.return_, 1) := by decide +kernel
theorem dX2_withBit_0 : decode cX2_withBit 0 = .ok (.iload_n 2, 1) := by decide +kernel
theorem dX2_withBit_1 : decode cX2_withBit 1 = .ok (.ifCond .eq 11, 3) := by decide +kernel
theorem dX2_withBit_4 : decode cX2_withBit 4 = .ok (.iload_n 0, 1) := by decide +kernel
theorem dX2_withBit_5 : decode cX2_withBit 5 = .ok (.iconst 1, 1) := by decide +kernel
theorem dX2_withBit_6 : decode cX2_withBit 6 = .ok (.iload_n 1, 1) := by decide +kernel
theorem dX2_withBit_7 : decode cX2_withBit 7 = .ok (.ishl, 1) := by decide +kernel
theorem dX2_withBit_8 : decode cX2_withBit 8 = .ok (.ior, 1) := by decide +kernel
theorem dX2_withBit_9 : decode cX2_withBit 9 = .ok (.goto 10, 3) := by decide +kernel
theorem dX2_withBit_12 : decode cX2_withBit 12 = .ok (.iload_n 0, 1) := by decide +kernel
theorem dX2_withBit_13 : decode cX2_withBit 13 = .ok (.iconst 1, 1) := by decide +kernel
theorem dX2_withBit_14 : decode cX2_withBit 14 = .ok (.iload_n 1, 1) := by decide +kernel
theorem dX2_withBit_15 : decode cX2_withBit 15 = .ok (.ishl, 1) := by decide +kernel
theorem dX2_withBit_16 : decode cX2_withBit 16 = .ok (.iconst (-1), 1) := by decide +kernel
theorem dX2_withBit_17 : decode cX2_withBit 17 = .ok (.ixor, 1) := by decide +kernel
theorem dX2_withBit_18 : decode cX2_withBit 18 = .ok (.iand, 1) := by decide +kernel
theorem dX2_withBit_19 : decode cX2_withBit 19 = .ok (.ireturn, 1) := by decide +kernel
theorem dX2_putValue_0 : decode cX2_putValue 0 = .ok (.iload_n 2, 1) := by decide +kernel
theorem dX2_putValue_1 : decode cX2_putValue 1 = .ok (.tableswitch 107 0 4 #[35, 51, 67, 83, 93], 35) := by decide +kernel
theorem dX2_putValue_36 : decode cX2_putValue 36 = .ok (.aload_n 0, 1) := by decide +kernel
theorem dX2_putValue_37 : decode cX2_putValue 37 = .ok (.aload_n 0, 1) := by decide +kernel
theorem dX2_putValue_38 : decode cX2_putValue 38 = .ok (.getfield 18, 3) := by decide +kernel
theorem dX2_putValue_41 : decode cX2_putValue 41 = .ok (.iload_n 1, 1) := by decide +kernel
theorem dX2_putValue_42 : decode cX2_putValue 42 = .ok (.iload_n 3, 1) := by decide +kernel
theorem dX2_putValue_43 : decode cX2_putValue 43 = .ok (.invokestatic 94, 3) := by decide +kernel
theorem dX2_putValue_46 : decode cX2_putValue 46 = .ok (.putfield 18, 3) := by decide +kernel
theorem dX2_putValue_49 : decode cX2_putValue 49 = .ok (.goto 70, 3) := by decide +kernel
theorem dX2_putValue_52 : decode cX2_putValue 52 = .ok (.aload_n 0, 1) := by decide +kernel
theorem dX2_putValue_53 : decode cX2_putValue 53 = .ok (.aload_n 0, 1) := by decide +kernel
theorem dX2_putValue_54 : decode cX2_putValue 54 = .ok (.getfield 21, 3) := by decide +kernel
theorem dX2_putValue_57 : decode cX2_putValue 57 = .ok (.iload_n 1, 1) := by decide +kernel
theorem dX2_putValue_58 : decode cX2_putValue 58 = .ok (.iload_n 3, 1) := by decide +kernel
theorem dX2_putValue_59 : decode cX2_putValue 59 = .ok (.invokestatic 94, 3) := by decide +kernel
theorem dX2_putValue_62 : decode cX2_putValue 62 = .ok (.putfield 21, 3) := by decide +kernel
theorem dX2_putValue_65 : decode cX2_putValue 65 = .ok (.goto 54, 3) := by decide +kernel
theorem dX2_putValue_68 : decode cX2_putValue 68 = .ok (.aload_n 0, 1) := by decide +kernel
theorem dX2_putValue_69 : decode cX2_putValue 69 = .ok (.aload_n 0, 1) := by decide +kernel
theorem dX2_putValue_70 : decode cX2_putValue 70 = .ok (.getfield 24, 3) := by decide +kernel
theorem dX2_putValue_73 : decode cX2_putValue 73 = .ok (.iload_n 1, 1) := by decide +kernel
theorem dX2_putValue_74 : decode cX2_putValue 74 = .ok (.iload_n 3, 1) := by decide +kernel
theorem dX2_putValue_75 : decode cX2_putValue 75 = .ok (.invokestatic 94, 3) := by decide +kernel
theorem dX2_putValue_78 : decode cX2_putValue 78 = .ok (.putfield 24, 3) := by decide +kernel
theorem dX2_putValue_81 : decode cX2_putValue 81 = .ok (.goto 38, 3) := by decide +kernel
theorem dX2_putValue_84 : decode cX2_putValue 84 = .ok (.aload_n 0, 1) := by decide +kernel
theorem dX2_putValue_85 : decode cX2_putValue 85 = .ok (.getfield 27, 3) := by decide +kernel
theorem dX2_putValue_88 : decode cX2_putValue 88 = .ok (.iload_n 1, 1) := by decide +kernel
theorem dX2_putValue_89 : decode cX2_putValue 89 = .ok (.iload_n 3, 1) := by decide +kernel
theorem dX2_putValue_90 : decode cX2_putValue 90 = .ok (.iastore, 1) := by decide +kernel
theorem dX2_putValue_91 : decode cX2_putValue 91 = .ok (.goto 28, 3) := by decide +kernel
theorem dX2_putValue_94 : decode cX2_putValue 94 = .ok (.aload_n 0, 1) := by decide +kernel
theorem dX2_putValue_95 : decode cX2_putValue 95 = .ok (.getfield 31, 3) := by decide +kernel
theorem dX2_putValue_98 : decode cX2_putValue 98 = .ok (.iload_n 1, 1) := by decide +kernel
theorem dX2_putValue_99 : decode cX2_putValue 99 = .ok (.iload_n 3, 1) := by decide +kernel
theorem dX2_putValue_100 : decode cX2_putValue 100 = .ok (.iastore, 1) := by decide +kernel
theorem dX2_putValue_101 : decode cX2_putValue 101 = .ok (.aload_n 0, 1) := by decide +kernel
theorem dX2_putValue_102 : decode cX2_putValue 102 = .ok (.invokevirtual 70, 3) := by decide +kernel
theorem dX2_putValue_105 : decode cX2_putValue 105 = .ok (.goto 14, 3) := by decide +kernel
theorem dX2_putValue_108 : decode cX2_putValue 108 = .ok (.aload_n 0, 1) := by decide +kernel
theorem dX2_putValue_109 : decode cX2_putValue 109 = .ok (.getfield 34, 3) := by decide +kernel
theorem dX2_putValue_112 : decode cX2_putValue 112 = .ok (.iload_n 1, 1) := by decide +kernel
theorem dX2_putValue_113 : decode cX2_putValue 113 = .ok (.iload_n 3, 1) := by decide +kernel
theorem dX2_putValue_114 : decode cX2_putValue 114 = .ok (.iastore, 1) := by decide +kernel
theorem dX2_putValue_115 : decode cX2_putValue 115 = .ok (.aload_n 0, 1) := by decide +kernel
theorem dX2_putValue_116 : decode cX2_putValue 116 = .ok (.invokevirtual 70, 3) := by decide +kernel
theorem dX2_putValue_119 : decode cX2_putValue 119 = .ok (.return_, 1) := by decide +kernel
theorem dX4_countOf_0 : decode cX4_countOf 0 = .ok (.iconst 0, 1) := by decide +kernel
theorem dX4_countOf_1 : decode cX4_countOf 1 = .ok (.istore_n 2, 1) := by decide +kernel
theorem dX4_countOf_2 : decode cX4_countOf 2 = .ok (.iconst 0, 1) := by decide +kernel
theorem dX4_countOf_3 : decode cX4_countOf 3 = .ok (.istore_n 3, 1) := by decide +kernel
theorem dX4_countOf_4 : decode cX4_countOf 4 = .ok (.iload_n 3, 1) := by decide +kernel
theorem dX4_countOf_5 : decode cX4_countOf 5 = .ok (.aload_n 0, 1) := by decide +kernel
theorem dX4_countOf_6 : decode cX4_countOf 6 = .ok (.getfield 9, 3) := by decide +kernel
theorem dX4_countOf_9 : decode cX4_countOf 9 = .ok (.if_icmp .ge 22, 3) := by decide +kernel
theorem dX4_countOf_12 : decode cX4_countOf 12 = .ok (.aload_n 0, 1) := by decide +kernel
theorem dX4_countOf_13 : decode cX4_countOf 13 = .ok (.getfield 28, 3) := by decide +kernel
theorem dX4_countOf_16 : decode cX4_countOf 16 = .ok (.iload_n 3, 1) := by decide +kernel
theorem dX4_countOf_17 : decode cX4_countOf 17 = .ok (.iaload, 1) := by decide +kernel
theorem dX4_countOf_18 : decode cX4_countOf 18 = .ok (.iload_n 1, 1) := by decide +kernel
theorem dX4_countOf_19 : decode cX4_countOf 19 = .ok (.if_icmp .ne 6, 3) := by decide +kernel
theorem dX4_countOf_22 : decode cX4_countOf 22 = .ok (.iinc 2 1, 3) := by decide +kernel
theorem dX4_countOf_25 : decode cX4_countOf 25 = .ok (.iinc 3 1, 3) := by decide +kernel
theorem dX4_countOf_28 : decode cX4_countOf 28 = .ok (.goto (-24), 3) := by decide +kernel
theorem dX4_countOf_31 : decode cX4_countOf 31 = .ok (.iload_n 2, 1) := by decide +kernel
theorem dX4_countOf_32 : decode cX4_countOf 32 = .ok (.ireturn, 1) := by decide +kernel
theorem dX2_valueOf_0 : decode cX2_valueOf 0 = .ok (.iload_n 2, 1) := by decide +kernel
theorem dX2_valueOf_1 : decode cX2_valueOf 1 = .ok (.tableswitch 124 0 8 #[51, 60, 69, 78, 85, 92, 99, 108, 117], 51) := by decide +kernel
theorem dX2_valueOf_52 : decode cX2_valueOf 52 = .ok (.aload_n 0, 1) := by decide +kernel
theorem dX2_valueOf_53 : decode cX2_valueOf 53 = .ok (.getfield 18, 3) := by decide +kernel
theorem dX2_valueOf_56 : decode cX2_valueOf 56 = .ok (.iload_n 1, 1) := by decide +kernel
theorem dX2_valueOf_57 : decode cX2_valueOf 57 = .ok (.ishr, 1) := by decide +kernel
theorem dX2_valueOf_58 : decode cX2_valueOf 58 = .ok (.iconst 1, 1) := by decide +kernel
theorem dX2_valueOf_59 : decode cX2_valueOf 59 = .ok (.iand, 1) := by decide +kernel
theorem dX2_valueOf_60 : decode cX2_valueOf 60 = .ok (.ireturn, 1) := by decide +kernel
theorem dX2_valueOf_61 : decode cX2_valueOf 61 = .ok (.aload_n 0, 1) := by decide +kernel
theorem dX2_valueOf_62 : decode cX2_valueOf 62 = .ok (.getfield 21, 3) := by decide +kernel
theorem dX2_valueOf_65 : decode cX2_valueOf 65 = .ok (.iload_n 1, 1) := by decide +kernel
theorem dX2_valueOf_66 : decode cX2_valueOf 66 = .ok (.ishr, 1) := by decide +kernel
theorem dX2_valueOf_67 : decode cX2_valueOf 67 = .ok (.iconst 1, 1) := by decide +kernel
theorem dX2_valueOf_68 : decode cX2_valueOf 68 = .ok (.iand, 1) := by decide +kernel
theorem dX2_valueOf_69 : decode cX2_valueOf 69 = .ok (.ireturn, 1) := by decide +kernel
theorem dX2_valueOf_70 : decode cX2_valueOf 70 = .ok (.aload_n 0, 1) := by decide +kernel
theorem dX2_valueOf_71 : decode cX2_valueOf 71 = .ok (.getfield 24, 3) := by decide +kernel
theorem dX2_valueOf_74 : decode cX2_valueOf 74 = .ok (.iload_n 1, 1) := by decide +kernel
theorem dX2_valueOf_75 : decode cX2_valueOf 75 = .ok (.ishr, 1) := by decide +kernel
theorem dX2_valueOf_76 : decode cX2_valueOf 76 = .ok (.iconst 1, 1) := by decide +kernel
theorem dX2_valueOf_77 : decode cX2_valueOf 77 = .ok (.iand, 1) := by decide +kernel
theorem dX2_valueOf_78 : decode cX2_valueOf 78 = .ok (.ireturn, 1) := by decide +kernel
theorem dX2_valueOf_79 : decode cX2_valueOf 79 = .ok (.aload_n 0, 1) := by decide +kernel
theorem dX2_valueOf_80 : decode cX2_valueOf 80 = .ok (.getfield 27, 3) := by decide +kernel
theorem dX2_valueOf_83 : decode cX2_valueOf 83 = .ok (.iload_n 1, 1) := by decide +kernel
theorem dX2_valueOf_84 : decode cX2_valueOf 84 = .ok (.iaload, 1) := by decide +kernel
theorem dX2_valueOf_85 : decode cX2_valueOf 85 = .ok (.ireturn, 1) := by decide +kernel
theorem dX2_valueOf_86 : decode cX2_valueOf 86 = .ok (.aload_n 0, 1) := by decide +kernel
theorem dX2_valueOf_87 : decode cX2_valueOf 87 = .ok (.getfield 31, 3) := by decide +kernel
theorem dX2_valueOf_90 : decode cX2_valueOf 90 = .ok (.iload_n 1, 1) := by decide +kernel
theorem dX2_valueOf_91 : decode cX2_valueOf 91 = .ok (.iaload, 1) := by decide +kernel
theorem dX2_valueOf_92 : decode cX2_valueOf 92 = .ok (.ireturn, 1) := by decide +kernel
theorem dX2_valueOf_93 : decode cX2_valueOf 93 = .ok (.aload_n 0, 1) := by decide +kernel
theorem dX2_valueOf_94 : decode cX2_valueOf 94 = .ok (.getfield 34, 3) := by decide +kernel
theorem dX2_valueOf_97 : decode cX2_valueOf 97 = .ok (.iload_n 1, 1) := by decide +kernel
theorem dX2_valueOf_98 : decode cX2_valueOf 98 = .ok (.iaload, 1) := by decide +kernel
theorem dX2_valueOf_99 : decode cX2_valueOf 99 = .ok (.ireturn, 1) := by decide +kernel
theorem dX2_valueOf_100 : decode cX2_valueOf 100 = .ok (.aload_n 0, 1) := by decide +kernel
theorem dX2_valueOf_101 : decode cX2_valueOf 101 = .ok (.getfield 15, 3) := by decide +kernel
theorem dX2_valueOf_104 : decode cX2_valueOf 104 = .ok (.iload_n 1, 1) := by decide +kernel
theorem dX2_valueOf_105 : decode cX2_valueOf 105 = .ok (.ishr, 1) := by decide +kernel
theorem dX2_valueOf_106 : decode cX2_valueOf 106 = .ok (.iconst 1, 1) := by decide +kernel
theorem dX2_valueOf_107 : decode cX2_valueOf 107 = .ok (.iand, 1) := by decide +kernel
theorem dX2_valueOf_108 : decode cX2_valueOf 108 = .ok (.ireturn, 1) := by decide +kernel
theorem dX2_valueOf_109 : decode cX2_valueOf 109 = .ok (.aload_n 0, 1) := by decide +kernel
theorem dX2_valueOf_110 : decode cX2_valueOf 110 = .ok (.getfield 46, 3) := by decide +kernel
theorem dX2_valueOf_113 : decode cX2_valueOf 113 = .ok (.iload_n 1, 1) := by decide +kernel
theorem dX2_valueOf_114 : decode cX2_valueOf 114 = .ok (.invokevirtual 86, 3) := by decide +kernel
theorem dX2_valueOf_117 : decode cX2_valueOf 117 = .ok (.ireturn, 1) := by decide +kernel
theorem dX2_valueOf_118 : decode cX2_valueOf 118 = .ok (.aload_n 0, 1) := by decide +kernel
theorem dX2_valueOf_119 : decode cX2_valueOf 119 = .ok (.getfield 37, 3) := by decide +kernel
theorem dX2_valueOf_122 : decode cX2_valueOf 122 = .ok (.iload_n 1, 1) := by decide +kernel
theorem dX2_valueOf_123 : decode cX2_valueOf 123 = .ok (.iaload, 1) := by decide +kernel
theorem dX2_valueOf_124 : decode cX2_valueOf 124 = .ok (.ireturn, 1) := by decide +kernel
theorem dX2_valueOf_125 : decode cX2_valueOf 125 = .ok (.aload_n 0, 1) := by decide +kernel
theorem dX2_valueOf_126 : decode cX2_valueOf 126 = .ok (.aload_n 0, 1) := by decide +kernel
theorem dX2_valueOf_127 : decode cX2_valueOf 127 = .ok (.getfield 40, 3) := by decide +kernel
theorem dX2_valueOf_130 : decode cX2_valueOf 130 = .ok (.iload_n 1, 1) := by decide +kernel
theorem dX2_valueOf_131 : decode cX2_valueOf 131 = .ok (.iaload, 1) := by decide +kernel
theorem dX2_valueOf_132 : decode cX2_valueOf 132 = .ok (.aload_n 0, 1) := by decide +kernel
theorem dX2_valueOf_133 : decode cX2_valueOf 133 = .ok (.getfield 37, 3) := by decide +kernel
theorem dX2_valueOf_136 : decode cX2_valueOf 136 = .ok (.iload_n 1, 1) := by decide +kernel
theorem dX2_valueOf_137 : decode cX2_valueOf 137 = .ok (.iaload, 1) := by decide +kernel
theorem dX2_valueOf_138 : decode cX2_valueOf 138 = .ok (.invokevirtual 90, 3) := by decide +kernel
theorem dX2_valueOf_141 : decode cX2_valueOf 141 = .ok (.ifCond .eq 7, 3) := by decide +kernel
theorem dX2_valueOf_144 : decode cX2_valueOf 144 = .ok (.iconst 1, 1) := by decide +kernel
theorem dX2_valueOf_145 : decode cX2_valueOf 145 = .ok (.goto 4, 3) := by decide +kernel
theorem dX2_valueOf_148 : decode cX2_valueOf 148 = .ok (.iconst 0, 1) := by decide +kernel
theorem dX2_valueOf_149 : decode cX2_valueOf 149 = .ok (.ireturn, 1) := by decide +kernel
theorem dX4_signatureOf_0 : decode cX4_signatureOf 0 = .ok (.iload_n 0, 1) := by decide +kernel
theorem dX4_signatureOf_1 : decode cX4_signatureOf 1 = .ok (.bipush 12, 2) := by decide +kernel
theorem dX4_signatureOf_3 : decode cX4_signatureOf 3 = .ok (.imul, 1) := by decide +kernel
theorem dX4_signatureOf_4 : decode cX4_signatureOf 4 = .ok (.iload_n 1, 1) := by decide +kernel
theorem dX4_signatureOf_5 : decode cX4_signatureOf 5 = .ok (.iadd, 1) := by decide +kernel
theorem dX4_signatureOf_6 : decode cX4_signatureOf 6 = .ok (.bipush (-2), 2) := by decide +kernel
theorem dX4_signatureOf_8 : decode cX4_signatureOf 8 = .ok (.isub, 1) := by decide +kernel
theorem dX4_signatureOf_9 : decode cX4_signatureOf 9 = .ok (.bipush 12, 2) := by decide +kernel
theorem dX4_signatureOf_11 : decode cX4_signatureOf 11 = .ok (.imul, 1) := by decide +kernel
theorem dX4_signatureOf_12 : decode cX4_signatureOf 12 = .ok (.iload_n 2, 1) := by decide +kernel
theorem dX4_signatureOf_13 : decode cX4_signatureOf 13 = .ok (.iadd, 1) := by decide +kernel
theorem dX4_signatureOf_14 : decode cX4_signatureOf 14 = .ok (.bipush (-2), 2) := by decide +kernel
theorem dX4_signatureOf_16 : decode cX4_signatureOf 16 = .ok (.isub, 1) := by decide +kernel
theorem dX4_signatureOf_17 : decode cX4_signatureOf 17 = .ok (.ireturn, 1) := by decide +kernel
theorem dX4_descriptorOf_0 : decode cX4_descriptorOf 0 = .ok (.iload_n 0, 1) := by decide +kernel
theorem dX4_descriptorOf_1 : decode cX4_descriptorOf 1 = .ok (.bipush 12, 2) := by decide +kernel
theorem dX4_descriptorOf_3 : decode cX4_descriptorOf 3 = .ok (.imul, 1) := by decide +kernel
theorem dX4_descriptorOf_4 : decode cX4_descriptorOf 4 = .ok (.iload_n 1, 1) := by decide +kernel
theorem dX4_descriptorOf_5 : decode cX4_descriptorOf 5 = .ok (.iadd, 1) := by decide +kernel
theorem dX4_descriptorOf_6 : decode cX4_descriptorOf 6 = .ok (.bipush (-2), 2) := by decide +kernel
theorem dX4_descriptorOf_8 : decode cX4_descriptorOf 8 = .ok (.isub, 1) := by decide +kernel
theorem dX4_descriptorOf_9 : decode cX4_descriptorOf 9 = .ok (.ireturn, 1) := by decide +kernel
theorem dX3_runs_0 : decode cX3_runs 0 = .ok (.aload_n 0, 1) := by decide +kernel
theorem dX3_runs_1 : decode cX3_runs 1 = .ok (.getfield 15, 3) := by decide +kernel
theorem dX3_runs_4 : decode cX3_runs 4 = .ok (.iload_n 1, 1) := by decide +kernel
theorem dX3_runs_5 : decode cX3_runs 5 = .ok (.invokevirtual 97, 3) := by decide +kernel
theorem dX3_runs_8 : decode cX3_runs 8 = .ok (.ifCond .ne 14, 3) := by decide +kernel
theorem dX3_runs_11 : decode cX3_runs 11 = .ok (.aload_n 0, 1) := by decide +kernel
theorem dX3_runs_12 : decode cX3_runs 12 = .ok (.getfield 15, 3) := by decide +kernel
theorem dX3_runs_15 : decode cX3_runs 15 = .ok (.iload_n 1, 1) := by decide +kernel
theorem dX3_runs_16 : decode cX3_runs 16 = .ok (.invokevirtual 57, 3) := by decide +kernel
theorem dX3_runs_19 : decode cX3_runs 19 = .ok (.ifCond .eq 5, 3) := by decide +kernel
theorem dX3_runs_22 : decode cX3_runs 22 = .ok (.iconst 1, 1) := by decide +kernel
theorem dX3_runs_23 : decode cX3_runs 23 = .ok (.ireturn, 1) := by decide +kernel
theorem dX3_runs_24 : decode cX3_runs 24 = .ok (.aload_n 0, 1) := by decide +kernel
theorem dX3_runs_25 : decode cX3_runs 25 = .ok (.getfield 15, 3) := by decide +kernel
theorem dX3_runs_28 : decode cX3_runs 28 = .ok (.iload_n 2, 1) := by decide +kernel
theorem dX3_runs_29 : decode cX3_runs 29 = .ok (.aload_n 0, 1) := by decide +kernel
theorem dX3_runs_30 : decode cX3_runs 30 = .ok (.getfield 15, 3) := by decide +kernel
theorem dX3_runs_33 : decode cX3_runs 33 = .ok (.getfield 122, 3) := by decide +kernel
theorem dX3_runs_36 : decode cX3_runs 36 = .ok (.iload_n 1, 1) := by decide +kernel
theorem dX3_runs_37 : decode cX3_runs 37 = .ok (.iaload, 1) := by decide +kernel
theorem dX3_runs_38 : decode cX3_runs 38 = .ok (.aload_n 0, 1) := by decide +kernel
theorem dX3_runs_39 : decode cX3_runs 39 = .ok (.getfield 15, 3) := by decide +kernel
theorem dX3_runs_42 : decode cX3_runs 42 = .ok (.getfield 125, 3) := by decide +kernel
theorem dX3_runs_45 : decode cX3_runs 45 = .ok (.iload_n 1, 1) := by decide +kernel
theorem dX3_runs_46 : decode cX3_runs 46 = .ok (.iaload, 1) := by decide +kernel
theorem dX3_runs_47 : decode cX3_runs 47 = .ok (.invokevirtual 128, 3) := by decide +kernel
theorem dX3_runs_50 : decode cX3_runs 50 = .ok (.istore_n 3, 1) := by decide +kernel
theorem dX3_runs_51 : decode cX3_runs 51 = .ok (.iload_n 3, 1) := by decide +kernel
theorem dX3_runs_52 : decode cX3_runs 52 = .ok (.bipush (-2), 2) := by decide +kernel
theorem dX3_runs_54 : decode cX3_runs 54 = .ok (.if_icmp .eq 21, 3) := by decide +kernel
theorem dX3_runs_57 : decode cX3_runs 57 = .ok (.aload_n 0, 1) := by decide +kernel
theorem dX3_runs_58 : decode cX3_runs 58 = .ok (.getfield 15, 3) := by decide +kernel
theorem dX3_runs_61 : decode cX3_runs 61 = .ok (.getfield 81, 3) := by decide +kernel
theorem dX3_runs_64 : decode cX3_runs 64 = .ok (.iload_n 3, 1) := by decide +kernel
theorem dX3_runs_65 : decode cX3_runs 65 = .ok (.invokevirtual 131, 3) := by decide +kernel
theorem dX3_runs_68 : decode cX3_runs 68 = .ok (.ifCond .ne 7, 3) := by decide +kernel
theorem dX3_runs_71 : decode cX3_runs 71 = .ok (.iconst 1, 1) := by decide +kernel
theorem dX3_runs_72 : decode cX3_runs 72 = .ok (.goto 4, 3) := by decide +kernel
theorem dX3_runs_75 : decode cX3_runs 75 = .ok (.iconst 0, 1) := by decide +kernel
theorem dX3_runs_76 : decode cX3_runs 76 = .ok (.ireturn, 1) := by decide +kernel
theorem dX3_callError_0 : decode cX3_callError 0 = .ok (.aload_n 1, 1) := by decide +kernel
theorem dX3_callError_1 : decode cX3_callError 1 = .ok (.getfield 19, 3) := by decide +kernel
theorem dX3_callError_4 : decode cX3_callError 4 = .ok (.astore_n 2, 1) := by decide +kernel
theorem dX3_callError_5 : decode cX3_callError 5 = .ok (.aload_n 0, 1) := by decide +kernel
theorem dX3_callError_6 : decode cX3_callError 6 = .ok (.getfield 15, 3) := by decide +kernel
theorem dX3_callError_9 : decode cX3_callError 9 = .ok (.aload_n 1, 1) := by decide +kernel
theorem dX3_callError_10 : decode cX3_callError 10 = .ok (.getfield 31, 3) := by decide +kernel
theorem dX3_callError_13 : decode cX3_callError 13 = .ok (.invokevirtual 97, 3) := by decide +kernel
theorem dX3_callError_16 : decode cX3_callError 16 = .ok (.ifCond .eq 7, 3) := by decide +kernel
theorem dX3_callError_19 : decode cX3_callError 19 = .ok (.iconst 1, 1) := by decide +kernel
theorem dX3_callError_20 : decode cX3_callError 20 = .ok (.goto 4, 3) := by decide +kernel
theorem dX3_callError_23 : decode cX3_callError 23 = .ok (.iconst 0, 1) := by decide +kernel
theorem dX3_callError_24 : decode cX3_callError 24 = .ok (.aload_n 2, 1) := by decide +kernel
theorem dX3_callError_25 : decode cX3_callError 25 = .ok (.getfield 100, 3) := by decide +kernel
theorem dX3_callError_28 : decode cX3_callError 28 = .ok (.if_icmp .eq 5, 3) := by decide +kernel
theorem dX3_callError_31 : decode cX3_callError 31 = .ok (.iconst 5, 1) := by decide +kernel
theorem dX3_callError_32 : decode cX3_callError 32 = .ok (.ireturn, 1) := by decide +kernel
theorem dX3_callError_33 : decode cX3_callError 33 = .ok (.aload_n 1, 1) := by decide +kernel
theorem dX3_callError_34 : decode cX3_callError 34 = .ok (.getfield 67, 3) := by decide +kernel
theorem dX3_callError_37 : decode cX3_callError 37 = .ok (.aload_n 2, 1) := by decide +kernel
theorem dX3_callError_38 : decode cX3_callError 38 = .ok (.getfield 103, 3) := by decide +kernel
theorem dX3_callError_41 : decode cX3_callError 41 = .ok (.aload_n 2, 1) := by decide +kernel
theorem dX3_callError_42 : decode cX3_callError 42 = .ok (.getfield 106, 3) := by decide +kernel
theorem dX3_callError_45 : decode cX3_callError 45 = .ok (.invokestatic 109, 3) := by decide +kernel
theorem dX3_callError_48 : decode cX3_callError 48 = .ok (.istore_n 3, 1) := by decide +kernel
theorem dX3_callError_49 : decode cX3_callError 49 = .ok (.iload_n 3, 1) := by decide +kernel
theorem dX3_callError_50 : decode cX3_callError 50 = .ok (.aload_n 2, 1) := by decide +kernel
theorem dX3_callError_51 : decode cX3_callError 51 = .ok (.getfield 70, 3) := by decide +kernel
theorem dX3_callError_54 : decode cX3_callError 54 = .ok (.invokestatic 112, 3) := by decide +kernel
theorem dX3_callError_57 : decode cX3_callError 57 = .ok (.istore 4, 2) := by decide +kernel
theorem dX3_callError_59 : decode cX3_callError 59 = .ok (.aload_n 0, 1) := by decide +kernel
theorem dX3_callError_60 : decode cX3_callError 60 = .ok (.getfield 15, 3) := by decide +kernel
theorem dX3_callError_63 : decode cX3_callError 63 = .ok (.aload_n 1, 1) := by decide +kernel
theorem dX3_callError_64 : decode cX3_callError 64 = .ok (.getfield 31, 3) := by decide +kernel
theorem dX3_callError_67 : decode cX3_callError 67 = .ok (.iload 4, 2) := by decide +kernel
theorem dX3_callError_69 : decode cX3_callError 69 = .ok (.invokevirtual 116, 3) := by decide +kernel
theorem dX3_callError_72 : decode cX3_callError 72 = .ok (.istore 5, 2) := by decide +kernel
theorem dX3_callError_74 : decode cX3_callError 74 = .ok (.iload 5, 2) := by decide +kernel
theorem dX3_callError_76 : decode cX3_callError 76 = .ok (.bipush (-2), 2) := by decide +kernel
theorem dX3_callError_78 : decode cX3_callError 78 = .ok (.if_icmp .ne 5, 3) := by decide +kernel
theorem dX3_callError_81 : decode cX3_callError 81 = .ok (.iconst 4, 1) := by decide +kernel
theorem dX3_callError_82 : decode cX3_callError 82 = .ok (.ireturn, 1) := by decide +kernel
theorem dX3_callError_83 : decode cX3_callError 83 = .ok (.aload_n 0, 1) := by decide +kernel
theorem dX3_callError_84 : decode cX3_callError 84 = .ok (.getfield 15, 3) := by decide +kernel
theorem dX3_callError_87 : decode cX3_callError 87 = .ok (.iload 5, 2) := by decide +kernel
theorem dX3_callError_89 : decode cX3_callError 89 = .ok (.aload_n 1, 1) := by decide +kernel
theorem dX3_callError_90 : decode cX3_callError 90 = .ok (.invokevirtual 77, 3) := by decide +kernel
theorem dX3_callError_93 : decode cX3_callError 93 = .ok (.ifCond .ne 5, 3) := by decide +kernel
theorem dX3_callError_96 : decode cX3_callError 96 = .ok (.iconst 2, 1) := by decide +kernel
theorem dX3_callError_97 : decode cX3_callError 97 = .ok (.ireturn, 1) := by decide +kernel
theorem dX3_callError_98 : decode cX3_callError 98 = .ok (.aload_n 0, 1) := by decide +kernel
theorem dX3_callError_99 : decode cX3_callError 99 = .ok (.getfield 15, 3) := by decide +kernel
theorem dX3_callError_102 : decode cX3_callError 102 = .ok (.getfield 81, 3) := by decide +kernel
theorem dX3_callError_105 : decode cX3_callError 105 = .ok (.getfield 85, 3) := by decide +kernel
theorem dX3_callError_108 : decode cX3_callError 108 = .ok (.iload 5, 2) := by decide +kernel
theorem dX3_callError_110 : decode cX3_callError 110 = .ok (.iaload, 1) := by decide +kernel
theorem dX3_callError_111 : decode cX3_callError 111 = .ok (.iconst 1, 1) := by decide +kernel
theorem dX3_callError_112 : decode cX3_callError 112 = .ok (.iand, 1) := by decide +kernel
theorem dX3_callError_113 : decode cX3_callError 113 = .ok (.istore 6, 2) := by decide +kernel
theorem dX3_callError_115 : decode cX3_callError 115 = .ok (.iload 6, 2) := by decide +kernel
theorem dX3_callError_117 : decode cX3_callError 117 = .ok (.aload_n 2, 1) := by decide +kernel
theorem dX3_callError_118 : decode cX3_callError 118 = .ok (.getfield 91, 3) := by decide +kernel
theorem dX3_callError_121 : decode cX3_callError 121 = .ok (.if_icmp .eq 5, 3) := by decide +kernel
theorem dX3_callError_124 : decode cX3_callError 124 = .ok (.iconst 5, 1) := by decide +kernel
theorem dX3_callError_125 : decode cX3_callError 125 = .ok (.ireturn, 1) := by decide +kernel
theorem dX3_callError_126 : decode cX3_callError 126 = .ok (.iload 6, 2) := by decide +kernel
theorem dX3_callError_128 : decode cX3_callError 128 = .ok (.ifCond .ne 19, 3) := by decide +kernel
theorem dX3_callError_131 : decode cX3_callError 131 = .ok (.aload_n 0, 1) := by decide +kernel
theorem dX3_callError_132 : decode cX3_callError 132 = .ok (.aload_n 1, 1) := by decide +kernel
theorem dX3_callError_133 : decode cX3_callError 133 = .ok (.getfield 31, 3) := by decide +kernel
theorem dX3_callError_136 : decode cX3_callError 136 = .ok (.iload 4, 2) := by decide +kernel
theorem dX3_callError_138 : decode cX3_callError 138 = .ok (.invokevirtual 119, 3) := by decide +kernel
theorem dX3_callError_141 : decode cX3_callError 141 = .ok (.ifCond .ne 6, 3) := by decide +kernel
theorem dX3_callError_144 : decode cX3_callError 144 = .ok (.bipush 6, 2) := by decide +kernel
theorem dX3_callError_146 : decode cX3_callError 146 = .ok (.ireturn, 1) := by decide +kernel
theorem dX3_callError_147 : decode cX3_callError 147 = .ok (.aload_n 0, 1) := by decide +kernel
theorem dX3_callError_148 : decode cX3_callError 148 = .ok (.aload_n 0, 1) := by decide +kernel
theorem dX3_callError_149 : decode cX3_callError 149 = .ok (.getfield 15, 3) := by decide +kernel
theorem dX3_callError_152 : decode cX3_callError 152 = .ok (.getfield 81, 3) := by decide +kernel
theorem dX3_callError_155 : decode cX3_callError 155 = .ok (.getfield 94, 3) := by decide +kernel
theorem dX3_callError_158 : decode cX3_callError 158 = .ok (.iload 5, 2) := by decide +kernel
theorem dX3_callError_160 : decode cX3_callError 160 = .ok (.iaload, 1) := by decide +kernel
theorem dX3_callError_161 : decode cX3_callError 161 = .ok (.putfield 9, 3) := by decide +kernel
theorem dX3_callError_164 : decode cX3_callError 164 = .ok (.iconst 0, 1) := by decide +kernel
theorem dX3_callError_165 : decode cX3_callError 165 = .ok (.ireturn, 1) := by decide +kernel
theorem dX3_fieldError_0 : decode cX3_fieldError 0 = .ok (.aload_n 0, 1) := by decide +kernel
theorem dX3_fieldError_1 : decode cX3_fieldError 1 = .ok (.getfield 15, 3) := by decide +kernel
theorem dX3_fieldError_4 : decode cX3_fieldError 4 = .ok (.aload_n 1, 1) := by decide +kernel
theorem dX3_fieldError_5 : decode cX3_fieldError 5 = .ok (.getfield 31, 3) := by decide +kernel
theorem dX3_fieldError_8 : decode cX3_fieldError 8 = .ok (.aload_n 1, 1) := by decide +kernel
theorem dX3_fieldError_9 : decode cX3_fieldError 9 = .ok (.getfield 67, 3) := by decide +kernel
theorem dX3_fieldError_12 : decode cX3_fieldError 12 = .ok (.aload_n 1, 1) := by decide +kernel
theorem dX3_fieldError_13 : decode cX3_fieldError 13 = .ok (.getfield 19, 3) := by decide +kernel
theorem dX3_fieldError_16 : decode cX3_fieldError 16 = .ok (.getfield 70, 3) := by decide +kernel
theorem dX3_fieldError_19 : decode cX3_fieldError 19 = .ok (.invokevirtual 73, 3) := by decide +kernel
theorem dX3_fieldError_22 : decode cX3_fieldError 22 = .ok (.istore_n 2, 1) := by decide +kernel
theorem dX3_fieldError_23 : decode cX3_fieldError 23 = .ok (.iload_n 2, 1) := by decide +kernel
theorem dX3_fieldError_24 : decode cX3_fieldError 24 = .ok (.bipush (-2), 2) := by decide +kernel
theorem dX3_fieldError_26 : decode cX3_fieldError 26 = .ok (.if_icmp .ne 5, 3) := by decide +kernel
theorem dX3_fieldError_29 : decode cX3_fieldError 29 = .ok (.iconst 3, 1) := by decide +kernel
theorem dX3_fieldError_30 : decode cX3_fieldError 30 = .ok (.ireturn, 1) := by decide +kernel
theorem dX3_fieldError_31 : decode cX3_fieldError 31 = .ok (.aload_n 0, 1) := by decide +kernel
theorem dX3_fieldError_32 : decode cX3_fieldError 32 = .ok (.getfield 15, 3) := by decide +kernel
theorem dX3_fieldError_35 : decode cX3_fieldError 35 = .ok (.iload_n 2, 1) := by decide +kernel
theorem dX3_fieldError_36 : decode cX3_fieldError 36 = .ok (.aload_n 1, 1) := by decide +kernel
theorem dX3_fieldError_37 : decode cX3_fieldError 37 = .ok (.invokevirtual 77, 3) := by decide +kernel
theorem dX3_fieldError_40 : decode cX3_fieldError 40 = .ok (.ifCond .ne 5, 3) := by decide +kernel
theorem dX3_fieldError_43 : decode cX3_fieldError 43 = .ok (.iconst 2, 1) := by decide +kernel
theorem dX3_fieldError_44 : decode cX3_fieldError 44 = .ok (.ireturn, 1) := by decide +kernel
theorem dX3_fieldError_45 : decode cX3_fieldError 45 = .ok (.aload_n 0, 1) := by decide +kernel
theorem dX3_fieldError_46 : decode cX3_fieldError 46 = .ok (.getfield 15, 3) := by decide +kernel
theorem dX3_fieldError_49 : decode cX3_fieldError 49 = .ok (.getfield 81, 3) := by decide +kernel
theorem dX3_fieldError_52 : decode cX3_fieldError 52 = .ok (.getfield 85, 3) := by decide +kernel
theorem dX3_fieldError_55 : decode cX3_fieldError 55 = .ok (.iload_n 2, 1) := by decide +kernel
theorem dX3_fieldError_56 : decode cX3_fieldError 56 = .ok (.iaload, 1) := by decide +kernel
theorem dX3_fieldError_57 : decode cX3_fieldError 57 = .ok (.istore_n 3, 1) := by decide +kernel
theorem dX3_fieldError_58 : decode cX3_fieldError 58 = .ok (.iload_n 3, 1) := by decide +kernel
theorem dX3_fieldError_59 : decode cX3_fieldError 59 = .ok (.iconst 1, 1) := by decide +kernel
theorem dX3_fieldError_60 : decode cX3_fieldError 60 = .ok (.iand, 1) := by decide +kernel
theorem dX3_fieldError_61 : decode cX3_fieldError 61 = .ok (.aload_n 1, 1) := by decide +kernel
theorem dX3_fieldError_62 : decode cX3_fieldError 62 = .ok (.getfield 19, 3) := by decide +kernel
theorem dX3_fieldError_65 : decode cX3_fieldError 65 = .ok (.getfield 91, 3) := by decide +kernel
theorem dX3_fieldError_68 : decode cX3_fieldError 68 = .ok (.if_icmp .eq 5, 3) := by decide +kernel
theorem dX3_fieldError_71 : decode cX3_fieldError 71 = .ok (.iconst 5, 1) := by decide +kernel
theorem dX3_fieldError_72 : decode cX3_fieldError 72 = .ok (.ireturn, 1) := by decide +kernel
theorem dX3_fieldError_73 : decode cX3_fieldError 73 = .ok (.aload_n 1, 1) := by decide +kernel
theorem dX3_fieldError_74 : decode cX3_fieldError 74 = .ok (.getfield 47, 3) := by decide +kernel
theorem dX3_fieldError_77 : decode cX3_fieldError 77 = .ok (.iconst 1, 1) := by decide +kernel
theorem dX3_fieldError_78 : decode cX3_fieldError 78 = .ok (.if_icmp .ne 11, 3) := by decide +kernel
theorem dX3_fieldError_81 : decode cX3_fieldError 81 = .ok (.iload_n 3, 1) := by decide +kernel
theorem dX3_fieldError_82 : decode cX3_fieldError 82 = .ok (.iconst 2, 1) := by decide +kernel
theorem dX3_fieldError_83 : decode cX3_fieldError 83 = .ok (.iand, 1) := by decide +kernel
theorem dX3_fieldError_84 : decode cX3_fieldError 84 = .ok (.ifCond .eq 5, 3) := by decide +kernel
theorem dX3_fieldError_87 : decode cX3_fieldError 87 = .ok (.iconst 2, 1) := by decide +kernel
theorem dX3_fieldError_88 : decode cX3_fieldError 88 = .ok (.ireturn, 1) := by decide +kernel
theorem dX3_fieldError_89 : decode cX3_fieldError 89 = .ok (.aload_n 0, 1) := by decide +kernel
theorem dX3_fieldError_90 : decode cX3_fieldError 90 = .ok (.aload_n 0, 1) := by decide +kernel
theorem dX3_fieldError_91 : decode cX3_fieldError 91 = .ok (.getfield 15, 3) := by decide +kernel
theorem dX3_fieldError_94 : decode cX3_fieldError 94 = .ok (.getfield 81, 3) := by decide +kernel
theorem dX3_fieldError_97 : decode cX3_fieldError 97 = .ok (.getfield 94, 3) := by decide +kernel
theorem dX3_fieldError_100 : decode cX3_fieldError 100 = .ok (.iload_n 2, 1) := by decide +kernel
theorem dX3_fieldError_101 : decode cX3_fieldError 101 = .ok (.iaload, 1) := by decide +kernel
theorem dX3_fieldError_102 : decode cX3_fieldError 102 = .ok (.putfield 9, 3) := by decide +kernel
theorem dX3_fieldError_105 : decode cX3_fieldError 105 = .ok (.iconst 0, 1) := by decide +kernel
theorem dX3_fieldError_106 : decode cX3_fieldError 106 = .ok (.ireturn, 1) := by decide +kernel
theorem dX3_extendingError_0 : decode cX3_extendingError 0 = .ok (.aload_n 0, 1) := by decide +kernel
theorem dX3_extendingError_1 : decode cX3_extendingError 1 = .ok (.getfield 15, 3) := by decide +kernel
theorem dX3_extendingError_4 : decode cX3_extendingError 4 = .ok (.iload_n 1, 1) := by decide +kernel
theorem dX3_extendingError_5 : decode cX3_extendingError 5 = .ok (.invokevirtual 97, 3) := by decide +kernel
theorem dX3_extendingError_8 : decode cX3_extendingError 8 = .ok (.ifCond .ne 14, 3) := by decide +kernel
theorem dX3_extendingError_11 : decode cX3_extendingError 11 = .ok (.aload_n 0, 1) := by decide +kernel
theorem dX3_extendingError_12 : decode cX3_extendingError 12 = .ok (.getfield 15, 3) := by decide +kernel
theorem dX3_extendingError_15 : decode cX3_extendingError 15 = .ok (.iload_n 1, 1) := by decide +kernel
theorem dX3_extendingError_16 : decode cX3_extendingError 16 = .ok (.invokevirtual 132, 3) := by decide +kernel
theorem dX3_extendingError_19 : decode cX3_extendingError 19 = .ok (.ifCond .eq 5, 3) := by decide +kernel
theorem dX3_extendingError_22 : decode cX3_extendingError 22 = .ok (.iconst 5, 1) := by decide +kernel
theorem dX3_extendingError_23 : decode cX3_extendingError 23 = .ok (.ireturn, 1) := by decide +kernel
theorem dX3_extendingError_24 : decode cX3_extendingError 24 = .ok (.aload_n 0, 1) := by decide +kernel
theorem dX3_extendingError_25 : decode cX3_extendingError 25 = .ok (.getfield 15, 3) := by decide +kernel
theorem dX3_extendingError_28 : decode cX3_extendingError 28 = .ok (.aload_n 0, 1) := by decide +kernel
theorem dX3_extendingError_29 : decode cX3_extendingError 29 = .ok (.getfield 15, 3) := by decide +kernel
theorem dX3_extendingError_32 : decode cX3_extendingError 32 = .ok (.getfield 122, 3) := by decide +kernel
theorem dX3_extendingError_35 : decode cX3_extendingError 35 = .ok (.iload_n 1, 1) := by decide +kernel
theorem dX3_extendingError_36 : decode cX3_extendingError 36 = .ok (.iaload, 1) := by decide +kernel
theorem dX3_extendingError_37 : decode cX3_extendingError 37 = .ok (.aload_n 0, 1) := by decide +kernel
theorem dX3_extendingError_38 : decode cX3_extendingError 38 = .ok (.getfield 15, 3) := by decide +kernel
theorem dX3_extendingError_41 : decode cX3_extendingError 41 = .ok (.getfield 125, 3) := by decide +kernel
theorem dX3_extendingError_44 : decode cX3_extendingError 44 = .ok (.iload_n 1, 1) := by decide +kernel
theorem dX3_extendingError_45 : decode cX3_extendingError 45 = .ok (.iaload, 1) := by decide +kernel
theorem dX3_extendingError_46 : decode cX3_extendingError 46 = .ok (.invokevirtual 135, 3) := by decide +kernel
theorem dX3_extendingError_49 : decode cX3_extendingError 49 = .ok (.ifCond .eq 8, 3) := by decide +kernel
theorem dX3_extendingError_52 : decode cX3_extendingError 52 = .ok (.bipush 6, 2) := by decide +kernel
theorem dX3_extendingError_54 : decode cX3_extendingError 54 = .ok (.goto 4, 3) := by decide +kernel
theorem dX3_extendingError_57 : decode cX3_extendingError 57 = .ok (.iconst 0, 1) := by decide +kernel
theorem dX3_extendingError_58 : decode cX3_extendingError 58 = .ok (.ireturn, 1) := by decide +kernel
theorem dX3_implementingError_0 : decode cX3_implementingError 0 = .ok (.aload_n 0, 1) := by decide +kernel
theorem dX3_implementingError_1 : decode cX3_implementingError 1 = .ok (.getfield 15, 3) := by decide +kernel
theorem dX3_implementingError_4 : decode cX3_implementingError 4 = .ok (.aload_n 1, 1) := by decide +kernel
theorem dX3_implementingError_5 : decode cX3_implementingError 5 = .ok (.getfield 31, 3) := by decide +kernel
theorem dX3_implementingError_8 : decode cX3_implementingError 8 = .ok (.invokevirtual 97, 3) := by decide +kernel
theorem dX3_implementingError_11 : decode cX3_implementingError 11 = .ok (.ifCond .ne 5, 3) := by decide +kernel
theorem dX3_implementingError_14 : decode cX3_implementingError 14 = .ok (.iconst 5, 1) := by decide +kernel
theorem dX3_implementingError_15 : decode cX3_implementingError 15 = .ok (.ireturn, 1) := by decide +kernel
theorem dX3_implementingError_16 : decode cX3_implementingError 16 = .ok (.aload_n 0, 1) := by decide +kernel
theorem dX3_implementingError_17 : decode cX3_implementingError 17 = .ok (.getfield 15, 3) := by decide +kernel
theorem dX3_implementingError_20 : decode cX3_implementingError 20 = .ok (.aload_n 1, 1) := by decide +kernel
theorem dX3_implementingError_21 : decode cX3_implementingError 21 = .ok (.getfield 138, 3) := by decide +kernel
theorem dX3_implementingError_24 : decode cX3_implementingError 24 = .ok (.invokevirtual 34, 3) := by decide +kernel
theorem dX3_implementingError_27 : decode cX3_implementingError 27 = .ok (.ifCond .ne 5, 3) := by decide +kernel
theorem dX3_implementingError_30 : decode cX3_implementingError 30 = .ok (.iconst 1, 1) := by decide +kernel
theorem dX3_implementingError_31 : decode cX3_implementingError 31 = .ok (.ireturn, 1) := by decide +kernel
theorem dX3_implementingError_32 : decode cX3_implementingError 32 = .ok (.aload_n 0, 1) := by decide +kernel
theorem dX3_implementingError_33 : decode cX3_implementingError 33 = .ok (.getfield 15, 3) := by decide +kernel
theorem dX3_implementingError_36 : decode cX3_implementingError 36 = .ok (.aload_n 1, 1) := by decide +kernel
theorem dX3_implementingError_37 : decode cX3_implementingError 37 = .ok (.getfield 138, 3) := by decide +kernel
theorem dX3_implementingError_40 : decode cX3_implementingError 40 = .ok (.aload_n 1, 1) := by decide +kernel
theorem dX3_implementingError_41 : decode cX3_implementingError 41 = .ok (.getfield 40, 3) := by decide +kernel
theorem dX3_implementingError_44 : decode cX3_implementingError 44 = .ok (.invokevirtual 43, 3) := by decide +kernel
theorem dX3_implementingError_47 : decode cX3_implementingError 47 = .ok (.ifCond .ne 5, 3) := by decide +kernel
theorem dX3_implementingError_50 : decode cX3_implementingError 50 = .ok (.iconst 2, 1) := by decide +kernel
theorem dX3_implementingError_51 : decode cX3_implementingError 51 = .ok (.ireturn, 1) := by decide +kernel
theorem dX3_implementingError_52 : decode cX3_implementingError 52 = .ok (.aload_n 0, 1) := by decide +kernel
theorem dX3_implementingError_53 : decode cX3_implementingError 53 = .ok (.getfield 15, 3) := by decide +kernel
theorem dX3_implementingError_56 : decode cX3_implementingError 56 = .ok (.aload_n 1, 1) := by decide +kernel
theorem dX3_implementingError_57 : decode cX3_implementingError 57 = .ok (.getfield 138, 3) := by decide +kernel
theorem dX3_implementingError_60 : decode cX3_implementingError 60 = .ok (.invokevirtual 97, 3) := by decide +kernel
theorem dX3_implementingError_63 : decode cX3_implementingError 63 = .ok (.ifCond .ne 17, 3) := by decide +kernel
theorem dX3_implementingError_66 : decode cX3_implementingError 66 = .ok (.aload_n 0, 1) := by decide +kernel
theorem dX3_implementingError_67 : decode cX3_implementingError 67 = .ok (.getfield 15, 3) := by decide +kernel
theorem dX3_implementingError_70 : decode cX3_implementingError 70 = .ok (.aload_n 1, 1) := by decide +kernel
theorem dX3_implementingError_71 : decode cX3_implementingError 71 = .ok (.getfield 138, 3) := by decide +kernel
theorem dX3_implementingError_74 : decode cX3_implementingError 74 = .ok (.invokevirtual 132, 3) := by decide +kernel
theorem dX3_implementingError_77 : decode cX3_implementingError 77 = .ok (.ifCond .eq 5, 3) := by decide +kernel
theorem dX3_implementingError_80 : decode cX3_implementingError 80 = .ok (.iconst 5, 1) := by decide +kernel
theorem dX3_implementingError_81 : decode cX3_implementingError 81 = .ok (.ireturn, 1) := by decide +kernel
theorem dX3_implementingError_82 : decode cX3_implementingError 82 = .ok (.aload_n 0, 1) := by decide +kernel
theorem dX3_implementingError_83 : decode cX3_implementingError 83 = .ok (.getfield 15, 3) := by decide +kernel
theorem dX3_implementingError_86 : decode cX3_implementingError 86 = .ok (.getfield 125, 3) := by decide +kernel
theorem dX3_implementingError_89 : decode cX3_implementingError 89 = .ok (.aload_n 1, 1) := by decide +kernel
theorem dX3_implementingError_90 : decode cX3_implementingError 90 = .ok (.getfield 138, 3) := by decide +kernel
theorem dX3_implementingError_93 : decode cX3_implementingError 93 = .ok (.iaload, 1) := by decide +kernel
theorem dX3_implementingError_94 : decode cX3_implementingError 94 = .ok (.aload_n 0, 1) := by decide +kernel
theorem dX3_implementingError_95 : decode cX3_implementingError 95 = .ok (.getfield 15, 3) := by decide +kernel
theorem dX3_implementingError_98 : decode cX3_implementingError 98 = .ok (.getfield 125, 3) := by decide +kernel
theorem dX3_implementingError_101 : decode cX3_implementingError 101 = .ok (.aload_n 1, 1) := by decide +kernel
theorem dX3_implementingError_102 : decode cX3_implementingError 102 = .ok (.getfield 31, 3) := by decide +kernel
theorem dX3_implementingError_105 : decode cX3_implementingError 105 = .ok (.iaload, 1) := by decide +kernel
theorem dX3_implementingError_106 : decode cX3_implementingError 106 = .ok (.ior, 1) := by decide +kernel
theorem dX3_implementingError_107 : decode cX3_implementingError 107 = .ok (.istore_n 2, 1) := by decide +kernel
theorem dX3_implementingError_108 : decode cX3_implementingError 108 = .ok (.aload_n 0, 1) := by decide +kernel
theorem dX3_implementingError_109 : decode cX3_implementingError 109 = .ok (.getfield 15, 3) := by decide +kernel
theorem dX3_implementingError_112 : decode cX3_implementingError 112 = .ok (.aload_n 0, 1) := by decide +kernel
theorem dX3_implementingError_113 : decode cX3_implementingError 113 = .ok (.getfield 15, 3) := by decide +kernel
theorem dX3_implementingError_116 : decode cX3_implementingError 116 = .ok (.getfield 122, 3) := by decide +kernel
theorem dX3_implementingError_119 : decode cX3_implementingError 119 = .ok (.aload_n 1, 1) := by decide +kernel
theorem dX3_implementingError_120 : decode cX3_implementingError 120 = .ok (.getfield 138, 3) := by decide +kernel
theorem dX3_implementingError_123 : decode cX3_implementingError 123 = .ok (.iaload, 1) := by decide +kernel
theorem dX3_implementingError_124 : decode cX3_implementingError 124 = .ok (.iload_n 2, 1) := by decide +kernel
theorem dX3_implementingError_125 : decode cX3_implementingError 125 = .ok (.invokevirtual 135, 3) := by decide +kernel
theorem dX3_implementingError_128 : decode cX3_implementingError 128 = .ok (.ifCond .eq 8, 3) := by decide +kernel
theorem dX3_implementingError_131 : decode cX3_implementingError 131 = .ok (.bipush 6, 2) := by decide +kernel
theorem dX3_implementingError_133 : decode cX3_implementingError 133 = .ok (.goto 4, 3) := by decide +kernel
theorem dX3_implementingError_136 : decode cX3_implementingError 136 = .ok (.iconst 0, 1) := by decide +kernel
theorem dX3_implementingError_137 : decode cX3_implementingError 137 = .ok (.ireturn, 1) := by decide +kernel
theorem dX3_errorOf_0 : decode cX3_errorOf 0 = .ok (.aload_n 0, 1) := by decide +kernel
theorem dX3_errorOf_1 : decode cX3_errorOf 1 = .ok (.bipush (-2), 2) := by decide +kernel
theorem dX3_errorOf_3 : decode cX3_errorOf 3 = .ok (.putfield 9, 3) := by decide +kernel
theorem dX3_errorOf_6 : decode cX3_errorOf 6 = .ok (.aload_n 1, 1) := by decide +kernel
theorem dX3_errorOf_7 : decode cX3_errorOf 7 = .ok (.getfield 19, 3) := by decide +kernel
theorem dX3_errorOf_10 : decode cX3_errorOf 10 = .ok (.getfield 25, 3) := by decide +kernel
theorem dX3_errorOf_13 : decode cX3_errorOf 13 = .ok (.ifCond .eq 5, 3) := by decide +kernel
theorem dX3_errorOf_16 : decode cX3_errorOf 16 = .ok (.iconst 0, 1) := by decide +kernel
theorem dX3_errorOf_17 : decode cX3_errorOf 17 = .ok (.ireturn, 1) := by decide +kernel
theorem dX3_errorOf_18 : decode cX3_errorOf 18 = .ok (.aload_n 0, 1) := by decide +kernel
theorem dX3_errorOf_19 : decode cX3_errorOf 19 = .ok (.getfield 15, 3) := by decide +kernel
theorem dX3_errorOf_22 : decode cX3_errorOf 22 = .ok (.aload_n 1, 1) := by decide +kernel
theorem dX3_errorOf_23 : decode cX3_errorOf 23 = .ok (.getfield 31, 3) := by decide +kernel
theorem dX3_errorOf_26 : decode cX3_errorOf 26 = .ok (.invokevirtual 34, 3) := by decide +kernel
theorem dX3_errorOf_29 : decode cX3_errorOf 29 = .ok (.ifCond .ne 5, 3) := by decide +kernel
theorem dX3_errorOf_32 : decode cX3_errorOf 32 = .ok (.iconst 1, 1) := by decide +kernel
theorem dX3_errorOf_33 : decode cX3_errorOf 33 = .ok (.ireturn, 1) := by decide +kernel
theorem dX3_errorOf_34 : decode cX3_errorOf 34 = .ok (.aload_n 0, 1) := by decide +kernel
theorem dX3_errorOf_35 : decode cX3_errorOf 35 = .ok (.getfield 15, 3) := by decide +kernel
theorem dX3_errorOf_38 : decode cX3_errorOf 38 = .ok (.aload_n 1, 1) := by decide +kernel
theorem dX3_errorOf_39 : decode cX3_errorOf 39 = .ok (.getfield 31, 3) := by decide +kernel
theorem dX3_errorOf_42 : decode cX3_errorOf 42 = .ok (.aload_n 1, 1) := by decide +kernel
theorem dX3_errorOf_43 : decode cX3_errorOf 43 = .ok (.getfield 40, 3) := by decide +kernel
theorem dX3_errorOf_46 : decode cX3_errorOf 46 = .ok (.invokevirtual 43, 3) := by decide +kernel
theorem dX3_errorOf_49 : decode cX3_errorOf 49 = .ok (.ifCond .ne 5, 3) := by decide +kernel
theorem dX3_errorOf_52 : decode cX3_errorOf 52 = .ok (.iconst 2, 1) := by decide +kernel
theorem dX3_errorOf_53 : decode cX3_errorOf 53 = .ok (.ireturn, 1) := by decide +kernel
theorem dX3_errorOf_54 : decode cX3_errorOf 54 = .ok (.aload_n 1, 1) := by decide +kernel
theorem dX3_errorOf_55 : decode cX3_errorOf 55 = .ok (.getfield 47, 3) := by decide +kernel
theorem dX3_errorOf_58 : decode cX3_errorOf 58 = .ok (.tableswitch 76 0 4 #[34, 34, 40, 46, 67], 34) := by decide +kernel
theorem dX3_errorOf_92 : decode cX3_errorOf 92 = .ok (.aload_n 0, 1) := by decide +kernel
theorem dX3_errorOf_93 : decode cX3_errorOf 93 = .ok (.aload_n 1, 1) := by decide +kernel
theorem dX3_errorOf_94 : decode cX3_errorOf 94 = .ok (.invokevirtual 50, 3) := by decide +kernel
theorem dX3_errorOf_97 : decode cX3_errorOf 97 = .ok (.ireturn, 1) := by decide +kernel
theorem dX3_errorOf_98 : decode cX3_errorOf 98 = .ok (.aload_n 0, 1) := by decide +kernel
theorem dX3_errorOf_99 : decode cX3_errorOf 99 = .ok (.aload_n 1, 1) := by decide +kernel
theorem dX3_errorOf_100 : decode cX3_errorOf 100 = .ok (.invokevirtual 54, 3) := by decide +kernel
theorem dX3_errorOf_103 : decode cX3_errorOf 103 = .ok (.ireturn, 1) := by decide +kernel
theorem dX3_errorOf_104 : decode cX3_errorOf 104 = .ok (.aload_n 0, 1) := by decide +kernel
theorem dX3_errorOf_105 : decode cX3_errorOf 105 = .ok (.getfield 15, 3) := by decide +kernel
theorem dX3_errorOf_108 : decode cX3_errorOf 108 = .ok (.aload_n 1, 1) := by decide +kernel
theorem dX3_errorOf_109 : decode cX3_errorOf 109 = .ok (.getfield 31, 3) := by decide +kernel
theorem dX3_errorOf_112 : decode cX3_errorOf 112 = .ok (.invokevirtual 57, 3) := by decide +kernel
theorem dX3_errorOf_115 : decode cX3_errorOf 115 = .ok (.ifCond .eq 8, 3) := by decide +kernel
theorem dX3_errorOf_118 : decode cX3_errorOf 118 = .ok (.bipush 7, 2) := by decide +kernel
theorem dX3_errorOf_120 : decode cX3_errorOf 120 = .ok (.goto 4, 3) := by decide +kernel
theorem dX3_errorOf_123 : decode cX3_errorOf 123 = .ok (.iconst 0, 1) := by decide +kernel
theorem dX3_errorOf_124 : decode cX3_errorOf 124 = .ok (.ireturn, 1) := by decide +kernel
theorem dX3_errorOf_125 : decode cX3_errorOf 125 = .ok (.aload_n 0, 1) := by decide +kernel
theorem dX3_errorOf_126 : decode cX3_errorOf 126 = .ok (.aload_n 1, 1) := by decide +kernel
theorem dX3_errorOf_127 : decode cX3_errorOf 127 = .ok (.getfield 31, 3) := by decide +kernel
theorem dX3_errorOf_130 : decode cX3_errorOf 130 = .ok (.invokevirtual 60, 3) := by decide +kernel
theorem dX3_errorOf_133 : decode cX3_errorOf 133 = .ok (.ireturn, 1) := by decide +kernel
theorem dX3_errorOf_134 : decode cX3_errorOf 134 = .ok (.aload_n 0, 1) := by decide +kernel
theorem dX3_errorOf_135 : decode cX3_errorOf 135 = .ok (.aload_n 1, 1) := by decide +kernel
theorem dX3_errorOf_136 : decode cX3_errorOf 136 = .ok (.invokevirtual 64, 3) := by decide +kernel
theorem dX3_errorOf_139 : decode cX3_errorOf 139 = .ok (.ireturn, 1) := by decide +kernel
theorem dX3_init_0 : decode cX3_init 0 = .ok (.aload_n 0, 1) := by decide +kernel
theorem dX3_init_1 : decode cX3_init 1 = .ok (.invokespecial 3, 3) := by decide +kernel
theorem dX3_init_4 : decode cX3_init 4 = .ok (.aload_n 0, 1) := by decide +kernel
theorem dX3_init_5 : decode cX3_init 5 = .ok (.bipush (-2), 2) := by decide +kernel
theorem dX3_init_7 : decode cX3_init 7 = .ok (.putfield 9, 3) := by decide +kernel
theorem dX3_init_10 : decode cX3_init 10 = .ok (.aload_n 0, 1) := by decide +kernel
theorem dX3_init_11 : decode cX3_init 11 = .ok (.aload_n 1, 1) := by decide +kernel
theorem dX3_init_12 : decode cX3_init 12 = .ok (.putfield 15, 3) := by decide +kernel
theorem dX3_init_15 : decode cX3_init 15 = .ok (.return_, 1) := by decide +kernel
theorem dX4_append_0 : decode cX4_append 0 = .ok (.iload_n 1, 1) := by decide +kernel
theorem dX4_append_1 : decode cX4_append 1 = .ok (.iconst 1, 1) := by decide +kernel
theorem dX4_append_2 : decode cX4_append 2 = .ok (.if_icmp .ne 7, 3) := by decide +kernel
theorem dX4_append_5 : decode cX4_append 5 = .ok (.iconst 1, 1) := by decide +kernel
theorem dX4_append_6 : decode cX4_append 6 = .ok (.goto 4, 3) := by decide +kernel
theorem dX4_append_9 : decode cX4_append 9 = .ok (.iconst 0, 1) := by decide +kernel
theorem dX4_append_10 : decode cX4_append 10 = .ok (.istore 7, 2) := by decide +kernel
theorem dX4_append_12 : decode cX4_append 12 = .ok (.aload_n 0, 1) := by decide +kernel
theorem dX4_append_13 : decode cX4_append 13 = .ok (.getfield 25, 3) := by decide +kernel
theorem dX4_append_16 : decode cX4_append 16 = .ok (.aload_n 0, 1) := by decide +kernel
theorem dX4_append_17 : decode cX4_append 17 = .ok (.getfield 9, 3) := by decide +kernel
theorem dX4_append_20 : decode cX4_append 20 = .ok (.iload_n 1, 1) := by decide +kernel
theorem dX4_append_21 : decode cX4_append 21 = .ok (.iastore, 1) := by decide +kernel
theorem dX4_append_22 : decode cX4_append 22 = .ok (.aload_n 0, 1) := by decide +kernel
theorem dX4_append_23 : decode cX4_append 23 = .ok (.getfield 28, 3) := by decide +kernel
theorem dX4_append_26 : decode cX4_append 26 = .ok (.aload_n 0, 1) := by decide +kernel
theorem dX4_append_27 : decode cX4_append 27 = .ok (.getfield 9, 3) := by decide +kernel
theorem dX4_append_30 : decode cX4_append 30 = .ok (.iload_n 2, 1) := by decide +kernel
theorem dX4_append_31 : decode cX4_append 31 = .ok (.iastore, 1) := by decide +kernel
theorem dX4_append_32 : decode cX4_append 32 = .ok (.aload_n 0, 1) := by decide +kernel
theorem dX4_append_33 : decode cX4_append 33 = .ok (.getfield 31, 3) := by decide +kernel
theorem dX4_append_36 : decode cX4_append 36 = .ok (.aload_n 0, 1) := by decide +kernel
theorem dX4_append_37 : decode cX4_append 37 = .ok (.getfield 9, 3) := by decide +kernel
theorem dX4_append_40 : decode cX4_append 40 = .ok (.iload_n 3, 1) := by decide +kernel
theorem dX4_append_41 : decode cX4_append 41 = .ok (.iastore, 1) := by decide +kernel
theorem dX4_append_42 : decode cX4_append 42 = .ok (.aload_n 0, 1) := by decide +kernel
theorem dX4_append_43 : decode cX4_append 43 = .ok (.getfield 15, 3) := by decide +kernel
theorem dX4_append_46 : decode cX4_append 46 = .ok (.aload_n 0, 1) := by decide +kernel
theorem dX4_append_47 : decode cX4_append 47 = .ok (.getfield 9, 3) := by decide +kernel
theorem dX4_append_50 : decode cX4_append 50 = .ok (.iload 4, 2) := by decide +kernel
theorem dX4_append_52 : decode cX4_append 52 = .ok (.iastore, 1) := by decide +kernel
theorem dX4_append_53 : decode cX4_append 53 = .ok (.aload_n 0, 1) := by decide +kernel
theorem dX4_append_54 : decode cX4_append 54 = .ok (.getfield 19, 3) := by decide +kernel
theorem dX4_append_57 : decode cX4_append 57 = .ok (.aload_n 0, 1) := by decide +kernel
theorem dX4_append_58 : decode cX4_append 58 = .ok (.getfield 9, 3) := by decide +kernel
theorem dX4_append_61 : decode cX4_append 61 = .ok (.iload 5, 2) := by decide +kernel
theorem dX4_append_63 : decode cX4_append 63 = .ok (.iastore, 1) := by decide +kernel
theorem dX4_append_64 : decode cX4_append 64 = .ok (.aload_n 0, 1) := by decide +kernel
theorem dX4_append_65 : decode cX4_append 65 = .ok (.getfield 22, 3) := by decide +kernel
theorem dX4_append_68 : decode cX4_append 68 = .ok (.aload_n 0, 1) := by decide +kernel
theorem dX4_append_69 : decode cX4_append 69 = .ok (.getfield 9, 3) := by decide +kernel
theorem dX4_append_72 : decode cX4_append 72 = .ok (.bipush (-2), 2) := by decide +kernel
theorem dX4_append_74 : decode cX4_append 74 = .ok (.iastore, 1) := by decide +kernel
theorem dX4_append_75 : decode cX4_append 75 = .ok (.aload_n 0, 1) := by decide +kernel
theorem dX4_append_76 : decode cX4_append 76 = .ok (.getfield 34, 3) := by decide +kernel
theorem dX4_append_79 : decode cX4_append 79 = .ok (.aload_n 0, 1) := by decide +kernel
theorem dX4_append_80 : decode cX4_append 80 = .ok (.getfield 9, 3) := by decide +kernel
theorem dX4_append_83 : decode cX4_append 83 = .ok (.aload 6, 2) := by decide +kernel
theorem dX4_append_85 : decode cX4_append 85 = .ok (.getfield 52, 3) := by decide +kernel
theorem dX4_append_88 : decode cX4_append 88 = .ok (.iastore, 1) := by decide +kernel
theorem dX4_append_89 : decode cX4_append 89 = .ok (.aload_n 0, 1) := by decide +kernel
theorem dX4_append_90 : decode cX4_append 90 = .ok (.getfield 37, 3) := by decide +kernel
theorem dX4_append_93 : decode cX4_append 93 = .ok (.aload_n 0, 1) := by decide +kernel
theorem dX4_append_94 : decode cX4_append 94 = .ok (.getfield 9, 3) := by decide +kernel
theorem dX4_append_97 : decode cX4_append 97 = .ok (.iload 7, 2) := by decide +kernel
theorem dX4_append_99 : decode cX4_append 99 = .ok (.ifCond .eq 11, 3) := by decide +kernel
theorem dX4_append_102 : decode cX4_append 102 = .ok (.aload 6, 2) := by decide +kernel
theorem dX4_append_104 : decode cX4_append 104 = .ok (.getfield 57, 3) := by decide +kernel
theorem dX4_append_107 : decode cX4_append 107 = .ok (.goto 5, 3) := by decide +kernel
theorem dX4_append_110 : decode cX4_append 110 = .ok (.bipush (-2), 2) := by decide +kernel
theorem dX4_append_112 : decode cX4_append 112 = .ok (.iastore, 1) := by decide +kernel
theorem dX4_append_113 : decode cX4_append 113 = .ok (.aload_n 0, 1) := by decide +kernel
theorem dX4_append_114 : decode cX4_append 114 = .ok (.getfield 40, 3) := by decide +kernel
theorem dX4_append_117 : decode cX4_append 117 = .ok (.aload_n 0, 1) := by decide +kernel
theorem dX4_append_118 : decode cX4_append 118 = .ok (.getfield 9, 3) := by decide +kernel
theorem dX4_append_121 : decode cX4_append 121 = .ok (.iload 7, 2) := by decide +kernel
theorem dX4_append_123 : decode cX4_append 123 = .ok (.ifCond .eq 11, 3) := by decide +kernel
theorem dX4_append_126 : decode cX4_append 126 = .ok (.aload 6, 2) := by decide +kernel
theorem dX4_append_128 : decode cX4_append 128 = .ok (.getfield 59, 3) := by decide +kernel
theorem dX4_append_131 : decode cX4_append 131 = .ok (.goto 5, 3) := by decide +kernel
theorem dX4_append_134 : decode cX4_append 134 = .ok (.bipush (-2), 2) := by decide +kernel
theorem dX4_append_136 : decode cX4_append 136 = .ok (.iastore, 1) := by decide +kernel
theorem dX4_append_137 : decode cX4_append 137 = .ok (.aload_n 0, 1) := by decide +kernel
theorem dX4_append_138 : decode cX4_append 138 = .ok (.getfield 43, 3) := by decide +kernel
theorem dX4_append_141 : decode cX4_append 141 = .ok (.aload_n 0, 1) := by decide +kernel
theorem dX4_append_142 : decode cX4_append 142 = .ok (.getfield 9, 3) := by decide +kernel
theorem dX4_append_145 : decode cX4_append 145 = .ok (.iload 7, 2) := by decide +kernel
theorem dX4_append_147 : decode cX4_append 147 = .ok (.ifCond .eq 11, 3) := by decide +kernel
theorem dX4_append_150 : decode cX4_append 150 = .ok (.aload 6, 2) := by decide +kernel
theorem dX4_append_152 : decode cX4_append 152 = .ok (.getfield 61, 3) := by decide +kernel
theorem dX4_append_155 : decode cX4_append 155 = .ok (.goto 5, 3) := by decide +kernel
theorem dX4_append_158 : decode cX4_append 158 = .ok (.bipush (-2), 2) := by decide +kernel
theorem dX4_append_160 : decode cX4_append 160 = .ok (.iastore, 1) := by decide +kernel
theorem dX4_append_161 : decode cX4_append 161 = .ok (.aload_n 0, 1) := by decide +kernel
theorem dX4_append_162 : decode cX4_append 162 = .ok (.getfield 46, 3) := by decide +kernel
theorem dX4_append_165 : decode cX4_append 165 = .ok (.aload_n 0, 1) := by decide +kernel
theorem dX4_append_166 : decode cX4_append 166 = .ok (.getfield 9, 3) := by decide +kernel
theorem dX4_append_169 : decode cX4_append 169 = .ok (.iload 7, 2) := by decide +kernel
theorem dX4_append_171 : decode cX4_append 171 = .ok (.ifCond .eq 20, 3) := by decide +kernel
theorem dX4_append_174 : decode cX4_append 174 = .ok (.iload_n 3, 1) := by decide +kernel
theorem dX4_append_175 : decode cX4_append 175 = .ok (.aload 6, 2) := by decide +kernel
theorem dX4_append_177 : decode cX4_append 177 = .ok (.getfield 59, 3) := by decide +kernel
theorem dX4_append_180 : decode cX4_append 180 = .ok (.aload 6, 2) := by decide +kernel
theorem dX4_append_182 : decode cX4_append 182 = .ok (.getfield 61, 3) := by decide +kernel
theorem dX4_append_185 : decode cX4_append 185 = .ok (.invokestatic 63, 3) := by decide +kernel
theorem dX4_append_188 : decode cX4_append 188 = .ok (.goto 4, 3) := by decide +kernel
theorem dX4_append_191 : decode cX4_append 191 = .ok (.iconst (-1), 1) := by decide +kernel
theorem dX4_append_192 : decode cX4_append 192 = .ok (.iastore, 1) := by decide +kernel
theorem dX4_append_193 : decode cX4_append 193 = .ok (.aload_n 0, 1) := by decide +kernel
theorem dX4_append_194 : decode cX4_append 194 = .ok (.getfield 49, 3) := by decide +kernel
theorem dX4_append_197 : decode cX4_append 197 = .ok (.aload_n 0, 1) := by decide +kernel
theorem dX4_append_198 : decode cX4_append 198 = .ok (.getfield 9, 3) := by decide +kernel
theorem dX4_append_201 : decode cX4_append 201 = .ok (.iload 7, 2) := by decide +kernel
theorem dX4_append_203 : decode cX4_append 203 = .ok (.ifCond .eq 23, 3) := by decide +kernel
theorem dX4_append_206 : decode cX4_append 206 = .ok (.aload_n 0, 1) := by decide +kernel
theorem dX4_append_207 : decode cX4_append 207 = .ok (.getfield 46, 3) := by decide +kernel
theorem dX4_append_210 : decode cX4_append 210 = .ok (.aload_n 0, 1) := by decide +kernel
theorem dX4_append_211 : decode cX4_append 211 = .ok (.getfield 9, 3) := by decide +kernel
theorem dX4_append_214 : decode cX4_append 214 = .ok (.iaload, 1) := by decide +kernel
theorem dX4_append_215 : decode cX4_append 215 = .ok (.aload 6, 2) := by decide +kernel
theorem dX4_append_217 : decode cX4_append 217 = .ok (.getfield 52, 3) := by decide +kernel
theorem dX4_append_220 : decode cX4_append 220 = .ok (.invokestatic 67, 3) := by decide +kernel
theorem dX4_append_223 : decode cX4_append 223 = .ok (.goto 4, 3) := by decide +kernel
theorem dX4_append_226 : decode cX4_append 226 = .ok (.iconst (-1), 1) := by decide +kernel
theorem dX4_append_227 : decode cX4_append 227 = .ok (.iastore, 1) := by decide +kernel
theorem dX4_append_228 : decode cX4_append 228 = .ok (.aload_n 0, 1) := by decide +kernel
theorem dX4_append_229 : decode cX4_append 229 = .ok (.dup, 1) := by decide +kernel
theorem dX4_append_230 : decode cX4_append 230 = .ok (.getfield 9, 3) := by decide +kernel
theorem dX4_append_233 : decode cX4_append 233 = .ok (.iconst 1, 1) := by decide +kernel
theorem dX4_append_234 : decode cX4_append 234 = .ok (.iadd, 1) := by decide +kernel
theorem dX4_append_235 : decode cX4_append 235 = .ok (.putfield 9, 3) := by decide +kernel
theorem dX4_append_238 : decode cX4_append 238 = .ok (.return_, 1) := by decide +kernel
theorem dX4_moveRow_0 : decode cX4_moveRow 0 = .ok (.aload_n 0, 1) := by decide +kernel
theorem dX4_moveRow_1 : decode cX4_moveRow 1 = .ok (.getfield 15, 3) := by decide +kernel
theorem dX4_moveRow_4 : decode cX4_moveRow 4 = .ok (.iload_n 2, 1) := by decide +kernel
theorem dX4_moveRow_5 : decode cX4_moveRow 5 = .ok (.aload_n 0, 1) := by decide +kernel
theorem dX4_moveRow_6 : decode cX4_moveRow 6 = .ok (.getfield 15, 3) := by decide +kernel
theorem dX4_moveRow_9 : decode cX4_moveRow 9 = .ok (.iload_n 1, 1) := by decide +kernel
theorem dX4_moveRow_10 : decode cX4_moveRow 10 = .ok (.iaload, 1) := by decide +kernel
theorem dX4_moveRow_11 : decode cX4_moveRow 11 = .ok (.iastore, 1) := by decide +kernel
theorem dX4_moveRow_12 : decode cX4_moveRow 12 = .ok (.aload_n 0, 1) := by decide +kernel
theorem dX4_moveRow_13 : decode cX4_moveRow 13 = .ok (.getfield 19, 3) := by decide +kernel
theorem dX4_moveRow_16 : decode cX4_moveRow 16 = .ok (.iload_n 2, 1) := by decide +kernel
theorem dX4_moveRow_17 : decode cX4_moveRow 17 = .ok (.aload_n 0, 1) := by decide +kernel
theorem dX4_moveRow_18 : decode cX4_moveRow 18 = .ok (.getfield 19, 3) := by decide +kernel
theorem dX4_moveRow_21 : decode cX4_moveRow 21 = .ok (.iload_n 1, 1) := by decide +kernel
theorem dX4_moveRow_22 : decode cX4_moveRow 22 = .ok (.iaload, 1) := by decide +kernel
theorem dX4_moveRow_23 : decode cX4_moveRow 23 = .ok (.iastore, 1) := by decide +kernel
theorem dX4_moveRow_24 : decode cX4_moveRow 24 = .ok (.aload_n 0, 1) := by decide +kernel
theorem dX4_moveRow_25 : decode cX4_moveRow 25 = .ok (.getfield 22, 3) := by decide +kernel
theorem dX4_moveRow_28 : decode cX4_moveRow 28 = .ok (.iload_n 2, 1) := by decide +kernel
theorem dX4_moveRow_29 : decode cX4_moveRow 29 = .ok (.aload_n 0, 1) := by decide +kernel
theorem dX4_moveRow_30 : decode cX4_moveRow 30 = .ok (.getfield 22, 3) := by decide +kernel
theorem dX4_moveRow_33 : decode cX4_moveRow 33 = .ok (.iload_n 1, 1) := by decide +kernel
theorem dX4_moveRow_34 : decode cX4_moveRow 34 = .ok (.iaload, 1) := by decide +kernel
theorem dX4_moveRow_35 : decode cX4_moveRow 35 = .ok (.iastore, 1) := by decide +kernel
theorem dX4_moveRow_36 : decode cX4_moveRow 36 = .ok (.aload_n 0, 1) := by decide +kernel
theorem dX4_moveRow_37 : decode cX4_moveRow 37 = .ok (.getfield 25, 3) := by decide +kernel
theorem dX4_moveRow_40 : decode cX4_moveRow 40 = .ok (.iload_n 2, 1) := by decide +kernel
theorem dX4_moveRow_41 : decode cX4_moveRow 41 = .ok (.aload_n 0, 1) := by decide +kernel
theorem dX4_moveRow_42 : decode cX4_moveRow 42 = .ok (.getfield 25, 3) := by decide +kernel
theorem dX4_moveRow_45 : decode cX4_moveRow 45 = .ok (.iload_n 1, 1) := by decide +kernel
theorem dX4_moveRow_46 : decode cX4_moveRow 46 = .ok (.iaload, 1) := by decide +kernel
theorem dX4_moveRow_47 : decode cX4_moveRow 47 = .ok (.iastore, 1) := by decide +kernel
theorem dX4_moveRow_48 : decode cX4_moveRow 48 = .ok (.aload_n 0, 1) := by decide +kernel
theorem dX4_moveRow_49 : decode cX4_moveRow 49 = .ok (.getfield 28, 3) := by decide +kernel
theorem dX4_moveRow_52 : decode cX4_moveRow 52 = .ok (.iload_n 2, 1) := by decide +kernel
theorem dX4_moveRow_53 : decode cX4_moveRow 53 = .ok (.aload_n 0, 1) := by decide +kernel
theorem dX4_moveRow_54 : decode cX4_moveRow 54 = .ok (.getfield 28, 3) := by decide +kernel
theorem dX4_moveRow_57 : decode cX4_moveRow 57 = .ok (.iload_n 1, 1) := by decide +kernel
theorem dX4_moveRow_58 : decode cX4_moveRow 58 = .ok (.iaload, 1) := by decide +kernel
theorem dX4_moveRow_59 : decode cX4_moveRow 59 = .ok (.iastore, 1) := by decide +kernel
theorem dX4_moveRow_60 : decode cX4_moveRow 60 = .ok (.aload_n 0, 1) := by decide +kernel
theorem dX4_moveRow_61 : decode cX4_moveRow 61 = .ok (.getfield 31, 3) := by decide +kernel
theorem dX4_moveRow_64 : decode cX4_moveRow 64 = .ok (.iload_n 2, 1) := by decide +kernel
theorem dX4_moveRow_65 : decode cX4_moveRow 65 = .ok (.aload_n 0, 1) := by decide +kernel
theorem dX4_moveRow_66 : decode cX4_moveRow 66 = .ok (.getfield 31, 3) := by decide +kernel
theorem dX4_moveRow_69 : decode cX4_moveRow 69 = .ok (.iload_n 1, 1) := by decide +kernel
theorem dX4_moveRow_70 : decode cX4_moveRow 70 = .ok (.iaload, 1) := by decide +kernel
theorem dX4_moveRow_71 : decode cX4_moveRow 71 = .ok (.iastore, 1) := by decide +kernel
theorem dX4_moveRow_72 : decode cX4_moveRow 72 = .ok (.aload_n 0, 1) := by decide +kernel
theorem dX4_moveRow_73 : decode cX4_moveRow 73 = .ok (.getfield 34, 3) := by decide +kernel
theorem dX4_moveRow_76 : decode cX4_moveRow 76 = .ok (.iload_n 2, 1) := by decide +kernel
theorem dX4_moveRow_77 : decode cX4_moveRow 77 = .ok (.aload_n 0, 1) := by decide +kernel
theorem dX4_moveRow_78 : decode cX4_moveRow 78 = .ok (.getfield 34, 3) := by decide +kernel
theorem dX4_moveRow_81 : decode cX4_moveRow 81 = .ok (.iload_n 1, 1) := by decide +kernel
theorem dX4_moveRow_82 : decode cX4_moveRow 82 = .ok (.iaload, 1) := by decide +kernel
theorem dX4_moveRow_83 : decode cX4_moveRow 83 = .ok (.iastore, 1) := by decide +kernel
theorem dX4_moveRow_84 : decode cX4_moveRow 84 = .ok (.aload_n 0, 1) := by decide +kernel
theorem dX4_moveRow_85 : decode cX4_moveRow 85 = .ok (.getfield 37, 3) := by decide +kernel
theorem dX4_moveRow_88 : decode cX4_moveRow 88 = .ok (.iload_n 2, 1) := by decide +kernel
theorem dX4_moveRow_89 : decode cX4_moveRow 89 = .ok (.aload_n 0, 1) := by decide +kernel
theorem dX4_moveRow_90 : decode cX4_moveRow 90 = .ok (.getfield 37, 3) := by decide +kernel
theorem dX4_moveRow_93 : decode cX4_moveRow 93 = .ok (.iload_n 1, 1) := by decide +kernel
theorem dX4_moveRow_94 : decode cX4_moveRow 94 = .ok (.iaload, 1) := by decide +kernel
theorem dX4_moveRow_95 : decode cX4_moveRow 95 = .ok (.iastore, 1) := by decide +kernel
theorem dX4_moveRow_96 : decode cX4_moveRow 96 = .ok (.aload_n 0, 1) := by decide +kernel
theorem dX4_moveRow_97 : decode cX4_moveRow 97 = .ok (.getfield 40, 3) := by decide +kernel
theorem dX4_moveRow_100 : decode cX4_moveRow 100 = .ok (.iload_n 2, 1) := by decide +kernel
theorem dX4_moveRow_101 : decode cX4_moveRow 101 = .ok (.aload_n 0, 1) := by decide +kernel
theorem dX4_moveRow_102 : decode cX4_moveRow 102 = .ok (.getfield 40, 3) := by decide +kernel
theorem dX4_moveRow_105 : decode cX4_moveRow 105 = .ok (.iload_n 1, 1) := by decide +kernel
theorem dX4_moveRow_106 : decode cX4_moveRow 106 = .ok (.iaload, 1) := by decide +kernel
theorem dX4_moveRow_107 : decode cX4_moveRow 107 = .ok (.iastore, 1) := by decide +kernel
theorem dX4_moveRow_108 : decode cX4_moveRow 108 = .ok (.aload_n 0, 1) := by decide +kernel
theorem dX4_moveRow_109 : decode cX4_moveRow 109 = .ok (.getfield 43, 3) := by decide +kernel
theorem dX4_moveRow_112 : decode cX4_moveRow 112 = .ok (.iload_n 2, 1) := by decide +kernel
theorem dX4_moveRow_113 : decode cX4_moveRow 113 = .ok (.aload_n 0, 1) := by decide +kernel
theorem dX4_moveRow_114 : decode cX4_moveRow 114 = .ok (.getfield 43, 3) := by decide +kernel
theorem dX4_moveRow_117 : decode cX4_moveRow 117 = .ok (.iload_n 1, 1) := by decide +kernel
theorem dX4_moveRow_118 : decode cX4_moveRow 118 = .ok (.iaload, 1) := by decide +kernel
theorem dX4_moveRow_119 : decode cX4_moveRow 119 = .ok (.iastore, 1) := by decide +kernel
theorem dX4_moveRow_120 : decode cX4_moveRow 120 = .ok (.aload_n 0, 1) := by decide +kernel
theorem dX4_moveRow_121 : decode cX4_moveRow 121 = .ok (.getfield 46, 3) := by decide +kernel
theorem dX4_moveRow_124 : decode cX4_moveRow 124 = .ok (.iload_n 2, 1) := by decide +kernel
theorem dX4_moveRow_125 : decode cX4_moveRow 125 = .ok (.aload_n 0, 1) := by decide +kernel
theorem dX4_moveRow_126 : decode cX4_moveRow 126 = .ok (.getfield 46, 3) := by decide +kernel
theorem dX4_moveRow_129 : decode cX4_moveRow 129 = .ok (.iload_n 1, 1) := by decide +kernel
theorem dX4_moveRow_130 : decode cX4_moveRow 130 = .ok (.iaload, 1) := by decide +kernel
theorem dX4_moveRow_131 : decode cX4_moveRow 131 = .ok (.iastore, 1) := by decide +kernel
theorem dX4_moveRow_132 : decode cX4_moveRow 132 = .ok (.aload_n 0, 1) := by decide +kernel
theorem dX4_moveRow_133 : decode cX4_moveRow 133 = .ok (.getfield 49, 3) := by decide +kernel
theorem dX4_moveRow_136 : decode cX4_moveRow 136 = .ok (.iload_n 2, 1) := by decide +kernel
theorem dX4_moveRow_137 : decode cX4_moveRow 137 = .ok (.aload_n 0, 1) := by decide +kernel
theorem dX4_moveRow_138 : decode cX4_moveRow 138 = .ok (.getfield 49, 3) := by decide +kernel
theorem dX4_moveRow_141 : decode cX4_moveRow 141 = .ok (.iload_n 1, 1) := by decide +kernel
theorem dX4_moveRow_142 : decode cX4_moveRow 142 = .ok (.iaload, 1) := by decide +kernel
theorem dX4_moveRow_143 : decode cX4_moveRow 143 = .ok (.iastore, 1) := by decide +kernel
theorem dX4_moveRow_144 : decode cX4_moveRow 144 = .ok (.return_, 1) := by decide +kernel
theorem dX4_dropAllOf_0 : decode cX4_dropAllOf 0 = .ok (.iconst 0, 1) := by decide +kernel
theorem dX4_dropAllOf_1 : decode cX4_dropAllOf 1 = .ok (.istore_n 2, 1) := by decide +kernel
theorem dX4_dropAllOf_2 : decode cX4_dropAllOf 2 = .ok (.iconst 0, 1) := by decide +kernel
theorem dX4_dropAllOf_3 : decode cX4_dropAllOf 3 = .ok (.istore_n 3, 1) := by decide +kernel
theorem dX4_dropAllOf_4 : decode cX4_dropAllOf 4 = .ok (.iload_n 3, 1) := by decide +kernel
theorem dX4_dropAllOf_5 : decode cX4_dropAllOf 5 = .ok (.aload_n 0, 1) := by decide +kernel
theorem dX4_dropAllOf_6 : decode cX4_dropAllOf 6 = .ok (.getfield 9, 3) := by decide +kernel
theorem dX4_dropAllOf_9 : decode cX4_dropAllOf 9 = .ok (.if_icmp .ge 28, 3) := by decide +kernel
theorem dX4_dropAllOf_12 : decode cX4_dropAllOf 12 = .ok (.aload_n 0, 1) := by decide +kernel
theorem dX4_dropAllOf_13 : decode cX4_dropAllOf 13 = .ok (.getfield 28, 3) := by decide +kernel
theorem dX4_dropAllOf_16 : decode cX4_dropAllOf 16 = .ok (.iload_n 3, 1) := by decide +kernel
theorem dX4_dropAllOf_17 : decode cX4_dropAllOf 17 = .ok (.iaload, 1) := by decide +kernel
theorem dX4_dropAllOf_18 : decode cX4_dropAllOf 18 = .ok (.iload_n 1, 1) := by decide +kernel
theorem dX4_dropAllOf_19 : decode cX4_dropAllOf 19 = .ok (.if_icmp .eq 12, 3) := by decide +kernel
theorem dX4_dropAllOf_22 : decode cX4_dropAllOf 22 = .ok (.aload_n 0, 1) := by decide +kernel
theorem dX4_dropAllOf_23 : decode cX4_dropAllOf 23 = .ok (.iload_n 3, 1) := by decide +kernel
theorem dX4_dropAllOf_24 : decode cX4_dropAllOf 24 = .ok (.iload_n 2, 1) := by decide +kernel
theorem dX4_dropAllOf_25 : decode cX4_dropAllOf 25 = .ok (.invokevirtual 71, 3) := by decide +kernel
theorem dX4_dropAllOf_28 : decode cX4_dropAllOf 28 = .ok (.iinc 2 1, 3) := by decide +kernel
theorem dX4_dropAllOf_31 : decode cX4_dropAllOf 31 = .ok (.iinc 3 1, 3) := by decide +kernel
theorem dX4_dropAllOf_34 : decode cX4_dropAllOf 34 = .ok (.goto (-30), 3) := by decide +kernel
theorem dX4_dropAllOf_37 : decode cX4_dropAllOf 37 = .ok (.aload_n 0, 1) := by decide +kernel
theorem dX4_dropAllOf_38 : decode cX4_dropAllOf 38 = .ok (.getfield 9, 3) := by decide +kernel
theorem dX4_dropAllOf_41 : decode cX4_dropAllOf 41 = .ok (.iload_n 2, 1) := by decide +kernel
theorem dX4_dropAllOf_42 : decode cX4_dropAllOf 42 = .ok (.isub, 1) := by decide +kernel
theorem dX4_dropAllOf_43 : decode cX4_dropAllOf 43 = .ok (.istore_n 3, 1) := by decide +kernel
theorem dX4_dropAllOf_44 : decode cX4_dropAllOf 44 = .ok (.aload_n 0, 1) := by decide +kernel
theorem dX4_dropAllOf_45 : decode cX4_dropAllOf 45 = .ok (.iload_n 2, 1) := by decide +kernel
theorem dX4_dropAllOf_46 : decode cX4_dropAllOf 46 = .ok (.putfield 9, 3) := by decide +kernel
theorem dX4_dropAllOf_49 : decode cX4_dropAllOf 49 = .ok (.iload_n 3, 1) := by decide +kernel
theorem dX4_dropAllOf_50 : decode cX4_dropAllOf 50 = .ok (.ireturn, 1) := by decide +kernel
theorem dX4_dropAt_0 : decode cX4_dropAt 0 = .ok (.iload_n 1, 1) := by decide +kernel
theorem dX4_dropAt_1 : decode cX4_dropAt 1 = .ok (.istore_n 2, 1) := by decide +kernel
theorem dX4_dropAt_2 : decode cX4_dropAt 2 = .ok (.iload_n 2, 1) := by decide +kernel
theorem dX4_dropAt_3 : decode cX4_dropAt 3 = .ok (.iconst 1, 1) := by decide +kernel
theorem dX4_dropAt_4 : decode cX4_dropAt 4 = .ok (.iadd, 1) := by decide +kernel
theorem dX4_dropAt_5 : decode cX4_dropAt 5 = .ok (.aload_n 0, 1) := by decide +kernel
theorem dX4_dropAt_6 : decode cX4_dropAt 6 = .ok (.getfield 9, 3) := by decide +kernel
theorem dX4_dropAt_9 : decode cX4_dropAt 9 = .ok (.if_icmp .ge 17, 3) := by decide +kernel
theorem dX4_dropAt_12 : decode cX4_dropAt 12 = .ok (.aload_n 0, 1) := by decide +kernel
theorem dX4_dropAt_13 : decode cX4_dropAt 13 = .ok (.iload_n 2, 1) := by decide +kernel
theorem dX4_dropAt_14 : decode cX4_dropAt 14 = .ok (.iconst 1, 1) := by decide +kernel
theorem dX4_dropAt_15 : decode cX4_dropAt 15 = .ok (.iadd, 1) := by decide +kernel
theorem dX4_dropAt_16 : decode cX4_dropAt 16 = .ok (.iload_n 2, 1) := by decide +kernel
theorem dX4_dropAt_17 : decode cX4_dropAt 17 = .ok (.invokevirtual 71, 3) := by decide +kernel
theorem dX4_dropAt_20 : decode cX4_dropAt 20 = .ok (.iinc 2 1, 3) := by decide +kernel
theorem dX4_dropAt_23 : decode cX4_dropAt 23 = .ok (.goto (-21), 3) := by decide +kernel
theorem dX4_dropAt_26 : decode cX4_dropAt 26 = .ok (.aload_n 0, 1) := by decide +kernel
theorem dX4_dropAt_27 : decode cX4_dropAt 27 = .ok (.dup, 1) := by decide +kernel
theorem dX4_dropAt_28 : decode cX4_dropAt 28 = .ok (.getfield 9, 3) := by decide +kernel
theorem dX4_dropAt_31 : decode cX4_dropAt 31 = .ok (.iconst 1, 1) := by decide +kernel
theorem dX4_dropAt_32 : decode cX4_dropAt 32 = .ok (.isub, 1) := by decide +kernel
theorem dX4_dropAt_33 : decode cX4_dropAt 33 = .ok (.putfield 9, 3) := by decide +kernel
theorem dX4_dropAt_36 : decode cX4_dropAt 36 = .ok (.return_, 1) := by decide +kernel
theorem dX4_hasAbstract_0 : decode cX4_hasAbstract 0 = .ok (.iconst 0, 1) := by decide +kernel
theorem dX4_hasAbstract_1 : decode cX4_hasAbstract 1 = .ok (.istore_n 2, 1) := by decide +kernel
theorem dX4_hasAbstract_2 : decode cX4_hasAbstract 2 = .ok (.iload_n 2, 1) := by decide +kernel
theorem dX4_hasAbstract_3 : decode cX4_hasAbstract 3 = .ok (.aload_n 0, 1) := by decide +kernel
theorem dX4_hasAbstract_4 : decode cX4_hasAbstract 4 = .ok (.getfield 9, 3) := by decide +kernel
theorem dX4_hasAbstract_7 : decode cX4_hasAbstract 7 = .ok (.if_icmp .ge 29, 3) := by decide +kernel
theorem dX4_hasAbstract_10 : decode cX4_hasAbstract 10 = .ok (.aload_n 0, 1) := by decide +kernel
theorem dX4_hasAbstract_11 : decode cX4_hasAbstract 11 = .ok (.getfield 28, 3) := by decide +kernel
theorem dX4_hasAbstract_14 : decode cX4_hasAbstract 14 = .ok (.iload_n 2, 1) := by decide +kernel
theorem dX4_hasAbstract_15 : decode cX4_hasAbstract 15 = .ok (.iaload, 1) := by decide +kernel
theorem dX4_hasAbstract_16 : decode cX4_hasAbstract 16 = .ok (.iload_n 1, 1) := by decide +kernel
theorem dX4_hasAbstract_17 : decode cX4_hasAbstract 17 = .ok (.if_icmp .ne 13, 3) := by decide +kernel
theorem dX4_hasAbstract_20 : decode cX4_hasAbstract 20 = .ok (.aload_n 0, 1) := by decide +kernel
theorem dX4_hasAbstract_21 : decode cX4_hasAbstract 21 = .ok (.iload_n 2, 1) := by decide +kernel
theorem dX4_hasAbstract_22 : decode cX4_hasAbstract 22 = .ok (.invokevirtual 81, 3) := by decide +kernel
theorem dX4_hasAbstract_25 : decode cX4_hasAbstract 25 = .ok (.ifCond .eq 5, 3) := by decide +kernel
theorem dX4_hasAbstract_28 : decode cX4_hasAbstract 28 = .ok (.iconst 1, 1) := by decide +kernel
theorem dX4_hasAbstract_29 : decode cX4_hasAbstract 29 = .ok (.ireturn, 1) := by decide +kernel
theorem dX4_hasAbstract_30 : decode cX4_hasAbstract 30 = .ok (.iinc 2 1, 3) := by decide +kernel
theorem dX4_hasAbstract_33 : decode cX4_hasAbstract 33 = .ok (.goto (-31), 3) := by decide +kernel
theorem dX4_hasAbstract_36 : decode cX4_hasAbstract 36 = .ok (.iconst 0, 1) := by decide +kernel
theorem dX4_hasAbstract_37 : decode cX4_hasAbstract 37 = .ok (.ireturn, 1) := by decide +kernel
theorem dX4_hasField_0 : decode cX4_hasField 0 = .ok (.iconst 0, 1) := by decide +kernel
theorem dX4_hasField_1 : decode cX4_hasField 1 = .ok (.istore_n 3, 1) := by decide +kernel
theorem dX4_hasField_2 : decode cX4_hasField 2 = .ok (.iload_n 3, 1) := by decide +kernel
theorem dX4_hasField_3 : decode cX4_hasField 3 = .ok (.aload_n 0, 1) := by decide +kernel
theorem dX4_hasField_4 : decode cX4_hasField 4 = .ok (.getfield 9, 3) := by decide +kernel
theorem dX4_hasField_7 : decode cX4_hasField 7 = .ok (.if_icmp .ge 40, 3) := by decide +kernel
theorem dX4_hasField_10 : decode cX4_hasField 10 = .ok (.aload_n 0, 1) := by decide +kernel
theorem dX4_hasField_11 : decode cX4_hasField 11 = .ok (.getfield 28, 3) := by decide +kernel
theorem dX4_hasField_14 : decode cX4_hasField 14 = .ok (.iload_n 3, 1) := by decide +kernel
theorem dX4_hasField_15 : decode cX4_hasField 15 = .ok (.iaload, 1) := by decide +kernel
theorem dX4_hasField_16 : decode cX4_hasField 16 = .ok (.iload_n 1, 1) := by decide +kernel
theorem dX4_hasField_17 : decode cX4_hasField 17 = .ok (.if_icmp .ne 24, 3) := by decide +kernel
theorem dX4_hasField_20 : decode cX4_hasField 20 = .ok (.aload_n 0, 1) := by decide +kernel
theorem dX4_hasField_21 : decode cX4_hasField 21 = .ok (.getfield 25, 3) := by decide +kernel
theorem dX4_hasField_24 : decode cX4_hasField 24 = .ok (.iload_n 3, 1) := by decide +kernel
theorem dX4_hasField_25 : decode cX4_hasField 25 = .ok (.iaload, 1) := by decide +kernel
theorem dX4_hasField_26 : decode cX4_hasField 26 = .ok (.ifCond .ne 15, 3) := by decide +kernel
theorem dX4_hasField_29 : decode cX4_hasField 29 = .ok (.aload_n 0, 1) := by decide +kernel
theorem dX4_hasField_30 : decode cX4_hasField 30 = .ok (.getfield 31, 3) := by decide +kernel
theorem dX4_hasField_33 : decode cX4_hasField 33 = .ok (.iload_n 3, 1) := by decide +kernel
theorem dX4_hasField_34 : decode cX4_hasField 34 = .ok (.iaload, 1) := by decide +kernel
theorem dX4_hasField_35 : decode cX4_hasField 35 = .ok (.iload_n 2, 1) := by decide +kernel
theorem dX4_hasField_36 : decode cX4_hasField 36 = .ok (.if_icmp .ne 5, 3) := by decide +kernel
theorem dX4_hasField_39 : decode cX4_hasField 39 = .ok (.iconst 1, 1) := by decide +kernel
theorem dX4_hasField_40 : decode cX4_hasField 40 = .ok (.ireturn, 1) := by decide +kernel
theorem dX4_hasField_41 : decode cX4_hasField 41 = .ok (.iinc 3 1, 3) := by decide +kernel
theorem dX4_hasField_44 : decode cX4_hasField 44 = .ok (.goto (-42), 3) := by decide +kernel
theorem dX4_hasField_47 : decode cX4_hasField 47 = .ok (.iconst 0, 1) := by decide +kernel
theorem dX4_hasField_48 : decode cX4_hasField 48 = .ok (.ireturn, 1) := by decide +kernel
theorem dX4_hasMethod_0 : decode cX4_hasMethod 0 = .ok (.iconst 0, 1) := by decide +kernel
theorem dX4_hasMethod_1 : decode cX4_hasMethod 1 = .ok (.istore_n 3, 1) := by decide +kernel
theorem dX4_hasMethod_2 : decode cX4_hasMethod 2 = .ok (.iload_n 3, 1) := by decide +kernel
theorem dX4_hasMethod_3 : decode cX4_hasMethod 3 = .ok (.aload_n 0, 1) := by decide +kernel
theorem dX4_hasMethod_4 : decode cX4_hasMethod 4 = .ok (.getfield 9, 3) := by decide +kernel
theorem dX4_hasMethod_7 : decode cX4_hasMethod 7 = .ok (.if_icmp .ge 31, 3) := by decide +kernel
theorem dX4_hasMethod_10 : decode cX4_hasMethod 10 = .ok (.aload_n 0, 1) := by decide +kernel
theorem dX4_hasMethod_11 : decode cX4_hasMethod 11 = .ok (.getfield 28, 3) := by decide +kernel
theorem dX4_hasMethod_14 : decode cX4_hasMethod 14 = .ok (.iload_n 3, 1) := by decide +kernel
theorem dX4_hasMethod_15 : decode cX4_hasMethod 15 = .ok (.iaload, 1) := by decide +kernel
theorem dX4_hasMethod_16 : decode cX4_hasMethod 16 = .ok (.iload_n 1, 1) := by decide +kernel
theorem dX4_hasMethod_17 : decode cX4_hasMethod 17 = .ok (.if_icmp .ne 15, 3) := by decide +kernel
theorem dX4_hasMethod_20 : decode cX4_hasMethod 20 = .ok (.aload_n 0, 1) := by decide +kernel
theorem dX4_hasMethod_21 : decode cX4_hasMethod 21 = .ok (.getfield 46, 3) := by decide +kernel
theorem dX4_hasMethod_24 : decode cX4_hasMethod 24 = .ok (.iload_n 3, 1) := by decide +kernel
theorem dX4_hasMethod_25 : decode cX4_hasMethod 25 = .ok (.iaload, 1) := by decide +kernel
theorem dX4_hasMethod_26 : decode cX4_hasMethod 26 = .ok (.iload_n 2, 1) := by decide +kernel
theorem dX4_hasMethod_27 : decode cX4_hasMethod 27 = .ok (.if_icmp .ne 5, 3) := by decide +kernel
theorem dX4_hasMethod_30 : decode cX4_hasMethod 30 = .ok (.iconst 1, 1) := by decide +kernel
theorem dX4_hasMethod_31 : decode cX4_hasMethod 31 = .ok (.ireturn, 1) := by decide +kernel
theorem dX4_hasMethod_32 : decode cX4_hasMethod 32 = .ok (.iinc 3 1, 3) := by decide +kernel
theorem dX4_hasMethod_35 : decode cX4_hasMethod 35 = .ok (.goto (-33), 3) := by decide +kernel
theorem dX4_hasMethod_38 : decode cX4_hasMethod 38 = .ok (.iconst 0, 1) := by decide +kernel
theorem dX4_hasMethod_39 : decode cX4_hasMethod 39 = .ok (.ireturn, 1) := by decide +kernel
theorem dX4_isFull_0 : decode cX4_isFull 0 = .ok (.aload_n 0, 1) := by decide +kernel
theorem dX4_isFull_1 : decode cX4_isFull 1 = .ok (.getfield 9, 3) := by decide +kernel
theorem dX4_isFull_4 : decode cX4_isFull 4 = .ok (.bipush 40, 2) := by decide +kernel
theorem dX4_isFull_6 : decode cX4_isFull 6 = .ok (.if_icmp .lt 7, 3) := by decide +kernel
theorem dX4_isFull_9 : decode cX4_isFull 9 = .ok (.iconst 1, 1) := by decide +kernel
theorem dX4_isFull_10 : decode cX4_isFull 10 = .ok (.goto 4, 3) := by decide +kernel
theorem dX4_isFull_13 : decode cX4_isFull 13 = .ok (.iconst 0, 1) := by decide +kernel
theorem dX4_isFull_14 : decode cX4_isFull 14 = .ok (.ireturn, 1) := by decide +kernel
theorem dX4_isStaticFinal_0 : decode cX4_isStaticFinal 0 = .ok (.aload_n 0, 1) := by decide +kernel
theorem dX4_isStaticFinal_1 : decode cX4_isStaticFinal 1 = .ok (.getfield 19, 3) := by decide +kernel
theorem dX4_isStaticFinal_4 : decode cX4_isStaticFinal 4 = .ok (.iload_n 1, 1) := by decide +kernel
theorem dX4_isStaticFinal_5 : decode cX4_isStaticFinal 5 = .ok (.iaload, 1) := by decide +kernel
theorem dX4_isStaticFinal_6 : decode cX4_isStaticFinal 6 = .ok (.iconst 1, 1) := by decide +kernel
theorem dX4_isStaticFinal_7 : decode cX4_isStaticFinal 7 = .ok (.iand, 1) := by decide +kernel
theorem dX4_isStaticFinal_8 : decode cX4_isStaticFinal 8 = .ok (.ifCond .eq 18, 3) := by decide +kernel
theorem dX4_isStaticFinal_11 : decode cX4_isStaticFinal 11 = .ok (.aload_n 0, 1) := by decide +kernel
theorem dX4_isStaticFinal_12 : decode cX4_isStaticFinal 12 = .ok (.getfield 19, 3) := by decide +kernel
theorem dX4_isStaticFinal_15 : decode cX4_isStaticFinal 15 = .ok (.iload_n 1, 1) := by decide +kernel
theorem dX4_isStaticFinal_16 : decode cX4_isStaticFinal 16 = .ok (.iaload, 1) := by decide +kernel
theorem dX4_isStaticFinal_17 : decode cX4_isStaticFinal 17 = .ok (.iconst 2, 1) := by decide +kernel
theorem dX4_isStaticFinal_18 : decode cX4_isStaticFinal 18 = .ok (.iand, 1) := by decide +kernel
theorem dX4_isStaticFinal_19 : decode cX4_isStaticFinal 19 = .ok (.ifCond .eq 7, 3) := by decide +kernel
theorem dX4_isStaticFinal_22 : decode cX4_isStaticFinal 22 = .ok (.iconst 1, 1) := by decide +kernel
theorem dX4_isStaticFinal_23 : decode cX4_isStaticFinal 23 = .ok (.goto 4, 3) := by decide +kernel
theorem dX4_isStaticFinal_26 : decode cX4_isStaticFinal 26 = .ok (.iconst 0, 1) := by decide +kernel
theorem dX4_isStaticFinal_27 : decode cX4_isStaticFinal 27 = .ok (.ireturn, 1) := by decide +kernel
theorem dX4_putValue_0 : decode cX4_putValue 0 = .ok (.iload_n 2, 1) := by decide +kernel
theorem dX4_putValue_1 : decode cX4_putValue 1 = .ok (.lookupswitch 63 #[(0, 27), (1, 37)], 27) := by decide +kernel
theorem dX4_putValue_28 : decode cX4_putValue 28 = .ok (.aload_n 0, 1) := by decide +kernel
theorem dX4_putValue_29 : decode cX4_putValue 29 = .ok (.getfield 15, 3) := by decide +kernel
theorem dX4_putValue_32 : decode cX4_putValue 32 = .ok (.iload_n 1, 1) := by decide +kernel
theorem dX4_putValue_33 : decode cX4_putValue 33 = .ok (.iload_n 3, 1) := by decide +kernel
theorem dX4_putValue_34 : decode cX4_putValue 34 = .ok (.iastore, 1) := by decide +kernel
theorem dX4_putValue_35 : decode cX4_putValue 35 = .ok (.goto 36, 3) := by decide +kernel
theorem dX4_putValue_38 : decode cX4_putValue 38 = .ok (.aload_n 0, 1) := by decide +kernel
theorem dX4_putValue_39 : decode cX4_putValue 39 = .ok (.getfield 19, 3) := by decide +kernel
theorem dX4_putValue_42 : decode cX4_putValue 42 = .ok (.iload_n 1, 1) := by decide +kernel
theorem dX4_putValue_43 : decode cX4_putValue 43 = .ok (.iload_n 3, 1) := by decide +kernel
theorem dX4_putValue_44 : decode cX4_putValue 44 = .ok (.iastore, 1) := by decide +kernel
theorem dX4_putValue_45 : decode cX4_putValue 45 = .ok (.aload_n 0, 1) := by decide +kernel
theorem dX4_putValue_46 : decode cX4_putValue 46 = .ok (.iload_n 1, 1) := by decide +kernel
theorem dX4_putValue_47 : decode cX4_putValue 47 = .ok (.invokevirtual 85, 3) := by decide +kernel
theorem dX4_putValue_50 : decode cX4_putValue 50 = .ok (.ifCond .ne 21, 3) := by decide +kernel
theorem dX4_putValue_53 : decode cX4_putValue 53 = .ok (.aload_n 0, 1) := by decide +kernel
theorem dX4_putValue_54 : decode cX4_putValue 54 = .ok (.getfield 22, 3) := by decide +kernel
theorem dX4_putValue_57 : decode cX4_putValue 57 = .ok (.iload_n 1, 1) := by decide +kernel
theorem dX4_putValue_58 : decode cX4_putValue 58 = .ok (.bipush (-2), 2) := by decide +kernel
theorem dX4_putValue_60 : decode cX4_putValue 60 = .ok (.iastore, 1) := by decide +kernel
theorem dX4_putValue_61 : decode cX4_putValue 61 = .ok (.goto 10, 3) := by decide +kernel
theorem dX4_putValue_64 : decode cX4_putValue 64 = .ok (.aload_n 0, 1) := by decide +kernel
theorem dX4_putValue_65 : decode cX4_putValue 65 = .ok (.getfield 22, 3) := by decide +kernel
theorem dX4_putValue_68 : decode cX4_putValue 68 = .ok (.iload_n 1, 1) := by decide +kernel
theorem dX4_putValue_69 : decode cX4_putValue 69 = .ok (.iload_n 3, 1) := by decide +kernel
theorem dX4_putValue_70 : decode cX4_putValue 70 = .ok (.iastore, 1) := by decide +kernel
theorem dX4_putValue_71 : decode cX4_putValue 71 = .ok (.return_, 1) := by decide +kernel
theorem dX4_valueOf_0 : decode cX4_valueOf 0 = .ok (.iload_n 2, 1) := by decide +kernel
theorem dX4_valueOf_1 : decode cX4_valueOf 1 = .ok (.tableswitch 114 0 8 #[51, 58, 65, 72, 79, 86, 93, 100, 107], 51) := by decide +kernel
theorem dX4_valueOf_52 : decode cX4_valueOf 52 = .ok (.aload_n 0, 1) := by decide +kernel
theorem dX4_valueOf_53 : decode cX4_valueOf 53 = .ok (.getfield 15, 3) := by decide +kernel
theorem dX4_valueOf_56 : decode cX4_valueOf 56 = .ok (.iload_n 1, 1) := by decide +kernel
theorem dX4_valueOf_57 : decode cX4_valueOf 57 = .ok (.iaload, 1) := by decide +kernel
theorem dX4_valueOf_58 : decode cX4_valueOf 58 = .ok (.ireturn, 1) := by decide +kernel
theorem dX4_valueOf_59 : decode cX4_valueOf 59 = .ok (.aload_n 0, 1) := by decide +kernel
theorem dX4_valueOf_60 : decode cX4_valueOf 60 = .ok (.getfield 19, 3) := by decide +kernel
theorem dX4_valueOf_63 : decode cX4_valueOf 63 = .ok (.iload_n 1, 1) := by decide +kernel
theorem dX4_valueOf_64 : decode cX4_valueOf 64 = .ok (.iaload, 1) := by decide +kernel
theorem dX4_valueOf_65 : decode cX4_valueOf 65 = .ok (.ireturn, 1) := by decide +kernel
theorem dX4_valueOf_66 : decode cX4_valueOf 66 = .ok (.aload_n 0, 1) := by decide +kernel
theorem dX4_valueOf_67 : decode cX4_valueOf 67 = .ok (.getfield 22, 3) := by decide +kernel
theorem dX4_valueOf_70 : decode cX4_valueOf 70 = .ok (.iload_n 1, 1) := by decide +kernel
theorem dX4_valueOf_71 : decode cX4_valueOf 71 = .ok (.iaload, 1) := by decide +kernel
theorem dX4_valueOf_72 : decode cX4_valueOf 72 = .ok (.ireturn, 1) := by decide +kernel
theorem dX4_valueOf_73 : decode cX4_valueOf 73 = .ok (.aload_n 0, 1) := by decide +kernel
theorem dX4_valueOf_74 : decode cX4_valueOf 74 = .ok (.getfield 25, 3) := by decide +kernel
theorem dX4_valueOf_77 : decode cX4_valueOf 77 = .ok (.iload_n 1, 1) := by decide +kernel
theorem dX4_valueOf_78 : decode cX4_valueOf 78 = .ok (.iaload, 1) := by decide +kernel
theorem dX4_valueOf_79 : decode cX4_valueOf 79 = .ok (.ireturn, 1) := by decide +kernel
theorem dX4_valueOf_80 : decode cX4_valueOf 80 = .ok (.aload_n 0, 1) := by decide +kernel
theorem dX4_valueOf_81 : decode cX4_valueOf 81 = .ok (.getfield 28, 3) := by decide +kernel
theorem dX4_valueOf_84 : decode cX4_valueOf 84 = .ok (.iload_n 1, 1) := by decide +kernel
theorem dX4_valueOf_85 : decode cX4_valueOf 85 = .ok (.iaload, 1) := by decide +kernel
theorem dX4_valueOf_86 : decode cX4_valueOf 86 = .ok (.ireturn, 1) := by decide +kernel
theorem dX4_valueOf_87 : decode cX4_valueOf 87 = .ok (.aload_n 0, 1) := by decide +kernel
theorem dX4_valueOf_88 : decode cX4_valueOf 88 = .ok (.getfield 31, 3) := by decide +kernel
theorem dX4_valueOf_91 : decode cX4_valueOf 91 = .ok (.iload_n 1, 1) := by decide +kernel
theorem dX4_valueOf_92 : decode cX4_valueOf 92 = .ok (.iaload, 1) := by decide +kernel
theorem dX4_valueOf_93 : decode cX4_valueOf 93 = .ok (.ireturn, 1) := by decide +kernel
theorem dX4_valueOf_94 : decode cX4_valueOf 94 = .ok (.aload_n 0, 1) := by decide +kernel
theorem dX4_valueOf_95 : decode cX4_valueOf 95 = .ok (.getfield 34, 3) := by decide +kernel
theorem dX4_valueOf_98 : decode cX4_valueOf 98 = .ok (.iload_n 1, 1) := by decide +kernel
theorem dX4_valueOf_99 : decode cX4_valueOf 99 = .ok (.iaload, 1) := by decide +kernel
theorem dX4_valueOf_100 : decode cX4_valueOf 100 = .ok (.ireturn, 1) := by decide +kernel
theorem dX4_valueOf_101 : decode cX4_valueOf 101 = .ok (.aload_n 0, 1) := by decide +kernel
theorem dX4_valueOf_102 : decode cX4_valueOf 102 = .ok (.getfield 37, 3) := by decide +kernel
theorem dX4_valueOf_105 : decode cX4_valueOf 105 = .ok (.iload_n 1, 1) := by decide +kernel
theorem dX4_valueOf_106 : decode cX4_valueOf 106 = .ok (.iaload, 1) := by decide +kernel
theorem dX4_valueOf_107 : decode cX4_valueOf 107 = .ok (.ireturn, 1) := by decide +kernel
theorem dX4_valueOf_108 : decode cX4_valueOf 108 = .ok (.aload_n 0, 1) := by decide +kernel
theorem dX4_valueOf_109 : decode cX4_valueOf 109 = .ok (.getfield 40, 3) := by decide +kernel
theorem dX4_valueOf_112 : decode cX4_valueOf 112 = .ok (.iload_n 1, 1) := by decide +kernel
theorem dX4_valueOf_113 : decode cX4_valueOf 113 = .ok (.iaload, 1) := by decide +kernel
theorem dX4_valueOf_114 : decode cX4_valueOf 114 = .ok (.ireturn, 1) := by decide +kernel
theorem dX4_valueOf_115 : decode cX4_valueOf 115 = .ok (.aload_n 0, 1) := by decide +kernel
theorem dX4_valueOf_116 : decode cX4_valueOf 116 = .ok (.getfield 43, 3) := by decide +kernel
theorem dX4_valueOf_119 : decode cX4_valueOf 119 = .ok (.iload_n 1, 1) := by decide +kernel
theorem dX4_valueOf_120 : decode cX4_valueOf 120 = .ok (.iaload, 1) := by decide +kernel
theorem dX4_valueOf_121 : decode cX4_valueOf 121 = .ok (.ireturn, 1) := by decide +kernel
theorem dX5_init_0 : decode cX5_init 0 = .ok (.aload_n 0, 1) := by decide +kernel
theorem dX5_init_1 : decode cX5_init 1 = .ok (.invokespecial 3, 3) := by decide +kernel
theorem dX5_init_4 : decode cX5_init 4 = .ok (.aload_n 0, 1) := by decide +kernel
theorem dX5_init_5 : decode cX5_init 5 = .ok (.iconst (-1), 1) := by decide +kernel
theorem dX5_init_6 : decode cX5_init 6 = .ok (.putfield 9, 3) := by decide +kernel
theorem dX5_init_9 : decode cX5_init 9 = .ok (.aload_n 0, 1) := by decide +kernel
theorem dX5_init_10 : decode cX5_init 10 = .ok (.iconst 0, 1) := by decide +kernel
theorem dX5_init_11 : decode cX5_init 11 = .ok (.putfield 15, 3) := by decide +kernel
theorem dX5_init_14 : decode cX5_init 14 = .ok (.aload_n 0, 1) := by decide +kernel
theorem dX5_init_15 : decode cX5_init 15 = .ok (.bipush (-2), 2) := by decide +kernel
theorem dX5_init_17 : decode cX5_init 17 = .ok (.putfield 18, 3) := by decide +kernel
theorem dX5_init_20 : decode cX5_init 20 = .ok (.aload_n 0, 1) := by decide +kernel
theorem dX5_init_21 : decode cX5_init 21 = .ok (.bipush (-2), 2) := by decide +kernel
theorem dX5_init_23 : decode cX5_init 23 = .ok (.putfield 21, 3) := by decide +kernel
theorem dX5_init_26 : decode cX5_init 26 = .ok (.return_, 1) := by decide +kernel
theorem dX5_put_0 : decode cX5_put 0 = .ok (.aload_n 0, 1) := by decide +kernel
theorem dX5_put_1 : decode cX5_put 1 = .ok (.iload_n 1, 1) := by decide +kernel
theorem dX5_put_2 : decode cX5_put 2 = .ok (.putfield 9, 3) := by decide +kernel
theorem dX5_put_5 : decode cX5_put 5 = .ok (.aload_n 0, 1) := by decide +kernel
theorem dX5_put_6 : decode cX5_put 6 = .ok (.iload_n 2, 1) := by decide +kernel
theorem dX5_put_7 : decode cX5_put 7 = .ok (.putfield 15, 3) := by decide +kernel
theorem dX5_put_10 : decode cX5_put 10 = .ok (.aload_n 0, 1) := by decide +kernel
theorem dX5_put_11 : decode cX5_put 11 = .ok (.iload_n 2, 1) := by decide +kernel
theorem dX5_put_12 : decode cX5_put 12 = .ok (.iconst 1, 1) := by decide +kernel
theorem dX5_put_13 : decode cX5_put 13 = .ok (.if_icmp .lt 7, 3) := by decide +kernel
theorem dX5_put_16 : decode cX5_put 16 = .ok (.iload_n 3, 1) := by decide +kernel
theorem dX5_put_17 : decode cX5_put 17 = .ok (.goto 5, 3) := by decide +kernel
theorem dX5_put_20 : decode cX5_put 20 = .ok (.bipush (-2), 2) := by decide +kernel
theorem dX5_put_22 : decode cX5_put 22 = .ok (.putfield 18, 3) := by decide +kernel
theorem dX5_put_25 : decode cX5_put 25 = .ok (.aload_n 0, 1) := by decide +kernel
theorem dX5_put_26 : decode cX5_put 26 = .ok (.iload_n 2, 1) := by decide +kernel
theorem dX5_put_27 : decode cX5_put 27 = .ok (.iconst 2, 1) := by decide +kernel
theorem dX5_put_28 : decode cX5_put 28 = .ok (.if_icmp .lt 8, 3) := by decide +kernel
theorem dX5_put_31 : decode cX5_put 31 = .ok (.iload 4, 2) := by decide +kernel
theorem dX5_put_33 : decode cX5_put 33 = .ok (.goto 5, 3) := by decide +kernel
theorem dX5_put_36 : decode cX5_put 36 = .ok (.bipush (-2), 2) := by decide +kernel
theorem dX5_put_38 : decode cX5_put 38 = .ok (.putfield 21, 3) := by decide +kernel
theorem dX5_put_41 : decode cX5_put 41 = .ok (.return_, 1) := by decide +kernel
theorem dX6_append_0 : decode cX6_append 0 = .ok (.aload_n 0, 1) := by decide +kernel
theorem dX6_append_1 : decode cX6_append 1 = .ok (.getfield 19, 3) := by decide +kernel
theorem dX6_append_4 : decode cX6_append 4 = .ok (.aload_n 0, 1) := by decide +kernel
theorem dX6_append_5 : decode cX6_append 5 = .ok (.getfield 23, 3) := by decide +kernel
theorem dX6_append_8 : decode cX6_append 8 = .ok (.aaload, 1) := by decide +kernel
theorem dX6_append_9 : decode cX6_append 9 = .ok (.aload_n 1, 1) := by decide +kernel
theorem dX6_append_10 : decode cX6_append 10 = .ok (.invokevirtual 33, 3) := by decide +kernel
theorem dX6_append_13 : decode cX6_append 13 = .ok (.aload_n 0, 1) := by decide +kernel
theorem dX6_append_14 : decode cX6_append 14 = .ok (.dup, 1) := by decide +kernel
theorem dX6_append_15 : decode cX6_append 15 = .ok (.getfield 23, 3) := by decide +kernel
theorem dX6_append_18 : decode cX6_append 18 = .ok (.iconst 1, 1) := by decide +kernel
theorem dX6_append_19 : decode cX6_append 19 = .ok (.iadd, 1) := by decide +kernel
theorem dX6_append_20 : decode cX6_append 20 = .ok (.putfield 23, 3) := by decide +kernel
theorem dX6_append_23 : decode cX6_append 23 = .ok (.return_, 1) := by decide +kernel
theorem dX6_copyFrom_0 : decode cX6_copyFrom 0 = .ok (.iconst 0, 1) := by decide +kernel
theorem dX6_copyFrom_1 : decode cX6_copyFrom 1 = .ok (.istore_n 2, 1) := by decide +kernel
theorem dX6_copyFrom_2 : decode cX6_copyFrom 2 = .ok (.iload_n 2, 1) := by decide +kernel
theorem dX6_copyFrom_3 : decode cX6_copyFrom 3 = .ok (.iconst 2, 1) := by decide +kernel
theorem dX6_copyFrom_4 : decode cX6_copyFrom 4 = .ok (.if_icmp .ge 24, 3) := by decide +kernel
theorem dX6_copyFrom_7 : decode cX6_copyFrom 7 = .ok (.aload_n 0, 1) := by decide +kernel
theorem dX6_copyFrom_8 : decode cX6_copyFrom 8 = .ok (.getfield 11, 3) := by decide +kernel
theorem dX6_copyFrom_11 : decode cX6_copyFrom 11 = .ok (.iload_n 2, 1) := by decide +kernel
theorem dX6_copyFrom_12 : decode cX6_copyFrom 12 = .ok (.aaload, 1) := by decide +kernel
theorem dX6_copyFrom_13 : decode cX6_copyFrom 13 = .ok (.aload_n 1, 1) := by decide +kernel
theorem dX6_copyFrom_14 : decode cX6_copyFrom 14 = .ok (.getfield 11, 3) := by decide +kernel
theorem dX6_copyFrom_17 : decode cX6_copyFrom 17 = .ok (.iload_n 2, 1) := by decide +kernel
theorem dX6_copyFrom_18 : decode cX6_copyFrom 18 = .ok (.aaload, 1) := by decide +kernel
theorem dX6_copyFrom_19 : decode cX6_copyFrom 19 = .ok (.invokevirtual 29, 3) := by decide +kernel
theorem dX6_copyFrom_22 : decode cX6_copyFrom 22 = .ok (.iinc 2 1, 3) := by decide +kernel
theorem dX6_copyFrom_25 : decode cX6_copyFrom 25 = .ok (.goto (-23), 3) := by decide +kernel
theorem dX6_copyFrom_28 : decode cX6_copyFrom 28 = .ok (.iconst 0, 1) := by decide +kernel
theorem dX6_copyFrom_29 : decode cX6_copyFrom 29 = .ok (.istore_n 2, 1) := by decide +kernel
theorem dX6_copyFrom_30 : decode cX6_copyFrom 30 = .ok (.iload_n 2, 1) := by decide +kernel
theorem dX6_copyFrom_31 : decode cX6_copyFrom 31 = .ok (.aload_n 1, 1) := by decide +kernel
theorem dX6_copyFrom_32 : decode cX6_copyFrom 32 = .ok (.getfield 23, 3) := by decide +kernel
theorem dX6_copyFrom_35 : decode cX6_copyFrom 35 = .ok (.if_icmp .ge 24, 3) := by decide +kernel
theorem dX6_copyFrom_38 : decode cX6_copyFrom 38 = .ok (.aload_n 0, 1) := by decide +kernel
theorem dX6_copyFrom_39 : decode cX6_copyFrom 39 = .ok (.getfield 19, 3) := by decide +kernel
theorem dX6_copyFrom_42 : decode cX6_copyFrom 42 = .ok (.iload_n 2, 1) := by decide +kernel
theorem dX6_copyFrom_43 : decode cX6_copyFrom 43 = .ok (.aaload, 1) := by decide +kernel
theorem dX6_copyFrom_44 : decode cX6_copyFrom 44 = .ok (.aload_n 1, 1) := by decide +kernel
theorem dX6_copyFrom_45 : decode cX6_copyFrom 45 = .ok (.getfield 19, 3) := by decide +kernel
theorem dX6_copyFrom_48 : decode cX6_copyFrom 48 = .ok (.iload_n 2, 1) := by decide +kernel
theorem dX6_copyFrom_49 : decode cX6_copyFrom 49 = .ok (.aaload, 1) := by decide +kernel
theorem dX6_copyFrom_50 : decode cX6_copyFrom 50 = .ok (.invokevirtual 33, 3) := by decide +kernel
theorem dX6_copyFrom_53 : decode cX6_copyFrom 53 = .ok (.iinc 2 1, 3) := by decide +kernel
theorem dX6_copyFrom_56 : decode cX6_copyFrom 56 = .ok (.goto (-26), 3) := by decide +kernel
theorem dX6_copyFrom_59 : decode cX6_copyFrom 59 = .ok (.aload_n 0, 1) := by decide +kernel
theorem dX6_copyFrom_60 : decode cX6_copyFrom 60 = .ok (.aload_n 1, 1) := by decide +kernel
theorem dX6_copyFrom_61 : decode cX6_copyFrom 61 = .ok (.getfield 23, 3) := by decide +kernel
theorem dX6_copyFrom_64 : decode cX6_copyFrom 64 = .ok (.putfield 23, 3) := by decide +kernel
theorem dX6_copyFrom_67 : decode cX6_copyFrom 67 = .ok (.return_, 1) := by decide +kernel
theorem dX6_dropAt_0 : decode cX6_dropAt 0 = .ok (.iload_n 1, 1) := by decide +kernel
theorem dX6_dropAt_1 : decode cX6_dropAt 1 = .ok (.istore_n 2, 1) := by decide +kernel
theorem dX6_dropAt_2 : decode cX6_dropAt 2 = .ok (.iload_n 2, 1) := by decide +kernel
theorem dX6_dropAt_3 : decode cX6_dropAt 3 = .ok (.iconst 1, 1) := by decide +kernel
theorem dX6_dropAt_4 : decode cX6_dropAt 4 = .ok (.iadd, 1) := by decide +kernel
theorem dX6_dropAt_5 : decode cX6_dropAt 5 = .ok (.aload_n 0, 1) := by decide +kernel
theorem dX6_dropAt_6 : decode cX6_dropAt 6 = .ok (.getfield 23, 3) := by decide +kernel
theorem dX6_dropAt_9 : decode cX6_dropAt 9 = .ok (.if_icmp .ge 26, 3) := by decide +kernel
theorem dX6_dropAt_12 : decode cX6_dropAt 12 = .ok (.aload_n 0, 1) := by decide +kernel
theorem dX6_dropAt_13 : decode cX6_dropAt 13 = .ok (.getfield 19, 3) := by decide +kernel
theorem dX6_dropAt_16 : decode cX6_dropAt 16 = .ok (.iload_n 2, 1) := by decide +kernel
theorem dX6_dropAt_17 : decode cX6_dropAt 17 = .ok (.aaload, 1) := by decide +kernel
theorem dX6_dropAt_18 : decode cX6_dropAt 18 = .ok (.aload_n 0, 1) := by decide +kernel
theorem dX6_dropAt_19 : decode cX6_dropAt 19 = .ok (.getfield 19, 3) := by decide +kernel
theorem dX6_dropAt_22 : decode cX6_dropAt 22 = .ok (.iload_n 2, 1) := by decide +kernel
theorem dX6_dropAt_23 : decode cX6_dropAt 23 = .ok (.iconst 1, 1) := by decide +kernel
theorem dX6_dropAt_24 : decode cX6_dropAt 24 = .ok (.iadd, 1) := by decide +kernel
theorem dX6_dropAt_25 : decode cX6_dropAt 25 = .ok (.aaload, 1) := by decide +kernel
theorem dX6_dropAt_26 : decode cX6_dropAt 26 = .ok (.invokevirtual 33, 3) := by decide +kernel
theorem dX6_dropAt_29 : decode cX6_dropAt 29 = .ok (.iinc 2 1, 3) := by decide +kernel
theorem dX6_dropAt_32 : decode cX6_dropAt 32 = .ok (.goto (-30), 3) := by decide +kernel
theorem dX6_dropAt_35 : decode cX6_dropAt 35 = .ok (.aload_n 0, 1) := by decide +kernel
theorem dX6_dropAt_36 : decode cX6_dropAt 36 = .ok (.dup, 1) := by decide +kernel
theorem dX6_dropAt_37 : decode cX6_dropAt 37 = .ok (.getfield 23, 3) := by decide +kernel
theorem dX6_dropAt_40 : decode cX6_dropAt 40 = .ok (.iconst 1, 1) := by decide +kernel
theorem dX6_dropAt_41 : decode cX6_dropAt 41 = .ok (.isub, 1) := by decide +kernel
theorem dX6_dropAt_42 : decode cX6_dropAt 42 = .ok (.putfield 23, 3) := by decide +kernel
theorem dX6_dropAt_45 : decode cX6_dropAt 45 = .ok (.return_, 1) := by decide +kernel
theorem dX6_init_0 : decode cX6_init 0 = .ok (.aload_n 0, 1) := by decide +kernel
theorem dX6_init_1 : decode cX6_init 1 = .ok (.invokespecial 3, 3) := by decide +kernel
theorem dX6_init_4 : decode cX6_init 4 = .ok (.aload_n 0, 1) := by decide +kernel
theorem dX6_init_5 : decode cX6_init 5 = .ok (.iconst 2, 1) := by decide +kernel
theorem dX6_init_6 : decode cX6_init 6 = .ok (.anewarray 9, 3) := by decide +kernel
theorem dX6_init_9 : decode cX6_init 9 = .ok (.putfield 11, 3) := by decide +kernel
theorem dX6_init_12 : decode cX6_init 12 = .ok (.aload_n 0, 1) := by decide +kernel
theorem dX6_init_13 : decode cX6_init 13 = .ok (.bipush 12, 2) := by decide +kernel
theorem dX6_init_15 : decode cX6_init 15 = .ok (.anewarray 17, 3) := by decide +kernel
theorem dX6_init_18 : decode cX6_init 18 = .ok (.putfield 19, 3) := by decide +kernel
theorem dX6_init_21 : decode cX6_init 21 = .ok (.aload_n 0, 1) := by decide +kernel
theorem dX6_init_22 : decode cX6_init 22 = .ok (.iconst 0, 1) := by decide +kernel
theorem dX6_init_23 : decode cX6_init 23 = .ok (.putfield 23, 3) := by decide +kernel
theorem dX6_init_26 : decode cX6_init 26 = .ok (.iconst 0, 1) := by decide +kernel
theorem dX6_init_27 : decode cX6_init 27 = .ok (.istore_n 1, 1) := by decide +kernel
theorem dX6_init_28 : decode cX6_init 28 = .ok (.iload_n 1, 1) := by decide +kernel
theorem dX6_init_29 : decode cX6_init 29 = .ok (.iconst 2, 1) := by decide +kernel
theorem dX6_init_30 : decode cX6_init 30 = .ok (.if_icmp .ge 22, 3) := by decide +kernel
theorem dX6_init_33 : decode cX6_init 33 = .ok (.aload_n 0, 1) := by decide +kernel
theorem dX6_init_34 : decode cX6_init 34 = .ok (.getfield 11, 3) := by decide +kernel
theorem dX6_init_37 : decode cX6_init 37 = .ok (.iload_n 1, 1) := by decide +kernel
theorem dX6_init_38 : decode cX6_init 38 = .ok (.new 9, 3) := by decide +kernel
theorem dX6_init_41 : decode cX6_init 41 = .ok (.dup, 1) := by decide +kernel
theorem dX6_init_42 : decode cX6_init 42 = .ok (.invokespecial 27, 3) := by decide +kernel
theorem dX6_init_45 : decode cX6_init 45 = .ok (.aastore, 1) := by decide +kernel
theorem dX6_init_46 : decode cX6_init 46 = .ok (.iinc 1 1, 3) := by decide +kernel
theorem dX6_init_49 : decode cX6_init 49 = .ok (.goto (-21), 3) := by decide +kernel
theorem dX6_init_52 : decode cX6_init 52 = .ok (.iconst 0, 1) := by decide +kernel
theorem dX6_init_53 : decode cX6_init 53 = .ok (.istore_n 1, 1) := by decide +kernel
theorem dX6_init_54 : decode cX6_init 54 = .ok (.iload_n 1, 1) := by decide +kernel
theorem dX6_init_55 : decode cX6_init 55 = .ok (.bipush 12, 2) := by decide +kernel
theorem dX6_init_57 : decode cX6_init 57 = .ok (.if_icmp .ge 22, 3) := by decide +kernel
theorem dX6_init_60 : decode cX6_init 60 = .ok (.aload_n 0, 1) := by decide +kernel
theorem dX6_init_61 : decode cX6_init 61 = .ok (.getfield 19, 3) := by decide +kernel
theorem dX6_init_64 : decode cX6_init 64 = .ok (.iload_n 1, 1) := by decide +kernel
theorem dX6_init_65 : decode cX6_init 65 = .ok (.new 17, 3) := by decide +kernel
theorem dX6_init_68 : decode cX6_init 68 = .ok (.dup, 1) := by decide +kernel
theorem dX6_init_69 : decode cX6_init 69 = .ok (.invokespecial 28, 3) := by decide +kernel
theorem dX6_init_72 : decode cX6_init 72 = .ok (.aastore, 1) := by decide +kernel
theorem dX6_init_73 : decode cX6_init 73 = .ok (.iinc 1 1, 3) := by decide +kernel
theorem dX6_init_76 : decode cX6_init 76 = .ok (.goto (-22), 3) := by decide +kernel
theorem dX6_init_79 : decode cX6_init 79 = .ok (.return_, 1) := by decide +kernel
theorem dX7_isSameAs_0 : decode cX7_isSameAs 0 = .ok (.aload_n 0, 1) := by decide +kernel
theorem dX7_isSameAs_1 : decode cX7_isSameAs 1 = .ok (.getfield 9, 3) := by decide +kernel
theorem dX7_isSameAs_4 : decode cX7_isSameAs 4 = .ok (.aload_n 1, 1) := by decide +kernel
theorem dX7_isSameAs_5 : decode cX7_isSameAs 5 = .ok (.getfield 9, 3) := by decide +kernel
theorem dX7_isSameAs_8 : decode cX7_isSameAs 8 = .ok (.if_icmp .ne 73, 3) := by decide +kernel
theorem dX7_isSameAs_11 : decode cX7_isSameAs 11 = .ok (.aload_n 0, 1) := by decide +kernel
theorem dX7_isSameAs_12 : decode cX7_isSameAs 12 = .ok (.getfield 15, 3) := by decide +kernel
theorem dX7_isSameAs_15 : decode cX7_isSameAs 15 = .ok (.aload_n 1, 1) := by decide +kernel
theorem dX7_isSameAs_16 : decode cX7_isSameAs 16 = .ok (.getfield 15, 3) := by decide +kernel
theorem dX7_isSameAs_19 : decode cX7_isSameAs 19 = .ok (.if_icmp .ne 62, 3) := by decide +kernel
theorem dX7_isSameAs_22 : decode cX7_isSameAs 22 = .ok (.aload_n 0, 1) := by decide +kernel
theorem dX7_isSameAs_23 : decode cX7_isSameAs 23 = .ok (.getfield 19, 3) := by decide +kernel
theorem dX7_isSameAs_26 : decode cX7_isSameAs 26 = .ok (.aload_n 1, 1) := by decide +kernel
theorem dX7_isSameAs_27 : decode cX7_isSameAs 27 = .ok (.getfield 19, 3) := by decide +kernel
theorem dX7_isSameAs_30 : decode cX7_isSameAs 30 = .ok (.if_icmp .ne 51, 3) := by decide +kernel
theorem dX7_isSameAs_33 : decode cX7_isSameAs 33 = .ok (.aload_n 0, 1) := by decide +kernel
theorem dX7_isSameAs_34 : decode cX7_isSameAs 34 = .ok (.getfield 22, 3) := by decide +kernel
theorem dX7_isSameAs_37 : decode cX7_isSameAs 37 = .ok (.aload_n 1, 1) := by decide +kernel
theorem dX7_isSameAs_38 : decode cX7_isSameAs 38 = .ok (.getfield 22, 3) := by decide +kernel
theorem dX7_isSameAs_41 : decode cX7_isSameAs 41 = .ok (.if_icmp .ne 40, 3) := by decide +kernel
theorem dX7_isSameAs_44 : decode cX7_isSameAs 44 = .ok (.aload_n 0, 1) := by decide +kernel
theorem dX7_isSameAs_45 : decode cX7_isSameAs 45 = .ok (.getfield 25, 3) := by decide +kernel
theorem dX7_isSameAs_48 : decode cX7_isSameAs 48 = .ok (.aload_n 1, 1) := by decide +kernel
theorem dX7_isSameAs_49 : decode cX7_isSameAs 49 = .ok (.getfield 25, 3) := by decide +kernel
theorem dX7_isSameAs_52 : decode cX7_isSameAs 52 = .ok (.if_icmp .ne 29, 3) := by decide +kernel
theorem dX7_isSameAs_55 : decode cX7_isSameAs 55 = .ok (.aload_n 0, 1) := by decide +kernel
theorem dX7_isSameAs_56 : decode cX7_isSameAs 56 = .ok (.getfield 28, 3) := by decide +kernel
theorem dX7_isSameAs_59 : decode cX7_isSameAs 59 = .ok (.aload_n 1, 1) := by decide +kernel
theorem dX7_isSameAs_60 : decode cX7_isSameAs 60 = .ok (.getfield 28, 3) := by decide +kernel
theorem dX7_isSameAs_63 : decode cX7_isSameAs 63 = .ok (.if_icmp .ne 18, 3) := by decide +kernel
theorem dX7_isSameAs_66 : decode cX7_isSameAs 66 = .ok (.aload_n 0, 1) := by decide +kernel
theorem dX7_isSameAs_67 : decode cX7_isSameAs 67 = .ok (.getfield 31, 3) := by decide +kernel
theorem dX7_isSameAs_70 : decode cX7_isSameAs 70 = .ok (.aload_n 1, 1) := by decide +kernel
theorem dX7_isSameAs_71 : decode cX7_isSameAs 71 = .ok (.getfield 31, 3) := by decide +kernel
theorem dX7_isSameAs_74 : decode cX7_isSameAs 74 = .ok (.if_icmp .ne 7, 3) := by decide +kernel
theorem dX7_isSameAs_77 : decode cX7_isSameAs 77 = .ok (.iconst 1, 1) := by decide +kernel
theorem dX7_isSameAs_78 : decode cX7_isSameAs 78 = .ok (.goto 4, 3) := by decide +kernel
theorem dX7_isSameAs_81 : decode cX7_isSameAs 81 = .ok (.iconst 0, 1) := by decide +kernel
theorem dX7_isSameAs_82 : decode cX7_isSameAs 82 = .ok (.ireturn, 1) := by decide +kernel
theorem dX8_isPackage_0 : decode cX8_isPackage 0 = .ok (.iload_n 0, 1) := by decide +kernel
theorem dX8_isPackage_1 : decode cX8_isPackage 1 = .ok (.ifCond .lt 12, 3) := by decide +kernel
theorem dX8_isPackage_4 : decode cX8_isPackage 4 = .ok (.iload_n 0, 1) := by decide +kernel
theorem dX8_isPackage_5 : decode cX8_isPackage 5 = .ok (.iconst 4, 1) := by decide +kernel
theorem dX8_isPackage_6 : decode cX8_isPackage 6 = .ok (.if_icmp .ge 7, 3) := by decide +kernel
theorem dX8_isPackage_9 : decode cX8_isPackage 9 = .ok (.iconst 1, 1) := by decide +kernel
theorem dX8_isPackage_10 : decode cX8_isPackage 10 = .ok (.goto 4, 3) := by decide +kernel
theorem dX8_isPackage_13 : decode cX8_isPackage 13 = .ok (.iconst 0, 1) := by decide +kernel
theorem dX8_isPackage_14 : decode cX8_isPackage 14 = .ok (.ireturn, 1) := by decide +kernel
theorem dX8_isName_0 : decode cX8_isName 0 = .ok (.iload_n 0, 1) := by decide +kernel
theorem dX8_isName_1 : decode cX8_isName 1 = .ok (.ifCond .lt 13, 3) := by decide +kernel
theorem dX8_isName_4 : decode cX8_isName 4 = .ok (.iload_n 0, 1) := by decide +kernel
theorem dX8_isName_5 : decode cX8_isName 5 = .ok (.bipush 8, 2) := by decide +kernel
theorem dX8_isName_7 : decode cX8_isName 7 = .ok (.if_icmp .ge 7, 3) := by decide +kernel
theorem dX8_isName_10 : decode cX8_isName 10 = .ok (.iconst 1, 1) := by decide +kernel
theorem dX8_isName_11 : decode cX8_isName 11 = .ok (.goto 4, 3) := by decide +kernel
theorem dX8_isName_14 : decode cX8_isName 14 = .ok (.iconst 0, 1) := by decide +kernel
theorem dX8_isName_15 : decode cX8_isName 15 = .ok (.ireturn, 1) := by decide +kernel
theorem dX8_compileProbe_0 : decode cX8_compileProbe 0 = .ok (.aload_n 0, 1) := by decide +kernel
theorem dX8_compileProbe_1 : decode cX8_compileProbe 1 = .ok (.getfield 43, 3) := by decide +kernel
theorem dX8_compileProbe_4 : decode cX8_compileProbe 4 = .ok (.iconst 0, 1) := by decide +kernel
theorem dX8_compileProbe_5 : decode cX8_compileProbe 5 = .ok (.aaload, 1) := by decide +kernel
theorem dX8_compileProbe_6 : decode cX8_compileProbe 6 = .ok (.aload_n 0, 1) := by decide +kernel
theorem dX8_compileProbe_7 : decode cX8_compileProbe 7 = .ok (.getfield 37, 3) := by decide +kernel
theorem dX8_compileProbe_10 : decode cX8_compileProbe 10 = .ok (.invokevirtual 380, 3) := by decide +kernel
theorem dX8_compileProbe_13 : decode cX8_compileProbe 13 = .ok (.ifCond .eq 5, 3) := by decide +kernel
theorem dX8_compileProbe_16 : decode cX8_compileProbe 16 = .ok (.iconst 0, 1) := by decide +kernel
theorem dX8_compileProbe_17 : decode cX8_compileProbe 17 = .ok (.ireturn, 1) := by decide +kernel
theorem dX8_compileProbe_18 : decode cX8_compileProbe 18 = .ok (.aload_n 0, 1) := by decide +kernel
theorem dX8_compileProbe_19 : decode cX8_compileProbe 19 = .ok (.getfield 37, 3) := by decide +kernel
theorem dX8_compileProbe_22 : decode cX8_compileProbe 22 = .ok (.getfield 425, 3) := by decide +kernel
