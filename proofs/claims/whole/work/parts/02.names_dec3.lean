theorem dL_draft_21 : decode cL_draft 21 = .ok (.iconst 0, 1) := by decide +kernel
theorem dL_draft_22 : decode cL_draft 22 = .ok (.ireturn, 1) := by decide +kernel
theorem dL_exists_0 : decode cL_exists 0 = .ok (.aload_n 3, 1) := by decide +kernel
theorem dL_exists_1 : decode cL_exists 1 = .ok (.iconst 0, 1) := by decide +kernel
theorem dL_exists_2 : decode cL_exists 2 = .ok (.aload_n 0, 1) := by decide +kernel
theorem dL_exists_3 : decode cL_exists 3 = .ok (.iload_n 1, 1) := by decide +kernel
theorem dL_exists_4 : decode cL_exists 4 = .ok (.iload_n 2, 1) := by decide +kernel
theorem dL_exists_5 : decode cL_exists 5 = .ok (.invokevirtual 27, 3) := by decide +kernel
theorem dL_exists_8 : decode cL_exists 8 = .ok (.ifCond .eq 7, 3) := by decide +kernel
theorem dL_exists_11 : decode cL_exists 11 = .ok (.lconst 1, 1) := by decide +kernel
theorem dL_exists_12 : decode cL_exists 12 = .ok (.goto 4, 3) := by decide +kernel
theorem dL_exists_15 : decode cL_exists 15 = .ok (.lconst 0, 1) := by decide +kernel
theorem dL_exists_16 : decode cL_exists 16 = .ok (.lastore, 1) := by decide +kernel
theorem dL_exists_17 : decode cL_exists 17 = .ok (.goto 7, 3) := by decide +kernel
theorem dL_exists_20 : decode cL_exists 20 = .ok (.astore 4, 2) := by decide +kernel
theorem dL_exists_22 : decode cL_exists 22 = .ok (.iconst 1, 1) := by decide +kernel
theorem dL_exists_23 : decode cL_exists 23 = .ok (.ireturn, 1) := by decide +kernel
theorem dL_exists_24 : decode cL_exists 24 = .ok (.iconst 0, 1) := by decide +kernel
theorem dL_exists_25 : decode cL_exists 25 = .ok (.ireturn, 1) := by decide +kernel
theorem dL_field_0 : decode cL_field 0 = .ok (.aload 4, 2) := by decide +kernel
theorem dL_field_2 : decode cL_field 2 = .ok (.iconst 0, 1) := by decide +kernel
theorem dL_field_3 : decode cL_field 3 = .ok (.aload_n 0, 1) := by decide +kernel
theorem dL_field_4 : decode cL_field 4 = .ok (.iload_n 1, 1) := by decide +kernel
theorem dL_field_5 : decode cL_field 5 = .ok (.iload_n 2, 1) := by decide +kernel
theorem dL_field_6 : decode cL_field 6 = .ok (.iload_n 3, 1) := by decide +kernel
theorem dL_field_7 : decode cL_field 7 = .ok (.invokevirtual 65, 3) := by decide +kernel
theorem dL_field_10 : decode cL_field 10 = .ok (.i2l, 1) := by decide +kernel
theorem dL_field_11 : decode cL_field 11 = .ok (.lastore, 1) := by decide +kernel
theorem dL_field_12 : decode cL_field 12 = .ok (.goto 11, 3) := by decide +kernel
theorem dL_field_15 : decode cL_field 15 = .ok (.astore 5, 2) := by decide +kernel
theorem dL_field_17 : decode cL_field 17 = .ok (.iconst 1, 1) := by decide +kernel
theorem dL_field_18 : decode cL_field 18 = .ok (.ireturn, 1) := by decide +kernel
theorem dL_field_19 : decode cL_field 19 = .ok (.astore 5, 2) := by decide +kernel
theorem dL_field_21 : decode cL_field 21 = .ok (.iconst 2, 1) := by decide +kernel
theorem dL_field_22 : decode cL_field 22 = .ok (.ireturn, 1) := by decide +kernel
theorem dL_field_23 : decode cL_field 23 = .ok (.iconst 0, 1) := by decide +kernel
theorem dL_field_24 : decode cL_field 24 = .ok (.ireturn, 1) := by decide +kernel
theorem dL_fits_0 : decode cL_fits 0 = .ok (.aload 4, 2) := by decide +kernel
theorem dL_fits_2 : decode cL_fits 2 = .ok (.iconst 0, 1) := by decide +kernel
theorem dL_fits_3 : decode cL_fits 3 = .ok (.aload_n 0, 1) := by decide +kernel
theorem dL_fits_4 : decode cL_fits 4 = .ok (.iload_n 1, 1) := by decide +kernel
theorem dL_fits_5 : decode cL_fits 5 = .ok (.iload_n 2, 1) := by decide +kernel
theorem dL_fits_6 : decode cL_fits 6 = .ok (.iload_n 3, 1) := by decide +kernel
theorem dL_fits_7 : decode cL_fits 7 = .ok (.invokevirtual 61, 3) := by decide +kernel
theorem dL_fits_10 : decode cL_fits 10 = .ok (.ifCond .eq 7, 3) := by decide +kernel
theorem dL_fits_13 : decode cL_fits 13 = .ok (.lconst 1, 1) := by decide +kernel
theorem dL_fits_14 : decode cL_fits 14 = .ok (.goto 4, 3) := by decide +kernel
theorem dL_fits_17 : decode cL_fits 17 = .ok (.lconst 0, 1) := by decide +kernel
theorem dL_fits_18 : decode cL_fits 18 = .ok (.lastore, 1) := by decide +kernel
theorem dL_fits_19 : decode cL_fits 19 = .ok (.goto 11, 3) := by decide +kernel
theorem dL_fits_22 : decode cL_fits 22 = .ok (.astore 5, 2) := by decide +kernel
theorem dL_fits_24 : decode cL_fits 24 = .ok (.iconst 1, 1) := by decide +kernel
theorem dL_fits_25 : decode cL_fits 25 = .ok (.ireturn, 1) := by decide +kernel
theorem dL_fits_26 : decode cL_fits 26 = .ok (.astore 5, 2) := by decide +kernel
theorem dL_fits_28 : decode cL_fits 28 = .ok (.iconst 2, 1) := by decide +kernel
theorem dL_fits_29 : decode cL_fits 29 = .ok (.ireturn, 1) := by decide +kernel
theorem dL_fits_30 : decode cL_fits 30 = .ok (.iconst 0, 1) := by decide +kernel
theorem dL_fits_31 : decode cL_fits 31 = .ok (.ireturn, 1) := by decide +kernel
theorem dL_removeClass_0 : decode cL_removeClass 0 = .ok (.aload_n 3, 1) := by decide +kernel
theorem dL_removeClass_1 : decode cL_removeClass 1 = .ok (.iconst 0, 1) := by decide +kernel
theorem dL_removeClass_2 : decode cL_removeClass 2 = .ok (.aload_n 0, 1) := by decide +kernel
theorem dL_removeClass_3 : decode cL_removeClass 3 = .ok (.iload_n 1, 1) := by decide +kernel
theorem dL_removeClass_4 : decode cL_removeClass 4 = .ok (.iload_n 2, 1) := by decide +kernel
theorem dL_removeClass_5 : decode cL_removeClass 5 = .ok (.invokevirtual 19, 3) := by decide +kernel
theorem dL_removeClass_8 : decode cL_removeClass 8 = .ok (.i2l, 1) := by decide +kernel
theorem dL_removeClass_9 : decode cL_removeClass 9 = .ok (.lastore, 1) := by decide +kernel
theorem dL_removeClass_10 : decode cL_removeClass 10 = .ok (.goto 11, 3) := by decide +kernel
theorem dL_removeClass_13 : decode cL_removeClass 13 = .ok (.astore 4, 2) := by decide +kernel
theorem dL_removeClass_15 : decode cL_removeClass 15 = .ok (.iconst 1, 1) := by decide +kernel
theorem dL_removeClass_16 : decode cL_removeClass 16 = .ok (.ireturn, 1) := by decide +kernel
theorem dL_removeClass_17 : decode cL_removeClass 17 = .ok (.astore 4, 2) := by decide +kernel
theorem dL_removeClass_19 : decode cL_removeClass 19 = .ok (.iconst 2, 1) := by decide +kernel
theorem dL_removeClass_20 : decode cL_removeClass 20 = .ok (.ireturn, 1) := by decide +kernel
theorem dL_removeClass_21 : decode cL_removeClass 21 = .ok (.iconst 0, 1) := by decide +kernel
theorem dL_removeClass_22 : decode cL_removeClass 22 = .ok (.ireturn, 1) := by decide +kernel
theorem dL_setClass_0 : decode cL_setClass 0 = .ok (.aload 5, 2) := by decide +kernel
theorem dL_setClass_2 : decode cL_setClass 2 = .ok (.iconst 0, 1) := by decide +kernel
theorem dL_setClass_3 : decode cL_setClass 3 = .ok (.aload_n 0, 1) := by decide +kernel
theorem dL_setClass_4 : decode cL_setClass 4 = .ok (.iload_n 1, 1) := by decide +kernel
theorem dL_setClass_5 : decode cL_setClass 5 = .ok (.iload_n 2, 1) := by decide +kernel
theorem dL_setClass_6 : decode cL_setClass 6 = .ok (.iload_n 3, 1) := by decide +kernel
theorem dL_setClass_7 : decode cL_setClass 7 = .ok (.iload 4, 2) := by decide +kernel
theorem dL_setClass_9 : decode cL_setClass 9 = .ok (.invokevirtual 23, 3) := by decide +kernel
theorem dL_setClass_12 : decode cL_setClass 12 = .ok (.i2l, 1) := by decide +kernel
theorem dL_setClass_13 : decode cL_setClass 13 = .ok (.lastore, 1) := by decide +kernel
theorem dL_setClass_14 : decode cL_setClass 14 = .ok (.goto 15, 3) := by decide +kernel
theorem dL_setClass_17 : decode cL_setClass 17 = .ok (.astore 6, 2) := by decide +kernel
theorem dL_setClass_19 : decode cL_setClass 19 = .ok (.iconst 1, 1) := by decide +kernel
theorem dL_setClass_20 : decode cL_setClass 20 = .ok (.ireturn, 1) := by decide +kernel
theorem dL_setClass_21 : decode cL_setClass 21 = .ok (.astore 6, 2) := by decide +kernel
theorem dL_setClass_23 : decode cL_setClass 23 = .ok (.iconst 2, 1) := by decide +kernel
theorem dL_setClass_24 : decode cL_setClass 24 = .ok (.ireturn, 1) := by decide +kernel
theorem dL_setClass_25 : decode cL_setClass 25 = .ok (.astore 6, 2) := by decide +kernel
theorem dL_setClass_27 : decode cL_setClass 27 = .ok (.iconst 3, 1) := by decide +kernel
theorem dL_setClass_28 : decode cL_setClass 28 = .ok (.ireturn, 1) := by decide +kernel
theorem dL_setClass_29 : decode cL_setClass 29 = .ok (.iconst 0, 1) := by decide +kernel
theorem dL_setClass_30 : decode cL_setClass 30 = .ok (.ireturn, 1) := by decide +kernel
theorem dL_removeMember_0 : decode cL_removeMember 0 = .ok (.aload_n 3, 1) := by decide +kernel
theorem dL_removeMember_1 : decode cL_removeMember 1 = .ok (.iconst 0, 1) := by decide +kernel
theorem dL_removeMember_2 : decode cL_removeMember 2 = .ok (.aload_n 0, 1) := by decide +kernel
theorem dL_removeMember_3 : decode cL_removeMember 3 = .ok (.iload_n 1, 1) := by decide +kernel
theorem dL_removeMember_4 : decode cL_removeMember 4 = .ok (.iload_n 2, 1) := by decide +kernel
theorem dL_removeMember_5 : decode cL_removeMember 5 = .ok (.invokevirtual 45, 3) := by decide +kernel
theorem dL_removeMember_8 : decode cL_removeMember 8 = .ok (.i2l, 1) := by decide +kernel
theorem dL_removeMember_9 : decode cL_removeMember 9 = .ok (.lastore, 1) := by decide +kernel
theorem dL_removeMember_10 : decode cL_removeMember 10 = .ok (.goto 7, 3) := by decide +kernel
theorem dL_removeMember_13 : decode cL_removeMember 13 = .ok (.astore 4, 2) := by decide +kernel
theorem dL_removeMember_15 : decode cL_removeMember 15 = .ok (.iconst 1, 1) := by decide +kernel
theorem dL_removeMember_16 : decode cL_removeMember 16 = .ok (.ireturn, 1) := by decide +kernel
theorem dL_removeMember_17 : decode cL_removeMember 17 = .ok (.iconst 0, 1) := by decide +kernel
theorem dL_removeMember_18 : decode cL_removeMember 18 = .ok (.ireturn, 1) := by decide +kernel
theorem dL_setMember_0 : decode cL_setMember 0 = .ok (.aload 5, 2) := by decide +kernel
theorem dL_setMember_2 : decode cL_setMember 2 = .ok (.iconst 0, 1) := by decide +kernel
theorem dL_setMember_3 : decode cL_setMember 3 = .ok (.aload_n 0, 1) := by decide +kernel
theorem dL_setMember_4 : decode cL_setMember 4 = .ok (.iload_n 1, 1) := by decide +kernel
theorem dL_setMember_5 : decode cL_setMember 5 = .ok (.iload_n 2, 1) := by decide +kernel
theorem dL_setMember_6 : decode cL_setMember 6 = .ok (.iload_n 3, 1) := by decide +kernel
theorem dL_setMember_7 : decode cL_setMember 7 = .ok (.iload 4, 2) := by decide +kernel
theorem dL_setMember_9 : decode cL_setMember 9 = .ok (.invokevirtual 48, 3) := by decide +kernel
theorem dL_setMember_12 : decode cL_setMember 12 = .ok (.i2l, 1) := by decide +kernel
theorem dL_setMember_13 : decode cL_setMember 13 = .ok (.lastore, 1) := by decide +kernel
theorem dL_setMember_14 : decode cL_setMember 14 = .ok (.goto 11, 3) := by decide +kernel
theorem dL_setMember_17 : decode cL_setMember 17 = .ok (.astore 6, 2) := by decide +kernel
theorem dL_setMember_19 : decode cL_setMember 19 = .ok (.iconst 1, 1) := by decide +kernel
theorem dL_setMember_20 : decode cL_setMember 20 = .ok (.ireturn, 1) := by decide +kernel
theorem dL_setMember_21 : decode cL_setMember 21 = .ok (.astore 6, 2) := by decide +kernel
theorem dL_setMember_23 : decode cL_setMember 23 = .ok (.iconst 2, 1) := by decide +kernel
theorem dL_setMember_24 : decode cL_setMember 24 = .ok (.ireturn, 1) := by decide +kernel
theorem dL_setMember_25 : decode cL_setMember 25 = .ok (.iconst 0, 1) := by decide +kernel
theorem dL_setMember_26 : decode cL_setMember 26 = .ok (.ireturn, 1) := by decide +kernel
theorem dL_moveMember_0 : decode cL_moveMember 0 = .ok (.aload 4, 2) := by decide +kernel
theorem dL_moveMember_2 : decode cL_moveMember 2 = .ok (.iconst 0, 1) := by decide +kernel
theorem dL_moveMember_3 : decode cL_moveMember 3 = .ok (.aload_n 0, 1) := by decide +kernel
theorem dL_moveMember_4 : decode cL_moveMember 4 = .ok (.iload_n 1, 1) := by decide +kernel
theorem dL_moveMember_5 : decode cL_moveMember 5 = .ok (.iload_n 2, 1) := by decide +kernel
theorem dL_moveMember_6 : decode cL_moveMember 6 = .ok (.iload_n 3, 1) := by decide +kernel
theorem dL_moveMember_7 : decode cL_moveMember 7 = .ok (.invokevirtual 51, 3) := by decide +kernel
theorem dL_moveMember_10 : decode cL_moveMember 10 = .ok (.i2l, 1) := by decide +kernel
theorem dL_moveMember_11 : decode cL_moveMember 11 = .ok (.lastore, 1) := by decide +kernel
theorem dL_moveMember_12 : decode cL_moveMember 12 = .ok (.goto 15, 3) := by decide +kernel
theorem dL_moveMember_15 : decode cL_moveMember 15 = .ok (.astore 5, 2) := by decide +kernel
theorem dL_moveMember_17 : decode cL_moveMember 17 = .ok (.iconst 1, 1) := by decide +kernel
theorem dL_moveMember_18 : decode cL_moveMember 18 = .ok (.ireturn, 1) := by decide +kernel
theorem dL_moveMember_19 : decode cL_moveMember 19 = .ok (.astore 5, 2) := by decide +kernel
theorem dL_moveMember_21 : decode cL_moveMember 21 = .ok (.iconst 2, 1) := by decide +kernel
theorem dL_moveMember_22 : decode cL_moveMember 22 = .ok (.ireturn, 1) := by decide +kernel
theorem dL_moveMember_23 : decode cL_moveMember 23 = .ok (.astore 5, 2) := by decide +kernel
theorem dL_moveMember_25 : decode cL_moveMember 25 = .ok (.iconst 3, 1) := by decide +kernel
theorem dL_moveMember_26 : decode cL_moveMember 26 = .ok (.ireturn, 1) := by decide +kernel
theorem dL_moveMember_27 : decode cL_moveMember 27 = .ok (.iconst 0, 1) := by decide +kernel
theorem dL_moveMember_28 : decode cL_moveMember 28 = .ok (.ireturn, 1) := by decide +kernel
theorem dL_members_0 : decode cL_members 0 = .ok (.aload_n 2, 1) := by decide +kernel
theorem dL_members_1 : decode cL_members 1 = .ok (.iconst 0, 1) := by decide +kernel
theorem dL_members_2 : decode cL_members 2 = .ok (.aload_n 0, 1) := by decide +kernel
theorem dL_members_3 : decode cL_members 3 = .ok (.iload_n 1, 1) := by decide +kernel
theorem dL_members_4 : decode cL_members 4 = .ok (.invokevirtual 54, 3) := by decide +kernel
theorem dL_members_7 : decode cL_members 7 = .ok (.i2l, 1) := by decide +kernel
theorem dL_members_8 : decode cL_members 8 = .ok (.lastore, 1) := by decide +kernel
theorem dL_members_9 : decode cL_members 9 = .ok (.goto 6, 3) := by decide +kernel
theorem dL_members_12 : decode cL_members 12 = .ok (.astore_n 3, 1) := by decide +kernel
theorem dL_members_13 : decode cL_members 13 = .ok (.iconst 1, 1) := by decide +kernel
theorem dL_members_14 : decode cL_members 14 = .ok (.ireturn, 1) := by decide +kernel
theorem dL_members_15 : decode cL_members 15 = .ok (.iconst 0, 1) := by decide +kernel
theorem dL_members_16 : decode cL_members 16 = .ok (.ireturn, 1) := by decide +kernel
theorem dL_memberInfo_0 : decode cL_memberInfo 0 = .ok (.aload 4, 2) := by decide +kernel
theorem dL_memberInfo_2 : decode cL_memberInfo 2 = .ok (.iconst 0, 1) := by decide +kernel
theorem dL_memberInfo_3 : decode cL_memberInfo 3 = .ok (.aload_n 0, 1) := by decide +kernel
theorem dL_memberInfo_4 : decode cL_memberInfo 4 = .ok (.iload_n 1, 1) := by decide +kernel
theorem dL_memberInfo_5 : decode cL_memberInfo 5 = .ok (.iload_n 2, 1) := by decide +kernel
theorem dL_memberInfo_6 : decode cL_memberInfo 6 = .ok (.iload_n 3, 1) := by decide +kernel
theorem dL_memberInfo_7 : decode cL_memberInfo 7 = .ok (.invokevirtual 58, 3) := by decide +kernel
theorem dL_memberInfo_10 : decode cL_memberInfo 10 = .ok (.i2l, 1) := by decide +kernel
theorem dL_memberInfo_11 : decode cL_memberInfo 11 = .ok (.lastore, 1) := by decide +kernel
theorem dL_memberInfo_12 : decode cL_memberInfo 12 = .ok (.goto 11, 3) := by decide +kernel
theorem dL_memberInfo_15 : decode cL_memberInfo 15 = .ok (.astore 5, 2) := by decide +kernel
theorem dL_memberInfo_17 : decode cL_memberInfo 17 = .ok (.iconst 1, 1) := by decide +kernel
theorem dL_memberInfo_18 : decode cL_memberInfo 18 = .ok (.ireturn, 1) := by decide +kernel
theorem dL_memberInfo_19 : decode cL_memberInfo 19 = .ok (.astore 5, 2) := by decide +kernel
theorem dL_memberInfo_21 : decode cL_memberInfo 21 = .ok (.iconst 2, 1) := by decide +kernel
theorem dL_memberInfo_22 : decode cL_memberInfo 22 = .ok (.ireturn, 1) := by decide +kernel
theorem dL_memberInfo_23 : decode cL_memberInfo 23 = .ok (.iconst 0, 1) := by decide +kernel
theorem dL_memberInfo_24 : decode cL_memberInfo 24 = .ok (.ireturn, 1) := by decide +kernel
theorem dL_method_0 : decode cL_method 0 = .ok (.aload 4, 2) := by decide +kernel
theorem dL_method_2 : decode cL_method 2 = .ok (.iconst 0, 1) := by decide +kernel
theorem dL_method_3 : decode cL_method 3 = .ok (.aload_n 0, 1) := by decide +kernel
theorem dL_method_4 : decode cL_method 4 = .ok (.iload_n 1, 1) := by decide +kernel
theorem dL_method_5 : decode cL_method 5 = .ok (.iload_n 2, 1) := by decide +kernel
theorem dL_method_6 : decode cL_method 6 = .ok (.iload_n 3, 1) := by decide +kernel
theorem dL_method_7 : decode cL_method 7 = .ok (.invokevirtual 68, 3) := by decide +kernel
theorem dL_method_10 : decode cL_method 10 = .ok (.i2l, 1) := by decide +kernel
theorem dL_method_11 : decode cL_method 11 = .ok (.lastore, 1) := by decide +kernel
theorem dL_method_12 : decode cL_method 12 = .ok (.goto 11, 3) := by decide +kernel
theorem dL_method_15 : decode cL_method 15 = .ok (.astore 5, 2) := by decide +kernel
theorem dL_method_17 : decode cL_method 17 = .ok (.iconst 1, 1) := by decide +kernel
theorem dL_method_18 : decode cL_method 18 = .ok (.ireturn, 1) := by decide +kernel
theorem dL_method_19 : decode cL_method 19 = .ok (.astore 5, 2) := by decide +kernel
theorem dL_method_21 : decode cL_method 21 = .ok (.iconst 2, 1) := by decide +kernel
theorem dL_method_22 : decode cL_method 22 = .ok (.ireturn, 1) := by decide +kernel
theorem dL_method_23 : decode cL_method 23 = .ok (.iconst 0, 1) := by decide +kernel
theorem dL_method_24 : decode cL_method 24 = .ok (.ireturn, 1) := by decide +kernel
theorem dL_selected_0 : decode cL_selected 0 = .ok (.aload 4, 2) := by decide +kernel
theorem dL_selected_2 : decode cL_selected 2 = .ok (.iconst 0, 1) := by decide +kernel
theorem dL_selected_3 : decode cL_selected 3 = .ok (.aload_n 0, 1) := by decide +kernel
theorem dL_selected_4 : decode cL_selected 4 = .ok (.iload_n 1, 1) := by decide +kernel
theorem dL_selected_5 : decode cL_selected 5 = .ok (.iload_n 2, 1) := by decide +kernel
theorem dL_selected_6 : decode cL_selected 6 = .ok (.iload_n 3, 1) := by decide +kernel
theorem dL_selected_7 : decode cL_selected 7 = .ok (.invokevirtual 71, 3) := by decide +kernel
theorem dL_selected_10 : decode cL_selected 10 = .ok (.i2l, 1) := by decide +kernel
theorem dL_selected_11 : decode cL_selected 11 = .ok (.lastore, 1) := by decide +kernel
theorem dL_selected_12 : decode cL_selected 12 = .ok (.goto 11, 3) := by decide +kernel
theorem dL_selected_15 : decode cL_selected 15 = .ok (.astore 5, 2) := by decide +kernel
theorem dL_selected_17 : decode cL_selected 17 = .ok (.iconst 1, 1) := by decide +kernel
theorem dL_selected_18 : decode cL_selected 18 = .ok (.ireturn, 1) := by decide +kernel
theorem dL_selected_19 : decode cL_selected 19 = .ok (.astore 5, 2) := by decide +kernel
theorem dL_selected_21 : decode cL_selected 21 = .ok (.iconst 2, 1) := by decide +kernel
theorem dL_selected_22 : decode cL_selected 22 = .ok (.ireturn, 1) := by decide +kernel
theorem dL_selected_23 : decode cL_selected 23 = .ok (.iconst 0, 1) := by decide +kernel
theorem dL_selected_24 : decode cL_selected 24 = .ok (.ireturn, 1) := by decide +kernel
theorem dL_setBase_0 : decode cL_setBase 0 = .ok (.aload_n 3, 1) := by decide +kernel
theorem dL_setBase_1 : decode cL_setBase 1 = .ok (.iconst 0, 1) := by decide +kernel
theorem dL_setBase_2 : decode cL_setBase 2 = .ok (.aload_n 0, 1) := by decide +kernel
theorem dL_setBase_3 : decode cL_setBase 3 = .ok (.iload_n 1, 1) := by decide +kernel
theorem dL_setBase_4 : decode cL_setBase 4 = .ok (.iload_n 2, 1) := by decide +kernel
theorem dL_setBase_5 : decode cL_setBase 5 = .ok (.invokevirtual 77, 3) := by decide +kernel
theorem dL_setBase_8 : decode cL_setBase 8 = .ok (.i2l, 1) := by decide +kernel
theorem dL_setBase_9 : decode cL_setBase 9 = .ok (.lastore, 1) := by decide +kernel
theorem dL_setBase_10 : decode cL_setBase 10 = .ok (.goto 11, 3) := by decide +kernel
theorem dL_setBase_13 : decode cL_setBase 13 = .ok (.astore 4, 2) := by decide +kernel
theorem dL_setBase_15 : decode cL_setBase 15 = .ok (.iconst 1, 1) := by decide +kernel
theorem dL_setBase_16 : decode cL_setBase 16 = .ok (.ireturn, 1) := by decide +kernel
theorem dL_setBase_17 : decode cL_setBase 17 = .ok (.astore 4, 2) := by decide +kernel
theorem dL_setBase_19 : decode cL_setBase 19 = .ok (.iconst 2, 1) := by decide +kernel
theorem dL_setBase_20 : decode cL_setBase 20 = .ok (.ireturn, 1) := by decide +kernel
theorem dL_setBase_21 : decode cL_setBase 21 = .ok (.iconst 0, 1) := by decide +kernel
theorem dL_setBase_22 : decode cL_setBase 22 = .ok (.ireturn, 1) := by decide +kernel
theorem dL_removeClient_0 : decode cL_removeClient 0 = .ok (.aload_n 2, 1) := by decide +kernel
theorem dL_removeClient_1 : decode cL_removeClient 1 = .ok (.iconst 0, 1) := by decide +kernel
theorem dL_removeClient_2 : decode cL_removeClient 2 = .ok (.aload_n 0, 1) := by decide +kernel
theorem dL_removeClient_3 : decode cL_removeClient 3 = .ok (.iload_n 1, 1) := by decide +kernel
theorem dL_removeClient_4 : decode cL_removeClient 4 = .ok (.invokevirtual 80, 3) := by decide +kernel
theorem dL_removeClient_7 : decode cL_removeClient 7 = .ok (.i2l, 1) := by decide +kernel
theorem dL_removeClient_8 : decode cL_removeClient 8 = .ok (.lastore, 1) := by decide +kernel
theorem dL_removeClient_9 : decode cL_removeClient 9 = .ok (.goto 6, 3) := by decide +kernel
theorem dL_removeClient_12 : decode cL_removeClient 12 = .ok (.astore_n 3, 1) := by decide +kernel
theorem dL_removeClient_13 : decode cL_removeClient 13 = .ok (.iconst 1, 1) := by decide +kernel
theorem dL_removeClient_14 : decode cL_removeClient 14 = .ok (.ireturn, 1) := by decide +kernel
theorem dL_removeClient_15 : decode cL_removeClient 15 = .ok (.iconst 0, 1) := by decide +kernel
theorem dL_removeClient_16 : decode cL_removeClient 16 = .ok (.ireturn, 1) := by decide +kernel
theorem dL_link_0 : decode cL_link 0 = .ok (.aload_n 3, 1) := by decide +kernel
theorem dL_link_1 : decode cL_link 1 = .ok (.iconst 0, 1) := by decide +kernel
theorem dL_link_2 : decode cL_link 2 = .ok (.aload_n 0, 1) := by decide +kernel
theorem dL_link_3 : decode cL_link 3 = .ok (.iload_n 1, 1) := by decide +kernel
theorem dL_link_4 : decode cL_link 4 = .ok (.iload_n 2, 1) := by decide +kernel
theorem dL_link_5 : decode cL_link 5 = .ok (.invokevirtual 89, 3) := by decide +kernel
theorem dL_link_8 : decode cL_link 8 = .ok (.i2l, 1) := by decide +kernel
theorem dL_link_9 : decode cL_link 9 = .ok (.lastore, 1) := by decide +kernel
theorem dL_link_10 : decode cL_link 10 = .ok (.goto 7, 3) := by decide +kernel
theorem dL_link_13 : decode cL_link 13 = .ok (.astore 4, 2) := by decide +kernel
theorem dL_link_15 : decode cL_link 15 = .ok (.iconst 1, 1) := by decide +kernel
theorem dL_link_16 : decode cL_link 16 = .ok (.ireturn, 1) := by decide +kernel
theorem dL_link_17 : decode cL_link 17 = .ok (.iconst 0, 1) := by decide +kernel
theorem dL_link_18 : decode cL_link 18 = .ok (.ireturn, 1) := by decide +kernel
theorem dL_target_0 : decode cL_target 0 = .ok (.aload_n 3, 1) := by decide +kernel
theorem dL_target_1 : decode cL_target 1 = .ok (.iconst 0, 1) := by decide +kernel
theorem dL_target_2 : decode cL_target 2 = .ok (.aload_n 0, 1) := by decide +kernel
theorem dL_target_3 : decode cL_target 3 = .ok (.iload_n 1, 1) := by decide +kernel
theorem dL_target_4 : decode cL_target 4 = .ok (.iload_n 2, 1) := by decide +kernel
theorem dL_target_5 : decode cL_target 5 = .ok (.invokevirtual 92, 3) := by decide +kernel
theorem dL_target_8 : decode cL_target 8 = .ok (.i2l, 1) := by decide +kernel
theorem dL_target_9 : decode cL_target 9 = .ok (.lastore, 1) := by decide +kernel
theorem dL_target_10 : decode cL_target 10 = .ok (.goto 7, 3) := by decide +kernel
theorem dL_target_13 : decode cL_target 13 = .ok (.astore 4, 2) := by decide +kernel
theorem dL_target_15 : decode cL_target 15 = .ok (.iconst 1, 1) := by decide +kernel
theorem dL_target_16 : decode cL_target 16 = .ok (.ireturn, 1) := by decide +kernel
theorem dL_target_17 : decode cL_target 17 = .ok (.iconst 0, 1) := by decide +kernel
theorem dL_target_18 : decode cL_target 18 = .ok (.ireturn, 1) := by decide +kernel
theorem dL_verdict_0 : decode cL_verdict 0 = .ok (.aload_n 2, 1) := by decide +kernel
theorem dL_verdict_1 : decode cL_verdict 1 = .ok (.iconst 0, 1) := by decide +kernel
theorem dL_verdict_2 : decode cL_verdict 2 = .ok (.aload_n 0, 1) := by decide +kernel
theorem dL_verdict_3 : decode cL_verdict 3 = .ok (.iload_n 1, 1) := by decide +kernel
theorem dL_verdict_4 : decode cL_verdict 4 = .ok (.invokevirtual 95, 3) := by decide +kernel
theorem dL_verdict_7 : decode cL_verdict 7 = .ok (.i2l, 1) := by decide +kernel
theorem dL_verdict_8 : decode cL_verdict 8 = .ok (.lastore, 1) := by decide +kernel
theorem dL_verdict_9 : decode cL_verdict 9 = .ok (.goto 6, 3) := by decide +kernel
theorem dL_verdict_12 : decode cL_verdict 12 = .ok (.astore_n 3, 1) := by decide +kernel
theorem dL_verdict_13 : decode cL_verdict 13 = .ok (.iconst 1, 1) := by decide +kernel
theorem dL_verdict_14 : decode cL_verdict 14 = .ok (.ireturn, 1) := by decide +kernel
theorem dL_verdict_15 : decode cL_verdict 15 = .ok (.iconst 0, 1) := by decide +kernel
theorem dL_verdict_16 : decode cL_verdict 16 = .ok (.ireturn, 1) := by decide +kernel
theorem dL_sample_0 : decode cL_sample 0 = .ok (.aload 4, 2) := by decide +kernel
theorem dL_sample_2 : decode cL_sample 2 = .ok (.iconst 0, 1) := by decide +kernel
theorem dL_sample_3 : decode cL_sample 3 = .ok (.aload_n 0, 1) := by decide +kernel
theorem dL_sample_4 : decode cL_sample 4 = .ok (.iload_n 1, 1) := by decide +kernel
theorem dL_sample_5 : decode cL_sample 5 = .ok (.iload_n 2, 1) := by decide +kernel
theorem dL_sample_6 : decode cL_sample 6 = .ok (.iload_n 3, 1) := by decide +kernel
theorem dL_sample_7 : decode cL_sample 7 = .ok (.invokevirtual 101, 3) := by decide +kernel
theorem dL_sample_10 : decode cL_sample 10 = .ok (.i2l, 1) := by decide +kernel
theorem dL_sample_11 : decode cL_sample 11 = .ok (.lastore, 1) := by decide +kernel
theorem dL_sample_12 : decode cL_sample 12 = .ok (.goto 7, 3) := by decide +kernel
theorem dL_sample_15 : decode cL_sample 15 = .ok (.astore 5, 2) := by decide +kernel
theorem dL_sample_17 : decode cL_sample 17 = .ok (.iconst 1, 1) := by decide +kernel
theorem dL_sample_18 : decode cL_sample 18 = .ok (.ireturn, 1) := by decide +kernel
theorem dL_sample_19 : decode cL_sample 19 = .ok (.iconst 0, 1) := by decide +kernel
theorem dL_sample_20 : decode cL_sample 20 = .ok (.ireturn, 1) := by decide +kernel
theorem dL_undo_0 : decode cL_undo 0 = .ok (.aload_n 1, 1) := by decide +kernel
theorem dL_undo_1 : decode cL_undo 1 = .ok (.iconst 0, 1) := by decide +kernel
theorem dL_undo_2 : decode cL_undo 2 = .ok (.aload_n 0, 1) := by decide +kernel
theorem dL_undo_3 : decode cL_undo 3 = .ok (.invokevirtual 104, 3) := by decide +kernel
theorem dL_undo_6 : decode cL_undo 6 = .ok (.i2l, 1) := by decide +kernel
theorem dL_undo_7 : decode cL_undo 7 = .ok (.lastore, 1) := by decide +kernel
theorem dL_undo_8 : decode cL_undo 8 = .ok (.goto 6, 3) := by decide +kernel
theorem dL_undo_11 : decode cL_undo 11 = .ok (.astore_n 2, 1) := by decide +kernel
theorem dL_undo_12 : decode cL_undo 12 = .ok (.iconst 1, 1) := by decide +kernel
theorem dL_undo_13 : decode cL_undo 13 = .ok (.ireturn, 1) := by decide +kernel
theorem dL_undo_14 : decode cL_undo 14 = .ok (.iconst 0, 1) := by decide +kernel
theorem dL_undo_15 : decode cL_undo 15 = .ok (.ireturn, 1) := by decide +kernel
