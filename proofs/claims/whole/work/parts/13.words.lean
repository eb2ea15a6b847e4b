/-! constants, words of the tables by their places, fields' links -/
theorem kI_m1 : Int32.ofInt (-1) = (-1 : Int32) := by decide
theorem kI_0 : Int32.ofInt (0) = (0 : Int32) := by decide
theorem kI_1 : Int32.ofInt (1) = (1 : Int32) := by decide
theorem kI_2 : Int32.ofInt (2) = (2 : Int32) := by decide
theorem kI_3 : Int32.ofInt (3) = (3 : Int32) := by decide
theorem kI_4 : Int32.ofInt (4) = (4 : Int32) := by decide
theorem kI_5 : Int32.ofInt (5) = (5 : Int32) := by decide
theorem kB_m99 : (Int8.ofInt (-99)).toInt32 = (-99 : Int32) := by decide
theorem kB_m3 : (Int8.ofInt (-3)).toInt32 = (-3 : Int32) := by decide
theorem kB_m2 : (Int8.ofInt (-2)).toInt32 = (-2 : Int32) := by decide
theorem kB_6 : (Int8.ofInt (6)).toInt32 = (6 : Int32) := by decide
theorem kB_7 : (Int8.ofInt (7)).toInt32 = (7 : Int32) := by decide
theorem kB_8 : (Int8.ofInt (8)).toInt32 = (8 : Int32) := by decide
theorem kB_9 : (Int8.ofInt (9)).toInt32 = (9 : Int32) := by decide
theorem kB_10 : (Int8.ofInt (10)).toInt32 = (10 : Int32) := by decide
theorem kB_11 : (Int8.ofInt (11)).toInt32 = (11 : Int32) := by decide
theorem kB_12 : (Int8.ofInt (12)).toInt32 = (12 : Int32) := by decide
theorem kB_13 : (Int8.ofInt (13)).toInt32 = (13 : Int32) := by decide
theorem kB_14 : (Int8.ofInt (14)).toInt32 = (14 : Int32) := by decide
theorem kB_15 : (Int8.ofInt (15)).toInt32 = (15 : Int32) := by decide
theorem kB_16 : (Int8.ofInt (16)).toInt32 = (16 : Int32) := by decide
theorem kB_40 : (Int8.ofInt (40)).toInt32 = (40 : Int32) := by decide
theorem kB_63 : (Int8.ofInt (63)).toInt32 = (63 : Int32) := by decide
theorem kB_80 : (Int8.ofInt (80)).toInt32 = (80 : Int32) := by decide
theorem kB_81 : (Int8.ofInt (81)).toInt32 = (81 : Int32) := by decide
theorem kB_99 : (Int8.ofInt (99)).toInt32 = (99 : Int32) := by decide
theorem kS_133 : (Int16.ofInt (133)).toInt32 = (133 : Int32) := by decide
theorem kS_481 : (Int16.ofInt (481)).toInt32 = (481 : Int32) := by decide
theorem kS_962 : (Int16.ofInt (962)).toInt32 = (962 : Int32) := by decide
theorem kS_963 : (Int16.ofInt (963)).toInt32 = (963 : Int32) := by decide
theorem kS_1155 : (Int16.ofInt (1155)).toInt32 = (1155 : Int32) := by decide
theorem kS_4620 : (Int16.ofInt (4620)).toInt32 = (4620 : Int32) := by decide
theorem kS_5775 : (Int16.ofInt (5775)).toInt32 = (5775 : Int32) := by decide
theorem pn_X0 : plainName RX0 = true := by decide +kernel
theorem pn_X1 : plainName RX1 = true := by decide +kernel
theorem pn_X2 : plainName RX2 = true := by decide +kernel
theorem pn_X3 : plainName RX3 = true := by decide +kernel
theorem pn_X4 : plainName RX4 = true := by decide +kernel
theorem pn_X5 : plainName RX5 = true := by decide +kernel
theorem pn_X6 : plainName RX6 = true := by decide +kernel
theorem pn_X7 : plainName RX7 = true := by decide +kernel
theorem pn_X8 : plainName RX8 = true := by decide +kernel
theorem pn_X9 : plainName RX9 = true := by decide +kernel
theorem pn_J6 : plainName RJ6 = true := by decide +kernel
theorem pn_L : plainName RL = true := by decide +kernel
theorem st_0 : (467, "a version is 0 or 1") ∈ strL := List.mem_of_getElem? (i := 0) rfl
theorem st_1 : (113, "a class that can be defined is 1 to 9") ∈ strL := List.mem_of_getElem? (i := 1) rfl
theorem st_2 : (124, "not a superclass for this class") ∈ strL := List.mem_of_getElem? (i := 2) rfl
theorem st_3 : (130, "not interfaces for this class") ∈ strL := List.mem_of_getElem? (i := 3) rfl
theorem st_4 : (138, "the class exists already") ∈ strL := List.mem_of_getElem? (i := 4) rfl
theorem st_5 : (288, "no such class") ∈ strL := List.mem_of_getElem? (i := 5) rfl
theorem st_6 : (157, "class 0 always exists") ∈ strL := List.mem_of_getElem? (i := 6) rfl
theorem st_7 : (165, "another class needs this class") ∈ strL := List.mem_of_getElem? (i := 7) rfl
theorem st_8 : (178, "no such property or value") ∈ strL := List.mem_of_getElem? (i := 8) rfl
theorem st_9 : (180, "class 0 never changes") ∈ strL := List.mem_of_getElem? (i := 9) rfl
theorem st_10 : (185, "an interface has no such choice") ∈ strL := List.mem_of_getElem? (i := 10) rfl
theorem st_11 : (187, "a superclass is never final") ∈ strL := List.mem_of_getElem? (i := 11) rfl
theorem st_12 : (192, "the class has an abstract method") ∈ strL := List.mem_of_getElem? (i := 12) rfl
theorem st_13 : (198, "the number of a class is 0 to 9") ∈ strL := List.mem_of_getElem? (i := 13) rfl
theorem st_14 : (476, "a property is 0 to 9") ∈ strL := List.mem_of_getElem? (i := 14) rfl
theorem st_15 : (206, "a method has 0 to 2 parameters") ∈ strL := List.mem_of_getElem? (i := 15) rfl
theorem st_16 : (211, "a type is -1 to 9") ∈ strL := List.mem_of_getElem? (i := 16) rfl
theorem st_17 : (226, "no such field can be in this class") ∈ strL := List.mem_of_getElem? (i := 17) rfl
theorem st_18 : (234, "there is no room for this field") ∈ strL := List.mem_of_getElem? (i := 18) rfl
theorem st_19 : (239, "no such method can be in this class") ∈ strL := List.mem_of_getElem? (i := 19) rfl
theorem st_20 : (254, "there is no room for this method") ∈ strL := List.mem_of_getElem? (i := 20) rfl
theorem st_21 : (472, "no such member") ∈ strL := List.mem_of_getElem? (i := 21) rfl
theorem st_22 : (293, "the member can't be in this class") ∈ strL := List.mem_of_getElem? (i := 22) rfl
theorem st_23 : (301, "there is no room for the member") ∈ strL := List.mem_of_getElem? (i := 23) rfl
theorem st_24 : (342, "a name is 0 to 7") ∈ strL := List.mem_of_getElem? (i := 24) rfl
theorem st_25 : (321, "a field or a static method is not selected") ∈ strL := List.mem_of_getElem? (i := 25) rfl
theorem st_26 : (326, "not a plain class that has the method") ∈ strL := List.mem_of_getElem? (i := 26) rfl
theorem st_27 : (340, "no such use, class or package") ∈ strL := List.mem_of_getElem? (i := 27) rfl
theorem st_28 : (347, "the client does not compile") ∈ strL := List.mem_of_getElem? (i := 28) rfl
theorem st_29 : (350, "there are 12 clients") ∈ strL := List.mem_of_getElem? (i := 29) rfl
theorem st_30 : (474, "no such client") ∈ strL := List.mem_of_getElem? (i := 30) rfl
theorem st_31 : (362, "no base for this client") ∈ strL := List.mem_of_getElem? (i := 31) rfl
theorem st_32 : (369, "the client does not compile with this base") ∈ strL := List.mem_of_getElem? (i := 32) rfl
theorem st_33 : (392, "a verdict is 0 to 5") ∈ strL := List.mem_of_getElem? (i := 33) rfl
theorem st_34 : (398, "no such verdict or package") ∈ strL := List.mem_of_getElem? (i := 34) rfl
theorem st_35 : (400, "a property of a sample is 0 to 5") ∈ strL := List.mem_of_getElem? (i := 35) rfl
theorem st_36 : (442, "no state is saved") ∈ strL := List.mem_of_getElem? (i := 36) rfl
theorem wp0 : Cond.selects RX2 yX2_deriveSupertypes yX2_deriveSupertypes ∈ TW := TW_in (List.mem_append_left _ (List.mem_of_getElem? (i := 0) rfl)) rfl
theorem wp1 : Cond.selects RX2 yX2_deriveSupertypesOf yX2_deriveSupertypesOf ∈ TW := TW_in (List.mem_append_left _ (List.mem_of_getElem? (i := 1) rfl)) rfl
theorem wp2 : Cond.selects RX8 yX8_buildFirstClients yX8_buildFirstClients ∈ TW := TW_in (List.mem_append_left _ (List.mem_of_getElem? (i := 2) rfl)) rfl
theorem wp3 : Cond.selects RX8 yX8_compileProbe yX8_compileProbe ∈ TW := TW_in (List.mem_append_left _ (List.mem_of_getElem? (i := 3) rfl)) rfl
theorem wp4 : Cond.selects RX1 yX1_fieldError yX1_fieldError ∈ TW := TW_in (List.mem_append_left _ (List.mem_of_getElem? (i := 4) rfl)) rfl
theorem wp5 : Cond.selects RX2 yX2_inheritedField yX2_inheritedField ∈ TW := TW_in (List.mem_append_left _ (List.mem_of_getElem? (i := 5) rfl)) rfl
theorem wp6 : Cond.selects RX1 yX1_callError yX1_callError ∈ TW := TW_in (List.mem_append_left _ (List.mem_of_getElem? (i := 6) rfl)) rfl
theorem wp7 : Cond.selects RX1 yX1_gatherApplicable yX1_gatherApplicable ∈ TW := TW_in (List.mem_append_left _ (List.mem_of_getElem? (i := 7) rfl)) rfl
theorem wp8 : Cond.selects RX1 yX1_isCandidate yX1_isCandidate ∈ TW := TW_in (List.mem_append_left _ (List.mem_of_getElem? (i := 8) rfl)) rfl
theorem wp9 : Cond.selects RX1 yX1_isHidden yX1_isHidden ∈ TW := TW_in (List.mem_append_left _ (List.mem_of_getElem? (i := 9) rfl)) rfl
theorem wp10 : Cond.selects RX1 yX1_bestApplicable yX1_bestApplicable ∈ TW := TW_in (List.mem_append_left _ (List.mem_of_getElem? (i := 10) rfl)) rfl
theorem wp11 : Cond.selects RX1 yX1_isBest yX1_isBest ∈ TW := TW_in (List.mem_append_left _ (List.mem_of_getElem? (i := 11) rfl)) rfl
theorem wp12 : Cond.selects RX1 yX1_extendingError yX1_extendingError ∈ TW := TW_in (List.mem_append_left _ (List.mem_of_getElem? (i := 12) rfl)) rfl
theorem wp13 : Cond.selects RX2 yX2_interfaceMethod yX2_interfaceMethod ∈ TW := TW_in (List.mem_append_left _ (List.mem_of_getElem? (i := 13) rfl)) rfl
theorem wp14 : Cond.selects RX1 yX1_implementingError yX1_implementingError ∈ TW := TW_in (List.mem_append_left _ (List.mem_of_getElem? (i := 14) rfl)) rfl
theorem wp15 : Cond.selects RX8 yX8_saveState yX8_saveState ∈ TW := TW_in (List.mem_append_left _ (List.mem_of_getElem? (i := 15) rfl)) rfl
theorem wp16 : Cond.selects RX8 yX8_withClient yX8_withClient ∈ TW := TW_in (List.mem_append_left _ (List.mem_of_getElem? (i := 16) rfl)) rfl
theorem wp17 : Cond.selects RX3 yX3_fieldError yX3_fieldError ∈ TW := TW_in (List.mem_append_left _ (List.mem_of_getElem? (i := 17) rfl)) rfl
theorem wp18 : Cond.selects RX3 yX3_callError yX3_callError ∈ TW := TW_in (List.mem_append_left _ (List.mem_of_getElem? (i := 18) rfl)) rfl
theorem wp19 : Cond.selects RX3 yX3_runs yX3_runs ∈ TW := TW_in (List.mem_append_left _ (List.mem_of_getElem? (i := 19) rfl)) rfl
theorem wp20 : Cond.selects RX3 yX3_extendingError yX3_extendingError ∈ TW := TW_in (List.mem_append_left _ (List.mem_of_getElem? (i := 20) rfl)) rfl
theorem wp21 : Cond.selects RX3 yX3_implementingError yX3_implementingError ∈ TW := TW_in (List.mem_append_left _ (List.mem_of_getElem? (i := 21) rfl)) rfl
theorem wp22 : Cond.selects RX8 yX8_targetOf yX8_targetOf ∈ TW := TW_in (List.mem_append_left _ (List.mem_of_getElem? (i := 22) rfl)) rfl
theorem wp23 : Cond.selects RX8 yX8_verdictOf yX8_verdictOf ∈ TW := TW_in (List.mem_append_left _ (List.mem_of_getElem? (i := 23) rfl)) rfl
theorem wp24 : Cond.selects RX8 yX8_libraryOf yX8_libraryOf ∈ TW := TW_in (List.mem_append_left _ (List.mem_of_getElem? (i := 24) rfl)) rfl
theorem wp26 : Cond.selects RX8 yX8_libraryWith yX8_libraryWith ∈ TW := TW_in (List.mem_append_left _ (List.mem_of_getElem? (i := 26) rfl)) rfl
theorem wp27 : Cond.selects RX4 yX4_moveRow yX4_moveRow ∈ TW := TW_in (List.mem_append_left _ (List.mem_of_getElem? (i := 27) rfl)) rfl
theorem wp28 : Cond.selects RX8 yX8_libraryWithMember yX8_libraryWithMember ∈ TW := TW_in (List.mem_append_left _ (List.mem_of_getElem? (i := 28) rfl)) rfl
theorem wp29 : Cond.selects RX8 yX8_clientAt yX8_clientAt ∈ TW := TW_in (List.mem_append_left _ (List.mem_of_getElem? (i := 29) rfl)) rfl
theorem wp30 : Cond.selects RX8 yX8_requireClient yX8_requireClient ∈ TW := TW_in (List.mem_append_left _ (List.mem_of_getElem? (i := 30) rfl)) rfl
theorem wp31 : Cond.selects RX8 yX8_sampleValue yX8_sampleValue ∈ TW := TW_in (List.mem_append_left _ (List.mem_of_getElem? (i := 31) rfl)) rfl
theorem wp32 : Cond.selects RX0 yX0_nextTypes yX0_nextTypes ∈ TW := TW_in (List.mem_append_left _ (List.mem_of_getElem? (i := 32) rfl)) rfl
theorem wp33 : Cond.selects RX0 yX0_nextMany yX0_nextMany ∈ TW := TW_in (List.mem_append_left _ (List.mem_of_getElem? (i := 33) rfl)) rfl
theorem wp34 : Cond.selects RX9 yX9_puts yX9_puts ∈ TW := TW_in (List.mem_append_left _ (List.mem_of_getElem? (i := 34) rfl)) rfl
theorem wp35 : Cond.selects RX9 yX9_adds yX9_adds ∈ TW := TW_in (List.mem_append_left _ (List.mem_of_getElem? (i := 35) rfl)) rfl
theorem wp36 : Cond.selects RX9 yX9_memberMany yX9_memberMany ∈ TW := TW_in (List.mem_append_left _ (List.mem_of_getElem? (i := 36) rfl)) rfl
theorem wp37 : Cond.selects RX9 yX9_comes yX9_comes ∈ TW := TW_in (List.mem_append_left _ (List.mem_of_getElem? (i := 37) rfl)) rfl
theorem wp38 : Cond.selects RX9 yX9_makes yX9_makes ∈ TW := TW_in (List.mem_append_left _ (List.mem_of_getElem? (i := 38) rfl)) rfl
theorem wp39 : Cond.selects RX9 yX9_compiled yX9_compiled ∈ TW := TW_in (List.mem_append_left _ (List.mem_of_getElem? (i := 39) rfl)) rfl
theorem wp40 : Cond.selects RX9 yX9_noReference yX9_noReference ∈ TW := TW_in (List.mem_append_left _ (List.mem_of_getElem? (i := 40) rfl)) rfl
theorem wp41 : Cond.selects RX9 yX9_isClass yX9_isClass ∈ TW := TW_in (List.mem_append_left _ (List.mem_of_getElem? (i := 41) rfl)) rfl
theorem wp42 : Cond.selects RX9 yX9_of yX9_of ∈ TW := TW_in (List.mem_append_left _ (List.mem_of_getElem? (i := 42) rfl)) rfl
theorem wp43 : Cond.selects RX9 yX9_isOpenClass yX9_isOpenClass ∈ TW := TW_in (List.mem_append_left _ (List.mem_of_getElem? (i := 43) rfl)) rfl
theorem wp44 : Cond.selects RX9 yX9_compiledField yX9_compiledField ∈ TW := TW_in (List.mem_append_left _ (List.mem_of_getElem? (i := 44) rfl)) rfl
theorem wp45 : Cond.selects RX9 yX9_fieldOf yX9_fieldOf ∈ TW := TW_in (List.mem_append_left _ (List.mem_of_getElem? (i := 45) rfl)) rfl
theorem wp46 : Cond.selects RX9 yX9_ownField yX9_ownField ∈ TW := TW_in (List.mem_append_left _ (List.mem_of_getElem? (i := 46) rfl)) rfl
theorem wp47 : Cond.selects RX9 yX9_found yX9_found ∈ TW := TW_in (List.mem_append_left _ (List.mem_of_getElem? (i := 47) rfl)) rfl
theorem wp48 : Cond.selects RX9 yX9_its yX9_its ∈ TW := TW_in (List.mem_append_left _ (List.mem_of_getElem? (i := 48) rfl)) rfl
theorem wp49 : Cond.selects RX9 yX9_hasParameters yX9_hasParameters ∈ TW := TW_in (List.mem_append_left _ (List.mem_of_getElem? (i := 49) rfl)) rfl
theorem wp50 : Cond.selects RX9 yX9_isOpen yX9_isOpen ∈ TW := TW_in (List.mem_append_left _ (List.mem_of_getElem? (i := 50) rfl)) rfl
theorem wp51 : Cond.selects RX9 yX9_supertypes yX9_supertypes ∈ TW := TW_in (List.mem_append_left _ (List.mem_of_getElem? (i := 51) rfl)) rfl
theorem wp52 : Cond.selects RX9 yX9_isFinal yX9_isFinal ∈ TW := TW_in (List.mem_append_left _ (List.mem_of_getElem? (i := 52) rfl)) rfl
theorem wp53 : Cond.selects RX9 yX9_isStatic yX9_isStatic ∈ TW := TW_in (List.mem_append_left _ (List.mem_of_getElem? (i := 53) rfl)) rfl
theorem wp54 : Cond.selects RX9 yX9_compiledCall yX9_compiledCall ∈ TW := TW_in (List.mem_append_left _ (List.mem_of_getElem? (i := 54) rfl)) rfl
theorem wp55 : Cond.selects RX9 yX9_isApplicable yX9_isApplicable ∈ TW := TW_in (List.mem_append_left _ (List.mem_of_getElem? (i := 55) rfl)) rfl
theorem wp56 : Cond.selects RX9 yX9_isMethod yX9_isMethod ∈ TW := TW_in (List.mem_append_left _ (List.mem_of_getElem? (i := 56) rfl)) rfl
theorem wp57 : Cond.selects RX9 yX9_isInterface yX9_isInterface ∈ TW := TW_in (List.mem_append_left _ (List.mem_of_getElem? (i := 57) rfl)) rfl
theorem wp58 : Cond.selects RX9 yX9_isHidden yX9_isHidden ∈ TW := TW_in (List.mem_append_left _ (List.mem_of_getElem? (i := 58) rfl)) rfl
theorem wp59 : Cond.selects RX9 yX9_isFit yX9_isFit ∈ TW := TW_in (List.mem_append_left _ (List.mem_of_getElem? (i := 59) rfl)) rfl
theorem wp60 : Cond.selects RX9 yX9_isAbstract yX9_isAbstract ∈ TW := TW_in (List.mem_append_left _ (List.mem_of_getElem? (i := 60) rfl)) rfl
theorem wp61 : Cond.selects RX9 yX9_isIncomplete yX9_isIncomplete ∈ TW := TW_in (List.mem_append_left _ (List.mem_of_getElem? (i := 61) rfl)) rfl
theorem wp62 : Cond.selects RX9 yX9_wantsLike yX9_wantsLike ∈ TW := TW_in (List.mem_append_left _ (List.mem_of_getElem? (i := 62) rfl)) rfl
theorem wp63 : Cond.selects RX9 yX9_wants yX9_wants ∈ TW := TW_in (List.mem_append_left _ (List.mem_of_getElem? (i := 63) rfl)) rfl
theorem wp64 : Cond.selects RX9 yX9_selectedBy yX9_selectedBy ∈ TW := TW_in (List.mem_append_left _ (List.mem_of_getElem? (i := 64) rfl)) rfl
theorem wp65 : Cond.selects RX9 yX9_own yX9_own ∈ TW := TW_in (List.mem_append_left _ (List.mem_of_getElem? (i := 65) rfl)) rfl
theorem wp66 : Cond.selects RX9 yX9_isCandidate yX9_isCandidate ∈ TW := TW_in (List.mem_append_left _ (List.mem_of_getElem? (i := 66) rfl)) rfl
theorem wp67 : Cond.selects RX9 yX9_looksAt yX9_looksAt ∈ TW := TW_in (List.mem_append_left _ (List.mem_of_getElem? (i := 67) rfl)) rfl
theorem wp68 : Cond.selects RX9 yX9_isBase yX9_isBase ∈ TW := TW_in (List.mem_append_left _ (List.mem_of_getElem? (i := 68) rfl)) rfl
theorem wp69 : Cond.selects RX9 yX9_keepsReference yX9_keepsReference ∈ TW := TW_in (List.mem_append_left _ (List.mem_of_getElem? (i := 69) rfl)) rfl
theorem wp70 : Cond.selects RX9 yX9_clientMany yX9_clientMany ∈ TW := TW_in (List.mem_append_left _ (List.mem_of_getElem? (i := 70) rfl)) rfl
theorem wp71 : Cond.selects RX9 yX9_lies yX9_lies ∈ TW := TW_in (List.mem_append_left _ (List.mem_of_getElem? (i := 71) rfl)) rfl
theorem wp72 : Cond.selects RX9 yX9_refused yX9_refused ∈ TW := TW_in (List.mem_append_left _ (List.mem_of_getElem? (i := 72) rfl)) rfl
theorem wp73 : Cond.selects RX9 yX9_mayBeAbove yX9_mayBeAbove ∈ TW := TW_in (List.mem_append_left _ (List.mem_of_getElem? (i := 73) rfl)) rfl
theorem wp74 : Cond.selects RX9 yX9_areInterfaces yX9_areInterfaces ∈ TW := TW_in (List.mem_append_left _ (List.mem_of_getElem? (i := 74) rfl)) rfl
theorem wp75 : Cond.selects RX9 yX9_saves yX9_saves ∈ TW := TW_in (List.mem_append_left _ (List.mem_of_getElem? (i := 75) rfl)) rfl
theorem wp76 : Cond.selects RX9 yX9_classMany yX9_classMany ∈ TW := TW_in (List.mem_append_left _ (List.mem_of_getElem? (i := 76) rfl)) rfl
theorem wp77 : Cond.selects RX9 yX9_isAboveOne yX9_isAboveOne ∈ TW := TW_in (List.mem_append_left _ (List.mem_of_getElem? (i := 77) rfl)) rfl
theorem wp78 : Cond.selects RX9 yX9_drops yX9_drops ∈ TW := TW_in (List.mem_append_left _ (List.mem_of_getElem? (i := 78) rfl)) rfl
theorem wp79 : Cond.selects RX9 yX9_mayBe yX9_mayBe ∈ TW := TW_in (List.mem_append_left _ (List.mem_of_getElem? (i := 79) rfl)) rfl
theorem wp80 : Cond.selects RX9 yX9_isAbove yX9_isAbove ∈ TW := TW_in (List.mem_append_left _ (List.mem_of_getElem? (i := 80) rfl)) rfl
theorem wp81 : Cond.selects RX9 yX9_hasAbstract yX9_hasAbstract ∈ TW := TW_in (List.mem_append_left _ (List.mem_of_getElem? (i := 81) rfl)) rfl
theorem wp82 : Cond.selects RX9 yX9_infoOf yX9_infoOf ∈ TW := TW_in (List.mem_append_left _ (List.mem_of_getElem? (i := 82) rfl)) rfl
theorem wp83 : Cond.selects RX9 yX9_added yX9_added ∈ TW := TW_in (List.mem_append_left _ (List.mem_of_getElem? (i := 83) rfl)) rfl
theorem wp84 : Cond.selects RX9 yX9_mayBeMethod yX9_mayBeMethod ∈ TW := TW_in (List.mem_append_left _ (List.mem_of_getElem? (i := 84) rfl)) rfl
theorem wp85 : Cond.selects RX9 yX9_mayBeField yX9_mayBeField ∈ TW := TW_in (List.mem_append_left _ (List.mem_of_getElem? (i := 85) rfl)) rfl
theorem wp86 : Cond.selects RX9 yX9_isMember yX9_isMember ∈ TW := TW_in (List.mem_append_left _ (List.mem_of_getElem? (i := 86) rfl)) rfl
theorem wp87 : Cond.selects RX9 yX9_maySet yX9_maySet ∈ TW := TW_in (List.mem_append_left _ (List.mem_of_getElem? (i := 87) rfl)) rfl
theorem wp88 : Cond.selects RX9 yX9_toldOf yX9_toldOf ∈ TW := TW_in (List.mem_append_left _ (List.mem_of_getElem? (i := 88) rfl)) rfl
theorem wp89 : Cond.selects RX9 yX9_methodOf yX9_methodOf ∈ TW := TW_in (List.mem_append_left _ (List.mem_of_getElem? (i := 89) rfl)) rfl
theorem wp90 : Cond.selects RX9 yX9_interfaceMethod yX9_interfaceMethod ∈ TW := TW_in (List.mem_append_left _ (List.mem_of_getElem? (i := 90) rfl)) rfl
theorem wp91 : Cond.selects RX9 yX9_selectedFor yX9_selectedFor ∈ TW := TW_in (List.mem_append_left _ (List.mem_of_getElem? (i := 91) rfl)) rfl
theorem wp92 : Cond.selects RX9 yX9_isClient yX9_isClient ∈ TW := TW_in (List.mem_append_left _ (List.mem_of_getElem? (i := 92) rfl)) rfl
theorem wp93 : Cond.selects RX9 yX9_takes yX9_takes ∈ TW := TW_in (List.mem_append_left _ (List.mem_of_getElem? (i := 93) rfl)) rfl
theorem wp94 : Cond.selects RX9 yX9_clientTold yX9_clientTold ∈ TW := TW_in (List.mem_append_left _ (List.mem_of_getElem? (i := 94) rfl)) rfl
theorem wp95 : Cond.selects RX9 yX9_isBoth yX9_isBoth ∈ TW := TW_in (List.mem_append_left _ (List.mem_of_getElem? (i := 95) rfl)) rfl
theorem wp96 : Cond.selects RX9 yX9_linked yX9_linked ∈ TW := TW_in (List.mem_append_left _ (List.mem_of_getElem? (i := 96) rfl)) rfl
theorem wp97 : Cond.selects RX9 yX9_linkedField yX9_linkedField ∈ TW := TW_in (List.mem_append_left _ (List.mem_of_getElem? (i := 97) rfl)) rfl
theorem wp98 : Cond.selects RX9 yX9_linkedCall yX9_linkedCall ∈ TW := TW_in (List.mem_append_left _ (List.mem_of_getElem? (i := 98) rfl)) rfl
theorem wp99 : Cond.selects RX9 yX9_linkedBase yX9_linkedBase ∈ TW := TW_in (List.mem_append_left _ (List.mem_of_getElem? (i := 99) rfl)) rfl
theorem wp100 : Cond.selects RX9 yX9_judged yX9_judged ∈ TW := TW_in (List.mem_append_left _ (List.mem_of_getElem? (i := 100) rfl)) rfl
theorem wp101 : Cond.selects RX9 yX9_isOther yX9_isOther ∈ TW := TW_in (List.mem_append_left _ (List.mem_of_getElem? (i := 101) rfl)) rfl
theorem wp102 : Cond.selects RX9 yX9_seeks yX9_seeks ∈ TW := TW_in (List.mem_append_left _ (List.mem_of_getElem? (i := 102) rfl)) rfl
theorem wp103 : Cond.selects RX9 yX9_isSought yX9_isSought ∈ TW := TW_in (List.mem_append_left _ (List.mem_of_getElem? (i := 103) rfl)) rfl
theorem wp104 : Cond.selects RX9 yX9_mix yX9_mix ∈ TW := TW_in (List.mem_append_left _ (List.mem_of_getElem? (i := 104) rfl)) rfl
theorem w1 : Cond.initialized RX8 ∈ TW := TW_in (tb_in (List.mem_of_getElem? (i := 1) rfl)) rfl
theorem w2 : Cond.initialized RX6 ∈ TW := TW_in (tb_in (List.mem_of_getElem? (i := 2) rfl)) rfl
theorem w3 : Cond.initialized RX2 ∈ TW := TW_in (tb_in (List.mem_of_getElem? (i := 3) rfl)) rfl
theorem w4 : Cond.initialized RX4 ∈ TW := TW_in (tb_in (List.mem_of_getElem? (i := 4) rfl)) rfl
theorem w5 : Cond.initialized RX0 ∈ TW := TW_in (tb_in (List.mem_of_getElem? (i := 5) rfl)) rfl
theorem w6 : Cond.initialized RX7 ∈ TW := TW_in (tb_in (List.mem_of_getElem? (i := 6) rfl)) rfl
theorem w7 : Cond.initialized RX5 ∈ TW := TW_in (tb_in (List.mem_of_getElem? (i := 7) rfl)) rfl
theorem w8 : Cond.initialized RX1 ∈ TW := TW_in (tb_in (List.mem_of_getElem? (i := 8) rfl)) rfl
theorem w9 : Cond.initialized RX3 ∈ TW := TW_in (tb_in (List.mem_of_getElem? (i := 9) rfl)) rfl
theorem w10 : Cond.initialized RJ10 ∈ TW := TW_in (tb_in (List.mem_of_getElem? (i := 10) rfl)) rfl
theorem w11 : Cond.initialized RX9 ∈ TW := TW_in (tb_in (List.mem_of_getElem? (i := 11) rfl)) rfl
theorem w15 : Cond.initialized "java/lang/IndexOutOfBoundsException" ∈ TW := TW_in (tb_in (List.mem_of_getElem? (i := 15) rfl)) rfl
theorem w16 : Cond.initialized "java/lang/IllegalArgumentException" ∈ TW := TW_in (tb_in (List.mem_of_getElem? (i := 16) rfl)) rfl
theorem w17 : Cond.initialized "java/lang/IllegalStateException" ∈ TW := TW_in (tb_in (List.mem_of_getElem? (i := 17) rfl)) rfl
theorem w18 : Cond.initialized RJ6 ∈ TW := TW_in (tb_in (List.mem_of_getElem? (i := 18) rfl)) rfl
theorem w23 : Cond.code yX8_init cX8_init 2 none ∈ TW := TW_in (tb_in (List.mem_of_getElem? (i := 23) rfl)) rfl
theorem w24 : Cond.methodLink RX8 1 objectInit ∈ TW := TW_in (tb_in (List.mem_of_getElem? (i := 24) rfl)) rfl
theorem w25 : Cond.instanceMethod objectInit ∈ TW := TW_in (tb_in (List.mem_of_getElem? (i := 25) rfl)) rfl
theorem w26 : Cond.code objectInit ⟨#[0xb1]⟩ 1 none ∈ TW := TW_in (tb_in (List.mem_of_getElem? (i := 26) rfl)) rfl
theorem w28 : Cond.instantiable RX6 3 ∈ TW := TW_in (tb_in (List.mem_of_getElem? (i := 28) rfl)) rfl
theorem w29 : Cond.methodLink RX8 9 yX6_init ∈ TW := TW_in (tb_in (List.mem_of_getElem? (i := 29) rfl)) rfl
theorem w30 : Cond.instanceMethod yX6_init ∈ TW := TW_in (tb_in (List.mem_of_getElem? (i := 30) rfl)) rfl
theorem w31 : Cond.code yX6_init cX6_init 2 none ∈ TW := TW_in (tb_in (List.mem_of_getElem? (i := 31) rfl)) rfl
theorem w32 : Cond.methodLink RX6 3 objectInit ∈ TW := TW_in (tb_in (List.mem_of_getElem? (i := 32) rfl)) rfl
theorem w37 : Cond.classLink RX6 9 RX2 ∈ TW := TW_in (tb_in (List.mem_of_getElem? (i := 37) rfl)) rfl
theorem w38 : Cond.instantiable RX2 12 ∈ TW := TW_in (tb_in (List.mem_of_getElem? (i := 38) rfl)) rfl
theorem w40 : Cond.instanceMethod yX2_init ∈ TW := TW_in (tb_in (List.mem_of_getElem? (i := 40) rfl)) rfl
theorem w41 : Cond.code yX2_init cX2_init 1 none ∈ TW := TW_in (tb_in (List.mem_of_getElem? (i := 41) rfl)) rfl
theorem w42 : Cond.methodLink RX2 3 objectInit ∈ TW := TW_in (tb_in (List.mem_of_getElem? (i := 42) rfl)) rfl
theorem w43 : Cond.classLink RX2 43 RX4 ∈ TW := TW_in (tb_in (List.mem_of_getElem? (i := 43) rfl)) rfl
theorem w44 : Cond.instantiable RX4 13 ∈ TW := TW_in (tb_in (List.mem_of_getElem? (i := 44) rfl)) rfl
theorem w46 : Cond.instanceMethod yX4_init ∈ TW := TW_in (tb_in (List.mem_of_getElem? (i := 46) rfl)) rfl
theorem w47 : Cond.code yX4_init cX4_init 1 none ∈ TW := TW_in (tb_in (List.mem_of_getElem? (i := 47) rfl)) rfl
theorem w48 : Cond.methodLink RX4 3 objectInit ∈ TW := TW_in (tb_in (List.mem_of_getElem? (i := 48) rfl)) rfl
theorem w49 : Cond.fieldLink RX4 9 "CompatibilityJudge$Members" "size" "I" ∈ TW := TW_in (tb_in (List.mem_of_getElem? (i := 49) rfl)) rfl
theorem w50 : Cond.fieldLink RX1 138 "CompatibilityJudge$Members" "size" "I" ∈ TW := TW_in (tb_in (List.mem_of_getElem? (i := 50) rfl)) rfl
theorem w51 : Cond.fieldLink RX2 53 "CompatibilityJudge$Members" "size" "I" ∈ TW := TW_in (tb_in (List.mem_of_getElem? (i := 51) rfl)) rfl
theorem w52 : Cond.fieldLink RX8 203 "CompatibilityJudge$Members" "size" "I" ∈ TW := TW_in (tb_in (List.mem_of_getElem? (i := 52) rfl)) rfl
theorem w53 : Cond.fieldLink RX4 15 "CompatibilityJudge$Members" "access" "[I" ∈ TW := TW_in (tb_in (List.mem_of_getElem? (i := 53) rfl)) rfl
theorem w54 : Cond.fieldLink RX1 162 "CompatibilityJudge$Members" "access" "[I" ∈ TW := TW_in (tb_in (List.mem_of_getElem? (i := 54) rfl)) rfl
theorem w55 : Cond.fieldLink RX8 273 "CompatibilityJudge$Members" "access" "[I" ∈ TW := TW_in (tb_in (List.mem_of_getElem? (i := 55) rfl)) rfl
theorem w56 : Cond.fieldLink RX2 104 "CompatibilityJudge$Members" "access" "[I" ∈ TW := TW_in (tb_in (List.mem_of_getElem? (i := 56) rfl)) rfl
theorem w57 : Cond.fieldLink RX4 19 "CompatibilityJudge$Members" "flags" "[I" ∈ TW := TW_in (tb_in (List.mem_of_getElem? (i := 57) rfl)) rfl
theorem w58 : Cond.fieldLink RX3 85 "CompatibilityJudge$Members" "flags" "[I" ∈ TW := TW_in (tb_in (List.mem_of_getElem? (i := 58) rfl)) rfl
theorem w59 : Cond.fieldLink RX1 90 "CompatibilityJudge$Members" "flags" "[I" ∈ TW := TW_in (tb_in (List.mem_of_getElem? (i := 59) rfl)) rfl
theorem w60 : Cond.fieldLink RX8 276 "CompatibilityJudge$Members" "flags" "[I" ∈ TW := TW_in (tb_in (List.mem_of_getElem? (i := 60) rfl)) rfl
theorem w61 : Cond.fieldLink RX2 107 "CompatibilityJudge$Members" "flags" "[I" ∈ TW := TW_in (tb_in (List.mem_of_getElem? (i := 61) rfl)) rfl
theorem w62 : Cond.fieldLink RX4 22 "CompatibilityJudge$Members" "constant" "[I" ∈ TW := TW_in (tb_in (List.mem_of_getElem? (i := 62) rfl)) rfl
theorem w63 : Cond.fieldLink RX1 95 "CompatibilityJudge$Members" "constant" "[I" ∈ TW := TW_in (tb_in (List.mem_of_getElem? (i := 63) rfl)) rfl
theorem w64 : Cond.fieldLink RX4 25 "CompatibilityJudge$Members" "kind" "[I" ∈ TW := TW_in (tb_in (List.mem_of_getElem? (i := 64) rfl)) rfl
theorem w65 : Cond.fieldLink RX1 141 "CompatibilityJudge$Members" "kind" "[I" ∈ TW := TW_in (tb_in (List.mem_of_getElem? (i := 65) rfl)) rfl
theorem w66 : Cond.fieldLink RX8 270 "CompatibilityJudge$Members" "kind" "[I" ∈ TW := TW_in (tb_in (List.mem_of_getElem? (i := 66) rfl)) rfl
theorem w67 : Cond.fieldLink RX2 101 "CompatibilityJudge$Members" "kind" "[I" ∈ TW := TW_in (tb_in (List.mem_of_getElem? (i := 67) rfl)) rfl
theorem w68 : Cond.fieldLink RX4 28 "CompatibilityJudge$Members" "owner" "[I" ∈ TW := TW_in (tb_in (List.mem_of_getElem? (i := 68) rfl)) rfl
theorem w69 : Cond.fieldLink RX3 94 "CompatibilityJudge$Members" "owner" "[I" ∈ TW := TW_in (tb_in (List.mem_of_getElem? (i := 69) rfl)) rfl
theorem w70 : Cond.fieldLink RX1 151 "CompatibilityJudge$Members" "owner" "[I" ∈ TW := TW_in (tb_in (List.mem_of_getElem? (i := 70) rfl)) rfl
theorem w71 : Cond.fieldLink RX8 266 "CompatibilityJudge$Members" "owner" "[I" ∈ TW := TW_in (tb_in (List.mem_of_getElem? (i := 71) rfl)) rfl
theorem w72 : Cond.fieldLink RX2 117 "CompatibilityJudge$Members" "owner" "[I" ∈ TW := TW_in (tb_in (List.mem_of_getElem? (i := 72) rfl)) rfl
theorem w73 : Cond.fieldLink RX4 31 "CompatibilityJudge$Members" "name" "[I" ∈ TW := TW_in (tb_in (List.mem_of_getElem? (i := 73) rfl)) rfl
theorem w74 : Cond.fieldLink RX1 144 "CompatibilityJudge$Members" "name" "[I" ∈ TW := TW_in (tb_in (List.mem_of_getElem? (i := 74) rfl)) rfl
theorem w75 : Cond.fieldLink RX8 295 "CompatibilityJudge$Members" "name" "[I" ∈ TW := TW_in (tb_in (List.mem_of_getElem? (i := 75) rfl)) rfl
theorem w76 : Cond.fieldLink RX2 127 "CompatibilityJudge$Members" "name" "[I" ∈ TW := TW_in (tb_in (List.mem_of_getElem? (i := 76) rfl)) rfl
theorem w77 : Cond.fieldLink RX4 34 "CompatibilityJudge$Members" "type" "[I" ∈ TW := TW_in (tb_in (List.mem_of_getElem? (i := 77) rfl)) rfl
theorem w78 : Cond.fieldLink RX1 103 "CompatibilityJudge$Members" "type" "[I" ∈ TW := TW_in (tb_in (List.mem_of_getElem? (i := 78) rfl)) rfl
theorem w79 : Cond.fieldLink RX8 285 "CompatibilityJudge$Members" "type" "[I" ∈ TW := TW_in (tb_in (List.mem_of_getElem? (i := 79) rfl)) rfl
theorem w80 : Cond.fieldLink RX2 130 "CompatibilityJudge$Members" "type" "[I" ∈ TW := TW_in (tb_in (List.mem_of_getElem? (i := 80) rfl)) rfl
theorem w81 : Cond.fieldLink RX4 37 "CompatibilityJudge$Members" "many" "[I" ∈ TW := TW_in (tb_in (List.mem_of_getElem? (i := 81) rfl)) rfl
theorem w82 : Cond.fieldLink RX1 146 "CompatibilityJudge$Members" "many" "[I" ∈ TW := TW_in (tb_in (List.mem_of_getElem? (i := 82) rfl)) rfl
theorem w83 : Cond.fieldLink RX4 40 "CompatibilityJudge$Members" "first" "[I" ∈ TW := TW_in (tb_in (List.mem_of_getElem? (i := 83) rfl)) rfl
theorem w84 : Cond.fieldLink RX1 119 "CompatibilityJudge$Members" "first" "[I" ∈ TW := TW_in (tb_in (List.mem_of_getElem? (i := 84) rfl)) rfl
theorem w85 : Cond.fieldLink RX4 43 "CompatibilityJudge$Members" "second" "[I" ∈ TW := TW_in (tb_in (List.mem_of_getElem? (i := 85) rfl)) rfl
theorem w86 : Cond.fieldLink RX1 124 "CompatibilityJudge$Members" "second" "[I" ∈ TW := TW_in (tb_in (List.mem_of_getElem? (i := 86) rfl)) rfl
theorem w87 : Cond.fieldLink RX4 46 "CompatibilityJudge$Members" "signature" "[I" ∈ TW := TW_in (tb_in (List.mem_of_getElem? (i := 87) rfl)) rfl
theorem w88 : Cond.fieldLink RX1 168 "CompatibilityJudge$Members" "signature" "[I" ∈ TW := TW_in (tb_in (List.mem_of_getElem? (i := 88) rfl)) rfl
theorem w89 : Cond.fieldLink RX8 298 "CompatibilityJudge$Members" "signature" "[I" ∈ TW := TW_in (tb_in (List.mem_of_getElem? (i := 89) rfl)) rfl
theorem w90 : Cond.fieldLink RX4 49 "CompatibilityJudge$Members" "descriptor" "[I" ∈ TW := TW_in (tb_in (List.mem_of_getElem? (i := 90) rfl)) rfl
theorem w91 : Cond.fieldLink RX8 328 "CompatibilityJudge$Members" "descriptor" "[I" ∈ TW := TW_in (tb_in (List.mem_of_getElem? (i := 91) rfl)) rfl
theorem w92 : Cond.fieldLink RX2 136 "CompatibilityJudge$Members" "descriptor" "[I" ∈ TW := TW_in (tb_in (List.mem_of_getElem? (i := 92) rfl)) rfl
theorem w120 : Cond.arrayClass .int ∈ TW := TW_in (tb_in (List.mem_of_getElem? (i := 120) rfl)) rfl
theorem w121 : Cond.fieldLink RX2 9 "CompatibilityJudge$Library" "existing" "I" ∈ TW := TW_in (tb_in (List.mem_of_getElem? (i := 121) rfl)) rfl
theorem w122 : Cond.fieldLink RX8 144 "CompatibilityJudge$Library" "existing" "I" ∈ TW := TW_in (tb_in (List.mem_of_getElem? (i := 122) rfl)) rfl
theorem w123 : Cond.fieldLink RX2 15 "CompatibilityJudge$Library" "interfaceSet" "I" ∈ TW := TW_in (tb_in (List.mem_of_getElem? (i := 123) rfl)) rfl
theorem w124 : Cond.fieldLink RX2 18 "CompatibilityJudge$Library" "publicSet" "I" ∈ TW := TW_in (tb_in (List.mem_of_getElem? (i := 124) rfl)) rfl
theorem w125 : Cond.fieldLink RX2 21 "CompatibilityJudge$Library" "finalSet" "I" ∈ TW := TW_in (tb_in (List.mem_of_getElem? (i := 125) rfl)) rfl
theorem w126 : Cond.fieldLink RX2 24 "CompatibilityJudge$Library" "abstractSet" "I" ∈ TW := TW_in (tb_in (List.mem_of_getElem? (i := 126) rfl)) rfl
theorem w127 : Cond.fieldLink RX2 27 "CompatibilityJudge$Library" "home" "[I" ∈ TW := TW_in (tb_in (List.mem_of_getElem? (i := 127) rfl)) rfl
theorem w128 : Cond.fieldLink RX2 31 "CompatibilityJudge$Library" "superclass" "[I" ∈ TW := TW_in (tb_in (List.mem_of_getElem? (i := 128) rfl)) rfl
theorem w129 : Cond.fieldLink RX2 34 "CompatibilityJudge$Library" "interfaces" "[I" ∈ TW := TW_in (tb_in (List.mem_of_getElem? (i := 129) rfl)) rfl
theorem w130 : Cond.fieldLink RX2 37 "CompatibilityJudge$Library" "supertypes" "[I" ∈ TW := TW_in (tb_in (List.mem_of_getElem? (i := 130) rfl)) rfl
theorem w131 : Cond.fieldLink RX1 135 "CompatibilityJudge$Library" "supertypes" "[I" ∈ TW := TW_in (tb_in (List.mem_of_getElem? (i := 131) rfl)) rfl
theorem w132 : Cond.fieldLink RX3 125 "CompatibilityJudge$Library" "supertypes" "[I" ∈ TW := TW_in (tb_in (List.mem_of_getElem? (i := 132) rfl)) rfl
theorem w133 : Cond.fieldLink RX8 323 "CompatibilityJudge$Library" "supertypes" "[I" ∈ TW := TW_in (tb_in (List.mem_of_getElem? (i := 133) rfl)) rfl
theorem w134 : Cond.fieldLink RX2 40 "CompatibilityJudge$Library" "lineage" "[I" ∈ TW := TW_in (tb_in (List.mem_of_getElem? (i := 134) rfl)) rfl
theorem w135 : Cond.fieldLink RX3 122 "CompatibilityJudge$Library" "lineage" "[I" ∈ TW := TW_in (tb_in (List.mem_of_getElem? (i := 135) rfl)) rfl
theorem w136 : Cond.fieldLink RX1 178 "CompatibilityJudge$Library" "lineage" "[I" ∈ TW := TW_in (tb_in (List.mem_of_getElem? (i := 136) rfl)) rfl
theorem w137 : Cond.fieldLink RX8 331 "CompatibilityJudge$Library" "lineage" "[I" ∈ TW := TW_in (tb_in (List.mem_of_getElem? (i := 137) rfl)) rfl
theorem w138 : Cond.fieldLink RX2 46 "CompatibilityJudge$Library" "members" "LCompatibilityJudge$Members;" ∈ TW := TW_in (tb_in (List.mem_of_getElem? (i := 138) rfl)) rfl
theorem w139 : Cond.fieldLink RX8 64 "CompatibilityJudge$Library" "members" "LCompatibilityJudge$Members;" ∈ TW := TW_in (tb_in (List.mem_of_getElem? (i := 139) rfl)) rfl
theorem w140 : Cond.fieldLink RX3 81 "CompatibilityJudge$Library" "members" "LCompatibilityJudge$Members;" ∈ TW := TW_in (tb_in (List.mem_of_getElem? (i := 140) rfl)) rfl
theorem w141 : Cond.fieldLink RX1 86 "CompatibilityJudge$Library" "members" "LCompatibilityJudge$Members;" ∈ TW := TW_in (tb_in (List.mem_of_getElem? (i := 141) rfl)) rfl
theorem w142 : Cond.fieldLink RX2 50 "CompatibilityJudge$Library" "fieldFound" "[I" ∈ TW := TW_in (tb_in (List.mem_of_getElem? (i := 142) rfl)) rfl
theorem w168 : Cond.classLink RX6 17 RX0 ∈ TW := TW_in (tb_in (List.mem_of_getElem? (i := 168) rfl)) rfl
theorem w169 : Cond.instantiable RX0 9 ∈ TW := TW_in (tb_in (List.mem_of_getElem? (i := 169) rfl)) rfl
theorem w171 : Cond.instanceMethod yX0_init ∈ TW := TW_in (tb_in (List.mem_of_getElem? (i := 171) rfl)) rfl
theorem w172 : Cond.code yX0_init cX0_init 1 none ∈ TW := TW_in (tb_in (List.mem_of_getElem? (i := 172) rfl)) rfl
theorem w173 : Cond.methodLink RX0 3 objectInit ∈ TW := TW_in (tb_in (List.mem_of_getElem? (i := 173) rfl)) rfl
theorem w174 : Cond.classLink RX0 36 RX7 ∈ TW := TW_in (tb_in (List.mem_of_getElem? (i := 174) rfl)) rfl
theorem w175 : Cond.instantiable RX7 7 ∈ TW := TW_in (tb_in (List.mem_of_getElem? (i := 175) rfl)) rfl
theorem w177 : Cond.instanceMethod yX7_init ∈ TW := TW_in (tb_in (List.mem_of_getElem? (i := 177) rfl)) rfl
theorem w178 : Cond.code yX7_init cX7_init 1 none ∈ TW := TW_in (tb_in (List.mem_of_getElem? (i := 178) rfl)) rfl
theorem w179 : Cond.methodLink RX7 3 objectInit ∈ TW := TW_in (tb_in (List.mem_of_getElem? (i := 179) rfl)) rfl
theorem w180 : Cond.fieldLink RX7 9 "CompatibilityJudge$Symbol" "isConstant" "Z" ∈ TW := TW_in (tb_in (List.mem_of_getElem? (i := 180) rfl)) rfl
theorem w181 : Cond.fieldLink RX3 25 "CompatibilityJudge$Symbol" "isConstant" "Z" ∈ TW := TW_in (tb_in (List.mem_of_getElem? (i := 181) rfl)) rfl
theorem w182 : Cond.fieldLink RX1 98 "CompatibilityJudge$Symbol" "isConstant" "Z" ∈ TW := TW_in (tb_in (List.mem_of_getElem? (i := 182) rfl)) rfl
theorem w183 : Cond.fieldLink RX0 61 "CompatibilityJudge$Symbol" "isConstant" "Z" ∈ TW := TW_in (tb_in (List.mem_of_getElem? (i := 183) rfl)) rfl
theorem w184 : Cond.fieldLink RX7 15 "CompatibilityJudge$Symbol" "constant" "I" ∈ TW := TW_in (tb_in (List.mem_of_getElem? (i := 184) rfl)) rfl
theorem w185 : Cond.fieldLink RX1 101 "CompatibilityJudge$Symbol" "constant" "I" ∈ TW := TW_in (tb_in (List.mem_of_getElem? (i := 185) rfl)) rfl
theorem w186 : Cond.fieldLink RX0 65 "CompatibilityJudge$Symbol" "constant" "I" ∈ TW := TW_in (tb_in (List.mem_of_getElem? (i := 186) rfl)) rfl
theorem w187 : Cond.fieldLink RX7 19 "CompatibilityJudge$Symbol" "type" "I" ∈ TW := TW_in (tb_in (List.mem_of_getElem? (i := 187) rfl)) rfl
theorem w188 : Cond.fieldLink RX3 70 "CompatibilityJudge$Symbol" "type" "I" ∈ TW := TW_in (tb_in (List.mem_of_getElem? (i := 188) rfl)) rfl
theorem w189 : Cond.fieldLink RX1 106 "CompatibilityJudge$Symbol" "type" "I" ∈ TW := TW_in (tb_in (List.mem_of_getElem? (i := 189) rfl)) rfl
theorem w190 : Cond.fieldLink RX0 68 "CompatibilityJudge$Symbol" "type" "I" ∈ TW := TW_in (tb_in (List.mem_of_getElem? (i := 190) rfl)) rfl
theorem w191 : Cond.fieldLink RX7 22 "CompatibilityJudge$Symbol" "isStatic" "I" ∈ TW := TW_in (tb_in (List.mem_of_getElem? (i := 191) rfl)) rfl
theorem w192 : Cond.fieldLink RX3 91 "CompatibilityJudge$Symbol" "isStatic" "I" ∈ TW := TW_in (tb_in (List.mem_of_getElem? (i := 192) rfl)) rfl
theorem w193 : Cond.fieldLink RX1 108 "CompatibilityJudge$Symbol" "isStatic" "I" ∈ TW := TW_in (tb_in (List.mem_of_getElem? (i := 193) rfl)) rfl
theorem w194 : Cond.fieldLink RX0 71 "CompatibilityJudge$Symbol" "isStatic" "I" ∈ TW := TW_in (tb_in (List.mem_of_getElem? (i := 194) rfl)) rfl
theorem w195 : Cond.fieldLink RX7 25 "CompatibilityJudge$Symbol" "first" "I" ∈ TW := TW_in (tb_in (List.mem_of_getElem? (i := 195) rfl)) rfl
theorem w196 : Cond.fieldLink RX3 103 "CompatibilityJudge$Symbol" "first" "I" ∈ TW := TW_in (tb_in (List.mem_of_getElem? (i := 196) rfl)) rfl
theorem w197 : Cond.fieldLink RX1 122 "CompatibilityJudge$Symbol" "first" "I" ∈ TW := TW_in (tb_in (List.mem_of_getElem? (i := 197) rfl)) rfl
theorem w198 : Cond.fieldLink RX7 28 "CompatibilityJudge$Symbol" "second" "I" ∈ TW := TW_in (tb_in (List.mem_of_getElem? (i := 198) rfl)) rfl
theorem w199 : Cond.fieldLink RX3 106 "CompatibilityJudge$Symbol" "second" "I" ∈ TW := TW_in (tb_in (List.mem_of_getElem? (i := 199) rfl)) rfl
theorem w200 : Cond.fieldLink RX1 127 "CompatibilityJudge$Symbol" "second" "I" ∈ TW := TW_in (tb_in (List.mem_of_getElem? (i := 200) rfl)) rfl
theorem w201 : Cond.fieldLink RX7 31 "CompatibilityJudge$Symbol" "isOfInterface" "I" ∈ TW := TW_in (tb_in (List.mem_of_getElem? (i := 201) rfl)) rfl
theorem w202 : Cond.fieldLink RX3 100 "CompatibilityJudge$Symbol" "isOfInterface" "I" ∈ TW := TW_in (tb_in (List.mem_of_getElem? (i := 202) rfl)) rfl
theorem w203 : Cond.fieldLink RX1 132 "CompatibilityJudge$Symbol" "isOfInterface" "I" ∈ TW := TW_in (tb_in (List.mem_of_getElem? (i := 203) rfl)) rfl
theorem w219 : Cond.fieldLink RX0 9 "CompatibilityJudge$Client" "use" "I" ∈ TW := TW_in (tb_in (List.mem_of_getElem? (i := 219) rfl)) rfl
theorem w220 : Cond.fieldLink RX1 55 "CompatibilityJudge$Client" "use" "I" ∈ TW := TW_in (tb_in (List.mem_of_getElem? (i := 220) rfl)) rfl
theorem w221 : Cond.fieldLink RX3 47 "CompatibilityJudge$Client" "use" "I" ∈ TW := TW_in (tb_in (List.mem_of_getElem? (i := 221) rfl)) rfl
theorem w222 : Cond.fieldLink RX8 414 "CompatibilityJudge$Client" "use" "I" ∈ TW := TW_in (tb_in (List.mem_of_getElem? (i := 222) rfl)) rfl
theorem w223 : Cond.fieldLink RX0 15 "CompatibilityJudge$Client" "c" "I" ∈ TW := TW_in (tb_in (List.mem_of_getElem? (i := 223) rfl)) rfl
theorem w224 : Cond.fieldLink RX1 37 "CompatibilityJudge$Client" "c" "I" ∈ TW := TW_in (tb_in (List.mem_of_getElem? (i := 224) rfl)) rfl
theorem w225 : Cond.fieldLink RX3 31 "CompatibilityJudge$Client" "c" "I" ∈ TW := TW_in (tb_in (List.mem_of_getElem? (i := 225) rfl)) rfl
theorem w226 : Cond.fieldLink RX8 417 "CompatibilityJudge$Client" "c" "I" ∈ TW := TW_in (tb_in (List.mem_of_getElem? (i := 226) rfl)) rfl
theorem w227 : Cond.fieldLink RX0 18 "CompatibilityJudge$Client" "name" "I" ∈ TW := TW_in (tb_in (List.mem_of_getElem? (i := 227) rfl)) rfl
theorem w228 : Cond.fieldLink RX1 75 "CompatibilityJudge$Client" "name" "I" ∈ TW := TW_in (tb_in (List.mem_of_getElem? (i := 228) rfl)) rfl
theorem w229 : Cond.fieldLink RX3 67 "CompatibilityJudge$Client" "name" "I" ∈ TW := TW_in (tb_in (List.mem_of_getElem? (i := 229) rfl)) rfl
theorem w230 : Cond.fieldLink RX8 420 "CompatibilityJudge$Client" "name" "I" ∈ TW := TW_in (tb_in (List.mem_of_getElem? (i := 230) rfl)) rfl
theorem w231 : Cond.fieldLink RX0 21 "CompatibilityJudge$Client" "home" "I" ∈ TW := TW_in (tb_in (List.mem_of_getElem? (i := 231) rfl)) rfl
theorem w232 : Cond.fieldLink RX1 48 "CompatibilityJudge$Client" "home" "I" ∈ TW := TW_in (tb_in (List.mem_of_getElem? (i := 232) rfl)) rfl
theorem w233 : Cond.fieldLink RX3 40 "CompatibilityJudge$Client" "home" "I" ∈ TW := TW_in (tb_in (List.mem_of_getElem? (i := 233) rfl)) rfl
theorem w234 : Cond.fieldLink RX2 120 "CompatibilityJudge$Client" "home" "I" ∈ TW := TW_in (tb_in (List.mem_of_getElem? (i := 234) rfl)) rfl
theorem w235 : Cond.fieldLink RX8 356 "CompatibilityJudge$Client" "home" "I" ∈ TW := TW_in (tb_in (List.mem_of_getElem? (i := 235) rfl)) rfl
theorem w236 : Cond.fieldLink RX0 24 "CompatibilityJudge$Client" "base" "I" ∈ TW := TW_in (tb_in (List.mem_of_getElem? (i := 236) rfl)) rfl
theorem w237 : Cond.fieldLink RX3 138 "CompatibilityJudge$Client" "base" "I" ∈ TW := TW_in (tb_in (List.mem_of_getElem? (i := 237) rfl)) rfl
theorem w238 : Cond.fieldLink RX1 184 "CompatibilityJudge$Client" "base" "I" ∈ TW := TW_in (tb_in (List.mem_of_getElem? (i := 238) rfl)) rfl
theorem w239 : Cond.fieldLink RX2 124 "CompatibilityJudge$Client" "base" "I" ∈ TW := TW_in (tb_in (List.mem_of_getElem? (i := 239) rfl)) rfl
theorem w240 : Cond.fieldLink RX8 366 "CompatibilityJudge$Client" "base" "I" ∈ TW := TW_in (tb_in (List.mem_of_getElem? (i := 240) rfl)) rfl
theorem w241 : Cond.fieldLink RX0 27 "CompatibilityJudge$Client" "many" "I" ∈ TW := TW_in (tb_in (List.mem_of_getElem? (i := 241) rfl)) rfl
theorem w242 : Cond.fieldLink RX1 149 "CompatibilityJudge$Client" "many" "I" ∈ TW := TW_in (tb_in (List.mem_of_getElem? (i := 242) rfl)) rfl
theorem w243 : Cond.fieldLink RX8 422 "CompatibilityJudge$Client" "many" "I" ∈ TW := TW_in (tb_in (List.mem_of_getElem? (i := 243) rfl)) rfl
theorem w244 : Cond.fieldLink RX0 30 "CompatibilityJudge$Client" "first" "I" ∈ TW := TW_in (tb_in (List.mem_of_getElem? (i := 244) rfl)) rfl
theorem w245 : Cond.fieldLink RX1 154 "CompatibilityJudge$Client" "first" "I" ∈ TW := TW_in (tb_in (List.mem_of_getElem? (i := 245) rfl)) rfl
theorem w246 : Cond.fieldLink RX8 423 "CompatibilityJudge$Client" "first" "I" ∈ TW := TW_in (tb_in (List.mem_of_getElem? (i := 246) rfl)) rfl
theorem w247 : Cond.fieldLink RX0 33 "CompatibilityJudge$Client" "second" "I" ∈ TW := TW_in (tb_in (List.mem_of_getElem? (i := 247) rfl)) rfl
theorem w248 : Cond.fieldLink RX1 158 "CompatibilityJudge$Client" "second" "I" ∈ TW := TW_in (tb_in (List.mem_of_getElem? (i := 248) rfl)) rfl
theorem w249 : Cond.fieldLink RX8 424 "CompatibilityJudge$Client" "second" "I" ∈ TW := TW_in (tb_in (List.mem_of_getElem? (i := 249) rfl)) rfl
theorem w250 : Cond.fieldLink RX0 39 "CompatibilityJudge$Client" "symbol" "LCompatibilityJudge$Symbol;" ∈ TW := TW_in (tb_in (List.mem_of_getElem? (i := 250) rfl)) rfl
theorem w251 : Cond.fieldLink RX3 19 "CompatibilityJudge$Client" "symbol" "LCompatibilityJudge$Symbol;" ∈ TW := TW_in (tb_in (List.mem_of_getElem? (i := 251) rfl)) rfl
theorem w252 : Cond.fieldLink RX8 425 "CompatibilityJudge$Client" "symbol" "LCompatibilityJudge$Symbol;" ∈ TW := TW_in (tb_in (List.mem_of_getElem? (i := 252) rfl)) rfl
theorem w272 : Cond.fieldLink RX6 11 "CompatibilityJudge$State" "libraries" "[LCompatibilityJudge$Library;" ∈ TW := TW_in (tb_in (List.mem_of_getElem? (i := 272) rfl)) rfl
theorem w273 : Cond.fieldLink RX8 53 "CompatibilityJudge$State" "libraries" "[LCompatibilityJudge$Library;" ∈ TW := TW_in (tb_in (List.mem_of_getElem? (i := 273) rfl)) rfl
theorem w274 : Cond.fieldLink RX6 19 "CompatibilityJudge$State" "uses" "[LCompatibilityJudge$Client;" ∈ TW := TW_in (tb_in (List.mem_of_getElem? (i := 274) rfl)) rfl
theorem w275 : Cond.fieldLink RX8 394 "CompatibilityJudge$State" "uses" "[LCompatibilityJudge$Client;" ∈ TW := TW_in (tb_in (List.mem_of_getElem? (i := 275) rfl)) rfl
theorem w276 : Cond.fieldLink RX6 23 "CompatibilityJudge$State" "size" "I" ∈ TW := TW_in (tb_in (List.mem_of_getElem? (i := 276) rfl)) rfl
theorem w277 : Cond.fieldLink RX8 349 "CompatibilityJudge$State" "size" "I" ∈ TW := TW_in (tb_in (List.mem_of_getElem? (i := 277) rfl)) rfl
theorem w287 : Cond.classLink RX8 7 RX6 ∈ TW := TW_in (tb_in (List.mem_of_getElem? (i := 287) rfl)) rfl
theorem w290 : Cond.instantiable RX5 4 ∈ TW := TW_in (tb_in (List.mem_of_getElem? (i := 290) rfl)) rfl
theorem w292 : Cond.instanceMethod yX5_init ∈ TW := TW_in (tb_in (List.mem_of_getElem? (i := 292) rfl)) rfl
theorem w293 : Cond.code yX5_init cX5_init 1 none ∈ TW := TW_in (tb_in (List.mem_of_getElem? (i := 293) rfl)) rfl
theorem w294 : Cond.methodLink RX5 3 objectInit ∈ TW := TW_in (tb_in (List.mem_of_getElem? (i := 294) rfl)) rfl
theorem w295 : Cond.fieldLink RX5 9 "CompatibilityJudge$Shape" "result" "I" ∈ TW := TW_in (tb_in (List.mem_of_getElem? (i := 295) rfl)) rfl
theorem w296 : Cond.fieldLink RX4 52 "CompatibilityJudge$Shape" "result" "I" ∈ TW := TW_in (tb_in (List.mem_of_getElem? (i := 296) rfl)) rfl
theorem w297 : Cond.fieldLink RX8 309 "CompatibilityJudge$Shape" "result" "I" ∈ TW := TW_in (tb_in (List.mem_of_getElem? (i := 297) rfl)) rfl
theorem w298 : Cond.fieldLink RX5 15 "CompatibilityJudge$Shape" "many" "I" ∈ TW := TW_in (tb_in (List.mem_of_getElem? (i := 298) rfl)) rfl
theorem w299 : Cond.fieldLink RX4 57 "CompatibilityJudge$Shape" "many" "I" ∈ TW := TW_in (tb_in (List.mem_of_getElem? (i := 299) rfl)) rfl
theorem w300 : Cond.fieldLink RX8 213 "CompatibilityJudge$Shape" "many" "I" ∈ TW := TW_in (tb_in (List.mem_of_getElem? (i := 300) rfl)) rfl
theorem w301 : Cond.fieldLink RX5 18 "CompatibilityJudge$Shape" "first" "I" ∈ TW := TW_in (tb_in (List.mem_of_getElem? (i := 301) rfl)) rfl
theorem w302 : Cond.fieldLink RX4 59 "CompatibilityJudge$Shape" "first" "I" ∈ TW := TW_in (tb_in (List.mem_of_getElem? (i := 302) rfl)) rfl
theorem w303 : Cond.fieldLink RX8 241 "CompatibilityJudge$Shape" "first" "I" ∈ TW := TW_in (tb_in (List.mem_of_getElem? (i := 303) rfl)) rfl
theorem w304 : Cond.fieldLink RX5 21 "CompatibilityJudge$Shape" "second" "I" ∈ TW := TW_in (tb_in (List.mem_of_getElem? (i := 304) rfl)) rfl
theorem w305 : Cond.fieldLink RX4 61 "CompatibilityJudge$Shape" "second" "I" ∈ TW := TW_in (tb_in (List.mem_of_getElem? (i := 305) rfl)) rfl
theorem w306 : Cond.fieldLink RX8 244 "CompatibilityJudge$Shape" "second" "I" ∈ TW := TW_in (tb_in (List.mem_of_getElem? (i := 306) rfl)) rfl
theorem w316 : Cond.classLink RX8 34 RX0 ∈ TW := TW_in (tb_in (List.mem_of_getElem? (i := 316) rfl)) rfl
theorem w322 : Cond.classLink RX8 41 RX1 ∈ TW := TW_in (tb_in (List.mem_of_getElem? (i := 322) rfl)) rfl
theorem w323 : Cond.instantiable RX1 5 ∈ TW := TW_in (tb_in (List.mem_of_getElem? (i := 323) rfl)) rfl
theorem w324 : Cond.methodLink RX8 57 yX1_init ∈ TW := TW_in (tb_in (List.mem_of_getElem? (i := 324) rfl)) rfl
theorem w325 : Cond.instanceMethod yX1_init ∈ TW := TW_in (tb_in (List.mem_of_getElem? (i := 325) rfl)) rfl
theorem w326 : Cond.code yX1_init cX1_init 2 none ∈ TW := TW_in (tb_in (List.mem_of_getElem? (i := 326) rfl)) rfl
theorem w327 : Cond.methodLink RX1 3 objectInit ∈ TW := TW_in (tb_in (List.mem_of_getElem? (i := 327) rfl)) rfl
theorem w328 : Cond.classLink RX1 9 RX7 ∈ TW := TW_in (tb_in (List.mem_of_getElem? (i := 328) rfl)) rfl
theorem w330 : Cond.fieldLink RX1 30 "CompatibilityJudge$Compiler" "library" "LCompatibilityJudge$Library;" ∈ TW := TW_in (tb_in (List.mem_of_getElem? (i := 330) rfl)) rfl
theorem w331 : Cond.fieldLink RX1 12 "CompatibilityJudge$Compiler" "symbol" "LCompatibilityJudge$Symbol;" ∈ TW := TW_in (tb_in (List.mem_of_getElem? (i := 331) rfl)) rfl
theorem w332 : Cond.fieldLink RX8 429 "CompatibilityJudge$Compiler" "symbol" "LCompatibilityJudge$Symbol;" ∈ TW := TW_in (tb_in (List.mem_of_getElem? (i := 332) rfl)) rfl
theorem w333 : Cond.fieldLink RX1 18 "CompatibilityJudge$Compiler" "applicable" "[I" ∈ TW := TW_in (tb_in (List.mem_of_getElem? (i := 333) rfl)) rfl
theorem w334 : Cond.fieldLink RX1 22 "CompatibilityJudge$Compiler" "applicableCount" "I" ∈ TW := TW_in (tb_in (List.mem_of_getElem? (i := 334) rfl)) rfl
theorem w335 : Cond.fieldLink RX1 26 "CompatibilityJudge$Compiler" "hasNamesakes" "Z" ∈ TW := TW_in (tb_in (List.mem_of_getElem? (i := 335) rfl)) rfl
theorem w336 : Cond.fieldLink RX8 406 "CompatibilityJudge$Compiler" "hasNamesakes" "Z" ∈ TW := TW_in (tb_in (List.mem_of_getElem? (i := 336) rfl)) rfl
theorem w348 : Cond.classLink RX8 47 RX3 ∈ TW := TW_in (tb_in (List.mem_of_getElem? (i := 348) rfl)) rfl
theorem w349 : Cond.instantiable RX3 2 ∈ TW := TW_in (tb_in (List.mem_of_getElem? (i := 349) rfl)) rfl
theorem w350 : Cond.methodLink RX8 60 yX3_init ∈ TW := TW_in (tb_in (List.mem_of_getElem? (i := 350) rfl)) rfl
theorem w351 : Cond.instanceMethod yX3_init ∈ TW := TW_in (tb_in (List.mem_of_getElem? (i := 351) rfl)) rfl
theorem w352 : Cond.code yX3_init cX3_init 2 none ∈ TW := TW_in (tb_in (List.mem_of_getElem? (i := 352) rfl)) rfl
theorem w353 : Cond.methodLink RX3 3 objectInit ∈ TW := TW_in (tb_in (List.mem_of_getElem? (i := 353) rfl)) rfl
theorem w354 : Cond.fieldLink RX3 15 "CompatibilityJudge$Linker" "library" "LCompatibilityJudge$Library;" ∈ TW := TW_in (tb_in (List.mem_of_getElem? (i := 354) rfl)) rfl
theorem w355 : Cond.fieldLink RX3 9 "CompatibilityJudge$Linker" "targetClass" "I" ∈ TW := TW_in (tb_in (List.mem_of_getElem? (i := 355) rfl)) rfl
theorem w356 : Cond.fieldLink RX8 435 "CompatibilityJudge$Linker" "targetClass" "I" ∈ TW := TW_in (tb_in (List.mem_of_getElem? (i := 356) rfl)) rfl
theorem w362 : Cond.methodLink RX8 61 yX8_buildFirstClasses ∈ TW := TW_in (tb_in (List.mem_of_getElem? (i := 362) rfl)) rfl
theorem w363 : Cond.static yX8_buildFirstClasses ∈ TW := TW_in (tb_in (List.mem_of_getElem? (i := 363) rfl)) rfl
theorem w364 : Cond.code yX8_buildFirstClasses cX8_buildFirstClasses 2 none ∈ TW := TW_in (tb_in (List.mem_of_getElem? (i := 364) rfl)) rfl
theorem w365 : Cond.methodLink RX8 80 yX2_putClass ∈ TW := TW_in (tb_in (List.mem_of_getElem? (i := 365) rfl)) rfl
theorem w366 : Cond.instanceMethod yX2_putClass ∈ TW := TW_in (tb_in (List.mem_of_getElem? (i := 366) rfl)) rfl
theorem w367 : Cond.selects RX2 yX2_putClass yX2_putClass ∈ TW := TW_in (tb_in (List.mem_of_getElem? (i := 367) rfl)) rfl
theorem w368 : Cond.code yX2_putClass cX2_putClass 6 none ∈ TW := TW_in (tb_in (List.mem_of_getElem? (i := 368) rfl)) rfl
theorem w369 : Cond.methodLink RX2 66 yX2_takeClass ∈ TW := TW_in (tb_in (List.mem_of_getElem? (i := 369) rfl)) rfl
theorem w370 : Cond.instanceMethod yX2_takeClass ∈ TW := TW_in (tb_in (List.mem_of_getElem? (i := 370) rfl)) rfl
theorem w371 : Cond.selects RX2 yX2_takeClass yX2_takeClass ∈ TW := TW_in (tb_in (List.mem_of_getElem? (i := 371) rfl)) rfl
theorem w372 : Cond.code yX2_takeClass cX2_takeClass 3 none ∈ TW := TW_in (tb_in (List.mem_of_getElem? (i := 372) rfl)) rfl
theorem w373 : Cond.methodLink RX2 70 yX2_deriveSupertypes ∈ TW := TW_in (tb_in (List.mem_of_getElem? (i := 373) rfl)) rfl
theorem w375 : Cond.instanceMethod yX2_deriveSupertypes ∈ TW := TW_in (tb_in (List.mem_of_getElem? (i := 375) rfl)) rfl
theorem w376 : Cond.code yX2_deriveSupertypes cX2_deriveSupertypes 2 none ∈ TW := TW_in (tb_in (List.mem_of_getElem? (i := 376) rfl)) rfl
theorem w377 : Cond.methodLink RX2 56 yX2_isThere ∈ TW := TW_in (tb_in (List.mem_of_getElem? (i := 377) rfl)) rfl
theorem w378 : Cond.instanceMethod yX2_isThere ∈ TW := TW_in (tb_in (List.mem_of_getElem? (i := 378) rfl)) rfl
theorem w379 : Cond.selects RX2 yX2_isThere yX2_isThere ∈ TW := TW_in (tb_in (List.mem_of_getElem? (i := 379) rfl)) rfl
theorem w380 : Cond.code yX2_isThere cX2_isThere 2 (some .boolean) ∈ TW := TW_in (tb_in (List.mem_of_getElem? (i := 380) rfl)) rfl
theorem w381 : Cond.methodLink RX2 73 yX2_deriveSupertypesOf ∈ TW := TW_in (tb_in (List.mem_of_getElem? (i := 381) rfl)) rfl
theorem w383 : Cond.instanceMethod yX2_deriveSupertypesOf ∈ TW := TW_in (tb_in (List.mem_of_getElem? (i := 383) rfl)) rfl
theorem w384 : Cond.code yX2_deriveSupertypesOf cX2_deriveSupertypesOf 4 none ∈ TW := TW_in (tb_in (List.mem_of_getElem? (i := 384) rfl)) rfl
theorem w385 : Cond.methodLink RX2 60 yX2_isInterface ∈ TW := TW_in (tb_in (List.mem_of_getElem? (i := 385) rfl)) rfl
theorem w386 : Cond.instanceMethod yX2_isInterface ∈ TW := TW_in (tb_in (List.mem_of_getElem? (i := 386) rfl)) rfl
theorem w387 : Cond.selects RX2 yX2_isInterface yX2_isInterface ∈ TW := TW_in (tb_in (List.mem_of_getElem? (i := 387) rfl)) rfl
theorem w388 : Cond.code yX2_isInterface cX2_isInterface 2 (some .boolean) ∈ TW := TW_in (tb_in (List.mem_of_getElem? (i := 388) rfl)) rfl
theorem w394 : Cond.methodLink RX8 84 yX2_putValue ∈ TW := TW_in (tb_in (List.mem_of_getElem? (i := 394) rfl)) rfl
theorem w395 : Cond.instanceMethod yX2_putValue ∈ TW := TW_in (tb_in (List.mem_of_getElem? (i := 395) rfl)) rfl
theorem w396 : Cond.selects RX2 yX2_putValue yX2_putValue ∈ TW := TW_in (tb_in (List.mem_of_getElem? (i := 396) rfl)) rfl
theorem w397 : Cond.code yX2_putValue cX2_putValue 4 none ∈ TW := TW_in (tb_in (List.mem_of_getElem? (i := 397) rfl)) rfl
theorem w398 : Cond.methodLink RX2 94 yX2_withBit ∈ TW := TW_in (tb_in (List.mem_of_getElem? (i := 398) rfl)) rfl
theorem w399 : Cond.static yX2_withBit ∈ TW := TW_in (tb_in (List.mem_of_getElem? (i := 399) rfl)) rfl
theorem w400 : Cond.code yX2_withBit cX2_withBit 3 (some .int) ∈ TW := TW_in (tb_in (List.mem_of_getElem? (i := 400) rfl)) rfl
theorem w407 : Cond.methodLink RX8 70 yX8_buildFirstMembers ∈ TW := TW_in (tb_in (List.mem_of_getElem? (i := 407) rfl)) rfl
theorem w408 : Cond.static yX8_buildFirstMembers ∈ TW := TW_in (tb_in (List.mem_of_getElem? (i := 408) rfl)) rfl
theorem w409 : Cond.code yX8_buildFirstMembers cX8_buildFirstMembers 2 none ∈ TW := TW_in (tb_in (List.mem_of_getElem? (i := 409) rfl)) rfl
theorem w410 : Cond.classLink RX8 27 RX5 ∈ TW := TW_in (tb_in (List.mem_of_getElem? (i := 410) rfl)) rfl
theorem w412 : Cond.methodLink RX8 88 yX4_append ∈ TW := TW_in (tb_in (List.mem_of_getElem? (i := 412) rfl)) rfl
theorem w413 : Cond.instanceMethod yX4_append ∈ TW := TW_in (tb_in (List.mem_of_getElem? (i := 413) rfl)) rfl
theorem w414 : Cond.selects RX4 yX4_append yX4_append ∈ TW := TW_in (tb_in (List.mem_of_getElem? (i := 414) rfl)) rfl
theorem w415 : Cond.code yX4_append cX4_append 8 none ∈ TW := TW_in (tb_in (List.mem_of_getElem? (i := 415) rfl)) rfl
theorem w416 : Cond.methodLink RX4 63 yX4_signatureOf ∈ TW := TW_in (tb_in (List.mem_of_getElem? (i := 416) rfl)) rfl
theorem w417 : Cond.static yX4_signatureOf ∈ TW := TW_in (tb_in (List.mem_of_getElem? (i := 417) rfl)) rfl
theorem w418 : Cond.code yX4_signatureOf cX4_signatureOf 3 (some .int) ∈ TW := TW_in (tb_in (List.mem_of_getElem? (i := 418) rfl)) rfl
theorem w419 : Cond.methodLink RX4 67 yX4_descriptorOf ∈ TW := TW_in (tb_in (List.mem_of_getElem? (i := 419) rfl)) rfl
theorem w420 : Cond.static yX4_descriptorOf ∈ TW := TW_in (tb_in (List.mem_of_getElem? (i := 420) rfl)) rfl
theorem w421 : Cond.code yX4_descriptorOf cX4_descriptorOf 2 (some .int) ∈ TW := TW_in (tb_in (List.mem_of_getElem? (i := 421) rfl)) rfl
theorem w423 : Cond.methodLink RX8 94 yX4_putValue ∈ TW := TW_in (tb_in (List.mem_of_getElem? (i := 423) rfl)) rfl
theorem w424 : Cond.instanceMethod yX4_putValue ∈ TW := TW_in (tb_in (List.mem_of_getElem? (i := 424) rfl)) rfl
theorem w425 : Cond.selects RX4 yX4_putValue yX4_putValue ∈ TW := TW_in (tb_in (List.mem_of_getElem? (i := 425) rfl)) rfl
theorem w426 : Cond.code yX4_putValue cX4_putValue 4 none ∈ TW := TW_in (tb_in (List.mem_of_getElem? (i := 426) rfl)) rfl
theorem w427 : Cond.methodLink RX4 85 yX4_isStaticFinal ∈ TW := TW_in (tb_in (List.mem_of_getElem? (i := 427) rfl)) rfl
theorem w428 : Cond.instanceMethod yX4_isStaticFinal ∈ TW := TW_in (tb_in (List.mem_of_getElem? (i := 428) rfl)) rfl
theorem w429 : Cond.selects RX4 yX4_isStaticFinal yX4_isStaticFinal ∈ TW := TW_in (tb_in (List.mem_of_getElem? (i := 429) rfl)) rfl
theorem w430 : Cond.code yX4_isStaticFinal cX4_isStaticFinal 2 (some .boolean) ∈ TW := TW_in (tb_in (List.mem_of_getElem? (i := 430) rfl)) rfl
theorem w432 : Cond.methodLink RX8 95 yX5_put ∈ TW := TW_in (tb_in (List.mem_of_getElem? (i := 432) rfl)) rfl
theorem w433 : Cond.instanceMethod yX5_put ∈ TW := TW_in (tb_in (List.mem_of_getElem? (i := 433) rfl)) rfl
theorem w434 : Cond.selects RX5 yX5_put yX5_put ∈ TW := TW_in (tb_in (List.mem_of_getElem? (i := 434) rfl)) rfl
theorem w435 : Cond.code yX5_put cX5_put 5 none ∈ TW := TW_in (tb_in (List.mem_of_getElem? (i := 435) rfl)) rfl
theorem w444 : Cond.methodLink RX8 74 yX2_copyFrom ∈ TW := TW_in (tb_in (List.mem_of_getElem? (i := 444) rfl)) rfl
theorem w445 : Cond.instanceMethod yX2_copyFrom ∈ TW := TW_in (tb_in (List.mem_of_getElem? (i := 445) rfl)) rfl
theorem w446 : Cond.selects RX2 yX2_copyFrom yX2_copyFrom ∈ TW := TW_in (tb_in (List.mem_of_getElem? (i := 446) rfl)) rfl
theorem w447 : Cond.code yX2_copyFrom cX2_copyFrom 2 none ∈ TW := TW_in (tb_in (List.mem_of_getElem? (i := 447) rfl)) rfl
theorem w448 : Cond.methodLink RX2 76 arraycopyName ∈ TW := TW_in (tb_in (List.mem_of_getElem? (i := 448) rfl)) rfl
theorem w449 : Cond.static arraycopyName ∈ TW := TW_in (tb_in (List.mem_of_getElem? (i := 449) rfl)) rfl
theorem w450 : Cond.native arraycopyName ∈ TW := TW_in (tb_in (List.mem_of_getElem? (i := 450) rfl)) rfl
theorem w455 : Cond.methodLink RX2 82 yX4_copyFrom ∈ TW := TW_in (tb_in (List.mem_of_getElem? (i := 455) rfl)) rfl
theorem w456 : Cond.instanceMethod yX4_copyFrom ∈ TW := TW_in (tb_in (List.mem_of_getElem? (i := 456) rfl)) rfl
theorem w457 : Cond.selects RX4 yX4_copyFrom yX4_copyFrom ∈ TW := TW_in (tb_in (List.mem_of_getElem? (i := 457) rfl)) rfl
theorem w458 : Cond.code yX4_copyFrom cX4_copyFrom 2 none ∈ TW := TW_in (tb_in (List.mem_of_getElem? (i := 458) rfl)) rfl
theorem w459 : Cond.methodLink RX4 75 arraycopyName ∈ TW := TW_in (tb_in (List.mem_of_getElem? (i := 459) rfl)) rfl
theorem w471 : Cond.methodLink RX8 77 yX8_buildFirstClients ∈ TW := TW_in (tb_in (List.mem_of_getElem? (i := 471) rfl)) rfl
theorem w473 : Cond.instanceMethod yX8_buildFirstClients ∈ TW := TW_in (tb_in (List.mem_of_getElem? (i := 473) rfl)) rfl
theorem w474 : Cond.code yX8_buildFirstClients cX8_buildFirstClients 1 none ∈ TW := TW_in (tb_in (List.mem_of_getElem? (i := 474) rfl)) rfl
theorem w475 : Cond.methodLink RX8 99 yX0_put ∈ TW := TW_in (tb_in (List.mem_of_getElem? (i := 475) rfl)) rfl
theorem w476 : Cond.instanceMethod yX0_put ∈ TW := TW_in (tb_in (List.mem_of_getElem? (i := 476) rfl)) rfl
theorem w477 : Cond.selects RX0 yX0_put yX0_put ∈ TW := TW_in (tb_in (List.mem_of_getElem? (i := 477) rfl)) rfl
theorem w478 : Cond.code yX0_put cX0_put 5 none ∈ TW := TW_in (tb_in (List.mem_of_getElem? (i := 478) rfl)) rfl
theorem w479 : Cond.methodLink RX0 43 yX7_clear ∈ TW := TW_in (tb_in (List.mem_of_getElem? (i := 479) rfl)) rfl
theorem w480 : Cond.instanceMethod yX7_clear ∈ TW := TW_in (tb_in (List.mem_of_getElem? (i := 480) rfl)) rfl
theorem w481 : Cond.selects RX7 yX7_clear yX7_clear ∈ TW := TW_in (tb_in (List.mem_of_getElem? (i := 481) rfl)) rfl
theorem w482 : Cond.code yX7_clear cX7_clear 1 none ∈ TW := TW_in (tb_in (List.mem_of_getElem? (i := 482) rfl)) rfl
theorem w483 : Cond.methodLink RX8 100 yX8_compileProbe ∈ TW := TW_in (tb_in (List.mem_of_getElem? (i := 483) rfl)) rfl
theorem w485 : Cond.instanceMethod yX8_compileProbe ∈ TW := TW_in (tb_in (List.mem_of_getElem? (i := 485) rfl)) rfl
theorem w486 : Cond.code yX8_compileProbe cX8_compileProbe 1 (some .boolean) ∈ TW := TW_in (tb_in (List.mem_of_getElem? (i := 486) rfl)) rfl
theorem w487 : Cond.methodLink RX8 380 yX1_errorOf ∈ TW := TW_in (tb_in (List.mem_of_getElem? (i := 487) rfl)) rfl
theorem w488 : Cond.instanceMethod yX1_errorOf ∈ TW := TW_in (tb_in (List.mem_of_getElem? (i := 488) rfl)) rfl
theorem w489 : Cond.selects RX1 yX1_errorOf yX1_errorOf ∈ TW := TW_in (tb_in (List.mem_of_getElem? (i := 489) rfl)) rfl
theorem w490 : Cond.code yX1_errorOf cX1_errorOf 2 (some .int) ∈ TW := TW_in (tb_in (List.mem_of_getElem? (i := 490) rfl)) rfl
theorem w491 : Cond.methodLink RX1 34 yX7_clear ∈ TW := TW_in (tb_in (List.mem_of_getElem? (i := 491) rfl)) rfl
theorem w492 : Cond.methodLink RX1 42 yX2_isThere ∈ TW := TW_in (tb_in (List.mem_of_getElem? (i := 492) rfl)) rfl
theorem w493 : Cond.methodLink RX1 51 yX2_isClassOpen ∈ TW := TW_in (tb_in (List.mem_of_getElem? (i := 493) rfl)) rfl
theorem w494 : Cond.instanceMethod yX2_isClassOpen ∈ TW := TW_in (tb_in (List.mem_of_getElem? (i := 494) rfl)) rfl
theorem w495 : Cond.selects RX2 yX2_isClassOpen yX2_isClassOpen ∈ TW := TW_in (tb_in (List.mem_of_getElem? (i := 495) rfl)) rfl
theorem w496 : Cond.code yX2_isClassOpen cX2_isClassOpen 3 (some .boolean) ∈ TW := TW_in (tb_in (List.mem_of_getElem? (i := 496) rfl)) rfl
theorem w497 : Cond.methodLink RX1 58 yX1_fieldError ∈ TW := TW_in (tb_in (List.mem_of_getElem? (i := 497) rfl)) rfl
theorem w499 : Cond.instanceMethod yX1_fieldError ∈ TW := TW_in (tb_in (List.mem_of_getElem? (i := 499) rfl)) rfl
theorem w500 : Cond.code yX1_fieldError cX1_fieldError 3 (some .int) ∈ TW := TW_in (tb_in (List.mem_of_getElem? (i := 500) rfl)) rfl
theorem w501 : Cond.methodLink RX1 78 yX2_fieldFor ∈ TW := TW_in (tb_in (List.mem_of_getElem? (i := 501) rfl)) rfl
theorem w502 : Cond.instanceMethod yX2_fieldFor ∈ TW := TW_in (tb_in (List.mem_of_getElem? (i := 502) rfl)) rfl
theorem w503 : Cond.selects RX2 yX2_fieldFor yX2_fieldFor ∈ TW := TW_in (tb_in (List.mem_of_getElem? (i := 503) rfl)) rfl
theorem w504 : Cond.code yX2_fieldFor cX2_fieldFor 5 (some .int) ∈ TW := TW_in (tb_in (List.mem_of_getElem? (i := 504) rfl)) rfl
theorem w506 : Cond.methodLink RX2 133 yX2_inheritedField ∈ TW := TW_in (tb_in (List.mem_of_getElem? (i := 506) rfl)) rfl
theorem w508 : Cond.instanceMethod yX2_inheritedField ∈ TW := TW_in (tb_in (List.mem_of_getElem? (i := 508) rfl)) rfl
theorem w509 : Cond.code yX2_inheritedField cX2_inheritedField 3 (some .int) ∈ TW := TW_in (tb_in (List.mem_of_getElem? (i := 509) rfl)) rfl
theorem w510 : Cond.methodLink RX1 82 yX2_isMemberOpen ∈ TW := TW_in (tb_in (List.mem_of_getElem? (i := 510) rfl)) rfl
theorem w511 : Cond.instanceMethod yX2_isMemberOpen ∈ TW := TW_in (tb_in (List.mem_of_getElem? (i := 511) rfl)) rfl
theorem w512 : Cond.selects RX2 yX2_isMemberOpen yX2_isMemberOpen ∈ TW := TW_in (tb_in (List.mem_of_getElem? (i := 512) rfl)) rfl
theorem w513 : Cond.code yX2_isMemberOpen cX2_isMemberOpen 5 (some .boolean) ∈ TW := TW_in (tb_in (List.mem_of_getElem? (i := 513) rfl)) rfl
theorem w514 : Cond.methodLink RX1 62 yX1_callError ∈ TW := TW_in (tb_in (List.mem_of_getElem? (i := 514) rfl)) rfl
theorem w516 : Cond.instanceMethod yX1_callError ∈ TW := TW_in (tb_in (List.mem_of_getElem? (i := 516) rfl)) rfl
theorem w517 : Cond.code yX1_callError cX1_callError 3 (some .int) ∈ TW := TW_in (tb_in (List.mem_of_getElem? (i := 517) rfl)) rfl
theorem w518 : Cond.methodLink RX1 111 yX1_gatherApplicable ∈ TW := TW_in (tb_in (List.mem_of_getElem? (i := 518) rfl)) rfl
theorem w520 : Cond.instanceMethod yX1_gatherApplicable ∈ TW := TW_in (tb_in (List.mem_of_getElem? (i := 520) rfl)) rfl
theorem w521 : Cond.code yX1_gatherApplicable cX1_gatherApplicable 5 none ∈ TW := TW_in (tb_in (List.mem_of_getElem? (i := 521) rfl)) rfl
theorem w522 : Cond.methodLink RX1 155 yX2_fitsType ∈ TW := TW_in (tb_in (List.mem_of_getElem? (i := 522) rfl)) rfl
theorem w523 : Cond.instanceMethod yX2_fitsType ∈ TW := TW_in (tb_in (List.mem_of_getElem? (i := 523) rfl)) rfl
theorem w524 : Cond.selects RX2 yX2_fitsType yX2_fitsType ∈ TW := TW_in (tb_in (List.mem_of_getElem? (i := 524) rfl)) rfl
theorem w525 : Cond.code yX2_fitsType cX2_fitsType 3 (some .boolean) ∈ TW := TW_in (tb_in (List.mem_of_getElem? (i := 525) rfl)) rfl
theorem w527 : Cond.methodLink RX1 159 yX1_isCandidate ∈ TW := TW_in (tb_in (List.mem_of_getElem? (i := 527) rfl)) rfl
theorem w529 : Cond.instanceMethod yX1_isCandidate ∈ TW := TW_in (tb_in (List.mem_of_getElem? (i := 529) rfl)) rfl
theorem w530 : Cond.code yX1_isCandidate cX1_isCandidate 5 (some .boolean) ∈ TW := TW_in (tb_in (List.mem_of_getElem? (i := 530) rfl)) rfl
theorem w532 : Cond.methodLink RX1 129 yX2_isInterface ∈ TW := TW_in (tb_in (List.mem_of_getElem? (i := 532) rfl)) rfl
theorem w533 : Cond.methodLink RX1 165 yX1_isHidden ∈ TW := TW_in (tb_in (List.mem_of_getElem? (i := 533) rfl)) rfl
theorem w535 : Cond.instanceMethod yX1_isHidden ∈ TW := TW_in (tb_in (List.mem_of_getElem? (i := 535) rfl)) rfl
theorem w536 : Cond.code yX1_isHidden cX1_isHidden 7 (some .boolean) ∈ TW := TW_in (tb_in (List.mem_of_getElem? (i := 536) rfl)) rfl
theorem w537 : Cond.methodLink RX1 115 yX1_bestApplicable ∈ TW := TW_in (tb_in (List.mem_of_getElem? (i := 537) rfl)) rfl
theorem w539 : Cond.instanceMethod yX1_bestApplicable ∈ TW := TW_in (tb_in (List.mem_of_getElem? (i := 539) rfl)) rfl
theorem w540 : Cond.code yX1_bestApplicable cX1_bestApplicable 6 (some .int) ∈ TW := TW_in (tb_in (List.mem_of_getElem? (i := 540) rfl)) rfl
theorem w541 : Cond.methodLink RX1 171 yX1_isBest ∈ TW := TW_in (tb_in (List.mem_of_getElem? (i := 541) rfl)) rfl
theorem w543 : Cond.instanceMethod yX1_isBest ∈ TW := TW_in (tb_in (List.mem_of_getElem? (i := 543) rfl)) rfl
theorem w544 : Cond.code yX1_isBest cX1_isBest 5 (some .boolean) ∈ TW := TW_in (tb_in (List.mem_of_getElem? (i := 544) rfl)) rfl
theorem w547 : Cond.methodLink RX1 174 yX4_isAbstract ∈ TW := TW_in (tb_in (List.mem_of_getElem? (i := 547) rfl)) rfl
theorem w548 : Cond.instanceMethod yX4_isAbstract ∈ TW := TW_in (tb_in (List.mem_of_getElem? (i := 548) rfl)) rfl
theorem w549 : Cond.selects RX4 yX4_isAbstract yX4_isAbstract ∈ TW := TW_in (tb_in (List.mem_of_getElem? (i := 549) rfl)) rfl
theorem w550 : Cond.code yX4_isAbstract cX4_isAbstract 2 (some .boolean) ∈ TW := TW_in (tb_in (List.mem_of_getElem? (i := 550) rfl)) rfl
theorem w552 : Cond.methodLink RX1 65 yX2_isAbstract ∈ TW := TW_in (tb_in (List.mem_of_getElem? (i := 552) rfl)) rfl
theorem w553 : Cond.instanceMethod yX2_isAbstract ∈ TW := TW_in (tb_in (List.mem_of_getElem? (i := 553) rfl)) rfl
theorem w554 : Cond.selects RX2 yX2_isAbstract yX2_isAbstract ∈ TW := TW_in (tb_in (List.mem_of_getElem? (i := 554) rfl)) rfl
theorem w555 : Cond.code yX2_isAbstract cX2_isAbstract 2 (some .boolean) ∈ TW := TW_in (tb_in (List.mem_of_getElem? (i := 555) rfl)) rfl
theorem w556 : Cond.methodLink RX1 68 yX1_extendingError ∈ TW := TW_in (tb_in (List.mem_of_getElem? (i := 556) rfl)) rfl
theorem w558 : Cond.instanceMethod yX1_extendingError ∈ TW := TW_in (tb_in (List.mem_of_getElem? (i := 558) rfl)) rfl
theorem w559 : Cond.code yX1_extendingError cX1_extendingError 2 (some .int) ∈ TW := TW_in (tb_in (List.mem_of_getElem? (i := 559) rfl)) rfl
theorem w561 : Cond.methodLink RX1 175 yX2_isFinal ∈ TW := TW_in (tb_in (List.mem_of_getElem? (i := 561) rfl)) rfl
theorem w562 : Cond.instanceMethod yX2_isFinal ∈ TW := TW_in (tb_in (List.mem_of_getElem? (i := 562) rfl)) rfl
theorem w563 : Cond.selects RX2 yX2_isFinal yX2_isFinal ∈ TW := TW_in (tb_in (List.mem_of_getElem? (i := 563) rfl)) rfl
theorem w564 : Cond.code yX2_isFinal cX2_isFinal 2 (some .boolean) ∈ TW := TW_in (tb_in (List.mem_of_getElem? (i := 564) rfl)) rfl
theorem w565 : Cond.methodLink RX1 181 yX2_isIncomplete ∈ TW := TW_in (tb_in (List.mem_of_getElem? (i := 565) rfl)) rfl
theorem w566 : Cond.instanceMethod yX2_isIncomplete ∈ TW := TW_in (tb_in (List.mem_of_getElem? (i := 566) rfl)) rfl
theorem w567 : Cond.selects RX2 yX2_isIncomplete yX2_isIncomplete ∈ TW := TW_in (tb_in (List.mem_of_getElem? (i := 567) rfl)) rfl
theorem w568 : Cond.code yX2_isIncomplete cX2_isIncomplete 5 (some .boolean) ∈ TW := TW_in (tb_in (List.mem_of_getElem? (i := 568) rfl)) rfl
theorem w569 : Cond.methodLink RX2 143 yX4_isAbstract ∈ TW := TW_in (tb_in (List.mem_of_getElem? (i := 569) rfl)) rfl
theorem w570 : Cond.methodLink RX2 144 yX2_selectedAlong ∈ TW := TW_in (tb_in (List.mem_of_getElem? (i := 570) rfl)) rfl
theorem w571 : Cond.instanceMethod yX2_selectedAlong ∈ TW := TW_in (tb_in (List.mem_of_getElem? (i := 571) rfl)) rfl
theorem w572 : Cond.selects RX2 yX2_selectedAlong yX2_selectedAlong ∈ TW := TW_in (tb_in (List.mem_of_getElem? (i := 572) rfl)) rfl
theorem w573 : Cond.code yX2_selectedAlong cX2_selectedAlong 8 (some .int) ∈ TW := TW_in (tb_in (List.mem_of_getElem? (i := 573) rfl)) rfl
theorem w574 : Cond.methodLink RX2 139 yX2_interfaceMethod ∈ TW := TW_in (tb_in (List.mem_of_getElem? (i := 574) rfl)) rfl
theorem w576 : Cond.instanceMethod yX2_interfaceMethod ∈ TW := TW_in (tb_in (List.mem_of_getElem? (i := 576) rfl)) rfl
theorem w577 : Cond.code yX2_interfaceMethod cX2_interfaceMethod 13 (some .int) ∈ TW := TW_in (tb_in (List.mem_of_getElem? (i := 577) rfl)) rfl
theorem w579 : Cond.methodLink RX1 72 yX1_implementingError ∈ TW := TW_in (tb_in (List.mem_of_getElem? (i := 579) rfl)) rfl
theorem w581 : Cond.instanceMethod yX1_implementingError ∈ TW := TW_in (tb_in (List.mem_of_getElem? (i := 581) rfl)) rfl
theorem w582 : Cond.code yX1_implementingError cX1_implementingError 3 (some .int) ∈ TW := TW_in (tb_in (List.mem_of_getElem? (i := 582) rfl)) rfl
theorem w584 : Cond.methodLink RX1 187 yX1_canBeBase ∈ TW := TW_in (tb_in (List.mem_of_getElem? (i := 584) rfl)) rfl
theorem w585 : Cond.instanceMethod yX1_canBeBase ∈ TW := TW_in (tb_in (List.mem_of_getElem? (i := 585) rfl)) rfl
theorem w586 : Cond.selects RX1 yX1_canBeBase yX1_canBeBase ∈ TW := TW_in (tb_in (List.mem_of_getElem? (i := 586) rfl)) rfl
theorem w587 : Cond.code yX1_canBeBase cX1_canBeBase 3 (some .boolean) ∈ TW := TW_in (tb_in (List.mem_of_getElem? (i := 587) rfl)) rfl
theorem w593 : Cond.methodLink RX8 430 yX7_copyFrom ∈ TW := TW_in (tb_in (List.mem_of_getElem? (i := 593) rfl)) rfl
theorem w594 : Cond.instanceMethod yX7_copyFrom ∈ TW := TW_in (tb_in (List.mem_of_getElem? (i := 594) rfl)) rfl
theorem w595 : Cond.selects RX7 yX7_copyFrom yX7_copyFrom ∈ TW := TW_in (tb_in (List.mem_of_getElem? (i := 595) rfl)) rfl
theorem w596 : Cond.code yX7_copyFrom cX7_copyFrom 2 none ∈ TW := TW_in (tb_in (List.mem_of_getElem? (i := 596) rfl)) rfl
theorem w597 : Cond.methodLink RX8 104 yX6_append ∈ TW := TW_in (tb_in (List.mem_of_getElem? (i := 597) rfl)) rfl
theorem w598 : Cond.instanceMethod yX6_append ∈ TW := TW_in (tb_in (List.mem_of_getElem? (i := 598) rfl)) rfl
theorem w599 : Cond.selects RX6 yX6_append yX6_append ∈ TW := TW_in (tb_in (List.mem_of_getElem? (i := 599) rfl)) rfl
theorem w600 : Cond.code yX6_append cX6_append 2 none ∈ TW := TW_in (tb_in (List.mem_of_getElem? (i := 600) rfl)) rfl
theorem w601 : Cond.methodLink RX6 33 yX0_copyFrom ∈ TW := TW_in (tb_in (List.mem_of_getElem? (i := 601) rfl)) rfl
theorem w602 : Cond.instanceMethod yX0_copyFrom ∈ TW := TW_in (tb_in (List.mem_of_getElem? (i := 602) rfl)) rfl
theorem w603 : Cond.selects RX0 yX0_copyFrom yX0_copyFrom ∈ TW := TW_in (tb_in (List.mem_of_getElem? (i := 603) rfl)) rfl
theorem w604 : Cond.code yX0_copyFrom cX0_copyFrom 2 none ∈ TW := TW_in (tb_in (List.mem_of_getElem? (i := 604) rfl)) rfl
theorem w605 : Cond.methodLink RX0 57 yX7_copyFrom ∈ TW := TW_in (tb_in (List.mem_of_getElem? (i := 605) rfl)) rfl
theorem w612 : Cond.fieldLink RX8 10 "CompatibilityJudge" "now" "LCompatibilityJudge$State;" ∈ TW := TW_in (tb_in (List.mem_of_getElem? (i := 612) rfl)) rfl
theorem w613 : Cond.fieldLink RX8 16 "CompatibilityJudge" "saved" "[LCompatibilityJudge$State;" ∈ TW := TW_in (tb_in (List.mem_of_getElem? (i := 613) rfl)) rfl
theorem w614 : Cond.fieldLink RX8 20 "CompatibilityJudge" "oldestSaved" "I" ∈ TW := TW_in (tb_in (List.mem_of_getElem? (i := 614) rfl)) rfl
theorem w615 : Cond.fieldLink RX8 24 "CompatibilityJudge" "savedCount" "I" ∈ TW := TW_in (tb_in (List.mem_of_getElem? (i := 615) rfl)) rfl
theorem w616 : Cond.fieldLink RX8 30 "CompatibilityJudge" "draftShape" "LCompatibilityJudge$Shape;" ∈ TW := TW_in (tb_in (List.mem_of_getElem? (i := 616) rfl)) rfl
theorem w617 : Cond.fieldLink RX8 37 "CompatibilityJudge" "probe" "LCompatibilityJudge$Client;" ∈ TW := TW_in (tb_in (List.mem_of_getElem? (i := 617) rfl)) rfl
theorem w618 : Cond.fieldLink RX8 43 "CompatibilityJudge" "compilers" "[LCompatibilityJudge$Compiler;" ∈ TW := TW_in (tb_in (List.mem_of_getElem? (i := 618) rfl)) rfl
theorem w619 : Cond.fieldLink RX8 49 "CompatibilityJudge" "linkers" "[LCompatibilityJudge$Linker;" ∈ TW := TW_in (tb_in (List.mem_of_getElem? (i := 619) rfl)) rfl
theorem w638 : Cond.instanceMethod yX8_copyVersion ∈ TW := TW_in (tb_in (List.mem_of_getElem? (i := 638) rfl)) rfl
theorem w639 : Cond.selects RX8 yX8_copyVersion yX8_copyVersion ∈ TW := TW_in (tb_in (List.mem_of_getElem? (i := 639) rfl)) rfl
theorem w640 : Cond.code yX8_copyVersion cX8_copyVersion 1 (some .int) ∈ TW := TW_in (tb_in (List.mem_of_getElem? (i := 640) rfl)) rfl
theorem w641 : Cond.methodLink RX8 141 yX8_saveState ∈ TW := TW_in (tb_in (List.mem_of_getElem? (i := 641) rfl)) rfl
theorem w643 : Cond.instanceMethod yX8_saveState ∈ TW := TW_in (tb_in (List.mem_of_getElem? (i := 643) rfl)) rfl
theorem w644 : Cond.code yX8_saveState cX8_saveState 2 none ∈ TW := TW_in (tb_in (List.mem_of_getElem? (i := 644) rfl)) rfl
theorem w645 : Cond.methodLink RX8 444 yX6_copyFrom ∈ TW := TW_in (tb_in (List.mem_of_getElem? (i := 645) rfl)) rfl
theorem w646 : Cond.instanceMethod yX6_copyFrom ∈ TW := TW_in (tb_in (List.mem_of_getElem? (i := 646) rfl)) rfl
theorem w647 : Cond.selects RX6 yX6_copyFrom yX6_copyFrom ∈ TW := TW_in (tb_in (List.mem_of_getElem? (i := 647) rfl)) rfl
theorem w648 : Cond.code yX6_copyFrom cX6_copyFrom 3 none ∈ TW := TW_in (tb_in (List.mem_of_getElem? (i := 648) rfl)) rfl
theorem w649 : Cond.methodLink RX6 29 yX2_copyFrom ∈ TW := TW_in (tb_in (List.mem_of_getElem? (i := 649) rfl)) rfl
theorem w653 : Cond.instanceMethod yX8_clients ∈ TW := TW_in (tb_in (List.mem_of_getElem? (i := 653) rfl)) rfl
theorem w654 : Cond.selects RX8 yX8_clients yX8_clients ∈ TW := TW_in (tb_in (List.mem_of_getElem? (i := 654) rfl)) rfl
theorem w655 : Cond.code yX8_clients cX8_clients 1 (some .int) ∈ TW := TW_in (tb_in (List.mem_of_getElem? (i := 655) rfl)) rfl
theorem w657 : Cond.instanceMethod yX8_checksum ∈ TW := TW_in (tb_in (List.mem_of_getElem? (i := 657) rfl)) rfl
theorem w658 : Cond.selects RX8 yX8_checksum yX8_checksum ∈ TW := TW_in (tb_in (List.mem_of_getElem? (i := 658) rfl)) rfl
theorem w659 : Cond.code yX8_checksum cX8_checksum 4 (some .long) ∈ TW := TW_in (tb_in (List.mem_of_getElem? (i := 659) rfl)) rfl
theorem w660 : Cond.constantLong RX8 447 (17317 : Int64) ∈ TW := TW_in (tb_in (List.mem_of_getElem? (i := 660) rfl)) rfl
theorem w661 : Cond.methodLink RX8 449 yX8_withClasses ∈ TW := TW_in (tb_in (List.mem_of_getElem? (i := 661) rfl)) rfl
theorem w662 : Cond.static yX8_withClasses ∈ TW := TW_in (tb_in (List.mem_of_getElem? (i := 662) rfl)) rfl
theorem w663 : Cond.code yX8_withClasses cX8_withClasses 7 (some .long) ∈ TW := TW_in (tb_in (List.mem_of_getElem? (i := 663) rfl)) rfl
theorem w664 : Cond.methodLink RX8 132 yX2_isThere ∈ TW := TW_in (tb_in (List.mem_of_getElem? (i := 664) rfl)) rfl
theorem w665 : Cond.methodLink RX8 194 yX2_valueOf ∈ TW := TW_in (tb_in (List.mem_of_getElem? (i := 665) rfl)) rfl
theorem w666 : Cond.instanceMethod yX2_valueOf ∈ TW := TW_in (tb_in (List.mem_of_getElem? (i := 666) rfl)) rfl
theorem w667 : Cond.selects RX2 yX2_valueOf yX2_valueOf ∈ TW := TW_in (tb_in (List.mem_of_getElem? (i := 667) rfl)) rfl
theorem w668 : Cond.code yX2_valueOf cX2_valueOf 3 (some .int) ∈ TW := TW_in (tb_in (List.mem_of_getElem? (i := 668) rfl)) rfl
theorem w669 : Cond.methodLink RX2 86 yX4_countOf ∈ TW := TW_in (tb_in (List.mem_of_getElem? (i := 669) rfl)) rfl
theorem w670 : Cond.instanceMethod yX4_countOf ∈ TW := TW_in (tb_in (List.mem_of_getElem? (i := 670) rfl)) rfl
theorem w671 : Cond.selects RX4 yX4_countOf yX4_countOf ∈ TW := TW_in (tb_in (List.mem_of_getElem? (i := 671) rfl)) rfl
theorem w672 : Cond.code yX4_countOf cX4_countOf 4 (some .int) ∈ TW := TW_in (tb_in (List.mem_of_getElem? (i := 672) rfl)) rfl
theorem w673 : Cond.methodLink RX2 90 yX2_isIncomplete ∈ TW := TW_in (tb_in (List.mem_of_getElem? (i := 673) rfl)) rfl
theorem w674 : Cond.methodLink RX8 457 yX8_withNumber ∈ TW := TW_in (tb_in (List.mem_of_getElem? (i := 674) rfl)) rfl
theorem w675 : Cond.static yX8_withNumber ∈ TW := TW_in (tb_in (List.mem_of_getElem? (i := 675) rfl)) rfl
theorem w676 : Cond.code yX8_withNumber cX8_withNumber 3 (some .long) ∈ TW := TW_in (tb_in (List.mem_of_getElem? (i := 676) rfl)) rfl
theorem w677 : Cond.constantLong RX8 465 (31 : Int64) ∈ TW := TW_in (tb_in (List.mem_of_getElem? (i := 677) rfl)) rfl
theorem w679 : Cond.methodLink RX8 453 yX8_withMembers ∈ TW := TW_in (tb_in (List.mem_of_getElem? (i := 679) rfl)) rfl
theorem w680 : Cond.static yX8_withMembers ∈ TW := TW_in (tb_in (List.mem_of_getElem? (i := 680) rfl)) rfl
theorem w681 : Cond.code yX8_withMembers cX8_withMembers 7 (some .long) ∈ TW := TW_in (tb_in (List.mem_of_getElem? (i := 681) rfl)) rfl
theorem w683 : Cond.methodLink RX8 265 yX4_valueOf ∈ TW := TW_in (tb_in (List.mem_of_getElem? (i := 683) rfl)) rfl
theorem w684 : Cond.instanceMethod yX4_valueOf ∈ TW := TW_in (tb_in (List.mem_of_getElem? (i := 684) rfl)) rfl
theorem w685 : Cond.selects RX4 yX4_valueOf yX4_valueOf ∈ TW := TW_in (tb_in (List.mem_of_getElem? (i := 685) rfl)) rfl
theorem w686 : Cond.code yX4_valueOf cX4_valueOf 3 (some .int) ∈ TW := TW_in (tb_in (List.mem_of_getElem? (i := 686) rfl)) rfl
theorem w689 : Cond.methodLink RX8 461 yX8_withClient ∈ TW := TW_in (tb_in (List.mem_of_getElem? (i := 689) rfl)) rfl
theorem w691 : Cond.instanceMethod yX8_withClient ∈ TW := TW_in (tb_in (List.mem_of_getElem? (i := 691) rfl)) rfl
theorem w692 : Cond.code yX8_withClient cX8_withClient 7 (some .long) ∈ TW := TW_in (tb_in (List.mem_of_getElem? (i := 692) rfl)) rfl
theorem w693 : Cond.methodLink RX8 375 yX0_valueOf ∈ TW := TW_in (tb_in (List.mem_of_getElem? (i := 693) rfl)) rfl
theorem w694 : Cond.instanceMethod yX0_valueOf ∈ TW := TW_in (tb_in (List.mem_of_getElem? (i := 694) rfl)) rfl
theorem w695 : Cond.selects RX0 yX0_valueOf yX0_valueOf ∈ TW := TW_in (tb_in (List.mem_of_getElem? (i := 695) rfl)) rfl
theorem w696 : Cond.code yX0_valueOf cX0_valueOf 2 (some .int) ∈ TW := TW_in (tb_in (List.mem_of_getElem? (i := 696) rfl)) rfl
theorem w702 : Cond.methodLink RX8 384 yX3_errorOf ∈ TW := TW_in (tb_in (List.mem_of_getElem? (i := 702) rfl)) rfl
theorem w703 : Cond.instanceMethod yX3_errorOf ∈ TW := TW_in (tb_in (List.mem_of_getElem? (i := 703) rfl)) rfl
theorem w704 : Cond.selects RX3 yX3_errorOf yX3_errorOf ∈ TW := TW_in (tb_in (List.mem_of_getElem? (i := 704) rfl)) rfl
theorem w705 : Cond.code yX3_errorOf cX3_errorOf 2 (some .int) ∈ TW := TW_in (tb_in (List.mem_of_getElem? (i := 705) rfl)) rfl
theorem w706 : Cond.methodLink RX3 34 yX2_isThere ∈ TW := TW_in (tb_in (List.mem_of_getElem? (i := 706) rfl)) rfl
theorem w707 : Cond.methodLink RX3 43 yX2_isClassOpen ∈ TW := TW_in (tb_in (List.mem_of_getElem? (i := 707) rfl)) rfl
theorem w708 : Cond.methodLink RX3 50 yX3_fieldError ∈ TW := TW_in (tb_in (List.mem_of_getElem? (i := 708) rfl)) rfl
theorem w710 : Cond.instanceMethod yX3_fieldError ∈ TW := TW_in (tb_in (List.mem_of_getElem? (i := 710) rfl)) rfl
theorem w711 : Cond.code yX3_fieldError cX3_fieldError 4 (some .int) ∈ TW := TW_in (tb_in (List.mem_of_getElem? (i := 711) rfl)) rfl
theorem w712 : Cond.methodLink RX3 73 yX2_fieldFor ∈ TW := TW_in (tb_in (List.mem_of_getElem? (i := 712) rfl)) rfl
theorem w713 : Cond.methodLink RX3 77 yX2_isMemberOpen ∈ TW := TW_in (tb_in (List.mem_of_getElem? (i := 713) rfl)) rfl
theorem w714 : Cond.methodLink RX3 54 yX3_callError ∈ TW := TW_in (tb_in (List.mem_of_getElem? (i := 714) rfl)) rfl
theorem w716 : Cond.instanceMethod yX3_callError ∈ TW := TW_in (tb_in (List.mem_of_getElem? (i := 716) rfl)) rfl
theorem w717 : Cond.code yX3_callError cX3_callError 7 (some .int) ∈ TW := TW_in (tb_in (List.mem_of_getElem? (i := 717) rfl)) rfl
theorem w718 : Cond.methodLink RX3 97 yX2_isInterface ∈ TW := TW_in (tb_in (List.mem_of_getElem? (i := 718) rfl)) rfl
theorem w719 : Cond.methodLink RX3 109 yX4_signatureOf ∈ TW := TW_in (tb_in (List.mem_of_getElem? (i := 719) rfl)) rfl
theorem w720 : Cond.methodLink RX3 112 yX4_descriptorOf ∈ TW := TW_in (tb_in (List.mem_of_getElem? (i := 720) rfl)) rfl
theorem w721 : Cond.methodLink RX3 116 yX2_methodFor ∈ TW := TW_in (tb_in (List.mem_of_getElem? (i := 721) rfl)) rfl
theorem w722 : Cond.instanceMethod yX2_methodFor ∈ TW := TW_in (tb_in (List.mem_of_getElem? (i := 722) rfl)) rfl
theorem w723 : Cond.selects RX2 yX2_methodFor yX2_methodFor ∈ TW := TW_in (tb_in (List.mem_of_getElem? (i := 723) rfl)) rfl
theorem w724 : Cond.code yX2_methodFor cX2_methodFor 8 (some .int) ∈ TW := TW_in (tb_in (List.mem_of_getElem? (i := 724) rfl)) rfl
theorem w727 : Cond.methodLink RX3 119 yX3_runs ∈ TW := TW_in (tb_in (List.mem_of_getElem? (i := 727) rfl)) rfl
theorem w729 : Cond.instanceMethod yX3_runs ∈ TW := TW_in (tb_in (List.mem_of_getElem? (i := 729) rfl)) rfl
theorem w730 : Cond.code yX3_runs cX3_runs 4 (some .boolean) ∈ TW := TW_in (tb_in (List.mem_of_getElem? (i := 730) rfl)) rfl
theorem w732 : Cond.methodLink RX3 57 yX2_isAbstract ∈ TW := TW_in (tb_in (List.mem_of_getElem? (i := 732) rfl)) rfl
theorem w733 : Cond.methodLink RX3 128 yX2_selectedAlong ∈ TW := TW_in (tb_in (List.mem_of_getElem? (i := 733) rfl)) rfl
theorem w734 : Cond.methodLink RX3 131 yX4_isAbstract ∈ TW := TW_in (tb_in (List.mem_of_getElem? (i := 734) rfl)) rfl
theorem w736 : Cond.methodLink RX3 60 yX3_extendingError ∈ TW := TW_in (tb_in (List.mem_of_getElem? (i := 736) rfl)) rfl
theorem w738 : Cond.instanceMethod yX3_extendingError ∈ TW := TW_in (tb_in (List.mem_of_getElem? (i := 738) rfl)) rfl
theorem w739 : Cond.code yX3_extendingError cX3_extendingError 2 (some .int) ∈ TW := TW_in (tb_in (List.mem_of_getElem? (i := 739) rfl)) rfl
theorem w741 : Cond.methodLink RX3 132 yX2_isFinal ∈ TW := TW_in (tb_in (List.mem_of_getElem? (i := 741) rfl)) rfl
theorem w742 : Cond.methodLink RX3 135 yX2_isIncomplete ∈ TW := TW_in (tb_in (List.mem_of_getElem? (i := 742) rfl)) rfl
theorem w743 : Cond.methodLink RX3 64 yX3_implementingError ∈ TW := TW_in (tb_in (List.mem_of_getElem? (i := 743) rfl)) rfl
theorem w745 : Cond.instanceMethod yX3_implementingError ∈ TW := TW_in (tb_in (List.mem_of_getElem? (i := 745) rfl)) rfl
theorem w746 : Cond.code yX3_implementingError cX3_implementingError 3 (some .int) ∈ TW := TW_in (tb_in (List.mem_of_getElem? (i := 746) rfl)) rfl
theorem w756 : Cond.methodLink RX8 385 yX8_targetOf ∈ TW := TW_in (tb_in (List.mem_of_getElem? (i := 756) rfl)) rfl
theorem w758 : Cond.instanceMethod yX8_targetOf ∈ TW := TW_in (tb_in (List.mem_of_getElem? (i := 758) rfl)) rfl
theorem w759 : Cond.code yX8_targetOf cX8_targetOf 3 (some .int) ∈ TW := TW_in (tb_in (List.mem_of_getElem? (i := 759) rfl)) rfl
theorem w764 : Cond.methodLink RX8 389 yX8_verdictOf ∈ TW := TW_in (tb_in (List.mem_of_getElem? (i := 764) rfl)) rfl
theorem w766 : Cond.instanceMethod yX8_verdictOf ∈ TW := TW_in (tb_in (List.mem_of_getElem? (i := 766) rfl)) rfl
theorem w767 : Cond.code yX8_verdictOf cX8_verdictOf 3 (some .int) ∈ TW := TW_in (tb_in (List.mem_of_getElem? (i := 767) rfl)) rfl
theorem w770 : Cond.methodLink RX8 438 yX7_isSameAs ∈ TW := TW_in (tb_in (List.mem_of_getElem? (i := 770) rfl)) rfl
theorem w771 : Cond.instanceMethod yX7_isSameAs ∈ TW := TW_in (tb_in (List.mem_of_getElem? (i := 771) rfl)) rfl
theorem w772 : Cond.selects RX7 yX7_isSameAs yX7_isSameAs ∈ TW := TW_in (tb_in (List.mem_of_getElem? (i := 772) rfl)) rfl
theorem w773 : Cond.code yX7_isSameAs cX7_isSameAs 2 (some .boolean) ∈ TW := TW_in (tb_in (List.mem_of_getElem? (i := 773) rfl)) rfl
theorem w782 : Cond.classLink RL 13 "java/lang/IndexOutOfBoundsException" ∈ TW := TW_in (tb_in (List.mem_of_getElem? (i := 782) rfl)) rfl
theorem w783 : Cond.classLink RL 15 "java/lang/IllegalArgumentException" ∈ TW := TW_in (tb_in (List.mem_of_getElem? (i := 783) rfl)) rfl
theorem w784 : Cond.classLink RL 17 "java/lang/IllegalStateException" ∈ TW := TW_in (tb_in (List.mem_of_getElem? (i := 784) rfl)) rfl
theorem w785 : Cond.methodLink RL 7 yX8_define ∈ TW := TW_in (tb_in (List.mem_of_getElem? (i := 785) rfl)) rfl
theorem w786 : Cond.instanceMethod yX8_define ∈ TW := TW_in (tb_in (List.mem_of_getElem? (i := 786) rfl)) rfl
theorem w787 : Cond.selects RX8 yX8_define yX8_define ∈ TW := TW_in (tb_in (List.mem_of_getElem? (i := 787) rfl)) rfl
theorem w788 : Cond.code yX8_define cX8_define 7 (some .int) ∈ TW := TW_in (tb_in (List.mem_of_getElem? (i := 788) rfl)) rfl
theorem w789 : Cond.methodLink RX8 107 yX8_libraryOf ∈ TW := TW_in (tb_in (List.mem_of_getElem? (i := 789) rfl)) rfl
theorem w791 : Cond.instanceMethod yX8_libraryOf ∈ TW := TW_in (tb_in (List.mem_of_getElem? (i := 791) rfl)) rfl
theorem w792 : Cond.code yX8_libraryOf cX8_libraryOf 2 (some (.object "CompatibilityJudge$Library")) ∈ TW := TW_in (tb_in (List.mem_of_getElem? (i := 792) rfl)) rfl
theorem w793 : Cond.methodLink RX8 377 yX8_requireVersion ∈ TW := TW_in (tb_in (List.mem_of_getElem? (i := 793) rfl)) rfl
theorem w794 : Cond.static yX8_requireVersion ∈ TW := TW_in (tb_in (List.mem_of_getElem? (i := 794) rfl)) rfl
theorem w795 : Cond.code yX8_requireVersion cX8_requireVersion 1 none ∈ TW := TW_in (tb_in (List.mem_of_getElem? (i := 795) rfl)) rfl
theorem w869 : Cond.methodLink RX8 118 yX2_canHaveSuperclass ∈ TW := TW_in (tb_in (List.mem_of_getElem? (i := 869) rfl)) rfl
theorem w870 : Cond.instanceMethod yX2_canHaveSuperclass ∈ TW := TW_in (tb_in (List.mem_of_getElem? (i := 870) rfl)) rfl
theorem w871 : Cond.selects RX2 yX2_canHaveSuperclass yX2_canHaveSuperclass ∈ TW := TW_in (tb_in (List.mem_of_getElem? (i := 871) rfl)) rfl
theorem w872 : Cond.code yX2_canHaveSuperclass cX2_canHaveSuperclass 3 (some .boolean) ∈ TW := TW_in (tb_in (List.mem_of_getElem? (i := 872) rfl)) rfl
theorem w875 : Cond.methodLink RX2 63 yX2_isFinal ∈ TW := TW_in (tb_in (List.mem_of_getElem? (i := 875) rfl)) rfl
theorem w892 : Cond.methodLink RX8 127 yX2_canHaveInterfaces ∈ TW := TW_in (tb_in (List.mem_of_getElem? (i := 892) rfl)) rfl
theorem w893 : Cond.instanceMethod yX2_canHaveInterfaces ∈ TW := TW_in (tb_in (List.mem_of_getElem? (i := 893) rfl)) rfl
theorem w894 : Cond.selects RX2 yX2_canHaveInterfaces yX2_canHaveInterfaces ∈ TW := TW_in (tb_in (List.mem_of_getElem? (i := 894) rfl)) rfl
theorem w895 : Cond.code yX2_canHaveInterfaces cX2_canHaveInterfaces 4 (some .boolean) ∈ TW := TW_in (tb_in (List.mem_of_getElem? (i := 895) rfl)) rfl
theorem w918 : Cond.methodLink RX8 147 yJ6_bitCount_0f7a4 ∈ TW := TW_in (tb_in (List.mem_of_getElem? (i := 918) rfl)) rfl
theorem w919 : Cond.static yJ6_bitCount_0f7a4 ∈ TW := TW_in (tb_in (List.mem_of_getElem? (i := 919) rfl)) rfl
theorem w920 : Cond.code yJ6_bitCount_0f7a4 cJ6_bitCount_0f7a4 1 (some .int) ∈ TW := TW_in (tb_in (List.mem_of_getElem? (i := 920) rfl)) rfl
theorem w921 : Cond.constant RJ6 265 (1431655765 : Int32) ∈ TW := TW_in (tb_in (List.mem_of_getElem? (i := 921) rfl)) rfl
theorem w922 : Cond.constant RJ6 266 (858993459 : Int32) ∈ TW := TW_in (tb_in (List.mem_of_getElem? (i := 922) rfl)) rfl
theorem w923 : Cond.constant RJ6 267 (252645135 : Int32) ∈ TW := TW_in (tb_in (List.mem_of_getElem? (i := 923) rfl)) rfl
theorem w927 : Cond.methodLink RL 19 yX8_removeClass ∈ TW := TW_in (tb_in (List.mem_of_getElem? (i := 927) rfl)) rfl
theorem w928 : Cond.instanceMethod yX8_removeClass ∈ TW := TW_in (tb_in (List.mem_of_getElem? (i := 928) rfl)) rfl
theorem w929 : Cond.selects RX8 yX8_removeClass yX8_removeClass ∈ TW := TW_in (tb_in (List.mem_of_getElem? (i := 929) rfl)) rfl
theorem w930 : Cond.code yX8_removeClass cX8_removeClass 4 (some .int) ∈ TW := TW_in (tb_in (List.mem_of_getElem? (i := 930) rfl)) rfl
theorem w931 : Cond.methodLink RX8 153 yX8_libraryWith ∈ TW := TW_in (tb_in (List.mem_of_getElem? (i := 931) rfl)) rfl
theorem w933 : Cond.instanceMethod yX8_libraryWith ∈ TW := TW_in (tb_in (List.mem_of_getElem? (i := 933) rfl)) rfl
theorem w934 : Cond.code yX8_libraryWith cX8_libraryWith 4 (some (.object "CompatibilityJudge$Library")) ∈ TW := TW_in (tb_in (List.mem_of_getElem? (i := 934) rfl)) rfl
theorem w943 : Cond.methodLink RX8 159 yX2_isSuperclass ∈ TW := TW_in (tb_in (List.mem_of_getElem? (i := 943) rfl)) rfl
theorem w944 : Cond.instanceMethod yX2_isSuperclass ∈ TW := TW_in (tb_in (List.mem_of_getElem? (i := 944) rfl)) rfl
theorem w945 : Cond.selects RX2 yX2_isSuperclass yX2_isSuperclass ∈ TW := TW_in (tb_in (List.mem_of_getElem? (i := 945) rfl)) rfl
theorem w946 : Cond.code yX2_isSuperclass cX2_isSuperclass 3 (some .boolean) ∈ TW := TW_in (tb_in (List.mem_of_getElem? (i := 946) rfl)) rfl
theorem w948 : Cond.methodLink RX8 162 yX2_isSuperinterface ∈ TW := TW_in (tb_in (List.mem_of_getElem? (i := 948) rfl)) rfl
theorem w949 : Cond.instanceMethod yX2_isSuperinterface ∈ TW := TW_in (tb_in (List.mem_of_getElem? (i := 949) rfl)) rfl
theorem w950 : Cond.selects RX2 yX2_isSuperinterface yX2_isSuperinterface ∈ TW := TW_in (tb_in (List.mem_of_getElem? (i := 950) rfl)) rfl
theorem w951 : Cond.code yX2_isSuperinterface cX2_isSuperinterface 3 (some .boolean) ∈ TW := TW_in (tb_in (List.mem_of_getElem? (i := 951) rfl)) rfl
theorem w957 : Cond.methodLink RX8 167 yX2_takeClass ∈ TW := TW_in (tb_in (List.mem_of_getElem? (i := 957) rfl)) rfl
theorem w958 : Cond.methodLink RX8 171 yX4_dropAllOf ∈ TW := TW_in (tb_in (List.mem_of_getElem? (i := 958) rfl)) rfl
theorem w959 : Cond.instanceMethod yX4_dropAllOf ∈ TW := TW_in (tb_in (List.mem_of_getElem? (i := 959) rfl)) rfl
theorem w960 : Cond.selects RX4 yX4_dropAllOf yX4_dropAllOf ∈ TW := TW_in (tb_in (List.mem_of_getElem? (i := 960) rfl)) rfl
theorem w961 : Cond.code yX4_dropAllOf cX4_dropAllOf 4 (some .int) ∈ TW := TW_in (tb_in (List.mem_of_getElem? (i := 961) rfl)) rfl
theorem w962 : Cond.methodLink RX4 71 yX4_moveRow ∈ TW := TW_in (tb_in (List.mem_of_getElem? (i := 962) rfl)) rfl
theorem w964 : Cond.instanceMethod yX4_moveRow ∈ TW := TW_in (tb_in (List.mem_of_getElem? (i := 964) rfl)) rfl
theorem w965 : Cond.code yX4_moveRow cX4_moveRow 3 none ∈ TW := TW_in (tb_in (List.mem_of_getElem? (i := 965) rfl)) rfl
theorem w969 : Cond.methodLink RL 23 yX8_setClass ∈ TW := TW_in (tb_in (List.mem_of_getElem? (i := 969) rfl)) rfl
theorem w970 : Cond.instanceMethod yX8_setClass ∈ TW := TW_in (tb_in (List.mem_of_getElem? (i := 970) rfl)) rfl
theorem w971 : Cond.selects RX8 yX8_setClass yX8_setClass ∈ TW := TW_in (tb_in (List.mem_of_getElem? (i := 971) rfl)) rfl
theorem w972 : Cond.code yX8_setClass cX8_setClass 7 (some .int) ∈ TW := TW_in (tb_in (List.mem_of_getElem? (i := 972) rfl)) rfl
theorem w974 : Cond.methodLink RX8 174 yX8_isClassValue ∈ TW := TW_in (tb_in (List.mem_of_getElem? (i := 974) rfl)) rfl
theorem w975 : Cond.static yX8_isClassValue ∈ TW := TW_in (tb_in (List.mem_of_getElem? (i := 975) rfl)) rfl
theorem w976 : Cond.code yX8_isClassValue cX8_isClassValue 4 (some .boolean) ∈ TW := TW_in (tb_in (List.mem_of_getElem? (i := 976) rfl)) rfl
theorem w977 : Cond.methodLink RX8 182 yX2_isInterface ∈ TW := TW_in (tb_in (List.mem_of_getElem? (i := 977) rfl)) rfl
theorem w994 : Cond.methodLink RX8 189 yX4_hasAbstract ∈ TW := TW_in (tb_in (List.mem_of_getElem? (i := 994) rfl)) rfl
theorem w995 : Cond.instanceMethod yX4_hasAbstract ∈ TW := TW_in (tb_in (List.mem_of_getElem? (i := 995) rfl)) rfl
theorem w996 : Cond.selects RX4 yX4_hasAbstract yX4_hasAbstract ∈ TW := TW_in (tb_in (List.mem_of_getElem? (i := 996) rfl)) rfl
theorem w997 : Cond.code yX4_hasAbstract cX4_hasAbstract 3 (some .boolean) ∈ TW := TW_in (tb_in (List.mem_of_getElem? (i := 997) rfl)) rfl
theorem w998 : Cond.methodLink RX4 81 yX4_isAbstract ∈ TW := TW_in (tb_in (List.mem_of_getElem? (i := 998) rfl)) rfl
theorem w1008 : Cond.methodLink RL 27 yX8_exists ∈ TW := TW_in (tb_in (List.mem_of_getElem? (i := 1008) rfl)) rfl
theorem w1009 : Cond.instanceMethod yX8_exists ∈ TW := TW_in (tb_in (List.mem_of_getElem? (i := 1009) rfl)) rfl
theorem w1010 : Cond.selects RX8 yX8_exists yX8_exists ∈ TW := TW_in (tb_in (List.mem_of_getElem? (i := 1010) rfl)) rfl
theorem w1011 : Cond.code yX8_exists cX8_exists 4 (some .boolean) ∈ TW := TW_in (tb_in (List.mem_of_getElem? (i := 1011) rfl)) rfl
theorem w1020 : Cond.methodLink RL 31 yX8_classInfo ∈ TW := TW_in (tb_in (List.mem_of_getElem? (i := 1020) rfl)) rfl
theorem w1021 : Cond.instanceMethod yX8_classInfo ∈ TW := TW_in (tb_in (List.mem_of_getElem? (i := 1021) rfl)) rfl
theorem w1022 : Cond.selects RX8 yX8_classInfo yX8_classInfo ∈ TW := TW_in (tb_in (List.mem_of_getElem? (i := 1022) rfl)) rfl
theorem w1023 : Cond.code yX8_classInfo cX8_classInfo 5 (some .int) ∈ TW := TW_in (tb_in (List.mem_of_getElem? (i := 1023) rfl)) rfl
theorem w1025 : Cond.methodLink RX8 200 yX8_requireInfo ∈ TW := TW_in (tb_in (List.mem_of_getElem? (i := 1025) rfl)) rfl
theorem w1026 : Cond.static yX8_requireInfo ∈ TW := TW_in (tb_in (List.mem_of_getElem? (i := 1026) rfl)) rfl
theorem w1027 : Cond.code yX8_requireInfo cX8_requireInfo 1 none ∈ TW := TW_in (tb_in (List.mem_of_getElem? (i := 1027) rfl)) rfl
theorem w1035 : Cond.methodLink RL 35 yX8_draft ∈ TW := TW_in (tb_in (List.mem_of_getElem? (i := 1035) rfl)) rfl
theorem w1036 : Cond.instanceMethod yX8_draft ∈ TW := TW_in (tb_in (List.mem_of_getElem? (i := 1036) rfl)) rfl
theorem w1037 : Cond.selects RX8 yX8_draft yX8_draft ∈ TW := TW_in (tb_in (List.mem_of_getElem? (i := 1037) rfl)) rfl
theorem w1038 : Cond.code yX8_draft cX8_draft 6 (some .int) ∈ TW := TW_in (tb_in (List.mem_of_getElem? (i := 1038) rfl)) rfl
theorem w1042 : Cond.methodLink RX8 208 yX8_isType ∈ TW := TW_in (tb_in (List.mem_of_getElem? (i := 1042) rfl)) rfl
theorem w1043 : Cond.static yX8_isType ∈ TW := TW_in (tb_in (List.mem_of_getElem? (i := 1043) rfl)) rfl
theorem w1044 : Cond.code yX8_isType cX8_isType 1 (some .boolean) ∈ TW := TW_in (tb_in (List.mem_of_getElem? (i := 1044) rfl)) rfl
theorem w1054 : Cond.methodLink RL 38 yX8_addField ∈ TW := TW_in (tb_in (List.mem_of_getElem? (i := 1054) rfl)) rfl
theorem w1055 : Cond.instanceMethod yX8_addField ∈ TW := TW_in (tb_in (List.mem_of_getElem? (i := 1055) rfl)) rfl
theorem w1056 : Cond.selects RX8 yX8_addField yX8_addField ∈ TW := TW_in (tb_in (List.mem_of_getElem? (i := 1056) rfl)) rfl
theorem w1057 : Cond.code yX8_addField cX8_addField 7 (some .int) ∈ TW := TW_in (tb_in (List.mem_of_getElem? (i := 1057) rfl)) rfl
theorem w1059 : Cond.methodLink RX8 216 yX8_isName ∈ TW := TW_in (tb_in (List.mem_of_getElem? (i := 1059) rfl)) rfl
theorem w1060 : Cond.static yX8_isName ∈ TW := TW_in (tb_in (List.mem_of_getElem? (i := 1060) rfl)) rfl
theorem w1061 : Cond.code yX8_isName cX8_isName 1 (some .boolean) ∈ TW := TW_in (tb_in (List.mem_of_getElem? (i := 1061) rfl)) rfl
theorem w1062 : Cond.methodLink RX8 219 yX8_isAccess ∈ TW := TW_in (tb_in (List.mem_of_getElem? (i := 1062) rfl)) rfl
theorem w1063 : Cond.static yX8_isAccess ∈ TW := TW_in (tb_in (List.mem_of_getElem? (i := 1063) rfl)) rfl
theorem w1064 : Cond.code yX8_isAccess cX8_isAccess 1 (some .boolean) ∈ TW := TW_in (tb_in (List.mem_of_getElem? (i := 1064) rfl)) rfl
theorem w1065 : Cond.methodLink RX8 222 yX2_allowsField ∈ TW := TW_in (tb_in (List.mem_of_getElem? (i := 1065) rfl)) rfl
theorem w1066 : Cond.instanceMethod yX2_allowsField ∈ TW := TW_in (tb_in (List.mem_of_getElem? (i := 1066) rfl)) rfl
theorem w1067 : Cond.selects RX2 yX2_allowsField yX2_allowsField ∈ TW := TW_in (tb_in (List.mem_of_getElem? (i := 1067) rfl)) rfl
theorem w1068 : Cond.code yX2_allowsField cX2_allowsField 4 (some .boolean) ∈ TW := TW_in (tb_in (List.mem_of_getElem? (i := 1068) rfl)) rfl
theorem w1073 : Cond.methodLink RX8 228 yX4_hasField ∈ TW := TW_in (tb_in (List.mem_of_getElem? (i := 1073) rfl)) rfl
theorem w1074 : Cond.instanceMethod yX4_hasField ∈ TW := TW_in (tb_in (List.mem_of_getElem? (i := 1074) rfl)) rfl
theorem w1075 : Cond.selects RX4 yX4_hasField yX4_hasField ∈ TW := TW_in (tb_in (List.mem_of_getElem? (i := 1075) rfl)) rfl
theorem w1076 : Cond.code yX4_hasField cX4_hasField 4 (some .boolean) ∈ TW := TW_in (tb_in (List.mem_of_getElem? (i := 1076) rfl)) rfl
theorem w1077 : Cond.methodLink RX8 231 yX4_isFull ∈ TW := TW_in (tb_in (List.mem_of_getElem? (i := 1077) rfl)) rfl
theorem w1078 : Cond.instanceMethod yX4_isFull ∈ TW := TW_in (tb_in (List.mem_of_getElem? (i := 1078) rfl)) rfl
theorem w1079 : Cond.selects RX4 yX4_isFull yX4_isFull ∈ TW := TW_in (tb_in (List.mem_of_getElem? (i := 1079) rfl)) rfl
theorem w1080 : Cond.code yX4_isFull cX4_isFull 1 (some .boolean) ∈ TW := TW_in (tb_in (List.mem_of_getElem? (i := 1080) rfl)) rfl
theorem w1089 : Cond.methodLink RL 42 yX8_addMethod ∈ TW := TW_in (tb_in (List.mem_of_getElem? (i := 1089) rfl)) rfl
theorem w1090 : Cond.instanceMethod yX8_addMethod ∈ TW := TW_in (tb_in (List.mem_of_getElem? (i := 1090) rfl)) rfl
theorem w1091 : Cond.selects RX8 yX8_addMethod yX8_addMethod ∈ TW := TW_in (tb_in (List.mem_of_getElem? (i := 1091) rfl)) rfl
theorem w1092 : Cond.code yX8_addMethod cX8_addMethod 8 (some .int) ∈ TW := TW_in (tb_in (List.mem_of_getElem? (i := 1092) rfl)) rfl
theorem w1096 : Cond.methodLink RX8 236 yX2_allowsMethod ∈ TW := TW_in (tb_in (List.mem_of_getElem? (i := 1096) rfl)) rfl
theorem w1097 : Cond.instanceMethod yX2_allowsMethod ∈ TW := TW_in (tb_in (List.mem_of_getElem? (i := 1097) rfl)) rfl
theorem w1098 : Cond.selects RX2 yX2_allowsMethod yX2_allowsMethod ∈ TW := TW_in (tb_in (List.mem_of_getElem? (i := 1098) rfl)) rfl
theorem w1099 : Cond.code yX2_allowsMethod cX2_allowsMethod 4 (some .boolean) ∈ TW := TW_in (tb_in (List.mem_of_getElem? (i := 1099) rfl)) rfl
theorem w1100 : Cond.methodLink RX2 98 yX2_isAbstract ∈ TW := TW_in (tb_in (List.mem_of_getElem? (i := 1100) rfl)) rfl
theorem w1105 : Cond.methodLink RX8 247 yX4_signatureOf ∈ TW := TW_in (tb_in (List.mem_of_getElem? (i := 1105) rfl)) rfl
theorem w1106 : Cond.methodLink RX8 251 yX4_hasMethod ∈ TW := TW_in (tb_in (List.mem_of_getElem? (i := 1106) rfl)) rfl
theorem w1107 : Cond.instanceMethod yX4_hasMethod ∈ TW := TW_in (tb_in (List.mem_of_getElem? (i := 1107) rfl)) rfl
theorem w1108 : Cond.selects RX4 yX4_hasMethod yX4_hasMethod ∈ TW := TW_in (tb_in (List.mem_of_getElem? (i := 1108) rfl)) rfl
theorem w1109 : Cond.code yX4_hasMethod cX4_hasMethod 4 (some .boolean) ∈ TW := TW_in (tb_in (List.mem_of_getElem? (i := 1109) rfl)) rfl
theorem w1119 : Cond.methodLink RL 45 yX8_removeMember ∈ TW := TW_in (tb_in (List.mem_of_getElem? (i := 1119) rfl)) rfl
theorem w1120 : Cond.instanceMethod yX8_removeMember ∈ TW := TW_in (tb_in (List.mem_of_getElem? (i := 1120) rfl)) rfl
theorem w1121 : Cond.selects RX8 yX8_removeMember yX8_removeMember ∈ TW := TW_in (tb_in (List.mem_of_getElem? (i := 1121) rfl)) rfl
theorem w1122 : Cond.code yX8_removeMember cX8_removeMember 4 (some .int) ∈ TW := TW_in (tb_in (List.mem_of_getElem? (i := 1122) rfl)) rfl
theorem w1123 : Cond.methodLink RX8 256 yX8_libraryWithMember ∈ TW := TW_in (tb_in (List.mem_of_getElem? (i := 1123) rfl)) rfl
theorem w1125 : Cond.instanceMethod yX8_libraryWithMember ∈ TW := TW_in (tb_in (List.mem_of_getElem? (i := 1125) rfl)) rfl
theorem w1126 : Cond.code yX8_libraryWithMember cX8_libraryWithMember 4 (some (.object "CompatibilityJudge$Library")) ∈ TW := TW_in (tb_in (List.mem_of_getElem? (i := 1126) rfl)) rfl
theorem w1128 : Cond.methodLink RX8 469 yX2_hasMember ∈ TW := TW_in (tb_in (List.mem_of_getElem? (i := 1128) rfl)) rfl
theorem w1129 : Cond.instanceMethod yX2_hasMember ∈ TW := TW_in (tb_in (List.mem_of_getElem? (i := 1129) rfl)) rfl
theorem w1130 : Cond.selects RX2 yX2_hasMember yX2_hasMember ∈ TW := TW_in (tb_in (List.mem_of_getElem? (i := 1130) rfl)) rfl
theorem w1131 : Cond.code yX2_hasMember cX2_hasMember 2 (some .boolean) ∈ TW := TW_in (tb_in (List.mem_of_getElem? (i := 1131) rfl)) rfl
theorem w1136 : Cond.methodLink RX8 259 yX4_dropAt ∈ TW := TW_in (tb_in (List.mem_of_getElem? (i := 1136) rfl)) rfl
theorem w1137 : Cond.instanceMethod yX4_dropAt ∈ TW := TW_in (tb_in (List.mem_of_getElem? (i := 1137) rfl)) rfl
theorem w1138 : Cond.selects RX4 yX4_dropAt yX4_dropAt ∈ TW := TW_in (tb_in (List.mem_of_getElem? (i := 1138) rfl)) rfl
theorem w1139 : Cond.code yX4_dropAt cX4_dropAt 3 none ∈ TW := TW_in (tb_in (List.mem_of_getElem? (i := 1139) rfl)) rfl
theorem w1144 : Cond.methodLink RL 48 yX8_setMember ∈ TW := TW_in (tb_in (List.mem_of_getElem? (i := 1144) rfl)) rfl
theorem w1145 : Cond.instanceMethod yX8_setMember ∈ TW := TW_in (tb_in (List.mem_of_getElem? (i := 1145) rfl)) rfl
theorem w1146 : Cond.selects RX8 yX8_setMember yX8_setMember ∈ TW := TW_in (tb_in (List.mem_of_getElem? (i := 1146) rfl)) rfl
theorem w1147 : Cond.code yX8_setMember cX8_setMember 7 (some .int) ∈ TW := TW_in (tb_in (List.mem_of_getElem? (i := 1147) rfl)) rfl
theorem w1149 : Cond.methodLink RX8 262 yX8_isMemberValue ∈ TW := TW_in (tb_in (List.mem_of_getElem? (i := 1149) rfl)) rfl
theorem w1150 : Cond.static yX8_isMemberValue ∈ TW := TW_in (tb_in (List.mem_of_getElem? (i := 1150) rfl)) rfl
theorem w1151 : Cond.code yX8_isMemberValue cX8_isMemberValue 9 (some .boolean) ∈ TW := TW_in (tb_in (List.mem_of_getElem? (i := 1151) rfl)) rfl
theorem w1157 : Cond.methodLink RX8 279 yX8_isConstantValue ∈ TW := TW_in (tb_in (List.mem_of_getElem? (i := 1157) rfl)) rfl
theorem w1158 : Cond.static yX8_isConstantValue ∈ TW := TW_in (tb_in (List.mem_of_getElem? (i := 1158) rfl)) rfl
theorem w1159 : Cond.code yX8_isConstantValue cX8_isConstantValue 1 (some .boolean) ∈ TW := TW_in (tb_in (List.mem_of_getElem? (i := 1159) rfl)) rfl
theorem w1160 : Cond.methodLink RX8 282 yX4_isStaticFinal ∈ TW := TW_in (tb_in (List.mem_of_getElem? (i := 1160) rfl)) rfl
theorem w1169 : Cond.methodLink RL 51 yX8_moveMember ∈ TW := TW_in (tb_in (List.mem_of_getElem? (i := 1169) rfl)) rfl
theorem w1170 : Cond.instanceMethod yX8_moveMember ∈ TW := TW_in (tb_in (List.mem_of_getElem? (i := 1170) rfl)) rfl
theorem w1171 : Cond.selects RX8 yX8_moveMember yX8_moveMember ∈ TW := TW_in (tb_in (List.mem_of_getElem? (i := 1171) rfl)) rfl
theorem w1172 : Cond.code yX8_moveMember cX8_moveMember 8 (some .int) ∈ TW := TW_in (tb_in (List.mem_of_getElem? (i := 1172) rfl)) rfl
theorem w1177 : Cond.methodLink RX8 290 yX2_allowsMember ∈ TW := TW_in (tb_in (List.mem_of_getElem? (i := 1177) rfl)) rfl
theorem w1178 : Cond.instanceMethod yX2_allowsMember ∈ TW := TW_in (tb_in (List.mem_of_getElem? (i := 1178) rfl)) rfl
theorem w1179 : Cond.selects RX2 yX2_allowsMember yX2_allowsMember ∈ TW := TW_in (tb_in (List.mem_of_getElem? (i := 1179) rfl)) rfl
theorem w1180 : Cond.code yX2_allowsMember cX2_allowsMember 3 (some .boolean) ∈ TW := TW_in (tb_in (List.mem_of_getElem? (i := 1180) rfl)) rfl
theorem w1181 : Cond.methodLink RX2 110 yX2_allowsField ∈ TW := TW_in (tb_in (List.mem_of_getElem? (i := 1181) rfl)) rfl
theorem w1182 : Cond.methodLink RX2 114 yX2_allowsMethod ∈ TW := TW_in (tb_in (List.mem_of_getElem? (i := 1182) rfl)) rfl
theorem w1195 : Cond.methodLink RL 54 yX8_members ∈ TW := TW_in (tb_in (List.mem_of_getElem? (i := 1195) rfl)) rfl
theorem w1196 : Cond.instanceMethod yX8_members ∈ TW := TW_in (tb_in (List.mem_of_getElem? (i := 1196) rfl)) rfl
theorem w1197 : Cond.selects RX8 yX8_members yX8_members ∈ TW := TW_in (tb_in (List.mem_of_getElem? (i := 1197) rfl)) rfl
theorem w1198 : Cond.code yX8_members cX8_members 2 (some .int) ∈ TW := TW_in (tb_in (List.mem_of_getElem? (i := 1198) rfl)) rfl
theorem w1203 : Cond.methodLink RL 58 yX8_memberInfo ∈ TW := TW_in (tb_in (List.mem_of_getElem? (i := 1203) rfl)) rfl
theorem w1204 : Cond.instanceMethod yX8_memberInfo ∈ TW := TW_in (tb_in (List.mem_of_getElem? (i := 1204) rfl)) rfl
theorem w1205 : Cond.selects RX8 yX8_memberInfo yX8_memberInfo ∈ TW := TW_in (tb_in (List.mem_of_getElem? (i := 1205) rfl)) rfl
theorem w1206 : Cond.code yX8_memberInfo cX8_memberInfo 5 (some .int) ∈ TW := TW_in (tb_in (List.mem_of_getElem? (i := 1206) rfl)) rfl
theorem w1213 : Cond.methodLink RL 61 yX8_fits ∈ TW := TW_in (tb_in (List.mem_of_getElem? (i := 1213) rfl)) rfl
theorem w1214 : Cond.instanceMethod yX8_fits ∈ TW := TW_in (tb_in (List.mem_of_getElem? (i := 1214) rfl)) rfl
theorem w1215 : Cond.selects RX8 yX8_fits yX8_fits ∈ TW := TW_in (tb_in (List.mem_of_getElem? (i := 1215) rfl)) rfl
theorem w1216 : Cond.code yX8_fits cX8_fits 5 (some .boolean) ∈ TW := TW_in (tb_in (List.mem_of_getElem? (i := 1216) rfl)) rfl
theorem w1222 : Cond.methodLink RX8 303 yX2_fitsType ∈ TW := TW_in (tb_in (List.mem_of_getElem? (i := 1222) rfl)) rfl
theorem w1226 : Cond.methodLink RL 65 yX8_field ∈ TW := TW_in (tb_in (List.mem_of_getElem? (i := 1226) rfl)) rfl
theorem w1227 : Cond.instanceMethod yX8_field ∈ TW := TW_in (tb_in (List.mem_of_getElem? (i := 1227) rfl)) rfl
theorem w1228 : Cond.selects RX8 yX8_field yX8_field ∈ TW := TW_in (tb_in (List.mem_of_getElem? (i := 1228) rfl)) rfl
theorem w1229 : Cond.code yX8_field cX8_field 5 (some .int) ∈ TW := TW_in (tb_in (List.mem_of_getElem? (i := 1229) rfl)) rfl
theorem w1231 : Cond.methodLink RX8 306 yX8_requireName ∈ TW := TW_in (tb_in (List.mem_of_getElem? (i := 1231) rfl)) rfl
theorem w1232 : Cond.static yX8_requireName ∈ TW := TW_in (tb_in (List.mem_of_getElem? (i := 1232) rfl)) rfl
theorem w1233 : Cond.code yX8_requireName cX8_requireName 1 none ∈ TW := TW_in (tb_in (List.mem_of_getElem? (i := 1233) rfl)) rfl
theorem w1238 : Cond.methodLink RX8 312 yX2_fieldFor ∈ TW := TW_in (tb_in (List.mem_of_getElem? (i := 1238) rfl)) rfl
theorem w1242 : Cond.methodLink RL 68 yX8_method ∈ TW := TW_in (tb_in (List.mem_of_getElem? (i := 1242) rfl)) rfl
theorem w1243 : Cond.instanceMethod yX8_method ∈ TW := TW_in (tb_in (List.mem_of_getElem? (i := 1243) rfl)) rfl
theorem w1244 : Cond.selects RX8 yX8_method yX8_method ∈ TW := TW_in (tb_in (List.mem_of_getElem? (i := 1244) rfl)) rfl
theorem w1245 : Cond.code yX8_method cX8_method 6 (some .int) ∈ TW := TW_in (tb_in (List.mem_of_getElem? (i := 1245) rfl)) rfl
theorem w1249 : Cond.methodLink RX8 315 yX4_descriptorOf ∈ TW := TW_in (tb_in (List.mem_of_getElem? (i := 1249) rfl)) rfl
theorem w1250 : Cond.methodLink RX8 318 yX2_methodFor ∈ TW := TW_in (tb_in (List.mem_of_getElem? (i := 1250) rfl)) rfl
theorem w1254 : Cond.methodLink RL 71 yX8_selected ∈ TW := TW_in (tb_in (List.mem_of_getElem? (i := 1254) rfl)) rfl
theorem w1255 : Cond.instanceMethod yX8_selected ∈ TW := TW_in (tb_in (List.mem_of_getElem? (i := 1255) rfl)) rfl
theorem w1256 : Cond.selects RX8 yX8_selected yX8_selected ∈ TW := TW_in (tb_in (List.mem_of_getElem? (i := 1256) rfl)) rfl
theorem w1257 : Cond.code yX8_selected cX8_selected 6 (some .int) ∈ TW := TW_in (tb_in (List.mem_of_getElem? (i := 1257) rfl)) rfl
theorem w1269 : Cond.methodLink RX8 334 yX2_selectedAlong ∈ TW := TW_in (tb_in (List.mem_of_getElem? (i := 1269) rfl)) rfl
theorem w1273 : Cond.methodLink RL 74 yX8_addClient ∈ TW := TW_in (tb_in (List.mem_of_getElem? (i := 1273) rfl)) rfl
theorem w1274 : Cond.instanceMethod yX8_addClient ∈ TW := TW_in (tb_in (List.mem_of_getElem? (i := 1274) rfl)) rfl
theorem w1275 : Cond.selects RX8 yX8_addClient yX8_addClient ∈ TW := TW_in (tb_in (List.mem_of_getElem? (i := 1275) rfl)) rfl
theorem w1276 : Cond.code yX8_addClient cX8_addClient 5 (some .int) ∈ TW := TW_in (tb_in (List.mem_of_getElem? (i := 1276) rfl)) rfl
theorem w1277 : Cond.methodLink RX8 337 yX8_isPackage ∈ TW := TW_in (tb_in (List.mem_of_getElem? (i := 1277) rfl)) rfl
theorem w1278 : Cond.static yX8_isPackage ∈ TW := TW_in (tb_in (List.mem_of_getElem? (i := 1278) rfl)) rfl
theorem w1279 : Cond.code yX8_isPackage cX8_isPackage 1 (some .boolean) ∈ TW := TW_in (tb_in (List.mem_of_getElem? (i := 1279) rfl)) rfl
theorem w1287 : Cond.methodLink RX8 344 yX0_putArguments ∈ TW := TW_in (tb_in (List.mem_of_getElem? (i := 1287) rfl)) rfl
theorem w1288 : Cond.instanceMethod yX0_putArguments ∈ TW := TW_in (tb_in (List.mem_of_getElem? (i := 1288) rfl)) rfl
theorem w1289 : Cond.selects RX0 yX0_putArguments yX0_putArguments ∈ TW := TW_in (tb_in (List.mem_of_getElem? (i := 1289) rfl)) rfl
theorem w1290 : Cond.code yX0_putArguments cX0_putArguments 4 none ∈ TW := TW_in (tb_in (List.mem_of_getElem? (i := 1290) rfl)) rfl
theorem w1303 : Cond.methodLink RL 77 yX8_setBase ∈ TW := TW_in (tb_in (List.mem_of_getElem? (i := 1303) rfl)) rfl
theorem w1304 : Cond.instanceMethod yX8_setBase ∈ TW := TW_in (tb_in (List.mem_of_getElem? (i := 1304) rfl)) rfl
theorem w1305 : Cond.selects RX8 yX8_setBase yX8_setBase ∈ TW := TW_in (tb_in (List.mem_of_getElem? (i := 1305) rfl)) rfl
theorem w1306 : Cond.code yX8_setBase cX8_setBase 5 (some .int) ∈ TW := TW_in (tb_in (List.mem_of_getElem? (i := 1306) rfl)) rfl
theorem w1307 : Cond.methodLink RX8 352 yX8_clientAt ∈ TW := TW_in (tb_in (List.mem_of_getElem? (i := 1307) rfl)) rfl
theorem w1309 : Cond.instanceMethod yX8_clientAt ∈ TW := TW_in (tb_in (List.mem_of_getElem? (i := 1309) rfl)) rfl
theorem w1310 : Cond.code yX8_clientAt cX8_clientAt 2 (some (.object "CompatibilityJudge$Client")) ∈ TW := TW_in (tb_in (List.mem_of_getElem? (i := 1310) rfl)) rfl
theorem w1311 : Cond.methodLink RX8 371 yX8_requireClient ∈ TW := TW_in (tb_in (List.mem_of_getElem? (i := 1311) rfl)) rfl
theorem w1313 : Cond.instanceMethod yX8_requireClient ∈ TW := TW_in (tb_in (List.mem_of_getElem? (i := 1313) rfl)) rfl
theorem w1314 : Cond.code yX8_requireClient cX8_requireClient 2 none ∈ TW := TW_in (tb_in (List.mem_of_getElem? (i := 1314) rfl)) rfl
theorem w1315 : Cond.classLink RX8 111 "java/lang/IndexOutOfBoundsException" ∈ TW := TW_in (tb_in (List.mem_of_getElem? (i := 1315) rfl)) rfl
theorem w1318 : Cond.methodLink RX8 359 yX1_canBeBase ∈ TW := TW_in (tb_in (List.mem_of_getElem? (i := 1318) rfl)) rfl
theorem w1322 : Cond.methodLink RX8 364 yX0_copyFrom ∈ TW := TW_in (tb_in (List.mem_of_getElem? (i := 1322) rfl)) rfl
theorem w1332 : Cond.methodLink RL 80 yX8_removeClient ∈ TW := TW_in (tb_in (List.mem_of_getElem? (i := 1332) rfl)) rfl
theorem w1333 : Cond.instanceMethod yX8_removeClient ∈ TW := TW_in (tb_in (List.mem_of_getElem? (i := 1333) rfl)) rfl
theorem w1334 : Cond.selects RX8 yX8_removeClient yX8_removeClient ∈ TW := TW_in (tb_in (List.mem_of_getElem? (i := 1334) rfl)) rfl
theorem w1335 : Cond.code yX8_removeClient cX8_removeClient 2 (some .int) ∈ TW := TW_in (tb_in (List.mem_of_getElem? (i := 1335) rfl)) rfl
theorem w1338 : Cond.methodLink RX8 374 yX6_dropAt ∈ TW := TW_in (tb_in (List.mem_of_getElem? (i := 1338) rfl)) rfl
theorem w1339 : Cond.instanceMethod yX6_dropAt ∈ TW := TW_in (tb_in (List.mem_of_getElem? (i := 1339) rfl)) rfl
theorem w1340 : Cond.selects RX6 yX6_dropAt yX6_dropAt ∈ TW := TW_in (tb_in (List.mem_of_getElem? (i := 1340) rfl)) rfl
theorem w1341 : Cond.code yX6_dropAt cX6_dropAt 3 none ∈ TW := TW_in (tb_in (List.mem_of_getElem? (i := 1341) rfl)) rfl
theorem w1346 : Cond.methodLink RL 83 yX8_clientInfo ∈ TW := TW_in (tb_in (List.mem_of_getElem? (i := 1346) rfl)) rfl
theorem w1347 : Cond.instanceMethod yX8_clientInfo ∈ TW := TW_in (tb_in (List.mem_of_getElem? (i := 1347) rfl)) rfl
theorem w1348 : Cond.selects RX8 yX8_clientInfo yX8_clientInfo ∈ TW := TW_in (tb_in (List.mem_of_getElem? (i := 1348) rfl)) rfl
theorem w1349 : Cond.code yX8_clientInfo cX8_clientInfo 4 (some .int) ∈ TW := TW_in (tb_in (List.mem_of_getElem? (i := 1349) rfl)) rfl
theorem w1356 : Cond.methodLink RL 86 yX8_compile ∈ TW := TW_in (tb_in (List.mem_of_getElem? (i := 1356) rfl)) rfl
theorem w1357 : Cond.instanceMethod yX8_compile ∈ TW := TW_in (tb_in (List.mem_of_getElem? (i := 1357) rfl)) rfl
theorem w1358 : Cond.selects RX8 yX8_compile yX8_compile ∈ TW := TW_in (tb_in (List.mem_of_getElem? (i := 1358) rfl)) rfl
theorem w1359 : Cond.code yX8_compile cX8_compile 4 (some .int) ∈ TW := TW_in (tb_in (List.mem_of_getElem? (i := 1359) rfl)) rfl
theorem w1366 : Cond.methodLink RL 89 yX8_link ∈ TW := TW_in (tb_in (List.mem_of_getElem? (i := 1366) rfl)) rfl
theorem w1367 : Cond.instanceMethod yX8_link ∈ TW := TW_in (tb_in (List.mem_of_getElem? (i := 1367) rfl)) rfl
theorem w1368 : Cond.selects RX8 yX8_link yX8_link ∈ TW := TW_in (tb_in (List.mem_of_getElem? (i := 1368) rfl)) rfl
theorem w1369 : Cond.code yX8_link cX8_link 4 (some .int) ∈ TW := TW_in (tb_in (List.mem_of_getElem? (i := 1369) rfl)) rfl
theorem w1376 : Cond.methodLink RL 92 yX8_target ∈ TW := TW_in (tb_in (List.mem_of_getElem? (i := 1376) rfl)) rfl
theorem w1377 : Cond.instanceMethod yX8_target ∈ TW := TW_in (tb_in (List.mem_of_getElem? (i := 1377) rfl)) rfl
theorem w1378 : Cond.selects RX8 yX8_target yX8_target ∈ TW := TW_in (tb_in (List.mem_of_getElem? (i := 1378) rfl)) rfl
theorem w1379 : Cond.code yX8_target cX8_target 4 (some .int) ∈ TW := TW_in (tb_in (List.mem_of_getElem? (i := 1379) rfl)) rfl
theorem w1386 : Cond.methodLink RL 95 yX8_verdict ∈ TW := TW_in (tb_in (List.mem_of_getElem? (i := 1386) rfl)) rfl
theorem w1387 : Cond.instanceMethod yX8_verdict ∈ TW := TW_in (tb_in (List.mem_of_getElem? (i := 1387) rfl)) rfl
theorem w1388 : Cond.selects RX8 yX8_verdict yX8_verdict ∈ TW := TW_in (tb_in (List.mem_of_getElem? (i := 1388) rfl)) rfl
theorem w1389 : Cond.code yX8_verdict cX8_verdict 2 (some .int) ∈ TW := TW_in (tb_in (List.mem_of_getElem? (i := 1389) rfl)) rfl
theorem w1395 : Cond.methodLink RL 98 yX8_count ∈ TW := TW_in (tb_in (List.mem_of_getElem? (i := 1395) rfl)) rfl
theorem w1396 : Cond.instanceMethod yX8_count ∈ TW := TW_in (tb_in (List.mem_of_getElem? (i := 1396) rfl)) rfl
theorem w1397 : Cond.selects RX8 yX8_count yX8_count ∈ TW := TW_in (tb_in (List.mem_of_getElem? (i := 1397) rfl)) rfl
theorem w1398 : Cond.code yX8_count cX8_count 4 (some .int) ∈ TW := TW_in (tb_in (List.mem_of_getElem? (i := 1398) rfl)) rfl
theorem w1406 : Cond.methodLink RL 101 yX8_sample ∈ TW := TW_in (tb_in (List.mem_of_getElem? (i := 1406) rfl)) rfl
theorem w1407 : Cond.instanceMethod yX8_sample ∈ TW := TW_in (tb_in (List.mem_of_getElem? (i := 1407) rfl)) rfl
theorem w1408 : Cond.selects RX8 yX8_sample yX8_sample ∈ TW := TW_in (tb_in (List.mem_of_getElem? (i := 1408) rfl)) rfl
theorem w1409 : Cond.code yX8_sample cX8_sample 5 (some .int) ∈ TW := TW_in (tb_in (List.mem_of_getElem? (i := 1409) rfl)) rfl
theorem w1414 : Cond.classLink RX8 122 "java/lang/IllegalArgumentException" ∈ TW := TW_in (tb_in (List.mem_of_getElem? (i := 1414) rfl)) rfl
theorem w1418 : Cond.constant RX8 402 (63840 : Int32) ∈ TW := TW_in (tb_in (List.mem_of_getElem? (i := 1418) rfl)) rfl
theorem w1421 : Cond.methodLink RX8 403 yX8_sampleValue ∈ TW := TW_in (tb_in (List.mem_of_getElem? (i := 1421) rfl)) rfl
theorem w1423 : Cond.instanceMethod yX8_sampleValue ∈ TW := TW_in (tb_in (List.mem_of_getElem? (i := 1423) rfl)) rfl
theorem w1424 : Cond.code yX8_sampleValue cX8_sampleValue 2 (some .int) ∈ TW := TW_in (tb_in (List.mem_of_getElem? (i := 1424) rfl)) rfl
theorem w1425 : Cond.methodLink RX8 410 yX0_advance ∈ TW := TW_in (tb_in (List.mem_of_getElem? (i := 1425) rfl)) rfl
theorem w1426 : Cond.instanceMethod yX0_advance ∈ TW := TW_in (tb_in (List.mem_of_getElem? (i := 1426) rfl)) rfl
theorem w1427 : Cond.selects RX0 yX0_advance yX0_advance ∈ TW := TW_in (tb_in (List.mem_of_getElem? (i := 1427) rfl)) rfl
theorem w1428 : Cond.code yX0_advance cX0_advance 2 (some .boolean) ∈ TW := TW_in (tb_in (List.mem_of_getElem? (i := 1428) rfl)) rfl
theorem w1429 : Cond.methodLink RX0 46 yX0_nextTypes ∈ TW := TW_in (tb_in (List.mem_of_getElem? (i := 1429) rfl)) rfl
theorem w1431 : Cond.instanceMethod yX0_nextTypes ∈ TW := TW_in (tb_in (List.mem_of_getElem? (i := 1431) rfl)) rfl
theorem w1432 : Cond.code yX0_nextTypes cX0_nextTypes 1 (some .boolean) ∈ TW := TW_in (tb_in (List.mem_of_getElem? (i := 1432) rfl)) rfl
theorem w1433 : Cond.methodLink RX0 50 yX0_nextMany ∈ TW := TW_in (tb_in (List.mem_of_getElem? (i := 1433) rfl)) rfl
theorem w1435 : Cond.instanceMethod yX0_nextMany ∈ TW := TW_in (tb_in (List.mem_of_getElem? (i := 1435) rfl)) rfl
theorem w1436 : Cond.code yX0_nextMany cX0_nextMany 1 (some .boolean) ∈ TW := TW_in (tb_in (List.mem_of_getElem? (i := 1436) rfl)) rfl
theorem w1437 : Cond.methodLink RX0 53 yX0_put ∈ TW := TW_in (tb_in (List.mem_of_getElem? (i := 1437) rfl)) rfl
theorem w1443 : Cond.methodLink RL 104 yX8_undo ∈ TW := TW_in (tb_in (List.mem_of_getElem? (i := 1443) rfl)) rfl
theorem w1444 : Cond.instanceMethod yX8_undo ∈ TW := TW_in (tb_in (List.mem_of_getElem? (i := 1444) rfl)) rfl
theorem w1445 : Cond.selects RX8 yX8_undo yX8_undo ∈ TW := TW_in (tb_in (List.mem_of_getElem? (i := 1445) rfl)) rfl
theorem w1446 : Cond.code yX8_undo cX8_undo 1 (some .int) ∈ TW := TW_in (tb_in (List.mem_of_getElem? (i := 1446) rfl)) rfl
theorem w1447 : Cond.classLink RX8 136 "java/lang/IllegalStateException" ∈ TW := TW_in (tb_in (List.mem_of_getElem? (i := 1447) rfl)) rfl
theorem w1455 : Cond.code yX9_init cX9_init 2 none ∈ TW := TW_in (tb_in (List.mem_of_getElem? (i := 1455) rfl)) rfl
theorem w1456 : Cond.methodLink RX9 1 objectInit ∈ TW := TW_in (tb_in (List.mem_of_getElem? (i := 1456) rfl)) rfl
theorem w1457 : Cond.methodLink RX9 32 yX9_puts ∈ TW := TW_in (tb_in (List.mem_of_getElem? (i := 1457) rfl)) rfl
theorem w1459 : Cond.instanceMethod yX9_puts ∈ TW := TW_in (tb_in (List.mem_of_getElem? (i := 1459) rfl)) rfl
theorem w1460 : Cond.code yX9_puts cX9_puts 10 none ∈ TW := TW_in (tb_in (List.mem_of_getElem? (i := 1460) rfl)) rfl
theorem w1461 : Cond.methodLink RX9 48 yX9_at ∈ TW := TW_in (tb_in (List.mem_of_getElem? (i := 1461) rfl)) rfl
theorem w1462 : Cond.static yX9_at ∈ TW := TW_in (tb_in (List.mem_of_getElem? (i := 1462) rfl)) rfl
theorem w1463 : Cond.code yX9_at cX9_at 2 (some .int) ∈ TW := TW_in (tb_in (List.mem_of_getElem? (i := 1463) rfl)) rfl
theorem w1468 : Cond.methodLink RX9 36 yX9_adds ∈ TW := TW_in (tb_in (List.mem_of_getElem? (i := 1468) rfl)) rfl
theorem w1470 : Cond.instanceMethod yX9_adds ∈ TW := TW_in (tb_in (List.mem_of_getElem? (i := 1470) rfl)) rfl
theorem w1471 : Cond.code yX9_adds cX9_adds 12 (some .int) ∈ TW := TW_in (tb_in (List.mem_of_getElem? (i := 1471) rfl)) rfl
theorem w1472 : Cond.methodLink RX9 51 yX9_memberMany ∈ TW := TW_in (tb_in (List.mem_of_getElem? (i := 1472) rfl)) rfl
theorem w1474 : Cond.instanceMethod yX9_memberMany ∈ TW := TW_in (tb_in (List.mem_of_getElem? (i := 1474) rfl)) rfl
theorem w1475 : Cond.code yX9_memberMany cX9_memberMany 2 (some .int) ∈ TW := TW_in (tb_in (List.mem_of_getElem? (i := 1475) rfl)) rfl
theorem w1476 : Cond.methodLink RX9 40 yX9_member ∈ TW := TW_in (tb_in (List.mem_of_getElem? (i := 1476) rfl)) rfl
theorem w1477 : Cond.static yX9_member ∈ TW := TW_in (tb_in (List.mem_of_getElem? (i := 1477) rfl)) rfl
theorem w1478 : Cond.code yX9_member cX9_member 2 (some .int) ∈ TW := TW_in (tb_in (List.mem_of_getElem? (i := 1478) rfl)) rfl
theorem w1487 : Cond.methodLink RX9 44 yX9_comes ∈ TW := TW_in (tb_in (List.mem_of_getElem? (i := 1487) rfl)) rfl
theorem w1489 : Cond.instanceMethod yX9_comes ∈ TW := TW_in (tb_in (List.mem_of_getElem? (i := 1489) rfl)) rfl
theorem w1490 : Cond.code yX9_comes cX9_comes 5 none ∈ TW := TW_in (tb_in (List.mem_of_getElem? (i := 1490) rfl)) rfl
theorem w1491 : Cond.methodLink RX9 291 yX9_makes ∈ TW := TW_in (tb_in (List.mem_of_getElem? (i := 1491) rfl)) rfl
theorem w1493 : Cond.instanceMethod yX9_makes ∈ TW := TW_in (tb_in (List.mem_of_getElem? (i := 1493) rfl)) rfl
theorem w1494 : Cond.code yX9_makes cX9_makes 8 none ∈ TW := TW_in (tb_in (List.mem_of_getElem? (i := 1494) rfl)) rfl
theorem w1495 : Cond.methodLink RX9 280 yX9_compiled ∈ TW := TW_in (tb_in (List.mem_of_getElem? (i := 1495) rfl)) rfl
theorem w1497 : Cond.instanceMethod yX9_compiled ∈ TW := TW_in (tb_in (List.mem_of_getElem? (i := 1497) rfl)) rfl
theorem w1498 : Cond.code yX9_compiled cX9_compiled 3 (some .int) ∈ TW := TW_in (tb_in (List.mem_of_getElem? (i := 1498) rfl)) rfl
theorem w1499 : Cond.methodLink RX9 241 yX9_noReference ∈ TW := TW_in (tb_in (List.mem_of_getElem? (i := 1499) rfl)) rfl
theorem w1501 : Cond.instanceMethod yX9_noReference ∈ TW := TW_in (tb_in (List.mem_of_getElem? (i := 1501) rfl)) rfl
theorem w1502 : Cond.code yX9_noReference cX9_noReference 2 none ∈ TW := TW_in (tb_in (List.mem_of_getElem? (i := 1502) rfl)) rfl
theorem w1503 : Cond.methodLink RX9 77 yX9_isClass ∈ TW := TW_in (tb_in (List.mem_of_getElem? (i := 1503) rfl)) rfl
theorem w1505 : Cond.instanceMethod yX9_isClass ∈ TW := TW_in (tb_in (List.mem_of_getElem? (i := 1505) rfl)) rfl
theorem w1506 : Cond.code yX9_isClass cX9_isClass 3 (some .boolean) ∈ TW := TW_in (tb_in (List.mem_of_getElem? (i := 1506) rfl)) rfl
theorem w1507 : Cond.methodLink RX9 70 yX9_isVersion ∈ TW := TW_in (tb_in (List.mem_of_getElem? (i := 1507) rfl)) rfl
theorem w1508 : Cond.static yX9_isVersion ∈ TW := TW_in (tb_in (List.mem_of_getElem? (i := 1508) rfl)) rfl
theorem w1509 : Cond.code yX9_isVersion cX9_isVersion 1 (some .boolean) ∈ TW := TW_in (tb_in (List.mem_of_getElem? (i := 1509) rfl)) rfl
theorem w1510 : Cond.methodLink RX9 66 yX9_within ∈ TW := TW_in (tb_in (List.mem_of_getElem? (i := 1510) rfl)) rfl
theorem w1511 : Cond.static yX9_within ∈ TW := TW_in (tb_in (List.mem_of_getElem? (i := 1511) rfl)) rfl
theorem w1512 : Cond.code yX9_within cX9_within 3 (some .boolean) ∈ TW := TW_in (tb_in (List.mem_of_getElem? (i := 1512) rfl)) rfl
theorem w1514 : Cond.methodLink RX9 73 yX9_of ∈ TW := TW_in (tb_in (List.mem_of_getElem? (i := 1514) rfl)) rfl
theorem w1516 : Cond.instanceMethod yX9_of ∈ TW := TW_in (tb_in (List.mem_of_getElem? (i := 1516) rfl)) rfl
theorem w1517 : Cond.code yX9_of cX9_of 4 (some .int) ∈ TW := TW_in (tb_in (List.mem_of_getElem? (i := 1517) rfl)) rfl
theorem w1519 : Cond.methodLink RX9 244 yX9_isOpenClass ∈ TW := TW_in (tb_in (List.mem_of_getElem? (i := 1519) rfl)) rfl
theorem w1521 : Cond.instanceMethod yX9_isOpenClass ∈ TW := TW_in (tb_in (List.mem_of_getElem? (i := 1521) rfl)) rfl
theorem w1522 : Cond.code yX9_isOpenClass cX9_isOpenClass 3 (some .boolean) ∈ TW := TW_in (tb_in (List.mem_of_getElem? (i := 1522) rfl)) rfl
theorem w1525 : Cond.methodLink RX9 247 yX9_compiledField ∈ TW := TW_in (tb_in (List.mem_of_getElem? (i := 1525) rfl)) rfl
theorem w1527 : Cond.instanceMethod yX9_compiledField ∈ TW := TW_in (tb_in (List.mem_of_getElem? (i := 1527) rfl)) rfl
theorem w1528 : Cond.code yX9_compiledField cX9_compiledField 4 (some .int) ∈ TW := TW_in (tb_in (List.mem_of_getElem? (i := 1528) rfl)) rfl
theorem w1529 : Cond.methodLink RX9 177 yX9_fieldOf ∈ TW := TW_in (tb_in (List.mem_of_getElem? (i := 1529) rfl)) rfl
theorem w1531 : Cond.instanceMethod yX9_fieldOf ∈ TW := TW_in (tb_in (List.mem_of_getElem? (i := 1531) rfl)) rfl
theorem w1532 : Cond.code yX9_fieldOf cX9_fieldOf 9 (some .int) ∈ TW := TW_in (tb_in (List.mem_of_getElem? (i := 1532) rfl)) rfl
theorem w1534 : Cond.methodLink RX9 173 yX9_ownField ∈ TW := TW_in (tb_in (List.mem_of_getElem? (i := 1534) rfl)) rfl
theorem w1536 : Cond.instanceMethod yX9_ownField ∈ TW := TW_in (tb_in (List.mem_of_getElem? (i := 1536) rfl)) rfl
theorem w1537 : Cond.code yX9_ownField cX9_ownField 7 (some .int) ∈ TW := TW_in (tb_in (List.mem_of_getElem? (i := 1537) rfl)) rfl
theorem w1538 : Cond.methodLink RX9 144 yX9_found ∈ TW := TW_in (tb_in (List.mem_of_getElem? (i := 1538) rfl)) rfl
theorem w1540 : Cond.instanceMethod yX9_found ∈ TW := TW_in (tb_in (List.mem_of_getElem? (i := 1540) rfl)) rfl
theorem w1541 : Cond.code yX9_found cX9_found 10 (some .int) ∈ TW := TW_in (tb_in (List.mem_of_getElem? (i := 1541) rfl)) rfl
theorem w1543 : Cond.methodLink RX9 102 yX9_its ∈ TW := TW_in (tb_in (List.mem_of_getElem? (i := 1543) rfl)) rfl
theorem w1545 : Cond.instanceMethod yX9_its ∈ TW := TW_in (tb_in (List.mem_of_getElem? (i := 1545) rfl)) rfl
theorem w1546 : Cond.code yX9_its cX9_its 4 (some .int) ∈ TW := TW_in (tb_in (List.mem_of_getElem? (i := 1546) rfl)) rfl
theorem w1550 : Cond.methodLink RX9 134 yX9_hasParameters ∈ TW := TW_in (tb_in (List.mem_of_getElem? (i := 1550) rfl)) rfl
theorem w1552 : Cond.instanceMethod yX9_hasParameters ∈ TW := TW_in (tb_in (List.mem_of_getElem? (i := 1552) rfl)) rfl
theorem w1553 : Cond.code yX9_hasParameters cX9_hasParameters 6 (some .boolean) ∈ TW := TW_in (tb_in (List.mem_of_getElem? (i := 1553) rfl)) rfl
theorem w1559 : Cond.methodLink RX9 84 yX9_has ∈ TW := TW_in (tb_in (List.mem_of_getElem? (i := 1559) rfl)) rfl
theorem w1560 : Cond.static yX9_has ∈ TW := TW_in (tb_in (List.mem_of_getElem? (i := 1560) rfl)) rfl
theorem w1561 : Cond.code yX9_has cX9_has 2 (some .boolean) ∈ TW := TW_in (tb_in (List.mem_of_getElem? (i := 1561) rfl)) rfl
theorem w1563 : Cond.methodLink RX9 256 yX9_isOpen ∈ TW := TW_in (tb_in (List.mem_of_getElem? (i := 1563) rfl)) rfl
theorem w1565 : Cond.instanceMethod yX9_isOpen ∈ TW := TW_in (tb_in (List.mem_of_getElem? (i := 1565) rfl)) rfl
theorem w1566 : Cond.code yX9_isOpen cX9_isOpen 6 (some .boolean) ∈ TW := TW_in (tb_in (List.mem_of_getElem? (i := 1566) rfl)) rfl
theorem w1571 : Cond.methodLink RX9 125 yX9_supertypes ∈ TW := TW_in (tb_in (List.mem_of_getElem? (i := 1571) rfl)) rfl
theorem w1573 : Cond.instanceMethod yX9_supertypes ∈ TW := TW_in (tb_in (List.mem_of_getElem? (i := 1573) rfl)) rfl
theorem w1574 : Cond.code yX9_supertypes cX9_supertypes 5 (some .int) ∈ TW := TW_in (tb_in (List.mem_of_getElem? (i := 1574) rfl)) rfl
theorem w1579 : Cond.methodLink RX9 161 yX9_isFinal ∈ TW := TW_in (tb_in (List.mem_of_getElem? (i := 1579) rfl)) rfl
theorem w1581 : Cond.instanceMethod yX9_isFinal ∈ TW := TW_in (tb_in (List.mem_of_getElem? (i := 1581) rfl)) rfl
theorem w1582 : Cond.code yX9_isFinal cX9_isFinal 3 (some .boolean) ∈ TW := TW_in (tb_in (List.mem_of_getElem? (i := 1582) rfl)) rfl
theorem w1588 : Cond.methodLink RX9 199 yX9_isStatic ∈ TW := TW_in (tb_in (List.mem_of_getElem? (i := 1588) rfl)) rfl
theorem w1590 : Cond.instanceMethod yX9_isStatic ∈ TW := TW_in (tb_in (List.mem_of_getElem? (i := 1590) rfl)) rfl
theorem w1591 : Cond.code yX9_isStatic cX9_isStatic 3 (some .boolean) ∈ TW := TW_in (tb_in (List.mem_of_getElem? (i := 1591) rfl)) rfl
theorem w1594 : Cond.methodLink RX9 250 yX9_compiledCall ∈ TW := TW_in (tb_in (List.mem_of_getElem? (i := 1594) rfl)) rfl
theorem w1596 : Cond.instanceMethod yX9_compiledCall ∈ TW := TW_in (tb_in (List.mem_of_getElem? (i := 1596) rfl)) rfl
theorem w1597 : Cond.code yX9_compiledCall cX9_compiledCall 12 (some .int) ∈ TW := TW_in (tb_in (List.mem_of_getElem? (i := 1597) rfl)) rfl
theorem w1600 : Cond.methodLink RX9 262 yX9_isApplicable ∈ TW := TW_in (tb_in (List.mem_of_getElem? (i := 1600) rfl)) rfl
theorem w1602 : Cond.instanceMethod yX9_isApplicable ∈ TW := TW_in (tb_in (List.mem_of_getElem? (i := 1602) rfl)) rfl
theorem w1603 : Cond.code yX9_isApplicable cX9_isApplicable 8 (some .boolean) ∈ TW := TW_in (tb_in (List.mem_of_getElem? (i := 1603) rfl)) rfl
theorem w1605 : Cond.methodLink RX9 155 yX9_isMethod ∈ TW := TW_in (tb_in (List.mem_of_getElem? (i := 1605) rfl)) rfl
theorem w1607 : Cond.instanceMethod yX9_isMethod ∈ TW := TW_in (tb_in (List.mem_of_getElem? (i := 1607) rfl)) rfl
theorem w1608 : Cond.code yX9_isMethod cX9_isMethod 3 (some .boolean) ∈ TW := TW_in (tb_in (List.mem_of_getElem? (i := 1608) rfl)) rfl
theorem w1616 : Cond.methodLink RX9 81 yX9_isInterface ∈ TW := TW_in (tb_in (List.mem_of_getElem? (i := 1616) rfl)) rfl
theorem w1618 : Cond.instanceMethod yX9_isInterface ∈ TW := TW_in (tb_in (List.mem_of_getElem? (i := 1618) rfl)) rfl
theorem w1619 : Cond.code yX9_isInterface cX9_isInterface 3 (some .boolean) ∈ TW := TW_in (tb_in (List.mem_of_getElem? (i := 1619) rfl)) rfl
theorem w1621 : Cond.methodLink RX9 259 yX9_isHidden ∈ TW := TW_in (tb_in (List.mem_of_getElem? (i := 1621) rfl)) rfl
theorem w1623 : Cond.instanceMethod yX9_isHidden ∈ TW := TW_in (tb_in (List.mem_of_getElem? (i := 1623) rfl)) rfl
theorem w1624 : Cond.code yX9_isHidden cX9_isHidden 9 (some .boolean) ∈ TW := TW_in (tb_in (List.mem_of_getElem? (i := 1624) rfl)) rfl
theorem w1640 : Cond.methodLink RX9 170 yX9_isFit ∈ TW := TW_in (tb_in (List.mem_of_getElem? (i := 1640) rfl)) rfl
theorem w1642 : Cond.instanceMethod yX9_isFit ∈ TW := TW_in (tb_in (List.mem_of_getElem? (i := 1642) rfl)) rfl
theorem w1643 : Cond.code yX9_isFit cX9_isFit 4 (some .boolean) ∈ TW := TW_in (tb_in (List.mem_of_getElem? (i := 1643) rfl)) rfl
theorem w1653 : Cond.methodLink RX9 109 yX9_isAbstract ∈ TW := TW_in (tb_in (List.mem_of_getElem? (i := 1653) rfl)) rfl
theorem w1655 : Cond.instanceMethod yX9_isAbstract ∈ TW := TW_in (tb_in (List.mem_of_getElem? (i := 1655) rfl)) rfl
theorem w1656 : Cond.code yX9_isAbstract cX9_isAbstract 3 (some .boolean) ∈ TW := TW_in (tb_in (List.mem_of_getElem? (i := 1656) rfl)) rfl
theorem w1669 : Cond.methodLink RX9 128 yX9_isIncomplete ∈ TW := TW_in (tb_in (List.mem_of_getElem? (i := 1669) rfl)) rfl
theorem w1671 : Cond.instanceMethod yX9_isIncomplete ∈ TW := TW_in (tb_in (List.mem_of_getElem? (i := 1671) rfl)) rfl
theorem w1672 : Cond.code yX9_isIncomplete cX9_isIncomplete 9 (some .boolean) ∈ TW := TW_in (tb_in (List.mem_of_getElem? (i := 1672) rfl)) rfl
theorem w1680 : Cond.methodLink RX9 229 yX9_wantsLike ∈ TW := TW_in (tb_in (List.mem_of_getElem? (i := 1680) rfl)) rfl
theorem w1682 : Cond.instanceMethod yX9_wantsLike ∈ TW := TW_in (tb_in (List.mem_of_getElem? (i := 1682) rfl)) rfl
theorem w1683 : Cond.code yX9_wantsLike cX9_wantsLike 3 none ∈ TW := TW_in (tb_in (List.mem_of_getElem? (i := 1683) rfl)) rfl
theorem w1689 : Cond.methodLink RX9 195 yX9_wants ∈ TW := TW_in (tb_in (List.mem_of_getElem? (i := 1689) rfl)) rfl
theorem w1691 : Cond.instanceMethod yX9_wants ∈ TW := TW_in (tb_in (List.mem_of_getElem? (i := 1691) rfl)) rfl
theorem w1692 : Cond.code yX9_wants cX9_wants 6 none ∈ TW := TW_in (tb_in (List.mem_of_getElem? (i := 1692) rfl)) rfl
theorem w1693 : Cond.methodLink RX9 232 yX9_selectedBy ∈ TW := TW_in (tb_in (List.mem_of_getElem? (i := 1693) rfl)) rfl
theorem w1695 : Cond.instanceMethod yX9_selectedBy ∈ TW := TW_in (tb_in (List.mem_of_getElem? (i := 1695) rfl)) rfl
theorem w1696 : Cond.code yX9_selectedBy cX9_selectedBy 7 (some .int) ∈ TW := TW_in (tb_in (List.mem_of_getElem? (i := 1696) rfl)) rfl
theorem w1697 : Cond.methodLink RX9 214 yX9_own ∈ TW := TW_in (tb_in (List.mem_of_getElem? (i := 1697) rfl)) rfl
theorem w1699 : Cond.instanceMethod yX9_own ∈ TW := TW_in (tb_in (List.mem_of_getElem? (i := 1699) rfl)) rfl
theorem w1700 : Cond.code yX9_own cX9_own 4 (some .int) ∈ TW := TW_in (tb_in (List.mem_of_getElem? (i := 1700) rfl)) rfl
theorem w1703 : Cond.methodLink RX9 217 yX9_isCandidate ∈ TW := TW_in (tb_in (List.mem_of_getElem? (i := 1703) rfl)) rfl
theorem w1705 : Cond.instanceMethod yX9_isCandidate ∈ TW := TW_in (tb_in (List.mem_of_getElem? (i := 1705) rfl)) rfl
theorem w1706 : Cond.code yX9_isCandidate cX9_isCandidate 3 (some .boolean) ∈ TW := TW_in (tb_in (List.mem_of_getElem? (i := 1706) rfl)) rfl
theorem w1712 : Cond.methodLink RX9 220 yX9_looksAt ∈ TW := TW_in (tb_in (List.mem_of_getElem? (i := 1712) rfl)) rfl
theorem w1714 : Cond.instanceMethod yX9_looksAt ∈ TW := TW_in (tb_in (List.mem_of_getElem? (i := 1714) rfl)) rfl
theorem w1715 : Cond.code yX9_looksAt cX9_looksAt 8 none ∈ TW := TW_in (tb_in (List.mem_of_getElem? (i := 1715) rfl)) rfl
theorem w1731 : Cond.methodLink RX9 253 yX9_isBase ∈ TW := TW_in (tb_in (List.mem_of_getElem? (i := 1731) rfl)) rfl
theorem w1733 : Cond.instanceMethod yX9_isBase ∈ TW := TW_in (tb_in (List.mem_of_getElem? (i := 1733) rfl)) rfl
theorem w1734 : Cond.code yX9_isBase cX9_isBase 3 (some .boolean) ∈ TW := TW_in (tb_in (List.mem_of_getElem? (i := 1734) rfl)) rfl
theorem w1740 : Cond.methodLink RX9 295 yX9_keepsReference ∈ TW := TW_in (tb_in (List.mem_of_getElem? (i := 1740) rfl)) rfl
theorem w1742 : Cond.instanceMethod yX9_keepsReference ∈ TW := TW_in (tb_in (List.mem_of_getElem? (i := 1742) rfl)) rfl
theorem w1743 : Cond.code yX9_keepsReference cX9_keepsReference 2 none ∈ TW := TW_in (tb_in (List.mem_of_getElem? (i := 1743) rfl)) rfl
theorem w1744 : Cond.methodLink RX9 287 yX9_clientMany ∈ TW := TW_in (tb_in (List.mem_of_getElem? (i := 1744) rfl)) rfl
theorem w1746 : Cond.instanceMethod yX9_clientMany ∈ TW := TW_in (tb_in (List.mem_of_getElem? (i := 1746) rfl)) rfl
theorem w1747 : Cond.code yX9_clientMany cX9_clientMany 1 (some .int) ∈ TW := TW_in (tb_in (List.mem_of_getElem? (i := 1747) rfl)) rfl
theorem w1748 : Cond.methodLink RX9 298 yX9_lies ∈ TW := TW_in (tb_in (List.mem_of_getElem? (i := 1748) rfl)) rfl
theorem w1750 : Cond.instanceMethod yX9_lies ∈ TW := TW_in (tb_in (List.mem_of_getElem? (i := 1750) rfl)) rfl
theorem w1751 : Cond.code yX9_lies cX9_lies 3 none ∈ TW := TW_in (tb_in (List.mem_of_getElem? (i := 1751) rfl)) rfl
theorem w1752 : Cond.methodLink RX9 239 yX9_client ∈ TW := TW_in (tb_in (List.mem_of_getElem? (i := 1752) rfl)) rfl
theorem w1753 : Cond.static yX9_client ∈ TW := TW_in (tb_in (List.mem_of_getElem? (i := 1753) rfl)) rfl
theorem w1754 : Cond.code yX9_client cX9_client 1 (some .int) ∈ TW := TW_in (tb_in (List.mem_of_getElem? (i := 1754) rfl)) rfl
theorem w1757 : Cond.fieldLink RX9 7 "CompatibilityJudgeModel" "now" "[I" ∈ TW := TW_in (tb_in (List.mem_of_getElem? (i := 1757) rfl)) rfl
theorem w1758 : Cond.fieldLink RX9 13 "CompatibilityJudgeModel" "past" "[I" ∈ TW := TW_in (tb_in (List.mem_of_getElem? (i := 1758) rfl)) rfl
theorem w1759 : Cond.fieldLink RX9 59 "CompatibilityJudgeModel" "saved" "I" ∈ TW := TW_in (tb_in (List.mem_of_getElem? (i := 1759) rfl)) rfl
theorem w1760 : Cond.fieldLink RX9 55 "CompatibilityJudgeModel" "refusal" "I" ∈ TW := TW_in (tb_in (List.mem_of_getElem? (i := 1760) rfl)) rfl
theorem w1761 : Cond.fieldLink RX9 16 "CompatibilityJudgeModel" "drafted" "[I" ∈ TW := TW_in (tb_in (List.mem_of_getElem? (i := 1761) rfl)) rfl
theorem w1762 : Cond.fieldLink RX9 19 "CompatibilityJudgeModel" "fields" "[I" ∈ TW := TW_in (tb_in (List.mem_of_getElem? (i := 1762) rfl)) rfl
theorem w1763 : Cond.fieldLink RX9 180 "CompatibilityJudgeModel" "wantedName" "I" ∈ TW := TW_in (tb_in (List.mem_of_getElem? (i := 1763) rfl)) rfl
theorem w1764 : Cond.fieldLink RX9 183 "CompatibilityJudgeModel" "wantedResult" "I" ∈ TW := TW_in (tb_in (List.mem_of_getElem? (i := 1764) rfl)) rfl
theorem w1765 : Cond.fieldLink RX9 186 "CompatibilityJudgeModel" "wantedMany" "I" ∈ TW := TW_in (tb_in (List.mem_of_getElem? (i := 1765) rfl)) rfl
theorem w1766 : Cond.fieldLink RX9 189 "CompatibilityJudgeModel" "wantedFirst" "I" ∈ TW := TW_in (tb_in (List.mem_of_getElem? (i := 1766) rfl)) rfl
theorem w1767 : Cond.fieldLink RX9 192 "CompatibilityJudgeModel" "wantedSecond" "I" ∈ TW := TW_in (tb_in (List.mem_of_getElem? (i := 1767) rfl)) rfl
theorem w1768 : Cond.fieldLink RX9 202 "CompatibilityJudgeModel" "maximal" "I" ∈ TW := TW_in (tb_in (List.mem_of_getElem? (i := 1768) rfl)) rfl
theorem w1769 : Cond.fieldLink RX9 205 "CompatibilityJudgeModel" "firstMaximal" "I" ∈ TW := TW_in (tb_in (List.mem_of_getElem? (i := 1769) rfl)) rfl
theorem w1770 : Cond.fieldLink RX9 208 "CompatibilityJudgeModel" "given" "I" ∈ TW := TW_in (tb_in (List.mem_of_getElem? (i := 1770) rfl)) rfl
theorem w1771 : Cond.fieldLink RX9 211 "CompatibilityJudgeModel" "firstGiven" "I" ∈ TW := TW_in (tb_in (List.mem_of_getElem? (i := 1771) rfl)) rfl
theorem w1772 : Cond.fieldLink RX9 22 "CompatibilityJudgeModel" "client" "[I" ∈ TW := TW_in (tb_in (List.mem_of_getElem? (i := 1772) rfl)) rfl
theorem w1773 : Cond.fieldLink RX9 25 "CompatibilityJudgeModel" "reference" "[I" ∈ TW := TW_in (tb_in (List.mem_of_getElem? (i := 1773) rfl)) rfl
theorem w1774 : Cond.fieldLink RX9 28 "CompatibilityJudgeModel" "applies" "[Z" ∈ TW := TW_in (tb_in (List.mem_of_getElem? (i := 1774) rfl)) rfl
theorem w1775 : Cond.fieldLink RX9 265 "CompatibilityJudgeModel" "target" "I" ∈ TW := TW_in (tb_in (List.mem_of_getElem? (i := 1775) rfl)) rfl
theorem w1776 : Cond.fieldLink RX9 325 "CompatibilityJudgeModel" "hash" "J" ∈ TW := TW_in (tb_in (List.mem_of_getElem? (i := 1776) rfl)) rfl
theorem w1818 : Cond.arrayClass .boolean ∈ TW := TW_in (tb_in (List.mem_of_getElem? (i := 1818) rfl)) rfl
theorem w1820 : Cond.instanceMethod yX9_thrown ∈ TW := TW_in (tb_in (List.mem_of_getElem? (i := 1820) rfl)) rfl
theorem w1821 : Cond.selects RX9 yX9_thrown yX9_thrown ∈ TW := TW_in (tb_in (List.mem_of_getElem? (i := 1821) rfl)) rfl
theorem w1822 : Cond.code yX9_thrown cX9_thrown 1 (some .int) ∈ TW := TW_in (tb_in (List.mem_of_getElem? (i := 1822) rfl)) rfl
theorem w1824 : Cond.instanceMethod yX9_undo ∈ TW := TW_in (tb_in (List.mem_of_getElem? (i := 1824) rfl)) rfl
theorem w1825 : Cond.selects RX9 yX9_undo yX9_undo ∈ TW := TW_in (tb_in (List.mem_of_getElem? (i := 1825) rfl)) rfl
theorem w1826 : Cond.code yX9_undo cX9_undo 2 (some .int) ∈ TW := TW_in (tb_in (List.mem_of_getElem? (i := 1826) rfl)) rfl
theorem w1827 : Cond.methodLink RX9 62 yX9_refused ∈ TW := TW_in (tb_in (List.mem_of_getElem? (i := 1827) rfl)) rfl
theorem w1829 : Cond.instanceMethod yX9_refused ∈ TW := TW_in (tb_in (List.mem_of_getElem? (i := 1829) rfl)) rfl
theorem w1830 : Cond.code yX9_refused cX9_refused 2 (some .boolean) ∈ TW := TW_in (tb_in (List.mem_of_getElem? (i := 1830) rfl)) rfl
theorem w1832 : Cond.instanceMethod yX9_define ∈ TW := TW_in (tb_in (List.mem_of_getElem? (i := 1832) rfl)) rfl
theorem w1833 : Cond.selects RX9 yX9_define yX9_define ∈ TW := TW_in (tb_in (List.mem_of_getElem? (i := 1833) rfl)) rfl
theorem w1834 : Cond.code yX9_define cX9_define 8 (some .int) ∈ TW := TW_in (tb_in (List.mem_of_getElem? (i := 1834) rfl)) rfl
theorem w1837 : Cond.methodLink RX9 87 yX9_mayBeAbove ∈ TW := TW_in (tb_in (List.mem_of_getElem? (i := 1837) rfl)) rfl
theorem w1839 : Cond.instanceMethod yX9_mayBeAbove ∈ TW := TW_in (tb_in (List.mem_of_getElem? (i := 1839) rfl)) rfl
theorem w1840 : Cond.code yX9_mayBeAbove cX9_mayBeAbove 4 (some .boolean) ∈ TW := TW_in (tb_in (List.mem_of_getElem? (i := 1840) rfl)) rfl
theorem w1844 : Cond.methodLink RX9 90 yX9_areInterfaces ∈ TW := TW_in (tb_in (List.mem_of_getElem? (i := 1844) rfl)) rfl
theorem w1846 : Cond.instanceMethod yX9_areInterfaces ∈ TW := TW_in (tb_in (List.mem_of_getElem? (i := 1846) rfl)) rfl
theorem w1847 : Cond.code yX9_areInterfaces cX9_areInterfaces 6 (some .boolean) ∈ TW := TW_in (tb_in (List.mem_of_getElem? (i := 1847) rfl)) rfl
theorem w1853 : Cond.methodLink RX9 93 yX9_saves ∈ TW := TW_in (tb_in (List.mem_of_getElem? (i := 1853) rfl)) rfl
theorem w1855 : Cond.instanceMethod yX9_saves ∈ TW := TW_in (tb_in (List.mem_of_getElem? (i := 1855) rfl)) rfl
theorem w1856 : Cond.code yX9_saves cX9_saves 2 none ∈ TW := TW_in (tb_in (List.mem_of_getElem? (i := 1856) rfl)) rfl
theorem w1858 : Cond.methodLink RX9 96 yX9_classMany ∈ TW := TW_in (tb_in (List.mem_of_getElem? (i := 1858) rfl)) rfl
theorem w1860 : Cond.instanceMethod yX9_classMany ∈ TW := TW_in (tb_in (List.mem_of_getElem? (i := 1860) rfl)) rfl
theorem w1861 : Cond.code yX9_classMany cX9_classMany 4 (some .int) ∈ TW := TW_in (tb_in (List.mem_of_getElem? (i := 1861) rfl)) rfl
theorem w1864 : Cond.instanceMethod yX9_removeClass ∈ TW := TW_in (tb_in (List.mem_of_getElem? (i := 1864) rfl)) rfl
theorem w1865 : Cond.selects RX9 yX9_removeClass yX9_removeClass ∈ TW := TW_in (tb_in (List.mem_of_getElem? (i := 1865) rfl)) rfl
theorem w1866 : Cond.code yX9_removeClass cX9_removeClass 5 (some .int) ∈ TW := TW_in (tb_in (List.mem_of_getElem? (i := 1866) rfl)) rfl
theorem w1868 : Cond.methodLink RX9 99 yX9_isAboveOne ∈ TW := TW_in (tb_in (List.mem_of_getElem? (i := 1868) rfl)) rfl
theorem w1870 : Cond.instanceMethod yX9_isAboveOne ∈ TW := TW_in (tb_in (List.mem_of_getElem? (i := 1870) rfl)) rfl
theorem w1871 : Cond.code yX9_isAboveOne cX9_isAboveOne 5 (some .boolean) ∈ TW := TW_in (tb_in (List.mem_of_getElem? (i := 1871) rfl)) rfl
theorem w1881 : Cond.methodLink RX9 105 yX9_drops ∈ TW := TW_in (tb_in (List.mem_of_getElem? (i := 1881) rfl)) rfl
theorem w1883 : Cond.instanceMethod yX9_drops ∈ TW := TW_in (tb_in (List.mem_of_getElem? (i := 1883) rfl)) rfl
theorem w1884 : Cond.code yX9_drops cX9_drops 4 none ∈ TW := TW_in (tb_in (List.mem_of_getElem? (i := 1884) rfl)) rfl
theorem w1890 : Cond.instanceMethod yX9_setClass ∈ TW := TW_in (tb_in (List.mem_of_getElem? (i := 1890) rfl)) rfl
theorem w1891 : Cond.selects RX9 yX9_setClass yX9_setClass ∈ TW := TW_in (tb_in (List.mem_of_getElem? (i := 1891) rfl)) rfl
theorem w1892 : Cond.code yX9_setClass cX9_setClass 10 (some .int) ∈ TW := TW_in (tb_in (List.mem_of_getElem? (i := 1892) rfl)) rfl
theorem w1894 : Cond.methodLink RX9 112 yX9_mayBe ∈ TW := TW_in (tb_in (List.mem_of_getElem? (i := 1894) rfl)) rfl
theorem w1896 : Cond.instanceMethod yX9_mayBe ∈ TW := TW_in (tb_in (List.mem_of_getElem? (i := 1896) rfl)) rfl
theorem w1897 : Cond.code yX9_mayBe cX9_mayBe 5 (some .boolean) ∈ TW := TW_in (tb_in (List.mem_of_getElem? (i := 1897) rfl)) rfl
theorem w1904 : Cond.methodLink RX9 116 yX9_isAbove ∈ TW := TW_in (tb_in (List.mem_of_getElem? (i := 1904) rfl)) rfl
theorem w1906 : Cond.instanceMethod yX9_isAbove ∈ TW := TW_in (tb_in (List.mem_of_getElem? (i := 1906) rfl)) rfl
theorem w1907 : Cond.code yX9_isAbove cX9_isAbove 5 (some .boolean) ∈ TW := TW_in (tb_in (List.mem_of_getElem? (i := 1907) rfl)) rfl
theorem w1910 : Cond.methodLink RX9 119 yX9_hasAbstract ∈ TW := TW_in (tb_in (List.mem_of_getElem? (i := 1910) rfl)) rfl
theorem w1912 : Cond.instanceMethod yX9_hasAbstract ∈ TW := TW_in (tb_in (List.mem_of_getElem? (i := 1912) rfl)) rfl
theorem w1913 : Cond.code yX9_hasAbstract cX9_hasAbstract 5 (some .boolean) ∈ TW := TW_in (tb_in (List.mem_of_getElem? (i := 1913) rfl)) rfl
theorem w1919 : Cond.methodLink RX9 122 yX9_placeOf ∈ TW := TW_in (tb_in (List.mem_of_getElem? (i := 1919) rfl)) rfl
theorem w1920 : Cond.static yX9_placeOf ∈ TW := TW_in (tb_in (List.mem_of_getElem? (i := 1920) rfl)) rfl
theorem w1921 : Cond.code yX9_placeOf cX9_placeOf 1 (some .int) ∈ TW := TW_in (tb_in (List.mem_of_getElem? (i := 1921) rfl)) rfl
theorem w1924 : Cond.instanceMethod yX9_exists ∈ TW := TW_in (tb_in (List.mem_of_getElem? (i := 1924) rfl)) rfl
theorem w1925 : Cond.selects RX9 yX9_exists yX9_exists ∈ TW := TW_in (tb_in (List.mem_of_getElem? (i := 1925) rfl)) rfl
theorem w1926 : Cond.code yX9_exists cX9_exists 3 (some .boolean) ∈ TW := TW_in (tb_in (List.mem_of_getElem? (i := 1926) rfl)) rfl
theorem w1932 : Cond.instanceMethod yX9_classInfo ∈ TW := TW_in (tb_in (List.mem_of_getElem? (i := 1932) rfl)) rfl
theorem w1933 : Cond.selects RX9 yX9_classInfo yX9_classInfo ∈ TW := TW_in (tb_in (List.mem_of_getElem? (i := 1933) rfl)) rfl
theorem w1934 : Cond.code yX9_classInfo cX9_classInfo 4 (some .int) ∈ TW := TW_in (tb_in (List.mem_of_getElem? (i := 1934) rfl)) rfl
theorem w1938 : Cond.methodLink RX9 131 yX9_infoOf ∈ TW := TW_in (tb_in (List.mem_of_getElem? (i := 1938) rfl)) rfl
theorem w1940 : Cond.instanceMethod yX9_infoOf ∈ TW := TW_in (tb_in (List.mem_of_getElem? (i := 1940) rfl)) rfl
theorem w1941 : Cond.code yX9_infoOf cX9_infoOf 6 (some .int) ∈ TW := TW_in (tb_in (List.mem_of_getElem? (i := 1941) rfl)) rfl
theorem w1950 : Cond.instanceMethod yX9_copyVersion ∈ TW := TW_in (tb_in (List.mem_of_getElem? (i := 1950) rfl)) rfl
theorem w1951 : Cond.selects RX9 yX9_copyVersion yX9_copyVersion ∈ TW := TW_in (tb_in (List.mem_of_getElem? (i := 1951) rfl)) rfl
theorem w1952 : Cond.code yX9_copyVersion cX9_copyVersion 2 (some .int) ∈ TW := TW_in (tb_in (List.mem_of_getElem? (i := 1952) rfl)) rfl
theorem w1956 : Cond.instanceMethod yX9_draft ∈ TW := TW_in (tb_in (List.mem_of_getElem? (i := 1956) rfl)) rfl
theorem w1957 : Cond.selects RX9 yX9_draft yX9_draft ∈ TW := TW_in (tb_in (List.mem_of_getElem? (i := 1957) rfl)) rfl
theorem w1958 : Cond.code yX9_draft cX9_draft 7 (some .int) ∈ TW := TW_in (tb_in (List.mem_of_getElem? (i := 1958) rfl)) rfl
theorem w1965 : Cond.instanceMethod yX9_addField ∈ TW := TW_in (tb_in (List.mem_of_getElem? (i := 1965) rfl)) rfl
theorem w1966 : Cond.selects RX9 yX9_addField yX9_addField ∈ TW := TW_in (tb_in (List.mem_of_getElem? (i := 1966) rfl)) rfl
theorem w1967 : Cond.code yX9_addField cX9_addField 6 (some .int) ∈ TW := TW_in (tb_in (List.mem_of_getElem? (i := 1967) rfl)) rfl
theorem w1968 : Cond.methodLink RX9 148 yX9_added ∈ TW := TW_in (tb_in (List.mem_of_getElem? (i := 1968) rfl)) rfl
theorem w1970 : Cond.instanceMethod yX9_added ∈ TW := TW_in (tb_in (List.mem_of_getElem? (i := 1970) rfl)) rfl
theorem w1971 : Cond.code yX9_added cX9_added 11 (some .int) ∈ TW := TW_in (tb_in (List.mem_of_getElem? (i := 1971) rfl)) rfl
theorem w1974 : Cond.methodLink RX9 138 yX9_mayBeMethod ∈ TW := TW_in (tb_in (List.mem_of_getElem? (i := 1974) rfl)) rfl
theorem w1976 : Cond.instanceMethod yX9_mayBeMethod ∈ TW := TW_in (tb_in (List.mem_of_getElem? (i := 1976) rfl)) rfl
theorem w1977 : Cond.code yX9_mayBeMethod cX9_mayBeMethod 6 (some .boolean) ∈ TW := TW_in (tb_in (List.mem_of_getElem? (i := 1977) rfl)) rfl
theorem w1984 : Cond.methodLink RX9 141 yX9_mayBeField ∈ TW := TW_in (tb_in (List.mem_of_getElem? (i := 1984) rfl)) rfl
theorem w1986 : Cond.instanceMethod yX9_mayBeField ∈ TW := TW_in (tb_in (List.mem_of_getElem? (i := 1986) rfl)) rfl
theorem w1987 : Cond.code yX9_mayBeField cX9_mayBeField 5 (some .boolean) ∈ TW := TW_in (tb_in (List.mem_of_getElem? (i := 1987) rfl)) rfl
theorem w1998 : Cond.instanceMethod yX9_addMethod ∈ TW := TW_in (tb_in (List.mem_of_getElem? (i := 1998) rfl)) rfl
theorem w1999 : Cond.selects RX9 yX9_addMethod yX9_addMethod ∈ TW := TW_in (tb_in (List.mem_of_getElem? (i := 1999) rfl)) rfl
theorem w2000 : Cond.code yX9_addMethod cX9_addMethod 6 (some .int) ∈ TW := TW_in (tb_in (List.mem_of_getElem? (i := 2000) rfl)) rfl
theorem w2003 : Cond.instanceMethod yX9_removeMember ∈ TW := TW_in (tb_in (List.mem_of_getElem? (i := 2003) rfl)) rfl
theorem w2004 : Cond.selects RX9 yX9_removeMember yX9_removeMember ∈ TW := TW_in (tb_in (List.mem_of_getElem? (i := 2004) rfl)) rfl
theorem w2005 : Cond.code yX9_removeMember cX9_removeMember 3 (some .int) ∈ TW := TW_in (tb_in (List.mem_of_getElem? (i := 2005) rfl)) rfl
theorem w2006 : Cond.methodLink RX9 152 yX9_isMember ∈ TW := TW_in (tb_in (List.mem_of_getElem? (i := 2006) rfl)) rfl
theorem w2008 : Cond.instanceMethod yX9_isMember ∈ TW := TW_in (tb_in (List.mem_of_getElem? (i := 2008) rfl)) rfl
theorem w2009 : Cond.code yX9_isMember cX9_isMember 3 (some .boolean) ∈ TW := TW_in (tb_in (List.mem_of_getElem? (i := 2009) rfl)) rfl
theorem w2018 : Cond.instanceMethod yX9_setMember ∈ TW := TW_in (tb_in (List.mem_of_getElem? (i := 2018) rfl)) rfl
theorem w2019 : Cond.selects RX9 yX9_setMember yX9_setMember ∈ TW := TW_in (tb_in (List.mem_of_getElem? (i := 2019) rfl)) rfl
theorem w2020 : Cond.code yX9_setMember cX9_setMember 8 (some .int) ∈ TW := TW_in (tb_in (List.mem_of_getElem? (i := 2020) rfl)) rfl
theorem w2022 : Cond.methodLink RX9 158 yX9_maySet ∈ TW := TW_in (tb_in (List.mem_of_getElem? (i := 2022) rfl)) rfl
theorem w2024 : Cond.instanceMethod yX9_maySet ∈ TW := TW_in (tb_in (List.mem_of_getElem? (i := 2024) rfl)) rfl
theorem w2025 : Cond.code yX9_maySet cX9_maySet 6 (some .boolean) ∈ TW := TW_in (tb_in (List.mem_of_getElem? (i := 2025) rfl)) rfl
theorem w2045 : Cond.instanceMethod yX9_moveMember ∈ TW := TW_in (tb_in (List.mem_of_getElem? (i := 2045) rfl)) rfl
theorem w2046 : Cond.selects RX9 yX9_moveMember yX9_moveMember ∈ TW := TW_in (tb_in (List.mem_of_getElem? (i := 2046) rfl)) rfl
theorem w2047 : Cond.code yX9_moveMember cX9_moveMember 8 (some .int) ∈ TW := TW_in (tb_in (List.mem_of_getElem? (i := 2047) rfl)) rfl
theorem w2068 : Cond.instanceMethod yX9_members ∈ TW := TW_in (tb_in (List.mem_of_getElem? (i := 2068) rfl)) rfl
theorem w2069 : Cond.selects RX9 yX9_members yX9_members ∈ TW := TW_in (tb_in (List.mem_of_getElem? (i := 2069) rfl)) rfl
theorem w2070 : Cond.code yX9_members cX9_members 2 (some .int) ∈ TW := TW_in (tb_in (List.mem_of_getElem? (i := 2070) rfl)) rfl
theorem w2075 : Cond.instanceMethod yX9_memberInfo ∈ TW := TW_in (tb_in (List.mem_of_getElem? (i := 2075) rfl)) rfl
theorem w2076 : Cond.selects RX9 yX9_memberInfo yX9_memberInfo ∈ TW := TW_in (tb_in (List.mem_of_getElem? (i := 2076) rfl)) rfl
theorem w2077 : Cond.code yX9_memberInfo cX9_memberInfo 4 (some .int) ∈ TW := TW_in (tb_in (List.mem_of_getElem? (i := 2077) rfl)) rfl
theorem w2081 : Cond.methodLink RX9 164 yX9_toldOf ∈ TW := TW_in (tb_in (List.mem_of_getElem? (i := 2081) rfl)) rfl
theorem w2083 : Cond.instanceMethod yX9_toldOf ∈ TW := TW_in (tb_in (List.mem_of_getElem? (i := 2083) rfl)) rfl
theorem w2084 : Cond.code yX9_toldOf cX9_toldOf 5 (some .int) ∈ TW := TW_in (tb_in (List.mem_of_getElem? (i := 2084) rfl)) rfl
theorem w2096 : Cond.instanceMethod yX9_fits ∈ TW := TW_in (tb_in (List.mem_of_getElem? (i := 2096) rfl)) rfl
theorem w2097 : Cond.selects RX9 yX9_fits yX9_fits ∈ TW := TW_in (tb_in (List.mem_of_getElem? (i := 2097) rfl)) rfl
theorem w2098 : Cond.code yX9_fits cX9_fits 4 (some .boolean) ∈ TW := TW_in (tb_in (List.mem_of_getElem? (i := 2098) rfl)) rfl
theorem w2100 : Cond.methodLink RX9 167 yX9_isType ∈ TW := TW_in (tb_in (List.mem_of_getElem? (i := 2100) rfl)) rfl
theorem w2101 : Cond.static yX9_isType ∈ TW := TW_in (tb_in (List.mem_of_getElem? (i := 2101) rfl)) rfl
theorem w2102 : Cond.code yX9_isType cX9_isType 1 (some .boolean) ∈ TW := TW_in (tb_in (List.mem_of_getElem? (i := 2102) rfl)) rfl
theorem w2108 : Cond.instanceMethod yX9_field ∈ TW := TW_in (tb_in (List.mem_of_getElem? (i := 2108) rfl)) rfl
theorem w2109 : Cond.selects RX9 yX9_field yX9_field ∈ TW := TW_in (tb_in (List.mem_of_getElem? (i := 2109) rfl)) rfl
theorem w2110 : Cond.code yX9_field cX9_field 4 (some .int) ∈ TW := TW_in (tb_in (List.mem_of_getElem? (i := 2110) rfl)) rfl
theorem w2116 : Cond.instanceMethod yX9_method ∈ TW := TW_in (tb_in (List.mem_of_getElem? (i := 2116) rfl)) rfl
theorem w2117 : Cond.selects RX9 yX9_method yX9_method ∈ TW := TW_in (tb_in (List.mem_of_getElem? (i := 2117) rfl)) rfl
theorem w2118 : Cond.code yX9_method cX9_method 4 (some .int) ∈ TW := TW_in (tb_in (List.mem_of_getElem? (i := 2118) rfl)) rfl
theorem w2123 : Cond.methodLink RX9 226 yX9_methodOf ∈ TW := TW_in (tb_in (List.mem_of_getElem? (i := 2123) rfl)) rfl
theorem w2125 : Cond.instanceMethod yX9_methodOf ∈ TW := TW_in (tb_in (List.mem_of_getElem? (i := 2125) rfl)) rfl
theorem w2126 : Cond.code yX9_methodOf cX9_methodOf 5 (some .int) ∈ TW := TW_in (tb_in (List.mem_of_getElem? (i := 2126) rfl)) rfl
theorem w2131 : Cond.methodLink RX9 223 yX9_interfaceMethod ∈ TW := TW_in (tb_in (List.mem_of_getElem? (i := 2131) rfl)) rfl
theorem w2133 : Cond.instanceMethod yX9_interfaceMethod ∈ TW := TW_in (tb_in (List.mem_of_getElem? (i := 2133) rfl)) rfl
theorem w2134 : Cond.code yX9_interfaceMethod cX9_interfaceMethod 3 (some .int) ∈ TW := TW_in (tb_in (List.mem_of_getElem? (i := 2134) rfl)) rfl
theorem w2138 : Cond.instanceMethod yX9_selected ∈ TW := TW_in (tb_in (List.mem_of_getElem? (i := 2138) rfl)) rfl
theorem w2139 : Cond.selects RX9 yX9_selected yX9_selected ∈ TW := TW_in (tb_in (List.mem_of_getElem? (i := 2139) rfl)) rfl
theorem w2140 : Cond.code yX9_selected cX9_selected 6 (some .int) ∈ TW := TW_in (tb_in (List.mem_of_getElem? (i := 2140) rfl)) rfl
theorem w2150 : Cond.methodLink RX9 236 yX9_selectedFor ∈ TW := TW_in (tb_in (List.mem_of_getElem? (i := 2150) rfl)) rfl
theorem w2152 : Cond.instanceMethod yX9_selectedFor ∈ TW := TW_in (tb_in (List.mem_of_getElem? (i := 2152) rfl)) rfl
theorem w2153 : Cond.code yX9_selectedFor cX9_selectedFor 4 (some .int) ∈ TW := TW_in (tb_in (List.mem_of_getElem? (i := 2153) rfl)) rfl
theorem w2160 : Cond.instanceMethod yX9_addClient ∈ TW := TW_in (tb_in (List.mem_of_getElem? (i := 2160) rfl)) rfl
theorem w2161 : Cond.selects RX9 yX9_addClient yX9_addClient ∈ TW := TW_in (tb_in (List.mem_of_getElem? (i := 2161) rfl)) rfl
theorem w2162 : Cond.code yX9_addClient cX9_addClient 6 (some .int) ∈ TW := TW_in (tb_in (List.mem_of_getElem? (i := 2162) rfl)) rfl
theorem w2175 : Cond.instanceMethod yX9_setBase ∈ TW := TW_in (tb_in (List.mem_of_getElem? (i := 2175) rfl)) rfl
theorem w2176 : Cond.selects RX9 yX9_setBase yX9_setBase ∈ TW := TW_in (tb_in (List.mem_of_getElem? (i := 2176) rfl)) rfl
theorem w2177 : Cond.code yX9_setBase cX9_setBase 6 (some .int) ∈ TW := TW_in (tb_in (List.mem_of_getElem? (i := 2177) rfl)) rfl
theorem w2178 : Cond.methodLink RX9 302 yX9_isClient ∈ TW := TW_in (tb_in (List.mem_of_getElem? (i := 2178) rfl)) rfl
theorem w2180 : Cond.instanceMethod yX9_isClient ∈ TW := TW_in (tb_in (List.mem_of_getElem? (i := 2180) rfl)) rfl
theorem w2181 : Cond.code yX9_isClient cX9_isClient 2 (some .boolean) ∈ TW := TW_in (tb_in (List.mem_of_getElem? (i := 2181) rfl)) rfl
theorem w2184 : Cond.methodLink RX9 305 yX9_takes ∈ TW := TW_in (tb_in (List.mem_of_getElem? (i := 2184) rfl)) rfl
theorem w2186 : Cond.instanceMethod yX9_takes ∈ TW := TW_in (tb_in (List.mem_of_getElem? (i := 2186) rfl)) rfl
theorem w2187 : Cond.code yX9_takes cX9_takes 3 none ∈ TW := TW_in (tb_in (List.mem_of_getElem? (i := 2187) rfl)) rfl
theorem w2196 : Cond.instanceMethod yX9_removeClient ∈ TW := TW_in (tb_in (List.mem_of_getElem? (i := 2196) rfl)) rfl
theorem w2197 : Cond.selects RX9 yX9_removeClient yX9_removeClient ∈ TW := TW_in (tb_in (List.mem_of_getElem? (i := 2197) rfl)) rfl
theorem w2198 : Cond.code yX9_removeClient cX9_removeClient 3 (some .int) ∈ TW := TW_in (tb_in (List.mem_of_getElem? (i := 2198) rfl)) rfl
theorem w2207 : Cond.instanceMethod yX9_clients ∈ TW := TW_in (tb_in (List.mem_of_getElem? (i := 2207) rfl)) rfl
theorem w2208 : Cond.selects RX9 yX9_clients yX9_clients ∈ TW := TW_in (tb_in (List.mem_of_getElem? (i := 2208) rfl)) rfl
theorem w2209 : Cond.code yX9_clients cX9_clients 1 (some .int) ∈ TW := TW_in (tb_in (List.mem_of_getElem? (i := 2209) rfl)) rfl
theorem w2212 : Cond.instanceMethod yX9_clientInfo ∈ TW := TW_in (tb_in (List.mem_of_getElem? (i := 2212) rfl)) rfl
theorem w2213 : Cond.selects RX9 yX9_clientInfo yX9_clientInfo ∈ TW := TW_in (tb_in (List.mem_of_getElem? (i := 2213) rfl)) rfl
theorem w2214 : Cond.code yX9_clientInfo cX9_clientInfo 3 (some .int) ∈ TW := TW_in (tb_in (List.mem_of_getElem? (i := 2214) rfl)) rfl
theorem w2218 : Cond.methodLink RX9 308 yX9_clientTold ∈ TW := TW_in (tb_in (List.mem_of_getElem? (i := 2218) rfl)) rfl
theorem w2220 : Cond.instanceMethod yX9_clientTold ∈ TW := TW_in (tb_in (List.mem_of_getElem? (i := 2220) rfl)) rfl
theorem w2221 : Cond.code yX9_clientTold cX9_clientTold 3 (some .int) ∈ TW := TW_in (tb_in (List.mem_of_getElem? (i := 2221) rfl)) rfl
theorem w2228 : Cond.instanceMethod yX9_compile ∈ TW := TW_in (tb_in (List.mem_of_getElem? (i := 2228) rfl)) rfl
theorem w2229 : Cond.selects RX9 yX9_compile yX9_compile ∈ TW := TW_in (tb_in (List.mem_of_getElem? (i := 2229) rfl)) rfl
theorem w2230 : Cond.code yX9_compile cX9_compile 3 (some .int) ∈ TW := TW_in (tb_in (List.mem_of_getElem? (i := 2230) rfl)) rfl
theorem w2231 : Cond.methodLink RX9 311 yX9_isBoth ∈ TW := TW_in (tb_in (List.mem_of_getElem? (i := 2231) rfl)) rfl
theorem w2233 : Cond.instanceMethod yX9_isBoth ∈ TW := TW_in (tb_in (List.mem_of_getElem? (i := 2233) rfl)) rfl
theorem w2234 : Cond.code yX9_isBoth cX9_isBoth 3 (some .boolean) ∈ TW := TW_in (tb_in (List.mem_of_getElem? (i := 2234) rfl)) rfl
theorem w2241 : Cond.instanceMethod yX9_link ∈ TW := TW_in (tb_in (List.mem_of_getElem? (i := 2241) rfl)) rfl
theorem w2242 : Cond.selects RX9 yX9_link yX9_link ∈ TW := TW_in (tb_in (List.mem_of_getElem? (i := 2242) rfl)) rfl
theorem w2243 : Cond.code yX9_link cX9_link 3 (some .int) ∈ TW := TW_in (tb_in (List.mem_of_getElem? (i := 2243) rfl)) rfl
theorem w2247 : Cond.methodLink RX9 277 yX9_linked ∈ TW := TW_in (tb_in (List.mem_of_getElem? (i := 2247) rfl)) rfl
theorem w2249 : Cond.instanceMethod yX9_linked ∈ TW := TW_in (tb_in (List.mem_of_getElem? (i := 2249) rfl)) rfl
theorem w2250 : Cond.code yX9_linked cX9_linked 3 (some .int) ∈ TW := TW_in (tb_in (List.mem_of_getElem? (i := 2250) rfl)) rfl
theorem w2253 : Cond.methodLink RX9 268 yX9_linkedField ∈ TW := TW_in (tb_in (List.mem_of_getElem? (i := 2253) rfl)) rfl
theorem w2255 : Cond.instanceMethod yX9_linkedField ∈ TW := TW_in (tb_in (List.mem_of_getElem? (i := 2255) rfl)) rfl
theorem w2256 : Cond.code yX9_linkedField cX9_linkedField 4 (some .int) ∈ TW := TW_in (tb_in (List.mem_of_getElem? (i := 2256) rfl)) rfl
theorem w2262 : Cond.methodLink RX9 271 yX9_linkedCall ∈ TW := TW_in (tb_in (List.mem_of_getElem? (i := 2262) rfl)) rfl
theorem w2264 : Cond.instanceMethod yX9_linkedCall ∈ TW := TW_in (tb_in (List.mem_of_getElem? (i := 2264) rfl)) rfl
theorem w2265 : Cond.code yX9_linkedCall cX9_linkedCall 5 (some .int) ∈ TW := TW_in (tb_in (List.mem_of_getElem? (i := 2265) rfl)) rfl
theorem w2282 : Cond.methodLink RX9 274 yX9_linkedBase ∈ TW := TW_in (tb_in (List.mem_of_getElem? (i := 2282) rfl)) rfl
theorem w2284 : Cond.instanceMethod yX9_linkedBase ∈ TW := TW_in (tb_in (List.mem_of_getElem? (i := 2284) rfl)) rfl
theorem w2285 : Cond.code yX9_linkedBase cX9_linkedBase 4 (some .int) ∈ TW := TW_in (tb_in (List.mem_of_getElem? (i := 2285) rfl)) rfl
theorem w2292 : Cond.instanceMethod yX9_target ∈ TW := TW_in (tb_in (List.mem_of_getElem? (i := 2292) rfl)) rfl
theorem w2293 : Cond.selects RX9 yX9_target yX9_target ∈ TW := TW_in (tb_in (List.mem_of_getElem? (i := 2293) rfl)) rfl
theorem w2294 : Cond.code yX9_target cX9_target 3 (some .int) ∈ TW := TW_in (tb_in (List.mem_of_getElem? (i := 2294) rfl)) rfl
theorem w2300 : Cond.instanceMethod yX9_verdict ∈ TW := TW_in (tb_in (List.mem_of_getElem? (i := 2300) rfl)) rfl
theorem w2301 : Cond.selects RX9 yX9_verdict yX9_verdict ∈ TW := TW_in (tb_in (List.mem_of_getElem? (i := 2301) rfl)) rfl
theorem w2302 : Cond.code yX9_verdict cX9_verdict 2 (some .int) ∈ TW := TW_in (tb_in (List.mem_of_getElem? (i := 2302) rfl)) rfl
theorem w2306 : Cond.methodLink RX9 314 yX9_judged ∈ TW := TW_in (tb_in (List.mem_of_getElem? (i := 2306) rfl)) rfl
theorem w2308 : Cond.instanceMethod yX9_judged ∈ TW := TW_in (tb_in (List.mem_of_getElem? (i := 2308) rfl)) rfl
theorem w2309 : Cond.code yX9_judged cX9_judged 3 (some .int) ∈ TW := TW_in (tb_in (List.mem_of_getElem? (i := 2309) rfl)) rfl
theorem w2312 : Cond.methodLink RX9 283 yX9_isOther ∈ TW := TW_in (tb_in (List.mem_of_getElem? (i := 2312) rfl)) rfl
theorem w2314 : Cond.instanceMethod yX9_isOther ∈ TW := TW_in (tb_in (List.mem_of_getElem? (i := 2314) rfl)) rfl
theorem w2315 : Cond.code yX9_isOther cX9_isOther 3 (some .boolean) ∈ TW := TW_in (tb_in (List.mem_of_getElem? (i := 2315) rfl)) rfl
theorem w2318 : Cond.instanceMethod yX9_count ∈ TW := TW_in (tb_in (List.mem_of_getElem? (i := 2318) rfl)) rfl
theorem w2319 : Cond.selects RX9 yX9_count yX9_count ∈ TW := TW_in (tb_in (List.mem_of_getElem? (i := 2319) rfl)) rfl
theorem w2320 : Cond.code yX9_count cX9_count 4 (some .int) ∈ TW := TW_in (tb_in (List.mem_of_getElem? (i := 2320) rfl)) rfl
theorem w2327 : Cond.instanceMethod yX9_sample ∈ TW := TW_in (tb_in (List.mem_of_getElem? (i := 2327) rfl)) rfl
theorem w2328 : Cond.selects RX9 yX9_sample yX9_sample ∈ TW := TW_in (tb_in (List.mem_of_getElem? (i := 2328) rfl)) rfl
theorem w2329 : Cond.code yX9_sample cX9_sample 5 (some .int) ∈ TW := TW_in (tb_in (List.mem_of_getElem? (i := 2329) rfl)) rfl
theorem w2334 : Cond.methodLink RX9 320 yX9_seeks ∈ TW := TW_in (tb_in (List.mem_of_getElem? (i := 2334) rfl)) rfl
theorem w2336 : Cond.instanceMethod yX9_seeks ∈ TW := TW_in (tb_in (List.mem_of_getElem? (i := 2336) rfl)) rfl
theorem w2337 : Cond.code yX9_seeks cX9_seeks 8 (some .boolean) ∈ TW := TW_in (tb_in (List.mem_of_getElem? (i := 2337) rfl)) rfl
theorem w2339 : Cond.methodLink RX9 317 yX9_isSought ∈ TW := TW_in (tb_in (List.mem_of_getElem? (i := 2339) rfl)) rfl
theorem w2341 : Cond.instanceMethod yX9_isSought ∈ TW := TW_in (tb_in (List.mem_of_getElem? (i := 2341) rfl)) rfl
theorem w2342 : Cond.code yX9_isSought cX9_isSought 3 (some .boolean) ∈ TW := TW_in (tb_in (List.mem_of_getElem? (i := 2342) rfl)) rfl
theorem w2347 : Cond.instanceMethod yX9_checksum ∈ TW := TW_in (tb_in (List.mem_of_getElem? (i := 2347) rfl)) rfl
theorem w2348 : Cond.selects RX9 yX9_checksum yX9_checksum ∈ TW := TW_in (tb_in (List.mem_of_getElem? (i := 2348) rfl)) rfl
theorem w2349 : Cond.code yX9_checksum cX9_checksum 4 (some .long) ∈ TW := TW_in (tb_in (List.mem_of_getElem? (i := 2349) rfl)) rfl
theorem w2350 : Cond.constantLong RX9 329 (17317 : Int64) ∈ TW := TW_in (tb_in (List.mem_of_getElem? (i := 2350) rfl)) rfl
theorem w2352 : Cond.constantLong RX9 331 (-3 : Int64) ∈ TW := TW_in (tb_in (List.mem_of_getElem? (i := 2352) rfl)) rfl
theorem w2353 : Cond.methodLink RX9 333 yX9_mix ∈ TW := TW_in (tb_in (List.mem_of_getElem? (i := 2353) rfl)) rfl
theorem w2355 : Cond.instanceMethod yX9_mix ∈ TW := TW_in (tb_in (List.mem_of_getElem? (i := 2355) rfl)) rfl
theorem w2356 : Cond.code yX9_mix cX9_mix 3 none ∈ TW := TW_in (tb_in (List.mem_of_getElem? (i := 2356) rfl)) rfl
theorem w2357 : Cond.constantLong RX9 323 (31 : Int64) ∈ TW := TW_in (tb_in (List.mem_of_getElem? (i := 2357) rfl)) rfl
theorem fl_X0_15 : FL RX0 15 0 1 := ⟨_, rfl, by decide, w223⟩
theorem fl_X0_18 : FL RX0 18 0 2 := ⟨_, rfl, by decide, w227⟩
theorem fl_X0_21 : FL RX0 21 0 3 := ⟨_, rfl, by decide, w231⟩
theorem fl_X0_24 : FL RX0 24 0 4 := ⟨_, rfl, by decide, w236⟩
theorem fl_X0_27 : FL RX0 27 0 5 := ⟨_, rfl, by decide, w241⟩
theorem fl_X0_30 : FL RX0 30 0 6 := ⟨_, rfl, by decide, w244⟩
theorem fl_X0_33 : FL RX0 33 0 7 := ⟨_, rfl, by decide, w247⟩
theorem fl_X0_39 : FL RX0 39 0 8 := ⟨_, rfl, by decide, w250⟩
theorem fl_X0_61 : FL RX0 61 7 0 := ⟨_, rfl, by decide, w183⟩
theorem fl_X0_65 : FL RX0 65 7 1 := ⟨_, rfl, by decide, w186⟩
theorem fl_X0_68 : FL RX0 68 7 2 := ⟨_, rfl, by decide, w190⟩
theorem fl_X0_71 : FL RX0 71 7 3 := ⟨_, rfl, by decide, w194⟩
theorem fl_X0_9 : FL RX0 9 0 0 := ⟨_, rfl, by decide, w219⟩
theorem fl_X1_101 : FL RX1 101 7 1 := ⟨_, rfl, by decide, w185⟩
theorem fl_X1_103 : FL RX1 103 4 7 := ⟨_, rfl, by decide, w78⟩
theorem fl_X1_106 : FL RX1 106 7 2 := ⟨_, rfl, by decide, w189⟩
theorem fl_X1_108 : FL RX1 108 7 3 := ⟨_, rfl, by decide, w193⟩
theorem fl_X1_119 : FL RX1 119 4 9 := ⟨_, rfl, by decide, w84⟩
theorem fl_X1_12 : FL RX1 12 1 1 := ⟨_, rfl, by decide, w331⟩
theorem fl_X1_122 : FL RX1 122 7 4 := ⟨_, rfl, by decide, w197⟩
theorem fl_X1_124 : FL RX1 124 4 10 := ⟨_, rfl, by decide, w86⟩
theorem fl_X1_127 : FL RX1 127 7 5 := ⟨_, rfl, by decide, w200⟩
theorem fl_X1_132 : FL RX1 132 7 6 := ⟨_, rfl, by decide, w203⟩
theorem fl_X1_135 : FL RX1 135 2 8 := ⟨_, rfl, by decide, w131⟩
theorem fl_X1_138 : FL RX1 138 4 0 := ⟨_, rfl, by decide, w50⟩
theorem fl_X1_141 : FL RX1 141 4 4 := ⟨_, rfl, by decide, w65⟩
theorem fl_X1_144 : FL RX1 144 4 6 := ⟨_, rfl, by decide, w74⟩
theorem fl_X1_146 : FL RX1 146 4 8 := ⟨_, rfl, by decide, w82⟩
theorem fl_X1_149 : FL RX1 149 0 5 := ⟨_, rfl, by decide, w242⟩
theorem fl_X1_151 : FL RX1 151 4 5 := ⟨_, rfl, by decide, w70⟩
theorem fl_X1_154 : FL RX1 154 0 6 := ⟨_, rfl, by decide, w245⟩
theorem fl_X1_158 : FL RX1 158 0 7 := ⟨_, rfl, by decide, w248⟩
theorem fl_X1_162 : FL RX1 162 4 1 := ⟨_, rfl, by decide, w54⟩
theorem fl_X1_168 : FL RX1 168 4 11 := ⟨_, rfl, by decide, w88⟩
theorem fl_X1_178 : FL RX1 178 2 9 := ⟨_, rfl, by decide, w136⟩
theorem fl_X1_18 : FL RX1 18 1 2 := ⟨_, rfl, by decide, w333⟩
theorem fl_X1_184 : FL RX1 184 0 4 := ⟨_, rfl, by decide, w238⟩
theorem fl_X1_22 : FL RX1 22 1 3 := ⟨_, rfl, by decide, w334⟩
theorem fl_X1_26 : FL RX1 26 1 4 := ⟨_, rfl, by decide, w335⟩
theorem fl_X1_30 : FL RX1 30 1 0 := ⟨_, rfl, by decide, w330⟩
theorem fl_X1_37 : FL RX1 37 0 1 := ⟨_, rfl, by decide, w224⟩
theorem fl_X1_48 : FL RX1 48 0 3 := ⟨_, rfl, by decide, w232⟩
theorem fl_X1_55 : FL RX1 55 0 0 := ⟨_, rfl, by decide, w220⟩
theorem fl_X1_75 : FL RX1 75 0 2 := ⟨_, rfl, by decide, w228⟩
theorem fl_X1_86 : FL RX1 86 2 10 := ⟨_, rfl, by decide, w141⟩
theorem fl_X1_90 : FL RX1 90 4 2 := ⟨_, rfl, by decide, w59⟩
theorem fl_X1_95 : FL RX1 95 4 3 := ⟨_, rfl, by decide, w63⟩
theorem fl_X1_98 : FL RX1 98 7 0 := ⟨_, rfl, by decide, w182⟩
theorem fl_X2_101 : FL RX2 101 4 4 := ⟨_, rfl, by decide, w67⟩
theorem fl_X2_104 : FL RX2 104 4 1 := ⟨_, rfl, by decide, w56⟩
theorem fl_X2_107 : FL RX2 107 4 2 := ⟨_, rfl, by decide, w61⟩
theorem fl_X2_117 : FL RX2 117 4 5 := ⟨_, rfl, by decide, w72⟩
theorem fl_X2_120 : FL RX2 120 0 3 := ⟨_, rfl, by decide, w234⟩
theorem fl_X2_124 : FL RX2 124 0 4 := ⟨_, rfl, by decide, w239⟩
theorem fl_X2_127 : FL RX2 127 4 6 := ⟨_, rfl, by decide, w76⟩
theorem fl_X2_130 : FL RX2 130 4 7 := ⟨_, rfl, by decide, w80⟩
theorem fl_X2_136 : FL RX2 136 4 12 := ⟨_, rfl, by decide, w92⟩
theorem fl_X2_15 : FL RX2 15 2 1 := ⟨_, rfl, by decide, w123⟩
theorem fl_X2_18 : FL RX2 18 2 2 := ⟨_, rfl, by decide, w124⟩
theorem fl_X2_21 : FL RX2 21 2 3 := ⟨_, rfl, by decide, w125⟩
theorem fl_X2_24 : FL RX2 24 2 4 := ⟨_, rfl, by decide, w126⟩
theorem fl_X2_27 : FL RX2 27 2 5 := ⟨_, rfl, by decide, w127⟩
theorem fl_X2_31 : FL RX2 31 2 6 := ⟨_, rfl, by decide, w128⟩
theorem fl_X2_34 : FL RX2 34 2 7 := ⟨_, rfl, by decide, w129⟩
theorem fl_X2_37 : FL RX2 37 2 8 := ⟨_, rfl, by decide, w130⟩
theorem fl_X2_40 : FL RX2 40 2 9 := ⟨_, rfl, by decide, w134⟩
theorem fl_X2_46 : FL RX2 46 2 10 := ⟨_, rfl, by decide, w138⟩
theorem fl_X2_50 : FL RX2 50 2 11 := ⟨_, rfl, by decide, w142⟩
theorem fl_X2_53 : FL RX2 53 4 0 := ⟨_, rfl, by decide, w51⟩
theorem fl_X2_9 : FL RX2 9 2 0 := ⟨_, rfl, by decide, w121⟩
theorem fl_X3_100 : FL RX3 100 7 6 := ⟨_, rfl, by decide, w202⟩
theorem fl_X3_103 : FL RX3 103 7 4 := ⟨_, rfl, by decide, w196⟩
theorem fl_X3_106 : FL RX3 106 7 5 := ⟨_, rfl, by decide, w199⟩
theorem fl_X3_122 : FL RX3 122 2 9 := ⟨_, rfl, by decide, w135⟩
theorem fl_X3_125 : FL RX3 125 2 8 := ⟨_, rfl, by decide, w132⟩
theorem fl_X3_138 : FL RX3 138 0 4 := ⟨_, rfl, by decide, w237⟩
theorem fl_X3_15 : FL RX3 15 3 0 := ⟨_, rfl, by decide, w354⟩
theorem fl_X3_19 : FL RX3 19 0 8 := ⟨_, rfl, by decide, w251⟩
theorem fl_X3_25 : FL RX3 25 7 0 := ⟨_, rfl, by decide, w181⟩
theorem fl_X3_31 : FL RX3 31 0 1 := ⟨_, rfl, by decide, w225⟩
theorem fl_X3_40 : FL RX3 40 0 3 := ⟨_, rfl, by decide, w233⟩
theorem fl_X3_47 : FL RX3 47 0 0 := ⟨_, rfl, by decide, w221⟩
theorem fl_X3_67 : FL RX3 67 0 2 := ⟨_, rfl, by decide, w229⟩
theorem fl_X3_70 : FL RX3 70 7 2 := ⟨_, rfl, by decide, w188⟩
theorem fl_X3_81 : FL RX3 81 2 10 := ⟨_, rfl, by decide, w140⟩
theorem fl_X3_85 : FL RX3 85 4 2 := ⟨_, rfl, by decide, w58⟩
theorem fl_X3_9 : FL RX3 9 3 1 := ⟨_, rfl, by decide, w355⟩
theorem fl_X3_91 : FL RX3 91 7 3 := ⟨_, rfl, by decide, w192⟩
theorem fl_X3_94 : FL RX3 94 4 5 := ⟨_, rfl, by decide, w69⟩
theorem fl_X4_15 : FL RX4 15 4 1 := ⟨_, rfl, by decide, w53⟩
theorem fl_X4_19 : FL RX4 19 4 2 := ⟨_, rfl, by decide, w57⟩
theorem fl_X4_22 : FL RX4 22 4 3 := ⟨_, rfl, by decide, w62⟩
theorem fl_X4_25 : FL RX4 25 4 4 := ⟨_, rfl, by decide, w64⟩
theorem fl_X4_28 : FL RX4 28 4 5 := ⟨_, rfl, by decide, w68⟩
theorem fl_X4_31 : FL RX4 31 4 6 := ⟨_, rfl, by decide, w73⟩
theorem fl_X4_34 : FL RX4 34 4 7 := ⟨_, rfl, by decide, w77⟩
theorem fl_X4_37 : FL RX4 37 4 8 := ⟨_, rfl, by decide, w81⟩
theorem fl_X4_40 : FL RX4 40 4 9 := ⟨_, rfl, by decide, w83⟩
theorem fl_X4_43 : FL RX4 43 4 10 := ⟨_, rfl, by decide, w85⟩
theorem fl_X4_46 : FL RX4 46 4 11 := ⟨_, rfl, by decide, w87⟩
theorem fl_X4_49 : FL RX4 49 4 12 := ⟨_, rfl, by decide, w90⟩
theorem fl_X4_52 : FL RX4 52 5 0 := ⟨_, rfl, by decide, w296⟩
theorem fl_X4_57 : FL RX4 57 5 1 := ⟨_, rfl, by decide, w299⟩
theorem fl_X4_59 : FL RX4 59 5 2 := ⟨_, rfl, by decide, w302⟩
theorem fl_X4_61 : FL RX4 61 5 3 := ⟨_, rfl, by decide, w305⟩
theorem fl_X4_9 : FL RX4 9 4 0 := ⟨_, rfl, by decide, w49⟩
theorem fl_X5_15 : FL RX5 15 5 1 := ⟨_, rfl, by decide, w298⟩
theorem fl_X5_18 : FL RX5 18 5 2 := ⟨_, rfl, by decide, w301⟩
theorem fl_X5_21 : FL RX5 21 5 3 := ⟨_, rfl, by decide, w304⟩
theorem fl_X5_9 : FL RX5 9 5 0 := ⟨_, rfl, by decide, w295⟩
theorem fl_X6_11 : FL RX6 11 6 0 := ⟨_, rfl, by decide, w272⟩
theorem fl_X6_19 : FL RX6 19 6 1 := ⟨_, rfl, by decide, w274⟩
theorem fl_X6_23 : FL RX6 23 6 2 := ⟨_, rfl, by decide, w276⟩
theorem fl_X7_15 : FL RX7 15 7 1 := ⟨_, rfl, by decide, w184⟩
theorem fl_X7_19 : FL RX7 19 7 2 := ⟨_, rfl, by decide, w187⟩
theorem fl_X7_22 : FL RX7 22 7 3 := ⟨_, rfl, by decide, w191⟩
theorem fl_X7_25 : FL RX7 25 7 4 := ⟨_, rfl, by decide, w195⟩
theorem fl_X7_28 : FL RX7 28 7 5 := ⟨_, rfl, by decide, w198⟩
theorem fl_X7_31 : FL RX7 31 7 6 := ⟨_, rfl, by decide, w201⟩
theorem fl_X7_9 : FL RX7 9 7 0 := ⟨_, rfl, by decide, w180⟩
theorem fl_X8_10 : FL RX8 10 8 0 := ⟨_, rfl, by decide, w612⟩
theorem fl_X8_144 : FL RX8 144 2 0 := ⟨_, rfl, by decide, w122⟩
theorem fl_X8_16 : FL RX8 16 8 1 := ⟨_, rfl, by decide, w613⟩
theorem fl_X8_20 : FL RX8 20 8 2 := ⟨_, rfl, by decide, w614⟩
theorem fl_X8_203 : FL RX8 203 4 0 := ⟨_, rfl, by decide, w52⟩
theorem fl_X8_213 : FL RX8 213 5 1 := ⟨_, rfl, by decide, w300⟩
theorem fl_X8_24 : FL RX8 24 8 3 := ⟨_, rfl, by decide, w615⟩
theorem fl_X8_241 : FL RX8 241 5 2 := ⟨_, rfl, by decide, w303⟩
theorem fl_X8_244 : FL RX8 244 5 3 := ⟨_, rfl, by decide, w306⟩
theorem fl_X8_266 : FL RX8 266 4 5 := ⟨_, rfl, by decide, w71⟩
theorem fl_X8_270 : FL RX8 270 4 4 := ⟨_, rfl, by decide, w66⟩
theorem fl_X8_273 : FL RX8 273 4 1 := ⟨_, rfl, by decide, w55⟩
theorem fl_X8_276 : FL RX8 276 4 2 := ⟨_, rfl, by decide, w60⟩
theorem fl_X8_285 : FL RX8 285 4 7 := ⟨_, rfl, by decide, w79⟩
theorem fl_X8_295 : FL RX8 295 4 6 := ⟨_, rfl, by decide, w75⟩
theorem fl_X8_298 : FL RX8 298 4 11 := ⟨_, rfl, by decide, w89⟩
theorem fl_X8_30 : FL RX8 30 8 4 := ⟨_, rfl, by decide, w616⟩
theorem fl_X8_309 : FL RX8 309 5 0 := ⟨_, rfl, by decide, w297⟩
theorem fl_X8_323 : FL RX8 323 2 8 := ⟨_, rfl, by decide, w133⟩
theorem fl_X8_328 : FL RX8 328 4 12 := ⟨_, rfl, by decide, w91⟩
theorem fl_X8_331 : FL RX8 331 2 9 := ⟨_, rfl, by decide, w137⟩
theorem fl_X8_349 : FL RX8 349 6 2 := ⟨_, rfl, by decide, w277⟩
theorem fl_X8_356 : FL RX8 356 0 3 := ⟨_, rfl, by decide, w235⟩
theorem fl_X8_366 : FL RX8 366 0 4 := ⟨_, rfl, by decide, w240⟩
theorem fl_X8_37 : FL RX8 37 8 5 := ⟨_, rfl, by decide, w617⟩
theorem fl_X8_394 : FL RX8 394 6 1 := ⟨_, rfl, by decide, w275⟩
theorem fl_X8_406 : FL RX8 406 1 4 := ⟨_, rfl, by decide, w336⟩
theorem fl_X8_414 : FL RX8 414 0 0 := ⟨_, rfl, by decide, w222⟩
theorem fl_X8_417 : FL RX8 417 0 1 := ⟨_, rfl, by decide, w226⟩
theorem fl_X8_420 : FL RX8 420 0 2 := ⟨_, rfl, by decide, w230⟩
theorem fl_X8_422 : FL RX8 422 0 5 := ⟨_, rfl, by decide, w243⟩
theorem fl_X8_423 : FL RX8 423 0 6 := ⟨_, rfl, by decide, w246⟩
theorem fl_X8_424 : FL RX8 424 0 7 := ⟨_, rfl, by decide, w249⟩
theorem fl_X8_425 : FL RX8 425 0 8 := ⟨_, rfl, by decide, w252⟩
theorem fl_X8_429 : FL RX8 429 1 1 := ⟨_, rfl, by decide, w332⟩
theorem fl_X8_43 : FL RX8 43 8 6 := ⟨_, rfl, by decide, w618⟩
theorem fl_X8_435 : FL RX8 435 3 1 := ⟨_, rfl, by decide, w356⟩
theorem fl_X8_49 : FL RX8 49 8 7 := ⟨_, rfl, by decide, w619⟩
theorem fl_X8_53 : FL RX8 53 6 0 := ⟨_, rfl, by decide, w273⟩
theorem fl_X8_64 : FL RX8 64 2 10 := ⟨_, rfl, by decide, w139⟩
theorem fl_X9_13 : FL RX9 13 9 1 := ⟨_, rfl, by decide, w1758⟩
theorem fl_X9_16 : FL RX9 16 9 4 := ⟨_, rfl, by decide, w1761⟩
theorem fl_X9_180 : FL RX9 180 9 6 := ⟨_, rfl, by decide, w1763⟩
theorem fl_X9_183 : FL RX9 183 9 7 := ⟨_, rfl, by decide, w1764⟩
theorem fl_X9_186 : FL RX9 186 9 8 := ⟨_, rfl, by decide, w1765⟩
theorem fl_X9_189 : FL RX9 189 9 9 := ⟨_, rfl, by decide, w1766⟩
theorem fl_X9_19 : FL RX9 19 9 5 := ⟨_, rfl, by decide, w1762⟩
theorem fl_X9_192 : FL RX9 192 9 10 := ⟨_, rfl, by decide, w1767⟩
theorem fl_X9_202 : FL RX9 202 9 11 := ⟨_, rfl, by decide, w1768⟩
theorem fl_X9_205 : FL RX9 205 9 12 := ⟨_, rfl, by decide, w1769⟩
theorem fl_X9_208 : FL RX9 208 9 13 := ⟨_, rfl, by decide, w1770⟩
theorem fl_X9_211 : FL RX9 211 9 14 := ⟨_, rfl, by decide, w1771⟩
theorem fl_X9_22 : FL RX9 22 9 15 := ⟨_, rfl, by decide, w1772⟩
theorem fl_X9_25 : FL RX9 25 9 16 := ⟨_, rfl, by decide, w1773⟩
theorem fl_X9_265 : FL RX9 265 9 18 := ⟨_, rfl, by decide, w1775⟩
theorem fl_X9_28 : FL RX9 28 9 17 := ⟨_, rfl, by decide, w1774⟩
theorem fl_X9_325 : FL RX9 325 9 19 := ⟨_, rfl, by decide, w1776⟩
theorem fl_X9_55 : FL RX9 55 9 3 := ⟨_, rfl, by decide, w1760⟩
theorem fl_X9_59 : FL RX9 59 9 2 := ⟨_, rfl, by decide, w1759⟩
theorem fl_X9_7 : FL RX9 7 9 0 := ⟨_, rfl, by decide, w1757⟩
theorem nw_X6_27_X2_init : (RX6, 27, yX2_init, RX8) ∈ nestW := List.mem_of_getElem? (i := 0) rfl
theorem nw_X2_45_X4_init : (RX2, 45, yX4_init, RX8) ∈ nestW := List.mem_of_getElem? (i := 1) rfl
theorem nw_X6_28_X0_init : (RX6, 28, yX0_init, RX8) ∈ nestW := List.mem_of_getElem? (i := 2) rfl
theorem nw_X0_38_X7_init : (RX0, 38, yX7_init, RX8) ∈ nestW := List.mem_of_getElem? (i := 3) rfl
theorem nw_X8_29_X5_init : (RX8, 29, yX5_init, RX8) ∈ nestW := List.mem_of_getElem? (i := 4) rfl
theorem nw_X8_36_X0_init : (RX8, 36, yX0_init, RX8) ∈ nestW := List.mem_of_getElem? (i := 5) rfl
theorem nw_X1_11_X7_init : (RX1, 11, yX7_init, RX8) ∈ nestW := List.mem_of_getElem? (i := 6) rfl
