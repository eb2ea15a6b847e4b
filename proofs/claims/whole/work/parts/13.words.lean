/-! constants, words of the tables by their places, fields' links -/
theorem pn_X0 : plainName RX0 = true := by decide +kernel
theorem pn_X1 : plainName RX1 = true := by decide +kernel
theorem pn_X2 : plainName RX2 = true := by decide +kernel
theorem pn_X3 : plainName RX3 = true := by decide +kernel
theorem pn_X4 : plainName RX4 = true := by decide +kernel
theorem pn_X5 : plainName RX5 = true := by decide +kernel
theorem pn_X6 : plainName RX6 = true := by decide +kernel
theorem pn_X7 : plainName RX7 = true := by decide +kernel
theorem pn_X8 : plainName RX8 = true := by decide +kernel
theorem pn_X9 : plainName RX9 = true := by decide +kernel
theorem pn_J6 : plainName RJ6 = true := by decide +kernel
theorem pn_L : plainName RL = true := by decide +kernel
theorem st_0 : (467, "a version is 0 or 1") ∈ strL := List.mem_of_getElem? (i := 0) rfl
theorem st_1 : (113, "a class that can be defined is 1 to 9") ∈ strL := List.mem_of_getElem? (i := 1) rfl
theorem st_2 : (124, "not a superclass for this class") ∈ strL := List.mem_of_getElem? (i := 2) rfl
theorem st_3 : (130, "not interfaces for this class") ∈ strL := List.mem_of_getElem? (i := 3) rfl
theorem st_4 : (138, "the class exists already") ∈ strL := List.mem_of_getElem? (i := 4) rfl
theorem st_5 : (288, "no such class") ∈ strL := List.mem_of_getElem? (i := 5) rfl
theorem st_6 : (157, "class 0 always exists") ∈ strL := List.mem_of_getElem? (i := 6) rfl
theorem st_7 : (165, "another class needs this class") ∈ strL := List.mem_of_getElem? (i := 7) rfl
theorem st_8 : (178, "no such property or value") ∈ strL := List.mem_of_getElem? (i := 8) rfl
theorem st_9 : (180, "class 0 never changes") ∈ strL := List.mem_of_getElem? (i := 9) rfl
theorem st_10 : (185, "an interface has no such choice") ∈ strL := List.mem_of_getElem? (i := 10) rfl
theorem st_11 : (187, "a superclass is never final") ∈ strL := List.mem_of_getElem? (i := 11) rfl
theorem st_12 : (192, "the class has an abstract method") ∈ strL := List.mem_of_getElem? (i := 12) rfl
theorem st_13 : (198, "the number of a class is 0 to 9") ∈ strL := List.mem_of_getElem? (i := 13) rfl
theorem st_14 : (476, "a property is 0 to 9") ∈ strL := List.mem_of_getElem? (i := 14) rfl
theorem st_15 : (206, "a method has 0 to 2 parameters") ∈ strL := List.mem_of_getElem? (i := 15) rfl
theorem st_16 : (211, "a type is -1 to 9") ∈ strL := List.mem_of_getElem? (i := 16) rfl
theorem st_17 : (226, "no such field can be in this class") ∈ strL := List.mem_of_getElem? (i := 17) rfl
theorem st_18 : (234, "there is no room for this field") ∈ strL := List.mem_of_getElem? (i := 18) rfl
theorem st_19 : (239, "no such method can be in this class") ∈ strL := List.mem_of_getElem? (i := 19) rfl
theorem st_20 : (254, "there is no room for this method") ∈ strL := List.mem_of_getElem? (i := 20) rfl
theorem st_21 : (472, "no such member") ∈ strL := List.mem_of_getElem? (i := 21) rfl
theorem st_22 : (293, "the member can't be in this class") ∈ strL := List.mem_of_getElem? (i := 22) rfl
theorem st_23 : (301, "there is no room for the member") ∈ strL := List.mem_of_getElem? (i := 23) rfl
theorem st_24 : (342, "a name is 0 to 7") ∈ strL := List.mem_of_getElem? (i := 24) rfl
theorem st_25 : (321, "a field or a static method is not selected") ∈ strL := List.mem_of_getElem? (i := 25) rfl
theorem st_26 : (326, "not a plain class that has the method") ∈ strL := List.mem_of_getElem? (i := 26) rfl
theorem st_27 : (340, "no such use, class or package") ∈ strL := List.mem_of_getElem? (i := 27) rfl
theorem st_28 : (347, "the client does not compile") ∈ strL := List.mem_of_getElem? (i := 28) rfl
theorem st_29 : (350, "there are 12 clients") ∈ strL := List.mem_of_getElem? (i := 29) rfl
theorem st_30 : (474, "no such client") ∈ strL := List.mem_of_getElem? (i := 30) rfl
theorem st_31 : (362, "no base for this client") ∈ strL := List.mem_of_getElem? (i := 31) rfl
theorem st_32 : (369, "the client does not compile with this base") ∈ strL := List.mem_of_getElem? (i := 32) rfl
theorem st_33 : (392, "a verdict is 0 to 5") ∈ strL := List.mem_of_getElem? (i := 33) rfl
theorem st_34 : (398, "no such verdict or package") ∈ strL := List.mem_of_getElem? (i := 34) rfl
theorem st_35 : (400, "a property of a sample is 0 to 5") ∈ strL := List.mem_of_getElem? (i := 35) rfl
theorem st_36 : (442, "no state is saved") ∈ strL := List.mem_of_getElem? (i := 36) rfl
theorem wp0 : Cond.selects RX2 yX2_deriveSupertypes yX2_deriveSupertypes ∈ TW := TW_in (List.mem_append_left _ (List.mem_of_getElem? (i := 0) rfl)) rfl
theorem wp1 : Cond.selects RX2 yX2_deriveSupertypesOf yX2_deriveSupertypesOf ∈ TW := TW_in (List.mem_append_left _ (List.mem_of_getElem? (i := 1) rfl)) rfl
theorem wp2 : Cond.selects RX8 yX8_buildFirstClients yX8_buildFirstClients ∈ TW := TW_in (List.mem_append_left _ (List.mem_of_getElem? (i := 2) rfl)) rfl
theorem wp3 : Cond.selects RX8 yX8_compileProbe yX8_compileProbe ∈ TW := TW_in (List.mem_append_left _ (List.mem_of_getElem? (i := 3) rfl)) rfl
theorem wp4 : Cond.selects RX1 yX1_fieldError yX1_fieldError ∈ TW := TW_in (List.mem_append_left _ (List.mem_of_getElem? (i := 4) rfl)) rfl
theorem wp5 : Cond.selects RX2 yX2_inheritedField yX2_inheritedField ∈ TW := TW_in (List.mem_append_left _ (List.mem_of_getElem? (i := 5) rfl)) rfl
theorem wp6 : Cond.selects RX1 yX1_callError yX1_callError ∈ TW := TW_in (List.mem_append_left _ (List.mem_of_getElem? (i := 6) rfl)) rfl
theorem wp7 : Cond.selects RX1 yX1_gatherApplicable yX1_gatherApplicable ∈ TW := TW_in (List.mem_append_left _ (List.mem_of_getElem? (i := 7) rfl)) rfl
theorem wp8 : Cond.selects RX1 yX1_isCandidate yX1_isCandidate ∈ TW := TW_in (List.mem_append_left _ (List.mem_of_getElem? (i := 8) rfl)) rfl
theorem wp9 : Cond.selects RX1 yX1_isHidden yX1_isHidden ∈ TW := TW_in (List.mem_append_left _ (List.mem_of_getElem? (i := 9) rfl)) rfl
theorem wp10 : Cond.selects RX1 yX1_bestApplicable yX1_bestApplicable ∈ TW := TW_in (List.mem_append_left _ (List.mem_of_getElem? (i := 10) rfl)) rfl
theorem wp11 : Cond.selects RX1 yX1_isBest yX1_isBest ∈ TW := TW_in (List.mem_append_left _ (List.mem_of_getElem? (i := 11) rfl)) rfl
theorem wp12 : Cond.selects RX1 yX1_extendingError yX1_extendingError ∈ TW := TW_in (List.mem_append_left _ (List.mem_of_getElem? (i := 12) rfl)) rfl
theorem wp13 : Cond.selects RX2 yX2_interfaceMethod yX2_interfaceMethod ∈ TW := TW_in (List.mem_append_left _ (List.mem_of_getElem? (i := 13) rfl)) rfl
theorem wp14 : Cond.selects RX1 yX1_implementingError yX1_implementingError ∈ TW := TW_in (List.mem_append_left _ (List.mem_of_getElem? (i := 14) rfl)) rfl
theorem wp15 : Cond.selects RX8 yX8_saveState yX8_saveState ∈ TW := TW_in (List.mem_append_left _ (List.mem_of_getElem? (i := 15) rfl)) rfl
theorem wp16 : Cond.selects RX8 yX8_withClient yX8_withClient ∈ TW := TW_in (List.mem_append_left _ (List.mem_of_getElem? (i := 16) rfl)) rfl
theorem wp17 : Cond.selects RX3 yX3_fieldError yX3_fieldError ∈ TW := TW_in (List.mem_append_left _ (List.mem_of_getElem? (i := 17) rfl)) rfl
theorem wp18 : Cond.selects RX3 yX3_callError yX3_callError ∈ TW := TW_in (List.mem_append_left _ (List.mem_of_getElem? (i := 18) rfl)) rfl
theorem wp19 : Cond.selects RX3 yX3_runs yX3_runs ∈ TW := TW_in (List.mem_append_left _ (List.mem_of_getElem? (i := 19) rfl)) rfl
theorem wp20 : Cond.selects RX3 yX3_extendingError yX3_extendingError ∈ TW := TW_in (List.mem_append_left _ (List.mem_of_getElem? (i := 20) rfl)) rfl
theorem wp21 : Cond.selects RX3 yX3_implementingError yX3_implementingError ∈ TW := TW_in (List.mem_append_left _ (List.mem_of_getElem? (i := 21) rfl)) rfl
theorem wp22 : Cond.selects RX8 yX8_targetOf yX8_targetOf ∈ TW := TW_in (List.mem_append_left _ (List.mem_of_getElem? (i := 22) rfl)) rfl
theorem wp23 : Cond.selects RX8 yX8_verdictOf yX8_verdictOf ∈ TW := TW_in (List.mem_append_left _ (List.mem_of_getElem? (i := 23) rfl)) rfl
theorem wp24 : Cond.selects RX8 yX8_libraryOf yX8_libraryOf ∈ TW := TW_in (List.mem_append_left _ (List.mem_of_getElem? (i := 24) rfl)) rfl
theorem wp26 : Cond.selects RX8 yX8_libraryWith yX8_libraryWith ∈ TW := TW_in (List.mem_append_left _ (List.mem_of_getElem? (i := 26) rfl)) rfl
theorem wp27 : Cond.selects RX4 yX4_moveRow yX4_moveRow ∈ TW := TW_in (List.mem_append_left _ (List.mem_of_getElem? (i := 27) rfl)) rfl
theorem wp28 : Cond.selects RX8 yX8_libraryWithMember yX8_libraryWithMember ∈ TW := TW_in (List.mem_append_left _ (List.mem_of_getElem? (i := 28) rfl)) rfl
theorem wp29 : Cond.selects RX8 yX8_clientAt yX8_clientAt ∈ TW := TW_in (List.mem_append_left _ (List.mem_of_getElem? (i := 29) rfl)) rfl
theorem wp30 : Cond.selects RX8 yX8_requireClient yX8_requireClient ∈ TW := TW_in (List.mem_append_left _ (List.mem_of_getElem? (i := 30) rfl)) rfl
theorem wp31 : Cond.selects RX8 yX8_sampleValue yX8_sampleValue ∈ TW := TW_in (List.mem_append_left _ (List.mem_of_getElem? (i := 31) rfl)) rfl
theorem wp32 : Cond.selects RX0 yX0_nextTypes yX0_nextTypes ∈ TW := TW_in (List.mem_append_left _ (List.mem_of_getElem? (i := 32) rfl)) rfl
theorem wp33 : Cond.selects RX0 yX0_nextMany yX0_nextMany ∈ TW := TW_in (List.mem_append_left _ (List.mem_of_getElem? (i := 33) rfl)) rfl
theorem wp34 : Cond.selects RX9 yX9_puts yX9_puts ∈ TW := TW_in (List.mem_append_left _ (List.mem_of_getElem? (i := 34) rfl)) rfl
theorem wp35 : Cond.selects RX9 yX9_adds yX9_adds ∈ TW := TW_in (List.mem_append_left _ (List.mem_of_getElem? (i := 35) rfl)) rfl
theorem wp36 : Cond.selects RX9 yX9_memberMany yX9_memberMany ∈ TW := TW_in (List.mem_append_left _ (List.mem_of_getElem? (i := 36) rfl)) rfl
theorem wp37 : Cond.selects RX9 yX9_comes yX9_comes ∈ TW := TW_in (List.mem_append_left _ (List.mem_of_getElem? (i := 37) rfl)) rfl
theorem wp38 : Cond.selects RX9 yX9_makes yX9_makes ∈ TW := TW_in (List.mem_append_left _ (List.mem_of_getElem? (i := 38) rfl)) rfl
theorem wp39 : Cond.selects RX9 yX9_compiled yX9_compiled ∈ TW := TW_in (List.mem_append_left _ (List.mem_of_getElem? (i := 39) rfl)) rfl
theorem wp40 : Cond.selects RX9 yX9_noReference yX9_noReference ∈ TW := TW_in (List.mem_append_left _ (List.mem_of_getElem? (i := 40) rfl)) rfl
theorem wp41 : Cond.selects RX9 yX9_isClass yX9_isClass ∈ TW := TW_in (List.mem_append_left _ (List.mem_of_getElem? (i := 41) rfl)) rfl
theorem wp42 : Cond.selects RX9 yX9_of yX9_of ∈ TW := TW_in (List.mem_append_left _ (List.mem_of_getElem? (i := 42) rfl)) rfl
theorem wp43 : Cond.selects RX9 yX9_isOpenClass yX9_isOpenClass ∈ TW := TW_in (List.mem_append_left _ (List.mem_of_getElem? (i := 43) rfl)) rfl
theorem wp44 : Cond.selects RX9 yX9_compiledField yX9_compiledField ∈ TW := TW_in (List.mem_append_left _ (List.mem_of_getElem? (i := 44) rfl)) rfl
theorem wp45 : Cond.selects RX9 yX9_fieldOf yX9_fieldOf ∈ TW := TW_in (List.mem_append_left _ (List.mem_of_getElem? (i := 45) rfl)) rfl
theorem wp46 : Cond.selects RX9 yX9_ownField yX9_ownField ∈ TW := TW_in (List.mem_append_left _ (List.mem_of_getElem? (i := 46) rfl)) rfl
theorem wp47 : Cond.selects RX9 yX9_found yX9_found ∈ TW := TW_in (List.mem_append_left _ (List.mem_of_getElem? (i := 47) rfl)) rfl
theorem wp48 : Cond.selects RX9 yX9_its yX9_its ∈ TW := TW_in (List.mem_append_left _ (List.mem_of_getElem? (i := 48) rfl)) rfl
theorem wp49 : Cond.selects RX9 yX9_hasParameters yX9_hasParameters ∈ TW := TW_in (List.mem_append_left _ (List.mem_of_getElem? (i := 49) rfl)) rfl
theorem wp50 : Cond.selects RX9 yX9_isOpen yX9_isOpen ∈ TW := TW_in (List.mem_append_left _ (List.mem_of_getElem? (i := 50) rfl)) rfl
theorem wp51 : Cond.selects RX9 yX9_supertypes yX9_supertypes ∈ TW := TW_in (List.mem_append_left _ (List.mem_of_getElem? (i := 51) rfl)) rfl
theorem wp52 : Cond.selects RX9 yX9_isFinal yX9_isFinal ∈ TW := TW_in (List.mem_append_left _ (List.mem_of_getElem? (i := 52) rfl)) rfl
theorem wp53 : Cond.selects RX9 yX9_isStatic yX9_isStatic ∈ TW := TW_in (List.mem_append_left _ (List.mem_of_getElem? (i := 53) rfl)) rfl
theorem wp54 : Cond.selects RX9 yX9_compiledCall yX9_compiledCall ∈ TW := TW_in (List.mem_append_left _ (List.mem_of_getElem? (i := 54) rfl)) rfl
theorem wp55 : Cond.selects RX9 yX9_isApplicable yX9_isApplicable ∈ TW := TW_in (List.mem_append_left _ (List.mem_of_getElem? (i := 55) rfl)) rfl
theorem wp56 : Cond.selects RX9 yX9_isMethod yX9_isMethod ∈ TW := TW_in (List.mem_append_left _ (List.mem_of_getElem? (i := 56) rfl)) rfl
theorem wp57 : Cond.selects RX9 yX9_isInterface yX9_isInterface ∈ TW := TW_in (List.mem_append_left _ (List.mem_of_getElem? (i := 57) rfl)) rfl
theorem wp58 : Cond.selects RX9 yX9_isHidden yX9_isHidden ∈ TW := TW_in (List.mem_append_left _ (List.mem_of_getElem? (i := 58) rfl)) rfl
theorem wp59 : Cond.selects RX9 yX9_isFit yX9_isFit ∈ TW := TW_in (List.mem_append_left _ (List.mem_of_getElem? (i := 59) rfl)) rfl
theorem wp60 : Cond.selects RX9 yX9_isAbstract yX9_isAbstract ∈ TW := TW_in (List.mem_append_left _ (List.mem_of_getElem? (i := 60) rfl)) rfl
theorem wp61 : Cond.selects RX9 yX9_isIncomplete yX9_isIncomplete ∈ TW := TW_in (List.mem_append_left _ (List.mem_of_getElem? (i := 61) rfl)) rfl
theorem wp62 : Cond.selects RX9 yX9_wantsLike yX9_wantsLike ∈ TW := TW_in (List.mem_append_left _ (List.mem_of_getElem? (i := 62) rfl)) rfl
theorem wp63 : Cond.selects RX9 yX9_wants yX9_wants ∈ TW := TW_in (List.mem_append_left _ (List.mem_of_getElem? (i := 63) rfl)) rfl
theorem wp64 : Cond.selects RX9 yX9_selectedBy yX9_selectedBy ∈ TW := TW_in (List.mem_append_left _ (List.mem_of_getElem? (i := 64) rfl)) rfl
theorem wp65 : Cond.selects RX9 yX9_own yX9_own ∈ TW := TW_in (List.mem_append_left _ (List.mem_of_getElem? (i := 65) rfl)) rfl
theorem wp66 : Cond.selects RX9 yX9_isCandidate yX9_isCandidate ∈ TW := TW_in (List.mem_append_left _ (List.mem_of_getElem? (i := 66) rfl)) rfl
theorem wp67 : Cond.selects RX9 yX9_looksAt yX9_looksAt ∈ TW := TW_in (List.mem_append_left _ (List.mem_of_getElem? (i := 67) rfl)) rfl
theorem wp68 : Cond.selects RX9 yX9_isBase yX9_isBase ∈ TW := TW_in (List.mem_append_left _ (List.mem_of_getElem? (i := 68) rfl)) rfl
theorem wp69 : Cond.selects RX9 yX9_keepsReference yX9_keepsReference ∈ TW := TW_in (List.mem_append_left _ (List.mem_of_getElem? (i := 69) rfl)) rfl
theorem wp70 : Cond.selects RX9 yX9_clientMany yX9_clientMany ∈ TW := TW_in (List.mem_append_left _ (List.mem_of_getElem? (i := 70) rfl)) rfl
theorem wp71 : Cond.selects RX9 yX9_lies yX9_lies ∈ TW := TW_in (List.mem_append_left _ (List.mem_of_getElem? (i := 71) rfl)) rfl
theorem wp72 : Cond.selects RX9 yX9_refused yX9_refused ∈ TW := TW_in (List.mem_append_left _ (List.mem_of_getElem? (i := 72) rfl)) rfl
theorem wp73 : Cond.selects RX9 yX9_mayBeAbove yX9_mayBeAbove ∈ TW := TW_in (List.mem_append_left _ (List.mem_of_getElem? (i := 73) rfl)) rfl
theorem wp74 : Cond.selects RX9 yX9_areInterfaces yX9_areInterfaces ∈ TW := TW_in (List.mem_append_left _ (List.mem_of_getElem? (i := 74) rfl)) rfl
theorem wp75 : Cond.selects RX9 yX9_saves yX9_saves ∈ TW := TW_in (List.mem_append_left _ (List.mem_of_getElem? (i := 75) rfl)) rfl
theorem wp76 : Cond.selects RX9 yX9_classMany yX9_classMany ∈ TW := TW_in (List.mem_append_left _ (List.mem_of_getElem? (i := 76) rfl)) rfl
theorem wp77 : Cond.selects RX9 yX9_isAboveOne yX9_isAboveOne ∈ TW := TW_in (List.mem_append_left _ (List.mem_of_getElem? (i := 77) rfl)) rfl
theorem wp78 : Cond.selects RX9 yX9_drops yX9_drops ∈ TW := TW_in (List.mem_append_left _ (List.mem_of_getElem? (i := 78) rfl)) rfl
theorem wp79 : Cond.selects RX9 yX9_mayBe yX9_mayBe ∈ TW := TW_in (List.mem_append_left _ (List.mem_of_getElem? (i := 79) rfl)) rfl
theorem wp80 : Cond.selects RX9 yX9_isAbove yX9_isAbove ∈ TW := TW_in (List.mem_append_left _ (List.mem_of_getElem? (i := 80) rfl)) rfl
theorem wp81 : Cond.selects RX9 yX9_hasAbstract yX9_hasAbstract ∈ TW := TW_in (List.mem_append_left _ (List.mem_of_getElem? (i := 81) rfl)) rfl
theorem wp82 : Cond.selects RX9 yX9_infoOf yX9_infoOf ∈ TW := TW_in (List.mem_append_left _ (List.mem_of_getElem? (i := 82) rfl)) rfl
theorem wp83 : Cond.selects RX9 yX9_added yX9_added ∈ TW := TW_in (List.mem_append_left _ (List.mem_of_getElem? (i := 83) rfl)) rfl
theorem wp84 : Cond.selects RX9 yX9_mayBeMethod yX9_mayBeMethod ∈ TW := TW_in (List.mem_append_left _ (List.mem_of_getElem? (i := 84) rfl)) rfl
theorem wp85 : Cond.selects RX9 yX9_mayBeField yX9_mayBeField ∈ TW := TW_in (List.mem_append_left _ (List.mem_of_getElem? (i := 85) rfl)) rfl
theorem wp86 : Cond.selects RX9 yX9_isMember yX9_isMember ∈ TW := TW_in (List.mem_append_left _ (List.mem_of_getElem? (i := 86) rfl)) rfl
theorem wp87 : Cond.selects RX9 yX9_maySet yX9_maySet ∈ TW := TW_in (List.mem_append_left _ (List.mem_of_getElem? (i := 87) rfl)) rfl
theorem wp88 : Cond.selects RX9 yX9_toldOf yX9_toldOf ∈ TW := TW_in (List.mem_append_left _ (List.mem_of_getElem? (i := 88) rfl)) rfl
theorem wp89 : Cond.selects RX9 yX9_methodOf yX9_methodOf ∈ TW := TW_in (List.mem_append_left _ (List.mem_of_getElem? (i := 89) rfl)) rfl
theorem wp90 : Cond.selects RX9 yX9_interfaceMethod yX9_interfaceMethod ∈ TW := TW_in (List.mem_append_left _ (List.mem_of_getElem? (i := 90) rfl)) rfl
theorem wp91 : Cond.selects RX9 yX9_selectedFor yX9_selectedFor ∈ TW := TW_in (List.mem_append_left _ (List.mem_of_getElem? (i := 91) rfl)) rfl
theorem wp92 : Cond.selects RX9 yX9_isClient yX9_isClient ∈ TW := TW_in (List.mem_append_left _ (List.mem_of_getElem? (i := 92) rfl)) rfl
theorem wp93 : Cond.selects RX9 yX9_takes yX9_takes ∈ TW := TW_in (List.mem_append_left _ (List.mem_of_getElem? (i := 93) rfl)) rfl
theorem wp94 : Cond.selects RX9 yX9_clientTold yX9_clientTold ∈ TW := TW_in (List.mem_append_left _ (List.mem_of_getElem? (i := 94) rfl)) rfl
theorem wp95 : Cond.selects RX9 yX9_isBoth yX9_isBoth ∈ TW := TW_in (List.mem_append_left _ (List.mem_of_getElem? (i := 95) rfl)) rfl
theorem wp96 : Cond.selects RX9 yX9_linked yX9_linked ∈ TW := TW_in (List.mem_append_left _ (List.mem_of_getElem? (i := 96) rfl)) rfl
theorem wp97 : Cond.selects RX9 yX9_linkedField yX9_linkedField ∈ TW := TW_in (List.mem_append_left _ (List.mem_of_getElem? (i := 97) rfl)) rfl
theorem wp98 : Cond.selects RX9 yX9_linkedCall yX9_linkedCall ∈ TW := TW_in (List.mem_append_left _ (List.mem_of_getElem? (i := 98) rfl)) rfl
theorem wp99 : Cond.selects RX9 yX9_linkedBase yX9_linkedBase ∈ TW := TW_in (List.mem_append_left _ (List.mem_of_getElem? (i := 99) rfl)) rfl
theorem wp100 : Cond.selects RX9 yX9_judged yX9_judged ∈ TW := TW_in (List.mem_append_left _ (List.mem_of_getElem? (i := 100) rfl)) rfl
theorem wp101 : Cond.selects RX9 yX9_isOther yX9_isOther ∈ TW := TW_in (List.mem_append_left _ (List.mem_of_getElem? (i := 101) rfl)) rfl
theorem wp102 : Cond.selects RX9 yX9_seeks yX9_seeks ∈ TW := TW_in (List.mem_append_left _ (List.mem_of_getElem? (i := 102) rfl)) rfl
theorem wp103 : Cond.selects RX9 yX9_isSought yX9_isSought ∈ TW := TW_in (List.mem_append_left _ (List.mem_of_getElem? (i := 103) rfl)) rfl
theorem wp104 : Cond.selects RX9 yX9_mix yX9_mix ∈ TW := TW_in (List.mem_append_left _ (List.mem_of_getElem? (i := 104) rfl)) rfl
theorem tb_1 {w : Cond} (h : w ∈ tables_1_1) : w ∈ lw_tbl := tb_in (List.mem_append_left _ h)
theorem tb_2 {w : Cond} (h : w ∈ tables_1_2) : w ∈ lw_tbl := tb_in (List.mem_append_right _ (List.mem_append_left _ h))
theorem tb_3 {w : Cond} (h : w ∈ tables_1_3) : w ∈ lw_tbl := tb_in (List.mem_append_right _ (List.mem_append_right _ (List.mem_append_left _ h)))
theorem tb_4 {w : Cond} (h : w ∈ tables_1_4) : w ∈ lw_tbl := tb_in (List.mem_append_right _ (List.mem_append_right _ (List.mem_append_right _ (List.mem_append_left _ h))))
theorem tb_5 {w : Cond} (h : w ∈ tables_1_5) : w ∈ lw_tbl := tb_in (List.mem_append_right _ (List.mem_append_right _ (List.mem_append_right _ (List.mem_append_right _ (List.mem_append_left _ h)))))
theorem tb_6 {w : Cond} (h : w ∈ tables_1_6) : w ∈ lw_tbl := tb_in (List.mem_append_right _ (List.mem_append_right _ (List.mem_append_right _ (List.mem_append_right _ (List.mem_append_right _ (List.mem_append_left _ h))))))
theorem tb_7 {w : Cond} (h : w ∈ tables_1_7) : w ∈ lw_tbl := tb_in (List.mem_append_right _ (List.mem_append_right _ (List.mem_append_right _ (List.mem_append_right _ (List.mem_append_right _ (List.mem_append_right _ (h)))))))
theorem w0 : Cond.initialized RL ∈ TW := TW_in (tb_1 (List.mem_of_getElem? (i := 0) rfl)) rfl
theorem w1 : Cond.initialized RX8 ∈ TW := TW_in (tb_1 (List.mem_of_getElem? (i := 1) rfl)) rfl
theorem w2 : Cond.initialized RX6 ∈ TW := TW_in (tb_1 (List.mem_of_getElem? (i := 2) rfl)) rfl
theorem w3 : Cond.initialized RX2 ∈ TW := TW_in (tb_1 (List.mem_of_getElem? (i := 3) rfl)) rfl
theorem w4 : Cond.initialized RX4 ∈ TW := TW_in (tb_1 (List.mem_of_getElem? (i := 4) rfl)) rfl
theorem w5 : Cond.initialized RX0 ∈ TW := TW_in (tb_1 (List.mem_of_getElem? (i := 5) rfl)) rfl
theorem w6 : Cond.initialized RX7 ∈ TW := TW_in (tb_1 (List.mem_of_getElem? (i := 6) rfl)) rfl
theorem w7 : Cond.initialized RX5 ∈ TW := TW_in (tb_1 (List.mem_of_getElem? (i := 7) rfl)) rfl
theorem w8 : Cond.initialized RX1 ∈ TW := TW_in (tb_1 (List.mem_of_getElem? (i := 8) rfl)) rfl
theorem w9 : Cond.initialized RX3 ∈ TW := TW_in (tb_1 (List.mem_of_getElem? (i := 9) rfl)) rfl
theorem w10 : Cond.initialized RJ10 ∈ TW := TW_in (tb_1 (List.mem_of_getElem? (i := 10) rfl)) rfl
theorem w11 : Cond.initialized RX9 ∈ TW := TW_in (tb_1 (List.mem_of_getElem? (i := 11) rfl)) rfl
theorem w15 : Cond.initialized "java/lang/IndexOutOfBoundsException" ∈ TW := TW_in (tb_1 (List.mem_of_getElem? (i := 15) rfl)) rfl
theorem w16 : Cond.initialized "java/lang/IllegalArgumentException" ∈ TW := TW_in (tb_1 (List.mem_of_getElem? (i := 16) rfl)) rfl
theorem w17 : Cond.initialized "java/lang/IllegalStateException" ∈ TW := TW_in (tb_1 (List.mem_of_getElem? (i := 17) rfl)) rfl
theorem w18 : Cond.initialized RJ6 ∈ TW := TW_in (tb_1 (List.mem_of_getElem? (i := 18) rfl)) rfl
theorem w19 : Cond.classLink RL 8 RX8 ∈ TW := TW_in (tb_1 (List.mem_of_getElem? (i := 19) rfl)) rfl
theorem w20 : Cond.instantiable RX8 8 ∈ TW := TW_in (tb_1 (List.mem_of_getElem? (i := 20) rfl)) rfl
theorem w21 : Cond.methodLink RL 108 yX8_init ∈ TW := TW_in (tb_1 (List.mem_of_getElem? (i := 21) rfl)) rfl
theorem w22 : Cond.instanceMethod yX8_init ∈ TW := TW_in (tb_1 (List.mem_of_getElem? (i := 22) rfl)) rfl
theorem w23 : Cond.code yX8_init cX8_init 2 none ∈ TW := TW_in (tb_1 (List.mem_of_getElem? (i := 23) rfl)) rfl
theorem w24 : Cond.methodLink RX8 1 objectInit ∈ TW := TW_in (tb_1 (List.mem_of_getElem? (i := 24) rfl)) rfl
theorem w25 : Cond.instanceMethod objectInit ∈ TW := TW_in (tb_1 (List.mem_of_getElem? (i := 25) rfl)) rfl
theorem w26 : Cond.code objectInit ⟨#[0xb1]⟩ 1 none ∈ TW := TW_in (tb_1 (List.mem_of_getElem? (i := 26) rfl)) rfl
theorem w27 : Cond.classLink RX8 7 RX6 ∈ TW := TW_in (tb_1 (List.mem_of_getElem? (i := 27) rfl)) rfl
theorem w28 : Cond.instantiable RX6 3 ∈ TW := TW_in (tb_1 (List.mem_of_getElem? (i := 28) rfl)) rfl
theorem w29 : Cond.methodLink RX8 9 yX6_init ∈ TW := TW_in (tb_1 (List.mem_of_getElem? (i := 29) rfl)) rfl
theorem w30 : Cond.instanceMethod yX6_init ∈ TW := TW_in (tb_1 (List.mem_of_getElem? (i := 30) rfl)) rfl
theorem w31 : Cond.code yX6_init cX6_init 2 none ∈ TW := TW_in (tb_1 (List.mem_of_getElem? (i := 31) rfl)) rfl
theorem w32 : Cond.methodLink RX6 3 objectInit ∈ TW := TW_in (tb_1 (List.mem_of_getElem? (i := 32) rfl)) rfl
theorem w33 : Cond.classLink RX6 9 RX2 ∈ TW := TW_in (tb_1 (List.mem_of_getElem? (i := 33) rfl)) rfl
theorem w35 : Cond.classLink RX6 17 RX0 ∈ TW := TW_in (tb_1 (List.mem_of_getElem? (i := 35) rfl)) rfl
theorem w37 : Cond.instantiable RX2 12 ∈ TW := TW_in (tb_1 (List.mem_of_getElem? (i := 37) rfl)) rfl
theorem w39 : Cond.instanceMethod yX2_init ∈ TW := TW_in (tb_1 (List.mem_of_getElem? (i := 39) rfl)) rfl
theorem w40 : Cond.code yX2_init cX2_init 1 none ∈ TW := TW_in (tb_1 (List.mem_of_getElem? (i := 40) rfl)) rfl
theorem w41 : Cond.methodLink RX2 3 objectInit ∈ TW := TW_in (tb_1 (List.mem_of_getElem? (i := 41) rfl)) rfl
theorem w42 : Cond.classLink RX2 43 RX4 ∈ TW := TW_in (tb_1 (List.mem_of_getElem? (i := 42) rfl)) rfl
theorem w43 : Cond.instantiable RX4 13 ∈ TW := TW_in (tb_1 (List.mem_of_getElem? (i := 43) rfl)) rfl
theorem w45 : Cond.instanceMethod yX4_init ∈ TW := TW_in (tb_1 (List.mem_of_getElem? (i := 45) rfl)) rfl
theorem w46 : Cond.code yX4_init cX4_init 1 none ∈ TW := TW_in (tb_1 (List.mem_of_getElem? (i := 46) rfl)) rfl
theorem w47 : Cond.methodLink RX4 3 objectInit ∈ TW := TW_in (tb_1 (List.mem_of_getElem? (i := 47) rfl)) rfl
theorem w48 : Cond.fieldLink RX4 9 "CompatibilityJudge$Members" "size" "I" ∈ TW := TW_in (tb_1 (List.mem_of_getElem? (i := 48) rfl)) rfl
theorem w49 : Cond.fieldLink RX1 138 "CompatibilityJudge$Members" "size" "I" ∈ TW := TW_in (tb_1 (List.mem_of_getElem? (i := 49) rfl)) rfl
theorem w50 : Cond.fieldLink RX2 53 "CompatibilityJudge$Members" "size" "I" ∈ TW := TW_in (tb_1 (List.mem_of_getElem? (i := 50) rfl)) rfl
theorem w51 : Cond.fieldLink RX8 203 "CompatibilityJudge$Members" "size" "I" ∈ TW := TW_in (tb_1 (List.mem_of_getElem? (i := 51) rfl)) rfl
theorem w52 : Cond.fieldLink RX4 15 "CompatibilityJudge$Members" "access" "[I" ∈ TW := TW_in (tb_1 (List.mem_of_getElem? (i := 52) rfl)) rfl
theorem w53 : Cond.fieldLink RX1 162 "CompatibilityJudge$Members" "access" "[I" ∈ TW := TW_in (tb_1 (List.mem_of_getElem? (i := 53) rfl)) rfl
theorem w54 : Cond.fieldLink RX8 273 "CompatibilityJudge$Members" "access" "[I" ∈ TW := TW_in (tb_1 (List.mem_of_getElem? (i := 54) rfl)) rfl
theorem w55 : Cond.fieldLink RX2 104 "CompatibilityJudge$Members" "access" "[I" ∈ TW := TW_in (tb_1 (List.mem_of_getElem? (i := 55) rfl)) rfl
theorem w56 : Cond.fieldLink RX4 19 "CompatibilityJudge$Members" "flags" "[I" ∈ TW := TW_in (tb_1 (List.mem_of_getElem? (i := 56) rfl)) rfl
theorem w57 : Cond.fieldLink RX3 85 "CompatibilityJudge$Members" "flags" "[I" ∈ TW := TW_in (tb_1 (List.mem_of_getElem? (i := 57) rfl)) rfl
theorem w58 : Cond.fieldLink RX1 90 "CompatibilityJudge$Members" "flags" "[I" ∈ TW := TW_in (tb_1 (List.mem_of_getElem? (i := 58) rfl)) rfl
theorem w59 : Cond.fieldLink RX8 276 "CompatibilityJudge$Members" "flags" "[I" ∈ TW := TW_in (tb_1 (List.mem_of_getElem? (i := 59) rfl)) rfl
theorem w60 : Cond.fieldLink RX2 107 "CompatibilityJudge$Members" "flags" "[I" ∈ TW := TW_in (tb_1 (List.mem_of_getElem? (i := 60) rfl)) rfl
theorem w61 : Cond.fieldLink RX4 22 "CompatibilityJudge$Members" "constant" "[I" ∈ TW := TW_in (tb_1 (List.mem_of_getElem? (i := 61) rfl)) rfl
theorem w62 : Cond.fieldLink RX1 95 "CompatibilityJudge$Members" "constant" "[I" ∈ TW := TW_in (tb_1 (List.mem_of_getElem? (i := 62) rfl)) rfl
theorem w63 : Cond.fieldLink RX4 25 "CompatibilityJudge$Members" "kind" "[I" ∈ TW := TW_in (tb_1 (List.mem_of_getElem? (i := 63) rfl)) rfl
theorem w64 : Cond.fieldLink RX1 141 "CompatibilityJudge$Members" "kind" "[I" ∈ TW := TW_in (tb_1 (List.mem_of_getElem? (i := 64) rfl)) rfl
theorem w65 : Cond.fieldLink RX8 270 "CompatibilityJudge$Members" "kind" "[I" ∈ TW := TW_in (tb_1 (List.mem_of_getElem? (i := 65) rfl)) rfl
theorem w66 : Cond.fieldLink RX2 101 "CompatibilityJudge$Members" "kind" "[I" ∈ TW := TW_in (tb_1 (List.mem_of_getElem? (i := 66) rfl)) rfl
theorem w67 : Cond.fieldLink RX4 28 "CompatibilityJudge$Members" "owner" "[I" ∈ TW := TW_in (tb_1 (List.mem_of_getElem? (i := 67) rfl)) rfl
theorem w68 : Cond.fieldLink RX3 94 "CompatibilityJudge$Members" "owner" "[I" ∈ TW := TW_in (tb_1 (List.mem_of_getElem? (i := 68) rfl)) rfl
theorem w69 : Cond.fieldLink RX1 151 "CompatibilityJudge$Members" "owner" "[I" ∈ TW := TW_in (tb_1 (List.mem_of_getElem? (i := 69) rfl)) rfl
theorem w70 : Cond.fieldLink RX8 266 "CompatibilityJudge$Members" "owner" "[I" ∈ TW := TW_in (tb_1 (List.mem_of_getElem? (i := 70) rfl)) rfl
theorem w71 : Cond.fieldLink RX2 117 "CompatibilityJudge$Members" "owner" "[I" ∈ TW := TW_in (tb_1 (List.mem_of_getElem? (i := 71) rfl)) rfl
theorem w72 : Cond.fieldLink RX4 31 "CompatibilityJudge$Members" "name" "[I" ∈ TW := TW_in (tb_1 (List.mem_of_getElem? (i := 72) rfl)) rfl
theorem w73 : Cond.fieldLink RX1 144 "CompatibilityJudge$Members" "name" "[I" ∈ TW := TW_in (tb_1 (List.mem_of_getElem? (i := 73) rfl)) rfl
theorem w74 : Cond.fieldLink RX8 295 "CompatibilityJudge$Members" "name" "[I" ∈ TW := TW_in (tb_1 (List.mem_of_getElem? (i := 74) rfl)) rfl
theorem w75 : Cond.fieldLink RX2 127 "CompatibilityJudge$Members" "name" "[I" ∈ TW := TW_in (tb_1 (List.mem_of_getElem? (i := 75) rfl)) rfl
theorem w76 : Cond.fieldLink RX4 34 "CompatibilityJudge$Members" "type" "[I" ∈ TW := TW_in (tb_1 (List.mem_of_getElem? (i := 76) rfl)) rfl
theorem w77 : Cond.fieldLink RX1 103 "CompatibilityJudge$Members" "type" "[I" ∈ TW := TW_in (tb_1 (List.mem_of_getElem? (i := 77) rfl)) rfl
theorem w78 : Cond.fieldLink RX8 285 "CompatibilityJudge$Members" "type" "[I" ∈ TW := TW_in (tb_1 (List.mem_of_getElem? (i := 78) rfl)) rfl
theorem w79 : Cond.fieldLink RX2 130 "CompatibilityJudge$Members" "type" "[I" ∈ TW := TW_in (tb_1 (List.mem_of_getElem? (i := 79) rfl)) rfl
theorem w80 : Cond.fieldLink RX4 37 "CompatibilityJudge$Members" "many" "[I" ∈ TW := TW_in (tb_1 (List.mem_of_getElem? (i := 80) rfl)) rfl
theorem w81 : Cond.fieldLink RX1 146 "CompatibilityJudge$Members" "many" "[I" ∈ TW := TW_in (tb_1 (List.mem_of_getElem? (i := 81) rfl)) rfl
theorem w82 : Cond.fieldLink RX4 40 "CompatibilityJudge$Members" "first" "[I" ∈ TW := TW_in (tb_1 (List.mem_of_getElem? (i := 82) rfl)) rfl
theorem w83 : Cond.fieldLink RX1 119 "CompatibilityJudge$Members" "first" "[I" ∈ TW := TW_in (tb_1 (List.mem_of_getElem? (i := 83) rfl)) rfl
theorem w84 : Cond.fieldLink RX4 43 "CompatibilityJudge$Members" "second" "[I" ∈ TW := TW_in (tb_1 (List.mem_of_getElem? (i := 84) rfl)) rfl
theorem w85 : Cond.fieldLink RX1 124 "CompatibilityJudge$Members" "second" "[I" ∈ TW := TW_in (tb_1 (List.mem_of_getElem? (i := 85) rfl)) rfl
theorem w86 : Cond.fieldLink RX4 46 "CompatibilityJudge$Members" "signature" "[I" ∈ TW := TW_in (tb_1 (List.mem_of_getElem? (i := 86) rfl)) rfl
theorem w87 : Cond.fieldLink RX1 168 "CompatibilityJudge$Members" "signature" "[I" ∈ TW := TW_in (tb_1 (List.mem_of_getElem? (i := 87) rfl)) rfl
theorem w88 : Cond.fieldLink RX8 298 "CompatibilityJudge$Members" "signature" "[I" ∈ TW := TW_in (tb_1 (List.mem_of_getElem? (i := 88) rfl)) rfl
theorem w89 : Cond.fieldLink RX4 49 "CompatibilityJudge$Members" "descriptor" "[I" ∈ TW := TW_in (tb_1 (List.mem_of_getElem? (i := 89) rfl)) rfl
theorem w90 : Cond.fieldLink RX8 328 "CompatibilityJudge$Members" "descriptor" "[I" ∈ TW := TW_in (tb_1 (List.mem_of_getElem? (i := 90) rfl)) rfl
theorem w91 : Cond.fieldLink RX2 136 "CompatibilityJudge$Members" "descriptor" "[I" ∈ TW := TW_in (tb_1 (List.mem_of_getElem? (i := 91) rfl)) rfl
theorem w119 : Cond.arrayClass .int ∈ TW := TW_in (tb_1 (List.mem_of_getElem? (i := 119) rfl)) rfl
theorem w120 : Cond.fieldLink RX2 9 "CompatibilityJudge$Library" "existing" "I" ∈ TW := TW_in (tb_1 (List.mem_of_getElem? (i := 120) rfl)) rfl
theorem w121 : Cond.fieldLink RX8 144 "CompatibilityJudge$Library" "existing" "I" ∈ TW := TW_in (tb_1 (List.mem_of_getElem? (i := 121) rfl)) rfl
theorem w122 : Cond.fieldLink RX2 15 "CompatibilityJudge$Library" "interfaceSet" "I" ∈ TW := TW_in (tb_1 (List.mem_of_getElem? (i := 122) rfl)) rfl
theorem w123 : Cond.fieldLink RX2 18 "CompatibilityJudge$Library" "publicSet" "I" ∈ TW := TW_in (tb_1 (List.mem_of_getElem? (i := 123) rfl)) rfl
theorem w124 : Cond.fieldLink RX2 21 "CompatibilityJudge$Library" "finalSet" "I" ∈ TW := TW_in (tb_1 (List.mem_of_getElem? (i := 124) rfl)) rfl
theorem w125 : Cond.fieldLink RX2 24 "CompatibilityJudge$Library" "abstractSet" "I" ∈ TW := TW_in (tb_1 (List.mem_of_getElem? (i := 125) rfl)) rfl
theorem w126 : Cond.fieldLink RX2 27 "CompatibilityJudge$Library" "home" "[I" ∈ TW := TW_in (tb_1 (List.mem_of_getElem? (i := 126) rfl)) rfl
theorem w127 : Cond.fieldLink RX2 31 "CompatibilityJudge$Library" "superclass" "[I" ∈ TW := TW_in (tb_1 (List.mem_of_getElem? (i := 127) rfl)) rfl
theorem w128 : Cond.fieldLink RX2 34 "CompatibilityJudge$Library" "interfaces" "[I" ∈ TW := TW_in (tb_1 (List.mem_of_getElem? (i := 128) rfl)) rfl
theorem w129 : Cond.fieldLink RX2 37 "CompatibilityJudge$Library" "supertypes" "[I" ∈ TW := TW_in (tb_1 (List.mem_of_getElem? (i := 129) rfl)) rfl
theorem w130 : Cond.fieldLink RX1 135 "CompatibilityJudge$Library" "supertypes" "[I" ∈ TW := TW_in (tb_1 (List.mem_of_getElem? (i := 130) rfl)) rfl
theorem w131 : Cond.fieldLink RX3 125 "CompatibilityJudge$Library" "supertypes" "[I" ∈ TW := TW_in (tb_1 (List.mem_of_getElem? (i := 131) rfl)) rfl
theorem w132 : Cond.fieldLink RX8 323 "CompatibilityJudge$Library" "supertypes" "[I" ∈ TW := TW_in (tb_1 (List.mem_of_getElem? (i := 132) rfl)) rfl
theorem w133 : Cond.fieldLink RX2 40 "CompatibilityJudge$Library" "lineage" "[I" ∈ TW := TW_in (tb_1 (List.mem_of_getElem? (i := 133) rfl)) rfl
theorem w134 : Cond.fieldLink RX3 122 "CompatibilityJudge$Library" "lineage" "[I" ∈ TW := TW_in (tb_1 (List.mem_of_getElem? (i := 134) rfl)) rfl
theorem w135 : Cond.fieldLink RX1 178 "CompatibilityJudge$Library" "lineage" "[I" ∈ TW := TW_in (tb_1 (List.mem_of_getElem? (i := 135) rfl)) rfl
theorem w136 : Cond.fieldLink RX8 331 "CompatibilityJudge$Library" "lineage" "[I" ∈ TW := TW_in (tb_1 (List.mem_of_getElem? (i := 136) rfl)) rfl
theorem w137 : Cond.fieldLink RX2 46 "CompatibilityJudge$Library" "members" "LCompatibilityJudge$Members;" ∈ TW := TW_in (tb_1 (List.mem_of_getElem? (i := 137) rfl)) rfl
theorem w138 : Cond.fieldLink RX8 64 "CompatibilityJudge$Library" "members" "LCompatibilityJudge$Members;" ∈ TW := TW_in (tb_1 (List.mem_of_getElem? (i := 138) rfl)) rfl
theorem w139 : Cond.fieldLink RX3 81 "CompatibilityJudge$Library" "members" "LCompatibilityJudge$Members;" ∈ TW := TW_in (tb_1 (List.mem_of_getElem? (i := 139) rfl)) rfl
theorem w140 : Cond.fieldLink RX1 86 "CompatibilityJudge$Library" "members" "LCompatibilityJudge$Members;" ∈ TW := TW_in (tb_1 (List.mem_of_getElem? (i := 140) rfl)) rfl
theorem w141 : Cond.fieldLink RX2 50 "CompatibilityJudge$Library" "fieldFound" "[I" ∈ TW := TW_in (tb_1 (List.mem_of_getElem? (i := 141) rfl)) rfl
theorem w167 : Cond.instantiable RX0 9 ∈ TW := TW_in (tb_1 (List.mem_of_getElem? (i := 167) rfl)) rfl
theorem w169 : Cond.instanceMethod yX0_init ∈ TW := TW_in (tb_1 (List.mem_of_getElem? (i := 169) rfl)) rfl
theorem w170 : Cond.code yX0_init cX0_init 1 none ∈ TW := TW_in (tb_1 (List.mem_of_getElem? (i := 170) rfl)) rfl
theorem w171 : Cond.methodLink RX0 3 objectInit ∈ TW := TW_in (tb_1 (List.mem_of_getElem? (i := 171) rfl)) rfl
theorem w172 : Cond.classLink RX0 36 RX7 ∈ TW := TW_in (tb_1 (List.mem_of_getElem? (i := 172) rfl)) rfl
theorem w173 : Cond.instantiable RX7 7 ∈ TW := TW_in (tb_1 (List.mem_of_getElem? (i := 173) rfl)) rfl
theorem w175 : Cond.instanceMethod yX7_init ∈ TW := TW_in (tb_1 (List.mem_of_getElem? (i := 175) rfl)) rfl
theorem w176 : Cond.code yX7_init cX7_init 1 none ∈ TW := TW_in (tb_1 (List.mem_of_getElem? (i := 176) rfl)) rfl
theorem w177 : Cond.methodLink RX7 3 objectInit ∈ TW := TW_in (tb_1 (List.mem_of_getElem? (i := 177) rfl)) rfl
theorem w178 : Cond.fieldLink RX7 9 "CompatibilityJudge$Symbol" "isConstant" "Z" ∈ TW := TW_in (tb_1 (List.mem_of_getElem? (i := 178) rfl)) rfl
theorem w179 : Cond.fieldLink RX3 25 "CompatibilityJudge$Symbol" "isConstant" "Z" ∈ TW := TW_in (tb_1 (List.mem_of_getElem? (i := 179) rfl)) rfl
theorem w180 : Cond.fieldLink RX1 98 "CompatibilityJudge$Symbol" "isConstant" "Z" ∈ TW := TW_in (tb_1 (List.mem_of_getElem? (i := 180) rfl)) rfl
theorem w181 : Cond.fieldLink RX0 61 "CompatibilityJudge$Symbol" "isConstant" "Z" ∈ TW := TW_in (tb_1 (List.mem_of_getElem? (i := 181) rfl)) rfl
theorem w182 : Cond.fieldLink RX7 15 "CompatibilityJudge$Symbol" "constant" "I" ∈ TW := TW_in (tb_1 (List.mem_of_getElem? (i := 182) rfl)) rfl
theorem w183 : Cond.fieldLink RX1 101 "CompatibilityJudge$Symbol" "constant" "I" ∈ TW := TW_in (tb_1 (List.mem_of_getElem? (i := 183) rfl)) rfl
theorem w184 : Cond.fieldLink RX0 65 "CompatibilityJudge$Symbol" "constant" "I" ∈ TW := TW_in (tb_1 (List.mem_of_getElem? (i := 184) rfl)) rfl
theorem w185 : Cond.fieldLink RX7 19 "CompatibilityJudge$Symbol" "type" "I" ∈ TW := TW_in (tb_1 (List.mem_of_getElem? (i := 185) rfl)) rfl
theorem w186 : Cond.fieldLink RX3 70 "CompatibilityJudge$Symbol" "type" "I" ∈ TW := TW_in (tb_1 (List.mem_of_getElem? (i := 186) rfl)) rfl
theorem w187 : Cond.fieldLink RX1 106 "CompatibilityJudge$Symbol" "type" "I" ∈ TW := TW_in (tb_1 (List.mem_of_getElem? (i := 187) rfl)) rfl
theorem w188 : Cond.fieldLink RX0 68 "CompatibilityJudge$Symbol" "type" "I" ∈ TW := TW_in (tb_1 (List.mem_of_getElem? (i := 188) rfl)) rfl
theorem w189 : Cond.fieldLink RX7 22 "CompatibilityJudge$Symbol" "isStatic" "I" ∈ TW := TW_in (tb_1 (List.mem_of_getElem? (i := 189) rfl)) rfl
theorem w190 : Cond.fieldLink RX3 91 "CompatibilityJudge$Symbol" "isStatic" "I" ∈ TW := TW_in (tb_1 (List.mem_of_getElem? (i := 190) rfl)) rfl
theorem w191 : Cond.fieldLink RX1 108 "CompatibilityJudge$Symbol" "isStatic" "I" ∈ TW := TW_in (tb_1 (List.mem_of_getElem? (i := 191) rfl)) rfl
theorem w192 : Cond.fieldLink RX0 71 "CompatibilityJudge$Symbol" "isStatic" "I" ∈ TW := TW_in (tb_1 (List.mem_of_getElem? (i := 192) rfl)) rfl
theorem w193 : Cond.fieldLink RX7 25 "CompatibilityJudge$Symbol" "first" "I" ∈ TW := TW_in (tb_1 (List.mem_of_getElem? (i := 193) rfl)) rfl
theorem w194 : Cond.fieldLink RX3 103 "CompatibilityJudge$Symbol" "first" "I" ∈ TW := TW_in (tb_1 (List.mem_of_getElem? (i := 194) rfl)) rfl
theorem w195 : Cond.fieldLink RX1 122 "CompatibilityJudge$Symbol" "first" "I" ∈ TW := TW_in (tb_1 (List.mem_of_getElem? (i := 195) rfl)) rfl
theorem w196 : Cond.fieldLink RX7 28 "CompatibilityJudge$Symbol" "second" "I" ∈ TW := TW_in (tb_1 (List.mem_of_getElem? (i := 196) rfl)) rfl
theorem w197 : Cond.fieldLink RX3 106 "CompatibilityJudge$Symbol" "second" "I" ∈ TW := TW_in (tb_1 (List.mem_of_getElem? (i := 197) rfl)) rfl
theorem w198 : Cond.fieldLink RX1 127 "CompatibilityJudge$Symbol" "second" "I" ∈ TW := TW_in (tb_1 (List.mem_of_getElem? (i := 198) rfl)) rfl
theorem w199 : Cond.fieldLink RX7 31 "CompatibilityJudge$Symbol" "isOfInterface" "I" ∈ TW := TW_in (tb_1 (List.mem_of_getElem? (i := 199) rfl)) rfl
theorem w200 : Cond.fieldLink RX3 100 "CompatibilityJudge$Symbol" "isOfInterface" "I" ∈ TW := TW_in (tb_1 (List.mem_of_getElem? (i := 200) rfl)) rfl
theorem w201 : Cond.fieldLink RX1 132 "CompatibilityJudge$Symbol" "isOfInterface" "I" ∈ TW := TW_in (tb_1 (List.mem_of_getElem? (i := 201) rfl)) rfl
theorem w217 : Cond.fieldLink RX0 9 "CompatibilityJudge$Client" "use" "I" ∈ TW := TW_in (tb_1 (List.mem_of_getElem? (i := 217) rfl)) rfl
theorem w218 : Cond.fieldLink RX1 55 "CompatibilityJudge$Client" "use" "I" ∈ TW := TW_in (tb_1 (List.mem_of_getElem? (i := 218) rfl)) rfl
theorem w219 : Cond.fieldLink RX3 47 "CompatibilityJudge$Client" "use" "I" ∈ TW := TW_in (tb_1 (List.mem_of_getElem? (i := 219) rfl)) rfl
theorem w220 : Cond.fieldLink RX8 414 "CompatibilityJudge$Client" "use" "I" ∈ TW := TW_in (tb_1 (List.mem_of_getElem? (i := 220) rfl)) rfl
theorem w221 : Cond.fieldLink RX0 15 "CompatibilityJudge$Client" "c" "I" ∈ TW := TW_in (tb_1 (List.mem_of_getElem? (i := 221) rfl)) rfl
theorem w222 : Cond.fieldLink RX1 37 "CompatibilityJudge$Client" "c" "I" ∈ TW := TW_in (tb_1 (List.mem_of_getElem? (i := 222) rfl)) rfl
theorem w223 : Cond.fieldLink RX3 31 "CompatibilityJudge$Client" "c" "I" ∈ TW := TW_in (tb_1 (List.mem_of_getElem? (i := 223) rfl)) rfl
theorem w224 : Cond.fieldLink RX8 417 "CompatibilityJudge$Client" "c" "I" ∈ TW := TW_in (tb_1 (List.mem_of_getElem? (i := 224) rfl)) rfl
theorem w225 : Cond.fieldLink RX0 18 "CompatibilityJudge$Client" "name" "I" ∈ TW := TW_in (tb_1 (List.mem_of_getElem? (i := 225) rfl)) rfl
theorem w226 : Cond.fieldLink RX1 75 "CompatibilityJudge$Client" "name" "I" ∈ TW := TW_in (tb_1 (List.mem_of_getElem? (i := 226) rfl)) rfl
theorem w227 : Cond.fieldLink RX3 67 "CompatibilityJudge$Client" "name" "I" ∈ TW := TW_in (tb_1 (List.mem_of_getElem? (i := 227) rfl)) rfl
theorem w228 : Cond.fieldLink RX8 420 "CompatibilityJudge$Client" "name" "I" ∈ TW := TW_in (tb_1 (List.mem_of_getElem? (i := 228) rfl)) rfl
theorem w229 : Cond.fieldLink RX0 21 "CompatibilityJudge$Client" "home" "I" ∈ TW := TW_in (tb_1 (List.mem_of_getElem? (i := 229) rfl)) rfl
theorem w230 : Cond.fieldLink RX1 48 "CompatibilityJudge$Client" "home" "I" ∈ TW := TW_in (tb_1 (List.mem_of_getElem? (i := 230) rfl)) rfl
theorem w231 : Cond.fieldLink RX3 40 "CompatibilityJudge$Client" "home" "I" ∈ TW := TW_in (tb_1 (List.mem_of_getElem? (i := 231) rfl)) rfl
theorem w232 : Cond.fieldLink RX2 120 "CompatibilityJudge$Client" "home" "I" ∈ TW := TW_in (tb_1 (List.mem_of_getElem? (i := 232) rfl)) rfl
theorem w233 : Cond.fieldLink RX8 356 "CompatibilityJudge$Client" "home" "I" ∈ TW := TW_in (tb_1 (List.mem_of_getElem? (i := 233) rfl)) rfl
theorem w234 : Cond.fieldLink RX0 24 "CompatibilityJudge$Client" "base" "I" ∈ TW := TW_in (tb_1 (List.mem_of_getElem? (i := 234) rfl)) rfl
theorem w235 : Cond.fieldLink RX3 138 "CompatibilityJudge$Client" "base" "I" ∈ TW := TW_in (tb_1 (List.mem_of_getElem? (i := 235) rfl)) rfl
theorem w236 : Cond.fieldLink RX1 184 "CompatibilityJudge$Client" "base" "I" ∈ TW := TW_in (tb_1 (List.mem_of_getElem? (i := 236) rfl)) rfl
theorem w237 : Cond.fieldLink RX2 124 "CompatibilityJudge$Client" "base" "I" ∈ TW := TW_in (tb_1 (List.mem_of_getElem? (i := 237) rfl)) rfl
theorem w238 : Cond.fieldLink RX8 366 "CompatibilityJudge$Client" "base" "I" ∈ TW := TW_in (tb_1 (List.mem_of_getElem? (i := 238) rfl)) rfl
theorem w239 : Cond.fieldLink RX0 27 "CompatibilityJudge$Client" "many" "I" ∈ TW := TW_in (tb_1 (List.mem_of_getElem? (i := 239) rfl)) rfl
theorem w240 : Cond.fieldLink RX1 149 "CompatibilityJudge$Client" "many" "I" ∈ TW := TW_in (tb_2 (List.mem_of_getElem? (i := 0) rfl)) rfl
theorem w241 : Cond.fieldLink RX8 422 "CompatibilityJudge$Client" "many" "I" ∈ TW := TW_in (tb_2 (List.mem_of_getElem? (i := 1) rfl)) rfl
theorem w242 : Cond.fieldLink RX0 30 "CompatibilityJudge$Client" "first" "I" ∈ TW := TW_in (tb_2 (List.mem_of_getElem? (i := 2) rfl)) rfl
theorem w243 : Cond.fieldLink RX1 154 "CompatibilityJudge$Client" "first" "I" ∈ TW := TW_in (tb_2 (List.mem_of_getElem? (i := 3) rfl)) rfl
theorem w244 : Cond.fieldLink RX8 423 "CompatibilityJudge$Client" "first" "I" ∈ TW := TW_in (tb_2 (List.mem_of_getElem? (i := 4) rfl)) rfl
theorem w245 : Cond.fieldLink RX0 33 "CompatibilityJudge$Client" "second" "I" ∈ TW := TW_in (tb_2 (List.mem_of_getElem? (i := 5) rfl)) rfl
theorem w246 : Cond.fieldLink RX1 158 "CompatibilityJudge$Client" "second" "I" ∈ TW := TW_in (tb_2 (List.mem_of_getElem? (i := 6) rfl)) rfl
theorem w247 : Cond.fieldLink RX8 424 "CompatibilityJudge$Client" "second" "I" ∈ TW := TW_in (tb_2 (List.mem_of_getElem? (i := 7) rfl)) rfl
theorem w248 : Cond.fieldLink RX0 39 "CompatibilityJudge$Client" "symbol" "LCompatibilityJudge$Symbol;" ∈ TW := TW_in (tb_2 (List.mem_of_getElem? (i := 8) rfl)) rfl
theorem w249 : Cond.fieldLink RX3 19 "CompatibilityJudge$Client" "symbol" "LCompatibilityJudge$Symbol;" ∈ TW := TW_in (tb_2 (List.mem_of_getElem? (i := 9) rfl)) rfl
theorem w250 : Cond.fieldLink RX8 425 "CompatibilityJudge$Client" "symbol" "LCompatibilityJudge$Symbol;" ∈ TW := TW_in (tb_2 (List.mem_of_getElem? (i := 10) rfl)) rfl
theorem w270 : Cond.fieldLink RX6 11 "CompatibilityJudge$State" "libraries" "[LCompatibilityJudge$Library;" ∈ TW := TW_in (tb_2 (List.mem_of_getElem? (i := 30) rfl)) rfl
theorem w271 : Cond.fieldLink RX8 53 "CompatibilityJudge$State" "libraries" "[LCompatibilityJudge$Library;" ∈ TW := TW_in (tb_2 (List.mem_of_getElem? (i := 31) rfl)) rfl
theorem w272 : Cond.fieldLink RX6 19 "CompatibilityJudge$State" "uses" "[LCompatibilityJudge$Client;" ∈ TW := TW_in (tb_2 (List.mem_of_getElem? (i := 32) rfl)) rfl
theorem w273 : Cond.fieldLink RX8 394 "CompatibilityJudge$State" "uses" "[LCompatibilityJudge$Client;" ∈ TW := TW_in (tb_2 (List.mem_of_getElem? (i := 33) rfl)) rfl
theorem w274 : Cond.fieldLink RX6 23 "CompatibilityJudge$State" "size" "I" ∈ TW := TW_in (tb_2 (List.mem_of_getElem? (i := 34) rfl)) rfl
theorem w275 : Cond.fieldLink RX8 349 "CompatibilityJudge$State" "size" "I" ∈ TW := TW_in (tb_2 (List.mem_of_getElem? (i := 35) rfl)) rfl
theorem w284 : Cond.classLink RX8 27 RX5 ∈ TW := TW_in (tb_2 (List.mem_of_getElem? (i := 44) rfl)) rfl
theorem w285 : Cond.instantiable RX5 4 ∈ TW := TW_in (tb_2 (List.mem_of_getElem? (i := 45) rfl)) rfl
theorem w287 : Cond.instanceMethod yX5_init ∈ TW := TW_in (tb_2 (List.mem_of_getElem? (i := 47) rfl)) rfl
theorem w288 : Cond.code yX5_init cX5_init 1 none ∈ TW := TW_in (tb_2 (List.mem_of_getElem? (i := 48) rfl)) rfl
theorem w289 : Cond.methodLink RX5 3 objectInit ∈ TW := TW_in (tb_2 (List.mem_of_getElem? (i := 49) rfl)) rfl
theorem w290 : Cond.fieldLink RX5 9 "CompatibilityJudge$Shape" "result" "I" ∈ TW := TW_in (tb_2 (List.mem_of_getElem? (i := 50) rfl)) rfl
theorem w291 : Cond.fieldLink RX4 52 "CompatibilityJudge$Shape" "result" "I" ∈ TW := TW_in (tb_2 (List.mem_of_getElem? (i := 51) rfl)) rfl
theorem w292 : Cond.fieldLink RX8 309 "CompatibilityJudge$Shape" "result" "I" ∈ TW := TW_in (tb_2 (List.mem_of_getElem? (i := 52) rfl)) rfl
theorem w293 : Cond.fieldLink RX5 15 "CompatibilityJudge$Shape" "many" "I" ∈ TW := TW_in (tb_2 (List.mem_of_getElem? (i := 53) rfl)) rfl
theorem w294 : Cond.fieldLink RX4 57 "CompatibilityJudge$Shape" "many" "I" ∈ TW := TW_in (tb_2 (List.mem_of_getElem? (i := 54) rfl)) rfl
theorem w295 : Cond.fieldLink RX8 213 "CompatibilityJudge$Shape" "many" "I" ∈ TW := TW_in (tb_2 (List.mem_of_getElem? (i := 55) rfl)) rfl
theorem w296 : Cond.fieldLink RX5 18 "CompatibilityJudge$Shape" "first" "I" ∈ TW := TW_in (tb_2 (List.mem_of_getElem? (i := 56) rfl)) rfl
theorem w297 : Cond.fieldLink RX4 59 "CompatibilityJudge$Shape" "first" "I" ∈ TW := TW_in (tb_2 (List.mem_of_getElem? (i := 57) rfl)) rfl
theorem w298 : Cond.fieldLink RX8 241 "CompatibilityJudge$Shape" "first" "I" ∈ TW := TW_in (tb_2 (List.mem_of_getElem? (i := 58) rfl)) rfl
theorem w299 : Cond.fieldLink RX5 21 "CompatibilityJudge$Shape" "second" "I" ∈ TW := TW_in (tb_2 (List.mem_of_getElem? (i := 59) rfl)) rfl
theorem w300 : Cond.fieldLink RX4 61 "CompatibilityJudge$Shape" "second" "I" ∈ TW := TW_in (tb_2 (List.mem_of_getElem? (i := 60) rfl)) rfl
theorem w301 : Cond.fieldLink RX8 244 "CompatibilityJudge$Shape" "second" "I" ∈ TW := TW_in (tb_2 (List.mem_of_getElem? (i := 61) rfl)) rfl
theorem w311 : Cond.classLink RX8 34 RX0 ∈ TW := TW_in (tb_2 (List.mem_of_getElem? (i := 71) rfl)) rfl
theorem w313 : Cond.classLink RX8 41 RX1 ∈ TW := TW_in (tb_2 (List.mem_of_getElem? (i := 73) rfl)) rfl
theorem w315 : Cond.classLink RX8 47 RX3 ∈ TW := TW_in (tb_2 (List.mem_of_getElem? (i := 75) rfl)) rfl
theorem w317 : Cond.instantiable RX1 5 ∈ TW := TW_in (tb_2 (List.mem_of_getElem? (i := 77) rfl)) rfl
theorem w318 : Cond.methodLink RX8 57 yX1_init ∈ TW := TW_in (tb_2 (List.mem_of_getElem? (i := 78) rfl)) rfl
theorem w319 : Cond.instanceMethod yX1_init ∈ TW := TW_in (tb_2 (List.mem_of_getElem? (i := 79) rfl)) rfl
theorem w320 : Cond.code yX1_init cX1_init 2 none ∈ TW := TW_in (tb_2 (List.mem_of_getElem? (i := 80) rfl)) rfl
theorem w321 : Cond.methodLink RX1 3 objectInit ∈ TW := TW_in (tb_2 (List.mem_of_getElem? (i := 81) rfl)) rfl
theorem w322 : Cond.classLink RX1 9 RX7 ∈ TW := TW_in (tb_2 (List.mem_of_getElem? (i := 82) rfl)) rfl
theorem w324 : Cond.fieldLink RX1 30 "CompatibilityJudge$Compiler" "library" "LCompatibilityJudge$Library;" ∈ TW := TW_in (tb_2 (List.mem_of_getElem? (i := 84) rfl)) rfl
theorem w325 : Cond.fieldLink RX1 12 "CompatibilityJudge$Compiler" "symbol" "LCompatibilityJudge$Symbol;" ∈ TW := TW_in (tb_2 (List.mem_of_getElem? (i := 85) rfl)) rfl
theorem w326 : Cond.fieldLink RX8 429 "CompatibilityJudge$Compiler" "symbol" "LCompatibilityJudge$Symbol;" ∈ TW := TW_in (tb_2 (List.mem_of_getElem? (i := 86) rfl)) rfl
theorem w327 : Cond.fieldLink RX1 18 "CompatibilityJudge$Compiler" "applicable" "[I" ∈ TW := TW_in (tb_2 (List.mem_of_getElem? (i := 87) rfl)) rfl
theorem w328 : Cond.fieldLink RX1 22 "CompatibilityJudge$Compiler" "applicableCount" "I" ∈ TW := TW_in (tb_2 (List.mem_of_getElem? (i := 88) rfl)) rfl
theorem w329 : Cond.fieldLink RX1 26 "CompatibilityJudge$Compiler" "hasNamesakes" "Z" ∈ TW := TW_in (tb_2 (List.mem_of_getElem? (i := 89) rfl)) rfl
theorem w330 : Cond.fieldLink RX8 406 "CompatibilityJudge$Compiler" "hasNamesakes" "Z" ∈ TW := TW_in (tb_2 (List.mem_of_getElem? (i := 90) rfl)) rfl
theorem w342 : Cond.instantiable RX3 2 ∈ TW := TW_in (tb_2 (List.mem_of_getElem? (i := 102) rfl)) rfl
theorem w343 : Cond.methodLink RX8 60 yX3_init ∈ TW := TW_in (tb_2 (List.mem_of_getElem? (i := 103) rfl)) rfl
theorem w344 : Cond.instanceMethod yX3_init ∈ TW := TW_in (tb_2 (List.mem_of_getElem? (i := 104) rfl)) rfl
theorem w345 : Cond.code yX3_init cX3_init 2 none ∈ TW := TW_in (tb_2 (List.mem_of_getElem? (i := 105) rfl)) rfl
theorem w346 : Cond.methodLink RX3 3 objectInit ∈ TW := TW_in (tb_2 (List.mem_of_getElem? (i := 106) rfl)) rfl
theorem w347 : Cond.fieldLink RX3 15 "CompatibilityJudge$Linker" "library" "LCompatibilityJudge$Library;" ∈ TW := TW_in (tb_2 (List.mem_of_getElem? (i := 107) rfl)) rfl
theorem w348 : Cond.fieldLink RX3 9 "CompatibilityJudge$Linker" "targetClass" "I" ∈ TW := TW_in (tb_2 (List.mem_of_getElem? (i := 108) rfl)) rfl
theorem w349 : Cond.fieldLink RX8 435 "CompatibilityJudge$Linker" "targetClass" "I" ∈ TW := TW_in (tb_2 (List.mem_of_getElem? (i := 109) rfl)) rfl
theorem w355 : Cond.methodLink RX8 61 yX8_buildFirstClasses ∈ TW := TW_in (tb_2 (List.mem_of_getElem? (i := 115) rfl)) rfl
theorem w356 : Cond.static yX8_buildFirstClasses ∈ TW := TW_in (tb_2 (List.mem_of_getElem? (i := 116) rfl)) rfl
theorem w357 : Cond.code yX8_buildFirstClasses cX8_buildFirstClasses 2 none ∈ TW := TW_in (tb_2 (List.mem_of_getElem? (i := 117) rfl)) rfl
theorem w358 : Cond.methodLink RX8 80 yX2_putClass ∈ TW := TW_in (tb_2 (List.mem_of_getElem? (i := 118) rfl)) rfl
theorem w359 : Cond.instanceMethod yX2_putClass ∈ TW := TW_in (tb_2 (List.mem_of_getElem? (i := 119) rfl)) rfl
theorem w360 : Cond.selects RX2 yX2_putClass yX2_putClass ∈ TW := TW_in (tb_2 (List.mem_of_getElem? (i := 120) rfl)) rfl
theorem w361 : Cond.code yX2_putClass cX2_putClass 6 none ∈ TW := TW_in (tb_2 (List.mem_of_getElem? (i := 121) rfl)) rfl
theorem w362 : Cond.methodLink RX2 66 yX2_takeClass ∈ TW := TW_in (tb_2 (List.mem_of_getElem? (i := 122) rfl)) rfl
theorem w363 : Cond.instanceMethod yX2_takeClass ∈ TW := TW_in (tb_2 (List.mem_of_getElem? (i := 123) rfl)) rfl
theorem w364 : Cond.selects RX2 yX2_takeClass yX2_takeClass ∈ TW := TW_in (tb_2 (List.mem_of_getElem? (i := 124) rfl)) rfl
theorem w365 : Cond.code yX2_takeClass cX2_takeClass 3 none ∈ TW := TW_in (tb_2 (List.mem_of_getElem? (i := 125) rfl)) rfl
theorem w366 : Cond.methodLink RX2 70 yX2_deriveSupertypes ∈ TW := TW_in (tb_2 (List.mem_of_getElem? (i := 126) rfl)) rfl
theorem w368 : Cond.instanceMethod yX2_deriveSupertypes ∈ TW := TW_in (tb_2 (List.mem_of_getElem? (i := 128) rfl)) rfl
theorem w369 : Cond.code yX2_deriveSupertypes cX2_deriveSupertypes 2 none ∈ TW := TW_in (tb_2 (List.mem_of_getElem? (i := 129) rfl)) rfl
theorem w370 : Cond.methodLink RX2 56 yX2_isThere ∈ TW := TW_in (tb_2 (List.mem_of_getElem? (i := 130) rfl)) rfl
theorem w371 : Cond.instanceMethod yX2_isThere ∈ TW := TW_in (tb_2 (List.mem_of_getElem? (i := 131) rfl)) rfl
theorem w372 : Cond.selects RX2 yX2_isThere yX2_isThere ∈ TW := TW_in (tb_2 (List.mem_of_getElem? (i := 132) rfl)) rfl
theorem w373 : Cond.code yX2_isThere cX2_isThere 2 (some .boolean) ∈ TW := TW_in (tb_2 (List.mem_of_getElem? (i := 133) rfl)) rfl
theorem w374 : Cond.methodLink RX2 73 yX2_deriveSupertypesOf ∈ TW := TW_in (tb_2 (List.mem_of_getElem? (i := 134) rfl)) rfl
theorem w376 : Cond.instanceMethod yX2_deriveSupertypesOf ∈ TW := TW_in (tb_2 (List.mem_of_getElem? (i := 136) rfl)) rfl
theorem w377 : Cond.code yX2_deriveSupertypesOf cX2_deriveSupertypesOf 4 none ∈ TW := TW_in (tb_2 (List.mem_of_getElem? (i := 137) rfl)) rfl
theorem w378 : Cond.methodLink RX2 60 yX2_isInterface ∈ TW := TW_in (tb_2 (List.mem_of_getElem? (i := 138) rfl)) rfl
theorem w379 : Cond.instanceMethod yX2_isInterface ∈ TW := TW_in (tb_2 (List.mem_of_getElem? (i := 139) rfl)) rfl
theorem w380 : Cond.selects RX2 yX2_isInterface yX2_isInterface ∈ TW := TW_in (tb_2 (List.mem_of_getElem? (i := 140) rfl)) rfl
theorem w381 : Cond.code yX2_isInterface cX2_isInterface 2 (some .boolean) ∈ TW := TW_in (tb_2 (List.mem_of_getElem? (i := 141) rfl)) rfl
theorem w382 : Cond.methodLink RX8 84 yX2_putValue ∈ TW := TW_in (tb_2 (List.mem_of_getElem? (i := 142) rfl)) rfl
theorem w383 : Cond.instanceMethod yX2_putValue ∈ TW := TW_in (tb_2 (List.mem_of_getElem? (i := 143) rfl)) rfl
theorem w384 : Cond.selects RX2 yX2_putValue yX2_putValue ∈ TW := TW_in (tb_2 (List.mem_of_getElem? (i := 144) rfl)) rfl
theorem w385 : Cond.code yX2_putValue cX2_putValue 4 none ∈ TW := TW_in (tb_2 (List.mem_of_getElem? (i := 145) rfl)) rfl
theorem w386 : Cond.methodLink RX2 94 yX2_withBit ∈ TW := TW_in (tb_2 (List.mem_of_getElem? (i := 146) rfl)) rfl
theorem w387 : Cond.static yX2_withBit ∈ TW := TW_in (tb_2 (List.mem_of_getElem? (i := 147) rfl)) rfl
theorem w388 : Cond.code yX2_withBit cX2_withBit 3 (some .int) ∈ TW := TW_in (tb_2 (List.mem_of_getElem? (i := 148) rfl)) rfl
theorem w389 : Cond.methodLink RX8 70 yX8_buildFirstMembers ∈ TW := TW_in (tb_2 (List.mem_of_getElem? (i := 149) rfl)) rfl
theorem w390 : Cond.static yX8_buildFirstMembers ∈ TW := TW_in (tb_2 (List.mem_of_getElem? (i := 150) rfl)) rfl
theorem w391 : Cond.code yX8_buildFirstMembers cX8_buildFirstMembers 2 none ∈ TW := TW_in (tb_2 (List.mem_of_getElem? (i := 151) rfl)) rfl
theorem w392 : Cond.methodLink RX8 88 yX4_append ∈ TW := TW_in (tb_2 (List.mem_of_getElem? (i := 152) rfl)) rfl
theorem w393 : Cond.instanceMethod yX4_append ∈ TW := TW_in (tb_2 (List.mem_of_getElem? (i := 153) rfl)) rfl
theorem w394 : Cond.selects RX4 yX4_append yX4_append ∈ TW := TW_in (tb_2 (List.mem_of_getElem? (i := 154) rfl)) rfl
theorem w395 : Cond.code yX4_append cX4_append 8 none ∈ TW := TW_in (tb_2 (List.mem_of_getElem? (i := 155) rfl)) rfl
theorem w396 : Cond.methodLink RX4 63 yX4_signatureOf ∈ TW := TW_in (tb_2 (List.mem_of_getElem? (i := 156) rfl)) rfl
theorem w397 : Cond.static yX4_signatureOf ∈ TW := TW_in (tb_2 (List.mem_of_getElem? (i := 157) rfl)) rfl
theorem w398 : Cond.code yX4_signatureOf cX4_signatureOf 3 (some .int) ∈ TW := TW_in (tb_2 (List.mem_of_getElem? (i := 158) rfl)) rfl
theorem w399 : Cond.methodLink RX4 67 yX4_descriptorOf ∈ TW := TW_in (tb_2 (List.mem_of_getElem? (i := 159) rfl)) rfl
theorem w400 : Cond.static yX4_descriptorOf ∈ TW := TW_in (tb_2 (List.mem_of_getElem? (i := 160) rfl)) rfl
theorem w401 : Cond.code yX4_descriptorOf cX4_descriptorOf 2 (some .int) ∈ TW := TW_in (tb_2 (List.mem_of_getElem? (i := 161) rfl)) rfl
theorem w402 : Cond.methodLink RX8 94 yX4_putValue ∈ TW := TW_in (tb_2 (List.mem_of_getElem? (i := 162) rfl)) rfl
theorem w403 : Cond.instanceMethod yX4_putValue ∈ TW := TW_in (tb_2 (List.mem_of_getElem? (i := 163) rfl)) rfl
theorem w404 : Cond.selects RX4 yX4_putValue yX4_putValue ∈ TW := TW_in (tb_2 (List.mem_of_getElem? (i := 164) rfl)) rfl
theorem w405 : Cond.code yX4_putValue cX4_putValue 4 none ∈ TW := TW_in (tb_2 (List.mem_of_getElem? (i := 165) rfl)) rfl
theorem w406 : Cond.methodLink RX4 85 yX4_isStaticFinal ∈ TW := TW_in (tb_2 (List.mem_of_getElem? (i := 166) rfl)) rfl
theorem w407 : Cond.instanceMethod yX4_isStaticFinal ∈ TW := TW_in (tb_2 (List.mem_of_getElem? (i := 167) rfl)) rfl
theorem w408 : Cond.selects RX4 yX4_isStaticFinal yX4_isStaticFinal ∈ TW := TW_in (tb_2 (List.mem_of_getElem? (i := 168) rfl)) rfl
theorem w409 : Cond.code yX4_isStaticFinal cX4_isStaticFinal 2 (some .boolean) ∈ TW := TW_in (tb_2 (List.mem_of_getElem? (i := 169) rfl)) rfl
theorem w410 : Cond.methodLink RX8 95 yX5_put ∈ TW := TW_in (tb_2 (List.mem_of_getElem? (i := 170) rfl)) rfl
theorem w411 : Cond.instanceMethod yX5_put ∈ TW := TW_in (tb_2 (List.mem_of_getElem? (i := 171) rfl)) rfl
theorem w412 : Cond.selects RX5 yX5_put yX5_put ∈ TW := TW_in (tb_2 (List.mem_of_getElem? (i := 172) rfl)) rfl
theorem w413 : Cond.code yX5_put cX5_put 5 none ∈ TW := TW_in (tb_2 (List.mem_of_getElem? (i := 173) rfl)) rfl
theorem w414 : Cond.methodLink RX8 74 yX2_copyFrom ∈ TW := TW_in (tb_2 (List.mem_of_getElem? (i := 174) rfl)) rfl
theorem w415 : Cond.instanceMethod yX2_copyFrom ∈ TW := TW_in (tb_2 (List.mem_of_getElem? (i := 175) rfl)) rfl
theorem w416 : Cond.selects RX2 yX2_copyFrom yX2_copyFrom ∈ TW := TW_in (tb_2 (List.mem_of_getElem? (i := 176) rfl)) rfl
theorem w417 : Cond.code yX2_copyFrom cX2_copyFrom 2 none ∈ TW := TW_in (tb_2 (List.mem_of_getElem? (i := 177) rfl)) rfl
theorem w418 : Cond.methodLink RX2 76 arraycopyName ∈ TW := TW_in (tb_2 (List.mem_of_getElem? (i := 178) rfl)) rfl
theorem w419 : Cond.static arraycopyName ∈ TW := TW_in (tb_2 (List.mem_of_getElem? (i := 179) rfl)) rfl
theorem w420 : Cond.native arraycopyName ∈ TW := TW_in (tb_2 (List.mem_of_getElem? (i := 180) rfl)) rfl
theorem w421 : Cond.methodLink RX2 82 yX4_copyFrom ∈ TW := TW_in (tb_2 (List.mem_of_getElem? (i := 181) rfl)) rfl
theorem w422 : Cond.instanceMethod yX4_copyFrom ∈ TW := TW_in (tb_2 (List.mem_of_getElem? (i := 182) rfl)) rfl
theorem w423 : Cond.selects RX4 yX4_copyFrom yX4_copyFrom ∈ TW := TW_in (tb_2 (List.mem_of_getElem? (i := 183) rfl)) rfl
theorem w424 : Cond.code yX4_copyFrom cX4_copyFrom 2 none ∈ TW := TW_in (tb_2 (List.mem_of_getElem? (i := 184) rfl)) rfl
theorem w425 : Cond.methodLink RX4 75 arraycopyName ∈ TW := TW_in (tb_2 (List.mem_of_getElem? (i := 185) rfl)) rfl
theorem w426 : Cond.methodLink RX8 77 yX8_buildFirstClients ∈ TW := TW_in (tb_2 (List.mem_of_getElem? (i := 186) rfl)) rfl
theorem w428 : Cond.instanceMethod yX8_buildFirstClients ∈ TW := TW_in (tb_2 (List.mem_of_getElem? (i := 188) rfl)) rfl
theorem w429 : Cond.code yX8_buildFirstClients cX8_buildFirstClients 1 none ∈ TW := TW_in (tb_2 (List.mem_of_getElem? (i := 189) rfl)) rfl
theorem w430 : Cond.methodLink RX8 99 yX0_put ∈ TW := TW_in (tb_2 (List.mem_of_getElem? (i := 190) rfl)) rfl
theorem w431 : Cond.instanceMethod yX0_put ∈ TW := TW_in (tb_2 (List.mem_of_getElem? (i := 191) rfl)) rfl
theorem w432 : Cond.selects RX0 yX0_put yX0_put ∈ TW := TW_in (tb_2 (List.mem_of_getElem? (i := 192) rfl)) rfl
theorem w433 : Cond.code yX0_put cX0_put 5 none ∈ TW := TW_in (tb_2 (List.mem_of_getElem? (i := 193) rfl)) rfl
theorem w434 : Cond.methodLink RX0 43 yX7_clear ∈ TW := TW_in (tb_2 (List.mem_of_getElem? (i := 194) rfl)) rfl
theorem w435 : Cond.instanceMethod yX7_clear ∈ TW := TW_in (tb_2 (List.mem_of_getElem? (i := 195) rfl)) rfl
theorem w436 : Cond.selects RX7 yX7_clear yX7_clear ∈ TW := TW_in (tb_2 (List.mem_of_getElem? (i := 196) rfl)) rfl
theorem w437 : Cond.code yX7_clear cX7_clear 1 none ∈ TW := TW_in (tb_2 (List.mem_of_getElem? (i := 197) rfl)) rfl
theorem w438 : Cond.methodLink RX8 100 yX8_compileProbe ∈ TW := TW_in (tb_2 (List.mem_of_getElem? (i := 198) rfl)) rfl
theorem w440 : Cond.instanceMethod yX8_compileProbe ∈ TW := TW_in (tb_2 (List.mem_of_getElem? (i := 200) rfl)) rfl
theorem w441 : Cond.code yX8_compileProbe cX8_compileProbe 1 (some .boolean) ∈ TW := TW_in (tb_2 (List.mem_of_getElem? (i := 201) rfl)) rfl
theorem w442 : Cond.methodLink RX8 380 yX1_errorOf ∈ TW := TW_in (tb_2 (List.mem_of_getElem? (i := 202) rfl)) rfl
theorem w443 : Cond.instanceMethod yX1_errorOf ∈ TW := TW_in (tb_2 (List.mem_of_getElem? (i := 203) rfl)) rfl
theorem w444 : Cond.selects RX1 yX1_errorOf yX1_errorOf ∈ TW := TW_in (tb_2 (List.mem_of_getElem? (i := 204) rfl)) rfl
theorem w445 : Cond.code yX1_errorOf cX1_errorOf 2 (some .int) ∈ TW := TW_in (tb_2 (List.mem_of_getElem? (i := 205) rfl)) rfl
theorem w446 : Cond.methodLink RX1 34 yX7_clear ∈ TW := TW_in (tb_2 (List.mem_of_getElem? (i := 206) rfl)) rfl
theorem w447 : Cond.methodLink RX1 42 yX2_isThere ∈ TW := TW_in (tb_2 (List.mem_of_getElem? (i := 207) rfl)) rfl
theorem w448 : Cond.methodLink RX1 51 yX2_isClassOpen ∈ TW := TW_in (tb_2 (List.mem_of_getElem? (i := 208) rfl)) rfl
theorem w449 : Cond.instanceMethod yX2_isClassOpen ∈ TW := TW_in (tb_2 (List.mem_of_getElem? (i := 209) rfl)) rfl
theorem w450 : Cond.selects RX2 yX2_isClassOpen yX2_isClassOpen ∈ TW := TW_in (tb_2 (List.mem_of_getElem? (i := 210) rfl)) rfl
theorem w451 : Cond.code yX2_isClassOpen cX2_isClassOpen 3 (some .boolean) ∈ TW := TW_in (tb_2 (List.mem_of_getElem? (i := 211) rfl)) rfl
theorem w452 : Cond.methodLink RX1 58 yX1_fieldError ∈ TW := TW_in (tb_2 (List.mem_of_getElem? (i := 212) rfl)) rfl
theorem w454 : Cond.instanceMethod yX1_fieldError ∈ TW := TW_in (tb_2 (List.mem_of_getElem? (i := 214) rfl)) rfl
theorem w455 : Cond.code yX1_fieldError cX1_fieldError 3 (some .int) ∈ TW := TW_in (tb_2 (List.mem_of_getElem? (i := 215) rfl)) rfl
theorem w456 : Cond.methodLink RX1 78 yX2_fieldFor ∈ TW := TW_in (tb_2 (List.mem_of_getElem? (i := 216) rfl)) rfl
theorem w457 : Cond.instanceMethod yX2_fieldFor ∈ TW := TW_in (tb_2 (List.mem_of_getElem? (i := 217) rfl)) rfl
theorem w458 : Cond.selects RX2 yX2_fieldFor yX2_fieldFor ∈ TW := TW_in (tb_2 (List.mem_of_getElem? (i := 218) rfl)) rfl
theorem w459 : Cond.code yX2_fieldFor cX2_fieldFor 5 (some .int) ∈ TW := TW_in (tb_2 (List.mem_of_getElem? (i := 219) rfl)) rfl
theorem w460 : Cond.methodLink RX2 133 yX2_inheritedField ∈ TW := TW_in (tb_2 (List.mem_of_getElem? (i := 220) rfl)) rfl
theorem w462 : Cond.instanceMethod yX2_inheritedField ∈ TW := TW_in (tb_2 (List.mem_of_getElem? (i := 222) rfl)) rfl
theorem w463 : Cond.code yX2_inheritedField cX2_inheritedField 3 (some .int) ∈ TW := TW_in (tb_2 (List.mem_of_getElem? (i := 223) rfl)) rfl
theorem w464 : Cond.methodLink RX1 82 yX2_isMemberOpen ∈ TW := TW_in (tb_2 (List.mem_of_getElem? (i := 224) rfl)) rfl
theorem w465 : Cond.instanceMethod yX2_isMemberOpen ∈ TW := TW_in (tb_2 (List.mem_of_getElem? (i := 225) rfl)) rfl
theorem w466 : Cond.selects RX2 yX2_isMemberOpen yX2_isMemberOpen ∈ TW := TW_in (tb_2 (List.mem_of_getElem? (i := 226) rfl)) rfl
theorem w467 : Cond.code yX2_isMemberOpen cX2_isMemberOpen 5 (some .boolean) ∈ TW := TW_in (tb_2 (List.mem_of_getElem? (i := 227) rfl)) rfl
theorem w468 : Cond.methodLink RX1 62 yX1_callError ∈ TW := TW_in (tb_2 (List.mem_of_getElem? (i := 228) rfl)) rfl
theorem w470 : Cond.instanceMethod yX1_callError ∈ TW := TW_in (tb_2 (List.mem_of_getElem? (i := 230) rfl)) rfl
theorem w471 : Cond.code yX1_callError cX1_callError 3 (some .int) ∈ TW := TW_in (tb_2 (List.mem_of_getElem? (i := 231) rfl)) rfl
theorem w472 : Cond.methodLink RX1 111 yX1_gatherApplicable ∈ TW := TW_in (tb_2 (List.mem_of_getElem? (i := 232) rfl)) rfl
theorem w474 : Cond.instanceMethod yX1_gatherApplicable ∈ TW := TW_in (tb_2 (List.mem_of_getElem? (i := 234) rfl)) rfl
theorem w475 : Cond.code yX1_gatherApplicable cX1_gatherApplicable 5 none ∈ TW := TW_in (tb_2 (List.mem_of_getElem? (i := 235) rfl)) rfl
theorem w476 : Cond.methodLink RX1 155 yX2_fitsType ∈ TW := TW_in (tb_2 (List.mem_of_getElem? (i := 236) rfl)) rfl
theorem w477 : Cond.instanceMethod yX2_fitsType ∈ TW := TW_in (tb_2 (List.mem_of_getElem? (i := 237) rfl)) rfl
theorem w478 : Cond.selects RX2 yX2_fitsType yX2_fitsType ∈ TW := TW_in (tb_2 (List.mem_of_getElem? (i := 238) rfl)) rfl
theorem w479 : Cond.code yX2_fitsType cX2_fitsType 3 (some .boolean) ∈ TW := TW_in (tb_2 (List.mem_of_getElem? (i := 239) rfl)) rfl
theorem w480 : Cond.methodLink RX1 159 yX1_isCandidate ∈ TW := TW_in (tb_3 (List.mem_of_getElem? (i := 0) rfl)) rfl
theorem w482 : Cond.instanceMethod yX1_isCandidate ∈ TW := TW_in (tb_3 (List.mem_of_getElem? (i := 2) rfl)) rfl
theorem w483 : Cond.code yX1_isCandidate cX1_isCandidate 5 (some .boolean) ∈ TW := TW_in (tb_3 (List.mem_of_getElem? (i := 3) rfl)) rfl
theorem w484 : Cond.methodLink RX1 129 yX2_isInterface ∈ TW := TW_in (tb_3 (List.mem_of_getElem? (i := 4) rfl)) rfl
theorem w485 : Cond.methodLink RX1 165 yX1_isHidden ∈ TW := TW_in (tb_3 (List.mem_of_getElem? (i := 5) rfl)) rfl
theorem w487 : Cond.instanceMethod yX1_isHidden ∈ TW := TW_in (tb_3 (List.mem_of_getElem? (i := 7) rfl)) rfl
theorem w488 : Cond.code yX1_isHidden cX1_isHidden 7 (some .boolean) ∈ TW := TW_in (tb_3 (List.mem_of_getElem? (i := 8) rfl)) rfl
theorem w489 : Cond.methodLink RX1 115 yX1_bestApplicable ∈ TW := TW_in (tb_3 (List.mem_of_getElem? (i := 9) rfl)) rfl
theorem w491 : Cond.instanceMethod yX1_bestApplicable ∈ TW := TW_in (tb_3 (List.mem_of_getElem? (i := 11) rfl)) rfl
theorem w492 : Cond.code yX1_bestApplicable cX1_bestApplicable 6 (some .int) ∈ TW := TW_in (tb_3 (List.mem_of_getElem? (i := 12) rfl)) rfl
theorem w493 : Cond.methodLink RX1 171 yX1_isBest ∈ TW := TW_in (tb_3 (List.mem_of_getElem? (i := 13) rfl)) rfl
theorem w495 : Cond.instanceMethod yX1_isBest ∈ TW := TW_in (tb_3 (List.mem_of_getElem? (i := 15) rfl)) rfl
theorem w496 : Cond.code yX1_isBest cX1_isBest 5 (some .boolean) ∈ TW := TW_in (tb_3 (List.mem_of_getElem? (i := 16) rfl)) rfl
theorem w497 : Cond.methodLink RX1 174 yX4_isAbstract ∈ TW := TW_in (tb_3 (List.mem_of_getElem? (i := 17) rfl)) rfl
theorem w498 : Cond.instanceMethod yX4_isAbstract ∈ TW := TW_in (tb_3 (List.mem_of_getElem? (i := 18) rfl)) rfl
theorem w499 : Cond.selects RX4 yX4_isAbstract yX4_isAbstract ∈ TW := TW_in (tb_3 (List.mem_of_getElem? (i := 19) rfl)) rfl
theorem w500 : Cond.code yX4_isAbstract cX4_isAbstract 2 (some .boolean) ∈ TW := TW_in (tb_3 (List.mem_of_getElem? (i := 20) rfl)) rfl
theorem w501 : Cond.methodLink RX1 65 yX2_isAbstract ∈ TW := TW_in (tb_3 (List.mem_of_getElem? (i := 21) rfl)) rfl
theorem w502 : Cond.instanceMethod yX2_isAbstract ∈ TW := TW_in (tb_3 (List.mem_of_getElem? (i := 22) rfl)) rfl
theorem w503 : Cond.selects RX2 yX2_isAbstract yX2_isAbstract ∈ TW := TW_in (tb_3 (List.mem_of_getElem? (i := 23) rfl)) rfl
theorem w504 : Cond.code yX2_isAbstract cX2_isAbstract 2 (some .boolean) ∈ TW := TW_in (tb_3 (List.mem_of_getElem? (i := 24) rfl)) rfl
theorem w505 : Cond.methodLink RX1 68 yX1_extendingError ∈ TW := TW_in (tb_3 (List.mem_of_getElem? (i := 25) rfl)) rfl
theorem w507 : Cond.instanceMethod yX1_extendingError ∈ TW := TW_in (tb_3 (List.mem_of_getElem? (i := 27) rfl)) rfl
theorem w508 : Cond.code yX1_extendingError cX1_extendingError 2 (some .int) ∈ TW := TW_in (tb_3 (List.mem_of_getElem? (i := 28) rfl)) rfl
theorem w509 : Cond.methodLink RX1 175 yX2_isFinal ∈ TW := TW_in (tb_3 (List.mem_of_getElem? (i := 29) rfl)) rfl
theorem w510 : Cond.instanceMethod yX2_isFinal ∈ TW := TW_in (tb_3 (List.mem_of_getElem? (i := 30) rfl)) rfl
theorem w511 : Cond.selects RX2 yX2_isFinal yX2_isFinal ∈ TW := TW_in (tb_3 (List.mem_of_getElem? (i := 31) rfl)) rfl
theorem w512 : Cond.code yX2_isFinal cX2_isFinal 2 (some .boolean) ∈ TW := TW_in (tb_3 (List.mem_of_getElem? (i := 32) rfl)) rfl
theorem w513 : Cond.methodLink RX1 181 yX2_isIncomplete ∈ TW := TW_in (tb_3 (List.mem_of_getElem? (i := 33) rfl)) rfl
theorem w514 : Cond.instanceMethod yX2_isIncomplete ∈ TW := TW_in (tb_3 (List.mem_of_getElem? (i := 34) rfl)) rfl
theorem w515 : Cond.selects RX2 yX2_isIncomplete yX2_isIncomplete ∈ TW := TW_in (tb_3 (List.mem_of_getElem? (i := 35) rfl)) rfl
theorem w516 : Cond.code yX2_isIncomplete cX2_isIncomplete 5 (some .boolean) ∈ TW := TW_in (tb_3 (List.mem_of_getElem? (i := 36) rfl)) rfl
theorem w517 : Cond.methodLink RX2 143 yX4_isAbstract ∈ TW := TW_in (tb_3 (List.mem_of_getElem? (i := 37) rfl)) rfl
theorem w518 : Cond.methodLink RX2 144 yX2_selectedAlong ∈ TW := TW_in (tb_3 (List.mem_of_getElem? (i := 38) rfl)) rfl
theorem w519 : Cond.instanceMethod yX2_selectedAlong ∈ TW := TW_in (tb_3 (List.mem_of_getElem? (i := 39) rfl)) rfl
theorem w520 : Cond.selects RX2 yX2_selectedAlong yX2_selectedAlong ∈ TW := TW_in (tb_3 (List.mem_of_getElem? (i := 40) rfl)) rfl
theorem w521 : Cond.code yX2_selectedAlong cX2_selectedAlong 8 (some .int) ∈ TW := TW_in (tb_3 (List.mem_of_getElem? (i := 41) rfl)) rfl
theorem w522 : Cond.methodLink RX2 139 yX2_interfaceMethod ∈ TW := TW_in (tb_3 (List.mem_of_getElem? (i := 42) rfl)) rfl
theorem w524 : Cond.instanceMethod yX2_interfaceMethod ∈ TW := TW_in (tb_3 (List.mem_of_getElem? (i := 44) rfl)) rfl
theorem w525 : Cond.code yX2_interfaceMethod cX2_interfaceMethod 13 (some .int) ∈ TW := TW_in (tb_3 (List.mem_of_getElem? (i := 45) rfl)) rfl
theorem w526 : Cond.methodLink RX1 72 yX1_implementingError ∈ TW := TW_in (tb_3 (List.mem_of_getElem? (i := 46) rfl)) rfl
theorem w528 : Cond.instanceMethod yX1_implementingError ∈ TW := TW_in (tb_3 (List.mem_of_getElem? (i := 48) rfl)) rfl
theorem w529 : Cond.code yX1_implementingError cX1_implementingError 3 (some .int) ∈ TW := TW_in (tb_3 (List.mem_of_getElem? (i := 49) rfl)) rfl
theorem w530 : Cond.methodLink RX1 187 yX1_canBeBase ∈ TW := TW_in (tb_3 (List.mem_of_getElem? (i := 50) rfl)) rfl
theorem w531 : Cond.instanceMethod yX1_canBeBase ∈ TW := TW_in (tb_3 (List.mem_of_getElem? (i := 51) rfl)) rfl
theorem w532 : Cond.selects RX1 yX1_canBeBase yX1_canBeBase ∈ TW := TW_in (tb_3 (List.mem_of_getElem? (i := 52) rfl)) rfl
theorem w533 : Cond.code yX1_canBeBase cX1_canBeBase 3 (some .boolean) ∈ TW := TW_in (tb_3 (List.mem_of_getElem? (i := 53) rfl)) rfl
theorem w534 : Cond.methodLink RX8 430 yX7_copyFrom ∈ TW := TW_in (tb_3 (List.mem_of_getElem? (i := 54) rfl)) rfl
theorem w535 : Cond.instanceMethod yX7_copyFrom ∈ TW := TW_in (tb_3 (List.mem_of_getElem? (i := 55) rfl)) rfl
theorem w536 : Cond.selects RX7 yX7_copyFrom yX7_copyFrom ∈ TW := TW_in (tb_3 (List.mem_of_getElem? (i := 56) rfl)) rfl
theorem w537 : Cond.code yX7_copyFrom cX7_copyFrom 2 none ∈ TW := TW_in (tb_3 (List.mem_of_getElem? (i := 57) rfl)) rfl
theorem w538 : Cond.methodLink RX8 104 yX6_append ∈ TW := TW_in (tb_3 (List.mem_of_getElem? (i := 58) rfl)) rfl
theorem w539 : Cond.instanceMethod yX6_append ∈ TW := TW_in (tb_3 (List.mem_of_getElem? (i := 59) rfl)) rfl
theorem w540 : Cond.selects RX6 yX6_append yX6_append ∈ TW := TW_in (tb_3 (List.mem_of_getElem? (i := 60) rfl)) rfl
theorem w541 : Cond.code yX6_append cX6_append 2 none ∈ TW := TW_in (tb_3 (List.mem_of_getElem? (i := 61) rfl)) rfl
theorem w542 : Cond.methodLink RX6 33 yX0_copyFrom ∈ TW := TW_in (tb_3 (List.mem_of_getElem? (i := 62) rfl)) rfl
theorem w543 : Cond.instanceMethod yX0_copyFrom ∈ TW := TW_in (tb_3 (List.mem_of_getElem? (i := 63) rfl)) rfl
theorem w544 : Cond.selects RX0 yX0_copyFrom yX0_copyFrom ∈ TW := TW_in (tb_3 (List.mem_of_getElem? (i := 64) rfl)) rfl
theorem w545 : Cond.code yX0_copyFrom cX0_copyFrom 2 none ∈ TW := TW_in (tb_3 (List.mem_of_getElem? (i := 65) rfl)) rfl
theorem w546 : Cond.methodLink RX0 57 yX7_copyFrom ∈ TW := TW_in (tb_3 (List.mem_of_getElem? (i := 66) rfl)) rfl
theorem w547 : Cond.fieldLink RX8 10 "CompatibilityJudge" "now" "LCompatibilityJudge$State;" ∈ TW := TW_in (tb_3 (List.mem_of_getElem? (i := 67) rfl)) rfl
theorem w548 : Cond.fieldLink RX8 16 "CompatibilityJudge" "saved" "[LCompatibilityJudge$State;" ∈ TW := TW_in (tb_3 (List.mem_of_getElem? (i := 68) rfl)) rfl
theorem w549 : Cond.fieldLink RX8 20 "CompatibilityJudge" "oldestSaved" "I" ∈ TW := TW_in (tb_3 (List.mem_of_getElem? (i := 69) rfl)) rfl
theorem w550 : Cond.fieldLink RX8 24 "CompatibilityJudge" "savedCount" "I" ∈ TW := TW_in (tb_3 (List.mem_of_getElem? (i := 70) rfl)) rfl
theorem w551 : Cond.fieldLink RX8 30 "CompatibilityJudge" "draftShape" "LCompatibilityJudge$Shape;" ∈ TW := TW_in (tb_3 (List.mem_of_getElem? (i := 71) rfl)) rfl
theorem w552 : Cond.fieldLink RX8 37 "CompatibilityJudge" "probe" "LCompatibilityJudge$Client;" ∈ TW := TW_in (tb_3 (List.mem_of_getElem? (i := 72) rfl)) rfl
theorem w553 : Cond.fieldLink RX8 43 "CompatibilityJudge" "compilers" "[LCompatibilityJudge$Compiler;" ∈ TW := TW_in (tb_3 (List.mem_of_getElem? (i := 73) rfl)) rfl
theorem w554 : Cond.fieldLink RX8 49 "CompatibilityJudge" "linkers" "[LCompatibilityJudge$Linker;" ∈ TW := TW_in (tb_3 (List.mem_of_getElem? (i := 74) rfl)) rfl
theorem w572 : Cond.methodLink RL 136 yX8_copyVersion ∈ TW := TW_in (tb_3 (List.mem_of_getElem? (i := 92) rfl)) rfl
theorem w573 : Cond.instanceMethod yX8_copyVersion ∈ TW := TW_in (tb_3 (List.mem_of_getElem? (i := 93) rfl)) rfl
theorem w574 : Cond.selects RX8 yX8_copyVersion yX8_copyVersion ∈ TW := TW_in (tb_3 (List.mem_of_getElem? (i := 94) rfl)) rfl
theorem w575 : Cond.code yX8_copyVersion cX8_copyVersion 1 (some .int) ∈ TW := TW_in (tb_3 (List.mem_of_getElem? (i := 95) rfl)) rfl
theorem w576 : Cond.methodLink RX8 141 yX8_saveState ∈ TW := TW_in (tb_3 (List.mem_of_getElem? (i := 96) rfl)) rfl
theorem w578 : Cond.instanceMethod yX8_saveState ∈ TW := TW_in (tb_3 (List.mem_of_getElem? (i := 98) rfl)) rfl
theorem w579 : Cond.code yX8_saveState cX8_saveState 2 none ∈ TW := TW_in (tb_3 (List.mem_of_getElem? (i := 99) rfl)) rfl
theorem w580 : Cond.methodLink RX8 444 yX6_copyFrom ∈ TW := TW_in (tb_3 (List.mem_of_getElem? (i := 100) rfl)) rfl
theorem w581 : Cond.instanceMethod yX6_copyFrom ∈ TW := TW_in (tb_3 (List.mem_of_getElem? (i := 101) rfl)) rfl
theorem w582 : Cond.selects RX6 yX6_copyFrom yX6_copyFrom ∈ TW := TW_in (tb_3 (List.mem_of_getElem? (i := 102) rfl)) rfl
theorem w583 : Cond.code yX6_copyFrom cX6_copyFrom 3 none ∈ TW := TW_in (tb_3 (List.mem_of_getElem? (i := 103) rfl)) rfl
theorem w584 : Cond.methodLink RX6 29 yX2_copyFrom ∈ TW := TW_in (tb_3 (List.mem_of_getElem? (i := 104) rfl)) rfl
theorem w585 : Cond.methodLink RL 187 yX8_clients ∈ TW := TW_in (tb_3 (List.mem_of_getElem? (i := 105) rfl)) rfl
theorem w586 : Cond.instanceMethod yX8_clients ∈ TW := TW_in (tb_3 (List.mem_of_getElem? (i := 106) rfl)) rfl
theorem w587 : Cond.selects RX8 yX8_clients yX8_clients ∈ TW := TW_in (tb_3 (List.mem_of_getElem? (i := 107) rfl)) rfl
theorem w588 : Cond.code yX8_clients cX8_clients 1 (some .int) ∈ TW := TW_in (tb_3 (List.mem_of_getElem? (i := 108) rfl)) rfl
theorem w589 : Cond.methodLink RL 216 yX8_checksum ∈ TW := TW_in (tb_3 (List.mem_of_getElem? (i := 109) rfl)) rfl
theorem w590 : Cond.instanceMethod yX8_checksum ∈ TW := TW_in (tb_3 (List.mem_of_getElem? (i := 110) rfl)) rfl
theorem w591 : Cond.selects RX8 yX8_checksum yX8_checksum ∈ TW := TW_in (tb_3 (List.mem_of_getElem? (i := 111) rfl)) rfl
theorem w592 : Cond.code yX8_checksum cX8_checksum 4 (some .long) ∈ TW := TW_in (tb_3 (List.mem_of_getElem? (i := 112) rfl)) rfl
theorem w593 : Cond.constantLong RX8 447 (17317 : Int64) ∈ TW := TW_in (tb_3 (List.mem_of_getElem? (i := 113) rfl)) rfl
theorem w594 : Cond.methodLink RX8 449 yX8_withClasses ∈ TW := TW_in (tb_3 (List.mem_of_getElem? (i := 114) rfl)) rfl
theorem w595 : Cond.static yX8_withClasses ∈ TW := TW_in (tb_3 (List.mem_of_getElem? (i := 115) rfl)) rfl
theorem w596 : Cond.code yX8_withClasses cX8_withClasses 7 (some .long) ∈ TW := TW_in (tb_3 (List.mem_of_getElem? (i := 116) rfl)) rfl
theorem w597 : Cond.methodLink RX8 132 yX2_isThere ∈ TW := TW_in (tb_3 (List.mem_of_getElem? (i := 117) rfl)) rfl
theorem w598 : Cond.methodLink RX8 194 yX2_valueOf ∈ TW := TW_in (tb_3 (List.mem_of_getElem? (i := 118) rfl)) rfl
theorem w599 : Cond.instanceMethod yX2_valueOf ∈ TW := TW_in (tb_3 (List.mem_of_getElem? (i := 119) rfl)) rfl
theorem w600 : Cond.selects RX2 yX2_valueOf yX2_valueOf ∈ TW := TW_in (tb_3 (List.mem_of_getElem? (i := 120) rfl)) rfl
theorem w601 : Cond.code yX2_valueOf cX2_valueOf 3 (some .int) ∈ TW := TW_in (tb_3 (List.mem_of_getElem? (i := 121) rfl)) rfl
theorem w602 : Cond.methodLink RX2 86 yX4_countOf ∈ TW := TW_in (tb_3 (List.mem_of_getElem? (i := 122) rfl)) rfl
theorem w603 : Cond.instanceMethod yX4_countOf ∈ TW := TW_in (tb_3 (List.mem_of_getElem? (i := 123) rfl)) rfl
theorem w604 : Cond.selects RX4 yX4_countOf yX4_countOf ∈ TW := TW_in (tb_3 (List.mem_of_getElem? (i := 124) rfl)) rfl
theorem w605 : Cond.code yX4_countOf cX4_countOf 4 (some .int) ∈ TW := TW_in (tb_3 (List.mem_of_getElem? (i := 125) rfl)) rfl
theorem w606 : Cond.methodLink RX2 90 yX2_isIncomplete ∈ TW := TW_in (tb_3 (List.mem_of_getElem? (i := 126) rfl)) rfl
theorem w607 : Cond.methodLink RX8 457 yX8_withNumber ∈ TW := TW_in (tb_3 (List.mem_of_getElem? (i := 127) rfl)) rfl
theorem w608 : Cond.static yX8_withNumber ∈ TW := TW_in (tb_3 (List.mem_of_getElem? (i := 128) rfl)) rfl
theorem w609 : Cond.code yX8_withNumber cX8_withNumber 3 (some .long) ∈ TW := TW_in (tb_3 (List.mem_of_getElem? (i := 129) rfl)) rfl
theorem w610 : Cond.constantLong RX8 465 (31 : Int64) ∈ TW := TW_in (tb_3 (List.mem_of_getElem? (i := 130) rfl)) rfl
theorem w611 : Cond.methodLink RX8 453 yX8_withMembers ∈ TW := TW_in (tb_3 (List.mem_of_getElem? (i := 131) rfl)) rfl
theorem w612 : Cond.static yX8_withMembers ∈ TW := TW_in (tb_3 (List.mem_of_getElem? (i := 132) rfl)) rfl
theorem w613 : Cond.code yX8_withMembers cX8_withMembers 7 (some .long) ∈ TW := TW_in (tb_3 (List.mem_of_getElem? (i := 133) rfl)) rfl
theorem w614 : Cond.methodLink RX8 265 yX4_valueOf ∈ TW := TW_in (tb_3 (List.mem_of_getElem? (i := 134) rfl)) rfl
theorem w615 : Cond.instanceMethod yX4_valueOf ∈ TW := TW_in (tb_3 (List.mem_of_getElem? (i := 135) rfl)) rfl
theorem w616 : Cond.selects RX4 yX4_valueOf yX4_valueOf ∈ TW := TW_in (tb_3 (List.mem_of_getElem? (i := 136) rfl)) rfl
theorem w617 : Cond.code yX4_valueOf cX4_valueOf 3 (some .int) ∈ TW := TW_in (tb_3 (List.mem_of_getElem? (i := 137) rfl)) rfl
theorem w618 : Cond.methodLink RX8 461 yX8_withClient ∈ TW := TW_in (tb_3 (List.mem_of_getElem? (i := 138) rfl)) rfl
theorem w620 : Cond.instanceMethod yX8_withClient ∈ TW := TW_in (tb_3 (List.mem_of_getElem? (i := 140) rfl)) rfl
theorem w621 : Cond.code yX8_withClient cX8_withClient 7 (some .long) ∈ TW := TW_in (tb_3 (List.mem_of_getElem? (i := 141) rfl)) rfl
theorem w622 : Cond.methodLink RX8 375 yX0_valueOf ∈ TW := TW_in (tb_3 (List.mem_of_getElem? (i := 142) rfl)) rfl
theorem w623 : Cond.instanceMethod yX0_valueOf ∈ TW := TW_in (tb_3 (List.mem_of_getElem? (i := 143) rfl)) rfl
theorem w624 : Cond.selects RX0 yX0_valueOf yX0_valueOf ∈ TW := TW_in (tb_3 (List.mem_of_getElem? (i := 144) rfl)) rfl
theorem w625 : Cond.code yX0_valueOf cX0_valueOf 2 (some .int) ∈ TW := TW_in (tb_3 (List.mem_of_getElem? (i := 145) rfl)) rfl
theorem w626 : Cond.methodLink RX8 384 yX3_errorOf ∈ TW := TW_in (tb_3 (List.mem_of_getElem? (i := 146) rfl)) rfl
theorem w627 : Cond.instanceMethod yX3_errorOf ∈ TW := TW_in (tb_3 (List.mem_of_getElem? (i := 147) rfl)) rfl
theorem w628 : Cond.selects RX3 yX3_errorOf yX3_errorOf ∈ TW := TW_in (tb_3 (List.mem_of_getElem? (i := 148) rfl)) rfl
theorem w629 : Cond.code yX3_errorOf cX3_errorOf 2 (some .int) ∈ TW := TW_in (tb_3 (List.mem_of_getElem? (i := 149) rfl)) rfl
theorem w630 : Cond.methodLink RX3 34 yX2_isThere ∈ TW := TW_in (tb_3 (List.mem_of_getElem? (i := 150) rfl)) rfl
theorem w631 : Cond.methodLink RX3 43 yX2_isClassOpen ∈ TW := TW_in (tb_3 (List.mem_of_getElem? (i := 151) rfl)) rfl
theorem w632 : Cond.methodLink RX3 50 yX3_fieldError ∈ TW := TW_in (tb_3 (List.mem_of_getElem? (i := 152) rfl)) rfl
theorem w634 : Cond.instanceMethod yX3_fieldError ∈ TW := TW_in (tb_3 (List.mem_of_getElem? (i := 154) rfl)) rfl
theorem w635 : Cond.code yX3_fieldError cX3_fieldError 4 (some .int) ∈ TW := TW_in (tb_3 (List.mem_of_getElem? (i := 155) rfl)) rfl
theorem w636 : Cond.methodLink RX3 73 yX2_fieldFor ∈ TW := TW_in (tb_3 (List.mem_of_getElem? (i := 156) rfl)) rfl
theorem w637 : Cond.methodLink RX3 77 yX2_isMemberOpen ∈ TW := TW_in (tb_3 (List.mem_of_getElem? (i := 157) rfl)) rfl
theorem w638 : Cond.methodLink RX3 54 yX3_callError ∈ TW := TW_in (tb_3 (List.mem_of_getElem? (i := 158) rfl)) rfl
theorem w640 : Cond.instanceMethod yX3_callError ∈ TW := TW_in (tb_3 (List.mem_of_getElem? (i := 160) rfl)) rfl
theorem w641 : Cond.code yX3_callError cX3_callError 7 (some .int) ∈ TW := TW_in (tb_3 (List.mem_of_getElem? (i := 161) rfl)) rfl
theorem w642 : Cond.methodLink RX3 97 yX2_isInterface ∈ TW := TW_in (tb_3 (List.mem_of_getElem? (i := 162) rfl)) rfl
theorem w643 : Cond.methodLink RX3 109 yX4_signatureOf ∈ TW := TW_in (tb_3 (List.mem_of_getElem? (i := 163) rfl)) rfl
theorem w644 : Cond.methodLink RX3 112 yX4_descriptorOf ∈ TW := TW_in (tb_3 (List.mem_of_getElem? (i := 164) rfl)) rfl
theorem w645 : Cond.methodLink RX3 116 yX2_methodFor ∈ TW := TW_in (tb_3 (List.mem_of_getElem? (i := 165) rfl)) rfl
theorem w646 : Cond.instanceMethod yX2_methodFor ∈ TW := TW_in (tb_3 (List.mem_of_getElem? (i := 166) rfl)) rfl
theorem w647 : Cond.selects RX2 yX2_methodFor yX2_methodFor ∈ TW := TW_in (tb_3 (List.mem_of_getElem? (i := 167) rfl)) rfl
theorem w648 : Cond.code yX2_methodFor cX2_methodFor 8 (some .int) ∈ TW := TW_in (tb_3 (List.mem_of_getElem? (i := 168) rfl)) rfl
theorem w649 : Cond.methodLink RX3 119 yX3_runs ∈ TW := TW_in (tb_3 (List.mem_of_getElem? (i := 169) rfl)) rfl
theorem w651 : Cond.instanceMethod yX3_runs ∈ TW := TW_in (tb_3 (List.mem_of_getElem? (i := 171) rfl)) rfl
theorem w652 : Cond.code yX3_runs cX3_runs 4 (some .boolean) ∈ TW := TW_in (tb_3 (List.mem_of_getElem? (i := 172) rfl)) rfl
theorem w653 : Cond.methodLink RX3 57 yX2_isAbstract ∈ TW := TW_in (tb_3 (List.mem_of_getElem? (i := 173) rfl)) rfl
theorem w654 : Cond.methodLink RX3 128 yX2_selectedAlong ∈ TW := TW_in (tb_3 (List.mem_of_getElem? (i := 174) rfl)) rfl
theorem w655 : Cond.methodLink RX3 131 yX4_isAbstract ∈ TW := TW_in (tb_3 (List.mem_of_getElem? (i := 175) rfl)) rfl
theorem w656 : Cond.methodLink RX3 60 yX3_extendingError ∈ TW := TW_in (tb_3 (List.mem_of_getElem? (i := 176) rfl)) rfl
theorem w658 : Cond.instanceMethod yX3_extendingError ∈ TW := TW_in (tb_3 (List.mem_of_getElem? (i := 178) rfl)) rfl
theorem w659 : Cond.code yX3_extendingError cX3_extendingError 2 (some .int) ∈ TW := TW_in (tb_3 (List.mem_of_getElem? (i := 179) rfl)) rfl
theorem w660 : Cond.methodLink RX3 132 yX2_isFinal ∈ TW := TW_in (tb_3 (List.mem_of_getElem? (i := 180) rfl)) rfl
theorem w661 : Cond.methodLink RX3 135 yX2_isIncomplete ∈ TW := TW_in (tb_3 (List.mem_of_getElem? (i := 181) rfl)) rfl
theorem w662 : Cond.methodLink RX3 64 yX3_implementingError ∈ TW := TW_in (tb_3 (List.mem_of_getElem? (i := 182) rfl)) rfl
theorem w664 : Cond.instanceMethod yX3_implementingError ∈ TW := TW_in (tb_3 (List.mem_of_getElem? (i := 184) rfl)) rfl
theorem w665 : Cond.code yX3_implementingError cX3_implementingError 3 (some .int) ∈ TW := TW_in (tb_3 (List.mem_of_getElem? (i := 185) rfl)) rfl
theorem w666 : Cond.methodLink RX8 385 yX8_targetOf ∈ TW := TW_in (tb_3 (List.mem_of_getElem? (i := 186) rfl)) rfl
theorem w668 : Cond.instanceMethod yX8_targetOf ∈ TW := TW_in (tb_3 (List.mem_of_getElem? (i := 188) rfl)) rfl
theorem w669 : Cond.code yX8_targetOf cX8_targetOf 3 (some .int) ∈ TW := TW_in (tb_3 (List.mem_of_getElem? (i := 189) rfl)) rfl
theorem w670 : Cond.methodLink RX8 389 yX8_verdictOf ∈ TW := TW_in (tb_3 (List.mem_of_getElem? (i := 190) rfl)) rfl
theorem w672 : Cond.instanceMethod yX8_verdictOf ∈ TW := TW_in (tb_3 (List.mem_of_getElem? (i := 192) rfl)) rfl
theorem w673 : Cond.code yX8_verdictOf cX8_verdictOf 3 (some .int) ∈ TW := TW_in (tb_3 (List.mem_of_getElem? (i := 193) rfl)) rfl
theorem w674 : Cond.methodLink RX8 438 yX7_isSameAs ∈ TW := TW_in (tb_3 (List.mem_of_getElem? (i := 194) rfl)) rfl
theorem w675 : Cond.instanceMethod yX7_isSameAs ∈ TW := TW_in (tb_3 (List.mem_of_getElem? (i := 195) rfl)) rfl
theorem w676 : Cond.selects RX7 yX7_isSameAs yX7_isSameAs ∈ TW := TW_in (tb_3 (List.mem_of_getElem? (i := 196) rfl)) rfl
theorem w677 : Cond.code yX7_isSameAs cX7_isSameAs 2 (some .boolean) ∈ TW := TW_in (tb_3 (List.mem_of_getElem? (i := 197) rfl)) rfl
theorem w678 : Cond.methodLink RL 112 yL_define ∈ TW := TW_in (tb_3 (List.mem_of_getElem? (i := 198) rfl)) rfl
theorem w679 : Cond.static yL_define ∈ TW := TW_in (tb_3 (List.mem_of_getElem? (i := 199) rfl)) rfl
theorem w681 : Cond.classLink RL 13 "java/lang/IndexOutOfBoundsException" ∈ TW := TW_in (tb_3 (List.mem_of_getElem? (i := 201) rfl)) rfl
theorem w682 : Cond.classLink RL 15 "java/lang/IllegalArgumentException" ∈ TW := TW_in (tb_3 (List.mem_of_getElem? (i := 202) rfl)) rfl
theorem w683 : Cond.classLink RL 17 "java/lang/IllegalStateException" ∈ TW := TW_in (tb_3 (List.mem_of_getElem? (i := 203) rfl)) rfl
theorem w684 : Cond.methodLink RL 7 yX8_define ∈ TW := TW_in (tb_3 (List.mem_of_getElem? (i := 204) rfl)) rfl
theorem w685 : Cond.instanceMethod yX8_define ∈ TW := TW_in (tb_3 (List.mem_of_getElem? (i := 205) rfl)) rfl
theorem w686 : Cond.selects RX8 yX8_define yX8_define ∈ TW := TW_in (tb_3 (List.mem_of_getElem? (i := 206) rfl)) rfl
theorem w687 : Cond.code yX8_define cX8_define 7 (some .int) ∈ TW := TW_in (tb_3 (List.mem_of_getElem? (i := 207) rfl)) rfl
theorem w688 : Cond.methodLink RX8 107 yX8_libraryOf ∈ TW := TW_in (tb_3 (List.mem_of_getElem? (i := 208) rfl)) rfl
theorem w690 : Cond.instanceMethod yX8_libraryOf ∈ TW := TW_in (tb_3 (List.mem_of_getElem? (i := 210) rfl)) rfl
theorem w691 : Cond.code yX8_libraryOf cX8_libraryOf 2 (some (.object "CompatibilityJudge$Library")) ∈ TW := TW_in (tb_3 (List.mem_of_getElem? (i := 211) rfl)) rfl
theorem w692 : Cond.methodLink RX8 377 yX8_requireVersion ∈ TW := TW_in (tb_3 (List.mem_of_getElem? (i := 212) rfl)) rfl
theorem w693 : Cond.static yX8_requireVersion ∈ TW := TW_in (tb_3 (List.mem_of_getElem? (i := 213) rfl)) rfl
theorem w694 : Cond.code yX8_requireVersion cX8_requireVersion 1 none ∈ TW := TW_in (tb_3 (List.mem_of_getElem? (i := 214) rfl)) rfl
theorem w695 : Cond.classLink RX8 111 "java/lang/IndexOutOfBoundsException" ∈ TW := TW_in (tb_3 (List.mem_of_getElem? (i := 215) rfl)) rfl
theorem w764 : Cond.methodLink RX8 118 yX2_canHaveSuperclass ∈ TW := TW_in (tb_4 (List.mem_of_getElem? (i := 44) rfl)) rfl
theorem w765 : Cond.instanceMethod yX2_canHaveSuperclass ∈ TW := TW_in (tb_4 (List.mem_of_getElem? (i := 45) rfl)) rfl
theorem w766 : Cond.selects RX2 yX2_canHaveSuperclass yX2_canHaveSuperclass ∈ TW := TW_in (tb_4 (List.mem_of_getElem? (i := 46) rfl)) rfl
theorem w767 : Cond.code yX2_canHaveSuperclass cX2_canHaveSuperclass 3 (some .boolean) ∈ TW := TW_in (tb_4 (List.mem_of_getElem? (i := 47) rfl)) rfl
theorem w768 : Cond.methodLink RX2 63 yX2_isFinal ∈ TW := TW_in (tb_4 (List.mem_of_getElem? (i := 48) rfl)) rfl
theorem w769 : Cond.classLink RX8 122 "java/lang/IllegalArgumentException" ∈ TW := TW_in (tb_4 (List.mem_of_getElem? (i := 49) rfl)) rfl
theorem w785 : Cond.methodLink RX8 127 yX2_canHaveInterfaces ∈ TW := TW_in (tb_4 (List.mem_of_getElem? (i := 65) rfl)) rfl
theorem w786 : Cond.instanceMethod yX2_canHaveInterfaces ∈ TW := TW_in (tb_4 (List.mem_of_getElem? (i := 66) rfl)) rfl
theorem w787 : Cond.selects RX2 yX2_canHaveInterfaces yX2_canHaveInterfaces ∈ TW := TW_in (tb_4 (List.mem_of_getElem? (i := 67) rfl)) rfl
theorem w788 : Cond.code yX2_canHaveInterfaces cX2_canHaveInterfaces 4 (some .boolean) ∈ TW := TW_in (tb_4 (List.mem_of_getElem? (i := 68) rfl)) rfl
theorem w790 : Cond.classLink RX8 136 "java/lang/IllegalStateException" ∈ TW := TW_in (tb_4 (List.mem_of_getElem? (i := 70) rfl)) rfl
theorem w806 : Cond.methodLink RX8 147 yJ6_bitCount_0f7a4 ∈ TW := TW_in (tb_4 (List.mem_of_getElem? (i := 86) rfl)) rfl
theorem w807 : Cond.static yJ6_bitCount_0f7a4 ∈ TW := TW_in (tb_4 (List.mem_of_getElem? (i := 87) rfl)) rfl
theorem w808 : Cond.code yJ6_bitCount_0f7a4 cJ6_bitCount_0f7a4 1 (some .int) ∈ TW := TW_in (tb_4 (List.mem_of_getElem? (i := 88) rfl)) rfl
theorem w809 : Cond.constant RJ6 265 (nI 1431655765) ∈ TW := TW_in (tb_4 (List.mem_of_getElem? (i := 89) rfl)) rfl
theorem w810 : Cond.constant RJ6 266 (nI 858993459) ∈ TW := TW_in (tb_4 (List.mem_of_getElem? (i := 90) rfl)) rfl
theorem w811 : Cond.constant RJ6 267 (nI 252645135) ∈ TW := TW_in (tb_4 (List.mem_of_getElem? (i := 91) rfl)) rfl
theorem w812 : Cond.methodLink RL 121 yL_removeClass ∈ TW := TW_in (tb_4 (List.mem_of_getElem? (i := 92) rfl)) rfl
theorem w813 : Cond.static yL_removeClass ∈ TW := TW_in (tb_4 (List.mem_of_getElem? (i := 93) rfl)) rfl
theorem w815 : Cond.methodLink RL 19 yX8_removeClass ∈ TW := TW_in (tb_4 (List.mem_of_getElem? (i := 95) rfl)) rfl
theorem w816 : Cond.instanceMethod yX8_removeClass ∈ TW := TW_in (tb_4 (List.mem_of_getElem? (i := 96) rfl)) rfl
theorem w817 : Cond.selects RX8 yX8_removeClass yX8_removeClass ∈ TW := TW_in (tb_4 (List.mem_of_getElem? (i := 97) rfl)) rfl
theorem w818 : Cond.code yX8_removeClass cX8_removeClass 4 (some .int) ∈ TW := TW_in (tb_4 (List.mem_of_getElem? (i := 98) rfl)) rfl
theorem w819 : Cond.methodLink RX8 153 yX8_libraryWith ∈ TW := TW_in (tb_4 (List.mem_of_getElem? (i := 99) rfl)) rfl
theorem w821 : Cond.instanceMethod yX8_libraryWith ∈ TW := TW_in (tb_4 (List.mem_of_getElem? (i := 101) rfl)) rfl
theorem w822 : Cond.code yX8_libraryWith cX8_libraryWith 4 (some (.object "CompatibilityJudge$Library")) ∈ TW := TW_in (tb_4 (List.mem_of_getElem? (i := 102) rfl)) rfl
theorem w825 : Cond.methodLink RX8 159 yX2_isSuperclass ∈ TW := TW_in (tb_4 (List.mem_of_getElem? (i := 105) rfl)) rfl
theorem w826 : Cond.instanceMethod yX2_isSuperclass ∈ TW := TW_in (tb_4 (List.mem_of_getElem? (i := 106) rfl)) rfl
theorem w827 : Cond.selects RX2 yX2_isSuperclass yX2_isSuperclass ∈ TW := TW_in (tb_4 (List.mem_of_getElem? (i := 107) rfl)) rfl
theorem w828 : Cond.code yX2_isSuperclass cX2_isSuperclass 3 (some .boolean) ∈ TW := TW_in (tb_4 (List.mem_of_getElem? (i := 108) rfl)) rfl
theorem w829 : Cond.methodLink RX8 162 yX2_isSuperinterface ∈ TW := TW_in (tb_4 (List.mem_of_getElem? (i := 109) rfl)) rfl
theorem w830 : Cond.instanceMethod yX2_isSuperinterface ∈ TW := TW_in (tb_4 (List.mem_of_getElem? (i := 110) rfl)) rfl
theorem w831 : Cond.selects RX2 yX2_isSuperinterface yX2_isSuperinterface ∈ TW := TW_in (tb_4 (List.mem_of_getElem? (i := 111) rfl)) rfl
theorem w832 : Cond.code yX2_isSuperinterface cX2_isSuperinterface 3 (some .boolean) ∈ TW := TW_in (tb_4 (List.mem_of_getElem? (i := 112) rfl)) rfl
theorem w834 : Cond.methodLink RX8 167 yX2_takeClass ∈ TW := TW_in (tb_4 (List.mem_of_getElem? (i := 114) rfl)) rfl
theorem w835 : Cond.methodLink RX8 171 yX4_dropAllOf ∈ TW := TW_in (tb_4 (List.mem_of_getElem? (i := 115) rfl)) rfl
theorem w836 : Cond.instanceMethod yX4_dropAllOf ∈ TW := TW_in (tb_4 (List.mem_of_getElem? (i := 116) rfl)) rfl
theorem w837 : Cond.selects RX4 yX4_dropAllOf yX4_dropAllOf ∈ TW := TW_in (tb_4 (List.mem_of_getElem? (i := 117) rfl)) rfl
theorem w838 : Cond.code yX4_dropAllOf cX4_dropAllOf 4 (some .int) ∈ TW := TW_in (tb_4 (List.mem_of_getElem? (i := 118) rfl)) rfl
theorem w839 : Cond.methodLink RX4 71 yX4_moveRow ∈ TW := TW_in (tb_4 (List.mem_of_getElem? (i := 119) rfl)) rfl
theorem w841 : Cond.instanceMethod yX4_moveRow ∈ TW := TW_in (tb_4 (List.mem_of_getElem? (i := 121) rfl)) rfl
theorem w842 : Cond.code yX4_moveRow cX4_moveRow 3 none ∈ TW := TW_in (tb_4 (List.mem_of_getElem? (i := 122) rfl)) rfl
theorem w843 : Cond.methodLink RL 125 yL_setClass ∈ TW := TW_in (tb_4 (List.mem_of_getElem? (i := 123) rfl)) rfl
theorem w844 : Cond.static yL_setClass ∈ TW := TW_in (tb_4 (List.mem_of_getElem? (i := 124) rfl)) rfl
theorem w846 : Cond.methodLink RL 23 yX8_setClass ∈ TW := TW_in (tb_4 (List.mem_of_getElem? (i := 126) rfl)) rfl
theorem w847 : Cond.instanceMethod yX8_setClass ∈ TW := TW_in (tb_4 (List.mem_of_getElem? (i := 127) rfl)) rfl
theorem w848 : Cond.selects RX8 yX8_setClass yX8_setClass ∈ TW := TW_in (tb_4 (List.mem_of_getElem? (i := 128) rfl)) rfl
theorem w849 : Cond.code yX8_setClass cX8_setClass 7 (some .int) ∈ TW := TW_in (tb_4 (List.mem_of_getElem? (i := 129) rfl)) rfl
theorem w850 : Cond.methodLink RX8 174 yX8_isClassValue ∈ TW := TW_in (tb_4 (List.mem_of_getElem? (i := 130) rfl)) rfl
theorem w851 : Cond.static yX8_isClassValue ∈ TW := TW_in (tb_4 (List.mem_of_getElem? (i := 131) rfl)) rfl
theorem w852 : Cond.code yX8_isClassValue cX8_isClassValue 4 (some .boolean) ∈ TW := TW_in (tb_4 (List.mem_of_getElem? (i := 132) rfl)) rfl
theorem w853 : Cond.methodLink RX8 182 yX2_isInterface ∈ TW := TW_in (tb_4 (List.mem_of_getElem? (i := 133) rfl)) rfl
theorem w858 : Cond.methodLink RX8 189 yX4_hasAbstract ∈ TW := TW_in (tb_4 (List.mem_of_getElem? (i := 138) rfl)) rfl
theorem w859 : Cond.instanceMethod yX4_hasAbstract ∈ TW := TW_in (tb_4 (List.mem_of_getElem? (i := 139) rfl)) rfl
theorem w860 : Cond.selects RX4 yX4_hasAbstract yX4_hasAbstract ∈ TW := TW_in (tb_4 (List.mem_of_getElem? (i := 140) rfl)) rfl
theorem w861 : Cond.code yX4_hasAbstract cX4_hasAbstract 3 (some .boolean) ∈ TW := TW_in (tb_4 (List.mem_of_getElem? (i := 141) rfl)) rfl
theorem w862 : Cond.methodLink RX4 81 yX4_isAbstract ∈ TW := TW_in (tb_4 (List.mem_of_getElem? (i := 142) rfl)) rfl
theorem w864 : Cond.methodLink RL 129 yL_exists ∈ TW := TW_in (tb_4 (List.mem_of_getElem? (i := 144) rfl)) rfl
theorem w865 : Cond.static yL_exists ∈ TW := TW_in (tb_4 (List.mem_of_getElem? (i := 145) rfl)) rfl
theorem w867 : Cond.methodLink RL 27 yX8_exists ∈ TW := TW_in (tb_4 (List.mem_of_getElem? (i := 147) rfl)) rfl
theorem w868 : Cond.instanceMethod yX8_exists ∈ TW := TW_in (tb_4 (List.mem_of_getElem? (i := 148) rfl)) rfl
theorem w869 : Cond.selects RX8 yX8_exists yX8_exists ∈ TW := TW_in (tb_4 (List.mem_of_getElem? (i := 149) rfl)) rfl
theorem w870 : Cond.code yX8_exists cX8_exists 4 (some .boolean) ∈ TW := TW_in (tb_4 (List.mem_of_getElem? (i := 150) rfl)) rfl
theorem w872 : Cond.methodLink RL 132 yL_classInfo ∈ TW := TW_in (tb_4 (List.mem_of_getElem? (i := 152) rfl)) rfl
theorem w873 : Cond.static yL_classInfo ∈ TW := TW_in (tb_4 (List.mem_of_getElem? (i := 153) rfl)) rfl
theorem w875 : Cond.methodLink RL 31 yX8_classInfo ∈ TW := TW_in (tb_4 (List.mem_of_getElem? (i := 155) rfl)) rfl
theorem w876 : Cond.instanceMethod yX8_classInfo ∈ TW := TW_in (tb_4 (List.mem_of_getElem? (i := 156) rfl)) rfl
theorem w877 : Cond.selects RX8 yX8_classInfo yX8_classInfo ∈ TW := TW_in (tb_4 (List.mem_of_getElem? (i := 157) rfl)) rfl
theorem w878 : Cond.code yX8_classInfo cX8_classInfo 5 (some .int) ∈ TW := TW_in (tb_4 (List.mem_of_getElem? (i := 158) rfl)) rfl
theorem w879 : Cond.methodLink RX8 200 yX8_requireInfo ∈ TW := TW_in (tb_4 (List.mem_of_getElem? (i := 159) rfl)) rfl
theorem w880 : Cond.static yX8_requireInfo ∈ TW := TW_in (tb_4 (List.mem_of_getElem? (i := 160) rfl)) rfl
theorem w881 : Cond.code yX8_requireInfo cX8_requireInfo 1 none ∈ TW := TW_in (tb_4 (List.mem_of_getElem? (i := 161) rfl)) rfl
theorem w883 : Cond.methodLink RL 140 yL_draft ∈ TW := TW_in (tb_4 (List.mem_of_getElem? (i := 163) rfl)) rfl
theorem w884 : Cond.static yL_draft ∈ TW := TW_in (tb_4 (List.mem_of_getElem? (i := 164) rfl)) rfl
theorem w886 : Cond.methodLink RL 35 yX8_draft ∈ TW := TW_in (tb_4 (List.mem_of_getElem? (i := 166) rfl)) rfl
theorem w887 : Cond.instanceMethod yX8_draft ∈ TW := TW_in (tb_4 (List.mem_of_getElem? (i := 167) rfl)) rfl
theorem w888 : Cond.selects RX8 yX8_draft yX8_draft ∈ TW := TW_in (tb_4 (List.mem_of_getElem? (i := 168) rfl)) rfl
theorem w889 : Cond.code yX8_draft cX8_draft 6 (some .int) ∈ TW := TW_in (tb_4 (List.mem_of_getElem? (i := 169) rfl)) rfl
theorem w891 : Cond.methodLink RX8 208 yX8_isType ∈ TW := TW_in (tb_4 (List.mem_of_getElem? (i := 171) rfl)) rfl
theorem w892 : Cond.static yX8_isType ∈ TW := TW_in (tb_4 (List.mem_of_getElem? (i := 172) rfl)) rfl
theorem w893 : Cond.code yX8_isType cX8_isType 1 (some .boolean) ∈ TW := TW_in (tb_4 (List.mem_of_getElem? (i := 173) rfl)) rfl
theorem w895 : Cond.methodLink RL 143 yL_addField ∈ TW := TW_in (tb_4 (List.mem_of_getElem? (i := 175) rfl)) rfl
theorem w896 : Cond.static yL_addField ∈ TW := TW_in (tb_4 (List.mem_of_getElem? (i := 176) rfl)) rfl
theorem w898 : Cond.methodLink RL 38 yX8_addField ∈ TW := TW_in (tb_4 (List.mem_of_getElem? (i := 178) rfl)) rfl
theorem w899 : Cond.instanceMethod yX8_addField ∈ TW := TW_in (tb_4 (List.mem_of_getElem? (i := 179) rfl)) rfl
theorem w900 : Cond.selects RX8 yX8_addField yX8_addField ∈ TW := TW_in (tb_4 (List.mem_of_getElem? (i := 180) rfl)) rfl
theorem w901 : Cond.code yX8_addField cX8_addField 7 (some .int) ∈ TW := TW_in (tb_4 (List.mem_of_getElem? (i := 181) rfl)) rfl
theorem w902 : Cond.methodLink RX8 216 yX8_isName ∈ TW := TW_in (tb_4 (List.mem_of_getElem? (i := 182) rfl)) rfl
theorem w903 : Cond.static yX8_isName ∈ TW := TW_in (tb_4 (List.mem_of_getElem? (i := 183) rfl)) rfl
theorem w904 : Cond.code yX8_isName cX8_isName 1 (some .boolean) ∈ TW := TW_in (tb_4 (List.mem_of_getElem? (i := 184) rfl)) rfl
theorem w905 : Cond.methodLink RX8 219 yX8_isAccess ∈ TW := TW_in (tb_4 (List.mem_of_getElem? (i := 185) rfl)) rfl
theorem w906 : Cond.static yX8_isAccess ∈ TW := TW_in (tb_4 (List.mem_of_getElem? (i := 186) rfl)) rfl
theorem w907 : Cond.code yX8_isAccess cX8_isAccess 1 (some .boolean) ∈ TW := TW_in (tb_4 (List.mem_of_getElem? (i := 187) rfl)) rfl
theorem w908 : Cond.methodLink RX8 222 yX2_allowsField ∈ TW := TW_in (tb_4 (List.mem_of_getElem? (i := 188) rfl)) rfl
theorem w909 : Cond.instanceMethod yX2_allowsField ∈ TW := TW_in (tb_4 (List.mem_of_getElem? (i := 189) rfl)) rfl
theorem w910 : Cond.selects RX2 yX2_allowsField yX2_allowsField ∈ TW := TW_in (tb_4 (List.mem_of_getElem? (i := 190) rfl)) rfl
theorem w911 : Cond.code yX2_allowsField cX2_allowsField 4 (some .boolean) ∈ TW := TW_in (tb_4 (List.mem_of_getElem? (i := 191) rfl)) rfl
theorem w913 : Cond.methodLink RX8 228 yX4_hasField ∈ TW := TW_in (tb_4 (List.mem_of_getElem? (i := 193) rfl)) rfl
theorem w914 : Cond.instanceMethod yX4_hasField ∈ TW := TW_in (tb_4 (List.mem_of_getElem? (i := 194) rfl)) rfl
theorem w915 : Cond.selects RX4 yX4_hasField yX4_hasField ∈ TW := TW_in (tb_4 (List.mem_of_getElem? (i := 195) rfl)) rfl
theorem w916 : Cond.code yX4_hasField cX4_hasField 4 (some .boolean) ∈ TW := TW_in (tb_4 (List.mem_of_getElem? (i := 196) rfl)) rfl
theorem w917 : Cond.methodLink RX8 231 yX4_isFull ∈ TW := TW_in (tb_4 (List.mem_of_getElem? (i := 197) rfl)) rfl
theorem w918 : Cond.instanceMethod yX4_isFull ∈ TW := TW_in (tb_4 (List.mem_of_getElem? (i := 198) rfl)) rfl
theorem w919 : Cond.selects RX4 yX4_isFull yX4_isFull ∈ TW := TW_in (tb_4 (List.mem_of_getElem? (i := 199) rfl)) rfl
theorem w920 : Cond.code yX4_isFull cX4_isFull 1 (some .boolean) ∈ TW := TW_in (tb_4 (List.mem_of_getElem? (i := 200) rfl)) rfl
theorem w922 : Cond.methodLink RL 147 yL_addMethod ∈ TW := TW_in (tb_4 (List.mem_of_getElem? (i := 202) rfl)) rfl
theorem w923 : Cond.static yL_addMethod ∈ TW := TW_in (tb_4 (List.mem_of_getElem? (i := 203) rfl)) rfl
theorem w925 : Cond.methodLink RL 42 yX8_addMethod ∈ TW := TW_in (tb_4 (List.mem_of_getElem? (i := 205) rfl)) rfl
theorem w926 : Cond.instanceMethod yX8_addMethod ∈ TW := TW_in (tb_4 (List.mem_of_getElem? (i := 206) rfl)) rfl
theorem w927 : Cond.selects RX8 yX8_addMethod yX8_addMethod ∈ TW := TW_in (tb_4 (List.mem_of_getElem? (i := 207) rfl)) rfl
theorem w928 : Cond.code yX8_addMethod cX8_addMethod 8 (some .int) ∈ TW := TW_in (tb_4 (List.mem_of_getElem? (i := 208) rfl)) rfl
theorem w929 : Cond.methodLink RX8 236 yX2_allowsMethod ∈ TW := TW_in (tb_4 (List.mem_of_getElem? (i := 209) rfl)) rfl
theorem w930 : Cond.instanceMethod yX2_allowsMethod ∈ TW := TW_in (tb_4 (List.mem_of_getElem? (i := 210) rfl)) rfl
theorem w931 : Cond.selects RX2 yX2_allowsMethod yX2_allowsMethod ∈ TW := TW_in (tb_4 (List.mem_of_getElem? (i := 211) rfl)) rfl
theorem w932 : Cond.code yX2_allowsMethod cX2_allowsMethod 4 (some .boolean) ∈ TW := TW_in (tb_4 (List.mem_of_getElem? (i := 212) rfl)) rfl
theorem w933 : Cond.methodLink RX2 98 yX2_isAbstract ∈ TW := TW_in (tb_4 (List.mem_of_getElem? (i := 213) rfl)) rfl
theorem w935 : Cond.methodLink RX8 247 yX4_signatureOf ∈ TW := TW_in (tb_4 (List.mem_of_getElem? (i := 215) rfl)) rfl
theorem w936 : Cond.methodLink RX8 251 yX4_hasMethod ∈ TW := TW_in (tb_4 (List.mem_of_getElem? (i := 216) rfl)) rfl
theorem w937 : Cond.instanceMethod yX4_hasMethod ∈ TW := TW_in (tb_4 (List.mem_of_getElem? (i := 217) rfl)) rfl
theorem w938 : Cond.selects RX4 yX4_hasMethod yX4_hasMethod ∈ TW := TW_in (tb_4 (List.mem_of_getElem? (i := 218) rfl)) rfl
theorem w939 : Cond.code yX4_hasMethod cX4_hasMethod 4 (some .boolean) ∈ TW := TW_in (tb_4 (List.mem_of_getElem? (i := 219) rfl)) rfl
theorem w941 : Cond.methodLink RL 150 yL_removeMember ∈ TW := TW_in (tb_4 (List.mem_of_getElem? (i := 221) rfl)) rfl
theorem w942 : Cond.static yL_removeMember ∈ TW := TW_in (tb_4 (List.mem_of_getElem? (i := 222) rfl)) rfl
theorem w944 : Cond.methodLink RL 45 yX8_removeMember ∈ TW := TW_in (tb_4 (List.mem_of_getElem? (i := 224) rfl)) rfl
theorem w945 : Cond.instanceMethod yX8_removeMember ∈ TW := TW_in (tb_4 (List.mem_of_getElem? (i := 225) rfl)) rfl
theorem w946 : Cond.selects RX8 yX8_removeMember yX8_removeMember ∈ TW := TW_in (tb_4 (List.mem_of_getElem? (i := 226) rfl)) rfl
theorem w947 : Cond.code yX8_removeMember cX8_removeMember 4 (some .int) ∈ TW := TW_in (tb_4 (List.mem_of_getElem? (i := 227) rfl)) rfl
theorem w948 : Cond.methodLink RX8 256 yX8_libraryWithMember ∈ TW := TW_in (tb_4 (List.mem_of_getElem? (i := 228) rfl)) rfl
theorem w950 : Cond.instanceMethod yX8_libraryWithMember ∈ TW := TW_in (tb_4 (List.mem_of_getElem? (i := 230) rfl)) rfl
theorem w951 : Cond.code yX8_libraryWithMember cX8_libraryWithMember 4 (some (.object "CompatibilityJudge$Library")) ∈ TW := TW_in (tb_4 (List.mem_of_getElem? (i := 231) rfl)) rfl
theorem w952 : Cond.methodLink RX8 469 yX2_hasMember ∈ TW := TW_in (tb_4 (List.mem_of_getElem? (i := 232) rfl)) rfl
theorem w953 : Cond.instanceMethod yX2_hasMember ∈ TW := TW_in (tb_4 (List.mem_of_getElem? (i := 233) rfl)) rfl
theorem w954 : Cond.selects RX2 yX2_hasMember yX2_hasMember ∈ TW := TW_in (tb_4 (List.mem_of_getElem? (i := 234) rfl)) rfl
theorem w955 : Cond.code yX2_hasMember cX2_hasMember 2 (some .boolean) ∈ TW := TW_in (tb_4 (List.mem_of_getElem? (i := 235) rfl)) rfl
theorem w957 : Cond.methodLink RX8 259 yX4_dropAt ∈ TW := TW_in (tb_4 (List.mem_of_getElem? (i := 237) rfl)) rfl
theorem w958 : Cond.instanceMethod yX4_dropAt ∈ TW := TW_in (tb_4 (List.mem_of_getElem? (i := 238) rfl)) rfl
theorem w959 : Cond.selects RX4 yX4_dropAt yX4_dropAt ∈ TW := TW_in (tb_4 (List.mem_of_getElem? (i := 239) rfl)) rfl
theorem w960 : Cond.code yX4_dropAt cX4_dropAt 3 none ∈ TW := TW_in (tb_5 (List.mem_of_getElem? (i := 0) rfl)) rfl
theorem w961 : Cond.methodLink RL 153 yL_setMember ∈ TW := TW_in (tb_5 (List.mem_of_getElem? (i := 1) rfl)) rfl
theorem w962 : Cond.static yL_setMember ∈ TW := TW_in (tb_5 (List.mem_of_getElem? (i := 2) rfl)) rfl
theorem w964 : Cond.methodLink RL 48 yX8_setMember ∈ TW := TW_in (tb_5 (List.mem_of_getElem? (i := 4) rfl)) rfl
theorem w965 : Cond.instanceMethod yX8_setMember ∈ TW := TW_in (tb_5 (List.mem_of_getElem? (i := 5) rfl)) rfl
theorem w966 : Cond.selects RX8 yX8_setMember yX8_setMember ∈ TW := TW_in (tb_5 (List.mem_of_getElem? (i := 6) rfl)) rfl
theorem w967 : Cond.code yX8_setMember cX8_setMember 7 (some .int) ∈ TW := TW_in (tb_5 (List.mem_of_getElem? (i := 7) rfl)) rfl
theorem w968 : Cond.methodLink RX8 262 yX8_isMemberValue ∈ TW := TW_in (tb_5 (List.mem_of_getElem? (i := 8) rfl)) rfl
theorem w969 : Cond.static yX8_isMemberValue ∈ TW := TW_in (tb_5 (List.mem_of_getElem? (i := 9) rfl)) rfl
theorem w970 : Cond.code yX8_isMemberValue cX8_isMemberValue 9 (some .boolean) ∈ TW := TW_in (tb_5 (List.mem_of_getElem? (i := 10) rfl)) rfl
theorem w971 : Cond.methodLink RX8 279 yX8_isConstantValue ∈ TW := TW_in (tb_5 (List.mem_of_getElem? (i := 11) rfl)) rfl
theorem w972 : Cond.static yX8_isConstantValue ∈ TW := TW_in (tb_5 (List.mem_of_getElem? (i := 12) rfl)) rfl
theorem w973 : Cond.code yX8_isConstantValue cX8_isConstantValue 1 (some .boolean) ∈ TW := TW_in (tb_5 (List.mem_of_getElem? (i := 13) rfl)) rfl
theorem w974 : Cond.methodLink RX8 282 yX4_isStaticFinal ∈ TW := TW_in (tb_5 (List.mem_of_getElem? (i := 14) rfl)) rfl
theorem w975 : Cond.methodLink RL 156 yL_moveMember ∈ TW := TW_in (tb_5 (List.mem_of_getElem? (i := 15) rfl)) rfl
theorem w976 : Cond.static yL_moveMember ∈ TW := TW_in (tb_5 (List.mem_of_getElem? (i := 16) rfl)) rfl
theorem w978 : Cond.methodLink RL 51 yX8_moveMember ∈ TW := TW_in (tb_5 (List.mem_of_getElem? (i := 18) rfl)) rfl
theorem w979 : Cond.instanceMethod yX8_moveMember ∈ TW := TW_in (tb_5 (List.mem_of_getElem? (i := 19) rfl)) rfl
theorem w980 : Cond.selects RX8 yX8_moveMember yX8_moveMember ∈ TW := TW_in (tb_5 (List.mem_of_getElem? (i := 20) rfl)) rfl
theorem w981 : Cond.code yX8_moveMember cX8_moveMember 8 (some .int) ∈ TW := TW_in (tb_5 (List.mem_of_getElem? (i := 21) rfl)) rfl
theorem w982 : Cond.methodLink RX8 290 yX2_allowsMember ∈ TW := TW_in (tb_5 (List.mem_of_getElem? (i := 22) rfl)) rfl
theorem w983 : Cond.instanceMethod yX2_allowsMember ∈ TW := TW_in (tb_5 (List.mem_of_getElem? (i := 23) rfl)) rfl
theorem w984 : Cond.selects RX2 yX2_allowsMember yX2_allowsMember ∈ TW := TW_in (tb_5 (List.mem_of_getElem? (i := 24) rfl)) rfl
theorem w985 : Cond.code yX2_allowsMember cX2_allowsMember 3 (some .boolean) ∈ TW := TW_in (tb_5 (List.mem_of_getElem? (i := 25) rfl)) rfl
theorem w986 : Cond.methodLink RX2 110 yX2_allowsField ∈ TW := TW_in (tb_5 (List.mem_of_getElem? (i := 26) rfl)) rfl
theorem w987 : Cond.methodLink RX2 114 yX2_allowsMethod ∈ TW := TW_in (tb_5 (List.mem_of_getElem? (i := 27) rfl)) rfl
theorem w990 : Cond.methodLink RL 159 yL_members ∈ TW := TW_in (tb_5 (List.mem_of_getElem? (i := 30) rfl)) rfl
theorem w991 : Cond.static yL_members ∈ TW := TW_in (tb_5 (List.mem_of_getElem? (i := 31) rfl)) rfl
theorem w993 : Cond.methodLink RL 54 yX8_members ∈ TW := TW_in (tb_5 (List.mem_of_getElem? (i := 33) rfl)) rfl
theorem w994 : Cond.instanceMethod yX8_members ∈ TW := TW_in (tb_5 (List.mem_of_getElem? (i := 34) rfl)) rfl
theorem w995 : Cond.selects RX8 yX8_members yX8_members ∈ TW := TW_in (tb_5 (List.mem_of_getElem? (i := 35) rfl)) rfl
theorem w996 : Cond.code yX8_members cX8_members 2 (some .int) ∈ TW := TW_in (tb_5 (List.mem_of_getElem? (i := 36) rfl)) rfl
theorem w997 : Cond.methodLink RL 163 yL_memberInfo ∈ TW := TW_in (tb_5 (List.mem_of_getElem? (i := 37) rfl)) rfl
theorem w998 : Cond.static yL_memberInfo ∈ TW := TW_in (tb_5 (List.mem_of_getElem? (i := 38) rfl)) rfl
theorem w1000 : Cond.methodLink RL 58 yX8_memberInfo ∈ TW := TW_in (tb_5 (List.mem_of_getElem? (i := 40) rfl)) rfl
theorem w1001 : Cond.instanceMethod yX8_memberInfo ∈ TW := TW_in (tb_5 (List.mem_of_getElem? (i := 41) rfl)) rfl
theorem w1002 : Cond.selects RX8 yX8_memberInfo yX8_memberInfo ∈ TW := TW_in (tb_5 (List.mem_of_getElem? (i := 42) rfl)) rfl
theorem w1003 : Cond.code yX8_memberInfo cX8_memberInfo 5 (some .int) ∈ TW := TW_in (tb_5 (List.mem_of_getElem? (i := 43) rfl)) rfl
theorem w1004 : Cond.methodLink RL 166 yL_fits ∈ TW := TW_in (tb_5 (List.mem_of_getElem? (i := 44) rfl)) rfl
theorem w1005 : Cond.static yL_fits ∈ TW := TW_in (tb_5 (List.mem_of_getElem? (i := 45) rfl)) rfl
theorem w1007 : Cond.methodLink RL 61 yX8_fits ∈ TW := TW_in (tb_5 (List.mem_of_getElem? (i := 47) rfl)) rfl
theorem w1008 : Cond.instanceMethod yX8_fits ∈ TW := TW_in (tb_5 (List.mem_of_getElem? (i := 48) rfl)) rfl
theorem w1009 : Cond.selects RX8 yX8_fits yX8_fits ∈ TW := TW_in (tb_5 (List.mem_of_getElem? (i := 49) rfl)) rfl
theorem w1010 : Cond.code yX8_fits cX8_fits 5 (some .boolean) ∈ TW := TW_in (tb_5 (List.mem_of_getElem? (i := 50) rfl)) rfl
theorem w1011 : Cond.methodLink RX8 303 yX2_fitsType ∈ TW := TW_in (tb_5 (List.mem_of_getElem? (i := 51) rfl)) rfl
theorem w1012 : Cond.methodLink RL 169 yL_field ∈ TW := TW_in (tb_5 (List.mem_of_getElem? (i := 52) rfl)) rfl
theorem w1013 : Cond.static yL_field ∈ TW := TW_in (tb_5 (List.mem_of_getElem? (i := 53) rfl)) rfl
theorem w1015 : Cond.methodLink RL 65 yX8_field ∈ TW := TW_in (tb_5 (List.mem_of_getElem? (i := 55) rfl)) rfl
theorem w1016 : Cond.instanceMethod yX8_field ∈ TW := TW_in (tb_5 (List.mem_of_getElem? (i := 56) rfl)) rfl
theorem w1017 : Cond.selects RX8 yX8_field yX8_field ∈ TW := TW_in (tb_5 (List.mem_of_getElem? (i := 57) rfl)) rfl
theorem w1018 : Cond.code yX8_field cX8_field 5 (some .int) ∈ TW := TW_in (tb_5 (List.mem_of_getElem? (i := 58) rfl)) rfl
theorem w1019 : Cond.methodLink RX8 306 yX8_requireName ∈ TW := TW_in (tb_5 (List.mem_of_getElem? (i := 59) rfl)) rfl
theorem w1020 : Cond.static yX8_requireName ∈ TW := TW_in (tb_5 (List.mem_of_getElem? (i := 60) rfl)) rfl
theorem w1021 : Cond.code yX8_requireName cX8_requireName 1 none ∈ TW := TW_in (tb_5 (List.mem_of_getElem? (i := 61) rfl)) rfl
theorem w1023 : Cond.methodLink RX8 312 yX2_fieldFor ∈ TW := TW_in (tb_5 (List.mem_of_getElem? (i := 63) rfl)) rfl
theorem w1024 : Cond.methodLink RL 172 yL_method ∈ TW := TW_in (tb_5 (List.mem_of_getElem? (i := 64) rfl)) rfl
theorem w1025 : Cond.static yL_method ∈ TW := TW_in (tb_5 (List.mem_of_getElem? (i := 65) rfl)) rfl
theorem w1027 : Cond.methodLink RL 68 yX8_method ∈ TW := TW_in (tb_5 (List.mem_of_getElem? (i := 67) rfl)) rfl
theorem w1028 : Cond.instanceMethod yX8_method ∈ TW := TW_in (tb_5 (List.mem_of_getElem? (i := 68) rfl)) rfl
theorem w1029 : Cond.selects RX8 yX8_method yX8_method ∈ TW := TW_in (tb_5 (List.mem_of_getElem? (i := 69) rfl)) rfl
theorem w1030 : Cond.code yX8_method cX8_method 6 (some .int) ∈ TW := TW_in (tb_5 (List.mem_of_getElem? (i := 70) rfl)) rfl
theorem w1031 : Cond.methodLink RX8 315 yX4_descriptorOf ∈ TW := TW_in (tb_5 (List.mem_of_getElem? (i := 71) rfl)) rfl
theorem w1032 : Cond.methodLink RX8 318 yX2_methodFor ∈ TW := TW_in (tb_5 (List.mem_of_getElem? (i := 72) rfl)) rfl
theorem w1033 : Cond.methodLink RL 175 yL_selected ∈ TW := TW_in (tb_5 (List.mem_of_getElem? (i := 73) rfl)) rfl
theorem w1034 : Cond.static yL_selected ∈ TW := TW_in (tb_5 (List.mem_of_getElem? (i := 74) rfl)) rfl
theorem w1036 : Cond.methodLink RL 71 yX8_selected ∈ TW := TW_in (tb_5 (List.mem_of_getElem? (i := 76) rfl)) rfl
theorem w1037 : Cond.instanceMethod yX8_selected ∈ TW := TW_in (tb_5 (List.mem_of_getElem? (i := 77) rfl)) rfl
theorem w1038 : Cond.selects RX8 yX8_selected yX8_selected ∈ TW := TW_in (tb_5 (List.mem_of_getElem? (i := 78) rfl)) rfl
theorem w1039 : Cond.code yX8_selected cX8_selected 6 (some .int) ∈ TW := TW_in (tb_5 (List.mem_of_getElem? (i := 79) rfl)) rfl
theorem w1042 : Cond.methodLink RX8 334 yX2_selectedAlong ∈ TW := TW_in (tb_5 (List.mem_of_getElem? (i := 82) rfl)) rfl
theorem w1043 : Cond.methodLink RL 178 yL_addClient ∈ TW := TW_in (tb_5 (List.mem_of_getElem? (i := 83) rfl)) rfl
theorem w1044 : Cond.static yL_addClient ∈ TW := TW_in (tb_5 (List.mem_of_getElem? (i := 84) rfl)) rfl
theorem w1046 : Cond.methodLink RL 74 yX8_addClient ∈ TW := TW_in (tb_5 (List.mem_of_getElem? (i := 86) rfl)) rfl
theorem w1047 : Cond.instanceMethod yX8_addClient ∈ TW := TW_in (tb_5 (List.mem_of_getElem? (i := 87) rfl)) rfl
theorem w1048 : Cond.selects RX8 yX8_addClient yX8_addClient ∈ TW := TW_in (tb_5 (List.mem_of_getElem? (i := 88) rfl)) rfl
theorem w1049 : Cond.code yX8_addClient cX8_addClient 5 (some .int) ∈ TW := TW_in (tb_5 (List.mem_of_getElem? (i := 89) rfl)) rfl
theorem w1050 : Cond.methodLink RX8 337 yX8_isPackage ∈ TW := TW_in (tb_5 (List.mem_of_getElem? (i := 90) rfl)) rfl
theorem w1051 : Cond.static yX8_isPackage ∈ TW := TW_in (tb_5 (List.mem_of_getElem? (i := 91) rfl)) rfl
theorem w1052 : Cond.code yX8_isPackage cX8_isPackage 1 (some .boolean) ∈ TW := TW_in (tb_5 (List.mem_of_getElem? (i := 92) rfl)) rfl
theorem w1054 : Cond.methodLink RX8 344 yX0_putArguments ∈ TW := TW_in (tb_5 (List.mem_of_getElem? (i := 94) rfl)) rfl
theorem w1055 : Cond.instanceMethod yX0_putArguments ∈ TW := TW_in (tb_5 (List.mem_of_getElem? (i := 95) rfl)) rfl
theorem w1056 : Cond.selects RX0 yX0_putArguments yX0_putArguments ∈ TW := TW_in (tb_5 (List.mem_of_getElem? (i := 96) rfl)) rfl
theorem w1057 : Cond.code yX0_putArguments cX0_putArguments 4 none ∈ TW := TW_in (tb_5 (List.mem_of_getElem? (i := 97) rfl)) rfl
theorem w1060 : Cond.methodLink RL 181 yL_setBase ∈ TW := TW_in (tb_5 (List.mem_of_getElem? (i := 100) rfl)) rfl
theorem w1061 : Cond.static yL_setBase ∈ TW := TW_in (tb_5 (List.mem_of_getElem? (i := 101) rfl)) rfl
theorem w1063 : Cond.methodLink RL 77 yX8_setBase ∈ TW := TW_in (tb_5 (List.mem_of_getElem? (i := 103) rfl)) rfl
theorem w1064 : Cond.instanceMethod yX8_setBase ∈ TW := TW_in (tb_5 (List.mem_of_getElem? (i := 104) rfl)) rfl
theorem w1065 : Cond.selects RX8 yX8_setBase yX8_setBase ∈ TW := TW_in (tb_5 (List.mem_of_getElem? (i := 105) rfl)) rfl
theorem w1066 : Cond.code yX8_setBase cX8_setBase 5 (some .int) ∈ TW := TW_in (tb_5 (List.mem_of_getElem? (i := 106) rfl)) rfl
theorem w1067 : Cond.methodLink RX8 352 yX8_clientAt ∈ TW := TW_in (tb_5 (List.mem_of_getElem? (i := 107) rfl)) rfl
theorem w1069 : Cond.instanceMethod yX8_clientAt ∈ TW := TW_in (tb_5 (List.mem_of_getElem? (i := 109) rfl)) rfl
theorem w1070 : Cond.code yX8_clientAt cX8_clientAt 2 (some (.object "CompatibilityJudge$Client")) ∈ TW := TW_in (tb_5 (List.mem_of_getElem? (i := 110) rfl)) rfl
theorem w1071 : Cond.methodLink RX8 371 yX8_requireClient ∈ TW := TW_in (tb_5 (List.mem_of_getElem? (i := 111) rfl)) rfl
theorem w1073 : Cond.instanceMethod yX8_requireClient ∈ TW := TW_in (tb_5 (List.mem_of_getElem? (i := 113) rfl)) rfl
theorem w1074 : Cond.code yX8_requireClient cX8_requireClient 2 none ∈ TW := TW_in (tb_5 (List.mem_of_getElem? (i := 114) rfl)) rfl
theorem w1076 : Cond.methodLink RX8 359 yX1_canBeBase ∈ TW := TW_in (tb_5 (List.mem_of_getElem? (i := 116) rfl)) rfl
theorem w1078 : Cond.methodLink RX8 364 yX0_copyFrom ∈ TW := TW_in (tb_5 (List.mem_of_getElem? (i := 118) rfl)) rfl
theorem w1080 : Cond.methodLink RL 184 yL_removeClient ∈ TW := TW_in (tb_5 (List.mem_of_getElem? (i := 120) rfl)) rfl
theorem w1081 : Cond.static yL_removeClient ∈ TW := TW_in (tb_5 (List.mem_of_getElem? (i := 121) rfl)) rfl
theorem w1083 : Cond.methodLink RL 80 yX8_removeClient ∈ TW := TW_in (tb_5 (List.mem_of_getElem? (i := 123) rfl)) rfl
theorem w1084 : Cond.instanceMethod yX8_removeClient ∈ TW := TW_in (tb_5 (List.mem_of_getElem? (i := 124) rfl)) rfl
theorem w1085 : Cond.selects RX8 yX8_removeClient yX8_removeClient ∈ TW := TW_in (tb_5 (List.mem_of_getElem? (i := 125) rfl)) rfl
theorem w1086 : Cond.code yX8_removeClient cX8_removeClient 2 (some .int) ∈ TW := TW_in (tb_5 (List.mem_of_getElem? (i := 126) rfl)) rfl
theorem w1087 : Cond.methodLink RX8 374 yX6_dropAt ∈ TW := TW_in (tb_5 (List.mem_of_getElem? (i := 127) rfl)) rfl
theorem w1088 : Cond.instanceMethod yX6_dropAt ∈ TW := TW_in (tb_5 (List.mem_of_getElem? (i := 128) rfl)) rfl
theorem w1089 : Cond.selects RX6 yX6_dropAt yX6_dropAt ∈ TW := TW_in (tb_5 (List.mem_of_getElem? (i := 129) rfl)) rfl
theorem w1090 : Cond.code yX6_dropAt cX6_dropAt 3 none ∈ TW := TW_in (tb_5 (List.mem_of_getElem? (i := 130) rfl)) rfl
theorem w1091 : Cond.methodLink RL 191 yL_clientInfo ∈ TW := TW_in (tb_5 (List.mem_of_getElem? (i := 131) rfl)) rfl
theorem w1092 : Cond.static yL_clientInfo ∈ TW := TW_in (tb_5 (List.mem_of_getElem? (i := 132) rfl)) rfl
theorem w1094 : Cond.methodLink RL 83 yX8_clientInfo ∈ TW := TW_in (tb_5 (List.mem_of_getElem? (i := 134) rfl)) rfl
theorem w1095 : Cond.instanceMethod yX8_clientInfo ∈ TW := TW_in (tb_5 (List.mem_of_getElem? (i := 135) rfl)) rfl
theorem w1096 : Cond.selects RX8 yX8_clientInfo yX8_clientInfo ∈ TW := TW_in (tb_5 (List.mem_of_getElem? (i := 136) rfl)) rfl
theorem w1097 : Cond.code yX8_clientInfo cX8_clientInfo 4 (some .int) ∈ TW := TW_in (tb_5 (List.mem_of_getElem? (i := 137) rfl)) rfl
theorem w1098 : Cond.methodLink RL 194 yL_compile ∈ TW := TW_in (tb_5 (List.mem_of_getElem? (i := 138) rfl)) rfl
theorem w1099 : Cond.static yL_compile ∈ TW := TW_in (tb_5 (List.mem_of_getElem? (i := 139) rfl)) rfl
theorem w1101 : Cond.methodLink RL 86 yX8_compile ∈ TW := TW_in (tb_5 (List.mem_of_getElem? (i := 141) rfl)) rfl
theorem w1102 : Cond.instanceMethod yX8_compile ∈ TW := TW_in (tb_5 (List.mem_of_getElem? (i := 142) rfl)) rfl
theorem w1103 : Cond.selects RX8 yX8_compile yX8_compile ∈ TW := TW_in (tb_5 (List.mem_of_getElem? (i := 143) rfl)) rfl
theorem w1104 : Cond.code yX8_compile cX8_compile 4 (some .int) ∈ TW := TW_in (tb_5 (List.mem_of_getElem? (i := 144) rfl)) rfl
theorem w1105 : Cond.methodLink RL 197 yL_link ∈ TW := TW_in (tb_5 (List.mem_of_getElem? (i := 145) rfl)) rfl
theorem w1106 : Cond.static yL_link ∈ TW := TW_in (tb_5 (List.mem_of_getElem? (i := 146) rfl)) rfl
theorem w1108 : Cond.methodLink RL 89 yX8_link ∈ TW := TW_in (tb_5 (List.mem_of_getElem? (i := 148) rfl)) rfl
theorem w1109 : Cond.instanceMethod yX8_link ∈ TW := TW_in (tb_5 (List.mem_of_getElem? (i := 149) rfl)) rfl
theorem w1110 : Cond.selects RX8 yX8_link yX8_link ∈ TW := TW_in (tb_5 (List.mem_of_getElem? (i := 150) rfl)) rfl
theorem w1111 : Cond.code yX8_link cX8_link 4 (some .int) ∈ TW := TW_in (tb_5 (List.mem_of_getElem? (i := 151) rfl)) rfl
theorem w1112 : Cond.methodLink RL 200 yL_target ∈ TW := TW_in (tb_5 (List.mem_of_getElem? (i := 152) rfl)) rfl
theorem w1113 : Cond.static yL_target ∈ TW := TW_in (tb_5 (List.mem_of_getElem? (i := 153) rfl)) rfl
theorem w1115 : Cond.methodLink RL 92 yX8_target ∈ TW := TW_in (tb_5 (List.mem_of_getElem? (i := 155) rfl)) rfl
theorem w1116 : Cond.instanceMethod yX8_target ∈ TW := TW_in (tb_5 (List.mem_of_getElem? (i := 156) rfl)) rfl
theorem w1117 : Cond.selects RX8 yX8_target yX8_target ∈ TW := TW_in (tb_5 (List.mem_of_getElem? (i := 157) rfl)) rfl
theorem w1118 : Cond.code yX8_target cX8_target 4 (some .int) ∈ TW := TW_in (tb_5 (List.mem_of_getElem? (i := 158) rfl)) rfl
theorem w1119 : Cond.methodLink RL 203 yL_verdict ∈ TW := TW_in (tb_5 (List.mem_of_getElem? (i := 159) rfl)) rfl
theorem w1120 : Cond.static yL_verdict ∈ TW := TW_in (tb_5 (List.mem_of_getElem? (i := 160) rfl)) rfl
theorem w1122 : Cond.methodLink RL 95 yX8_verdict ∈ TW := TW_in (tb_5 (List.mem_of_getElem? (i := 162) rfl)) rfl
theorem w1123 : Cond.instanceMethod yX8_verdict ∈ TW := TW_in (tb_5 (List.mem_of_getElem? (i := 163) rfl)) rfl
theorem w1124 : Cond.selects RX8 yX8_verdict yX8_verdict ∈ TW := TW_in (tb_5 (List.mem_of_getElem? (i := 164) rfl)) rfl
theorem w1125 : Cond.code yX8_verdict cX8_verdict 2 (some .int) ∈ TW := TW_in (tb_5 (List.mem_of_getElem? (i := 165) rfl)) rfl
theorem w1126 : Cond.methodLink RL 206 yL_count ∈ TW := TW_in (tb_5 (List.mem_of_getElem? (i := 166) rfl)) rfl
theorem w1127 : Cond.static yL_count ∈ TW := TW_in (tb_5 (List.mem_of_getElem? (i := 167) rfl)) rfl
theorem w1129 : Cond.methodLink RL 98 yX8_count ∈ TW := TW_in (tb_5 (List.mem_of_getElem? (i := 169) rfl)) rfl
theorem w1130 : Cond.instanceMethod yX8_count ∈ TW := TW_in (tb_5 (List.mem_of_getElem? (i := 170) rfl)) rfl
theorem w1131 : Cond.selects RX8 yX8_count yX8_count ∈ TW := TW_in (tb_5 (List.mem_of_getElem? (i := 171) rfl)) rfl
theorem w1132 : Cond.code yX8_count cX8_count 4 (some .int) ∈ TW := TW_in (tb_5 (List.mem_of_getElem? (i := 172) rfl)) rfl
theorem w1134 : Cond.methodLink RL 209 yL_sample ∈ TW := TW_in (tb_5 (List.mem_of_getElem? (i := 174) rfl)) rfl
theorem w1135 : Cond.static yL_sample ∈ TW := TW_in (tb_5 (List.mem_of_getElem? (i := 175) rfl)) rfl
theorem w1137 : Cond.methodLink RL 101 yX8_sample ∈ TW := TW_in (tb_5 (List.mem_of_getElem? (i := 177) rfl)) rfl
theorem w1138 : Cond.instanceMethod yX8_sample ∈ TW := TW_in (tb_5 (List.mem_of_getElem? (i := 178) rfl)) rfl
theorem w1139 : Cond.selects RX8 yX8_sample yX8_sample ∈ TW := TW_in (tb_5 (List.mem_of_getElem? (i := 179) rfl)) rfl
theorem w1140 : Cond.code yX8_sample cX8_sample 5 (some .int) ∈ TW := TW_in (tb_5 (List.mem_of_getElem? (i := 180) rfl)) rfl
theorem w1143 : Cond.constant RX8 402 (nI 63840) ∈ TW := TW_in (tb_5 (List.mem_of_getElem? (i := 183) rfl)) rfl
theorem w1144 : Cond.methodLink RX8 403 yX8_sampleValue ∈ TW := TW_in (tb_5 (List.mem_of_getElem? (i := 184) rfl)) rfl
theorem w1146 : Cond.instanceMethod yX8_sampleValue ∈ TW := TW_in (tb_5 (List.mem_of_getElem? (i := 186) rfl)) rfl
theorem w1147 : Cond.code yX8_sampleValue cX8_sampleValue 2 (some .int) ∈ TW := TW_in (tb_5 (List.mem_of_getElem? (i := 187) rfl)) rfl
theorem w1148 : Cond.methodLink RX8 410 yX0_advance ∈ TW := TW_in (tb_5 (List.mem_of_getElem? (i := 188) rfl)) rfl
theorem w1149 : Cond.instanceMethod yX0_advance ∈ TW := TW_in (tb_5 (List.mem_of_getElem? (i := 189) rfl)) rfl
theorem w1150 : Cond.selects RX0 yX0_advance yX0_advance ∈ TW := TW_in (tb_5 (List.mem_of_getElem? (i := 190) rfl)) rfl
theorem w1151 : Cond.code yX0_advance cX0_advance 2 (some .boolean) ∈ TW := TW_in (tb_5 (List.mem_of_getElem? (i := 191) rfl)) rfl
theorem w1152 : Cond.methodLink RX0 46 yX0_nextTypes ∈ TW := TW_in (tb_5 (List.mem_of_getElem? (i := 192) rfl)) rfl
theorem w1154 : Cond.instanceMethod yX0_nextTypes ∈ TW := TW_in (tb_5 (List.mem_of_getElem? (i := 194) rfl)) rfl
theorem w1155 : Cond.code yX0_nextTypes cX0_nextTypes 1 (some .boolean) ∈ TW := TW_in (tb_5 (List.mem_of_getElem? (i := 195) rfl)) rfl
theorem w1156 : Cond.methodLink RX0 50 yX0_nextMany ∈ TW := TW_in (tb_5 (List.mem_of_getElem? (i := 196) rfl)) rfl
theorem w1158 : Cond.instanceMethod yX0_nextMany ∈ TW := TW_in (tb_5 (List.mem_of_getElem? (i := 198) rfl)) rfl
theorem w1159 : Cond.code yX0_nextMany cX0_nextMany 1 (some .boolean) ∈ TW := TW_in (tb_5 (List.mem_of_getElem? (i := 199) rfl)) rfl
theorem w1160 : Cond.methodLink RX0 53 yX0_put ∈ TW := TW_in (tb_5 (List.mem_of_getElem? (i := 200) rfl)) rfl
theorem w1161 : Cond.methodLink RL 212 yL_undo ∈ TW := TW_in (tb_5 (List.mem_of_getElem? (i := 201) rfl)) rfl
theorem w1162 : Cond.static yL_undo ∈ TW := TW_in (tb_5 (List.mem_of_getElem? (i := 202) rfl)) rfl
theorem w1164 : Cond.methodLink RL 104 yX8_undo ∈ TW := TW_in (tb_5 (List.mem_of_getElem? (i := 204) rfl)) rfl
theorem w1165 : Cond.instanceMethod yX8_undo ∈ TW := TW_in (tb_5 (List.mem_of_getElem? (i := 205) rfl)) rfl
theorem w1166 : Cond.selects RX8 yX8_undo yX8_undo ∈ TW := TW_in (tb_5 (List.mem_of_getElem? (i := 206) rfl)) rfl
theorem w1167 : Cond.code yX8_undo cX8_undo 1 (some .int) ∈ TW := TW_in (tb_5 (List.mem_of_getElem? (i := 207) rfl)) rfl
theorem w1169 : Cond.classLink RL 109 RX9 ∈ TW := TW_in (tb_5 (List.mem_of_getElem? (i := 209) rfl)) rfl
theorem w1170 : Cond.instantiable RX9 20 ∈ TW := TW_in (tb_5 (List.mem_of_getElem? (i := 210) rfl)) rfl
theorem w1171 : Cond.methodLink RL 111 yX9_init ∈ TW := TW_in (tb_5 (List.mem_of_getElem? (i := 211) rfl)) rfl
theorem w1172 : Cond.instanceMethod yX9_init ∈ TW := TW_in (tb_5 (List.mem_of_getElem? (i := 212) rfl)) rfl
theorem w1173 : Cond.code yX9_init cX9_init 2 none ∈ TW := TW_in (tb_5 (List.mem_of_getElem? (i := 213) rfl)) rfl
theorem w1174 : Cond.methodLink RX9 1 objectInit ∈ TW := TW_in (tb_5 (List.mem_of_getElem? (i := 214) rfl)) rfl
theorem w1175 : Cond.methodLink RX9 32 yX9_puts ∈ TW := TW_in (tb_5 (List.mem_of_getElem? (i := 215) rfl)) rfl
theorem w1177 : Cond.instanceMethod yX9_puts ∈ TW := TW_in (tb_5 (List.mem_of_getElem? (i := 217) rfl)) rfl
theorem w1178 : Cond.code yX9_puts cX9_puts 10 none ∈ TW := TW_in (tb_5 (List.mem_of_getElem? (i := 218) rfl)) rfl
theorem w1179 : Cond.methodLink RX9 48 yX9_at ∈ TW := TW_in (tb_5 (List.mem_of_getElem? (i := 219) rfl)) rfl
theorem w1180 : Cond.static yX9_at ∈ TW := TW_in (tb_5 (List.mem_of_getElem? (i := 220) rfl)) rfl
theorem w1181 : Cond.code yX9_at cX9_at 2 (some .int) ∈ TW := TW_in (tb_5 (List.mem_of_getElem? (i := 221) rfl)) rfl
theorem w1182 : Cond.methodLink RX9 36 yX9_adds ∈ TW := TW_in (tb_5 (List.mem_of_getElem? (i := 222) rfl)) rfl
theorem w1184 : Cond.instanceMethod yX9_adds ∈ TW := TW_in (tb_5 (List.mem_of_getElem? (i := 224) rfl)) rfl
theorem w1185 : Cond.code yX9_adds cX9_adds 12 (some .int) ∈ TW := TW_in (tb_5 (List.mem_of_getElem? (i := 225) rfl)) rfl
theorem w1186 : Cond.methodLink RX9 51 yX9_memberMany ∈ TW := TW_in (tb_5 (List.mem_of_getElem? (i := 226) rfl)) rfl
theorem w1188 : Cond.instanceMethod yX9_memberMany ∈ TW := TW_in (tb_5 (List.mem_of_getElem? (i := 228) rfl)) rfl
theorem w1189 : Cond.code yX9_memberMany cX9_memberMany 2 (some .int) ∈ TW := TW_in (tb_5 (List.mem_of_getElem? (i := 229) rfl)) rfl
theorem w1190 : Cond.methodLink RX9 40 yX9_member ∈ TW := TW_in (tb_5 (List.mem_of_getElem? (i := 230) rfl)) rfl
theorem w1191 : Cond.static yX9_member ∈ TW := TW_in (tb_5 (List.mem_of_getElem? (i := 231) rfl)) rfl
theorem w1192 : Cond.code yX9_member cX9_member 2 (some .int) ∈ TW := TW_in (tb_5 (List.mem_of_getElem? (i := 232) rfl)) rfl
theorem w1193 : Cond.methodLink RX9 44 yX9_comes ∈ TW := TW_in (tb_5 (List.mem_of_getElem? (i := 233) rfl)) rfl
theorem w1195 : Cond.instanceMethod yX9_comes ∈ TW := TW_in (tb_5 (List.mem_of_getElem? (i := 235) rfl)) rfl
theorem w1196 : Cond.code yX9_comes cX9_comes 5 none ∈ TW := TW_in (tb_5 (List.mem_of_getElem? (i := 236) rfl)) rfl
theorem w1197 : Cond.methodLink RX9 291 yX9_makes ∈ TW := TW_in (tb_5 (List.mem_of_getElem? (i := 237) rfl)) rfl
theorem w1199 : Cond.instanceMethod yX9_makes ∈ TW := TW_in (tb_5 (List.mem_of_getElem? (i := 239) rfl)) rfl
theorem w1200 : Cond.code yX9_makes cX9_makes 8 none ∈ TW := TW_in (tb_6 (List.mem_of_getElem? (i := 0) rfl)) rfl
theorem w1201 : Cond.methodLink RX9 280 yX9_compiled ∈ TW := TW_in (tb_6 (List.mem_of_getElem? (i := 1) rfl)) rfl
theorem w1203 : Cond.instanceMethod yX9_compiled ∈ TW := TW_in (tb_6 (List.mem_of_getElem? (i := 3) rfl)) rfl
theorem w1204 : Cond.code yX9_compiled cX9_compiled 3 (some .int) ∈ TW := TW_in (tb_6 (List.mem_of_getElem? (i := 4) rfl)) rfl
theorem w1205 : Cond.methodLink RX9 241 yX9_noReference ∈ TW := TW_in (tb_6 (List.mem_of_getElem? (i := 5) rfl)) rfl
theorem w1207 : Cond.instanceMethod yX9_noReference ∈ TW := TW_in (tb_6 (List.mem_of_getElem? (i := 7) rfl)) rfl
theorem w1208 : Cond.code yX9_noReference cX9_noReference 2 none ∈ TW := TW_in (tb_6 (List.mem_of_getElem? (i := 8) rfl)) rfl
theorem w1209 : Cond.methodLink RX9 77 yX9_isClass ∈ TW := TW_in (tb_6 (List.mem_of_getElem? (i := 9) rfl)) rfl
theorem w1211 : Cond.instanceMethod yX9_isClass ∈ TW := TW_in (tb_6 (List.mem_of_getElem? (i := 11) rfl)) rfl
theorem w1212 : Cond.code yX9_isClass cX9_isClass 3 (some .boolean) ∈ TW := TW_in (tb_6 (List.mem_of_getElem? (i := 12) rfl)) rfl
theorem w1213 : Cond.methodLink RX9 70 yX9_isVersion ∈ TW := TW_in (tb_6 (List.mem_of_getElem? (i := 13) rfl)) rfl
theorem w1214 : Cond.static yX9_isVersion ∈ TW := TW_in (tb_6 (List.mem_of_getElem? (i := 14) rfl)) rfl
theorem w1215 : Cond.code yX9_isVersion cX9_isVersion 1 (some .boolean) ∈ TW := TW_in (tb_6 (List.mem_of_getElem? (i := 15) rfl)) rfl
theorem w1216 : Cond.methodLink RX9 66 yX9_within ∈ TW := TW_in (tb_6 (List.mem_of_getElem? (i := 16) rfl)) rfl
theorem w1217 : Cond.static yX9_within ∈ TW := TW_in (tb_6 (List.mem_of_getElem? (i := 17) rfl)) rfl
theorem w1218 : Cond.code yX9_within cX9_within 3 (some .boolean) ∈ TW := TW_in (tb_6 (List.mem_of_getElem? (i := 18) rfl)) rfl
theorem w1219 : Cond.methodLink RX9 73 yX9_of ∈ TW := TW_in (tb_6 (List.mem_of_getElem? (i := 19) rfl)) rfl
theorem w1221 : Cond.instanceMethod yX9_of ∈ TW := TW_in (tb_6 (List.mem_of_getElem? (i := 21) rfl)) rfl
theorem w1222 : Cond.code yX9_of cX9_of 4 (some .int) ∈ TW := TW_in (tb_6 (List.mem_of_getElem? (i := 22) rfl)) rfl
theorem w1223 : Cond.methodLink RX9 244 yX9_isOpenClass ∈ TW := TW_in (tb_6 (List.mem_of_getElem? (i := 23) rfl)) rfl
theorem w1225 : Cond.instanceMethod yX9_isOpenClass ∈ TW := TW_in (tb_6 (List.mem_of_getElem? (i := 25) rfl)) rfl
theorem w1226 : Cond.code yX9_isOpenClass cX9_isOpenClass 3 (some .boolean) ∈ TW := TW_in (tb_6 (List.mem_of_getElem? (i := 26) rfl)) rfl
theorem w1227 : Cond.methodLink RX9 247 yX9_compiledField ∈ TW := TW_in (tb_6 (List.mem_of_getElem? (i := 27) rfl)) rfl
theorem w1229 : Cond.instanceMethod yX9_compiledField ∈ TW := TW_in (tb_6 (List.mem_of_getElem? (i := 29) rfl)) rfl
theorem w1230 : Cond.code yX9_compiledField cX9_compiledField 4 (some .int) ∈ TW := TW_in (tb_6 (List.mem_of_getElem? (i := 30) rfl)) rfl
theorem w1231 : Cond.methodLink RX9 177 yX9_fieldOf ∈ TW := TW_in (tb_6 (List.mem_of_getElem? (i := 31) rfl)) rfl
theorem w1233 : Cond.instanceMethod yX9_fieldOf ∈ TW := TW_in (tb_6 (List.mem_of_getElem? (i := 33) rfl)) rfl
theorem w1234 : Cond.code yX9_fieldOf cX9_fieldOf 9 (some .int) ∈ TW := TW_in (tb_6 (List.mem_of_getElem? (i := 34) rfl)) rfl
theorem w1235 : Cond.methodLink RX9 173 yX9_ownField ∈ TW := TW_in (tb_6 (List.mem_of_getElem? (i := 35) rfl)) rfl
theorem w1237 : Cond.instanceMethod yX9_ownField ∈ TW := TW_in (tb_6 (List.mem_of_getElem? (i := 37) rfl)) rfl
theorem w1238 : Cond.code yX9_ownField cX9_ownField 7 (some .int) ∈ TW := TW_in (tb_6 (List.mem_of_getElem? (i := 38) rfl)) rfl
theorem w1239 : Cond.methodLink RX9 144 yX9_found ∈ TW := TW_in (tb_6 (List.mem_of_getElem? (i := 39) rfl)) rfl
theorem w1241 : Cond.instanceMethod yX9_found ∈ TW := TW_in (tb_6 (List.mem_of_getElem? (i := 41) rfl)) rfl
theorem w1242 : Cond.code yX9_found cX9_found 10 (some .int) ∈ TW := TW_in (tb_6 (List.mem_of_getElem? (i := 42) rfl)) rfl
theorem w1243 : Cond.methodLink RX9 102 yX9_its ∈ TW := TW_in (tb_6 (List.mem_of_getElem? (i := 43) rfl)) rfl
theorem w1245 : Cond.instanceMethod yX9_its ∈ TW := TW_in (tb_6 (List.mem_of_getElem? (i := 45) rfl)) rfl
theorem w1246 : Cond.code yX9_its cX9_its 4 (some .int) ∈ TW := TW_in (tb_6 (List.mem_of_getElem? (i := 46) rfl)) rfl
theorem w1247 : Cond.methodLink RX9 134 yX9_hasParameters ∈ TW := TW_in (tb_6 (List.mem_of_getElem? (i := 47) rfl)) rfl
theorem w1249 : Cond.instanceMethod yX9_hasParameters ∈ TW := TW_in (tb_6 (List.mem_of_getElem? (i := 49) rfl)) rfl
theorem w1250 : Cond.code yX9_hasParameters cX9_hasParameters 6 (some .boolean) ∈ TW := TW_in (tb_6 (List.mem_of_getElem? (i := 50) rfl)) rfl
theorem w1251 : Cond.methodLink RX9 84 yX9_has ∈ TW := TW_in (tb_6 (List.mem_of_getElem? (i := 51) rfl)) rfl
theorem w1252 : Cond.static yX9_has ∈ TW := TW_in (tb_6 (List.mem_of_getElem? (i := 52) rfl)) rfl
theorem w1253 : Cond.code yX9_has cX9_has 2 (some .boolean) ∈ TW := TW_in (tb_6 (List.mem_of_getElem? (i := 53) rfl)) rfl
theorem w1254 : Cond.methodLink RX9 256 yX9_isOpen ∈ TW := TW_in (tb_6 (List.mem_of_getElem? (i := 54) rfl)) rfl
theorem w1256 : Cond.instanceMethod yX9_isOpen ∈ TW := TW_in (tb_6 (List.mem_of_getElem? (i := 56) rfl)) rfl
theorem w1257 : Cond.code yX9_isOpen cX9_isOpen 6 (some .boolean) ∈ TW := TW_in (tb_6 (List.mem_of_getElem? (i := 57) rfl)) rfl
theorem w1258 : Cond.methodLink RX9 125 yX9_supertypes ∈ TW := TW_in (tb_6 (List.mem_of_getElem? (i := 58) rfl)) rfl
theorem w1260 : Cond.instanceMethod yX9_supertypes ∈ TW := TW_in (tb_6 (List.mem_of_getElem? (i := 60) rfl)) rfl
theorem w1261 : Cond.code yX9_supertypes cX9_supertypes 5 (some .int) ∈ TW := TW_in (tb_6 (List.mem_of_getElem? (i := 61) rfl)) rfl
theorem w1262 : Cond.methodLink RX9 161 yX9_isFinal ∈ TW := TW_in (tb_6 (List.mem_of_getElem? (i := 62) rfl)) rfl
theorem w1264 : Cond.instanceMethod yX9_isFinal ∈ TW := TW_in (tb_6 (List.mem_of_getElem? (i := 64) rfl)) rfl
theorem w1265 : Cond.code yX9_isFinal cX9_isFinal 3 (some .boolean) ∈ TW := TW_in (tb_6 (List.mem_of_getElem? (i := 65) rfl)) rfl
theorem w1266 : Cond.methodLink RX9 199 yX9_isStatic ∈ TW := TW_in (tb_6 (List.mem_of_getElem? (i := 66) rfl)) rfl
theorem w1268 : Cond.instanceMethod yX9_isStatic ∈ TW := TW_in (tb_6 (List.mem_of_getElem? (i := 68) rfl)) rfl
theorem w1269 : Cond.code yX9_isStatic cX9_isStatic 3 (some .boolean) ∈ TW := TW_in (tb_6 (List.mem_of_getElem? (i := 69) rfl)) rfl
theorem w1270 : Cond.methodLink RX9 250 yX9_compiledCall ∈ TW := TW_in (tb_6 (List.mem_of_getElem? (i := 70) rfl)) rfl
theorem w1272 : Cond.instanceMethod yX9_compiledCall ∈ TW := TW_in (tb_6 (List.mem_of_getElem? (i := 72) rfl)) rfl
theorem w1273 : Cond.code yX9_compiledCall cX9_compiledCall 12 (some .int) ∈ TW := TW_in (tb_6 (List.mem_of_getElem? (i := 73) rfl)) rfl
theorem w1274 : Cond.methodLink RX9 262 yX9_isApplicable ∈ TW := TW_in (tb_6 (List.mem_of_getElem? (i := 74) rfl)) rfl
theorem w1276 : Cond.instanceMethod yX9_isApplicable ∈ TW := TW_in (tb_6 (List.mem_of_getElem? (i := 76) rfl)) rfl
theorem w1277 : Cond.code yX9_isApplicable cX9_isApplicable 8 (some .boolean) ∈ TW := TW_in (tb_6 (List.mem_of_getElem? (i := 77) rfl)) rfl
theorem w1278 : Cond.methodLink RX9 155 yX9_isMethod ∈ TW := TW_in (tb_6 (List.mem_of_getElem? (i := 78) rfl)) rfl
theorem w1280 : Cond.instanceMethod yX9_isMethod ∈ TW := TW_in (tb_6 (List.mem_of_getElem? (i := 80) rfl)) rfl
theorem w1281 : Cond.code yX9_isMethod cX9_isMethod 3 (some .boolean) ∈ TW := TW_in (tb_6 (List.mem_of_getElem? (i := 81) rfl)) rfl
theorem w1282 : Cond.methodLink RX9 81 yX9_isInterface ∈ TW := TW_in (tb_6 (List.mem_of_getElem? (i := 82) rfl)) rfl
theorem w1284 : Cond.instanceMethod yX9_isInterface ∈ TW := TW_in (tb_6 (List.mem_of_getElem? (i := 84) rfl)) rfl
theorem w1285 : Cond.code yX9_isInterface cX9_isInterface 3 (some .boolean) ∈ TW := TW_in (tb_6 (List.mem_of_getElem? (i := 85) rfl)) rfl
theorem w1286 : Cond.methodLink RX9 259 yX9_isHidden ∈ TW := TW_in (tb_6 (List.mem_of_getElem? (i := 86) rfl)) rfl
theorem w1288 : Cond.instanceMethod yX9_isHidden ∈ TW := TW_in (tb_6 (List.mem_of_getElem? (i := 88) rfl)) rfl
theorem w1289 : Cond.code yX9_isHidden cX9_isHidden 9 (some .boolean) ∈ TW := TW_in (tb_6 (List.mem_of_getElem? (i := 89) rfl)) rfl
theorem w1290 : Cond.methodLink RX9 170 yX9_isFit ∈ TW := TW_in (tb_6 (List.mem_of_getElem? (i := 90) rfl)) rfl
theorem w1292 : Cond.instanceMethod yX9_isFit ∈ TW := TW_in (tb_6 (List.mem_of_getElem? (i := 92) rfl)) rfl
theorem w1293 : Cond.code yX9_isFit cX9_isFit 4 (some .boolean) ∈ TW := TW_in (tb_6 (List.mem_of_getElem? (i := 93) rfl)) rfl
theorem w1294 : Cond.methodLink RX9 109 yX9_isAbstract ∈ TW := TW_in (tb_6 (List.mem_of_getElem? (i := 94) rfl)) rfl
theorem w1296 : Cond.instanceMethod yX9_isAbstract ∈ TW := TW_in (tb_6 (List.mem_of_getElem? (i := 96) rfl)) rfl
theorem w1297 : Cond.code yX9_isAbstract cX9_isAbstract 3 (some .boolean) ∈ TW := TW_in (tb_6 (List.mem_of_getElem? (i := 97) rfl)) rfl
theorem w1298 : Cond.methodLink RX9 128 yX9_isIncomplete ∈ TW := TW_in (tb_6 (List.mem_of_getElem? (i := 98) rfl)) rfl
theorem w1300 : Cond.instanceMethod yX9_isIncomplete ∈ TW := TW_in (tb_6 (List.mem_of_getElem? (i := 100) rfl)) rfl
theorem w1301 : Cond.code yX9_isIncomplete cX9_isIncomplete 9 (some .boolean) ∈ TW := TW_in (tb_6 (List.mem_of_getElem? (i := 101) rfl)) rfl
theorem w1302 : Cond.methodLink RX9 229 yX9_wantsLike ∈ TW := TW_in (tb_6 (List.mem_of_getElem? (i := 102) rfl)) rfl
theorem w1304 : Cond.instanceMethod yX9_wantsLike ∈ TW := TW_in (tb_6 (List.mem_of_getElem? (i := 104) rfl)) rfl
theorem w1305 : Cond.code yX9_wantsLike cX9_wantsLike 3 none ∈ TW := TW_in (tb_6 (List.mem_of_getElem? (i := 105) rfl)) rfl
theorem w1306 : Cond.methodLink RX9 195 yX9_wants ∈ TW := TW_in (tb_6 (List.mem_of_getElem? (i := 106) rfl)) rfl
theorem w1308 : Cond.instanceMethod yX9_wants ∈ TW := TW_in (tb_6 (List.mem_of_getElem? (i := 108) rfl)) rfl
theorem w1309 : Cond.code yX9_wants cX9_wants 6 none ∈ TW := TW_in (tb_6 (List.mem_of_getElem? (i := 109) rfl)) rfl
theorem w1310 : Cond.methodLink RX9 232 yX9_selectedBy ∈ TW := TW_in (tb_6 (List.mem_of_getElem? (i := 110) rfl)) rfl
theorem w1312 : Cond.instanceMethod yX9_selectedBy ∈ TW := TW_in (tb_6 (List.mem_of_getElem? (i := 112) rfl)) rfl
theorem w1313 : Cond.code yX9_selectedBy cX9_selectedBy 7 (some .int) ∈ TW := TW_in (tb_6 (List.mem_of_getElem? (i := 113) rfl)) rfl
theorem w1314 : Cond.methodLink RX9 214 yX9_own ∈ TW := TW_in (tb_6 (List.mem_of_getElem? (i := 114) rfl)) rfl
theorem w1316 : Cond.instanceMethod yX9_own ∈ TW := TW_in (tb_6 (List.mem_of_getElem? (i := 116) rfl)) rfl
theorem w1317 : Cond.code yX9_own cX9_own 4 (some .int) ∈ TW := TW_in (tb_6 (List.mem_of_getElem? (i := 117) rfl)) rfl
theorem w1318 : Cond.methodLink RX9 217 yX9_isCandidate ∈ TW := TW_in (tb_6 (List.mem_of_getElem? (i := 118) rfl)) rfl
theorem w1320 : Cond.instanceMethod yX9_isCandidate ∈ TW := TW_in (tb_6 (List.mem_of_getElem? (i := 120) rfl)) rfl
theorem w1321 : Cond.code yX9_isCandidate cX9_isCandidate 3 (some .boolean) ∈ TW := TW_in (tb_6 (List.mem_of_getElem? (i := 121) rfl)) rfl
theorem w1322 : Cond.methodLink RX9 220 yX9_looksAt ∈ TW := TW_in (tb_6 (List.mem_of_getElem? (i := 122) rfl)) rfl
theorem w1324 : Cond.instanceMethod yX9_looksAt ∈ TW := TW_in (tb_6 (List.mem_of_getElem? (i := 124) rfl)) rfl
theorem w1325 : Cond.code yX9_looksAt cX9_looksAt 8 none ∈ TW := TW_in (tb_6 (List.mem_of_getElem? (i := 125) rfl)) rfl
theorem w1326 : Cond.methodLink RX9 253 yX9_isBase ∈ TW := TW_in (tb_6 (List.mem_of_getElem? (i := 126) rfl)) rfl
theorem w1328 : Cond.instanceMethod yX9_isBase ∈ TW := TW_in (tb_6 (List.mem_of_getElem? (i := 128) rfl)) rfl
theorem w1329 : Cond.code yX9_isBase cX9_isBase 3 (some .boolean) ∈ TW := TW_in (tb_6 (List.mem_of_getElem? (i := 129) rfl)) rfl
theorem w1330 : Cond.methodLink RX9 295 yX9_keepsReference ∈ TW := TW_in (tb_6 (List.mem_of_getElem? (i := 130) rfl)) rfl
theorem w1332 : Cond.instanceMethod yX9_keepsReference ∈ TW := TW_in (tb_6 (List.mem_of_getElem? (i := 132) rfl)) rfl
theorem w1333 : Cond.code yX9_keepsReference cX9_keepsReference 2 none ∈ TW := TW_in (tb_6 (List.mem_of_getElem? (i := 133) rfl)) rfl
theorem w1334 : Cond.methodLink RX9 287 yX9_clientMany ∈ TW := TW_in (tb_6 (List.mem_of_getElem? (i := 134) rfl)) rfl
theorem w1336 : Cond.instanceMethod yX9_clientMany ∈ TW := TW_in (tb_6 (List.mem_of_getElem? (i := 136) rfl)) rfl
theorem w1337 : Cond.code yX9_clientMany cX9_clientMany 1 (some .int) ∈ TW := TW_in (tb_6 (List.mem_of_getElem? (i := 137) rfl)) rfl
theorem w1338 : Cond.methodLink RX9 298 yX9_lies ∈ TW := TW_in (tb_6 (List.mem_of_getElem? (i := 138) rfl)) rfl
theorem w1340 : Cond.instanceMethod yX9_lies ∈ TW := TW_in (tb_6 (List.mem_of_getElem? (i := 140) rfl)) rfl
theorem w1341 : Cond.code yX9_lies cX9_lies 3 none ∈ TW := TW_in (tb_6 (List.mem_of_getElem? (i := 141) rfl)) rfl
theorem w1342 : Cond.methodLink RX9 239 yX9_client ∈ TW := TW_in (tb_6 (List.mem_of_getElem? (i := 142) rfl)) rfl
theorem w1343 : Cond.static yX9_client ∈ TW := TW_in (tb_6 (List.mem_of_getElem? (i := 143) rfl)) rfl
theorem w1344 : Cond.code yX9_client cX9_client 1 (some .int) ∈ TW := TW_in (tb_6 (List.mem_of_getElem? (i := 144) rfl)) rfl
theorem w1345 : Cond.fieldLink RX9 7 "CompatibilityJudgeModel" "now" "[I" ∈ TW := TW_in (tb_6 (List.mem_of_getElem? (i := 145) rfl)) rfl
theorem w1346 : Cond.fieldLink RX9 13 "CompatibilityJudgeModel" "past" "[I" ∈ TW := TW_in (tb_6 (List.mem_of_getElem? (i := 146) rfl)) rfl
theorem w1347 : Cond.fieldLink RX9 59 "CompatibilityJudgeModel" "saved" "I" ∈ TW := TW_in (tb_6 (List.mem_of_getElem? (i := 147) rfl)) rfl
theorem w1348 : Cond.fieldLink RX9 55 "CompatibilityJudgeModel" "refusal" "I" ∈ TW := TW_in (tb_6 (List.mem_of_getElem? (i := 148) rfl)) rfl
theorem w1349 : Cond.fieldLink RX9 16 "CompatibilityJudgeModel" "drafted" "[I" ∈ TW := TW_in (tb_6 (List.mem_of_getElem? (i := 149) rfl)) rfl
theorem w1350 : Cond.fieldLink RX9 19 "CompatibilityJudgeModel" "fields" "[I" ∈ TW := TW_in (tb_6 (List.mem_of_getElem? (i := 150) rfl)) rfl
theorem w1351 : Cond.fieldLink RX9 180 "CompatibilityJudgeModel" "wantedName" "I" ∈ TW := TW_in (tb_6 (List.mem_of_getElem? (i := 151) rfl)) rfl
theorem w1352 : Cond.fieldLink RX9 183 "CompatibilityJudgeModel" "wantedResult" "I" ∈ TW := TW_in (tb_6 (List.mem_of_getElem? (i := 152) rfl)) rfl
theorem w1353 : Cond.fieldLink RX9 186 "CompatibilityJudgeModel" "wantedMany" "I" ∈ TW := TW_in (tb_6 (List.mem_of_getElem? (i := 153) rfl)) rfl
theorem w1354 : Cond.fieldLink RX9 189 "CompatibilityJudgeModel" "wantedFirst" "I" ∈ TW := TW_in (tb_6 (List.mem_of_getElem? (i := 154) rfl)) rfl
theorem w1355 : Cond.fieldLink RX9 192 "CompatibilityJudgeModel" "wantedSecond" "I" ∈ TW := TW_in (tb_6 (List.mem_of_getElem? (i := 155) rfl)) rfl
theorem w1356 : Cond.fieldLink RX9 202 "CompatibilityJudgeModel" "maximal" "I" ∈ TW := TW_in (tb_6 (List.mem_of_getElem? (i := 156) rfl)) rfl
theorem w1357 : Cond.fieldLink RX9 205 "CompatibilityJudgeModel" "firstMaximal" "I" ∈ TW := TW_in (tb_6 (List.mem_of_getElem? (i := 157) rfl)) rfl
theorem w1358 : Cond.fieldLink RX9 208 "CompatibilityJudgeModel" "given" "I" ∈ TW := TW_in (tb_6 (List.mem_of_getElem? (i := 158) rfl)) rfl
theorem w1359 : Cond.fieldLink RX9 211 "CompatibilityJudgeModel" "firstGiven" "I" ∈ TW := TW_in (tb_6 (List.mem_of_getElem? (i := 159) rfl)) rfl
theorem w1360 : Cond.fieldLink RX9 22 "CompatibilityJudgeModel" "client" "[I" ∈ TW := TW_in (tb_6 (List.mem_of_getElem? (i := 160) rfl)) rfl
theorem w1361 : Cond.fieldLink RX9 25 "CompatibilityJudgeModel" "reference" "[I" ∈ TW := TW_in (tb_6 (List.mem_of_getElem? (i := 161) rfl)) rfl
theorem w1362 : Cond.fieldLink RX9 28 "CompatibilityJudgeModel" "applies" "[Z" ∈ TW := TW_in (tb_6 (List.mem_of_getElem? (i := 162) rfl)) rfl
theorem w1363 : Cond.fieldLink RX9 265 "CompatibilityJudgeModel" "target" "I" ∈ TW := TW_in (tb_6 (List.mem_of_getElem? (i := 163) rfl)) rfl
theorem w1364 : Cond.fieldLink RX9 325 "CompatibilityJudgeModel" "hash" "J" ∈ TW := TW_in (tb_6 (List.mem_of_getElem? (i := 164) rfl)) rfl
theorem w1406 : Cond.arrayClass .boolean ∈ TW := TW_in (tb_6 (List.mem_of_getElem? (i := 206) rfl)) rfl
theorem w1407 : Cond.methodLink RL 118 yX9_thrown ∈ TW := TW_in (tb_6 (List.mem_of_getElem? (i := 207) rfl)) rfl
theorem w1408 : Cond.instanceMethod yX9_thrown ∈ TW := TW_in (tb_6 (List.mem_of_getElem? (i := 208) rfl)) rfl
theorem w1409 : Cond.selects RX9 yX9_thrown yX9_thrown ∈ TW := TW_in (tb_6 (List.mem_of_getElem? (i := 209) rfl)) rfl
theorem w1410 : Cond.code yX9_thrown cX9_thrown 1 (some .int) ∈ TW := TW_in (tb_6 (List.mem_of_getElem? (i := 210) rfl)) rfl
theorem w1411 : Cond.methodLink RL 215 yX9_undo ∈ TW := TW_in (tb_6 (List.mem_of_getElem? (i := 211) rfl)) rfl
theorem w1412 : Cond.instanceMethod yX9_undo ∈ TW := TW_in (tb_6 (List.mem_of_getElem? (i := 212) rfl)) rfl
theorem w1413 : Cond.selects RX9 yX9_undo yX9_undo ∈ TW := TW_in (tb_6 (List.mem_of_getElem? (i := 213) rfl)) rfl
theorem w1414 : Cond.code yX9_undo cX9_undo 2 (some .int) ∈ TW := TW_in (tb_6 (List.mem_of_getElem? (i := 214) rfl)) rfl
theorem w1415 : Cond.methodLink RX9 62 yX9_refused ∈ TW := TW_in (tb_6 (List.mem_of_getElem? (i := 215) rfl)) rfl
theorem w1417 : Cond.instanceMethod yX9_refused ∈ TW := TW_in (tb_6 (List.mem_of_getElem? (i := 217) rfl)) rfl
theorem w1418 : Cond.code yX9_refused cX9_refused 2 (some .boolean) ∈ TW := TW_in (tb_6 (List.mem_of_getElem? (i := 218) rfl)) rfl
theorem w1419 : Cond.methodLink RL 117 yX9_define ∈ TW := TW_in (tb_6 (List.mem_of_getElem? (i := 219) rfl)) rfl
theorem w1420 : Cond.instanceMethod yX9_define ∈ TW := TW_in (tb_6 (List.mem_of_getElem? (i := 220) rfl)) rfl
theorem w1421 : Cond.selects RX9 yX9_define yX9_define ∈ TW := TW_in (tb_6 (List.mem_of_getElem? (i := 221) rfl)) rfl
theorem w1422 : Cond.code yX9_define cX9_define 8 (some .int) ∈ TW := TW_in (tb_6 (List.mem_of_getElem? (i := 222) rfl)) rfl
theorem w1423 : Cond.methodLink RX9 87 yX9_mayBeAbove ∈ TW := TW_in (tb_6 (List.mem_of_getElem? (i := 223) rfl)) rfl
theorem w1425 : Cond.instanceMethod yX9_mayBeAbove ∈ TW := TW_in (tb_6 (List.mem_of_getElem? (i := 225) rfl)) rfl
theorem w1426 : Cond.code yX9_mayBeAbove cX9_mayBeAbove 4 (some .boolean) ∈ TW := TW_in (tb_6 (List.mem_of_getElem? (i := 226) rfl)) rfl
theorem w1427 : Cond.methodLink RX9 90 yX9_areInterfaces ∈ TW := TW_in (tb_6 (List.mem_of_getElem? (i := 227) rfl)) rfl
theorem w1429 : Cond.instanceMethod yX9_areInterfaces ∈ TW := TW_in (tb_6 (List.mem_of_getElem? (i := 229) rfl)) rfl
theorem w1430 : Cond.code yX9_areInterfaces cX9_areInterfaces 6 (some .boolean) ∈ TW := TW_in (tb_6 (List.mem_of_getElem? (i := 230) rfl)) rfl
theorem w1431 : Cond.methodLink RX9 93 yX9_saves ∈ TW := TW_in (tb_6 (List.mem_of_getElem? (i := 231) rfl)) rfl
theorem w1433 : Cond.instanceMethod yX9_saves ∈ TW := TW_in (tb_6 (List.mem_of_getElem? (i := 233) rfl)) rfl
theorem w1434 : Cond.code yX9_saves cX9_saves 2 none ∈ TW := TW_in (tb_6 (List.mem_of_getElem? (i := 234) rfl)) rfl
theorem w1435 : Cond.methodLink RX9 96 yX9_classMany ∈ TW := TW_in (tb_6 (List.mem_of_getElem? (i := 235) rfl)) rfl
theorem w1437 : Cond.instanceMethod yX9_classMany ∈ TW := TW_in (tb_6 (List.mem_of_getElem? (i := 237) rfl)) rfl
theorem w1438 : Cond.code yX9_classMany cX9_classMany 4 (some .int) ∈ TW := TW_in (tb_6 (List.mem_of_getElem? (i := 238) rfl)) rfl
theorem w1439 : Cond.methodLink RL 124 yX9_removeClass ∈ TW := TW_in (tb_6 (List.mem_of_getElem? (i := 239) rfl)) rfl
theorem w1440 : Cond.instanceMethod yX9_removeClass ∈ TW := TW_in (tb_7 (List.mem_of_getElem? (i := 0) rfl)) rfl
theorem w1441 : Cond.selects RX9 yX9_removeClass yX9_removeClass ∈ TW := TW_in (tb_7 (List.mem_of_getElem? (i := 1) rfl)) rfl
theorem w1442 : Cond.code yX9_removeClass cX9_removeClass 5 (some .int) ∈ TW := TW_in (tb_7 (List.mem_of_getElem? (i := 2) rfl)) rfl
theorem w1443 : Cond.methodLink RX9 99 yX9_isAboveOne ∈ TW := TW_in (tb_7 (List.mem_of_getElem? (i := 3) rfl)) rfl
theorem w1445 : Cond.instanceMethod yX9_isAboveOne ∈ TW := TW_in (tb_7 (List.mem_of_getElem? (i := 5) rfl)) rfl
theorem w1446 : Cond.code yX9_isAboveOne cX9_isAboveOne 5 (some .boolean) ∈ TW := TW_in (tb_7 (List.mem_of_getElem? (i := 6) rfl)) rfl
theorem w1447 : Cond.methodLink RX9 105 yX9_drops ∈ TW := TW_in (tb_7 (List.mem_of_getElem? (i := 7) rfl)) rfl
theorem w1449 : Cond.instanceMethod yX9_drops ∈ TW := TW_in (tb_7 (List.mem_of_getElem? (i := 9) rfl)) rfl
theorem w1450 : Cond.code yX9_drops cX9_drops 4 none ∈ TW := TW_in (tb_7 (List.mem_of_getElem? (i := 10) rfl)) rfl
theorem w1451 : Cond.methodLink RL 128 yX9_setClass ∈ TW := TW_in (tb_7 (List.mem_of_getElem? (i := 11) rfl)) rfl
theorem w1452 : Cond.instanceMethod yX9_setClass ∈ TW := TW_in (tb_7 (List.mem_of_getElem? (i := 12) rfl)) rfl
theorem w1453 : Cond.selects RX9 yX9_setClass yX9_setClass ∈ TW := TW_in (tb_7 (List.mem_of_getElem? (i := 13) rfl)) rfl
theorem w1454 : Cond.code yX9_setClass cX9_setClass 10 (some .int) ∈ TW := TW_in (tb_7 (List.mem_of_getElem? (i := 14) rfl)) rfl
theorem w1455 : Cond.methodLink RX9 112 yX9_mayBe ∈ TW := TW_in (tb_7 (List.mem_of_getElem? (i := 15) rfl)) rfl
theorem w1457 : Cond.instanceMethod yX9_mayBe ∈ TW := TW_in (tb_7 (List.mem_of_getElem? (i := 17) rfl)) rfl
theorem w1458 : Cond.code yX9_mayBe cX9_mayBe 5 (some .boolean) ∈ TW := TW_in (tb_7 (List.mem_of_getElem? (i := 18) rfl)) rfl
theorem w1459 : Cond.methodLink RX9 116 yX9_isAbove ∈ TW := TW_in (tb_7 (List.mem_of_getElem? (i := 19) rfl)) rfl
theorem w1461 : Cond.instanceMethod yX9_isAbove ∈ TW := TW_in (tb_7 (List.mem_of_getElem? (i := 21) rfl)) rfl
theorem w1462 : Cond.code yX9_isAbove cX9_isAbove 5 (some .boolean) ∈ TW := TW_in (tb_7 (List.mem_of_getElem? (i := 22) rfl)) rfl
theorem w1463 : Cond.methodLink RX9 119 yX9_hasAbstract ∈ TW := TW_in (tb_7 (List.mem_of_getElem? (i := 23) rfl)) rfl
theorem w1465 : Cond.instanceMethod yX9_hasAbstract ∈ TW := TW_in (tb_7 (List.mem_of_getElem? (i := 25) rfl)) rfl
theorem w1466 : Cond.code yX9_hasAbstract cX9_hasAbstract 5 (some .boolean) ∈ TW := TW_in (tb_7 (List.mem_of_getElem? (i := 26) rfl)) rfl
theorem w1467 : Cond.methodLink RX9 122 yX9_placeOf ∈ TW := TW_in (tb_7 (List.mem_of_getElem? (i := 27) rfl)) rfl
theorem w1468 : Cond.static yX9_placeOf ∈ TW := TW_in (tb_7 (List.mem_of_getElem? (i := 28) rfl)) rfl
theorem w1469 : Cond.code yX9_placeOf cX9_placeOf 1 (some .int) ∈ TW := TW_in (tb_7 (List.mem_of_getElem? (i := 29) rfl)) rfl
theorem w1470 : Cond.methodLink RL 131 yX9_exists ∈ TW := TW_in (tb_7 (List.mem_of_getElem? (i := 30) rfl)) rfl
theorem w1471 : Cond.instanceMethod yX9_exists ∈ TW := TW_in (tb_7 (List.mem_of_getElem? (i := 31) rfl)) rfl
theorem w1472 : Cond.selects RX9 yX9_exists yX9_exists ∈ TW := TW_in (tb_7 (List.mem_of_getElem? (i := 32) rfl)) rfl
theorem w1473 : Cond.code yX9_exists cX9_exists 3 (some .boolean) ∈ TW := TW_in (tb_7 (List.mem_of_getElem? (i := 33) rfl)) rfl
theorem w1474 : Cond.methodLink RL 135 yX9_classInfo ∈ TW := TW_in (tb_7 (List.mem_of_getElem? (i := 34) rfl)) rfl
theorem w1475 : Cond.instanceMethod yX9_classInfo ∈ TW := TW_in (tb_7 (List.mem_of_getElem? (i := 35) rfl)) rfl
theorem w1476 : Cond.selects RX9 yX9_classInfo yX9_classInfo ∈ TW := TW_in (tb_7 (List.mem_of_getElem? (i := 36) rfl)) rfl
theorem w1477 : Cond.code yX9_classInfo cX9_classInfo 4 (some .int) ∈ TW := TW_in (tb_7 (List.mem_of_getElem? (i := 37) rfl)) rfl
theorem w1478 : Cond.methodLink RX9 131 yX9_infoOf ∈ TW := TW_in (tb_7 (List.mem_of_getElem? (i := 38) rfl)) rfl
theorem w1480 : Cond.instanceMethod yX9_infoOf ∈ TW := TW_in (tb_7 (List.mem_of_getElem? (i := 40) rfl)) rfl
theorem w1481 : Cond.code yX9_infoOf cX9_infoOf 6 (some .int) ∈ TW := TW_in (tb_7 (List.mem_of_getElem? (i := 41) rfl)) rfl
theorem w1482 : Cond.methodLink RL 139 yX9_copyVersion ∈ TW := TW_in (tb_7 (List.mem_of_getElem? (i := 42) rfl)) rfl
theorem w1483 : Cond.instanceMethod yX9_copyVersion ∈ TW := TW_in (tb_7 (List.mem_of_getElem? (i := 43) rfl)) rfl
theorem w1484 : Cond.selects RX9 yX9_copyVersion yX9_copyVersion ∈ TW := TW_in (tb_7 (List.mem_of_getElem? (i := 44) rfl)) rfl
theorem w1485 : Cond.code yX9_copyVersion cX9_copyVersion 2 (some .int) ∈ TW := TW_in (tb_7 (List.mem_of_getElem? (i := 45) rfl)) rfl
theorem w1486 : Cond.methodLink RL 142 yX9_draft ∈ TW := TW_in (tb_7 (List.mem_of_getElem? (i := 46) rfl)) rfl
theorem w1487 : Cond.instanceMethod yX9_draft ∈ TW := TW_in (tb_7 (List.mem_of_getElem? (i := 47) rfl)) rfl
theorem w1488 : Cond.selects RX9 yX9_draft yX9_draft ∈ TW := TW_in (tb_7 (List.mem_of_getElem? (i := 48) rfl)) rfl
theorem w1489 : Cond.code yX9_draft cX9_draft 7 (some .int) ∈ TW := TW_in (tb_7 (List.mem_of_getElem? (i := 49) rfl)) rfl
theorem w1490 : Cond.methodLink RL 146 yX9_addField ∈ TW := TW_in (tb_7 (List.mem_of_getElem? (i := 50) rfl)) rfl
theorem w1491 : Cond.instanceMethod yX9_addField ∈ TW := TW_in (tb_7 (List.mem_of_getElem? (i := 51) rfl)) rfl
theorem w1492 : Cond.selects RX9 yX9_addField yX9_addField ∈ TW := TW_in (tb_7 (List.mem_of_getElem? (i := 52) rfl)) rfl
theorem w1493 : Cond.code yX9_addField cX9_addField 6 (some .int) ∈ TW := TW_in (tb_7 (List.mem_of_getElem? (i := 53) rfl)) rfl
theorem w1494 : Cond.methodLink RX9 148 yX9_added ∈ TW := TW_in (tb_7 (List.mem_of_getElem? (i := 54) rfl)) rfl
theorem w1496 : Cond.instanceMethod yX9_added ∈ TW := TW_in (tb_7 (List.mem_of_getElem? (i := 56) rfl)) rfl
theorem w1497 : Cond.code yX9_added cX9_added 11 (some .int) ∈ TW := TW_in (tb_7 (List.mem_of_getElem? (i := 57) rfl)) rfl
theorem w1498 : Cond.methodLink RX9 138 yX9_mayBeMethod ∈ TW := TW_in (tb_7 (List.mem_of_getElem? (i := 58) rfl)) rfl
theorem w1500 : Cond.instanceMethod yX9_mayBeMethod ∈ TW := TW_in (tb_7 (List.mem_of_getElem? (i := 60) rfl)) rfl
theorem w1501 : Cond.code yX9_mayBeMethod cX9_mayBeMethod 6 (some .boolean) ∈ TW := TW_in (tb_7 (List.mem_of_getElem? (i := 61) rfl)) rfl
theorem w1502 : Cond.methodLink RX9 141 yX9_mayBeField ∈ TW := TW_in (tb_7 (List.mem_of_getElem? (i := 62) rfl)) rfl
theorem w1504 : Cond.instanceMethod yX9_mayBeField ∈ TW := TW_in (tb_7 (List.mem_of_getElem? (i := 64) rfl)) rfl
theorem w1505 : Cond.code yX9_mayBeField cX9_mayBeField 5 (some .boolean) ∈ TW := TW_in (tb_7 (List.mem_of_getElem? (i := 65) rfl)) rfl
theorem w1506 : Cond.methodLink RL 149 yX9_addMethod ∈ TW := TW_in (tb_7 (List.mem_of_getElem? (i := 66) rfl)) rfl
theorem w1507 : Cond.instanceMethod yX9_addMethod ∈ TW := TW_in (tb_7 (List.mem_of_getElem? (i := 67) rfl)) rfl
theorem w1508 : Cond.selects RX9 yX9_addMethod yX9_addMethod ∈ TW := TW_in (tb_7 (List.mem_of_getElem? (i := 68) rfl)) rfl
theorem w1509 : Cond.code yX9_addMethod cX9_addMethod 6 (some .int) ∈ TW := TW_in (tb_7 (List.mem_of_getElem? (i := 69) rfl)) rfl
theorem w1510 : Cond.methodLink RL 152 yX9_removeMember ∈ TW := TW_in (tb_7 (List.mem_of_getElem? (i := 70) rfl)) rfl
theorem w1511 : Cond.instanceMethod yX9_removeMember ∈ TW := TW_in (tb_7 (List.mem_of_getElem? (i := 71) rfl)) rfl
theorem w1512 : Cond.selects RX9 yX9_removeMember yX9_removeMember ∈ TW := TW_in (tb_7 (List.mem_of_getElem? (i := 72) rfl)) rfl
theorem w1513 : Cond.code yX9_removeMember cX9_removeMember 3 (some .int) ∈ TW := TW_in (tb_7 (List.mem_of_getElem? (i := 73) rfl)) rfl
theorem w1514 : Cond.methodLink RX9 152 yX9_isMember ∈ TW := TW_in (tb_7 (List.mem_of_getElem? (i := 74) rfl)) rfl
theorem w1516 : Cond.instanceMethod yX9_isMember ∈ TW := TW_in (tb_7 (List.mem_of_getElem? (i := 76) rfl)) rfl
theorem w1517 : Cond.code yX9_isMember cX9_isMember 3 (some .boolean) ∈ TW := TW_in (tb_7 (List.mem_of_getElem? (i := 77) rfl)) rfl
theorem w1518 : Cond.methodLink RL 155 yX9_setMember ∈ TW := TW_in (tb_7 (List.mem_of_getElem? (i := 78) rfl)) rfl
theorem w1519 : Cond.instanceMethod yX9_setMember ∈ TW := TW_in (tb_7 (List.mem_of_getElem? (i := 79) rfl)) rfl
theorem w1520 : Cond.selects RX9 yX9_setMember yX9_setMember ∈ TW := TW_in (tb_7 (List.mem_of_getElem? (i := 80) rfl)) rfl
theorem w1521 : Cond.code yX9_setMember cX9_setMember 8 (some .int) ∈ TW := TW_in (tb_7 (List.mem_of_getElem? (i := 81) rfl)) rfl
theorem w1522 : Cond.methodLink RX9 158 yX9_maySet ∈ TW := TW_in (tb_7 (List.mem_of_getElem? (i := 82) rfl)) rfl
theorem w1524 : Cond.instanceMethod yX9_maySet ∈ TW := TW_in (tb_7 (List.mem_of_getElem? (i := 84) rfl)) rfl
theorem w1525 : Cond.code yX9_maySet cX9_maySet 6 (some .boolean) ∈ TW := TW_in (tb_7 (List.mem_of_getElem? (i := 85) rfl)) rfl
theorem w1526 : Cond.methodLink RL 158 yX9_moveMember ∈ TW := TW_in (tb_7 (List.mem_of_getElem? (i := 86) rfl)) rfl
theorem w1527 : Cond.instanceMethod yX9_moveMember ∈ TW := TW_in (tb_7 (List.mem_of_getElem? (i := 87) rfl)) rfl
theorem w1528 : Cond.selects RX9 yX9_moveMember yX9_moveMember ∈ TW := TW_in (tb_7 (List.mem_of_getElem? (i := 88) rfl)) rfl
theorem w1529 : Cond.code yX9_moveMember cX9_moveMember 8 (some .int) ∈ TW := TW_in (tb_7 (List.mem_of_getElem? (i := 89) rfl)) rfl
theorem w1530 : Cond.methodLink RL 162 yX9_members ∈ TW := TW_in (tb_7 (List.mem_of_getElem? (i := 90) rfl)) rfl
theorem w1531 : Cond.instanceMethod yX9_members ∈ TW := TW_in (tb_7 (List.mem_of_getElem? (i := 91) rfl)) rfl
theorem w1532 : Cond.selects RX9 yX9_members yX9_members ∈ TW := TW_in (tb_7 (List.mem_of_getElem? (i := 92) rfl)) rfl
theorem w1533 : Cond.code yX9_members cX9_members 2 (some .int) ∈ TW := TW_in (tb_7 (List.mem_of_getElem? (i := 93) rfl)) rfl
theorem w1534 : Cond.methodLink RL 165 yX9_memberInfo ∈ TW := TW_in (tb_7 (List.mem_of_getElem? (i := 94) rfl)) rfl
theorem w1535 : Cond.instanceMethod yX9_memberInfo ∈ TW := TW_in (tb_7 (List.mem_of_getElem? (i := 95) rfl)) rfl
theorem w1536 : Cond.selects RX9 yX9_memberInfo yX9_memberInfo ∈ TW := TW_in (tb_7 (List.mem_of_getElem? (i := 96) rfl)) rfl
theorem w1537 : Cond.code yX9_memberInfo cX9_memberInfo 4 (some .int) ∈ TW := TW_in (tb_7 (List.mem_of_getElem? (i := 97) rfl)) rfl
theorem w1538 : Cond.methodLink RX9 164 yX9_toldOf ∈ TW := TW_in (tb_7 (List.mem_of_getElem? (i := 98) rfl)) rfl
theorem w1540 : Cond.instanceMethod yX9_toldOf ∈ TW := TW_in (tb_7 (List.mem_of_getElem? (i := 100) rfl)) rfl
theorem w1541 : Cond.code yX9_toldOf cX9_toldOf 5 (some .int) ∈ TW := TW_in (tb_7 (List.mem_of_getElem? (i := 101) rfl)) rfl
theorem w1542 : Cond.methodLink RL 168 yX9_fits ∈ TW := TW_in (tb_7 (List.mem_of_getElem? (i := 102) rfl)) rfl
theorem w1543 : Cond.instanceMethod yX9_fits ∈ TW := TW_in (tb_7 (List.mem_of_getElem? (i := 103) rfl)) rfl
theorem w1544 : Cond.selects RX9 yX9_fits yX9_fits ∈ TW := TW_in (tb_7 (List.mem_of_getElem? (i := 104) rfl)) rfl
theorem w1545 : Cond.code yX9_fits cX9_fits 4 (some .boolean) ∈ TW := TW_in (tb_7 (List.mem_of_getElem? (i := 105) rfl)) rfl
theorem w1546 : Cond.methodLink RX9 167 yX9_isType ∈ TW := TW_in (tb_7 (List.mem_of_getElem? (i := 106) rfl)) rfl
theorem w1547 : Cond.static yX9_isType ∈ TW := TW_in (tb_7 (List.mem_of_getElem? (i := 107) rfl)) rfl
theorem w1548 : Cond.code yX9_isType cX9_isType 1 (some .boolean) ∈ TW := TW_in (tb_7 (List.mem_of_getElem? (i := 108) rfl)) rfl
theorem w1549 : Cond.methodLink RL 171 yX9_field ∈ TW := TW_in (tb_7 (List.mem_of_getElem? (i := 109) rfl)) rfl
theorem w1550 : Cond.instanceMethod yX9_field ∈ TW := TW_in (tb_7 (List.mem_of_getElem? (i := 110) rfl)) rfl
theorem w1551 : Cond.selects RX9 yX9_field yX9_field ∈ TW := TW_in (tb_7 (List.mem_of_getElem? (i := 111) rfl)) rfl
theorem w1552 : Cond.code yX9_field cX9_field 4 (some .int) ∈ TW := TW_in (tb_7 (List.mem_of_getElem? (i := 112) rfl)) rfl
theorem w1553 : Cond.methodLink RL 174 yX9_method ∈ TW := TW_in (tb_7 (List.mem_of_getElem? (i := 113) rfl)) rfl
theorem w1554 : Cond.instanceMethod yX9_method ∈ TW := TW_in (tb_7 (List.mem_of_getElem? (i := 114) rfl)) rfl
theorem w1555 : Cond.selects RX9 yX9_method yX9_method ∈ TW := TW_in (tb_7 (List.mem_of_getElem? (i := 115) rfl)) rfl
theorem w1556 : Cond.code yX9_method cX9_method 4 (some .int) ∈ TW := TW_in (tb_7 (List.mem_of_getElem? (i := 116) rfl)) rfl
theorem w1557 : Cond.methodLink RX9 226 yX9_methodOf ∈ TW := TW_in (tb_7 (List.mem_of_getElem? (i := 117) rfl)) rfl
theorem w1559 : Cond.instanceMethod yX9_methodOf ∈ TW := TW_in (tb_7 (List.mem_of_getElem? (i := 119) rfl)) rfl
theorem w1560 : Cond.code yX9_methodOf cX9_methodOf 5 (some .int) ∈ TW := TW_in (tb_7 (List.mem_of_getElem? (i := 120) rfl)) rfl
theorem w1561 : Cond.methodLink RX9 223 yX9_interfaceMethod ∈ TW := TW_in (tb_7 (List.mem_of_getElem? (i := 121) rfl)) rfl
theorem w1563 : Cond.instanceMethod yX9_interfaceMethod ∈ TW := TW_in (tb_7 (List.mem_of_getElem? (i := 123) rfl)) rfl
theorem w1564 : Cond.code yX9_interfaceMethod cX9_interfaceMethod 3 (some .int) ∈ TW := TW_in (tb_7 (List.mem_of_getElem? (i := 124) rfl)) rfl
theorem w1565 : Cond.methodLink RL 177 yX9_selected ∈ TW := TW_in (tb_7 (List.mem_of_getElem? (i := 125) rfl)) rfl
theorem w1566 : Cond.instanceMethod yX9_selected ∈ TW := TW_in (tb_7 (List.mem_of_getElem? (i := 126) rfl)) rfl
theorem w1567 : Cond.selects RX9 yX9_selected yX9_selected ∈ TW := TW_in (tb_7 (List.mem_of_getElem? (i := 127) rfl)) rfl
theorem w1568 : Cond.code yX9_selected cX9_selected 6 (some .int) ∈ TW := TW_in (tb_7 (List.mem_of_getElem? (i := 128) rfl)) rfl
theorem w1569 : Cond.methodLink RX9 236 yX9_selectedFor ∈ TW := TW_in (tb_7 (List.mem_of_getElem? (i := 129) rfl)) rfl
theorem w1571 : Cond.instanceMethod yX9_selectedFor ∈ TW := TW_in (tb_7 (List.mem_of_getElem? (i := 131) rfl)) rfl
theorem w1572 : Cond.code yX9_selectedFor cX9_selectedFor 4 (some .int) ∈ TW := TW_in (tb_7 (List.mem_of_getElem? (i := 132) rfl)) rfl
theorem w1573 : Cond.methodLink RL 180 yX9_addClient ∈ TW := TW_in (tb_7 (List.mem_of_getElem? (i := 133) rfl)) rfl
theorem w1574 : Cond.instanceMethod yX9_addClient ∈ TW := TW_in (tb_7 (List.mem_of_getElem? (i := 134) rfl)) rfl
theorem w1575 : Cond.selects RX9 yX9_addClient yX9_addClient ∈ TW := TW_in (tb_7 (List.mem_of_getElem? (i := 135) rfl)) rfl
theorem w1576 : Cond.code yX9_addClient cX9_addClient 6 (some .int) ∈ TW := TW_in (tb_7 (List.mem_of_getElem? (i := 136) rfl)) rfl
theorem w1577 : Cond.methodLink RL 183 yX9_setBase ∈ TW := TW_in (tb_7 (List.mem_of_getElem? (i := 137) rfl)) rfl
theorem w1578 : Cond.instanceMethod yX9_setBase ∈ TW := TW_in (tb_7 (List.mem_of_getElem? (i := 138) rfl)) rfl
theorem w1579 : Cond.selects RX9 yX9_setBase yX9_setBase ∈ TW := TW_in (tb_7 (List.mem_of_getElem? (i := 139) rfl)) rfl
theorem w1580 : Cond.code yX9_setBase cX9_setBase 6 (some .int) ∈ TW := TW_in (tb_7 (List.mem_of_getElem? (i := 140) rfl)) rfl
theorem w1581 : Cond.methodLink RX9 302 yX9_isClient ∈ TW := TW_in (tb_7 (List.mem_of_getElem? (i := 141) rfl)) rfl
theorem w1583 : Cond.instanceMethod yX9_isClient ∈ TW := TW_in (tb_7 (List.mem_of_getElem? (i := 143) rfl)) rfl
theorem w1584 : Cond.code yX9_isClient cX9_isClient 2 (some .boolean) ∈ TW := TW_in (tb_7 (List.mem_of_getElem? (i := 144) rfl)) rfl
theorem w1585 : Cond.methodLink RX9 305 yX9_takes ∈ TW := TW_in (tb_7 (List.mem_of_getElem? (i := 145) rfl)) rfl
theorem w1587 : Cond.instanceMethod yX9_takes ∈ TW := TW_in (tb_7 (List.mem_of_getElem? (i := 147) rfl)) rfl
theorem w1588 : Cond.code yX9_takes cX9_takes 3 none ∈ TW := TW_in (tb_7 (List.mem_of_getElem? (i := 148) rfl)) rfl
theorem w1589 : Cond.methodLink RL 186 yX9_removeClient ∈ TW := TW_in (tb_7 (List.mem_of_getElem? (i := 149) rfl)) rfl
theorem w1590 : Cond.instanceMethod yX9_removeClient ∈ TW := TW_in (tb_7 (List.mem_of_getElem? (i := 150) rfl)) rfl
theorem w1591 : Cond.selects RX9 yX9_removeClient yX9_removeClient ∈ TW := TW_in (tb_7 (List.mem_of_getElem? (i := 151) rfl)) rfl
theorem w1592 : Cond.code yX9_removeClient cX9_removeClient 3 (some .int) ∈ TW := TW_in (tb_7 (List.mem_of_getElem? (i := 152) rfl)) rfl
theorem w1593 : Cond.methodLink RL 190 yX9_clients ∈ TW := TW_in (tb_7 (List.mem_of_getElem? (i := 153) rfl)) rfl
theorem w1594 : Cond.instanceMethod yX9_clients ∈ TW := TW_in (tb_7 (List.mem_of_getElem? (i := 154) rfl)) rfl
theorem w1595 : Cond.selects RX9 yX9_clients yX9_clients ∈ TW := TW_in (tb_7 (List.mem_of_getElem? (i := 155) rfl)) rfl
theorem w1596 : Cond.code yX9_clients cX9_clients 1 (some .int) ∈ TW := TW_in (tb_7 (List.mem_of_getElem? (i := 156) rfl)) rfl
theorem w1597 : Cond.methodLink RL 193 yX9_clientInfo ∈ TW := TW_in (tb_7 (List.mem_of_getElem? (i := 157) rfl)) rfl
theorem w1598 : Cond.instanceMethod yX9_clientInfo ∈ TW := TW_in (tb_7 (List.mem_of_getElem? (i := 158) rfl)) rfl
theorem w1599 : Cond.selects RX9 yX9_clientInfo yX9_clientInfo ∈ TW := TW_in (tb_7 (List.mem_of_getElem? (i := 159) rfl)) rfl
theorem w1600 : Cond.code yX9_clientInfo cX9_clientInfo 3 (some .int) ∈ TW := TW_in (tb_7 (List.mem_of_getElem? (i := 160) rfl)) rfl
theorem w1601 : Cond.methodLink RX9 308 yX9_clientTold ∈ TW := TW_in (tb_7 (List.mem_of_getElem? (i := 161) rfl)) rfl
theorem w1603 : Cond.instanceMethod yX9_clientTold ∈ TW := TW_in (tb_7 (List.mem_of_getElem? (i := 163) rfl)) rfl
theorem w1604 : Cond.code yX9_clientTold cX9_clientTold 3 (some .int) ∈ TW := TW_in (tb_7 (List.mem_of_getElem? (i := 164) rfl)) rfl
theorem w1605 : Cond.methodLink RL 196 yX9_compile ∈ TW := TW_in (tb_7 (List.mem_of_getElem? (i := 165) rfl)) rfl
theorem w1606 : Cond.instanceMethod yX9_compile ∈ TW := TW_in (tb_7 (List.mem_of_getElem? (i := 166) rfl)) rfl
theorem w1607 : Cond.selects RX9 yX9_compile yX9_compile ∈ TW := TW_in (tb_7 (List.mem_of_getElem? (i := 167) rfl)) rfl
theorem w1608 : Cond.code yX9_compile cX9_compile 3 (some .int) ∈ TW := TW_in (tb_7 (List.mem_of_getElem? (i := 168) rfl)) rfl
theorem w1609 : Cond.methodLink RX9 311 yX9_isBoth ∈ TW := TW_in (tb_7 (List.mem_of_getElem? (i := 169) rfl)) rfl
theorem w1611 : Cond.instanceMethod yX9_isBoth ∈ TW := TW_in (tb_7 (List.mem_of_getElem? (i := 171) rfl)) rfl
theorem w1612 : Cond.code yX9_isBoth cX9_isBoth 3 (some .boolean) ∈ TW := TW_in (tb_7 (List.mem_of_getElem? (i := 172) rfl)) rfl
theorem w1613 : Cond.methodLink RL 199 yX9_link ∈ TW := TW_in (tb_7 (List.mem_of_getElem? (i := 173) rfl)) rfl
theorem w1614 : Cond.instanceMethod yX9_link ∈ TW := TW_in (tb_7 (List.mem_of_getElem? (i := 174) rfl)) rfl
theorem w1615 : Cond.selects RX9 yX9_link yX9_link ∈ TW := TW_in (tb_7 (List.mem_of_getElem? (i := 175) rfl)) rfl
theorem w1616 : Cond.code yX9_link cX9_link 3 (some .int) ∈ TW := TW_in (tb_7 (List.mem_of_getElem? (i := 176) rfl)) rfl
theorem w1617 : Cond.methodLink RX9 277 yX9_linked ∈ TW := TW_in (tb_7 (List.mem_of_getElem? (i := 177) rfl)) rfl
theorem w1619 : Cond.instanceMethod yX9_linked ∈ TW := TW_in (tb_7 (List.mem_of_getElem? (i := 179) rfl)) rfl
theorem w1620 : Cond.code yX9_linked cX9_linked 3 (some .int) ∈ TW := TW_in (tb_7 (List.mem_of_getElem? (i := 180) rfl)) rfl
theorem w1621 : Cond.methodLink RX9 268 yX9_linkedField ∈ TW := TW_in (tb_7 (List.mem_of_getElem? (i := 181) rfl)) rfl
theorem w1623 : Cond.instanceMethod yX9_linkedField ∈ TW := TW_in (tb_7 (List.mem_of_getElem? (i := 183) rfl)) rfl
theorem w1624 : Cond.code yX9_linkedField cX9_linkedField 4 (some .int) ∈ TW := TW_in (tb_7 (List.mem_of_getElem? (i := 184) rfl)) rfl
theorem w1625 : Cond.methodLink RX9 271 yX9_linkedCall ∈ TW := TW_in (tb_7 (List.mem_of_getElem? (i := 185) rfl)) rfl
theorem w1627 : Cond.instanceMethod yX9_linkedCall ∈ TW := TW_in (tb_7 (List.mem_of_getElem? (i := 187) rfl)) rfl
theorem w1628 : Cond.code yX9_linkedCall cX9_linkedCall 5 (some .int) ∈ TW := TW_in (tb_7 (List.mem_of_getElem? (i := 188) rfl)) rfl
theorem w1629 : Cond.methodLink RX9 274 yX9_linkedBase ∈ TW := TW_in (tb_7 (List.mem_of_getElem? (i := 189) rfl)) rfl
theorem w1631 : Cond.instanceMethod yX9_linkedBase ∈ TW := TW_in (tb_7 (List.mem_of_getElem? (i := 191) rfl)) rfl
theorem w1632 : Cond.code yX9_linkedBase cX9_linkedBase 4 (some .int) ∈ TW := TW_in (tb_7 (List.mem_of_getElem? (i := 192) rfl)) rfl
theorem w1633 : Cond.methodLink RL 202 yX9_target ∈ TW := TW_in (tb_7 (List.mem_of_getElem? (i := 193) rfl)) rfl
theorem w1634 : Cond.instanceMethod yX9_target ∈ TW := TW_in (tb_7 (List.mem_of_getElem? (i := 194) rfl)) rfl
theorem w1635 : Cond.selects RX9 yX9_target yX9_target ∈ TW := TW_in (tb_7 (List.mem_of_getElem? (i := 195) rfl)) rfl
theorem w1636 : Cond.code yX9_target cX9_target 3 (some .int) ∈ TW := TW_in (tb_7 (List.mem_of_getElem? (i := 196) rfl)) rfl
theorem w1637 : Cond.methodLink RL 205 yX9_verdict ∈ TW := TW_in (tb_7 (List.mem_of_getElem? (i := 197) rfl)) rfl
theorem w1638 : Cond.instanceMethod yX9_verdict ∈ TW := TW_in (tb_7 (List.mem_of_getElem? (i := 198) rfl)) rfl
theorem w1639 : Cond.selects RX9 yX9_verdict yX9_verdict ∈ TW := TW_in (tb_7 (List.mem_of_getElem? (i := 199) rfl)) rfl
theorem w1640 : Cond.code yX9_verdict cX9_verdict 2 (some .int) ∈ TW := TW_in (tb_7 (List.mem_of_getElem? (i := 200) rfl)) rfl
theorem w1641 : Cond.methodLink RX9 314 yX9_judged ∈ TW := TW_in (tb_7 (List.mem_of_getElem? (i := 201) rfl)) rfl
theorem w1643 : Cond.instanceMethod yX9_judged ∈ TW := TW_in (tb_7 (List.mem_of_getElem? (i := 203) rfl)) rfl
theorem w1644 : Cond.code yX9_judged cX9_judged 3 (some .int) ∈ TW := TW_in (tb_7 (List.mem_of_getElem? (i := 204) rfl)) rfl
theorem w1645 : Cond.methodLink RX9 283 yX9_isOther ∈ TW := TW_in (tb_7 (List.mem_of_getElem? (i := 205) rfl)) rfl
theorem w1647 : Cond.instanceMethod yX9_isOther ∈ TW := TW_in (tb_7 (List.mem_of_getElem? (i := 207) rfl)) rfl
theorem w1648 : Cond.code yX9_isOther cX9_isOther 3 (some .boolean) ∈ TW := TW_in (tb_7 (List.mem_of_getElem? (i := 208) rfl)) rfl
theorem w1649 : Cond.methodLink RL 208 yX9_count ∈ TW := TW_in (tb_7 (List.mem_of_getElem? (i := 209) rfl)) rfl
theorem w1650 : Cond.instanceMethod yX9_count ∈ TW := TW_in (tb_7 (List.mem_of_getElem? (i := 210) rfl)) rfl
theorem w1651 : Cond.selects RX9 yX9_count yX9_count ∈ TW := TW_in (tb_7 (List.mem_of_getElem? (i := 211) rfl)) rfl
theorem w1652 : Cond.code yX9_count cX9_count 4 (some .int) ∈ TW := TW_in (tb_7 (List.mem_of_getElem? (i := 212) rfl)) rfl
theorem w1653 : Cond.methodLink RL 211 yX9_sample ∈ TW := TW_in (tb_7 (List.mem_of_getElem? (i := 213) rfl)) rfl
theorem w1654 : Cond.instanceMethod yX9_sample ∈ TW := TW_in (tb_7 (List.mem_of_getElem? (i := 214) rfl)) rfl
theorem w1655 : Cond.selects RX9 yX9_sample yX9_sample ∈ TW := TW_in (tb_7 (List.mem_of_getElem? (i := 215) rfl)) rfl
theorem w1656 : Cond.code yX9_sample cX9_sample 5 (some .int) ∈ TW := TW_in (tb_7 (List.mem_of_getElem? (i := 216) rfl)) rfl
theorem w1657 : Cond.methodLink RX9 320 yX9_seeks ∈ TW := TW_in (tb_7 (List.mem_of_getElem? (i := 217) rfl)) rfl
theorem w1659 : Cond.instanceMethod yX9_seeks ∈ TW := TW_in (tb_7 (List.mem_of_getElem? (i := 219) rfl)) rfl
theorem w1660 : Cond.code yX9_seeks cX9_seeks 8 (some .boolean) ∈ TW := TW_in (tb_7 (List.mem_of_getElem? (i := 220) rfl)) rfl
theorem w1661 : Cond.methodLink RX9 317 yX9_isSought ∈ TW := TW_in (tb_7 (List.mem_of_getElem? (i := 221) rfl)) rfl
theorem w1663 : Cond.instanceMethod yX9_isSought ∈ TW := TW_in (tb_7 (List.mem_of_getElem? (i := 223) rfl)) rfl
theorem w1664 : Cond.code yX9_isSought cX9_isSought 3 (some .boolean) ∈ TW := TW_in (tb_7 (List.mem_of_getElem? (i := 224) rfl)) rfl
theorem w1665 : Cond.methodLink RL 220 yX9_checksum ∈ TW := TW_in (tb_7 (List.mem_of_getElem? (i := 225) rfl)) rfl
theorem w1666 : Cond.instanceMethod yX9_checksum ∈ TW := TW_in (tb_7 (List.mem_of_getElem? (i := 226) rfl)) rfl
theorem w1667 : Cond.selects RX9 yX9_checksum yX9_checksum ∈ TW := TW_in (tb_7 (List.mem_of_getElem? (i := 227) rfl)) rfl
theorem w1668 : Cond.code yX9_checksum cX9_checksum 4 (some .long) ∈ TW := TW_in (tb_7 (List.mem_of_getElem? (i := 228) rfl)) rfl
theorem w1669 : Cond.constantLong RX9 329 (17317 : Int64) ∈ TW := TW_in (tb_7 (List.mem_of_getElem? (i := 229) rfl)) rfl
theorem w1670 : Cond.constantLong RX9 331 (-3 : Int64) ∈ TW := TW_in (tb_7 (List.mem_of_getElem? (i := 230) rfl)) rfl
theorem w1671 : Cond.methodLink RX9 333 yX9_mix ∈ TW := TW_in (tb_7 (List.mem_of_getElem? (i := 231) rfl)) rfl
theorem w1673 : Cond.instanceMethod yX9_mix ∈ TW := TW_in (tb_7 (List.mem_of_getElem? (i := 233) rfl)) rfl
theorem w1674 : Cond.code yX9_mix cX9_mix 3 none ∈ TW := TW_in (tb_7 (List.mem_of_getElem? (i := 234) rfl)) rfl
theorem w1675 : Cond.constantLong RX9 323 (31 : Int64) ∈ TW := TW_in (tb_7 (List.mem_of_getElem? (i := 235) rfl)) rfl
theorem w1676 : Cond.arrayClass .long ∈ TW := TW_in (tb_7 (List.mem_of_getElem? (i := 236) rfl)) rfl
theorem fl_X0_15 : FL RX0 15 0 1 := ⟨_, rfl, by decide, w221⟩
theorem fl_X0_18 : FL RX0 18 0 2 := ⟨_, rfl, by decide, w225⟩
theorem fl_X0_21 : FL RX0 21 0 3 := ⟨_, rfl, by decide, w229⟩
theorem fl_X0_24 : FL RX0 24 0 4 := ⟨_, rfl, by decide, w234⟩
theorem fl_X0_27 : FL RX0 27 0 5 := ⟨_, rfl, by decide, w239⟩
theorem fl_X0_30 : FL RX0 30 0 6 := ⟨_, rfl, by decide, w242⟩
theorem fl_X0_33 : FL RX0 33 0 7 := ⟨_, rfl, by decide, w245⟩
theorem fl_X0_39 : FL RX0 39 0 8 := ⟨_, rfl, by decide, w248⟩
theorem fl_X0_61 : FL RX0 61 7 0 := ⟨_, rfl, by decide, w181⟩
theorem fl_X0_65 : FL RX0 65 7 1 := ⟨_, rfl, by decide, w184⟩
theorem fl_X0_68 : FL RX0 68 7 2 := ⟨_, rfl, by decide, w188⟩
theorem fl_X0_71 : FL RX0 71 7 3 := ⟨_, rfl, by decide, w192⟩
theorem fl_X0_9 : FL RX0 9 0 0 := ⟨_, rfl, by decide, w217⟩
theorem fl_X1_101 : FL RX1 101 7 1 := ⟨_, rfl, by decide, w183⟩
theorem fl_X1_103 : FL RX1 103 4 7 := ⟨_, rfl, by decide, w77⟩
theorem fl_X1_106 : FL RX1 106 7 2 := ⟨_, rfl, by decide, w187⟩
theorem fl_X1_108 : FL RX1 108 7 3 := ⟨_, rfl, by decide, w191⟩
theorem fl_X1_119 : FL RX1 119 4 9 := ⟨_, rfl, by decide, w83⟩
theorem fl_X1_12 : FL RX1 12 1 1 := ⟨_, rfl, by decide, w325⟩
theorem fl_X1_122 : FL RX1 122 7 4 := ⟨_, rfl, by decide, w195⟩
theorem fl_X1_124 : FL RX1 124 4 10 := ⟨_, rfl, by decide, w85⟩
theorem fl_X1_127 : FL RX1 127 7 5 := ⟨_, rfl, by decide, w198⟩
theorem fl_X1_132 : FL RX1 132 7 6 := ⟨_, rfl, by decide, w201⟩
theorem fl_X1_135 : FL RX1 135 2 8 := ⟨_, rfl, by decide, w130⟩
theorem fl_X1_138 : FL RX1 138 4 0 := ⟨_, rfl, by decide, w49⟩
theorem fl_X1_141 : FL RX1 141 4 4 := ⟨_, rfl, by decide, w64⟩
theorem fl_X1_144 : FL RX1 144 4 6 := ⟨_, rfl, by decide, w73⟩
theorem fl_X1_146 : FL RX1 146 4 8 := ⟨_, rfl, by decide, w81⟩
theorem fl_X1_149 : FL RX1 149 0 5 := ⟨_, rfl, by decide, w240⟩
theorem fl_X1_151 : FL RX1 151 4 5 := ⟨_, rfl, by decide, w69⟩
theorem fl_X1_154 : FL RX1 154 0 6 := ⟨_, rfl, by decide, w243⟩
theorem fl_X1_158 : FL RX1 158 0 7 := ⟨_, rfl, by decide, w246⟩
theorem fl_X1_162 : FL RX1 162 4 1 := ⟨_, rfl, by decide, w53⟩
theorem fl_X1_168 : FL RX1 168 4 11 := ⟨_, rfl, by decide, w87⟩
theorem fl_X1_178 : FL RX1 178 2 9 := ⟨_, rfl, by decide, w135⟩
theorem fl_X1_18 : FL RX1 18 1 2 := ⟨_, rfl, by decide, w327⟩
theorem fl_X1_184 : FL RX1 184 0 4 := ⟨_, rfl, by decide, w236⟩
theorem fl_X1_22 : FL RX1 22 1 3 := ⟨_, rfl, by decide, w328⟩
theorem fl_X1_26 : FL RX1 26 1 4 := ⟨_, rfl, by decide, w329⟩
theorem fl_X1_30 : FL RX1 30 1 0 := ⟨_, rfl, by decide, w324⟩
theorem fl_X1_37 : FL RX1 37 0 1 := ⟨_, rfl, by decide, w222⟩
theorem fl_X1_48 : FL RX1 48 0 3 := ⟨_, rfl, by decide, w230⟩
theorem fl_X1_55 : FL RX1 55 0 0 := ⟨_, rfl, by decide, w218⟩
theorem fl_X1_75 : FL RX1 75 0 2 := ⟨_, rfl, by decide, w226⟩
theorem fl_X1_86 : FL RX1 86 2 10 := ⟨_, rfl, by decide, w140⟩
theorem fl_X1_90 : FL RX1 90 4 2 := ⟨_, rfl, by decide, w58⟩
theorem fl_X1_95 : FL RX1 95 4 3 := ⟨_, rfl, by decide, w62⟩
theorem fl_X1_98 : FL RX1 98 7 0 := ⟨_, rfl, by decide, w180⟩
theorem fl_X2_101 : FL RX2 101 4 4 := ⟨_, rfl, by decide, w66⟩
theorem fl_X2_104 : FL RX2 104 4 1 := ⟨_, rfl, by decide, w55⟩
theorem fl_X2_107 : FL RX2 107 4 2 := ⟨_, rfl, by decide, w60⟩
theorem fl_X2_117 : FL RX2 117 4 5 := ⟨_, rfl, by decide, w71⟩
theorem fl_X2_120 : FL RX2 120 0 3 := ⟨_, rfl, by decide, w232⟩
theorem fl_X2_124 : FL RX2 124 0 4 := ⟨_, rfl, by decide, w237⟩
theorem fl_X2_127 : FL RX2 127 4 6 := ⟨_, rfl, by decide, w75⟩
theorem fl_X2_130 : FL RX2 130 4 7 := ⟨_, rfl, by decide, w79⟩
theorem fl_X2_136 : FL RX2 136 4 12 := ⟨_, rfl, by decide, w91⟩
theorem fl_X2_15 : FL RX2 15 2 1 := ⟨_, rfl, by decide, w122⟩
theorem fl_X2_18 : FL RX2 18 2 2 := ⟨_, rfl, by decide, w123⟩
theorem fl_X2_21 : FL RX2 21 2 3 := ⟨_, rfl, by decide, w124⟩
theorem fl_X2_24 : FL RX2 24 2 4 := ⟨_, rfl, by decide, w125⟩
theorem fl_X2_27 : FL RX2 27 2 5 := ⟨_, rfl, by decide, w126⟩
theorem fl_X2_31 : FL RX2 31 2 6 := ⟨_, rfl, by decide, w127⟩
theorem fl_X2_34 : FL RX2 34 2 7 := ⟨_, rfl, by decide, w128⟩
theorem fl_X2_37 : FL RX2 37 2 8 := ⟨_, rfl, by decide, w129⟩
theorem fl_X2_40 : FL RX2 40 2 9 := ⟨_, rfl, by decide, w133⟩
theorem fl_X2_46 : FL RX2 46 2 10 := ⟨_, rfl, by decide, w137⟩
theorem fl_X2_50 : FL RX2 50 2 11 := ⟨_, rfl, by decide, w141⟩
theorem fl_X2_53 : FL RX2 53 4 0 := ⟨_, rfl, by decide, w50⟩
theorem fl_X2_9 : FL RX2 9 2 0 := ⟨_, rfl, by decide, w120⟩
theorem fl_X3_100 : FL RX3 100 7 6 := ⟨_, rfl, by decide, w200⟩
theorem fl_X3_103 : FL RX3 103 7 4 := ⟨_, rfl, by decide, w194⟩
theorem fl_X3_106 : FL RX3 106 7 5 := ⟨_, rfl, by decide, w197⟩
theorem fl_X3_122 : FL RX3 122 2 9 := ⟨_, rfl, by decide, w134⟩
theorem fl_X3_125 : FL RX3 125 2 8 := ⟨_, rfl, by decide, w131⟩
theorem fl_X3_138 : FL RX3 138 0 4 := ⟨_, rfl, by decide, w235⟩
theorem fl_X3_15 : FL RX3 15 3 0 := ⟨_, rfl, by decide, w347⟩
theorem fl_X3_19 : FL RX3 19 0 8 := ⟨_, rfl, by decide, w249⟩
theorem fl_X3_25 : FL RX3 25 7 0 := ⟨_, rfl, by decide, w179⟩
theorem fl_X3_31 : FL RX3 31 0 1 := ⟨_, rfl, by decide, w223⟩
theorem fl_X3_40 : FL RX3 40 0 3 := ⟨_, rfl, by decide, w231⟩
theorem fl_X3_47 : FL RX3 47 0 0 := ⟨_, rfl, by decide, w219⟩
theorem fl_X3_67 : FL RX3 67 0 2 := ⟨_, rfl, by decide, w227⟩
theorem fl_X3_70 : FL RX3 70 7 2 := ⟨_, rfl, by decide, w186⟩
theorem fl_X3_81 : FL RX3 81 2 10 := ⟨_, rfl, by decide, w139⟩
theorem fl_X3_85 : FL RX3 85 4 2 := ⟨_, rfl, by decide, w57⟩
theorem fl_X3_9 : FL RX3 9 3 1 := ⟨_, rfl, by decide, w348⟩
theorem fl_X3_91 : FL RX3 91 7 3 := ⟨_, rfl, by decide, w190⟩
theorem fl_X3_94 : FL RX3 94 4 5 := ⟨_, rfl, by decide, w68⟩
theorem fl_X4_15 : FL RX4 15 4 1 := ⟨_, rfl, by decide, w52⟩
theorem fl_X4_19 : FL RX4 19 4 2 := ⟨_, rfl, by decide, w56⟩
theorem fl_X4_22 : FL RX4 22 4 3 := ⟨_, rfl, by decide, w61⟩
theorem fl_X4_25 : FL RX4 25 4 4 := ⟨_, rfl, by decide, w63⟩
theorem fl_X4_28 : FL RX4 28 4 5 := ⟨_, rfl, by decide, w67⟩
theorem fl_X4_31 : FL RX4 31 4 6 := ⟨_, rfl, by decide, w72⟩
theorem fl_X4_34 : FL RX4 34 4 7 := ⟨_, rfl, by decide, w76⟩
theorem fl_X4_37 : FL RX4 37 4 8 := ⟨_, rfl, by decide, w80⟩
theorem fl_X4_40 : FL RX4 40 4 9 := ⟨_, rfl, by decide, w82⟩
theorem fl_X4_43 : FL RX4 43 4 10 := ⟨_, rfl, by decide, w84⟩
theorem fl_X4_46 : FL RX4 46 4 11 := ⟨_, rfl, by decide, w86⟩
theorem fl_X4_49 : FL RX4 49 4 12 := ⟨_, rfl, by decide, w89⟩
theorem fl_X4_52 : FL RX4 52 5 0 := ⟨_, rfl, by decide, w291⟩
theorem fl_X4_57 : FL RX4 57 5 1 := ⟨_, rfl, by decide, w294⟩
theorem fl_X4_59 : FL RX4 59 5 2 := ⟨_, rfl, by decide, w297⟩
theorem fl_X4_61 : FL RX4 61 5 3 := ⟨_, rfl, by decide, w300⟩
theorem fl_X4_9 : FL RX4 9 4 0 := ⟨_, rfl, by decide, w48⟩
theorem fl_X5_15 : FL RX5 15 5 1 := ⟨_, rfl, by decide, w293⟩
theorem fl_X5_18 : FL RX5 18 5 2 := ⟨_, rfl, by decide, w296⟩
theorem fl_X5_21 : FL RX5 21 5 3 := ⟨_, rfl, by decide, w299⟩
theorem fl_X5_9 : FL RX5 9 5 0 := ⟨_, rfl, by decide, w290⟩
theorem fl_X6_11 : FL RX6 11 6 0 := ⟨_, rfl, by decide, w270⟩
theorem fl_X6_19 : FL RX6 19 6 1 := ⟨_, rfl, by decide, w272⟩
theorem fl_X6_23 : FL RX6 23 6 2 := ⟨_, rfl, by decide, w274⟩
theorem fl_X7_15 : FL RX7 15 7 1 := ⟨_, rfl, by decide, w182⟩
theorem fl_X7_19 : FL RX7 19 7 2 := ⟨_, rfl, by decide, w185⟩
theorem fl_X7_22 : FL RX7 22 7 3 := ⟨_, rfl, by decide, w189⟩
theorem fl_X7_25 : FL RX7 25 7 4 := ⟨_, rfl, by decide, w193⟩
theorem fl_X7_28 : FL RX7 28 7 5 := ⟨_, rfl, by decide, w196⟩
theorem fl_X7_31 : FL RX7 31 7 6 := ⟨_, rfl, by decide, w199⟩
theorem fl_X7_9 : FL RX7 9 7 0 := ⟨_, rfl, by decide, w178⟩
theorem fl_X8_10 : FL RX8 10 8 0 := ⟨_, rfl, by decide, w547⟩
theorem fl_X8_144 : FL RX8 144 2 0 := ⟨_, rfl, by decide, w121⟩
theorem fl_X8_16 : FL RX8 16 8 1 := ⟨_, rfl, by decide, w548⟩
theorem fl_X8_20 : FL RX8 20 8 2 := ⟨_, rfl, by decide, w549⟩
theorem fl_X8_203 : FL RX8 203 4 0 := ⟨_, rfl, by decide, w51⟩
theorem fl_X8_213 : FL RX8 213 5 1 := ⟨_, rfl, by decide, w295⟩
theorem fl_X8_24 : FL RX8 24 8 3 := ⟨_, rfl, by decide, w550⟩
theorem fl_X8_241 : FL RX8 241 5 2 := ⟨_, rfl, by decide, w298⟩
theorem fl_X8_244 : FL RX8 244 5 3 := ⟨_, rfl, by decide, w301⟩
theorem fl_X8_266 : FL RX8 266 4 5 := ⟨_, rfl, by decide, w70⟩
theorem fl_X8_270 : FL RX8 270 4 4 := ⟨_, rfl, by decide, w65⟩
theorem fl_X8_273 : FL RX8 273 4 1 := ⟨_, rfl, by decide, w54⟩
theorem fl_X8_276 : FL RX8 276 4 2 := ⟨_, rfl, by decide, w59⟩
theorem fl_X8_285 : FL RX8 285 4 7 := ⟨_, rfl, by decide, w78⟩
theorem fl_X8_295 : FL RX8 295 4 6 := ⟨_, rfl, by decide, w74⟩
theorem fl_X8_298 : FL RX8 298 4 11 := ⟨_, rfl, by decide, w88⟩
theorem fl_X8_30 : FL RX8 30 8 4 := ⟨_, rfl, by decide, w551⟩
theorem fl_X8_309 : FL RX8 309 5 0 := ⟨_, rfl, by decide, w292⟩
theorem fl_X8_323 : FL RX8 323 2 8 := ⟨_, rfl, by decide, w132⟩
theorem fl_X8_328 : FL RX8 328 4 12 := ⟨_, rfl, by decide, w90⟩
theorem fl_X8_331 : FL RX8 331 2 9 := ⟨_, rfl, by decide, w136⟩
theorem fl_X8_349 : FL RX8 349 6 2 := ⟨_, rfl, by decide, w275⟩
theorem fl_X8_356 : FL RX8 356 0 3 := ⟨_, rfl, by decide, w233⟩
theorem fl_X8_366 : FL RX8 366 0 4 := ⟨_, rfl, by decide, w238⟩
theorem fl_X8_37 : FL RX8 37 8 5 := ⟨_, rfl, by decide, w552⟩
theorem fl_X8_394 : FL RX8 394 6 1 := ⟨_, rfl, by decide, w273⟩
theorem fl_X8_406 : FL RX8 406 1 4 := ⟨_, rfl, by decide, w330⟩
theorem fl_X8_414 : FL RX8 414 0 0 := ⟨_, rfl, by decide, w220⟩
theorem fl_X8_417 : FL RX8 417 0 1 := ⟨_, rfl, by decide, w224⟩
theorem fl_X8_420 : FL RX8 420 0 2 := ⟨_, rfl, by decide, w228⟩
theorem fl_X8_422 : FL RX8 422 0 5 := ⟨_, rfl, by decide, w241⟩
theorem fl_X8_423 : FL RX8 423 0 6 := ⟨_, rfl, by decide, w244⟩
theorem fl_X8_424 : FL RX8 424 0 7 := ⟨_, rfl, by decide, w247⟩
theorem fl_X8_425 : FL RX8 425 0 8 := ⟨_, rfl, by decide, w250⟩
theorem fl_X8_429 : FL RX8 429 1 1 := ⟨_, rfl, by decide, w326⟩
theorem fl_X8_43 : FL RX8 43 8 6 := ⟨_, rfl, by decide, w553⟩
theorem fl_X8_435 : FL RX8 435 3 1 := ⟨_, rfl, by decide, w349⟩
theorem fl_X8_49 : FL RX8 49 8 7 := ⟨_, rfl, by decide, w554⟩
theorem fl_X8_53 : FL RX8 53 6 0 := ⟨_, rfl, by decide, w271⟩
theorem fl_X8_64 : FL RX8 64 2 10 := ⟨_, rfl, by decide, w138⟩
theorem fl_X9_13 : FL RX9 13 9 1 := ⟨_, rfl, by decide, w1346⟩
theorem fl_X9_16 : FL RX9 16 9 4 := ⟨_, rfl, by decide, w1349⟩
theorem fl_X9_180 : FL RX9 180 9 6 := ⟨_, rfl, by decide, w1351⟩
theorem fl_X9_183 : FL RX9 183 9 7 := ⟨_, rfl, by decide, w1352⟩
theorem fl_X9_186 : FL RX9 186 9 8 := ⟨_, rfl, by decide, w1353⟩
theorem fl_X9_189 : FL RX9 189 9 9 := ⟨_, rfl, by decide, w1354⟩
theorem fl_X9_19 : FL RX9 19 9 5 := ⟨_, rfl, by decide, w1350⟩
theorem fl_X9_192 : FL RX9 192 9 10 := ⟨_, rfl, by decide, w1355⟩
theorem fl_X9_202 : FL RX9 202 9 11 := ⟨_, rfl, by decide, w1356⟩
theorem fl_X9_205 : FL RX9 205 9 12 := ⟨_, rfl, by decide, w1357⟩
theorem fl_X9_208 : FL RX9 208 9 13 := ⟨_, rfl, by decide, w1358⟩
theorem fl_X9_211 : FL RX9 211 9 14 := ⟨_, rfl, by decide, w1359⟩
theorem fl_X9_22 : FL RX9 22 9 15 := ⟨_, rfl, by decide, w1360⟩
theorem fl_X9_25 : FL RX9 25 9 16 := ⟨_, rfl, by decide, w1361⟩
theorem fl_X9_265 : FL RX9 265 9 18 := ⟨_, rfl, by decide, w1363⟩
theorem fl_X9_28 : FL RX9 28 9 17 := ⟨_, rfl, by decide, w1362⟩
theorem fl_X9_325 : FL RX9 325 9 19 := ⟨_, rfl, by decide, w1364⟩
theorem fl_X9_55 : FL RX9 55 9 3 := ⟨_, rfl, by decide, w1348⟩
theorem fl_X9_59 : FL RX9 59 9 2 := ⟨_, rfl, by decide, w1347⟩
theorem fl_X9_7 : FL RX9 7 9 0 := ⟨_, rfl, by decide, w1345⟩
theorem nw_X6_27_X2_init : (RX6, 27, yX2_init, RX8) ∈ nestW := List.mem_of_getElem? (i := 0) rfl
theorem nw_X2_45_X4_init : (RX2, 45, yX4_init, RX8) ∈ nestW := List.mem_of_getElem? (i := 1) rfl
theorem nw_X6_28_X0_init : (RX6, 28, yX0_init, RX8) ∈ nestW := List.mem_of_getElem? (i := 2) rfl
theorem nw_X0_38_X7_init : (RX0, 38, yX7_init, RX8) ∈ nestW := List.mem_of_getElem? (i := 3) rfl
theorem nw_X8_29_X5_init : (RX8, 29, yX5_init, RX8) ∈ nestW := List.mem_of_getElem? (i := 4) rfl
theorem nw_X8_36_X0_init : (RX8, 36, yX0_init, RX8) ∈ nestW := List.mem_of_getElem? (i := 5) rfl
theorem nw_X1_11_X7_init : (RX1, 11, yX7_init, RX8) ∈ nestW := List.mem_of_getElem? (i := 6) rfl
