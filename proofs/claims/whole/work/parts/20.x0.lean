def mJ6_bitCount_0f7a4 : MI := (yJ6_bitCount_0f7a4, cJ6_bitCount_0f7a4, 1, (some .int), { frames := 0, cells := 0, slots := 0, locals := 0 }, [])
theorem mw_J6_bitCount_0f7a4 : MW mJ6_bitCount_0f7a4 1 := ⟨w808, w18, ⟨by decide, by decide⟩, by decide +kernel⟩
def fJ6_bitCount_0f7a4  (v0 : Int32) : AH → Option (Int32 × AH) := fun h =>
  some (((((((((v0 - (((v0.toUInt32 >>> ((nI 1).toUInt32 &&& Int32.toUInt32 31)).toInt32) &&& (nI 1431655765))) &&& (nI 858993459)) + ((((v0 - (((v0.toUInt32 >>> ((nI 1).toUInt32 &&& Int32.toUInt32 31)).toInt32) &&& (nI 1431655765))).toUInt32 >>> ((nI 2).toUInt32 &&& Int32.toUInt32 31)).toInt32) &&& (nI 858993459))) + (((((v0 - (((v0.toUInt32 >>> ((nI 1).toUInt32 &&& Int32.toUInt32 31)).toInt32) &&& (nI 1431655765))) &&& (nI 858993459)) + ((((v0 - (((v0.toUInt32 >>> ((nI 1).toUInt32 &&& Int32.toUInt32 31)).toInt32) &&& (nI 1431655765))).toUInt32 >>> ((nI 2).toUInt32 &&& Int32.toUInt32 31)).toInt32) &&& (nI 858993459))).toUInt32 >>> ((nI 4).toUInt32 &&& Int32.toUInt32 31)).toInt32)) &&& (nI 252645135)) + (((((((v0 - (((v0.toUInt32 >>> ((nI 1).toUInt32 &&& Int32.toUInt32 31)).toInt32) &&& (nI 1431655765))) &&& (nI 858993459)) + ((((v0 - (((v0.toUInt32 >>> ((nI 1).toUInt32 &&& Int32.toUInt32 31)).toInt32) &&& (nI 1431655765))).toUInt32 >>> ((nI 2).toUInt32 &&& Int32.toUInt32 31)).toInt32) &&& (nI 858993459))) + (((((v0 - (((v0.toUInt32 >>> ((nI 1).toUInt32 &&& Int32.toUInt32 31)).toInt32) &&& (nI 1431655765))) &&& (nI 858993459)) + ((((v0 - (((v0.toUInt32 >>> ((nI 1).toUInt32 &&& Int32.toUInt32 31)).toInt32) &&& (nI 1431655765))).toUInt32 >>> ((nI 2).toUInt32 &&& Int32.toUInt32 31)).toInt32) &&& (nI 858993459))).toUInt32 >>> ((nI 4).toUInt32 &&& Int32.toUInt32 31)).toInt32)) &&& (nI 252645135)).toUInt32 >>> ((nI 8).toUInt32 &&& Int32.toUInt32 31)).toInt32)) + ((((((((v0 - (((v0.toUInt32 >>> ((nI 1).toUInt32 &&& Int32.toUInt32 31)).toInt32) &&& (nI 1431655765))) &&& (nI 858993459)) + ((((v0 - (((v0.toUInt32 >>> ((nI 1).toUInt32 &&& Int32.toUInt32 31)).toInt32) &&& (nI 1431655765))).toUInt32 >>> ((nI 2).toUInt32 &&& Int32.toUInt32 31)).toInt32) &&& (nI 858993459))) + (((((v0 - (((v0.toUInt32 >>> ((nI 1).toUInt32 &&& Int32.toUInt32 31)).toInt32) &&& (nI 1431655765))) &&& (nI 858993459)) + ((((v0 - (((v0.toUInt32 >>> ((nI 1).toUInt32 &&& Int32.toUInt32 31)).toInt32) &&& (nI 1431655765))).toUInt32 >>> ((nI 2).toUInt32 &&& Int32.toUInt32 31)).toInt32) &&& (nI 858993459))).toUInt32 >>> ((nI 4).toUInt32 &&& Int32.toUInt32 31)).toInt32)) &&& (nI 252645135)) + (((((((v0 - (((v0.toUInt32 >>> ((nI 1).toUInt32 &&& Int32.toUInt32 31)).toInt32) &&& (nI 1431655765))) &&& (nI 858993459)) + ((((v0 - (((v0.toUInt32 >>> ((nI 1).toUInt32 &&& Int32.toUInt32 31)).toInt32) &&& (nI 1431655765))).toUInt32 >>> ((nI 2).toUInt32 &&& Int32.toUInt32 31)).toInt32) &&& (nI 858993459))) + (((((v0 - (((v0.toUInt32 >>> ((nI 1).toUInt32 &&& Int32.toUInt32 31)).toInt32) &&& (nI 1431655765))) &&& (nI 858993459)) + ((((v0 - (((v0.toUInt32 >>> ((nI 1).toUInt32 &&& Int32.toUInt32 31)).toInt32) &&& (nI 1431655765))).toUInt32 >>> ((nI 2).toUInt32 &&& Int32.toUInt32 31)).toInt32) &&& (nI 858993459))).toUInt32 >>> ((nI 4).toUInt32 &&& Int32.toUInt32 31)).toInt32)) &&& (nI 252645135)).toUInt32 >>> ((nI 8).toUInt32 &&& Int32.toUInt32 31)).toInt32)).toUInt32 >>> ((nI 16).toUInt32 &&& Int32.toUInt32 31)).toInt32)) &&& (nI 63)), h)
theorem sJ6_bitCount_0f7a4  (v0 : Int32) : Sm mJ6_bitCount_0f7a4 rI 0 0 0 [some (.int v0)] [] (fJ6_bitCount_0f7a4 v0) := by
  unfold fJ6_bitCount_0f7a4
  refine S_iload_n (pc := 0) dJ6_bitCount_0f7a4_0 rfl ?_
  refine S_iload_n (pc := 1) dJ6_bitCount_0f7a4_1 rfl ?_
  refine S_iconst (pc := 2) (v := (nI 1)) dJ6_bitCount_0f7a4_2 kI_1 ?_
  refine S_iushr (pc := 3) dJ6_bitCount_0f7a4_3 ?_
  refine S_ldcw (pc := 4) (v := (nI 1431655765)) w809 dJ6_bitCount_0f7a4_4 ?_
  refine S_iand (pc := 7) dJ6_bitCount_0f7a4_7 ?_
  refine S_isub (pc := 8) dJ6_bitCount_0f7a4_8 ?_
  refine Z_istore_n (pc := 9) (lv' := [some (.int (v0 - (((v0.toUInt32 >>> ((nI 1).toUInt32 &&& Int32.toUInt32 31)).toInt32) &&& (nI 1431655765))))]) dJ6_bitCount_0f7a4_9 rfl rfl rfl ?_
  refine S_iload_n (pc := 10) dJ6_bitCount_0f7a4_10 rfl ?_
  refine S_ldcw (pc := 11) (v := (nI 858993459)) w810 dJ6_bitCount_0f7a4_11 ?_
  refine S_iand (pc := 14) dJ6_bitCount_0f7a4_14 ?_
  refine S_iload_n (pc := 15) dJ6_bitCount_0f7a4_15 rfl ?_
  refine S_iconst (pc := 16) (v := (nI 2)) dJ6_bitCount_0f7a4_16 kI_2 ?_
  refine S_iushr (pc := 17) dJ6_bitCount_0f7a4_17 ?_
  refine S_ldcw (pc := 18) (v := (nI 858993459)) w810 dJ6_bitCount_0f7a4_18 ?_
  refine S_iand (pc := 21) dJ6_bitCount_0f7a4_21 ?_
  refine S_iadd (pc := 22) dJ6_bitCount_0f7a4_22 ?_
  refine Z_istore_n (pc := 23) (lv' := [some (.int (((v0 - (((v0.toUInt32 >>> ((nI 1).toUInt32 &&& Int32.toUInt32 31)).toInt32) &&& (nI 1431655765))) &&& (nI 858993459)) + ((((v0 - (((v0.toUInt32 >>> ((nI 1).toUInt32 &&& Int32.toUInt32 31)).toInt32) &&& (nI 1431655765))).toUInt32 >>> ((nI 2).toUInt32 &&& Int32.toUInt32 31)).toInt32) &&& (nI 858993459))))]) dJ6_bitCount_0f7a4_23 rfl rfl rfl ?_
  refine S_iload_n (pc := 24) dJ6_bitCount_0f7a4_24 rfl ?_
  refine S_iload_n (pc := 25) dJ6_bitCount_0f7a4_25 rfl ?_
  refine S_iconst (pc := 26) (v := (nI 4)) dJ6_bitCount_0f7a4_26 kI_4 ?_
  refine S_iushr (pc := 27) dJ6_bitCount_0f7a4_27 ?_
  refine S_iadd (pc := 28) dJ6_bitCount_0f7a4_28 ?_
  refine S_ldcw (pc := 29) (v := (nI 252645135)) w811 dJ6_bitCount_0f7a4_29 ?_
  refine S_iand (pc := 32) dJ6_bitCount_0f7a4_32 ?_
  refine Z_istore_n (pc := 33) (lv' := [some (.int (((((v0 - (((v0.toUInt32 >>> ((nI 1).toUInt32 &&& Int32.toUInt32 31)).toInt32) &&& (nI 1431655765))) &&& (nI 858993459)) + ((((v0 - (((v0.toUInt32 >>> ((nI 1).toUInt32 &&& Int32.toUInt32 31)).toInt32) &&& (nI 1431655765))).toUInt32 >>> ((nI 2).toUInt32 &&& Int32.toUInt32 31)).toInt32) &&& (nI 858993459))) + (((((v0 - (((v0.toUInt32 >>> ((nI 1).toUInt32 &&& Int32.toUInt32 31)).toInt32) &&& (nI 1431655765))) &&& (nI 858993459)) + ((((v0 - (((v0.toUInt32 >>> ((nI 1).toUInt32 &&& Int32.toUInt32 31)).toInt32) &&& (nI 1431655765))).toUInt32 >>> ((nI 2).toUInt32 &&& Int32.toUInt32 31)).toInt32) &&& (nI 858993459))).toUInt32 >>> ((nI 4).toUInt32 &&& Int32.toUInt32 31)).toInt32)) &&& (nI 252645135)))]) dJ6_bitCount_0f7a4_33 rfl rfl rfl ?_
  refine S_iload_n (pc := 34) dJ6_bitCount_0f7a4_34 rfl ?_
  refine S_iload_n (pc := 35) dJ6_bitCount_0f7a4_35 rfl ?_
  refine S_bipush (pc := 36) (v := (nI 8)) dJ6_bitCount_0f7a4_36 kB_8 ?_
  refine S_iushr (pc := 38) dJ6_bitCount_0f7a4_38 ?_
  refine S_iadd (pc := 39) dJ6_bitCount_0f7a4_39 ?_
  refine Z_istore_n (pc := 40) (lv' := [some (.int ((((((v0 - (((v0.toUInt32 >>> ((nI 1).toUInt32 &&& Int32.toUInt32 31)).toInt32) &&& (nI 1431655765))) &&& (nI 858993459)) + ((((v0 - (((v0.toUInt32 >>> ((nI 1).toUInt32 &&& Int32.toUInt32 31)).toInt32) &&& (nI 1431655765))).toUInt32 >>> ((nI 2).toUInt32 &&& Int32.toUInt32 31)).toInt32) &&& (nI 858993459))) + (((((v0 - (((v0.toUInt32 >>> ((nI 1).toUInt32 &&& Int32.toUInt32 31)).toInt32) &&& (nI 1431655765))) &&& (nI 858993459)) + ((((v0 - (((v0.toUInt32 >>> ((nI 1).toUInt32 &&& Int32.toUInt32 31)).toInt32) &&& (nI 1431655765))).toUInt32 >>> ((nI 2).toUInt32 &&& Int32.toUInt32 31)).toInt32) &&& (nI 858993459))).toUInt32 >>> ((nI 4).toUInt32 &&& Int32.toUInt32 31)).toInt32)) &&& (nI 252645135)) + (((((((v0 - (((v0.toUInt32 >>> ((nI 1).toUInt32 &&& Int32.toUInt32 31)).toInt32) &&& (nI 1431655765))) &&& (nI 858993459)) + ((((v0 - (((v0.toUInt32 >>> ((nI 1).toUInt32 &&& Int32.toUInt32 31)).toInt32) &&& (nI 1431655765))).toUInt32 >>> ((nI 2).toUInt32 &&& Int32.toUInt32 31)).toInt32) &&& (nI 858993459))) + (((((v0 - (((v0.toUInt32 >>> ((nI 1).toUInt32 &&& Int32.toUInt32 31)).toInt32) &&& (nI 1431655765))) &&& (nI 858993459)) + ((((v0 - (((v0.toUInt32 >>> ((nI 1).toUInt32 &&& Int32.toUInt32 31)).toInt32) &&& (nI 1431655765))).toUInt32 >>> ((nI 2).toUInt32 &&& Int32.toUInt32 31)).toInt32) &&& (nI 858993459))).toUInt32 >>> ((nI 4).toUInt32 &&& Int32.toUInt32 31)).toInt32)) &&& (nI 252645135)).toUInt32 >>> ((nI 8).toUInt32 &&& Int32.toUInt32 31)).toInt32)))]) dJ6_bitCount_0f7a4_40 rfl rfl rfl ?_
  refine S_iload_n (pc := 41) dJ6_bitCount_0f7a4_41 rfl ?_
  refine S_iload_n (pc := 42) dJ6_bitCount_0f7a4_42 rfl ?_
  refine S_bipush (pc := 43) (v := (nI 16)) dJ6_bitCount_0f7a4_43 kB_16 ?_
  refine S_iushr (pc := 45) dJ6_bitCount_0f7a4_45 ?_
  refine S_iadd (pc := 46) dJ6_bitCount_0f7a4_46 ?_
  refine Z_istore_n (pc := 47) (lv' := [some (.int (((((((v0 - (((v0.toUInt32 >>> ((nI 1).toUInt32 &&& Int32.toUInt32 31)).toInt32) &&& (nI 1431655765))) &&& (nI 858993459)) + ((((v0 - (((v0.toUInt32 >>> ((nI 1).toUInt32 &&& Int32.toUInt32 31)).toInt32) &&& (nI 1431655765))).toUInt32 >>> ((nI 2).toUInt32 &&& Int32.toUInt32 31)).toInt32) &&& (nI 858993459))) + (((((v0 - (((v0.toUInt32 >>> ((nI 1).toUInt32 &&& Int32.toUInt32 31)).toInt32) &&& (nI 1431655765))) &&& (nI 858993459)) + ((((v0 - (((v0.toUInt32 >>> ((nI 1).toUInt32 &&& Int32.toUInt32 31)).toInt32) &&& (nI 1431655765))).toUInt32 >>> ((nI 2).toUInt32 &&& Int32.toUInt32 31)).toInt32) &&& (nI 858993459))).toUInt32 >>> ((nI 4).toUInt32 &&& Int32.toUInt32 31)).toInt32)) &&& (nI 252645135)) + (((((((v0 - (((v0.toUInt32 >>> ((nI 1).toUInt32 &&& Int32.toUInt32 31)).toInt32) &&& (nI 1431655765))) &&& (nI 858993459)) + ((((v0 - (((v0.toUInt32 >>> ((nI 1).toUInt32 &&& Int32.toUInt32 31)).toInt32) &&& (nI 1431655765))).toUInt32 >>> ((nI 2).toUInt32 &&& Int32.toUInt32 31)).toInt32) &&& (nI 858993459))) + (((((v0 - (((v0.toUInt32 >>> ((nI 1).toUInt32 &&& Int32.toUInt32 31)).toInt32) &&& (nI 1431655765))) &&& (nI 858993459)) + ((((v0 - (((v0.toUInt32 >>> ((nI 1).toUInt32 &&& Int32.toUInt32 31)).toInt32) &&& (nI 1431655765))).toUInt32 >>> ((nI 2).toUInt32 &&& Int32.toUInt32 31)).toInt32) &&& (nI 858993459))).toUInt32 >>> ((nI 4).toUInt32 &&& Int32.toUInt32 31)).toInt32)) &&& (nI 252645135)).toUInt32 >>> ((nI 8).toUInt32 &&& Int32.toUInt32 31)).toInt32)) + ((((((((v0 - (((v0.toUInt32 >>> ((nI 1).toUInt32 &&& Int32.toUInt32 31)).toInt32) &&& (nI 1431655765))) &&& (nI 858993459)) + ((((v0 - (((v0.toUInt32 >>> ((nI 1).toUInt32 &&& Int32.toUInt32 31)).toInt32) &&& (nI 1431655765))).toUInt32 >>> ((nI 2).toUInt32 &&& Int32.toUInt32 31)).toInt32) &&& (nI 858993459))) + (((((v0 - (((v0.toUInt32 >>> ((nI 1).toUInt32 &&& Int32.toUInt32 31)).toInt32) &&& (nI 1431655765))) &&& (nI 858993459)) + ((((v0 - (((v0.toUInt32 >>> ((nI 1).toUInt32 &&& Int32.toUInt32 31)).toInt32) &&& (nI 1431655765))).toUInt32 >>> ((nI 2).toUInt32 &&& Int32.toUInt32 31)).toInt32) &&& (nI 858993459))).toUInt32 >>> ((nI 4).toUInt32 &&& Int32.toUInt32 31)).toInt32)) &&& (nI 252645135)) + (((((((v0 - (((v0.toUInt32 >>> ((nI 1).toUInt32 &&& Int32.toUInt32 31)).toInt32) &&& (nI 1431655765))) &&& (nI 858993459)) + ((((v0 - (((v0.toUInt32 >>> ((nI 1).toUInt32 &&& Int32.toUInt32 31)).toInt32) &&& (nI 1431655765))).toUInt32 >>> ((nI 2).toUInt32 &&& Int32.toUInt32 31)).toInt32) &&& (nI 858993459))) + (((((v0 - (((v0.toUInt32 >>> ((nI 1).toUInt32 &&& Int32.toUInt32 31)).toInt32) &&& (nI 1431655765))) &&& (nI 858993459)) + ((((v0 - (((v0.toUInt32 >>> ((nI 1).toUInt32 &&& Int32.toUInt32 31)).toInt32) &&& (nI 1431655765))).toUInt32 >>> ((nI 2).toUInt32 &&& Int32.toUInt32 31)).toInt32) &&& (nI 858993459))).toUInt32 >>> ((nI 4).toUInt32 &&& Int32.toUInt32 31)).toInt32)) &&& (nI 252645135)).toUInt32 >>> ((nI 8).toUInt32 &&& Int32.toUInt32 31)).toInt32)).toUInt32 >>> ((nI 16).toUInt32 &&& Int32.toUInt32 31)).toInt32)))]) dJ6_bitCount_0f7a4_47 rfl rfl rfl ?_
  refine S_iload_n (pc := 48) dJ6_bitCount_0f7a4_48 rfl ?_
  refine S_bipush (pc := 49) (v := (nI 63)) dJ6_bitCount_0f7a4_49 kB_63 ?_
  refine S_iand (pc := 51) dJ6_bitCount_0f7a4_51 ?_
  exact S_iret (pc := 52) ⟨rfl, rfl⟩ rfl rfl dJ6_bitCount_0f7a4_52
theorem ktJ6_bitCount_0f7a4 (v0 : Int32) : Ct mJ6_bitCount_0f7a4 rI [.int v0] (fJ6_bitCount_0f7a4 v0) := Ct.of (z := 0) pn_J6 rfl rfl rfl (sJ6_bitCount_0f7a4 v0)
def mX0_nextTypes : MI := (yX0_nextTypes, cX0_nextTypes, 1, (some .boolean), { frames := 0, cells := 0, slots := 0, locals := 0 }, [])
theorem mw_X0_nextTypes : MW mX0_nextTypes 0 := ⟨w1155, w5, ⟨by decide, by decide⟩, by decide +kernel⟩
theorem mv_X0_nextTypes : MV mX0_nextTypes 0 := ⟨_, rfl, w1154, wp32⟩
def fX0_nextTypes_75  (s0 : Nat) (s1 : Int32) : AH → Option (Int32 × AH) := fun h =>
  (pI 0 s0 7 s1 h).bind fun h =>
  rz (nI 1) (nI 1) h
def fX0_nextTypes_31  (r0 : Nat) : AH → Option (Int32 × AH) := fun h =>
  (gI 0 r0 5 h).bind fun x_15 =>
  if x_15 < (nI 1) then (
    rz (nI 0) (nI 0) h)
  else
  (gI 0 r0 6 h).bind fun x_16 =>
  if (nI 10) ≤ (x_16 + (nI 1)) then (
    rz (nI 0) (nI 0) h)
  else
  (gI 0 r0 6 h).bind fun x_17 =>
  (pI 0 r0 6 (x_17 + (nI 1)) h).bind fun h =>
  (gI 0 r0 5 h).bind fun x_18 =>
  if x_18 < (nI 2) then (
    fX0_nextTypes_75 r0 (-2 : Int32) h)
  else
  fX0_nextTypes_75 r0 (-1 : Int32) h
def fX0_nextTypes  (r0 : Nat) : AH → Option (Int32 × AH) := fun h =>
  (gI 0 r0 5 h).bind fun x_19 =>
  if x_19 < (nI 2) then (
    fX0_nextTypes_31 r0 h)
  else
  (gI 0 r0 7 h).bind fun x_20 =>
  if (nI 10) ≤ (x_20 + (nI 1)) then (
    fX0_nextTypes_31 r0 h)
  else
  (gI 0 r0 7 h).bind fun x_21 =>
  (pI 0 r0 7 (x_21 + (nI 1)) h).bind fun h =>
  rz (nI 1) (nI 1) h
theorem sX0_nextTypes_75  (s0 : Nat) (s1 : Int32) : Sm mX0_nextTypes rI 0 0 75 [none] [.int s1, .ref s0] (fX0_nextTypes_75 s0 s1) := by
  unfold fX0_nextTypes_75
  refine S_pI (pc := 75) fl_X0_33 rfl rfl dX0_nextTypes_75 ?_
  refine S_iconst (pc := 78) (v := (nI 1)) dX0_nextTypes_78 kI_1 ?_
  exact S_zret (pc := 79) ⟨rfl, rfl⟩ rfl rfl dX0_nextTypes_79
theorem sX0_nextTypes_31  (r0 : Nat) : Sm mX0_nextTypes rI 0 0 31 [some (.ref r0)] [] (fX0_nextTypes_31 r0) := by
  unfold fX0_nextTypes_31
  refine S_aload_n (pc := 31) dX0_nextTypes_31 rfl ?_
  refine S_gI (pc := 32) fl_X0_27 rfl dX0_nextTypes_32 (fun x_15 => ?_)
  refine S_iconst (pc := 35) (v := (nI 1)) dX0_nextTypes_35 kI_1 ?_
  refine S_icmplt (pc := 36) (tgt := 80) dX0_nextTypes_36 (by decide) ?_ ?_
  · refine S_iconst (pc := 80) (v := (nI 0)) dX0_nextTypes_80 kI_0 ?_
    exact S_zret (pc := 81) ⟨rfl, rfl⟩ rfl rfl dX0_nextTypes_81
  · refine S_aload_n (pc := 39) dX0_nextTypes_39 rfl ?_
    refine S_gI (pc := 40) fl_X0_30 rfl dX0_nextTypes_40 (fun x_16 => ?_)
    refine S_iconst (pc := 43) (v := (nI 1)) dX0_nextTypes_43 kI_1 ?_
    refine S_iadd (pc := 44) dX0_nextTypes_44 ?_
    refine S_bipush (pc := 45) (v := (nI 10)) dX0_nextTypes_45 kB_10 ?_
    refine S_icmpge (pc := 47) (tgt := 80) dX0_nextTypes_47 (by decide) ?_ ?_
    · refine S_iconst (pc := 80) (v := (nI 0)) dX0_nextTypes_80 kI_0 ?_
      exact S_zret (pc := 81) ⟨rfl, rfl⟩ rfl rfl dX0_nextTypes_81
    · refine S_aload_n (pc := 50) dX0_nextTypes_50 rfl ?_
      refine S_dup (pc := 51) rfl dX0_nextTypes_51 ?_
      refine S_gI (pc := 52) fl_X0_30 rfl dX0_nextTypes_52 (fun x_17 => ?_)
      refine S_iconst (pc := 55) (v := (nI 1)) dX0_nextTypes_55 kI_1 ?_
      refine S_iadd (pc := 56) dX0_nextTypes_56 ?_
      refine S_pI (pc := 57) fl_X0_30 rfl rfl dX0_nextTypes_57 ?_
      refine S_aload_n (pc := 60) dX0_nextTypes_60 rfl ?_
      refine S_aload_n (pc := 61) dX0_nextTypes_61 rfl ?_
      refine S_gI (pc := 62) fl_X0_27 rfl dX0_nextTypes_62 (fun x_18 => ?_)
      refine S_iconst (pc := 65) (v := (nI 2)) dX0_nextTypes_65 kI_2 ?_
      refine S_icmplt (pc := 66) (tgt := 73) dX0_nextTypes_66 (by decide) ?_ ?_
      · refine S_bipush (pc := 73) (v := (-2 : Int32)) dX0_nextTypes_73 kB_m2 ?_
        exact (S_lv (lv0 := [none]) trivial (sX0_nextTypes_75 r0 (-2 : Int32)))
      · refine S_iconst (pc := 69) (v := (-1 : Int32)) dX0_nextTypes_69 kI_m1 ?_
        refine S_goto (pc := 70) (tgt := 75) dX0_nextTypes_70 (by decide) ?_
        exact (S_lv (lv0 := [none]) trivial (sX0_nextTypes_75 r0 (-1 : Int32)))
theorem sX0_nextTypes  (r0 : Nat) : Sm mX0_nextTypes rI 0 0 0 [some (.ref r0)] [] (fX0_nextTypes r0) := by
  unfold fX0_nextTypes
  refine S_aload_n (pc := 0) dX0_nextTypes_0 rfl ?_
  refine S_gI (pc := 1) fl_X0_27 rfl dX0_nextTypes_1 (fun x_19 => ?_)
  refine S_iconst (pc := 4) (v := (nI 2)) dX0_nextTypes_4 kI_2 ?_
  refine S_icmplt (pc := 5) (tgt := 31) dX0_nextTypes_5 (by decide) ?_ ?_
  · exact (sX0_nextTypes_31 r0)
  · refine S_aload_n (pc := 8) dX0_nextTypes_8 rfl ?_
    refine S_gI (pc := 9) fl_X0_33 rfl dX0_nextTypes_9 (fun x_20 => ?_)
    refine S_iconst (pc := 12) (v := (nI 1)) dX0_nextTypes_12 kI_1 ?_
    refine S_iadd (pc := 13) dX0_nextTypes_13 ?_
    refine S_bipush (pc := 14) (v := (nI 10)) dX0_nextTypes_14 kB_10 ?_
    refine S_icmpge (pc := 16) (tgt := 31) dX0_nextTypes_16 (by decide) ?_ ?_
    · exact (sX0_nextTypes_31 r0)
    · refine S_aload_n (pc := 19) dX0_nextTypes_19 rfl ?_
      refine S_dup (pc := 20) rfl dX0_nextTypes_20 ?_
      refine S_gI (pc := 21) fl_X0_33 rfl dX0_nextTypes_21 (fun x_21 => ?_)
      refine S_iconst (pc := 24) (v := (nI 1)) dX0_nextTypes_24 kI_1 ?_
      refine S_iadd (pc := 25) dX0_nextTypes_25 ?_
      refine S_pI (pc := 26) fl_X0_33 rfl rfl dX0_nextTypes_26 ?_
      refine S_iconst (pc := 29) (v := (nI 1)) dX0_nextTypes_29 kI_1 ?_
      exact S_zret (pc := 30) ⟨rfl, rfl⟩ rfl rfl dX0_nextTypes_30
theorem ktX0_nextTypes (r0 : Nat) : Ct mX0_nextTypes rI [.ref r0] (fX0_nextTypes r0) := Ct.of (z := 0) pn_X0 rfl rfl rfl (sX0_nextTypes r0)
def mX0_nextMany : MI := (yX0_nextMany, cX0_nextMany, 1, (some .boolean), { frames := 0, cells := 0, slots := 0, locals := 0 }, [])
theorem mw_X0_nextMany : MW mX0_nextMany 0 := ⟨w1159, w5, ⟨by decide, by decide⟩, by decide +kernel⟩
theorem mv_X0_nextMany : MV mX0_nextMany 0 := ⟨_, rfl, w1158, wp33⟩
def fX0_nextMany_40  (s0 : Nat) (s1 : Int32) : AH → Option (Int32 × AH) := fun h =>
  (pI 0 s0 7 s1 h).bind fun h =>
  rz (nI 1) (nI 1) h
def fX0_nextMany  (r0 : Nat) : AH → Option (Int32 × AH) := fun h =>
  (gI 0 r0 5 h).bind fun x_7 =>
  if x_7 < (nI 2) then (
    (gI 0 r0 5 h).bind fun x_8 =>
    (pI 0 r0 5 (x_8 + (nI 1)) h).bind fun h =>
    (pI 0 r0 6 (-1 : Int32) h).bind fun h =>
    (gI 0 r0 5 h).bind fun x_9 =>
    if x_9 < (nI 2) then (
      fX0_nextMany_40 r0 (-2 : Int32) h)
    else
    fX0_nextMany_40 r0 (-1 : Int32) h)
  else
  rz (nI 0) (nI 0) h
theorem sX0_nextMany_40  (s0 : Nat) (s1 : Int32) : Sm mX0_nextMany rI 0 0 40 [none] [.int s1, .ref s0] (fX0_nextMany_40 s0 s1) := by
  unfold fX0_nextMany_40
  refine S_pI (pc := 40) fl_X0_33 rfl rfl dX0_nextMany_40 ?_
  refine S_iconst (pc := 43) (v := (nI 1)) dX0_nextMany_43 kI_1 ?_
  exact S_zret (pc := 44) ⟨rfl, rfl⟩ rfl rfl dX0_nextMany_44
theorem sX0_nextMany  (r0 : Nat) : Sm mX0_nextMany rI 0 0 0 [some (.ref r0)] [] (fX0_nextMany r0) := by
  unfold fX0_nextMany
  refine S_aload_n (pc := 0) dX0_nextMany_0 rfl ?_
  refine S_gI (pc := 1) fl_X0_27 rfl dX0_nextMany_1 (fun x_7 => ?_)
  refine S_iconst (pc := 4) (v := (nI 2)) dX0_nextMany_4 kI_2 ?_
  refine S_icmplt (pc := 5) (tgt := 10) dX0_nextMany_5 (by decide) ?_ ?_
  · refine S_aload_n (pc := 10) dX0_nextMany_10 rfl ?_
    refine S_dup (pc := 11) rfl dX0_nextMany_11 ?_
    refine S_gI (pc := 12) fl_X0_27 rfl dX0_nextMany_12 (fun x_8 => ?_)
    refine S_iconst (pc := 15) (v := (nI 1)) dX0_nextMany_15 kI_1 ?_
    refine S_iadd (pc := 16) dX0_nextMany_16 ?_
    refine S_pI (pc := 17) fl_X0_27 rfl rfl dX0_nextMany_17 ?_
    refine S_aload_n (pc := 20) dX0_nextMany_20 rfl ?_
    refine S_iconst (pc := 21) (v := (-1 : Int32)) dX0_nextMany_21 kI_m1 ?_
    refine S_pI (pc := 22) fl_X0_30 rfl rfl dX0_nextMany_22 ?_
    refine S_aload_n (pc := 25) dX0_nextMany_25 rfl ?_
    refine S_aload_n (pc := 26) dX0_nextMany_26 rfl ?_
    refine S_gI (pc := 27) fl_X0_27 rfl dX0_nextMany_27 (fun x_9 => ?_)
    refine S_iconst (pc := 30) (v := (nI 2)) dX0_nextMany_30 kI_2 ?_
    refine S_icmplt (pc := 31) (tgt := 38) dX0_nextMany_31 (by decide) ?_ ?_
    · refine S_bipush (pc := 38) (v := (-2 : Int32)) dX0_nextMany_38 kB_m2 ?_
      exact (S_lv (lv0 := [none]) trivial (sX0_nextMany_40 r0 (-2 : Int32)))
    · refine S_iconst (pc := 34) (v := (-1 : Int32)) dX0_nextMany_34 kI_m1 ?_
      refine S_goto (pc := 35) (tgt := 40) dX0_nextMany_35 (by decide) ?_
      exact (S_lv (lv0 := [none]) trivial (sX0_nextMany_40 r0 (-1 : Int32)))
  · refine S_iconst (pc := 8) (v := (nI 0)) dX0_nextMany_8 kI_0 ?_
    exact S_zret (pc := 9) ⟨rfl, rfl⟩ rfl rfl dX0_nextMany_9
theorem ktX0_nextMany (r0 : Nat) : Ct mX0_nextMany rI [.ref r0] (fX0_nextMany r0) := Ct.of (z := 0) pn_X0 rfl rfl rfl (sX0_nextMany r0)
def mX7_clear : MI := (yX7_clear, cX7_clear, 1, none, { frames := 0, cells := 0, slots := 0, locals := 0 }, [])
theorem mw_X7_clear : MW mX7_clear 0 := ⟨w437, w6, ⟨by decide, by decide⟩, by decide +kernel⟩
theorem mv_X7_clear : MV mX7_clear 7 := ⟨_, rfl, w435, w436⟩
def fX7_clear  (r0 : Nat) : AH → Option (Unit × AH) := fun h =>
  (pZ 7 r0 0 (nI 0) h).bind fun h =>
  (pI 7 r0 1 (-2 : Int32) h).bind fun h =>
  (pI 7 r0 2 (-2 : Int32) h).bind fun h =>
  (pI 7 r0 3 (-2 : Int32) h).bind fun h =>
  (pI 7 r0 4 (-2 : Int32) h).bind fun h =>
  (pI 7 r0 5 (-2 : Int32) h).bind fun h =>
  (pI 7 r0 6 (-2 : Int32) h).bind fun h =>
  some ((), h)
theorem sX7_clear  (r0 : Nat) : Sm mX7_clear rV 0 0 0 [some (.ref r0)] [] (fX7_clear r0) := by
  unfold fX7_clear
  refine S_aload_n (pc := 0) dX7_clear_0 rfl ?_
  refine S_iconst (pc := 1) (v := (nI 0)) dX7_clear_1 kI_0 ?_
  refine S_pZ (pc := 2) fl_X7_9 rfl rfl dX7_clear_2 ?_
  refine S_aload_n (pc := 5) dX7_clear_5 rfl ?_
  refine S_bipush (pc := 6) (v := (-2 : Int32)) dX7_clear_6 kB_m2 ?_
  refine S_pI (pc := 8) fl_X7_15 rfl rfl dX7_clear_8 ?_
  refine S_aload_n (pc := 11) dX7_clear_11 rfl ?_
  refine S_bipush (pc := 12) (v := (-2 : Int32)) dX7_clear_12 kB_m2 ?_
  refine S_pI (pc := 14) fl_X7_19 rfl rfl dX7_clear_14 ?_
  refine S_aload_n (pc := 17) dX7_clear_17 rfl ?_
  refine S_bipush (pc := 18) (v := (-2 : Int32)) dX7_clear_18 kB_m2 ?_
  refine S_pI (pc := 20) fl_X7_22 rfl rfl dX7_clear_20 ?_
  refine S_aload_n (pc := 23) dX7_clear_23 rfl ?_
  refine S_bipush (pc := 24) (v := (-2 : Int32)) dX7_clear_24 kB_m2 ?_
  refine S_pI (pc := 26) fl_X7_25 rfl rfl dX7_clear_26 ?_
  refine S_aload_n (pc := 29) dX7_clear_29 rfl ?_
  refine S_bipush (pc := 30) (v := (-2 : Int32)) dX7_clear_30 kB_m2 ?_
  refine S_pI (pc := 32) fl_X7_28 rfl rfl dX7_clear_32 ?_
  refine S_aload_n (pc := 35) dX7_clear_35 rfl ?_
  refine S_bipush (pc := 36) (v := (-2 : Int32)) dX7_clear_36 kB_m2 ?_
  refine S_pI (pc := 38) fl_X7_31 rfl rfl dX7_clear_38 ?_
  exact S_vret (pc := 41) ⟨rfl, rfl⟩ rfl rfl dX7_clear_41
theorem ktX7_clear (r0 : Nat) : Ct mX7_clear rV [.ref r0] (fX7_clear r0) := Ct.of (z := 0) pn_X7 rfl rfl rfl (sX7_clear r0)
def mX0_put : MI := (yX0_put, cX0_put, 5, none, { frames := 1, cells := 0, slots := 0, locals := 20 }, [])
theorem mw_X0_put : MW mX0_put 4 := ⟨w433, w5, ⟨by decide, by decide⟩, by decide +kernel⟩
theorem mv_X0_put : MV mX0_put 0 := ⟨_, rfl, w431, w432⟩
def fX0_put_48  (r0 : Nat) (s0 : Nat) (s1 : Int32) : AH → Option (Unit × AH) := fun h =>
  (pI 0 s0 5 s1 h).bind fun h =>
  (pI 0 r0 6 (-2 : Int32) h).bind fun h =>
  (pI 0 r0 7 (-2 : Int32) h).bind fun h =>
  (gP 0 r0 8 h).bind fun a_3 =>
  cv 7 a_3 (fX7_clear a_3) h fun _ h =>
  some ((), h)
def fX0_put_22  (r0 : Nat) (v1 : Int32) (v4 : Int32) (s0 : Nat) (s1 : Int32) : AH → Option (Unit × AH) := fun h =>
  (pI 0 s0 2 s1 h).bind fun h =>
  (pI 0 r0 3 v4 h).bind fun h =>
  (pI 0 r0 4 (nI 0) h).bind fun h =>
  if v1 = (nI 2) then (
    fX0_put_48 r0 r0 (nI 0) h)
  else
  fX0_put_48 r0 r0 (-2 : Int32) h
def fX0_put  (r0 : Nat) (v1 : Int32) (v2 : Int32) (v3 : Int32) (v4 : Int32) : AH → Option (Unit × AH) := fun h =>
  (pI 0 r0 0 v1 h).bind fun h =>
  (pI 0 r0 1 v2 h).bind fun h =>
  if (nI 2) < v1 then (
    fX0_put_22 r0 v1 v4 r0 (-2 : Int32) h)
  else
  fX0_put_22 r0 v1 v4 r0 v3 h
theorem sX0_put_48  (r0 : Nat) (s0 : Nat) (s1 : Int32) : Sm mX0_put rV 0 0 48 [some (.ref r0), none, none, none, none] [.int s1, .ref s0] (fX0_put_48 r0 s0 s1) := by
  unfold fX0_put_48
  refine S_pI (pc := 48) fl_X0_27 rfl rfl dX0_put_48 ?_
  refine S_aload_n (pc := 51) dX0_put_51 rfl ?_
  refine S_bipush (pc := 52) (v := (-2 : Int32)) dX0_put_52 kB_m2 ?_
  refine S_pI (pc := 54) fl_X0_30 rfl rfl dX0_put_54 ?_
  refine S_aload_n (pc := 57) dX0_put_57 rfl ?_
  refine S_bipush (pc := 58) (v := (-2 : Int32)) dX0_put_58 kB_m2 ?_
  refine S_pI (pc := 60) fl_X0_33 rfl rfl dX0_put_60 ?_
  refine S_aload_n (pc := 63) dX0_put_63 rfl ?_
  refine S_gP (pc := 64) fl_X0_39 rfl dX0_put_64 (fun a_3 => ?_)
  refine Y_Vv (pc := 67) (st := []) (kc' := 0) (ks' := 0) (ktX7_clear a_3) mw_X7_clear mv_X7_clear w434 (RO.mk rfl rfl rfl rfl) rfl rfl rfl dX0_put_67 ⟨rfl, rfl⟩ ?_
  exact S_vret (pc := 70) ⟨rfl, rfl⟩ rfl rfl dX0_put_70
theorem sX0_put_22  (r0 : Nat) (v1 : Int32) (v4 : Int32) (s0 : Nat) (s1 : Int32) : Sm mX0_put rV 0 0 22 [some (.ref r0), some (.int v1), none, none, some (.int v4)] [.int s1, .ref s0] (fX0_put_22 r0 v1 v4 s0 s1) := by
  unfold fX0_put_22
  refine S_pI (pc := 22) fl_X0_18 rfl rfl dX0_put_22 ?_
  refine S_aload_n (pc := 25) dX0_put_25 rfl ?_
  refine S_iload (pc := 26) dX0_put_26 rfl ?_
  refine S_pI (pc := 28) fl_X0_21 rfl rfl dX0_put_28 ?_
  refine S_aload_n (pc := 31) dX0_put_31 rfl ?_
  refine S_iconst (pc := 32) (v := (nI 0)) dX0_put_32 kI_0 ?_
  refine S_pI (pc := 33) fl_X0_24 rfl rfl dX0_put_33 ?_
  refine S_aload_n (pc := 36) dX0_put_36 rfl ?_
  refine S_iload_n (pc := 37) dX0_put_37 rfl ?_
  refine S_iconst (pc := 38) (v := (nI 2)) dX0_put_38 kI_2 ?_
  refine S_icmpne (pc := 39) (tgt := 46) dX0_put_39 (by decide) ?_ ?_
  · refine S_bipush (pc := 46) (v := (-2 : Int32)) dX0_put_46 kB_m2 ?_
    exact (S_lv (lv0 := [some (.ref r0), none, none, none, none]) (And.intro rfl trivial) (sX0_put_48 r0 r0 (-2 : Int32)))
  · refine S_iconst (pc := 42) (v := (nI 0)) dX0_put_42 kI_0 ?_
    refine S_goto (pc := 43) (tgt := 48) dX0_put_43 (by decide) ?_
    exact (S_lv (lv0 := [some (.ref r0), none, none, none, none]) (And.intro rfl trivial) (sX0_put_48 r0 r0 (nI 0)))
theorem sX0_put  (r0 : Nat) (v1 : Int32) (v2 : Int32) (v3 : Int32) (v4 : Int32) : Sm mX0_put rV 0 0 0 [some (.ref r0), some (.int v1), some (.int v2), some (.int v3), some (.int v4)] [] (fX0_put r0 v1 v2 v3 v4) := by
  unfold fX0_put
  refine S_aload_n (pc := 0) dX0_put_0 rfl ?_
  refine S_iload_n (pc := 1) dX0_put_1 rfl ?_
  refine S_pI (pc := 2) fl_X0_9 rfl rfl dX0_put_2 ?_
  refine S_aload_n (pc := 5) dX0_put_5 rfl ?_
  refine S_iload_n (pc := 6) dX0_put_6 rfl ?_
  refine S_pI (pc := 7) fl_X0_15 rfl rfl dX0_put_7 ?_
  refine S_aload_n (pc := 10) dX0_put_10 rfl ?_
  refine S_iload_n (pc := 11) dX0_put_11 rfl ?_
  refine S_iconst (pc := 12) (v := (nI 2)) dX0_put_12 kI_2 ?_
  refine S_icmpgt (pc := 13) (tgt := 20) dX0_put_13 (by decide) ?_ ?_
  · refine S_bipush (pc := 20) (v := (-2 : Int32)) dX0_put_20 kB_m2 ?_
    exact (S_lv (lv0 := [some (.ref r0), some (.int v1), none, none, some (.int v4)]) (And.intro rfl (And.intro rfl (And.intro rfl trivial))) (sX0_put_22 r0 v1 v4 r0 (-2 : Int32)))
  · refine S_iload_n (pc := 16) dX0_put_16 rfl ?_
    refine S_goto (pc := 17) (tgt := 22) dX0_put_17 (by decide) ?_
    exact (S_lv (lv0 := [some (.ref r0), some (.int v1), none, none, some (.int v4)]) (And.intro rfl (And.intro rfl (And.intro rfl trivial))) (sX0_put_22 r0 v1 v4 r0 v3))
theorem ktX0_put (r0 : Nat) (v1 : Int32) (v2 : Int32) (v3 : Int32) (v4 : Int32) : Ct mX0_put rV [.ref r0, .int v1, .int v2, .int v3, .int v4] (fX0_put r0 v1 v2 v3 v4) := Ct.of (z := 0) pn_X0 rfl rfl rfl (sX0_put r0 v1 v2 v3 v4)
def mX0_advance : MI := (yX0_advance, cX0_advance, 2, (some .boolean), { frames := 2, cells := 0, slots := 0, locals := 44 }, [])
theorem mw_X0_advance : MW mX0_advance 1 := ⟨w1151, w5, ⟨by decide, by decide⟩, by decide +kernel⟩
theorem mv_X0_advance : MV mX0_advance 0 := ⟨_, rfl, w1149, w1150⟩
def fX0_advance_72  (r0 : Nat) : AH → Option (Int32 × AH) := fun h =>
  (gI 0 r0 1 h).bind fun x_33 =>
  if (nI 10) ≤ (x_33 + (nI 1)) then (
    (gI 0 r0 0 h).bind fun x_34 =>
    if (nI 5) ≤ x_34 then (
      rz (nI 0) (nI 0) h)
    else
    (gI 0 r0 0 h).bind fun x_35 =>
    (gI 0 r0 3 h).bind fun x_36 =>
    cv 0 r0 (fX0_put r0 (x_35 + (nI 1)) (nI 0) (nI 0) x_36) h fun _ h =>
    rz (nI 1) (nI 1) h)
  else
  (gI 0 r0 0 h).bind fun x_37 =>
  (gI 0 r0 1 h).bind fun x_38 =>
  (gI 0 r0 3 h).bind fun x_39 =>
  cv 0 r0 (fX0_put r0 x_37 (x_38 + (nI 1)) (nI 0) x_39) h fun _ h =>
  rz (nI 1) (nI 1) h
def fX0_advance_28  (r0 : Nat) : AH → Option (Int32 × AH) := fun h =>
  (gI 0 r0 0 h).bind fun x_40 =>
  if (nI 2) < x_40 then (
    fX0_advance_72 r0 h)
  else
  (gI 0 r0 2 h).bind fun x_41 =>
  if (nI 8) ≤ (x_41 + (nI 1)) then (
    fX0_advance_72 r0 h)
  else
  (gI 0 r0 0 h).bind fun x_42 =>
  (gI 0 r0 1 h).bind fun x_43 =>
  (gI 0 r0 2 h).bind fun x_44 =>
  (gI 0 r0 3 h).bind fun x_45 =>
  cv 0 r0 (fX0_put r0 x_42 x_43 (x_44 + (nI 1)) x_45) h fun _ h =>
  rz (nI 1) (nI 1) h
def fX0_advance_19  (r0 : Nat) : AH → Option (Int32 × AH) := fun h =>
  cv 0 r0 (fX0_nextMany r0) h fun x_46 h =>
  if x_46 = 0 then (
    fX0_advance_28 r0 h)
  else
  rz (nI 1) (nI 1) h
def fX0_advance  (r0 : Nat) (v1 : Int32) : AH → Option (Int32 × AH) := fun h =>
  (gI 0 r0 0 h).bind fun x_47 =>
  if x_47 = (nI 2) then (
    if v1 = 0 then (
      cv 0 r0 (fX0_nextTypes r0) h fun x_48 h =>
      if x_48 = 0 then (
        fX0_advance_19 r0 h)
      else
      rz (nI 1) (nI 1) h)
    else
    fX0_advance_19 r0 h)
  else
  fX0_advance_28 r0 h
theorem sX0_advance_72  (r0 : Nat) : Sm mX0_advance rI 0 0 72 [some (.ref r0), none] [] (fX0_advance_72 r0) := by
  unfold fX0_advance_72
  refine S_aload_n (pc := 72) dX0_advance_72 rfl ?_
  refine S_gI (pc := 73) fl_X0_15 rfl dX0_advance_73 (fun x_33 => ?_)
  refine S_iconst (pc := 76) (v := (nI 1)) dX0_advance_76 kI_1 ?_
  refine S_iadd (pc := 77) dX0_advance_77 ?_
  refine S_bipush (pc := 78) (v := (nI 10)) dX0_advance_78 kB_10 ?_
  refine S_icmpge (pc := 80) (tgt := 105) dX0_advance_80 (by decide) ?_ ?_
  · refine S_aload_n (pc := 105) dX0_advance_105 rfl ?_
    refine S_gI (pc := 106) fl_X0_9 rfl dX0_advance_106 (fun x_34 => ?_)
    refine S_iconst (pc := 109) (v := (nI 5)) dX0_advance_109 kI_5 ?_
    refine S_icmpge (pc := 110) (tgt := 132) dX0_advance_110 (by decide) ?_ ?_
    · refine S_iconst (pc := 132) (v := (nI 0)) dX0_advance_132 kI_0 ?_
      exact S_zret (pc := 133) ⟨rfl, rfl⟩ rfl rfl dX0_advance_133
    · refine S_aload_n (pc := 113) dX0_advance_113 rfl ?_
      refine S_aload_n (pc := 114) dX0_advance_114 rfl ?_
      refine S_gI (pc := 115) fl_X0_9 rfl dX0_advance_115 (fun x_35 => ?_)
      refine S_iconst (pc := 118) (v := (nI 1)) dX0_advance_118 kI_1 ?_
      refine S_iadd (pc := 119) dX0_advance_119 ?_
      refine S_iconst (pc := 120) (v := (nI 0)) dX0_advance_120 kI_0 ?_
      refine S_iconst (pc := 121) (v := (nI 0)) dX0_advance_121 kI_0 ?_
      refine S_aload_n (pc := 122) dX0_advance_122 rfl ?_
      refine S_gI (pc := 123) fl_X0_21 rfl dX0_advance_123 (fun x_36 => ?_)
      refine Y_Vv (pc := 126) (st := []) (kc' := 0) (ks' := 0) (ktX0_put r0 (x_35 + (nI 1)) (nI 0) (nI 0) x_36) mw_X0_put mv_X0_put w1160 (RO.mk rfl rfl rfl rfl) rfl rfl rfl dX0_advance_126 ⟨rfl, rfl⟩ ?_
      refine S_goto (pc := 129) (tgt := 134) dX0_advance_129 (by decide) ?_
      refine S_iconst (pc := 134) (v := (nI 1)) dX0_advance_134 kI_1 ?_
      exact S_zret (pc := 135) ⟨rfl, rfl⟩ rfl rfl dX0_advance_135
  · refine S_aload_n (pc := 83) dX0_advance_83 rfl ?_
    refine S_aload_n (pc := 84) dX0_advance_84 rfl ?_
    refine S_gI (pc := 85) fl_X0_9 rfl dX0_advance_85 (fun x_37 => ?_)
    refine S_aload_n (pc := 88) dX0_advance_88 rfl ?_
    refine S_gI (pc := 89) fl_X0_15 rfl dX0_advance_89 (fun x_38 => ?_)
    refine S_iconst (pc := 92) (v := (nI 1)) dX0_advance_92 kI_1 ?_
    refine S_iadd (pc := 93) dX0_advance_93 ?_
    refine S_iconst (pc := 94) (v := (nI 0)) dX0_advance_94 kI_0 ?_
    refine S_aload_n (pc := 95) dX0_advance_95 rfl ?_
    refine S_gI (pc := 96) fl_X0_21 rfl dX0_advance_96 (fun x_39 => ?_)
    refine Y_Vv (pc := 99) (st := []) (kc' := 0) (ks' := 0) (ktX0_put r0 x_37 (x_38 + (nI 1)) (nI 0) x_39) mw_X0_put mv_X0_put w1160 (RO.mk rfl rfl rfl rfl) rfl rfl rfl dX0_advance_99 ⟨rfl, rfl⟩ ?_
    refine S_goto (pc := 102) (tgt := 134) dX0_advance_102 (by decide) ?_
    refine S_iconst (pc := 134) (v := (nI 1)) dX0_advance_134 kI_1 ?_
    exact S_zret (pc := 135) ⟨rfl, rfl⟩ rfl rfl dX0_advance_135
theorem sX0_advance_28  (r0 : Nat) : Sm mX0_advance rI 0 0 28 [some (.ref r0), none] [] (fX0_advance_28 r0) := by
  unfold fX0_advance_28
  refine S_aload_n (pc := 28) dX0_advance_28 rfl ?_
  refine S_gI (pc := 29) fl_X0_9 rfl dX0_advance_29 (fun x_40 => ?_)
  refine S_iconst (pc := 32) (v := (nI 2)) dX0_advance_32 kI_2 ?_
  refine S_icmpgt (pc := 33) (tgt := 72) dX0_advance_33 (by decide) ?_ ?_
  · exact (sX0_advance_72 r0)
  · refine S_aload_n (pc := 36) dX0_advance_36 rfl ?_
    refine S_gI (pc := 37) fl_X0_18 rfl dX0_advance_37 (fun x_41 => ?_)
    refine S_iconst (pc := 40) (v := (nI 1)) dX0_advance_40 kI_1 ?_
    refine S_iadd (pc := 41) dX0_advance_41 ?_
    refine S_bipush (pc := 42) (v := (nI 8)) dX0_advance_42 kB_8 ?_
    refine S_icmpge (pc := 44) (tgt := 72) dX0_advance_44 (by decide) ?_ ?_
    · exact (sX0_advance_72 r0)
    · refine S_aload_n (pc := 47) dX0_advance_47 rfl ?_
      refine S_aload_n (pc := 48) dX0_advance_48 rfl ?_
      refine S_gI (pc := 49) fl_X0_9 rfl dX0_advance_49 (fun x_42 => ?_)
      refine S_aload_n (pc := 52) dX0_advance_52 rfl ?_
      refine S_gI (pc := 53) fl_X0_15 rfl dX0_advance_53 (fun x_43 => ?_)
      refine S_aload_n (pc := 56) dX0_advance_56 rfl ?_
      refine S_gI (pc := 57) fl_X0_18 rfl dX0_advance_57 (fun x_44 => ?_)
      refine S_iconst (pc := 60) (v := (nI 1)) dX0_advance_60 kI_1 ?_
      refine S_iadd (pc := 61) dX0_advance_61 ?_
      refine S_aload_n (pc := 62) dX0_advance_62 rfl ?_
      refine S_gI (pc := 63) fl_X0_21 rfl dX0_advance_63 (fun x_45 => ?_)
      refine Y_Vv (pc := 66) (st := []) (kc' := 0) (ks' := 0) (ktX0_put r0 x_42 x_43 (x_44 + (nI 1)) x_45) mw_X0_put mv_X0_put w1160 (RO.mk rfl rfl rfl rfl) rfl rfl rfl dX0_advance_66 ⟨rfl, rfl⟩ ?_
      refine S_goto (pc := 69) (tgt := 134) dX0_advance_69 (by decide) ?_
      refine S_iconst (pc := 134) (v := (nI 1)) dX0_advance_134 kI_1 ?_
      exact S_zret (pc := 135) ⟨rfl, rfl⟩ rfl rfl dX0_advance_135
theorem sX0_advance_19  (r0 : Nat) : Sm mX0_advance rI 0 0 19 [some (.ref r0), none] [] (fX0_advance_19 r0) := by
  unfold fX0_advance_19
  refine S_aload_n (pc := 19) dX0_advance_19 rfl ?_
  refine Y_Vi (pc := 20) (st := []) (kc' := 0) (ks' := 0) (ktX0_nextMany r0) mw_X0_nextMany mv_X0_nextMany w1156 (RO.mk rfl rfl rfl rfl) rfl rfl rfl dX0_advance_20 ⟨rfl, rfl⟩ (fun x_46 => ?_)
  refine S_ifeq (pc := 23) (tgt := 28) dX0_advance_23 (by decide) ?_ ?_
  · exact (sX0_advance_28 r0)
  · refine S_iconst (pc := 26) (v := (nI 1)) dX0_advance_26 kI_1 ?_
    exact S_zret (pc := 27) ⟨rfl, rfl⟩ rfl rfl dX0_advance_27
theorem sX0_advance  (r0 : Nat) (v1 : Int32) : Sm mX0_advance rI 0 0 0 [some (.ref r0), some (.int v1)] [] (fX0_advance r0 v1) := by
  unfold fX0_advance
  refine S_aload_n (pc := 0) dX0_advance_0 rfl ?_
  refine S_gI (pc := 1) fl_X0_9 rfl dX0_advance_1 (fun x_47 => ?_)
  refine S_iconst (pc := 4) (v := (nI 2)) dX0_advance_4 kI_2 ?_
  refine S_icmpne (pc := 5) (tgt := 28) dX0_advance_5 (by decide) ?_ ?_
  · exact (S_lv (lv0 := [some (.ref r0), none]) (And.intro rfl trivial) (sX0_advance_28 r0))
  · refine S_iload_n (pc := 8) dX0_advance_8 rfl ?_
    refine S_ifne (pc := 9) (tgt := 19) dX0_advance_9 (by decide) ?_ ?_
    · exact (S_lv (lv0 := [some (.ref r0), none]) (And.intro rfl trivial) (sX0_advance_19 r0))
    · refine S_aload_n (pc := 12) dX0_advance_12 rfl ?_
      refine Y_Vi (pc := 13) (st := []) (kc' := 0) (ks' := 0) (ktX0_nextTypes r0) mw_X0_nextTypes mv_X0_nextTypes w1152 (RO.mk rfl rfl rfl rfl) rfl rfl rfl dX0_advance_13 ⟨rfl, rfl⟩ (fun x_48 => ?_)
      refine S_ifne (pc := 16) (tgt := 26) dX0_advance_16 (by decide) ?_ ?_
      · refine S_iconst (pc := 26) (v := (nI 1)) dX0_advance_26 kI_1 ?_
        exact S_zret (pc := 27) ⟨rfl, rfl⟩ rfl rfl dX0_advance_27
      · exact (S_lv (lv0 := [some (.ref r0), none]) (And.intro rfl trivial) (sX0_advance_19 r0))
theorem ktX0_advance (r0 : Nat) (v1 : Int32) : Ct mX0_advance rI [.ref r0, .int v1] (fX0_advance r0 v1) := Ct.of (z := 0) pn_X0 rfl rfl rfl (sX0_advance r0 v1)
def mX7_copyFrom : MI := (yX7_copyFrom, cX7_copyFrom, 2, none, { frames := 0, cells := 0, slots := 0, locals := 0 }, [])
theorem mw_X7_copyFrom : MW mX7_copyFrom 1 := ⟨w537, w6, ⟨by decide, by decide⟩, by decide +kernel⟩
theorem mv_X7_copyFrom : MV mX7_copyFrom 7 := ⟨_, rfl, w535, w536⟩
def fX7_copyFrom  (r0 : Nat) (r1 : Nat) : AH → Option (Unit × AH) := fun h =>
  (gI 7 r1 0 h).bind fun x_8 =>
  (pZ 7 r0 0 x_8 h).bind fun h =>
  (gI 7 r1 1 h).bind fun x_9 =>
  (pI 7 r0 1 x_9 h).bind fun h =>
  (gI 7 r1 2 h).bind fun x_10 =>
  (pI 7 r0 2 x_10 h).bind fun h =>
  (gI 7 r1 3 h).bind fun x_11 =>
  (pI 7 r0 3 x_11 h).bind fun h =>
  (gI 7 r1 4 h).bind fun x_12 =>
  (pI 7 r0 4 x_12 h).bind fun h =>
  (gI 7 r1 5 h).bind fun x_13 =>
  (pI 7 r0 5 x_13 h).bind fun h =>
  (gI 7 r1 6 h).bind fun x_14 =>
  (pI 7 r0 6 x_14 h).bind fun h =>
  some ((), h)
theorem sX7_copyFrom  (r0 : Nat) (r1 : Nat) : Sm mX7_copyFrom rV 0 0 0 [some (.ref r0), some (.ref r1)] [] (fX7_copyFrom r0 r1) := by
  unfold fX7_copyFrom
  refine S_aload_n (pc := 0) dX7_copyFrom_0 rfl ?_
  refine S_aload_n (pc := 1) dX7_copyFrom_1 rfl ?_
  refine S_gI (pc := 2) fl_X7_9 rfl dX7_copyFrom_2 (fun x_8 => ?_)
  refine S_pZ (pc := 5) fl_X7_9 rfl rfl dX7_copyFrom_5 ?_
  refine S_aload_n (pc := 8) dX7_copyFrom_8 rfl ?_
  refine S_aload_n (pc := 9) dX7_copyFrom_9 rfl ?_
  refine S_gI (pc := 10) fl_X7_15 rfl dX7_copyFrom_10 (fun x_9 => ?_)
  refine S_pI (pc := 13) fl_X7_15 rfl rfl dX7_copyFrom_13 ?_
  refine S_aload_n (pc := 16) dX7_copyFrom_16 rfl ?_
  refine S_aload_n (pc := 17) dX7_copyFrom_17 rfl ?_
  refine S_gI (pc := 18) fl_X7_19 rfl dX7_copyFrom_18 (fun x_10 => ?_)
  refine S_pI (pc := 21) fl_X7_19 rfl rfl dX7_copyFrom_21 ?_
  refine S_aload_n (pc := 24) dX7_copyFrom_24 rfl ?_
  refine S_aload_n (pc := 25) dX7_copyFrom_25 rfl ?_
  refine S_gI (pc := 26) fl_X7_22 rfl dX7_copyFrom_26 (fun x_11 => ?_)
  refine S_pI (pc := 29) fl_X7_22 rfl rfl dX7_copyFrom_29 ?_
  refine S_aload_n (pc := 32) dX7_copyFrom_32 rfl ?_
  refine S_aload_n (pc := 33) dX7_copyFrom_33 rfl ?_
  refine S_gI (pc := 34) fl_X7_25 rfl dX7_copyFrom_34 (fun x_12 => ?_)
  refine S_pI (pc := 37) fl_X7_25 rfl rfl dX7_copyFrom_37 ?_
  refine S_aload_n (pc := 40) dX7_copyFrom_40 rfl ?_
  refine S_aload_n (pc := 41) dX7_copyFrom_41 rfl ?_
  refine S_gI (pc := 42) fl_X7_28 rfl dX7_copyFrom_42 (fun x_13 => ?_)
  refine S_pI (pc := 45) fl_X7_28 rfl rfl dX7_copyFrom_45 ?_
  refine S_aload_n (pc := 48) dX7_copyFrom_48 rfl ?_
  refine S_aload_n (pc := 49) dX7_copyFrom_49 rfl ?_
  refine S_gI (pc := 50) fl_X7_31 rfl dX7_copyFrom_50 (fun x_14 => ?_)
  refine S_pI (pc := 53) fl_X7_31 rfl rfl dX7_copyFrom_53 ?_
  exact S_vret (pc := 56) ⟨rfl, rfl⟩ rfl rfl dX7_copyFrom_56
theorem ktX7_copyFrom (r0 : Nat) (r1 : Nat) : Ct mX7_copyFrom rV [.ref r0, .ref r1] (fX7_copyFrom r0 r1) := Ct.of (z := 0) pn_X7 rfl rfl rfl (sX7_copyFrom r0 r1)
def mX0_copyFrom : MI := (yX0_copyFrom, cX0_copyFrom, 2, none, { frames := 1, cells := 0, slots := 0, locals := 21 }, [])
theorem mw_X0_copyFrom : MW mX0_copyFrom 1 := ⟨w545, w5, ⟨by decide, by decide⟩, by decide +kernel⟩
theorem mv_X0_copyFrom : MV mX0_copyFrom 0 := ⟨_, rfl, w543, w544⟩
def fX0_copyFrom  (r0 : Nat) (r1 : Nat) : AH → Option (Unit × AH) := fun h =>
  (gI 0 r1 0 h).bind fun x_11 =>
  (pI 0 r0 0 x_11 h).bind fun h =>
  (gI 0 r1 1 h).bind fun x_12 =>
  (pI 0 r0 1 x_12 h).bind fun h =>
  (gI 0 r1 2 h).bind fun x_13 =>
  (pI 0 r0 2 x_13 h).bind fun h =>
  (gI 0 r1 3 h).bind fun x_14 =>
  (pI 0 r0 3 x_14 h).bind fun h =>
  (gI 0 r1 4 h).bind fun x_15 =>
  (pI 0 r0 4 x_15 h).bind fun h =>
  (gI 0 r1 5 h).bind fun x_16 =>
  (pI 0 r0 5 x_16 h).bind fun h =>
  (gI 0 r1 6 h).bind fun x_17 =>
  (pI 0 r0 6 x_17 h).bind fun h =>
  (gI 0 r1 7 h).bind fun x_18 =>
  (pI 0 r0 7 x_18 h).bind fun h =>
  (gP 0 r0 8 h).bind fun a_19 =>
  (gP 0 r1 8 h).bind fun a_20 =>
  cv 7 a_19 (fX7_copyFrom a_19 a_20) h fun _ h =>
  some ((), h)
theorem sX0_copyFrom  (r0 : Nat) (r1 : Nat) : Sm mX0_copyFrom rV 0 0 0 [some (.ref r0), some (.ref r1)] [] (fX0_copyFrom r0 r1) := by
  unfold fX0_copyFrom
  refine S_aload_n (pc := 0) dX0_copyFrom_0 rfl ?_
  refine S_aload_n (pc := 1) dX0_copyFrom_1 rfl ?_
  refine S_gI (pc := 2) fl_X0_9 rfl dX0_copyFrom_2 (fun x_11 => ?_)
  refine S_pI (pc := 5) fl_X0_9 rfl rfl dX0_copyFrom_5 ?_
  refine S_aload_n (pc := 8) dX0_copyFrom_8 rfl ?_
  refine S_aload_n (pc := 9) dX0_copyFrom_9 rfl ?_
  refine S_gI (pc := 10) fl_X0_15 rfl dX0_copyFrom_10 (fun x_12 => ?_)
  refine S_pI (pc := 13) fl_X0_15 rfl rfl dX0_copyFrom_13 ?_
  refine S_aload_n (pc := 16) dX0_copyFrom_16 rfl ?_
  refine S_aload_n (pc := 17) dX0_copyFrom_17 rfl ?_
  refine S_gI (pc := 18) fl_X0_18 rfl dX0_copyFrom_18 (fun x_13 => ?_)
  refine S_pI (pc := 21) fl_X0_18 rfl rfl dX0_copyFrom_21 ?_
  refine S_aload_n (pc := 24) dX0_copyFrom_24 rfl ?_
  refine S_aload_n (pc := 25) dX0_copyFrom_25 rfl ?_
  refine S_gI (pc := 26) fl_X0_21 rfl dX0_copyFrom_26 (fun x_14 => ?_)
  refine S_pI (pc := 29) fl_X0_21 rfl rfl dX0_copyFrom_29 ?_
  refine S_aload_n (pc := 32) dX0_copyFrom_32 rfl ?_
  refine S_aload_n (pc := 33) dX0_copyFrom_33 rfl ?_
  refine S_gI (pc := 34) fl_X0_24 rfl dX0_copyFrom_34 (fun x_15 => ?_)
  refine S_pI (pc := 37) fl_X0_24 rfl rfl dX0_copyFrom_37 ?_
  refine S_aload_n (pc := 40) dX0_copyFrom_40 rfl ?_
  refine S_aload_n (pc := 41) dX0_copyFrom_41 rfl ?_
  refine S_gI (pc := 42) fl_X0_27 rfl dX0_copyFrom_42 (fun x_16 => ?_)
  refine S_pI (pc := 45) fl_X0_27 rfl rfl dX0_copyFrom_45 ?_
  refine S_aload_n (pc := 48) dX0_copyFrom_48 rfl ?_
  refine S_aload_n (pc := 49) dX0_copyFrom_49 rfl ?_
  refine S_gI (pc := 50) fl_X0_30 rfl dX0_copyFrom_50 (fun x_17 => ?_)
  refine S_pI (pc := 53) fl_X0_30 rfl rfl dX0_copyFrom_53 ?_
  refine S_aload_n (pc := 56) dX0_copyFrom_56 rfl ?_
  refine S_aload_n (pc := 57) dX0_copyFrom_57 rfl ?_
  refine S_gI (pc := 58) fl_X0_33 rfl dX0_copyFrom_58 (fun x_18 => ?_)
  refine S_pI (pc := 61) fl_X0_33 rfl rfl dX0_copyFrom_61 ?_
  refine S_aload_n (pc := 64) dX0_copyFrom_64 rfl ?_
  refine S_gP (pc := 65) fl_X0_39 rfl dX0_copyFrom_65 (fun a_19 => ?_)
  refine S_aload_n (pc := 68) dX0_copyFrom_68 rfl ?_
  refine S_gP (pc := 69) fl_X0_39 rfl dX0_copyFrom_69 (fun a_20 => ?_)
  refine Y_Vv (pc := 72) (st := []) (kc' := 0) (ks' := 0) (ktX7_copyFrom a_19 a_20) mw_X7_copyFrom mv_X7_copyFrom w546 (RO.mk rfl rfl rfl rfl) rfl rfl rfl dX0_copyFrom_72 ⟨rfl, rfl⟩ ?_
  exact S_vret (pc := 75) ⟨rfl, rfl⟩ rfl rfl dX0_copyFrom_75
theorem ktX0_copyFrom (r0 : Nat) (r1 : Nat) : Ct mX0_copyFrom rV [.ref r0, .ref r1] (fX0_copyFrom r0 r1) := Ct.of (z := 0) pn_X0 rfl rfl rfl (sX0_copyFrom r0 r1)
def mX7_init : MI := (yX7_init, cX7_init, 1, none, { frames := 1, cells := 0, slots := 0, locals := 20 }, [])
theorem mw_X7_init : MW mX7_init 0 := ⟨w176, w6, ⟨by decide, by decide⟩, by decide +kernel⟩
def fX7_init  (r0 : Nat) : AH → Option (Unit × AH) := fun h =>
  (pZ 7 r0 0 (nI 0) h).bind fun h =>
  (pI 7 r0 1 (-2 : Int32) h).bind fun h =>
  (pI 7 r0 2 (-2 : Int32) h).bind fun h =>
  (pI 7 r0 3 (-2 : Int32) h).bind fun h =>
  (pI 7 r0 4 (-2 : Int32) h).bind fun h =>
  (pI 7 r0 5 (-2 : Int32) h).bind fun h =>
  (pI 7 r0 6 (-2 : Int32) h).bind fun h =>
  some ((), h)
theorem sX7_init  (r0 : Nat) : Sm mX7_init rV 0 0 0 [some (.ref r0)] [] (fX7_init r0) := by
  unfold fX7_init
  refine S_aload_n (pc := 0) dX7_init_0 rfl ?_
  refine S_obj (pc := 1) w177 w25 w26 ⟨rfl, rfl⟩ dX7_init_1 ?_
  refine S_aload_n (pc := 4) dX7_init_4 rfl ?_
  refine S_iconst (pc := 5) (v := (nI 0)) dX7_init_5 kI_0 ?_
  refine S_pZ (pc := 6) fl_X7_9 rfl rfl dX7_init_6 ?_
  refine S_aload_n (pc := 9) dX7_init_9 rfl ?_
  refine S_bipush (pc := 10) (v := (-2 : Int32)) dX7_init_10 kB_m2 ?_
  refine S_pI (pc := 12) fl_X7_15 rfl rfl dX7_init_12 ?_
  refine S_aload_n (pc := 15) dX7_init_15 rfl ?_
  refine S_bipush (pc := 16) (v := (-2 : Int32)) dX7_init_16 kB_m2 ?_
  refine S_pI (pc := 18) fl_X7_19 rfl rfl dX7_init_18 ?_
  refine S_aload_n (pc := 21) dX7_init_21 rfl ?_
  refine S_bipush (pc := 22) (v := (-2 : Int32)) dX7_init_22 kB_m2 ?_
  refine S_pI (pc := 24) fl_X7_22 rfl rfl dX7_init_24 ?_
  refine S_aload_n (pc := 27) dX7_init_27 rfl ?_
  refine S_bipush (pc := 28) (v := (-2 : Int32)) dX7_init_28 kB_m2 ?_
  refine S_pI (pc := 30) fl_X7_25 rfl rfl dX7_init_30 ?_
  refine S_aload_n (pc := 33) dX7_init_33 rfl ?_
  refine S_bipush (pc := 34) (v := (-2 : Int32)) dX7_init_34 kB_m2 ?_
  refine S_pI (pc := 36) fl_X7_28 rfl rfl dX7_init_36 ?_
  refine S_aload_n (pc := 39) dX7_init_39 rfl ?_
  refine S_bipush (pc := 40) (v := (-2 : Int32)) dX7_init_40 kB_m2 ?_
  refine S_pI (pc := 42) fl_X7_31 rfl rfl dX7_init_42 ?_
  exact S_vret (pc := 45) ⟨rfl, rfl⟩ rfl rfl dX7_init_45
theorem ktX7_init (r0 : Nat) : Ct mX7_init rV [.ref r0] (fX7_init r0) := Ct.of (z := 0) pn_X7 rfl rfl rfl (sX7_init r0)
def mX0_init : MI := (yX0_init, cX0_init, 1, none, { frames := 2, cells := 1, slots := 7, locals := 40 }, [])
theorem mw_X0_init : MW mX0_init 0 := ⟨w170, w5, ⟨by decide, by decide⟩, by decide +kernel⟩
def fX0_init  (r0 : Nat) : AH → Option (Unit × AH) := fun h =>
  (pI 0 r0 0 (nI 0) h).bind fun h =>
  (pI 0 r0 1 (nI 0) h).bind fun h =>
  (pI 0 r0 2 (-2 : Int32) h).bind fun h =>
  (pI 0 r0 3 (nI 0) h).bind fun h =>
  (pI 0 r0 4 (nI 0) h).bind fun h =>
  (pI 0 r0 5 (-2 : Int32) h).bind fun h =>
  (pI 0 r0 6 (-2 : Int32) h).bind fun h =>
  (pI 0 r0 7 (-2 : Int32) h).bind fun h =>
  bd (nwO 7 h) fun a_2 h =>
  bd (fX7_init a_2 h) fun _ h =>
  (pP 0 r0 8 a_2 h).bind fun h =>
  some ((), h)
theorem sX0_init  (r0 : Nat) : Sm mX0_init rV 0 0 0 [some (.ref r0)] [] (fX0_init r0) := by
  unfold fX0_init
  refine S_aload_n (pc := 0) dX0_init_0 rfl ?_
  refine S_obj (pc := 1) w171 w25 w26 ⟨rfl, rfl⟩ dX0_init_1 ?_
  refine S_aload_n (pc := 4) dX0_init_4 rfl ?_
  refine S_iconst (pc := 5) (v := (nI 0)) dX0_init_5 kI_0 ?_
  refine S_pI (pc := 6) fl_X0_9 rfl rfl dX0_init_6 ?_
  refine S_aload_n (pc := 9) dX0_init_9 rfl ?_
  refine S_iconst (pc := 10) (v := (nI 0)) dX0_init_10 kI_0 ?_
  refine S_pI (pc := 11) fl_X0_15 rfl rfl dX0_init_11 ?_
  refine S_aload_n (pc := 14) dX0_init_14 rfl ?_
  refine S_bipush (pc := 15) (v := (-2 : Int32)) dX0_init_15 kB_m2 ?_
  refine S_pI (pc := 17) fl_X0_18 rfl rfl dX0_init_17 ?_
  refine S_aload_n (pc := 20) dX0_init_20 rfl ?_
  refine S_iconst (pc := 21) (v := (nI 0)) dX0_init_21 kI_0 ?_
  refine S_pI (pc := 22) fl_X0_21 rfl rfl dX0_init_22 ?_
  refine S_aload_n (pc := 25) dX0_init_25 rfl ?_
  refine S_iconst (pc := 26) (v := (nI 0)) dX0_init_26 kI_0 ?_
  refine S_pI (pc := 27) fl_X0_24 rfl rfl dX0_init_27 ?_
  refine S_aload_n (pc := 30) dX0_init_30 rfl ?_
  refine S_bipush (pc := 31) (v := (-2 : Int32)) dX0_init_31 kB_m2 ?_
  refine S_pI (pc := 33) fl_X0_27 rfl rfl dX0_init_33 ?_
  refine S_aload_n (pc := 36) dX0_init_36 rfl ?_
  refine S_bipush (pc := 37) (v := (-2 : Int32)) dX0_init_37 kB_m2 ?_
  refine S_pI (pc := 39) fl_X0_30 rfl rfl dX0_init_39 ?_
  refine S_aload_n (pc := 42) dX0_init_42 rfl ?_
  refine S_bipush (pc := 43) (v := (-2 : Int32)) dX0_init_43 kB_m2 ?_
  refine S_pI (pc := 45) fl_X0_33 rfl rfl dX0_init_45 ?_
  refine S_aload_n (pc := 48) dX0_init_48 rfl ?_
  refine S_new (pc := 49) (c := 7) rfl w172 w173 w6 ⟨rfl, rfl⟩ dX0_init_49 (fun a_2 => ?_)
  refine S_dup (pc := 52) rfl dX0_init_52 ?_
  refine Y_IN (pc := 53) (st := [.ref a_2, .ref r0]) (kc' := 1) (ks' := 7) (ktX7_init a_2) mw_X7_init rfl rfl w175 nw_X0_38_X7_init (RO.mk rfl rfl rfl rfl) rfl rfl rfl dX0_init_53 ⟨rfl, rfl⟩ ?_
  refine S_pF (pc := 56) fl_X0_39 rfl rfl rfl (fun r hr => by cases hr; rfl) dX0_init_56 ?_
  exact S_vret (pc := 59) ⟨rfl, rfl⟩ rfl rfl dX0_init_59
theorem ktX0_init (r0 : Nat) : Ct mX0_init rV [.ref r0] (fX0_init r0) := Ct.of (z := 0) pn_X0 rfl rfl rfl (sX0_init r0)
def mX0_putArguments : MI := (yX0_putArguments, cX0_putArguments, 4, none, { frames := 0, cells := 0, slots := 0, locals := 0 }, [])
theorem mw_X0_putArguments : MW mX0_putArguments 3 := ⟨w1057, w5, ⟨by decide, by decide⟩, by decide +kernel⟩
theorem mv_X0_putArguments : MV mX0_putArguments 0 := ⟨_, rfl, w1055, w1056⟩
def fX0_putArguments  (r0 : Nat) (v1 : Int32) (v2 : Int32) (v3 : Int32) : AH → Option (Unit × AH) := fun h =>
  (pI 0 r0 5 v1 h).bind fun h =>
  (pI 0 r0 6 v2 h).bind fun h =>
  (pI 0 r0 7 v3 h).bind fun h =>
  some ((), h)
theorem sX0_putArguments  (r0 : Nat) (v1 : Int32) (v2 : Int32) (v3 : Int32) : Sm mX0_putArguments rV 0 0 0 [some (.ref r0), some (.int v1), some (.int v2), some (.int v3)] [] (fX0_putArguments r0 v1 v2 v3) := by
  unfold fX0_putArguments
  refine S_aload_n (pc := 0) dX0_putArguments_0 rfl ?_
  refine S_iload_n (pc := 1) dX0_putArguments_1 rfl ?_
  refine S_pI (pc := 2) fl_X0_27 rfl rfl dX0_putArguments_2 ?_
  refine S_aload_n (pc := 5) dX0_putArguments_5 rfl ?_
  refine S_iload_n (pc := 6) dX0_putArguments_6 rfl ?_
  refine S_pI (pc := 7) fl_X0_30 rfl rfl dX0_putArguments_7 ?_
  refine S_aload_n (pc := 10) dX0_putArguments_10 rfl ?_
  refine S_iload_n (pc := 11) dX0_putArguments_11 rfl ?_
  refine S_pI (pc := 12) fl_X0_33 rfl rfl dX0_putArguments_12 ?_
  exact S_vret (pc := 15) ⟨rfl, rfl⟩ rfl rfl dX0_putArguments_15
theorem ktX0_putArguments (r0 : Nat) (v1 : Int32) (v2 : Int32) (v3 : Int32) : Ct mX0_putArguments rV [.ref r0, .int v1, .int v2, .int v3] (fX0_putArguments r0 v1 v2 v3) := Ct.of (z := 0) pn_X0 rfl rfl rfl (sX0_putArguments r0 v1 v2 v3)
def mX0_valueOf : MI := (yX0_valueOf, cX0_valueOf, 2, (some .int), { frames := 0, cells := 0, slots := 0, locals := 0 }, [])
theorem mw_X0_valueOf : MW mX0_valueOf 1 := ⟨w625, w5, ⟨by decide, by decide⟩, by decide +kernel⟩
theorem mv_X0_valueOf : MV mX0_valueOf 0 := ⟨_, rfl, w623, w624⟩
def fX0_valueOf  (r0 : Nat) (v1 : Int32) : AH → Option (Int32 × AH) := fun h =>
  if v1 = (nI 0) then (
    (gI 0 r0 0 h).bind fun x_15 =>
    some (x_15, h))
  else
  if v1 = (nI 1) then (
    (gI 0 r0 1 h).bind fun x_16 =>
    some (x_16, h))
  else
  if v1 = (nI 2) then (
    (gI 0 r0 2 h).bind fun x_17 =>
    some (x_17, h))
  else
  if v1 = (nI 3) then (
    (gI 0 r0 3 h).bind fun x_18 =>
    some (x_18, h))
  else
  if v1 = (nI 4) then (
    (gI 0 r0 4 h).bind fun x_19 =>
    some (x_19, h))
  else
  if v1 = (nI 5) then (
    (gI 0 r0 5 h).bind fun x_20 =>
    some (x_20, h))
  else
  if v1 = (nI 6) then (
    (gP 0 r0 8 h).bind fun a_21 =>
    (gI 7 a_21 0 h).bind fun x_22 =>
    if x_22 = 0 then (
      some ((nI 0), h))
    else
    some ((nI 1), h))
  else
  if v1 = (nI 7) then (
    (gP 0 r0 8 h).bind fun a_23 =>
    (gI 7 a_23 1 h).bind fun x_24 =>
    some (x_24, h))
  else
  if v1 = (nI 8) then (
    (gP 0 r0 8 h).bind fun a_25 =>
    (gI 7 a_25 2 h).bind fun x_26 =>
    some (x_26, h))
  else
  (gP 0 r0 8 h).bind fun a_27 =>
  (gI 7 a_27 3 h).bind fun x_28 =>
  some (x_28, h)
theorem sX0_valueOf  (r0 : Nat) (v1 : Int32) : Sm mX0_valueOf rI 0 0 0 [some (.ref r0), some (.int v1)] [] (fX0_valueOf r0 v1) := by
  unfold fX0_valueOf
  refine S_iload_n (pc := 0) dX0_valueOf_0 rfl ?_
  refine S_case (x := v1) (v := (nI 0)) (fun n0 => ?_) (fun n0 => ?_)
  · refine S_tsI (pc := 1) (tgt := 52) n0 dX0_valueOf_1 (by decide) rfl (by decide) ?_
    refine S_aload_n (pc := 52) dX0_valueOf_52 rfl ?_
    refine S_gI (pc := 53) fl_X0_9 rfl dX0_valueOf_53 (fun x_15 => ?_)
    exact S_iret (pc := 56) ⟨rfl, rfl⟩ rfl rfl dX0_valueOf_56
  refine S_case (x := v1) (v := (nI 1)) (fun n1 => ?_) (fun n1 => ?_)
  · refine S_tsI (pc := 1) (tgt := 57) n1 dX0_valueOf_1 (by decide) rfl (by decide) ?_
    refine S_aload_n (pc := 57) dX0_valueOf_57 rfl ?_
    refine S_gI (pc := 58) fl_X0_15 rfl dX0_valueOf_58 (fun x_16 => ?_)
    exact S_iret (pc := 61) ⟨rfl, rfl⟩ rfl rfl dX0_valueOf_61
  refine S_case (x := v1) (v := (nI 2)) (fun n2 => ?_) (fun n2 => ?_)
  · refine S_tsI (pc := 1) (tgt := 62) n2 dX0_valueOf_1 (by decide) rfl (by decide) ?_
    refine S_aload_n (pc := 62) dX0_valueOf_62 rfl ?_
    refine S_gI (pc := 63) fl_X0_18 rfl dX0_valueOf_63 (fun x_17 => ?_)
    exact S_iret (pc := 66) ⟨rfl, rfl⟩ rfl rfl dX0_valueOf_66
  refine S_case (x := v1) (v := (nI 3)) (fun n3 => ?_) (fun n3 => ?_)
  · refine S_tsI (pc := 1) (tgt := 67) n3 dX0_valueOf_1 (by decide) rfl (by decide) ?_
    refine S_aload_n (pc := 67) dX0_valueOf_67 rfl ?_
    refine S_gI (pc := 68) fl_X0_21 rfl dX0_valueOf_68 (fun x_18 => ?_)
    exact S_iret (pc := 71) ⟨rfl, rfl⟩ rfl rfl dX0_valueOf_71
  refine S_case (x := v1) (v := (nI 4)) (fun n4 => ?_) (fun n4 => ?_)
  · refine S_tsI (pc := 1) (tgt := 72) n4 dX0_valueOf_1 (by decide) rfl (by decide) ?_
    refine S_aload_n (pc := 72) dX0_valueOf_72 rfl ?_
    refine S_gI (pc := 73) fl_X0_24 rfl dX0_valueOf_73 (fun x_19 => ?_)
    exact S_iret (pc := 76) ⟨rfl, rfl⟩ rfl rfl dX0_valueOf_76
  refine S_case (x := v1) (v := (nI 5)) (fun n5 => ?_) (fun n5 => ?_)
  · refine S_tsI (pc := 1) (tgt := 77) n5 dX0_valueOf_1 (by decide) rfl (by decide) ?_
    refine S_aload_n (pc := 77) dX0_valueOf_77 rfl ?_
    refine S_gI (pc := 78) fl_X0_27 rfl dX0_valueOf_78 (fun x_20 => ?_)
    exact S_iret (pc := 81) ⟨rfl, rfl⟩ rfl rfl dX0_valueOf_81
  refine S_case (x := v1) (v := (nI 6)) (fun n6 => ?_) (fun n6 => ?_)
  · refine S_tsI (pc := 1) (tgt := 82) n6 dX0_valueOf_1 (by decide) rfl (by decide) ?_
    refine S_aload_n (pc := 82) dX0_valueOf_82 rfl ?_
    refine S_gP (pc := 83) fl_X0_39 rfl dX0_valueOf_83 (fun a_21 => ?_)
    refine S_gI (pc := 86) fl_X0_61 rfl dX0_valueOf_86 (fun x_22 => ?_)
    refine S_ifeq (pc := 89) (tgt := 96) dX0_valueOf_89 (by decide) ?_ ?_
    · refine S_iconst (pc := 96) (v := (nI 0)) dX0_valueOf_96 kI_0 ?_
      exact S_iret (pc := 97) ⟨rfl, rfl⟩ rfl rfl dX0_valueOf_97
    · refine S_iconst (pc := 92) (v := (nI 1)) dX0_valueOf_92 kI_1 ?_
      refine S_goto (pc := 93) (tgt := 97) dX0_valueOf_93 (by decide) ?_
      exact S_iret (pc := 97) ⟨rfl, rfl⟩ rfl rfl dX0_valueOf_97
  refine S_case (x := v1) (v := (nI 7)) (fun n7 => ?_) (fun n7 => ?_)
  · refine S_tsI (pc := 1) (tgt := 98) n7 dX0_valueOf_1 (by decide) rfl (by decide) ?_
    refine S_aload_n (pc := 98) dX0_valueOf_98 rfl ?_
    refine S_gP (pc := 99) fl_X0_39 rfl dX0_valueOf_99 (fun a_23 => ?_)
    refine S_gI (pc := 102) fl_X0_65 rfl dX0_valueOf_102 (fun x_24 => ?_)
    exact S_iret (pc := 105) ⟨rfl, rfl⟩ rfl rfl dX0_valueOf_105
  refine S_case (x := v1) (v := (nI 8)) (fun n8 => ?_) (fun n8 => ?_)
  · refine S_tsI (pc := 1) (tgt := 106) n8 dX0_valueOf_1 (by decide) rfl (by decide) ?_
    refine S_aload_n (pc := 106) dX0_valueOf_106 rfl ?_
    refine S_gP (pc := 107) fl_X0_39 rfl dX0_valueOf_107 (fun a_25 => ?_)
    refine S_gI (pc := 110) fl_X0_68 rfl dX0_valueOf_110 (fun x_26 => ?_)
    exact S_iret (pc := 113) ⟨rfl, rfl⟩ rfl rfl dX0_valueOf_113
  refine S_tsD (pc := 1) (tgt := 114) (by have n0 := lv_neT (a := 0) n0 rfl; have n1 := lv_neT (a := 1) n1 rfl; have n2 := lv_neT (a := 2) n2 rfl; have n3 := lv_neT (a := 3) n3 rfl; have n4 := lv_neT (a := 4) n4 rfl; have n5 := lv_neT (a := 5) n5 rfl; have n6 := lv_neT (a := 6) n6 rfl; have n7 := lv_neT (a := 7) n7 rfl; have n8 := lv_neT (a := 8) n8 rfl; omega) dX0_valueOf_1 (by decide) ?_
  refine S_aload_n (pc := 114) dX0_valueOf_114 rfl ?_
  refine S_gP (pc := 115) fl_X0_39 rfl dX0_valueOf_115 (fun a_27 => ?_)
  refine S_gI (pc := 118) fl_X0_71 rfl dX0_valueOf_118 (fun x_28 => ?_)
  exact S_iret (pc := 121) ⟨rfl, rfl⟩ rfl rfl dX0_valueOf_121
theorem ktX0_valueOf (r0 : Nat) (v1 : Int32) : Ct mX0_valueOf rI [.ref r0, .int v1] (fX0_valueOf r0 v1) := Ct.of (z := 0) pn_X0 rfl rfl rfl (sX0_valueOf r0 v1)
def mX7_isSameAs : MI := (yX7_isSameAs, cX7_isSameAs, 2, (some .boolean), { frames := 0, cells := 0, slots := 0, locals := 0 }, [])
theorem mw_X7_isSameAs : MW mX7_isSameAs 1 := ⟨w677, w6, ⟨by decide, by decide⟩, by decide +kernel⟩
theorem mv_X7_isSameAs : MV mX7_isSameAs 7 := ⟨_, rfl, w675, w676⟩
def fX7_isSameAs  (r0 : Nat) (r1 : Nat) : AH → Option (Int32 × AH) := fun h =>
  (gI 7 r0 0 h).bind fun x_15 =>
  (gI 7 r1 0 h).bind fun x_16 =>
  if x_15 = x_16 then (
    (gI 7 r0 1 h).bind fun x_17 =>
    (gI 7 r1 1 h).bind fun x_18 =>
    if x_17 = x_18 then (
      (gI 7 r0 2 h).bind fun x_19 =>
      (gI 7 r1 2 h).bind fun x_20 =>
      if x_19 = x_20 then (
        (gI 7 r0 3 h).bind fun x_21 =>
        (gI 7 r1 3 h).bind fun x_22 =>
        if x_21 = x_22 then (
          (gI 7 r0 4 h).bind fun x_23 =>
          (gI 7 r1 4 h).bind fun x_24 =>
          if x_23 = x_24 then (
            (gI 7 r0 5 h).bind fun x_25 =>
            (gI 7 r1 5 h).bind fun x_26 =>
            if x_25 = x_26 then (
              (gI 7 r0 6 h).bind fun x_27 =>
              (gI 7 r1 6 h).bind fun x_28 =>
              if x_27 = x_28 then (
                rz (nI 1) (nI 1) h)
              else
              rz (nI 0) (nI 0) h)
            else
            rz (nI 0) (nI 0) h)
          else
          rz (nI 0) (nI 0) h)
        else
        rz (nI 0) (nI 0) h)
      else
      rz (nI 0) (nI 0) h)
    else
    rz (nI 0) (nI 0) h)
  else
  rz (nI 0) (nI 0) h
theorem sX7_isSameAs  (r0 : Nat) (r1 : Nat) : Sm mX7_isSameAs rI 0 0 0 [some (.ref r0), some (.ref r1)] [] (fX7_isSameAs r0 r1) := by
  unfold fX7_isSameAs
  refine S_aload_n (pc := 0) dX7_isSameAs_0 rfl ?_
  refine S_gI (pc := 1) fl_X7_9 rfl dX7_isSameAs_1 (fun x_15 => ?_)
  refine S_aload_n (pc := 4) dX7_isSameAs_4 rfl ?_
  refine S_gI (pc := 5) fl_X7_9 rfl dX7_isSameAs_5 (fun x_16 => ?_)
  refine S_icmpne (pc := 8) (tgt := 81) dX7_isSameAs_8 (by decide) ?_ ?_
  · refine S_iconst (pc := 81) (v := (nI 0)) dX7_isSameAs_81 kI_0 ?_
    exact S_zret (pc := 82) ⟨rfl, rfl⟩ rfl rfl dX7_isSameAs_82
  · refine S_aload_n (pc := 11) dX7_isSameAs_11 rfl ?_
    refine S_gI (pc := 12) fl_X7_15 rfl dX7_isSameAs_12 (fun x_17 => ?_)
    refine S_aload_n (pc := 15) dX7_isSameAs_15 rfl ?_
    refine S_gI (pc := 16) fl_X7_15 rfl dX7_isSameAs_16 (fun x_18 => ?_)
    refine S_icmpne (pc := 19) (tgt := 81) dX7_isSameAs_19 (by decide) ?_ ?_
    · refine S_iconst (pc := 81) (v := (nI 0)) dX7_isSameAs_81 kI_0 ?_
      exact S_zret (pc := 82) ⟨rfl, rfl⟩ rfl rfl dX7_isSameAs_82
    · refine S_aload_n (pc := 22) dX7_isSameAs_22 rfl ?_
      refine S_gI (pc := 23) fl_X7_19 rfl dX7_isSameAs_23 (fun x_19 => ?_)
      refine S_aload_n (pc := 26) dX7_isSameAs_26 rfl ?_
      refine S_gI (pc := 27) fl_X7_19 rfl dX7_isSameAs_27 (fun x_20 => ?_)
      refine S_icmpne (pc := 30) (tgt := 81) dX7_isSameAs_30 (by decide) ?_ ?_
      · refine S_iconst (pc := 81) (v := (nI 0)) dX7_isSameAs_81 kI_0 ?_
        exact S_zret (pc := 82) ⟨rfl, rfl⟩ rfl rfl dX7_isSameAs_82
      · refine S_aload_n (pc := 33) dX7_isSameAs_33 rfl ?_
        refine S_gI (pc := 34) fl_X7_22 rfl dX7_isSameAs_34 (fun x_21 => ?_)
        refine S_aload_n (pc := 37) dX7_isSameAs_37 rfl ?_
        refine S_gI (pc := 38) fl_X7_22 rfl dX7_isSameAs_38 (fun x_22 => ?_)
        refine S_icmpne (pc := 41) (tgt := 81) dX7_isSameAs_41 (by decide) ?_ ?_
        · refine S_iconst (pc := 81) (v := (nI 0)) dX7_isSameAs_81 kI_0 ?_
          exact S_zret (pc := 82) ⟨rfl, rfl⟩ rfl rfl dX7_isSameAs_82
        · refine S_aload_n (pc := 44) dX7_isSameAs_44 rfl ?_
          refine S_gI (pc := 45) fl_X7_25 rfl dX7_isSameAs_45 (fun x_23 => ?_)
          refine S_aload_n (pc := 48) dX7_isSameAs_48 rfl ?_
          refine S_gI (pc := 49) fl_X7_25 rfl dX7_isSameAs_49 (fun x_24 => ?_)
          refine S_icmpne (pc := 52) (tgt := 81) dX7_isSameAs_52 (by decide) ?_ ?_
          · refine S_iconst (pc := 81) (v := (nI 0)) dX7_isSameAs_81 kI_0 ?_
            exact S_zret (pc := 82) ⟨rfl, rfl⟩ rfl rfl dX7_isSameAs_82
          · refine S_aload_n (pc := 55) dX7_isSameAs_55 rfl ?_
            refine S_gI (pc := 56) fl_X7_28 rfl dX7_isSameAs_56 (fun x_25 => ?_)
            refine S_aload_n (pc := 59) dX7_isSameAs_59 rfl ?_
            refine S_gI (pc := 60) fl_X7_28 rfl dX7_isSameAs_60 (fun x_26 => ?_)
            refine S_icmpne (pc := 63) (tgt := 81) dX7_isSameAs_63 (by decide) ?_ ?_
            · refine S_iconst (pc := 81) (v := (nI 0)) dX7_isSameAs_81 kI_0 ?_
              exact S_zret (pc := 82) ⟨rfl, rfl⟩ rfl rfl dX7_isSameAs_82
            · refine S_aload_n (pc := 66) dX7_isSameAs_66 rfl ?_
              refine S_gI (pc := 67) fl_X7_31 rfl dX7_isSameAs_67 (fun x_27 => ?_)
              refine S_aload_n (pc := 70) dX7_isSameAs_70 rfl ?_
              refine S_gI (pc := 71) fl_X7_31 rfl dX7_isSameAs_71 (fun x_28 => ?_)
              refine S_icmpne (pc := 74) (tgt := 81) dX7_isSameAs_74 (by decide) ?_ ?_
              · refine S_iconst (pc := 81) (v := (nI 0)) dX7_isSameAs_81 kI_0 ?_
                exact S_zret (pc := 82) ⟨rfl, rfl⟩ rfl rfl dX7_isSameAs_82
              · refine S_iconst (pc := 77) (v := (nI 1)) dX7_isSameAs_77 kI_1 ?_
                refine S_goto (pc := 78) (tgt := 82) dX7_isSameAs_78 (by decide) ?_
                exact S_zret (pc := 82) ⟨rfl, rfl⟩ rfl rfl dX7_isSameAs_82
theorem ktX7_isSameAs (r0 : Nat) (r1 : Nat) : Ct mX7_isSameAs rI [.ref r0, .ref r1] (fX7_isSameAs r0 r1) := Ct.of (z := 0) pn_X7 rfl rfl rfl (sX7_isSameAs r0 r1)
