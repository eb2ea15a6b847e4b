def mX2_fitsType : MI := (yX2_fitsType, cX2_fitsType, 3, (some .boolean), { frames := 0, cells := 0, slots := 0, locals := 0 }, [])
theorem mw_X2_fitsType : MW mX2_fitsType 2 := ⟨w479, w3, ⟨by decide, by decide⟩, by decide +kernel⟩
theorem mv_X2_fitsType : MV mX2_fitsType 2 := ⟨_, rfl, w477, w478⟩
def fX2_fitsType  (r0 : Nat) (v1 : Int32) (v2 : Int32) : AH → Option (Int32 × AH) := fun h =>
  if v1 = v2 then (
    rz (nI 1) (nI 1) h)
  else
  if v1 < 0 then (
    rz (nI 0) (nI 0) h)
  else
  if v2 < 0 then (
    rz (nI 0) (nI 0) h)
  else
  (gP 2 r0 8 h).bind fun a_3 =>
  (ldI a_3 v1 h).bind fun x_4 =>
  if ((x_4 >>> (v2 &&& 31)) &&& (nI 1)) = 0 then (
    rz (nI 0) (nI 0) h)
  else
  rz (nI 1) (nI 1) h
theorem sX2_fitsType  (r0 : Nat) (v1 : Int32) (v2 : Int32) : Sm mX2_fitsType rI 0 0 0 [some (.ref r0), some (.int v1), some (.int v2)] [] (fX2_fitsType r0 v1 v2) := by
  unfold fX2_fitsType
  refine S_iload_n (pc := 0) dX2_fitsType_0 rfl ?_
  refine S_iload_n (pc := 1) dX2_fitsType_1 rfl ?_
  refine S_icmpeq (pc := 2) (tgt := 26) dX2_fitsType_2 (by decide) ?_ ?_
  · refine S_iconst (pc := 26) (v := (nI 1)) dX2_fitsType_26 kI_1 ?_
    refine S_goto (pc := 27) (tgt := 31) dX2_fitsType_27 (by decide) ?_
    exact S_zret (pc := 31) ⟨rfl, rfl⟩ rfl rfl dX2_fitsType_31
  · refine S_iload_n (pc := 5) dX2_fitsType_5 rfl ?_
    refine S_iflt (pc := 6) (tgt := 30) dX2_fitsType_6 (by decide) ?_ ?_
    · refine S_iconst (pc := 30) (v := (nI 0)) dX2_fitsType_30 kI_0 ?_
      exact S_zret (pc := 31) ⟨rfl, rfl⟩ rfl rfl dX2_fitsType_31
    · refine S_iload_n (pc := 9) dX2_fitsType_9 rfl ?_
      refine S_iflt (pc := 10) (tgt := 30) dX2_fitsType_10 (by decide) ?_ ?_
      · refine S_iconst (pc := 30) (v := (nI 0)) dX2_fitsType_30 kI_0 ?_
        exact S_zret (pc := 31) ⟨rfl, rfl⟩ rfl rfl dX2_fitsType_31
      · refine S_aload_n (pc := 13) dX2_fitsType_13 rfl ?_
        refine S_gP (pc := 14) fl_X2_37 rfl dX2_fitsType_14 (fun a_3 => ?_)
        refine S_iload_n (pc := 17) dX2_fitsType_17 rfl ?_
        refine S_ldI (pc := 18) dX2_fitsType_18 (fun x_4 => ?_)
        refine S_iload_n (pc := 19) dX2_fitsType_19 rfl ?_
        refine S_ishr (pc := 20) dX2_fitsType_20 ?_
        refine S_iconst (pc := 21) (v := (nI 1)) dX2_fitsType_21 kI_1 ?_
        refine S_iand (pc := 22) dX2_fitsType_22 ?_
        refine S_ifeq (pc := 23) (tgt := 30) dX2_fitsType_23 (by decide) ?_ ?_
        · refine S_iconst (pc := 30) (v := (nI 0)) dX2_fitsType_30 kI_0 ?_
          exact S_zret (pc := 31) ⟨rfl, rfl⟩ rfl rfl dX2_fitsType_31
        · refine S_iconst (pc := 26) (v := (nI 1)) dX2_fitsType_26 kI_1 ?_
          refine S_goto (pc := 27) (tgt := 31) dX2_fitsType_27 (by decide) ?_
          exact S_zret (pc := 31) ⟨rfl, rfl⟩ rfl rfl dX2_fitsType_31
theorem ktX2_fitsType (r0 : Nat) (v1 : Int32) (v2 : Int32) : Ct mX2_fitsType rI [.ref r0, .int v1, .int v2] (fX2_fitsType r0 v1 v2) := Ct.of (z := 0) pn_X2 rfl rfl rfl (sX2_fitsType r0 v1 v2)
def mX2_isMemberOpen : MI := (yX2_isMemberOpen, cX2_isMemberOpen, 5, (some .boolean), { frames := 0, cells := 0, slots := 0, locals := 0 }, [])
theorem mw_X2_isMemberOpen : MW mX2_isMemberOpen 2 := ⟨w467, w3, ⟨by decide, by decide⟩, by decide +kernel⟩
theorem mv_X2_isMemberOpen : MV mX2_isMemberOpen 2 := ⟨_, rfl, w465, w466⟩
def fX2_isMemberOpen_48  (r0 : Nat) (r2 : Nat) (v3 : Int32) (v4 : Int32) : AH → Option (Int32 × AH) := fun h =>
  if v3 = (nI 2) then (
    (gP 2 r0 8 h).bind fun a_25 =>
    (gI 0 r2 4 h).bind fun x_26 =>
    (ldI a_25 x_26 h).bind fun x_27 =>
    if ((x_27 >>> (v4 &&& 31)) &&& (nI 1)) = 0 then (
      rz (nI 0) (nI 0) h)
    else
    rz (nI 1) (nI 1) h)
  else
  rz (nI 0) (nI 0) h
def fX2_isMemberOpen  (r0 : Nat) (v1 : Int32) (r2 : Nat) : AH → Option (Int32 × AH) := fun h =>
  (gP 2 r0 10 h).bind fun a_28 =>
  (gP 4 a_28 1 h).bind fun a_29 =>
  (ldI a_29 v1 h).bind fun x_30 =>
  (gP 2 r0 10 h).bind fun a_31 =>
  (gP 4 a_31 5 h).bind fun a_32 =>
  (ldI a_32 v1 h).bind fun x_33 =>
  if x_30 = (nI 3) then (
    rz (nI 1) (nI 1) h)
  else
  if x_30 = 0 then (
    fX2_isMemberOpen_48 r0 r2 x_30 x_33 h)
  else
  (gP 2 r0 5 h).bind fun a_34 =>
  (ldI a_34 x_33 h).bind fun x_35 =>
  (gI 0 r2 3 h).bind fun x_36 =>
  if x_35 = x_36 then (
    rz (nI 1) (nI 1) h)
  else
  fX2_isMemberOpen_48 r0 r2 x_30 x_33 h
theorem sX2_isMemberOpen_48  (r0 : Nat) (r2 : Nat) (v3 : Int32) (v4 : Int32) : Sm mX2_isMemberOpen rI 0 0 48 [some (.ref r0), none, some (.ref r2), some (.int v3), some (.int v4)] [] (fX2_isMemberOpen_48 r0 r2 v3 v4) := by
  unfold fX2_isMemberOpen_48
  refine S_iload_n (pc := 48) dX2_isMemberOpen_48 rfl ?_
  refine S_iconst (pc := 49) (v := (nI 2)) dX2_isMemberOpen_49 kI_2 ?_
  refine S_icmpne (pc := 50) (tgt := 74) dX2_isMemberOpen_50 (by decide) ?_ ?_
  · refine S_iconst (pc := 74) (v := (nI 0)) dX2_isMemberOpen_74 kI_0 ?_
    exact S_zret (pc := 75) ⟨rfl, rfl⟩ rfl rfl dX2_isMemberOpen_75
  · refine S_aload_n (pc := 53) dX2_isMemberOpen_53 rfl ?_
    refine S_gP (pc := 54) fl_X2_37 rfl dX2_isMemberOpen_54 (fun a_25 => ?_)
    refine S_aload_n (pc := 57) dX2_isMemberOpen_57 rfl ?_
    refine S_gI (pc := 58) fl_X2_124 rfl dX2_isMemberOpen_58 (fun x_26 => ?_)
    refine S_ldI (pc := 61) dX2_isMemberOpen_61 (fun x_27 => ?_)
    refine S_iload (pc := 62) dX2_isMemberOpen_62 rfl ?_
    refine S_ishr (pc := 64) dX2_isMemberOpen_64 ?_
    refine S_iconst (pc := 65) (v := (nI 1)) dX2_isMemberOpen_65 kI_1 ?_
    refine S_iand (pc := 66) dX2_isMemberOpen_66 ?_
    refine S_ifeq (pc := 67) (tgt := 74) dX2_isMemberOpen_67 (by decide) ?_ ?_
    · refine S_iconst (pc := 74) (v := (nI 0)) dX2_isMemberOpen_74 kI_0 ?_
      exact S_zret (pc := 75) ⟨rfl, rfl⟩ rfl rfl dX2_isMemberOpen_75
    · refine S_iconst (pc := 70) (v := (nI 1)) dX2_isMemberOpen_70 kI_1 ?_
      refine S_goto (pc := 71) (tgt := 75) dX2_isMemberOpen_71 (by decide) ?_
      exact S_zret (pc := 75) ⟨rfl, rfl⟩ rfl rfl dX2_isMemberOpen_75
theorem sX2_isMemberOpen  (r0 : Nat) (v1 : Int32) (r2 : Nat) : Sm mX2_isMemberOpen rI 0 0 0 [some (.ref r0), some (.int v1), some (.ref r2), none, none] [] (fX2_isMemberOpen r0 v1 r2) := by
  unfold fX2_isMemberOpen
  refine S_aload_n (pc := 0) dX2_isMemberOpen_0 rfl ?_
  refine S_gP (pc := 1) fl_X2_46 rfl dX2_isMemberOpen_1 (fun a_28 => ?_)
  refine S_gP (pc := 4) fl_X2_104 rfl dX2_isMemberOpen_4 (fun a_29 => ?_)
  refine S_iload_n (pc := 7) dX2_isMemberOpen_7 rfl ?_
  refine S_ldI (pc := 8) dX2_isMemberOpen_8 (fun x_30 => ?_)
  refine Z_istore_n (pc := 9) (lv' := [some (.ref r0), some (.int v1), some (.ref r2), some (.int x_30), none]) dX2_isMemberOpen_9 rfl rfl rfl ?_
  refine S_aload_n (pc := 10) dX2_isMemberOpen_10 rfl ?_
  refine S_gP (pc := 11) fl_X2_46 rfl dX2_isMemberOpen_11 (fun a_31 => ?_)
  refine S_gP (pc := 14) fl_X2_117 rfl dX2_isMemberOpen_14 (fun a_32 => ?_)
  refine S_iload_n (pc := 17) dX2_isMemberOpen_17 rfl ?_
  refine S_ldI (pc := 18) dX2_isMemberOpen_18 (fun x_33 => ?_)
  refine Z_istore (pc := 19) (lv' := [some (.ref r0), some (.int v1), some (.ref r2), some (.int x_30), some (.int x_33)]) dX2_isMemberOpen_19 rfl rfl rfl ?_
  refine S_iload_n (pc := 21) dX2_isMemberOpen_21 rfl ?_
  refine S_iconst (pc := 22) (v := (nI 3)) dX2_isMemberOpen_22 kI_3 ?_
  refine S_icmpne (pc := 23) (tgt := 28) dX2_isMemberOpen_23 (by decide) ?_ ?_
  · refine S_iload_n (pc := 28) dX2_isMemberOpen_28 rfl ?_
    refine S_ifeq (pc := 29) (tgt := 48) dX2_isMemberOpen_29 (by decide) ?_ ?_
    · exact (S_lv (lv0 := [some (.ref r0), none, some (.ref r2), some (.int x_30), some (.int x_33)]) (And.intro rfl (And.intro rfl (And.intro rfl (And.intro rfl trivial)))) (sX2_isMemberOpen_48 r0 r2 x_30 x_33))
    · refine S_aload_n (pc := 32) dX2_isMemberOpen_32 rfl ?_
      refine S_gP (pc := 33) fl_X2_27 rfl dX2_isMemberOpen_33 (fun a_34 => ?_)
      refine S_iload (pc := 36) dX2_isMemberOpen_36 rfl ?_
      refine S_ldI (pc := 38) dX2_isMemberOpen_38 (fun x_35 => ?_)
      refine S_aload_n (pc := 39) dX2_isMemberOpen_39 rfl ?_
      refine S_gI (pc := 40) fl_X2_120 rfl dX2_isMemberOpen_40 (fun x_36 => ?_)
      refine S_icmpne (pc := 43) (tgt := 48) dX2_isMemberOpen_43 (by decide) ?_ ?_
      · exact (S_lv (lv0 := [some (.ref r0), none, some (.ref r2), some (.int x_30), some (.int x_33)]) (And.intro rfl (And.intro rfl (And.intro rfl (And.intro rfl trivial)))) (sX2_isMemberOpen_48 r0 r2 x_30 x_33))
      · refine S_iconst (pc := 46) (v := (nI 1)) dX2_isMemberOpen_46 kI_1 ?_
        exact S_zret (pc := 47) ⟨rfl, rfl⟩ rfl rfl dX2_isMemberOpen_47
  · refine S_iconst (pc := 26) (v := (nI 1)) dX2_isMemberOpen_26 kI_1 ?_
    exact S_zret (pc := 27) ⟨rfl, rfl⟩ rfl rfl dX2_isMemberOpen_27
theorem ktX2_isMemberOpen (r0 : Nat) (v1 : Int32) (r2 : Nat) : Ct mX2_isMemberOpen rI [.ref r0, .int v1, .ref r2] (fX2_isMemberOpen r0 v1 r2) := Ct.of (z := 2) pn_X2 rfl rfl rfl (sX2_isMemberOpen r0 v1 r2)
def mX2_isInterface : MI := (yX2_isInterface, cX2_isInterface, 2, (some .boolean), { frames := 0, cells := 0, slots := 0, locals := 0 }, [])
theorem mw_X2_isInterface : MW mX2_isInterface 1 := ⟨w381, w3, ⟨by decide, by decide⟩, by decide +kernel⟩
theorem mv_X2_isInterface : MV mX2_isInterface 2 := ⟨_, rfl, w379, w380⟩
def fX2_isInterface  (r0 : Nat) (v1 : Int32) : AH → Option (Int32 × AH) := fun h =>
  (gI 2 r0 1 h).bind fun x_2 =>
  if ((x_2 >>> (v1 &&& 31)) &&& (nI 1)) = 0 then (
    rz (nI 0) (nI 0) h)
  else
  rz (nI 1) (nI 1) h
theorem sX2_isInterface  (r0 : Nat) (v1 : Int32) : Sm mX2_isInterface rI 0 0 0 [some (.ref r0), some (.int v1)] [] (fX2_isInterface r0 v1) := by
  unfold fX2_isInterface
  refine S_aload_n (pc := 0) dX2_isInterface_0 rfl ?_
  refine S_gI (pc := 1) fl_X2_15 rfl dX2_isInterface_1 (fun x_2 => ?_)
  refine S_iload_n (pc := 4) dX2_isInterface_4 rfl ?_
  refine S_ishr (pc := 5) dX2_isInterface_5 ?_
  refine S_iconst (pc := 6) (v := (nI 1)) dX2_isInterface_6 kI_1 ?_
  refine S_iand (pc := 7) dX2_isInterface_7 ?_
  refine S_ifeq (pc := 8) (tgt := 15) dX2_isInterface_8 (by decide) ?_ ?_
  · refine S_iconst (pc := 15) (v := (nI 0)) dX2_isInterface_15 kI_0 ?_
    exact S_zret (pc := 16) ⟨rfl, rfl⟩ rfl rfl dX2_isInterface_16
  · refine S_iconst (pc := 11) (v := (nI 1)) dX2_isInterface_11 kI_1 ?_
    refine S_goto (pc := 12) (tgt := 16) dX2_isInterface_12 (by decide) ?_
    exact S_zret (pc := 16) ⟨rfl, rfl⟩ rfl rfl dX2_isInterface_16
theorem ktX2_isInterface (r0 : Nat) (v1 : Int32) : Ct mX2_isInterface rI [.ref r0, .int v1] (fX2_isInterface r0 v1) := Ct.of (z := 0) pn_X2 rfl rfl rfl (sX2_isInterface r0 v1)
def mX2_isThere : MI := (yX2_isThere, cX2_isThere, 2, (some .boolean), { frames := 0, cells := 0, slots := 0, locals := 0 }, [])
theorem mw_X2_isThere : MW mX2_isThere 1 := ⟨w373, w3, ⟨by decide, by decide⟩, by decide +kernel⟩
theorem mv_X2_isThere : MV mX2_isThere 2 := ⟨_, rfl, w371, w372⟩
def fX2_isThere  (r0 : Nat) (v1 : Int32) : AH → Option (Int32 × AH) := fun h =>
  if v1 < 0 then (
    rz (nI 0) (nI 0) h)
  else
  if (nI 10) ≤ v1 then (
    rz (nI 0) (nI 0) h)
  else
  (gI 2 r0 0 h).bind fun x_2 =>
  if ((x_2 >>> (v1 &&& 31)) &&& (nI 1)) = 0 then (
    rz (nI 0) (nI 0) h)
  else
  rz (nI 1) (nI 1) h
theorem sX2_isThere  (r0 : Nat) (v1 : Int32) : Sm mX2_isThere rI 0 0 0 [some (.ref r0), some (.int v1)] [] (fX2_isThere r0 v1) := by
  unfold fX2_isThere
  refine S_iload_n (pc := 0) dX2_isThere_0 rfl ?_
  refine S_iflt (pc := 1) (tgt := 25) dX2_isThere_1 (by decide) ?_ ?_
  · refine S_iconst (pc := 25) (v := (nI 0)) dX2_isThere_25 kI_0 ?_
    exact S_zret (pc := 26) ⟨rfl, rfl⟩ rfl rfl dX2_isThere_26
  · refine S_iload_n (pc := 4) dX2_isThere_4 rfl ?_
    refine S_bipush (pc := 5) (v := (nI 10)) dX2_isThere_5 kB_10 ?_
    refine S_icmpge (pc := 7) (tgt := 25) dX2_isThere_7 (by decide) ?_ ?_
    · refine S_iconst (pc := 25) (v := (nI 0)) dX2_isThere_25 kI_0 ?_
      exact S_zret (pc := 26) ⟨rfl, rfl⟩ rfl rfl dX2_isThere_26
    · refine S_aload_n (pc := 10) dX2_isThere_10 rfl ?_
      refine S_gI (pc := 11) fl_X2_9 rfl dX2_isThere_11 (fun x_2 => ?_)
      refine S_iload_n (pc := 14) dX2_isThere_14 rfl ?_
      refine S_ishr (pc := 15) dX2_isThere_15 ?_
      refine S_iconst (pc := 16) (v := (nI 1)) dX2_isThere_16 kI_1 ?_
      refine S_iand (pc := 17) dX2_isThere_17 ?_
      refine S_ifeq (pc := 18) (tgt := 25) dX2_isThere_18 (by decide) ?_ ?_
      · refine S_iconst (pc := 25) (v := (nI 0)) dX2_isThere_25 kI_0 ?_
        exact S_zret (pc := 26) ⟨rfl, rfl⟩ rfl rfl dX2_isThere_26
      · refine S_iconst (pc := 21) (v := (nI 1)) dX2_isThere_21 kI_1 ?_
        refine S_goto (pc := 22) (tgt := 26) dX2_isThere_22 (by decide) ?_
        exact S_zret (pc := 26) ⟨rfl, rfl⟩ rfl rfl dX2_isThere_26
theorem ktX2_isThere (r0 : Nat) (v1 : Int32) : Ct mX2_isThere rI [.ref r0, .int v1] (fX2_isThere r0 v1) := Ct.of (z := 0) pn_X2 rfl rfl rfl (sX2_isThere r0 v1)
def mX2_isFinal : MI := (yX2_isFinal, cX2_isFinal, 2, (some .boolean), { frames := 0, cells := 0, slots := 0, locals := 0 }, [])
theorem mw_X2_isFinal : MW mX2_isFinal 1 := ⟨w512, w3, ⟨by decide, by decide⟩, by decide +kernel⟩
theorem mv_X2_isFinal : MV mX2_isFinal 2 := ⟨_, rfl, w510, w511⟩
def fX2_isFinal  (r0 : Nat) (v1 : Int32) : AH → Option (Int32 × AH) := fun h =>
  (gI 2 r0 3 h).bind fun x_2 =>
  if ((x_2 >>> (v1 &&& 31)) &&& (nI 1)) = 0 then (
    rz (nI 0) (nI 0) h)
  else
  rz (nI 1) (nI 1) h
theorem sX2_isFinal  (r0 : Nat) (v1 : Int32) : Sm mX2_isFinal rI 0 0 0 [some (.ref r0), some (.int v1)] [] (fX2_isFinal r0 v1) := by
  unfold fX2_isFinal
  refine S_aload_n (pc := 0) dX2_isFinal_0 rfl ?_
  refine S_gI (pc := 1) fl_X2_21 rfl dX2_isFinal_1 (fun x_2 => ?_)
  refine S_iload_n (pc := 4) dX2_isFinal_4 rfl ?_
  refine S_ishr (pc := 5) dX2_isFinal_5 ?_
  refine S_iconst (pc := 6) (v := (nI 1)) dX2_isFinal_6 kI_1 ?_
  refine S_iand (pc := 7) dX2_isFinal_7 ?_
  refine S_ifeq (pc := 8) (tgt := 15) dX2_isFinal_8 (by decide) ?_ ?_
  · refine S_iconst (pc := 15) (v := (nI 0)) dX2_isFinal_15 kI_0 ?_
    exact S_zret (pc := 16) ⟨rfl, rfl⟩ rfl rfl dX2_isFinal_16
  · refine S_iconst (pc := 11) (v := (nI 1)) dX2_isFinal_11 kI_1 ?_
    refine S_goto (pc := 12) (tgt := 16) dX2_isFinal_12 (by decide) ?_
    exact S_zret (pc := 16) ⟨rfl, rfl⟩ rfl rfl dX2_isFinal_16
theorem ktX2_isFinal (r0 : Nat) (v1 : Int32) : Ct mX2_isFinal rI [.ref r0, .int v1] (fX2_isFinal r0 v1) := Ct.of (z := 0) pn_X2 rfl rfl rfl (sX2_isFinal r0 v1)
def mX2_isClassOpen : MI := (yX2_isClassOpen, cX2_isClassOpen, 3, (some .boolean), { frames := 0, cells := 0, slots := 0, locals := 0 }, [])
theorem mw_X2_isClassOpen : MW mX2_isClassOpen 2 := ⟨w451, w3, ⟨by decide, by decide⟩, by decide +kernel⟩
theorem mv_X2_isClassOpen : MV mX2_isClassOpen 2 := ⟨_, rfl, w449, w450⟩
def fX2_isClassOpen  (r0 : Nat) (v1 : Int32) (v2 : Int32) : AH → Option (Int32 × AH) := fun h =>
  (gI 2 r0 2 h).bind fun x_4 =>
  if ((x_4 >>> (v1 &&& 31)) &&& (nI 1)) = 0 then (
    (gP 2 r0 5 h).bind fun a_5 =>
    (ldI a_5 v1 h).bind fun x_6 =>
    if x_6 = v2 then (
      rz (nI 1) (nI 1) h)
    else
    rz (nI 0) (nI 0) h)
  else
  rz (nI 1) (nI 1) h
theorem sX2_isClassOpen  (r0 : Nat) (v1 : Int32) (v2 : Int32) : Sm mX2_isClassOpen rI 0 0 0 [some (.ref r0), some (.int v1), some (.int v2)] [] (fX2_isClassOpen r0 v1 v2) := by
  unfold fX2_isClassOpen
  refine S_aload_n (pc := 0) dX2_isClassOpen_0 rfl ?_
  refine S_gI (pc := 1) fl_X2_18 rfl dX2_isClassOpen_1 (fun x_4 => ?_)
  refine S_iload_n (pc := 4) dX2_isClassOpen_4 rfl ?_
  refine S_ishr (pc := 5) dX2_isClassOpen_5 ?_
  refine S_iconst (pc := 6) (v := (nI 1)) dX2_isClassOpen_6 kI_1 ?_
  refine S_iand (pc := 7) dX2_isClassOpen_7 ?_
  refine S_ifne (pc := 8) (tgt := 21) dX2_isClassOpen_8 (by decide) ?_ ?_
  · refine S_iconst (pc := 21) (v := (nI 1)) dX2_isClassOpen_21 kI_1 ?_
    refine S_goto (pc := 22) (tgt := 26) dX2_isClassOpen_22 (by decide) ?_
    exact S_zret (pc := 26) ⟨rfl, rfl⟩ rfl rfl dX2_isClassOpen_26
  · refine S_aload_n (pc := 11) dX2_isClassOpen_11 rfl ?_
    refine S_gP (pc := 12) fl_X2_27 rfl dX2_isClassOpen_12 (fun a_5 => ?_)
    refine S_iload_n (pc := 15) dX2_isClassOpen_15 rfl ?_
    refine S_ldI (pc := 16) dX2_isClassOpen_16 (fun x_6 => ?_)
    refine S_iload_n (pc := 17) dX2_isClassOpen_17 rfl ?_
    refine S_icmpne (pc := 18) (tgt := 25) dX2_isClassOpen_18 (by decide) ?_ ?_
    · refine S_iconst (pc := 25) (v := (nI 0)) dX2_isClassOpen_25 kI_0 ?_
      exact S_zret (pc := 26) ⟨rfl, rfl⟩ rfl rfl dX2_isClassOpen_26
    · refine S_iconst (pc := 21) (v := (nI 1)) dX2_isClassOpen_21 kI_1 ?_
      refine S_goto (pc := 22) (tgt := 26) dX2_isClassOpen_22 (by decide) ?_
      exact S_zret (pc := 26) ⟨rfl, rfl⟩ rfl rfl dX2_isClassOpen_26
theorem ktX2_isClassOpen (r0 : Nat) (v1 : Int32) (v2 : Int32) : Ct mX2_isClassOpen rI [.ref r0, .int v1, .int v2] (fX2_isClassOpen r0 v1 v2) := Ct.of (z := 0) pn_X2 rfl rfl rfl (sX2_isClassOpen r0 v1 v2)
def mX2_inheritedField : MI := (yX2_inheritedField, cX2_inheritedField, 3, (some .int), { frames := 0, cells := 0, slots := 0, locals := 0 }, [])
theorem mw_X2_inheritedField : MW mX2_inheritedField 1 := ⟨w463, w3, ⟨by decide, by decide⟩, by decide +kernel⟩
theorem mv_X2_inheritedField : MV mX2_inheritedField 2 := ⟨_, rfl, w462, wp5⟩
def fX2_inheritedField_38 (k2 : Nat → Int32 → Int32 → AH → Option (Int32 × AH)) (r0 : Nat) (v1 : Int32) (v2 : Int32) : AH → Option (Int32 × AH) := fun h =>
  k2 r0 v1 (v2 + (nI 1)) h
def bX2_inheritedField_2  (k2 : Nat → Int32 → Int32 → AH → Option (Int32 × AH)) (r0 : Nat) (v1 : Int32) (v2 : Int32) : AH → Option (Int32 × AH) := fun h =>
  if v1 ≤ v2 then (
    (gP 2 r0 6 h).bind fun a_21 =>
    (ldI a_21 v1 h).bind fun x_22 =>
    if x_22 < 0 then (
      some ((-2 : Int32), h))
    else
    if v1 ≤ x_22 then (
      some ((-2 : Int32), h))
    else
    (gP 2 r0 11 h).bind fun a_23 =>
    (ldI a_23 x_22 h).bind fun x_24 =>
    some (x_24, h))
  else
  (gP 2 r0 7 h).bind fun a_25 =>
  (ldI a_25 v1 h).bind fun x_26 =>
  if ((x_26 >>> (v2 &&& 31)) &&& (nI 1)) = 0 then (
    fX2_inheritedField_38 k2 r0 v1 v2 h)
  else
  (gP 2 r0 11 h).bind fun a_27 =>
  (ldI a_27 v2 h).bind fun x_28 =>
  if x_28 = (-2 : Int32) then (
    fX2_inheritedField_38 k2 r0 v1 v2 h)
  else
  (gP 2 r0 11 h).bind fun a_29 =>
  (ldI a_29 v2 h).bind fun x_30 =>
  some (x_30, h)
def lX2_inheritedField_2  : Nat → Nat → Int32 → Int32 → AH → Option (Int32 × AH)
  | 0 => fun _ _ _ _ => none
  | n + 1 => bX2_inheritedField_2 (lX2_inheritedField_2 n)
def fX2_inheritedField  (r0 : Nat) (v1 : Int32) : AH → Option (Int32 × AH) := fun h =>
  lX2_inheritedField_2 fuel r0 v1 (nI 0) h
theorem sX2_inheritedField_38 {k2 : Nat → Int32 → Int32 → AH → Option (Int32 × AH)} (h2 : ∀ (r0 : Nat) (v1 : Int32) (v2 : Int32), Sm mX2_inheritedField rI 0 0 2 [some (.ref r0), some (.int v1), some (.int v2)] [] (k2 r0 v1 v2)) (r0 : Nat) (v1 : Int32) (v2 : Int32) : Sm mX2_inheritedField rI 0 0 38 [some (.ref r0), some (.int v1), some (.int v2)] [] (fX2_inheritedField_38 k2 r0 v1 v2) := by
  unfold fX2_inheritedField_38
  refine Z_iinc (pc := 38) (v := (nI 1)) (lv' := [some (.ref r0), some (.int v1), some (.int (v2 + (nI 1)))]) dX2_inheritedField_38 rfl kI_1 rfl rfl rfl ?_
  refine S_goto (pc := 41) (tgt := 2) dX2_inheritedField_41 (by decide) ?_
  exact (h2 r0 v1 (v2 + (nI 1)))
theorem sbX2_inheritedField_2  {k2 : Nat → Int32 → Int32 → AH → Option (Int32 × AH)} (h2 : ∀ (r0 : Nat) (v1 : Int32) (v2 : Int32), Sm mX2_inheritedField rI 0 0 2 [some (.ref r0), some (.int v1), some (.int v2)] [] (k2 r0 v1 v2)) (r0 : Nat) (v1 : Int32) (v2 : Int32) : Sm mX2_inheritedField rI 0 0 2 [some (.ref r0), some (.int v1), some (.int v2)] [] (bX2_inheritedField_2 k2 r0 v1 v2) := by
  unfold bX2_inheritedField_2
  refine S_iload_n (pc := 2) dX2_inheritedField_2 rfl ?_
  refine S_iload_n (pc := 3) dX2_inheritedField_3 rfl ?_
  refine S_icmpge (pc := 4) (tgt := 44) dX2_inheritedField_4 (by decide) ?_ ?_
  · refine S_aload_n (pc := 44) dX2_inheritedField_44 rfl ?_
    refine S_gP (pc := 45) fl_X2_31 rfl dX2_inheritedField_45 (fun a_21 => ?_)
    refine S_iload_n (pc := 48) dX2_inheritedField_48 rfl ?_
    refine S_ldI (pc := 49) dX2_inheritedField_49 (fun x_22 => ?_)
    refine Z_istore_n (pc := 50) (lv' := [some (.ref r0), some (.int v1), some (.int x_22)]) dX2_inheritedField_50 rfl rfl rfl ?_
    refine S_iload_n (pc := 51) dX2_inheritedField_51 rfl ?_
    refine S_iflt (pc := 52) (tgt := 69) dX2_inheritedField_52 (by decide) ?_ ?_
    · refine S_bipush (pc := 69) (v := (-2 : Int32)) dX2_inheritedField_69 kB_m2 ?_
      exact S_iret (pc := 71) ⟨rfl, rfl⟩ rfl rfl dX2_inheritedField_71
    · refine S_iload_n (pc := 55) dX2_inheritedField_55 rfl ?_
      refine S_iload_n (pc := 56) dX2_inheritedField_56 rfl ?_
      refine S_icmpge (pc := 57) (tgt := 69) dX2_inheritedField_57 (by decide) ?_ ?_
      · refine S_bipush (pc := 69) (v := (-2 : Int32)) dX2_inheritedField_69 kB_m2 ?_
        exact S_iret (pc := 71) ⟨rfl, rfl⟩ rfl rfl dX2_inheritedField_71
      · refine S_aload_n (pc := 60) dX2_inheritedField_60 rfl ?_
        refine S_gP (pc := 61) fl_X2_50 rfl dX2_inheritedField_61 (fun a_23 => ?_)
        refine S_iload_n (pc := 64) dX2_inheritedField_64 rfl ?_
        refine S_ldI (pc := 65) dX2_inheritedField_65 (fun x_24 => ?_)
        refine S_goto (pc := 66) (tgt := 71) dX2_inheritedField_66 (by decide) ?_
        exact S_iret (pc := 71) ⟨rfl, rfl⟩ rfl rfl dX2_inheritedField_71
  · refine S_aload_n (pc := 7) dX2_inheritedField_7 rfl ?_
    refine S_gP (pc := 8) fl_X2_34 rfl dX2_inheritedField_8 (fun a_25 => ?_)
    refine S_iload_n (pc := 11) dX2_inheritedField_11 rfl ?_
    refine S_ldI (pc := 12) dX2_inheritedField_12 (fun x_26 => ?_)
    refine S_iload_n (pc := 13) dX2_inheritedField_13 rfl ?_
    refine S_ishr (pc := 14) dX2_inheritedField_14 ?_
    refine S_iconst (pc := 15) (v := (nI 1)) dX2_inheritedField_15 kI_1 ?_
    refine S_iand (pc := 16) dX2_inheritedField_16 ?_
    refine S_ifeq (pc := 17) (tgt := 38) dX2_inheritedField_17 (by decide) ?_ ?_
    · exact (sX2_inheritedField_38 h2 r0 v1 v2)
    · refine S_aload_n (pc := 20) dX2_inheritedField_20 rfl ?_
      refine S_gP (pc := 21) fl_X2_50 rfl dX2_inheritedField_21 (fun a_27 => ?_)
      refine S_iload_n (pc := 24) dX2_inheritedField_24 rfl ?_
      refine S_ldI (pc := 25) dX2_inheritedField_25 (fun x_28 => ?_)
      refine S_bipush (pc := 26) (v := (-2 : Int32)) dX2_inheritedField_26 kB_m2 ?_
      refine S_icmpeq (pc := 28) (tgt := 38) dX2_inheritedField_28 (by decide) ?_ ?_
      · exact (sX2_inheritedField_38 h2 r0 v1 v2)
      · refine S_aload_n (pc := 31) dX2_inheritedField_31 rfl ?_
        refine S_gP (pc := 32) fl_X2_50 rfl dX2_inheritedField_32 (fun a_29 => ?_)
        refine S_iload_n (pc := 35) dX2_inheritedField_35 rfl ?_
        refine S_ldI (pc := 36) dX2_inheritedField_36 (fun x_30 => ?_)
        exact S_iret (pc := 37) ⟨rfl, rfl⟩ rfl rfl dX2_inheritedField_37
theorem sX2_inheritedField_2  : ∀ (n : Nat) (r0 : Nat) (v1 : Int32) (v2 : Int32), Sm mX2_inheritedField rI 0 0 2 [some (.ref r0), some (.int v1), some (.int v2)] [] (lX2_inheritedField_2 n r0 v1 v2)
  | 0, _, _, _ => S_none
  | n + 1, r0, v1, v2 => sbX2_inheritedField_2 (sX2_inheritedField_2 n) r0 v1 v2
theorem sX2_inheritedField  (r0 : Nat) (v1 : Int32) : Sm mX2_inheritedField rI 0 0 0 [some (.ref r0), some (.int v1), none] [] (fX2_inheritedField r0 v1) := by
  unfold fX2_inheritedField
  refine S_iconst (pc := 0) (v := (nI 0)) dX2_inheritedField_0 kI_0 ?_
  refine Z_istore_n (pc := 1) (lv' := [some (.ref r0), some (.int v1), some (.int (nI 0))]) dX2_inheritedField_1 rfl rfl rfl ?_
  exact (sX2_inheritedField_2 fuel r0 v1 (nI 0))
theorem ktX2_inheritedField (r0 : Nat) (v1 : Int32) : Ct mX2_inheritedField rI [.ref r0, .int v1] (fX2_inheritedField r0 v1) := Ct.of (z := 1) pn_X2 rfl rfl rfl (sX2_inheritedField r0 v1)
def mX2_fieldFor : MI := (yX2_fieldFor, cX2_fieldFor, 5, (some .int), { frames := 1, cells := 0, slots := 0, locals := 22 }, [])
theorem mw_X2_fieldFor : MW mX2_fieldFor 3 := ⟨w459, w3, ⟨by decide, by decide⟩, by decide +kernel⟩
theorem mv_X2_fieldFor : MV mX2_fieldFor 2 := ⟨_, rfl, w457, w458⟩
def fX2_fieldFor_104 (k28 : Nat → Int32 → Int32 → Int32 → Int32 → AH → Option (Int32 × AH)) (r0 : Nat) (v1 : Int32) (v2 : Int32) (v3 : Int32) (v4 : Int32) : AH → Option (Int32 × AH) := fun h =>
  k28 r0 v1 v2 v3 (v4 + (nI 1)) h
def fX2_fieldFor_87 (k28 : Nat → Int32 → Int32 → Int32 → Int32 → AH → Option (Int32 × AH)) (r0 : Nat) (v1 : Int32) (v2 : Int32) (v3 : Int32) (v4 : Int32) : AH → Option (Int32 × AH) := fun h =>
  (gP 2 r0 11 h).bind fun a_47 =>
  (gP 2 r0 10 h).bind fun a_48 =>
  (gP 4 a_48 5 h).bind fun a_49 =>
  (ldI a_49 v4 h).bind fun x_50 =>
  (stI a_47 x_50 v4 h).bind fun h =>
  fX2_fieldFor_104 k28 r0 v1 v2 v3 v4 h
def fX2_fieldFor_153 (k113 : Nat → Int32 → Int32 → AH → Option (Int32 × AH)) (r0 : Nat) (v1 : Int32) (v4 : Int32) : AH → Option (Int32 × AH) := fun h =>
  k113 r0 v1 (v4 + (nI 1)) h
def bX2_fieldFor_113  (k113 : Nat → Int32 → Int32 → AH → Option (Int32 × AH)) (r0 : Nat) (v1 : Int32) (v4 : Int32) : AH → Option (Int32 × AH) := fun h =>
  if v1 < v4 then (
    (gP 2 r0 11 h).bind fun a_51 =>
    (ldI a_51 v1 h).bind fun x_52 =>
    some (x_52, h))
  else
  (gP 2 r0 11 h).bind fun a_53 =>
  (ldI a_53 v4 h).bind fun x_54 =>
  if x_54 = (-2 : Int32) then (
    cv 2 r0 (fX2_isThere r0 v4) h fun x_55 h =>
    if x_55 = 0 then (
      fX2_fieldFor_153 k113 r0 v1 v4 h)
    else
    (gP 2 r0 11 h).bind fun a_56 =>
    cv 2 r0 (fX2_inheritedField r0 v4) h fun x_57 h =>
    (stI a_56 v4 x_57 h).bind fun h =>
    fX2_fieldFor_153 k113 r0 v1 v4 h)
  else
  fX2_fieldFor_153 k113 r0 v1 v4 h
def lX2_fieldFor_113  : Nat → Nat → Int32 → Int32 → AH → Option (Int32 × AH)
  | 0 => fun _ _ _ _ => none
  | n + 1 => bX2_fieldFor_113 (lX2_fieldFor_113 n)
def bX2_fieldFor_28  (k28 : Nat → Int32 → Int32 → Int32 → Int32 → AH → Option (Int32 × AH)) (r0 : Nat) (v1 : Int32) (v2 : Int32) (v3 : Int32) (v4 : Int32) : AH → Option (Int32 × AH) := fun h =>
  (gP 2 r0 10 h).bind fun a_58 =>
  (gI 4 a_58 0 h).bind fun x_59 =>
  if x_59 ≤ v4 then (
    lX2_fieldFor_113 fuel r0 v1 (nI 1) h)
  else
  (gP 2 r0 10 h).bind fun a_60 =>
  (gP 4 a_60 4 h).bind fun a_61 =>
  (ldI a_61 v4 h).bind fun x_62 =>
  if x_62 = 0 then (
    (gP 2 r0 10 h).bind fun a_63 =>
    (gP 4 a_63 6 h).bind fun a_64 =>
    (ldI a_64 v4 h).bind fun x_65 =>
    if x_65 = v2 then (
      if v3 = (-3 : Int32) then (
        fX2_fieldFor_87 k28 r0 v1 v2 v3 v4 h)
      else
      (gP 2 r0 10 h).bind fun a_66 =>
      (gP 4 a_66 7 h).bind fun a_67 =>
      (ldI a_67 v4 h).bind fun x_68 =>
      if x_68 = v3 then (
        fX2_fieldFor_87 k28 r0 v1 v2 v3 v4 h)
      else
      fX2_fieldFor_104 k28 r0 v1 v2 v3 v4 h)
    else
    fX2_fieldFor_104 k28 r0 v1 v2 v3 v4 h)
  else
  fX2_fieldFor_104 k28 r0 v1 v2 v3 v4 h
def lX2_fieldFor_28  : Nat → Nat → Int32 → Int32 → Int32 → Int32 → AH → Option (Int32 × AH)
  | 0 => fun _ _ _ _ _ _ => none
  | n + 1 => bX2_fieldFor_28 (lX2_fieldFor_28 n)
def bX2_fieldFor_3  (k3 : Nat → Int32 → Int32 → Int32 → Int32 → AH → Option (Int32 × AH)) (r0 : Nat) (v1 : Int32) (v2 : Int32) (v3 : Int32) (v4 : Int32) : AH → Option (Int32 × AH) := fun h =>
  if (nI 10) ≤ v4 then (
    lX2_fieldFor_28 fuel r0 v1 v2 v3 (nI 0) h)
  else
  (gP 2 r0 11 h).bind fun a_69 =>
  (stI a_69 v4 (-2 : Int32) h).bind fun h =>
  k3 r0 v1 v2 v3 (v4 + (nI 1)) h
def lX2_fieldFor_3  : Nat → Nat → Int32 → Int32 → Int32 → Int32 → AH → Option (Int32 × AH)
  | 0 => fun _ _ _ _ _ _ => none
  | n + 1 => bX2_fieldFor_3 (lX2_fieldFor_3 n)
def fX2_fieldFor  (r0 : Nat) (v1 : Int32) (v2 : Int32) (v3 : Int32) : AH → Option (Int32 × AH) := fun h =>
  lX2_fieldFor_3 fuel r0 v1 v2 v3 (nI 0) h
theorem sX2_fieldFor_104 {k28 : Nat → Int32 → Int32 → Int32 → Int32 → AH → Option (Int32 × AH)} (h28 : ∀ (r0 : Nat) (v1 : Int32) (v2 : Int32) (v3 : Int32) (v4 : Int32), Sm mX2_fieldFor rI 0 0 28 [some (.ref r0), some (.int v1), some (.int v2), some (.int v3), some (.int v4)] [] (k28 r0 v1 v2 v3 v4)) (r0 : Nat) (v1 : Int32) (v2 : Int32) (v3 : Int32) (v4 : Int32) : Sm mX2_fieldFor rI 0 0 104 [some (.ref r0), some (.int v1), some (.int v2), some (.int v3), some (.int v4)] [] (fX2_fieldFor_104 k28 r0 v1 v2 v3 v4) := by
  unfold fX2_fieldFor_104
  refine Z_iinc (pc := 104) (v := (nI 1)) (lv' := [some (.ref r0), some (.int v1), some (.int v2), some (.int v3), some (.int (v4 + (nI 1)))]) dX2_fieldFor_104 rfl kI_1 rfl rfl rfl ?_
  refine S_goto (pc := 107) (tgt := 28) dX2_fieldFor_107 (by decide) ?_
  exact (h28 r0 v1 v2 v3 (v4 + (nI 1)))
theorem sX2_fieldFor_87 {k28 : Nat → Int32 → Int32 → Int32 → Int32 → AH → Option (Int32 × AH)} (h28 : ∀ (r0 : Nat) (v1 : Int32) (v2 : Int32) (v3 : Int32) (v4 : Int32), Sm mX2_fieldFor rI 0 0 28 [some (.ref r0), some (.int v1), some (.int v2), some (.int v3), some (.int v4)] [] (k28 r0 v1 v2 v3 v4)) (r0 : Nat) (v1 : Int32) (v2 : Int32) (v3 : Int32) (v4 : Int32) : Sm mX2_fieldFor rI 0 0 87 [some (.ref r0), some (.int v1), some (.int v2), some (.int v3), some (.int v4)] [] (fX2_fieldFor_87 k28 r0 v1 v2 v3 v4) := by
  unfold fX2_fieldFor_87
  refine S_aload_n (pc := 87) dX2_fieldFor_87 rfl ?_
  refine S_gP (pc := 88) fl_X2_50 rfl dX2_fieldFor_88 (fun a_47 => ?_)
  refine S_aload_n (pc := 91) dX2_fieldFor_91 rfl ?_
  refine S_gP (pc := 92) fl_X2_46 rfl dX2_fieldFor_92 (fun a_48 => ?_)
  refine S_gP (pc := 95) fl_X2_117 rfl dX2_fieldFor_95 (fun a_49 => ?_)
  refine S_iload (pc := 98) dX2_fieldFor_98 rfl ?_
  refine S_ldI (pc := 100) dX2_fieldFor_100 (fun x_50 => ?_)
  refine S_iload (pc := 101) dX2_fieldFor_101 rfl ?_
  refine S_stI (pc := 103) dX2_fieldFor_103 ?_
  exact (sX2_fieldFor_104 h28 r0 v1 v2 v3 v4)
theorem sX2_fieldFor_153 {k113 : Nat → Int32 → Int32 → AH → Option (Int32 × AH)} (h113 : ∀ (r0 : Nat) (v1 : Int32) (v4 : Int32), Sm mX2_fieldFor rI 0 0 113 [some (.ref r0), some (.int v1), none, none, some (.int v4)] [] (k113 r0 v1 v4)) (r0 : Nat) (v1 : Int32) (v4 : Int32) : Sm mX2_fieldFor rI 0 0 153 [some (.ref r0), some (.int v1), none, none, some (.int v4)] [] (fX2_fieldFor_153 k113 r0 v1 v4) := by
  unfold fX2_fieldFor_153
  refine Z_iinc (pc := 153) (v := (nI 1)) (lv' := [some (.ref r0), some (.int v1), none, none, some (.int (v4 + (nI 1)))]) dX2_fieldFor_153 rfl kI_1 rfl rfl rfl ?_
  refine S_goto (pc := 156) (tgt := 113) dX2_fieldFor_156 (by decide) ?_
  exact (h113 r0 v1 (v4 + (nI 1)))
theorem sbX2_fieldFor_113  {k113 : Nat → Int32 → Int32 → AH → Option (Int32 × AH)} (h113 : ∀ (r0 : Nat) (v1 : Int32) (v4 : Int32), Sm mX2_fieldFor rI 0 0 113 [some (.ref r0), some (.int v1), none, none, some (.int v4)] [] (k113 r0 v1 v4)) (r0 : Nat) (v1 : Int32) (v4 : Int32) : Sm mX2_fieldFor rI 0 0 113 [some (.ref r0), some (.int v1), none, none, some (.int v4)] [] (bX2_fieldFor_113 k113 r0 v1 v4) := by
  unfold bX2_fieldFor_113
  refine S_iload (pc := 113) dX2_fieldFor_113 rfl ?_
  refine S_iload_n (pc := 115) dX2_fieldFor_115 rfl ?_
  refine S_icmpgt (pc := 116) (tgt := 159) dX2_fieldFor_116 (by decide) ?_ ?_
  · refine S_aload_n (pc := 159) dX2_fieldFor_159 rfl ?_
    refine S_gP (pc := 160) fl_X2_50 rfl dX2_fieldFor_160 (fun a_51 => ?_)
    refine S_iload_n (pc := 163) dX2_fieldFor_163 rfl ?_
    refine S_ldI (pc := 164) dX2_fieldFor_164 (fun x_52 => ?_)
    exact S_iret (pc := 165) ⟨rfl, rfl⟩ rfl rfl dX2_fieldFor_165
  · refine S_aload_n (pc := 119) dX2_fieldFor_119 rfl ?_
    refine S_gP (pc := 120) fl_X2_50 rfl dX2_fieldFor_120 (fun a_53 => ?_)
    refine S_iload (pc := 123) dX2_fieldFor_123 rfl ?_
    refine S_ldI (pc := 125) dX2_fieldFor_125 (fun x_54 => ?_)
    refine S_bipush (pc := 126) (v := (-2 : Int32)) dX2_fieldFor_126 kB_m2 ?_
    refine S_icmpne (pc := 128) (tgt := 153) dX2_fieldFor_128 (by decide) ?_ ?_
    · exact (sX2_fieldFor_153 h113 r0 v1 v4)
    · refine S_aload_n (pc := 131) dX2_fieldFor_131 rfl ?_
      refine S_iload (pc := 132) dX2_fieldFor_132 rfl ?_
      refine Y_Vi (pc := 134) (st := []) (kc' := 0) (ks' := 0) (ktX2_isThere r0 v4) mw_X2_isThere mv_X2_isThere w370 (RO.mk rfl rfl rfl rfl) rfl rfl rfl dX2_fieldFor_134 ⟨rfl, rfl⟩ (fun x_55 => ?_)
      refine S_ifeq (pc := 137) (tgt := 153) dX2_fieldFor_137 (by decide) ?_ ?_
      · exact (sX2_fieldFor_153 h113 r0 v1 v4)
      · refine S_aload_n (pc := 140) dX2_fieldFor_140 rfl ?_
        refine S_gP (pc := 141) fl_X2_50 rfl dX2_fieldFor_141 (fun a_56 => ?_)
        refine S_iload (pc := 144) dX2_fieldFor_144 rfl ?_
        refine S_aload_n (pc := 146) dX2_fieldFor_146 rfl ?_
        refine S_iload (pc := 147) dX2_fieldFor_147 rfl ?_
        refine Y_Vi (pc := 149) (st := [.int v4, .ref a_56]) (kc' := 0) (ks' := 0) (ktX2_inheritedField r0 v4) mw_X2_inheritedField mv_X2_inheritedField w460 (RO.mk rfl rfl rfl rfl) rfl rfl rfl dX2_fieldFor_149 ⟨rfl, rfl⟩ (fun x_57 => ?_)
        refine S_stI (pc := 152) dX2_fieldFor_152 ?_
        exact (sX2_fieldFor_153 h113 r0 v1 v4)
theorem sX2_fieldFor_113  : ∀ (n : Nat) (r0 : Nat) (v1 : Int32) (v4 : Int32), Sm mX2_fieldFor rI 0 0 113 [some (.ref r0), some (.int v1), none, none, some (.int v4)] [] (lX2_fieldFor_113 n r0 v1 v4)
  | 0, _, _, _ => S_none
  | n + 1, r0, v1, v4 => sbX2_fieldFor_113 (sX2_fieldFor_113 n) r0 v1 v4
theorem sbX2_fieldFor_28  {k28 : Nat → Int32 → Int32 → Int32 → Int32 → AH → Option (Int32 × AH)} (h28 : ∀ (r0 : Nat) (v1 : Int32) (v2 : Int32) (v3 : Int32) (v4 : Int32), Sm mX2_fieldFor rI 0 0 28 [some (.ref r0), some (.int v1), some (.int v2), some (.int v3), some (.int v4)] [] (k28 r0 v1 v2 v3 v4)) (r0 : Nat) (v1 : Int32) (v2 : Int32) (v3 : Int32) (v4 : Int32) : Sm mX2_fieldFor rI 0 0 28 [some (.ref r0), some (.int v1), some (.int v2), some (.int v3), some (.int v4)] [] (bX2_fieldFor_28 k28 r0 v1 v2 v3 v4) := by
  unfold bX2_fieldFor_28
  refine S_iload (pc := 28) dX2_fieldFor_28 rfl ?_
  refine S_aload_n (pc := 30) dX2_fieldFor_30 rfl ?_
  refine S_gP (pc := 31) fl_X2_46 rfl dX2_fieldFor_31 (fun a_58 => ?_)
  refine S_gI (pc := 34) fl_X2_53 rfl dX2_fieldFor_34 (fun x_59 => ?_)
  refine S_icmpge (pc := 37) (tgt := 110) dX2_fieldFor_37 (by decide) ?_ ?_
  · refine S_iconst (pc := 110) (v := (nI 1)) dX2_fieldFor_110 kI_1 ?_
    refine Z_istore (pc := 111) (lv' := [some (.ref r0), some (.int v1), some (.int v2), some (.int v3), some (.int (nI 1))]) dX2_fieldFor_111 rfl rfl rfl ?_
    exact (S_lv (lv0 := [some (.ref r0), some (.int v1), none, none, some (.int (nI 1))]) (And.intro rfl (And.intro rfl (And.intro rfl trivial))) (sX2_fieldFor_113 fuel r0 v1 (nI 1)))
  · refine S_aload_n (pc := 40) dX2_fieldFor_40 rfl ?_
    refine S_gP (pc := 41) fl_X2_46 rfl dX2_fieldFor_41 (fun a_60 => ?_)
    refine S_gP (pc := 44) fl_X2_101 rfl dX2_fieldFor_44 (fun a_61 => ?_)
    refine S_iload (pc := 47) dX2_fieldFor_47 rfl ?_
    refine S_ldI (pc := 49) dX2_fieldFor_49 (fun x_62 => ?_)
    refine S_ifne (pc := 50) (tgt := 104) dX2_fieldFor_50 (by decide) ?_ ?_
    · exact (sX2_fieldFor_104 h28 r0 v1 v2 v3 v4)
    · refine S_aload_n (pc := 53) dX2_fieldFor_53 rfl ?_
      refine S_gP (pc := 54) fl_X2_46 rfl dX2_fieldFor_54 (fun a_63 => ?_)
      refine S_gP (pc := 57) fl_X2_127 rfl dX2_fieldFor_57 (fun a_64 => ?_)
      refine S_iload (pc := 60) dX2_fieldFor_60 rfl ?_
      refine S_ldI (pc := 62) dX2_fieldFor_62 (fun x_65 => ?_)
      refine S_iload_n (pc := 63) dX2_fieldFor_63 rfl ?_
      refine S_icmpne (pc := 64) (tgt := 104) dX2_fieldFor_64 (by decide) ?_ ?_
      · exact (sX2_fieldFor_104 h28 r0 v1 v2 v3 v4)
      · refine S_iload_n (pc := 67) dX2_fieldFor_67 rfl ?_
        refine S_bipush (pc := 68) (v := (-3 : Int32)) dX2_fieldFor_68 kB_m3 ?_
        refine S_icmpeq (pc := 70) (tgt := 87) dX2_fieldFor_70 (by decide) ?_ ?_
        · exact (sX2_fieldFor_87 h28 r0 v1 v2 v3 v4)
        · refine S_aload_n (pc := 73) dX2_fieldFor_73 rfl ?_
          refine S_gP (pc := 74) fl_X2_46 rfl dX2_fieldFor_74 (fun a_66 => ?_)
          refine S_gP (pc := 77) fl_X2_130 rfl dX2_fieldFor_77 (fun a_67 => ?_)
          refine S_iload (pc := 80) dX2_fieldFor_80 rfl ?_
          refine S_ldI (pc := 82) dX2_fieldFor_82 (fun x_68 => ?_)
          refine S_iload_n (pc := 83) dX2_fieldFor_83 rfl ?_
          refine S_icmpne (pc := 84) (tgt := 104) dX2_fieldFor_84 (by decide) ?_ ?_
          · exact (sX2_fieldFor_104 h28 r0 v1 v2 v3 v4)
          · exact (sX2_fieldFor_87 h28 r0 v1 v2 v3 v4)
theorem sX2_fieldFor_28  : ∀ (n : Nat) (r0 : Nat) (v1 : Int32) (v2 : Int32) (v3 : Int32) (v4 : Int32), Sm mX2_fieldFor rI 0 0 28 [some (.ref r0), some (.int v1), some (.int v2), some (.int v3), some (.int v4)] [] (lX2_fieldFor_28 n r0 v1 v2 v3 v4)
  | 0, _, _, _, _, _ => S_none
  | n + 1, r0, v1, v2, v3, v4 => sbX2_fieldFor_28 (sX2_fieldFor_28 n) r0 v1 v2 v3 v4
theorem sbX2_fieldFor_3  {k3 : Nat → Int32 → Int32 → Int32 → Int32 → AH → Option (Int32 × AH)} (h3 : ∀ (r0 : Nat) (v1 : Int32) (v2 : Int32) (v3 : Int32) (v4 : Int32), Sm mX2_fieldFor rI 0 0 3 [some (.ref r0), some (.int v1), some (.int v2), some (.int v3), some (.int v4)] [] (k3 r0 v1 v2 v3 v4)) (r0 : Nat) (v1 : Int32) (v2 : Int32) (v3 : Int32) (v4 : Int32) : Sm mX2_fieldFor rI 0 0 3 [some (.ref r0), some (.int v1), some (.int v2), some (.int v3), some (.int v4)] [] (bX2_fieldFor_3 k3 r0 v1 v2 v3 v4) := by
  unfold bX2_fieldFor_3
  refine S_iload (pc := 3) dX2_fieldFor_3 rfl ?_
  refine S_bipush (pc := 5) (v := (nI 10)) dX2_fieldFor_5 kB_10 ?_
  refine S_icmpge (pc := 7) (tgt := 25) dX2_fieldFor_7 (by decide) ?_ ?_
  · refine S_iconst (pc := 25) (v := (nI 0)) dX2_fieldFor_25 kI_0 ?_
    refine Z_istore (pc := 26) (lv' := [some (.ref r0), some (.int v1), some (.int v2), some (.int v3), some (.int (nI 0))]) dX2_fieldFor_26 rfl rfl rfl ?_
    exact (sX2_fieldFor_28 fuel r0 v1 v2 v3 (nI 0))
  · refine S_aload_n (pc := 10) dX2_fieldFor_10 rfl ?_
    refine S_gP (pc := 11) fl_X2_50 rfl dX2_fieldFor_11 (fun a_69 => ?_)
    refine S_iload (pc := 14) dX2_fieldFor_14 rfl ?_
    refine S_bipush (pc := 16) (v := (-2 : Int32)) dX2_fieldFor_16 kB_m2 ?_
    refine S_stI (pc := 18) dX2_fieldFor_18 ?_
    refine Z_iinc (pc := 19) (v := (nI 1)) (lv' := [some (.ref r0), some (.int v1), some (.int v2), some (.int v3), some (.int (v4 + (nI 1)))]) dX2_fieldFor_19 rfl kI_1 rfl rfl rfl ?_
    refine S_goto (pc := 22) (tgt := 3) dX2_fieldFor_22 (by decide) ?_
    exact (h3 r0 v1 v2 v3 (v4 + (nI 1)))
theorem sX2_fieldFor_3  : ∀ (n : Nat) (r0 : Nat) (v1 : Int32) (v2 : Int32) (v3 : Int32) (v4 : Int32), Sm mX2_fieldFor rI 0 0 3 [some (.ref r0), some (.int v1), some (.int v2), some (.int v3), some (.int v4)] [] (lX2_fieldFor_3 n r0 v1 v2 v3 v4)
  | 0, _, _, _, _, _ => S_none
  | n + 1, r0, v1, v2, v3, v4 => sbX2_fieldFor_3 (sX2_fieldFor_3 n) r0 v1 v2 v3 v4
theorem sX2_fieldFor  (r0 : Nat) (v1 : Int32) (v2 : Int32) (v3 : Int32) : Sm mX2_fieldFor rI 0 0 0 [some (.ref r0), some (.int v1), some (.int v2), some (.int v3), none] [] (fX2_fieldFor r0 v1 v2 v3) := by
  unfold fX2_fieldFor
  refine S_iconst (pc := 0) (v := (nI 0)) dX2_fieldFor_0 kI_0 ?_
  refine Z_istore (pc := 1) (lv' := [some (.ref r0), some (.int v1), some (.int v2), some (.int v3), some (.int (nI 0))]) dX2_fieldFor_1 rfl rfl rfl ?_
  exact (sX2_fieldFor_3 fuel r0 v1 v2 v3 (nI 0))
theorem ktX2_fieldFor (r0 : Nat) (v1 : Int32) (v2 : Int32) (v3 : Int32) : Ct mX2_fieldFor rI [.ref r0, .int v1, .int v2, .int v3] (fX2_fieldFor r0 v1 v2 v3) := Ct.of (z := 1) pn_X2 rfl rfl rfl (sX2_fieldFor r0 v1 v2 v3)
def mX2_isAbstract : MI := (yX2_isAbstract, cX2_isAbstract, 2, (some .boolean), { frames := 0, cells := 0, slots := 0, locals := 0 }, [])
theorem mw_X2_isAbstract : MW mX2_isAbstract 1 := ⟨w504, w3, ⟨by decide, by decide⟩, by decide +kernel⟩
theorem mv_X2_isAbstract : MV mX2_isAbstract 2 := ⟨_, rfl, w502, w503⟩
def fX2_isAbstract  (r0 : Nat) (v1 : Int32) : AH → Option (Int32 × AH) := fun h =>
  (gI 2 r0 4 h).bind fun x_2 =>
  if ((x_2 >>> (v1 &&& 31)) &&& (nI 1)) = 0 then (
    rz (nI 0) (nI 0) h)
  else
  rz (nI 1) (nI 1) h
theorem sX2_isAbstract  (r0 : Nat) (v1 : Int32) : Sm mX2_isAbstract rI 0 0 0 [some (.ref r0), some (.int v1)] [] (fX2_isAbstract r0 v1) := by
  unfold fX2_isAbstract
  refine S_aload_n (pc := 0) dX2_isAbstract_0 rfl ?_
  refine S_gI (pc := 1) fl_X2_24 rfl dX2_isAbstract_1 (fun x_2 => ?_)
  refine S_iload_n (pc := 4) dX2_isAbstract_4 rfl ?_
  refine S_ishr (pc := 5) dX2_isAbstract_5 ?_
  refine S_iconst (pc := 6) (v := (nI 1)) dX2_isAbstract_6 kI_1 ?_
  refine S_iand (pc := 7) dX2_isAbstract_7 ?_
  refine S_ifeq (pc := 8) (tgt := 15) dX2_isAbstract_8 (by decide) ?_ ?_
  · refine S_iconst (pc := 15) (v := (nI 0)) dX2_isAbstract_15 kI_0 ?_
    exact S_zret (pc := 16) ⟨rfl, rfl⟩ rfl rfl dX2_isAbstract_16
  · refine S_iconst (pc := 11) (v := (nI 1)) dX2_isAbstract_11 kI_1 ?_
    refine S_goto (pc := 12) (tgt := 16) dX2_isAbstract_12 (by decide) ?_
    exact S_zret (pc := 16) ⟨rfl, rfl⟩ rfl rfl dX2_isAbstract_16
theorem ktX2_isAbstract (r0 : Nat) (v1 : Int32) : Ct mX2_isAbstract rI [.ref r0, .int v1] (fX2_isAbstract r0 v1) := Ct.of (z := 0) pn_X2 rfl rfl rfl (sX2_isAbstract r0 v1)
def mX2_interfaceMethod : MI := (yX2_interfaceMethod, cX2_interfaceMethod, 13, (some .int), { frames := 0, cells := 0, slots := 0, locals := 0 }, [])
theorem mw_X2_interfaceMethod : MW mX2_interfaceMethod 3 := ⟨w525, w3, ⟨by decide, by decide⟩, by decide +kernel⟩
theorem mv_X2_interfaceMethod : MV mX2_interfaceMethod 2 := ⟨_, rfl, w524, wp13⟩
def fX2_interfaceMethod_112 (k9 : Nat → Int32 → Int32 → Int32 → Int32 → Int32 → Int32 → AH → Option (Int32 × AH)) (r0 : Nat) (v1 : Int32) (v2 : Int32) (v3 : Int32) (v4 : Int32) (v5 : Int32) (v6 : Int32) : AH → Option (Int32 × AH) := fun h =>
  k9 r0 v1 v2 v3 v4 v5 (v6 + (nI 1)) h
def fX2_interfaceMethod_230 (k145 : Nat → Int32 → Int32 → Int32 → Int32 → Int32 → Int32 → Int32 → Int32 → AH → Option (Int32 × AH)) (r0 : Nat) (v1 : Int32) (v3 : Int32) (v6 : Int32) (v7 : Int32) (v8 : Int32) (v9 : Int32) (v10 : Int32) (v11 : Int32) : AH → Option (Int32 × AH) := fun h =>
  k145 r0 v1 v3 v6 v7 v8 v9 v10 (v11 + (nI 1)) h
def fX2_interfaceMethod_208 (k145 : Nat → Int32 → Int32 → Int32 → Int32 → Int32 → Int32 → Int32 → Int32 → AH → Option (Int32 × AH)) (r0 : Nat) (v1 : Int32) (v3 : Int32) (v6 : Int32) (v7 : Int32) (v8 : Int32) (v9 : Int32) (v10 : Int32) (v11 : Int32) : AH → Option (Int32 × AH) := fun h =>
  (gP 2 r0 10 h).bind fun a_55 =>
  (gP 4 a_55 2 h).bind fun a_56 =>
  (ldI a_56 v11 h).bind fun x_57 =>
  if (x_57 &&& (nI 4)) = 0 then (
    fX2_interfaceMethod_230 k145 r0 v1 v3 v6 v7 v8 v11 (v10 + (nI 1)) v11 h)
  else
  fX2_interfaceMethod_230 k145 r0 v1 v3 v6 v7 v8 v9 v10 v11 h
def bX2_interfaceMethod_145  (k145 : Nat → Int32 → Int32 → Int32 → Int32 → Int32 → Int32 → Int32 → Int32 → AH → Option (Int32 × AH)) (r0 : Nat) (v1 : Int32) (v3 : Int32) (v6 : Int32) (v7 : Int32) (v8 : Int32) (v9 : Int32) (v10 : Int32) (v11 : Int32) : AH → Option (Int32 × AH) := fun h =>
  (gP 2 r0 10 h).bind fun a_58 =>
  (gI 4 a_58 0 h).bind fun x_59 =>
  if x_59 ≤ v11 then (
    if v10 = (nI 1) then (
      some (v9, h))
    else
    if v3 = 0 then (
      some ((-2 : Int32), h))
    else
    some (v7, h))
  else
  (gP 2 r0 10 h).bind fun a_60 =>
  (gP 4 a_60 5 h).bind fun a_61 =>
  (ldI a_61 v11 h).bind fun x_62 =>
  (gP 2 r0 10 h).bind fun a_63 =>
  (gP 4 a_63 12 h).bind fun a_64 =>
  (ldI a_64 v11 h).bind fun x_65 =>
  if x_65 = v1 then (
    if ((v6 >>> (x_62 &&& 31)) &&& (nI 1)) = 0 then (
      fX2_interfaceMethod_230 k145 r0 v1 v3 v6 v7 v8 v9 v10 v11 h)
    else
    if v8 ≤ x_62 then (
      fX2_interfaceMethod_208 k145 r0 v1 v3 v6 v7 v8 v9 v10 v11 h)
    else
    fX2_interfaceMethod_208 k145 r0 v1 v3 v6 v11 x_62 v9 v10 v11 h)
  else
  fX2_interfaceMethod_230 k145 r0 v1 v3 v6 v7 v8 v9 v10 v11 h
def lX2_interfaceMethod_145  : Nat → Nat → Int32 → Int32 → Int32 → Int32 → Int32 → Int32 → Int32 → Int32 → AH → Option (Int32 × AH)
  | 0 => fun _ _ _ _ _ _ _ _ _ _ => none
  | n + 1 => bX2_interfaceMethod_145 (lX2_interfaceMethod_145 n)
def bX2_interfaceMethod_9  (k9 : Nat → Int32 → Int32 → Int32 → Int32 → Int32 → Int32 → AH → Option (Int32 × AH)) (r0 : Nat) (v1 : Int32) (v2 : Int32) (v3 : Int32) (v4 : Int32) (v5 : Int32) (v6 : Int32) : AH → Option (Int32 × AH) := fun h =>
  (gP 2 r0 10 h).bind fun a_66 =>
  (gI 4 a_66 0 h).bind fun x_67 =>
  if x_67 ≤ v6 then (
    lX2_interfaceMethod_145 fuel r0 v1 v3 (v4 &&& (v5 ^^^ (-1 : Int32))) (-2 : Int32) (nI 10) (-2 : Int32) (nI 0) (nI 0) h)
  else
  (gP 2 r0 10 h).bind fun a_68 =>
  (gP 4 a_68 5 h).bind fun a_69 =>
  (ldI a_69 v6 h).bind fun x_70 =>
  (gP 2 r0 10 h).bind fun a_71 =>
  (gP 4 a_71 12 h).bind fun a_72 =>
  (ldI a_72 v6 h).bind fun x_73 =>
  if x_73 = v1 then (
    if ((v2 >>> (x_70 &&& 31)) &&& (nI 1)) = 0 then (
      fX2_interfaceMethod_112 k9 r0 v1 v2 v3 v4 v5 v6 h)
    else
    (gP 2 r0 10 h).bind fun a_74 =>
    (gP 4 a_74 1 h).bind fun a_75 =>
    (ldI a_75 v6 h).bind fun x_76 =>
    if x_76 = 0 then (
      fX2_interfaceMethod_112 k9 r0 v1 v2 v3 v4 v5 v6 h)
    else
    (gP 2 r0 10 h).bind fun a_77 =>
    (gP 4 a_77 2 h).bind fun a_78 =>
    (ldI a_78 v6 h).bind fun x_79 =>
    if (x_79 &&& (nI 1)) = 0 then (
      (gP 2 r0 8 h).bind fun a_80 =>
      (ldI a_80 x_70 h).bind fun x_81 =>
      fX2_interfaceMethod_112 k9 r0 v1 v2 v3 (v4 ||| ((nI 1) <<< (x_70 &&& 31))) (v5 ||| (x_81 &&& (((nI 1) <<< (x_70 &&& 31)) ^^^ (-1 : Int32)))) v6 h)
    else
    fX2_interfaceMethod_112 k9 r0 v1 v2 v3 v4 v5 v6 h)
  else
  fX2_interfaceMethod_112 k9 r0 v1 v2 v3 v4 v5 v6 h
def lX2_interfaceMethod_9  : Nat → Nat → Int32 → Int32 → Int32 → Int32 → Int32 → Int32 → AH → Option (Int32 × AH)
  | 0 => fun _ _ _ _ _ _ _ _ => none
  | n + 1 => bX2_interfaceMethod_9 (lX2_interfaceMethod_9 n)
def fX2_interfaceMethod  (r0 : Nat) (v1 : Int32) (v2 : Int32) (v3 : Int32) : AH → Option (Int32 × AH) := fun h =>
  lX2_interfaceMethod_9 fuel r0 v1 v2 v3 (nI 0) (nI 0) (nI 0) h
theorem sX2_interfaceMethod_112 {k9 : Nat → Int32 → Int32 → Int32 → Int32 → Int32 → Int32 → AH → Option (Int32 × AH)} (h9 : ∀ (r0 : Nat) (v1 : Int32) (v2 : Int32) (v3 : Int32) (v4 : Int32) (v5 : Int32) (v6 : Int32), Sm mX2_interfaceMethod rI 0 0 9 [some (.ref r0), some (.int v1), some (.int v2), some (.int v3), some (.int v4), some (.int v5), some (.int v6), none, none, none, none, none, none] [] (k9 r0 v1 v2 v3 v4 v5 v6)) (r0 : Nat) (v1 : Int32) (v2 : Int32) (v3 : Int32) (v4 : Int32) (v5 : Int32) (v6 : Int32) : Sm mX2_interfaceMethod rI 0 0 112 [some (.ref r0), some (.int v1), some (.int v2), some (.int v3), some (.int v4), some (.int v5), some (.int v6), none, none, none, none, none, none] [] (fX2_interfaceMethod_112 k9 r0 v1 v2 v3 v4 v5 v6) := by
  unfold fX2_interfaceMethod_112
  refine Z_iinc (pc := 112) (v := (nI 1)) (lv' := [some (.ref r0), some (.int v1), some (.int v2), some (.int v3), some (.int v4), some (.int v5), some (.int (v6 + (nI 1))), none, none, none, none, none, none]) dX2_interfaceMethod_112 rfl kI_1 rfl rfl rfl ?_
  refine S_goto (pc := 115) (tgt := 9) dX2_interfaceMethod_115 (by decide) ?_
  exact (h9 r0 v1 v2 v3 v4 v5 (v6 + (nI 1)))
theorem sX2_interfaceMethod_230 {k145 : Nat → Int32 → Int32 → Int32 → Int32 → Int32 → Int32 → Int32 → Int32 → AH → Option (Int32 × AH)} (h145 : ∀ (r0 : Nat) (v1 : Int32) (v3 : Int32) (v6 : Int32) (v7 : Int32) (v8 : Int32) (v9 : Int32) (v10 : Int32) (v11 : Int32), Sm mX2_interfaceMethod rI 0 0 145 [some (.ref r0), some (.int v1), none, some (.int v3), none, none, some (.int v6), some (.int v7), some (.int v8), some (.int v9), some (.int v10), some (.int v11), none] [] (k145 r0 v1 v3 v6 v7 v8 v9 v10 v11)) (r0 : Nat) (v1 : Int32) (v3 : Int32) (v6 : Int32) (v7 : Int32) (v8 : Int32) (v9 : Int32) (v10 : Int32) (v11 : Int32) : Sm mX2_interfaceMethod rI 0 0 230 [some (.ref r0), some (.int v1), none, some (.int v3), none, none, some (.int v6), some (.int v7), some (.int v8), some (.int v9), some (.int v10), some (.int v11), none] [] (fX2_interfaceMethod_230 k145 r0 v1 v3 v6 v7 v8 v9 v10 v11) := by
  unfold fX2_interfaceMethod_230
  refine Z_iinc (pc := 230) (v := (nI 1)) (lv' := [some (.ref r0), some (.int v1), none, some (.int v3), none, none, some (.int v6), some (.int v7), some (.int v8), some (.int v9), some (.int v10), some (.int (v11 + (nI 1))), none]) dX2_interfaceMethod_230 rfl kI_1 rfl rfl rfl ?_
  refine S_goto (pc := 233) (tgt := 145) dX2_interfaceMethod_233 (by decide) ?_
  exact (h145 r0 v1 v3 v6 v7 v8 v9 v10 (v11 + (nI 1)))
theorem sX2_interfaceMethod_208 {k145 : Nat → Int32 → Int32 → Int32 → Int32 → Int32 → Int32 → Int32 → Int32 → AH → Option (Int32 × AH)} (h145 : ∀ (r0 : Nat) (v1 : Int32) (v3 : Int32) (v6 : Int32) (v7 : Int32) (v8 : Int32) (v9 : Int32) (v10 : Int32) (v11 : Int32), Sm mX2_interfaceMethod rI 0 0 145 [some (.ref r0), some (.int v1), none, some (.int v3), none, none, some (.int v6), some (.int v7), some (.int v8), some (.int v9), some (.int v10), some (.int v11), none] [] (k145 r0 v1 v3 v6 v7 v8 v9 v10 v11)) (r0 : Nat) (v1 : Int32) (v3 : Int32) (v6 : Int32) (v7 : Int32) (v8 : Int32) (v9 : Int32) (v10 : Int32) (v11 : Int32) : Sm mX2_interfaceMethod rI 0 0 208 [some (.ref r0), some (.int v1), none, some (.int v3), none, none, some (.int v6), some (.int v7), some (.int v8), some (.int v9), some (.int v10), some (.int v11), none] [] (fX2_interfaceMethod_208 k145 r0 v1 v3 v6 v7 v8 v9 v10 v11) := by
  unfold fX2_interfaceMethod_208
  refine S_aload_n (pc := 208) dX2_interfaceMethod_208 rfl ?_
  refine S_gP (pc := 209) fl_X2_46 rfl dX2_interfaceMethod_209 (fun a_55 => ?_)
  refine S_gP (pc := 212) fl_X2_107 rfl dX2_interfaceMethod_212 (fun a_56 => ?_)
  refine S_iload (pc := 215) dX2_interfaceMethod_215 rfl ?_
  refine S_ldI (pc := 217) dX2_interfaceMethod_217 (fun x_57 => ?_)
  refine S_iconst (pc := 218) (v := (nI 4)) dX2_interfaceMethod_218 kI_4 ?_
  refine S_iand (pc := 219) dX2_interfaceMethod_219 ?_
  refine S_ifne (pc := 220) (tgt := 230) dX2_interfaceMethod_220 (by decide) ?_ ?_
  · exact (sX2_interfaceMethod_230 h145 r0 v1 v3 v6 v7 v8 v9 v10 v11)
  · refine S_iload (pc := 223) dX2_interfaceMethod_223 rfl ?_
    refine Z_istore (pc := 225) (lv' := [some (.ref r0), some (.int v1), none, some (.int v3), none, none, some (.int v6), some (.int v7), some (.int v8), some (.int v11), some (.int v10), some (.int v11), none]) dX2_interfaceMethod_225 rfl rfl rfl ?_
    refine Z_iinc (pc := 227) (v := (nI 1)) (lv' := [some (.ref r0), some (.int v1), none, some (.int v3), none, none, some (.int v6), some (.int v7), some (.int v8), some (.int v11), some (.int (v10 + (nI 1))), some (.int v11), none]) dX2_interfaceMethod_227 rfl kI_1 rfl rfl rfl ?_
    exact (sX2_interfaceMethod_230 h145 r0 v1 v3 v6 v7 v8 v11 (v10 + (nI 1)) v11)
theorem sbX2_interfaceMethod_145  {k145 : Nat → Int32 → Int32 → Int32 → Int32 → Int32 → Int32 → Int32 → Int32 → AH → Option (Int32 × AH)} (h145 : ∀ (r0 : Nat) (v1 : Int32) (v3 : Int32) (v6 : Int32) (v7 : Int32) (v8 : Int32) (v9 : Int32) (v10 : Int32) (v11 : Int32), Sm mX2_interfaceMethod rI 0 0 145 [some (.ref r0), some (.int v1), none, some (.int v3), none, none, some (.int v6), some (.int v7), some (.int v8), some (.int v9), some (.int v10), some (.int v11), none] [] (k145 r0 v1 v3 v6 v7 v8 v9 v10 v11)) (r0 : Nat) (v1 : Int32) (v3 : Int32) (v6 : Int32) (v7 : Int32) (v8 : Int32) (v9 : Int32) (v10 : Int32) (v11 : Int32) : Sm mX2_interfaceMethod rI 0 0 145 [some (.ref r0), some (.int v1), none, some (.int v3), none, none, some (.int v6), some (.int v7), some (.int v8), some (.int v9), some (.int v10), some (.int v11), none] [] (bX2_interfaceMethod_145 k145 r0 v1 v3 v6 v7 v8 v9 v10 v11) := by
  unfold bX2_interfaceMethod_145
  refine S_iload (pc := 145) dX2_interfaceMethod_145 rfl ?_
  refine S_aload_n (pc := 147) dX2_interfaceMethod_147 rfl ?_
  refine S_gP (pc := 148) fl_X2_46 rfl dX2_interfaceMethod_148 (fun a_58 => ?_)
  refine S_gI (pc := 151) fl_X2_53 rfl dX2_interfaceMethod_151 (fun x_59 => ?_)
  refine S_icmpge (pc := 154) (tgt := 236) dX2_interfaceMethod_154 (by decide) ?_ ?_
  · refine S_iload (pc := 236) dX2_interfaceMethod_236 rfl ?_
    refine S_iconst (pc := 238) (v := (nI 1)) dX2_interfaceMethod_238 kI_1 ?_
    refine S_icmpne (pc := 239) (tgt := 245) dX2_interfaceMethod_239 (by decide) ?_ ?_
    · refine S_iload_n (pc := 245) dX2_interfaceMethod_245 rfl ?_
      refine S_ifeq (pc := 246) (tgt := 254) dX2_interfaceMethod_246 (by decide) ?_ ?_
      · refine S_bipush (pc := 254) (v := (-2 : Int32)) dX2_interfaceMethod_254 kB_m2 ?_
        exact S_iret (pc := 256) ⟨rfl, rfl⟩ rfl rfl dX2_interfaceMethod_256
      · refine S_iload (pc := 249) dX2_interfaceMethod_249 rfl ?_
        refine S_goto (pc := 251) (tgt := 256) dX2_interfaceMethod_251 (by decide) ?_
        exact S_iret (pc := 256) ⟨rfl, rfl⟩ rfl rfl dX2_interfaceMethod_256
    · refine S_iload (pc := 242) dX2_interfaceMethod_242 rfl ?_
      exact S_iret (pc := 244) ⟨rfl, rfl⟩ rfl rfl dX2_interfaceMethod_244
  · refine S_aload_n (pc := 157) dX2_interfaceMethod_157 rfl ?_
    refine S_gP (pc := 158) fl_X2_46 rfl dX2_interfaceMethod_158 (fun a_60 => ?_)
    refine S_gP (pc := 161) fl_X2_117 rfl dX2_interfaceMethod_161 (fun a_61 => ?_)
    refine S_iload (pc := 164) dX2_interfaceMethod_164 rfl ?_
    refine S_ldI (pc := 166) dX2_interfaceMethod_166 (fun x_62 => ?_)
    refine Z_istore (pc := 167) (lv' := [some (.ref r0), some (.int v1), none, some (.int v3), none, none, some (.int v6), some (.int v7), some (.int v8), some (.int v9), some (.int v10), some (.int v11), some (.int x_62)]) dX2_interfaceMethod_167 rfl rfl rfl ?_
    refine S_aload_n (pc := 169) dX2_interfaceMethod_169 rfl ?_
    refine S_gP (pc := 170) fl_X2_46 rfl dX2_interfaceMethod_170 (fun a_63 => ?_)
    refine S_gP (pc := 173) fl_X2_136 rfl dX2_interfaceMethod_173 (fun a_64 => ?_)
    refine S_iload (pc := 176) dX2_interfaceMethod_176 rfl ?_
    refine S_ldI (pc := 178) dX2_interfaceMethod_178 (fun x_65 => ?_)
    refine S_iload_n (pc := 179) dX2_interfaceMethod_179 rfl ?_
    refine S_icmpne (pc := 180) (tgt := 230) dX2_interfaceMethod_180 (by decide) ?_ ?_
    · exact (S_lv (lv0 := [some (.ref r0), some (.int v1), none, some (.int v3), none, none, some (.int v6), some (.int v7), some (.int v8), some (.int v9), some (.int v10), some (.int v11), none]) (And.intro rfl (And.intro rfl (And.intro rfl (And.intro rfl (And.intro rfl (And.intro rfl (And.intro rfl (And.intro rfl (And.intro rfl trivial))))))))) (sX2_interfaceMethod_230 h145 r0 v1 v3 v6 v7 v8 v9 v10 v11))
    · refine S_iload (pc := 183) dX2_interfaceMethod_183 rfl ?_
      refine S_iload (pc := 185) dX2_interfaceMethod_185 rfl ?_
      refine S_ishr (pc := 187) dX2_interfaceMethod_187 ?_
      refine S_iconst (pc := 188) (v := (nI 1)) dX2_interfaceMethod_188 kI_1 ?_
      refine S_iand (pc := 189) dX2_interfaceMethod_189 ?_
      refine S_ifeq (pc := 190) (tgt := 230) dX2_interfaceMethod_190 (by decide) ?_ ?_
      · exact (S_lv (lv0 := [some (.ref r0), some (.int v1), none, some (.int v3), none, none, some (.int v6), some (.int v7), some (.int v8), some (.int v9), some (.int v10), some (.int v11), none]) (And.intro rfl (And.intro rfl (And.intro rfl (And.intro rfl (And.intro rfl (And.intro rfl (And.intro rfl (And.intro rfl (And.intro rfl trivial))))))))) (sX2_interfaceMethod_230 h145 r0 v1 v3 v6 v7 v8 v9 v10 v11))
      · refine S_iload (pc := 193) dX2_interfaceMethod_193 rfl ?_
        refine S_iload (pc := 195) dX2_interfaceMethod_195 rfl ?_
        refine S_icmpge (pc := 197) (tgt := 208) dX2_interfaceMethod_197 (by decide) ?_ ?_
        · exact (S_lv (lv0 := [some (.ref r0), some (.int v1), none, some (.int v3), none, none, some (.int v6), some (.int v7), some (.int v8), some (.int v9), some (.int v10), some (.int v11), none]) (And.intro rfl (And.intro rfl (And.intro rfl (And.intro rfl (And.intro rfl (And.intro rfl (And.intro rfl (And.intro rfl (And.intro rfl trivial))))))))) (sX2_interfaceMethod_208 h145 r0 v1 v3 v6 v7 v8 v9 v10 v11))
        · refine S_iload (pc := 200) dX2_interfaceMethod_200 rfl ?_
          refine Z_istore (pc := 202) (lv' := [some (.ref r0), some (.int v1), none, some (.int v3), none, none, some (.int v6), some (.int v11), some (.int v8), some (.int v9), some (.int v10), some (.int v11), some (.int x_62)]) dX2_interfaceMethod_202 rfl rfl rfl ?_
          refine S_iload (pc := 204) dX2_interfaceMethod_204 rfl ?_
          refine Z_istore (pc := 206) (lv' := [some (.ref r0), some (.int v1), none, some (.int v3), none, none, some (.int v6), some (.int v11), some (.int x_62), some (.int v9), some (.int v10), some (.int v11), some (.int x_62)]) dX2_interfaceMethod_206 rfl rfl rfl ?_
          exact (S_lv (lv0 := [some (.ref r0), some (.int v1), none, some (.int v3), none, none, some (.int v6), some (.int v11), some (.int x_62), some (.int v9), some (.int v10), some (.int v11), none]) (And.intro rfl (And.intro rfl (And.intro rfl (And.intro rfl (And.intro rfl (And.intro rfl (And.intro rfl (And.intro rfl (And.intro rfl trivial))))))))) (sX2_interfaceMethod_208 h145 r0 v1 v3 v6 v11 x_62 v9 v10 v11))
theorem sX2_interfaceMethod_145  : ∀ (n : Nat) (r0 : Nat) (v1 : Int32) (v3 : Int32) (v6 : Int32) (v7 : Int32) (v8 : Int32) (v9 : Int32) (v10 : Int32) (v11 : Int32), Sm mX2_interfaceMethod rI 0 0 145 [some (.ref r0), some (.int v1), none, some (.int v3), none, none, some (.int v6), some (.int v7), some (.int v8), some (.int v9), some (.int v10), some (.int v11), none] [] (lX2_interfaceMethod_145 n r0 v1 v3 v6 v7 v8 v9 v10 v11)
  | 0, _, _, _, _, _, _, _, _, _ => S_none
  | n + 1, r0, v1, v3, v6, v7, v8, v9, v10, v11 => sbX2_interfaceMethod_145 (sX2_interfaceMethod_145 n) r0 v1 v3 v6 v7 v8 v9 v10 v11
theorem sbX2_interfaceMethod_9  {k9 : Nat → Int32 → Int32 → Int32 → Int32 → Int32 → Int32 → AH → Option (Int32 × AH)} (h9 : ∀ (r0 : Nat) (v1 : Int32) (v2 : Int32) (v3 : Int32) (v4 : Int32) (v5 : Int32) (v6 : Int32), Sm mX2_interfaceMethod rI 0 0 9 [some (.ref r0), some (.int v1), some (.int v2), some (.int v3), some (.int v4), some (.int v5), some (.int v6), none, none, none, none, none, none] [] (k9 r0 v1 v2 v3 v4 v5 v6)) (r0 : Nat) (v1 : Int32) (v2 : Int32) (v3 : Int32) (v4 : Int32) (v5 : Int32) (v6 : Int32) : Sm mX2_interfaceMethod rI 0 0 9 [some (.ref r0), some (.int v1), some (.int v2), some (.int v3), some (.int v4), some (.int v5), some (.int v6), none, none, none, none, none, none] [] (bX2_interfaceMethod_9 k9 r0 v1 v2 v3 v4 v5 v6) := by
  unfold bX2_interfaceMethod_9
  refine S_iload (pc := 9) dX2_interfaceMethod_9 rfl ?_
  refine S_aload_n (pc := 11) dX2_interfaceMethod_11 rfl ?_
  refine S_gP (pc := 12) fl_X2_46 rfl dX2_interfaceMethod_12 (fun a_66 => ?_)
  refine S_gI (pc := 15) fl_X2_53 rfl dX2_interfaceMethod_15 (fun x_67 => ?_)
  refine S_icmpge (pc := 18) (tgt := 118) dX2_interfaceMethod_18 (by decide) ?_ ?_
  · refine S_iload (pc := 118) dX2_interfaceMethod_118 rfl ?_
    refine S_iload (pc := 120) dX2_interfaceMethod_120 rfl ?_
    refine S_iconst (pc := 122) (v := (-1 : Int32)) dX2_interfaceMethod_122 kI_m1 ?_
    refine S_ixor (pc := 123) dX2_interfaceMethod_123 ?_
    refine S_iand (pc := 124) dX2_interfaceMethod_124 ?_
    refine Z_istore (pc := 125) (lv' := [some (.ref r0), some (.int v1), some (.int v2), some (.int v3), some (.int v4), some (.int v5), some (.int (v4 &&& (v5 ^^^ (-1 : Int32)))), none, none, none, none, none, none]) dX2_interfaceMethod_125 rfl rfl rfl ?_
    refine S_bipush (pc := 127) (v := (-2 : Int32)) dX2_interfaceMethod_127 kB_m2 ?_
    refine Z_istore (pc := 129) (lv' := [some (.ref r0), some (.int v1), some (.int v2), some (.int v3), some (.int v4), some (.int v5), some (.int (v4 &&& (v5 ^^^ (-1 : Int32)))), some (.int (-2 : Int32)), none, none, none, none, none]) dX2_interfaceMethod_129 rfl rfl rfl ?_
    refine S_bipush (pc := 131) (v := (nI 10)) dX2_interfaceMethod_131 kB_10 ?_
    refine Z_istore (pc := 133) (lv' := [some (.ref r0), some (.int v1), some (.int v2), some (.int v3), some (.int v4), some (.int v5), some (.int (v4 &&& (v5 ^^^ (-1 : Int32)))), some (.int (-2 : Int32)), some (.int (nI 10)), none, none, none, none]) dX2_interfaceMethod_133 rfl rfl rfl ?_
    refine S_bipush (pc := 135) (v := (-2 : Int32)) dX2_interfaceMethod_135 kB_m2 ?_
    refine Z_istore (pc := 137) (lv' := [some (.ref r0), some (.int v1), some (.int v2), some (.int v3), some (.int v4), some (.int v5), some (.int (v4 &&& (v5 ^^^ (-1 : Int32)))), some (.int (-2 : Int32)), some (.int (nI 10)), some (.int (-2 : Int32)), none, none, none]) dX2_interfaceMethod_137 rfl rfl rfl ?_
    refine S_iconst (pc := 139) (v := (nI 0)) dX2_interfaceMethod_139 kI_0 ?_
    refine Z_istore (pc := 140) (lv' := [some (.ref r0), some (.int v1), some (.int v2), some (.int v3), some (.int v4), some (.int v5), some (.int (v4 &&& (v5 ^^^ (-1 : Int32)))), some (.int (-2 : Int32)), some (.int (nI 10)), some (.int (-2 : Int32)), some (.int (nI 0)), none, none]) dX2_interfaceMethod_140 rfl rfl rfl ?_
    refine S_iconst (pc := 142) (v := (nI 0)) dX2_interfaceMethod_142 kI_0 ?_
    refine Z_istore (pc := 143) (lv' := [some (.ref r0), some (.int v1), some (.int v2), some (.int v3), some (.int v4), some (.int v5), some (.int (v4 &&& (v5 ^^^ (-1 : Int32)))), some (.int (-2 : Int32)), some (.int (nI 10)), some (.int (-2 : Int32)), some (.int (nI 0)), some (.int (nI 0)), none]) dX2_interfaceMethod_143 rfl rfl rfl ?_
    exact (S_lv (lv0 := [some (.ref r0), some (.int v1), none, some (.int v3), none, none, some (.int (v4 &&& (v5 ^^^ (-1 : Int32)))), some (.int (-2 : Int32)), some (.int (nI 10)), some (.int (-2 : Int32)), some (.int (nI 0)), some (.int (nI 0)), none]) (And.intro rfl (And.intro rfl (And.intro rfl (And.intro rfl (And.intro rfl (And.intro rfl (And.intro rfl (And.intro rfl (And.intro rfl trivial))))))))) (sX2_interfaceMethod_145 fuel r0 v1 v3 (v4 &&& (v5 ^^^ (-1 : Int32))) (-2 : Int32) (nI 10) (-2 : Int32) (nI 0) (nI 0)))
  · refine S_aload_n (pc := 21) dX2_interfaceMethod_21 rfl ?_
    refine S_gP (pc := 22) fl_X2_46 rfl dX2_interfaceMethod_22 (fun a_68 => ?_)
    refine S_gP (pc := 25) fl_X2_117 rfl dX2_interfaceMethod_25 (fun a_69 => ?_)
    refine S_iload (pc := 28) dX2_interfaceMethod_28 rfl ?_
    refine S_ldI (pc := 30) dX2_interfaceMethod_30 (fun x_70 => ?_)
    refine Z_istore (pc := 31) (lv' := [some (.ref r0), some (.int v1), some (.int v2), some (.int v3), some (.int v4), some (.int v5), some (.int v6), some (.int x_70), none, none, none, none, none]) dX2_interfaceMethod_31 rfl rfl rfl ?_
    refine S_aload_n (pc := 33) dX2_interfaceMethod_33 rfl ?_
    refine S_gP (pc := 34) fl_X2_46 rfl dX2_interfaceMethod_34 (fun a_71 => ?_)
    refine S_gP (pc := 37) fl_X2_136 rfl dX2_interfaceMethod_37 (fun a_72 => ?_)
    refine S_iload (pc := 40) dX2_interfaceMethod_40 rfl ?_
    refine S_ldI (pc := 42) dX2_interfaceMethod_42 (fun x_73 => ?_)
    refine S_iload_n (pc := 43) dX2_interfaceMethod_43 rfl ?_
    refine S_icmpne (pc := 44) (tgt := 112) dX2_interfaceMethod_44 (by decide) ?_ ?_
    · exact (S_lv (lv0 := [some (.ref r0), some (.int v1), some (.int v2), some (.int v3), some (.int v4), some (.int v5), some (.int v6), none, none, none, none, none, none]) (And.intro rfl (And.intro rfl (And.intro rfl (And.intro rfl (And.intro rfl (And.intro rfl (And.intro rfl trivial))))))) (sX2_interfaceMethod_112 h9 r0 v1 v2 v3 v4 v5 v6))
    · refine S_iload_n (pc := 47) dX2_interfaceMethod_47 rfl ?_
      refine S_iload (pc := 48) dX2_interfaceMethod_48 rfl ?_
      refine S_ishr (pc := 50) dX2_interfaceMethod_50 ?_
      refine S_iconst (pc := 51) (v := (nI 1)) dX2_interfaceMethod_51 kI_1 ?_
      refine S_iand (pc := 52) dX2_interfaceMethod_52 ?_
      refine S_ifeq (pc := 53) (tgt := 112) dX2_interfaceMethod_53 (by decide) ?_ ?_
      · exact (S_lv (lv0 := [some (.ref r0), some (.int v1), some (.int v2), some (.int v3), some (.int v4), some (.int v5), some (.int v6), none, none, none, none, none, none]) (And.intro rfl (And.intro rfl (And.intro rfl (And.intro rfl (And.intro rfl (And.intro rfl (And.intro rfl trivial))))))) (sX2_interfaceMethod_112 h9 r0 v1 v2 v3 v4 v5 v6))
      · refine S_aload_n (pc := 56) dX2_interfaceMethod_56 rfl ?_
        refine S_gP (pc := 57) fl_X2_46 rfl dX2_interfaceMethod_57 (fun a_74 => ?_)
        refine S_gP (pc := 60) fl_X2_104 rfl dX2_interfaceMethod_60 (fun a_75 => ?_)
        refine S_iload (pc := 63) dX2_interfaceMethod_63 rfl ?_
        refine S_ldI (pc := 65) dX2_interfaceMethod_65 (fun x_76 => ?_)
        refine S_ifeq (pc := 66) (tgt := 112) dX2_interfaceMethod_66 (by decide) ?_ ?_
        · exact (S_lv (lv0 := [some (.ref r0), some (.int v1), some (.int v2), some (.int v3), some (.int v4), some (.int v5), some (.int v6), none, none, none, none, none, none]) (And.intro rfl (And.intro rfl (And.intro rfl (And.intro rfl (And.intro rfl (And.intro rfl (And.intro rfl trivial))))))) (sX2_interfaceMethod_112 h9 r0 v1 v2 v3 v4 v5 v6))
        · refine S_aload_n (pc := 69) dX2_interfaceMethod_69 rfl ?_
          refine S_gP (pc := 70) fl_X2_46 rfl dX2_interfaceMethod_70 (fun a_77 => ?_)
          refine S_gP (pc := 73) fl_X2_107 rfl dX2_interfaceMethod_73 (fun a_78 => ?_)
          refine S_iload (pc := 76) dX2_interfaceMethod_76 rfl ?_
          refine S_ldI (pc := 78) dX2_interfaceMethod_78 (fun x_79 => ?_)
          refine S_iconst (pc := 79) (v := (nI 1)) dX2_interfaceMethod_79 kI_1 ?_
          refine S_iand (pc := 80) dX2_interfaceMethod_80 ?_
          refine S_ifne (pc := 81) (tgt := 112) dX2_interfaceMethod_81 (by decide) ?_ ?_
          · exact (S_lv (lv0 := [some (.ref r0), some (.int v1), some (.int v2), some (.int v3), some (.int v4), some (.int v5), some (.int v6), none, none, none, none, none, none]) (And.intro rfl (And.intro rfl (And.intro rfl (And.intro rfl (And.intro rfl (And.intro rfl (And.intro rfl trivial))))))) (sX2_interfaceMethod_112 h9 r0 v1 v2 v3 v4 v5 v6))
          · refine S_iload (pc := 84) dX2_interfaceMethod_84 rfl ?_
            refine S_iconst (pc := 86) (v := (nI 1)) dX2_interfaceMethod_86 kI_1 ?_
            refine S_iload (pc := 87) dX2_interfaceMethod_87 rfl ?_
            refine S_ishl (pc := 89) dX2_interfaceMethod_89 ?_
            refine S_ior (pc := 90) dX2_interfaceMethod_90 ?_
            refine Z_istore (pc := 91) (lv' := [some (.ref r0), some (.int v1), some (.int v2), some (.int v3), some (.int (v4 ||| ((nI 1) <<< (x_70 &&& 31)))), some (.int v5), some (.int v6), some (.int x_70), none, none, none, none, none]) dX2_interfaceMethod_91 rfl rfl rfl ?_
            refine S_iload (pc := 93) dX2_interfaceMethod_93 rfl ?_
            refine S_aload_n (pc := 95) dX2_interfaceMethod_95 rfl ?_
            refine S_gP (pc := 96) fl_X2_37 rfl dX2_interfaceMethod_96 (fun a_80 => ?_)
            refine S_iload (pc := 99) dX2_interfaceMethod_99 rfl ?_
            refine S_ldI (pc := 101) dX2_interfaceMethod_101 (fun x_81 => ?_)
            refine S_iconst (pc := 102) (v := (nI 1)) dX2_interfaceMethod_102 kI_1 ?_
            refine S_iload (pc := 103) dX2_interfaceMethod_103 rfl ?_
            refine S_ishl (pc := 105) dX2_interfaceMethod_105 ?_
            refine S_iconst (pc := 106) (v := (-1 : Int32)) dX2_interfaceMethod_106 kI_m1 ?_
            refine S_ixor (pc := 107) dX2_interfaceMethod_107 ?_
            refine S_iand (pc := 108) dX2_interfaceMethod_108 ?_
            refine S_ior (pc := 109) dX2_interfaceMethod_109 ?_
            refine Z_istore (pc := 110) (lv' := [some (.ref r0), some (.int v1), some (.int v2), some (.int v3), some (.int (v4 ||| ((nI 1) <<< (x_70 &&& 31)))), some (.int (v5 ||| (x_81 &&& (((nI 1) <<< (x_70 &&& 31)) ^^^ (-1 : Int32))))), some (.int v6), some (.int x_70), none, none, none, none, none]) dX2_interfaceMethod_110 rfl rfl rfl ?_
            exact (S_lv (lv0 := [some (.ref r0), some (.int v1), some (.int v2), some (.int v3), some (.int (v4 ||| ((nI 1) <<< (x_70 &&& 31)))), some (.int (v5 ||| (x_81 &&& (((nI 1) <<< (x_70 &&& 31)) ^^^ (-1 : Int32))))), some (.int v6), none, none, none, none, none, none]) (And.intro rfl (And.intro rfl (And.intro rfl (And.intro rfl (And.intro rfl (And.intro rfl (And.intro rfl trivial))))))) (sX2_interfaceMethod_112 h9 r0 v1 v2 v3 (v4 ||| ((nI 1) <<< (x_70 &&& 31))) (v5 ||| (x_81 &&& (((nI 1) <<< (x_70 &&& 31)) ^^^ (-1 : Int32)))) v6))
theorem sX2_interfaceMethod_9  : ∀ (n : Nat) (r0 : Nat) (v1 : Int32) (v2 : Int32) (v3 : Int32) (v4 : Int32) (v5 : Int32) (v6 : Int32), Sm mX2_interfaceMethod rI 0 0 9 [some (.ref r0), some (.int v1), some (.int v2), some (.int v3), some (.int v4), some (.int v5), some (.int v6), none, none, none, none, none, none] [] (lX2_interfaceMethod_9 n r0 v1 v2 v3 v4 v5 v6)
  | 0, _, _, _, _, _, _, _ => S_none
  | n + 1, r0, v1, v2, v3, v4, v5, v6 => sbX2_interfaceMethod_9 (sX2_interfaceMethod_9 n) r0 v1 v2 v3 v4 v5 v6
theorem sX2_interfaceMethod  (r0 : Nat) (v1 : Int32) (v2 : Int32) (v3 : Int32) : Sm mX2_interfaceMethod rI 0 0 0 [some (.ref r0), some (.int v1), some (.int v2), some (.int v3), none, none, none, none, none, none, none, none, none] [] (fX2_interfaceMethod r0 v1 v2 v3) := by
  unfold fX2_interfaceMethod
  refine S_iconst (pc := 0) (v := (nI 0)) dX2_interfaceMethod_0 kI_0 ?_
  refine Z_istore (pc := 1) (lv' := [some (.ref r0), some (.int v1), some (.int v2), some (.int v3), some (.int (nI 0)), none, none, none, none, none, none, none, none]) dX2_interfaceMethod_1 rfl rfl rfl ?_
  refine S_iconst (pc := 3) (v := (nI 0)) dX2_interfaceMethod_3 kI_0 ?_
  refine Z_istore (pc := 4) (lv' := [some (.ref r0), some (.int v1), some (.int v2), some (.int v3), some (.int (nI 0)), some (.int (nI 0)), none, none, none, none, none, none, none]) dX2_interfaceMethod_4 rfl rfl rfl ?_
  refine S_iconst (pc := 6) (v := (nI 0)) dX2_interfaceMethod_6 kI_0 ?_
  refine Z_istore (pc := 7) (lv' := [some (.ref r0), some (.int v1), some (.int v2), some (.int v3), some (.int (nI 0)), some (.int (nI 0)), some (.int (nI 0)), none, none, none, none, none, none]) dX2_interfaceMethod_7 rfl rfl rfl ?_
  exact (sX2_interfaceMethod_9 fuel r0 v1 v2 v3 (nI 0) (nI 0) (nI 0))
theorem ktX2_interfaceMethod (r0 : Nat) (v1 : Int32) (v2 : Int32) (v3 : Int32) : Ct mX2_interfaceMethod rI [.ref r0, .int v1, .int v2, .int v3] (fX2_interfaceMethod r0 v1 v2 v3) := Ct.of (z := 9) pn_X2 rfl rfl rfl (sX2_interfaceMethod r0 v1 v2 v3)
def mX2_selectedAlong : MI := (yX2_selectedAlong, cX2_selectedAlong, 8, (some .int), { frames := 1, cells := 0, slots := 0, locals := 32 }, [])
theorem mw_X2_selectedAlong : MW mX2_selectedAlong 3 := ⟨w521, w3, ⟨by decide, by decide⟩, by decide +kernel⟩
theorem mv_X2_selectedAlong : MV mX2_selectedAlong 2 := ⟨_, rfl, w519, w520⟩
def fX2_selectedAlong_101 (k11 : Nat → Int32 → Int32 → Int32 → Int32 → Int32 → Int32 → AH → Option (Int32 × AH)) (r0 : Nat) (v1 : Int32) (v2 : Int32) (v3 : Int32) (v4 : Int32) (v5 : Int32) (v6 : Int32) : AH → Option (Int32 × AH) := fun h =>
  k11 r0 v1 v2 v3 v4 v5 (v6 + (nI 1)) h
def bX2_selectedAlong_11  (k11 : Nat → Int32 → Int32 → Int32 → Int32 → Int32 → Int32 → AH → Option (Int32 × AH)) (r0 : Nat) (v1 : Int32) (v2 : Int32) (v3 : Int32) (v4 : Int32) (v5 : Int32) (v6 : Int32) : AH → Option (Int32 × AH) := fun h =>
  (gP 2 r0 10 h).bind fun a_33 =>
  (gI 4 a_33 0 h).bind fun x_34 =>
  if x_34 ≤ v6 then (
    if v4 = (-2 : Int32) then (
      (gI 2 r0 1 h).bind fun x_35 =>
      cv 2 r0 (fX2_interfaceMethod r0 v1 ((v3 &&& x_35) &&& (v2 ^^^ (-1 : Int32))) (nI 0)) h fun x_36 h =>
      some (x_36, h))
    else
    some (v4, h))
  else
  (gP 2 r0 10 h).bind fun a_37 =>
  (gP 4 a_37 5 h).bind fun a_38 =>
  (ldI a_38 v6 h).bind fun x_39 =>
  (gP 2 r0 10 h).bind fun a_40 =>
  (gP 4 a_40 12 h).bind fun a_41 =>
  (ldI a_41 v6 h).bind fun x_42 =>
  if x_42 = v1 then (
    if ((v2 >>> (x_39 &&& 31)) &&& (nI 1)) = 0 then (
      fX2_selectedAlong_101 k11 r0 v1 v2 v3 v4 v5 v6 h)
    else
    if x_39 ≤ v5 then (
      fX2_selectedAlong_101 k11 r0 v1 v2 v3 v4 v5 v6 h)
    else
    (gP 2 r0 10 h).bind fun a_43 =>
    (gP 4 a_43 1 h).bind fun a_44 =>
    (ldI a_44 v6 h).bind fun x_45 =>
    if x_45 = 0 then (
      fX2_selectedAlong_101 k11 r0 v1 v2 v3 v4 v5 v6 h)
    else
    (gP 2 r0 10 h).bind fun a_46 =>
    (gP 4 a_46 2 h).bind fun a_47 =>
    (ldI a_47 v6 h).bind fun x_48 =>
    if (x_48 &&& (nI 1)) = 0 then (
      fX2_selectedAlong_101 k11 r0 v1 v2 v3 v6 x_39 v6 h)
    else
    fX2_selectedAlong_101 k11 r0 v1 v2 v3 v4 v5 v6 h)
  else
  fX2_selectedAlong_101 k11 r0 v1 v2 v3 v4 v5 v6 h
def lX2_selectedAlong_11  : Nat → Nat → Int32 → Int32 → Int32 → Int32 → Int32 → Int32 → AH → Option (Int32 × AH)
  | 0 => fun _ _ _ _ _ _ _ _ => none
  | n + 1 => bX2_selectedAlong_11 (lX2_selectedAlong_11 n)
def fX2_selectedAlong  (r0 : Nat) (v1 : Int32) (v2 : Int32) (v3 : Int32) : AH → Option (Int32 × AH) := fun h =>
  lX2_selectedAlong_11 fuel r0 v1 v2 v3 (-2 : Int32) (-2 : Int32) (nI 0) h
theorem sX2_selectedAlong_101 {k11 : Nat → Int32 → Int32 → Int32 → Int32 → Int32 → Int32 → AH → Option (Int32 × AH)} (h11 : ∀ (r0 : Nat) (v1 : Int32) (v2 : Int32) (v3 : Int32) (v4 : Int32) (v5 : Int32) (v6 : Int32), Sm mX2_selectedAlong rI 0 0 11 [some (.ref r0), some (.int v1), some (.int v2), some (.int v3), some (.int v4), some (.int v5), some (.int v6), none] [] (k11 r0 v1 v2 v3 v4 v5 v6)) (r0 : Nat) (v1 : Int32) (v2 : Int32) (v3 : Int32) (v4 : Int32) (v5 : Int32) (v6 : Int32) : Sm mX2_selectedAlong rI 0 0 101 [some (.ref r0), some (.int v1), some (.int v2), some (.int v3), some (.int v4), some (.int v5), some (.int v6), none] [] (fX2_selectedAlong_101 k11 r0 v1 v2 v3 v4 v5 v6) := by
  unfold fX2_selectedAlong_101
  refine Z_iinc (pc := 101) (v := (nI 1)) (lv' := [some (.ref r0), some (.int v1), some (.int v2), some (.int v3), some (.int v4), some (.int v5), some (.int (v6 + (nI 1))), none]) dX2_selectedAlong_101 rfl kI_1 rfl rfl rfl ?_
  refine S_goto (pc := 104) (tgt := 11) dX2_selectedAlong_104 (by decide) ?_
  exact (h11 r0 v1 v2 v3 v4 v5 (v6 + (nI 1)))
theorem sbX2_selectedAlong_11  {k11 : Nat → Int32 → Int32 → Int32 → Int32 → Int32 → Int32 → AH → Option (Int32 × AH)} (h11 : ∀ (r0 : Nat) (v1 : Int32) (v2 : Int32) (v3 : Int32) (v4 : Int32) (v5 : Int32) (v6 : Int32), Sm mX2_selectedAlong rI 0 0 11 [some (.ref r0), some (.int v1), some (.int v2), some (.int v3), some (.int v4), some (.int v5), some (.int v6), none] [] (k11 r0 v1 v2 v3 v4 v5 v6)) (r0 : Nat) (v1 : Int32) (v2 : Int32) (v3 : Int32) (v4 : Int32) (v5 : Int32) (v6 : Int32) : Sm mX2_selectedAlong rI 0 0 11 [some (.ref r0), some (.int v1), some (.int v2), some (.int v3), some (.int v4), some (.int v5), some (.int v6), none] [] (bX2_selectedAlong_11 k11 r0 v1 v2 v3 v4 v5 v6) := by
  unfold bX2_selectedAlong_11
  refine S_iload (pc := 11) dX2_selectedAlong_11 rfl ?_
  refine S_aload_n (pc := 13) dX2_selectedAlong_13 rfl ?_
  refine S_gP (pc := 14) fl_X2_46 rfl dX2_selectedAlong_14 (fun a_33 => ?_)
  refine S_gI (pc := 17) fl_X2_53 rfl dX2_selectedAlong_17 (fun x_34 => ?_)
  refine S_icmpge (pc := 20) (tgt := 107) dX2_selectedAlong_20 (by decide) ?_ ?_
  · refine S_iload (pc := 107) dX2_selectedAlong_107 rfl ?_
    refine S_bipush (pc := 109) (v := (-2 : Int32)) dX2_selectedAlong_109 kB_m2 ?_
    refine S_icmpeq (pc := 111) (tgt := 119) dX2_selectedAlong_111 (by decide) ?_ ?_
    · refine S_aload_n (pc := 119) dX2_selectedAlong_119 rfl ?_
      refine S_iload_n (pc := 120) dX2_selectedAlong_120 rfl ?_
      refine S_iload_n (pc := 121) dX2_selectedAlong_121 rfl ?_
      refine S_aload_n (pc := 122) dX2_selectedAlong_122 rfl ?_
      refine S_gI (pc := 123) fl_X2_15 rfl dX2_selectedAlong_123 (fun x_35 => ?_)
      refine S_iand (pc := 126) dX2_selectedAlong_126 ?_
      refine S_iload_n (pc := 127) dX2_selectedAlong_127 rfl ?_
      refine S_iconst (pc := 128) (v := (-1 : Int32)) dX2_selectedAlong_128 kI_m1 ?_
      refine S_ixor (pc := 129) dX2_selectedAlong_129 ?_
      refine S_iand (pc := 130) dX2_selectedAlong_130 ?_
      refine S_iconst (pc := 131) (v := (nI 0)) dX2_selectedAlong_131 kI_0 ?_
      refine Y_Vi (pc := 132) (st := []) (kc' := 0) (ks' := 0) (ktX2_interfaceMethod r0 v1 ((v3 &&& x_35) &&& (v2 ^^^ (-1 : Int32))) (nI 0)) mw_X2_interfaceMethod mv_X2_interfaceMethod w522 (RO.mk rfl rfl rfl rfl) rfl rfl rfl dX2_selectedAlong_132 ⟨rfl, rfl⟩ (fun x_36 => ?_)
      exact S_iret (pc := 135) ⟨rfl, rfl⟩ rfl rfl dX2_selectedAlong_135
    · refine S_iload (pc := 114) dX2_selectedAlong_114 rfl ?_
      refine S_goto (pc := 116) (tgt := 135) dX2_selectedAlong_116 (by decide) ?_
      exact S_iret (pc := 135) ⟨rfl, rfl⟩ rfl rfl dX2_selectedAlong_135
  · refine S_aload_n (pc := 23) dX2_selectedAlong_23 rfl ?_
    refine S_gP (pc := 24) fl_X2_46 rfl dX2_selectedAlong_24 (fun a_37 => ?_)
    refine S_gP (pc := 27) fl_X2_117 rfl dX2_selectedAlong_27 (fun a_38 => ?_)
    refine S_iload (pc := 30) dX2_selectedAlong_30 rfl ?_
    refine S_ldI (pc := 32) dX2_selectedAlong_32 (fun x_39 => ?_)
    refine Z_istore (pc := 33) (lv' := [some (.ref r0), some (.int v1), some (.int v2), some (.int v3), some (.int v4), some (.int v5), some (.int v6), some (.int x_39)]) dX2_selectedAlong_33 rfl rfl rfl ?_
    refine S_aload_n (pc := 35) dX2_selectedAlong_35 rfl ?_
    refine S_gP (pc := 36) fl_X2_46 rfl dX2_selectedAlong_36 (fun a_40 => ?_)
    refine S_gP (pc := 39) fl_X2_136 rfl dX2_selectedAlong_39 (fun a_41 => ?_)
    refine S_iload (pc := 42) dX2_selectedAlong_42 rfl ?_
    refine S_ldI (pc := 44) dX2_selectedAlong_44 (fun x_42 => ?_)
    refine S_iload_n (pc := 45) dX2_selectedAlong_45 rfl ?_
    refine S_icmpne (pc := 46) (tgt := 101) dX2_selectedAlong_46 (by decide) ?_ ?_
    · exact (S_lv (lv0 := [some (.ref r0), some (.int v1), some (.int v2), some (.int v3), some (.int v4), some (.int v5), some (.int v6), none]) (And.intro rfl (And.intro rfl (And.intro rfl (And.intro rfl (And.intro rfl (And.intro rfl (And.intro rfl trivial))))))) (sX2_selectedAlong_101 h11 r0 v1 v2 v3 v4 v5 v6))
    · refine S_iload_n (pc := 49) dX2_selectedAlong_49 rfl ?_
      refine S_iload (pc := 50) dX2_selectedAlong_50 rfl ?_
      refine S_ishr (pc := 52) dX2_selectedAlong_52 ?_
      refine S_iconst (pc := 53) (v := (nI 1)) dX2_selectedAlong_53 kI_1 ?_
      refine S_iand (pc := 54) dX2_selectedAlong_54 ?_
      refine S_ifeq (pc := 55) (tgt := 101) dX2_selectedAlong_55 (by decide) ?_ ?_
      · exact (S_lv (lv0 := [some (.ref r0), some (.int v1), some (.int v2), some (.int v3), some (.int v4), some (.int v5), some (.int v6), none]) (And.intro rfl (And.intro rfl (And.intro rfl (And.intro rfl (And.intro rfl (And.intro rfl (And.intro rfl trivial))))))) (sX2_selectedAlong_101 h11 r0 v1 v2 v3 v4 v5 v6))
      · refine S_iload (pc := 58) dX2_selectedAlong_58 rfl ?_
        refine S_iload (pc := 60) dX2_selectedAlong_60 rfl ?_
        refine S_icmple (pc := 62) (tgt := 101) dX2_selectedAlong_62 (by decide) ?_ ?_
        · exact (S_lv (lv0 := [some (.ref r0), some (.int v1), some (.int v2), some (.int v3), some (.int v4), some (.int v5), some (.int v6), none]) (And.intro rfl (And.intro rfl (And.intro rfl (And.intro rfl (And.intro rfl (And.intro rfl (And.intro rfl trivial))))))) (sX2_selectedAlong_101 h11 r0 v1 v2 v3 v4 v5 v6))
        · refine S_aload_n (pc := 65) dX2_selectedAlong_65 rfl ?_
          refine S_gP (pc := 66) fl_X2_46 rfl dX2_selectedAlong_66 (fun a_43 => ?_)
          refine S_gP (pc := 69) fl_X2_104 rfl dX2_selectedAlong_69 (fun a_44 => ?_)
          refine S_iload (pc := 72) dX2_selectedAlong_72 rfl ?_
          refine S_ldI (pc := 74) dX2_selectedAlong_74 (fun x_45 => ?_)
          refine S_ifeq (pc := 75) (tgt := 101) dX2_selectedAlong_75 (by decide) ?_ ?_
          · exact (S_lv (lv0 := [some (.ref r0), some (.int v1), some (.int v2), some (.int v3), some (.int v4), some (.int v5), some (.int v6), none]) (And.intro rfl (And.intro rfl (And.intro rfl (And.intro rfl (And.intro rfl (And.intro rfl (And.intro rfl trivial))))))) (sX2_selectedAlong_101 h11 r0 v1 v2 v3 v4 v5 v6))
          · refine S_aload_n (pc := 78) dX2_selectedAlong_78 rfl ?_
            refine S_gP (pc := 79) fl_X2_46 rfl dX2_selectedAlong_79 (fun a_46 => ?_)
            refine S_gP (pc := 82) fl_X2_107 rfl dX2_selectedAlong_82 (fun a_47 => ?_)
            refine S_iload (pc := 85) dX2_selectedAlong_85 rfl ?_
            refine S_ldI (pc := 87) dX2_selectedAlong_87 (fun x_48 => ?_)
            refine S_iconst (pc := 88) (v := (nI 1)) dX2_selectedAlong_88 kI_1 ?_
            refine S_iand (pc := 89) dX2_selectedAlong_89 ?_
            refine S_ifne (pc := 90) (tgt := 101) dX2_selectedAlong_90 (by decide) ?_ ?_
            · exact (S_lv (lv0 := [some (.ref r0), some (.int v1), some (.int v2), some (.int v3), some (.int v4), some (.int v5), some (.int v6), none]) (And.intro rfl (And.intro rfl (And.intro rfl (And.intro rfl (And.intro rfl (And.intro rfl (And.intro rfl trivial))))))) (sX2_selectedAlong_101 h11 r0 v1 v2 v3 v4 v5 v6))
            · refine S_iload (pc := 93) dX2_selectedAlong_93 rfl ?_
              refine Z_istore (pc := 95) (lv' := [some (.ref r0), some (.int v1), some (.int v2), some (.int v3), some (.int v6), some (.int v5), some (.int v6), some (.int x_39)]) dX2_selectedAlong_95 rfl rfl rfl ?_
              refine S_iload (pc := 97) dX2_selectedAlong_97 rfl ?_
              refine Z_istore (pc := 99) (lv' := [some (.ref r0), some (.int v1), some (.int v2), some (.int v3), some (.int v6), some (.int x_39), some (.int v6), some (.int x_39)]) dX2_selectedAlong_99 rfl rfl rfl ?_
              exact (S_lv (lv0 := [some (.ref r0), some (.int v1), some (.int v2), some (.int v3), some (.int v6), some (.int x_39), some (.int v6), none]) (And.intro rfl (And.intro rfl (And.intro rfl (And.intro rfl (And.intro rfl (And.intro rfl (And.intro rfl trivial))))))) (sX2_selectedAlong_101 h11 r0 v1 v2 v3 v6 x_39 v6))
theorem sX2_selectedAlong_11  : ∀ (n : Nat) (r0 : Nat) (v1 : Int32) (v2 : Int32) (v3 : Int32) (v4 : Int32) (v5 : Int32) (v6 : Int32), Sm mX2_selectedAlong rI 0 0 11 [some (.ref r0), some (.int v1), some (.int v2), some (.int v3), some (.int v4), some (.int v5), some (.int v6), none] [] (lX2_selectedAlong_11 n r0 v1 v2 v3 v4 v5 v6)
  | 0, _, _, _, _, _, _, _ => S_none
  | n + 1, r0, v1, v2, v3, v4, v5, v6 => sbX2_selectedAlong_11 (sX2_selectedAlong_11 n) r0 v1 v2 v3 v4 v5 v6
theorem sX2_selectedAlong  (r0 : Nat) (v1 : Int32) (v2 : Int32) (v3 : Int32) : Sm mX2_selectedAlong rI 0 0 0 [some (.ref r0), some (.int v1), some (.int v2), some (.int v3), none, none, none, none] [] (fX2_selectedAlong r0 v1 v2 v3) := by
  unfold fX2_selectedAlong
  refine S_bipush (pc := 0) (v := (-2 : Int32)) dX2_selectedAlong_0 kB_m2 ?_
  refine Z_istore (pc := 2) (lv' := [some (.ref r0), some (.int v1), some (.int v2), some (.int v3), some (.int (-2 : Int32)), none, none, none]) dX2_selectedAlong_2 rfl rfl rfl ?_
  refine S_bipush (pc := 4) (v := (-2 : Int32)) dX2_selectedAlong_4 kB_m2 ?_
  refine Z_istore (pc := 6) (lv' := [some (.ref r0), some (.int v1), some (.int v2), some (.int v3), some (.int (-2 : Int32)), some (.int (-2 : Int32)), none, none]) dX2_selectedAlong_6 rfl rfl rfl ?_
  refine S_iconst (pc := 8) (v := (nI 0)) dX2_selectedAlong_8 kI_0 ?_
  refine Z_istore (pc := 9) (lv' := [some (.ref r0), some (.int v1), some (.int v2), some (.int v3), some (.int (-2 : Int32)), some (.int (-2 : Int32)), some (.int (nI 0)), none]) dX2_selectedAlong_9 rfl rfl rfl ?_
  exact (sX2_selectedAlong_11 fuel r0 v1 v2 v3 (-2 : Int32) (-2 : Int32) (nI 0))
theorem ktX2_selectedAlong (r0 : Nat) (v1 : Int32) (v2 : Int32) (v3 : Int32) : Ct mX2_selectedAlong rI [.ref r0, .int v1, .int v2, .int v3] (fX2_selectedAlong r0 v1 v2 v3) := Ct.of (z := 4) pn_X2 rfl rfl rfl (sX2_selectedAlong r0 v1 v2 v3)
def mX2_isIncomplete : MI := (yX2_isIncomplete, cX2_isIncomplete, 5, (some .boolean), { frames := 2, cells := 0, slots := 0, locals := 59 }, [])
theorem mw_X2_isIncomplete : MW mX2_isIncomplete 2 := ⟨w516, w3, ⟨by decide, by decide⟩, by decide +kernel⟩
theorem mv_X2_isIncomplete : MV mX2_isIncomplete 2 := ⟨_, rfl, w514, w515⟩
def fX2_isIncomplete_78 (k2 : Nat → Int32 → Int32 → Int32 → AH → Option (Int32 × AH)) (r0 : Nat) (v1 : Int32) (v2 : Int32) (v3 : Int32) : AH → Option (Int32 × AH) := fun h =>
  k2 r0 v1 v2 (v3 + (nI 1)) h
def bX2_isIncomplete_2  (k2 : Nat → Int32 → Int32 → Int32 → AH → Option (Int32 × AH)) (r0 : Nat) (v1 : Int32) (v2 : Int32) (v3 : Int32) : AH → Option (Int32 × AH) := fun h =>
  (gP 2 r0 10 h).bind fun a_27 =>
  (gI 4 a_27 0 h).bind fun x_28 =>
  if x_28 ≤ v3 then (
    rz (nI 0) (nI 0) h)
  else
  (gP 2 r0 10 h).bind fun a_29 =>
  (gP 4 a_29 5 h).bind fun a_30 =>
  (ldI a_30 v3 h).bind fun x_31 =>
  if ((v2 >>> (x_31 &&& 31)) &&& (nI 1)) = 0 then (
    fX2_isIncomplete_78 k2 r0 v1 v2 v3 h)
  else
  (gP 2 r0 10 h).bind fun a_32 =>
  cv 4 a_32 (fX4_isAbstract a_32 v3) h fun x_33 h =>
  if x_33 = 0 then (
    fX2_isIncomplete_78 k2 r0 v1 v2 v3 h)
  else
  (gP 2 r0 10 h).bind fun a_34 =>
  (gP 4 a_34 12 h).bind fun a_35 =>
  (ldI a_35 v3 h).bind fun x_36 =>
  cv 2 r0 (fX2_selectedAlong r0 x_36 v1 v2) h fun x_37 h =>
  if x_37 = (-2 : Int32) then (
    rz (nI 1) (nI 1) h)
  else
  (gP 2 r0 10 h).bind fun a_38 =>
  cv 4 a_38 (fX4_isAbstract a_38 x_37) h fun x_39 h =>
  if x_39 = 0 then (
    fX2_isIncomplete_78 k2 r0 v1 v2 v3 h)
  else
  rz (nI 1) (nI 1) h
def lX2_isIncomplete_2  : Nat → Nat → Int32 → Int32 → Int32 → AH → Option (Int32 × AH)
  | 0 => fun _ _ _ _ _ => none
  | n + 1 => bX2_isIncomplete_2 (lX2_isIncomplete_2 n)
def fX2_isIncomplete  (r0 : Nat) (v1 : Int32) (v2 : Int32) : AH → Option (Int32 × AH) := fun h =>
  lX2_isIncomplete_2 fuel r0 v1 v2 (nI 0) h
theorem sX2_isIncomplete_78 {k2 : Nat → Int32 → Int32 → Int32 → AH → Option (Int32 × AH)} (h2 : ∀ (r0 : Nat) (v1 : Int32) (v2 : Int32) (v3 : Int32), Sm mX2_isIncomplete rI 0 0 2 [some (.ref r0), some (.int v1), some (.int v2), some (.int v3), none] [] (k2 r0 v1 v2 v3)) (r0 : Nat) (v1 : Int32) (v2 : Int32) (v3 : Int32) : Sm mX2_isIncomplete rI 0 0 78 [some (.ref r0), some (.int v1), some (.int v2), some (.int v3), none] [] (fX2_isIncomplete_78 k2 r0 v1 v2 v3) := by
  unfold fX2_isIncomplete_78
  refine Z_iinc (pc := 78) (v := (nI 1)) (lv' := [some (.ref r0), some (.int v1), some (.int v2), some (.int (v3 + (nI 1))), none]) dX2_isIncomplete_78 rfl kI_1 rfl rfl rfl ?_
  refine S_goto (pc := 81) (tgt := 2) dX2_isIncomplete_81 (by decide) ?_
  exact (h2 r0 v1 v2 (v3 + (nI 1)))
theorem sbX2_isIncomplete_2  {k2 : Nat → Int32 → Int32 → Int32 → AH → Option (Int32 × AH)} (h2 : ∀ (r0 : Nat) (v1 : Int32) (v2 : Int32) (v3 : Int32), Sm mX2_isIncomplete rI 0 0 2 [some (.ref r0), some (.int v1), some (.int v2), some (.int v3), none] [] (k2 r0 v1 v2 v3)) (r0 : Nat) (v1 : Int32) (v2 : Int32) (v3 : Int32) : Sm mX2_isIncomplete rI 0 0 2 [some (.ref r0), some (.int v1), some (.int v2), some (.int v3), none] [] (bX2_isIncomplete_2 k2 r0 v1 v2 v3) := by
  unfold bX2_isIncomplete_2
  refine S_iload_n (pc := 2) dX2_isIncomplete_2 rfl ?_
  refine S_aload_n (pc := 3) dX2_isIncomplete_3 rfl ?_
  refine S_gP (pc := 4) fl_X2_46 rfl dX2_isIncomplete_4 (fun a_27 => ?_)
  refine S_gI (pc := 7) fl_X2_53 rfl dX2_isIncomplete_7 (fun x_28 => ?_)
  refine S_icmpge (pc := 10) (tgt := 84) dX2_isIncomplete_10 (by decide) ?_ ?_
  · refine S_iconst (pc := 84) (v := (nI 0)) dX2_isIncomplete_84 kI_0 ?_
    exact S_zret (pc := 85) ⟨rfl, rfl⟩ rfl rfl dX2_isIncomplete_85
  · refine S_iload_n (pc := 13) dX2_isIncomplete_13 rfl ?_
    refine S_aload_n (pc := 14) dX2_isIncomplete_14 rfl ?_
    refine S_gP (pc := 15) fl_X2_46 rfl dX2_isIncomplete_15 (fun a_29 => ?_)
    refine S_gP (pc := 18) fl_X2_117 rfl dX2_isIncomplete_18 (fun a_30 => ?_)
    refine S_iload_n (pc := 21) dX2_isIncomplete_21 rfl ?_
    refine S_ldI (pc := 22) dX2_isIncomplete_22 (fun x_31 => ?_)
    refine S_ishr (pc := 23) dX2_isIncomplete_23 ?_
    refine S_iconst (pc := 24) (v := (nI 1)) dX2_isIncomplete_24 kI_1 ?_
    refine S_iand (pc := 25) dX2_isIncomplete_25 ?_
    refine S_ifeq (pc := 26) (tgt := 78) dX2_isIncomplete_26 (by decide) ?_ ?_
    · exact (sX2_isIncomplete_78 h2 r0 v1 v2 v3)
    · refine S_aload_n (pc := 29) dX2_isIncomplete_29 rfl ?_
      refine S_gP (pc := 30) fl_X2_46 rfl dX2_isIncomplete_30 (fun a_32 => ?_)
      refine S_iload_n (pc := 33) dX2_isIncomplete_33 rfl ?_
      refine Y_Vi (pc := 34) (st := []) (kc' := 0) (ks' := 0) (ktX4_isAbstract a_32 v3) mw_X4_isAbstract mv_X4_isAbstract w517 (RO.mk rfl rfl rfl rfl) rfl rfl rfl dX2_isIncomplete_34 ⟨rfl, rfl⟩ (fun x_33 => ?_)
      refine S_ifeq (pc := 37) (tgt := 78) dX2_isIncomplete_37 (by decide) ?_ ?_
      · exact (sX2_isIncomplete_78 h2 r0 v1 v2 v3)
      · refine S_aload_n (pc := 40) dX2_isIncomplete_40 rfl ?_
        refine S_aload_n (pc := 41) dX2_isIncomplete_41 rfl ?_
        refine S_gP (pc := 42) fl_X2_46 rfl dX2_isIncomplete_42 (fun a_34 => ?_)
        refine S_gP (pc := 45) fl_X2_136 rfl dX2_isIncomplete_45 (fun a_35 => ?_)
        refine S_iload_n (pc := 48) dX2_isIncomplete_48 rfl ?_
        refine S_ldI (pc := 49) dX2_isIncomplete_49 (fun x_36 => ?_)
        refine S_iload_n (pc := 50) dX2_isIncomplete_50 rfl ?_
        refine S_iload_n (pc := 51) dX2_isIncomplete_51 rfl ?_
        refine Y_Vi (pc := 52) (st := []) (kc' := 0) (ks' := 0) (ktX2_selectedAlong r0 x_36 v1 v2) mw_X2_selectedAlong mv_X2_selectedAlong w518 (RO.mk rfl rfl rfl rfl) rfl rfl rfl dX2_isIncomplete_52 ⟨rfl, rfl⟩ (fun x_37 => ?_)
        refine Z_istore (pc := 55) (lv' := [some (.ref r0), some (.int v1), some (.int v2), some (.int v3), some (.int x_37)]) dX2_isIncomplete_55 rfl rfl rfl ?_
        refine S_iload (pc := 57) dX2_isIncomplete_57 rfl ?_
        refine S_bipush (pc := 59) (v := (-2 : Int32)) dX2_isIncomplete_59 kB_m2 ?_
        refine S_icmpeq (pc := 61) (tgt := 76) dX2_isIncomplete_61 (by decide) ?_ ?_
        · refine S_iconst (pc := 76) (v := (nI 1)) dX2_isIncomplete_76 kI_1 ?_
          exact S_zret (pc := 77) ⟨rfl, rfl⟩ rfl rfl dX2_isIncomplete_77
        · refine S_aload_n (pc := 64) dX2_isIncomplete_64 rfl ?_
          refine S_gP (pc := 65) fl_X2_46 rfl dX2_isIncomplete_65 (fun a_38 => ?_)
          refine S_iload (pc := 68) dX2_isIncomplete_68 rfl ?_
          refine Y_Vi (pc := 70) (st := []) (kc' := 0) (ks' := 0) (ktX4_isAbstract a_38 x_37) mw_X4_isAbstract mv_X4_isAbstract w517 (RO.mk rfl rfl rfl rfl) rfl rfl rfl dX2_isIncomplete_70 ⟨rfl, rfl⟩ (fun x_39 => ?_)
          refine S_ifeq (pc := 73) (tgt := 78) dX2_isIncomplete_73 (by decide) ?_ ?_
          · exact (S_lv (lv0 := [some (.ref r0), some (.int v1), some (.int v2), some (.int v3), none]) (And.intro rfl (And.intro rfl (And.intro rfl (And.intro rfl trivial)))) (sX2_isIncomplete_78 h2 r0 v1 v2 v3))
          · refine S_iconst (pc := 76) (v := (nI 1)) dX2_isIncomplete_76 kI_1 ?_
            exact S_zret (pc := 77) ⟨rfl, rfl⟩ rfl rfl dX2_isIncomplete_77
theorem sX2_isIncomplete_2  : ∀ (n : Nat) (r0 : Nat) (v1 : Int32) (v2 : Int32) (v3 : Int32), Sm mX2_isIncomplete rI 0 0 2 [some (.ref r0), some (.int v1), some (.int v2), some (.int v3), none] [] (lX2_isIncomplete_2 n r0 v1 v2 v3)
  | 0, _, _, _, _ => S_none
  | n + 1, r0, v1, v2, v3 => sbX2_isIncomplete_2 (sX2_isIncomplete_2 n) r0 v1 v2 v3
theorem sX2_isIncomplete  (r0 : Nat) (v1 : Int32) (v2 : Int32) : Sm mX2_isIncomplete rI 0 0 0 [some (.ref r0), some (.int v1), some (.int v2), none, none] [] (fX2_isIncomplete r0 v1 v2) := by
  unfold fX2_isIncomplete
  refine S_iconst (pc := 0) (v := (nI 0)) dX2_isIncomplete_0 kI_0 ?_
  refine Z_istore_n (pc := 1) (lv' := [some (.ref r0), some (.int v1), some (.int v2), some (.int (nI 0)), none]) dX2_isIncomplete_1 rfl rfl rfl ?_
  exact (sX2_isIncomplete_2 fuel r0 v1 v2 (nI 0))
theorem ktX2_isIncomplete (r0 : Nat) (v1 : Int32) (v2 : Int32) : Ct mX2_isIncomplete rI [.ref r0, .int v1, .int v2] (fX2_isIncomplete r0 v1 v2) := Ct.of (z := 2) pn_X2 rfl rfl rfl (sX2_isIncomplete r0 v1 v2)
def mX2_allowsField : MI := (yX2_allowsField, cX2_allowsField, 4, (some .boolean), { frames := 1, cells := 0, slots := 0, locals := 21 }, [])
theorem mw_X2_allowsField : MW mX2_allowsField 3 := ⟨w911, w3, ⟨by decide, by decide⟩, by decide +kernel⟩
theorem mv_X2_allowsField : MV mX2_allowsField 2 := ⟨_, rfl, w909, w910⟩
def fX2_allowsField  (r0 : Nat) (v1 : Int32) (v2 : Int32) (v3 : Int32) : AH → Option (Int32 × AH) := fun h =>
  if v3 < 0 then (
    rz (nI 0) (nI 0) h)
  else
  if (nI 3) < v3 then (
    rz (nI 0) (nI 0) h)
  else
  cv 2 r0 (fX2_isInterface r0 v1) h fun x_2 h =>
  if x_2 = 0 then (
    rz (nI 1) (nI 1) h)
  else
  if v2 = (nI 3) then (
    if v3 = (nI 3) then (
      rz (nI 1) (nI 1) h)
    else
    rz (nI 0) (nI 0) h)
  else
  rz (nI 0) (nI 0) h
theorem sX2_allowsField  (r0 : Nat) (v1 : Int32) (v2 : Int32) (v3 : Int32) : Sm mX2_allowsField rI 0 0 0 [some (.ref r0), some (.int v1), some (.int v2), some (.int v3)] [] (fX2_allowsField r0 v1 v2 v3) := by
  unfold fX2_allowsField
  refine S_iload_n (pc := 0) dX2_allowsField_0 rfl ?_
  refine S_iflt (pc := 1) (tgt := 31) dX2_allowsField_1 (by decide) ?_ ?_
  · refine S_iconst (pc := 31) (v := (nI 0)) dX2_allowsField_31 kI_0 ?_
    exact S_zret (pc := 32) ⟨rfl, rfl⟩ rfl rfl dX2_allowsField_32
  · refine S_iload_n (pc := 4) dX2_allowsField_4 rfl ?_
    refine S_iconst (pc := 5) (v := (nI 3)) dX2_allowsField_5 kI_3 ?_
    refine S_icmpgt (pc := 6) (tgt := 31) dX2_allowsField_6 (by decide) ?_ ?_
    · refine S_iconst (pc := 31) (v := (nI 0)) dX2_allowsField_31 kI_0 ?_
      exact S_zret (pc := 32) ⟨rfl, rfl⟩ rfl rfl dX2_allowsField_32
    · refine S_aload_n (pc := 9) dX2_allowsField_9 rfl ?_
      refine S_iload_n (pc := 10) dX2_allowsField_10 rfl ?_
      refine Y_Vi (pc := 11) (st := []) (kc' := 0) (ks' := 0) (ktX2_isInterface r0 v1) mw_X2_isInterface mv_X2_isInterface w378 (RO.mk rfl rfl rfl rfl) rfl rfl rfl dX2_allowsField_11 ⟨rfl, rfl⟩ (fun x_2 => ?_)
      refine S_ifeq (pc := 14) (tgt := 27) dX2_allowsField_14 (by decide) ?_ ?_
      · refine S_iconst (pc := 27) (v := (nI 1)) dX2_allowsField_27 kI_1 ?_
        refine S_goto (pc := 28) (tgt := 32) dX2_allowsField_28 (by decide) ?_
        exact S_zret (pc := 32) ⟨rfl, rfl⟩ rfl rfl dX2_allowsField_32
      · refine S_iload_n (pc := 17) dX2_allowsField_17 rfl ?_
        refine S_iconst (pc := 18) (v := (nI 3)) dX2_allowsField_18 kI_3 ?_
        refine S_icmpne (pc := 19) (tgt := 31) dX2_allowsField_19 (by decide) ?_ ?_
        · refine S_iconst (pc := 31) (v := (nI 0)) dX2_allowsField_31 kI_0 ?_
          exact S_zret (pc := 32) ⟨rfl, rfl⟩ rfl rfl dX2_allowsField_32
        · refine S_iload_n (pc := 22) dX2_allowsField_22 rfl ?_
          refine S_iconst (pc := 23) (v := (nI 3)) dX2_allowsField_23 kI_3 ?_
          refine S_icmpne (pc := 24) (tgt := 31) dX2_allowsField_24 (by decide) ?_ ?_
          · refine S_iconst (pc := 31) (v := (nI 0)) dX2_allowsField_31 kI_0 ?_
            exact S_zret (pc := 32) ⟨rfl, rfl⟩ rfl rfl dX2_allowsField_32
          · refine S_iconst (pc := 27) (v := (nI 1)) dX2_allowsField_27 kI_1 ?_
            refine S_goto (pc := 28) (tgt := 32) dX2_allowsField_28 (by decide) ?_
            exact S_zret (pc := 32) ⟨rfl, rfl⟩ rfl rfl dX2_allowsField_32
theorem ktX2_allowsField (r0 : Nat) (v1 : Int32) (v2 : Int32) (v3 : Int32) : Ct mX2_allowsField rI [.ref r0, .int v1, .int v2, .int v3] (fX2_allowsField r0 v1 v2 v3) := Ct.of (z := 0) pn_X2 rfl rfl rfl (sX2_allowsField r0 v1 v2 v3)
def mX2_allowsMethod : MI := (yX2_allowsMethod, cX2_allowsMethod, 4, (some .boolean), { frames := 1, cells := 0, slots := 0, locals := 21 }, [])
theorem mw_X2_allowsMethod : MW mX2_allowsMethod 3 := ⟨w932, w3, ⟨by decide, by decide⟩, by decide +kernel⟩
theorem mv_X2_allowsMethod : MV mX2_allowsMethod 2 := ⟨_, rfl, w930, w931⟩
def fX2_allowsMethod_37  (r0 : Nat) (v1 : Int32) (v2 : Int32) (v3 : Int32) : AH → Option (Int32 × AH) := fun h =>
  cv 2 r0 (fX2_isInterface r0 v1) h fun x_5 h =>
  if x_5 = 0 then (
    rz (nI 1) (nI 1) h)
  else
  if v2 = (nI 3) then (
    if (v3 &&& (nI 2)) = 0 then (
      rz (nI 1) (nI 1) h)
    else
    rz (nI 0) (nI 0) h)
  else
  rz (nI 0) (nI 0) h
def fX2_allowsMethod  (r0 : Nat) (v1 : Int32) (v2 : Int32) (v3 : Int32) : AH → Option (Int32 × AH) := fun h =>
  if v3 < 0 then (
    rz (nI 0) (nI 0) h)
  else
  if v3 ≤ (nI 7) then (
    if (v3 &&& (nI 4)) = 0 then (
      fX2_allowsMethod_37 r0 v1 v2 v3 h)
    else
    if v3 = (nI 4) then (
      if v2 = 0 then (
        rz (nI 0) (nI 0) h)
      else
      cv 2 r0 (fX2_isAbstract r0 v1) h fun x_6 h =>
      if x_6 = 0 then (
        rz (nI 0) (nI 0) h)
      else
      fX2_allowsMethod_37 r0 v1 v2 v3 h)
    else
    rz (nI 0) (nI 0) h)
  else
  rz (nI 0) (nI 0) h
theorem sX2_allowsMethod_37  (r0 : Nat) (v1 : Int32) (v2 : Int32) (v3 : Int32) : Sm mX2_allowsMethod rI 0 0 37 [some (.ref r0), some (.int v1), some (.int v2), some (.int v3)] [] (fX2_allowsMethod_37 r0 v1 v2 v3) := by
  unfold fX2_allowsMethod_37
  refine S_aload_n (pc := 37) dX2_allowsMethod_37 rfl ?_
  refine S_iload_n (pc := 38) dX2_allowsMethod_38 rfl ?_
  refine Y_Vi (pc := 39) (st := []) (kc' := 0) (ks' := 0) (ktX2_isInterface r0 v1) mw_X2_isInterface mv_X2_isInterface w378 (RO.mk rfl rfl rfl rfl) rfl rfl rfl dX2_allowsMethod_39 ⟨rfl, rfl⟩ (fun x_5 => ?_)
  refine S_ifeq (pc := 42) (tgt := 56) dX2_allowsMethod_42 (by decide) ?_ ?_
  · refine S_iconst (pc := 56) (v := (nI 1)) dX2_allowsMethod_56 kI_1 ?_
    refine S_goto (pc := 57) (tgt := 61) dX2_allowsMethod_57 (by decide) ?_
    exact S_zret (pc := 61) ⟨rfl, rfl⟩ rfl rfl dX2_allowsMethod_61
  · refine S_iload_n (pc := 45) dX2_allowsMethod_45 rfl ?_
    refine S_iconst (pc := 46) (v := (nI 3)) dX2_allowsMethod_46 kI_3 ?_
    refine S_icmpne (pc := 47) (tgt := 60) dX2_allowsMethod_47 (by decide) ?_ ?_
    · refine S_iconst (pc := 60) (v := (nI 0)) dX2_allowsMethod_60 kI_0 ?_
      exact S_zret (pc := 61) ⟨rfl, rfl⟩ rfl rfl dX2_allowsMethod_61
    · refine S_iload_n (pc := 50) dX2_allowsMethod_50 rfl ?_
      refine S_iconst (pc := 51) (v := (nI 2)) dX2_allowsMethod_51 kI_2 ?_
      refine S_iand (pc := 52) dX2_allowsMethod_52 ?_
      refine S_ifne (pc := 53) (tgt := 60) dX2_allowsMethod_53 (by decide) ?_ ?_
      · refine S_iconst (pc := 60) (v := (nI 0)) dX2_allowsMethod_60 kI_0 ?_
        exact S_zret (pc := 61) ⟨rfl, rfl⟩ rfl rfl dX2_allowsMethod_61
      · refine S_iconst (pc := 56) (v := (nI 1)) dX2_allowsMethod_56 kI_1 ?_
        refine S_goto (pc := 57) (tgt := 61) dX2_allowsMethod_57 (by decide) ?_
        exact S_zret (pc := 61) ⟨rfl, rfl⟩ rfl rfl dX2_allowsMethod_61
theorem sX2_allowsMethod  (r0 : Nat) (v1 : Int32) (v2 : Int32) (v3 : Int32) : Sm mX2_allowsMethod rI 0 0 0 [some (.ref r0), some (.int v1), some (.int v2), some (.int v3)] [] (fX2_allowsMethod r0 v1 v2 v3) := by
  unfold fX2_allowsMethod
  refine S_iload_n (pc := 0) dX2_allowsMethod_0 rfl ?_
  refine S_iflt (pc := 1) (tgt := 10) dX2_allowsMethod_1 (by decide) ?_ ?_
  · refine S_iconst (pc := 10) (v := (nI 0)) dX2_allowsMethod_10 kI_0 ?_
    exact S_zret (pc := 11) ⟨rfl, rfl⟩ rfl rfl dX2_allowsMethod_11
  · refine S_iload_n (pc := 4) dX2_allowsMethod_4 rfl ?_
    refine S_bipush (pc := 5) (v := (nI 7)) dX2_allowsMethod_5 kB_7 ?_
    refine S_icmple (pc := 7) (tgt := 12) dX2_allowsMethod_7 (by decide) ?_ ?_
    · refine S_iload_n (pc := 12) dX2_allowsMethod_12 rfl ?_
      refine S_iconst (pc := 13) (v := (nI 4)) dX2_allowsMethod_13 kI_4 ?_
      refine S_iand (pc := 14) dX2_allowsMethod_14 ?_
      refine S_ifeq (pc := 15) (tgt := 37) dX2_allowsMethod_15 (by decide) ?_ ?_
      · exact (sX2_allowsMethod_37 r0 v1 v2 v3)
      · refine S_iload_n (pc := 18) dX2_allowsMethod_18 rfl ?_
        refine S_iconst (pc := 19) (v := (nI 4)) dX2_allowsMethod_19 kI_4 ?_
        refine S_icmpne (pc := 20) (tgt := 35) dX2_allowsMethod_20 (by decide) ?_ ?_
        · refine S_iconst (pc := 35) (v := (nI 0)) dX2_allowsMethod_35 kI_0 ?_
          exact S_zret (pc := 36) ⟨rfl, rfl⟩ rfl rfl dX2_allowsMethod_36
        · refine S_iload_n (pc := 23) dX2_allowsMethod_23 rfl ?_
          refine S_ifeq (pc := 24) (tgt := 35) dX2_allowsMethod_24 (by decide) ?_ ?_
          · refine S_iconst (pc := 35) (v := (nI 0)) dX2_allowsMethod_35 kI_0 ?_
            exact S_zret (pc := 36) ⟨rfl, rfl⟩ rfl rfl dX2_allowsMethod_36
          · refine S_aload_n (pc := 27) dX2_allowsMethod_27 rfl ?_
            refine S_iload_n (pc := 28) dX2_allowsMethod_28 rfl ?_
            refine Y_Vi (pc := 29) (st := []) (kc' := 0) (ks' := 0) (ktX2_isAbstract r0 v1) mw_X2_isAbstract mv_X2_isAbstract w933 (RO.mk rfl rfl rfl rfl) rfl rfl rfl dX2_allowsMethod_29 ⟨rfl, rfl⟩ (fun x_6 => ?_)
            refine S_ifne (pc := 32) (tgt := 37) dX2_allowsMethod_32 (by decide) ?_ ?_
            · exact (sX2_allowsMethod_37 r0 v1 v2 v3)
            · refine S_iconst (pc := 35) (v := (nI 0)) dX2_allowsMethod_35 kI_0 ?_
              exact S_zret (pc := 36) ⟨rfl, rfl⟩ rfl rfl dX2_allowsMethod_36
    · refine S_iconst (pc := 10) (v := (nI 0)) dX2_allowsMethod_10 kI_0 ?_
      exact S_zret (pc := 11) ⟨rfl, rfl⟩ rfl rfl dX2_allowsMethod_11
theorem ktX2_allowsMethod (r0 : Nat) (v1 : Int32) (v2 : Int32) (v3 : Int32) : Ct mX2_allowsMethod rI [.ref r0, .int v1, .int v2, .int v3] (fX2_allowsMethod r0 v1 v2 v3) := Ct.of (z := 0) pn_X2 rfl rfl rfl (sX2_allowsMethod r0 v1 v2 v3)
def mX2_allowsMember : MI := (yX2_allowsMember, cX2_allowsMember, 3, (some .boolean), { frames := 2, cells := 0, slots := 0, locals := 44 }, [])
theorem mw_X2_allowsMember : MW mX2_allowsMember 2 := ⟨w985, w3, ⟨by decide, by decide⟩, by decide +kernel⟩
theorem mv_X2_allowsMember : MV mX2_allowsMember 2 := ⟨_, rfl, w983, w984⟩
def fX2_allowsMember  (r0 : Nat) (v1 : Int32) (v2 : Int32) : AH → Option (Int32 × AH) := fun h =>
  (gP 2 r0 10 h).bind fun a_18 =>
  (gP 4 a_18 4 h).bind fun a_19 =>
  (ldI a_19 v2 h).bind fun x_20 =>
  if x_20 = 0 then (
    (gP 2 r0 10 h).bind fun a_28 =>
    (gP 4 a_28 1 h).bind fun a_29 =>
    (ldI a_29 v2 h).bind fun x_30 =>
    (gP 2 r0 10 h).bind fun a_31 =>
    (gP 4 a_31 2 h).bind fun a_32 =>
    (ldI a_32 v2 h).bind fun x_33 =>
    cv 2 r0 (fX2_allowsField r0 v1 x_30 x_33) h fun x_34 h =>
    rz x_34 x_34 h)
  else
  (gP 2 r0 10 h).bind fun a_21 =>
  (gP 4 a_21 1 h).bind fun a_22 =>
  (ldI a_22 v2 h).bind fun x_23 =>
  (gP 2 r0 10 h).bind fun a_24 =>
  (gP 4 a_24 2 h).bind fun a_25 =>
  (ldI a_25 v2 h).bind fun x_26 =>
  cv 2 r0 (fX2_allowsMethod r0 v1 x_23 x_26) h fun x_27 h =>
  rz x_27 x_27 h
theorem sX2_allowsMember  (r0 : Nat) (v1 : Int32) (v2 : Int32) : Sm mX2_allowsMember rI 0 0 0 [some (.ref r0), some (.int v1), some (.int v2)] [] (fX2_allowsMember r0 v1 v2) := by
  unfold fX2_allowsMember
  refine S_aload_n (pc := 0) dX2_allowsMember_0 rfl ?_
  refine S_gP (pc := 1) fl_X2_46 rfl dX2_allowsMember_1 (fun a_18 => ?_)
  refine S_gP (pc := 4) fl_X2_101 rfl dX2_allowsMember_4 (fun a_19 => ?_)
  refine S_iload_n (pc := 7) dX2_allowsMember_7 rfl ?_
  refine S_ldI (pc := 8) dX2_allowsMember_8 (fun x_20 => ?_)
  refine S_ifne (pc := 9) (tgt := 38) dX2_allowsMember_9 (by decide) ?_ ?_
  · refine S_aload_n (pc := 38) dX2_allowsMember_38 rfl ?_
    refine S_iload_n (pc := 39) dX2_allowsMember_39 rfl ?_
    refine S_aload_n (pc := 40) dX2_allowsMember_40 rfl ?_
    refine S_gP (pc := 41) fl_X2_46 rfl dX2_allowsMember_41 (fun a_21 => ?_)
    refine S_gP (pc := 44) fl_X2_104 rfl dX2_allowsMember_44 (fun a_22 => ?_)
    refine S_iload_n (pc := 47) dX2_allowsMember_47 rfl ?_
    refine S_ldI (pc := 48) dX2_allowsMember_48 (fun x_23 => ?_)
    refine S_aload_n (pc := 49) dX2_allowsMember_49 rfl ?_
    refine S_gP (pc := 50) fl_X2_46 rfl dX2_allowsMember_50 (fun a_24 => ?_)
    refine S_gP (pc := 53) fl_X2_107 rfl dX2_allowsMember_53 (fun a_25 => ?_)
    refine S_iload_n (pc := 56) dX2_allowsMember_56 rfl ?_
    refine S_ldI (pc := 57) dX2_allowsMember_57 (fun x_26 => ?_)
    refine Y_Vi (pc := 58) (st := []) (kc' := 0) (ks' := 0) (ktX2_allowsMethod r0 v1 x_23 x_26) mw_X2_allowsMethod mv_X2_allowsMethod w987 (RO.mk rfl rfl rfl rfl) rfl rfl rfl dX2_allowsMember_58 ⟨rfl, rfl⟩ (fun x_27 => ?_)
    exact S_zret (pc := 61) ⟨rfl, rfl⟩ rfl rfl dX2_allowsMember_61
  · refine S_aload_n (pc := 12) dX2_allowsMember_12 rfl ?_
    refine S_iload_n (pc := 13) dX2_allowsMember_13 rfl ?_
    refine S_aload_n (pc := 14) dX2_allowsMember_14 rfl ?_
    refine S_gP (pc := 15) fl_X2_46 rfl dX2_allowsMember_15 (fun a_28 => ?_)
    refine S_gP (pc := 18) fl_X2_104 rfl dX2_allowsMember_18 (fun a_29 => ?_)
    refine S_iload_n (pc := 21) dX2_allowsMember_21 rfl ?_
    refine S_ldI (pc := 22) dX2_allowsMember_22 (fun x_30 => ?_)
    refine S_aload_n (pc := 23) dX2_allowsMember_23 rfl ?_
    refine S_gP (pc := 24) fl_X2_46 rfl dX2_allowsMember_24 (fun a_31 => ?_)
    refine S_gP (pc := 27) fl_X2_107 rfl dX2_allowsMember_27 (fun a_32 => ?_)
    refine S_iload_n (pc := 30) dX2_allowsMember_30 rfl ?_
    refine S_ldI (pc := 31) dX2_allowsMember_31 (fun x_33 => ?_)
    refine Y_Vi (pc := 32) (st := []) (kc' := 0) (ks' := 0) (ktX2_allowsField r0 v1 x_30 x_33) mw_X2_allowsField mv_X2_allowsField w986 (RO.mk rfl rfl rfl rfl) rfl rfl rfl dX2_allowsMember_32 ⟨rfl, rfl⟩ (fun x_34 => ?_)
    refine S_goto (pc := 35) (tgt := 61) dX2_allowsMember_35 (by decide) ?_
    exact S_zret (pc := 61) ⟨rfl, rfl⟩ rfl rfl dX2_allowsMember_61
theorem ktX2_allowsMember (r0 : Nat) (v1 : Int32) (v2 : Int32) : Ct mX2_allowsMember rI [.ref r0, .int v1, .int v2] (fX2_allowsMember r0 v1 v2) := Ct.of (z := 0) pn_X2 rfl rfl rfl (sX2_allowsMember r0 v1 v2)
def mX2_canHaveInterfaces : MI := (yX2_canHaveInterfaces, cX2_canHaveInterfaces, 4, (some .boolean), { frames := 0, cells := 0, slots := 0, locals := 0 }, [])
theorem mw_X2_canHaveInterfaces : MW mX2_canHaveInterfaces 2 := ⟨w788, w3, ⟨by decide, by decide⟩, by decide +kernel⟩
theorem mv_X2_canHaveInterfaces : MV mX2_canHaveInterfaces 2 := ⟨_, rfl, w786, w787⟩
def fX2_canHaveInterfaces  (r0 : Nat) (v1 : Int32) (v2 : Int32) : AH → Option (Int32 × AH) := fun h =>
  (gI 2 r0 1 h).bind fun x_2 =>
  if (v2 &&& ((x_2 &&& (((nI 1) <<< (v1 &&& 31)) - (nI 1))) ^^^ (-1 : Int32))) = 0 then (
    rz (nI 1) (nI 1) h)
  else
  rz (nI 0) (nI 0) h
theorem sX2_canHaveInterfaces  (r0 : Nat) (v1 : Int32) (v2 : Int32) : Sm mX2_canHaveInterfaces rI 0 0 0 [some (.ref r0), some (.int v1), some (.int v2), none] [] (fX2_canHaveInterfaces r0 v1 v2) := by
  unfold fX2_canHaveInterfaces
  refine S_iconst (pc := 0) (v := (nI 1)) dX2_canHaveInterfaces_0 kI_1 ?_
  refine S_iload_n (pc := 1) dX2_canHaveInterfaces_1 rfl ?_
  refine S_ishl (pc := 2) dX2_canHaveInterfaces_2 ?_
  refine S_iconst (pc := 3) (v := (nI 1)) dX2_canHaveInterfaces_3 kI_1 ?_
  refine S_isub (pc := 4) dX2_canHaveInterfaces_4 ?_
  refine Z_istore_n (pc := 5) (lv' := [some (.ref r0), some (.int v1), some (.int v2), some (.int (((nI 1) <<< (v1 &&& 31)) - (nI 1)))]) dX2_canHaveInterfaces_5 rfl rfl rfl ?_
  refine S_iload_n (pc := 6) dX2_canHaveInterfaces_6 rfl ?_
  refine S_aload_n (pc := 7) dX2_canHaveInterfaces_7 rfl ?_
  refine S_gI (pc := 8) fl_X2_15 rfl dX2_canHaveInterfaces_8 (fun x_2 => ?_)
  refine S_iload_n (pc := 11) dX2_canHaveInterfaces_11 rfl ?_
  refine S_iand (pc := 12) dX2_canHaveInterfaces_12 ?_
  refine S_iconst (pc := 13) (v := (-1 : Int32)) dX2_canHaveInterfaces_13 kI_m1 ?_
  refine S_ixor (pc := 14) dX2_canHaveInterfaces_14 ?_
  refine S_iand (pc := 15) dX2_canHaveInterfaces_15 ?_
  refine S_ifne (pc := 16) (tgt := 23) dX2_canHaveInterfaces_16 (by decide) ?_ ?_
  · refine S_iconst (pc := 23) (v := (nI 0)) dX2_canHaveInterfaces_23 kI_0 ?_
    exact S_zret (pc := 24) ⟨rfl, rfl⟩ rfl rfl dX2_canHaveInterfaces_24
  · refine S_iconst (pc := 19) (v := (nI 1)) dX2_canHaveInterfaces_19 kI_1 ?_
    refine S_goto (pc := 20) (tgt := 24) dX2_canHaveInterfaces_20 (by decide) ?_
    exact S_zret (pc := 24) ⟨rfl, rfl⟩ rfl rfl dX2_canHaveInterfaces_24
theorem ktX2_canHaveInterfaces (r0 : Nat) (v1 : Int32) (v2 : Int32) : Ct mX2_canHaveInterfaces rI [.ref r0, .int v1, .int v2] (fX2_canHaveInterfaces r0 v1 v2) := Ct.of (z := 1) pn_X2 rfl rfl rfl (sX2_canHaveInterfaces r0 v1 v2)
def mX2_canHaveSuperclass : MI := (yX2_canHaveSuperclass, cX2_canHaveSuperclass, 3, (some .boolean), { frames := 1, cells := 0, slots := 0, locals := 21 }, [])
theorem mw_X2_canHaveSuperclass : MW mX2_canHaveSuperclass 2 := ⟨w767, w3, ⟨by decide, by decide⟩, by decide +kernel⟩
theorem mv_X2_canHaveSuperclass : MV mX2_canHaveSuperclass 2 := ⟨_, rfl, w765, w766⟩
def fX2_canHaveSuperclass  (r0 : Nat) (v1 : Int32) (v2 : Int32) : AH → Option (Int32 × AH) := fun h =>
  if v1 ≤ v2 then (
    rz (nI 0) (nI 0) h)
  else
  cv 2 r0 (fX2_isThere r0 v2) h fun x_4 h =>
  if x_4 = 0 then (
    rz (nI 0) (nI 0) h)
  else
  cv 2 r0 (fX2_isInterface r0 v2) h fun x_5 h =>
  if x_5 = 0 then (
    cv 2 r0 (fX2_isFinal r0 v2) h fun x_6 h =>
    if x_6 = 0 then (
      rz (nI 1) (nI 1) h)
    else
    rz (nI 0) (nI 0) h)
  else
  rz (nI 0) (nI 0) h
theorem sX2_canHaveSuperclass  (r0 : Nat) (v1 : Int32) (v2 : Int32) : Sm mX2_canHaveSuperclass rI 0 0 0 [some (.ref r0), some (.int v1), some (.int v2)] [] (fX2_canHaveSuperclass r0 v1 v2) := by
  unfold fX2_canHaveSuperclass
  refine S_iload_n (pc := 0) dX2_canHaveSuperclass_0 rfl ?_
  refine S_iload_n (pc := 1) dX2_canHaveSuperclass_1 rfl ?_
  refine S_icmpge (pc := 2) (tgt := 33) dX2_canHaveSuperclass_2 (by decide) ?_ ?_
  · refine S_iconst (pc := 33) (v := (nI 0)) dX2_canHaveSuperclass_33 kI_0 ?_
    exact S_zret (pc := 34) ⟨rfl, rfl⟩ rfl rfl dX2_canHaveSuperclass_34
  · refine S_aload_n (pc := 5) dX2_canHaveSuperclass_5 rfl ?_
    refine S_iload_n (pc := 6) dX2_canHaveSuperclass_6 rfl ?_
    refine Y_Vi (pc := 7) (st := []) (kc' := 0) (ks' := 0) (ktX2_isThere r0 v2) mw_X2_isThere mv_X2_isThere w370 (RO.mk rfl rfl rfl rfl) rfl rfl rfl dX2_canHaveSuperclass_7 ⟨rfl, rfl⟩ (fun x_4 => ?_)
    refine S_ifeq (pc := 10) (tgt := 33) dX2_canHaveSuperclass_10 (by decide) ?_ ?_
    · refine S_iconst (pc := 33) (v := (nI 0)) dX2_canHaveSuperclass_33 kI_0 ?_
      exact S_zret (pc := 34) ⟨rfl, rfl⟩ rfl rfl dX2_canHaveSuperclass_34
    · refine S_aload_n (pc := 13) dX2_canHaveSuperclass_13 rfl ?_
      refine S_iload_n (pc := 14) dX2_canHaveSuperclass_14 rfl ?_
      refine Y_Vi (pc := 15) (st := []) (kc' := 0) (ks' := 0) (ktX2_isInterface r0 v2) mw_X2_isInterface mv_X2_isInterface w378 (RO.mk rfl rfl rfl rfl) rfl rfl rfl dX2_canHaveSuperclass_15 ⟨rfl, rfl⟩ (fun x_5 => ?_)
      refine S_ifne (pc := 18) (tgt := 33) dX2_canHaveSuperclass_18 (by decide) ?_ ?_
      · refine S_iconst (pc := 33) (v := (nI 0)) dX2_canHaveSuperclass_33 kI_0 ?_
        exact S_zret (pc := 34) ⟨rfl, rfl⟩ rfl rfl dX2_canHaveSuperclass_34
      · refine S_aload_n (pc := 21) dX2_canHaveSuperclass_21 rfl ?_
        refine S_iload_n (pc := 22) dX2_canHaveSuperclass_22 rfl ?_
        refine Y_Vi (pc := 23) (st := []) (kc' := 0) (ks' := 0) (ktX2_isFinal r0 v2) mw_X2_isFinal mv_X2_isFinal w768 (RO.mk rfl rfl rfl rfl) rfl rfl rfl dX2_canHaveSuperclass_23 ⟨rfl, rfl⟩ (fun x_6 => ?_)
        refine S_ifne (pc := 26) (tgt := 33) dX2_canHaveSuperclass_26 (by decide) ?_ ?_
        · refine S_iconst (pc := 33) (v := (nI 0)) dX2_canHaveSuperclass_33 kI_0 ?_
          exact S_zret (pc := 34) ⟨rfl, rfl⟩ rfl rfl dX2_canHaveSuperclass_34
        · refine S_iconst (pc := 29) (v := (nI 1)) dX2_canHaveSuperclass_29 kI_1 ?_
          refine S_goto (pc := 30) (tgt := 34) dX2_canHaveSuperclass_30 (by decide) ?_
          exact S_zret (pc := 34) ⟨rfl, rfl⟩ rfl rfl dX2_canHaveSuperclass_34
theorem ktX2_canHaveSuperclass (r0 : Nat) (v1 : Int32) (v2 : Int32) : Ct mX2_canHaveSuperclass rI [.ref r0, .int v1, .int v2] (fX2_canHaveSuperclass r0 v1 v2) := Ct.of (z := 0) pn_X2 rfl rfl rfl (sX2_canHaveSuperclass r0 v1 v2)
def mX2_copyFrom : MI := (yX2_copyFrom, cX2_copyFrom, 2, none, { frames := 2, cells := 0, slots := 0, locals := 47 }, [])
theorem mw_X2_copyFrom : MW mX2_copyFrom 1 := ⟨w417, w3, ⟨by decide, by decide⟩, by decide +kernel⟩
theorem mv_X2_copyFrom : MV mX2_copyFrom 2 := ⟨_, rfl, w415, w416⟩
def fX2_copyFrom  (r0 : Nat) (r1 : Nat) : AH → Option (Unit × AH) := fun h =>
  (gI 2 r1 0 h).bind fun x_18 =>
  (pI 2 r0 0 x_18 h).bind fun h =>
  (gI 2 r1 1 h).bind fun x_19 =>
  (pI 2 r0 1 x_19 h).bind fun h =>
  (gI 2 r1 2 h).bind fun x_20 =>
  (pI 2 r0 2 x_20 h).bind fun h =>
  (gI 2 r1 3 h).bind fun x_21 =>
  (pI 2 r0 3 x_21 h).bind fun h =>
  (gI 2 r1 4 h).bind fun x_22 =>
  (pI 2 r0 4 x_22 h).bind fun h =>
  (gP 2 r1 5 h).bind fun a_23 =>
  (gP 2 r0 5 h).bind fun a_24 =>
  (cpI a_23 (nI 0) a_24 (nI 0) (nI 10) h).bind fun h =>
  (gP 2 r1 6 h).bind fun a_25 =>
  (gP 2 r0 6 h).bind fun a_26 =>
  (cpI a_25 (nI 0) a_26 (nI 0) (nI 10) h).bind fun h =>
  (gP 2 r1 7 h).bind fun a_27 =>
  (gP 2 r0 7 h).bind fun a_28 =>
  (cpI a_27 (nI 0) a_28 (nI 0) (nI 10) h).bind fun h =>
  (gP 2 r1 8 h).bind fun a_29 =>
  (gP 2 r0 8 h).bind fun a_30 =>
  (cpI a_29 (nI 0) a_30 (nI 0) (nI 10) h).bind fun h =>
  (gP 2 r1 9 h).bind fun a_31 =>
  (gP 2 r0 9 h).bind fun a_32 =>
  (cpI a_31 (nI 0) a_32 (nI 0) (nI 10) h).bind fun h =>
  (gP 2 r0 10 h).bind fun a_33 =>
  (gP 2 r1 10 h).bind fun a_34 =>
  cv 4 a_33 (fX4_copyFrom a_33 a_34) h fun _ h =>
  some ((), h)
theorem sX2_copyFrom  (r0 : Nat) (r1 : Nat) : Sm mX2_copyFrom rV 0 0 0 [some (.ref r0), some (.ref r1)] [] (fX2_copyFrom r0 r1) := by
  unfold fX2_copyFrom
  refine S_aload_n (pc := 0) dX2_copyFrom_0 rfl ?_
  refine S_aload_n (pc := 1) dX2_copyFrom_1 rfl ?_
  refine S_gI (pc := 2) fl_X2_9 rfl dX2_copyFrom_2 (fun x_18 => ?_)
  refine S_pI (pc := 5) fl_X2_9 rfl rfl dX2_copyFrom_5 ?_
  refine S_aload_n (pc := 8) dX2_copyFrom_8 rfl ?_
  refine S_aload_n (pc := 9) dX2_copyFrom_9 rfl ?_
  refine S_gI (pc := 10) fl_X2_15 rfl dX2_copyFrom_10 (fun x_19 => ?_)
  refine S_pI (pc := 13) fl_X2_15 rfl rfl dX2_copyFrom_13 ?_
  refine S_aload_n (pc := 16) dX2_copyFrom_16 rfl ?_
  refine S_aload_n (pc := 17) dX2_copyFrom_17 rfl ?_
  refine S_gI (pc := 18) fl_X2_18 rfl dX2_copyFrom_18 (fun x_20 => ?_)
  refine S_pI (pc := 21) fl_X2_18 rfl rfl dX2_copyFrom_21 ?_
  refine S_aload_n (pc := 24) dX2_copyFrom_24 rfl ?_
  refine S_aload_n (pc := 25) dX2_copyFrom_25 rfl ?_
  refine S_gI (pc := 26) fl_X2_21 rfl dX2_copyFrom_26 (fun x_21 => ?_)
  refine S_pI (pc := 29) fl_X2_21 rfl rfl dX2_copyFrom_29 ?_
  refine S_aload_n (pc := 32) dX2_copyFrom_32 rfl ?_
  refine S_aload_n (pc := 33) dX2_copyFrom_33 rfl ?_
  refine S_gI (pc := 34) fl_X2_24 rfl dX2_copyFrom_34 (fun x_22 => ?_)
  refine S_pI (pc := 37) fl_X2_24 rfl rfl dX2_copyFrom_37 ?_
  refine S_aload_n (pc := 40) dX2_copyFrom_40 rfl ?_
  refine S_gP (pc := 41) fl_X2_27 rfl dX2_copyFrom_41 (fun a_23 => ?_)
  refine S_iconst (pc := 44) (v := (nI 0)) dX2_copyFrom_44 kI_0 ?_
  refine S_aload_n (pc := 45) dX2_copyFrom_45 rfl ?_
  refine S_gP (pc := 46) fl_X2_27 rfl dX2_copyFrom_46 (fun a_24 => ?_)
  refine S_iconst (pc := 49) (v := (nI 0)) dX2_copyFrom_49 kI_0 ?_
  refine S_bipush (pc := 50) (v := (nI 10)) dX2_copyFrom_50 kB_10 ?_
  refine S_cpI (pc := 52) w418 w420 w419 w10 ⟨rfl, rfl⟩ dX2_copyFrom_52 ?_
  refine S_aload_n (pc := 55) dX2_copyFrom_55 rfl ?_
  refine S_gP (pc := 56) fl_X2_31 rfl dX2_copyFrom_56 (fun a_25 => ?_)
  refine S_iconst (pc := 59) (v := (nI 0)) dX2_copyFrom_59 kI_0 ?_
  refine S_aload_n (pc := 60) dX2_copyFrom_60 rfl ?_
  refine S_gP (pc := 61) fl_X2_31 rfl dX2_copyFrom_61 (fun a_26 => ?_)
  refine S_iconst (pc := 64) (v := (nI 0)) dX2_copyFrom_64 kI_0 ?_
  refine S_bipush (pc := 65) (v := (nI 10)) dX2_copyFrom_65 kB_10 ?_
  refine S_cpI (pc := 67) w418 w420 w419 w10 ⟨rfl, rfl⟩ dX2_copyFrom_67 ?_
  refine S_aload_n (pc := 70) dX2_copyFrom_70 rfl ?_
  refine S_gP (pc := 71) fl_X2_34 rfl dX2_copyFrom_71 (fun a_27 => ?_)
  refine S_iconst (pc := 74) (v := (nI 0)) dX2_copyFrom_74 kI_0 ?_
  refine S_aload_n (pc := 75) dX2_copyFrom_75 rfl ?_
  refine S_gP (pc := 76) fl_X2_34 rfl dX2_copyFrom_76 (fun a_28 => ?_)
  refine S_iconst (pc := 79) (v := (nI 0)) dX2_copyFrom_79 kI_0 ?_
  refine S_bipush (pc := 80) (v := (nI 10)) dX2_copyFrom_80 kB_10 ?_
  refine S_cpI (pc := 82) w418 w420 w419 w10 ⟨rfl, rfl⟩ dX2_copyFrom_82 ?_
  refine S_aload_n (pc := 85) dX2_copyFrom_85 rfl ?_
  refine S_gP (pc := 86) fl_X2_37 rfl dX2_copyFrom_86 (fun a_29 => ?_)
  refine S_iconst (pc := 89) (v := (nI 0)) dX2_copyFrom_89 kI_0 ?_
  refine S_aload_n (pc := 90) dX2_copyFrom_90 rfl ?_
  refine S_gP (pc := 91) fl_X2_37 rfl dX2_copyFrom_91 (fun a_30 => ?_)
  refine S_iconst (pc := 94) (v := (nI 0)) dX2_copyFrom_94 kI_0 ?_
  refine S_bipush (pc := 95) (v := (nI 10)) dX2_copyFrom_95 kB_10 ?_
  refine S_cpI (pc := 97) w418 w420 w419 w10 ⟨rfl, rfl⟩ dX2_copyFrom_97 ?_
  refine S_aload_n (pc := 100) dX2_copyFrom_100 rfl ?_
  refine S_gP (pc := 101) fl_X2_40 rfl dX2_copyFrom_101 (fun a_31 => ?_)
  refine S_iconst (pc := 104) (v := (nI 0)) dX2_copyFrom_104 kI_0 ?_
  refine S_aload_n (pc := 105) dX2_copyFrom_105 rfl ?_
  refine S_gP (pc := 106) fl_X2_40 rfl dX2_copyFrom_106 (fun a_32 => ?_)
  refine S_iconst (pc := 109) (v := (nI 0)) dX2_copyFrom_109 kI_0 ?_
  refine S_bipush (pc := 110) (v := (nI 10)) dX2_copyFrom_110 kB_10 ?_
  refine S_cpI (pc := 112) w418 w420 w419 w10 ⟨rfl, rfl⟩ dX2_copyFrom_112 ?_
  refine S_aload_n (pc := 115) dX2_copyFrom_115 rfl ?_
  refine S_gP (pc := 116) fl_X2_46 rfl dX2_copyFrom_116 (fun a_33 => ?_)
  refine S_aload_n (pc := 119) dX2_copyFrom_119 rfl ?_
  refine S_gP (pc := 120) fl_X2_46 rfl dX2_copyFrom_120 (fun a_34 => ?_)
  refine Y_Vv (pc := 123) (st := []) (kc' := 0) (ks' := 0) (ktX4_copyFrom a_33 a_34) mw_X4_copyFrom mv_X4_copyFrom w421 (RO.mk rfl rfl rfl rfl) rfl rfl rfl dX2_copyFrom_123 ⟨rfl, rfl⟩ ?_
  exact S_vret (pc := 126) ⟨rfl, rfl⟩ rfl rfl dX2_copyFrom_126
theorem ktX2_copyFrom (r0 : Nat) (r1 : Nat) : Ct mX2_copyFrom rV [.ref r0, .ref r1] (fX2_copyFrom r0 r1) := Ct.of (z := 0) pn_X2 rfl rfl rfl (sX2_copyFrom r0 r1)
def mX2_deriveSupertypesOf : MI := (yX2_deriveSupertypesOf, cX2_deriveSupertypesOf, 4, none, { frames := 1, cells := 0, slots := 0, locals := 21 }, [])
theorem mw_X2_deriveSupertypesOf : MW mX2_deriveSupertypesOf 1 := ⟨w377, w3, ⟨by decide, by decide⟩, by decide +kernel⟩
theorem mv_X2_deriveSupertypesOf : MV mX2_deriveSupertypesOf 2 := ⟨_, rfl, w376, wp1⟩
def fX2_deriveSupertypesOf_113 (k80 : Nat → Int32 → Int32 → AH → Option (Unit × AH)) (r0 : Nat) (v1 : Int32) (v3 : Int32) : AH → Option (Unit × AH) := fun h =>
  k80 r0 v1 (v3 + (nI 1)) h
def bX2_deriveSupertypesOf_80  (k80 : Nat → Int32 → Int32 → AH → Option (Unit × AH)) (r0 : Nat) (v1 : Int32) (v3 : Int32) : AH → Option (Unit × AH) := fun h =>
  if v1 ≤ v3 then (
    some ((), h))
  else
  (gP 2 r0 7 h).bind fun a_39 =>
  (ldI a_39 v1 h).bind fun x_40 =>
  if ((x_40 >>> (v3 &&& 31)) &&& (nI 1)) = 0 then (
    fX2_deriveSupertypesOf_113 k80 r0 v1 v3 h)
  else
  (gP 2 r0 8 h).bind fun a_41 =>
  (ldI a_41 v1 h).bind fun x_42 =>
  (gP 2 r0 8 h).bind fun a_43 =>
  (ldI a_43 v3 h).bind fun x_44 =>
  (stI a_41 v1 (x_42 ||| x_44) h).bind fun h =>
  fX2_deriveSupertypesOf_113 k80 r0 v1 v3 h
def lX2_deriveSupertypesOf_80  : Nat → Nat → Int32 → Int32 → AH → Option (Unit × AH)
  | 0 => fun _ _ _ _ => none
  | n + 1 => bX2_deriveSupertypesOf_80 (lX2_deriveSupertypesOf_80 n)
def fX2_deriveSupertypesOf_78  (r0 : Nat) (v1 : Int32) : AH → Option (Unit × AH) := fun h =>
  lX2_deriveSupertypesOf_80 fuel r0 v1 (nI 0) h
def fX2_deriveSupertypesOf_76  (r0 : Nat) (v1 : Int32) (s0 : Nat) (s1 : Int32) (s2 : Int32) (s3 : Int32) : AH → Option (Unit × AH) := fun h =>
  (stI s0 s1 (s2 ||| s3) h).bind fun h =>
  fX2_deriveSupertypesOf_78 r0 v1 h
def fX2_deriveSupertypesOf  (r0 : Nat) (v1 : Int32) : AH → Option (Unit × AH) := fun h =>
  (gP 2 r0 6 h).bind fun a_45 =>
  (ldI a_45 v1 h).bind fun x_46 =>
  (gP 2 r0 8 h).bind fun a_47 =>
  (stI a_47 v1 (((nI 1) <<< (v1 &&& 31)) ||| (nI 1)) h).bind fun h =>
  (gP 2 r0 9 h).bind fun a_48 =>
  (stI a_48 v1 ((nI 1) <<< (v1 &&& 31)) h).bind fun h =>
  if x_46 < 0 then (
    fX2_deriveSupertypesOf_78 r0 v1 h)
  else
  if v1 ≤ x_46 then (
    fX2_deriveSupertypesOf_78 r0 v1 h)
  else
  (gP 2 r0 8 h).bind fun a_49 =>
  (ldI a_49 v1 h).bind fun x_50 =>
  (gP 2 r0 8 h).bind fun a_51 =>
  (ldI a_51 x_46 h).bind fun x_52 =>
  (stI a_49 v1 (x_50 ||| x_52) h).bind fun h =>
  (gP 2 r0 9 h).bind fun a_53 =>
  (ldI a_53 v1 h).bind fun x_54 =>
  cv 2 r0 (fX2_isInterface r0 v1) h fun x_55 h =>
  if x_55 = 0 then (
    (gP 2 r0 9 h).bind fun a_56 =>
    (ldI a_56 x_46 h).bind fun x_57 =>
    fX2_deriveSupertypesOf_76 r0 v1 a_53 v1 x_54 x_57 h)
  else
  fX2_deriveSupertypesOf_76 r0 v1 a_53 v1 x_54 (nI 0) h
theorem sX2_deriveSupertypesOf_113 {k80 : Nat → Int32 → Int32 → AH → Option (Unit × AH)} (h80 : ∀ (r0 : Nat) (v1 : Int32) (v3 : Int32), Sm mX2_deriveSupertypesOf rV 0 0 80 [some (.ref r0), some (.int v1), none, some (.int v3)] [] (k80 r0 v1 v3)) (r0 : Nat) (v1 : Int32) (v3 : Int32) : Sm mX2_deriveSupertypesOf rV 0 0 113 [some (.ref r0), some (.int v1), none, some (.int v3)] [] (fX2_deriveSupertypesOf_113 k80 r0 v1 v3) := by
  unfold fX2_deriveSupertypesOf_113
  refine Z_iinc (pc := 113) (v := (nI 1)) (lv' := [some (.ref r0), some (.int v1), none, some (.int (v3 + (nI 1)))]) dX2_deriveSupertypesOf_113 rfl kI_1 rfl rfl rfl ?_
  refine S_goto (pc := 116) (tgt := 80) dX2_deriveSupertypesOf_116 (by decide) ?_
  exact (h80 r0 v1 (v3 + (nI 1)))
theorem sbX2_deriveSupertypesOf_80  {k80 : Nat → Int32 → Int32 → AH → Option (Unit × AH)} (h80 : ∀ (r0 : Nat) (v1 : Int32) (v3 : Int32), Sm mX2_deriveSupertypesOf rV 0 0 80 [some (.ref r0), some (.int v1), none, some (.int v3)] [] (k80 r0 v1 v3)) (r0 : Nat) (v1 : Int32) (v3 : Int32) : Sm mX2_deriveSupertypesOf rV 0 0 80 [some (.ref r0), some (.int v1), none, some (.int v3)] [] (bX2_deriveSupertypesOf_80 k80 r0 v1 v3) := by
  unfold bX2_deriveSupertypesOf_80
  refine S_iload_n (pc := 80) dX2_deriveSupertypesOf_80 rfl ?_
  refine S_iload_n (pc := 81) dX2_deriveSupertypesOf_81 rfl ?_
  refine S_icmpge (pc := 82) (tgt := 119) dX2_deriveSupertypesOf_82 (by decide) ?_ ?_
  · exact S_vret (pc := 119) ⟨rfl, rfl⟩ rfl rfl dX2_deriveSupertypesOf_119
  · refine S_aload_n (pc := 85) dX2_deriveSupertypesOf_85 rfl ?_
    refine S_gP (pc := 86) fl_X2_34 rfl dX2_deriveSupertypesOf_86 (fun a_39 => ?_)
    refine S_iload_n (pc := 89) dX2_deriveSupertypesOf_89 rfl ?_
    refine S_ldI (pc := 90) dX2_deriveSupertypesOf_90 (fun x_40 => ?_)
    refine S_iload_n (pc := 91) dX2_deriveSupertypesOf_91 rfl ?_
    refine S_ishr (pc := 92) dX2_deriveSupertypesOf_92 ?_
    refine S_iconst (pc := 93) (v := (nI 1)) dX2_deriveSupertypesOf_93 kI_1 ?_
    refine S_iand (pc := 94) dX2_deriveSupertypesOf_94 ?_
    refine S_ifeq (pc := 95) (tgt := 113) dX2_deriveSupertypesOf_95 (by decide) ?_ ?_
    · exact (sX2_deriveSupertypesOf_113 h80 r0 v1 v3)
    · refine S_aload_n (pc := 98) dX2_deriveSupertypesOf_98 rfl ?_
      refine S_gP (pc := 99) fl_X2_37 rfl dX2_deriveSupertypesOf_99 (fun a_41 => ?_)
      refine S_iload_n (pc := 102) dX2_deriveSupertypesOf_102 rfl ?_
      refine S_dup2 (pc := 103) rfl rfl dX2_deriveSupertypesOf_103 ?_
      refine S_ldI (pc := 104) dX2_deriveSupertypesOf_104 (fun x_42 => ?_)
      refine S_aload_n (pc := 105) dX2_deriveSupertypesOf_105 rfl ?_
      refine S_gP (pc := 106) fl_X2_37 rfl dX2_deriveSupertypesOf_106 (fun a_43 => ?_)
      refine S_iload_n (pc := 109) dX2_deriveSupertypesOf_109 rfl ?_
      refine S_ldI (pc := 110) dX2_deriveSupertypesOf_110 (fun x_44 => ?_)
      refine S_ior (pc := 111) dX2_deriveSupertypesOf_111 ?_
      refine S_stI (pc := 112) dX2_deriveSupertypesOf_112 ?_
      exact (sX2_deriveSupertypesOf_113 h80 r0 v1 v3)
theorem sX2_deriveSupertypesOf_80  : ∀ (n : Nat) (r0 : Nat) (v1 : Int32) (v3 : Int32), Sm mX2_deriveSupertypesOf rV 0 0 80 [some (.ref r0), some (.int v1), none, some (.int v3)] [] (lX2_deriveSupertypesOf_80 n r0 v1 v3)
  | 0, _, _, _ => S_none
  | n + 1, r0, v1, v3 => sbX2_deriveSupertypesOf_80 (sX2_deriveSupertypesOf_80 n) r0 v1 v3
theorem sX2_deriveSupertypesOf_78  (r0 : Nat) (v1 : Int32) : Sm mX2_deriveSupertypesOf rV 0 0 78 [some (.ref r0), some (.int v1), none, none] [] (fX2_deriveSupertypesOf_78 r0 v1) := by
  unfold fX2_deriveSupertypesOf_78
  refine S_iconst (pc := 78) (v := (nI 0)) dX2_deriveSupertypesOf_78 kI_0 ?_
  refine Z_istore_n (pc := 79) (lv' := [some (.ref r0), some (.int v1), none, some (.int (nI 0))]) dX2_deriveSupertypesOf_79 rfl rfl rfl ?_
  exact (sX2_deriveSupertypesOf_80 fuel r0 v1 (nI 0))
theorem sX2_deriveSupertypesOf_76  (r0 : Nat) (v1 : Int32) (s0 : Nat) (s1 : Int32) (s2 : Int32) (s3 : Int32) : Sm mX2_deriveSupertypesOf rV 0 0 76 [some (.ref r0), some (.int v1), none, none] [.int s3, .int s2, .int s1, .ref s0] (fX2_deriveSupertypesOf_76 r0 v1 s0 s1 s2 s3) := by
  unfold fX2_deriveSupertypesOf_76
  refine S_ior (pc := 76) dX2_deriveSupertypesOf_76 ?_
  refine S_stI (pc := 77) dX2_deriveSupertypesOf_77 ?_
  exact (sX2_deriveSupertypesOf_78 r0 v1)
theorem sX2_deriveSupertypesOf  (r0 : Nat) (v1 : Int32) : Sm mX2_deriveSupertypesOf rV 0 0 0 [some (.ref r0), some (.int v1), none, none] [] (fX2_deriveSupertypesOf r0 v1) := by
  unfold fX2_deriveSupertypesOf
  refine S_aload_n (pc := 0) dX2_deriveSupertypesOf_0 rfl ?_
  refine S_gP (pc := 1) fl_X2_31 rfl dX2_deriveSupertypesOf_1 (fun a_45 => ?_)
  refine S_iload_n (pc := 4) dX2_deriveSupertypesOf_4 rfl ?_
  refine S_ldI (pc := 5) dX2_deriveSupertypesOf_5 (fun x_46 => ?_)
  refine Z_istore_n (pc := 6) (lv' := [some (.ref r0), some (.int v1), some (.int x_46), none]) dX2_deriveSupertypesOf_6 rfl rfl rfl ?_
  refine S_aload_n (pc := 7) dX2_deriveSupertypesOf_7 rfl ?_
  refine S_gP (pc := 8) fl_X2_37 rfl dX2_deriveSupertypesOf_8 (fun a_47 => ?_)
  refine S_iload_n (pc := 11) dX2_deriveSupertypesOf_11 rfl ?_
  refine S_iconst (pc := 12) (v := (nI 1)) dX2_deriveSupertypesOf_12 kI_1 ?_
  refine S_iload_n (pc := 13) dX2_deriveSupertypesOf_13 rfl ?_
  refine S_ishl (pc := 14) dX2_deriveSupertypesOf_14 ?_
  refine S_iconst (pc := 15) (v := (nI 1)) dX2_deriveSupertypesOf_15 kI_1 ?_
  refine S_ior (pc := 16) dX2_deriveSupertypesOf_16 ?_
  refine S_stI (pc := 17) dX2_deriveSupertypesOf_17 ?_
  refine S_aload_n (pc := 18) dX2_deriveSupertypesOf_18 rfl ?_
  refine S_gP (pc := 19) fl_X2_40 rfl dX2_deriveSupertypesOf_19 (fun a_48 => ?_)
  refine S_iload_n (pc := 22) dX2_deriveSupertypesOf_22 rfl ?_
  refine S_iconst (pc := 23) (v := (nI 1)) dX2_deriveSupertypesOf_23 kI_1 ?_
  refine S_iload_n (pc := 24) dX2_deriveSupertypesOf_24 rfl ?_
  refine S_ishl (pc := 25) dX2_deriveSupertypesOf_25 ?_
  refine S_stI (pc := 26) dX2_deriveSupertypesOf_26 ?_
  refine S_iload_n (pc := 27) dX2_deriveSupertypesOf_27 rfl ?_
  refine S_iflt (pc := 28) (tgt := 78) dX2_deriveSupertypesOf_28 (by decide) ?_ ?_
  · exact (S_lv (lv0 := [some (.ref r0), some (.int v1), none, none]) (And.intro rfl (And.intro rfl trivial)) (sX2_deriveSupertypesOf_78 r0 v1))
  · refine S_iload_n (pc := 31) dX2_deriveSupertypesOf_31 rfl ?_
    refine S_iload_n (pc := 32) dX2_deriveSupertypesOf_32 rfl ?_
    refine S_icmpge (pc := 33) (tgt := 78) dX2_deriveSupertypesOf_33 (by decide) ?_ ?_
    · exact (S_lv (lv0 := [some (.ref r0), some (.int v1), none, none]) (And.intro rfl (And.intro rfl trivial)) (sX2_deriveSupertypesOf_78 r0 v1))
    · refine S_aload_n (pc := 36) dX2_deriveSupertypesOf_36 rfl ?_
      refine S_gP (pc := 37) fl_X2_37 rfl dX2_deriveSupertypesOf_37 (fun a_49 => ?_)
      refine S_iload_n (pc := 40) dX2_deriveSupertypesOf_40 rfl ?_
      refine S_dup2 (pc := 41) rfl rfl dX2_deriveSupertypesOf_41 ?_
      refine S_ldI (pc := 42) dX2_deriveSupertypesOf_42 (fun x_50 => ?_)
      refine S_aload_n (pc := 43) dX2_deriveSupertypesOf_43 rfl ?_
      refine S_gP (pc := 44) fl_X2_37 rfl dX2_deriveSupertypesOf_44 (fun a_51 => ?_)
      refine S_iload_n (pc := 47) dX2_deriveSupertypesOf_47 rfl ?_
      refine S_ldI (pc := 48) dX2_deriveSupertypesOf_48 (fun x_52 => ?_)
      refine S_ior (pc := 49) dX2_deriveSupertypesOf_49 ?_
      refine S_stI (pc := 50) dX2_deriveSupertypesOf_50 ?_
      refine S_aload_n (pc := 51) dX2_deriveSupertypesOf_51 rfl ?_
      refine S_gP (pc := 52) fl_X2_40 rfl dX2_deriveSupertypesOf_52 (fun a_53 => ?_)
      refine S_iload_n (pc := 55) dX2_deriveSupertypesOf_55 rfl ?_
      refine S_dup2 (pc := 56) rfl rfl dX2_deriveSupertypesOf_56 ?_
      refine S_ldI (pc := 57) dX2_deriveSupertypesOf_57 (fun x_54 => ?_)
      refine S_aload_n (pc := 58) dX2_deriveSupertypesOf_58 rfl ?_
      refine S_iload_n (pc := 59) dX2_deriveSupertypesOf_59 rfl ?_
      refine Y_Vi (pc := 60) (st := [.int x_54, .int v1, .ref a_53]) (kc' := 0) (ks' := 0) (ktX2_isInterface r0 v1) mw_X2_isInterface mv_X2_isInterface w378 (RO.mk rfl rfl rfl rfl) rfl rfl rfl dX2_deriveSupertypesOf_60 ⟨rfl, rfl⟩ (fun x_55 => ?_)
      refine S_ifeq (pc := 63) (tgt := 70) dX2_deriveSupertypesOf_63 (by decide) ?_ ?_
      · refine S_aload_n (pc := 70) dX2_deriveSupertypesOf_70 rfl ?_
        refine S_gP (pc := 71) fl_X2_40 rfl dX2_deriveSupertypesOf_71 (fun a_56 => ?_)
        refine S_iload_n (pc := 74) dX2_deriveSupertypesOf_74 rfl ?_
        refine S_ldI (pc := 75) dX2_deriveSupertypesOf_75 (fun x_57 => ?_)
        exact (S_lv (lv0 := [some (.ref r0), some (.int v1), none, none]) (And.intro rfl (And.intro rfl trivial)) (sX2_deriveSupertypesOf_76 r0 v1 a_53 v1 x_54 x_57))
      · refine S_iconst (pc := 66) (v := (nI 0)) dX2_deriveSupertypesOf_66 kI_0 ?_
        refine S_goto (pc := 67) (tgt := 76) dX2_deriveSupertypesOf_67 (by decide) ?_
        exact (S_lv (lv0 := [some (.ref r0), some (.int v1), none, none]) (And.intro rfl (And.intro rfl trivial)) (sX2_deriveSupertypesOf_76 r0 v1 a_53 v1 x_54 (nI 0)))
theorem ktX2_deriveSupertypesOf (r0 : Nat) (v1 : Int32) : Ct mX2_deriveSupertypesOf rV [.ref r0, .int v1] (fX2_deriveSupertypesOf r0 v1) := Ct.of (z := 2) pn_X2 rfl rfl rfl (sX2_deriveSupertypesOf r0 v1)
def mX2_deriveSupertypes : MI := (yX2_deriveSupertypes, cX2_deriveSupertypes, 2, none, { frames := 2, cells := 0, slots := 0, locals := 44 }, [])
theorem mw_X2_deriveSupertypes : MW mX2_deriveSupertypes 0 := ⟨w369, w3, ⟨by decide, by decide⟩, by decide +kernel⟩
theorem mv_X2_deriveSupertypes : MV mX2_deriveSupertypes 2 := ⟨_, rfl, w368, wp0⟩
def fX2_deriveSupertypes_35 (k2 : Nat → Int32 → AH → Option (Unit × AH)) (r0 : Nat) (v1 : Int32) : AH → Option (Unit × AH) := fun h =>
  k2 r0 (v1 + (nI 1)) h
def bX2_deriveSupertypes_2  (k2 : Nat → Int32 → AH → Option (Unit × AH)) (r0 : Nat) (v1 : Int32) : AH → Option (Unit × AH) := fun h =>
  if (nI 10) ≤ v1 then (
    some ((), h))
  else
  (gP 2 r0 8 h).bind fun a_7 =>
  (stI a_7 v1 (nI 0) h).bind fun h =>
  (gP 2 r0 9 h).bind fun a_8 =>
  (stI a_8 v1 (nI 0) h).bind fun h =>
  cv 2 r0 (fX2_isThere r0 v1) h fun x_9 h =>
  if x_9 = 0 then (
    fX2_deriveSupertypes_35 k2 r0 v1 h)
  else
  cv 2 r0 (fX2_deriveSupertypesOf r0 v1) h fun _ h =>
  fX2_deriveSupertypes_35 k2 r0 v1 h
def lX2_deriveSupertypes_2  : Nat → Nat → Int32 → AH → Option (Unit × AH)
  | 0 => fun _ _ _ => none
  | n + 1 => bX2_deriveSupertypes_2 (lX2_deriveSupertypes_2 n)
def fX2_deriveSupertypes  (r0 : Nat) : AH → Option (Unit × AH) := fun h =>
  lX2_deriveSupertypes_2 fuel r0 (nI 0) h
theorem sX2_deriveSupertypes_35 {k2 : Nat → Int32 → AH → Option (Unit × AH)} (h2 : ∀ (r0 : Nat) (v1 : Int32), Sm mX2_deriveSupertypes rV 0 0 2 [some (.ref r0), some (.int v1)] [] (k2 r0 v1)) (r0 : Nat) (v1 : Int32) : Sm mX2_deriveSupertypes rV 0 0 35 [some (.ref r0), some (.int v1)] [] (fX2_deriveSupertypes_35 k2 r0 v1) := by
  unfold fX2_deriveSupertypes_35
  refine Z_iinc (pc := 35) (v := (nI 1)) (lv' := [some (.ref r0), some (.int (v1 + (nI 1)))]) dX2_deriveSupertypes_35 rfl kI_1 rfl rfl rfl ?_
  refine S_goto (pc := 38) (tgt := 2) dX2_deriveSupertypes_38 (by decide) ?_
  exact (h2 r0 (v1 + (nI 1)))
theorem sbX2_deriveSupertypes_2  {k2 : Nat → Int32 → AH → Option (Unit × AH)} (h2 : ∀ (r0 : Nat) (v1 : Int32), Sm mX2_deriveSupertypes rV 0 0 2 [some (.ref r0), some (.int v1)] [] (k2 r0 v1)) (r0 : Nat) (v1 : Int32) : Sm mX2_deriveSupertypes rV 0 0 2 [some (.ref r0), some (.int v1)] [] (bX2_deriveSupertypes_2 k2 r0 v1) := by
  unfold bX2_deriveSupertypes_2
  refine S_iload_n (pc := 2) dX2_deriveSupertypes_2 rfl ?_
  refine S_bipush (pc := 3) (v := (nI 10)) dX2_deriveSupertypes_3 kB_10 ?_
  refine S_icmpge (pc := 5) (tgt := 41) dX2_deriveSupertypes_5 (by decide) ?_ ?_
  · exact S_vret (pc := 41) ⟨rfl, rfl⟩ rfl rfl dX2_deriveSupertypes_41
  · refine S_aload_n (pc := 8) dX2_deriveSupertypes_8 rfl ?_
    refine S_gP (pc := 9) fl_X2_37 rfl dX2_deriveSupertypes_9 (fun a_7 => ?_)
    refine S_iload_n (pc := 12) dX2_deriveSupertypes_12 rfl ?_
    refine S_iconst (pc := 13) (v := (nI 0)) dX2_deriveSupertypes_13 kI_0 ?_
    refine S_stI (pc := 14) dX2_deriveSupertypes_14 ?_
    refine S_aload_n (pc := 15) dX2_deriveSupertypes_15 rfl ?_
    refine S_gP (pc := 16) fl_X2_40 rfl dX2_deriveSupertypes_16 (fun a_8 => ?_)
    refine S_iload_n (pc := 19) dX2_deriveSupertypes_19 rfl ?_
    refine S_iconst (pc := 20) (v := (nI 0)) dX2_deriveSupertypes_20 kI_0 ?_
    refine S_stI (pc := 21) dX2_deriveSupertypes_21 ?_
    refine S_aload_n (pc := 22) dX2_deriveSupertypes_22 rfl ?_
    refine S_iload_n (pc := 23) dX2_deriveSupertypes_23 rfl ?_
    refine Y_Vi (pc := 24) (st := []) (kc' := 0) (ks' := 0) (ktX2_isThere r0 v1) mw_X2_isThere mv_X2_isThere w370 (RO.mk rfl rfl rfl rfl) rfl rfl rfl dX2_deriveSupertypes_24 ⟨rfl, rfl⟩ (fun x_9 => ?_)
    refine S_ifeq (pc := 27) (tgt := 35) dX2_deriveSupertypes_27 (by decide) ?_ ?_
    · exact (sX2_deriveSupertypes_35 h2 r0 v1)
    · refine S_aload_n (pc := 30) dX2_deriveSupertypes_30 rfl ?_
      refine S_iload_n (pc := 31) dX2_deriveSupertypes_31 rfl ?_
      refine Y_Vv (pc := 32) (st := []) (kc' := 0) (ks' := 0) (ktX2_deriveSupertypesOf r0 v1) mw_X2_deriveSupertypesOf mv_X2_deriveSupertypesOf w374 (RO.mk rfl rfl rfl rfl) rfl rfl rfl dX2_deriveSupertypes_32 ⟨rfl, rfl⟩ ?_
      exact (sX2_deriveSupertypes_35 h2 r0 v1)
theorem sX2_deriveSupertypes_2  : ∀ (n : Nat) (r0 : Nat) (v1 : Int32), Sm mX2_deriveSupertypes rV 0 0 2 [some (.ref r0), some (.int v1)] [] (lX2_deriveSupertypes_2 n r0 v1)
  | 0, _, _ => S_none
  | n + 1, r0, v1 => sbX2_deriveSupertypes_2 (sX2_deriveSupertypes_2 n) r0 v1
theorem sX2_deriveSupertypes  (r0 : Nat) : Sm mX2_deriveSupertypes rV 0 0 0 [some (.ref r0), none] [] (fX2_deriveSupertypes r0) := by
  unfold fX2_deriveSupertypes
  refine S_iconst (pc := 0) (v := (nI 0)) dX2_deriveSupertypes_0 kI_0 ?_
  refine Z_istore_n (pc := 1) (lv' := [some (.ref r0), some (.int (nI 0))]) dX2_deriveSupertypes_1 rfl rfl rfl ?_
  exact (sX2_deriveSupertypes_2 fuel r0 (nI 0))
theorem ktX2_deriveSupertypes (r0 : Nat) : Ct mX2_deriveSupertypes rV [.ref r0] (fX2_deriveSupertypes r0) := Ct.of (z := 1) pn_X2 rfl rfl rfl (sX2_deriveSupertypes r0)
def mX2_hasMember : MI := (yX2_hasMember, cX2_hasMember, 2, (some .boolean), { frames := 0, cells := 0, slots := 0, locals := 0 }, [])
theorem mw_X2_hasMember : MW mX2_hasMember 1 := ⟨w955, w3, ⟨by decide, by decide⟩, by decide +kernel⟩
theorem mv_X2_hasMember : MV mX2_hasMember 2 := ⟨_, rfl, w953, w954⟩
def fX2_hasMember  (r0 : Nat) (v1 : Int32) : AH → Option (Int32 × AH) := fun h =>
  if v1 < 0 then (
    rz (nI 0) (nI 0) h)
  else
  (gP 2 r0 10 h).bind fun a_3 =>
  (gI 4 a_3 0 h).bind fun x_4 =>
  if x_4 ≤ v1 then (
    rz (nI 0) (nI 0) h)
  else
  rz (nI 1) (nI 1) h
theorem sX2_hasMember  (r0 : Nat) (v1 : Int32) : Sm mX2_hasMember rI 0 0 0 [some (.ref r0), some (.int v1)] [] (fX2_hasMember r0 v1) := by
  unfold fX2_hasMember
  refine S_iload_n (pc := 0) dX2_hasMember_0 rfl ?_
  refine S_iflt (pc := 1) (tgt := 19) dX2_hasMember_1 (by decide) ?_ ?_
  · refine S_iconst (pc := 19) (v := (nI 0)) dX2_hasMember_19 kI_0 ?_
    exact S_zret (pc := 20) ⟨rfl, rfl⟩ rfl rfl dX2_hasMember_20
  · refine S_iload_n (pc := 4) dX2_hasMember_4 rfl ?_
    refine S_aload_n (pc := 5) dX2_hasMember_5 rfl ?_
    refine S_gP (pc := 6) fl_X2_46 rfl dX2_hasMember_6 (fun a_3 => ?_)
    refine S_gI (pc := 9) fl_X2_53 rfl dX2_hasMember_9 (fun x_4 => ?_)
    refine S_icmpge (pc := 12) (tgt := 19) dX2_hasMember_12 (by decide) ?_ ?_
    · refine S_iconst (pc := 19) (v := (nI 0)) dX2_hasMember_19 kI_0 ?_
      exact S_zret (pc := 20) ⟨rfl, rfl⟩ rfl rfl dX2_hasMember_20
    · refine S_iconst (pc := 15) (v := (nI 1)) dX2_hasMember_15 kI_1 ?_
      refine S_goto (pc := 16) (tgt := 20) dX2_hasMember_16 (by decide) ?_
      exact S_zret (pc := 20) ⟨rfl, rfl⟩ rfl rfl dX2_hasMember_20
theorem ktX2_hasMember (r0 : Nat) (v1 : Int32) : Ct mX2_hasMember rI [.ref r0, .int v1] (fX2_hasMember r0 v1) := Ct.of (z := 0) pn_X2 rfl rfl rfl (sX2_hasMember r0 v1)
def mX2_init : MI := (yX2_init, cX2_init, 1, none, { frames := 2, cells := 19, slots := 553, locals := 40 }, [])
theorem mw_X2_init : MW mX2_init 0 := ⟨w40, w3, ⟨by decide, by decide⟩, by decide +kernel⟩
def fX2_init  (r0 : Nat) : AH → Option (Unit × AH) := fun h =>
  (pI 2 r0 0 (nI 0) h).bind fun h =>
  (pI 2 r0 1 (nI 0) h).bind fun h =>
  (pI 2 r0 2 (nI 0) h).bind fun h =>
  (pI 2 r0 3 (nI 0) h).bind fun h =>
  (pI 2 r0 4 (nI 0) h).bind fun h =>
  bd (nwI (nI 10) h) fun a_8 h =>
  (pP 2 r0 5 a_8 h).bind fun h =>
  bd (nwI (nI 10) h) fun a_9 h =>
  (pP 2 r0 6 a_9 h).bind fun h =>
  bd (nwI (nI 10) h) fun a_10 h =>
  (pP 2 r0 7 a_10 h).bind fun h =>
  bd (nwI (nI 10) h) fun a_11 h =>
  (pP 2 r0 8 a_11 h).bind fun h =>
  bd (nwI (nI 10) h) fun a_12 h =>
  (pP 2 r0 9 a_12 h).bind fun h =>
  bd (nwO 4 h) fun a_13 h =>
  bd (fX4_init a_13 h) fun _ h =>
  (pP 2 r0 10 a_13 h).bind fun h =>
  bd (nwI (nI 10) h) fun a_14 h =>
  (pP 2 r0 11 a_14 h).bind fun h =>
  some ((), h)
theorem sX2_init  (r0 : Nat) : Sm mX2_init rV 0 0 0 [some (.ref r0)] [] (fX2_init r0) := by
  unfold fX2_init
  refine S_aload_n (pc := 0) dX2_init_0 rfl ?_
  refine S_obj (pc := 1) w41 w25 w26 ⟨rfl, rfl⟩ dX2_init_1 ?_
  refine S_aload_n (pc := 4) dX2_init_4 rfl ?_
  refine S_iconst (pc := 5) (v := (nI 0)) dX2_init_5 kI_0 ?_
  refine S_pI (pc := 6) fl_X2_9 rfl rfl dX2_init_6 ?_
  refine S_aload_n (pc := 9) dX2_init_9 rfl ?_
  refine S_iconst (pc := 10) (v := (nI 0)) dX2_init_10 kI_0 ?_
  refine S_pI (pc := 11) fl_X2_15 rfl rfl dX2_init_11 ?_
  refine S_aload_n (pc := 14) dX2_init_14 rfl ?_
  refine S_iconst (pc := 15) (v := (nI 0)) dX2_init_15 kI_0 ?_
  refine S_pI (pc := 16) fl_X2_18 rfl rfl dX2_init_16 ?_
  refine S_aload_n (pc := 19) dX2_init_19 rfl ?_
  refine S_iconst (pc := 20) (v := (nI 0)) dX2_init_20 kI_0 ?_
  refine S_pI (pc := 21) fl_X2_21 rfl rfl dX2_init_21 ?_
  refine S_aload_n (pc := 24) dX2_init_24 rfl ?_
  refine S_iconst (pc := 25) (v := (nI 0)) dX2_init_25 kI_0 ?_
  refine S_pI (pc := 26) fl_X2_24 rfl rfl dX2_init_26 ?_
  refine S_aload_n (pc := 29) dX2_init_29 rfl ?_
  refine S_bipush (pc := 30) (v := (nI 10)) dX2_init_30 kB_10 ?_
  refine S_nwI (pc := 32) (N := 10) w119 (by decide) ⟨rfl, rfl, rfl⟩ dX2_init_32 (fun a_8 => ?_)
  refine S_pF (pc := 34) fl_X2_27 rfl rfl rfl (fun r hr => by cases hr; rfl) dX2_init_34 ?_
  refine S_aload_n (pc := 37) dX2_init_37 rfl ?_
  refine S_bipush (pc := 38) (v := (nI 10)) dX2_init_38 kB_10 ?_
  refine S_nwI (pc := 40) (N := 10) w119 (by decide) ⟨rfl, rfl, rfl⟩ dX2_init_40 (fun a_9 => ?_)
  refine S_pF (pc := 42) fl_X2_31 rfl rfl rfl (fun r hr => by cases hr; rfl) dX2_init_42 ?_
  refine S_aload_n (pc := 45) dX2_init_45 rfl ?_
  refine S_bipush (pc := 46) (v := (nI 10)) dX2_init_46 kB_10 ?_
  refine S_nwI (pc := 48) (N := 10) w119 (by decide) ⟨rfl, rfl, rfl⟩ dX2_init_48 (fun a_10 => ?_)
  refine S_pF (pc := 50) fl_X2_34 rfl rfl rfl (fun r hr => by cases hr; rfl) dX2_init_50 ?_
  refine S_aload_n (pc := 53) dX2_init_53 rfl ?_
  refine S_bipush (pc := 54) (v := (nI 10)) dX2_init_54 kB_10 ?_
  refine S_nwI (pc := 56) (N := 10) w119 (by decide) ⟨rfl, rfl, rfl⟩ dX2_init_56 (fun a_11 => ?_)
  refine S_pF (pc := 58) fl_X2_37 rfl rfl rfl (fun r hr => by cases hr; rfl) dX2_init_58 ?_
  refine S_aload_n (pc := 61) dX2_init_61 rfl ?_
  refine S_bipush (pc := 62) (v := (nI 10)) dX2_init_62 kB_10 ?_
  refine S_nwI (pc := 64) (N := 10) w119 (by decide) ⟨rfl, rfl, rfl⟩ dX2_init_64 (fun a_12 => ?_)
  refine S_pF (pc := 66) fl_X2_40 rfl rfl rfl (fun r hr => by cases hr; rfl) dX2_init_66 ?_
  refine S_aload_n (pc := 69) dX2_init_69 rfl ?_
  refine S_new (pc := 70) (c := 4) rfl w42 w43 w4 ⟨rfl, rfl⟩ dX2_init_70 (fun a_13 => ?_)
  refine S_dup (pc := 73) rfl dX2_init_73 ?_
  refine Y_IN (pc := 74) (st := [.ref a_13, .ref r0]) (kc' := 18) (ks' := 543) (ktX4_init a_13) mw_X4_init rfl rfl w45 nw_X2_45_X4_init (RO.mk rfl rfl rfl rfl) rfl rfl rfl dX2_init_74 ⟨rfl, rfl⟩ ?_
  refine S_pF (pc := 77) fl_X2_46 rfl rfl rfl (fun r hr => by cases hr; rfl) dX2_init_77 ?_
  refine S_aload_n (pc := 80) dX2_init_80 rfl ?_
  refine S_bipush (pc := 81) (v := (nI 10)) dX2_init_81 kB_10 ?_
  refine S_nwI (pc := 83) (N := 10) w119 (by decide) ⟨rfl, rfl, rfl⟩ dX2_init_83 (fun a_14 => ?_)
  refine S_pF (pc := 85) fl_X2_50 rfl rfl rfl (fun r hr => by cases hr; rfl) dX2_init_85 ?_
  exact S_vret (pc := 88) ⟨rfl, rfl⟩ rfl rfl dX2_init_88
theorem ktX2_init (r0 : Nat) : Ct mX2_init rV [.ref r0] (fX2_init r0) := Ct.of (z := 0) pn_X2 rfl rfl rfl (sX2_init r0)
def mX2_isSuperclass : MI := (yX2_isSuperclass, cX2_isSuperclass, 3, (some .boolean), { frames := 1, cells := 0, slots := 0, locals := 21 }, [])
theorem mw_X2_isSuperclass : MW mX2_isSuperclass 1 := ⟨w828, w3, ⟨by decide, by decide⟩, by decide +kernel⟩
theorem mv_X2_isSuperclass : MV mX2_isSuperclass 2 := ⟨_, rfl, w826, w827⟩
def fX2_isSuperclass_30 (k4 : Nat → Int32 → Int32 → AH → Option (Int32 × AH)) (r0 : Nat) (v1 : Int32) (v2 : Int32) : AH → Option (Int32 × AH) := fun h =>
  k4 r0 v1 (v2 + (nI 1)) h
def bX2_isSuperclass_4  (k4 : Nat → Int32 → Int32 → AH → Option (Int32 × AH)) (r0 : Nat) (v1 : Int32) (v2 : Int32) : AH → Option (Int32 × AH) := fun h =>
  if (nI 10) ≤ v2 then (
    rz (nI 0) (nI 0) h)
  else
  cv 2 r0 (fX2_isThere r0 v2) h fun x_7 h =>
  if x_7 = 0 then (
    fX2_isSuperclass_30 k4 r0 v1 v2 h)
  else
  (gP 2 r0 6 h).bind fun a_8 =>
  (ldI a_8 v2 h).bind fun x_9 =>
  if x_9 = v1 then (
    rz (nI 1) (nI 1) h)
  else
  fX2_isSuperclass_30 k4 r0 v1 v2 h
def lX2_isSuperclass_4  : Nat → Nat → Int32 → Int32 → AH → Option (Int32 × AH)
  | 0 => fun _ _ _ _ => none
  | n + 1 => bX2_isSuperclass_4 (lX2_isSuperclass_4 n)
def fX2_isSuperclass  (r0 : Nat) (v1 : Int32) : AH → Option (Int32 × AH) := fun h =>
  lX2_isSuperclass_4 fuel r0 v1 (v1 + (nI 1)) h
theorem sX2_isSuperclass_30 {k4 : Nat → Int32 → Int32 → AH → Option (Int32 × AH)} (h4 : ∀ (r0 : Nat) (v1 : Int32) (v2 : Int32), Sm mX2_isSuperclass rI 0 0 4 [some (.ref r0), some (.int v1), some (.int v2)] [] (k4 r0 v1 v2)) (r0 : Nat) (v1 : Int32) (v2 : Int32) : Sm mX2_isSuperclass rI 0 0 30 [some (.ref r0), some (.int v1), some (.int v2)] [] (fX2_isSuperclass_30 k4 r0 v1 v2) := by
  unfold fX2_isSuperclass_30
  refine Z_iinc (pc := 30) (v := (nI 1)) (lv' := [some (.ref r0), some (.int v1), some (.int (v2 + (nI 1)))]) dX2_isSuperclass_30 rfl kI_1 rfl rfl rfl ?_
  refine S_goto (pc := 33) (tgt := 4) dX2_isSuperclass_33 (by decide) ?_
  exact (h4 r0 v1 (v2 + (nI 1)))
theorem sbX2_isSuperclass_4  {k4 : Nat → Int32 → Int32 → AH → Option (Int32 × AH)} (h4 : ∀ (r0 : Nat) (v1 : Int32) (v2 : Int32), Sm mX2_isSuperclass rI 0 0 4 [some (.ref r0), some (.int v1), some (.int v2)] [] (k4 r0 v1 v2)) (r0 : Nat) (v1 : Int32) (v2 : Int32) : Sm mX2_isSuperclass rI 0 0 4 [some (.ref r0), some (.int v1), some (.int v2)] [] (bX2_isSuperclass_4 k4 r0 v1 v2) := by
  unfold bX2_isSuperclass_4
  refine S_iload_n (pc := 4) dX2_isSuperclass_4 rfl ?_
  refine S_bipush (pc := 5) (v := (nI 10)) dX2_isSuperclass_5 kB_10 ?_
  refine S_icmpge (pc := 7) (tgt := 36) dX2_isSuperclass_7 (by decide) ?_ ?_
  · refine S_iconst (pc := 36) (v := (nI 0)) dX2_isSuperclass_36 kI_0 ?_
    exact S_zret (pc := 37) ⟨rfl, rfl⟩ rfl rfl dX2_isSuperclass_37
  · refine S_aload_n (pc := 10) dX2_isSuperclass_10 rfl ?_
    refine S_iload_n (pc := 11) dX2_isSuperclass_11 rfl ?_
    refine Y_Vi (pc := 12) (st := []) (kc' := 0) (ks' := 0) (ktX2_isThere r0 v2) mw_X2_isThere mv_X2_isThere w370 (RO.mk rfl rfl rfl rfl) rfl rfl rfl dX2_isSuperclass_12 ⟨rfl, rfl⟩ (fun x_7 => ?_)
    refine S_ifeq (pc := 15) (tgt := 30) dX2_isSuperclass_15 (by decide) ?_ ?_
    · exact (sX2_isSuperclass_30 h4 r0 v1 v2)
    · refine S_aload_n (pc := 18) dX2_isSuperclass_18 rfl ?_
      refine S_gP (pc := 19) fl_X2_31 rfl dX2_isSuperclass_19 (fun a_8 => ?_)
      refine S_iload_n (pc := 22) dX2_isSuperclass_22 rfl ?_
      refine S_ldI (pc := 23) dX2_isSuperclass_23 (fun x_9 => ?_)
      refine S_iload_n (pc := 24) dX2_isSuperclass_24 rfl ?_
      refine S_icmpne (pc := 25) (tgt := 30) dX2_isSuperclass_25 (by decide) ?_ ?_
      · exact (sX2_isSuperclass_30 h4 r0 v1 v2)
      · refine S_iconst (pc := 28) (v := (nI 1)) dX2_isSuperclass_28 kI_1 ?_
        exact S_zret (pc := 29) ⟨rfl, rfl⟩ rfl rfl dX2_isSuperclass_29
theorem sX2_isSuperclass_4  : ∀ (n : Nat) (r0 : Nat) (v1 : Int32) (v2 : Int32), Sm mX2_isSuperclass rI 0 0 4 [some (.ref r0), some (.int v1), some (.int v2)] [] (lX2_isSuperclass_4 n r0 v1 v2)
  | 0, _, _, _ => S_none
  | n + 1, r0, v1, v2 => sbX2_isSuperclass_4 (sX2_isSuperclass_4 n) r0 v1 v2
theorem sX2_isSuperclass  (r0 : Nat) (v1 : Int32) : Sm mX2_isSuperclass rI 0 0 0 [some (.ref r0), some (.int v1), none] [] (fX2_isSuperclass r0 v1) := by
  unfold fX2_isSuperclass
  refine S_iload_n (pc := 0) dX2_isSuperclass_0 rfl ?_
  refine S_iconst (pc := 1) (v := (nI 1)) dX2_isSuperclass_1 kI_1 ?_
  refine S_iadd (pc := 2) dX2_isSuperclass_2 ?_
  refine Z_istore_n (pc := 3) (lv' := [some (.ref r0), some (.int v1), some (.int (v1 + (nI 1)))]) dX2_isSuperclass_3 rfl rfl rfl ?_
  exact (sX2_isSuperclass_4 fuel r0 v1 (v1 + (nI 1)))
theorem ktX2_isSuperclass (r0 : Nat) (v1 : Int32) : Ct mX2_isSuperclass rI [.ref r0, .int v1] (fX2_isSuperclass r0 v1) := Ct.of (z := 1) pn_X2 rfl rfl rfl (sX2_isSuperclass r0 v1)
def mX2_isSuperinterface : MI := (yX2_isSuperinterface, cX2_isSuperinterface, 3, (some .boolean), { frames := 1, cells := 0, slots := 0, locals := 21 }, [])
theorem mw_X2_isSuperinterface : MW mX2_isSuperinterface 1 := ⟨w832, w3, ⟨by decide, by decide⟩, by decide +kernel⟩
theorem mv_X2_isSuperinterface : MV mX2_isSuperinterface 2 := ⟨_, rfl, w830, w831⟩
def fX2_isSuperinterface_33 (k4 : Nat → Int32 → Int32 → AH → Option (Int32 × AH)) (r0 : Nat) (v1 : Int32) (v2 : Int32) : AH → Option (Int32 × AH) := fun h =>
  k4 r0 v1 (v2 + (nI 1)) h
def bX2_isSuperinterface_4  (k4 : Nat → Int32 → Int32 → AH → Option (Int32 × AH)) (r0 : Nat) (v1 : Int32) (v2 : Int32) : AH → Option (Int32 × AH) := fun h =>
  if (nI 10) ≤ v2 then (
    rz (nI 0) (nI 0) h)
  else
  cv 2 r0 (fX2_isThere r0 v2) h fun x_7 h =>
  if x_7 = 0 then (
    fX2_isSuperinterface_33 k4 r0 v1 v2 h)
  else
  (gP 2 r0 7 h).bind fun a_8 =>
  (ldI a_8 v2 h).bind fun x_9 =>
  if ((x_9 >>> (v1 &&& 31)) &&& (nI 1)) = 0 then (
    fX2_isSuperinterface_33 k4 r0 v1 v2 h)
  else
  rz (nI 1) (nI 1) h
def lX2_isSuperinterface_4  : Nat → Nat → Int32 → Int32 → AH → Option (Int32 × AH)
  | 0 => fun _ _ _ _ => none
  | n + 1 => bX2_isSuperinterface_4 (lX2_isSuperinterface_4 n)
def fX2_isSuperinterface  (r0 : Nat) (v1 : Int32) : AH → Option (Int32 × AH) := fun h =>
  lX2_isSuperinterface_4 fuel r0 v1 (v1 + (nI 1)) h
theorem sX2_isSuperinterface_33 {k4 : Nat → Int32 → Int32 → AH → Option (Int32 × AH)} (h4 : ∀ (r0 : Nat) (v1 : Int32) (v2 : Int32), Sm mX2_isSuperinterface rI 0 0 4 [some (.ref r0), some (.int v1), some (.int v2)] [] (k4 r0 v1 v2)) (r0 : Nat) (v1 : Int32) (v2 : Int32) : Sm mX2_isSuperinterface rI 0 0 33 [some (.ref r0), some (.int v1), some (.int v2)] [] (fX2_isSuperinterface_33 k4 r0 v1 v2) := by
  unfold fX2_isSuperinterface_33
  refine Z_iinc (pc := 33) (v := (nI 1)) (lv' := [some (.ref r0), some (.int v1), some (.int (v2 + (nI 1)))]) dX2_isSuperinterface_33 rfl kI_1 rfl rfl rfl ?_
  refine S_goto (pc := 36) (tgt := 4) dX2_isSuperinterface_36 (by decide) ?_
  exact (h4 r0 v1 (v2 + (nI 1)))
theorem sbX2_isSuperinterface_4  {k4 : Nat → Int32 → Int32 → AH → Option (Int32 × AH)} (h4 : ∀ (r0 : Nat) (v1 : Int32) (v2 : Int32), Sm mX2_isSuperinterface rI 0 0 4 [some (.ref r0), some (.int v1), some (.int v2)] [] (k4 r0 v1 v2)) (r0 : Nat) (v1 : Int32) (v2 : Int32) : Sm mX2_isSuperinterface rI 0 0 4 [some (.ref r0), some (.int v1), some (.int v2)] [] (bX2_isSuperinterface_4 k4 r0 v1 v2) := by
  unfold bX2_isSuperinterface_4
  refine S_iload_n (pc := 4) dX2_isSuperinterface_4 rfl ?_
  refine S_bipush (pc := 5) (v := (nI 10)) dX2_isSuperinterface_5 kB_10 ?_
  refine S_icmpge (pc := 7) (tgt := 39) dX2_isSuperinterface_7 (by decide) ?_ ?_
  · refine S_iconst (pc := 39) (v := (nI 0)) dX2_isSuperinterface_39 kI_0 ?_
    exact S_zret (pc := 40) ⟨rfl, rfl⟩ rfl rfl dX2_isSuperinterface_40
  · refine S_aload_n (pc := 10) dX2_isSuperinterface_10 rfl ?_
    refine S_iload_n (pc := 11) dX2_isSuperinterface_11 rfl ?_
    refine Y_Vi (pc := 12) (st := []) (kc' := 0) (ks' := 0) (ktX2_isThere r0 v2) mw_X2_isThere mv_X2_isThere w370 (RO.mk rfl rfl rfl rfl) rfl rfl rfl dX2_isSuperinterface_12 ⟨rfl, rfl⟩ (fun x_7 => ?_)
    refine S_ifeq (pc := 15) (tgt := 33) dX2_isSuperinterface_15 (by decide) ?_ ?_
    · exact (sX2_isSuperinterface_33 h4 r0 v1 v2)
    · refine S_aload_n (pc := 18) dX2_isSuperinterface_18 rfl ?_
      refine S_gP (pc := 19) fl_X2_34 rfl dX2_isSuperinterface_19 (fun a_8 => ?_)
      refine S_iload_n (pc := 22) dX2_isSuperinterface_22 rfl ?_
      refine S_ldI (pc := 23) dX2_isSuperinterface_23 (fun x_9 => ?_)
      refine S_iload_n (pc := 24) dX2_isSuperinterface_24 rfl ?_
      refine S_ishr (pc := 25) dX2_isSuperinterface_25 ?_
      refine S_iconst (pc := 26) (v := (nI 1)) dX2_isSuperinterface_26 kI_1 ?_
      refine S_iand (pc := 27) dX2_isSuperinterface_27 ?_
      refine S_ifeq (pc := 28) (tgt := 33) dX2_isSuperinterface_28 (by decide) ?_ ?_
      · exact (sX2_isSuperinterface_33 h4 r0 v1 v2)
      · refine S_iconst (pc := 31) (v := (nI 1)) dX2_isSuperinterface_31 kI_1 ?_
        exact S_zret (pc := 32) ⟨rfl, rfl⟩ rfl rfl dX2_isSuperinterface_32
theorem sX2_isSuperinterface_4  : ∀ (n : Nat) (r0 : Nat) (v1 : Int32) (v2 : Int32), Sm mX2_isSuperinterface rI 0 0 4 [some (.ref r0), some (.int v1), some (.int v2)] [] (lX2_isSuperinterface_4 n r0 v1 v2)
  | 0, _, _, _ => S_none
  | n + 1, r0, v1, v2 => sbX2_isSuperinterface_4 (sX2_isSuperinterface_4 n) r0 v1 v2
theorem sX2_isSuperinterface  (r0 : Nat) (v1 : Int32) : Sm mX2_isSuperinterface rI 0 0 0 [some (.ref r0), some (.int v1), none] [] (fX2_isSuperinterface r0 v1) := by
  unfold fX2_isSuperinterface
  refine S_iload_n (pc := 0) dX2_isSuperinterface_0 rfl ?_
  refine S_iconst (pc := 1) (v := (nI 1)) dX2_isSuperinterface_1 kI_1 ?_
  refine S_iadd (pc := 2) dX2_isSuperinterface_2 ?_
  refine Z_istore_n (pc := 3) (lv' := [some (.ref r0), some (.int v1), some (.int (v1 + (nI 1)))]) dX2_isSuperinterface_3 rfl rfl rfl ?_
  exact (sX2_isSuperinterface_4 fuel r0 v1 (v1 + (nI 1)))
theorem ktX2_isSuperinterface (r0 : Nat) (v1 : Int32) : Ct mX2_isSuperinterface rI [.ref r0, .int v1] (fX2_isSuperinterface r0 v1) := Ct.of (z := 1) pn_X2 rfl rfl rfl (sX2_isSuperinterface r0 v1)
def mX2_methodFor : MI := (yX2_methodFor, cX2_methodFor, 8, (some .int), { frames := 1, cells := 0, slots := 0, locals := 32 }, [])
theorem mw_X2_methodFor : MW mX2_methodFor 2 := ⟨w648, w3, ⟨by decide, by decide⟩, by decide +kernel⟩
theorem mv_X2_methodFor : MV mX2_methodFor 2 := ⟨_, rfl, w646, w647⟩
def fX2_methodFor_80 (k18 : Nat → Int32 → Int32 → Int32 → Int32 → Int32 → Int32 → AH → Option (Int32 × AH)) (r0 : Nat) (v1 : Int32) (v2 : Int32) (v3 : Int32) (v4 : Int32) (v5 : Int32) (v6 : Int32) : AH → Option (Int32 × AH) := fun h =>
  k18 r0 v1 v2 v3 v4 v5 (v6 + (nI 1)) h
def bX2_methodFor_18  (k18 : Nat → Int32 → Int32 → Int32 → Int32 → Int32 → Int32 → AH → Option (Int32 × AH)) (r0 : Nat) (v1 : Int32) (v2 : Int32) (v3 : Int32) (v4 : Int32) (v5 : Int32) (v6 : Int32) : AH → Option (Int32 × AH) := fun h =>
  (gP 2 r0 10 h).bind fun a_29 =>
  (gI 4 a_29 0 h).bind fun x_30 =>
  if x_30 ≤ v6 then (
    if v4 = (-2 : Int32) then (
      (gP 2 r0 8 h).bind fun a_31 =>
      (ldI a_31 v1 h).bind fun x_32 =>
      (gI 2 r0 1 h).bind fun x_33 =>
      cv 2 r0 (fX2_interfaceMethod r0 v2 ((x_32 &&& x_33) &&& (v3 ^^^ (-1 : Int32))) (nI 1)) h fun x_34 h =>
      some (x_34, h))
    else
    some (v4, h))
  else
  (gP 2 r0 10 h).bind fun a_35 =>
  (gP 4 a_35 5 h).bind fun a_36 =>
  (ldI a_36 v6 h).bind fun x_37 =>
  (gP 2 r0 10 h).bind fun a_38 =>
  (gP 4 a_38 12 h).bind fun a_39 =>
  (ldI a_39 v6 h).bind fun x_40 =>
  if x_40 = v2 then (
    if ((v3 >>> (x_37 &&& 31)) &&& (nI 1)) = 0 then (
      fX2_methodFor_80 k18 r0 v1 v2 v3 v4 v5 v6 h)
    else
    if x_37 ≤ v5 then (
      fX2_methodFor_80 k18 r0 v1 v2 v3 v4 v5 v6 h)
    else
    fX2_methodFor_80 k18 r0 v1 v2 v3 v6 x_37 v6 h)
  else
  fX2_methodFor_80 k18 r0 v1 v2 v3 v4 v5 v6 h
def lX2_methodFor_18  : Nat → Nat → Int32 → Int32 → Int32 → Int32 → Int32 → Int32 → AH → Option (Int32 × AH)
  | 0 => fun _ _ _ _ _ _ _ _ => none
  | n + 1 => bX2_methodFor_18 (lX2_methodFor_18 n)
def fX2_methodFor  (r0 : Nat) (v1 : Int32) (v2 : Int32) : AH → Option (Int32 × AH) := fun h =>
  (gP 2 r0 9 h).bind fun a_41 =>
  (ldI a_41 v1 h).bind fun x_42 =>
  lX2_methodFor_18 fuel r0 v1 v2 x_42 (-2 : Int32) (-2 : Int32) (nI 0) h
theorem sX2_methodFor_80 {k18 : Nat → Int32 → Int32 → Int32 → Int32 → Int32 → Int32 → AH → Option (Int32 × AH)} (h18 : ∀ (r0 : Nat) (v1 : Int32) (v2 : Int32) (v3 : Int32) (v4 : Int32) (v5 : Int32) (v6 : Int32), Sm mX2_methodFor rI 0 0 18 [some (.ref r0), some (.int v1), some (.int v2), some (.int v3), some (.int v4), some (.int v5), some (.int v6), none] [] (k18 r0 v1 v2 v3 v4 v5 v6)) (r0 : Nat) (v1 : Int32) (v2 : Int32) (v3 : Int32) (v4 : Int32) (v5 : Int32) (v6 : Int32) : Sm mX2_methodFor rI 0 0 80 [some (.ref r0), some (.int v1), some (.int v2), some (.int v3), some (.int v4), some (.int v5), some (.int v6), none] [] (fX2_methodFor_80 k18 r0 v1 v2 v3 v4 v5 v6) := by
  unfold fX2_methodFor_80
  refine Z_iinc (pc := 80) (v := (nI 1)) (lv' := [some (.ref r0), some (.int v1), some (.int v2), some (.int v3), some (.int v4), some (.int v5), some (.int (v6 + (nI 1))), none]) dX2_methodFor_80 rfl kI_1 rfl rfl rfl ?_
  refine S_goto (pc := 83) (tgt := 18) dX2_methodFor_83 (by decide) ?_
  exact (h18 r0 v1 v2 v3 v4 v5 (v6 + (nI 1)))
theorem sbX2_methodFor_18  {k18 : Nat → Int32 → Int32 → Int32 → Int32 → Int32 → Int32 → AH → Option (Int32 × AH)} (h18 : ∀ (r0 : Nat) (v1 : Int32) (v2 : Int32) (v3 : Int32) (v4 : Int32) (v5 : Int32) (v6 : Int32), Sm mX2_methodFor rI 0 0 18 [some (.ref r0), some (.int v1), some (.int v2), some (.int v3), some (.int v4), some (.int v5), some (.int v6), none] [] (k18 r0 v1 v2 v3 v4 v5 v6)) (r0 : Nat) (v1 : Int32) (v2 : Int32) (v3 : Int32) (v4 : Int32) (v5 : Int32) (v6 : Int32) : Sm mX2_methodFor rI 0 0 18 [some (.ref r0), some (.int v1), some (.int v2), some (.int v3), some (.int v4), some (.int v5), some (.int v6), none] [] (bX2_methodFor_18 k18 r0 v1 v2 v3 v4 v5 v6) := by
  unfold bX2_methodFor_18
  refine S_iload (pc := 18) dX2_methodFor_18 rfl ?_
  refine S_aload_n (pc := 20) dX2_methodFor_20 rfl ?_
  refine S_gP (pc := 21) fl_X2_46 rfl dX2_methodFor_21 (fun a_29 => ?_)
  refine S_gI (pc := 24) fl_X2_53 rfl dX2_methodFor_24 (fun x_30 => ?_)
  refine S_icmpge (pc := 27) (tgt := 86) dX2_methodFor_27 (by decide) ?_ ?_
  · refine S_iload (pc := 86) dX2_methodFor_86 rfl ?_
    refine S_bipush (pc := 88) (v := (-2 : Int32)) dX2_methodFor_88 kB_m2 ?_
    refine S_icmpeq (pc := 90) (tgt := 98) dX2_methodFor_90 (by decide) ?_ ?_
    · refine S_aload_n (pc := 98) dX2_methodFor_98 rfl ?_
      refine S_iload_n (pc := 99) dX2_methodFor_99 rfl ?_
      refine S_aload_n (pc := 100) dX2_methodFor_100 rfl ?_
      refine S_gP (pc := 101) fl_X2_37 rfl dX2_methodFor_101 (fun a_31 => ?_)
      refine S_iload_n (pc := 104) dX2_methodFor_104 rfl ?_
      refine S_ldI (pc := 105) dX2_methodFor_105 (fun x_32 => ?_)
      refine S_aload_n (pc := 106) dX2_methodFor_106 rfl ?_
      refine S_gI (pc := 107) fl_X2_15 rfl dX2_methodFor_107 (fun x_33 => ?_)
      refine S_iand (pc := 110) dX2_methodFor_110 ?_
      refine S_iload_n (pc := 111) dX2_methodFor_111 rfl ?_
      refine S_iconst (pc := 112) (v := (-1 : Int32)) dX2_methodFor_112 kI_m1 ?_
      refine S_ixor (pc := 113) dX2_methodFor_113 ?_
      refine S_iand (pc := 114) dX2_methodFor_114 ?_
      refine S_iconst (pc := 115) (v := (nI 1)) dX2_methodFor_115 kI_1 ?_
      refine Y_Vi (pc := 116) (st := []) (kc' := 0) (ks' := 0) (ktX2_interfaceMethod r0 v2 ((x_32 &&& x_33) &&& (v3 ^^^ (-1 : Int32))) (nI 1)) mw_X2_interfaceMethod mv_X2_interfaceMethod w522 (RO.mk rfl rfl rfl rfl) rfl rfl rfl dX2_methodFor_116 ⟨rfl, rfl⟩ (fun x_34 => ?_)
      exact S_iret (pc := 119) ⟨rfl, rfl⟩ rfl rfl dX2_methodFor_119
    · refine S_iload (pc := 93) dX2_methodFor_93 rfl ?_
      refine S_goto (pc := 95) (tgt := 119) dX2_methodFor_95 (by decide) ?_
      exact S_iret (pc := 119) ⟨rfl, rfl⟩ rfl rfl dX2_methodFor_119
  · refine S_aload_n (pc := 30) dX2_methodFor_30 rfl ?_
    refine S_gP (pc := 31) fl_X2_46 rfl dX2_methodFor_31 (fun a_35 => ?_)
    refine S_gP (pc := 34) fl_X2_117 rfl dX2_methodFor_34 (fun a_36 => ?_)
    refine S_iload (pc := 37) dX2_methodFor_37 rfl ?_
    refine S_ldI (pc := 39) dX2_methodFor_39 (fun x_37 => ?_)
    refine Z_istore (pc := 40) (lv' := [some (.ref r0), some (.int v1), some (.int v2), some (.int v3), some (.int v4), some (.int v5), some (.int v6), some (.int x_37)]) dX2_methodFor_40 rfl rfl rfl ?_
    refine S_aload_n (pc := 42) dX2_methodFor_42 rfl ?_
    refine S_gP (pc := 43) fl_X2_46 rfl dX2_methodFor_43 (fun a_38 => ?_)
    refine S_gP (pc := 46) fl_X2_136 rfl dX2_methodFor_46 (fun a_39 => ?_)
    refine S_iload (pc := 49) dX2_methodFor_49 rfl ?_
    refine S_ldI (pc := 51) dX2_methodFor_51 (fun x_40 => ?_)
    refine S_iload_n (pc := 52) dX2_methodFor_52 rfl ?_
    refine S_icmpne (pc := 53) (tgt := 80) dX2_methodFor_53 (by decide) ?_ ?_
    · exact (S_lv (lv0 := [some (.ref r0), some (.int v1), some (.int v2), some (.int v3), some (.int v4), some (.int v5), some (.int v6), none]) (And.intro rfl (And.intro rfl (And.intro rfl (And.intro rfl (And.intro rfl (And.intro rfl (And.intro rfl trivial))))))) (sX2_methodFor_80 h18 r0 v1 v2 v3 v4 v5 v6))
    · refine S_iload_n (pc := 56) dX2_methodFor_56 rfl ?_
      refine S_iload (pc := 57) dX2_methodFor_57 rfl ?_
      refine S_ishr (pc := 59) dX2_methodFor_59 ?_
      refine S_iconst (pc := 60) (v := (nI 1)) dX2_methodFor_60 kI_1 ?_
      refine S_iand (pc := 61) dX2_methodFor_61 ?_
      refine S_ifeq (pc := 62) (tgt := 80) dX2_methodFor_62 (by decide) ?_ ?_
      · exact (S_lv (lv0 := [some (.ref r0), some (.int v1), some (.int v2), some (.int v3), some (.int v4), some (.int v5), some (.int v6), none]) (And.intro rfl (And.intro rfl (And.intro rfl (And.intro rfl (And.intro rfl (And.intro rfl (And.intro rfl trivial))))))) (sX2_methodFor_80 h18 r0 v1 v2 v3 v4 v5 v6))
      · refine S_iload (pc := 65) dX2_methodFor_65 rfl ?_
        refine S_iload (pc := 67) dX2_methodFor_67 rfl ?_
        refine S_icmple (pc := 69) (tgt := 80) dX2_methodFor_69 (by decide) ?_ ?_
        · exact (S_lv (lv0 := [some (.ref r0), some (.int v1), some (.int v2), some (.int v3), some (.int v4), some (.int v5), some (.int v6), none]) (And.intro rfl (And.intro rfl (And.intro rfl (And.intro rfl (And.intro rfl (And.intro rfl (And.intro rfl trivial))))))) (sX2_methodFor_80 h18 r0 v1 v2 v3 v4 v5 v6))
        · refine S_iload (pc := 72) dX2_methodFor_72 rfl ?_
          refine Z_istore (pc := 74) (lv' := [some (.ref r0), some (.int v1), some (.int v2), some (.int v3), some (.int v6), some (.int v5), some (.int v6), some (.int x_37)]) dX2_methodFor_74 rfl rfl rfl ?_
          refine S_iload (pc := 76) dX2_methodFor_76 rfl ?_
          refine Z_istore (pc := 78) (lv' := [some (.ref r0), some (.int v1), some (.int v2), some (.int v3), some (.int v6), some (.int x_37), some (.int v6), some (.int x_37)]) dX2_methodFor_78 rfl rfl rfl ?_
          exact (S_lv (lv0 := [some (.ref r0), some (.int v1), some (.int v2), some (.int v3), some (.int v6), some (.int x_37), some (.int v6), none]) (And.intro rfl (And.intro rfl (And.intro rfl (And.intro rfl (And.intro rfl (And.intro rfl (And.intro rfl trivial))))))) (sX2_methodFor_80 h18 r0 v1 v2 v3 v6 x_37 v6))
theorem sX2_methodFor_18  : ∀ (n : Nat) (r0 : Nat) (v1 : Int32) (v2 : Int32) (v3 : Int32) (v4 : Int32) (v5 : Int32) (v6 : Int32), Sm mX2_methodFor rI 0 0 18 [some (.ref r0), some (.int v1), some (.int v2), some (.int v3), some (.int v4), some (.int v5), some (.int v6), none] [] (lX2_methodFor_18 n r0 v1 v2 v3 v4 v5 v6)
  | 0, _, _, _, _, _, _, _ => S_none
  | n + 1, r0, v1, v2, v3, v4, v5, v6 => sbX2_methodFor_18 (sX2_methodFor_18 n) r0 v1 v2 v3 v4 v5 v6
theorem sX2_methodFor  (r0 : Nat) (v1 : Int32) (v2 : Int32) : Sm mX2_methodFor rI 0 0 0 [some (.ref r0), some (.int v1), some (.int v2), none, none, none, none, none] [] (fX2_methodFor r0 v1 v2) := by
  unfold fX2_methodFor
  refine S_aload_n (pc := 0) dX2_methodFor_0 rfl ?_
  refine S_gP (pc := 1) fl_X2_40 rfl dX2_methodFor_1 (fun a_41 => ?_)
  refine S_iload_n (pc := 4) dX2_methodFor_4 rfl ?_
  refine S_ldI (pc := 5) dX2_methodFor_5 (fun x_42 => ?_)
  refine Z_istore_n (pc := 6) (lv' := [some (.ref r0), some (.int v1), some (.int v2), some (.int x_42), none, none, none, none]) dX2_methodFor_6 rfl rfl rfl ?_
  refine S_bipush (pc := 7) (v := (-2 : Int32)) dX2_methodFor_7 kB_m2 ?_
  refine Z_istore (pc := 9) (lv' := [some (.ref r0), some (.int v1), some (.int v2), some (.int x_42), some (.int (-2 : Int32)), none, none, none]) dX2_methodFor_9 rfl rfl rfl ?_
  refine S_bipush (pc := 11) (v := (-2 : Int32)) dX2_methodFor_11 kB_m2 ?_
  refine Z_istore (pc := 13) (lv' := [some (.ref r0), some (.int v1), some (.int v2), some (.int x_42), some (.int (-2 : Int32)), some (.int (-2 : Int32)), none, none]) dX2_methodFor_13 rfl rfl rfl ?_
  refine S_iconst (pc := 15) (v := (nI 0)) dX2_methodFor_15 kI_0 ?_
  refine Z_istore (pc := 16) (lv' := [some (.ref r0), some (.int v1), some (.int v2), some (.int x_42), some (.int (-2 : Int32)), some (.int (-2 : Int32)), some (.int (nI 0)), none]) dX2_methodFor_16 rfl rfl rfl ?_
  exact (sX2_methodFor_18 fuel r0 v1 v2 x_42 (-2 : Int32) (-2 : Int32) (nI 0))
theorem ktX2_methodFor (r0 : Nat) (v1 : Int32) (v2 : Int32) : Ct mX2_methodFor rI [.ref r0, .int v1, .int v2] (fX2_methodFor r0 v1 v2) := Ct.of (z := 5) pn_X2 rfl rfl rfl (sX2_methodFor r0 v1 v2)
def mX2_takeClass : MI := (yX2_takeClass, cX2_takeClass, 3, none, { frames := 3, cells := 0, slots := 0, locals := 65 }, [])
theorem mw_X2_takeClass : MW mX2_takeClass 1 := ⟨w365, w3, ⟨by decide, by decide⟩, by decide +kernel⟩
theorem mv_X2_takeClass : MV mX2_takeClass 2 := ⟨_, rfl, w363, w364⟩
def fX2_takeClass  (r0 : Nat) (v1 : Int32) : AH → Option (Unit × AH) := fun h =>
  (gI 2 r0 0 h).bind fun x_6 =>
  (pI 2 r0 0 (x_6 &&& (((nI 1) <<< (v1 &&& 31)) ^^^ (-1 : Int32))) h).bind fun h =>
  (gI 2 r0 1 h).bind fun x_7 =>
  (pI 2 r0 1 (x_7 &&& (((nI 1) <<< (v1 &&& 31)) ^^^ (-1 : Int32))) h).bind fun h =>
  (gI 2 r0 2 h).bind fun x_8 =>
  (pI 2 r0 2 (x_8 &&& (((nI 1) <<< (v1 &&& 31)) ^^^ (-1 : Int32))) h).bind fun h =>
  (gI 2 r0 3 h).bind fun x_9 =>
  (pI 2 r0 3 (x_9 &&& (((nI 1) <<< (v1 &&& 31)) ^^^ (-1 : Int32))) h).bind fun h =>
  (gI 2 r0 4 h).bind fun x_10 =>
  (pI 2 r0 4 (x_10 &&& (((nI 1) <<< (v1 &&& 31)) ^^^ (-1 : Int32))) h).bind fun h =>
  cv 2 r0 (fX2_deriveSupertypes r0) h fun _ h =>
  some ((), h)
theorem sX2_takeClass  (r0 : Nat) (v1 : Int32) : Sm mX2_takeClass rV 0 0 0 [some (.ref r0), some (.int v1), none] [] (fX2_takeClass r0 v1) := by
  unfold fX2_takeClass
  refine S_iconst (pc := 0) (v := (nI 1)) dX2_takeClass_0 kI_1 ?_
  refine S_iload_n (pc := 1) dX2_takeClass_1 rfl ?_
  refine S_ishl (pc := 2) dX2_takeClass_2 ?_
  refine S_iconst (pc := 3) (v := (-1 : Int32)) dX2_takeClass_3 kI_m1 ?_
  refine S_ixor (pc := 4) dX2_takeClass_4 ?_
  refine Z_istore_n (pc := 5) (lv' := [some (.ref r0), some (.int v1), some (.int (((nI 1) <<< (v1 &&& 31)) ^^^ (-1 : Int32)))]) dX2_takeClass_5 rfl rfl rfl ?_
  refine S_aload_n (pc := 6) dX2_takeClass_6 rfl ?_
  refine S_dup (pc := 7) rfl dX2_takeClass_7 ?_
  refine S_gI (pc := 8) fl_X2_9 rfl dX2_takeClass_8 (fun x_6 => ?_)
  refine S_iload_n (pc := 11) dX2_takeClass_11 rfl ?_
  refine S_iand (pc := 12) dX2_takeClass_12 ?_
  refine S_pI (pc := 13) fl_X2_9 rfl rfl dX2_takeClass_13 ?_
  refine S_aload_n (pc := 16) dX2_takeClass_16 rfl ?_
  refine S_dup (pc := 17) rfl dX2_takeClass_17 ?_
  refine S_gI (pc := 18) fl_X2_15 rfl dX2_takeClass_18 (fun x_7 => ?_)
  refine S_iload_n (pc := 21) dX2_takeClass_21 rfl ?_
  refine S_iand (pc := 22) dX2_takeClass_22 ?_
  refine S_pI (pc := 23) fl_X2_15 rfl rfl dX2_takeClass_23 ?_
  refine S_aload_n (pc := 26) dX2_takeClass_26 rfl ?_
  refine S_dup (pc := 27) rfl dX2_takeClass_27 ?_
  refine S_gI (pc := 28) fl_X2_18 rfl dX2_takeClass_28 (fun x_8 => ?_)
  refine S_iload_n (pc := 31) dX2_takeClass_31 rfl ?_
  refine S_iand (pc := 32) dX2_takeClass_32 ?_
  refine S_pI (pc := 33) fl_X2_18 rfl rfl dX2_takeClass_33 ?_
  refine S_aload_n (pc := 36) dX2_takeClass_36 rfl ?_
  refine S_dup (pc := 37) rfl dX2_takeClass_37 ?_
  refine S_gI (pc := 38) fl_X2_21 rfl dX2_takeClass_38 (fun x_9 => ?_)
  refine S_iload_n (pc := 41) dX2_takeClass_41 rfl ?_
  refine S_iand (pc := 42) dX2_takeClass_42 ?_
  refine S_pI (pc := 43) fl_X2_21 rfl rfl dX2_takeClass_43 ?_
  refine S_aload_n (pc := 46) dX2_takeClass_46 rfl ?_
  refine S_dup (pc := 47) rfl dX2_takeClass_47 ?_
  refine S_gI (pc := 48) fl_X2_24 rfl dX2_takeClass_48 (fun x_10 => ?_)
  refine S_iload_n (pc := 51) dX2_takeClass_51 rfl ?_
  refine S_iand (pc := 52) dX2_takeClass_52 ?_
  refine S_pI (pc := 53) fl_X2_24 rfl rfl dX2_takeClass_53 ?_
  refine S_aload_n (pc := 56) dX2_takeClass_56 rfl ?_
  refine Y_Vv (pc := 57) (st := []) (kc' := 0) (ks' := 0) (ktX2_deriveSupertypes r0) mw_X2_deriveSupertypes mv_X2_deriveSupertypes w366 (RO.mk rfl rfl rfl rfl) rfl rfl rfl dX2_takeClass_57 ⟨rfl, rfl⟩ ?_
  exact S_vret (pc := 60) ⟨rfl, rfl⟩ rfl rfl dX2_takeClass_60
theorem ktX2_takeClass (r0 : Nat) (v1 : Int32) : Ct mX2_takeClass rV [.ref r0, .int v1] (fX2_takeClass r0 v1) := Ct.of (z := 1) pn_X2 rfl rfl rfl (sX2_takeClass r0 v1)
def mX2_putClass : MI := (yX2_putClass, cX2_putClass, 6, none, { frames := 4, cells := 0, slots := 0, locals := 87 }, [])
theorem mw_X2_putClass : MW mX2_putClass 4 := ⟨w361, w3, ⟨by decide, by decide⟩, by decide +kernel⟩
theorem mv_X2_putClass : MV mX2_putClass 2 := ⟨_, rfl, w359, w360⟩
def fX2_putClass_47  (r0 : Nat) (v1 : Int32) (v3 : Int32) (v4 : Int32) : AH → Option (Unit × AH) := fun h =>
  (gP 2 r0 5 h).bind fun a_13 =>
  (stI a_13 v1 (nI 0) h).bind fun h =>
  (gP 2 r0 6 h).bind fun a_14 =>
  (stI a_14 v1 v3 h).bind fun h =>
  (gP 2 r0 7 h).bind fun a_15 =>
  (stI a_15 v1 v4 h).bind fun h =>
  cv 2 r0 (fX2_deriveSupertypes r0) h fun _ h =>
  some ((), h)
def fX2_putClass  (r0 : Nat) (v1 : Int32) (v2 : Int32) (v3 : Int32) (v4 : Int32) : AH → Option (Unit × AH) := fun h =>
  cv 2 r0 (fX2_takeClass r0 v1) h fun _ h =>
  (gI 2 r0 0 h).bind fun x_16 =>
  (pI 2 r0 0 (x_16 ||| ((nI 1) <<< (v1 &&& 31))) h).bind fun h =>
  if v2 = 0 then (
    fX2_putClass_47 r0 v1 v3 v4 h)
  else
  (gI 2 r0 1 h).bind fun x_17 =>
  (pI 2 r0 1 (x_17 ||| ((nI 1) <<< (v1 &&& 31))) h).bind fun h =>
  (gI 2 r0 4 h).bind fun x_18 =>
  (pI 2 r0 4 (x_18 ||| ((nI 1) <<< (v1 &&& 31))) h).bind fun h =>
  fX2_putClass_47 r0 v1 v3 v4 h
theorem sX2_putClass_47  (r0 : Nat) (v1 : Int32) (v3 : Int32) (v4 : Int32) : Sm mX2_putClass rV 0 0 47 [some (.ref r0), some (.int v1), none, some (.int v3), some (.int v4), none] [] (fX2_putClass_47 r0 v1 v3 v4) := by
  unfold fX2_putClass_47
  refine S_aload_n (pc := 47) dX2_putClass_47 rfl ?_
  refine S_gP (pc := 48) fl_X2_27 rfl dX2_putClass_48 (fun a_13 => ?_)
  refine S_iload_n (pc := 51) dX2_putClass_51 rfl ?_
  refine S_iconst (pc := 52) (v := (nI 0)) dX2_putClass_52 kI_0 ?_
  refine S_stI (pc := 53) dX2_putClass_53 ?_
  refine S_aload_n (pc := 54) dX2_putClass_54 rfl ?_
  refine S_gP (pc := 55) fl_X2_31 rfl dX2_putClass_55 (fun a_14 => ?_)
  refine S_iload_n (pc := 58) dX2_putClass_58 rfl ?_
  refine S_iload_n (pc := 59) dX2_putClass_59 rfl ?_
  refine S_stI (pc := 60) dX2_putClass_60 ?_
  refine S_aload_n (pc := 61) dX2_putClass_61 rfl ?_
  refine S_gP (pc := 62) fl_X2_34 rfl dX2_putClass_62 (fun a_15 => ?_)
  refine S_iload_n (pc := 65) dX2_putClass_65 rfl ?_
  refine S_iload (pc := 66) dX2_putClass_66 rfl ?_
  refine S_stI (pc := 68) dX2_putClass_68 ?_
  refine S_aload_n (pc := 69) dX2_putClass_69 rfl ?_
  refine Y_Vv (pc := 70) (st := []) (kc' := 0) (ks' := 0) (ktX2_deriveSupertypes r0) mw_X2_deriveSupertypes mv_X2_deriveSupertypes w366 (RO.mk rfl rfl rfl rfl) rfl rfl rfl dX2_putClass_70 ⟨rfl, rfl⟩ ?_
  exact S_vret (pc := 73) ⟨rfl, rfl⟩ rfl rfl dX2_putClass_73
theorem sX2_putClass  (r0 : Nat) (v1 : Int32) (v2 : Int32) (v3 : Int32) (v4 : Int32) : Sm mX2_putClass rV 0 0 0 [some (.ref r0), some (.int v1), some (.int v2), some (.int v3), some (.int v4), none] [] (fX2_putClass r0 v1 v2 v3 v4) := by
  unfold fX2_putClass
  refine S_aload_n (pc := 0) dX2_putClass_0 rfl ?_
  refine S_iload_n (pc := 1) dX2_putClass_1 rfl ?_
  refine Y_Vv (pc := 2) (st := []) (kc' := 0) (ks' := 0) (ktX2_takeClass r0 v1) mw_X2_takeClass mv_X2_takeClass w362 (RO.mk rfl rfl rfl rfl) rfl rfl rfl dX2_putClass_2 ⟨rfl, rfl⟩ ?_
  refine S_iconst (pc := 5) (v := (nI 1)) dX2_putClass_5 kI_1 ?_
  refine S_iload_n (pc := 6) dX2_putClass_6 rfl ?_
  refine S_ishl (pc := 7) dX2_putClass_7 ?_
  refine Z_istore (pc := 8) (lv' := [some (.ref r0), some (.int v1), some (.int v2), some (.int v3), some (.int v4), some (.int ((nI 1) <<< (v1 &&& 31)))]) dX2_putClass_8 rfl rfl rfl ?_
  refine S_aload_n (pc := 10) dX2_putClass_10 rfl ?_
  refine S_dup (pc := 11) rfl dX2_putClass_11 ?_
  refine S_gI (pc := 12) fl_X2_9 rfl dX2_putClass_12 (fun x_16 => ?_)
  refine S_iload (pc := 15) dX2_putClass_15 rfl ?_
  refine S_ior (pc := 17) dX2_putClass_17 ?_
  refine S_pI (pc := 18) fl_X2_9 rfl rfl dX2_putClass_18 ?_
  refine S_iload_n (pc := 21) dX2_putClass_21 rfl ?_
  refine S_ifeq (pc := 22) (tgt := 47) dX2_putClass_22 (by decide) ?_ ?_
  · exact (S_lv (lv0 := [some (.ref r0), some (.int v1), none, some (.int v3), some (.int v4), none]) (And.intro rfl (And.intro rfl (And.intro rfl (And.intro rfl trivial)))) (sX2_putClass_47 r0 v1 v3 v4))
  · refine S_aload_n (pc := 25) dX2_putClass_25 rfl ?_
    refine S_dup (pc := 26) rfl dX2_putClass_26 ?_
    refine S_gI (pc := 27) fl_X2_15 rfl dX2_putClass_27 (fun x_17 => ?_)
    refine S_iload (pc := 30) dX2_putClass_30 rfl ?_
    refine S_ior (pc := 32) dX2_putClass_32 ?_
    refine S_pI (pc := 33) fl_X2_15 rfl rfl dX2_putClass_33 ?_
    refine S_aload_n (pc := 36) dX2_putClass_36 rfl ?_
    refine S_dup (pc := 37) rfl dX2_putClass_37 ?_
    refine S_gI (pc := 38) fl_X2_24 rfl dX2_putClass_38 (fun x_18 => ?_)
    refine S_iload (pc := 41) dX2_putClass_41 rfl ?_
    refine S_ior (pc := 43) dX2_putClass_43 ?_
    refine S_pI (pc := 44) fl_X2_24 rfl rfl dX2_putClass_44 ?_
    exact (S_lv (lv0 := [some (.ref r0), some (.int v1), none, some (.int v3), some (.int v4), none]) (And.intro rfl (And.intro rfl (And.intro rfl (And.intro rfl trivial)))) (sX2_putClass_47 r0 v1 v3 v4))
theorem ktX2_putClass (r0 : Nat) (v1 : Int32) (v2 : Int32) (v3 : Int32) (v4 : Int32) : Ct mX2_putClass rV [.ref r0, .int v1, .int v2, .int v3, .int v4] (fX2_putClass r0 v1 v2 v3 v4) := Ct.of (z := 1) pn_X2 rfl rfl rfl (sX2_putClass r0 v1 v2 v3 v4)
def mX2_withBit : MI := (yX2_withBit, cX2_withBit, 3, (some .int), { frames := 0, cells := 0, slots := 0, locals := 0 }, [])
theorem mw_X2_withBit : MW mX2_withBit 3 := ⟨w388, w3, ⟨by decide, by decide⟩, by decide +kernel⟩
def fX2_withBit  (v0 : Int32) (v1 : Int32) (v2 : Int32) : AH → Option (Int32 × AH) := fun h =>
  if v2 = 0 then (
    some ((v0 &&& (((nI 1) <<< (v1 &&& 31)) ^^^ (-1 : Int32))), h))
  else
  some ((v0 ||| ((nI 1) <<< (v1 &&& 31))), h)
theorem sX2_withBit  (v0 : Int32) (v1 : Int32) (v2 : Int32) : Sm mX2_withBit rI 0 0 0 [some (.int v0), some (.int v1), some (.int v2)] [] (fX2_withBit v0 v1 v2) := by
  unfold fX2_withBit
  refine S_iload_n (pc := 0) dX2_withBit_0 rfl ?_
  refine S_ifeq (pc := 1) (tgt := 12) dX2_withBit_1 (by decide) ?_ ?_
  · refine S_iload_n (pc := 12) dX2_withBit_12 rfl ?_
    refine S_iconst (pc := 13) (v := (nI 1)) dX2_withBit_13 kI_1 ?_
    refine S_iload_n (pc := 14) dX2_withBit_14 rfl ?_
    refine S_ishl (pc := 15) dX2_withBit_15 ?_
    refine S_iconst (pc := 16) (v := (-1 : Int32)) dX2_withBit_16 kI_m1 ?_
    refine S_ixor (pc := 17) dX2_withBit_17 ?_
    refine S_iand (pc := 18) dX2_withBit_18 ?_
    exact S_iret (pc := 19) ⟨rfl, rfl⟩ rfl rfl dX2_withBit_19
  · refine S_iload_n (pc := 4) dX2_withBit_4 rfl ?_
    refine S_iconst (pc := 5) (v := (nI 1)) dX2_withBit_5 kI_1 ?_
    refine S_iload_n (pc := 6) dX2_withBit_6 rfl ?_
    refine S_ishl (pc := 7) dX2_withBit_7 ?_
    refine S_ior (pc := 8) dX2_withBit_8 ?_
    refine S_goto (pc := 9) (tgt := 19) dX2_withBit_9 (by decide) ?_
    exact S_iret (pc := 19) ⟨rfl, rfl⟩ rfl rfl dX2_withBit_19
theorem ktX2_withBit (v0 : Int32) (v1 : Int32) (v2 : Int32) : Ct mX2_withBit rI [.int v0, .int v1, .int v2] (fX2_withBit v0 v1 v2) := Ct.of (z := 0) pn_X2 rfl rfl rfl (sX2_withBit v0 v1 v2)
def mX2_putValue : MI := (yX2_putValue, cX2_putValue, 4, none, { frames := 3, cells := 0, slots := 0, locals := 65 }, [])
theorem mw_X2_putValue : MW mX2_putValue 3 := ⟨w385, w3, ⟨by decide, by decide⟩, by decide +kernel⟩
theorem mv_X2_putValue : MV mX2_putValue 2 := ⟨_, rfl, w383, w384⟩
def fX2_putValue  (r0 : Nat) (v1 : Int32) (v2 : Int32) (v3 : Int32) : AH → Option (Unit × AH) := fun h =>
  if v2 = (nI 0) then (
    (gI 2 r0 2 h).bind fun x_10 =>
    bd (fX2_withBit x_10 v1 v3 h) fun x_11 h =>
    (pI 2 r0 2 x_11 h).bind fun h =>
    some ((), h))
  else
  if v2 = (nI 1) then (
    (gI 2 r0 3 h).bind fun x_12 =>
    bd (fX2_withBit x_12 v1 v3 h) fun x_13 h =>
    (pI 2 r0 3 x_13 h).bind fun h =>
    some ((), h))
  else
  if v2 = (nI 2) then (
    (gI 2 r0 4 h).bind fun x_14 =>
    bd (fX2_withBit x_14 v1 v3 h) fun x_15 h =>
    (pI 2 r0 4 x_15 h).bind fun h =>
    some ((), h))
  else
  if v2 = (nI 3) then (
    (gP 2 r0 5 h).bind fun a_16 =>
    (stI a_16 v1 v3 h).bind fun h =>
    some ((), h))
  else
  if v2 = (nI 4) then (
    (gP 2 r0 6 h).bind fun a_17 =>
    (stI a_17 v1 v3 h).bind fun h =>
    cv 2 r0 (fX2_deriveSupertypes r0) h fun _ h =>
    some ((), h))
  else
  (gP 2 r0 7 h).bind fun a_18 =>
  (stI a_18 v1 v3 h).bind fun h =>
  cv 2 r0 (fX2_deriveSupertypes r0) h fun _ h =>
  some ((), h)
theorem sX2_putValue  (r0 : Nat) (v1 : Int32) (v2 : Int32) (v3 : Int32) : Sm mX2_putValue rV 0 0 0 [some (.ref r0), some (.int v1), some (.int v2), some (.int v3)] [] (fX2_putValue r0 v1 v2 v3) := by
  unfold fX2_putValue
  refine S_iload_n (pc := 0) dX2_putValue_0 rfl ?_
  refine S_case (x := v2) (v := (nI 0)) (fun n0 => ?_) (fun n0 => ?_)
  · refine S_tsI (pc := 1) (tgt := 36) n0 dX2_putValue_1 (by decide) rfl (by decide) ?_
    refine S_aload_n (pc := 36) dX2_putValue_36 rfl ?_
    refine S_aload_n (pc := 37) dX2_putValue_37 rfl ?_
    refine S_gI (pc := 38) fl_X2_18 rfl dX2_putValue_38 (fun x_10 => ?_)
    refine S_iload_n (pc := 41) dX2_putValue_41 rfl ?_
    refine S_iload_n (pc := 42) dX2_putValue_42 rfl ?_
    refine Y_Ti (pc := 43) (st := [.ref r0]) (kc' := 0) (ks' := 0) (ktX2_withBit x_10 v1 v3) mw_X2_withBit w387 w386 (RO.mk rfl rfl rfl rfl) rfl rfl rfl dX2_putValue_43 ⟨rfl, rfl⟩ (fun x_11 => ?_)
    refine S_pI (pc := 46) fl_X2_18 rfl rfl dX2_putValue_46 ?_
    refine S_goto (pc := 49) (tgt := 119) dX2_putValue_49 (by decide) ?_
    exact S_vret (pc := 119) ⟨rfl, rfl⟩ rfl rfl dX2_putValue_119
  refine S_case (x := v2) (v := (nI 1)) (fun n1 => ?_) (fun n1 => ?_)
  · refine S_tsI (pc := 1) (tgt := 52) n1 dX2_putValue_1 (by decide) rfl (by decide) ?_
    refine S_aload_n (pc := 52) dX2_putValue_52 rfl ?_
    refine S_aload_n (pc := 53) dX2_putValue_53 rfl ?_
    refine S_gI (pc := 54) fl_X2_21 rfl dX2_putValue_54 (fun x_12 => ?_)
    refine S_iload_n (pc := 57) dX2_putValue_57 rfl ?_
    refine S_iload_n (pc := 58) dX2_putValue_58 rfl ?_
    refine Y_Ti (pc := 59) (st := [.ref r0]) (kc' := 0) (ks' := 0) (ktX2_withBit x_12 v1 v3) mw_X2_withBit w387 w386 (RO.mk rfl rfl rfl rfl) rfl rfl rfl dX2_putValue_59 ⟨rfl, rfl⟩ (fun x_13 => ?_)
    refine S_pI (pc := 62) fl_X2_21 rfl rfl dX2_putValue_62 ?_
    refine S_goto (pc := 65) (tgt := 119) dX2_putValue_65 (by decide) ?_
    exact S_vret (pc := 119) ⟨rfl, rfl⟩ rfl rfl dX2_putValue_119
  refine S_case (x := v2) (v := (nI 2)) (fun n2 => ?_) (fun n2 => ?_)
  · refine S_tsI (pc := 1) (tgt := 68) n2 dX2_putValue_1 (by decide) rfl (by decide) ?_
    refine S_aload_n (pc := 68) dX2_putValue_68 rfl ?_
    refine S_aload_n (pc := 69) dX2_putValue_69 rfl ?_
    refine S_gI (pc := 70) fl_X2_24 rfl dX2_putValue_70 (fun x_14 => ?_)
    refine S_iload_n (pc := 73) dX2_putValue_73 rfl ?_
    refine S_iload_n (pc := 74) dX2_putValue_74 rfl ?_
    refine Y_Ti (pc := 75) (st := [.ref r0]) (kc' := 0) (ks' := 0) (ktX2_withBit x_14 v1 v3) mw_X2_withBit w387 w386 (RO.mk rfl rfl rfl rfl) rfl rfl rfl dX2_putValue_75 ⟨rfl, rfl⟩ (fun x_15 => ?_)
    refine S_pI (pc := 78) fl_X2_24 rfl rfl dX2_putValue_78 ?_
    refine S_goto (pc := 81) (tgt := 119) dX2_putValue_81 (by decide) ?_
    exact S_vret (pc := 119) ⟨rfl, rfl⟩ rfl rfl dX2_putValue_119
  refine S_case (x := v2) (v := (nI 3)) (fun n3 => ?_) (fun n3 => ?_)
  · refine S_tsI (pc := 1) (tgt := 84) n3 dX2_putValue_1 (by decide) rfl (by decide) ?_
    refine S_aload_n (pc := 84) dX2_putValue_84 rfl ?_
    refine S_gP (pc := 85) fl_X2_27 rfl dX2_putValue_85 (fun a_16 => ?_)
    refine S_iload_n (pc := 88) dX2_putValue_88 rfl ?_
    refine S_iload_n (pc := 89) dX2_putValue_89 rfl ?_
    refine S_stI (pc := 90) dX2_putValue_90 ?_
    refine S_goto (pc := 91) (tgt := 119) dX2_putValue_91 (by decide) ?_
    exact S_vret (pc := 119) ⟨rfl, rfl⟩ rfl rfl dX2_putValue_119
  refine S_case (x := v2) (v := (nI 4)) (fun n4 => ?_) (fun n4 => ?_)
  · refine S_tsI (pc := 1) (tgt := 94) n4 dX2_putValue_1 (by decide) rfl (by decide) ?_
    refine S_aload_n (pc := 94) dX2_putValue_94 rfl ?_
    refine S_gP (pc := 95) fl_X2_31 rfl dX2_putValue_95 (fun a_17 => ?_)
    refine S_iload_n (pc := 98) dX2_putValue_98 rfl ?_
    refine S_iload_n (pc := 99) dX2_putValue_99 rfl ?_
    refine S_stI (pc := 100) dX2_putValue_100 ?_
    refine S_aload_n (pc := 101) dX2_putValue_101 rfl ?_
    refine Y_Vv (pc := 102) (st := []) (kc' := 0) (ks' := 0) (ktX2_deriveSupertypes r0) mw_X2_deriveSupertypes mv_X2_deriveSupertypes w366 (RO.mk rfl rfl rfl rfl) rfl rfl rfl dX2_putValue_102 ⟨rfl, rfl⟩ ?_
    refine S_goto (pc := 105) (tgt := 119) dX2_putValue_105 (by decide) ?_
    exact S_vret (pc := 119) ⟨rfl, rfl⟩ rfl rfl dX2_putValue_119
  refine S_tsD (pc := 1) (tgt := 108) (by have n0 := lv_neT (a := 0) n0 rfl; have n1 := lv_neT (a := 1) n1 rfl; have n2 := lv_neT (a := 2) n2 rfl; have n3 := lv_neT (a := 3) n3 rfl; have n4 := lv_neT (a := 4) n4 rfl; omega) dX2_putValue_1 (by decide) ?_
  refine S_aload_n (pc := 108) dX2_putValue_108 rfl ?_
  refine S_gP (pc := 109) fl_X2_34 rfl dX2_putValue_109 (fun a_18 => ?_)
  refine S_iload_n (pc := 112) dX2_putValue_112 rfl ?_
  refine S_iload_n (pc := 113) dX2_putValue_113 rfl ?_
  refine S_stI (pc := 114) dX2_putValue_114 ?_
  refine S_aload_n (pc := 115) dX2_putValue_115 rfl ?_
  refine Y_Vv (pc := 116) (st := []) (kc' := 0) (ks' := 0) (ktX2_deriveSupertypes r0) mw_X2_deriveSupertypes mv_X2_deriveSupertypes w366 (RO.mk rfl rfl rfl rfl) rfl rfl rfl dX2_putValue_116 ⟨rfl, rfl⟩ ?_
  exact S_vret (pc := 119) ⟨rfl, rfl⟩ rfl rfl dX2_putValue_119
theorem ktX2_putValue (r0 : Nat) (v1 : Int32) (v2 : Int32) (v3 : Int32) : Ct mX2_putValue rV [.ref r0, .int v1, .int v2, .int v3] (fX2_putValue r0 v1 v2 v3) := Ct.of (z := 0) pn_X2 rfl rfl rfl (sX2_putValue r0 v1 v2 v3)
def mX2_valueOf : MI := (yX2_valueOf, cX2_valueOf, 3, (some .int), { frames := 3, cells := 0, slots := 0, locals := 83 }, [])
theorem mw_X2_valueOf : MW mX2_valueOf 2 := ⟨w601, w3, ⟨by decide, by decide⟩, by decide +kernel⟩
theorem mv_X2_valueOf : MV mX2_valueOf 2 := ⟨_, rfl, w599, w600⟩
def fX2_valueOf  (r0 : Nat) (v1 : Int32) (v2 : Int32) : AH → Option (Int32 × AH) := fun h =>
  if v2 = (nI 0) then (
    (gI 2 r0 2 h).bind fun x_20 =>
    some (((x_20 >>> (v1 &&& 31)) &&& (nI 1)), h))
  else
  if v2 = (nI 1) then (
    (gI 2 r0 3 h).bind fun x_21 =>
    some (((x_21 >>> (v1 &&& 31)) &&& (nI 1)), h))
  else
  if v2 = (nI 2) then (
    (gI 2 r0 4 h).bind fun x_22 =>
    some (((x_22 >>> (v1 &&& 31)) &&& (nI 1)), h))
  else
  if v2 = (nI 3) then (
    (gP 2 r0 5 h).bind fun a_23 =>
    (ldI a_23 v1 h).bind fun x_24 =>
    some (x_24, h))
  else
  if v2 = (nI 4) then (
    (gP 2 r0 6 h).bind fun a_25 =>
    (ldI a_25 v1 h).bind fun x_26 =>
    some (x_26, h))
  else
  if v2 = (nI 5) then (
    (gP 2 r0 7 h).bind fun a_27 =>
    (ldI a_27 v1 h).bind fun x_28 =>
    some (x_28, h))
  else
  if v2 = (nI 6) then (
    (gI 2 r0 1 h).bind fun x_29 =>
    some (((x_29 >>> (v1 &&& 31)) &&& (nI 1)), h))
  else
  if v2 = (nI 7) then (
    (gP 2 r0 10 h).bind fun a_30 =>
    cv 4 a_30 (fX4_countOf a_30 v1) h fun x_31 h =>
    some (x_31, h))
  else
  if v2 = (nI 8) then (
    (gP 2 r0 8 h).bind fun a_32 =>
    (ldI a_32 v1 h).bind fun x_33 =>
    some (x_33, h))
  else
  (gP 2 r0 9 h).bind fun a_34 =>
  (ldI a_34 v1 h).bind fun x_35 =>
  (gP 2 r0 8 h).bind fun a_36 =>
  (ldI a_36 v1 h).bind fun x_37 =>
  cv 2 r0 (fX2_isIncomplete r0 x_35 x_37) h fun x_38 h =>
  if x_38 = 0 then (
    some ((nI 0), h))
  else
  some ((nI 1), h)
theorem sX2_valueOf  (r0 : Nat) (v1 : Int32) (v2 : Int32) : Sm mX2_valueOf rI 0 0 0 [some (.ref r0), some (.int v1), some (.int v2)] [] (fX2_valueOf r0 v1 v2) := by
  unfold fX2_valueOf
  refine S_iload_n (pc := 0) dX2_valueOf_0 rfl ?_
  refine S_case (x := v2) (v := (nI 0)) (fun n0 => ?_) (fun n0 => ?_)
  · refine S_tsI (pc := 1) (tgt := 52) n0 dX2_valueOf_1 (by decide) rfl (by decide) ?_
    refine S_aload_n (pc := 52) dX2_valueOf_52 rfl ?_
    refine S_gI (pc := 53) fl_X2_18 rfl dX2_valueOf_53 (fun x_20 => ?_)
    refine S_iload_n (pc := 56) dX2_valueOf_56 rfl ?_
    refine S_ishr (pc := 57) dX2_valueOf_57 ?_
    refine S_iconst (pc := 58) (v := (nI 1)) dX2_valueOf_58 kI_1 ?_
    refine S_iand (pc := 59) dX2_valueOf_59 ?_
    exact S_iret (pc := 60) ⟨rfl, rfl⟩ rfl rfl dX2_valueOf_60
  refine S_case (x := v2) (v := (nI 1)) (fun n1 => ?_) (fun n1 => ?_)
  · refine S_tsI (pc := 1) (tgt := 61) n1 dX2_valueOf_1 (by decide) rfl (by decide) ?_
    refine S_aload_n (pc := 61) dX2_valueOf_61 rfl ?_
    refine S_gI (pc := 62) fl_X2_21 rfl dX2_valueOf_62 (fun x_21 => ?_)
    refine S_iload_n (pc := 65) dX2_valueOf_65 rfl ?_
    refine S_ishr (pc := 66) dX2_valueOf_66 ?_
    refine S_iconst (pc := 67) (v := (nI 1)) dX2_valueOf_67 kI_1 ?_
    refine S_iand (pc := 68) dX2_valueOf_68 ?_
    exact S_iret (pc := 69) ⟨rfl, rfl⟩ rfl rfl dX2_valueOf_69
  refine S_case (x := v2) (v := (nI 2)) (fun n2 => ?_) (fun n2 => ?_)
  · refine S_tsI (pc := 1) (tgt := 70) n2 dX2_valueOf_1 (by decide) rfl (by decide) ?_
    refine S_aload_n (pc := 70) dX2_valueOf_70 rfl ?_
    refine S_gI (pc := 71) fl_X2_24 rfl dX2_valueOf_71 (fun x_22 => ?_)
    refine S_iload_n (pc := 74) dX2_valueOf_74 rfl ?_
    refine S_ishr (pc := 75) dX2_valueOf_75 ?_
    refine S_iconst (pc := 76) (v := (nI 1)) dX2_valueOf_76 kI_1 ?_
    refine S_iand (pc := 77) dX2_valueOf_77 ?_
    exact S_iret (pc := 78) ⟨rfl, rfl⟩ rfl rfl dX2_valueOf_78
  refine S_case (x := v2) (v := (nI 3)) (fun n3 => ?_) (fun n3 => ?_)
  · refine S_tsI (pc := 1) (tgt := 79) n3 dX2_valueOf_1 (by decide) rfl (by decide) ?_
    refine S_aload_n (pc := 79) dX2_valueOf_79 rfl ?_
    refine S_gP (pc := 80) fl_X2_27 rfl dX2_valueOf_80 (fun a_23 => ?_)
    refine S_iload_n (pc := 83) dX2_valueOf_83 rfl ?_
    refine S_ldI (pc := 84) dX2_valueOf_84 (fun x_24 => ?_)
    exact S_iret (pc := 85) ⟨rfl, rfl⟩ rfl rfl dX2_valueOf_85
  refine S_case (x := v2) (v := (nI 4)) (fun n4 => ?_) (fun n4 => ?_)
  · refine S_tsI (pc := 1) (tgt := 86) n4 dX2_valueOf_1 (by decide) rfl (by decide) ?_
    refine S_aload_n (pc := 86) dX2_valueOf_86 rfl ?_
    refine S_gP (pc := 87) fl_X2_31 rfl dX2_valueOf_87 (fun a_25 => ?_)
    refine S_iload_n (pc := 90) dX2_valueOf_90 rfl ?_
    refine S_ldI (pc := 91) dX2_valueOf_91 (fun x_26 => ?_)
    exact S_iret (pc := 92) ⟨rfl, rfl⟩ rfl rfl dX2_valueOf_92
  refine S_case (x := v2) (v := (nI 5)) (fun n5 => ?_) (fun n5 => ?_)
  · refine S_tsI (pc := 1) (tgt := 93) n5 dX2_valueOf_1 (by decide) rfl (by decide) ?_
    refine S_aload_n (pc := 93) dX2_valueOf_93 rfl ?_
    refine S_gP (pc := 94) fl_X2_34 rfl dX2_valueOf_94 (fun a_27 => ?_)
    refine S_iload_n (pc := 97) dX2_valueOf_97 rfl ?_
    refine S_ldI (pc := 98) dX2_valueOf_98 (fun x_28 => ?_)
    exact S_iret (pc := 99) ⟨rfl, rfl⟩ rfl rfl dX2_valueOf_99
  refine S_case (x := v2) (v := (nI 6)) (fun n6 => ?_) (fun n6 => ?_)
  · refine S_tsI (pc := 1) (tgt := 100) n6 dX2_valueOf_1 (by decide) rfl (by decide) ?_
    refine S_aload_n (pc := 100) dX2_valueOf_100 rfl ?_
    refine S_gI (pc := 101) fl_X2_15 rfl dX2_valueOf_101 (fun x_29 => ?_)
    refine S_iload_n (pc := 104) dX2_valueOf_104 rfl ?_
    refine S_ishr (pc := 105) dX2_valueOf_105 ?_
    refine S_iconst (pc := 106) (v := (nI 1)) dX2_valueOf_106 kI_1 ?_
    refine S_iand (pc := 107) dX2_valueOf_107 ?_
    exact S_iret (pc := 108) ⟨rfl, rfl⟩ rfl rfl dX2_valueOf_108
  refine S_case (x := v2) (v := (nI 7)) (fun n7 => ?_) (fun n7 => ?_)
  · refine S_tsI (pc := 1) (tgt := 109) n7 dX2_valueOf_1 (by decide) rfl (by decide) ?_
    refine S_aload_n (pc := 109) dX2_valueOf_109 rfl ?_
    refine S_gP (pc := 110) fl_X2_46 rfl dX2_valueOf_110 (fun a_30 => ?_)
    refine S_iload_n (pc := 113) dX2_valueOf_113 rfl ?_
    refine Y_Vi (pc := 114) (st := []) (kc' := 0) (ks' := 0) (ktX4_countOf a_30 v1) mw_X4_countOf mv_X4_countOf w602 (RO.mk rfl rfl rfl rfl) rfl rfl rfl dX2_valueOf_114 ⟨rfl, rfl⟩ (fun x_31 => ?_)
    exact S_iret (pc := 117) ⟨rfl, rfl⟩ rfl rfl dX2_valueOf_117
  refine S_case (x := v2) (v := (nI 8)) (fun n8 => ?_) (fun n8 => ?_)
  · refine S_tsI (pc := 1) (tgt := 118) n8 dX2_valueOf_1 (by decide) rfl (by decide) ?_
    refine S_aload_n (pc := 118) dX2_valueOf_118 rfl ?_
    refine S_gP (pc := 119) fl_X2_37 rfl dX2_valueOf_119 (fun a_32 => ?_)
    refine S_iload_n (pc := 122) dX2_valueOf_122 rfl ?_
    refine S_ldI (pc := 123) dX2_valueOf_123 (fun x_33 => ?_)
    exact S_iret (pc := 124) ⟨rfl, rfl⟩ rfl rfl dX2_valueOf_124
  refine S_tsD (pc := 1) (tgt := 125) (by have n0 := lv_neT (a := 0) n0 rfl; have n1 := lv_neT (a := 1) n1 rfl; have n2 := lv_neT (a := 2) n2 rfl; have n3 := lv_neT (a := 3) n3 rfl; have n4 := lv_neT (a := 4) n4 rfl; have n5 := lv_neT (a := 5) n5 rfl; have n6 := lv_neT (a := 6) n6 rfl; have n7 := lv_neT (a := 7) n7 rfl; have n8 := lv_neT (a := 8) n8 rfl; omega) dX2_valueOf_1 (by decide) ?_
  refine S_aload_n (pc := 125) dX2_valueOf_125 rfl ?_
  refine S_aload_n (pc := 126) dX2_valueOf_126 rfl ?_
  refine S_gP (pc := 127) fl_X2_40 rfl dX2_valueOf_127 (fun a_34 => ?_)
  refine S_iload_n (pc := 130) dX2_valueOf_130 rfl ?_
  refine S_ldI (pc := 131) dX2_valueOf_131 (fun x_35 => ?_)
  refine S_aload_n (pc := 132) dX2_valueOf_132 rfl ?_
  refine S_gP (pc := 133) fl_X2_37 rfl dX2_valueOf_133 (fun a_36 => ?_)
  refine S_iload_n (pc := 136) dX2_valueOf_136 rfl ?_
  refine S_ldI (pc := 137) dX2_valueOf_137 (fun x_37 => ?_)
  refine Y_Vi (pc := 138) (st := []) (kc' := 0) (ks' := 0) (ktX2_isIncomplete r0 x_35 x_37) mw_X2_isIncomplete mv_X2_isIncomplete w606 (RO.mk rfl rfl rfl rfl) rfl rfl rfl dX2_valueOf_138 ⟨rfl, rfl⟩ (fun x_38 => ?_)
  refine S_ifeq (pc := 141) (tgt := 148) dX2_valueOf_141 (by decide) ?_ ?_
  · refine S_iconst (pc := 148) (v := (nI 0)) dX2_valueOf_148 kI_0 ?_
    exact S_iret (pc := 149) ⟨rfl, rfl⟩ rfl rfl dX2_valueOf_149
  · refine S_iconst (pc := 144) (v := (nI 1)) dX2_valueOf_144 kI_1 ?_
    refine S_goto (pc := 145) (tgt := 149) dX2_valueOf_145 (by decide) ?_
    exact S_iret (pc := 149) ⟨rfl, rfl⟩ rfl rfl dX2_valueOf_149
theorem ktX2_valueOf (r0 : Nat) (v1 : Int32) (v2 : Int32) : Ct mX2_valueOf rI [.ref r0, .int v1, .int v2] (fX2_valueOf r0 v1 v2) := Ct.of (z := 0) pn_X2 rfl rfl rfl (sX2_valueOf r0 v1 v2)
