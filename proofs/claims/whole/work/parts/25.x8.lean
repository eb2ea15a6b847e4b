def mX8_isPackage : MI := (yX8_isPackage, cX8_isPackage, 1, (some .boolean), { frames := 0, cells := 0, slots := 0, locals := 0 }, [])
theorem mw_X8_isPackage : MW mX8_isPackage 1 := ⟨w1052, w1, ⟨by decide, by decide⟩, by decide +kernel⟩
def fX8_isPackage  (v0 : Int32) : AH → Option (Int32 × AH) := fun h =>
  if v0 < 0 then (
    rz (nI 0) (nI 0) h)
  else
  if (nI 4) ≤ v0 then (
    rz (nI 0) (nI 0) h)
  else
  rz (nI 1) (nI 1) h
theorem sX8_isPackage  (v0 : Int32) : Sm mX8_isPackage rI 0 0 0 [some (.int v0)] [] (fX8_isPackage v0) := by
  unfold fX8_isPackage
  refine S_iload_n (pc := 0) dX8_isPackage_0 rfl ?_
  refine S_iflt (pc := 1) (tgt := 13) dX8_isPackage_1 (by decide) ?_ ?_
  · refine S_iconst (pc := 13) (v := (nI 0)) dX8_isPackage_13 kI_0 ?_
    exact S_zret (pc := 14) ⟨rfl, rfl⟩ rfl rfl dX8_isPackage_14
  · refine S_iload_n (pc := 4) dX8_isPackage_4 rfl ?_
    refine S_iconst (pc := 5) (v := (nI 4)) dX8_isPackage_5 kI_4 ?_
    refine S_icmpge (pc := 6) (tgt := 13) dX8_isPackage_6 (by decide) ?_ ?_
    · refine S_iconst (pc := 13) (v := (nI 0)) dX8_isPackage_13 kI_0 ?_
      exact S_zret (pc := 14) ⟨rfl, rfl⟩ rfl rfl dX8_isPackage_14
    · refine S_iconst (pc := 9) (v := (nI 1)) dX8_isPackage_9 kI_1 ?_
      refine S_goto (pc := 10) (tgt := 14) dX8_isPackage_10 (by decide) ?_
      exact S_zret (pc := 14) ⟨rfl, rfl⟩ rfl rfl dX8_isPackage_14
theorem ktX8_isPackage (v0 : Int32) : Ct mX8_isPackage rI [.int v0] (fX8_isPackage v0) := Ct.of (z := 0) pn_X8 rfl rfl rfl (sX8_isPackage v0)
def mX8_isName : MI := (yX8_isName, cX8_isName, 1, (some .boolean), { frames := 0, cells := 0, slots := 0, locals := 0 }, [])
theorem mw_X8_isName : MW mX8_isName 1 := ⟨w904, w1, ⟨by decide, by decide⟩, by decide +kernel⟩
def fX8_isName  (v0 : Int32) : AH → Option (Int32 × AH) := fun h =>
  if v0 < 0 then (
    rz (nI 0) (nI 0) h)
  else
  if (nI 8) ≤ v0 then (
    rz (nI 0) (nI 0) h)
  else
  rz (nI 1) (nI 1) h
theorem sX8_isName  (v0 : Int32) : Sm mX8_isName rI 0 0 0 [some (.int v0)] [] (fX8_isName v0) := by
  unfold fX8_isName
  refine S_iload_n (pc := 0) dX8_isName_0 rfl ?_
  refine S_iflt (pc := 1) (tgt := 14) dX8_isName_1 (by decide) ?_ ?_
  · refine S_iconst (pc := 14) (v := (nI 0)) dX8_isName_14 kI_0 ?_
    exact S_zret (pc := 15) ⟨rfl, rfl⟩ rfl rfl dX8_isName_15
  · refine S_iload_n (pc := 4) dX8_isName_4 rfl ?_
    refine S_bipush (pc := 5) (v := (nI 8)) dX8_isName_5 kB_8 ?_
    refine S_icmpge (pc := 7) (tgt := 14) dX8_isName_7 (by decide) ?_ ?_
    · refine S_iconst (pc := 14) (v := (nI 0)) dX8_isName_14 kI_0 ?_
      exact S_zret (pc := 15) ⟨rfl, rfl⟩ rfl rfl dX8_isName_15
    · refine S_iconst (pc := 10) (v := (nI 1)) dX8_isName_10 kI_1 ?_
      refine S_goto (pc := 11) (tgt := 15) dX8_isName_11 (by decide) ?_
      exact S_zret (pc := 15) ⟨rfl, rfl⟩ rfl rfl dX8_isName_15
theorem ktX8_isName (v0 : Int32) : Ct mX8_isName rI [.int v0] (fX8_isName v0) := Ct.of (z := 0) pn_X8 rfl rfl rfl (sX8_isName v0)
def mX8_compileProbe : MI := (yX8_compileProbe, cX8_compileProbe, 1, (some .boolean), { frames := 5, cells := 0, slots := 0, locals := 126 }, [])
theorem mw_X8_compileProbe : MW mX8_compileProbe 0 := ⟨w441, w1, ⟨by decide, by decide⟩, by decide +kernel⟩
theorem mv_X8_compileProbe : MV mX8_compileProbe 8 := ⟨_, rfl, w440, wp3⟩
def fX8_compileProbe  (r0 : Nat) : AH → Option (Int32 × AH) := fun h =>
  (gP 8 r0 6 h).bind fun a_10 =>
  (ldP 1 a_10 (nI 0) h).bind fun a_11 =>
  (gP 8 r0 5 h).bind fun a_12 =>
  cv 1 a_11 (fX1_errorOf a_11 a_12) h fun x_13 h =>
  if x_13 = 0 then (
    (gP 8 r0 5 h).bind fun a_14 =>
    (gP 0 a_14 8 h).bind fun a_15 =>
    (gP 8 r0 6 h).bind fun a_16 =>
    (ldP 1 a_16 (nI 0) h).bind fun a_17 =>
    (gP 1 a_17 1 h).bind fun a_18 =>
    cv 7 a_15 (fX7_copyFrom a_15 a_18) h fun _ h =>
    rz (nI 1) (nI 1) h)
  else
  rz (nI 0) (nI 0) h
theorem sX8_compileProbe  (r0 : Nat) : Sm mX8_compileProbe rI 0 0 0 [some (.ref r0)] [] (fX8_compileProbe r0) := by
  unfold fX8_compileProbe
  refine S_aload_n (pc := 0) dX8_compileProbe_0 rfl ?_
  refine S_gP (pc := 1) fl_X8_43 rfl dX8_compileProbe_1 (fun a_10 => ?_)
  refine S_iconst (pc := 4) (v := (nI 0)) dX8_compileProbe_4 kI_0 ?_
  refine S_ldP (pc := 5) (c := 1) (by decide) dX8_compileProbe_5 (fun a_11 => ?_)
  refine S_aload_n (pc := 6) dX8_compileProbe_6 rfl ?_
  refine S_gP (pc := 7) fl_X8_37 rfl dX8_compileProbe_7 (fun a_12 => ?_)
  refine Y_Vi (pc := 10) (st := []) (kc' := 0) (ks' := 0) (ktX1_errorOf a_11 a_12) mw_X1_errorOf mv_X1_errorOf w442 (RO.mk rfl rfl rfl rfl) rfl rfl rfl dX8_compileProbe_10 ⟨rfl, rfl⟩ (fun x_13 => ?_)
  refine S_ifeq (pc := 13) (tgt := 18) dX8_compileProbe_13 (by decide) ?_ ?_
  · refine S_aload_n (pc := 18) dX8_compileProbe_18 rfl ?_
    refine S_gP (pc := 19) fl_X8_37 rfl dX8_compileProbe_19 (fun a_14 => ?_)
    refine S_gP (pc := 22) fl_X8_425 rfl dX8_compileProbe_22 (fun a_15 => ?_)
    refine S_aload_n (pc := 25) dX8_compileProbe_25 rfl ?_
    refine S_gP (pc := 26) fl_X8_43 rfl dX8_compileProbe_26 (fun a_16 => ?_)
    refine S_iconst (pc := 29) (v := (nI 0)) dX8_compileProbe_29 kI_0 ?_
    refine S_ldP (pc := 30) (c := 1) (by decide) dX8_compileProbe_30 (fun a_17 => ?_)
    refine S_gP (pc := 31) fl_X8_429 rfl dX8_compileProbe_31 (fun a_18 => ?_)
    refine Y_Vv (pc := 34) (st := []) (kc' := 0) (ks' := 0) (ktX7_copyFrom a_15 a_18) mw_X7_copyFrom mv_X7_copyFrom w534 (RO.mk rfl rfl rfl rfl) rfl rfl rfl dX8_compileProbe_34 ⟨rfl, rfl⟩ ?_
    refine S_iconst (pc := 37) (v := (nI 1)) dX8_compileProbe_37 kI_1 ?_
    exact S_zret (pc := 38) ⟨rfl, rfl⟩ rfl rfl dX8_compileProbe_38
  · refine S_iconst (pc := 16) (v := (nI 0)) dX8_compileProbe_16 kI_0 ?_
    exact S_zret (pc := 17) ⟨rfl, rfl⟩ rfl rfl dX8_compileProbe_17
theorem ktX8_compileProbe (r0 : Nat) : Ct mX8_compileProbe rI [.ref r0] (fX8_compileProbe r0) := Ct.of (z := 0) pn_X8 rfl rfl rfl (sX8_compileProbe r0)
def mX8_saveState : MI := (yX8_saveState, cX8_saveState, 2, none, { frames := 4, cells := 0, slots := 0, locals := 90 }, [])
theorem mw_X8_saveState : MW mX8_saveState 0 := ⟨w579, w1, ⟨by decide, by decide⟩, by decide +kernel⟩
theorem mv_X8_saveState : MV mX8_saveState 8 := ⟨_, rfl, w578, wp15⟩
def fX8_saveState_45  (r0 : Nat) (v1 : Int32) : AH → Option (Unit × AH) := fun h =>
  (gP 8 r0 1 h).bind fun a_17 =>
  (ldP 6 a_17 v1 h).bind fun a_18 =>
  (gP 8 r0 0 h).bind fun a_19 =>
  cv 6 a_18 (fX6_copyFrom a_18 a_19) h fun _ h =>
  some ((), h)
def fX8_saveState  (r0 : Nat) : AH → Option (Unit × AH) := fun h =>
  (gI 8 r0 2 h).bind fun x_20 =>
  (gI 8 r0 3 h).bind fun x_21 =>
  (gI 8 r0 3 h).bind fun x_22 =>
  if x_22 = (nI 5) then (
    (gI 8 r0 2 h).bind fun x_24 =>
    (pI 8 r0 2 ((x_24 + (nI 1)) - (x_24 + (nI 1)) / (nI 5) * (nI 5)) h).bind fun h =>
    fX8_saveState_45 r0 ((x_20 + x_21) - (x_20 + x_21) / (nI 5) * (nI 5)) h)
  else
  (gI 8 r0 3 h).bind fun x_23 =>
  (pI 8 r0 3 (x_23 + (nI 1)) h).bind fun h =>
  fX8_saveState_45 r0 ((x_20 + x_21) - (x_20 + x_21) / (nI 5) * (nI 5)) h
theorem sX8_saveState_45  (r0 : Nat) (v1 : Int32) : Sm mX8_saveState rV 0 0 45 [some (.ref r0), some (.int v1)] [] (fX8_saveState_45 r0 v1) := by
  unfold fX8_saveState_45
  refine S_aload_n (pc := 45) dX8_saveState_45 rfl ?_
  refine S_gP (pc := 46) fl_X8_16 rfl dX8_saveState_46 (fun a_17 => ?_)
  refine S_iload_n (pc := 49) dX8_saveState_49 rfl ?_
  refine S_ldP (pc := 50) (c := 6) (by decide) dX8_saveState_50 (fun a_18 => ?_)
  refine S_aload_n (pc := 51) dX8_saveState_51 rfl ?_
  refine S_gP (pc := 52) fl_X8_10 rfl dX8_saveState_52 (fun a_19 => ?_)
  refine Y_Vv (pc := 55) (st := []) (kc' := 0) (ks' := 0) (ktX6_copyFrom a_18 a_19) mw_X6_copyFrom mv_X6_copyFrom w580 (RO.mk rfl rfl rfl rfl) rfl rfl rfl dX8_saveState_55 ⟨rfl, rfl⟩ ?_
  exact S_vret (pc := 58) ⟨rfl, rfl⟩ rfl rfl dX8_saveState_58
theorem sX8_saveState  (r0 : Nat) : Sm mX8_saveState rV 0 0 0 [some (.ref r0), none] [] (fX8_saveState r0) := by
  unfold fX8_saveState
  refine S_aload_n (pc := 0) dX8_saveState_0 rfl ?_
  refine S_gI (pc := 1) fl_X8_20 rfl dX8_saveState_1 (fun x_20 => ?_)
  refine S_aload_n (pc := 4) dX8_saveState_4 rfl ?_
  refine S_gI (pc := 5) fl_X8_24 rfl dX8_saveState_5 (fun x_21 => ?_)
  refine S_iadd (pc := 8) dX8_saveState_8 ?_
  refine S_iconst (pc := 9) (v := (nI 5)) dX8_saveState_9 kI_5 ?_
  refine S_irem (pc := 10) (by decide) dX8_saveState_10 ?_
  refine Z_istore_n (pc := 11) (lv' := [some (.ref r0), some (.int ((x_20 + x_21) - (x_20 + x_21) / (nI 5) * (nI 5)))]) dX8_saveState_11 rfl rfl rfl ?_
  refine S_aload_n (pc := 12) dX8_saveState_12 rfl ?_
  refine S_gI (pc := 13) fl_X8_24 rfl dX8_saveState_13 (fun x_22 => ?_)
  refine S_iconst (pc := 16) (v := (nI 5)) dX8_saveState_16 kI_5 ?_
  refine S_icmpne (pc := 17) (tgt := 35) dX8_saveState_17 (by decide) ?_ ?_
  · refine S_aload_n (pc := 35) dX8_saveState_35 rfl ?_
    refine S_dup (pc := 36) rfl dX8_saveState_36 ?_
    refine S_gI (pc := 37) fl_X8_24 rfl dX8_saveState_37 (fun x_23 => ?_)
    refine S_iconst (pc := 40) (v := (nI 1)) dX8_saveState_40 kI_1 ?_
    refine S_iadd (pc := 41) dX8_saveState_41 ?_
    refine S_pI (pc := 42) fl_X8_24 rfl rfl dX8_saveState_42 ?_
    exact (sX8_saveState_45 r0 ((x_20 + x_21) - (x_20 + x_21) / (nI 5) * (nI 5)))
  · refine S_aload_n (pc := 20) dX8_saveState_20 rfl ?_
    refine S_aload_n (pc := 21) dX8_saveState_21 rfl ?_
    refine S_gI (pc := 22) fl_X8_20 rfl dX8_saveState_22 (fun x_24 => ?_)
    refine S_iconst (pc := 25) (v := (nI 1)) dX8_saveState_25 kI_1 ?_
    refine S_iadd (pc := 26) dX8_saveState_26 ?_
    refine S_iconst (pc := 27) (v := (nI 5)) dX8_saveState_27 kI_5 ?_
    refine S_irem (pc := 28) (by decide) dX8_saveState_28 ?_
    refine S_pI (pc := 29) fl_X8_20 rfl rfl dX8_saveState_29 ?_
    refine S_goto (pc := 32) (tgt := 45) dX8_saveState_32 (by decide) ?_
    exact (sX8_saveState_45 r0 ((x_20 + x_21) - (x_20 + x_21) / (nI 5) * (nI 5)))
theorem ktX8_saveState (r0 : Nat) : Ct mX8_saveState rV [.ref r0] (fX8_saveState r0) := Ct.of (z := 1) pn_X8 rfl rfl rfl (sX8_saveState r0)
def mX8_addClient : MI := (yX8_addClient, cX8_addClient, 5, (some .int), { frames := 6, cells := 1, slots := 6, locals := 146 }, [])
theorem mw_X8_addClient : MW mX8_addClient 4 := ⟨w1049, w1, ⟨by decide, by decide⟩, by decide +kernel⟩
theorem mv_X8_addClient : MV mX8_addClient 8 := ⟨_, rfl, w1047, w1048⟩
def fX8_addClient_106  (r0 : Nat) : AH → Option ((Nat ⊕ Int32) × AH) := fun h =>
  cv 8 r0 (fX8_compileProbe r0) h fun x_35 h =>
  if x_35 = 0 then (
    some ((Sum.inl 2 : (Nat ⊕ Int32)), thr h))
  else
  (gP 8 r0 0 h).bind fun a_36 =>
  (gI 6 a_36 2 h).bind fun x_37 =>
  if x_37 < (nI 12) then (
    cv 8 r0 (fX8_saveState r0) h fun _ h =>
    (gP 8 r0 0 h).bind fun a_38 =>
    (gP 8 r0 5 h).bind fun a_39 =>
    cv 6 a_38 (fX6_append a_38 a_39) h fun _ h =>
    (gP 8 r0 0 h).bind fun a_40 =>
    (gI 6 a_40 2 h).bind fun x_41 =>
    some ((Sum.inr (x_41 - (nI 1)) : (Nat ⊕ Int32)), h))
  else
  some ((Sum.inl 3 : (Nat ⊕ Int32)), thr h)
def fX8_addClient_61  (r0 : Nat) (v1 : Int32) (v2 : Int32) (v3 : Int32) (v4 : Int32) : AH → Option ((Nat ⊕ Int32) × AH) := fun h =>
  (gP 8 r0 5 h).bind fun a_42 =>
  cv 0 a_42 (fX0_put a_42 v1 v2 v3 v4) h fun _ h =>
  if v1 = (nI 2) then (
    (gP 8 r0 5 h).bind fun a_43 =>
    (gP 8 r0 4 h).bind fun a_44 =>
    (gI 5 a_44 1 h).bind fun x_45 =>
    (gP 8 r0 4 h).bind fun a_46 =>
    (gI 5 a_46 2 h).bind fun x_47 =>
    (gP 8 r0 4 h).bind fun a_48 =>
    (gI 5 a_48 3 h).bind fun x_49 =>
    cv 0 a_43 (fX0_putArguments a_43 x_45 x_47 x_49) h fun _ h =>
    fX8_addClient_106 r0 h)
  else
  fX8_addClient_106 r0 h
def fX8_addClient  (r0 : Nat) (v1 : Int32) (v2 : Int32) (v3 : Int32) (v4 : Int32) : AH → Option ((Nat ⊕ Int32) × AH) := fun h =>
  if v1 < 0 then (
    some ((Sum.inl 2 : (Nat ⊕ Int32)), thr h))
  else
  if (nI 5) < v1 then (
    some ((Sum.inl 2 : (Nat ⊕ Int32)), thr h))
  else
  if v2 < 0 then (
    some ((Sum.inl 2 : (Nat ⊕ Int32)), thr h))
  else
  if (nI 10) ≤ v2 then (
    some ((Sum.inl 2 : (Nat ⊕ Int32)), thr h))
  else
  bd (fX8_isPackage v4 h) fun x_50 h =>
  if x_50 = 0 then (
    some ((Sum.inl 2 : (Nat ⊕ Int32)), thr h))
  else
  if (nI 2) < v1 then (
    fX8_addClient_61 r0 v1 v2 v3 v4 h)
  else
  bd (fX8_isName v3 h) fun x_51 h =>
  if x_51 = 0 then (
    some ((Sum.inl 2 : (Nat ⊕ Int32)), thr h))
  else
  fX8_addClient_61 r0 v1 v2 v3 v4 h
theorem sX8_addClient_106  (r0 : Nat) : Sm mX8_addClient xI 0 0 106 [some (.ref r0), none, none, none, none] [] (fX8_addClient_106 r0) := by
  unfold fX8_addClient_106
  refine S_aload_n (pc := 106) dX8_addClient_106 rfl ?_
  refine Y_Vi (pc := 107) (st := []) (kc' := 0) (ks' := 0) (ktX8_compileProbe r0) mw_X8_compileProbe mv_X8_compileProbe w438 (RO.mk rfl rfl rfl rfl) rfl rfl rfl dX8_addClient_107 ⟨rfl, rfl⟩ (fun x_35 => ?_)
  refine S_ifne (pc := 110) (tgt := 124) dX8_addClient_110 (by decide) ?_ ?_
  · refine S_aload_n (pc := 124) dX8_addClient_124 rfl ?_
    refine S_gP (pc := 125) fl_X8_10 rfl dX8_addClient_125 (fun a_36 => ?_)
    refine S_gI (pc := 128) fl_X8_349 rfl dX8_addClient_128 (fun x_37 => ?_)
    refine S_bipush (pc := 131) (v := (nI 12)) dX8_addClient_131 kB_12 ?_
    refine S_icmplt (pc := 133) (tgt := 147) dX8_addClient_133 (by decide) ?_ ?_
    · refine S_aload_n (pc := 147) dX8_addClient_147 rfl ?_
      refine Y_Vv (pc := 148) (st := []) (kc' := 0) (ks' := 0) (ktX8_saveState r0) mw_X8_saveState mv_X8_saveState w576 (RO.mk rfl rfl rfl rfl) rfl rfl rfl dX8_addClient_148 ⟨rfl, rfl⟩ ?_
      refine S_aload_n (pc := 151) dX8_addClient_151 rfl ?_
      refine S_gP (pc := 152) fl_X8_10 rfl dX8_addClient_152 (fun a_38 => ?_)
      refine S_aload_n (pc := 155) dX8_addClient_155 rfl ?_
      refine S_gP (pc := 156) fl_X8_37 rfl dX8_addClient_156 (fun a_39 => ?_)
      refine Y_Vv (pc := 159) (st := []) (kc' := 0) (ks' := 0) (ktX6_append a_38 a_39) mw_X6_append mv_X6_append w538 (RO.mk rfl rfl rfl rfl) rfl rfl rfl dX8_addClient_159 ⟨rfl, rfl⟩ ?_
      refine S_aload_n (pc := 162) dX8_addClient_162 rfl ?_
      refine S_gP (pc := 163) fl_X8_10 rfl dX8_addClient_163 (fun a_40 => ?_)
      refine S_gI (pc := 166) fl_X8_349 rfl dX8_addClient_166 (fun x_41 => ?_)
      refine S_iconst (pc := 169) (v := (nI 1)) dX8_addClient_169 kI_1 ?_
      refine S_isub (pc := 170) dX8_addClient_170 ?_
      exact S_iret (pc := 171) ⟨rfl, rfl⟩ rfl rfl dX8_addClient_171
    · exact S_thrW (pc := 136) (k := 3) rfl exA3 w790 w17 st_29 rfl ⟨rfl, rfl, rfl, rfl⟩ rfl dX8_addClient_136 dX8_addClient_139 dX8_addClient_140 dX8_addClient_143 dX8_addClient_146
  · exact S_thrW (pc := 113) (k := 2) rfl exA2 w769 w16 st_28 rfl ⟨rfl, rfl, rfl, rfl⟩ rfl dX8_addClient_113 dX8_addClient_116 dX8_addClient_117 dX8_addClient_120 dX8_addClient_123
theorem sX8_addClient_61  (r0 : Nat) (v1 : Int32) (v2 : Int32) (v3 : Int32) (v4 : Int32) : Sm mX8_addClient xI 0 0 61 [some (.ref r0), some (.int v1), some (.int v2), some (.int v3), some (.int v4)] [] (fX8_addClient_61 r0 v1 v2 v3 v4) := by
  unfold fX8_addClient_61
  refine S_aload_n (pc := 61) dX8_addClient_61 rfl ?_
  refine S_gP (pc := 62) fl_X8_37 rfl dX8_addClient_62 (fun a_42 => ?_)
  refine S_iload_n (pc := 65) dX8_addClient_65 rfl ?_
  refine S_iload_n (pc := 66) dX8_addClient_66 rfl ?_
  refine S_iload_n (pc := 67) dX8_addClient_67 rfl ?_
  refine S_iload (pc := 68) dX8_addClient_68 rfl ?_
  refine Y_Vv (pc := 70) (st := []) (kc' := 0) (ks' := 0) (ktX0_put a_42 v1 v2 v3 v4) mw_X0_put mv_X0_put w430 (RO.mk rfl rfl rfl rfl) rfl rfl rfl dX8_addClient_70 ⟨rfl, rfl⟩ ?_
  refine S_iload_n (pc := 73) dX8_addClient_73 rfl ?_
  refine S_iconst (pc := 74) (v := (nI 2)) dX8_addClient_74 kI_2 ?_
  refine S_icmpne (pc := 75) (tgt := 106) dX8_addClient_75 (by decide) ?_ ?_
  · exact (S_lv (lv0 := [some (.ref r0), none, none, none, none]) (And.intro rfl trivial) (sX8_addClient_106 r0))
  · refine S_aload_n (pc := 78) dX8_addClient_78 rfl ?_
    refine S_gP (pc := 79) fl_X8_37 rfl dX8_addClient_79 (fun a_43 => ?_)
    refine S_aload_n (pc := 82) dX8_addClient_82 rfl ?_
    refine S_gP (pc := 83) fl_X8_30 rfl dX8_addClient_83 (fun a_44 => ?_)
    refine S_gI (pc := 86) fl_X8_213 rfl dX8_addClient_86 (fun x_45 => ?_)
    refine S_aload_n (pc := 89) dX8_addClient_89 rfl ?_
    refine S_gP (pc := 90) fl_X8_30 rfl dX8_addClient_90 (fun a_46 => ?_)
    refine S_gI (pc := 93) fl_X8_241 rfl dX8_addClient_93 (fun x_47 => ?_)
    refine S_aload_n (pc := 96) dX8_addClient_96 rfl ?_
    refine S_gP (pc := 97) fl_X8_30 rfl dX8_addClient_97 (fun a_48 => ?_)
    refine S_gI (pc := 100) fl_X8_244 rfl dX8_addClient_100 (fun x_49 => ?_)
    refine Y_Vv (pc := 103) (st := []) (kc' := 0) (ks' := 0) (ktX0_putArguments a_43 x_45 x_47 x_49) mw_X0_putArguments mv_X0_putArguments w1054 (RO.mk rfl rfl rfl rfl) rfl rfl rfl dX8_addClient_103 ⟨rfl, rfl⟩ ?_
    exact (S_lv (lv0 := [some (.ref r0), none, none, none, none]) (And.intro rfl trivial) (sX8_addClient_106 r0))
theorem sX8_addClient  (r0 : Nat) (v1 : Int32) (v2 : Int32) (v3 : Int32) (v4 : Int32) : Sm mX8_addClient xI 0 0 0 [some (.ref r0), some (.int v1), some (.int v2), some (.int v3), some (.int v4)] [] (fX8_addClient r0 v1 v2 v3 v4) := by
  unfold fX8_addClient
  refine S_iload_n (pc := 0) dX8_addClient_0 rfl ?_
  refine S_iflt (pc := 1) (tgt := 27) dX8_addClient_1 (by decide) ?_ ?_
  · exact S_thrW (pc := 27) (k := 2) rfl exA2 w769 w16 st_27 rfl ⟨rfl, rfl, rfl, rfl⟩ rfl dX8_addClient_27 dX8_addClient_30 dX8_addClient_31 dX8_addClient_34 dX8_addClient_37
  · refine S_iload_n (pc := 4) dX8_addClient_4 rfl ?_
    refine S_iconst (pc := 5) (v := (nI 5)) dX8_addClient_5 kI_5 ?_
    refine S_icmpgt (pc := 6) (tgt := 27) dX8_addClient_6 (by decide) ?_ ?_
    · exact S_thrW (pc := 27) (k := 2) rfl exA2 w769 w16 st_27 rfl ⟨rfl, rfl, rfl, rfl⟩ rfl dX8_addClient_27 dX8_addClient_30 dX8_addClient_31 dX8_addClient_34 dX8_addClient_37
    · refine S_iload_n (pc := 9) dX8_addClient_9 rfl ?_
      refine S_iflt (pc := 10) (tgt := 27) dX8_addClient_10 (by decide) ?_ ?_
      · exact S_thrW (pc := 27) (k := 2) rfl exA2 w769 w16 st_27 rfl ⟨rfl, rfl, rfl, rfl⟩ rfl dX8_addClient_27 dX8_addClient_30 dX8_addClient_31 dX8_addClient_34 dX8_addClient_37
      · refine S_iload_n (pc := 13) dX8_addClient_13 rfl ?_
        refine S_bipush (pc := 14) (v := (nI 10)) dX8_addClient_14 kB_10 ?_
        refine S_icmpge (pc := 16) (tgt := 27) dX8_addClient_16 (by decide) ?_ ?_
        · exact S_thrW (pc := 27) (k := 2) rfl exA2 w769 w16 st_27 rfl ⟨rfl, rfl, rfl, rfl⟩ rfl dX8_addClient_27 dX8_addClient_30 dX8_addClient_31 dX8_addClient_34 dX8_addClient_37
        · refine S_iload (pc := 19) dX8_addClient_19 rfl ?_
          refine Y_Ti (pc := 21) (st := []) (kc' := 0) (ks' := 0) (ktX8_isPackage v4) mw_X8_isPackage w1051 w1050 (RO.mk rfl rfl rfl rfl) rfl rfl rfl dX8_addClient_21 ⟨rfl, rfl⟩ (fun x_50 => ?_)
          refine S_ifne (pc := 24) (tgt := 38) dX8_addClient_24 (by decide) ?_ ?_
          · refine S_iload_n (pc := 38) dX8_addClient_38 rfl ?_
            refine S_iconst (pc := 39) (v := (nI 2)) dX8_addClient_39 kI_2 ?_
            refine S_icmpgt (pc := 40) (tgt := 61) dX8_addClient_40 (by decide) ?_ ?_
            · exact (sX8_addClient_61 r0 v1 v2 v3 v4)
            · refine S_iload_n (pc := 43) dX8_addClient_43 rfl ?_
              refine Y_Ti (pc := 44) (st := []) (kc' := 0) (ks' := 0) (ktX8_isName v3) mw_X8_isName w903 w902 (RO.mk rfl rfl rfl rfl) rfl rfl rfl dX8_addClient_44 ⟨rfl, rfl⟩ (fun x_51 => ?_)
              refine S_ifne (pc := 47) (tgt := 61) dX8_addClient_47 (by decide) ?_ ?_
              · exact (sX8_addClient_61 r0 v1 v2 v3 v4)
              · exact S_thrW (pc := 50) (k := 2) rfl exA2 w769 w16 st_24 rfl ⟨rfl, rfl, rfl, rfl⟩ rfl dX8_addClient_50 dX8_addClient_53 dX8_addClient_54 dX8_addClient_57 dX8_addClient_60
          · exact S_thrW (pc := 27) (k := 2) rfl exA2 w769 w16 st_27 rfl ⟨rfl, rfl, rfl, rfl⟩ rfl dX8_addClient_27 dX8_addClient_30 dX8_addClient_31 dX8_addClient_34 dX8_addClient_37
theorem ktX8_addClient (r0 : Nat) (v1 : Int32) (v2 : Int32) (v3 : Int32) (v4 : Int32) : Ct mX8_addClient xI [.ref r0, .int v1, .int v2, .int v3, .int v4] (fX8_addClient r0 v1 v2 v3 v4) := Ct.of (z := 0) pn_X8 rfl rfl rfl (sX8_addClient r0 v1 v2 v3 v4)
def mX8_requireVersion : MI := (yX8_requireVersion, cX8_requireVersion, 1, none, { frames := 6, cells := 1, slots := 6, locals := 90 }, [])
theorem mw_X8_requireVersion : MW mX8_requireVersion 1 := ⟨w694, w1, ⟨by decide, by decide⟩, by decide +kernel⟩
def fX8_requireVersion  (v0 : Int32) : AH → Option ((Nat ⊕ Unit) × AH) := fun h =>
  if v0 < 0 then (
    some ((Sum.inl 1 : (Nat ⊕ Unit)), thr h))
  else
  if v0 < (nI 2) then (
    some ((Sum.inr () : (Nat ⊕ Unit)), h))
  else
  some ((Sum.inl 1 : (Nat ⊕ Unit)), thr h)
theorem sX8_requireVersion  (v0 : Int32) : Sm mX8_requireVersion xV 0 0 0 [some (.int v0)] [] (fX8_requireVersion v0) := by
  unfold fX8_requireVersion
  refine S_iload_n (pc := 0) dX8_requireVersion_0 rfl ?_
  refine S_iflt (pc := 1) (tgt := 9) dX8_requireVersion_1 (by decide) ?_ ?_
  · exact S_thrW (pc := 9) (k := 1) rfl exA1 w695 w15 st_0 rfl ⟨rfl, rfl, rfl, rfl⟩ rfl dX8_requireVersion_9 dX8_requireVersion_12 dX8_requireVersion_13 dX8_requireVersion_16 dX8_requireVersion_19
  · refine S_iload_n (pc := 4) dX8_requireVersion_4 rfl ?_
    refine S_iconst (pc := 5) (v := (nI 2)) dX8_requireVersion_5 kI_2 ?_
    refine S_icmplt (pc := 6) (tgt := 20) dX8_requireVersion_6 (by decide) ?_ ?_
    · exact S_vret (pc := 20) ⟨rfl, rfl⟩ rfl rfl dX8_requireVersion_20
    · exact S_thrW (pc := 9) (k := 1) rfl exA1 w695 w15 st_0 rfl ⟨rfl, rfl, rfl, rfl⟩ rfl dX8_requireVersion_9 dX8_requireVersion_12 dX8_requireVersion_13 dX8_requireVersion_16 dX8_requireVersion_19
theorem ktX8_requireVersion (v0 : Int32) : Ct mX8_requireVersion xV [.int v0] (fX8_requireVersion v0) := Ct.of (z := 0) pn_X8 rfl rfl rfl (sX8_requireVersion v0)
def mX8_libraryOf : MI := (yX8_libraryOf, cX8_libraryOf, 2, (some (.object "CompatibilityJudge$Library")), { frames := 7, cells := 1, slots := 6, locals := 110 }, [])
theorem mw_X8_libraryOf : MW mX8_libraryOf 1 := ⟨w691, w1, ⟨by decide, by decide⟩, by decide +kernel⟩
theorem mv_X8_libraryOf : MV mX8_libraryOf 8 := ⟨_, rfl, w690, wp24⟩
def fX8_libraryOf  (r0 : Nat) (v1 : Int32) : AH → Option ((Nat ⊕ Nat) × AH) := fun h =>
  bd (fX8_requireVersion v1 h) <| xp fun _ h =>
  (gP 8 r0 0 h).bind fun a_4 =>
  (gP 6 a_4 0 h).bind fun a_5 =>
  (ldP 2 a_5 v1 h).bind fun a_6 =>
  some ((Sum.inr a_6 : (Nat ⊕ Nat)), h)
theorem sX8_libraryOf  (r0 : Nat) (v1 : Int32) : Sm mX8_libraryOf xA 0 0 0 [some (.ref r0), some (.int v1)] [] (fX8_libraryOf r0 v1) := by
  unfold fX8_libraryOf
  refine S_iload_n (pc := 0) dX8_libraryOf_0 rfl ?_
  refine YX_Tv (pc := 1) (st := []) (kc' := 1) (ks' := 6) (fun _ => rfl) rfl (ktX8_requireVersion v1) mw_X8_requireVersion w693 w692 (RO.mk rfl rfl rfl rfl) rfl rfl rfl dX8_libraryOf_1 ⟨rfl, rfl⟩ ?_
  refine S_aload_n (pc := 4) dX8_libraryOf_4 rfl ?_
  refine S_gP (pc := 5) fl_X8_10 rfl dX8_libraryOf_5 (fun a_4 => ?_)
  refine S_gP (pc := 8) fl_X8_53 rfl dX8_libraryOf_8 (fun a_5 => ?_)
  refine S_iload_n (pc := 11) dX8_libraryOf_11 rfl ?_
  refine S_ldP (pc := 12) (c := 2) (by decide) dX8_libraryOf_12 (fun a_6 => ?_)
  exact S_aret (pc := 13) ⟨rfl, rfl⟩ rfl rfl dX8_libraryOf_13
theorem ktX8_libraryOf (r0 : Nat) (v1 : Int32) : Ct mX8_libraryOf xA [.ref r0, .int v1] (fX8_libraryOf r0 v1) := Ct.of (z := 0) pn_X8 rfl rfl rfl (sX8_libraryOf r0 v1)
def mX8_libraryWith : MI := (yX8_libraryWith, cX8_libraryWith, 4, (some (.object "CompatibilityJudge$Library")), { frames := 8, cells := 2, slots := 12, locals := 131 }, [])
theorem mw_X8_libraryWith : MW mX8_libraryWith 2 := ⟨w822, w1, ⟨by decide, by decide⟩, by decide +kernel⟩
theorem mv_X8_libraryWith : MV mX8_libraryWith 8 := ⟨_, rfl, w821, wp26⟩
def fX8_libraryWith  (r0 : Nat) (v1 : Int32) (v2 : Int32) : AH → Option ((Nat ⊕ Nat) × AH) := fun h =>
  cv 8 r0 (fX8_libraryOf r0 v1) h <| xp fun a_3 h =>
  cv 2 a_3 (fX2_isThere a_3 v2) h fun x_4 h =>
  if x_4 = 0 then (
    some ((Sum.inl 1 : (Nat ⊕ Nat)), thr h))
  else
  some ((Sum.inr a_3 : (Nat ⊕ Nat)), h)
theorem sX8_libraryWith  (r0 : Nat) (v1 : Int32) (v2 : Int32) : Sm mX8_libraryWith xA 0 0 0 [some (.ref r0), some (.int v1), some (.int v2), none] [] (fX8_libraryWith r0 v1 v2) := by
  unfold fX8_libraryWith
  refine S_aload_n (pc := 0) dX8_libraryWith_0 rfl ?_
  refine S_iload_n (pc := 1) dX8_libraryWith_1 rfl ?_
  refine YX_Va (pc := 2) (st := []) (kc' := 1) (ks' := 6) (fun _ => rfl) rfl (ktX8_libraryOf r0 v1) mw_X8_libraryOf mv_X8_libraryOf w688 (RO.mk rfl rfl rfl rfl) rfl rfl rfl dX8_libraryWith_2 ⟨rfl, rfl⟩ (fun a_3 => ?_)
  refine Z_astore_n (pc := 5) (lv' := [some (.ref r0), some (.int v1), some (.int v2), some (.ref a_3)]) dX8_libraryWith_5 rfl rfl rfl ?_
  refine S_aload_n (pc := 6) dX8_libraryWith_6 rfl ?_
  refine S_iload_n (pc := 7) dX8_libraryWith_7 rfl ?_
  refine Y_Vi (pc := 8) (st := []) (kc' := 1) (ks' := 6) (ktX2_isThere a_3 v2) mw_X2_isThere mv_X2_isThere w597 (RO.mk rfl rfl rfl rfl) rfl rfl rfl dX8_libraryWith_8 ⟨rfl, rfl⟩ (fun x_4 => ?_)
  refine S_ifne (pc := 11) (tgt := 25) dX8_libraryWith_11 (by decide) ?_ ?_
  · refine S_aload_n (pc := 25) dX8_libraryWith_25 rfl ?_
    exact S_aret (pc := 26) ⟨rfl, rfl⟩ rfl rfl dX8_libraryWith_26
  · exact S_thrW (pc := 14) (k := 1) rfl exA1 w695 w15 st_5 rfl ⟨rfl, rfl, rfl, rfl⟩ rfl dX8_libraryWith_14 dX8_libraryWith_17 dX8_libraryWith_18 dX8_libraryWith_21 dX8_libraryWith_24
theorem ktX8_libraryWith (r0 : Nat) (v1 : Int32) (v2 : Int32) : Ct mX8_libraryWith xA [.ref r0, .int v1, .int v2] (fX8_libraryWith r0 v1 v2) := Ct.of (z := 1) pn_X8 rfl rfl rfl (sX8_libraryWith r0 v1 v2)
def mX8_isAccess : MI := (yX8_isAccess, cX8_isAccess, 1, (some .boolean), { frames := 0, cells := 0, slots := 0, locals := 0 }, [])
theorem mw_X8_isAccess : MW mX8_isAccess 1 := ⟨w907, w1, ⟨by decide, by decide⟩, by decide +kernel⟩
def fX8_isAccess  (v0 : Int32) : AH → Option (Int32 × AH) := fun h =>
  if v0 < 0 then (
    rz (nI 0) (nI 0) h)
  else
  if (nI 3) < v0 then (
    rz (nI 0) (nI 0) h)
  else
  rz (nI 1) (nI 1) h
theorem sX8_isAccess  (v0 : Int32) : Sm mX8_isAccess rI 0 0 0 [some (.int v0)] [] (fX8_isAccess v0) := by
  unfold fX8_isAccess
  refine S_iload_n (pc := 0) dX8_isAccess_0 rfl ?_
  refine S_iflt (pc := 1) (tgt := 13) dX8_isAccess_1 (by decide) ?_ ?_
  · refine S_iconst (pc := 13) (v := (nI 0)) dX8_isAccess_13 kI_0 ?_
    exact S_zret (pc := 14) ⟨rfl, rfl⟩ rfl rfl dX8_isAccess_14
  · refine S_iload_n (pc := 4) dX8_isAccess_4 rfl ?_
    refine S_iconst (pc := 5) (v := (nI 3)) dX8_isAccess_5 kI_3 ?_
    refine S_icmpgt (pc := 6) (tgt := 13) dX8_isAccess_6 (by decide) ?_ ?_
    · refine S_iconst (pc := 13) (v := (nI 0)) dX8_isAccess_13 kI_0 ?_
      exact S_zret (pc := 14) ⟨rfl, rfl⟩ rfl rfl dX8_isAccess_14
    · refine S_iconst (pc := 9) (v := (nI 1)) dX8_isAccess_9 kI_1 ?_
      refine S_goto (pc := 10) (tgt := 14) dX8_isAccess_10 (by decide) ?_
      exact S_zret (pc := 14) ⟨rfl, rfl⟩ rfl rfl dX8_isAccess_14
theorem ktX8_isAccess (v0 : Int32) : Ct mX8_isAccess rI [.int v0] (fX8_isAccess v0) := Ct.of (z := 0) pn_X8 rfl rfl rfl (sX8_isAccess v0)
def mX8_addField : MI := (yX8_addField, cX8_addField, 7, (some .int), { frames := 9, cells := 3, slots := 18, locals := 154 }, [])
theorem mw_X8_addField : MW mX8_addField 5 := ⟨w901, w1, ⟨by decide, by decide⟩, by decide +kernel⟩
theorem mv_X8_addField : MV mX8_addField 8 := ⟨_, rfl, w899, w900⟩
def fX8_addField  (r0 : Nat) (v1 : Int32) (v2 : Int32) (v3 : Int32) (v4 : Int32) (v5 : Int32) : AH → Option ((Nat ⊕ Int32) × AH) := fun h =>
  cv 8 r0 (fX8_libraryWith r0 v1 v2) h <| xp fun a_13 h =>
  bd (fX8_isName v3 h) fun x_14 h =>
  if x_14 = 0 then (
    some ((Sum.inl 2 : (Nat ⊕ Int32)), thr h))
  else
  bd (fX8_isAccess v4 h) fun x_15 h =>
  if x_15 = 0 then (
    some ((Sum.inl 2 : (Nat ⊕ Int32)), thr h))
  else
  cv 2 a_13 (fX2_allowsField a_13 v2 v4 v5) h fun x_16 h =>
  if x_16 = 0 then (
    some ((Sum.inl 2 : (Nat ⊕ Int32)), thr h))
  else
  if v2 = 0 then (
    some ((Sum.inl 3 : (Nat ⊕ Int32)), thr h))
  else
  (gP 2 a_13 10 h).bind fun a_17 =>
  cv 4 a_17 (fX4_hasField a_17 v2 v3) h fun x_18 h =>
  if x_18 = 0 then (
    (gP 2 a_13 10 h).bind fun a_19 =>
    cv 4 a_19 (fX4_isFull a_19) h fun x_20 h =>
    if x_20 = 0 then (
      cv 8 r0 (fX8_saveState r0) h fun _ h =>
      (gP 2 a_13 10 h).bind fun a_21 =>
      (gP 8 r0 4 h).bind fun a_22 =>
      cv 4 a_21 (fX4_append a_21 (nI 0) v2 v3 v4 v5 a_22) h fun _ h =>
      (gP 2 a_13 10 h).bind fun a_23 =>
      (gI 4 a_23 0 h).bind fun x_24 =>
      some ((Sum.inr (x_24 - (nI 1)) : (Nat ⊕ Int32)), h))
    else
    some ((Sum.inl 3 : (Nat ⊕ Int32)), thr h))
  else
  some ((Sum.inl 3 : (Nat ⊕ Int32)), thr h)
theorem sX8_addField  (r0 : Nat) (v1 : Int32) (v2 : Int32) (v3 : Int32) (v4 : Int32) (v5 : Int32) : Sm mX8_addField xI 0 0 0 [some (.ref r0), some (.int v1), some (.int v2), some (.int v3), some (.int v4), some (.int v5), none] [] (fX8_addField r0 v1 v2 v3 v4 v5) := by
  unfold fX8_addField
  refine S_aload_n (pc := 0) dX8_addField_0 rfl ?_
  refine S_iload_n (pc := 1) dX8_addField_1 rfl ?_
  refine S_iload_n (pc := 2) dX8_addField_2 rfl ?_
  refine YX_Va (pc := 3) (st := []) (kc' := 2) (ks' := 12) (fun _ => rfl) rfl (ktX8_libraryWith r0 v1 v2) mw_X8_libraryWith mv_X8_libraryWith w819 (RO.mk rfl rfl rfl rfl) rfl rfl rfl dX8_addField_3 ⟨rfl, rfl⟩ (fun a_13 => ?_)
  refine Z_astore (pc := 6) (lv' := [some (.ref r0), some (.int v1), some (.int v2), some (.int v3), some (.int v4), some (.int v5), some (.ref a_13)]) dX8_addField_6 rfl rfl rfl ?_
  refine S_iload_n (pc := 8) dX8_addField_8 rfl ?_
  refine Y_Ti (pc := 9) (st := []) (kc' := 2) (ks' := 12) (ktX8_isName v3) mw_X8_isName w903 w902 (RO.mk rfl rfl rfl rfl) rfl rfl rfl dX8_addField_9 ⟨rfl, rfl⟩ (fun x_14 => ?_)
  refine S_ifeq (pc := 12) (tgt := 36) dX8_addField_12 (by decide) ?_ ?_
  · exact S_thr (pc := 36) (k := 2) rfl exA2 w769 w16 st_17 rfl ⟨rfl, rfl, rfl, rfl⟩ rfl dX8_addField_36 dX8_addField_39 dX8_addField_40 dX8_addField_42 dX8_addField_45
  · refine S_iload (pc := 15) dX8_addField_15 rfl ?_
    refine Y_Ti (pc := 17) (st := []) (kc' := 2) (ks' := 12) (ktX8_isAccess v4) mw_X8_isAccess w906 w905 (RO.mk rfl rfl rfl rfl) rfl rfl rfl dX8_addField_17 ⟨rfl, rfl⟩ (fun x_15 => ?_)
    refine S_ifeq (pc := 20) (tgt := 36) dX8_addField_20 (by decide) ?_ ?_
    · exact S_thr (pc := 36) (k := 2) rfl exA2 w769 w16 st_17 rfl ⟨rfl, rfl, rfl, rfl⟩ rfl dX8_addField_36 dX8_addField_39 dX8_addField_40 dX8_addField_42 dX8_addField_45
    · refine S_aload (pc := 23) dX8_addField_23 rfl ?_
      refine S_iload_n (pc := 25) dX8_addField_25 rfl ?_
      refine S_iload (pc := 26) dX8_addField_26 rfl ?_
      refine S_iload (pc := 28) dX8_addField_28 rfl ?_
      refine Y_Vi (pc := 30) (st := []) (kc' := 2) (ks' := 12) (ktX2_allowsField a_13 v2 v4 v5) mw_X2_allowsField mv_X2_allowsField w908 (RO.mk rfl rfl rfl rfl) rfl rfl rfl dX8_addField_30 ⟨rfl, rfl⟩ (fun x_16 => ?_)
      refine S_ifne (pc := 33) (tgt := 46) dX8_addField_33 (by decide) ?_ ?_
      · refine S_iload_n (pc := 46) dX8_addField_46 rfl ?_
        refine S_ifeq (pc := 47) (tgt := 74) dX8_addField_47 (by decide) ?_ ?_
        · exact S_thr (pc := 74) (k := 3) rfl exA3 w790 w17 st_18 rfl ⟨rfl, rfl, rfl, rfl⟩ rfl dX8_addField_74 dX8_addField_77 dX8_addField_78 dX8_addField_80 dX8_addField_83
        · refine S_aload (pc := 50) dX8_addField_50 rfl ?_
          refine S_gP (pc := 52) fl_X8_64 rfl dX8_addField_52 (fun a_17 => ?_)
          refine S_iload_n (pc := 55) dX8_addField_55 rfl ?_
          refine S_iload_n (pc := 56) dX8_addField_56 rfl ?_
          refine Y_Vi (pc := 57) (st := []) (kc' := 2) (ks' := 12) (ktX4_hasField a_17 v2 v3) mw_X4_hasField mv_X4_hasField w913 (RO.mk rfl rfl rfl rfl) rfl rfl rfl dX8_addField_57 ⟨rfl, rfl⟩ (fun x_18 => ?_)
          refine S_ifne (pc := 60) (tgt := 74) dX8_addField_60 (by decide) ?_ ?_
          · exact S_thr (pc := 74) (k := 3) rfl exA3 w790 w17 st_18 rfl ⟨rfl, rfl, rfl, rfl⟩ rfl dX8_addField_74 dX8_addField_77 dX8_addField_78 dX8_addField_80 dX8_addField_83
          · refine S_aload (pc := 63) dX8_addField_63 rfl ?_
            refine S_gP (pc := 65) fl_X8_64 rfl dX8_addField_65 (fun a_19 => ?_)
            refine Y_Vi (pc := 68) (st := []) (kc' := 2) (ks' := 12) (ktX4_isFull a_19) mw_X4_isFull mv_X4_isFull w917 (RO.mk rfl rfl rfl rfl) rfl rfl rfl dX8_addField_68 ⟨rfl, rfl⟩ (fun x_20 => ?_)
            refine S_ifeq (pc := 71) (tgt := 84) dX8_addField_71 (by decide) ?_ ?_
            · refine S_aload_n (pc := 84) dX8_addField_84 rfl ?_
              refine Y_Vv (pc := 85) (st := []) (kc' := 2) (ks' := 12) (ktX8_saveState r0) mw_X8_saveState mv_X8_saveState w576 (RO.mk rfl rfl rfl rfl) rfl rfl rfl dX8_addField_85 ⟨rfl, rfl⟩ ?_
              refine S_aload (pc := 88) dX8_addField_88 rfl ?_
              refine S_gP (pc := 90) fl_X8_64 rfl dX8_addField_90 (fun a_21 => ?_)
              refine S_iconst (pc := 93) (v := (nI 0)) dX8_addField_93 kI_0 ?_
              refine S_iload_n (pc := 94) dX8_addField_94 rfl ?_
              refine S_iload_n (pc := 95) dX8_addField_95 rfl ?_
              refine S_iload (pc := 96) dX8_addField_96 rfl ?_
              refine S_iload (pc := 98) dX8_addField_98 rfl ?_
              refine S_aload_n (pc := 100) dX8_addField_100 rfl ?_
              refine S_gP (pc := 101) fl_X8_30 rfl dX8_addField_101 (fun a_22 => ?_)
              refine Y_Vv (pc := 104) (st := []) (kc' := 2) (ks' := 12) (ktX4_append a_21 (nI 0) v2 v3 v4 v5 a_22) mw_X4_append mv_X4_append w392 (RO.mk rfl rfl rfl rfl) rfl rfl rfl dX8_addField_104 ⟨rfl, rfl⟩ ?_
              refine S_aload (pc := 107) dX8_addField_107 rfl ?_
              refine S_gP (pc := 109) fl_X8_64 rfl dX8_addField_109 (fun a_23 => ?_)
              refine S_gI (pc := 112) fl_X8_203 rfl dX8_addField_112 (fun x_24 => ?_)
              refine S_iconst (pc := 115) (v := (nI 1)) dX8_addField_115 kI_1 ?_
              refine S_isub (pc := 116) dX8_addField_116 ?_
              exact S_iret (pc := 117) ⟨rfl, rfl⟩ rfl rfl dX8_addField_117
            · exact S_thr (pc := 74) (k := 3) rfl exA3 w790 w17 st_18 rfl ⟨rfl, rfl, rfl, rfl⟩ rfl dX8_addField_74 dX8_addField_77 dX8_addField_78 dX8_addField_80 dX8_addField_83
      · exact S_thr (pc := 36) (k := 2) rfl exA2 w769 w16 st_17 rfl ⟨rfl, rfl, rfl, rfl⟩ rfl dX8_addField_36 dX8_addField_39 dX8_addField_40 dX8_addField_42 dX8_addField_45
theorem ktX8_addField (r0 : Nat) (v1 : Int32) (v2 : Int32) (v3 : Int32) (v4 : Int32) (v5 : Int32) : Ct mX8_addField xI [.ref r0, .int v1, .int v2, .int v3, .int v4, .int v5] (fX8_addField r0 v1 v2 v3 v4 v5) := Ct.of (z := 1) pn_X8 rfl rfl rfl (sX8_addField r0 v1 v2 v3 v4 v5)
def mX8_addMethod : MI := (yX8_addMethod, cX8_addMethod, 8, (some .int), { frames := 9, cells := 3, slots := 18, locals := 154 }, [])
theorem mw_X8_addMethod : MW mX8_addMethod 5 := ⟨w928, w1, ⟨by decide, by decide⟩, by decide +kernel⟩
theorem mv_X8_addMethod : MV mX8_addMethod 8 := ⟨_, rfl, w926, w927⟩
def fX8_addMethod  (r0 : Nat) (v1 : Int32) (v2 : Int32) (v3 : Int32) (v4 : Int32) (v5 : Int32) : AH → Option ((Nat ⊕ Int32) × AH) := fun h =>
  cv 8 r0 (fX8_libraryWith r0 v1 v2) h <| xp fun a_18 h =>
  bd (fX8_isName v3 h) fun x_19 h =>
  if x_19 = 0 then (
    some ((Sum.inl 2 : (Nat ⊕ Int32)), thr h))
  else
  bd (fX8_isAccess v4 h) fun x_20 h =>
  if x_20 = 0 then (
    some ((Sum.inl 2 : (Nat ⊕ Int32)), thr h))
  else
  cv 2 a_18 (fX2_allowsMethod a_18 v2 v4 v5) h fun x_21 h =>
  if x_21 = 0 then (
    some ((Sum.inl 2 : (Nat ⊕ Int32)), thr h))
  else
  (gP 8 r0 4 h).bind fun a_22 =>
  (gI 5 a_22 2 h).bind fun x_23 =>
  (gP 8 r0 4 h).bind fun a_24 =>
  (gI 5 a_24 3 h).bind fun x_25 =>
  bd (fX4_signatureOf v3 x_23 x_25 h) fun x_26 h =>
  if v2 = 0 then (
    some ((Sum.inl 3 : (Nat ⊕ Int32)), thr h))
  else
  (gP 2 a_18 10 h).bind fun a_27 =>
  cv 4 a_27 (fX4_hasMethod a_27 v2 x_26) h fun x_28 h =>
  if x_28 = 0 then (
    (gP 2 a_18 10 h).bind fun a_29 =>
    cv 4 a_29 (fX4_isFull a_29) h fun x_30 h =>
    if x_30 = 0 then (
      cv 8 r0 (fX8_saveState r0) h fun _ h =>
      (gP 2 a_18 10 h).bind fun a_31 =>
      (gP 8 r0 4 h).bind fun a_32 =>
      cv 4 a_31 (fX4_append a_31 (nI 1) v2 v3 v4 v5 a_32) h fun _ h =>
      (gP 2 a_18 10 h).bind fun a_33 =>
      (gI 4 a_33 0 h).bind fun x_34 =>
      some ((Sum.inr (x_34 - (nI 1)) : (Nat ⊕ Int32)), h))
    else
    some ((Sum.inl 3 : (Nat ⊕ Int32)), thr h))
  else
  some ((Sum.inl 3 : (Nat ⊕ Int32)), thr h)
theorem sX8_addMethod  (r0 : Nat) (v1 : Int32) (v2 : Int32) (v3 : Int32) (v4 : Int32) (v5 : Int32) : Sm mX8_addMethod xI 0 0 0 [some (.ref r0), some (.int v1), some (.int v2), some (.int v3), some (.int v4), some (.int v5), none, none] [] (fX8_addMethod r0 v1 v2 v3 v4 v5) := by
  unfold fX8_addMethod
  refine S_aload_n (pc := 0) dX8_addMethod_0 rfl ?_
  refine S_iload_n (pc := 1) dX8_addMethod_1 rfl ?_
  refine S_iload_n (pc := 2) dX8_addMethod_2 rfl ?_
  refine YX_Va (pc := 3) (st := []) (kc' := 2) (ks' := 12) (fun _ => rfl) rfl (ktX8_libraryWith r0 v1 v2) mw_X8_libraryWith mv_X8_libraryWith w819 (RO.mk rfl rfl rfl rfl) rfl rfl rfl dX8_addMethod_3 ⟨rfl, rfl⟩ (fun a_18 => ?_)
  refine Z_astore (pc := 6) (lv' := [some (.ref r0), some (.int v1), some (.int v2), some (.int v3), some (.int v4), some (.int v5), some (.ref a_18), none]) dX8_addMethod_6 rfl rfl rfl ?_
  refine S_iload_n (pc := 8) dX8_addMethod_8 rfl ?_
  refine Y_Ti (pc := 9) (st := []) (kc' := 2) (ks' := 12) (ktX8_isName v3) mw_X8_isName w903 w902 (RO.mk rfl rfl rfl rfl) rfl rfl rfl dX8_addMethod_9 ⟨rfl, rfl⟩ (fun x_19 => ?_)
  refine S_ifeq (pc := 12) (tgt := 36) dX8_addMethod_12 (by decide) ?_ ?_
  · exact S_thr (pc := 36) (k := 2) rfl exA2 w769 w16 st_19 rfl ⟨rfl, rfl, rfl, rfl⟩ rfl dX8_addMethod_36 dX8_addMethod_39 dX8_addMethod_40 dX8_addMethod_42 dX8_addMethod_45
  · refine S_iload (pc := 15) dX8_addMethod_15 rfl ?_
    refine Y_Ti (pc := 17) (st := []) (kc' := 2) (ks' := 12) (ktX8_isAccess v4) mw_X8_isAccess w906 w905 (RO.mk rfl rfl rfl rfl) rfl rfl rfl dX8_addMethod_17 ⟨rfl, rfl⟩ (fun x_20 => ?_)
    refine S_ifeq (pc := 20) (tgt := 36) dX8_addMethod_20 (by decide) ?_ ?_
    · exact S_thr (pc := 36) (k := 2) rfl exA2 w769 w16 st_19 rfl ⟨rfl, rfl, rfl, rfl⟩ rfl dX8_addMethod_36 dX8_addMethod_39 dX8_addMethod_40 dX8_addMethod_42 dX8_addMethod_45
    · refine S_aload (pc := 23) dX8_addMethod_23 rfl ?_
      refine S_iload_n (pc := 25) dX8_addMethod_25 rfl ?_
      refine S_iload (pc := 26) dX8_addMethod_26 rfl ?_
      refine S_iload (pc := 28) dX8_addMethod_28 rfl ?_
      refine Y_Vi (pc := 30) (st := []) (kc' := 2) (ks' := 12) (ktX2_allowsMethod a_18 v2 v4 v5) mw_X2_allowsMethod mv_X2_allowsMethod w929 (RO.mk rfl rfl rfl rfl) rfl rfl rfl dX8_addMethod_30 ⟨rfl, rfl⟩ (fun x_21 => ?_)
      refine S_ifne (pc := 33) (tgt := 46) dX8_addMethod_33 (by decide) ?_ ?_
      · refine S_iload_n (pc := 46) dX8_addMethod_46 rfl ?_
        refine S_aload_n (pc := 47) dX8_addMethod_47 rfl ?_
        refine S_gP (pc := 48) fl_X8_30 rfl dX8_addMethod_48 (fun a_22 => ?_)
        refine S_gI (pc := 51) fl_X8_241 rfl dX8_addMethod_51 (fun x_23 => ?_)
        refine S_aload_n (pc := 54) dX8_addMethod_54 rfl ?_
        refine S_gP (pc := 55) fl_X8_30 rfl dX8_addMethod_55 (fun a_24 => ?_)
        refine S_gI (pc := 58) fl_X8_244 rfl dX8_addMethod_58 (fun x_25 => ?_)
        refine Y_Ti (pc := 61) (st := []) (kc' := 2) (ks' := 12) (ktX4_signatureOf v3 x_23 x_25) mw_X4_signatureOf w397 w935 (RO.mk rfl rfl rfl rfl) rfl rfl rfl dX8_addMethod_61 ⟨rfl, rfl⟩ (fun x_26 => ?_)
        refine Z_istore (pc := 64) (lv' := [some (.ref r0), some (.int v1), some (.int v2), some (.int v3), some (.int v4), some (.int v5), some (.ref a_18), some (.int x_26)]) dX8_addMethod_64 rfl rfl rfl ?_
        refine S_iload_n (pc := 66) dX8_addMethod_66 rfl ?_
        refine S_ifeq (pc := 67) (tgt := 95) dX8_addMethod_67 (by decide) ?_ ?_
        · exact S_thr (pc := 95) (k := 3) rfl exA3 w790 w17 st_20 rfl ⟨rfl, rfl, rfl, rfl⟩ rfl dX8_addMethod_95 dX8_addMethod_98 dX8_addMethod_99 dX8_addMethod_101 dX8_addMethod_104
        · refine S_aload (pc := 70) dX8_addMethod_70 rfl ?_
          refine S_gP (pc := 72) fl_X8_64 rfl dX8_addMethod_72 (fun a_27 => ?_)
          refine S_iload_n (pc := 75) dX8_addMethod_75 rfl ?_
          refine S_iload (pc := 76) dX8_addMethod_76 rfl ?_
          refine Y_Vi (pc := 78) (st := []) (kc' := 2) (ks' := 12) (ktX4_hasMethod a_27 v2 x_26) mw_X4_hasMethod mv_X4_hasMethod w936 (RO.mk rfl rfl rfl rfl) rfl rfl rfl dX8_addMethod_78 ⟨rfl, rfl⟩ (fun x_28 => ?_)
          refine S_ifne (pc := 81) (tgt := 95) dX8_addMethod_81 (by decide) ?_ ?_
          · exact S_thr (pc := 95) (k := 3) rfl exA3 w790 w17 st_20 rfl ⟨rfl, rfl, rfl, rfl⟩ rfl dX8_addMethod_95 dX8_addMethod_98 dX8_addMethod_99 dX8_addMethod_101 dX8_addMethod_104
          · refine S_aload (pc := 84) dX8_addMethod_84 rfl ?_
            refine S_gP (pc := 86) fl_X8_64 rfl dX8_addMethod_86 (fun a_29 => ?_)
            refine Y_Vi (pc := 89) (st := []) (kc' := 2) (ks' := 12) (ktX4_isFull a_29) mw_X4_isFull mv_X4_isFull w917 (RO.mk rfl rfl rfl rfl) rfl rfl rfl dX8_addMethod_89 ⟨rfl, rfl⟩ (fun x_30 => ?_)
            refine S_ifeq (pc := 92) (tgt := 105) dX8_addMethod_92 (by decide) ?_ ?_
            · refine S_aload_n (pc := 105) dX8_addMethod_105 rfl ?_
              refine Y_Vv (pc := 106) (st := []) (kc' := 2) (ks' := 12) (ktX8_saveState r0) mw_X8_saveState mv_X8_saveState w576 (RO.mk rfl rfl rfl rfl) rfl rfl rfl dX8_addMethod_106 ⟨rfl, rfl⟩ ?_
              refine S_aload (pc := 109) dX8_addMethod_109 rfl ?_
              refine S_gP (pc := 111) fl_X8_64 rfl dX8_addMethod_111 (fun a_31 => ?_)
              refine S_iconst (pc := 114) (v := (nI 1)) dX8_addMethod_114 kI_1 ?_
              refine S_iload_n (pc := 115) dX8_addMethod_115 rfl ?_
              refine S_iload_n (pc := 116) dX8_addMethod_116 rfl ?_
              refine S_iload (pc := 117) dX8_addMethod_117 rfl ?_
              refine S_iload (pc := 119) dX8_addMethod_119 rfl ?_
              refine S_aload_n (pc := 121) dX8_addMethod_121 rfl ?_
              refine S_gP (pc := 122) fl_X8_30 rfl dX8_addMethod_122 (fun a_32 => ?_)
              refine Y_Vv (pc := 125) (st := []) (kc' := 2) (ks' := 12) (ktX4_append a_31 (nI 1) v2 v3 v4 v5 a_32) mw_X4_append mv_X4_append w392 (RO.mk rfl rfl rfl rfl) rfl rfl rfl dX8_addMethod_125 ⟨rfl, rfl⟩ ?_
              refine S_aload (pc := 128) dX8_addMethod_128 rfl ?_
              refine S_gP (pc := 130) fl_X8_64 rfl dX8_addMethod_130 (fun a_33 => ?_)
              refine S_gI (pc := 133) fl_X8_203 rfl dX8_addMethod_133 (fun x_34 => ?_)
              refine S_iconst (pc := 136) (v := (nI 1)) dX8_addMethod_136 kI_1 ?_
              refine S_isub (pc := 137) dX8_addMethod_137 ?_
              exact S_iret (pc := 138) ⟨rfl, rfl⟩ rfl rfl dX8_addMethod_138
            · exact S_thr (pc := 95) (k := 3) rfl exA3 w790 w17 st_20 rfl ⟨rfl, rfl, rfl, rfl⟩ rfl dX8_addMethod_95 dX8_addMethod_98 dX8_addMethod_99 dX8_addMethod_101 dX8_addMethod_104
      · exact S_thr (pc := 36) (k := 2) rfl exA2 w769 w16 st_19 rfl ⟨rfl, rfl, rfl, rfl⟩ rfl dX8_addMethod_36 dX8_addMethod_39 dX8_addMethod_40 dX8_addMethod_42 dX8_addMethod_45
theorem ktX8_addMethod (r0 : Nat) (v1 : Int32) (v2 : Int32) (v3 : Int32) (v4 : Int32) (v5 : Int32) : Ct mX8_addMethod xI [.ref r0, .int v1, .int v2, .int v3, .int v4, .int v5] (fX8_addMethod r0 v1 v2 v3 v4 v5) := Ct.of (z := 2) pn_X8 rfl rfl rfl (sX8_addMethod r0 v1 v2 v3 v4 v5)
def mX8_buildFirstClasses : MI := (yX8_buildFirstClasses, cX8_buildFirstClasses, 2, none, { frames := 5, cells := 0, slots := 0, locals := 112 }, [])
theorem mw_X8_buildFirstClasses : MW mX8_buildFirstClasses 1 := ⟨w357, w1, ⟨by decide, by decide⟩, by decide +kernel⟩
def bX8_buildFirstClasses_43  (k43 : Nat → Int32 → AH → Option (Unit × AH)) (r0 : Nat) (v1 : Int32) : AH → Option (Unit × AH) := fun h =>
  if (nI 4) < v1 then (
    cv 2 r0 (fX2_putValue r0 (nI 4) (nI 2) (nI 1)) h fun _ h =>
    cv 2 r0 (fX2_putValue r0 (nI 4) (nI 3) (nI 1)) h fun _ h =>
    some ((), h))
  else
  cv 2 r0 (fX2_putValue r0 v1 (nI 0) (nI 1)) h fun _ h =>
  k43 r0 (v1 + (nI 1)) h
def lX8_buildFirstClasses_43  : Nat → Nat → Int32 → AH → Option (Unit × AH)
  | 0 => fun _ _ _ => none
  | n + 1 => bX8_buildFirstClasses_43 (lX8_buildFirstClasses_43 n)
def fX8_buildFirstClasses  (r0 : Nat) : AH → Option (Unit × AH) := fun h =>
  cv 2 r0 (fX2_putClass r0 (nI 0) (nI 0) (-2 : Int32) (nI 0)) h fun _ h =>
  cv 2 r0 (fX2_putClass r0 (nI 1) (nI 0) (nI 0) (nI 0)) h fun _ h =>
  cv 2 r0 (fX2_putClass r0 (nI 2) (nI 1) (nI 0) (nI 0)) h fun _ h =>
  cv 2 r0 (fX2_putClass r0 (nI 3) (nI 0) (nI 1) (nI 4)) h fun _ h =>
  cv 2 r0 (fX2_putClass r0 (nI 4) (nI 0) (nI 1) (nI 0)) h fun _ h =>
  lX8_buildFirstClasses_43 fuel r0 (nI 0) h
theorem sbX8_buildFirstClasses_43  {k43 : Nat → Int32 → AH → Option (Unit × AH)} (h43 : ∀ (r0 : Nat) (v1 : Int32), Sm mX8_buildFirstClasses rV 0 0 43 [some (.ref r0), some (.int v1)] [] (k43 r0 v1)) (r0 : Nat) (v1 : Int32) : Sm mX8_buildFirstClasses rV 0 0 43 [some (.ref r0), some (.int v1)] [] (bX8_buildFirstClasses_43 k43 r0 v1) := by
  unfold bX8_buildFirstClasses_43
  refine S_iload_n (pc := 43) dX8_buildFirstClasses_43 rfl ?_
  refine S_iconst (pc := 44) (v := (nI 4)) dX8_buildFirstClasses_44 kI_4 ?_
  refine S_icmpgt (pc := 45) (tgt := 61) dX8_buildFirstClasses_45 (by decide) ?_ ?_
  · refine S_aload_n (pc := 61) dX8_buildFirstClasses_61 rfl ?_
    refine S_iconst (pc := 62) (v := (nI 4)) dX8_buildFirstClasses_62 kI_4 ?_
    refine S_iconst (pc := 63) (v := (nI 2)) dX8_buildFirstClasses_63 kI_2 ?_
    refine S_iconst (pc := 64) (v := (nI 1)) dX8_buildFirstClasses_64 kI_1 ?_
    refine Y_Vv (pc := 65) (st := []) (kc' := 0) (ks' := 0) (ktX2_putValue r0 (nI 4) (nI 2) (nI 1)) mw_X2_putValue mv_X2_putValue w382 (RO.mk rfl rfl rfl rfl) rfl rfl rfl dX8_buildFirstClasses_65 ⟨rfl, rfl⟩ ?_
    refine S_aload_n (pc := 68) dX8_buildFirstClasses_68 rfl ?_
    refine S_iconst (pc := 69) (v := (nI 4)) dX8_buildFirstClasses_69 kI_4 ?_
    refine S_iconst (pc := 70) (v := (nI 3)) dX8_buildFirstClasses_70 kI_3 ?_
    refine S_iconst (pc := 71) (v := (nI 1)) dX8_buildFirstClasses_71 kI_1 ?_
    refine Y_Vv (pc := 72) (st := []) (kc' := 0) (ks' := 0) (ktX2_putValue r0 (nI 4) (nI 3) (nI 1)) mw_X2_putValue mv_X2_putValue w382 (RO.mk rfl rfl rfl rfl) rfl rfl rfl dX8_buildFirstClasses_72 ⟨rfl, rfl⟩ ?_
    exact S_vret (pc := 75) ⟨rfl, rfl⟩ rfl rfl dX8_buildFirstClasses_75
  · refine S_aload_n (pc := 48) dX8_buildFirstClasses_48 rfl ?_
    refine S_iload_n (pc := 49) dX8_buildFirstClasses_49 rfl ?_
    refine S_iconst (pc := 50) (v := (nI 0)) dX8_buildFirstClasses_50 kI_0 ?_
    refine S_iconst (pc := 51) (v := (nI 1)) dX8_buildFirstClasses_51 kI_1 ?_
    refine Y_Vv (pc := 52) (st := []) (kc' := 0) (ks' := 0) (ktX2_putValue r0 v1 (nI 0) (nI 1)) mw_X2_putValue mv_X2_putValue w382 (RO.mk rfl rfl rfl rfl) rfl rfl rfl dX8_buildFirstClasses_52 ⟨rfl, rfl⟩ ?_
    refine Z_iinc (pc := 55) (v := (nI 1)) (lv' := [some (.ref r0), some (.int (v1 + (nI 1)))]) dX8_buildFirstClasses_55 rfl kI_1 rfl rfl rfl ?_
    refine S_goto (pc := 58) (tgt := 43) dX8_buildFirstClasses_58 (by decide) ?_
    exact (h43 r0 (v1 + (nI 1)))
theorem sX8_buildFirstClasses_43  : ∀ (n : Nat) (r0 : Nat) (v1 : Int32), Sm mX8_buildFirstClasses rV 0 0 43 [some (.ref r0), some (.int v1)] [] (lX8_buildFirstClasses_43 n r0 v1)
  | 0, _, _ => S_none
  | n + 1, r0, v1 => sbX8_buildFirstClasses_43 (sX8_buildFirstClasses_43 n) r0 v1
theorem sX8_buildFirstClasses  (r0 : Nat) : Sm mX8_buildFirstClasses rV 0 0 0 [some (.ref r0), none] [] (fX8_buildFirstClasses r0) := by
  unfold fX8_buildFirstClasses
  refine S_aload_n (pc := 0) dX8_buildFirstClasses_0 rfl ?_
  refine S_iconst (pc := 1) (v := (nI 0)) dX8_buildFirstClasses_1 kI_0 ?_
  refine S_iconst (pc := 2) (v := (nI 0)) dX8_buildFirstClasses_2 kI_0 ?_
  refine S_bipush (pc := 3) (v := (-2 : Int32)) dX8_buildFirstClasses_3 kB_m2 ?_
  refine S_iconst (pc := 5) (v := (nI 0)) dX8_buildFirstClasses_5 kI_0 ?_
  refine Y_Vv (pc := 6) (st := []) (kc' := 0) (ks' := 0) (ktX2_putClass r0 (nI 0) (nI 0) (-2 : Int32) (nI 0)) mw_X2_putClass mv_X2_putClass w358 (RO.mk rfl rfl rfl rfl) rfl rfl rfl dX8_buildFirstClasses_6 ⟨rfl, rfl⟩ ?_
  refine S_aload_n (pc := 9) dX8_buildFirstClasses_9 rfl ?_
  refine S_iconst (pc := 10) (v := (nI 1)) dX8_buildFirstClasses_10 kI_1 ?_
  refine S_iconst (pc := 11) (v := (nI 0)) dX8_buildFirstClasses_11 kI_0 ?_
  refine S_iconst (pc := 12) (v := (nI 0)) dX8_buildFirstClasses_12 kI_0 ?_
  refine S_iconst (pc := 13) (v := (nI 0)) dX8_buildFirstClasses_13 kI_0 ?_
  refine Y_Vv (pc := 14) (st := []) (kc' := 0) (ks' := 0) (ktX2_putClass r0 (nI 1) (nI 0) (nI 0) (nI 0)) mw_X2_putClass mv_X2_putClass w358 (RO.mk rfl rfl rfl rfl) rfl rfl rfl dX8_buildFirstClasses_14 ⟨rfl, rfl⟩ ?_
  refine S_aload_n (pc := 17) dX8_buildFirstClasses_17 rfl ?_
  refine S_iconst (pc := 18) (v := (nI 2)) dX8_buildFirstClasses_18 kI_2 ?_
  refine S_iconst (pc := 19) (v := (nI 1)) dX8_buildFirstClasses_19 kI_1 ?_
  refine S_iconst (pc := 20) (v := (nI 0)) dX8_buildFirstClasses_20 kI_0 ?_
  refine S_iconst (pc := 21) (v := (nI 0)) dX8_buildFirstClasses_21 kI_0 ?_
  refine Y_Vv (pc := 22) (st := []) (kc' := 0) (ks' := 0) (ktX2_putClass r0 (nI 2) (nI 1) (nI 0) (nI 0)) mw_X2_putClass mv_X2_putClass w358 (RO.mk rfl rfl rfl rfl) rfl rfl rfl dX8_buildFirstClasses_22 ⟨rfl, rfl⟩ ?_
  refine S_aload_n (pc := 25) dX8_buildFirstClasses_25 rfl ?_
  refine S_iconst (pc := 26) (v := (nI 3)) dX8_buildFirstClasses_26 kI_3 ?_
  refine S_iconst (pc := 27) (v := (nI 0)) dX8_buildFirstClasses_27 kI_0 ?_
  refine S_iconst (pc := 28) (v := (nI 1)) dX8_buildFirstClasses_28 kI_1 ?_
  refine S_iconst (pc := 29) (v := (nI 4)) dX8_buildFirstClasses_29 kI_4 ?_
  refine Y_Vv (pc := 30) (st := []) (kc' := 0) (ks' := 0) (ktX2_putClass r0 (nI 3) (nI 0) (nI 1) (nI 4)) mw_X2_putClass mv_X2_putClass w358 (RO.mk rfl rfl rfl rfl) rfl rfl rfl dX8_buildFirstClasses_30 ⟨rfl, rfl⟩ ?_
  refine S_aload_n (pc := 33) dX8_buildFirstClasses_33 rfl ?_
  refine S_iconst (pc := 34) (v := (nI 4)) dX8_buildFirstClasses_34 kI_4 ?_
  refine S_iconst (pc := 35) (v := (nI 0)) dX8_buildFirstClasses_35 kI_0 ?_
  refine S_iconst (pc := 36) (v := (nI 1)) dX8_buildFirstClasses_36 kI_1 ?_
  refine S_iconst (pc := 37) (v := (nI 0)) dX8_buildFirstClasses_37 kI_0 ?_
  refine Y_Vv (pc := 38) (st := []) (kc' := 0) (ks' := 0) (ktX2_putClass r0 (nI 4) (nI 0) (nI 1) (nI 0)) mw_X2_putClass mv_X2_putClass w358 (RO.mk rfl rfl rfl rfl) rfl rfl rfl dX8_buildFirstClasses_38 ⟨rfl, rfl⟩ ?_
  refine S_iconst (pc := 41) (v := (nI 0)) dX8_buildFirstClasses_41 kI_0 ?_
  refine Z_istore_n (pc := 42) (lv' := [some (.ref r0), some (.int (nI 0))]) dX8_buildFirstClasses_42 rfl rfl rfl ?_
  exact (sX8_buildFirstClasses_43 fuel r0 (nI 0))
theorem ktX8_buildFirstClasses (r0 : Nat) : Ct mX8_buildFirstClasses rV [.ref r0] (fX8_buildFirstClasses r0) := Ct.of (z := 1) pn_X8 rfl rfl rfl (sX8_buildFirstClasses r0)
def mX8_buildFirstClients : MI := (yX8_buildFirstClients, cX8_buildFirstClients, 1, none, { frames := 6, cells := 0, slots := 0, locals := 146 }, [])
theorem mw_X8_buildFirstClients : MW mX8_buildFirstClients 0 := ⟨w429, w1, ⟨by decide, by decide⟩, by decide +kernel⟩
theorem mv_X8_buildFirstClients : MV mX8_buildFirstClients 8 := ⟨_, rfl, w428, wp2⟩
def fX8_buildFirstClients  (r0 : Nat) : AH → Option (Unit × AH) := fun h =>
  (gP 8 r0 5 h).bind fun a_13 =>
  cv 0 a_13 (fX0_put a_13 (nI 0) (nI 3) (nI 1) (nI 2)) h fun _ h =>
  cv 8 r0 (fX8_compileProbe r0) h fun x_14 h =>
  (gP 8 r0 0 h).bind fun a_15 =>
  (gP 8 r0 5 h).bind fun a_16 =>
  cv 6 a_15 (fX6_append a_15 a_16) h fun _ h =>
  (gP 8 r0 5 h).bind fun a_17 =>
  cv 0 a_17 (fX0_put a_17 (nI 2) (nI 3) (nI 2) (nI 2)) h fun _ h =>
  cv 8 r0 (fX8_compileProbe r0) h fun x_18 h =>
  (gP 8 r0 0 h).bind fun a_19 =>
  (gP 8 r0 5 h).bind fun a_20 =>
  cv 6 a_19 (fX6_append a_19 a_20) h fun _ h =>
  (gP 8 r0 5 h).bind fun a_21 =>
  cv 0 a_21 (fX0_put a_21 (nI 2) (nI 4) (nI 0) (nI 2)) h fun _ h =>
  cv 8 r0 (fX8_compileProbe r0) h fun x_22 h =>
  (gP 8 r0 0 h).bind fun a_23 =>
  (gP 8 r0 5 h).bind fun a_24 =>
  cv 6 a_23 (fX6_append a_23 a_24) h fun _ h =>
  some ((), h)
theorem sX8_buildFirstClients  (r0 : Nat) : Sm mX8_buildFirstClients rV 0 0 0 [some (.ref r0)] [] (fX8_buildFirstClients r0) := by
  unfold fX8_buildFirstClients
  refine S_aload_n (pc := 0) dX8_buildFirstClients_0 rfl ?_
  refine S_gP (pc := 1) fl_X8_37 rfl dX8_buildFirstClients_1 (fun a_13 => ?_)
  refine S_iconst (pc := 4) (v := (nI 0)) dX8_buildFirstClients_4 kI_0 ?_
  refine S_iconst (pc := 5) (v := (nI 3)) dX8_buildFirstClients_5 kI_3 ?_
  refine S_iconst (pc := 6) (v := (nI 1)) dX8_buildFirstClients_6 kI_1 ?_
  refine S_iconst (pc := 7) (v := (nI 2)) dX8_buildFirstClients_7 kI_2 ?_
  refine Y_Vv (pc := 8) (st := []) (kc' := 0) (ks' := 0) (ktX0_put a_13 (nI 0) (nI 3) (nI 1) (nI 2)) mw_X0_put mv_X0_put w430 (RO.mk rfl rfl rfl rfl) rfl rfl rfl dX8_buildFirstClients_8 ⟨rfl, rfl⟩ ?_
  refine S_aload_n (pc := 11) dX8_buildFirstClients_11 rfl ?_
  refine Y_Vi (pc := 12) (st := []) (kc' := 0) (ks' := 0) (ktX8_compileProbe r0) mw_X8_compileProbe mv_X8_compileProbe w438 (RO.mk rfl rfl rfl rfl) rfl rfl rfl dX8_buildFirstClients_12 ⟨rfl, rfl⟩ (fun x_14 => ?_)
  refine S_pop (pc := 15) rfl dX8_buildFirstClients_15 ?_
  refine S_aload_n (pc := 16) dX8_buildFirstClients_16 rfl ?_
  refine S_gP (pc := 17) fl_X8_10 rfl dX8_buildFirstClients_17 (fun a_15 => ?_)
  refine S_aload_n (pc := 20) dX8_buildFirstClients_20 rfl ?_
  refine S_gP (pc := 21) fl_X8_37 rfl dX8_buildFirstClients_21 (fun a_16 => ?_)
  refine Y_Vv (pc := 24) (st := []) (kc' := 0) (ks' := 0) (ktX6_append a_15 a_16) mw_X6_append mv_X6_append w538 (RO.mk rfl rfl rfl rfl) rfl rfl rfl dX8_buildFirstClients_24 ⟨rfl, rfl⟩ ?_
  refine S_aload_n (pc := 27) dX8_buildFirstClients_27 rfl ?_
  refine S_gP (pc := 28) fl_X8_37 rfl dX8_buildFirstClients_28 (fun a_17 => ?_)
  refine S_iconst (pc := 31) (v := (nI 2)) dX8_buildFirstClients_31 kI_2 ?_
  refine S_iconst (pc := 32) (v := (nI 3)) dX8_buildFirstClients_32 kI_3 ?_
  refine S_iconst (pc := 33) (v := (nI 2)) dX8_buildFirstClients_33 kI_2 ?_
  refine S_iconst (pc := 34) (v := (nI 2)) dX8_buildFirstClients_34 kI_2 ?_
  refine Y_Vv (pc := 35) (st := []) (kc' := 0) (ks' := 0) (ktX0_put a_17 (nI 2) (nI 3) (nI 2) (nI 2)) mw_X0_put mv_X0_put w430 (RO.mk rfl rfl rfl rfl) rfl rfl rfl dX8_buildFirstClients_35 ⟨rfl, rfl⟩ ?_
  refine S_aload_n (pc := 38) dX8_buildFirstClients_38 rfl ?_
  refine Y_Vi (pc := 39) (st := []) (kc' := 0) (ks' := 0) (ktX8_compileProbe r0) mw_X8_compileProbe mv_X8_compileProbe w438 (RO.mk rfl rfl rfl rfl) rfl rfl rfl dX8_buildFirstClients_39 ⟨rfl, rfl⟩ (fun x_18 => ?_)
  refine S_pop (pc := 42) rfl dX8_buildFirstClients_42 ?_
  refine S_aload_n (pc := 43) dX8_buildFirstClients_43 rfl ?_
  refine S_gP (pc := 44) fl_X8_10 rfl dX8_buildFirstClients_44 (fun a_19 => ?_)
  refine S_aload_n (pc := 47) dX8_buildFirstClients_47 rfl ?_
  refine S_gP (pc := 48) fl_X8_37 rfl dX8_buildFirstClients_48 (fun a_20 => ?_)
  refine Y_Vv (pc := 51) (st := []) (kc' := 0) (ks' := 0) (ktX6_append a_19 a_20) mw_X6_append mv_X6_append w538 (RO.mk rfl rfl rfl rfl) rfl rfl rfl dX8_buildFirstClients_51 ⟨rfl, rfl⟩ ?_
  refine S_aload_n (pc := 54) dX8_buildFirstClients_54 rfl ?_
  refine S_gP (pc := 55) fl_X8_37 rfl dX8_buildFirstClients_55 (fun a_21 => ?_)
  refine S_iconst (pc := 58) (v := (nI 2)) dX8_buildFirstClients_58 kI_2 ?_
  refine S_iconst (pc := 59) (v := (nI 4)) dX8_buildFirstClients_59 kI_4 ?_
  refine S_iconst (pc := 60) (v := (nI 0)) dX8_buildFirstClients_60 kI_0 ?_
  refine S_iconst (pc := 61) (v := (nI 2)) dX8_buildFirstClients_61 kI_2 ?_
  refine Y_Vv (pc := 62) (st := []) (kc' := 0) (ks' := 0) (ktX0_put a_21 (nI 2) (nI 4) (nI 0) (nI 2)) mw_X0_put mv_X0_put w430 (RO.mk rfl rfl rfl rfl) rfl rfl rfl dX8_buildFirstClients_62 ⟨rfl, rfl⟩ ?_
  refine S_aload_n (pc := 65) dX8_buildFirstClients_65 rfl ?_
  refine Y_Vi (pc := 66) (st := []) (kc' := 0) (ks' := 0) (ktX8_compileProbe r0) mw_X8_compileProbe mv_X8_compileProbe w438 (RO.mk rfl rfl rfl rfl) rfl rfl rfl dX8_buildFirstClients_66 ⟨rfl, rfl⟩ (fun x_22 => ?_)
  refine S_pop (pc := 69) rfl dX8_buildFirstClients_69 ?_
  refine S_aload_n (pc := 70) dX8_buildFirstClients_70 rfl ?_
  refine S_gP (pc := 71) fl_X8_10 rfl dX8_buildFirstClients_71 (fun a_23 => ?_)
  refine S_aload_n (pc := 74) dX8_buildFirstClients_74 rfl ?_
  refine S_gP (pc := 75) fl_X8_37 rfl dX8_buildFirstClients_75 (fun a_24 => ?_)
  refine Y_Vv (pc := 78) (st := []) (kc' := 0) (ks' := 0) (ktX6_append a_23 a_24) mw_X6_append mv_X6_append w538 (RO.mk rfl rfl rfl rfl) rfl rfl rfl dX8_buildFirstClients_78 ⟨rfl, rfl⟩ ?_
  exact S_vret (pc := 81) ⟨rfl, rfl⟩ rfl rfl dX8_buildFirstClients_81
theorem ktX8_buildFirstClients (r0 : Nat) : Ct mX8_buildFirstClients rV [.ref r0] (fX8_buildFirstClients r0) := Ct.of (z := 0) pn_X8 rfl rfl rfl (sX8_buildFirstClients r0)
def mX8_buildFirstMembers : MI := (yX8_buildFirstMembers, cX8_buildFirstMembers, 2, none, { frames := 2, cells := 1, slots := 4, locals := 49 }, [])
theorem mw_X8_buildFirstMembers : MW mX8_buildFirstMembers 1 := ⟨w391, w1, ⟨by decide, by decide⟩, by decide +kernel⟩
def fX8_buildFirstMembers  (r0 : Nat) : AH → Option (Unit × AH) := fun h =>
  bd (nwO 5 h) fun a_2 h =>
  bd (fX5_init a_2 h) fun _ h =>
  cv 4 r0 (fX4_append r0 (nI 0) (nI 1) (nI 0) (nI 3) (nI 0) a_2) h fun _ h =>
  cv 4 r0 (fX4_append r0 (nI 0) (nI 1) (nI 1) (nI 3) (nI 3) a_2) h fun _ h =>
  cv 4 r0 (fX4_putValue r0 (nI 1) (nI 2) (nI 7)) h fun _ h =>
  cv 4 r0 (fX4_append r0 (nI 1) (nI 1) (nI 0) (nI 3) (nI 0) a_2) h fun _ h =>
  cv 5 a_2 (fX5_put a_2 (-1 : Int32) (nI 1) (nI 1) (-2 : Int32)) h fun _ h =>
  cv 4 r0 (fX4_append r0 (nI 1) (nI 1) (nI 1) (nI 2) (nI 0) a_2) h fun _ h =>
  cv 5 a_2 (fX5_put a_2 (nI 1) (nI 0) (-2 : Int32) (-2 : Int32)) h fun _ h =>
  cv 4 r0 (fX4_append r0 (nI 1) (nI 2) (nI 2) (nI 3) (nI 4) a_2) h fun _ h =>
  cv 4 r0 (fX4_append r0 (nI 1) (nI 3) (nI 2) (nI 3) (nI 0) a_2) h fun _ h =>
  cv 5 a_2 (fX5_put a_2 (-1 : Int32) (nI 0) (-2 : Int32) (-2 : Int32)) h fun _ h =>
  cv 4 r0 (fX4_append r0 (nI 1) (nI 3) (nI 0) (nI 3) (nI 0) a_2) h fun _ h =>
  cv 5 a_2 (fX5_put a_2 (-1 : Int32) (nI 1) (nI 3) (-2 : Int32)) h fun _ h =>
  cv 4 r0 (fX4_append r0 (nI 1) (nI 4) (nI 1) (nI 3) (nI 0) a_2) h fun _ h =>
  some ((), h)
theorem sX8_buildFirstMembers  (r0 : Nat) : Sm mX8_buildFirstMembers rV 0 0 0 [some (.ref r0), none] [] (fX8_buildFirstMembers r0) := by
  unfold fX8_buildFirstMembers
  refine S_new (pc := 0) (c := 5) rfl w284 w285 w7 ⟨rfl, rfl⟩ dX8_buildFirstMembers_0 (fun a_2 => ?_)
  refine S_dup (pc := 3) rfl dX8_buildFirstMembers_3 ?_
  refine Y_IN (pc := 4) (st := [.ref a_2]) (kc' := 1) (ks' := 4) (ktX5_init a_2) mw_X5_init rfl rfl w287 nw_X8_29_X5_init (RO.mk rfl rfl rfl rfl) rfl rfl rfl dX8_buildFirstMembers_4 ⟨rfl, rfl⟩ ?_
  refine Z_astore_n (pc := 7) (lv' := [some (.ref r0), some (.ref a_2)]) dX8_buildFirstMembers_7 rfl rfl rfl ?_
  refine S_aload_n (pc := 8) dX8_buildFirstMembers_8 rfl ?_
  refine S_iconst (pc := 9) (v := (nI 0)) dX8_buildFirstMembers_9 kI_0 ?_
  refine S_iconst (pc := 10) (v := (nI 1)) dX8_buildFirstMembers_10 kI_1 ?_
  refine S_iconst (pc := 11) (v := (nI 0)) dX8_buildFirstMembers_11 kI_0 ?_
  refine S_iconst (pc := 12) (v := (nI 3)) dX8_buildFirstMembers_12 kI_3 ?_
  refine S_iconst (pc := 13) (v := (nI 0)) dX8_buildFirstMembers_13 kI_0 ?_
  refine S_aload_n (pc := 14) dX8_buildFirstMembers_14 rfl ?_
  refine Y_Vv (pc := 15) (st := []) (kc' := 1) (ks' := 4) (ktX4_append r0 (nI 0) (nI 1) (nI 0) (nI 3) (nI 0) a_2) mw_X4_append mv_X4_append w392 (RO.mk rfl rfl rfl rfl) rfl rfl rfl dX8_buildFirstMembers_15 ⟨rfl, rfl⟩ ?_
  refine S_aload_n (pc := 18) dX8_buildFirstMembers_18 rfl ?_
  refine S_iconst (pc := 19) (v := (nI 0)) dX8_buildFirstMembers_19 kI_0 ?_
  refine S_iconst (pc := 20) (v := (nI 1)) dX8_buildFirstMembers_20 kI_1 ?_
  refine S_iconst (pc := 21) (v := (nI 1)) dX8_buildFirstMembers_21 kI_1 ?_
  refine S_iconst (pc := 22) (v := (nI 3)) dX8_buildFirstMembers_22 kI_3 ?_
  refine S_iconst (pc := 23) (v := (nI 3)) dX8_buildFirstMembers_23 kI_3 ?_
  refine S_aload_n (pc := 24) dX8_buildFirstMembers_24 rfl ?_
  refine Y_Vv (pc := 25) (st := []) (kc' := 1) (ks' := 4) (ktX4_append r0 (nI 0) (nI 1) (nI 1) (nI 3) (nI 3) a_2) mw_X4_append mv_X4_append w392 (RO.mk rfl rfl rfl rfl) rfl rfl rfl dX8_buildFirstMembers_25 ⟨rfl, rfl⟩ ?_
  refine S_aload_n (pc := 28) dX8_buildFirstMembers_28 rfl ?_
  refine S_iconst (pc := 29) (v := (nI 1)) dX8_buildFirstMembers_29 kI_1 ?_
  refine S_iconst (pc := 30) (v := (nI 2)) dX8_buildFirstMembers_30 kI_2 ?_
  refine S_bipush (pc := 31) (v := (nI 7)) dX8_buildFirstMembers_31 kB_7 ?_
  refine Y_Vv (pc := 33) (st := []) (kc' := 1) (ks' := 4) (ktX4_putValue r0 (nI 1) (nI 2) (nI 7)) mw_X4_putValue mv_X4_putValue w402 (RO.mk rfl rfl rfl rfl) rfl rfl rfl dX8_buildFirstMembers_33 ⟨rfl, rfl⟩ ?_
  refine S_aload_n (pc := 36) dX8_buildFirstMembers_36 rfl ?_
  refine S_iconst (pc := 37) (v := (nI 1)) dX8_buildFirstMembers_37 kI_1 ?_
  refine S_iconst (pc := 38) (v := (nI 1)) dX8_buildFirstMembers_38 kI_1 ?_
  refine S_iconst (pc := 39) (v := (nI 0)) dX8_buildFirstMembers_39 kI_0 ?_
  refine S_iconst (pc := 40) (v := (nI 3)) dX8_buildFirstMembers_40 kI_3 ?_
  refine S_iconst (pc := 41) (v := (nI 0)) dX8_buildFirstMembers_41 kI_0 ?_
  refine S_aload_n (pc := 42) dX8_buildFirstMembers_42 rfl ?_
  refine Y_Vv (pc := 43) (st := []) (kc' := 1) (ks' := 4) (ktX4_append r0 (nI 1) (nI 1) (nI 0) (nI 3) (nI 0) a_2) mw_X4_append mv_X4_append w392 (RO.mk rfl rfl rfl rfl) rfl rfl rfl dX8_buildFirstMembers_43 ⟨rfl, rfl⟩ ?_
  refine S_aload_n (pc := 46) dX8_buildFirstMembers_46 rfl ?_
  refine S_iconst (pc := 47) (v := (-1 : Int32)) dX8_buildFirstMembers_47 kI_m1 ?_
  refine S_iconst (pc := 48) (v := (nI 1)) dX8_buildFirstMembers_48 kI_1 ?_
  refine S_iconst (pc := 49) (v := (nI 1)) dX8_buildFirstMembers_49 kI_1 ?_
  refine S_bipush (pc := 50) (v := (-2 : Int32)) dX8_buildFirstMembers_50 kB_m2 ?_
  refine Y_Vv (pc := 52) (st := []) (kc' := 1) (ks' := 4) (ktX5_put a_2 (-1 : Int32) (nI 1) (nI 1) (-2 : Int32)) mw_X5_put mv_X5_put w410 (RO.mk rfl rfl rfl rfl) rfl rfl rfl dX8_buildFirstMembers_52 ⟨rfl, rfl⟩ ?_
  refine S_aload_n (pc := 55) dX8_buildFirstMembers_55 rfl ?_
  refine S_iconst (pc := 56) (v := (nI 1)) dX8_buildFirstMembers_56 kI_1 ?_
  refine S_iconst (pc := 57) (v := (nI 1)) dX8_buildFirstMembers_57 kI_1 ?_
  refine S_iconst (pc := 58) (v := (nI 1)) dX8_buildFirstMembers_58 kI_1 ?_
  refine S_iconst (pc := 59) (v := (nI 2)) dX8_buildFirstMembers_59 kI_2 ?_
  refine S_iconst (pc := 60) (v := (nI 0)) dX8_buildFirstMembers_60 kI_0 ?_
  refine S_aload_n (pc := 61) dX8_buildFirstMembers_61 rfl ?_
  refine Y_Vv (pc := 62) (st := []) (kc' := 1) (ks' := 4) (ktX4_append r0 (nI 1) (nI 1) (nI 1) (nI 2) (nI 0) a_2) mw_X4_append mv_X4_append w392 (RO.mk rfl rfl rfl rfl) rfl rfl rfl dX8_buildFirstMembers_62 ⟨rfl, rfl⟩ ?_
  refine S_aload_n (pc := 65) dX8_buildFirstMembers_65 rfl ?_
  refine S_iconst (pc := 66) (v := (nI 1)) dX8_buildFirstMembers_66 kI_1 ?_
  refine S_iconst (pc := 67) (v := (nI 0)) dX8_buildFirstMembers_67 kI_0 ?_
  refine S_bipush (pc := 68) (v := (-2 : Int32)) dX8_buildFirstMembers_68 kB_m2 ?_
  refine S_bipush (pc := 70) (v := (-2 : Int32)) dX8_buildFirstMembers_70 kB_m2 ?_
  refine Y_Vv (pc := 72) (st := []) (kc' := 1) (ks' := 4) (ktX5_put a_2 (nI 1) (nI 0) (-2 : Int32) (-2 : Int32)) mw_X5_put mv_X5_put w410 (RO.mk rfl rfl rfl rfl) rfl rfl rfl dX8_buildFirstMembers_72 ⟨rfl, rfl⟩ ?_
  refine S_aload_n (pc := 75) dX8_buildFirstMembers_75 rfl ?_
  refine S_iconst (pc := 76) (v := (nI 1)) dX8_buildFirstMembers_76 kI_1 ?_
  refine S_iconst (pc := 77) (v := (nI 2)) dX8_buildFirstMembers_77 kI_2 ?_
  refine S_iconst (pc := 78) (v := (nI 2)) dX8_buildFirstMembers_78 kI_2 ?_
  refine S_iconst (pc := 79) (v := (nI 3)) dX8_buildFirstMembers_79 kI_3 ?_
  refine S_iconst (pc := 80) (v := (nI 4)) dX8_buildFirstMembers_80 kI_4 ?_
  refine S_aload_n (pc := 81) dX8_buildFirstMembers_81 rfl ?_
  refine Y_Vv (pc := 82) (st := []) (kc' := 1) (ks' := 4) (ktX4_append r0 (nI 1) (nI 2) (nI 2) (nI 3) (nI 4) a_2) mw_X4_append mv_X4_append w392 (RO.mk rfl rfl rfl rfl) rfl rfl rfl dX8_buildFirstMembers_82 ⟨rfl, rfl⟩ ?_
  refine S_aload_n (pc := 85) dX8_buildFirstMembers_85 rfl ?_
  refine S_iconst (pc := 86) (v := (nI 1)) dX8_buildFirstMembers_86 kI_1 ?_
  refine S_iconst (pc := 87) (v := (nI 3)) dX8_buildFirstMembers_87 kI_3 ?_
  refine S_iconst (pc := 88) (v := (nI 2)) dX8_buildFirstMembers_88 kI_2 ?_
  refine S_iconst (pc := 89) (v := (nI 3)) dX8_buildFirstMembers_89 kI_3 ?_
  refine S_iconst (pc := 90) (v := (nI 0)) dX8_buildFirstMembers_90 kI_0 ?_
  refine S_aload_n (pc := 91) dX8_buildFirstMembers_91 rfl ?_
  refine Y_Vv (pc := 92) (st := []) (kc' := 1) (ks' := 4) (ktX4_append r0 (nI 1) (nI 3) (nI 2) (nI 3) (nI 0) a_2) mw_X4_append mv_X4_append w392 (RO.mk rfl rfl rfl rfl) rfl rfl rfl dX8_buildFirstMembers_92 ⟨rfl, rfl⟩ ?_
  refine S_aload_n (pc := 95) dX8_buildFirstMembers_95 rfl ?_
  refine S_iconst (pc := 96) (v := (-1 : Int32)) dX8_buildFirstMembers_96 kI_m1 ?_
  refine S_iconst (pc := 97) (v := (nI 0)) dX8_buildFirstMembers_97 kI_0 ?_
  refine S_bipush (pc := 98) (v := (-2 : Int32)) dX8_buildFirstMembers_98 kB_m2 ?_
  refine S_bipush (pc := 100) (v := (-2 : Int32)) dX8_buildFirstMembers_100 kB_m2 ?_
  refine Y_Vv (pc := 102) (st := []) (kc' := 1) (ks' := 4) (ktX5_put a_2 (-1 : Int32) (nI 0) (-2 : Int32) (-2 : Int32)) mw_X5_put mv_X5_put w410 (RO.mk rfl rfl rfl rfl) rfl rfl rfl dX8_buildFirstMembers_102 ⟨rfl, rfl⟩ ?_
  refine S_aload_n (pc := 105) dX8_buildFirstMembers_105 rfl ?_
  refine S_iconst (pc := 106) (v := (nI 1)) dX8_buildFirstMembers_106 kI_1 ?_
  refine S_iconst (pc := 107) (v := (nI 3)) dX8_buildFirstMembers_107 kI_3 ?_
  refine S_iconst (pc := 108) (v := (nI 0)) dX8_buildFirstMembers_108 kI_0 ?_
  refine S_iconst (pc := 109) (v := (nI 3)) dX8_buildFirstMembers_109 kI_3 ?_
  refine S_iconst (pc := 110) (v := (nI 0)) dX8_buildFirstMembers_110 kI_0 ?_
  refine S_aload_n (pc := 111) dX8_buildFirstMembers_111 rfl ?_
  refine Y_Vv (pc := 112) (st := []) (kc' := 1) (ks' := 4) (ktX4_append r0 (nI 1) (nI 3) (nI 0) (nI 3) (nI 0) a_2) mw_X4_append mv_X4_append w392 (RO.mk rfl rfl rfl rfl) rfl rfl rfl dX8_buildFirstMembers_112 ⟨rfl, rfl⟩ ?_
  refine S_aload_n (pc := 115) dX8_buildFirstMembers_115 rfl ?_
  refine S_iconst (pc := 116) (v := (-1 : Int32)) dX8_buildFirstMembers_116 kI_m1 ?_
  refine S_iconst (pc := 117) (v := (nI 1)) dX8_buildFirstMembers_117 kI_1 ?_
  refine S_iconst (pc := 118) (v := (nI 3)) dX8_buildFirstMembers_118 kI_3 ?_
  refine S_bipush (pc := 119) (v := (-2 : Int32)) dX8_buildFirstMembers_119 kB_m2 ?_
  refine Y_Vv (pc := 121) (st := []) (kc' := 1) (ks' := 4) (ktX5_put a_2 (-1 : Int32) (nI 1) (nI 3) (-2 : Int32)) mw_X5_put mv_X5_put w410 (RO.mk rfl rfl rfl rfl) rfl rfl rfl dX8_buildFirstMembers_121 ⟨rfl, rfl⟩ ?_
  refine S_aload_n (pc := 124) dX8_buildFirstMembers_124 rfl ?_
  refine S_iconst (pc := 125) (v := (nI 1)) dX8_buildFirstMembers_125 kI_1 ?_
  refine S_iconst (pc := 126) (v := (nI 4)) dX8_buildFirstMembers_126 kI_4 ?_
  refine S_iconst (pc := 127) (v := (nI 1)) dX8_buildFirstMembers_127 kI_1 ?_
  refine S_iconst (pc := 128) (v := (nI 3)) dX8_buildFirstMembers_128 kI_3 ?_
  refine S_iconst (pc := 129) (v := (nI 0)) dX8_buildFirstMembers_129 kI_0 ?_
  refine S_aload_n (pc := 130) dX8_buildFirstMembers_130 rfl ?_
  refine Y_Vv (pc := 131) (st := []) (kc' := 1) (ks' := 4) (ktX4_append r0 (nI 1) (nI 4) (nI 1) (nI 3) (nI 0) a_2) mw_X4_append mv_X4_append w392 (RO.mk rfl rfl rfl rfl) rfl rfl rfl dX8_buildFirstMembers_131 ⟨rfl, rfl⟩ ?_
  exact S_vret (pc := 134) ⟨rfl, rfl⟩ rfl rfl dX8_buildFirstMembers_134
theorem ktX8_buildFirstMembers (r0 : Nat) : Ct mX8_buildFirstMembers rV [.ref r0] (fX8_buildFirstMembers r0) := Ct.of (z := 1) pn_X8 rfl rfl rfl (sX8_buildFirstMembers r0)
def mX8_withNumber : MI := (yX8_withNumber, cX8_withNumber, 3, (some .long), { frames := 0, cells := 0, slots := 0, locals := 0 }, [])
theorem mw_X8_withNumber : MW mX8_withNumber 2 := ⟨w609, w1, ⟨by decide, by decide⟩, by decide +kernel⟩
def fX8_withNumber  (u0 : Int64) (v2 : Int32) : AH → Option (Int64 × AH) := fun h =>
  some ((((31 : Int64) * u0) + (Int32.toInt64 v2)), h)
theorem sX8_withNumber  (u0 : Int64) (v2 : Int32) : Sm mX8_withNumber rL 0 0 0 [some (.long u0), none, some (.int v2)] [] (fX8_withNumber u0 v2) := by
  unfold fX8_withNumber
  refine S_ldc2 (pc := 0) (v := (31 : Int64)) w610 dX8_withNumber_0 ?_
  refine S_lload_n (pc := 3) dX8_withNumber_3 rfl ?_
  refine S_lmul (pc := 4) dX8_withNumber_4 ?_
  refine S_iload_n (pc := 5) dX8_withNumber_5 rfl ?_
  refine S_i2l (pc := 6) dX8_withNumber_6 ?_
  refine S_ladd (pc := 7) dX8_withNumber_7 ?_
  exact S_lret (pc := 8) ⟨rfl, rfl⟩ rfl rfl dX8_withNumber_8
theorem ktX8_withNumber (u0 : Int64) (v2 : Int32) : Ct mX8_withNumber rL [.long u0, .int v2] (fX8_withNumber u0 v2) := Ct.of (z := 0) pn_X8 rfl rfl rfl (sX8_withNumber u0 v2)
def mX8_withClasses : MI := (yX8_withClasses, cX8_withClasses, 7, (some .long), { frames := 4, cells := 0, slots := 0, locals := 105 }, [])
theorem mw_X8_withClasses : MW mX8_withClasses 2 := ⟨w596, w1, ⟨by decide, by decide⟩, by decide +kernel⟩
def fX8_withClasses_60 (k5 : Nat → Int64 → Int32 → AH → Option (Int64 × AH)) (r2 : Nat) (u3 : Int64) (v5 : Int32) : AH → Option (Int64 × AH) := fun h =>
  k5 r2 u3 (v5 + (nI 1)) h
def bX8_withClasses_24 (k5 : Nat → Int64 → Int32 → AH → Option (Int64 × AH)) (k24 : Nat → Int64 → Int32 → Int32 → AH → Option (Int64 × AH)) (r2 : Nat) (u3 : Int64) (v5 : Int32) (v6 : Int32) : AH → Option (Int64 × AH) := fun h =>
  if (nI 9) < v6 then (
    fX8_withClasses_60 k5 r2 u3 v5 h)
  else
  cv 2 r2 (fX2_valueOf r2 v5 v6) h fun x_9 h =>
  bd (fX8_withNumber u3 x_9 h) fun y_10 h =>
  k24 r2 y_10 v5 (v6 + (nI 1)) h
def lX8_withClasses_24 (k5 : Nat → Int64 → Int32 → AH → Option (Int64 × AH)) : Nat → Nat → Int64 → Int32 → Int32 → AH → Option (Int64 × AH)
  | 0 => fun _ _ _ _ _ => none
  | n + 1 => bX8_withClasses_24 k5 (lX8_withClasses_24 k5 n)
def bX8_withClasses_5  (k5 : Nat → Int64 → Int32 → AH → Option (Int64 × AH)) (r2 : Nat) (u3 : Int64) (v5 : Int32) : AH → Option (Int64 × AH) := fun h =>
  if (nI 10) ≤ v5 then (
    some (u3, h))
  else
  cv 2 r2 (fX2_isThere r2 v5) h fun x_11 h =>
  if x_11 = 0 then (
    bd (fX8_withNumber u3 (-3 : Int32) h) fun y_12 h =>
    fX8_withClasses_60 k5 r2 y_12 v5 h)
  else
  lX8_withClasses_24 k5 fuel r2 u3 v5 (nI 0) h
def lX8_withClasses_5  : Nat → Nat → Int64 → Int32 → AH → Option (Int64 × AH)
  | 0 => fun _ _ _ _ => none
  | n + 1 => bX8_withClasses_5 (lX8_withClasses_5 n)
def fX8_withClasses  (u0 : Int64) (r2 : Nat) : AH → Option (Int64 × AH) := fun h =>
  lX8_withClasses_5 fuel r2 u0 (nI 0) h
theorem sX8_withClasses_60 {k5 : Nat → Int64 → Int32 → AH → Option (Int64 × AH)} (h5 : ∀ (r2 : Nat) (u3 : Int64) (v5 : Int32), Sm mX8_withClasses rL 0 0 5 [none, none, some (.ref r2), some (.long u3), none, some (.int v5), none] [] (k5 r2 u3 v5)) (r2 : Nat) (u3 : Int64) (v5 : Int32) : Sm mX8_withClasses rL 0 0 60 [none, none, some (.ref r2), some (.long u3), none, some (.int v5), none] [] (fX8_withClasses_60 k5 r2 u3 v5) := by
  unfold fX8_withClasses_60
  refine Z_iinc (pc := 60) (v := (nI 1)) (lv' := [none, none, some (.ref r2), some (.long u3), none, some (.int (v5 + (nI 1))), none]) dX8_withClasses_60 rfl kI_1 rfl rfl rfl ?_
  refine S_goto (pc := 63) (tgt := 5) dX8_withClasses_63 (by decide) ?_
  exact (h5 r2 u3 (v5 + (nI 1)))
theorem sbX8_withClasses_24 {k5 : Nat → Int64 → Int32 → AH → Option (Int64 × AH)} (h5 : ∀ (r2 : Nat) (u3 : Int64) (v5 : Int32), Sm mX8_withClasses rL 0 0 5 [none, none, some (.ref r2), some (.long u3), none, some (.int v5), none] [] (k5 r2 u3 v5)) {k24 : Nat → Int64 → Int32 → Int32 → AH → Option (Int64 × AH)} (h24 : ∀ (r2 : Nat) (u3 : Int64) (v5 : Int32) (v6 : Int32), Sm mX8_withClasses rL 0 0 24 [none, none, some (.ref r2), some (.long u3), none, some (.int v5), some (.int v6)] [] (k24 r2 u3 v5 v6)) (r2 : Nat) (u3 : Int64) (v5 : Int32) (v6 : Int32) : Sm mX8_withClasses rL 0 0 24 [none, none, some (.ref r2), some (.long u3), none, some (.int v5), some (.int v6)] [] (bX8_withClasses_24 k5 k24 r2 u3 v5 v6) := by
  unfold bX8_withClasses_24
  refine S_iload (pc := 24) dX8_withClasses_24 rfl ?_
  refine S_bipush (pc := 26) (v := (nI 9)) dX8_withClasses_26 kB_9 ?_
  refine S_icmpgt (pc := 28) (tgt := 50) dX8_withClasses_28 (by decide) ?_ ?_
  · refine S_goto (pc := 50) (tgt := 60) dX8_withClasses_50 (by decide) ?_
    exact (S_lv (lv0 := [none, none, some (.ref r2), some (.long u3), none, some (.int v5), none]) (And.intro rfl (And.intro rfl (And.intro rfl trivial))) (sX8_withClasses_60 h5 r2 u3 v5))
  · refine S_lload_n (pc := 31) dX8_withClasses_31 rfl ?_
    refine S_aload_n (pc := 32) dX8_withClasses_32 rfl ?_
    refine S_iload (pc := 33) dX8_withClasses_33 rfl ?_
    refine S_iload (pc := 35) dX8_withClasses_35 rfl ?_
    refine Y_Vi (pc := 37) (st := [.long u3]) (kc' := 0) (ks' := 0) (ktX2_valueOf r2 v5 v6) mw_X2_valueOf mv_X2_valueOf w598 (RO.mk rfl rfl rfl rfl) rfl rfl rfl dX8_withClasses_37 ⟨rfl, rfl⟩ (fun x_9 => ?_)
    refine Y_Tl (pc := 40) (st := []) (kc' := 0) (ks' := 0) (ktX8_withNumber u3 x_9) mw_X8_withNumber w608 w607 (RO.mk rfl rfl rfl rfl) rfl rfl rfl dX8_withClasses_40 ⟨rfl, rfl⟩ (fun y_10 => ?_)
    refine Z_lstore_n (pc := 43) (lv' := [none, none, some (.ref r2), some (.long y_10), none, some (.int v5), some (.int v6)]) dX8_withClasses_43 rfl rfl rfl ?_
    refine Z_iinc (pc := 44) (v := (nI 1)) (lv' := [none, none, some (.ref r2), some (.long y_10), none, some (.int v5), some (.int (v6 + (nI 1)))]) dX8_withClasses_44 rfl kI_1 rfl rfl rfl ?_
    refine S_goto (pc := 47) (tgt := 24) dX8_withClasses_47 (by decide) ?_
    exact (h24 r2 y_10 v5 (v6 + (nI 1)))
theorem sX8_withClasses_24 {k5 : Nat → Int64 → Int32 → AH → Option (Int64 × AH)} (h5 : ∀ (r2 : Nat) (u3 : Int64) (v5 : Int32), Sm mX8_withClasses rL 0 0 5 [none, none, some (.ref r2), some (.long u3), none, some (.int v5), none] [] (k5 r2 u3 v5)) : ∀ (n : Nat) (r2 : Nat) (u3 : Int64) (v5 : Int32) (v6 : Int32), Sm mX8_withClasses rL 0 0 24 [none, none, some (.ref r2), some (.long u3), none, some (.int v5), some (.int v6)] [] (lX8_withClasses_24 k5 n r2 u3 v5 v6)
  | 0, _, _, _, _ => S_none
  | n + 1, r2, u3, v5, v6 => sbX8_withClasses_24 h5 (sX8_withClasses_24 h5 n) r2 u3 v5 v6
theorem sbX8_withClasses_5  {k5 : Nat → Int64 → Int32 → AH → Option (Int64 × AH)} (h5 : ∀ (r2 : Nat) (u3 : Int64) (v5 : Int32), Sm mX8_withClasses rL 0 0 5 [none, none, some (.ref r2), some (.long u3), none, some (.int v5), none] [] (k5 r2 u3 v5)) (r2 : Nat) (u3 : Int64) (v5 : Int32) : Sm mX8_withClasses rL 0 0 5 [none, none, some (.ref r2), some (.long u3), none, some (.int v5), none] [] (bX8_withClasses_5 k5 r2 u3 v5) := by
  unfold bX8_withClasses_5
  refine S_iload (pc := 5) dX8_withClasses_5 rfl ?_
  refine S_bipush (pc := 7) (v := (nI 10)) dX8_withClasses_7 kB_10 ?_
  refine S_icmpge (pc := 9) (tgt := 66) dX8_withClasses_9 (by decide) ?_ ?_
  · refine S_lload_n (pc := 66) dX8_withClasses_66 rfl ?_
    exact S_lret (pc := 67) ⟨rfl, rfl⟩ rfl rfl dX8_withClasses_67
  · refine S_aload_n (pc := 12) dX8_withClasses_12 rfl ?_
    refine S_iload (pc := 13) dX8_withClasses_13 rfl ?_
    refine Y_Vi (pc := 15) (st := []) (kc' := 0) (ks' := 0) (ktX2_isThere r2 v5) mw_X2_isThere mv_X2_isThere w597 (RO.mk rfl rfl rfl rfl) rfl rfl rfl dX8_withClasses_15 ⟨rfl, rfl⟩ (fun x_11 => ?_)
    refine S_ifeq (pc := 18) (tgt := 53) dX8_withClasses_18 (by decide) ?_ ?_
    · refine S_lload_n (pc := 53) dX8_withClasses_53 rfl ?_
      refine S_bipush (pc := 54) (v := (-3 : Int32)) dX8_withClasses_54 kB_m3 ?_
      refine Y_Tl (pc := 56) (st := []) (kc' := 0) (ks' := 0) (ktX8_withNumber u3 (-3 : Int32)) mw_X8_withNumber w608 w607 (RO.mk rfl rfl rfl rfl) rfl rfl rfl dX8_withClasses_56 ⟨rfl, rfl⟩ (fun y_12 => ?_)
      refine Z_lstore_n (pc := 59) (lv' := [none, none, some (.ref r2), some (.long y_12), none, some (.int v5), none]) dX8_withClasses_59 rfl rfl rfl ?_
      exact (sX8_withClasses_60 h5 r2 y_12 v5)
    · refine S_iconst (pc := 21) (v := (nI 0)) dX8_withClasses_21 kI_0 ?_
      refine Z_istore (pc := 22) (lv' := [none, none, some (.ref r2), some (.long u3), none, some (.int v5), some (.int (nI 0))]) dX8_withClasses_22 rfl rfl rfl ?_
      exact (sX8_withClasses_24 h5 fuel r2 u3 v5 (nI 0))
theorem sX8_withClasses_5  : ∀ (n : Nat) (r2 : Nat) (u3 : Int64) (v5 : Int32), Sm mX8_withClasses rL 0 0 5 [none, none, some (.ref r2), some (.long u3), none, some (.int v5), none] [] (lX8_withClasses_5 n r2 u3 v5)
  | 0, _, _, _ => S_none
  | n + 1, r2, u3, v5 => sbX8_withClasses_5 (sX8_withClasses_5 n) r2 u3 v5
theorem sX8_withClasses  (u0 : Int64) (r2 : Nat) : Sm mX8_withClasses rL 0 0 0 [some (.long u0), none, some (.ref r2), none, none, none, none] [] (fX8_withClasses u0 r2) := by
  unfold fX8_withClasses
  refine S_lload_n (pc := 0) dX8_withClasses_0 rfl ?_
  refine Z_lstore_n (pc := 1) (lv' := [some (.long u0), none, some (.ref r2), some (.long u0), none, none, none]) dX8_withClasses_1 rfl rfl rfl ?_
  refine S_iconst (pc := 2) (v := (nI 0)) dX8_withClasses_2 kI_0 ?_
  refine Z_istore (pc := 3) (lv' := [some (.long u0), none, some (.ref r2), some (.long u0), none, some (.int (nI 0)), none]) dX8_withClasses_3 rfl rfl rfl ?_
  exact (S_lv (lv0 := [none, none, some (.ref r2), some (.long u0), none, some (.int (nI 0)), none]) (And.intro rfl (And.intro rfl (And.intro rfl trivial))) (sX8_withClasses_5 fuel r2 u0 (nI 0)))
theorem ktX8_withClasses (u0 : Int64) (r2 : Nat) : Ct mX8_withClasses rL [.long u0, .ref r2] (fX8_withClasses u0 r2) := Ct.of (z := 4) pn_X8 rfl rfl rfl (sX8_withClasses u0 r2)
def mX8_withMembers : MI := (yX8_withMembers, cX8_withMembers, 7, (some .long), { frames := 1, cells := 0, slots := 0, locals := 22 }, [])
theorem mw_X8_withMembers : MW mX8_withMembers 2 := ⟨w613, w1, ⟨by decide, by decide⟩, by decide +kernel⟩
def bX8_withMembers_24 (k12 : Nat → Int64 → Int32 → AH → Option (Int64 × AH)) (k24 : Nat → Int64 → Int32 → Int32 → AH → Option (Int64 × AH)) (r2 : Nat) (u3 : Int64) (v5 : Int32) (v6 : Int32) : AH → Option (Int64 × AH) := fun h =>
  if (nI 9) < v6 then (
    k12 r2 u3 (v5 + (nI 1)) h)
  else
  cv 4 r2 (fX4_valueOf r2 v5 v6) h fun x_11 h =>
  bd (fX8_withNumber u3 x_11 h) fun y_12 h =>
  k24 r2 y_12 v5 (v6 + (nI 1)) h
def lX8_withMembers_24 (k12 : Nat → Int64 → Int32 → AH → Option (Int64 × AH)) : Nat → Nat → Int64 → Int32 → Int32 → AH → Option (Int64 × AH)
  | 0 => fun _ _ _ _ _ => none
  | n + 1 => bX8_withMembers_24 k12 (lX8_withMembers_24 k12 n)
def bX8_withMembers_12  (k12 : Nat → Int64 → Int32 → AH → Option (Int64 × AH)) (r2 : Nat) (u3 : Int64) (v5 : Int32) : AH → Option (Int64 × AH) := fun h =>
  (gI 4 r2 0 h).bind fun x_13 =>
  if x_13 ≤ v5 then (
    some (u3, h))
  else
  lX8_withMembers_24 k12 fuel r2 u3 v5 (nI 0) h
def lX8_withMembers_12  : Nat → Nat → Int64 → Int32 → AH → Option (Int64 × AH)
  | 0 => fun _ _ _ _ => none
  | n + 1 => bX8_withMembers_12 (lX8_withMembers_12 n)
def fX8_withMembers  (u0 : Int64) (r2 : Nat) : AH → Option (Int64 × AH) := fun h =>
  (gI 4 r2 0 h).bind fun x_14 =>
  bd (fX8_withNumber u0 x_14 h) fun y_15 h =>
  lX8_withMembers_12 fuel r2 y_15 (nI 0) h
theorem sbX8_withMembers_24 {k12 : Nat → Int64 → Int32 → AH → Option (Int64 × AH)} (h12 : ∀ (r2 : Nat) (u3 : Int64) (v5 : Int32), Sm mX8_withMembers rL 0 0 12 [none, none, some (.ref r2), some (.long u3), none, some (.int v5), none] [] (k12 r2 u3 v5)) {k24 : Nat → Int64 → Int32 → Int32 → AH → Option (Int64 × AH)} (h24 : ∀ (r2 : Nat) (u3 : Int64) (v5 : Int32) (v6 : Int32), Sm mX8_withMembers rL 0 0 24 [none, none, some (.ref r2), some (.long u3), none, some (.int v5), some (.int v6)] [] (k24 r2 u3 v5 v6)) (r2 : Nat) (u3 : Int64) (v5 : Int32) (v6 : Int32) : Sm mX8_withMembers rL 0 0 24 [none, none, some (.ref r2), some (.long u3), none, some (.int v5), some (.int v6)] [] (bX8_withMembers_24 k12 k24 r2 u3 v5 v6) := by
  unfold bX8_withMembers_24
  refine S_iload (pc := 24) dX8_withMembers_24 rfl ?_
  refine S_bipush (pc := 26) (v := (nI 9)) dX8_withMembers_26 kB_9 ?_
  refine S_icmpgt (pc := 28) (tgt := 50) dX8_withMembers_28 (by decide) ?_ ?_
  · refine Z_iinc (pc := 50) (v := (nI 1)) (lv' := [none, none, some (.ref r2), some (.long u3), none, some (.int (v5 + (nI 1))), some (.int v6)]) dX8_withMembers_50 rfl kI_1 rfl rfl rfl ?_
    refine S_goto (pc := 53) (tgt := 12) dX8_withMembers_53 (by decide) ?_
    exact (S_lv (lv0 := [none, none, some (.ref r2), some (.long u3), none, some (.int (v5 + (nI 1))), none]) (And.intro rfl (And.intro rfl (And.intro rfl trivial))) (h12 r2 u3 (v5 + (nI 1))))
  · refine S_lload_n (pc := 31) dX8_withMembers_31 rfl ?_
    refine S_aload_n (pc := 32) dX8_withMembers_32 rfl ?_
    refine S_iload (pc := 33) dX8_withMembers_33 rfl ?_
    refine S_iload (pc := 35) dX8_withMembers_35 rfl ?_
    refine Y_Vi (pc := 37) (st := [.long u3]) (kc' := 0) (ks' := 0) (ktX4_valueOf r2 v5 v6) mw_X4_valueOf mv_X4_valueOf w614 (RO.mk rfl rfl rfl rfl) rfl rfl rfl dX8_withMembers_37 ⟨rfl, rfl⟩ (fun x_11 => ?_)
    refine Y_Tl (pc := 40) (st := []) (kc' := 0) (ks' := 0) (ktX8_withNumber u3 x_11) mw_X8_withNumber w608 w607 (RO.mk rfl rfl rfl rfl) rfl rfl rfl dX8_withMembers_40 ⟨rfl, rfl⟩ (fun y_12 => ?_)
    refine Z_lstore_n (pc := 43) (lv' := [none, none, some (.ref r2), some (.long y_12), none, some (.int v5), some (.int v6)]) dX8_withMembers_43 rfl rfl rfl ?_
    refine Z_iinc (pc := 44) (v := (nI 1)) (lv' := [none, none, some (.ref r2), some (.long y_12), none, some (.int v5), some (.int (v6 + (nI 1)))]) dX8_withMembers_44 rfl kI_1 rfl rfl rfl ?_
    refine S_goto (pc := 47) (tgt := 24) dX8_withMembers_47 (by decide) ?_
    exact (h24 r2 y_12 v5 (v6 + (nI 1)))
theorem sX8_withMembers_24 {k12 : Nat → Int64 → Int32 → AH → Option (Int64 × AH)} (h12 : ∀ (r2 : Nat) (u3 : Int64) (v5 : Int32), Sm mX8_withMembers rL 0 0 12 [none, none, some (.ref r2), some (.long u3), none, some (.int v5), none] [] (k12 r2 u3 v5)) : ∀ (n : Nat) (r2 : Nat) (u3 : Int64) (v5 : Int32) (v6 : Int32), Sm mX8_withMembers rL 0 0 24 [none, none, some (.ref r2), some (.long u3), none, some (.int v5), some (.int v6)] [] (lX8_withMembers_24 k12 n r2 u3 v5 v6)
  | 0, _, _, _, _ => S_none
  | n + 1, r2, u3, v5, v6 => sbX8_withMembers_24 h12 (sX8_withMembers_24 h12 n) r2 u3 v5 v6
theorem sbX8_withMembers_12  {k12 : Nat → Int64 → Int32 → AH → Option (Int64 × AH)} (h12 : ∀ (r2 : Nat) (u3 : Int64) (v5 : Int32), Sm mX8_withMembers rL 0 0 12 [none, none, some (.ref r2), some (.long u3), none, some (.int v5), none] [] (k12 r2 u3 v5)) (r2 : Nat) (u3 : Int64) (v5 : Int32) : Sm mX8_withMembers rL 0 0 12 [none, none, some (.ref r2), some (.long u3), none, some (.int v5), none] [] (bX8_withMembers_12 k12 r2 u3 v5) := by
  unfold bX8_withMembers_12
  refine S_iload (pc := 12) dX8_withMembers_12 rfl ?_
  refine S_aload_n (pc := 14) dX8_withMembers_14 rfl ?_
  refine S_gI (pc := 15) fl_X8_203 rfl dX8_withMembers_15 (fun x_13 => ?_)
  refine S_icmpge (pc := 18) (tgt := 56) dX8_withMembers_18 (by decide) ?_ ?_
  · refine S_lload_n (pc := 56) dX8_withMembers_56 rfl ?_
    exact S_lret (pc := 57) ⟨rfl, rfl⟩ rfl rfl dX8_withMembers_57
  · refine S_iconst (pc := 21) (v := (nI 0)) dX8_withMembers_21 kI_0 ?_
    refine Z_istore (pc := 22) (lv' := [none, none, some (.ref r2), some (.long u3), none, some (.int v5), some (.int (nI 0))]) dX8_withMembers_22 rfl rfl rfl ?_
    exact (sX8_withMembers_24 h12 fuel r2 u3 v5 (nI 0))
theorem sX8_withMembers_12  : ∀ (n : Nat) (r2 : Nat) (u3 : Int64) (v5 : Int32), Sm mX8_withMembers rL 0 0 12 [none, none, some (.ref r2), some (.long u3), none, some (.int v5), none] [] (lX8_withMembers_12 n r2 u3 v5)
  | 0, _, _, _ => S_none
  | n + 1, r2, u3, v5 => sbX8_withMembers_12 (sX8_withMembers_12 n) r2 u3 v5
theorem sX8_withMembers  (u0 : Int64) (r2 : Nat) : Sm mX8_withMembers rL 0 0 0 [some (.long u0), none, some (.ref r2), none, none, none, none] [] (fX8_withMembers u0 r2) := by
  unfold fX8_withMembers
  refine S_lload_n (pc := 0) dX8_withMembers_0 rfl ?_
  refine S_aload_n (pc := 1) dX8_withMembers_1 rfl ?_
  refine S_gI (pc := 2) fl_X8_203 rfl dX8_withMembers_2 (fun x_14 => ?_)
  refine Y_Tl (pc := 5) (st := []) (kc' := 0) (ks' := 0) (ktX8_withNumber u0 x_14) mw_X8_withNumber w608 w607 (RO.mk rfl rfl rfl rfl) rfl rfl rfl dX8_withMembers_5 ⟨rfl, rfl⟩ (fun y_15 => ?_)
  refine Z_lstore_n (pc := 8) (lv' := [some (.long u0), none, some (.ref r2), some (.long y_15), none, none, none]) dX8_withMembers_8 rfl rfl rfl ?_
  refine S_iconst (pc := 9) (v := (nI 0)) dX8_withMembers_9 kI_0 ?_
  refine Z_istore (pc := 10) (lv' := [some (.long u0), none, some (.ref r2), some (.long y_15), none, some (.int (nI 0)), none]) dX8_withMembers_10 rfl rfl rfl ?_
  exact (S_lv (lv0 := [none, none, some (.ref r2), some (.long y_15), none, some (.int (nI 0)), none]) (And.intro rfl (And.intro rfl (And.intro rfl trivial))) (sX8_withMembers_12 fuel r2 y_15 (nI 0)))
theorem ktX8_withMembers (u0 : Int64) (r2 : Nat) : Ct mX8_withMembers rL [.long u0, .ref r2] (fX8_withMembers u0 r2) := Ct.of (z := 4) pn_X8 rfl rfl rfl (sX8_withMembers u0 r2)
def mX8_targetOf : MI := (yX8_targetOf, cX8_targetOf, 3, (some .int), { frames := 5, cells := 0, slots := 0, locals := 129 }, [])
theorem mw_X8_targetOf : MW mX8_targetOf 2 := ⟨w669, w1, ⟨by decide, by decide⟩, by decide +kernel⟩
theorem mv_X8_targetOf : MV mX8_targetOf 8 := ⟨_, rfl, w668, wp22⟩
def fX8_targetOf  (r0 : Nat) (r1 : Nat) (v2 : Int32) : AH → Option (Int32 × AH) := fun h =>
  (gP 8 r0 7 h).bind fun a_7 =>
  (ldP 3 a_7 v2 h).bind fun a_8 =>
  cv 3 a_8 (fX3_errorOf a_8 r1) h fun x_9 h =>
  (gP 8 r0 7 h).bind fun a_10 =>
  (ldP 3 a_10 v2 h).bind fun a_11 =>
  (gI 3 a_11 1 h).bind fun x_12 =>
  some (x_12, h)
theorem sX8_targetOf  (r0 : Nat) (r1 : Nat) (v2 : Int32) : Sm mX8_targetOf rI 0 0 0 [some (.ref r0), some (.ref r1), some (.int v2)] [] (fX8_targetOf r0 r1 v2) := by
  unfold fX8_targetOf
  refine S_aload_n (pc := 0) dX8_targetOf_0 rfl ?_
  refine S_gP (pc := 1) fl_X8_49 rfl dX8_targetOf_1 (fun a_7 => ?_)
  refine S_iload_n (pc := 4) dX8_targetOf_4 rfl ?_
  refine S_ldP (pc := 5) (c := 3) (by decide) dX8_targetOf_5 (fun a_8 => ?_)
  refine S_aload_n (pc := 6) dX8_targetOf_6 rfl ?_
  refine Y_Vi (pc := 7) (st := []) (kc' := 0) (ks' := 0) (ktX3_errorOf a_8 r1) mw_X3_errorOf mv_X3_errorOf w626 (RO.mk rfl rfl rfl rfl) rfl rfl rfl dX8_targetOf_7 ⟨rfl, rfl⟩ (fun x_9 => ?_)
  refine S_pop (pc := 10) rfl dX8_targetOf_10 ?_
  refine S_aload_n (pc := 11) dX8_targetOf_11 rfl ?_
  refine S_gP (pc := 12) fl_X8_49 rfl dX8_targetOf_12 (fun a_10 => ?_)
  refine S_iload_n (pc := 15) dX8_targetOf_15 rfl ?_
  refine S_ldP (pc := 16) (c := 3) (by decide) dX8_targetOf_16 (fun a_11 => ?_)
  refine S_gI (pc := 17) fl_X8_435 rfl dX8_targetOf_17 (fun x_12 => ?_)
  exact S_iret (pc := 20) ⟨rfl, rfl⟩ rfl rfl dX8_targetOf_20
theorem ktX8_targetOf (r0 : Nat) (r1 : Nat) (v2 : Int32) : Ct mX8_targetOf rI [.ref r0, .ref r1, .int v2] (fX8_targetOf r0 r1 v2) := Ct.of (z := 0) pn_X8 rfl rfl rfl (sX8_targetOf r0 r1 v2)
def mX8_verdictOf : MI := (yX8_verdictOf, cX8_verdictOf, 3, (some .int), { frames := 5, cells := 0, slots := 0, locals := 129 }, [])
theorem mw_X8_verdictOf : MW mX8_verdictOf 1 := ⟨w673, w1, ⟨by decide, by decide⟩, by decide +kernel⟩
theorem mv_X8_verdictOf : MV mX8_verdictOf 8 := ⟨_, rfl, w672, wp23⟩
def fX8_verdictOf  (r0 : Nat) (r1 : Nat) : AH → Option (Int32 × AH) := fun h =>
  (gP 8 r0 7 h).bind fun a_21 =>
  (ldP 3 a_21 (nI 1) h).bind fun a_22 =>
  cv 3 a_22 (fX3_errorOf a_22 r1) h fun x_23 h =>
  if x_23 = 0 then (
    (gP 8 r0 6 h).bind fun a_24 =>
    (ldP 1 a_24 (nI 1) h).bind fun a_25 =>
    cv 1 a_25 (fX1_errorOf a_25 r1) h fun x_26 h =>
    if x_26 = 0 then (
      (gP 8 r0 6 h).bind fun a_27 =>
      (ldP 1 a_27 (nI 1) h).bind fun a_28 =>
      (gP 1 a_28 1 h).bind fun a_29 =>
      (gP 0 r1 8 h).bind fun a_30 =>
      cv 7 a_29 (fX7_isSameAs a_29 a_30) h fun x_31 h =>
      if x_31 = 0 then (
        some ((nI 4), h))
      else
      (gP 8 r0 7 h).bind fun a_32 =>
      (ldP 3 a_32 (nI 0) h).bind fun a_33 =>
      cv 3 a_33 (fX3_errorOf a_33 r1) h fun x_34 h =>
      if x_34 = 0 then (
        (gP 8 r0 7 h).bind fun a_35 =>
        (ldP 3 a_35 (nI 0) h).bind fun a_36 =>
        (gI 3 a_36 1 h).bind fun x_37 =>
        (gP 8 r0 7 h).bind fun a_38 =>
        (ldP 3 a_38 (nI 1) h).bind fun a_39 =>
        (gI 3 a_39 1 h).bind fun x_40 =>
        if x_37 = x_40 then (
          some ((nI 0), h))
        else
        some ((nI 5), h))
      else
      some ((nI 5), h))
    else
    some ((nI 3), h))
  else
  if x_23 = (nI 6) then (
    some ((nI 2), h))
  else
  some ((nI 1), h)
theorem sX8_verdictOf  (r0 : Nat) (r1 : Nat) : Sm mX8_verdictOf rI 0 0 0 [some (.ref r0), some (.ref r1), none] [] (fX8_verdictOf r0 r1) := by
  unfold fX8_verdictOf
  refine S_aload_n (pc := 0) dX8_verdictOf_0 rfl ?_
  refine S_gP (pc := 1) fl_X8_49 rfl dX8_verdictOf_1 (fun a_21 => ?_)
  refine S_iconst (pc := 4) (v := (nI 1)) dX8_verdictOf_4 kI_1 ?_
  refine S_ldP (pc := 5) (c := 3) (by decide) dX8_verdictOf_5 (fun a_22 => ?_)
  refine S_aload_n (pc := 6) dX8_verdictOf_6 rfl ?_
  refine Y_Vi (pc := 7) (st := []) (kc' := 0) (ks' := 0) (ktX3_errorOf a_22 r1) mw_X3_errorOf mv_X3_errorOf w626 (RO.mk rfl rfl rfl rfl) rfl rfl rfl dX8_verdictOf_7 ⟨rfl, rfl⟩ (fun x_23 => ?_)
  refine Z_istore_n (pc := 10) (lv' := [some (.ref r0), some (.ref r1), some (.int x_23)]) dX8_verdictOf_10 rfl rfl rfl ?_
  refine S_iload_n (pc := 11) dX8_verdictOf_11 rfl ?_
  refine S_ifeq (pc := 12) (tgt := 27) dX8_verdictOf_12 (by decide) ?_ ?_
  · refine S_aload_n (pc := 27) dX8_verdictOf_27 rfl ?_
    refine S_gP (pc := 28) fl_X8_43 rfl dX8_verdictOf_28 (fun a_24 => ?_)
    refine S_iconst (pc := 31) (v := (nI 1)) dX8_verdictOf_31 kI_1 ?_
    refine S_ldP (pc := 32) (c := 1) (by decide) dX8_verdictOf_32 (fun a_25 => ?_)
    refine S_aload_n (pc := 33) dX8_verdictOf_33 rfl ?_
    refine Y_Vi (pc := 34) (st := []) (kc' := 0) (ks' := 0) (ktX1_errorOf a_25 r1) mw_X1_errorOf mv_X1_errorOf w442 (RO.mk rfl rfl rfl rfl) rfl rfl rfl dX8_verdictOf_34 ⟨rfl, rfl⟩ (fun x_26 => ?_)
    refine S_ifeq (pc := 37) (tgt := 42) dX8_verdictOf_37 (by decide) ?_ ?_
    · refine S_aload_n (pc := 42) dX8_verdictOf_42 rfl ?_
      refine S_gP (pc := 43) fl_X8_43 rfl dX8_verdictOf_43 (fun a_27 => ?_)
      refine S_iconst (pc := 46) (v := (nI 1)) dX8_verdictOf_46 kI_1 ?_
      refine S_ldP (pc := 47) (c := 1) (by decide) dX8_verdictOf_47 (fun a_28 => ?_)
      refine S_gP (pc := 48) fl_X8_429 rfl dX8_verdictOf_48 (fun a_29 => ?_)
      refine S_aload_n (pc := 51) dX8_verdictOf_51 rfl ?_
      refine S_gP (pc := 52) fl_X8_425 rfl dX8_verdictOf_52 (fun a_30 => ?_)
      refine Y_Vi (pc := 55) (st := []) (kc' := 0) (ks' := 0) (ktX7_isSameAs a_29 a_30) mw_X7_isSameAs mv_X7_isSameAs w674 (RO.mk rfl rfl rfl rfl) rfl rfl rfl dX8_verdictOf_55 ⟨rfl, rfl⟩ (fun x_31 => ?_)
      refine S_ifne (pc := 58) (tgt := 63) dX8_verdictOf_58 (by decide) ?_ ?_
      · refine S_aload_n (pc := 63) dX8_verdictOf_63 rfl ?_
        refine S_gP (pc := 64) fl_X8_49 rfl dX8_verdictOf_64 (fun a_32 => ?_)
        refine S_iconst (pc := 67) (v := (nI 0)) dX8_verdictOf_67 kI_0 ?_
        refine S_ldP (pc := 68) (c := 3) (by decide) dX8_verdictOf_68 (fun a_33 => ?_)
        refine S_aload_n (pc := 69) dX8_verdictOf_69 rfl ?_
        refine Y_Vi (pc := 70) (st := []) (kc' := 0) (ks' := 0) (ktX3_errorOf a_33 r1) mw_X3_errorOf mv_X3_errorOf w626 (RO.mk rfl rfl rfl rfl) rfl rfl rfl dX8_verdictOf_70 ⟨rfl, rfl⟩ (fun x_34 => ?_)
        refine S_ifne (pc := 73) (tgt := 97) dX8_verdictOf_73 (by decide) ?_ ?_
        · refine S_iconst (pc := 97) (v := (nI 5)) dX8_verdictOf_97 kI_5 ?_
          exact S_iret (pc := 98) ⟨rfl, rfl⟩ rfl rfl dX8_verdictOf_98
        · refine S_aload_n (pc := 76) dX8_verdictOf_76 rfl ?_
          refine S_gP (pc := 77) fl_X8_49 rfl dX8_verdictOf_77 (fun a_35 => ?_)
          refine S_iconst (pc := 80) (v := (nI 0)) dX8_verdictOf_80 kI_0 ?_
          refine S_ldP (pc := 81) (c := 3) (by decide) dX8_verdictOf_81 (fun a_36 => ?_)
          refine S_gI (pc := 82) fl_X8_435 rfl dX8_verdictOf_82 (fun x_37 => ?_)
          refine S_aload_n (pc := 85) dX8_verdictOf_85 rfl ?_
          refine S_gP (pc := 86) fl_X8_49 rfl dX8_verdictOf_86 (fun a_38 => ?_)
          refine S_iconst (pc := 89) (v := (nI 1)) dX8_verdictOf_89 kI_1 ?_
          refine S_ldP (pc := 90) (c := 3) (by decide) dX8_verdictOf_90 (fun a_39 => ?_)
          refine S_gI (pc := 91) fl_X8_435 rfl dX8_verdictOf_91 (fun x_40 => ?_)
          refine S_icmpeq (pc := 94) (tgt := 99) dX8_verdictOf_94 (by decide) ?_ ?_
          · refine S_iconst (pc := 99) (v := (nI 0)) dX8_verdictOf_99 kI_0 ?_
            exact S_iret (pc := 100) ⟨rfl, rfl⟩ rfl rfl dX8_verdictOf_100
          · refine S_iconst (pc := 97) (v := (nI 5)) dX8_verdictOf_97 kI_5 ?_
            exact S_iret (pc := 98) ⟨rfl, rfl⟩ rfl rfl dX8_verdictOf_98
      · refine S_iconst (pc := 61) (v := (nI 4)) dX8_verdictOf_61 kI_4 ?_
        exact S_iret (pc := 62) ⟨rfl, rfl⟩ rfl rfl dX8_verdictOf_62
    · refine S_iconst (pc := 40) (v := (nI 3)) dX8_verdictOf_40 kI_3 ?_
      exact S_iret (pc := 41) ⟨rfl, rfl⟩ rfl rfl dX8_verdictOf_41
  · refine S_iload_n (pc := 15) dX8_verdictOf_15 rfl ?_
    refine S_bipush (pc := 16) (v := (nI 6)) dX8_verdictOf_16 kB_6 ?_
    refine S_icmpne (pc := 18) (tgt := 25) dX8_verdictOf_18 (by decide) ?_ ?_
    · refine S_iconst (pc := 25) (v := (nI 1)) dX8_verdictOf_25 kI_1 ?_
      exact S_iret (pc := 26) ⟨rfl, rfl⟩ rfl rfl dX8_verdictOf_26
    · refine S_iconst (pc := 21) (v := (nI 2)) dX8_verdictOf_21 kI_2 ?_
      refine S_goto (pc := 22) (tgt := 26) dX8_verdictOf_22 (by decide) ?_
      exact S_iret (pc := 26) ⟨rfl, rfl⟩ rfl rfl dX8_verdictOf_26
theorem ktX8_verdictOf (r0 : Nat) (r1 : Nat) : Ct mX8_verdictOf rI [.ref r0, .ref r1] (fX8_verdictOf r0 r1) := Ct.of (z := 1) pn_X8 rfl rfl rfl (sX8_verdictOf r0 r1)
def mX8_withClient : MI := (yX8_withClient, cX8_withClient, 7, (some .long), { frames := 6, cells := 0, slots := 0, locals := 151 }, [])
theorem mw_X8_withClient : MW mX8_withClient 2 := ⟨w621, w1, ⟨by decide, by decide⟩, by decide +kernel⟩
theorem mv_X8_withClient : MV mX8_withClient 8 := ⟨_, rfl, w620, wp16⟩
def bX8_withClient_6  (k6 : Nat → Nat → Int64 → Int32 → AH → Option (Int64 × AH)) (r0 : Nat) (r3 : Nat) (u4 : Int64) (v6 : Int32) : AH → Option (Int64 × AH) := fun h =>
  if (nI 9) < v6 then (
    (gP 8 r0 6 h).bind fun a_49 =>
    (ldP 1 a_49 (nI 0) h).bind fun a_50 =>
    cv 1 a_50 (fX1_errorOf a_50 r3) h fun x_51 h =>
    bd (fX8_withNumber u4 x_51 h) fun y_52 h =>
    (gP 8 r0 6 h).bind fun a_53 =>
    (ldP 1 a_53 (nI 1) h).bind fun a_54 =>
    cv 1 a_54 (fX1_errorOf a_54 r3) h fun x_55 h =>
    bd (fX8_withNumber y_52 x_55 h) fun y_56 h =>
    (gP 8 r0 7 h).bind fun a_57 =>
    (ldP 3 a_57 (nI 0) h).bind fun a_58 =>
    cv 3 a_58 (fX3_errorOf a_58 r3) h fun x_59 h =>
    bd (fX8_withNumber y_56 x_59 h) fun y_60 h =>
    (gP 8 r0 7 h).bind fun a_61 =>
    (ldP 3 a_61 (nI 1) h).bind fun a_62 =>
    cv 3 a_62 (fX3_errorOf a_62 r3) h fun x_63 h =>
    bd (fX8_withNumber y_60 x_63 h) fun y_64 h =>
    cv 8 r0 (fX8_targetOf r0 r3 (nI 0)) h fun x_65 h =>
    bd (fX8_withNumber y_64 x_65 h) fun y_66 h =>
    cv 8 r0 (fX8_targetOf r0 r3 (nI 1)) h fun x_67 h =>
    bd (fX8_withNumber y_66 x_67 h) fun y_68 h =>
    cv 8 r0 (fX8_verdictOf r0 r3) h fun x_69 h =>
    bd (fX8_withNumber y_68 x_69 h) fun y_70 h =>
    some (y_70, h))
  else
  cv 0 r3 (fX0_valueOf r3 v6) h fun x_71 h =>
  bd (fX8_withNumber u4 x_71 h) fun y_72 h =>
  k6 r0 r3 y_72 (v6 + (nI 1)) h
def lX8_withClient_6  : Nat → Nat → Nat → Int64 → Int32 → AH → Option (Int64 × AH)
  | 0 => fun _ _ _ _ _ => none
  | n + 1 => bX8_withClient_6 (lX8_withClient_6 n)
def fX8_withClient  (r0 : Nat) (u1 : Int64) (r3 : Nat) : AH → Option (Int64 × AH) := fun h =>
  lX8_withClient_6 fuel r0 r3 u1 (nI 0) h
theorem sbX8_withClient_6  {k6 : Nat → Nat → Int64 → Int32 → AH → Option (Int64 × AH)} (h6 : ∀ (r0 : Nat) (r3 : Nat) (u4 : Int64) (v6 : Int32), Sm mX8_withClient rL 0 0 6 [some (.ref r0), none, none, some (.ref r3), some (.long u4), none, some (.int v6)] [] (k6 r0 r3 u4 v6)) (r0 : Nat) (r3 : Nat) (u4 : Int64) (v6 : Int32) : Sm mX8_withClient rL 0 0 6 [some (.ref r0), none, none, some (.ref r3), some (.long u4), none, some (.int v6)] [] (bX8_withClient_6 k6 r0 r3 u4 v6) := by
  unfold bX8_withClient_6
  refine S_iload (pc := 6) dX8_withClient_6 rfl ?_
  refine S_bipush (pc := 8) (v := (nI 9)) dX8_withClient_8 kB_9 ?_
  refine S_icmpgt (pc := 10) (tgt := 32) dX8_withClient_10 (by decide) ?_ ?_
  · refine S_lload (pc := 32) dX8_withClient_32 rfl ?_
    refine S_aload_n (pc := 34) dX8_withClient_34 rfl ?_
    refine S_gP (pc := 35) fl_X8_43 rfl dX8_withClient_35 (fun a_49 => ?_)
    refine S_iconst (pc := 38) (v := (nI 0)) dX8_withClient_38 kI_0 ?_
    refine S_ldP (pc := 39) (c := 1) (by decide) dX8_withClient_39 (fun a_50 => ?_)
    refine S_aload_n (pc := 40) dX8_withClient_40 rfl ?_
    refine Y_Vi (pc := 41) (st := [.long u4]) (kc' := 0) (ks' := 0) (ktX1_errorOf a_50 r3) mw_X1_errorOf mv_X1_errorOf w442 (RO.mk rfl rfl rfl rfl) rfl rfl rfl dX8_withClient_41 ⟨rfl, rfl⟩ (fun x_51 => ?_)
    refine Y_Tl (pc := 44) (st := []) (kc' := 0) (ks' := 0) (ktX8_withNumber u4 x_51) mw_X8_withNumber w608 w607 (RO.mk rfl rfl rfl rfl) rfl rfl rfl dX8_withClient_44 ⟨rfl, rfl⟩ (fun y_52 => ?_)
    refine Z_lstore (pc := 47) (lv' := [some (.ref r0), none, none, some (.ref r3), some (.long y_52), none, some (.int v6)]) dX8_withClient_47 rfl rfl rfl ?_
    refine S_lload (pc := 49) dX8_withClient_49 rfl ?_
    refine S_aload_n (pc := 51) dX8_withClient_51 rfl ?_
    refine S_gP (pc := 52) fl_X8_43 rfl dX8_withClient_52 (fun a_53 => ?_)
    refine S_iconst (pc := 55) (v := (nI 1)) dX8_withClient_55 kI_1 ?_
    refine S_ldP (pc := 56) (c := 1) (by decide) dX8_withClient_56 (fun a_54 => ?_)
    refine S_aload_n (pc := 57) dX8_withClient_57 rfl ?_
    refine Y_Vi (pc := 58) (st := [.long y_52]) (kc' := 0) (ks' := 0) (ktX1_errorOf a_54 r3) mw_X1_errorOf mv_X1_errorOf w442 (RO.mk rfl rfl rfl rfl) rfl rfl rfl dX8_withClient_58 ⟨rfl, rfl⟩ (fun x_55 => ?_)
    refine Y_Tl (pc := 61) (st := []) (kc' := 0) (ks' := 0) (ktX8_withNumber y_52 x_55) mw_X8_withNumber w608 w607 (RO.mk rfl rfl rfl rfl) rfl rfl rfl dX8_withClient_61 ⟨rfl, rfl⟩ (fun y_56 => ?_)
    refine Z_lstore (pc := 64) (lv' := [some (.ref r0), none, none, some (.ref r3), some (.long y_56), none, some (.int v6)]) dX8_withClient_64 rfl rfl rfl ?_
    refine S_lload (pc := 66) dX8_withClient_66 rfl ?_
    refine S_aload_n (pc := 68) dX8_withClient_68 rfl ?_
    refine S_gP (pc := 69) fl_X8_49 rfl dX8_withClient_69 (fun a_57 => ?_)
    refine S_iconst (pc := 72) (v := (nI 0)) dX8_withClient_72 kI_0 ?_
    refine S_ldP (pc := 73) (c := 3) (by decide) dX8_withClient_73 (fun a_58 => ?_)
    refine S_aload_n (pc := 74) dX8_withClient_74 rfl ?_
    refine Y_Vi (pc := 75) (st := [.long y_56]) (kc' := 0) (ks' := 0) (ktX3_errorOf a_58 r3) mw_X3_errorOf mv_X3_errorOf w626 (RO.mk rfl rfl rfl rfl) rfl rfl rfl dX8_withClient_75 ⟨rfl, rfl⟩ (fun x_59 => ?_)
    refine Y_Tl (pc := 78) (st := []) (kc' := 0) (ks' := 0) (ktX8_withNumber y_56 x_59) mw_X8_withNumber w608 w607 (RO.mk rfl rfl rfl rfl) rfl rfl rfl dX8_withClient_78 ⟨rfl, rfl⟩ (fun y_60 => ?_)
    refine Z_lstore (pc := 81) (lv' := [some (.ref r0), none, none, some (.ref r3), some (.long y_60), none, some (.int v6)]) dX8_withClient_81 rfl rfl rfl ?_
    refine S_lload (pc := 83) dX8_withClient_83 rfl ?_
    refine S_aload_n (pc := 85) dX8_withClient_85 rfl ?_
    refine S_gP (pc := 86) fl_X8_49 rfl dX8_withClient_86 (fun a_61 => ?_)
    refine S_iconst (pc := 89) (v := (nI 1)) dX8_withClient_89 kI_1 ?_
    refine S_ldP (pc := 90) (c := 3) (by decide) dX8_withClient_90 (fun a_62 => ?_)
    refine S_aload_n (pc := 91) dX8_withClient_91 rfl ?_
    refine Y_Vi (pc := 92) (st := [.long y_60]) (kc' := 0) (ks' := 0) (ktX3_errorOf a_62 r3) mw_X3_errorOf mv_X3_errorOf w626 (RO.mk rfl rfl rfl rfl) rfl rfl rfl dX8_withClient_92 ⟨rfl, rfl⟩ (fun x_63 => ?_)
    refine Y_Tl (pc := 95) (st := []) (kc' := 0) (ks' := 0) (ktX8_withNumber y_60 x_63) mw_X8_withNumber w608 w607 (RO.mk rfl rfl rfl rfl) rfl rfl rfl dX8_withClient_95 ⟨rfl, rfl⟩ (fun y_64 => ?_)
    refine Z_lstore (pc := 98) (lv' := [some (.ref r0), none, none, some (.ref r3), some (.long y_64), none, some (.int v6)]) dX8_withClient_98 rfl rfl rfl ?_
    refine S_lload (pc := 100) dX8_withClient_100 rfl ?_
    refine S_aload_n (pc := 102) dX8_withClient_102 rfl ?_
    refine S_aload_n (pc := 103) dX8_withClient_103 rfl ?_
    refine S_iconst (pc := 104) (v := (nI 0)) dX8_withClient_104 kI_0 ?_
    refine Y_Vi (pc := 105) (st := [.long y_64]) (kc' := 0) (ks' := 0) (ktX8_targetOf r0 r3 (nI 0)) mw_X8_targetOf mv_X8_targetOf w666 (RO.mk rfl rfl rfl rfl) rfl rfl rfl dX8_withClient_105 ⟨rfl, rfl⟩ (fun x_65 => ?_)
    refine Y_Tl (pc := 108) (st := []) (kc' := 0) (ks' := 0) (ktX8_withNumber y_64 x_65) mw_X8_withNumber w608 w607 (RO.mk rfl rfl rfl rfl) rfl rfl rfl dX8_withClient_108 ⟨rfl, rfl⟩ (fun y_66 => ?_)
    refine Z_lstore (pc := 111) (lv' := [some (.ref r0), none, none, some (.ref r3), some (.long y_66), none, some (.int v6)]) dX8_withClient_111 rfl rfl rfl ?_
    refine S_lload (pc := 113) dX8_withClient_113 rfl ?_
    refine S_aload_n (pc := 115) dX8_withClient_115 rfl ?_
    refine S_aload_n (pc := 116) dX8_withClient_116 rfl ?_
    refine S_iconst (pc := 117) (v := (nI 1)) dX8_withClient_117 kI_1 ?_
    refine Y_Vi (pc := 118) (st := [.long y_66]) (kc' := 0) (ks' := 0) (ktX8_targetOf r0 r3 (nI 1)) mw_X8_targetOf mv_X8_targetOf w666 (RO.mk rfl rfl rfl rfl) rfl rfl rfl dX8_withClient_118 ⟨rfl, rfl⟩ (fun x_67 => ?_)
    refine Y_Tl (pc := 121) (st := []) (kc' := 0) (ks' := 0) (ktX8_withNumber y_66 x_67) mw_X8_withNumber w608 w607 (RO.mk rfl rfl rfl rfl) rfl rfl rfl dX8_withClient_121 ⟨rfl, rfl⟩ (fun y_68 => ?_)
    refine Z_lstore (pc := 124) (lv' := [some (.ref r0), none, none, some (.ref r3), some (.long y_68), none, some (.int v6)]) dX8_withClient_124 rfl rfl rfl ?_
    refine S_lload (pc := 126) dX8_withClient_126 rfl ?_
    refine S_aload_n (pc := 128) dX8_withClient_128 rfl ?_
    refine S_aload_n (pc := 129) dX8_withClient_129 rfl ?_
    refine Y_Vi (pc := 130) (st := [.long y_68]) (kc' := 0) (ks' := 0) (ktX8_verdictOf r0 r3) mw_X8_verdictOf mv_X8_verdictOf w670 (RO.mk rfl rfl rfl rfl) rfl rfl rfl dX8_withClient_130 ⟨rfl, rfl⟩ (fun x_69 => ?_)
    refine Y_Tl (pc := 133) (st := []) (kc' := 0) (ks' := 0) (ktX8_withNumber y_68 x_69) mw_X8_withNumber w608 w607 (RO.mk rfl rfl rfl rfl) rfl rfl rfl dX8_withClient_133 ⟨rfl, rfl⟩ (fun y_70 => ?_)
    exact S_lret (pc := 136) ⟨rfl, rfl⟩ rfl rfl dX8_withClient_136
  · refine S_lload (pc := 13) dX8_withClient_13 rfl ?_
    refine S_aload_n (pc := 15) dX8_withClient_15 rfl ?_
    refine S_iload (pc := 16) dX8_withClient_16 rfl ?_
    refine Y_Vi (pc := 18) (st := [.long u4]) (kc' := 0) (ks' := 0) (ktX0_valueOf r3 v6) mw_X0_valueOf mv_X0_valueOf w622 (RO.mk rfl rfl rfl rfl) rfl rfl rfl dX8_withClient_18 ⟨rfl, rfl⟩ (fun x_71 => ?_)
    refine Y_Tl (pc := 21) (st := []) (kc' := 0) (ks' := 0) (ktX8_withNumber u4 x_71) mw_X8_withNumber w608 w607 (RO.mk rfl rfl rfl rfl) rfl rfl rfl dX8_withClient_21 ⟨rfl, rfl⟩ (fun y_72 => ?_)
    refine Z_lstore (pc := 24) (lv' := [some (.ref r0), none, none, some (.ref r3), some (.long y_72), none, some (.int v6)]) dX8_withClient_24 rfl rfl rfl ?_
    refine Z_iinc (pc := 26) (v := (nI 1)) (lv' := [some (.ref r0), none, none, some (.ref r3), some (.long y_72), none, some (.int (v6 + (nI 1)))]) dX8_withClient_26 rfl kI_1 rfl rfl rfl ?_
    refine S_goto (pc := 29) (tgt := 6) dX8_withClient_29 (by decide) ?_
    exact (h6 r0 r3 y_72 (v6 + (nI 1)))
theorem sX8_withClient_6  : ∀ (n : Nat) (r0 : Nat) (r3 : Nat) (u4 : Int64) (v6 : Int32), Sm mX8_withClient rL 0 0 6 [some (.ref r0), none, none, some (.ref r3), some (.long u4), none, some (.int v6)] [] (lX8_withClient_6 n r0 r3 u4 v6)
  | 0, _, _, _, _ => S_none
  | n + 1, r0, r3, u4, v6 => sbX8_withClient_6 (sX8_withClient_6 n) r0 r3 u4 v6
theorem sX8_withClient  (r0 : Nat) (u1 : Int64) (r3 : Nat) : Sm mX8_withClient rL 0 0 0 [some (.ref r0), some (.long u1), none, some (.ref r3), none, none, none] [] (fX8_withClient r0 u1 r3) := by
  unfold fX8_withClient
  refine S_lload_n (pc := 0) dX8_withClient_0 rfl ?_
  refine Z_lstore (pc := 1) (lv' := [some (.ref r0), some (.long u1), none, some (.ref r3), some (.long u1), none, none]) dX8_withClient_1 rfl rfl rfl ?_
  refine S_iconst (pc := 3) (v := (nI 0)) dX8_withClient_3 kI_0 ?_
  refine Z_istore (pc := 4) (lv' := [some (.ref r0), some (.long u1), none, some (.ref r3), some (.long u1), none, some (.int (nI 0))]) dX8_withClient_4 rfl rfl rfl ?_
  exact (S_lv (lv0 := [some (.ref r0), none, none, some (.ref r3), some (.long u1), none, some (.int (nI 0))]) (And.intro rfl (And.intro rfl (And.intro rfl (And.intro rfl trivial)))) (sX8_withClient_6 fuel r0 r3 u1 (nI 0)))
theorem ktX8_withClient (r0 : Nat) (u1 : Int64) (r3 : Nat) : Ct mX8_withClient rL [.ref r0, .long u1, .ref r3] (fX8_withClient r0 u1 r3) := Ct.of (z := 3) pn_X8 rfl rfl rfl (sX8_withClient r0 u1 r3)
def mX8_checksum : MI := (yX8_checksum, cX8_checksum, 4, (some .long), { frames := 7, cells := 0, slots := 0, locals := 177 }, [])
theorem mw_X8_checksum : MW mX8_checksum 0 := ⟨w592, w1, ⟨by decide, by decide⟩, by decide +kernel⟩
theorem mv_X8_checksum : MV mX8_checksum 8 := ⟨_, rfl, w590, w591⟩
def bX8_checksum_62  (k62 : Nat → Int64 → Int32 → AH → Option (Int64 × AH)) (r0 : Nat) (u1 : Int64) (v3 : Int32) : AH → Option (Int64 × AH) := fun h =>
  (gP 8 r0 0 h).bind fun a_53 =>
  (gI 6 a_53 2 h).bind fun x_54 =>
  if x_54 ≤ v3 then (
    (gP 8 r0 4 h).bind fun a_55 =>
    (gI 5 a_55 0 h).bind fun x_56 =>
    bd (fX8_withNumber u1 x_56 h) fun y_57 h =>
    (gP 8 r0 4 h).bind fun a_58 =>
    (gI 5 a_58 1 h).bind fun x_59 =>
    bd (fX8_withNumber y_57 x_59 h) fun y_60 h =>
    (gI 8 r0 3 h).bind fun x_61 =>
    bd (fX8_withNumber y_60 x_61 h) fun y_62 h =>
    some (y_62, h))
  else
  (gP 8 r0 0 h).bind fun a_63 =>
  (gP 6 a_63 1 h).bind fun a_64 =>
  (ldP 0 a_64 v3 h).bind fun a_65 =>
  cv 8 r0 (fX8_withClient r0 u1 a_65) h fun y_66 h =>
  k62 r0 y_66 (v3 + (nI 1)) h
def lX8_checksum_62  : Nat → Nat → Int64 → Int32 → AH → Option (Int64 × AH)
  | 0 => fun _ _ _ _ => none
  | n + 1 => bX8_checksum_62 (lX8_checksum_62 n)
def bX8_checksum_6  (k6 : Nat → Int64 → Int32 → AH → Option (Int64 × AH)) (r0 : Nat) (u1 : Int64) (v3 : Int32) : AH → Option (Int64 × AH) := fun h =>
  if (nI 2) ≤ v3 then (
    (gP 8 r0 0 h).bind fun a_67 =>
    (gI 6 a_67 2 h).bind fun x_68 =>
    bd (fX8_withNumber u1 x_68 h) fun y_69 h =>
    lX8_checksum_62 fuel r0 y_69 (nI 0) h)
  else
  (gP 8 r0 0 h).bind fun a_70 =>
  (gP 6 a_70 0 h).bind fun a_71 =>
  (ldP 2 a_71 v3 h).bind fun a_72 =>
  bd (fX8_withClasses u1 a_72 h) fun y_73 h =>
  (gP 8 r0 0 h).bind fun a_74 =>
  (gP 6 a_74 0 h).bind fun a_75 =>
  (ldP 2 a_75 v3 h).bind fun a_76 =>
  (gP 2 a_76 10 h).bind fun a_77 =>
  bd (fX8_withMembers y_73 a_77 h) fun y_78 h =>
  k6 r0 y_78 (v3 + (nI 1)) h
def lX8_checksum_6  : Nat → Nat → Int64 → Int32 → AH → Option (Int64 × AH)
  | 0 => fun _ _ _ _ => none
  | n + 1 => bX8_checksum_6 (lX8_checksum_6 n)
def fX8_checksum  (r0 : Nat) : AH → Option (Int64 × AH) := fun h =>
  lX8_checksum_6 fuel r0 (17317 : Int64) (nI 0) h
theorem sbX8_checksum_62  {k62 : Nat → Int64 → Int32 → AH → Option (Int64 × AH)} (h62 : ∀ (r0 : Nat) (u1 : Int64) (v3 : Int32), Sm mX8_checksum rL 0 0 62 [some (.ref r0), some (.long u1), none, some (.int v3)] [] (k62 r0 u1 v3)) (r0 : Nat) (u1 : Int64) (v3 : Int32) : Sm mX8_checksum rL 0 0 62 [some (.ref r0), some (.long u1), none, some (.int v3)] [] (bX8_checksum_62 k62 r0 u1 v3) := by
  unfold bX8_checksum_62
  refine S_iload_n (pc := 62) dX8_checksum_62 rfl ?_
  refine S_aload_n (pc := 63) dX8_checksum_63 rfl ?_
  refine S_gP (pc := 64) fl_X8_10 rfl dX8_checksum_64 (fun a_53 => ?_)
  refine S_gI (pc := 67) fl_X8_349 rfl dX8_checksum_67 (fun x_54 => ?_)
  refine S_icmpge (pc := 70) (tgt := 94) dX8_checksum_70 (by decide) ?_ ?_
  · refine S_lload_n (pc := 94) dX8_checksum_94 rfl ?_
    refine S_aload_n (pc := 95) dX8_checksum_95 rfl ?_
    refine S_gP (pc := 96) fl_X8_30 rfl dX8_checksum_96 (fun a_55 => ?_)
    refine S_gI (pc := 99) fl_X8_309 rfl dX8_checksum_99 (fun x_56 => ?_)
    refine Y_Tl (pc := 102) (st := []) (kc' := 0) (ks' := 0) (ktX8_withNumber u1 x_56) mw_X8_withNumber w608 w607 (RO.mk rfl rfl rfl rfl) rfl rfl rfl dX8_checksum_102 ⟨rfl, rfl⟩ (fun y_57 => ?_)
    refine Z_lstore_n (pc := 105) (lv' := [some (.ref r0), some (.long y_57), none, some (.int v3)]) dX8_checksum_105 rfl rfl rfl ?_
    refine S_lload_n (pc := 106) dX8_checksum_106 rfl ?_
    refine S_aload_n (pc := 107) dX8_checksum_107 rfl ?_
    refine S_gP (pc := 108) fl_X8_30 rfl dX8_checksum_108 (fun a_58 => ?_)
    refine S_gI (pc := 111) fl_X8_213 rfl dX8_checksum_111 (fun x_59 => ?_)
    refine Y_Tl (pc := 114) (st := []) (kc' := 0) (ks' := 0) (ktX8_withNumber y_57 x_59) mw_X8_withNumber w608 w607 (RO.mk rfl rfl rfl rfl) rfl rfl rfl dX8_checksum_114 ⟨rfl, rfl⟩ (fun y_60 => ?_)
    refine Z_lstore_n (pc := 117) (lv' := [some (.ref r0), some (.long y_60), none, some (.int v3)]) dX8_checksum_117 rfl rfl rfl ?_
    refine S_lload_n (pc := 118) dX8_checksum_118 rfl ?_
    refine S_aload_n (pc := 119) dX8_checksum_119 rfl ?_
    refine S_gI (pc := 120) fl_X8_24 rfl dX8_checksum_120 (fun x_61 => ?_)
    refine Y_Tl (pc := 123) (st := []) (kc' := 0) (ks' := 0) (ktX8_withNumber y_60 x_61) mw_X8_withNumber w608 w607 (RO.mk rfl rfl rfl rfl) rfl rfl rfl dX8_checksum_123 ⟨rfl, rfl⟩ (fun y_62 => ?_)
    exact S_lret (pc := 126) ⟨rfl, rfl⟩ rfl rfl dX8_checksum_126
  · refine S_aload_n (pc := 73) dX8_checksum_73 rfl ?_
    refine S_lload_n (pc := 74) dX8_checksum_74 rfl ?_
    refine S_aload_n (pc := 75) dX8_checksum_75 rfl ?_
    refine S_gP (pc := 76) fl_X8_10 rfl dX8_checksum_76 (fun a_63 => ?_)
    refine S_gP (pc := 79) fl_X8_394 rfl dX8_checksum_79 (fun a_64 => ?_)
    refine S_iload_n (pc := 82) dX8_checksum_82 rfl ?_
    refine S_ldP (pc := 83) (c := 0) (by decide) dX8_checksum_83 (fun a_65 => ?_)
    refine Y_Vl (pc := 84) (st := []) (kc' := 0) (ks' := 0) (ktX8_withClient r0 u1 a_65) mw_X8_withClient mv_X8_withClient w618 (RO.mk rfl rfl rfl rfl) rfl rfl rfl dX8_checksum_84 ⟨rfl, rfl⟩ (fun y_66 => ?_)
    refine Z_lstore_n (pc := 87) (lv' := [some (.ref r0), some (.long y_66), none, some (.int v3)]) dX8_checksum_87 rfl rfl rfl ?_
    refine Z_iinc (pc := 88) (v := (nI 1)) (lv' := [some (.ref r0), some (.long y_66), none, some (.int (v3 + (nI 1)))]) dX8_checksum_88 rfl kI_1 rfl rfl rfl ?_
    refine S_goto (pc := 91) (tgt := 62) dX8_checksum_91 (by decide) ?_
    exact (h62 r0 y_66 (v3 + (nI 1)))
theorem sX8_checksum_62  : ∀ (n : Nat) (r0 : Nat) (u1 : Int64) (v3 : Int32), Sm mX8_checksum rL 0 0 62 [some (.ref r0), some (.long u1), none, some (.int v3)] [] (lX8_checksum_62 n r0 u1 v3)
  | 0, _, _, _ => S_none
  | n + 1, r0, u1, v3 => sbX8_checksum_62 (sX8_checksum_62 n) r0 u1 v3
theorem sbX8_checksum_6  {k6 : Nat → Int64 → Int32 → AH → Option (Int64 × AH)} (h6 : ∀ (r0 : Nat) (u1 : Int64) (v3 : Int32), Sm mX8_checksum rL 0 0 6 [some (.ref r0), some (.long u1), none, some (.int v3)] [] (k6 r0 u1 v3)) (r0 : Nat) (u1 : Int64) (v3 : Int32) : Sm mX8_checksum rL 0 0 6 [some (.ref r0), some (.long u1), none, some (.int v3)] [] (bX8_checksum_6 k6 r0 u1 v3) := by
  unfold bX8_checksum_6
  refine S_iload_n (pc := 6) dX8_checksum_6 rfl ?_
  refine S_iconst (pc := 7) (v := (nI 2)) dX8_checksum_7 kI_2 ?_
  refine S_icmpge (pc := 8) (tgt := 48) dX8_checksum_8 (by decide) ?_ ?_
  · refine S_lload_n (pc := 48) dX8_checksum_48 rfl ?_
    refine S_aload_n (pc := 49) dX8_checksum_49 rfl ?_
    refine S_gP (pc := 50) fl_X8_10 rfl dX8_checksum_50 (fun a_67 => ?_)
    refine S_gI (pc := 53) fl_X8_349 rfl dX8_checksum_53 (fun x_68 => ?_)
    refine Y_Tl (pc := 56) (st := []) (kc' := 0) (ks' := 0) (ktX8_withNumber u1 x_68) mw_X8_withNumber w608 w607 (RO.mk rfl rfl rfl rfl) rfl rfl rfl dX8_checksum_56 ⟨rfl, rfl⟩ (fun y_69 => ?_)
    refine Z_lstore_n (pc := 59) (lv' := [some (.ref r0), some (.long y_69), none, some (.int v3)]) dX8_checksum_59 rfl rfl rfl ?_
    refine S_iconst (pc := 60) (v := (nI 0)) dX8_checksum_60 kI_0 ?_
    refine Z_istore_n (pc := 61) (lv' := [some (.ref r0), some (.long y_69), none, some (.int (nI 0))]) dX8_checksum_61 rfl rfl rfl ?_
    exact (sX8_checksum_62 fuel r0 y_69 (nI 0))
  · refine S_lload_n (pc := 11) dX8_checksum_11 rfl ?_
    refine S_aload_n (pc := 12) dX8_checksum_12 rfl ?_
    refine S_gP (pc := 13) fl_X8_10 rfl dX8_checksum_13 (fun a_70 => ?_)
    refine S_gP (pc := 16) fl_X8_53 rfl dX8_checksum_16 (fun a_71 => ?_)
    refine S_iload_n (pc := 19) dX8_checksum_19 rfl ?_
    refine S_ldP (pc := 20) (c := 2) (by decide) dX8_checksum_20 (fun a_72 => ?_)
    refine Y_Tl (pc := 21) (st := []) (kc' := 0) (ks' := 0) (ktX8_withClasses u1 a_72) mw_X8_withClasses w595 w594 (RO.mk rfl rfl rfl rfl) rfl rfl rfl dX8_checksum_21 ⟨rfl, rfl⟩ (fun y_73 => ?_)
    refine Z_lstore_n (pc := 24) (lv' := [some (.ref r0), some (.long y_73), none, some (.int v3)]) dX8_checksum_24 rfl rfl rfl ?_
    refine S_lload_n (pc := 25) dX8_checksum_25 rfl ?_
    refine S_aload_n (pc := 26) dX8_checksum_26 rfl ?_
    refine S_gP (pc := 27) fl_X8_10 rfl dX8_checksum_27 (fun a_74 => ?_)
    refine S_gP (pc := 30) fl_X8_53 rfl dX8_checksum_30 (fun a_75 => ?_)
    refine S_iload_n (pc := 33) dX8_checksum_33 rfl ?_
    refine S_ldP (pc := 34) (c := 2) (by decide) dX8_checksum_34 (fun a_76 => ?_)
    refine S_gP (pc := 35) fl_X8_64 rfl dX8_checksum_35 (fun a_77 => ?_)
    refine Y_Tl (pc := 38) (st := []) (kc' := 0) (ks' := 0) (ktX8_withMembers y_73 a_77) mw_X8_withMembers w612 w611 (RO.mk rfl rfl rfl rfl) rfl rfl rfl dX8_checksum_38 ⟨rfl, rfl⟩ (fun y_78 => ?_)
    refine Z_lstore_n (pc := 41) (lv' := [some (.ref r0), some (.long y_78), none, some (.int v3)]) dX8_checksum_41 rfl rfl rfl ?_
    refine Z_iinc (pc := 42) (v := (nI 1)) (lv' := [some (.ref r0), some (.long y_78), none, some (.int (v3 + (nI 1)))]) dX8_checksum_42 rfl kI_1 rfl rfl rfl ?_
    refine S_goto (pc := 45) (tgt := 6) dX8_checksum_45 (by decide) ?_
    exact (h6 r0 y_78 (v3 + (nI 1)))
theorem sX8_checksum_6  : ∀ (n : Nat) (r0 : Nat) (u1 : Int64) (v3 : Int32), Sm mX8_checksum rL 0 0 6 [some (.ref r0), some (.long u1), none, some (.int v3)] [] (lX8_checksum_6 n r0 u1 v3)
  | 0, _, _, _ => S_none
  | n + 1, r0, u1, v3 => sbX8_checksum_6 (sX8_checksum_6 n) r0 u1 v3
theorem sX8_checksum  (r0 : Nat) : Sm mX8_checksum rL 0 0 0 [some (.ref r0), none, none, none] [] (fX8_checksum r0) := by
  unfold fX8_checksum
  refine S_ldc2 (pc := 0) (v := (17317 : Int64)) w593 dX8_checksum_0 ?_
  refine Z_lstore_n (pc := 3) (lv' := [some (.ref r0), some (.long (17317 : Int64)), none, none]) dX8_checksum_3 rfl rfl rfl ?_
  refine S_iconst (pc := 4) (v := (nI 0)) dX8_checksum_4 kI_0 ?_
  refine Z_istore_n (pc := 5) (lv' := [some (.ref r0), some (.long (17317 : Int64)), none, some (.int (nI 0))]) dX8_checksum_5 rfl rfl rfl ?_
  exact (sX8_checksum_6 fuel r0 (17317 : Int64) (nI 0))
theorem ktX8_checksum (r0 : Nat) : Ct mX8_checksum rL [.ref r0] (fX8_checksum r0) := Ct.of (z := 3) pn_X8 rfl rfl rfl (sX8_checksum r0)
def mX8_requireInfo : MI := (yX8_requireInfo, cX8_requireInfo, 1, none, { frames := 6, cells := 1, slots := 6, locals := 90 }, [])
theorem mw_X8_requireInfo : MW mX8_requireInfo 1 := ⟨w881, w1, ⟨by decide, by decide⟩, by decide +kernel⟩
def fX8_requireInfo  (v0 : Int32) : AH → Option ((Nat ⊕ Unit) × AH) := fun h =>
  if v0 < 0 then (
    some ((Sum.inl 2 : (Nat ⊕ Unit)), thr h))
  else
  if v0 ≤ (nI 9) then (
    some ((Sum.inr () : (Nat ⊕ Unit)), h))
  else
  some ((Sum.inl 2 : (Nat ⊕ Unit)), thr h)
theorem sX8_requireInfo  (v0 : Int32) : Sm mX8_requireInfo xV 0 0 0 [some (.int v0)] [] (fX8_requireInfo v0) := by
  unfold fX8_requireInfo
  refine S_iload_n (pc := 0) dX8_requireInfo_0 rfl ?_
  refine S_iflt (pc := 1) (tgt := 10) dX8_requireInfo_1 (by decide) ?_ ?_
  · exact S_thrW (pc := 10) (k := 2) rfl exA2 w769 w16 st_14 rfl ⟨rfl, rfl, rfl, rfl⟩ rfl dX8_requireInfo_10 dX8_requireInfo_13 dX8_requireInfo_14 dX8_requireInfo_17 dX8_requireInfo_20
  · refine S_iload_n (pc := 4) dX8_requireInfo_4 rfl ?_
    refine S_bipush (pc := 5) (v := (nI 9)) dX8_requireInfo_5 kB_9 ?_
    refine S_icmple (pc := 7) (tgt := 21) dX8_requireInfo_7 (by decide) ?_ ?_
    · exact S_vret (pc := 21) ⟨rfl, rfl⟩ rfl rfl dX8_requireInfo_21
    · exact S_thrW (pc := 10) (k := 2) rfl exA2 w769 w16 st_14 rfl ⟨rfl, rfl, rfl, rfl⟩ rfl dX8_requireInfo_10 dX8_requireInfo_13 dX8_requireInfo_14 dX8_requireInfo_17 dX8_requireInfo_20
theorem ktX8_requireInfo (v0 : Int32) : Ct mX8_requireInfo xV [.int v0] (fX8_requireInfo v0) := Ct.of (z := 0) pn_X8 rfl rfl rfl (sX8_requireInfo v0)
def mX8_classInfo : MI := (yX8_classInfo, cX8_classInfo, 5, (some .int), { frames := 9, cells := 3, slots := 18, locals := 154 }, [])
theorem mw_X8_classInfo : MW mX8_classInfo 3 := ⟨w878, w1, ⟨by decide, by decide⟩, by decide +kernel⟩
theorem mv_X8_classInfo : MV mX8_classInfo 8 := ⟨_, rfl, w876, w877⟩
def fX8_classInfo  (r0 : Nat) (v1 : Int32) (v2 : Int32) (v3 : Int32) : AH → Option ((Nat ⊕ Int32) × AH) := fun h =>
  cv 8 r0 (fX8_libraryWith r0 v1 v2) h <| xp fun a_3 h =>
  bd (fX8_requireInfo v3 h) <| xp fun _ h =>
  cv 2 a_3 (fX2_valueOf a_3 v2 v3) h fun x_4 h =>
  some ((Sum.inr x_4 : (Nat ⊕ Int32)), h)
theorem sX8_classInfo  (r0 : Nat) (v1 : Int32) (v2 : Int32) (v3 : Int32) : Sm mX8_classInfo xI 0 0 0 [some (.ref r0), some (.int v1), some (.int v2), some (.int v3), none] [] (fX8_classInfo r0 v1 v2 v3) := by
  unfold fX8_classInfo
  refine S_aload_n (pc := 0) dX8_classInfo_0 rfl ?_
  refine S_iload_n (pc := 1) dX8_classInfo_1 rfl ?_
  refine S_iload_n (pc := 2) dX8_classInfo_2 rfl ?_
  refine YX_Va (pc := 3) (st := []) (kc' := 2) (ks' := 12) (fun _ => rfl) rfl (ktX8_libraryWith r0 v1 v2) mw_X8_libraryWith mv_X8_libraryWith w819 (RO.mk rfl rfl rfl rfl) rfl rfl rfl dX8_classInfo_3 ⟨rfl, rfl⟩ (fun a_3 => ?_)
  refine Z_astore (pc := 6) (lv' := [some (.ref r0), some (.int v1), some (.int v2), some (.int v3), some (.ref a_3)]) dX8_classInfo_6 rfl rfl rfl ?_
  refine S_iload_n (pc := 8) dX8_classInfo_8 rfl ?_
  refine YX_Tv (pc := 9) (st := []) (kc' := 3) (ks' := 18) (fun _ => rfl) rfl (ktX8_requireInfo v3) mw_X8_requireInfo w880 w879 (RO.mk rfl rfl rfl rfl) rfl rfl rfl dX8_classInfo_9 ⟨rfl, rfl⟩ ?_
  refine S_aload (pc := 12) dX8_classInfo_12 rfl ?_
  refine S_iload_n (pc := 14) dX8_classInfo_14 rfl ?_
  refine S_iload_n (pc := 15) dX8_classInfo_15 rfl ?_
  refine Y_Vi (pc := 16) (st := []) (kc' := 3) (ks' := 18) (ktX2_valueOf a_3 v2 v3) mw_X2_valueOf mv_X2_valueOf w598 (RO.mk rfl rfl rfl rfl) rfl rfl rfl dX8_classInfo_16 ⟨rfl, rfl⟩ (fun x_4 => ?_)
  exact S_iret (pc := 19) ⟨rfl, rfl⟩ rfl rfl dX8_classInfo_19
theorem ktX8_classInfo (r0 : Nat) (v1 : Int32) (v2 : Int32) (v3 : Int32) : Ct mX8_classInfo xI [.ref r0, .int v1, .int v2, .int v3] (fX8_classInfo r0 v1 v2 v3) := Ct.of (z := 1) pn_X8 rfl rfl rfl (sX8_classInfo r0 v1 v2 v3)
def mX8_requireClient : MI := (yX8_requireClient, cX8_requireClient, 2, none, { frames := 6, cells := 1, slots := 6, locals := 90 }, [])
theorem mw_X8_requireClient : MW mX8_requireClient 1 := ⟨w1074, w1, ⟨by decide, by decide⟩, by decide +kernel⟩
theorem mv_X8_requireClient : MV mX8_requireClient 8 := ⟨_, rfl, w1073, wp30⟩
def fX8_requireClient  (r0 : Nat) (v1 : Int32) : AH → Option ((Nat ⊕ Unit) × AH) := fun h =>
  if v1 < 0 then (
    some ((Sum.inl 1 : (Nat ⊕ Unit)), thr h))
  else
  (gP 8 r0 0 h).bind fun a_3 =>
  (gI 6 a_3 2 h).bind fun x_4 =>
  if v1 < x_4 then (
    some ((Sum.inr () : (Nat ⊕ Unit)), h))
  else
  some ((Sum.inl 1 : (Nat ⊕ Unit)), thr h)
theorem sX8_requireClient  (r0 : Nat) (v1 : Int32) : Sm mX8_requireClient xV 0 0 0 [some (.ref r0), some (.int v1)] [] (fX8_requireClient r0 v1) := by
  unfold fX8_requireClient
  refine S_iload_n (pc := 0) dX8_requireClient_0 rfl ?_
  refine S_iflt (pc := 1) (tgt := 15) dX8_requireClient_1 (by decide) ?_ ?_
  · exact S_thrW (pc := 15) (k := 1) rfl exA1 w695 w15 st_30 rfl ⟨rfl, rfl, rfl, rfl⟩ rfl dX8_requireClient_15 dX8_requireClient_18 dX8_requireClient_19 dX8_requireClient_22 dX8_requireClient_25
  · refine S_iload_n (pc := 4) dX8_requireClient_4 rfl ?_
    refine S_aload_n (pc := 5) dX8_requireClient_5 rfl ?_
    refine S_gP (pc := 6) fl_X8_10 rfl dX8_requireClient_6 (fun a_3 => ?_)
    refine S_gI (pc := 9) fl_X8_349 rfl dX8_requireClient_9 (fun x_4 => ?_)
    refine S_icmplt (pc := 12) (tgt := 26) dX8_requireClient_12 (by decide) ?_ ?_
    · exact S_vret (pc := 26) ⟨rfl, rfl⟩ rfl rfl dX8_requireClient_26
    · exact S_thrW (pc := 15) (k := 1) rfl exA1 w695 w15 st_30 rfl ⟨rfl, rfl, rfl, rfl⟩ rfl dX8_requireClient_15 dX8_requireClient_18 dX8_requireClient_19 dX8_requireClient_22 dX8_requireClient_25
theorem ktX8_requireClient (r0 : Nat) (v1 : Int32) : Ct mX8_requireClient xV [.ref r0, .int v1] (fX8_requireClient r0 v1) := Ct.of (z := 0) pn_X8 rfl rfl rfl (sX8_requireClient r0 v1)
def mX8_clientAt : MI := (yX8_clientAt, cX8_clientAt, 2, (some (.object "CompatibilityJudge$Client")), { frames := 7, cells := 1, slots := 6, locals := 111 }, [])
theorem mw_X8_clientAt : MW mX8_clientAt 1 := ⟨w1070, w1, ⟨by decide, by decide⟩, by decide +kernel⟩
theorem mv_X8_clientAt : MV mX8_clientAt 8 := ⟨_, rfl, w1069, wp29⟩
def fX8_clientAt  (r0 : Nat) (v1 : Int32) : AH → Option ((Nat ⊕ Nat) × AH) := fun h =>
  cv 8 r0 (fX8_requireClient r0 v1) h <| xp fun _ h =>
  (gP 8 r0 0 h).bind fun a_4 =>
  (gP 6 a_4 1 h).bind fun a_5 =>
  (ldP 0 a_5 v1 h).bind fun a_6 =>
  some ((Sum.inr a_6 : (Nat ⊕ Nat)), h)
theorem sX8_clientAt  (r0 : Nat) (v1 : Int32) : Sm mX8_clientAt xA 0 0 0 [some (.ref r0), some (.int v1)] [] (fX8_clientAt r0 v1) := by
  unfold fX8_clientAt
  refine S_aload_n (pc := 0) dX8_clientAt_0 rfl ?_
  refine S_iload_n (pc := 1) dX8_clientAt_1 rfl ?_
  refine YX_Vv (pc := 2) (st := []) (kc' := 1) (ks' := 6) (fun _ => rfl) rfl (ktX8_requireClient r0 v1) mw_X8_requireClient mv_X8_requireClient w1071 (RO.mk rfl rfl rfl rfl) rfl rfl rfl dX8_clientAt_2 ⟨rfl, rfl⟩ ?_
  refine S_aload_n (pc := 5) dX8_clientAt_5 rfl ?_
  refine S_gP (pc := 6) fl_X8_10 rfl dX8_clientAt_6 (fun a_4 => ?_)
  refine S_gP (pc := 9) fl_X8_394 rfl dX8_clientAt_9 (fun a_5 => ?_)
  refine S_iload_n (pc := 12) dX8_clientAt_12 rfl ?_
  refine S_ldP (pc := 13) (c := 0) (by decide) dX8_clientAt_13 (fun a_6 => ?_)
  exact S_aret (pc := 14) ⟨rfl, rfl⟩ rfl rfl dX8_clientAt_14
theorem ktX8_clientAt (r0 : Nat) (v1 : Int32) : Ct mX8_clientAt xA [.ref r0, .int v1] (fX8_clientAt r0 v1) := Ct.of (z := 0) pn_X8 rfl rfl rfl (sX8_clientAt r0 v1)
def mX8_clientInfo : MI := (yX8_clientInfo, cX8_clientInfo, 4, (some .int), { frames := 8, cells := 2, slots := 12, locals := 132 }, [])
theorem mw_X8_clientInfo : MW mX8_clientInfo 2 := ⟨w1097, w1, ⟨by decide, by decide⟩, by decide +kernel⟩
theorem mv_X8_clientInfo : MV mX8_clientInfo 8 := ⟨_, rfl, w1095, w1096⟩
def fX8_clientInfo  (r0 : Nat) (v1 : Int32) (v2 : Int32) : AH → Option ((Nat ⊕ Int32) × AH) := fun h =>
  cv 8 r0 (fX8_clientAt r0 v1) h <| xp fun a_3 h =>
  bd (fX8_requireInfo v2 h) <| xp fun _ h =>
  cv 0 a_3 (fX0_valueOf a_3 v2) h fun x_4 h =>
  some ((Sum.inr x_4 : (Nat ⊕ Int32)), h)
theorem sX8_clientInfo  (r0 : Nat) (v1 : Int32) (v2 : Int32) : Sm mX8_clientInfo xI 0 0 0 [some (.ref r0), some (.int v1), some (.int v2), none] [] (fX8_clientInfo r0 v1 v2) := by
  unfold fX8_clientInfo
  refine S_aload_n (pc := 0) dX8_clientInfo_0 rfl ?_
  refine S_iload_n (pc := 1) dX8_clientInfo_1 rfl ?_
  refine YX_Va (pc := 2) (st := []) (kc' := 1) (ks' := 6) (fun _ => rfl) rfl (ktX8_clientAt r0 v1) mw_X8_clientAt mv_X8_clientAt w1067 (RO.mk rfl rfl rfl rfl) rfl rfl rfl dX8_clientInfo_2 ⟨rfl, rfl⟩ (fun a_3 => ?_)
  refine Z_astore_n (pc := 5) (lv' := [some (.ref r0), some (.int v1), some (.int v2), some (.ref a_3)]) dX8_clientInfo_5 rfl rfl rfl ?_
  refine S_iload_n (pc := 6) dX8_clientInfo_6 rfl ?_
  refine YX_Tv (pc := 7) (st := []) (kc' := 2) (ks' := 12) (fun _ => rfl) rfl (ktX8_requireInfo v2) mw_X8_requireInfo w880 w879 (RO.mk rfl rfl rfl rfl) rfl rfl rfl dX8_clientInfo_7 ⟨rfl, rfl⟩ ?_
  refine S_aload_n (pc := 10) dX8_clientInfo_10 rfl ?_
  refine S_iload_n (pc := 11) dX8_clientInfo_11 rfl ?_
  refine Y_Vi (pc := 12) (st := []) (kc' := 2) (ks' := 12) (ktX0_valueOf a_3 v2) mw_X0_valueOf mv_X0_valueOf w622 (RO.mk rfl rfl rfl rfl) rfl rfl rfl dX8_clientInfo_12 ⟨rfl, rfl⟩ (fun x_4 => ?_)
  exact S_iret (pc := 15) ⟨rfl, rfl⟩ rfl rfl dX8_clientInfo_15
theorem ktX8_clientInfo (r0 : Nat) (v1 : Int32) (v2 : Int32) : Ct mX8_clientInfo xI [.ref r0, .int v1, .int v2] (fX8_clientInfo r0 v1 v2) := Ct.of (z := 1) pn_X8 rfl rfl rfl (sX8_clientInfo r0 v1 v2)
def mX8_clients : MI := (yX8_clients, cX8_clients, 1, (some .int), { frames := 0, cells := 0, slots := 0, locals := 0 }, [])
theorem mw_X8_clients : MW mX8_clients 0 := ⟨w588, w1, ⟨by decide, by decide⟩, by decide +kernel⟩
theorem mv_X8_clients : MV mX8_clients 8 := ⟨_, rfl, w586, w587⟩
def fX8_clients  (r0 : Nat) : AH → Option (Int32 × AH) := fun h =>
  (gP 8 r0 0 h).bind fun a_3 =>
  (gI 6 a_3 2 h).bind fun x_4 =>
  some (x_4, h)
theorem sX8_clients  (r0 : Nat) : Sm mX8_clients rI 0 0 0 [some (.ref r0)] [] (fX8_clients r0) := by
  unfold fX8_clients
  refine S_aload_n (pc := 0) dX8_clients_0 rfl ?_
  refine S_gP (pc := 1) fl_X8_10 rfl dX8_clients_1 (fun a_3 => ?_)
  refine S_gI (pc := 4) fl_X8_349 rfl dX8_clients_4 (fun x_4 => ?_)
  exact S_iret (pc := 7) ⟨rfl, rfl⟩ rfl rfl dX8_clients_7
theorem ktX8_clients (r0 : Nat) : Ct mX8_clients rI [.ref r0] (fX8_clients r0) := Ct.of (z := 0) pn_X8 rfl rfl rfl (sX8_clients r0)
def mX8_compile : MI := (yX8_compile, cX8_compile, 4, (some .int), { frames := 8, cells := 2, slots := 12, locals := 132 }, [])
theorem mw_X8_compile : MW mX8_compile 2 := ⟨w1104, w1, ⟨by decide, by decide⟩, by decide +kernel⟩
theorem mv_X8_compile : MV mX8_compile 8 := ⟨_, rfl, w1102, w1103⟩
def fX8_compile  (r0 : Nat) (v1 : Int32) (v2 : Int32) : AH → Option ((Nat ⊕ Int32) × AH) := fun h =>
  cv 8 r0 (fX8_clientAt r0 v1) h <| xp fun a_5 h =>
  bd (fX8_requireVersion v2 h) <| xp fun _ h =>
  (gP 8 r0 6 h).bind fun a_6 =>
  (ldP 1 a_6 v2 h).bind fun a_7 =>
  cv 1 a_7 (fX1_errorOf a_7 a_5) h fun x_8 h =>
  some ((Sum.inr x_8 : (Nat ⊕ Int32)), h)
theorem sX8_compile  (r0 : Nat) (v1 : Int32) (v2 : Int32) : Sm mX8_compile xI 0 0 0 [some (.ref r0), some (.int v1), some (.int v2), none] [] (fX8_compile r0 v1 v2) := by
  unfold fX8_compile
  refine S_aload_n (pc := 0) dX8_compile_0 rfl ?_
  refine S_iload_n (pc := 1) dX8_compile_1 rfl ?_
  refine YX_Va (pc := 2) (st := []) (kc' := 1) (ks' := 6) (fun _ => rfl) rfl (ktX8_clientAt r0 v1) mw_X8_clientAt mv_X8_clientAt w1067 (RO.mk rfl rfl rfl rfl) rfl rfl rfl dX8_compile_2 ⟨rfl, rfl⟩ (fun a_5 => ?_)
  refine Z_astore_n (pc := 5) (lv' := [some (.ref r0), some (.int v1), some (.int v2), some (.ref a_5)]) dX8_compile_5 rfl rfl rfl ?_
  refine S_iload_n (pc := 6) dX8_compile_6 rfl ?_
  refine YX_Tv (pc := 7) (st := []) (kc' := 2) (ks' := 12) (fun _ => rfl) rfl (ktX8_requireVersion v2) mw_X8_requireVersion w693 w692 (RO.mk rfl rfl rfl rfl) rfl rfl rfl dX8_compile_7 ⟨rfl, rfl⟩ ?_
  refine S_aload_n (pc := 10) dX8_compile_10 rfl ?_
  refine S_gP (pc := 11) fl_X8_43 rfl dX8_compile_11 (fun a_6 => ?_)
  refine S_iload_n (pc := 14) dX8_compile_14 rfl ?_
  refine S_ldP (pc := 15) (c := 1) (by decide) dX8_compile_15 (fun a_7 => ?_)
  refine S_aload_n (pc := 16) dX8_compile_16 rfl ?_
  refine Y_Vi (pc := 17) (st := []) (kc' := 2) (ks' := 12) (ktX1_errorOf a_7 a_5) mw_X1_errorOf mv_X1_errorOf w442 (RO.mk rfl rfl rfl rfl) rfl rfl rfl dX8_compile_17 ⟨rfl, rfl⟩ (fun x_8 => ?_)
  exact S_iret (pc := 20) ⟨rfl, rfl⟩ rfl rfl dX8_compile_20
theorem ktX8_compile (r0 : Nat) (v1 : Int32) (v2 : Int32) : Ct mX8_compile xI [.ref r0, .int v1, .int v2] (fX8_compile r0 v1 v2) := Ct.of (z := 1) pn_X8 rfl rfl rfl (sX8_compile r0 v1 v2)
def mX8_copyVersion : MI := (yX8_copyVersion, cX8_copyVersion, 1, (some .int), { frames := 5, cells := 0, slots := 0, locals := 111 }, [])
theorem mw_X8_copyVersion : MW mX8_copyVersion 0 := ⟨w575, w1, ⟨by decide, by decide⟩, by decide +kernel⟩
theorem mv_X8_copyVersion : MV mX8_copyVersion 8 := ⟨_, rfl, w573, w574⟩
def fX8_copyVersion  (r0 : Nat) : AH → Option (Int32 × AH) := fun h =>
  cv 8 r0 (fX8_saveState r0) h fun _ h =>
  (gP 8 r0 0 h).bind fun a_12 =>
  (gP 6 a_12 0 h).bind fun a_13 =>
  (ldP 2 a_13 (nI 1) h).bind fun a_14 =>
  (gP 8 r0 0 h).bind fun a_15 =>
  (gP 6 a_15 0 h).bind fun a_16 =>
  (ldP 2 a_16 (nI 0) h).bind fun a_17 =>
  cv 2 a_14 (fX2_copyFrom a_14 a_17) h fun _ h =>
  (gP 8 r0 0 h).bind fun a_18 =>
  (gP 6 a_18 0 h).bind fun a_19 =>
  (ldP 2 a_19 (nI 1) h).bind fun a_20 =>
  (gP 2 a_20 10 h).bind fun a_21 =>
  (gI 4 a_21 0 h).bind fun x_22 =>
  some (x_22, h)
theorem sX8_copyVersion  (r0 : Nat) : Sm mX8_copyVersion rI 0 0 0 [some (.ref r0)] [] (fX8_copyVersion r0) := by
  unfold fX8_copyVersion
  refine S_aload_n (pc := 0) dX8_copyVersion_0 rfl ?_
  refine Y_Vv (pc := 1) (st := []) (kc' := 0) (ks' := 0) (ktX8_saveState r0) mw_X8_saveState mv_X8_saveState w576 (RO.mk rfl rfl rfl rfl) rfl rfl rfl dX8_copyVersion_1 ⟨rfl, rfl⟩ ?_
  refine S_aload_n (pc := 4) dX8_copyVersion_4 rfl ?_
  refine S_gP (pc := 5) fl_X8_10 rfl dX8_copyVersion_5 (fun a_12 => ?_)
  refine S_gP (pc := 8) fl_X8_53 rfl dX8_copyVersion_8 (fun a_13 => ?_)
  refine S_iconst (pc := 11) (v := (nI 1)) dX8_copyVersion_11 kI_1 ?_
  refine S_ldP (pc := 12) (c := 2) (by decide) dX8_copyVersion_12 (fun a_14 => ?_)
  refine S_aload_n (pc := 13) dX8_copyVersion_13 rfl ?_
  refine S_gP (pc := 14) fl_X8_10 rfl dX8_copyVersion_14 (fun a_15 => ?_)
  refine S_gP (pc := 17) fl_X8_53 rfl dX8_copyVersion_17 (fun a_16 => ?_)
  refine S_iconst (pc := 20) (v := (nI 0)) dX8_copyVersion_20 kI_0 ?_
  refine S_ldP (pc := 21) (c := 2) (by decide) dX8_copyVersion_21 (fun a_17 => ?_)
  refine Y_Vv (pc := 22) (st := []) (kc' := 0) (ks' := 0) (ktX2_copyFrom a_14 a_17) mw_X2_copyFrom mv_X2_copyFrom w414 (RO.mk rfl rfl rfl rfl) rfl rfl rfl dX8_copyVersion_22 ⟨rfl, rfl⟩ ?_
  refine S_aload_n (pc := 25) dX8_copyVersion_25 rfl ?_
  refine S_gP (pc := 26) fl_X8_10 rfl dX8_copyVersion_26 (fun a_18 => ?_)
  refine S_gP (pc := 29) fl_X8_53 rfl dX8_copyVersion_29 (fun a_19 => ?_)
  refine S_iconst (pc := 32) (v := (nI 1)) dX8_copyVersion_32 kI_1 ?_
  refine S_ldP (pc := 33) (c := 2) (by decide) dX8_copyVersion_33 (fun a_20 => ?_)
  refine S_gP (pc := 34) fl_X8_64 rfl dX8_copyVersion_34 (fun a_21 => ?_)
  refine S_gI (pc := 37) fl_X8_203 rfl dX8_copyVersion_37 (fun x_22 => ?_)
  exact S_iret (pc := 40) ⟨rfl, rfl⟩ rfl rfl dX8_copyVersion_40
theorem ktX8_copyVersion (r0 : Nat) : Ct mX8_copyVersion rI [.ref r0] (fX8_copyVersion r0) := Ct.of (z := 0) pn_X8 rfl rfl rfl (sX8_copyVersion r0)
def mX8_count : MI := (yX8_count, cX8_count, 4, (some .int), { frames := 6, cells := 1, slots := 6, locals := 151 }, [])
theorem mw_X8_count : MW mX8_count 1 := ⟨w1132, w1, ⟨by decide, by decide⟩, by decide +kernel⟩
theorem mv_X8_count : MV mX8_count 8 := ⟨_, rfl, w1130, w1131⟩
def fX8_count_55 (k24 : Nat → Int32 → Int32 → Int32 → AH → Option ((Nat ⊕ Int32) × AH)) (r0 : Nat) (v1 : Int32) (v2 : Int32) (v3 : Int32) : AH → Option ((Nat ⊕ Int32) × AH) := fun h =>
  k24 r0 v1 v2 (v3 + (nI 1)) h
def bX8_count_24  (k24 : Nat → Int32 → Int32 → Int32 → AH → Option ((Nat ⊕ Int32) × AH)) (r0 : Nat) (v1 : Int32) (v2 : Int32) (v3 : Int32) : AH → Option ((Nat ⊕ Int32) × AH) := fun h =>
  (gP 8 r0 0 h).bind fun a_13 =>
  (gI 6 a_13 2 h).bind fun x_14 =>
  if x_14 ≤ v3 then (
    some ((Sum.inr v2 : (Nat ⊕ Int32)), h))
  else
  (gP 8 r0 0 h).bind fun a_15 =>
  (gP 6 a_15 1 h).bind fun a_16 =>
  (ldP 0 a_16 v3 h).bind fun a_17 =>
  cv 8 r0 (fX8_verdictOf r0 a_17) h fun x_18 h =>
  if x_18 = v1 then (
    fX8_count_55 k24 r0 v1 (v2 + (nI 1)) v3 h)
  else
  fX8_count_55 k24 r0 v1 v2 v3 h
def lX8_count_24  : Nat → Nat → Int32 → Int32 → Int32 → AH → Option ((Nat ⊕ Int32) × AH)
  | 0 => fun _ _ _ _ _ => none
  | n + 1 => bX8_count_24 (lX8_count_24 n)
def fX8_count  (r0 : Nat) (v1 : Int32) : AH → Option ((Nat ⊕ Int32) × AH) := fun h =>
  if v1 < 0 then (
    some ((Sum.inl 2 : (Nat ⊕ Int32)), thr h))
  else
  if v1 ≤ (nI 5) then (
    lX8_count_24 fuel r0 v1 (nI 0) (nI 0) h)
  else
  some ((Sum.inl 2 : (Nat ⊕ Int32)), thr h)
theorem sX8_count_55 {k24 : Nat → Int32 → Int32 → Int32 → AH → Option ((Nat ⊕ Int32) × AH)} (h24 : ∀ (r0 : Nat) (v1 : Int32) (v2 : Int32) (v3 : Int32), Sm mX8_count xI 0 0 24 [some (.ref r0), some (.int v1), some (.int v2), some (.int v3)] [] (k24 r0 v1 v2 v3)) (r0 : Nat) (v1 : Int32) (v2 : Int32) (v3 : Int32) : Sm mX8_count xI 0 0 55 [some (.ref r0), some (.int v1), some (.int v2), some (.int v3)] [] (fX8_count_55 k24 r0 v1 v2 v3) := by
  unfold fX8_count_55
  refine Z_iinc (pc := 55) (v := (nI 1)) (lv' := [some (.ref r0), some (.int v1), some (.int v2), some (.int (v3 + (nI 1)))]) dX8_count_55 rfl kI_1 rfl rfl rfl ?_
  refine S_goto (pc := 58) (tgt := 24) dX8_count_58 (by decide) ?_
  exact (h24 r0 v1 v2 (v3 + (nI 1)))
theorem sbX8_count_24  {k24 : Nat → Int32 → Int32 → Int32 → AH → Option ((Nat ⊕ Int32) × AH)} (h24 : ∀ (r0 : Nat) (v1 : Int32) (v2 : Int32) (v3 : Int32), Sm mX8_count xI 0 0 24 [some (.ref r0), some (.int v1), some (.int v2), some (.int v3)] [] (k24 r0 v1 v2 v3)) (r0 : Nat) (v1 : Int32) (v2 : Int32) (v3 : Int32) : Sm mX8_count xI 0 0 24 [some (.ref r0), some (.int v1), some (.int v2), some (.int v3)] [] (bX8_count_24 k24 r0 v1 v2 v3) := by
  unfold bX8_count_24
  refine S_iload_n (pc := 24) dX8_count_24 rfl ?_
  refine S_aload_n (pc := 25) dX8_count_25 rfl ?_
  refine S_gP (pc := 26) fl_X8_10 rfl dX8_count_26 (fun a_13 => ?_)
  refine S_gI (pc := 29) fl_X8_349 rfl dX8_count_29 (fun x_14 => ?_)
  refine S_icmpge (pc := 32) (tgt := 61) dX8_count_32 (by decide) ?_ ?_
  · refine S_iload_n (pc := 61) dX8_count_61 rfl ?_
    exact S_iret (pc := 62) ⟨rfl, rfl⟩ rfl rfl dX8_count_62
  · refine S_aload_n (pc := 35) dX8_count_35 rfl ?_
    refine S_aload_n (pc := 36) dX8_count_36 rfl ?_
    refine S_gP (pc := 37) fl_X8_10 rfl dX8_count_37 (fun a_15 => ?_)
    refine S_gP (pc := 40) fl_X8_394 rfl dX8_count_40 (fun a_16 => ?_)
    refine S_iload_n (pc := 43) dX8_count_43 rfl ?_
    refine S_ldP (pc := 44) (c := 0) (by decide) dX8_count_44 (fun a_17 => ?_)
    refine Y_Vi (pc := 45) (st := []) (kc' := 0) (ks' := 0) (ktX8_verdictOf r0 a_17) mw_X8_verdictOf mv_X8_verdictOf w670 (RO.mk rfl rfl rfl rfl) rfl rfl rfl dX8_count_45 ⟨rfl, rfl⟩ (fun x_18 => ?_)
    refine S_iload_n (pc := 48) dX8_count_48 rfl ?_
    refine S_icmpne (pc := 49) (tgt := 55) dX8_count_49 (by decide) ?_ ?_
    · exact (sX8_count_55 h24 r0 v1 v2 v3)
    · refine Z_iinc (pc := 52) (v := (nI 1)) (lv' := [some (.ref r0), some (.int v1), some (.int (v2 + (nI 1))), some (.int v3)]) dX8_count_52 rfl kI_1 rfl rfl rfl ?_
      exact (sX8_count_55 h24 r0 v1 (v2 + (nI 1)) v3)
theorem sX8_count_24  : ∀ (n : Nat) (r0 : Nat) (v1 : Int32) (v2 : Int32) (v3 : Int32), Sm mX8_count xI 0 0 24 [some (.ref r0), some (.int v1), some (.int v2), some (.int v3)] [] (lX8_count_24 n r0 v1 v2 v3)
  | 0, _, _, _, _ => S_none
  | n + 1, r0, v1, v2, v3 => sbX8_count_24 (sX8_count_24 n) r0 v1 v2 v3
theorem sX8_count  (r0 : Nat) (v1 : Int32) : Sm mX8_count xI 0 0 0 [some (.ref r0), some (.int v1), none, none] [] (fX8_count r0 v1) := by
  unfold fX8_count
  refine S_iload_n (pc := 0) dX8_count_0 rfl ?_
  refine S_iflt (pc := 1) (tgt := 9) dX8_count_1 (by decide) ?_ ?_
  · exact S_thrW (pc := 9) (k := 2) rfl exA2 w769 w16 st_33 rfl ⟨rfl, rfl, rfl, rfl⟩ rfl dX8_count_9 dX8_count_12 dX8_count_13 dX8_count_16 dX8_count_19
  · refine S_iload_n (pc := 4) dX8_count_4 rfl ?_
    refine S_iconst (pc := 5) (v := (nI 5)) dX8_count_5 kI_5 ?_
    refine S_icmple (pc := 6) (tgt := 20) dX8_count_6 (by decide) ?_ ?_
    · refine S_iconst (pc := 20) (v := (nI 0)) dX8_count_20 kI_0 ?_
      refine Z_istore_n (pc := 21) (lv' := [some (.ref r0), some (.int v1), some (.int (nI 0)), none]) dX8_count_21 rfl rfl rfl ?_
      refine S_iconst (pc := 22) (v := (nI 0)) dX8_count_22 kI_0 ?_
      refine Z_istore_n (pc := 23) (lv' := [some (.ref r0), some (.int v1), some (.int (nI 0)), some (.int (nI 0))]) dX8_count_23 rfl rfl rfl ?_
      exact (sX8_count_24 fuel r0 v1 (nI 0) (nI 0))
    · exact S_thrW (pc := 9) (k := 2) rfl exA2 w769 w16 st_33 rfl ⟨rfl, rfl, rfl, rfl⟩ rfl dX8_count_9 dX8_count_12 dX8_count_13 dX8_count_16 dX8_count_19
theorem ktX8_count (r0 : Nat) (v1 : Int32) : Ct mX8_count xI [.ref r0, .int v1] (fX8_count r0 v1) := Ct.of (z := 2) pn_X8 rfl rfl rfl (sX8_count r0 v1)
def mX8_define : MI := (yX8_define, cX8_define, 7, (some .int), { frames := 8, cells := 2, slots := 12, locals := 131 }, [])
theorem mw_X8_define : MW mX8_define 5 := ⟨w687, w1, ⟨by decide, by decide⟩, by decide +kernel⟩
theorem mv_X8_define : MV mX8_define 8 := ⟨_, rfl, w685, w686⟩
def fX8_define_111  (v5 : Int32) (r6 : Nat) (s0 : Nat) (s1 : Int32) (s2 : Int32) (s3 : Int32) : AH → Option ((Nat ⊕ Int32) × AH) := fun h =>
  cv 2 s0 (fX2_putClass s0 s1 s2 s3 v5) h fun _ h =>
  (gI 2 r6 0 h).bind fun x_13 =>
  bd (fJ6_bitCount_0f7a4 x_13 h) fun x_14 h =>
  some ((Sum.inr x_14 : (Nat ⊕ Int32)), h)
def fX8_define_53  (r0 : Nat) (v2 : Int32) (v3 : Int32) (v4 : Int32) (v5 : Int32) (r6 : Nat) : AH → Option ((Nat ⊕ Int32) × AH) := fun h =>
  cv 2 r6 (fX2_canHaveInterfaces r6 v2 v5) h fun x_15 h =>
  if x_15 = 0 then (
    some ((Sum.inl 2 : (Nat ⊕ Int32)), thr h))
  else
  cv 2 r6 (fX2_isThere r6 v2) h fun x_16 h =>
  if x_16 = 0 then (
    cv 8 r0 (fX8_saveState r0) h fun _ h =>
    if v3 = 0 then (
      fX8_define_111 v5 r6 r6 v2 v3 v4 h)
    else
    fX8_define_111 v5 r6 r6 v2 v3 (nI 0) h)
  else
  some ((Sum.inl 3 : (Nat ⊕ Int32)), thr h)
def fX8_define  (r0 : Nat) (v1 : Int32) (v2 : Int32) (v3 : Int32) (v4 : Int32) (v5 : Int32) : AH → Option ((Nat ⊕ Int32) × AH) := fun h =>
  cv 8 r0 (fX8_libraryOf r0 v1) h <| xp fun a_17 h =>
  if v2 < (nI 1) then (
    some ((Sum.inl 1 : (Nat ⊕ Int32)), thr h))
  else
  if v2 < (nI 10) then (
    if v3 = 0 then (
      cv 2 a_17 (fX2_canHaveSuperclass a_17 v2 v4) h fun x_18 h =>
      if x_18 = 0 then (
        some ((Sum.inl 2 : (Nat ⊕ Int32)), thr h))
      else
      fX8_define_53 r0 v2 v3 v4 v5 a_17 h)
    else
    fX8_define_53 r0 v2 v3 v4 v5 a_17 h)
  else
  some ((Sum.inl 1 : (Nat ⊕ Int32)), thr h)
theorem sX8_define_111  (v5 : Int32) (r6 : Nat) (s0 : Nat) (s1 : Int32) (s2 : Int32) (s3 : Int32) : Sm mX8_define xI 1 6 111 [none, none, none, none, none, some (.int v5), some (.ref r6)] [.int s3, .int s2, .int s1, .ref s0] (fX8_define_111 v5 r6 s0 s1 s2 s3) := by
  unfold fX8_define_111
  refine S_iload (pc := 111) dX8_define_111 rfl ?_
  refine Y_Vv (pc := 113) (st := []) (kc' := 1) (ks' := 6) (ktX2_putClass s0 s1 s2 s3 v5) mw_X2_putClass mv_X2_putClass w358 (RO.mk rfl rfl rfl rfl) rfl rfl rfl dX8_define_113 ⟨rfl, rfl⟩ ?_
  refine S_aload (pc := 116) dX8_define_116 rfl ?_
  refine S_gI (pc := 118) fl_X8_144 rfl dX8_define_118 (fun x_13 => ?_)
  refine Y_Ti (pc := 121) (st := []) (kc' := 1) (ks' := 6) (ktJ6_bitCount_0f7a4 x_13) mw_J6_bitCount_0f7a4 w807 w806 (RO.mk rfl rfl rfl rfl) rfl rfl rfl dX8_define_121 ⟨rfl, rfl⟩ (fun x_14 => ?_)
  exact S_iret (pc := 124) ⟨rfl, rfl⟩ rfl rfl dX8_define_124
theorem sX8_define_53  (r0 : Nat) (v2 : Int32) (v3 : Int32) (v4 : Int32) (v5 : Int32) (r6 : Nat) : Sm mX8_define xI 1 6 53 [some (.ref r0), none, some (.int v2), some (.int v3), some (.int v4), some (.int v5), some (.ref r6)] [] (fX8_define_53 r0 v2 v3 v4 v5 r6) := by
  unfold fX8_define_53
  refine S_aload (pc := 53) dX8_define_53 rfl ?_
  refine S_iload_n (pc := 55) dX8_define_55 rfl ?_
  refine S_iload (pc := 56) dX8_define_56 rfl ?_
  refine Y_Vi (pc := 58) (st := []) (kc' := 1) (ks' := 6) (ktX2_canHaveInterfaces r6 v2 v5) mw_X2_canHaveInterfaces mv_X2_canHaveInterfaces w785 (RO.mk rfl rfl rfl rfl) rfl rfl rfl dX8_define_58 ⟨rfl, rfl⟩ (fun x_15 => ?_)
  refine S_ifne (pc := 61) (tgt := 74) dX8_define_61 (by decide) ?_ ?_
  · refine S_aload (pc := 74) dX8_define_74 rfl ?_
    refine S_iload_n (pc := 76) dX8_define_76 rfl ?_
    refine Y_Vi (pc := 77) (st := []) (kc' := 1) (ks' := 6) (ktX2_isThere r6 v2) mw_X2_isThere mv_X2_isThere w597 (RO.mk rfl rfl rfl rfl) rfl rfl rfl dX8_define_77 ⟨rfl, rfl⟩ (fun x_16 => ?_)
    refine S_ifeq (pc := 80) (tgt := 93) dX8_define_80 (by decide) ?_ ?_
    · refine S_aload_n (pc := 93) dX8_define_93 rfl ?_
      refine Y_Vv (pc := 94) (st := []) (kc' := 1) (ks' := 6) (ktX8_saveState r0) mw_X8_saveState mv_X8_saveState w576 (RO.mk rfl rfl rfl rfl) rfl rfl rfl dX8_define_94 ⟨rfl, rfl⟩ ?_
      refine S_aload (pc := 97) dX8_define_97 rfl ?_
      refine S_iload_n (pc := 99) dX8_define_99 rfl ?_
      refine S_iload_n (pc := 100) dX8_define_100 rfl ?_
      refine S_iload_n (pc := 101) dX8_define_101 rfl ?_
      refine S_ifeq (pc := 102) (tgt := 109) dX8_define_102 (by decide) ?_ ?_
      · refine S_iload (pc := 109) dX8_define_109 rfl ?_
        exact (S_lv (lv0 := [none, none, none, none, none, some (.int v5), some (.ref r6)]) (And.intro rfl (And.intro rfl trivial)) (sX8_define_111 v5 r6 r6 v2 v3 v4))
      · refine S_iconst (pc := 105) (v := (nI 0)) dX8_define_105 kI_0 ?_
        refine S_goto (pc := 106) (tgt := 111) dX8_define_106 (by decide) ?_
        exact (S_lv (lv0 := [none, none, none, none, none, some (.int v5), some (.ref r6)]) (And.intro rfl (And.intro rfl trivial)) (sX8_define_111 v5 r6 r6 v2 v3 (nI 0)))
    · exact S_thr (pc := 83) (k := 3) rfl exA3 w790 w17 st_4 rfl ⟨rfl, rfl, rfl, rfl⟩ rfl dX8_define_83 dX8_define_86 dX8_define_87 dX8_define_89 dX8_define_92
  · exact S_thr (pc := 64) (k := 2) rfl exA2 w769 w16 st_3 rfl ⟨rfl, rfl, rfl, rfl⟩ rfl dX8_define_64 dX8_define_67 dX8_define_68 dX8_define_70 dX8_define_73
theorem sX8_define  (r0 : Nat) (v1 : Int32) (v2 : Int32) (v3 : Int32) (v4 : Int32) (v5 : Int32) : Sm mX8_define xI 0 0 0 [some (.ref r0), some (.int v1), some (.int v2), some (.int v3), some (.int v4), some (.int v5), none] [] (fX8_define r0 v1 v2 v3 v4 v5) := by
  unfold fX8_define
  refine S_aload_n (pc := 0) dX8_define_0 rfl ?_
  refine S_iload_n (pc := 1) dX8_define_1 rfl ?_
  refine YX_Va (pc := 2) (st := []) (kc' := 1) (ks' := 6) (fun _ => rfl) rfl (ktX8_libraryOf r0 v1) mw_X8_libraryOf mv_X8_libraryOf w688 (RO.mk rfl rfl rfl rfl) rfl rfl rfl dX8_define_2 ⟨rfl, rfl⟩ (fun a_17 => ?_)
  refine Z_astore (pc := 5) (lv' := [some (.ref r0), some (.int v1), some (.int v2), some (.int v3), some (.int v4), some (.int v5), some (.ref a_17)]) dX8_define_5 rfl rfl rfl ?_
  refine S_iload_n (pc := 7) dX8_define_7 rfl ?_
  refine S_iconst (pc := 8) (v := (nI 1)) dX8_define_8 kI_1 ?_
  refine S_icmplt (pc := 9) (tgt := 18) dX8_define_9 (by decide) ?_ ?_
  · exact S_thr (pc := 18) (k := 1) rfl exA1 w695 w15 st_1 rfl ⟨rfl, rfl, rfl, rfl⟩ rfl dX8_define_18 dX8_define_21 dX8_define_22 dX8_define_24 dX8_define_27
  · refine S_iload_n (pc := 12) dX8_define_12 rfl ?_
    refine S_bipush (pc := 13) (v := (nI 10)) dX8_define_13 kB_10 ?_
    refine S_icmplt (pc := 15) (tgt := 28) dX8_define_15 (by decide) ?_ ?_
    · refine S_iload_n (pc := 28) dX8_define_28 rfl ?_
      refine S_ifne (pc := 29) (tgt := 53) dX8_define_29 (by decide) ?_ ?_
      · exact (S_lv (lv0 := [some (.ref r0), none, some (.int v2), some (.int v3), some (.int v4), some (.int v5), some (.ref a_17)]) (And.intro rfl (And.intro rfl (And.intro rfl (And.intro rfl (And.intro rfl (And.intro rfl trivial)))))) (sX8_define_53 r0 v2 v3 v4 v5 a_17))
      · refine S_aload (pc := 32) dX8_define_32 rfl ?_
        refine S_iload_n (pc := 34) dX8_define_34 rfl ?_
        refine S_iload (pc := 35) dX8_define_35 rfl ?_
        refine Y_Vi (pc := 37) (st := []) (kc' := 1) (ks' := 6) (ktX2_canHaveSuperclass a_17 v2 v4) mw_X2_canHaveSuperclass mv_X2_canHaveSuperclass w764 (RO.mk rfl rfl rfl rfl) rfl rfl rfl dX8_define_37 ⟨rfl, rfl⟩ (fun x_18 => ?_)
        refine S_ifne (pc := 40) (tgt := 53) dX8_define_40 (by decide) ?_ ?_
        · exact (S_lv (lv0 := [some (.ref r0), none, some (.int v2), some (.int v3), some (.int v4), some (.int v5), some (.ref a_17)]) (And.intro rfl (And.intro rfl (And.intro rfl (And.intro rfl (And.intro rfl (And.intro rfl trivial)))))) (sX8_define_53 r0 v2 v3 v4 v5 a_17))
        · exact S_thr (pc := 43) (k := 2) rfl exA2 w769 w16 st_2 rfl ⟨rfl, rfl, rfl, rfl⟩ rfl dX8_define_43 dX8_define_46 dX8_define_47 dX8_define_49 dX8_define_52
    · exact S_thr (pc := 18) (k := 1) rfl exA1 w695 w15 st_1 rfl ⟨rfl, rfl, rfl, rfl⟩ rfl dX8_define_18 dX8_define_21 dX8_define_22 dX8_define_24 dX8_define_27
theorem ktX8_define (r0 : Nat) (v1 : Int32) (v2 : Int32) (v3 : Int32) (v4 : Int32) (v5 : Int32) : Ct mX8_define xI [.ref r0, .int v1, .int v2, .int v3, .int v4, .int v5] (fX8_define r0 v1 v2 v3 v4 v5) := Ct.of (z := 1) pn_X8 rfl rfl rfl (sX8_define r0 v1 v2 v3 v4 v5)
def mX8_isType : MI := (yX8_isType, cX8_isType, 1, (some .boolean), { frames := 0, cells := 0, slots := 0, locals := 0 }, [])
theorem mw_X8_isType : MW mX8_isType 1 := ⟨w893, w1, ⟨by decide, by decide⟩, by decide +kernel⟩
def fX8_isType  (v0 : Int32) : AH → Option (Int32 × AH) := fun h =>
  if v0 < (-1 : Int32) then (
    rz (nI 0) (nI 0) h)
  else
  if (nI 10) ≤ v0 then (
    rz (nI 0) (nI 0) h)
  else
  rz (nI 1) (nI 1) h
theorem sX8_isType  (v0 : Int32) : Sm mX8_isType rI 0 0 0 [some (.int v0)] [] (fX8_isType v0) := by
  unfold fX8_isType
  refine S_iload_n (pc := 0) dX8_isType_0 rfl ?_
  refine S_iconst (pc := 1) (v := (-1 : Int32)) dX8_isType_1 kI_m1 ?_
  refine S_icmplt (pc := 2) (tgt := 15) dX8_isType_2 (by decide) ?_ ?_
  · refine S_iconst (pc := 15) (v := (nI 0)) dX8_isType_15 kI_0 ?_
    exact S_zret (pc := 16) ⟨rfl, rfl⟩ rfl rfl dX8_isType_16
  · refine S_iload_n (pc := 5) dX8_isType_5 rfl ?_
    refine S_bipush (pc := 6) (v := (nI 10)) dX8_isType_6 kB_10 ?_
    refine S_icmpge (pc := 8) (tgt := 15) dX8_isType_8 (by decide) ?_ ?_
    · refine S_iconst (pc := 15) (v := (nI 0)) dX8_isType_15 kI_0 ?_
      exact S_zret (pc := 16) ⟨rfl, rfl⟩ rfl rfl dX8_isType_16
    · refine S_iconst (pc := 11) (v := (nI 1)) dX8_isType_11 kI_1 ?_
      refine S_goto (pc := 12) (tgt := 16) dX8_isType_12 (by decide) ?_
      exact S_zret (pc := 16) ⟨rfl, rfl⟩ rfl rfl dX8_isType_16
theorem ktX8_isType (v0 : Int32) : Ct mX8_isType rI [.int v0] (fX8_isType v0) := Ct.of (z := 0) pn_X8 rfl rfl rfl (sX8_isType v0)
def mX8_draft : MI := (yX8_draft, cX8_draft, 6, (some .int), { frames := 6, cells := 1, slots := 6, locals := 90 }, [])
theorem mw_X8_draft : MW mX8_draft 4 := ⟨w889, w1, ⟨by decide, by decide⟩, by decide +kernel⟩
theorem mv_X8_draft : MV mX8_draft 8 := ⟨_, rfl, w887, w888⟩
def fX8_draft_61  (r0 : Nat) (v1 : Int32) (v2 : Int32) (v3 : Int32) (v4 : Int32) : AH → Option ((Nat ⊕ Int32) × AH) := fun h =>
  (gP 8 r0 4 h).bind fun a_13 =>
  (gI 5 a_13 1 h).bind fun x_14 =>
  (gP 8 r0 4 h).bind fun a_15 =>
  cv 5 a_15 (fX5_put a_15 v1 v2 v3 v4) h fun _ h =>
  some ((Sum.inr x_14 : (Nat ⊕ Int32)), h)
def fX8_draft_38  (r0 : Nat) (v1 : Int32) (v2 : Int32) (v3 : Int32) (v4 : Int32) : AH → Option ((Nat ⊕ Int32) × AH) := fun h =>
  if v2 < (nI 2) then (
    fX8_draft_61 r0 v1 v2 v3 v4 h)
  else
  bd (fX8_isType v4 h) fun x_16 h =>
  if x_16 = 0 then (
    some ((Sum.inl 2 : (Nat ⊕ Int32)), thr h))
  else
  fX8_draft_61 r0 v1 v2 v3 v4 h
def fX8_draft  (r0 : Nat) (v1 : Int32) (v2 : Int32) (v3 : Int32) (v4 : Int32) : AH → Option ((Nat ⊕ Int32) × AH) := fun h =>
  if v2 < 0 then (
    some ((Sum.inl 2 : (Nat ⊕ Int32)), thr h))
  else
  if v2 ≤ (nI 2) then (
    bd (fX8_isType v1 h) fun x_17 h =>
    if x_17 = 0 then (
      some ((Sum.inl 2 : (Nat ⊕ Int32)), thr h))
    else
    if v2 < (nI 1) then (
      fX8_draft_38 r0 v1 v2 v3 v4 h)
    else
    bd (fX8_isType v3 h) fun x_18 h =>
    if x_18 = 0 then (
      some ((Sum.inl 2 : (Nat ⊕ Int32)), thr h))
    else
    fX8_draft_38 r0 v1 v2 v3 v4 h)
  else
  some ((Sum.inl 2 : (Nat ⊕ Int32)), thr h)
theorem sX8_draft_61  (r0 : Nat) (v1 : Int32) (v2 : Int32) (v3 : Int32) (v4 : Int32) : Sm mX8_draft xI 0 0 61 [some (.ref r0), some (.int v1), some (.int v2), some (.int v3), some (.int v4), none] [] (fX8_draft_61 r0 v1 v2 v3 v4) := by
  unfold fX8_draft_61
  refine S_aload_n (pc := 61) dX8_draft_61 rfl ?_
  refine S_gP (pc := 62) fl_X8_30 rfl dX8_draft_62 (fun a_13 => ?_)
  refine S_gI (pc := 65) fl_X8_213 rfl dX8_draft_65 (fun x_14 => ?_)
  refine Z_istore (pc := 68) (lv' := [some (.ref r0), some (.int v1), some (.int v2), some (.int v3), some (.int v4), some (.int x_14)]) dX8_draft_68 rfl rfl rfl ?_
  refine S_aload_n (pc := 70) dX8_draft_70 rfl ?_
  refine S_gP (pc := 71) fl_X8_30 rfl dX8_draft_71 (fun a_15 => ?_)
  refine S_iload_n (pc := 74) dX8_draft_74 rfl ?_
  refine S_iload_n (pc := 75) dX8_draft_75 rfl ?_
  refine S_iload_n (pc := 76) dX8_draft_76 rfl ?_
  refine S_iload (pc := 77) dX8_draft_77 rfl ?_
  refine Y_Vv (pc := 79) (st := []) (kc' := 0) (ks' := 0) (ktX5_put a_15 v1 v2 v3 v4) mw_X5_put mv_X5_put w410 (RO.mk rfl rfl rfl rfl) rfl rfl rfl dX8_draft_79 ⟨rfl, rfl⟩ ?_
  refine S_iload (pc := 82) dX8_draft_82 rfl ?_
  exact S_iret (pc := 84) ⟨rfl, rfl⟩ rfl rfl dX8_draft_84
theorem sX8_draft_38  (r0 : Nat) (v1 : Int32) (v2 : Int32) (v3 : Int32) (v4 : Int32) : Sm mX8_draft xI 0 0 38 [some (.ref r0), some (.int v1), some (.int v2), some (.int v3), some (.int v4), none] [] (fX8_draft_38 r0 v1 v2 v3 v4) := by
  unfold fX8_draft_38
  refine S_iload_n (pc := 38) dX8_draft_38 rfl ?_
  refine S_iconst (pc := 39) (v := (nI 2)) dX8_draft_39 kI_2 ?_
  refine S_icmplt (pc := 40) (tgt := 61) dX8_draft_40 (by decide) ?_ ?_
  · exact (sX8_draft_61 r0 v1 v2 v3 v4)
  · refine S_iload (pc := 43) dX8_draft_43 rfl ?_
    refine Y_Ti (pc := 45) (st := []) (kc' := 0) (ks' := 0) (ktX8_isType v4) mw_X8_isType w892 w891 (RO.mk rfl rfl rfl rfl) rfl rfl rfl dX8_draft_45 ⟨rfl, rfl⟩ (fun x_16 => ?_)
    refine S_ifne (pc := 48) (tgt := 61) dX8_draft_48 (by decide) ?_ ?_
    · exact (sX8_draft_61 r0 v1 v2 v3 v4)
    · exact S_thr (pc := 51) (k := 2) rfl exA2 w769 w16 st_16 rfl ⟨rfl, rfl, rfl, rfl⟩ rfl dX8_draft_51 dX8_draft_54 dX8_draft_55 dX8_draft_57 dX8_draft_60
theorem sX8_draft  (r0 : Nat) (v1 : Int32) (v2 : Int32) (v3 : Int32) (v4 : Int32) : Sm mX8_draft xI 0 0 0 [some (.ref r0), some (.int v1), some (.int v2), some (.int v3), some (.int v4), none] [] (fX8_draft r0 v1 v2 v3 v4) := by
  unfold fX8_draft
  refine S_iload_n (pc := 0) dX8_draft_0 rfl ?_
  refine S_iflt (pc := 1) (tgt := 9) dX8_draft_1 (by decide) ?_ ?_
  · exact S_thr (pc := 9) (k := 2) rfl exA2 w769 w16 st_15 rfl ⟨rfl, rfl, rfl, rfl⟩ rfl dX8_draft_9 dX8_draft_12 dX8_draft_13 dX8_draft_15 dX8_draft_18
  · refine S_iload_n (pc := 4) dX8_draft_4 rfl ?_
    refine S_iconst (pc := 5) (v := (nI 2)) dX8_draft_5 kI_2 ?_
    refine S_icmple (pc := 6) (tgt := 19) dX8_draft_6 (by decide) ?_ ?_
    · refine S_iload_n (pc := 19) dX8_draft_19 rfl ?_
      refine Y_Ti (pc := 20) (st := []) (kc' := 0) (ks' := 0) (ktX8_isType v1) mw_X8_isType w892 w891 (RO.mk rfl rfl rfl rfl) rfl rfl rfl dX8_draft_20 ⟨rfl, rfl⟩ (fun x_17 => ?_)
      refine S_ifeq (pc := 23) (tgt := 51) dX8_draft_23 (by decide) ?_ ?_
      · exact S_thr (pc := 51) (k := 2) rfl exA2 w769 w16 st_16 rfl ⟨rfl, rfl, rfl, rfl⟩ rfl dX8_draft_51 dX8_draft_54 dX8_draft_55 dX8_draft_57 dX8_draft_60
      · refine S_iload_n (pc := 26) dX8_draft_26 rfl ?_
        refine S_iconst (pc := 27) (v := (nI 1)) dX8_draft_27 kI_1 ?_
        refine S_icmplt (pc := 28) (tgt := 38) dX8_draft_28 (by decide) ?_ ?_
        · exact (sX8_draft_38 r0 v1 v2 v3 v4)
        · refine S_iload_n (pc := 31) dX8_draft_31 rfl ?_
          refine Y_Ti (pc := 32) (st := []) (kc' := 0) (ks' := 0) (ktX8_isType v3) mw_X8_isType w892 w891 (RO.mk rfl rfl rfl rfl) rfl rfl rfl dX8_draft_32 ⟨rfl, rfl⟩ (fun x_18 => ?_)
          refine S_ifeq (pc := 35) (tgt := 51) dX8_draft_35 (by decide) ?_ ?_
          · exact S_thr (pc := 51) (k := 2) rfl exA2 w769 w16 st_16 rfl ⟨rfl, rfl, rfl, rfl⟩ rfl dX8_draft_51 dX8_draft_54 dX8_draft_55 dX8_draft_57 dX8_draft_60
          · exact (sX8_draft_38 r0 v1 v2 v3 v4)
    · exact S_thr (pc := 9) (k := 2) rfl exA2 w769 w16 st_15 rfl ⟨rfl, rfl, rfl, rfl⟩ rfl dX8_draft_9 dX8_draft_12 dX8_draft_13 dX8_draft_15 dX8_draft_18
theorem ktX8_draft (r0 : Nat) (v1 : Int32) (v2 : Int32) (v3 : Int32) (v4 : Int32) : Ct mX8_draft xI [.ref r0, .int v1, .int v2, .int v3, .int v4] (fX8_draft r0 v1 v2 v3 v4) := Ct.of (z := 1) pn_X8 rfl rfl rfl (sX8_draft r0 v1 v2 v3 v4)
def mX8_exists : MI := (yX8_exists, cX8_exists, 4, (some .boolean), { frames := 8, cells := 2, slots := 12, locals := 131 }, [])
theorem mw_X8_exists : MW mX8_exists 2 := ⟨w870, w1, ⟨by decide, by decide⟩, by decide +kernel⟩
theorem mv_X8_exists : MV mX8_exists 8 := ⟨_, rfl, w868, w869⟩
def fX8_exists  (r0 : Nat) (v1 : Int32) (v2 : Int32) : AH → Option ((Nat ⊕ Int32) × AH) := fun h =>
  cv 8 r0 (fX8_libraryOf r0 v1) h <| xp fun a_3 h =>
  if v2 < 0 then (
    some ((Sum.inl 1 : (Nat ⊕ Int32)), thr h))
  else
  if v2 < (nI 10) then (
    cv 2 a_3 (fX2_isThere a_3 v2) h fun x_4 h =>
    rz x_4 (Sum.inr x_4 : (Nat ⊕ Int32)) h)
  else
  some ((Sum.inl 1 : (Nat ⊕ Int32)), thr h)
theorem sX8_exists  (r0 : Nat) (v1 : Int32) (v2 : Int32) : Sm mX8_exists xI 0 0 0 [some (.ref r0), some (.int v1), some (.int v2), none] [] (fX8_exists r0 v1 v2) := by
  unfold fX8_exists
  refine S_aload_n (pc := 0) dX8_exists_0 rfl ?_
  refine S_iload_n (pc := 1) dX8_exists_1 rfl ?_
  refine YX_Va (pc := 2) (st := []) (kc' := 1) (ks' := 6) (fun _ => rfl) rfl (ktX8_libraryOf r0 v1) mw_X8_libraryOf mv_X8_libraryOf w688 (RO.mk rfl rfl rfl rfl) rfl rfl rfl dX8_exists_2 ⟨rfl, rfl⟩ (fun a_3 => ?_)
  refine Z_astore_n (pc := 5) (lv' := [some (.ref r0), some (.int v1), some (.int v2), some (.ref a_3)]) dX8_exists_5 rfl rfl rfl ?_
  refine S_iload_n (pc := 6) dX8_exists_6 rfl ?_
  refine S_iflt (pc := 7) (tgt := 16) dX8_exists_7 (by decide) ?_ ?_
  · exact S_thr (pc := 16) (k := 1) rfl exA1 w695 w15 st_13 rfl ⟨rfl, rfl, rfl, rfl⟩ rfl dX8_exists_16 dX8_exists_19 dX8_exists_20 dX8_exists_22 dX8_exists_25
  · refine S_iload_n (pc := 10) dX8_exists_10 rfl ?_
    refine S_bipush (pc := 11) (v := (nI 10)) dX8_exists_11 kB_10 ?_
    refine S_icmplt (pc := 13) (tgt := 26) dX8_exists_13 (by decide) ?_ ?_
    · refine S_aload_n (pc := 26) dX8_exists_26 rfl ?_
      refine S_iload_n (pc := 27) dX8_exists_27 rfl ?_
      refine Y_Vi (pc := 28) (st := []) (kc' := 1) (ks' := 6) (ktX2_isThere a_3 v2) mw_X2_isThere mv_X2_isThere w597 (RO.mk rfl rfl rfl rfl) rfl rfl rfl dX8_exists_28 ⟨rfl, rfl⟩ (fun x_4 => ?_)
      exact S_zret (pc := 31) ⟨rfl, rfl⟩ rfl rfl dX8_exists_31
    · exact S_thr (pc := 16) (k := 1) rfl exA1 w695 w15 st_13 rfl ⟨rfl, rfl, rfl, rfl⟩ rfl dX8_exists_16 dX8_exists_19 dX8_exists_20 dX8_exists_22 dX8_exists_25
theorem ktX8_exists (r0 : Nat) (v1 : Int32) (v2 : Int32) : Ct mX8_exists xI [.ref r0, .int v1, .int v2] (fX8_exists r0 v1 v2) := Ct.of (z := 1) pn_X8 rfl rfl rfl (sX8_exists r0 v1 v2)
def mX8_requireName : MI := (yX8_requireName, cX8_requireName, 1, none, { frames := 6, cells := 1, slots := 6, locals := 90 }, [])
theorem mw_X8_requireName : MW mX8_requireName 1 := ⟨w1021, w1, ⟨by decide, by decide⟩, by decide +kernel⟩
def fX8_requireName  (v0 : Int32) : AH → Option ((Nat ⊕ Unit) × AH) := fun h =>
  bd (fX8_isName v0 h) fun x_2 h =>
  if x_2 = 0 then (
    some ((Sum.inl 2 : (Nat ⊕ Unit)), thr h))
  else
  some ((Sum.inr () : (Nat ⊕ Unit)), h)
theorem sX8_requireName  (v0 : Int32) : Sm mX8_requireName xV 0 0 0 [some (.int v0)] [] (fX8_requireName v0) := by
  unfold fX8_requireName
  refine S_iload_n (pc := 0) dX8_requireName_0 rfl ?_
  refine Y_Ti (pc := 1) (st := []) (kc' := 0) (ks' := 0) (ktX8_isName v0) mw_X8_isName w903 w902 (RO.mk rfl rfl rfl rfl) rfl rfl rfl dX8_requireName_1 ⟨rfl, rfl⟩ (fun x_2 => ?_)
  refine S_ifne (pc := 4) (tgt := 18) dX8_requireName_4 (by decide) ?_ ?_
  · exact S_vret (pc := 18) ⟨rfl, rfl⟩ rfl rfl dX8_requireName_18
  · exact S_thrW (pc := 7) (k := 2) rfl exA2 w769 w16 st_24 rfl ⟨rfl, rfl, rfl, rfl⟩ rfl dX8_requireName_7 dX8_requireName_10 dX8_requireName_11 dX8_requireName_14 dX8_requireName_17
theorem ktX8_requireName (v0 : Int32) : Ct mX8_requireName xV [.int v0] (fX8_requireName v0) := Ct.of (z := 0) pn_X8 rfl rfl rfl (sX8_requireName v0)
def mX8_field : MI := (yX8_field, cX8_field, 5, (some .int), { frames := 9, cells := 3, slots := 18, locals := 154 }, [])
theorem mw_X8_field : MW mX8_field 3 := ⟨w1018, w1, ⟨by decide, by decide⟩, by decide +kernel⟩
theorem mv_X8_field : MV mX8_field 8 := ⟨_, rfl, w1016, w1017⟩
def fX8_field  (r0 : Nat) (v1 : Int32) (v2 : Int32) (v3 : Int32) : AH → Option ((Nat ⊕ Int32) × AH) := fun h =>
  cv 8 r0 (fX8_libraryWith r0 v1 v2) h <| xp fun a_5 h =>
  bd (fX8_requireName v3 h) <| xp fun _ h =>
  (gP 8 r0 4 h).bind fun a_6 =>
  (gI 5 a_6 0 h).bind fun x_7 =>
  cv 2 a_5 (fX2_fieldFor a_5 v2 v3 x_7) h fun x_8 h =>
  some ((Sum.inr x_8 : (Nat ⊕ Int32)), h)
theorem sX8_field  (r0 : Nat) (v1 : Int32) (v2 : Int32) (v3 : Int32) : Sm mX8_field xI 0 0 0 [some (.ref r0), some (.int v1), some (.int v2), some (.int v3), none] [] (fX8_field r0 v1 v2 v3) := by
  unfold fX8_field
  refine S_aload_n (pc := 0) dX8_field_0 rfl ?_
  refine S_iload_n (pc := 1) dX8_field_1 rfl ?_
  refine S_iload_n (pc := 2) dX8_field_2 rfl ?_
  refine YX_Va (pc := 3) (st := []) (kc' := 2) (ks' := 12) (fun _ => rfl) rfl (ktX8_libraryWith r0 v1 v2) mw_X8_libraryWith mv_X8_libraryWith w819 (RO.mk rfl rfl rfl rfl) rfl rfl rfl dX8_field_3 ⟨rfl, rfl⟩ (fun a_5 => ?_)
  refine Z_astore (pc := 6) (lv' := [some (.ref r0), some (.int v1), some (.int v2), some (.int v3), some (.ref a_5)]) dX8_field_6 rfl rfl rfl ?_
  refine S_iload_n (pc := 8) dX8_field_8 rfl ?_
  refine YX_Tv (pc := 9) (st := []) (kc' := 3) (ks' := 18) (fun _ => rfl) rfl (ktX8_requireName v3) mw_X8_requireName w1020 w1019 (RO.mk rfl rfl rfl rfl) rfl rfl rfl dX8_field_9 ⟨rfl, rfl⟩ ?_
  refine S_aload (pc := 12) dX8_field_12 rfl ?_
  refine S_iload_n (pc := 14) dX8_field_14 rfl ?_
  refine S_iload_n (pc := 15) dX8_field_15 rfl ?_
  refine S_aload_n (pc := 16) dX8_field_16 rfl ?_
  refine S_gP (pc := 17) fl_X8_30 rfl dX8_field_17 (fun a_6 => ?_)
  refine S_gI (pc := 20) fl_X8_309 rfl dX8_field_20 (fun x_7 => ?_)
  refine Y_Vi (pc := 23) (st := []) (kc' := 3) (ks' := 18) (ktX2_fieldFor a_5 v2 v3 x_7) mw_X2_fieldFor mv_X2_fieldFor w1023 (RO.mk rfl rfl rfl rfl) rfl rfl rfl dX8_field_23 ⟨rfl, rfl⟩ (fun x_8 => ?_)
  exact S_iret (pc := 26) ⟨rfl, rfl⟩ rfl rfl dX8_field_26
theorem ktX8_field (r0 : Nat) (v1 : Int32) (v2 : Int32) (v3 : Int32) : Ct mX8_field xI [.ref r0, .int v1, .int v2, .int v3] (fX8_field r0 v1 v2 v3) := Ct.of (z := 1) pn_X8 rfl rfl rfl (sX8_field r0 v1 v2 v3)
def mX8_fits : MI := (yX8_fits, cX8_fits, 5, (some .boolean), { frames := 8, cells := 2, slots := 12, locals := 131 }, [])
theorem mw_X8_fits : MW mX8_fits 3 := ⟨w1010, w1, ⟨by decide, by decide⟩, by decide +kernel⟩
theorem mv_X8_fits : MV mX8_fits 8 := ⟨_, rfl, w1008, w1009⟩
def fX8_fits  (r0 : Nat) (v1 : Int32) (v2 : Int32) (v3 : Int32) : AH → Option ((Nat ⊕ Int32) × AH) := fun h =>
  cv 8 r0 (fX8_libraryOf r0 v1) h <| xp fun a_5 h =>
  bd (fX8_isType v2 h) fun x_6 h =>
  if x_6 = 0 then (
    some ((Sum.inl 2 : (Nat ⊕ Int32)), thr h))
  else
  bd (fX8_isType v3 h) fun x_7 h =>
  if x_7 = 0 then (
    some ((Sum.inl 2 : (Nat ⊕ Int32)), thr h))
  else
  cv 2 a_5 (fX2_fitsType a_5 v2 v3) h fun x_8 h =>
  rz x_8 (Sum.inr x_8 : (Nat ⊕ Int32)) h
theorem sX8_fits  (r0 : Nat) (v1 : Int32) (v2 : Int32) (v3 : Int32) : Sm mX8_fits xI 0 0 0 [some (.ref r0), some (.int v1), some (.int v2), some (.int v3), none] [] (fX8_fits r0 v1 v2 v3) := by
  unfold fX8_fits
  refine S_aload_n (pc := 0) dX8_fits_0 rfl ?_
  refine S_iload_n (pc := 1) dX8_fits_1 rfl ?_
  refine YX_Va (pc := 2) (st := []) (kc' := 1) (ks' := 6) (fun _ => rfl) rfl (ktX8_libraryOf r0 v1) mw_X8_libraryOf mv_X8_libraryOf w688 (RO.mk rfl rfl rfl rfl) rfl rfl rfl dX8_fits_2 ⟨rfl, rfl⟩ (fun a_5 => ?_)
  refine Z_astore (pc := 5) (lv' := [some (.ref r0), some (.int v1), some (.int v2), some (.int v3), some (.ref a_5)]) dX8_fits_5 rfl rfl rfl ?_
  refine S_iload_n (pc := 7) dX8_fits_7 rfl ?_
  refine Y_Ti (pc := 8) (st := []) (kc' := 1) (ks' := 6) (ktX8_isType v2) mw_X8_isType w892 w891 (RO.mk rfl rfl rfl rfl) rfl rfl rfl dX8_fits_8 ⟨rfl, rfl⟩ (fun x_6 => ?_)
  refine S_ifeq (pc := 11) (tgt := 21) dX8_fits_11 (by decide) ?_ ?_
  · exact S_thr (pc := 21) (k := 2) rfl exA2 w769 w16 st_16 rfl ⟨rfl, rfl, rfl, rfl⟩ rfl dX8_fits_21 dX8_fits_24 dX8_fits_25 dX8_fits_27 dX8_fits_30
  · refine S_iload_n (pc := 14) dX8_fits_14 rfl ?_
    refine Y_Ti (pc := 15) (st := []) (kc' := 1) (ks' := 6) (ktX8_isType v3) mw_X8_isType w892 w891 (RO.mk rfl rfl rfl rfl) rfl rfl rfl dX8_fits_15 ⟨rfl, rfl⟩ (fun x_7 => ?_)
    refine S_ifne (pc := 18) (tgt := 31) dX8_fits_18 (by decide) ?_ ?_
    · refine S_aload (pc := 31) dX8_fits_31 rfl ?_
      refine S_iload_n (pc := 33) dX8_fits_33 rfl ?_
      refine S_iload_n (pc := 34) dX8_fits_34 rfl ?_
      refine Y_Vi (pc := 35) (st := []) (kc' := 1) (ks' := 6) (ktX2_fitsType a_5 v2 v3) mw_X2_fitsType mv_X2_fitsType w1011 (RO.mk rfl rfl rfl rfl) rfl rfl rfl dX8_fits_35 ⟨rfl, rfl⟩ (fun x_8 => ?_)
      exact S_zret (pc := 38) ⟨rfl, rfl⟩ rfl rfl dX8_fits_38
    · exact S_thr (pc := 21) (k := 2) rfl exA2 w769 w16 st_16 rfl ⟨rfl, rfl, rfl, rfl⟩ rfl dX8_fits_21 dX8_fits_24 dX8_fits_25 dX8_fits_27 dX8_fits_30
theorem ktX8_fits (r0 : Nat) (v1 : Int32) (v2 : Int32) (v3 : Int32) : Ct mX8_fits xI [.ref r0, .int v1, .int v2, .int v3] (fX8_fits r0 v1 v2 v3) := Ct.of (z := 1) pn_X8 rfl rfl rfl (sX8_fits r0 v1 v2 v3)
def mX8_init : MI := (yX8_init, cX8_init, 2, none, { frames := 7, cells := 484, slots := 11989, locals := 166 }, [])
theorem mw_X8_init : MW mX8_init 0 := ⟨w23, w1, ⟨by decide, by decide⟩, by decide +kernel⟩
def bX8_init_99  (k99 : Nat → Int32 → AH → Option (Unit × AH)) (r0 : Nat) (v1 : Int32) : AH → Option (Unit × AH) := fun h =>
  if (nI 2) ≤ v1 then (
    (gP 8 r0 0 h).bind fun a_121 =>
    (gP 6 a_121 0 h).bind fun a_122 =>
    (ldP 2 a_122 (nI 0) h).bind fun a_123 =>
    bd (fX8_buildFirstClasses a_123 h) fun _ h =>
    (gP 8 r0 0 h).bind fun a_124 =>
    (gP 6 a_124 0 h).bind fun a_125 =>
    (ldP 2 a_125 (nI 0) h).bind fun a_126 =>
    (gP 2 a_126 10 h).bind fun a_127 =>
    bd (fX8_buildFirstMembers a_127 h) fun _ h =>
    (gP 8 r0 0 h).bind fun a_128 =>
    (gP 6 a_128 0 h).bind fun a_129 =>
    (ldP 2 a_129 (nI 1) h).bind fun a_130 =>
    (gP 8 r0 0 h).bind fun a_131 =>
    (gP 6 a_131 0 h).bind fun a_132 =>
    (ldP 2 a_132 (nI 0) h).bind fun a_133 =>
    cv 2 a_130 (fX2_copyFrom a_130 a_133) h fun _ h =>
    cv 8 r0 (fX8_buildFirstClients r0) h fun _ h =>
    some ((), h))
  else
  (gP 8 r0 6 h).bind fun a_134 =>
  bd (nwO 1 h) fun a_135 h =>
  (gP 8 r0 0 h).bind fun a_136 =>
  (gP 6 a_136 0 h).bind fun a_137 =>
  (ldP 2 a_137 v1 h).bind fun a_138 =>
  bd (fX1_init a_135 a_138 h) fun _ h =>
  (stP 1 a_134 v1 a_135 h).bind fun h =>
  (gP 8 r0 7 h).bind fun a_139 =>
  bd (nwO 3 h) fun a_140 h =>
  (gP 8 r0 0 h).bind fun a_141 =>
  (gP 6 a_141 0 h).bind fun a_142 =>
  (ldP 2 a_142 v1 h).bind fun a_143 =>
  bd (fX3_init a_140 a_143 h) fun _ h =>
  (stP 3 a_139 v1 a_140 h).bind fun h =>
  k99 r0 (v1 + (nI 1)) h
def lX8_init_99  : Nat → Nat → Int32 → AH → Option (Unit × AH)
  | 0 => fun _ _ _ => none
  | n + 1 => bX8_init_99 (lX8_init_99 n)
def bX8_init_25  (k25 : Nat → Int32 → AH → Option (Unit × AH)) (r0 : Nat) (v1 : Int32) : AH → Option (Unit × AH) := fun h =>
  if (nI 5) ≤ v1 then (
    (pI 8 r0 2 (nI 0) h).bind fun h =>
    (pI 8 r0 3 (nI 0) h).bind fun h =>
    bd (nwO 5 h) fun a_213 h =>
    bd (fX5_init a_213 h) fun _ h =>
    (pP 8 r0 4 a_213 h).bind fun h =>
    bd (nwO 0 h) fun a_214 h =>
    bd (fX0_init a_214 h) fun _ h =>
    (pP 8 r0 5 a_214 h).bind fun h =>
    bd (nwP 1 (nI 2) h) fun a_215 h =>
    (pP 8 r0 6 a_215 h).bind fun h =>
    bd (nwP 3 (nI 2) h) fun a_216 h =>
    (pP 8 r0 7 a_216 h).bind fun h =>
    lX8_init_99 3 r0 (nI 0) h)
  else
  (gP 8 r0 1 h).bind fun a_217 =>
  bd (nwO 6 h) fun a_218 h =>
  bd (fX6_init a_218 h) fun _ h =>
  (stP 6 a_217 v1 a_218 h).bind fun h =>
  k25 r0 (v1 + (nI 1)) h
def lX8_init_25  : Nat → Nat → Int32 → AH → Option (Unit × AH)
  | 0 => fun _ _ _ => none
  | n + 1 => bX8_init_25 (lX8_init_25 n)
def fX8_init  (r0 : Nat) : AH → Option (Unit × AH) := fun h =>
  bd (nwO 6 h) fun a_255 h =>
  bd (fX6_init a_255 h) fun _ h =>
  (pP 8 r0 0 a_255 h).bind fun h =>
  bd (nwP 6 (nI 5) h) fun a_256 h =>
  (pP 8 r0 1 a_256 h).bind fun h =>
  lX8_init_25 6 r0 (nI 0) h
theorem sX8_init_99_n0 (r0 : Nat) (v1 : Int32) : Sm mX8_init rV 432 10463 99 [some (.ref r0), some (.int v1)] [] (lX8_init_99 0 r0 v1) := S_none
theorem sX8_init_99_n1 (r0 : Nat) (v1 : Int32) : Sm mX8_init rV 428 10409 99 [some (.ref r0), some (.int v1)] [] (lX8_init_99 1 r0 v1) := by
  show Sm mX8_init rV 428 10409 99 [some (.ref r0), some (.int v1)] [] (bX8_init_99 (lX8_init_99 0) r0 v1)
  unfold bX8_init_99
  refine S_iload_n (pc := 99) dX8_init_99 rfl ?_
  refine S_iconst (pc := 100) (v := (nI 2)) dX8_init_100 kI_2 ?_
  refine S_icmpge (pc := 101) (tgt := 154) dX8_init_101 (by decide) ?_ ?_
  · refine S_aload_n (pc := 154) dX8_init_154 rfl ?_
    refine S_gP (pc := 155) fl_X8_10 rfl dX8_init_155 (fun a_144 => ?_)
    refine S_gP (pc := 158) fl_X8_53 rfl dX8_init_158 (fun a_145 => ?_)
    refine S_iconst (pc := 161) (v := (nI 0)) dX8_init_161 kI_0 ?_
    refine S_ldP (pc := 162) (c := 2) (by decide) dX8_init_162 (fun a_146 => ?_)
    refine Y_Tv (pc := 163) (st := []) (kc' := 428) (ks' := 10409) (ktX8_buildFirstClasses a_146) mw_X8_buildFirstClasses w356 w355 (RO.mk rfl rfl rfl rfl) rfl rfl rfl dX8_init_163 ⟨rfl, rfl⟩ ?_
    refine S_aload_n (pc := 166) dX8_init_166 rfl ?_
    refine S_gP (pc := 167) fl_X8_10 rfl dX8_init_167 (fun a_147 => ?_)
    refine S_gP (pc := 170) fl_X8_53 rfl dX8_init_170 (fun a_148 => ?_)
    refine S_iconst (pc := 173) (v := (nI 0)) dX8_init_173 kI_0 ?_
    refine S_ldP (pc := 174) (c := 2) (by decide) dX8_init_174 (fun a_149 => ?_)
    refine S_gP (pc := 175) fl_X8_64 rfl dX8_init_175 (fun a_150 => ?_)
    refine Y_Tv (pc := 178) (st := []) (kc' := 429) (ks' := 10413) (ktX8_buildFirstMembers a_150) mw_X8_buildFirstMembers w390 w389 (RO.mk rfl rfl rfl rfl) rfl rfl rfl dX8_init_178 ⟨rfl, rfl⟩ ?_
    refine S_aload_n (pc := 181) dX8_init_181 rfl ?_
    refine S_gP (pc := 182) fl_X8_10 rfl dX8_init_182 (fun a_151 => ?_)
    refine S_gP (pc := 185) fl_X8_53 rfl dX8_init_185 (fun a_152 => ?_)
    refine S_iconst (pc := 188) (v := (nI 1)) dX8_init_188 kI_1 ?_
    refine S_ldP (pc := 189) (c := 2) (by decide) dX8_init_189 (fun a_153 => ?_)
    refine S_aload_n (pc := 190) dX8_init_190 rfl ?_
    refine S_gP (pc := 191) fl_X8_10 rfl dX8_init_191 (fun a_154 => ?_)
    refine S_gP (pc := 194) fl_X8_53 rfl dX8_init_194 (fun a_155 => ?_)
    refine S_iconst (pc := 197) (v := (nI 0)) dX8_init_197 kI_0 ?_
    refine S_ldP (pc := 198) (c := 2) (by decide) dX8_init_198 (fun a_156 => ?_)
    refine Y_Vv (pc := 199) (st := []) (kc' := 429) (ks' := 10413) (ktX2_copyFrom a_153 a_156) mw_X2_copyFrom mv_X2_copyFrom w414 (RO.mk rfl rfl rfl rfl) rfl rfl rfl dX8_init_199 ⟨rfl, rfl⟩ ?_
    refine S_aload_n (pc := 202) dX8_init_202 rfl ?_
    refine Y_Vv (pc := 203) (st := []) (kc' := 429) (ks' := 10413) (ktX8_buildFirstClients r0) mw_X8_buildFirstClients mv_X8_buildFirstClients w426 (RO.mk rfl rfl rfl rfl) rfl rfl rfl dX8_init_203 ⟨rfl, rfl⟩ ?_
    exact S_vret (pc := 206) ⟨rfl, rfl⟩ rfl rfl dX8_init_206
  · refine S_aload_n (pc := 104) dX8_init_104 rfl ?_
    refine S_gP (pc := 105) fl_X8_43 rfl dX8_init_105 (fun a_157 => ?_)
    refine S_iload_n (pc := 108) dX8_init_108 rfl ?_
    refine S_new (pc := 109) (c := 1) rfl w313 w317 w8 ⟨rfl, rfl⟩ dX8_init_109 (fun a_158 => ?_)
    refine S_dup (pc := 112) rfl dX8_init_112 ?_
    refine S_aload_n (pc := 113) dX8_init_113 rfl ?_
    refine S_gP (pc := 114) fl_X8_10 rfl dX8_init_114 (fun a_159 => ?_)
    refine S_gP (pc := 117) fl_X8_53 rfl dX8_init_117 (fun a_160 => ?_)
    refine S_iload_n (pc := 120) dX8_init_120 rfl ?_
    refine S_ldP (pc := 121) (c := 2) (by decide) dX8_init_121 (fun a_161 => ?_)
    refine Y_I (pc := 122) (st := [.ref a_158, .int v1, .ref a_157]) (kc' := 431) (ks' := 10461) (ktX1_init a_158 a_161) mw_X1_init rfl rfl w319 w318 (RO.mk rfl rfl rfl rfl) rfl rfl rfl dX8_init_122 ⟨rfl, rfl⟩ ?_
    refine S_stP (pc := 125) (c := 1) (by decide) dX8_init_125 ?_
    refine S_aload_n (pc := 126) dX8_init_126 rfl ?_
    refine S_gP (pc := 127) fl_X8_49 rfl dX8_init_127 (fun a_162 => ?_)
    refine S_iload_n (pc := 130) dX8_init_130 rfl ?_
    refine S_new (pc := 131) (c := 3) rfl w315 w342 w9 ⟨rfl, rfl⟩ dX8_init_131 (fun a_163 => ?_)
    refine S_dup (pc := 134) rfl dX8_init_134 ?_
    refine S_aload_n (pc := 135) dX8_init_135 rfl ?_
    refine S_gP (pc := 136) fl_X8_10 rfl dX8_init_136 (fun a_164 => ?_)
    refine S_gP (pc := 139) fl_X8_53 rfl dX8_init_139 (fun a_165 => ?_)
    refine S_iload_n (pc := 142) dX8_init_142 rfl ?_
    refine S_ldP (pc := 143) (c := 2) (by decide) dX8_init_143 (fun a_166 => ?_)
    refine Y_I (pc := 144) (st := [.ref a_163, .int v1, .ref a_162]) (kc' := 432) (ks' := 10463) (ktX3_init a_163 a_166) mw_X3_init rfl rfl w344 w343 (RO.mk rfl rfl rfl rfl) rfl rfl rfl dX8_init_144 ⟨rfl, rfl⟩ ?_
    refine S_stP (pc := 147) (c := 3) (by decide) dX8_init_147 ?_
    refine Z_iinc (pc := 148) (v := (nI 1)) (lv' := [some (.ref r0), some (.int (v1 + (nI 1)))]) dX8_init_148 rfl kI_1 rfl rfl rfl ?_
    refine S_goto (pc := 151) (tgt := 99) dX8_init_151 (by decide) ?_
    exact (sX8_init_99_n0 r0 (v1 + (nI 1)))
theorem sX8_init_99_n2 (r0 : Nat) (v1 : Int32) : Sm mX8_init rV 424 10355 99 [some (.ref r0), some (.int v1)] [] (lX8_init_99 2 r0 v1) := by
  show Sm mX8_init rV 424 10355 99 [some (.ref r0), some (.int v1)] [] (bX8_init_99 (lX8_init_99 1) r0 v1)
  unfold bX8_init_99
  refine S_iload_n (pc := 99) dX8_init_99 rfl ?_
  refine S_iconst (pc := 100) (v := (nI 2)) dX8_init_100 kI_2 ?_
  refine S_icmpge (pc := 101) (tgt := 154) dX8_init_101 (by decide) ?_ ?_
  · refine S_aload_n (pc := 154) dX8_init_154 rfl ?_
    refine S_gP (pc := 155) fl_X8_10 rfl dX8_init_155 (fun a_167 => ?_)
    refine S_gP (pc := 158) fl_X8_53 rfl dX8_init_158 (fun a_168 => ?_)
    refine S_iconst (pc := 161) (v := (nI 0)) dX8_init_161 kI_0 ?_
    refine S_ldP (pc := 162) (c := 2) (by decide) dX8_init_162 (fun a_169 => ?_)
    refine Y_Tv (pc := 163) (st := []) (kc' := 424) (ks' := 10355) (ktX8_buildFirstClasses a_169) mw_X8_buildFirstClasses w356 w355 (RO.mk rfl rfl rfl rfl) rfl rfl rfl dX8_init_163 ⟨rfl, rfl⟩ ?_
    refine S_aload_n (pc := 166) dX8_init_166 rfl ?_
    refine S_gP (pc := 167) fl_X8_10 rfl dX8_init_167 (fun a_170 => ?_)
    refine S_gP (pc := 170) fl_X8_53 rfl dX8_init_170 (fun a_171 => ?_)
    refine S_iconst (pc := 173) (v := (nI 0)) dX8_init_173 kI_0 ?_
    refine S_ldP (pc := 174) (c := 2) (by decide) dX8_init_174 (fun a_172 => ?_)
    refine S_gP (pc := 175) fl_X8_64 rfl dX8_init_175 (fun a_173 => ?_)
    refine Y_Tv (pc := 178) (st := []) (kc' := 425) (ks' := 10359) (ktX8_buildFirstMembers a_173) mw_X8_buildFirstMembers w390 w389 (RO.mk rfl rfl rfl rfl) rfl rfl rfl dX8_init_178 ⟨rfl, rfl⟩ ?_
    refine S_aload_n (pc := 181) dX8_init_181 rfl ?_
    refine S_gP (pc := 182) fl_X8_10 rfl dX8_init_182 (fun a_174 => ?_)
    refine S_gP (pc := 185) fl_X8_53 rfl dX8_init_185 (fun a_175 => ?_)
    refine S_iconst (pc := 188) (v := (nI 1)) dX8_init_188 kI_1 ?_
    refine S_ldP (pc := 189) (c := 2) (by decide) dX8_init_189 (fun a_176 => ?_)
    refine S_aload_n (pc := 190) dX8_init_190 rfl ?_
    refine S_gP (pc := 191) fl_X8_10 rfl dX8_init_191 (fun a_177 => ?_)
    refine S_gP (pc := 194) fl_X8_53 rfl dX8_init_194 (fun a_178 => ?_)
    refine S_iconst (pc := 197) (v := (nI 0)) dX8_init_197 kI_0 ?_
    refine S_ldP (pc := 198) (c := 2) (by decide) dX8_init_198 (fun a_179 => ?_)
    refine Y_Vv (pc := 199) (st := []) (kc' := 425) (ks' := 10359) (ktX2_copyFrom a_176 a_179) mw_X2_copyFrom mv_X2_copyFrom w414 (RO.mk rfl rfl rfl rfl) rfl rfl rfl dX8_init_199 ⟨rfl, rfl⟩ ?_
    refine S_aload_n (pc := 202) dX8_init_202 rfl ?_
    refine Y_Vv (pc := 203) (st := []) (kc' := 425) (ks' := 10359) (ktX8_buildFirstClients r0) mw_X8_buildFirstClients mv_X8_buildFirstClients w426 (RO.mk rfl rfl rfl rfl) rfl rfl rfl dX8_init_203 ⟨rfl, rfl⟩ ?_
    exact S_vret (pc := 206) ⟨rfl, rfl⟩ rfl rfl dX8_init_206
  · refine S_aload_n (pc := 104) dX8_init_104 rfl ?_
    refine S_gP (pc := 105) fl_X8_43 rfl dX8_init_105 (fun a_180 => ?_)
    refine S_iload_n (pc := 108) dX8_init_108 rfl ?_
    refine S_new (pc := 109) (c := 1) rfl w313 w317 w8 ⟨rfl, rfl⟩ dX8_init_109 (fun a_181 => ?_)
    refine S_dup (pc := 112) rfl dX8_init_112 ?_
    refine S_aload_n (pc := 113) dX8_init_113 rfl ?_
    refine S_gP (pc := 114) fl_X8_10 rfl dX8_init_114 (fun a_182 => ?_)
    refine S_gP (pc := 117) fl_X8_53 rfl dX8_init_117 (fun a_183 => ?_)
    refine S_iload_n (pc := 120) dX8_init_120 rfl ?_
    refine S_ldP (pc := 121) (c := 2) (by decide) dX8_init_121 (fun a_184 => ?_)
    refine Y_I (pc := 122) (st := [.ref a_181, .int v1, .ref a_180]) (kc' := 427) (ks' := 10407) (ktX1_init a_181 a_184) mw_X1_init rfl rfl w319 w318 (RO.mk rfl rfl rfl rfl) rfl rfl rfl dX8_init_122 ⟨rfl, rfl⟩ ?_
    refine S_stP (pc := 125) (c := 1) (by decide) dX8_init_125 ?_
    refine S_aload_n (pc := 126) dX8_init_126 rfl ?_
    refine S_gP (pc := 127) fl_X8_49 rfl dX8_init_127 (fun a_185 => ?_)
    refine S_iload_n (pc := 130) dX8_init_130 rfl ?_
    refine S_new (pc := 131) (c := 3) rfl w315 w342 w9 ⟨rfl, rfl⟩ dX8_init_131 (fun a_186 => ?_)
    refine S_dup (pc := 134) rfl dX8_init_134 ?_
    refine S_aload_n (pc := 135) dX8_init_135 rfl ?_
    refine S_gP (pc := 136) fl_X8_10 rfl dX8_init_136 (fun a_187 => ?_)
    refine S_gP (pc := 139) fl_X8_53 rfl dX8_init_139 (fun a_188 => ?_)
    refine S_iload_n (pc := 142) dX8_init_142 rfl ?_
    refine S_ldP (pc := 143) (c := 2) (by decide) dX8_init_143 (fun a_189 => ?_)
    refine Y_I (pc := 144) (st := [.ref a_186, .int v1, .ref a_185]) (kc' := 428) (ks' := 10409) (ktX3_init a_186 a_189) mw_X3_init rfl rfl w344 w343 (RO.mk rfl rfl rfl rfl) rfl rfl rfl dX8_init_144 ⟨rfl, rfl⟩ ?_
    refine S_stP (pc := 147) (c := 3) (by decide) dX8_init_147 ?_
    refine Z_iinc (pc := 148) (v := (nI 1)) (lv' := [some (.ref r0), some (.int (v1 + (nI 1)))]) dX8_init_148 rfl kI_1 rfl rfl rfl ?_
    refine S_goto (pc := 151) (tgt := 99) dX8_init_151 (by decide) ?_
    exact (sX8_init_99_n1 r0 (v1 + (nI 1)))
theorem sX8_init_99_n3 (r0 : Nat) (v1 : Int32) : Sm mX8_init rV 420 10301 99 [some (.ref r0), some (.int v1)] [] (lX8_init_99 3 r0 v1) := by
  show Sm mX8_init rV 420 10301 99 [some (.ref r0), some (.int v1)] [] (bX8_init_99 (lX8_init_99 2) r0 v1)
  unfold bX8_init_99
  refine S_iload_n (pc := 99) dX8_init_99 rfl ?_
  refine S_iconst (pc := 100) (v := (nI 2)) dX8_init_100 kI_2 ?_
  refine S_icmpge (pc := 101) (tgt := 154) dX8_init_101 (by decide) ?_ ?_
  · refine S_aload_n (pc := 154) dX8_init_154 rfl ?_
    refine S_gP (pc := 155) fl_X8_10 rfl dX8_init_155 (fun a_190 => ?_)
    refine S_gP (pc := 158) fl_X8_53 rfl dX8_init_158 (fun a_191 => ?_)
    refine S_iconst (pc := 161) (v := (nI 0)) dX8_init_161 kI_0 ?_
    refine S_ldP (pc := 162) (c := 2) (by decide) dX8_init_162 (fun a_192 => ?_)
    refine Y_Tv (pc := 163) (st := []) (kc' := 420) (ks' := 10301) (ktX8_buildFirstClasses a_192) mw_X8_buildFirstClasses w356 w355 (RO.mk rfl rfl rfl rfl) rfl rfl rfl dX8_init_163 ⟨rfl, rfl⟩ ?_
    refine S_aload_n (pc := 166) dX8_init_166 rfl ?_
    refine S_gP (pc := 167) fl_X8_10 rfl dX8_init_167 (fun a_193 => ?_)
    refine S_gP (pc := 170) fl_X8_53 rfl dX8_init_170 (fun a_194 => ?_)
    refine S_iconst (pc := 173) (v := (nI 0)) dX8_init_173 kI_0 ?_
    refine S_ldP (pc := 174) (c := 2) (by decide) dX8_init_174 (fun a_195 => ?_)
    refine S_gP (pc := 175) fl_X8_64 rfl dX8_init_175 (fun a_196 => ?_)
    refine Y_Tv (pc := 178) (st := []) (kc' := 421) (ks' := 10305) (ktX8_buildFirstMembers a_196) mw_X8_buildFirstMembers w390 w389 (RO.mk rfl rfl rfl rfl) rfl rfl rfl dX8_init_178 ⟨rfl, rfl⟩ ?_
    refine S_aload_n (pc := 181) dX8_init_181 rfl ?_
    refine S_gP (pc := 182) fl_X8_10 rfl dX8_init_182 (fun a_197 => ?_)
    refine S_gP (pc := 185) fl_X8_53 rfl dX8_init_185 (fun a_198 => ?_)
    refine S_iconst (pc := 188) (v := (nI 1)) dX8_init_188 kI_1 ?_
    refine S_ldP (pc := 189) (c := 2) (by decide) dX8_init_189 (fun a_199 => ?_)
    refine S_aload_n (pc := 190) dX8_init_190 rfl ?_
    refine S_gP (pc := 191) fl_X8_10 rfl dX8_init_191 (fun a_200 => ?_)
    refine S_gP (pc := 194) fl_X8_53 rfl dX8_init_194 (fun a_201 => ?_)
    refine S_iconst (pc := 197) (v := (nI 0)) dX8_init_197 kI_0 ?_
    refine S_ldP (pc := 198) (c := 2) (by decide) dX8_init_198 (fun a_202 => ?_)
    refine Y_Vv (pc := 199) (st := []) (kc' := 421) (ks' := 10305) (ktX2_copyFrom a_199 a_202) mw_X2_copyFrom mv_X2_copyFrom w414 (RO.mk rfl rfl rfl rfl) rfl rfl rfl dX8_init_199 ⟨rfl, rfl⟩ ?_
    refine S_aload_n (pc := 202) dX8_init_202 rfl ?_
    refine Y_Vv (pc := 203) (st := []) (kc' := 421) (ks' := 10305) (ktX8_buildFirstClients r0) mw_X8_buildFirstClients mv_X8_buildFirstClients w426 (RO.mk rfl rfl rfl rfl) rfl rfl rfl dX8_init_203 ⟨rfl, rfl⟩ ?_
    exact S_vret (pc := 206) ⟨rfl, rfl⟩ rfl rfl dX8_init_206
  · refine S_aload_n (pc := 104) dX8_init_104 rfl ?_
    refine S_gP (pc := 105) fl_X8_43 rfl dX8_init_105 (fun a_203 => ?_)
    refine S_iload_n (pc := 108) dX8_init_108 rfl ?_
    refine S_new (pc := 109) (c := 1) rfl w313 w317 w8 ⟨rfl, rfl⟩ dX8_init_109 (fun a_204 => ?_)
    refine S_dup (pc := 112) rfl dX8_init_112 ?_
    refine S_aload_n (pc := 113) dX8_init_113 rfl ?_
    refine S_gP (pc := 114) fl_X8_10 rfl dX8_init_114 (fun a_205 => ?_)
    refine S_gP (pc := 117) fl_X8_53 rfl dX8_init_117 (fun a_206 => ?_)
    refine S_iload_n (pc := 120) dX8_init_120 rfl ?_
    refine S_ldP (pc := 121) (c := 2) (by decide) dX8_init_121 (fun a_207 => ?_)
    refine Y_I (pc := 122) (st := [.ref a_204, .int v1, .ref a_203]) (kc' := 423) (ks' := 10353) (ktX1_init a_204 a_207) mw_X1_init rfl rfl w319 w318 (RO.mk rfl rfl rfl rfl) rfl rfl rfl dX8_init_122 ⟨rfl, rfl⟩ ?_
    refine S_stP (pc := 125) (c := 1) (by decide) dX8_init_125 ?_
    refine S_aload_n (pc := 126) dX8_init_126 rfl ?_
    refine S_gP (pc := 127) fl_X8_49 rfl dX8_init_127 (fun a_208 => ?_)
    refine S_iload_n (pc := 130) dX8_init_130 rfl ?_
    refine S_new (pc := 131) (c := 3) rfl w315 w342 w9 ⟨rfl, rfl⟩ dX8_init_131 (fun a_209 => ?_)
    refine S_dup (pc := 134) rfl dX8_init_134 ?_
    refine S_aload_n (pc := 135) dX8_init_135 rfl ?_
    refine S_gP (pc := 136) fl_X8_10 rfl dX8_init_136 (fun a_210 => ?_)
    refine S_gP (pc := 139) fl_X8_53 rfl dX8_init_139 (fun a_211 => ?_)
    refine S_iload_n (pc := 142) dX8_init_142 rfl ?_
    refine S_ldP (pc := 143) (c := 2) (by decide) dX8_init_143 (fun a_212 => ?_)
    refine Y_I (pc := 144) (st := [.ref a_209, .int v1, .ref a_208]) (kc' := 424) (ks' := 10355) (ktX3_init a_209 a_212) mw_X3_init rfl rfl w344 w343 (RO.mk rfl rfl rfl rfl) rfl rfl rfl dX8_init_144 ⟨rfl, rfl⟩ ?_
    refine S_stP (pc := 147) (c := 3) (by decide) dX8_init_147 ?_
    refine Z_iinc (pc := 148) (v := (nI 1)) (lv' := [some (.ref r0), some (.int (v1 + (nI 1)))]) dX8_init_148 rfl kI_1 rfl rfl rfl ?_
    refine S_goto (pc := 151) (tgt := 99) dX8_init_151 (by decide) ?_
    exact (sX8_init_99_n2 r0 (v1 + (nI 1)))
theorem sX8_init_25_n0 (r0 : Nat) (v1 : Int32) : Sm mX8_init rV 484 11989 25 [some (.ref r0), some (.int v1)] [] (lX8_init_25 0 r0 v1) := S_none
theorem sX8_init_25_n1 (r0 : Nat) (v1 : Int32) : Sm mX8_init rV 415 10277 25 [some (.ref r0), some (.int v1)] [] (lX8_init_25 1 r0 v1) := by
  show Sm mX8_init rV 415 10277 25 [some (.ref r0), some (.int v1)] [] (bX8_init_25 (lX8_init_25 0) r0 v1)
  unfold bX8_init_25
  refine S_iload_n (pc := 25) dX8_init_25 rfl ?_
  refine S_iconst (pc := 26) (v := (nI 5)) dX8_init_26 kI_5 ?_
  refine S_icmpge (pc := 27) (tgt := 49) dX8_init_27 (by decide) ?_ ?_
  · refine S_aload_n (pc := 49) dX8_init_49 rfl ?_
    refine S_iconst (pc := 50) (v := (nI 0)) dX8_init_50 kI_0 ?_
    refine S_pI (pc := 51) fl_X8_20 rfl rfl dX8_init_51 ?_
    refine S_aload_n (pc := 54) dX8_init_54 rfl ?_
    refine S_iconst (pc := 55) (v := (nI 0)) dX8_init_55 kI_0 ?_
    refine S_pI (pc := 56) fl_X8_24 rfl rfl dX8_init_56 ?_
    refine S_aload_n (pc := 59) dX8_init_59 rfl ?_
    refine S_new (pc := 60) (c := 5) rfl w284 w285 w7 ⟨rfl, rfl⟩ dX8_init_60 (fun a_219 => ?_)
    refine S_dup (pc := 63) rfl dX8_init_63 ?_
    refine Y_IN (pc := 64) (st := [.ref a_219, .ref r0]) (kc' := 416) (ks' := 10281) (ktX5_init a_219) mw_X5_init rfl rfl w287 nw_X8_29_X5_init (RO.mk rfl rfl rfl rfl) rfl rfl rfl dX8_init_64 ⟨rfl, rfl⟩ ?_
    refine S_pF (pc := 67) fl_X8_30 rfl rfl rfl (fun r hr => by cases hr; rfl) dX8_init_67 ?_
    refine S_aload_n (pc := 70) dX8_init_70 rfl ?_
    refine S_new (pc := 71) (c := 0) rfl w311 w167 w5 ⟨rfl, rfl⟩ dX8_init_71 (fun a_220 => ?_)
    refine S_dup (pc := 74) rfl dX8_init_74 ?_
    refine Y_IN (pc := 75) (st := [.ref a_220, .ref r0]) (kc' := 418) (ks' := 10297) (ktX0_init a_220) mw_X0_init rfl rfl w169 nw_X8_36_X0_init (RO.mk rfl rfl rfl rfl) rfl rfl rfl dX8_init_75 ⟨rfl, rfl⟩ ?_
    refine S_pF (pc := 78) fl_X8_37 rfl rfl rfl (fun r hr => by cases hr; rfl) dX8_init_78 ?_
    refine S_aload_n (pc := 81) dX8_init_81 rfl ?_
    refine S_iconst (pc := 82) (v := (nI 2)) dX8_init_82 kI_2 ?_
    refine S_nwP (pc := 83) (c := 1) (N := 2) (by decide) rfl (by decide +kernel) w313 (by decide) ⟨rfl, rfl, rfl⟩ dX8_init_83 (fun a_221 => ?_)
    refine S_pF (pc := 86) fl_X8_43 rfl rfl rfl (fun r hr => by cases hr; rfl) dX8_init_86 ?_
    refine S_aload_n (pc := 89) dX8_init_89 rfl ?_
    refine S_iconst (pc := 90) (v := (nI 2)) dX8_init_90 kI_2 ?_
    refine S_nwP (pc := 91) (c := 3) (N := 2) (by decide) rfl (by decide +kernel) w315 (by decide) ⟨rfl, rfl, rfl⟩ dX8_init_91 (fun a_222 => ?_)
    refine S_pF (pc := 94) fl_X8_49 rfl rfl rfl (fun r hr => by cases hr; rfl) dX8_init_94 ?_
    refine S_iconst (pc := 97) (v := (nI 0)) dX8_init_97 kI_0 ?_
    refine Z_istore_n (pc := 98) (lv' := [some (.ref r0), some (.int (nI 0))]) dX8_init_98 rfl rfl rfl ?_
    exact (sX8_init_99_n3 r0 (nI 0))
  · refine S_aload_n (pc := 30) dX8_init_30 rfl ?_
    refine S_gP (pc := 31) fl_X8_16 rfl dX8_init_31 (fun a_223 => ?_)
    refine S_iload_n (pc := 34) dX8_init_34 rfl ?_
    refine S_new (pc := 35) (c := 6) rfl w27 w28 w2 ⟨rfl, rfl⟩ dX8_init_35 (fun a_224 => ?_)
    refine S_dup (pc := 38) rfl dX8_init_38 ?_
    refine Y_I (pc := 39) (st := [.ref a_224, .int v1, .ref a_223]) (kc' := 484) (ks' := 11989) (ktX6_init a_224) mw_X6_init rfl rfl w30 w29 (RO.mk rfl rfl rfl rfl) rfl rfl rfl dX8_init_39 ⟨rfl, rfl⟩ ?_
    refine S_stP (pc := 42) (c := 6) (by decide) dX8_init_42 ?_
    refine Z_iinc (pc := 43) (v := (nI 1)) (lv' := [some (.ref r0), some (.int (v1 + (nI 1)))]) dX8_init_43 rfl kI_1 rfl rfl rfl ?_
    refine S_goto (pc := 46) (tgt := 25) dX8_init_46 (by decide) ?_
    exact (sX8_init_25_n0 r0 (v1 + (nI 1)))
theorem sX8_init_25_n2 (r0 : Nat) (v1 : Int32) : Sm mX8_init rV 346 8565 25 [some (.ref r0), some (.int v1)] [] (lX8_init_25 2 r0 v1) := by
  show Sm mX8_init rV 346 8565 25 [some (.ref r0), some (.int v1)] [] (bX8_init_25 (lX8_init_25 1) r0 v1)
  unfold bX8_init_25
  refine S_iload_n (pc := 25) dX8_init_25 rfl ?_
  refine S_iconst (pc := 26) (v := (nI 5)) dX8_init_26 kI_5 ?_
  refine S_icmpge (pc := 27) (tgt := 49) dX8_init_27 (by decide) ?_ ?_
  · refine S_aload_n (pc := 49) dX8_init_49 rfl ?_
    refine S_iconst (pc := 50) (v := (nI 0)) dX8_init_50 kI_0 ?_
    refine S_pI (pc := 51) fl_X8_20 rfl rfl dX8_init_51 ?_
    refine S_aload_n (pc := 54) dX8_init_54 rfl ?_
    refine S_iconst (pc := 55) (v := (nI 0)) dX8_init_55 kI_0 ?_
    refine S_pI (pc := 56) fl_X8_24 rfl rfl dX8_init_56 ?_
    refine S_aload_n (pc := 59) dX8_init_59 rfl ?_
    refine S_new (pc := 60) (c := 5) rfl w284 w285 w7 ⟨rfl, rfl⟩ dX8_init_60 (fun a_225 => ?_)
    refine S_dup (pc := 63) rfl dX8_init_63 ?_
    refine Y_IN (pc := 64) (st := [.ref a_225, .ref r0]) (kc' := 347) (ks' := 8569) (ktX5_init a_225) mw_X5_init rfl rfl w287 nw_X8_29_X5_init (RO.mk rfl rfl rfl rfl) rfl rfl rfl dX8_init_64 ⟨rfl, rfl⟩ ?_
    refine S_pF (pc := 67) fl_X8_30 rfl rfl rfl (fun r hr => by cases hr; rfl) dX8_init_67 ?_
    refine S_aload_n (pc := 70) dX8_init_70 rfl ?_
    refine S_new (pc := 71) (c := 0) rfl w311 w167 w5 ⟨rfl, rfl⟩ dX8_init_71 (fun a_226 => ?_)
    refine S_dup (pc := 74) rfl dX8_init_74 ?_
    refine Y_IN (pc := 75) (st := [.ref a_226, .ref r0]) (kc' := 349) (ks' := 8585) (ktX0_init a_226) mw_X0_init rfl rfl w169 nw_X8_36_X0_init (RO.mk rfl rfl rfl rfl) rfl rfl rfl dX8_init_75 ⟨rfl, rfl⟩ ?_
    refine S_pF (pc := 78) fl_X8_37 rfl rfl rfl (fun r hr => by cases hr; rfl) dX8_init_78 ?_
    refine S_aload_n (pc := 81) dX8_init_81 rfl ?_
    refine S_iconst (pc := 82) (v := (nI 2)) dX8_init_82 kI_2 ?_
    refine S_nwP (pc := 83) (c := 1) (N := 2) (by decide) rfl (by decide +kernel) w313 (by decide) ⟨rfl, rfl, rfl⟩ dX8_init_83 (fun a_227 => ?_)
    refine S_pF (pc := 86) fl_X8_43 rfl rfl rfl (fun r hr => by cases hr; rfl) dX8_init_86 ?_
    refine S_aload_n (pc := 89) dX8_init_89 rfl ?_
    refine S_iconst (pc := 90) (v := (nI 2)) dX8_init_90 kI_2 ?_
    refine S_nwP (pc := 91) (c := 3) (N := 2) (by decide) rfl (by decide +kernel) w315 (by decide) ⟨rfl, rfl, rfl⟩ dX8_init_91 (fun a_228 => ?_)
    refine S_pF (pc := 94) fl_X8_49 rfl rfl rfl (fun r hr => by cases hr; rfl) dX8_init_94 ?_
    refine S_iconst (pc := 97) (v := (nI 0)) dX8_init_97 kI_0 ?_
    refine Z_istore_n (pc := 98) (lv' := [some (.ref r0), some (.int (nI 0))]) dX8_init_98 rfl rfl rfl ?_
    exact (S_widen rfl rfl (sX8_init_99_n3 r0 (nI 0)))
  · refine S_aload_n (pc := 30) dX8_init_30 rfl ?_
    refine S_gP (pc := 31) fl_X8_16 rfl dX8_init_31 (fun a_229 => ?_)
    refine S_iload_n (pc := 34) dX8_init_34 rfl ?_
    refine S_new (pc := 35) (c := 6) rfl w27 w28 w2 ⟨rfl, rfl⟩ dX8_init_35 (fun a_230 => ?_)
    refine S_dup (pc := 38) rfl dX8_init_38 ?_
    refine Y_I (pc := 39) (st := [.ref a_230, .int v1, .ref a_229]) (kc' := 415) (ks' := 10277) (ktX6_init a_230) mw_X6_init rfl rfl w30 w29 (RO.mk rfl rfl rfl rfl) rfl rfl rfl dX8_init_39 ⟨rfl, rfl⟩ ?_
    refine S_stP (pc := 42) (c := 6) (by decide) dX8_init_42 ?_
    refine Z_iinc (pc := 43) (v := (nI 1)) (lv' := [some (.ref r0), some (.int (v1 + (nI 1)))]) dX8_init_43 rfl kI_1 rfl rfl rfl ?_
    refine S_goto (pc := 46) (tgt := 25) dX8_init_46 (by decide) ?_
    exact (sX8_init_25_n1 r0 (v1 + (nI 1)))
theorem sX8_init_25_n3 (r0 : Nat) (v1 : Int32) : Sm mX8_init rV 277 6853 25 [some (.ref r0), some (.int v1)] [] (lX8_init_25 3 r0 v1) := by
  show Sm mX8_init rV 277 6853 25 [some (.ref r0), some (.int v1)] [] (bX8_init_25 (lX8_init_25 2) r0 v1)
  unfold bX8_init_25
  refine S_iload_n (pc := 25) dX8_init_25 rfl ?_
  refine S_iconst (pc := 26) (v := (nI 5)) dX8_init_26 kI_5 ?_
  refine S_icmpge (pc := 27) (tgt := 49) dX8_init_27 (by decide) ?_ ?_
  · refine S_aload_n (pc := 49) dX8_init_49 rfl ?_
    refine S_iconst (pc := 50) (v := (nI 0)) dX8_init_50 kI_0 ?_
    refine S_pI (pc := 51) fl_X8_20 rfl rfl dX8_init_51 ?_
    refine S_aload_n (pc := 54) dX8_init_54 rfl ?_
    refine S_iconst (pc := 55) (v := (nI 0)) dX8_init_55 kI_0 ?_
    refine S_pI (pc := 56) fl_X8_24 rfl rfl dX8_init_56 ?_
    refine S_aload_n (pc := 59) dX8_init_59 rfl ?_
    refine S_new (pc := 60) (c := 5) rfl w284 w285 w7 ⟨rfl, rfl⟩ dX8_init_60 (fun a_231 => ?_)
    refine S_dup (pc := 63) rfl dX8_init_63 ?_
    refine Y_IN (pc := 64) (st := [.ref a_231, .ref r0]) (kc' := 278) (ks' := 6857) (ktX5_init a_231) mw_X5_init rfl rfl w287 nw_X8_29_X5_init (RO.mk rfl rfl rfl rfl) rfl rfl rfl dX8_init_64 ⟨rfl, rfl⟩ ?_
    refine S_pF (pc := 67) fl_X8_30 rfl rfl rfl (fun r hr => by cases hr; rfl) dX8_init_67 ?_
    refine S_aload_n (pc := 70) dX8_init_70 rfl ?_
    refine S_new (pc := 71) (c := 0) rfl w311 w167 w5 ⟨rfl, rfl⟩ dX8_init_71 (fun a_232 => ?_)
    refine S_dup (pc := 74) rfl dX8_init_74 ?_
    refine Y_IN (pc := 75) (st := [.ref a_232, .ref r0]) (kc' := 280) (ks' := 6873) (ktX0_init a_232) mw_X0_init rfl rfl w169 nw_X8_36_X0_init (RO.mk rfl rfl rfl rfl) rfl rfl rfl dX8_init_75 ⟨rfl, rfl⟩ ?_
    refine S_pF (pc := 78) fl_X8_37 rfl rfl rfl (fun r hr => by cases hr; rfl) dX8_init_78 ?_
    refine S_aload_n (pc := 81) dX8_init_81 rfl ?_
    refine S_iconst (pc := 82) (v := (nI 2)) dX8_init_82 kI_2 ?_
    refine S_nwP (pc := 83) (c := 1) (N := 2) (by decide) rfl (by decide +kernel) w313 (by decide) ⟨rfl, rfl, rfl⟩ dX8_init_83 (fun a_233 => ?_)
    refine S_pF (pc := 86) fl_X8_43 rfl rfl rfl (fun r hr => by cases hr; rfl) dX8_init_86 ?_
    refine S_aload_n (pc := 89) dX8_init_89 rfl ?_
    refine S_iconst (pc := 90) (v := (nI 2)) dX8_init_90 kI_2 ?_
    refine S_nwP (pc := 91) (c := 3) (N := 2) (by decide) rfl (by decide +kernel) w315 (by decide) ⟨rfl, rfl, rfl⟩ dX8_init_91 (fun a_234 => ?_)
    refine S_pF (pc := 94) fl_X8_49 rfl rfl rfl (fun r hr => by cases hr; rfl) dX8_init_94 ?_
    refine S_iconst (pc := 97) (v := (nI 0)) dX8_init_97 kI_0 ?_
    refine Z_istore_n (pc := 98) (lv' := [some (.ref r0), some (.int (nI 0))]) dX8_init_98 rfl rfl rfl ?_
    exact (S_widen rfl rfl (sX8_init_99_n3 r0 (nI 0)))
  · refine S_aload_n (pc := 30) dX8_init_30 rfl ?_
    refine S_gP (pc := 31) fl_X8_16 rfl dX8_init_31 (fun a_235 => ?_)
    refine S_iload_n (pc := 34) dX8_init_34 rfl ?_
    refine S_new (pc := 35) (c := 6) rfl w27 w28 w2 ⟨rfl, rfl⟩ dX8_init_35 (fun a_236 => ?_)
    refine S_dup (pc := 38) rfl dX8_init_38 ?_
    refine Y_I (pc := 39) (st := [.ref a_236, .int v1, .ref a_235]) (kc' := 346) (ks' := 8565) (ktX6_init a_236) mw_X6_init rfl rfl w30 w29 (RO.mk rfl rfl rfl rfl) rfl rfl rfl dX8_init_39 ⟨rfl, rfl⟩ ?_
    refine S_stP (pc := 42) (c := 6) (by decide) dX8_init_42 ?_
    refine Z_iinc (pc := 43) (v := (nI 1)) (lv' := [some (.ref r0), some (.int (v1 + (nI 1)))]) dX8_init_43 rfl kI_1 rfl rfl rfl ?_
    refine S_goto (pc := 46) (tgt := 25) dX8_init_46 (by decide) ?_
    exact (sX8_init_25_n2 r0 (v1 + (nI 1)))
theorem sX8_init_25_n4 (r0 : Nat) (v1 : Int32) : Sm mX8_init rV 208 5141 25 [some (.ref r0), some (.int v1)] [] (lX8_init_25 4 r0 v1) := by
  show Sm mX8_init rV 208 5141 25 [some (.ref r0), some (.int v1)] [] (bX8_init_25 (lX8_init_25 3) r0 v1)
  unfold bX8_init_25
  refine S_iload_n (pc := 25) dX8_init_25 rfl ?_
  refine S_iconst (pc := 26) (v := (nI 5)) dX8_init_26 kI_5 ?_
  refine S_icmpge (pc := 27) (tgt := 49) dX8_init_27 (by decide) ?_ ?_
  · refine S_aload_n (pc := 49) dX8_init_49 rfl ?_
    refine S_iconst (pc := 50) (v := (nI 0)) dX8_init_50 kI_0 ?_
    refine S_pI (pc := 51) fl_X8_20 rfl rfl dX8_init_51 ?_
    refine S_aload_n (pc := 54) dX8_init_54 rfl ?_
    refine S_iconst (pc := 55) (v := (nI 0)) dX8_init_55 kI_0 ?_
    refine S_pI (pc := 56) fl_X8_24 rfl rfl dX8_init_56 ?_
    refine S_aload_n (pc := 59) dX8_init_59 rfl ?_
    refine S_new (pc := 60) (c := 5) rfl w284 w285 w7 ⟨rfl, rfl⟩ dX8_init_60 (fun a_237 => ?_)
    refine S_dup (pc := 63) rfl dX8_init_63 ?_
    refine Y_IN (pc := 64) (st := [.ref a_237, .ref r0]) (kc' := 209) (ks' := 5145) (ktX5_init a_237) mw_X5_init rfl rfl w287 nw_X8_29_X5_init (RO.mk rfl rfl rfl rfl) rfl rfl rfl dX8_init_64 ⟨rfl, rfl⟩ ?_
    refine S_pF (pc := 67) fl_X8_30 rfl rfl rfl (fun r hr => by cases hr; rfl) dX8_init_67 ?_
    refine S_aload_n (pc := 70) dX8_init_70 rfl ?_
    refine S_new (pc := 71) (c := 0) rfl w311 w167 w5 ⟨rfl, rfl⟩ dX8_init_71 (fun a_238 => ?_)
    refine S_dup (pc := 74) rfl dX8_init_74 ?_
    refine Y_IN (pc := 75) (st := [.ref a_238, .ref r0]) (kc' := 211) (ks' := 5161) (ktX0_init a_238) mw_X0_init rfl rfl w169 nw_X8_36_X0_init (RO.mk rfl rfl rfl rfl) rfl rfl rfl dX8_init_75 ⟨rfl, rfl⟩ ?_
    refine S_pF (pc := 78) fl_X8_37 rfl rfl rfl (fun r hr => by cases hr; rfl) dX8_init_78 ?_
    refine S_aload_n (pc := 81) dX8_init_81 rfl ?_
    refine S_iconst (pc := 82) (v := (nI 2)) dX8_init_82 kI_2 ?_
    refine S_nwP (pc := 83) (c := 1) (N := 2) (by decide) rfl (by decide +kernel) w313 (by decide) ⟨rfl, rfl, rfl⟩ dX8_init_83 (fun a_239 => ?_)
    refine S_pF (pc := 86) fl_X8_43 rfl rfl rfl (fun r hr => by cases hr; rfl) dX8_init_86 ?_
    refine S_aload_n (pc := 89) dX8_init_89 rfl ?_
    refine S_iconst (pc := 90) (v := (nI 2)) dX8_init_90 kI_2 ?_
    refine S_nwP (pc := 91) (c := 3) (N := 2) (by decide) rfl (by decide +kernel) w315 (by decide) ⟨rfl, rfl, rfl⟩ dX8_init_91 (fun a_240 => ?_)
    refine S_pF (pc := 94) fl_X8_49 rfl rfl rfl (fun r hr => by cases hr; rfl) dX8_init_94 ?_
    refine S_iconst (pc := 97) (v := (nI 0)) dX8_init_97 kI_0 ?_
    refine Z_istore_n (pc := 98) (lv' := [some (.ref r0), some (.int (nI 0))]) dX8_init_98 rfl rfl rfl ?_
    exact (S_widen rfl rfl (sX8_init_99_n3 r0 (nI 0)))
  · refine S_aload_n (pc := 30) dX8_init_30 rfl ?_
    refine S_gP (pc := 31) fl_X8_16 rfl dX8_init_31 (fun a_241 => ?_)
    refine S_iload_n (pc := 34) dX8_init_34 rfl ?_
    refine S_new (pc := 35) (c := 6) rfl w27 w28 w2 ⟨rfl, rfl⟩ dX8_init_35 (fun a_242 => ?_)
    refine S_dup (pc := 38) rfl dX8_init_38 ?_
    refine Y_I (pc := 39) (st := [.ref a_242, .int v1, .ref a_241]) (kc' := 277) (ks' := 6853) (ktX6_init a_242) mw_X6_init rfl rfl w30 w29 (RO.mk rfl rfl rfl rfl) rfl rfl rfl dX8_init_39 ⟨rfl, rfl⟩ ?_
    refine S_stP (pc := 42) (c := 6) (by decide) dX8_init_42 ?_
    refine Z_iinc (pc := 43) (v := (nI 1)) (lv' := [some (.ref r0), some (.int (v1 + (nI 1)))]) dX8_init_43 rfl kI_1 rfl rfl rfl ?_
    refine S_goto (pc := 46) (tgt := 25) dX8_init_46 (by decide) ?_
    exact (sX8_init_25_n3 r0 (v1 + (nI 1)))
theorem sX8_init_25_n5 (r0 : Nat) (v1 : Int32) : Sm mX8_init rV 139 3429 25 [some (.ref r0), some (.int v1)] [] (lX8_init_25 5 r0 v1) := by
  show Sm mX8_init rV 139 3429 25 [some (.ref r0), some (.int v1)] [] (bX8_init_25 (lX8_init_25 4) r0 v1)
  unfold bX8_init_25
  refine S_iload_n (pc := 25) dX8_init_25 rfl ?_
  refine S_iconst (pc := 26) (v := (nI 5)) dX8_init_26 kI_5 ?_
  refine S_icmpge (pc := 27) (tgt := 49) dX8_init_27 (by decide) ?_ ?_
  · refine S_aload_n (pc := 49) dX8_init_49 rfl ?_
    refine S_iconst (pc := 50) (v := (nI 0)) dX8_init_50 kI_0 ?_
    refine S_pI (pc := 51) fl_X8_20 rfl rfl dX8_init_51 ?_
    refine S_aload_n (pc := 54) dX8_init_54 rfl ?_
    refine S_iconst (pc := 55) (v := (nI 0)) dX8_init_55 kI_0 ?_
    refine S_pI (pc := 56) fl_X8_24 rfl rfl dX8_init_56 ?_
    refine S_aload_n (pc := 59) dX8_init_59 rfl ?_
    refine S_new (pc := 60) (c := 5) rfl w284 w285 w7 ⟨rfl, rfl⟩ dX8_init_60 (fun a_243 => ?_)
    refine S_dup (pc := 63) rfl dX8_init_63 ?_
    refine Y_IN (pc := 64) (st := [.ref a_243, .ref r0]) (kc' := 140) (ks' := 3433) (ktX5_init a_243) mw_X5_init rfl rfl w287 nw_X8_29_X5_init (RO.mk rfl rfl rfl rfl) rfl rfl rfl dX8_init_64 ⟨rfl, rfl⟩ ?_
    refine S_pF (pc := 67) fl_X8_30 rfl rfl rfl (fun r hr => by cases hr; rfl) dX8_init_67 ?_
    refine S_aload_n (pc := 70) dX8_init_70 rfl ?_
    refine S_new (pc := 71) (c := 0) rfl w311 w167 w5 ⟨rfl, rfl⟩ dX8_init_71 (fun a_244 => ?_)
    refine S_dup (pc := 74) rfl dX8_init_74 ?_
    refine Y_IN (pc := 75) (st := [.ref a_244, .ref r0]) (kc' := 142) (ks' := 3449) (ktX0_init a_244) mw_X0_init rfl rfl w169 nw_X8_36_X0_init (RO.mk rfl rfl rfl rfl) rfl rfl rfl dX8_init_75 ⟨rfl, rfl⟩ ?_
    refine S_pF (pc := 78) fl_X8_37 rfl rfl rfl (fun r hr => by cases hr; rfl) dX8_init_78 ?_
    refine S_aload_n (pc := 81) dX8_init_81 rfl ?_
    refine S_iconst (pc := 82) (v := (nI 2)) dX8_init_82 kI_2 ?_
    refine S_nwP (pc := 83) (c := 1) (N := 2) (by decide) rfl (by decide +kernel) w313 (by decide) ⟨rfl, rfl, rfl⟩ dX8_init_83 (fun a_245 => ?_)
    refine S_pF (pc := 86) fl_X8_43 rfl rfl rfl (fun r hr => by cases hr; rfl) dX8_init_86 ?_
    refine S_aload_n (pc := 89) dX8_init_89 rfl ?_
    refine S_iconst (pc := 90) (v := (nI 2)) dX8_init_90 kI_2 ?_
    refine S_nwP (pc := 91) (c := 3) (N := 2) (by decide) rfl (by decide +kernel) w315 (by decide) ⟨rfl, rfl, rfl⟩ dX8_init_91 (fun a_246 => ?_)
    refine S_pF (pc := 94) fl_X8_49 rfl rfl rfl (fun r hr => by cases hr; rfl) dX8_init_94 ?_
    refine S_iconst (pc := 97) (v := (nI 0)) dX8_init_97 kI_0 ?_
    refine Z_istore_n (pc := 98) (lv' := [some (.ref r0), some (.int (nI 0))]) dX8_init_98 rfl rfl rfl ?_
    exact (S_widen rfl rfl (sX8_init_99_n3 r0 (nI 0)))
  · refine S_aload_n (pc := 30) dX8_init_30 rfl ?_
    refine S_gP (pc := 31) fl_X8_16 rfl dX8_init_31 (fun a_247 => ?_)
    refine S_iload_n (pc := 34) dX8_init_34 rfl ?_
    refine S_new (pc := 35) (c := 6) rfl w27 w28 w2 ⟨rfl, rfl⟩ dX8_init_35 (fun a_248 => ?_)
    refine S_dup (pc := 38) rfl dX8_init_38 ?_
    refine Y_I (pc := 39) (st := [.ref a_248, .int v1, .ref a_247]) (kc' := 208) (ks' := 5141) (ktX6_init a_248) mw_X6_init rfl rfl w30 w29 (RO.mk rfl rfl rfl rfl) rfl rfl rfl dX8_init_39 ⟨rfl, rfl⟩ ?_
    refine S_stP (pc := 42) (c := 6) (by decide) dX8_init_42 ?_
    refine Z_iinc (pc := 43) (v := (nI 1)) (lv' := [some (.ref r0), some (.int (v1 + (nI 1)))]) dX8_init_43 rfl kI_1 rfl rfl rfl ?_
    refine S_goto (pc := 46) (tgt := 25) dX8_init_46 (by decide) ?_
    exact (sX8_init_25_n4 r0 (v1 + (nI 1)))
theorem sX8_init_25_n6 (r0 : Nat) (v1 : Int32) : Sm mX8_init rV 70 1717 25 [some (.ref r0), some (.int v1)] [] (lX8_init_25 6 r0 v1) := by
  show Sm mX8_init rV 70 1717 25 [some (.ref r0), some (.int v1)] [] (bX8_init_25 (lX8_init_25 5) r0 v1)
  unfold bX8_init_25
  refine S_iload_n (pc := 25) dX8_init_25 rfl ?_
  refine S_iconst (pc := 26) (v := (nI 5)) dX8_init_26 kI_5 ?_
  refine S_icmpge (pc := 27) (tgt := 49) dX8_init_27 (by decide) ?_ ?_
  · refine S_aload_n (pc := 49) dX8_init_49 rfl ?_
    refine S_iconst (pc := 50) (v := (nI 0)) dX8_init_50 kI_0 ?_
    refine S_pI (pc := 51) fl_X8_20 rfl rfl dX8_init_51 ?_
    refine S_aload_n (pc := 54) dX8_init_54 rfl ?_
    refine S_iconst (pc := 55) (v := (nI 0)) dX8_init_55 kI_0 ?_
    refine S_pI (pc := 56) fl_X8_24 rfl rfl dX8_init_56 ?_
    refine S_aload_n (pc := 59) dX8_init_59 rfl ?_
    refine S_new (pc := 60) (c := 5) rfl w284 w285 w7 ⟨rfl, rfl⟩ dX8_init_60 (fun a_249 => ?_)
    refine S_dup (pc := 63) rfl dX8_init_63 ?_
    refine Y_IN (pc := 64) (st := [.ref a_249, .ref r0]) (kc' := 71) (ks' := 1721) (ktX5_init a_249) mw_X5_init rfl rfl w287 nw_X8_29_X5_init (RO.mk rfl rfl rfl rfl) rfl rfl rfl dX8_init_64 ⟨rfl, rfl⟩ ?_
    refine S_pF (pc := 67) fl_X8_30 rfl rfl rfl (fun r hr => by cases hr; rfl) dX8_init_67 ?_
    refine S_aload_n (pc := 70) dX8_init_70 rfl ?_
    refine S_new (pc := 71) (c := 0) rfl w311 w167 w5 ⟨rfl, rfl⟩ dX8_init_71 (fun a_250 => ?_)
    refine S_dup (pc := 74) rfl dX8_init_74 ?_
    refine Y_IN (pc := 75) (st := [.ref a_250, .ref r0]) (kc' := 73) (ks' := 1737) (ktX0_init a_250) mw_X0_init rfl rfl w169 nw_X8_36_X0_init (RO.mk rfl rfl rfl rfl) rfl rfl rfl dX8_init_75 ⟨rfl, rfl⟩ ?_
    refine S_pF (pc := 78) fl_X8_37 rfl rfl rfl (fun r hr => by cases hr; rfl) dX8_init_78 ?_
    refine S_aload_n (pc := 81) dX8_init_81 rfl ?_
    refine S_iconst (pc := 82) (v := (nI 2)) dX8_init_82 kI_2 ?_
    refine S_nwP (pc := 83) (c := 1) (N := 2) (by decide) rfl (by decide +kernel) w313 (by decide) ⟨rfl, rfl, rfl⟩ dX8_init_83 (fun a_251 => ?_)
    refine S_pF (pc := 86) fl_X8_43 rfl rfl rfl (fun r hr => by cases hr; rfl) dX8_init_86 ?_
    refine S_aload_n (pc := 89) dX8_init_89 rfl ?_
    refine S_iconst (pc := 90) (v := (nI 2)) dX8_init_90 kI_2 ?_
    refine S_nwP (pc := 91) (c := 3) (N := 2) (by decide) rfl (by decide +kernel) w315 (by decide) ⟨rfl, rfl, rfl⟩ dX8_init_91 (fun a_252 => ?_)
    refine S_pF (pc := 94) fl_X8_49 rfl rfl rfl (fun r hr => by cases hr; rfl) dX8_init_94 ?_
    refine S_iconst (pc := 97) (v := (nI 0)) dX8_init_97 kI_0 ?_
    refine Z_istore_n (pc := 98) (lv' := [some (.ref r0), some (.int (nI 0))]) dX8_init_98 rfl rfl rfl ?_
    exact (S_widen rfl rfl (sX8_init_99_n3 r0 (nI 0)))
  · refine S_aload_n (pc := 30) dX8_init_30 rfl ?_
    refine S_gP (pc := 31) fl_X8_16 rfl dX8_init_31 (fun a_253 => ?_)
    refine S_iload_n (pc := 34) dX8_init_34 rfl ?_
    refine S_new (pc := 35) (c := 6) rfl w27 w28 w2 ⟨rfl, rfl⟩ dX8_init_35 (fun a_254 => ?_)
    refine S_dup (pc := 38) rfl dX8_init_38 ?_
    refine Y_I (pc := 39) (st := [.ref a_254, .int v1, .ref a_253]) (kc' := 139) (ks' := 3429) (ktX6_init a_254) mw_X6_init rfl rfl w30 w29 (RO.mk rfl rfl rfl rfl) rfl rfl rfl dX8_init_39 ⟨rfl, rfl⟩ ?_
    refine S_stP (pc := 42) (c := 6) (by decide) dX8_init_42 ?_
    refine Z_iinc (pc := 43) (v := (nI 1)) (lv' := [some (.ref r0), some (.int (v1 + (nI 1)))]) dX8_init_43 rfl kI_1 rfl rfl rfl ?_
    refine S_goto (pc := 46) (tgt := 25) dX8_init_46 (by decide) ?_
    exact (sX8_init_25_n5 r0 (v1 + (nI 1)))
theorem sX8_init  (r0 : Nat) : Sm mX8_init rV 0 0 0 [some (.ref r0), none] [] (fX8_init r0) := by
  unfold fX8_init
  refine S_aload_n (pc := 0) dX8_init_0 rfl ?_
  refine S_obj (pc := 1) w24 w25 w26 ⟨rfl, rfl⟩ dX8_init_1 ?_
  refine S_aload_n (pc := 4) dX8_init_4 rfl ?_
  refine S_new (pc := 5) (c := 6) rfl w27 w28 w2 ⟨rfl, rfl⟩ dX8_init_5 (fun a_255 => ?_)
  refine S_dup (pc := 8) rfl dX8_init_8 ?_
  refine Y_I (pc := 9) (st := [.ref a_255, .ref r0]) (kc' := 69) (ks' := 1712) (ktX6_init a_255) mw_X6_init rfl rfl w30 w29 (RO.mk rfl rfl rfl rfl) rfl rfl rfl dX8_init_9 ⟨rfl, rfl⟩ ?_
  refine S_pF (pc := 12) fl_X8_10 rfl rfl rfl (fun r hr => by cases hr; rfl) dX8_init_12 ?_
  refine S_aload_n (pc := 15) dX8_init_15 rfl ?_
  refine S_iconst (pc := 16) (v := (nI 5)) dX8_init_16 kI_5 ?_
  refine S_nwP (pc := 17) (c := 6) (N := 5) (by decide) rfl (by decide +kernel) w27 (by decide) ⟨rfl, rfl, rfl⟩ dX8_init_17 (fun a_256 => ?_)
  refine S_pF (pc := 20) fl_X8_16 rfl rfl rfl (fun r hr => by cases hr; rfl) dX8_init_20 ?_
  refine S_iconst (pc := 23) (v := (nI 0)) dX8_init_23 kI_0 ?_
  refine Z_istore_n (pc := 24) (lv' := [some (.ref r0), some (.int (nI 0))]) dX8_init_24 rfl rfl rfl ?_
  exact (sX8_init_25_n6 r0 (nI 0))
theorem ktX8_init (r0 : Nat) : Ct mX8_init rV [.ref r0] (fX8_init r0) := Ct.of (z := 1) pn_X8 rfl rfl rfl (sX8_init r0)
def mX8_isClassValue : MI := (yX8_isClassValue, cX8_isClassValue, 4, (some .boolean), { frames := 2, cells := 0, slots := 0, locals := 43 }, [])
theorem mw_X8_isClassValue : MW mX8_isClassValue 4 := ⟨w852, w1, ⟨by decide, by decide⟩, by decide +kernel⟩
def fX8_isClassValue  (r0 : Nat) (v1 : Int32) (v2 : Int32) (v3 : Int32) : AH → Option (Int32 × AH) := fun h =>
  if v2 = (nI 0) then (
    if v3 = 0 then (
      rz (nI 1) (nI 1) h)
    else
    if v3 = (nI 1) then (
      rz (nI 1) (nI 1) h)
    else
    rz (nI 0) (nI 0) h)
  else
  if v2 = (nI 1) then (
    if v3 = 0 then (
      rz (nI 1) (nI 1) h)
    else
    if v3 = (nI 1) then (
      rz (nI 1) (nI 1) h)
    else
    rz (nI 0) (nI 0) h)
  else
  if v2 = (nI 2) then (
    if v3 = 0 then (
      rz (nI 1) (nI 1) h)
    else
    if v3 = (nI 1) then (
      rz (nI 1) (nI 1) h)
    else
    rz (nI 0) (nI 0) h)
  else
  if v2 = (nI 3) then (
    if v3 < 0 then (
      rz (nI 0) (nI 0) h)
    else
    if (nI 4) ≤ v3 then (
      rz (nI 0) (nI 0) h)
    else
    rz (nI 1) (nI 1) h)
  else
  if v2 = (nI 4) then (
    cv 2 r0 (fX2_isInterface r0 v1) h fun x_4 h =>
    if x_4 = 0 then (
      cv 2 r0 (fX2_canHaveSuperclass r0 v1 v3) h fun x_5 h =>
      if x_5 = 0 then (
        rz (nI 0) (nI 0) h)
      else
      rz (nI 1) (nI 1) h)
    else
    rz (nI 1) (nI 1) h)
  else
  if v2 = (nI 5) then (
    cv 2 r0 (fX2_canHaveInterfaces r0 v1 v3) h fun x_6 h =>
    rz x_6 x_6 h)
  else
  rz (nI 0) (nI 0) h
theorem sX8_isClassValue  (r0 : Nat) (v1 : Int32) (v2 : Int32) (v3 : Int32) : Sm mX8_isClassValue rI 0 0 0 [some (.ref r0), some (.int v1), some (.int v2), some (.int v3)] [] (fX8_isClassValue r0 v1 v2 v3) := by
  unfold fX8_isClassValue
  refine S_iload_n (pc := 0) dX8_isClassValue_0 rfl ?_
  refine S_case (x := v2) (v := (nI 0)) (fun n0 => ?_) (fun n0 => ?_)
  · refine S_tsI (pc := 1) (tgt := 40) n0 dX8_isClassValue_1 (by decide) rfl (by decide) ?_
    refine S_iload_n (pc := 40) dX8_isClassValue_40 rfl ?_
    refine S_ifeq (pc := 41) (tgt := 49) dX8_isClassValue_41 (by decide) ?_ ?_
    · refine S_iconst (pc := 49) (v := (nI 1)) dX8_isClassValue_49 kI_1 ?_
      refine S_goto (pc := 50) (tgt := 54) dX8_isClassValue_50 (by decide) ?_
      exact S_zret (pc := 54) ⟨rfl, rfl⟩ rfl rfl dX8_isClassValue_54
    · refine S_iload_n (pc := 44) dX8_isClassValue_44 rfl ?_
      refine S_iconst (pc := 45) (v := (nI 1)) dX8_isClassValue_45 kI_1 ?_
      refine S_icmpne (pc := 46) (tgt := 53) dX8_isClassValue_46 (by decide) ?_ ?_
      · refine S_iconst (pc := 53) (v := (nI 0)) dX8_isClassValue_53 kI_0 ?_
        exact S_zret (pc := 54) ⟨rfl, rfl⟩ rfl rfl dX8_isClassValue_54
      · refine S_iconst (pc := 49) (v := (nI 1)) dX8_isClassValue_49 kI_1 ?_
        refine S_goto (pc := 50) (tgt := 54) dX8_isClassValue_50 (by decide) ?_
        exact S_zret (pc := 54) ⟨rfl, rfl⟩ rfl rfl dX8_isClassValue_54
  refine S_case (x := v2) (v := (nI 1)) (fun n1 => ?_) (fun n1 => ?_)
  · refine S_tsI (pc := 1) (tgt := 40) n1 dX8_isClassValue_1 (by decide) rfl (by decide) ?_
    refine S_iload_n (pc := 40) dX8_isClassValue_40 rfl ?_
    refine S_ifeq (pc := 41) (tgt := 49) dX8_isClassValue_41 (by decide) ?_ ?_
    · refine S_iconst (pc := 49) (v := (nI 1)) dX8_isClassValue_49 kI_1 ?_
      refine S_goto (pc := 50) (tgt := 54) dX8_isClassValue_50 (by decide) ?_
      exact S_zret (pc := 54) ⟨rfl, rfl⟩ rfl rfl dX8_isClassValue_54
    · refine S_iload_n (pc := 44) dX8_isClassValue_44 rfl ?_
      refine S_iconst (pc := 45) (v := (nI 1)) dX8_isClassValue_45 kI_1 ?_
      refine S_icmpne (pc := 46) (tgt := 53) dX8_isClassValue_46 (by decide) ?_ ?_
      · refine S_iconst (pc := 53) (v := (nI 0)) dX8_isClassValue_53 kI_0 ?_
        exact S_zret (pc := 54) ⟨rfl, rfl⟩ rfl rfl dX8_isClassValue_54
      · refine S_iconst (pc := 49) (v := (nI 1)) dX8_isClassValue_49 kI_1 ?_
        refine S_goto (pc := 50) (tgt := 54) dX8_isClassValue_50 (by decide) ?_
        exact S_zret (pc := 54) ⟨rfl, rfl⟩ rfl rfl dX8_isClassValue_54
  refine S_case (x := v2) (v := (nI 2)) (fun n2 => ?_) (fun n2 => ?_)
  · refine S_tsI (pc := 1) (tgt := 40) n2 dX8_isClassValue_1 (by decide) rfl (by decide) ?_
    refine S_iload_n (pc := 40) dX8_isClassValue_40 rfl ?_
    refine S_ifeq (pc := 41) (tgt := 49) dX8_isClassValue_41 (by decide) ?_ ?_
    · refine S_iconst (pc := 49) (v := (nI 1)) dX8_isClassValue_49 kI_1 ?_
      refine S_goto (pc := 50) (tgt := 54) dX8_isClassValue_50 (by decide) ?_
      exact S_zret (pc := 54) ⟨rfl, rfl⟩ rfl rfl dX8_isClassValue_54
    · refine S_iload_n (pc := 44) dX8_isClassValue_44 rfl ?_
      refine S_iconst (pc := 45) (v := (nI 1)) dX8_isClassValue_45 kI_1 ?_
      refine S_icmpne (pc := 46) (tgt := 53) dX8_isClassValue_46 (by decide) ?_ ?_
      · refine S_iconst (pc := 53) (v := (nI 0)) dX8_isClassValue_53 kI_0 ?_
        exact S_zret (pc := 54) ⟨rfl, rfl⟩ rfl rfl dX8_isClassValue_54
      · refine S_iconst (pc := 49) (v := (nI 1)) dX8_isClassValue_49 kI_1 ?_
        refine S_goto (pc := 50) (tgt := 54) dX8_isClassValue_50 (by decide) ?_
        exact S_zret (pc := 54) ⟨rfl, rfl⟩ rfl rfl dX8_isClassValue_54
  refine S_case (x := v2) (v := (nI 3)) (fun n3 => ?_) (fun n3 => ?_)
  · refine S_tsI (pc := 1) (tgt := 55) n3 dX8_isClassValue_1 (by decide) rfl (by decide) ?_
    refine S_iload_n (pc := 55) dX8_isClassValue_55 rfl ?_
    refine S_iflt (pc := 56) (tgt := 68) dX8_isClassValue_56 (by decide) ?_ ?_
    · refine S_iconst (pc := 68) (v := (nI 0)) dX8_isClassValue_68 kI_0 ?_
      exact S_zret (pc := 69) ⟨rfl, rfl⟩ rfl rfl dX8_isClassValue_69
    · refine S_iload_n (pc := 59) dX8_isClassValue_59 rfl ?_
      refine S_iconst (pc := 60) (v := (nI 4)) dX8_isClassValue_60 kI_4 ?_
      refine S_icmpge (pc := 61) (tgt := 68) dX8_isClassValue_61 (by decide) ?_ ?_
      · refine S_iconst (pc := 68) (v := (nI 0)) dX8_isClassValue_68 kI_0 ?_
        exact S_zret (pc := 69) ⟨rfl, rfl⟩ rfl rfl dX8_isClassValue_69
      · refine S_iconst (pc := 64) (v := (nI 1)) dX8_isClassValue_64 kI_1 ?_
        refine S_goto (pc := 65) (tgt := 69) dX8_isClassValue_65 (by decide) ?_
        exact S_zret (pc := 69) ⟨rfl, rfl⟩ rfl rfl dX8_isClassValue_69
  refine S_case (x := v2) (v := (nI 4)) (fun n4 => ?_) (fun n4 => ?_)
  · refine S_tsI (pc := 1) (tgt := 70) n4 dX8_isClassValue_1 (by decide) rfl (by decide) ?_
    refine S_aload_n (pc := 70) dX8_isClassValue_70 rfl ?_
    refine S_iload_n (pc := 71) dX8_isClassValue_71 rfl ?_
    refine Y_Vi (pc := 72) (st := []) (kc' := 0) (ks' := 0) (ktX2_isInterface r0 v1) mw_X2_isInterface mv_X2_isInterface w853 (RO.mk rfl rfl rfl rfl) rfl rfl rfl dX8_isClassValue_72 ⟨rfl, rfl⟩ (fun x_4 => ?_)
    refine S_ifne (pc := 75) (tgt := 87) dX8_isClassValue_75 (by decide) ?_ ?_
    · refine S_iconst (pc := 87) (v := (nI 1)) dX8_isClassValue_87 kI_1 ?_
      refine S_goto (pc := 88) (tgt := 92) dX8_isClassValue_88 (by decide) ?_
      exact S_zret (pc := 92) ⟨rfl, rfl⟩ rfl rfl dX8_isClassValue_92
    · refine S_aload_n (pc := 78) dX8_isClassValue_78 rfl ?_
      refine S_iload_n (pc := 79) dX8_isClassValue_79 rfl ?_
      refine S_iload_n (pc := 80) dX8_isClassValue_80 rfl ?_
      refine Y_Vi (pc := 81) (st := []) (kc' := 0) (ks' := 0) (ktX2_canHaveSuperclass r0 v1 v3) mw_X2_canHaveSuperclass mv_X2_canHaveSuperclass w764 (RO.mk rfl rfl rfl rfl) rfl rfl rfl dX8_isClassValue_81 ⟨rfl, rfl⟩ (fun x_5 => ?_)
      refine S_ifeq (pc := 84) (tgt := 91) dX8_isClassValue_84 (by decide) ?_ ?_
      · refine S_iconst (pc := 91) (v := (nI 0)) dX8_isClassValue_91 kI_0 ?_
        exact S_zret (pc := 92) ⟨rfl, rfl⟩ rfl rfl dX8_isClassValue_92
      · refine S_iconst (pc := 87) (v := (nI 1)) dX8_isClassValue_87 kI_1 ?_
        refine S_goto (pc := 88) (tgt := 92) dX8_isClassValue_88 (by decide) ?_
        exact S_zret (pc := 92) ⟨rfl, rfl⟩ rfl rfl dX8_isClassValue_92
  refine S_case (x := v2) (v := (nI 5)) (fun n5 => ?_) (fun n5 => ?_)
  · refine S_tsI (pc := 1) (tgt := 93) n5 dX8_isClassValue_1 (by decide) rfl (by decide) ?_
    refine S_aload_n (pc := 93) dX8_isClassValue_93 rfl ?_
    refine S_iload_n (pc := 94) dX8_isClassValue_94 rfl ?_
    refine S_iload_n (pc := 95) dX8_isClassValue_95 rfl ?_
    refine Y_Vi (pc := 96) (st := []) (kc' := 0) (ks' := 0) (ktX2_canHaveInterfaces r0 v1 v3) mw_X2_canHaveInterfaces mv_X2_canHaveInterfaces w785 (RO.mk rfl rfl rfl rfl) rfl rfl rfl dX8_isClassValue_96 ⟨rfl, rfl⟩ (fun x_6 => ?_)
    exact S_zret (pc := 99) ⟨rfl, rfl⟩ rfl rfl dX8_isClassValue_99
  refine S_tsD (pc := 1) (tgt := 100) (by have n0 := lv_neT (a := 0) n0 rfl; have n1 := lv_neT (a := 1) n1 rfl; have n2 := lv_neT (a := 2) n2 rfl; have n3 := lv_neT (a := 3) n3 rfl; have n4 := lv_neT (a := 4) n4 rfl; have n5 := lv_neT (a := 5) n5 rfl; omega) dX8_isClassValue_1 (by decide) ?_
  refine S_iconst (pc := 100) (v := (nI 0)) dX8_isClassValue_100 kI_0 ?_
  exact S_zret (pc := 101) ⟨rfl, rfl⟩ rfl rfl dX8_isClassValue_101
theorem ktX8_isClassValue (r0 : Nat) (v1 : Int32) (v2 : Int32) (v3 : Int32) : Ct mX8_isClassValue rI [.ref r0, .int v1, .int v2, .int v3] (fX8_isClassValue r0 v1 v2 v3) := Ct.of (z := 0) pn_X8 rfl rfl rfl (sX8_isClassValue r0 v1 v2 v3)
def mX8_isConstantValue : MI := (yX8_isConstantValue, cX8_isConstantValue, 1, (some .boolean), { frames := 0, cells := 0, slots := 0, locals := 0 }, [])
theorem mw_X8_isConstantValue : MW mX8_isConstantValue 1 := ⟨w973, w1, ⟨by decide, by decide⟩, by decide +kernel⟩
def fX8_isConstantValue  (v0 : Int32) : AH → Option (Int32 × AH) := fun h =>
  if v0 < (-99 : Int32) then (
    rz (nI 0) (nI 0) h)
  else
  if (nI 99) < v0 then (
    rz (nI 0) (nI 0) h)
  else
  rz (nI 1) (nI 1) h
theorem sX8_isConstantValue  (v0 : Int32) : Sm mX8_isConstantValue rI 0 0 0 [some (.int v0)] [] (fX8_isConstantValue v0) := by
  unfold fX8_isConstantValue
  refine S_iload_n (pc := 0) dX8_isConstantValue_0 rfl ?_
  refine S_bipush (pc := 1) (v := (-99 : Int32)) dX8_isConstantValue_1 kB_m99 ?_
  refine S_icmplt (pc := 3) (tgt := 16) dX8_isConstantValue_3 (by decide) ?_ ?_
  · refine S_iconst (pc := 16) (v := (nI 0)) dX8_isConstantValue_16 kI_0 ?_
    exact S_zret (pc := 17) ⟨rfl, rfl⟩ rfl rfl dX8_isConstantValue_17
  · refine S_iload_n (pc := 6) dX8_isConstantValue_6 rfl ?_
    refine S_bipush (pc := 7) (v := (nI 99)) dX8_isConstantValue_7 kB_99 ?_
    refine S_icmpgt (pc := 9) (tgt := 16) dX8_isConstantValue_9 (by decide) ?_ ?_
    · refine S_iconst (pc := 16) (v := (nI 0)) dX8_isConstantValue_16 kI_0 ?_
      exact S_zret (pc := 17) ⟨rfl, rfl⟩ rfl rfl dX8_isConstantValue_17
    · refine S_iconst (pc := 12) (v := (nI 1)) dX8_isConstantValue_12 kI_1 ?_
      refine S_goto (pc := 13) (tgt := 17) dX8_isConstantValue_13 (by decide) ?_
      exact S_zret (pc := 17) ⟨rfl, rfl⟩ rfl rfl dX8_isConstantValue_17
theorem ktX8_isConstantValue (v0 : Int32) : Ct mX8_isConstantValue rI [.int v0] (fX8_isConstantValue v0) := Ct.of (z := 0) pn_X8 rfl rfl rfl (sX8_isConstantValue v0)
def mX8_isMemberValue : MI := (yX8_isMemberValue, cX8_isMemberValue, 9, (some .boolean), { frames := 2, cells := 0, slots := 0, locals := 44 }, [])
theorem mw_X8_isMemberValue : MW mX8_isMemberValue 4 := ⟨w970, w1, ⟨by decide, by decide⟩, by decide +kernel⟩
def fX8_isMemberValue_30  (r0 : Nat) (v1 : Int32) (v2 : Int32) (v3 : Int32) (r4 : Nat) (v5 : Int32) (s0 : Int32) : AH → Option (Int32 × AH) := fun h =>
  (gP 4 r4 1 h).bind fun a_37 =>
  (ldI a_37 v1 h).bind fun x_38 =>
  (gP 4 r4 2 h).bind fun a_39 =>
  (ldI a_39 v1 h).bind fun x_40 =>
  if v2 = (nI 0) then (
    bd (fX8_isAccess v3 h) fun x_41 h =>
    if x_41 = 0 then (
      rz (nI 0) (nI 0) h)
    else
    if s0 = 0 then (
      cv 2 r0 (fX2_allowsMethod r0 v5 v3 x_40) h fun x_42 h =>
      if x_42 = 0 then (
        rz (nI 0) (nI 0) h)
      else
      rz (nI 1) (nI 1) h)
    else
    cv 2 r0 (fX2_allowsField r0 v5 v3 x_40) h fun x_43 h =>
    if x_43 = 0 then (
      rz (nI 0) (nI 0) h)
    else
    rz (nI 1) (nI 1) h)
  else
  if v2 = (nI 1) then (
    if s0 = 0 then (
      cv 2 r0 (fX2_allowsMethod r0 v5 x_38 v3) h fun x_44 h =>
      rz x_44 x_44 h)
    else
    cv 2 r0 (fX2_allowsField r0 v5 x_38 v3) h fun x_45 h =>
    rz x_45 x_45 h)
  else
  if v2 = (nI 2) then (
    if s0 = 0 then (
      rz (nI 0) (nI 0) h)
    else
    if v3 = (-2 : Int32) then (
      rz (nI 1) (nI 1) h)
    else
    bd (fX8_isConstantValue v3 h) fun x_46 h =>
    if x_46 = 0 then (
      rz (nI 0) (nI 0) h)
    else
    cv 4 r4 (fX4_isStaticFinal r4 v1) h fun x_47 h =>
    if x_47 = 0 then (
      rz (nI 0) (nI 0) h)
    else
    (gP 4 r4 7 h).bind fun a_48 =>
    (ldI a_48 v1 h).bind fun x_49 =>
    if x_49 = (-1 : Int32) then (
      rz (nI 1) (nI 1) h)
    else
    rz (nI 0) (nI 0) h)
  else
  rz (nI 0) (nI 0) h
def fX8_isMemberValue  (r0 : Nat) (v1 : Int32) (v2 : Int32) (v3 : Int32) : AH → Option (Int32 × AH) := fun h =>
  (gP 2 r0 10 h).bind fun a_50 =>
  (gP 4 a_50 5 h).bind fun a_51 =>
  (ldI a_51 v1 h).bind fun x_52 =>
  (gP 4 a_50 4 h).bind fun a_53 =>
  (ldI a_53 v1 h).bind fun x_54 =>
  if x_54 = 0 then (
    fX8_isMemberValue_30 r0 v1 v2 v3 a_50 x_52 (nI 1) h)
  else
  fX8_isMemberValue_30 r0 v1 v2 v3 a_50 x_52 (nI 0) h
theorem sX8_isMemberValue_30  (r0 : Nat) (v1 : Int32) (v2 : Int32) (v3 : Int32) (r4 : Nat) (v5 : Int32) (s0 : Int32) : Sm mX8_isMemberValue rI 0 0 30 [some (.ref r0), some (.int v1), some (.int v2), some (.int v3), some (.ref r4), some (.int v5), none, none, none] [.int s0] (fX8_isMemberValue_30 r0 v1 v2 v3 r4 v5 s0) := by
  unfold fX8_isMemberValue_30
  refine Z_istore (pc := 30) (lv' := [some (.ref r0), some (.int v1), some (.int v2), some (.int v3), some (.ref r4), some (.int v5), some (.int s0), none, none]) dX8_isMemberValue_30 rfl rfl rfl ?_
  refine S_aload (pc := 32) dX8_isMemberValue_32 rfl ?_
  refine S_gP (pc := 34) fl_X8_273 rfl dX8_isMemberValue_34 (fun a_37 => ?_)
  refine S_iload_n (pc := 37) dX8_isMemberValue_37 rfl ?_
  refine S_ldI (pc := 38) dX8_isMemberValue_38 (fun x_38 => ?_)
  refine Z_istore (pc := 39) (lv' := [some (.ref r0), some (.int v1), some (.int v2), some (.int v3), some (.ref r4), some (.int v5), some (.int s0), some (.int x_38), none]) dX8_isMemberValue_39 rfl rfl rfl ?_
  refine S_aload (pc := 41) dX8_isMemberValue_41 rfl ?_
  refine S_gP (pc := 43) fl_X8_276 rfl dX8_isMemberValue_43 (fun a_39 => ?_)
  refine S_iload_n (pc := 46) dX8_isMemberValue_46 rfl ?_
  refine S_ldI (pc := 47) dX8_isMemberValue_47 (fun x_40 => ?_)
  refine Z_istore (pc := 48) (lv' := [some (.ref r0), some (.int v1), some (.int v2), some (.int v3), some (.ref r4), some (.int v5), some (.int s0), some (.int x_38), some (.int x_40)]) dX8_isMemberValue_48 rfl rfl rfl ?_
  refine S_iload_n (pc := 50) dX8_isMemberValue_50 rfl ?_
  refine S_case (x := v2) (v := (nI 0)) (fun n0 => ?_) (fun n0 => ?_)
  · refine S_tsI (pc := 51) (tgt := 76) n0 dX8_isMemberValue_51 (by decide) rfl (by decide) ?_
    refine S_iload_n (pc := 76) dX8_isMemberValue_76 rfl ?_
    refine Y_Ti (pc := 77) (st := []) (kc' := 0) (ks' := 0) (ktX8_isAccess v3) mw_X8_isAccess w906 w905 (RO.mk rfl rfl rfl rfl) rfl rfl rfl dX8_isMemberValue_77 ⟨rfl, rfl⟩ (fun x_41 => ?_)
    refine S_ifeq (pc := 80) (tgt := 119) dX8_isMemberValue_80 (by decide) ?_ ?_
    · refine S_iconst (pc := 119) (v := (nI 0)) dX8_isMemberValue_119 kI_0 ?_
      exact S_zret (pc := 120) ⟨rfl, rfl⟩ rfl rfl dX8_isMemberValue_120
    · refine S_iload (pc := 83) dX8_isMemberValue_83 rfl ?_
      refine S_ifeq (pc := 85) (tgt := 103) dX8_isMemberValue_85 (by decide) ?_ ?_
      · refine S_aload_n (pc := 103) dX8_isMemberValue_103 rfl ?_
        refine S_iload (pc := 104) dX8_isMemberValue_104 rfl ?_
        refine S_iload_n (pc := 106) dX8_isMemberValue_106 rfl ?_
        refine S_iload (pc := 107) dX8_isMemberValue_107 rfl ?_
        refine Y_Vi (pc := 109) (st := []) (kc' := 0) (ks' := 0) (ktX2_allowsMethod r0 v5 v3 x_40) mw_X2_allowsMethod mv_X2_allowsMethod w929 (RO.mk rfl rfl rfl rfl) rfl rfl rfl dX8_isMemberValue_109 ⟨rfl, rfl⟩ (fun x_42 => ?_)
        refine S_ifeq (pc := 112) (tgt := 119) dX8_isMemberValue_112 (by decide) ?_ ?_
        · refine S_iconst (pc := 119) (v := (nI 0)) dX8_isMemberValue_119 kI_0 ?_
          exact S_zret (pc := 120) ⟨rfl, rfl⟩ rfl rfl dX8_isMemberValue_120
        · refine S_iconst (pc := 115) (v := (nI 1)) dX8_isMemberValue_115 kI_1 ?_
          refine S_goto (pc := 116) (tgt := 120) dX8_isMemberValue_116 (by decide) ?_
          exact S_zret (pc := 120) ⟨rfl, rfl⟩ rfl rfl dX8_isMemberValue_120
      · refine S_aload_n (pc := 88) dX8_isMemberValue_88 rfl ?_
        refine S_iload (pc := 89) dX8_isMemberValue_89 rfl ?_
        refine S_iload_n (pc := 91) dX8_isMemberValue_91 rfl ?_
        refine S_iload (pc := 92) dX8_isMemberValue_92 rfl ?_
        refine Y_Vi (pc := 94) (st := []) (kc' := 0) (ks' := 0) (ktX2_allowsField r0 v5 v3 x_40) mw_X2_allowsField mv_X2_allowsField w908 (RO.mk rfl rfl rfl rfl) rfl rfl rfl dX8_isMemberValue_94 ⟨rfl, rfl⟩ (fun x_43 => ?_)
        refine S_ifeq (pc := 97) (tgt := 119) dX8_isMemberValue_97 (by decide) ?_ ?_
        · refine S_iconst (pc := 119) (v := (nI 0)) dX8_isMemberValue_119 kI_0 ?_
          exact S_zret (pc := 120) ⟨rfl, rfl⟩ rfl rfl dX8_isMemberValue_120
        · refine S_goto (pc := 100) (tgt := 115) dX8_isMemberValue_100 (by decide) ?_
          refine S_iconst (pc := 115) (v := (nI 1)) dX8_isMemberValue_115 kI_1 ?_
          refine S_goto (pc := 116) (tgt := 120) dX8_isMemberValue_116 (by decide) ?_
          exact S_zret (pc := 120) ⟨rfl, rfl⟩ rfl rfl dX8_isMemberValue_120
  refine S_case (x := v2) (v := (nI 1)) (fun n1 => ?_) (fun n1 => ?_)
  · refine S_tsI (pc := 51) (tgt := 121) n1 dX8_isMemberValue_51 (by decide) rfl (by decide) ?_
    refine S_iload (pc := 121) dX8_isMemberValue_121 rfl ?_
    refine S_ifeq (pc := 123) (tgt := 138) dX8_isMemberValue_123 (by decide) ?_ ?_
    · refine S_aload_n (pc := 138) dX8_isMemberValue_138 rfl ?_
      refine S_iload (pc := 139) dX8_isMemberValue_139 rfl ?_
      refine S_iload (pc := 141) dX8_isMemberValue_141 rfl ?_
      refine S_iload_n (pc := 143) dX8_isMemberValue_143 rfl ?_
      refine Y_Vi (pc := 144) (st := []) (kc' := 0) (ks' := 0) (ktX2_allowsMethod r0 v5 x_38 v3) mw_X2_allowsMethod mv_X2_allowsMethod w929 (RO.mk rfl rfl rfl rfl) rfl rfl rfl dX8_isMemberValue_144 ⟨rfl, rfl⟩ (fun x_44 => ?_)
      exact S_zret (pc := 147) ⟨rfl, rfl⟩ rfl rfl dX8_isMemberValue_147
    · refine S_aload_n (pc := 126) dX8_isMemberValue_126 rfl ?_
      refine S_iload (pc := 127) dX8_isMemberValue_127 rfl ?_
      refine S_iload (pc := 129) dX8_isMemberValue_129 rfl ?_
      refine S_iload_n (pc := 131) dX8_isMemberValue_131 rfl ?_
      refine Y_Vi (pc := 132) (st := []) (kc' := 0) (ks' := 0) (ktX2_allowsField r0 v5 x_38 v3) mw_X2_allowsField mv_X2_allowsField w908 (RO.mk rfl rfl rfl rfl) rfl rfl rfl dX8_isMemberValue_132 ⟨rfl, rfl⟩ (fun x_45 => ?_)
      refine S_goto (pc := 135) (tgt := 147) dX8_isMemberValue_135 (by decide) ?_
      exact S_zret (pc := 147) ⟨rfl, rfl⟩ rfl rfl dX8_isMemberValue_147
  refine S_case (x := v2) (v := (nI 2)) (fun n2 => ?_) (fun n2 => ?_)
  · refine S_tsI (pc := 51) (tgt := 148) n2 dX8_isMemberValue_51 (by decide) rfl (by decide) ?_
    refine S_iload (pc := 148) dX8_isMemberValue_148 rfl ?_
    refine S_ifeq (pc := 150) (tgt := 190) dX8_isMemberValue_150 (by decide) ?_ ?_
    · refine S_iconst (pc := 190) (v := (nI 0)) dX8_isMemberValue_190 kI_0 ?_
      exact S_zret (pc := 191) ⟨rfl, rfl⟩ rfl rfl dX8_isMemberValue_191
    · refine S_iload_n (pc := 153) dX8_isMemberValue_153 rfl ?_
      refine S_bipush (pc := 154) (v := (-2 : Int32)) dX8_isMemberValue_154 kB_m2 ?_
      refine S_icmpeq (pc := 156) (tgt := 186) dX8_isMemberValue_156 (by decide) ?_ ?_
      · refine S_iconst (pc := 186) (v := (nI 1)) dX8_isMemberValue_186 kI_1 ?_
        refine S_goto (pc := 187) (tgt := 191) dX8_isMemberValue_187 (by decide) ?_
        exact S_zret (pc := 191) ⟨rfl, rfl⟩ rfl rfl dX8_isMemberValue_191
      · refine S_iload_n (pc := 159) dX8_isMemberValue_159 rfl ?_
        refine Y_Ti (pc := 160) (st := []) (kc' := 0) (ks' := 0) (ktX8_isConstantValue v3) mw_X8_isConstantValue w972 w971 (RO.mk rfl rfl rfl rfl) rfl rfl rfl dX8_isMemberValue_160 ⟨rfl, rfl⟩ (fun x_46 => ?_)
        refine S_ifeq (pc := 163) (tgt := 190) dX8_isMemberValue_163 (by decide) ?_ ?_
        · refine S_iconst (pc := 190) (v := (nI 0)) dX8_isMemberValue_190 kI_0 ?_
          exact S_zret (pc := 191) ⟨rfl, rfl⟩ rfl rfl dX8_isMemberValue_191
        · refine S_aload (pc := 166) dX8_isMemberValue_166 rfl ?_
          refine S_iload_n (pc := 168) dX8_isMemberValue_168 rfl ?_
          refine Y_Vi (pc := 169) (st := []) (kc' := 0) (ks' := 0) (ktX4_isStaticFinal r4 v1) mw_X4_isStaticFinal mv_X4_isStaticFinal w974 (RO.mk rfl rfl rfl rfl) rfl rfl rfl dX8_isMemberValue_169 ⟨rfl, rfl⟩ (fun x_47 => ?_)
          refine S_ifeq (pc := 172) (tgt := 190) dX8_isMemberValue_172 (by decide) ?_ ?_
          · refine S_iconst (pc := 190) (v := (nI 0)) dX8_isMemberValue_190 kI_0 ?_
            exact S_zret (pc := 191) ⟨rfl, rfl⟩ rfl rfl dX8_isMemberValue_191
          · refine S_aload (pc := 175) dX8_isMemberValue_175 rfl ?_
            refine S_gP (pc := 177) fl_X8_285 rfl dX8_isMemberValue_177 (fun a_48 => ?_)
            refine S_iload_n (pc := 180) dX8_isMemberValue_180 rfl ?_
            refine S_ldI (pc := 181) dX8_isMemberValue_181 (fun x_49 => ?_)
            refine S_iconst (pc := 182) (v := (-1 : Int32)) dX8_isMemberValue_182 kI_m1 ?_
            refine S_icmpne (pc := 183) (tgt := 190) dX8_isMemberValue_183 (by decide) ?_ ?_
            · refine S_iconst (pc := 190) (v := (nI 0)) dX8_isMemberValue_190 kI_0 ?_
              exact S_zret (pc := 191) ⟨rfl, rfl⟩ rfl rfl dX8_isMemberValue_191
            · refine S_iconst (pc := 186) (v := (nI 1)) dX8_isMemberValue_186 kI_1 ?_
              refine S_goto (pc := 187) (tgt := 191) dX8_isMemberValue_187 (by decide) ?_
              exact S_zret (pc := 191) ⟨rfl, rfl⟩ rfl rfl dX8_isMemberValue_191
  refine S_tsD (pc := 51) (tgt := 192) (by have n0 := lv_neT (a := 0) n0 rfl; have n1 := lv_neT (a := 1) n1 rfl; have n2 := lv_neT (a := 2) n2 rfl; omega) dX8_isMemberValue_51 (by decide) ?_
  refine S_iconst (pc := 192) (v := (nI 0)) dX8_isMemberValue_192 kI_0 ?_
  exact S_zret (pc := 193) ⟨rfl, rfl⟩ rfl rfl dX8_isMemberValue_193
theorem sX8_isMemberValue  (r0 : Nat) (v1 : Int32) (v2 : Int32) (v3 : Int32) : Sm mX8_isMemberValue rI 0 0 0 [some (.ref r0), some (.int v1), some (.int v2), some (.int v3), none, none, none, none, none] [] (fX8_isMemberValue r0 v1 v2 v3) := by
  unfold fX8_isMemberValue
  refine S_aload_n (pc := 0) dX8_isMemberValue_0 rfl ?_
  refine S_gP (pc := 1) fl_X8_64 rfl dX8_isMemberValue_1 (fun a_50 => ?_)
  refine Z_astore (pc := 4) (lv' := [some (.ref r0), some (.int v1), some (.int v2), some (.int v3), some (.ref a_50), none, none, none, none]) dX8_isMemberValue_4 rfl rfl rfl ?_
  refine S_aload (pc := 6) dX8_isMemberValue_6 rfl ?_
  refine S_gP (pc := 8) fl_X8_266 rfl dX8_isMemberValue_8 (fun a_51 => ?_)
  refine S_iload_n (pc := 11) dX8_isMemberValue_11 rfl ?_
  refine S_ldI (pc := 12) dX8_isMemberValue_12 (fun x_52 => ?_)
  refine Z_istore (pc := 13) (lv' := [some (.ref r0), some (.int v1), some (.int v2), some (.int v3), some (.ref a_50), some (.int x_52), none, none, none]) dX8_isMemberValue_13 rfl rfl rfl ?_
  refine S_aload (pc := 15) dX8_isMemberValue_15 rfl ?_
  refine S_gP (pc := 17) fl_X8_270 rfl dX8_isMemberValue_17 (fun a_53 => ?_)
  refine S_iload_n (pc := 20) dX8_isMemberValue_20 rfl ?_
  refine S_ldI (pc := 21) dX8_isMemberValue_21 (fun x_54 => ?_)
  refine S_ifne (pc := 22) (tgt := 29) dX8_isMemberValue_22 (by decide) ?_ ?_
  · refine S_iconst (pc := 29) (v := (nI 0)) dX8_isMemberValue_29 kI_0 ?_
    exact (sX8_isMemberValue_30 r0 v1 v2 v3 a_50 x_52 (nI 0))
  · refine S_iconst (pc := 25) (v := (nI 1)) dX8_isMemberValue_25 kI_1 ?_
    refine S_goto (pc := 26) (tgt := 30) dX8_isMemberValue_26 (by decide) ?_
    exact (sX8_isMemberValue_30 r0 v1 v2 v3 a_50 x_52 (nI 1))
theorem ktX8_isMemberValue (r0 : Nat) (v1 : Int32) (v2 : Int32) (v3 : Int32) : Ct mX8_isMemberValue rI [.ref r0, .int v1, .int v2, .int v3] (fX8_isMemberValue r0 v1 v2 v3) := Ct.of (z := 5) pn_X8 rfl rfl rfl (sX8_isMemberValue r0 v1 v2 v3)
def mX8_libraryWithMember : MI := (yX8_libraryWithMember, cX8_libraryWithMember, 4, (some (.object "CompatibilityJudge$Library")), { frames := 8, cells := 2, slots := 12, locals := 131 }, [])
theorem mw_X8_libraryWithMember : MW mX8_libraryWithMember 2 := ⟨w951, w1, ⟨by decide, by decide⟩, by decide +kernel⟩
theorem mv_X8_libraryWithMember : MV mX8_libraryWithMember 8 := ⟨_, rfl, w950, wp28⟩
def fX8_libraryWithMember  (r0 : Nat) (v1 : Int32) (v2 : Int32) : AH → Option ((Nat ⊕ Nat) × AH) := fun h =>
  cv 8 r0 (fX8_libraryOf r0 v1) h <| xp fun a_3 h =>
  cv 2 a_3 (fX2_hasMember a_3 v2) h fun x_4 h =>
  if x_4 = 0 then (
    some ((Sum.inl 1 : (Nat ⊕ Nat)), thr h))
  else
  some ((Sum.inr a_3 : (Nat ⊕ Nat)), h)
theorem sX8_libraryWithMember  (r0 : Nat) (v1 : Int32) (v2 : Int32) : Sm mX8_libraryWithMember xA 0 0 0 [some (.ref r0), some (.int v1), some (.int v2), none] [] (fX8_libraryWithMember r0 v1 v2) := by
  unfold fX8_libraryWithMember
  refine S_aload_n (pc := 0) dX8_libraryWithMember_0 rfl ?_
  refine S_iload_n (pc := 1) dX8_libraryWithMember_1 rfl ?_
  refine YX_Va (pc := 2) (st := []) (kc' := 1) (ks' := 6) (fun _ => rfl) rfl (ktX8_libraryOf r0 v1) mw_X8_libraryOf mv_X8_libraryOf w688 (RO.mk rfl rfl rfl rfl) rfl rfl rfl dX8_libraryWithMember_2 ⟨rfl, rfl⟩ (fun a_3 => ?_)
  refine Z_astore_n (pc := 5) (lv' := [some (.ref r0), some (.int v1), some (.int v2), some (.ref a_3)]) dX8_libraryWithMember_5 rfl rfl rfl ?_
  refine S_aload_n (pc := 6) dX8_libraryWithMember_6 rfl ?_
  refine S_iload_n (pc := 7) dX8_libraryWithMember_7 rfl ?_
  refine Y_Vi (pc := 8) (st := []) (kc' := 1) (ks' := 6) (ktX2_hasMember a_3 v2) mw_X2_hasMember mv_X2_hasMember w952 (RO.mk rfl rfl rfl rfl) rfl rfl rfl dX8_libraryWithMember_8 ⟨rfl, rfl⟩ (fun x_4 => ?_)
  refine S_ifne (pc := 11) (tgt := 25) dX8_libraryWithMember_11 (by decide) ?_ ?_
  · refine S_aload_n (pc := 25) dX8_libraryWithMember_25 rfl ?_
    exact S_aret (pc := 26) ⟨rfl, rfl⟩ rfl rfl dX8_libraryWithMember_26
  · exact S_thrW (pc := 14) (k := 1) rfl exA1 w695 w15 st_21 rfl ⟨rfl, rfl, rfl, rfl⟩ rfl dX8_libraryWithMember_14 dX8_libraryWithMember_17 dX8_libraryWithMember_18 dX8_libraryWithMember_21 dX8_libraryWithMember_24
theorem ktX8_libraryWithMember (r0 : Nat) (v1 : Int32) (v2 : Int32) : Ct mX8_libraryWithMember xA [.ref r0, .int v1, .int v2] (fX8_libraryWithMember r0 v1 v2) := Ct.of (z := 1) pn_X8 rfl rfl rfl (sX8_libraryWithMember r0 v1 v2)
def mX8_link : MI := (yX8_link, cX8_link, 4, (some .int), { frames := 8, cells := 2, slots := 12, locals := 132 }, [])
theorem mw_X8_link : MW mX8_link 2 := ⟨w1111, w1, ⟨by decide, by decide⟩, by decide +kernel⟩
theorem mv_X8_link : MV mX8_link 8 := ⟨_, rfl, w1109, w1110⟩
def fX8_link  (r0 : Nat) (v1 : Int32) (v2 : Int32) : AH → Option ((Nat ⊕ Int32) × AH) := fun h =>
  cv 8 r0 (fX8_clientAt r0 v1) h <| xp fun a_5 h =>
  bd (fX8_requireVersion v2 h) <| xp fun _ h =>
  (gP 8 r0 7 h).bind fun a_6 =>
  (ldP 3 a_6 v2 h).bind fun a_7 =>
  cv 3 a_7 (fX3_errorOf a_7 a_5) h fun x_8 h =>
  some ((Sum.inr x_8 : (Nat ⊕ Int32)), h)
theorem sX8_link  (r0 : Nat) (v1 : Int32) (v2 : Int32) : Sm mX8_link xI 0 0 0 [some (.ref r0), some (.int v1), some (.int v2), none] [] (fX8_link r0 v1 v2) := by
  unfold fX8_link
  refine S_aload_n (pc := 0) dX8_link_0 rfl ?_
  refine S_iload_n (pc := 1) dX8_link_1 rfl ?_
  refine YX_Va (pc := 2) (st := []) (kc' := 1) (ks' := 6) (fun _ => rfl) rfl (ktX8_clientAt r0 v1) mw_X8_clientAt mv_X8_clientAt w1067 (RO.mk rfl rfl rfl rfl) rfl rfl rfl dX8_link_2 ⟨rfl, rfl⟩ (fun a_5 => ?_)
  refine Z_astore_n (pc := 5) (lv' := [some (.ref r0), some (.int v1), some (.int v2), some (.ref a_5)]) dX8_link_5 rfl rfl rfl ?_
  refine S_iload_n (pc := 6) dX8_link_6 rfl ?_
  refine YX_Tv (pc := 7) (st := []) (kc' := 2) (ks' := 12) (fun _ => rfl) rfl (ktX8_requireVersion v2) mw_X8_requireVersion w693 w692 (RO.mk rfl rfl rfl rfl) rfl rfl rfl dX8_link_7 ⟨rfl, rfl⟩ ?_
  refine S_aload_n (pc := 10) dX8_link_10 rfl ?_
  refine S_gP (pc := 11) fl_X8_49 rfl dX8_link_11 (fun a_6 => ?_)
  refine S_iload_n (pc := 14) dX8_link_14 rfl ?_
  refine S_ldP (pc := 15) (c := 3) (by decide) dX8_link_15 (fun a_7 => ?_)
  refine S_aload_n (pc := 16) dX8_link_16 rfl ?_
  refine Y_Vi (pc := 17) (st := []) (kc' := 2) (ks' := 12) (ktX3_errorOf a_7 a_5) mw_X3_errorOf mv_X3_errorOf w626 (RO.mk rfl rfl rfl rfl) rfl rfl rfl dX8_link_17 ⟨rfl, rfl⟩ (fun x_8 => ?_)
  exact S_iret (pc := 20) ⟨rfl, rfl⟩ rfl rfl dX8_link_20
theorem ktX8_link (r0 : Nat) (v1 : Int32) (v2 : Int32) : Ct mX8_link xI [.ref r0, .int v1, .int v2] (fX8_link r0 v1 v2) := Ct.of (z := 1) pn_X8 rfl rfl rfl (sX8_link r0 v1 v2)
def mX8_memberInfo : MI := (yX8_memberInfo, cX8_memberInfo, 5, (some .int), { frames := 9, cells := 3, slots := 18, locals := 154 }, [])
theorem mw_X8_memberInfo : MW mX8_memberInfo 3 := ⟨w1003, w1, ⟨by decide, by decide⟩, by decide +kernel⟩
theorem mv_X8_memberInfo : MV mX8_memberInfo 8 := ⟨_, rfl, w1001, w1002⟩
def fX8_memberInfo  (r0 : Nat) (v1 : Int32) (v2 : Int32) (v3 : Int32) : AH → Option ((Nat ⊕ Int32) × AH) := fun h =>
  cv 8 r0 (fX8_libraryWithMember r0 v1 v2) h <| xp fun a_4 h =>
  bd (fX8_requireInfo v3 h) <| xp fun _ h =>
  (gP 2 a_4 10 h).bind fun a_5 =>
  cv 4 a_5 (fX4_valueOf a_5 v2 v3) h fun x_6 h =>
  some ((Sum.inr x_6 : (Nat ⊕ Int32)), h)
theorem sX8_memberInfo  (r0 : Nat) (v1 : Int32) (v2 : Int32) (v3 : Int32) : Sm mX8_memberInfo xI 0 0 0 [some (.ref r0), some (.int v1), some (.int v2), some (.int v3), none] [] (fX8_memberInfo r0 v1 v2 v3) := by
  unfold fX8_memberInfo
  refine S_aload_n (pc := 0) dX8_memberInfo_0 rfl ?_
  refine S_iload_n (pc := 1) dX8_memberInfo_1 rfl ?_
  refine S_iload_n (pc := 2) dX8_memberInfo_2 rfl ?_
  refine YX_Va (pc := 3) (st := []) (kc' := 2) (ks' := 12) (fun _ => rfl) rfl (ktX8_libraryWithMember r0 v1 v2) mw_X8_libraryWithMember mv_X8_libraryWithMember w948 (RO.mk rfl rfl rfl rfl) rfl rfl rfl dX8_memberInfo_3 ⟨rfl, rfl⟩ (fun a_4 => ?_)
  refine Z_astore (pc := 6) (lv' := [some (.ref r0), some (.int v1), some (.int v2), some (.int v3), some (.ref a_4)]) dX8_memberInfo_6 rfl rfl rfl ?_
  refine S_iload_n (pc := 8) dX8_memberInfo_8 rfl ?_
  refine YX_Tv (pc := 9) (st := []) (kc' := 3) (ks' := 18) (fun _ => rfl) rfl (ktX8_requireInfo v3) mw_X8_requireInfo w880 w879 (RO.mk rfl rfl rfl rfl) rfl rfl rfl dX8_memberInfo_9 ⟨rfl, rfl⟩ ?_
  refine S_aload (pc := 12) dX8_memberInfo_12 rfl ?_
  refine S_gP (pc := 14) fl_X8_64 rfl dX8_memberInfo_14 (fun a_5 => ?_)
  refine S_iload_n (pc := 17) dX8_memberInfo_17 rfl ?_
  refine S_iload_n (pc := 18) dX8_memberInfo_18 rfl ?_
  refine Y_Vi (pc := 19) (st := []) (kc' := 3) (ks' := 18) (ktX4_valueOf a_5 v2 v3) mw_X4_valueOf mv_X4_valueOf w614 (RO.mk rfl rfl rfl rfl) rfl rfl rfl dX8_memberInfo_19 ⟨rfl, rfl⟩ (fun x_6 => ?_)
  exact S_iret (pc := 22) ⟨rfl, rfl⟩ rfl rfl dX8_memberInfo_22
theorem ktX8_memberInfo (r0 : Nat) (v1 : Int32) (v2 : Int32) (v3 : Int32) : Ct mX8_memberInfo xI [.ref r0, .int v1, .int v2, .int v3] (fX8_memberInfo r0 v1 v2 v3) := Ct.of (z := 1) pn_X8 rfl rfl rfl (sX8_memberInfo r0 v1 v2 v3)
def mX8_members : MI := (yX8_members, cX8_members, 2, (some .int), { frames := 8, cells := 1, slots := 6, locals := 131 }, [])
theorem mw_X8_members : MW mX8_members 1 := ⟨w996, w1, ⟨by decide, by decide⟩, by decide +kernel⟩
theorem mv_X8_members : MV mX8_members 8 := ⟨_, rfl, w994, w995⟩
def fX8_members  (r0 : Nat) (v1 : Int32) : AH → Option ((Nat ⊕ Int32) × AH) := fun h =>
  cv 8 r0 (fX8_libraryOf r0 v1) h <| xp fun a_4 h =>
  (gP 2 a_4 10 h).bind fun a_5 =>
  (gI 4 a_5 0 h).bind fun x_6 =>
  some ((Sum.inr x_6 : (Nat ⊕ Int32)), h)
theorem sX8_members  (r0 : Nat) (v1 : Int32) : Sm mX8_members xI 0 0 0 [some (.ref r0), some (.int v1)] [] (fX8_members r0 v1) := by
  unfold fX8_members
  refine S_aload_n (pc := 0) dX8_members_0 rfl ?_
  refine S_iload_n (pc := 1) dX8_members_1 rfl ?_
  refine YX_Va (pc := 2) (st := []) (kc' := 1) (ks' := 6) (fun _ => rfl) rfl (ktX8_libraryOf r0 v1) mw_X8_libraryOf mv_X8_libraryOf w688 (RO.mk rfl rfl rfl rfl) rfl rfl rfl dX8_members_2 ⟨rfl, rfl⟩ (fun a_4 => ?_)
  refine S_gP (pc := 5) fl_X8_64 rfl dX8_members_5 (fun a_5 => ?_)
  refine S_gI (pc := 8) fl_X8_203 rfl dX8_members_8 (fun x_6 => ?_)
  exact S_iret (pc := 11) ⟨rfl, rfl⟩ rfl rfl dX8_members_11
theorem ktX8_members (r0 : Nat) (v1 : Int32) : Ct mX8_members xI [.ref r0, .int v1] (fX8_members r0 v1) := Ct.of (z := 0) pn_X8 rfl rfl rfl (sX8_members r0 v1)
def mX8_method : MI := (yX8_method, cX8_method, 6, (some .int), { frames := 9, cells := 3, slots := 18, locals := 154 }, [])
theorem mw_X8_method : MW mX8_method 3 := ⟨w1030, w1, ⟨by decide, by decide⟩, by decide +kernel⟩
theorem mv_X8_method : MV mX8_method 8 := ⟨_, rfl, w1028, w1029⟩
def fX8_method  (r0 : Nat) (v1 : Int32) (v2 : Int32) (v3 : Int32) : AH → Option ((Nat ⊕ Int32) × AH) := fun h =>
  cv 8 r0 (fX8_libraryWith r0 v1 v2) h <| xp fun a_11 h =>
  bd (fX8_requireName v3 h) <| xp fun _ h =>
  (gP 8 r0 4 h).bind fun a_12 =>
  (gI 5 a_12 2 h).bind fun x_13 =>
  (gP 8 r0 4 h).bind fun a_14 =>
  (gI 5 a_14 3 h).bind fun x_15 =>
  bd (fX4_signatureOf v3 x_13 x_15 h) fun x_16 h =>
  (gP 8 r0 4 h).bind fun a_17 =>
  (gI 5 a_17 0 h).bind fun x_18 =>
  bd (fX4_descriptorOf x_16 x_18 h) fun x_19 h =>
  cv 2 a_11 (fX2_methodFor a_11 v2 x_19) h fun x_20 h =>
  some ((Sum.inr x_20 : (Nat ⊕ Int32)), h)
theorem sX8_method  (r0 : Nat) (v1 : Int32) (v2 : Int32) (v3 : Int32) : Sm mX8_method xI 0 0 0 [some (.ref r0), some (.int v1), some (.int v2), some (.int v3), none, none] [] (fX8_method r0 v1 v2 v3) := by
  unfold fX8_method
  refine S_aload_n (pc := 0) dX8_method_0 rfl ?_
  refine S_iload_n (pc := 1) dX8_method_1 rfl ?_
  refine S_iload_n (pc := 2) dX8_method_2 rfl ?_
  refine YX_Va (pc := 3) (st := []) (kc' := 2) (ks' := 12) (fun _ => rfl) rfl (ktX8_libraryWith r0 v1 v2) mw_X8_libraryWith mv_X8_libraryWith w819 (RO.mk rfl rfl rfl rfl) rfl rfl rfl dX8_method_3 ⟨rfl, rfl⟩ (fun a_11 => ?_)
  refine Z_astore (pc := 6) (lv' := [some (.ref r0), some (.int v1), some (.int v2), some (.int v3), some (.ref a_11), none]) dX8_method_6 rfl rfl rfl ?_
  refine S_iload_n (pc := 8) dX8_method_8 rfl ?_
  refine YX_Tv (pc := 9) (st := []) (kc' := 3) (ks' := 18) (fun _ => rfl) rfl (ktX8_requireName v3) mw_X8_requireName w1020 w1019 (RO.mk rfl rfl rfl rfl) rfl rfl rfl dX8_method_9 ⟨rfl, rfl⟩ ?_
  refine S_iload_n (pc := 12) dX8_method_12 rfl ?_
  refine S_aload_n (pc := 13) dX8_method_13 rfl ?_
  refine S_gP (pc := 14) fl_X8_30 rfl dX8_method_14 (fun a_12 => ?_)
  refine S_gI (pc := 17) fl_X8_241 rfl dX8_method_17 (fun x_13 => ?_)
  refine S_aload_n (pc := 20) dX8_method_20 rfl ?_
  refine S_gP (pc := 21) fl_X8_30 rfl dX8_method_21 (fun a_14 => ?_)
  refine S_gI (pc := 24) fl_X8_244 rfl dX8_method_24 (fun x_15 => ?_)
  refine Y_Ti (pc := 27) (st := []) (kc' := 3) (ks' := 18) (ktX4_signatureOf v3 x_13 x_15) mw_X4_signatureOf w397 w935 (RO.mk rfl rfl rfl rfl) rfl rfl rfl dX8_method_27 ⟨rfl, rfl⟩ (fun x_16 => ?_)
  refine Z_istore (pc := 30) (lv' := [some (.ref r0), some (.int v1), some (.int v2), some (.int v3), some (.ref a_11), some (.int x_16)]) dX8_method_30 rfl rfl rfl ?_
  refine S_aload (pc := 32) dX8_method_32 rfl ?_
  refine S_iload_n (pc := 34) dX8_method_34 rfl ?_
  refine S_iload (pc := 35) dX8_method_35 rfl ?_
  refine S_aload_n (pc := 37) dX8_method_37 rfl ?_
  refine S_gP (pc := 38) fl_X8_30 rfl dX8_method_38 (fun a_17 => ?_)
  refine S_gI (pc := 41) fl_X8_309 rfl dX8_method_41 (fun x_18 => ?_)
  refine Y_Ti (pc := 44) (st := [.int v2, .ref a_11]) (kc' := 3) (ks' := 18) (ktX4_descriptorOf x_16 x_18) mw_X4_descriptorOf w400 w1031 (RO.mk rfl rfl rfl rfl) rfl rfl rfl dX8_method_44 ⟨rfl, rfl⟩ (fun x_19 => ?_)
  refine Y_Vi (pc := 47) (st := []) (kc' := 3) (ks' := 18) (ktX2_methodFor a_11 v2 x_19) mw_X2_methodFor mv_X2_methodFor w1032 (RO.mk rfl rfl rfl rfl) rfl rfl rfl dX8_method_47 ⟨rfl, rfl⟩ (fun x_20 => ?_)
  exact S_iret (pc := 50) ⟨rfl, rfl⟩ rfl rfl dX8_method_50
theorem ktX8_method (r0 : Nat) (v1 : Int32) (v2 : Int32) (v3 : Int32) : Ct mX8_method xI [.ref r0, .int v1, .int v2, .int v3] (fX8_method r0 v1 v2 v3) := Ct.of (z := 2) pn_X8 rfl rfl rfl (sX8_method r0 v1 v2 v3)
def mX8_moveMember : MI := (yX8_moveMember, cX8_moveMember, 8, (some .int), { frames := 9, cells := 3, slots := 18, locals := 154 }, [])
theorem mw_X8_moveMember : MW mX8_moveMember 3 := ⟨w981, w1, ⟨by decide, by decide⟩, by decide +kernel⟩
theorem mv_X8_moveMember : MV mX8_moveMember 8 := ⟨_, rfl, w979, w980⟩
def fX8_moveMember_95  (r0 : Nat) (v2 : Int32) (v3 : Int32) (r5 : Nat) (s0 : Int32) : AH → Option ((Nat ⊕ Int32) × AH) := fun h =>
  if v3 = 0 then (
    some ((Sum.inl 3 : (Nat ⊕ Int32)), thr h))
  else
  if s0 = 0 then (
    cv 8 r0 (fX8_saveState r0) h fun _ h =>
    (gP 4 r5 5 h).bind fun a_31 =>
    (ldI a_31 v2 h).bind fun x_32 =>
    (gP 4 r5 5 h).bind fun a_33 =>
    (stI a_33 v2 v3 h).bind fun h =>
    some ((Sum.inr x_32 : (Nat ⊕ Int32)), h))
  else
  some ((Sum.inl 3 : (Nat ⊕ Int32)), thr h)
def fX8_moveMember  (r0 : Nat) (v1 : Int32) (v2 : Int32) (v3 : Int32) : AH → Option ((Nat ⊕ Int32) × AH) := fun h =>
  cv 8 r0 (fX8_libraryWithMember r0 v1 v2) h <| xp fun a_34 h =>
  cv 2 a_34 (fX2_isThere a_34 v3) h fun x_35 h =>
  if x_35 = 0 then (
    some ((Sum.inl 1 : (Nat ⊕ Int32)), thr h))
  else
  cv 2 a_34 (fX2_allowsMember a_34 v3 v2) h fun x_36 h =>
  if x_36 = 0 then (
    some ((Sum.inl 2 : (Nat ⊕ Int32)), thr h))
  else
  (gP 2 a_34 10 h).bind fun a_37 =>
  (gP 4 a_37 4 h).bind fun a_38 =>
  (ldI a_38 v2 h).bind fun x_39 =>
  if x_39 = 0 then (
    (gP 4 a_37 6 h).bind fun a_43 =>
    (ldI a_43 v2 h).bind fun x_44 =>
    cv 4 a_37 (fX4_hasField a_37 v3 x_44) h fun x_45 h =>
    fX8_moveMember_95 r0 v2 v3 a_37 x_45 h)
  else
  (gP 4 a_37 11 h).bind fun a_40 =>
  (ldI a_40 v2 h).bind fun x_41 =>
  cv 4 a_37 (fX4_hasMethod a_37 v3 x_41) h fun x_42 h =>
  fX8_moveMember_95 r0 v2 v3 a_37 x_42 h
theorem sX8_moveMember_95  (r0 : Nat) (v2 : Int32) (v3 : Int32) (r5 : Nat) (s0 : Int32) : Sm mX8_moveMember xI 2 12 95 [some (.ref r0), none, some (.int v2), some (.int v3), none, some (.ref r5), none, none] [.int s0] (fX8_moveMember_95 r0 v2 v3 r5 s0) := by
  unfold fX8_moveMember_95
  refine Z_istore (pc := 95) (lv' := [some (.ref r0), none, some (.int v2), some (.int v3), none, some (.ref r5), some (.int s0), none]) dX8_moveMember_95 rfl rfl rfl ?_
  refine S_iload_n (pc := 97) dX8_moveMember_97 rfl ?_
  refine S_ifeq (pc := 98) (tgt := 106) dX8_moveMember_98 (by decide) ?_ ?_
  · exact S_thrW (pc := 106) (k := 3) rfl exA3 w790 w17 st_23 rfl ⟨rfl, rfl, rfl, rfl⟩ rfl dX8_moveMember_106 dX8_moveMember_109 dX8_moveMember_110 dX8_moveMember_113 dX8_moveMember_116
  · refine S_iload (pc := 101) dX8_moveMember_101 rfl ?_
    refine S_ifeq (pc := 103) (tgt := 117) dX8_moveMember_103 (by decide) ?_ ?_
    · refine S_aload_n (pc := 117) dX8_moveMember_117 rfl ?_
      refine Y_Vv (pc := 118) (st := []) (kc' := 2) (ks' := 12) (ktX8_saveState r0) mw_X8_saveState mv_X8_saveState w576 (RO.mk rfl rfl rfl rfl) rfl rfl rfl dX8_moveMember_118 ⟨rfl, rfl⟩ ?_
      refine S_aload (pc := 121) dX8_moveMember_121 rfl ?_
      refine S_gP (pc := 123) fl_X8_266 rfl dX8_moveMember_123 (fun a_31 => ?_)
      refine S_iload_n (pc := 126) dX8_moveMember_126 rfl ?_
      refine S_ldI (pc := 127) dX8_moveMember_127 (fun x_32 => ?_)
      refine Z_istore (pc := 128) (lv' := [some (.ref r0), none, some (.int v2), some (.int v3), none, some (.ref r5), some (.int s0), some (.int x_32)]) dX8_moveMember_128 rfl rfl rfl ?_
      refine S_aload (pc := 130) dX8_moveMember_130 rfl ?_
      refine S_gP (pc := 132) fl_X8_266 rfl dX8_moveMember_132 (fun a_33 => ?_)
      refine S_iload_n (pc := 135) dX8_moveMember_135 rfl ?_
      refine S_iload_n (pc := 136) dX8_moveMember_136 rfl ?_
      refine S_stI (pc := 137) dX8_moveMember_137 ?_
      refine S_iload (pc := 138) dX8_moveMember_138 rfl ?_
      exact S_iret (pc := 140) ⟨rfl, rfl⟩ rfl rfl dX8_moveMember_140
    · exact S_thrW (pc := 106) (k := 3) rfl exA3 w790 w17 st_23 rfl ⟨rfl, rfl, rfl, rfl⟩ rfl dX8_moveMember_106 dX8_moveMember_109 dX8_moveMember_110 dX8_moveMember_113 dX8_moveMember_116
theorem sX8_moveMember  (r0 : Nat) (v1 : Int32) (v2 : Int32) (v3 : Int32) : Sm mX8_moveMember xI 0 0 0 [some (.ref r0), some (.int v1), some (.int v2), some (.int v3), none, none, none, none] [] (fX8_moveMember r0 v1 v2 v3) := by
  unfold fX8_moveMember
  refine S_aload_n (pc := 0) dX8_moveMember_0 rfl ?_
  refine S_iload_n (pc := 1) dX8_moveMember_1 rfl ?_
  refine S_iload_n (pc := 2) dX8_moveMember_2 rfl ?_
  refine YX_Va (pc := 3) (st := []) (kc' := 2) (ks' := 12) (fun _ => rfl) rfl (ktX8_libraryWithMember r0 v1 v2) mw_X8_libraryWithMember mv_X8_libraryWithMember w948 (RO.mk rfl rfl rfl rfl) rfl rfl rfl dX8_moveMember_3 ⟨rfl, rfl⟩ (fun a_34 => ?_)
  refine Z_astore (pc := 6) (lv' := [some (.ref r0), some (.int v1), some (.int v2), some (.int v3), some (.ref a_34), none, none, none]) dX8_moveMember_6 rfl rfl rfl ?_
  refine S_aload (pc := 8) dX8_moveMember_8 rfl ?_
  refine S_iload_n (pc := 10) dX8_moveMember_10 rfl ?_
  refine Y_Vi (pc := 11) (st := []) (kc' := 2) (ks' := 12) (ktX2_isThere a_34 v3) mw_X2_isThere mv_X2_isThere w597 (RO.mk rfl rfl rfl rfl) rfl rfl rfl dX8_moveMember_11 ⟨rfl, rfl⟩ (fun x_35 => ?_)
  refine S_ifne (pc := 14) (tgt := 28) dX8_moveMember_14 (by decide) ?_ ?_
  · refine S_aload (pc := 28) dX8_moveMember_28 rfl ?_
    refine S_iload_n (pc := 30) dX8_moveMember_30 rfl ?_
    refine S_iload_n (pc := 31) dX8_moveMember_31 rfl ?_
    refine Y_Vi (pc := 32) (st := []) (kc' := 2) (ks' := 12) (ktX2_allowsMember a_34 v3 v2) mw_X2_allowsMember mv_X2_allowsMember w982 (RO.mk rfl rfl rfl rfl) rfl rfl rfl dX8_moveMember_32 ⟨rfl, rfl⟩ (fun x_36 => ?_)
    refine S_ifne (pc := 35) (tgt := 49) dX8_moveMember_35 (by decide) ?_ ?_
    · refine S_aload (pc := 49) dX8_moveMember_49 rfl ?_
      refine S_gP (pc := 51) fl_X8_64 rfl dX8_moveMember_51 (fun a_37 => ?_)
      refine Z_astore (pc := 54) (lv' := [some (.ref r0), some (.int v1), some (.int v2), some (.int v3), some (.ref a_34), some (.ref a_37), none, none]) dX8_moveMember_54 rfl rfl rfl ?_
      refine S_aload (pc := 56) dX8_moveMember_56 rfl ?_
      refine S_gP (pc := 58) fl_X8_270 rfl dX8_moveMember_58 (fun a_38 => ?_)
      refine S_iload_n (pc := 61) dX8_moveMember_61 rfl ?_
      refine S_ldI (pc := 62) dX8_moveMember_62 (fun x_39 => ?_)
      refine S_ifne (pc := 63) (tgt := 82) dX8_moveMember_63 (by decide) ?_ ?_
      · refine S_aload (pc := 82) dX8_moveMember_82 rfl ?_
        refine S_iload_n (pc := 84) dX8_moveMember_84 rfl ?_
        refine S_aload (pc := 85) dX8_moveMember_85 rfl ?_
        refine S_gP (pc := 87) fl_X8_298 rfl dX8_moveMember_87 (fun a_40 => ?_)
        refine S_iload_n (pc := 90) dX8_moveMember_90 rfl ?_
        refine S_ldI (pc := 91) dX8_moveMember_91 (fun x_41 => ?_)
        refine Y_Vi (pc := 92) (st := []) (kc' := 2) (ks' := 12) (ktX4_hasMethod a_37 v3 x_41) mw_X4_hasMethod mv_X4_hasMethod w936 (RO.mk rfl rfl rfl rfl) rfl rfl rfl dX8_moveMember_92 ⟨rfl, rfl⟩ (fun x_42 => ?_)
        exact (S_lv (lv0 := [some (.ref r0), none, some (.int v2), some (.int v3), none, some (.ref a_37), none, none]) (And.intro rfl (And.intro rfl (And.intro rfl (And.intro rfl trivial)))) (sX8_moveMember_95 r0 v2 v3 a_37 x_42))
      · refine S_aload (pc := 66) dX8_moveMember_66 rfl ?_
        refine S_iload_n (pc := 68) dX8_moveMember_68 rfl ?_
        refine S_aload (pc := 69) dX8_moveMember_69 rfl ?_
        refine S_gP (pc := 71) fl_X8_295 rfl dX8_moveMember_71 (fun a_43 => ?_)
        refine S_iload_n (pc := 74) dX8_moveMember_74 rfl ?_
        refine S_ldI (pc := 75) dX8_moveMember_75 (fun x_44 => ?_)
        refine Y_Vi (pc := 76) (st := []) (kc' := 2) (ks' := 12) (ktX4_hasField a_37 v3 x_44) mw_X4_hasField mv_X4_hasField w913 (RO.mk rfl rfl rfl rfl) rfl rfl rfl dX8_moveMember_76 ⟨rfl, rfl⟩ (fun x_45 => ?_)
        refine S_goto (pc := 79) (tgt := 95) dX8_moveMember_79 (by decide) ?_
        exact (S_lv (lv0 := [some (.ref r0), none, some (.int v2), some (.int v3), none, some (.ref a_37), none, none]) (And.intro rfl (And.intro rfl (And.intro rfl (And.intro rfl trivial)))) (sX8_moveMember_95 r0 v2 v3 a_37 x_45))
    · exact S_thrW (pc := 38) (k := 2) rfl exA2 w769 w16 st_22 rfl ⟨rfl, rfl, rfl, rfl⟩ rfl dX8_moveMember_38 dX8_moveMember_41 dX8_moveMember_42 dX8_moveMember_45 dX8_moveMember_48
  · exact S_thrW (pc := 17) (k := 1) rfl exA1 w695 w15 st_5 rfl ⟨rfl, rfl, rfl, rfl⟩ rfl dX8_moveMember_17 dX8_moveMember_20 dX8_moveMember_21 dX8_moveMember_24 dX8_moveMember_27
theorem ktX8_moveMember (r0 : Nat) (v1 : Int32) (v2 : Int32) (v3 : Int32) : Ct mX8_moveMember xI [.ref r0, .int v1, .int v2, .int v3] (fX8_moveMember r0 v1 v2 v3) := Ct.of (z := 4) pn_X8 rfl rfl rfl (sX8_moveMember r0 v1 v2 v3)
def mX8_removeClass : MI := (yX8_removeClass, cX8_removeClass, 4, (some .int), { frames := 9, cells := 3, slots := 18, locals := 154 }, [])
theorem mw_X8_removeClass : MW mX8_removeClass 2 := ⟨w818, w1, ⟨by decide, by decide⟩, by decide +kernel⟩
theorem mv_X8_removeClass : MV mX8_removeClass 8 := ⟨_, rfl, w816, w817⟩
def fX8_removeClass  (r0 : Nat) (v1 : Int32) (v2 : Int32) : AH → Option ((Nat ⊕ Int32) × AH) := fun h =>
  cv 8 r0 (fX8_libraryWith r0 v1 v2) h <| xp fun a_6 h =>
  if v2 = 0 then (
    some ((Sum.inl 3 : (Nat ⊕ Int32)), thr h))
  else
  cv 2 a_6 (fX2_isSuperclass a_6 v2) h fun x_7 h =>
  if x_7 = 0 then (
    cv 2 a_6 (fX2_isSuperinterface a_6 v2) h fun x_8 h =>
    if x_8 = 0 then (
      cv 8 r0 (fX8_saveState r0) h fun _ h =>
      cv 2 a_6 (fX2_takeClass a_6 v2) h fun _ h =>
      (gP 2 a_6 10 h).bind fun a_9 =>
      cv 4 a_9 (fX4_dropAllOf a_9 v2) h fun x_10 h =>
      some ((Sum.inr x_10 : (Nat ⊕ Int32)), h))
    else
    some ((Sum.inl 3 : (Nat ⊕ Int32)), thr h))
  else
  some ((Sum.inl 3 : (Nat ⊕ Int32)), thr h)
theorem sX8_removeClass  (r0 : Nat) (v1 : Int32) (v2 : Int32) : Sm mX8_removeClass xI 0 0 0 [some (.ref r0), some (.int v1), some (.int v2), none] [] (fX8_removeClass r0 v1 v2) := by
  unfold fX8_removeClass
  refine S_aload_n (pc := 0) dX8_removeClass_0 rfl ?_
  refine S_iload_n (pc := 1) dX8_removeClass_1 rfl ?_
  refine S_iload_n (pc := 2) dX8_removeClass_2 rfl ?_
  refine YX_Va (pc := 3) (st := []) (kc' := 2) (ks' := 12) (fun _ => rfl) rfl (ktX8_libraryWith r0 v1 v2) mw_X8_libraryWith mv_X8_libraryWith w819 (RO.mk rfl rfl rfl rfl) rfl rfl rfl dX8_removeClass_3 ⟨rfl, rfl⟩ (fun a_6 => ?_)
  refine Z_astore_n (pc := 6) (lv' := [some (.ref r0), some (.int v1), some (.int v2), some (.ref a_6)]) dX8_removeClass_6 rfl rfl rfl ?_
  refine S_iload_n (pc := 7) dX8_removeClass_7 rfl ?_
  refine S_ifne (pc := 8) (tgt := 21) dX8_removeClass_8 (by decide) ?_ ?_
  · refine S_aload_n (pc := 21) dX8_removeClass_21 rfl ?_
    refine S_iload_n (pc := 22) dX8_removeClass_22 rfl ?_
    refine Y_Vi (pc := 23) (st := []) (kc' := 2) (ks' := 12) (ktX2_isSuperclass a_6 v2) mw_X2_isSuperclass mv_X2_isSuperclass w825 (RO.mk rfl rfl rfl rfl) rfl rfl rfl dX8_removeClass_23 ⟨rfl, rfl⟩ (fun x_7 => ?_)
    refine S_ifne (pc := 26) (tgt := 37) dX8_removeClass_26 (by decide) ?_ ?_
    · exact S_thr (pc := 37) (k := 3) rfl exA3 w790 w17 st_7 rfl ⟨rfl, rfl, rfl, rfl⟩ rfl dX8_removeClass_37 dX8_removeClass_40 dX8_removeClass_41 dX8_removeClass_43 dX8_removeClass_46
    · refine S_aload_n (pc := 29) dX8_removeClass_29 rfl ?_
      refine S_iload_n (pc := 30) dX8_removeClass_30 rfl ?_
      refine Y_Vi (pc := 31) (st := []) (kc' := 2) (ks' := 12) (ktX2_isSuperinterface a_6 v2) mw_X2_isSuperinterface mv_X2_isSuperinterface w829 (RO.mk rfl rfl rfl rfl) rfl rfl rfl dX8_removeClass_31 ⟨rfl, rfl⟩ (fun x_8 => ?_)
      refine S_ifeq (pc := 34) (tgt := 47) dX8_removeClass_34 (by decide) ?_ ?_
      · refine S_aload_n (pc := 47) dX8_removeClass_47 rfl ?_
        refine Y_Vv (pc := 48) (st := []) (kc' := 2) (ks' := 12) (ktX8_saveState r0) mw_X8_saveState mv_X8_saveState w576 (RO.mk rfl rfl rfl rfl) rfl rfl rfl dX8_removeClass_48 ⟨rfl, rfl⟩ ?_
        refine S_aload_n (pc := 51) dX8_removeClass_51 rfl ?_
        refine S_iload_n (pc := 52) dX8_removeClass_52 rfl ?_
        refine Y_Vv (pc := 53) (st := []) (kc' := 2) (ks' := 12) (ktX2_takeClass a_6 v2) mw_X2_takeClass mv_X2_takeClass w834 (RO.mk rfl rfl rfl rfl) rfl rfl rfl dX8_removeClass_53 ⟨rfl, rfl⟩ ?_
        refine S_aload_n (pc := 56) dX8_removeClass_56 rfl ?_
        refine S_gP (pc := 57) fl_X8_64 rfl dX8_removeClass_57 (fun a_9 => ?_)
        refine S_iload_n (pc := 60) dX8_removeClass_60 rfl ?_
        refine Y_Vi (pc := 61) (st := []) (kc' := 2) (ks' := 12) (ktX4_dropAllOf a_9 v2) mw_X4_dropAllOf mv_X4_dropAllOf w835 (RO.mk rfl rfl rfl rfl) rfl rfl rfl dX8_removeClass_61 ⟨rfl, rfl⟩ (fun x_10 => ?_)
        exact S_iret (pc := 64) ⟨rfl, rfl⟩ rfl rfl dX8_removeClass_64
      · exact S_thr (pc := 37) (k := 3) rfl exA3 w790 w17 st_7 rfl ⟨rfl, rfl, rfl, rfl⟩ rfl dX8_removeClass_37 dX8_removeClass_40 dX8_removeClass_41 dX8_removeClass_43 dX8_removeClass_46
  · exact S_thr (pc := 11) (k := 3) rfl exA3 w790 w17 st_6 rfl ⟨rfl, rfl, rfl, rfl⟩ rfl dX8_removeClass_11 dX8_removeClass_14 dX8_removeClass_15 dX8_removeClass_17 dX8_removeClass_20
theorem ktX8_removeClass (r0 : Nat) (v1 : Int32) (v2 : Int32) : Ct mX8_removeClass xI [.ref r0, .int v1, .int v2] (fX8_removeClass r0 v1 v2) := Ct.of (z := 1) pn_X8 rfl rfl rfl (sX8_removeClass r0 v1 v2)
def mX8_removeClient : MI := (yX8_removeClient, cX8_removeClient, 2, (some .int), { frames := 7, cells := 1, slots := 6, locals := 111 }, [])
theorem mw_X8_removeClient : MW mX8_removeClient 1 := ⟨w1086, w1, ⟨by decide, by decide⟩, by decide +kernel⟩
theorem mv_X8_removeClient : MV mX8_removeClient 8 := ⟨_, rfl, w1084, w1085⟩
def fX8_removeClient  (r0 : Nat) (v1 : Int32) : AH → Option ((Nat ⊕ Int32) × AH) := fun h =>
  cv 8 r0 (fX8_requireClient r0 v1) h <| xp fun _ h =>
  cv 8 r0 (fX8_saveState r0) h fun _ h =>
  (gP 8 r0 0 h).bind fun a_4 =>
  cv 6 a_4 (fX6_dropAt a_4 v1) h fun _ h =>
  (gP 8 r0 0 h).bind fun a_5 =>
  (gI 6 a_5 2 h).bind fun x_6 =>
  some ((Sum.inr x_6 : (Nat ⊕ Int32)), h)
theorem sX8_removeClient  (r0 : Nat) (v1 : Int32) : Sm mX8_removeClient xI 0 0 0 [some (.ref r0), some (.int v1)] [] (fX8_removeClient r0 v1) := by
  unfold fX8_removeClient
  refine S_aload_n (pc := 0) dX8_removeClient_0 rfl ?_
  refine S_iload_n (pc := 1) dX8_removeClient_1 rfl ?_
  refine YX_Vv (pc := 2) (st := []) (kc' := 1) (ks' := 6) (fun _ => rfl) rfl (ktX8_requireClient r0 v1) mw_X8_requireClient mv_X8_requireClient w1071 (RO.mk rfl rfl rfl rfl) rfl rfl rfl dX8_removeClient_2 ⟨rfl, rfl⟩ ?_
  refine S_aload_n (pc := 5) dX8_removeClient_5 rfl ?_
  refine Y_Vv (pc := 6) (st := []) (kc' := 1) (ks' := 6) (ktX8_saveState r0) mw_X8_saveState mv_X8_saveState w576 (RO.mk rfl rfl rfl rfl) rfl rfl rfl dX8_removeClient_6 ⟨rfl, rfl⟩ ?_
  refine S_aload_n (pc := 9) dX8_removeClient_9 rfl ?_
  refine S_gP (pc := 10) fl_X8_10 rfl dX8_removeClient_10 (fun a_4 => ?_)
  refine S_iload_n (pc := 13) dX8_removeClient_13 rfl ?_
  refine Y_Vv (pc := 14) (st := []) (kc' := 1) (ks' := 6) (ktX6_dropAt a_4 v1) mw_X6_dropAt mv_X6_dropAt w1087 (RO.mk rfl rfl rfl rfl) rfl rfl rfl dX8_removeClient_14 ⟨rfl, rfl⟩ ?_
  refine S_aload_n (pc := 17) dX8_removeClient_17 rfl ?_
  refine S_gP (pc := 18) fl_X8_10 rfl dX8_removeClient_18 (fun a_5 => ?_)
  refine S_gI (pc := 21) fl_X8_349 rfl dX8_removeClient_21 (fun x_6 => ?_)
  exact S_iret (pc := 24) ⟨rfl, rfl⟩ rfl rfl dX8_removeClient_24
theorem ktX8_removeClient (r0 : Nat) (v1 : Int32) : Ct mX8_removeClient xI [.ref r0, .int v1] (fX8_removeClient r0 v1) := Ct.of (z := 0) pn_X8 rfl rfl rfl (sX8_removeClient r0 v1)
def mX8_removeMember : MI := (yX8_removeMember, cX8_removeMember, 4, (some .int), { frames := 9, cells := 2, slots := 12, locals := 154 }, [])
theorem mw_X8_removeMember : MW mX8_removeMember 2 := ⟨w947, w1, ⟨by decide, by decide⟩, by decide +kernel⟩
theorem mv_X8_removeMember : MV mX8_removeMember 8 := ⟨_, rfl, w945, w946⟩
def fX8_removeMember  (r0 : Nat) (v1 : Int32) (v2 : Int32) : AH → Option ((Nat ⊕ Int32) × AH) := fun h =>
  cv 8 r0 (fX8_libraryWithMember r0 v1 v2) h <| xp fun a_5 h =>
  cv 8 r0 (fX8_saveState r0) h fun _ h =>
  (gP 2 a_5 10 h).bind fun a_6 =>
  cv 4 a_6 (fX4_dropAt a_6 v2) h fun _ h =>
  (gP 2 a_5 10 h).bind fun a_7 =>
  (gI 4 a_7 0 h).bind fun x_8 =>
  some ((Sum.inr x_8 : (Nat ⊕ Int32)), h)
theorem sX8_removeMember  (r0 : Nat) (v1 : Int32) (v2 : Int32) : Sm mX8_removeMember xI 0 0 0 [some (.ref r0), some (.int v1), some (.int v2), none] [] (fX8_removeMember r0 v1 v2) := by
  unfold fX8_removeMember
  refine S_aload_n (pc := 0) dX8_removeMember_0 rfl ?_
  refine S_iload_n (pc := 1) dX8_removeMember_1 rfl ?_
  refine S_iload_n (pc := 2) dX8_removeMember_2 rfl ?_
  refine YX_Va (pc := 3) (st := []) (kc' := 2) (ks' := 12) (fun _ => rfl) rfl (ktX8_libraryWithMember r0 v1 v2) mw_X8_libraryWithMember mv_X8_libraryWithMember w948 (RO.mk rfl rfl rfl rfl) rfl rfl rfl dX8_removeMember_3 ⟨rfl, rfl⟩ (fun a_5 => ?_)
  refine Z_astore_n (pc := 6) (lv' := [some (.ref r0), some (.int v1), some (.int v2), some (.ref a_5)]) dX8_removeMember_6 rfl rfl rfl ?_
  refine S_aload_n (pc := 7) dX8_removeMember_7 rfl ?_
  refine Y_Vv (pc := 8) (st := []) (kc' := 2) (ks' := 12) (ktX8_saveState r0) mw_X8_saveState mv_X8_saveState w576 (RO.mk rfl rfl rfl rfl) rfl rfl rfl dX8_removeMember_8 ⟨rfl, rfl⟩ ?_
  refine S_aload_n (pc := 11) dX8_removeMember_11 rfl ?_
  refine S_gP (pc := 12) fl_X8_64 rfl dX8_removeMember_12 (fun a_6 => ?_)
  refine S_iload_n (pc := 15) dX8_removeMember_15 rfl ?_
  refine Y_Vv (pc := 16) (st := []) (kc' := 2) (ks' := 12) (ktX4_dropAt a_6 v2) mw_X4_dropAt mv_X4_dropAt w957 (RO.mk rfl rfl rfl rfl) rfl rfl rfl dX8_removeMember_16 ⟨rfl, rfl⟩ ?_
  refine S_aload_n (pc := 19) dX8_removeMember_19 rfl ?_
  refine S_gP (pc := 20) fl_X8_64 rfl dX8_removeMember_20 (fun a_7 => ?_)
  refine S_gI (pc := 23) fl_X8_203 rfl dX8_removeMember_23 (fun x_8 => ?_)
  exact S_iret (pc := 26) ⟨rfl, rfl⟩ rfl rfl dX8_removeMember_26
theorem ktX8_removeMember (r0 : Nat) (v1 : Int32) (v2 : Int32) : Ct mX8_removeMember xI [.ref r0, .int v1, .int v2] (fX8_removeMember r0 v1 v2) := Ct.of (z := 1) pn_X8 rfl rfl rfl (sX8_removeMember r0 v1 v2)
def mX8_sampleValue : MI := (yX8_sampleValue, cX8_sampleValue, 2, (some .int), { frames := 0, cells := 0, slots := 0, locals := 0 }, [])
theorem mw_X8_sampleValue : MW mX8_sampleValue 1 := ⟨w1147, w1, ⟨by decide, by decide⟩, by decide +kernel⟩
theorem mv_X8_sampleValue : MV mX8_sampleValue 8 := ⟨_, rfl, w1146, wp31⟩
def fX8_sampleValue  (r0 : Nat) (v1 : Int32) : AH → Option (Int32 × AH) := fun h =>
  if v1 = (nI 0) then (
    (gP 8 r0 5 h).bind fun a_13 =>
    (gI 0 a_13 0 h).bind fun x_14 =>
    some (x_14, h))
  else
  if v1 = (nI 1) then (
    (gP 8 r0 5 h).bind fun a_15 =>
    (gI 0 a_15 1 h).bind fun x_16 =>
    some (x_16, h))
  else
  if v1 = (nI 2) then (
    (gP 8 r0 5 h).bind fun a_17 =>
    (gI 0 a_17 2 h).bind fun x_18 =>
    some (x_18, h))
  else
  if v1 = (nI 3) then (
    (gP 8 r0 5 h).bind fun a_19 =>
    (gI 0 a_19 5 h).bind fun x_20 =>
    some (x_20, h))
  else
  if v1 = (nI 4) then (
    (gP 8 r0 5 h).bind fun a_21 =>
    (gI 0 a_21 6 h).bind fun x_22 =>
    some (x_22, h))
  else
  (gP 8 r0 5 h).bind fun a_23 =>
  (gI 0 a_23 7 h).bind fun x_24 =>
  some (x_24, h)
theorem sX8_sampleValue  (r0 : Nat) (v1 : Int32) : Sm mX8_sampleValue rI 0 0 0 [some (.ref r0), some (.int v1)] [] (fX8_sampleValue r0 v1) := by
  unfold fX8_sampleValue
  refine S_iload_n (pc := 0) dX8_sampleValue_0 rfl ?_
  refine S_case (x := v1) (v := (nI 0)) (fun n0 => ?_) (fun n0 => ?_)
  · refine S_tsI (pc := 1) (tgt := 36) n0 dX8_sampleValue_1 (by decide) rfl (by decide) ?_
    refine S_aload_n (pc := 36) dX8_sampleValue_36 rfl ?_
    refine S_gP (pc := 37) fl_X8_37 rfl dX8_sampleValue_37 (fun a_13 => ?_)
    refine S_gI (pc := 40) fl_X8_414 rfl dX8_sampleValue_40 (fun x_14 => ?_)
    exact S_iret (pc := 43) ⟨rfl, rfl⟩ rfl rfl dX8_sampleValue_43
  refine S_case (x := v1) (v := (nI 1)) (fun n1 => ?_) (fun n1 => ?_)
  · refine S_tsI (pc := 1) (tgt := 44) n1 dX8_sampleValue_1 (by decide) rfl (by decide) ?_
    refine S_aload_n (pc := 44) dX8_sampleValue_44 rfl ?_
    refine S_gP (pc := 45) fl_X8_37 rfl dX8_sampleValue_45 (fun a_15 => ?_)
    refine S_gI (pc := 48) fl_X8_417 rfl dX8_sampleValue_48 (fun x_16 => ?_)
    exact S_iret (pc := 51) ⟨rfl, rfl⟩ rfl rfl dX8_sampleValue_51
  refine S_case (x := v1) (v := (nI 2)) (fun n2 => ?_) (fun n2 => ?_)
  · refine S_tsI (pc := 1) (tgt := 52) n2 dX8_sampleValue_1 (by decide) rfl (by decide) ?_
    refine S_aload_n (pc := 52) dX8_sampleValue_52 rfl ?_
    refine S_gP (pc := 53) fl_X8_37 rfl dX8_sampleValue_53 (fun a_17 => ?_)
    refine S_gI (pc := 56) fl_X8_420 rfl dX8_sampleValue_56 (fun x_18 => ?_)
    exact S_iret (pc := 59) ⟨rfl, rfl⟩ rfl rfl dX8_sampleValue_59
  refine S_case (x := v1) (v := (nI 3)) (fun n3 => ?_) (fun n3 => ?_)
  · refine S_tsI (pc := 1) (tgt := 60) n3 dX8_sampleValue_1 (by decide) rfl (by decide) ?_
    refine S_aload_n (pc := 60) dX8_sampleValue_60 rfl ?_
    refine S_gP (pc := 61) fl_X8_37 rfl dX8_sampleValue_61 (fun a_19 => ?_)
    refine S_gI (pc := 64) fl_X8_422 rfl dX8_sampleValue_64 (fun x_20 => ?_)
    exact S_iret (pc := 67) ⟨rfl, rfl⟩ rfl rfl dX8_sampleValue_67
  refine S_case (x := v1) (v := (nI 4)) (fun n4 => ?_) (fun n4 => ?_)
  · refine S_tsI (pc := 1) (tgt := 68) n4 dX8_sampleValue_1 (by decide) rfl (by decide) ?_
    refine S_aload_n (pc := 68) dX8_sampleValue_68 rfl ?_
    refine S_gP (pc := 69) fl_X8_37 rfl dX8_sampleValue_69 (fun a_21 => ?_)
    refine S_gI (pc := 72) fl_X8_423 rfl dX8_sampleValue_72 (fun x_22 => ?_)
    exact S_iret (pc := 75) ⟨rfl, rfl⟩ rfl rfl dX8_sampleValue_75
  refine S_tsD (pc := 1) (tgt := 76) (by have n0 := lv_neT (a := 0) n0 rfl; have n1 := lv_neT (a := 1) n1 rfl; have n2 := lv_neT (a := 2) n2 rfl; have n3 := lv_neT (a := 3) n3 rfl; have n4 := lv_neT (a := 4) n4 rfl; omega) dX8_sampleValue_1 (by decide) ?_
  refine S_aload_n (pc := 76) dX8_sampleValue_76 rfl ?_
  refine S_gP (pc := 77) fl_X8_37 rfl dX8_sampleValue_77 (fun a_23 => ?_)
  refine S_gI (pc := 80) fl_X8_424 rfl dX8_sampleValue_80 (fun x_24 => ?_)
  exact S_iret (pc := 83) ⟨rfl, rfl⟩ rfl rfl dX8_sampleValue_83
theorem ktX8_sampleValue (r0 : Nat) (v1 : Int32) : Ct mX8_sampleValue rI [.ref r0, .int v1] (fX8_sampleValue r0 v1) := Ct.of (z := 0) pn_X8 rfl rfl rfl (sX8_sampleValue r0 v1)
def mX8_sample : MI := (yX8_sample, cX8_sample, 5, (some .int), { frames := 6, cells := 1, slots := 6, locals := 151 }, [])
theorem mw_X8_sample : MW mX8_sample 3 := ⟨w1140, w1, ⟨by decide, by decide⟩, by decide +kernel⟩
theorem mv_X8_sample : MV mX8_sample 8 := ⟨_, rfl, w1138, w1139⟩
def fX8_sample_116 (k62 : Nat → Int32 → Int32 → Int32 → AH → Option ((Nat ⊕ Int32) × AH)) (r0 : Nat) (v1 : Int32) (v3 : Int32) (v4 : Int32) (s0 : Nat) (s1 : Int32) : AH → Option ((Nat ⊕ Int32) × AH) := fun h =>
  cv 0 s0 (fX0_advance s0 s1) h fun x_23 h =>
  if x_23 = 0 then (
    some ((Sum.inr (-2 : Int32) : (Nat ⊕ Int32)), h))
  else
  k62 r0 v1 v3 (v4 + (nI 1)) h
def fX8_sample_95 (k62 : Nat → Int32 → Int32 → Int32 → AH → Option ((Nat ⊕ Int32) × AH)) (r0 : Nat) (v1 : Int32) (v3 : Int32) (v4 : Int32) : AH → Option ((Nat ⊕ Int32) × AH) := fun h =>
  (gP 8 r0 5 h).bind fun a_24 =>
  (gP 8 r0 6 h).bind fun a_25 =>
  (ldP 1 a_25 (nI 0) h).bind fun a_26 =>
  (gI 1 a_26 4 h).bind fun x_27 =>
  if x_27 = 0 then (
    fX8_sample_116 k62 r0 v1 v3 v4 a_24 (nI 1) h)
  else
  fX8_sample_116 k62 r0 v1 v3 v4 a_24 (nI 0) h
def bX8_sample_62  (k62 : Nat → Int32 → Int32 → Int32 → AH → Option ((Nat ⊕ Int32) × AH)) (r0 : Nat) (v1 : Int32) (v3 : Int32) (v4 : Int32) : AH → Option ((Nat ⊕ Int32) × AH) := fun h =>
  if (nI 63840) ≤ v4 then (
    some ((Sum.inr (-2 : Int32) : (Nat ⊕ Int32)), h))
  else
  cv 8 r0 (fX8_compileProbe r0) h fun x_28 h =>
  if x_28 = 0 then (
    fX8_sample_95 k62 r0 v1 v3 v4 h)
  else
  (gP 8 r0 5 h).bind fun a_29 =>
  cv 8 r0 (fX8_verdictOf r0 a_29) h fun x_30 h =>
  if x_30 = v1 then (
    cv 8 r0 (fX8_sampleValue r0 v3) h fun x_31 h =>
    some ((Sum.inr x_31 : (Nat ⊕ Int32)), h))
  else
  fX8_sample_95 k62 r0 v1 v3 v4 h
def lX8_sample_62  : Nat → Nat → Int32 → Int32 → Int32 → AH → Option ((Nat ⊕ Int32) × AH)
  | 0 => fun _ _ _ _ _ => none
  | n + 1 => bX8_sample_62 (lX8_sample_62 n)
def fX8_sample  (r0 : Nat) (v1 : Int32) (v2 : Int32) (v3 : Int32) : AH → Option ((Nat ⊕ Int32) × AH) := fun h =>
  if v1 < (nI 1) then (
    some ((Sum.inl 2 : (Nat ⊕ Int32)), thr h))
  else
  if (nI 5) < v1 then (
    some ((Sum.inl 2 : (Nat ⊕ Int32)), thr h))
  else
  bd (fX8_isPackage v2 h) fun x_32 h =>
  if x_32 = 0 then (
    some ((Sum.inl 2 : (Nat ⊕ Int32)), thr h))
  else
  if v3 < 0 then (
    some ((Sum.inl 2 : (Nat ⊕ Int32)), thr h))
  else
  if v3 ≤ (nI 5) then (
    (gP 8 r0 5 h).bind fun a_33 =>
    cv 0 a_33 (fX0_put a_33 (nI 0) (nI 0) (nI 0) v2) h fun _ h =>
    lX8_sample_62 fuel r0 v1 v3 (nI 0) h)
  else
  some ((Sum.inl 2 : (Nat ⊕ Int32)), thr h)
theorem sX8_sample_116 {k62 : Nat → Int32 → Int32 → Int32 → AH → Option ((Nat ⊕ Int32) × AH)} (h62 : ∀ (r0 : Nat) (v1 : Int32) (v3 : Int32) (v4 : Int32), Sm mX8_sample xI 0 0 62 [some (.ref r0), some (.int v1), none, some (.int v3), some (.int v4)] [] (k62 r0 v1 v3 v4)) (r0 : Nat) (v1 : Int32) (v3 : Int32) (v4 : Int32) (s0 : Nat) (s1 : Int32) : Sm mX8_sample xI 0 0 116 [some (.ref r0), some (.int v1), none, some (.int v3), some (.int v4)] [.int s1, .ref s0] (fX8_sample_116 k62 r0 v1 v3 v4 s0 s1) := by
  unfold fX8_sample_116
  refine Y_Vi (pc := 116) (st := []) (kc' := 0) (ks' := 0) (ktX0_advance s0 s1) mw_X0_advance mv_X0_advance w1148 (RO.mk rfl rfl rfl rfl) rfl rfl rfl dX8_sample_116 ⟨rfl, rfl⟩ (fun x_23 => ?_)
  refine S_ifne (pc := 119) (tgt := 125) dX8_sample_119 (by decide) ?_ ?_
  · refine Z_iinc (pc := 125) (v := (nI 1)) (lv' := [some (.ref r0), some (.int v1), none, some (.int v3), some (.int (v4 + (nI 1)))]) dX8_sample_125 rfl kI_1 rfl rfl rfl ?_
    refine S_goto (pc := 128) (tgt := 62) dX8_sample_128 (by decide) ?_
    exact (h62 r0 v1 v3 (v4 + (nI 1)))
  · refine S_bipush (pc := 122) (v := (-2 : Int32)) dX8_sample_122 kB_m2 ?_
    exact S_iret (pc := 124) ⟨rfl, rfl⟩ rfl rfl dX8_sample_124
theorem sX8_sample_95 {k62 : Nat → Int32 → Int32 → Int32 → AH → Option ((Nat ⊕ Int32) × AH)} (h62 : ∀ (r0 : Nat) (v1 : Int32) (v3 : Int32) (v4 : Int32), Sm mX8_sample xI 0 0 62 [some (.ref r0), some (.int v1), none, some (.int v3), some (.int v4)] [] (k62 r0 v1 v3 v4)) (r0 : Nat) (v1 : Int32) (v3 : Int32) (v4 : Int32) : Sm mX8_sample xI 0 0 95 [some (.ref r0), some (.int v1), none, some (.int v3), some (.int v4)] [] (fX8_sample_95 k62 r0 v1 v3 v4) := by
  unfold fX8_sample_95
  refine S_aload_n (pc := 95) dX8_sample_95 rfl ?_
  refine S_gP (pc := 96) fl_X8_37 rfl dX8_sample_96 (fun a_24 => ?_)
  refine S_aload_n (pc := 99) dX8_sample_99 rfl ?_
  refine S_gP (pc := 100) fl_X8_43 rfl dX8_sample_100 (fun a_25 => ?_)
  refine S_iconst (pc := 103) (v := (nI 0)) dX8_sample_103 kI_0 ?_
  refine S_ldP (pc := 104) (c := 1) (by decide) dX8_sample_104 (fun a_26 => ?_)
  refine S_gI (pc := 105) fl_X8_406 rfl dX8_sample_105 (fun x_27 => ?_)
  refine S_ifne (pc := 108) (tgt := 115) dX8_sample_108 (by decide) ?_ ?_
  · refine S_iconst (pc := 115) (v := (nI 0)) dX8_sample_115 kI_0 ?_
    exact (sX8_sample_116 h62 r0 v1 v3 v4 a_24 (nI 0))
  · refine S_iconst (pc := 111) (v := (nI 1)) dX8_sample_111 kI_1 ?_
    refine S_goto (pc := 112) (tgt := 116) dX8_sample_112 (by decide) ?_
    exact (sX8_sample_116 h62 r0 v1 v3 v4 a_24 (nI 1))
theorem sbX8_sample_62  {k62 : Nat → Int32 → Int32 → Int32 → AH → Option ((Nat ⊕ Int32) × AH)} (h62 : ∀ (r0 : Nat) (v1 : Int32) (v3 : Int32) (v4 : Int32), Sm mX8_sample xI 0 0 62 [some (.ref r0), some (.int v1), none, some (.int v3), some (.int v4)] [] (k62 r0 v1 v3 v4)) (r0 : Nat) (v1 : Int32) (v3 : Int32) (v4 : Int32) : Sm mX8_sample xI 0 0 62 [some (.ref r0), some (.int v1), none, some (.int v3), some (.int v4)] [] (bX8_sample_62 k62 r0 v1 v3 v4) := by
  unfold bX8_sample_62
  refine S_iload (pc := 62) dX8_sample_62 rfl ?_
  refine S_ldcw (pc := 64) (v := (nI 63840)) w1143 dX8_sample_64 ?_
  refine S_icmpge (pc := 67) (tgt := 131) dX8_sample_67 (by decide) ?_ ?_
  · refine S_bipush (pc := 131) (v := (-2 : Int32)) dX8_sample_131 kB_m2 ?_
    exact S_iret (pc := 133) ⟨rfl, rfl⟩ rfl rfl dX8_sample_133
  · refine S_aload_n (pc := 70) dX8_sample_70 rfl ?_
    refine Y_Vi (pc := 71) (st := []) (kc' := 0) (ks' := 0) (ktX8_compileProbe r0) mw_X8_compileProbe mv_X8_compileProbe w438 (RO.mk rfl rfl rfl rfl) rfl rfl rfl dX8_sample_71 ⟨rfl, rfl⟩ (fun x_28 => ?_)
    refine S_ifeq (pc := 74) (tgt := 95) dX8_sample_74 (by decide) ?_ ?_
    · exact (sX8_sample_95 h62 r0 v1 v3 v4)
    · refine S_aload_n (pc := 77) dX8_sample_77 rfl ?_
      refine S_aload_n (pc := 78) dX8_sample_78 rfl ?_
      refine S_gP (pc := 79) fl_X8_37 rfl dX8_sample_79 (fun a_29 => ?_)
      refine Y_Vi (pc := 82) (st := []) (kc' := 0) (ks' := 0) (ktX8_verdictOf r0 a_29) mw_X8_verdictOf mv_X8_verdictOf w670 (RO.mk rfl rfl rfl rfl) rfl rfl rfl dX8_sample_82 ⟨rfl, rfl⟩ (fun x_30 => ?_)
      refine S_iload_n (pc := 85) dX8_sample_85 rfl ?_
      refine S_icmpne (pc := 86) (tgt := 95) dX8_sample_86 (by decide) ?_ ?_
      · exact (sX8_sample_95 h62 r0 v1 v3 v4)
      · refine S_aload_n (pc := 89) dX8_sample_89 rfl ?_
        refine S_iload_n (pc := 90) dX8_sample_90 rfl ?_
        refine Y_Vi (pc := 91) (st := []) (kc' := 0) (ks' := 0) (ktX8_sampleValue r0 v3) mw_X8_sampleValue mv_X8_sampleValue w1144 (RO.mk rfl rfl rfl rfl) rfl rfl rfl dX8_sample_91 ⟨rfl, rfl⟩ (fun x_31 => ?_)
        exact S_iret (pc := 94) ⟨rfl, rfl⟩ rfl rfl dX8_sample_94
theorem sX8_sample_62  : ∀ (n : Nat) (r0 : Nat) (v1 : Int32) (v3 : Int32) (v4 : Int32), Sm mX8_sample xI 0 0 62 [some (.ref r0), some (.int v1), none, some (.int v3), some (.int v4)] [] (lX8_sample_62 n r0 v1 v3 v4)
  | 0, _, _, _, _ => S_none
  | n + 1, r0, v1, v3, v4 => sbX8_sample_62 (sX8_sample_62 n) r0 v1 v3 v4
theorem sX8_sample  (r0 : Nat) (v1 : Int32) (v2 : Int32) (v3 : Int32) : Sm mX8_sample xI 0 0 0 [some (.ref r0), some (.int v1), some (.int v2), some (.int v3), none] [] (fX8_sample r0 v1 v2 v3) := by
  unfold fX8_sample
  refine S_iload_n (pc := 0) dX8_sample_0 rfl ?_
  refine S_iconst (pc := 1) (v := (nI 1)) dX8_sample_1 kI_1 ?_
  refine S_icmplt (pc := 2) (tgt := 17) dX8_sample_2 (by decide) ?_ ?_
  · exact S_thrW (pc := 17) (k := 2) rfl exA2 w769 w16 st_34 rfl ⟨rfl, rfl, rfl, rfl⟩ rfl dX8_sample_17 dX8_sample_20 dX8_sample_21 dX8_sample_24 dX8_sample_27
  · refine S_iload_n (pc := 5) dX8_sample_5 rfl ?_
    refine S_iconst (pc := 6) (v := (nI 5)) dX8_sample_6 kI_5 ?_
    refine S_icmpgt (pc := 7) (tgt := 17) dX8_sample_7 (by decide) ?_ ?_
    · exact S_thrW (pc := 17) (k := 2) rfl exA2 w769 w16 st_34 rfl ⟨rfl, rfl, rfl, rfl⟩ rfl dX8_sample_17 dX8_sample_20 dX8_sample_21 dX8_sample_24 dX8_sample_27
    · refine S_iload_n (pc := 10) dX8_sample_10 rfl ?_
      refine Y_Ti (pc := 11) (st := []) (kc' := 0) (ks' := 0) (ktX8_isPackage v2) mw_X8_isPackage w1051 w1050 (RO.mk rfl rfl rfl rfl) rfl rfl rfl dX8_sample_11 ⟨rfl, rfl⟩ (fun x_32 => ?_)
      refine S_ifne (pc := 14) (tgt := 28) dX8_sample_14 (by decide) ?_ ?_
      · refine S_iload_n (pc := 28) dX8_sample_28 rfl ?_
        refine S_iflt (pc := 29) (tgt := 37) dX8_sample_29 (by decide) ?_ ?_
        · exact S_thrW (pc := 37) (k := 2) rfl exA2 w769 w16 st_35 rfl ⟨rfl, rfl, rfl, rfl⟩ rfl dX8_sample_37 dX8_sample_40 dX8_sample_41 dX8_sample_44 dX8_sample_47
        · refine S_iload_n (pc := 32) dX8_sample_32 rfl ?_
          refine S_iconst (pc := 33) (v := (nI 5)) dX8_sample_33 kI_5 ?_
          refine S_icmple (pc := 34) (tgt := 48) dX8_sample_34 (by decide) ?_ ?_
          · refine S_aload_n (pc := 48) dX8_sample_48 rfl ?_
            refine S_gP (pc := 49) fl_X8_37 rfl dX8_sample_49 (fun a_33 => ?_)
            refine S_iconst (pc := 52) (v := (nI 0)) dX8_sample_52 kI_0 ?_
            refine S_iconst (pc := 53) (v := (nI 0)) dX8_sample_53 kI_0 ?_
            refine S_iconst (pc := 54) (v := (nI 0)) dX8_sample_54 kI_0 ?_
            refine S_iload_n (pc := 55) dX8_sample_55 rfl ?_
            refine Y_Vv (pc := 56) (st := []) (kc' := 0) (ks' := 0) (ktX0_put a_33 (nI 0) (nI 0) (nI 0) v2) mw_X0_put mv_X0_put w430 (RO.mk rfl rfl rfl rfl) rfl rfl rfl dX8_sample_56 ⟨rfl, rfl⟩ ?_
            refine S_iconst (pc := 59) (v := (nI 0)) dX8_sample_59 kI_0 ?_
            refine Z_istore (pc := 60) (lv' := [some (.ref r0), some (.int v1), some (.int v2), some (.int v3), some (.int (nI 0))]) dX8_sample_60 rfl rfl rfl ?_
            exact (S_lv (lv0 := [some (.ref r0), some (.int v1), none, some (.int v3), some (.int (nI 0))]) (And.intro rfl (And.intro rfl (And.intro rfl (And.intro rfl trivial)))) (sX8_sample_62 fuel r0 v1 v3 (nI 0)))
          · exact S_thrW (pc := 37) (k := 2) rfl exA2 w769 w16 st_35 rfl ⟨rfl, rfl, rfl, rfl⟩ rfl dX8_sample_37 dX8_sample_40 dX8_sample_41 dX8_sample_44 dX8_sample_47
      · exact S_thrW (pc := 17) (k := 2) rfl exA2 w769 w16 st_34 rfl ⟨rfl, rfl, rfl, rfl⟩ rfl dX8_sample_17 dX8_sample_20 dX8_sample_21 dX8_sample_24 dX8_sample_27
theorem ktX8_sample (r0 : Nat) (v1 : Int32) (v2 : Int32) (v3 : Int32) : Ct mX8_sample xI [.ref r0, .int v1, .int v2, .int v3] (fX8_sample r0 v1 v2 v3) := Ct.of (z := 1) pn_X8 rfl rfl rfl (sX8_sample r0 v1 v2 v3)
def mX8_selected : MI := (yX8_selected, cX8_selected, 6, (some .int), { frames := 9, cells := 3, slots := 18, locals := 154 }, [])
theorem mw_X8_selected : MW mX8_selected 3 := ⟨w1039, w1, ⟨by decide, by decide⟩, by decide +kernel⟩
theorem mv_X8_selected : MV mX8_selected 8 := ⟨_, rfl, w1037, w1038⟩
def fX8_selected  (r0 : Nat) (v1 : Int32) (v2 : Int32) (v3 : Int32) : AH → Option ((Nat ⊕ Int32) × AH) := fun h =>
  cv 8 r0 (fX8_libraryWithMember r0 v1 v2) h <| xp fun a_22 h =>
  cv 2 a_22 (fX2_isThere a_22 v3) h fun x_23 h =>
  if x_23 = 0 then (
    some ((Sum.inl 1 : (Nat ⊕ Int32)), thr h))
  else
  (gP 2 a_22 10 h).bind fun a_24 =>
  (gP 4 a_24 4 h).bind fun a_25 =>
  (ldI a_25 v2 h).bind fun x_26 =>
  if x_26 = 0 then (
    some ((Sum.inl 2 : (Nat ⊕ Int32)), thr h))
  else
  (gP 4 a_24 2 h).bind fun a_27 =>
  (ldI a_27 v2 h).bind fun x_28 =>
  if (x_28 &&& (nI 1)) = 0 then (
    cv 2 a_22 (fX2_isInterface a_22 v3) h fun x_29 h =>
    if x_29 = 0 then (
      (gP 2 a_22 8 h).bind fun a_30 =>
      (ldI a_30 v3 h).bind fun x_31 =>
      (gP 4 a_24 5 h).bind fun a_32 =>
      (ldI a_32 v2 h).bind fun x_33 =>
      if ((x_31 >>> (x_33 &&& 31)) &&& (nI 1)) = 0 then (
        some ((Sum.inl 2 : (Nat ⊕ Int32)), thr h))
      else
      (gP 4 a_24 1 h).bind fun a_34 =>
      (ldI a_34 v2 h).bind fun x_35 =>
      if x_35 = 0 then (
        some ((Sum.inr v2 : (Nat ⊕ Int32)), h))
      else
      (gP 4 a_24 12 h).bind fun a_36 =>
      (ldI a_36 v2 h).bind fun x_37 =>
      (gP 2 a_22 9 h).bind fun a_38 =>
      (ldI a_38 v3 h).bind fun x_39 =>
      (gP 2 a_22 8 h).bind fun a_40 =>
      (ldI a_40 v3 h).bind fun x_41 =>
      cv 2 a_22 (fX2_selectedAlong a_22 x_37 x_39 x_41) h fun x_42 h =>
      some ((Sum.inr x_42 : (Nat ⊕ Int32)), h))
    else
    some ((Sum.inl 2 : (Nat ⊕ Int32)), thr h))
  else
  some ((Sum.inl 2 : (Nat ⊕ Int32)), thr h)
theorem sX8_selected  (r0 : Nat) (v1 : Int32) (v2 : Int32) (v3 : Int32) : Sm mX8_selected xI 0 0 0 [some (.ref r0), some (.int v1), some (.int v2), some (.int v3), none, none] [] (fX8_selected r0 v1 v2 v3) := by
  unfold fX8_selected
  refine S_aload_n (pc := 0) dX8_selected_0 rfl ?_
  refine S_iload_n (pc := 1) dX8_selected_1 rfl ?_
  refine S_iload_n (pc := 2) dX8_selected_2 rfl ?_
  refine YX_Va (pc := 3) (st := []) (kc' := 2) (ks' := 12) (fun _ => rfl) rfl (ktX8_libraryWithMember r0 v1 v2) mw_X8_libraryWithMember mv_X8_libraryWithMember w948 (RO.mk rfl rfl rfl rfl) rfl rfl rfl dX8_selected_3 ⟨rfl, rfl⟩ (fun a_22 => ?_)
  refine Z_astore (pc := 6) (lv' := [some (.ref r0), some (.int v1), some (.int v2), some (.int v3), some (.ref a_22), none]) dX8_selected_6 rfl rfl rfl ?_
  refine S_aload (pc := 8) dX8_selected_8 rfl ?_
  refine S_iload_n (pc := 10) dX8_selected_10 rfl ?_
  refine Y_Vi (pc := 11) (st := []) (kc' := 2) (ks' := 12) (ktX2_isThere a_22 v3) mw_X2_isThere mv_X2_isThere w597 (RO.mk rfl rfl rfl rfl) rfl rfl rfl dX8_selected_11 ⟨rfl, rfl⟩ (fun x_23 => ?_)
  refine S_ifne (pc := 14) (tgt := 28) dX8_selected_14 (by decide) ?_ ?_
  · refine S_aload (pc := 28) dX8_selected_28 rfl ?_
    refine S_gP (pc := 30) fl_X8_64 rfl dX8_selected_30 (fun a_24 => ?_)
    refine Z_astore (pc := 33) (lv' := [some (.ref r0), some (.int v1), some (.int v2), some (.int v3), some (.ref a_22), some (.ref a_24)]) dX8_selected_33 rfl rfl rfl ?_
    refine S_aload (pc := 35) dX8_selected_35 rfl ?_
    refine S_gP (pc := 37) fl_X8_270 rfl dX8_selected_37 (fun a_25 => ?_)
    refine S_iload_n (pc := 40) dX8_selected_40 rfl ?_
    refine S_ldI (pc := 41) dX8_selected_41 (fun x_26 => ?_)
    refine S_ifeq (pc := 42) (tgt := 57) dX8_selected_42 (by decide) ?_ ?_
    · exact S_thrW (pc := 57) (k := 2) rfl exA2 w769 w16 st_25 rfl ⟨rfl, rfl, rfl, rfl⟩ rfl dX8_selected_57 dX8_selected_60 dX8_selected_61 dX8_selected_64 dX8_selected_67
    · refine S_aload (pc := 45) dX8_selected_45 rfl ?_
      refine S_gP (pc := 47) fl_X8_276 rfl dX8_selected_47 (fun a_27 => ?_)
      refine S_iload_n (pc := 50) dX8_selected_50 rfl ?_
      refine S_ldI (pc := 51) dX8_selected_51 (fun x_28 => ?_)
      refine S_iconst (pc := 52) (v := (nI 1)) dX8_selected_52 kI_1 ?_
      refine S_iand (pc := 53) dX8_selected_53 ?_
      refine S_ifeq (pc := 54) (tgt := 68) dX8_selected_54 (by decide) ?_ ?_
      · refine S_aload (pc := 68) dX8_selected_68 rfl ?_
        refine S_iload_n (pc := 70) dX8_selected_70 rfl ?_
        refine Y_Vi (pc := 71) (st := []) (kc' := 2) (ks' := 12) (ktX2_isInterface a_22 v3) mw_X2_isInterface mv_X2_isInterface w853 (RO.mk rfl rfl rfl rfl) rfl rfl rfl dX8_selected_71 ⟨rfl, rfl⟩ (fun x_29 => ?_)
        refine S_ifne (pc := 74) (tgt := 97) dX8_selected_74 (by decide) ?_ ?_
        · exact S_thrW (pc := 97) (k := 2) rfl exA2 w769 w16 st_26 rfl ⟨rfl, rfl, rfl, rfl⟩ rfl dX8_selected_97 dX8_selected_100 dX8_selected_101 dX8_selected_104 dX8_selected_107
        · refine S_aload (pc := 77) dX8_selected_77 rfl ?_
          refine S_gP (pc := 79) fl_X8_323 rfl dX8_selected_79 (fun a_30 => ?_)
          refine S_iload_n (pc := 82) dX8_selected_82 rfl ?_
          refine S_ldI (pc := 83) dX8_selected_83 (fun x_31 => ?_)
          refine S_aload (pc := 84) dX8_selected_84 rfl ?_
          refine S_gP (pc := 86) fl_X8_266 rfl dX8_selected_86 (fun a_32 => ?_)
          refine S_iload_n (pc := 89) dX8_selected_89 rfl ?_
          refine S_ldI (pc := 90) dX8_selected_90 (fun x_33 => ?_)
          refine S_ishr (pc := 91) dX8_selected_91 ?_
          refine S_iconst (pc := 92) (v := (nI 1)) dX8_selected_92 kI_1 ?_
          refine S_iand (pc := 93) dX8_selected_93 ?_
          refine S_ifne (pc := 94) (tgt := 108) dX8_selected_94 (by decide) ?_ ?_
          · refine S_aload (pc := 108) dX8_selected_108 rfl ?_
            refine S_gP (pc := 110) fl_X8_273 rfl dX8_selected_110 (fun a_34 => ?_)
            refine S_iload_n (pc := 113) dX8_selected_113 rfl ?_
            refine S_ldI (pc := 114) dX8_selected_114 (fun x_35 => ?_)
            refine S_ifne (pc := 115) (tgt := 120) dX8_selected_115 (by decide) ?_ ?_
            · refine S_aload (pc := 120) dX8_selected_120 rfl ?_
              refine S_aload (pc := 122) dX8_selected_122 rfl ?_
              refine S_gP (pc := 124) fl_X8_328 rfl dX8_selected_124 (fun a_36 => ?_)
              refine S_iload_n (pc := 127) dX8_selected_127 rfl ?_
              refine S_ldI (pc := 128) dX8_selected_128 (fun x_37 => ?_)
              refine S_aload (pc := 129) dX8_selected_129 rfl ?_
              refine S_gP (pc := 131) fl_X8_331 rfl dX8_selected_131 (fun a_38 => ?_)
              refine S_iload_n (pc := 134) dX8_selected_134 rfl ?_
              refine S_ldI (pc := 135) dX8_selected_135 (fun x_39 => ?_)
              refine S_aload (pc := 136) dX8_selected_136 rfl ?_
              refine S_gP (pc := 138) fl_X8_323 rfl dX8_selected_138 (fun a_40 => ?_)
              refine S_iload_n (pc := 141) dX8_selected_141 rfl ?_
              refine S_ldI (pc := 142) dX8_selected_142 (fun x_41 => ?_)
              refine Y_Vi (pc := 143) (st := []) (kc' := 2) (ks' := 12) (ktX2_selectedAlong a_22 x_37 x_39 x_41) mw_X2_selectedAlong mv_X2_selectedAlong w1042 (RO.mk rfl rfl rfl rfl) rfl rfl rfl dX8_selected_143 ⟨rfl, rfl⟩ (fun x_42 => ?_)
              exact S_iret (pc := 146) ⟨rfl, rfl⟩ rfl rfl dX8_selected_146
            · refine S_iload_n (pc := 118) dX8_selected_118 rfl ?_
              exact S_iret (pc := 119) ⟨rfl, rfl⟩ rfl rfl dX8_selected_119
          · exact S_thrW (pc := 97) (k := 2) rfl exA2 w769 w16 st_26 rfl ⟨rfl, rfl, rfl, rfl⟩ rfl dX8_selected_97 dX8_selected_100 dX8_selected_101 dX8_selected_104 dX8_selected_107
      · exact S_thrW (pc := 57) (k := 2) rfl exA2 w769 w16 st_25 rfl ⟨rfl, rfl, rfl, rfl⟩ rfl dX8_selected_57 dX8_selected_60 dX8_selected_61 dX8_selected_64 dX8_selected_67
  · exact S_thrW (pc := 17) (k := 1) rfl exA1 w695 w15 st_5 rfl ⟨rfl, rfl, rfl, rfl⟩ rfl dX8_selected_17 dX8_selected_20 dX8_selected_21 dX8_selected_24 dX8_selected_27
theorem ktX8_selected (r0 : Nat) (v1 : Int32) (v2 : Int32) (v3 : Int32) : Ct mX8_selected xI [.ref r0, .int v1, .int v2, .int v3] (fX8_selected r0 v1 v2 v3) := Ct.of (z := 2) pn_X8 rfl rfl rfl (sX8_selected r0 v1 v2 v3)
def mX8_setBase : MI := (yX8_setBase, cX8_setBase, 5, (some .int), { frames := 8, cells := 2, slots := 12, locals := 146 }, [])
theorem mw_X8_setBase : MW mX8_setBase 2 := ⟨w1066, w1, ⟨by decide, by decide⟩, by decide +kernel⟩
theorem mv_X8_setBase : MV mX8_setBase 8 := ⟨_, rfl, w1064, w1065⟩
def fX8_setBase  (r0 : Nat) (v1 : Int32) (v2 : Int32) : AH → Option ((Nat ⊕ Int32) × AH) := fun h =>
  cv 8 r0 (fX8_clientAt r0 v1) h <| xp fun a_11 h =>
  (gP 8 r0 6 h).bind fun a_12 =>
  (ldP 1 a_12 (nI 0) h).bind fun a_13 =>
  (gI 0 a_11 3 h).bind fun x_14 =>
  cv 1 a_13 (fX1_canBeBase a_13 v2 x_14) h fun x_15 h =>
  if x_15 = 0 then (
    some ((Sum.inl 2 : (Nat ⊕ Int32)), thr h))
  else
  (gP 8 r0 5 h).bind fun a_16 =>
  cv 0 a_16 (fX0_copyFrom a_16 a_11) h fun _ h =>
  (gP 8 r0 5 h).bind fun a_17 =>
  (pI 0 a_17 4 v2 h).bind fun h =>
  cv 8 r0 (fX8_compileProbe r0) h fun x_18 h =>
  if x_18 = 0 then (
    some ((Sum.inl 2 : (Nat ⊕ Int32)), thr h))
  else
  cv 8 r0 (fX8_saveState r0) h fun _ h =>
  (gI 0 a_11 4 h).bind fun x_19 =>
  (gP 8 r0 5 h).bind fun a_20 =>
  cv 0 a_11 (fX0_copyFrom a_11 a_20) h fun _ h =>
  some ((Sum.inr x_19 : (Nat ⊕ Int32)), h)
theorem sX8_setBase  (r0 : Nat) (v1 : Int32) (v2 : Int32) : Sm mX8_setBase xI 0 0 0 [some (.ref r0), some (.int v1), some (.int v2), none, none] [] (fX8_setBase r0 v1 v2) := by
  unfold fX8_setBase
  refine S_aload_n (pc := 0) dX8_setBase_0 rfl ?_
  refine S_iload_n (pc := 1) dX8_setBase_1 rfl ?_
  refine YX_Va (pc := 2) (st := []) (kc' := 1) (ks' := 6) (fun _ => rfl) rfl (ktX8_clientAt r0 v1) mw_X8_clientAt mv_X8_clientAt w1067 (RO.mk rfl rfl rfl rfl) rfl rfl rfl dX8_setBase_2 ⟨rfl, rfl⟩ (fun a_11 => ?_)
  refine Z_astore_n (pc := 5) (lv' := [some (.ref r0), some (.int v1), some (.int v2), some (.ref a_11), none]) dX8_setBase_5 rfl rfl rfl ?_
  refine S_aload_n (pc := 6) dX8_setBase_6 rfl ?_
  refine S_gP (pc := 7) fl_X8_43 rfl dX8_setBase_7 (fun a_12 => ?_)
  refine S_iconst (pc := 10) (v := (nI 0)) dX8_setBase_10 kI_0 ?_
  refine S_ldP (pc := 11) (c := 1) (by decide) dX8_setBase_11 (fun a_13 => ?_)
  refine S_iload_n (pc := 12) dX8_setBase_12 rfl ?_
  refine S_aload_n (pc := 13) dX8_setBase_13 rfl ?_
  refine S_gI (pc := 14) fl_X8_356 rfl dX8_setBase_14 (fun x_14 => ?_)
  refine Y_Vi (pc := 17) (st := []) (kc' := 1) (ks' := 6) (ktX1_canBeBase a_13 v2 x_14) mw_X1_canBeBase mv_X1_canBeBase w1076 (RO.mk rfl rfl rfl rfl) rfl rfl rfl dX8_setBase_17 ⟨rfl, rfl⟩ (fun x_15 => ?_)
  refine S_ifne (pc := 20) (tgt := 34) dX8_setBase_20 (by decide) ?_ ?_
  · refine S_aload_n (pc := 34) dX8_setBase_34 rfl ?_
    refine S_gP (pc := 35) fl_X8_37 rfl dX8_setBase_35 (fun a_16 => ?_)
    refine S_aload_n (pc := 38) dX8_setBase_38 rfl ?_
    refine Y_Vv (pc := 39) (st := []) (kc' := 1) (ks' := 6) (ktX0_copyFrom a_16 a_11) mw_X0_copyFrom mv_X0_copyFrom w1078 (RO.mk rfl rfl rfl rfl) rfl rfl rfl dX8_setBase_39 ⟨rfl, rfl⟩ ?_
    refine S_aload_n (pc := 42) dX8_setBase_42 rfl ?_
    refine S_gP (pc := 43) fl_X8_37 rfl dX8_setBase_43 (fun a_17 => ?_)
    refine S_iload_n (pc := 46) dX8_setBase_46 rfl ?_
    refine S_pI (pc := 47) fl_X8_366 rfl rfl dX8_setBase_47 ?_
    refine S_aload_n (pc := 50) dX8_setBase_50 rfl ?_
    refine Y_Vi (pc := 51) (st := []) (kc' := 1) (ks' := 6) (ktX8_compileProbe r0) mw_X8_compileProbe mv_X8_compileProbe w438 (RO.mk rfl rfl rfl rfl) rfl rfl rfl dX8_setBase_51 ⟨rfl, rfl⟩ (fun x_18 => ?_)
    refine S_ifne (pc := 54) (tgt := 68) dX8_setBase_54 (by decide) ?_ ?_
    · refine S_aload_n (pc := 68) dX8_setBase_68 rfl ?_
      refine Y_Vv (pc := 69) (st := []) (kc' := 1) (ks' := 6) (ktX8_saveState r0) mw_X8_saveState mv_X8_saveState w576 (RO.mk rfl rfl rfl rfl) rfl rfl rfl dX8_setBase_69 ⟨rfl, rfl⟩ ?_
      refine S_aload_n (pc := 72) dX8_setBase_72 rfl ?_
      refine S_gI (pc := 73) fl_X8_366 rfl dX8_setBase_73 (fun x_19 => ?_)
      refine Z_istore (pc := 76) (lv' := [some (.ref r0), some (.int v1), some (.int v2), some (.ref a_11), some (.int x_19)]) dX8_setBase_76 rfl rfl rfl ?_
      refine S_aload_n (pc := 78) dX8_setBase_78 rfl ?_
      refine S_aload_n (pc := 79) dX8_setBase_79 rfl ?_
      refine S_gP (pc := 80) fl_X8_37 rfl dX8_setBase_80 (fun a_20 => ?_)
      refine Y_Vv (pc := 83) (st := []) (kc' := 1) (ks' := 6) (ktX0_copyFrom a_11 a_20) mw_X0_copyFrom mv_X0_copyFrom w1078 (RO.mk rfl rfl rfl rfl) rfl rfl rfl dX8_setBase_83 ⟨rfl, rfl⟩ ?_
      refine S_iload (pc := 86) dX8_setBase_86 rfl ?_
      exact S_iret (pc := 88) ⟨rfl, rfl⟩ rfl rfl dX8_setBase_88
    · exact S_thrW (pc := 57) (k := 2) rfl exA2 w769 w16 st_32 rfl ⟨rfl, rfl, rfl, rfl⟩ rfl dX8_setBase_57 dX8_setBase_60 dX8_setBase_61 dX8_setBase_64 dX8_setBase_67
  · exact S_thrW (pc := 23) (k := 2) rfl exA2 w769 w16 st_31 rfl ⟨rfl, rfl, rfl, rfl⟩ rfl dX8_setBase_23 dX8_setBase_26 dX8_setBase_27 dX8_setBase_30 dX8_setBase_33
theorem ktX8_setBase (r0 : Nat) (v1 : Int32) (v2 : Int32) : Ct mX8_setBase xI [.ref r0, .int v1, .int v2] (fX8_setBase r0 v1 v2) := Ct.of (z := 2) pn_X8 rfl rfl rfl (sX8_setBase r0 v1 v2)
def mX8_setClass : MI := (yX8_setClass, cX8_setClass, 7, (some .int), { frames := 9, cells := 3, slots := 18, locals := 154 }, [])
theorem mw_X8_setClass : MW mX8_setClass 4 := ⟨w849, w1, ⟨by decide, by decide⟩, by decide +kernel⟩
theorem mv_X8_setClass : MV mX8_setClass 8 := ⟨_, rfl, w847, w848⟩
def fX8_setClass_140  (r0 : Nat) (v2 : Int32) (v3 : Int32) (v4 : Int32) (r5 : Nat) : AH → Option ((Nat ⊕ Int32) × AH) := fun h =>
  cv 8 r0 (fX8_saveState r0) h fun _ h =>
  cv 2 r5 (fX2_valueOf r5 v2 v3) h fun x_15 h =>
  cv 2 r5 (fX2_putValue r5 v2 v3 v4) h fun _ h =>
  some ((Sum.inr x_15 : (Nat ⊕ Int32)), h)
def fX8_setClass_108  (r0 : Nat) (v2 : Int32) (v3 : Int32) (v4 : Int32) (r5 : Nat) : AH → Option ((Nat ⊕ Int32) × AH) := fun h =>
  if v3 = (nI 2) then (
    if v4 = 0 then (
      (gP 2 r5 10 h).bind fun a_16 =>
      cv 4 a_16 (fX4_hasAbstract a_16 v2) h fun x_17 h =>
      if x_17 = 0 then (
        fX8_setClass_140 r0 v2 v3 v4 r5 h)
      else
      some ((Sum.inl 3 : (Nat ⊕ Int32)), thr h))
    else
    fX8_setClass_140 r0 v2 v3 v4 r5 h)
  else
  fX8_setClass_140 r0 v2 v3 v4 r5 h
def fX8_setClass_78  (r0 : Nat) (v2 : Int32) (v3 : Int32) (v4 : Int32) (r5 : Nat) : AH → Option ((Nat ⊕ Int32) × AH) := fun h =>
  if v3 = (nI 1) then (
    if v4 = (nI 1) then (
      cv 2 r5 (fX2_isSuperclass r5 v2) h fun x_18 h =>
      if x_18 = 0 then (
        fX8_setClass_108 r0 v2 v3 v4 r5 h)
      else
      some ((Sum.inl 3 : (Nat ⊕ Int32)), thr h))
    else
    fX8_setClass_108 r0 v2 v3 v4 r5 h)
  else
  fX8_setClass_108 r0 v2 v3 v4 r5 h
def fX8_setClass  (r0 : Nat) (v1 : Int32) (v2 : Int32) (v3 : Int32) (v4 : Int32) : AH → Option ((Nat ⊕ Int32) × AH) := fun h =>
  cv 8 r0 (fX8_libraryWith r0 v1 v2) h <| xp fun a_19 h =>
  bd (fX8_isClassValue a_19 v2 v3 v4 h) fun x_20 h =>
  if x_20 = 0 then (
    some ((Sum.inl 2 : (Nat ⊕ Int32)), thr h))
  else
  if v2 = 0 then (
    some ((Sum.inl 3 : (Nat ⊕ Int32)), thr h))
  else
  cv 2 a_19 (fX2_isInterface a_19 v2) h fun x_21 h =>
  if x_21 = 0 then (
    fX8_setClass_78 r0 v2 v3 v4 a_19 h)
  else
  if v3 = (nI 1) then (
    some ((Sum.inl 3 : (Nat ⊕ Int32)), thr h))
  else
  if v3 = (nI 2) then (
    some ((Sum.inl 3 : (Nat ⊕ Int32)), thr h))
  else
  if v3 = (nI 4) then (
    some ((Sum.inl 3 : (Nat ⊕ Int32)), thr h))
  else
  fX8_setClass_78 r0 v2 v3 v4 a_19 h
theorem sX8_setClass_140  (r0 : Nat) (v2 : Int32) (v3 : Int32) (v4 : Int32) (r5 : Nat) : Sm mX8_setClass xI 2 12 140 [some (.ref r0), none, some (.int v2), some (.int v3), some (.int v4), some (.ref r5), none] [] (fX8_setClass_140 r0 v2 v3 v4 r5) := by
  unfold fX8_setClass_140
  refine S_aload_n (pc := 140) dX8_setClass_140 rfl ?_
  refine Y_Vv (pc := 141) (st := []) (kc' := 2) (ks' := 12) (ktX8_saveState r0) mw_X8_saveState mv_X8_saveState w576 (RO.mk rfl rfl rfl rfl) rfl rfl rfl dX8_setClass_141 ⟨rfl, rfl⟩ ?_
  refine S_aload (pc := 144) dX8_setClass_144 rfl ?_
  refine S_iload_n (pc := 146) dX8_setClass_146 rfl ?_
  refine S_iload_n (pc := 147) dX8_setClass_147 rfl ?_
  refine Y_Vi (pc := 148) (st := []) (kc' := 2) (ks' := 12) (ktX2_valueOf r5 v2 v3) mw_X2_valueOf mv_X2_valueOf w598 (RO.mk rfl rfl rfl rfl) rfl rfl rfl dX8_setClass_148 ⟨rfl, rfl⟩ (fun x_15 => ?_)
  refine Z_istore (pc := 151) (lv' := [some (.ref r0), none, some (.int v2), some (.int v3), some (.int v4), some (.ref r5), some (.int x_15)]) dX8_setClass_151 rfl rfl rfl ?_
  refine S_aload (pc := 153) dX8_setClass_153 rfl ?_
  refine S_iload_n (pc := 155) dX8_setClass_155 rfl ?_
  refine S_iload_n (pc := 156) dX8_setClass_156 rfl ?_
  refine S_iload (pc := 157) dX8_setClass_157 rfl ?_
  refine Y_Vv (pc := 159) (st := []) (kc' := 2) (ks' := 12) (ktX2_putValue r5 v2 v3 v4) mw_X2_putValue mv_X2_putValue w382 (RO.mk rfl rfl rfl rfl) rfl rfl rfl dX8_setClass_159 ⟨rfl, rfl⟩ ?_
  refine S_iload (pc := 162) dX8_setClass_162 rfl ?_
  exact S_iret (pc := 164) ⟨rfl, rfl⟩ rfl rfl dX8_setClass_164
theorem sX8_setClass_108  (r0 : Nat) (v2 : Int32) (v3 : Int32) (v4 : Int32) (r5 : Nat) : Sm mX8_setClass xI 2 12 108 [some (.ref r0), none, some (.int v2), some (.int v3), some (.int v4), some (.ref r5), none] [] (fX8_setClass_108 r0 v2 v3 v4 r5) := by
  unfold fX8_setClass_108
  refine S_iload_n (pc := 108) dX8_setClass_108 rfl ?_
  refine S_iconst (pc := 109) (v := (nI 2)) dX8_setClass_109 kI_2 ?_
  refine S_icmpne (pc := 110) (tgt := 140) dX8_setClass_110 (by decide) ?_ ?_
  · exact (sX8_setClass_140 r0 v2 v3 v4 r5)
  · refine S_iload (pc := 113) dX8_setClass_113 rfl ?_
    refine S_ifne (pc := 115) (tgt := 140) dX8_setClass_115 (by decide) ?_ ?_
    · exact (sX8_setClass_140 r0 v2 v3 v4 r5)
    · refine S_aload (pc := 118) dX8_setClass_118 rfl ?_
      refine S_gP (pc := 120) fl_X8_64 rfl dX8_setClass_120 (fun a_16 => ?_)
      refine S_iload_n (pc := 123) dX8_setClass_123 rfl ?_
      refine Y_Vi (pc := 124) (st := []) (kc' := 2) (ks' := 12) (ktX4_hasAbstract a_16 v2) mw_X4_hasAbstract mv_X4_hasAbstract w858 (RO.mk rfl rfl rfl rfl) rfl rfl rfl dX8_setClass_124 ⟨rfl, rfl⟩ (fun x_17 => ?_)
      refine S_ifeq (pc := 127) (tgt := 140) dX8_setClass_127 (by decide) ?_ ?_
      · exact (sX8_setClass_140 r0 v2 v3 v4 r5)
      · exact S_thr (pc := 130) (k := 3) rfl exA3 w790 w17 st_12 rfl ⟨rfl, rfl, rfl, rfl⟩ rfl dX8_setClass_130 dX8_setClass_133 dX8_setClass_134 dX8_setClass_136 dX8_setClass_139
theorem sX8_setClass_78  (r0 : Nat) (v2 : Int32) (v3 : Int32) (v4 : Int32) (r5 : Nat) : Sm mX8_setClass xI 2 12 78 [some (.ref r0), none, some (.int v2), some (.int v3), some (.int v4), some (.ref r5), none] [] (fX8_setClass_78 r0 v2 v3 v4 r5) := by
  unfold fX8_setClass_78
  refine S_iload_n (pc := 78) dX8_setClass_78 rfl ?_
  refine S_iconst (pc := 79) (v := (nI 1)) dX8_setClass_79 kI_1 ?_
  refine S_icmpne (pc := 80) (tgt := 108) dX8_setClass_80 (by decide) ?_ ?_
  · exact (sX8_setClass_108 r0 v2 v3 v4 r5)
  · refine S_iload (pc := 83) dX8_setClass_83 rfl ?_
    refine S_iconst (pc := 85) (v := (nI 1)) dX8_setClass_85 kI_1 ?_
    refine S_icmpne (pc := 86) (tgt := 108) dX8_setClass_86 (by decide) ?_ ?_
    · exact (sX8_setClass_108 r0 v2 v3 v4 r5)
    · refine S_aload (pc := 89) dX8_setClass_89 rfl ?_
      refine S_iload_n (pc := 91) dX8_setClass_91 rfl ?_
      refine Y_Vi (pc := 92) (st := []) (kc' := 2) (ks' := 12) (ktX2_isSuperclass r5 v2) mw_X2_isSuperclass mv_X2_isSuperclass w825 (RO.mk rfl rfl rfl rfl) rfl rfl rfl dX8_setClass_92 ⟨rfl, rfl⟩ (fun x_18 => ?_)
      refine S_ifeq (pc := 95) (tgt := 108) dX8_setClass_95 (by decide) ?_ ?_
      · exact (sX8_setClass_108 r0 v2 v3 v4 r5)
      · exact S_thr (pc := 98) (k := 3) rfl exA3 w790 w17 st_11 rfl ⟨rfl, rfl, rfl, rfl⟩ rfl dX8_setClass_98 dX8_setClass_101 dX8_setClass_102 dX8_setClass_104 dX8_setClass_107
theorem sX8_setClass  (r0 : Nat) (v1 : Int32) (v2 : Int32) (v3 : Int32) (v4 : Int32) : Sm mX8_setClass xI 0 0 0 [some (.ref r0), some (.int v1), some (.int v2), some (.int v3), some (.int v4), none, none] [] (fX8_setClass r0 v1 v2 v3 v4) := by
  unfold fX8_setClass
  refine S_aload_n (pc := 0) dX8_setClass_0 rfl ?_
  refine S_iload_n (pc := 1) dX8_setClass_1 rfl ?_
  refine S_iload_n (pc := 2) dX8_setClass_2 rfl ?_
  refine YX_Va (pc := 3) (st := []) (kc' := 2) (ks' := 12) (fun _ => rfl) rfl (ktX8_libraryWith r0 v1 v2) mw_X8_libraryWith mv_X8_libraryWith w819 (RO.mk rfl rfl rfl rfl) rfl rfl rfl dX8_setClass_3 ⟨rfl, rfl⟩ (fun a_19 => ?_)
  refine Z_astore (pc := 6) (lv' := [some (.ref r0), some (.int v1), some (.int v2), some (.int v3), some (.int v4), some (.ref a_19), none]) dX8_setClass_6 rfl rfl rfl ?_
  refine S_aload (pc := 8) dX8_setClass_8 rfl ?_
  refine S_iload_n (pc := 10) dX8_setClass_10 rfl ?_
  refine S_iload_n (pc := 11) dX8_setClass_11 rfl ?_
  refine S_iload (pc := 12) dX8_setClass_12 rfl ?_
  refine Y_Ti (pc := 14) (st := []) (kc' := 2) (ks' := 12) (ktX8_isClassValue a_19 v2 v3 v4) mw_X8_isClassValue w851 w850 (RO.mk rfl rfl rfl rfl) rfl rfl rfl dX8_setClass_14 ⟨rfl, rfl⟩ (fun x_20 => ?_)
  refine S_ifne (pc := 17) (tgt := 30) dX8_setClass_17 (by decide) ?_ ?_
  · refine S_iload_n (pc := 30) dX8_setClass_30 rfl ?_
    refine S_ifne (pc := 31) (tgt := 44) dX8_setClass_31 (by decide) ?_ ?_
    · refine S_aload (pc := 44) dX8_setClass_44 rfl ?_
      refine S_iload_n (pc := 46) dX8_setClass_46 rfl ?_
      refine Y_Vi (pc := 47) (st := []) (kc' := 2) (ks' := 12) (ktX2_isInterface a_19 v2) mw_X2_isInterface mv_X2_isInterface w853 (RO.mk rfl rfl rfl rfl) rfl rfl rfl dX8_setClass_47 ⟨rfl, rfl⟩ (fun x_21 => ?_)
      refine S_ifeq (pc := 50) (tgt := 78) dX8_setClass_50 (by decide) ?_ ?_
      · exact (S_lv (lv0 := [some (.ref r0), none, some (.int v2), some (.int v3), some (.int v4), some (.ref a_19), none]) (And.intro rfl (And.intro rfl (And.intro rfl (And.intro rfl (And.intro rfl trivial))))) (sX8_setClass_78 r0 v2 v3 v4 a_19))
      · refine S_iload_n (pc := 53) dX8_setClass_53 rfl ?_
        refine S_iconst (pc := 54) (v := (nI 1)) dX8_setClass_54 kI_1 ?_
        refine S_icmpeq (pc := 55) (tgt := 68) dX8_setClass_55 (by decide) ?_ ?_
        · exact S_thr (pc := 68) (k := 3) rfl exA3 w790 w17 st_10 rfl ⟨rfl, rfl, rfl, rfl⟩ rfl dX8_setClass_68 dX8_setClass_71 dX8_setClass_72 dX8_setClass_74 dX8_setClass_77
        · refine S_iload_n (pc := 58) dX8_setClass_58 rfl ?_
          refine S_iconst (pc := 59) (v := (nI 2)) dX8_setClass_59 kI_2 ?_
          refine S_icmpeq (pc := 60) (tgt := 68) dX8_setClass_60 (by decide) ?_ ?_
          · exact S_thr (pc := 68) (k := 3) rfl exA3 w790 w17 st_10 rfl ⟨rfl, rfl, rfl, rfl⟩ rfl dX8_setClass_68 dX8_setClass_71 dX8_setClass_72 dX8_setClass_74 dX8_setClass_77
          · refine S_iload_n (pc := 63) dX8_setClass_63 rfl ?_
            refine S_iconst (pc := 64) (v := (nI 4)) dX8_setClass_64 kI_4 ?_
            refine S_icmpne (pc := 65) (tgt := 78) dX8_setClass_65 (by decide) ?_ ?_
            · exact (S_lv (lv0 := [some (.ref r0), none, some (.int v2), some (.int v3), some (.int v4), some (.ref a_19), none]) (And.intro rfl (And.intro rfl (And.intro rfl (And.intro rfl (And.intro rfl trivial))))) (sX8_setClass_78 r0 v2 v3 v4 a_19))
            · exact S_thr (pc := 68) (k := 3) rfl exA3 w790 w17 st_10 rfl ⟨rfl, rfl, rfl, rfl⟩ rfl dX8_setClass_68 dX8_setClass_71 dX8_setClass_72 dX8_setClass_74 dX8_setClass_77
    · exact S_thr (pc := 34) (k := 3) rfl exA3 w790 w17 st_9 rfl ⟨rfl, rfl, rfl, rfl⟩ rfl dX8_setClass_34 dX8_setClass_37 dX8_setClass_38 dX8_setClass_40 dX8_setClass_43
  · exact S_thr (pc := 20) (k := 2) rfl exA2 w769 w16 st_8 rfl ⟨rfl, rfl, rfl, rfl⟩ rfl dX8_setClass_20 dX8_setClass_23 dX8_setClass_24 dX8_setClass_26 dX8_setClass_29
theorem ktX8_setClass (r0 : Nat) (v1 : Int32) (v2 : Int32) (v3 : Int32) (v4 : Int32) : Ct mX8_setClass xI [.ref r0, .int v1, .int v2, .int v3, .int v4] (fX8_setClass r0 v1 v2 v3 v4) := Ct.of (z := 2) pn_X8 rfl rfl rfl (sX8_setClass r0 v1 v2 v3 v4)
def mX8_setMember : MI := (yX8_setMember, cX8_setMember, 7, (some .int), { frames := 9, cells := 3, slots := 18, locals := 154 }, [])
theorem mw_X8_setMember : MW mX8_setMember 4 := ⟨w967, w1, ⟨by decide, by decide⟩, by decide +kernel⟩
theorem mv_X8_setMember : MV mX8_setMember 8 := ⟨_, rfl, w965, w966⟩
def fX8_setMember  (r0 : Nat) (v1 : Int32) (v2 : Int32) (v3 : Int32) (v4 : Int32) : AH → Option ((Nat ⊕ Int32) × AH) := fun h =>
  cv 8 r0 (fX8_libraryWithMember r0 v1 v2) h <| xp fun a_6 h =>
  bd (fX8_isMemberValue a_6 v2 v3 v4 h) fun x_7 h =>
  if x_7 = 0 then (
    some ((Sum.inl 2 : (Nat ⊕ Int32)), thr h))
  else
  cv 8 r0 (fX8_saveState r0) h fun _ h =>
  (gP 2 a_6 10 h).bind fun a_8 =>
  cv 4 a_8 (fX4_valueOf a_8 v2 v3) h fun x_9 h =>
  (gP 2 a_6 10 h).bind fun a_10 =>
  cv 4 a_10 (fX4_putValue a_10 v2 v3 v4) h fun _ h =>
  some ((Sum.inr x_9 : (Nat ⊕ Int32)), h)
theorem sX8_setMember  (r0 : Nat) (v1 : Int32) (v2 : Int32) (v3 : Int32) (v4 : Int32) : Sm mX8_setMember xI 0 0 0 [some (.ref r0), some (.int v1), some (.int v2), some (.int v3), some (.int v4), none, none] [] (fX8_setMember r0 v1 v2 v3 v4) := by
  unfold fX8_setMember
  refine S_aload_n (pc := 0) dX8_setMember_0 rfl ?_
  refine S_iload_n (pc := 1) dX8_setMember_1 rfl ?_
  refine S_iload_n (pc := 2) dX8_setMember_2 rfl ?_
  refine YX_Va (pc := 3) (st := []) (kc' := 2) (ks' := 12) (fun _ => rfl) rfl (ktX8_libraryWithMember r0 v1 v2) mw_X8_libraryWithMember mv_X8_libraryWithMember w948 (RO.mk rfl rfl rfl rfl) rfl rfl rfl dX8_setMember_3 ⟨rfl, rfl⟩ (fun a_6 => ?_)
  refine Z_astore (pc := 6) (lv' := [some (.ref r0), some (.int v1), some (.int v2), some (.int v3), some (.int v4), some (.ref a_6), none]) dX8_setMember_6 rfl rfl rfl ?_
  refine S_aload (pc := 8) dX8_setMember_8 rfl ?_
  refine S_iload_n (pc := 10) dX8_setMember_10 rfl ?_
  refine S_iload_n (pc := 11) dX8_setMember_11 rfl ?_
  refine S_iload (pc := 12) dX8_setMember_12 rfl ?_
  refine Y_Ti (pc := 14) (st := []) (kc' := 2) (ks' := 12) (ktX8_isMemberValue a_6 v2 v3 v4) mw_X8_isMemberValue w969 w968 (RO.mk rfl rfl rfl rfl) rfl rfl rfl dX8_setMember_14 ⟨rfl, rfl⟩ (fun x_7 => ?_)
  refine S_ifne (pc := 17) (tgt := 30) dX8_setMember_17 (by decide) ?_ ?_
  · refine S_aload_n (pc := 30) dX8_setMember_30 rfl ?_
    refine Y_Vv (pc := 31) (st := []) (kc' := 2) (ks' := 12) (ktX8_saveState r0) mw_X8_saveState mv_X8_saveState w576 (RO.mk rfl rfl rfl rfl) rfl rfl rfl dX8_setMember_31 ⟨rfl, rfl⟩ ?_
    refine S_aload (pc := 34) dX8_setMember_34 rfl ?_
    refine S_gP (pc := 36) fl_X8_64 rfl dX8_setMember_36 (fun a_8 => ?_)
    refine S_iload_n (pc := 39) dX8_setMember_39 rfl ?_
    refine S_iload_n (pc := 40) dX8_setMember_40 rfl ?_
    refine Y_Vi (pc := 41) (st := []) (kc' := 2) (ks' := 12) (ktX4_valueOf a_8 v2 v3) mw_X4_valueOf mv_X4_valueOf w614 (RO.mk rfl rfl rfl rfl) rfl rfl rfl dX8_setMember_41 ⟨rfl, rfl⟩ (fun x_9 => ?_)
    refine Z_istore (pc := 44) (lv' := [some (.ref r0), some (.int v1), some (.int v2), some (.int v3), some (.int v4), some (.ref a_6), some (.int x_9)]) dX8_setMember_44 rfl rfl rfl ?_
    refine S_aload (pc := 46) dX8_setMember_46 rfl ?_
    refine S_gP (pc := 48) fl_X8_64 rfl dX8_setMember_48 (fun a_10 => ?_)
    refine S_iload_n (pc := 51) dX8_setMember_51 rfl ?_
    refine S_iload_n (pc := 52) dX8_setMember_52 rfl ?_
    refine S_iload (pc := 53) dX8_setMember_53 rfl ?_
    refine Y_Vv (pc := 55) (st := []) (kc' := 2) (ks' := 12) (ktX4_putValue a_10 v2 v3 v4) mw_X4_putValue mv_X4_putValue w402 (RO.mk rfl rfl rfl rfl) rfl rfl rfl dX8_setMember_55 ⟨rfl, rfl⟩ ?_
    refine S_iload (pc := 58) dX8_setMember_58 rfl ?_
    exact S_iret (pc := 60) ⟨rfl, rfl⟩ rfl rfl dX8_setMember_60
  · exact S_thr (pc := 20) (k := 2) rfl exA2 w769 w16 st_8 rfl ⟨rfl, rfl, rfl, rfl⟩ rfl dX8_setMember_20 dX8_setMember_23 dX8_setMember_24 dX8_setMember_26 dX8_setMember_29
theorem ktX8_setMember (r0 : Nat) (v1 : Int32) (v2 : Int32) (v3 : Int32) (v4 : Int32) : Ct mX8_setMember xI [.ref r0, .int v1, .int v2, .int v3, .int v4] (fX8_setMember r0 v1 v2 v3 v4) := Ct.of (z := 2) pn_X8 rfl rfl rfl (sX8_setMember r0 v1 v2 v3 v4)
def mX8_target : MI := (yX8_target, cX8_target, 4, (some .int), { frames := 8, cells := 2, slots := 12, locals := 151 }, [])
theorem mw_X8_target : MW mX8_target 2 := ⟨w1118, w1, ⟨by decide, by decide⟩, by decide +kernel⟩
theorem mv_X8_target : MV mX8_target 8 := ⟨_, rfl, w1116, w1117⟩
def fX8_target  (r0 : Nat) (v1 : Int32) (v2 : Int32) : AH → Option ((Nat ⊕ Int32) × AH) := fun h =>
  cv 8 r0 (fX8_clientAt r0 v1) h <| xp fun a_3 h =>
  bd (fX8_requireVersion v2 h) <| xp fun _ h =>
  cv 8 r0 (fX8_targetOf r0 a_3 v2) h fun x_4 h =>
  some ((Sum.inr x_4 : (Nat ⊕ Int32)), h)
theorem sX8_target  (r0 : Nat) (v1 : Int32) (v2 : Int32) : Sm mX8_target xI 0 0 0 [some (.ref r0), some (.int v1), some (.int v2), none] [] (fX8_target r0 v1 v2) := by
  unfold fX8_target
  refine S_aload_n (pc := 0) dX8_target_0 rfl ?_
  refine S_iload_n (pc := 1) dX8_target_1 rfl ?_
  refine YX_Va (pc := 2) (st := []) (kc' := 1) (ks' := 6) (fun _ => rfl) rfl (ktX8_clientAt r0 v1) mw_X8_clientAt mv_X8_clientAt w1067 (RO.mk rfl rfl rfl rfl) rfl rfl rfl dX8_target_2 ⟨rfl, rfl⟩ (fun a_3 => ?_)
  refine Z_astore_n (pc := 5) (lv' := [some (.ref r0), some (.int v1), some (.int v2), some (.ref a_3)]) dX8_target_5 rfl rfl rfl ?_
  refine S_iload_n (pc := 6) dX8_target_6 rfl ?_
  refine YX_Tv (pc := 7) (st := []) (kc' := 2) (ks' := 12) (fun _ => rfl) rfl (ktX8_requireVersion v2) mw_X8_requireVersion w693 w692 (RO.mk rfl rfl rfl rfl) rfl rfl rfl dX8_target_7 ⟨rfl, rfl⟩ ?_
  refine S_aload_n (pc := 10) dX8_target_10 rfl ?_
  refine S_aload_n (pc := 11) dX8_target_11 rfl ?_
  refine S_iload_n (pc := 12) dX8_target_12 rfl ?_
  refine Y_Vi (pc := 13) (st := []) (kc' := 2) (ks' := 12) (ktX8_targetOf r0 a_3 v2) mw_X8_targetOf mv_X8_targetOf w666 (RO.mk rfl rfl rfl rfl) rfl rfl rfl dX8_target_13 ⟨rfl, rfl⟩ (fun x_4 => ?_)
  exact S_iret (pc := 16) ⟨rfl, rfl⟩ rfl rfl dX8_target_16
theorem ktX8_target (r0 : Nat) (v1 : Int32) (v2 : Int32) : Ct mX8_target xI [.ref r0, .int v1, .int v2] (fX8_target r0 v1 v2) := Ct.of (z := 1) pn_X8 rfl rfl rfl (sX8_target r0 v1 v2)
def mX8_undo : MI := (yX8_undo, cX8_undo, 1, (some .int), { frames := 6, cells := 1, slots := 6, locals := 90 }, [])
theorem mw_X8_undo : MW mX8_undo 0 := ⟨w1167, w1, ⟨by decide, by decide⟩, by decide +kernel⟩
theorem mv_X8_undo : MV mX8_undo 8 := ⟨_, rfl, w1165, w1166⟩
def fX8_undo  (r0 : Nat) : AH → Option ((Nat ⊕ Int32) × AH) := fun h =>
  (gI 8 r0 3 h).bind fun x_9 =>
  if x_9 = 0 then (
    some ((Sum.inl 3 : (Nat ⊕ Int32)), thr h))
  else
  (gI 8 r0 3 h).bind fun x_10 =>
  (pI 8 r0 3 (x_10 - (nI 1)) h).bind fun h =>
  (gP 8 r0 0 h).bind fun a_11 =>
  (gP 8 r0 1 h).bind fun a_12 =>
  (gI 8 r0 2 h).bind fun x_13 =>
  (gI 8 r0 3 h).bind fun x_14 =>
  (ldP 6 a_12 ((x_13 + x_14) - (x_13 + x_14) / (nI 5) * (nI 5)) h).bind fun a_15 =>
  cv 6 a_11 (fX6_copyFrom a_11 a_15) h fun _ h =>
  (gI 8 r0 3 h).bind fun x_16 =>
  some ((Sum.inr x_16 : (Nat ⊕ Int32)), h)
theorem sX8_undo  (r0 : Nat) : Sm mX8_undo xI 0 0 0 [some (.ref r0)] [] (fX8_undo r0) := by
  unfold fX8_undo
  refine S_aload_n (pc := 0) dX8_undo_0 rfl ?_
  refine S_gI (pc := 1) fl_X8_24 rfl dX8_undo_1 (fun x_9 => ?_)
  refine S_ifne (pc := 4) (tgt := 18) dX8_undo_4 (by decide) ?_ ?_
  · refine S_aload_n (pc := 18) dX8_undo_18 rfl ?_
    refine S_dup (pc := 19) rfl dX8_undo_19 ?_
    refine S_gI (pc := 20) fl_X8_24 rfl dX8_undo_20 (fun x_10 => ?_)
    refine S_iconst (pc := 23) (v := (nI 1)) dX8_undo_23 kI_1 ?_
    refine S_isub (pc := 24) dX8_undo_24 ?_
    refine S_pI (pc := 25) fl_X8_24 rfl rfl dX8_undo_25 ?_
    refine S_aload_n (pc := 28) dX8_undo_28 rfl ?_
    refine S_gP (pc := 29) fl_X8_10 rfl dX8_undo_29 (fun a_11 => ?_)
    refine S_aload_n (pc := 32) dX8_undo_32 rfl ?_
    refine S_gP (pc := 33) fl_X8_16 rfl dX8_undo_33 (fun a_12 => ?_)
    refine S_aload_n (pc := 36) dX8_undo_36 rfl ?_
    refine S_gI (pc := 37) fl_X8_20 rfl dX8_undo_37 (fun x_13 => ?_)
    refine S_aload_n (pc := 40) dX8_undo_40 rfl ?_
    refine S_gI (pc := 41) fl_X8_24 rfl dX8_undo_41 (fun x_14 => ?_)
    refine S_iadd (pc := 44) dX8_undo_44 ?_
    refine S_iconst (pc := 45) (v := (nI 5)) dX8_undo_45 kI_5 ?_
    refine S_irem (pc := 46) (by decide) dX8_undo_46 ?_
    refine S_ldP (pc := 47) (c := 6) (by decide) dX8_undo_47 (fun a_15 => ?_)
    refine Y_Vv (pc := 48) (st := []) (kc' := 0) (ks' := 0) (ktX6_copyFrom a_11 a_15) mw_X6_copyFrom mv_X6_copyFrom w580 (RO.mk rfl rfl rfl rfl) rfl rfl rfl dX8_undo_48 ⟨rfl, rfl⟩ ?_
    refine S_aload_n (pc := 51) dX8_undo_51 rfl ?_
    refine S_gI (pc := 52) fl_X8_24 rfl dX8_undo_52 (fun x_16 => ?_)
    exact S_iret (pc := 55) ⟨rfl, rfl⟩ rfl rfl dX8_undo_55
  · exact S_thrW (pc := 7) (k := 3) rfl exA3 w790 w17 st_36 rfl ⟨rfl, rfl, rfl, rfl⟩ rfl dX8_undo_7 dX8_undo_10 dX8_undo_11 dX8_undo_14 dX8_undo_17
theorem ktX8_undo (r0 : Nat) : Ct mX8_undo xI [.ref r0] (fX8_undo r0) := Ct.of (z := 0) pn_X8 rfl rfl rfl (sX8_undo r0)
def mX8_verdict : MI := (yX8_verdict, cX8_verdict, 2, (some .int), { frames := 8, cells := 1, slots := 6, locals := 151 }, [])
theorem mw_X8_verdict : MW mX8_verdict 1 := ⟨w1125, w1, ⟨by decide, by decide⟩, by decide +kernel⟩
theorem mv_X8_verdict : MV mX8_verdict 8 := ⟨_, rfl, w1123, w1124⟩
def fX8_verdict  (r0 : Nat) (v1 : Int32) : AH → Option ((Nat ⊕ Int32) × AH) := fun h =>
  cv 8 r0 (fX8_clientAt r0 v1) h <| xp fun a_3 h =>
  cv 8 r0 (fX8_verdictOf r0 a_3) h fun x_4 h =>
  some ((Sum.inr x_4 : (Nat ⊕ Int32)), h)
theorem sX8_verdict  (r0 : Nat) (v1 : Int32) : Sm mX8_verdict xI 0 0 0 [some (.ref r0), some (.int v1)] [] (fX8_verdict r0 v1) := by
  unfold fX8_verdict
  refine S_aload_n (pc := 0) dX8_verdict_0 rfl ?_
  refine S_aload_n (pc := 1) dX8_verdict_1 rfl ?_
  refine S_iload_n (pc := 2) dX8_verdict_2 rfl ?_
  refine YX_Va (pc := 3) (st := [.ref r0]) (kc' := 1) (ks' := 6) (fun _ => rfl) rfl (ktX8_clientAt r0 v1) mw_X8_clientAt mv_X8_clientAt w1067 (RO.mk rfl rfl rfl rfl) rfl rfl rfl dX8_verdict_3 ⟨rfl, rfl⟩ (fun a_3 => ?_)
  refine Y_Vi (pc := 6) (st := []) (kc' := 1) (ks' := 6) (ktX8_verdictOf r0 a_3) mw_X8_verdictOf mv_X8_verdictOf w670 (RO.mk rfl rfl rfl rfl) rfl rfl rfl dX8_verdict_6 ⟨rfl, rfl⟩ (fun x_4 => ?_)
  exact S_iret (pc := 9) ⟨rfl, rfl⟩ rfl rfl dX8_verdict_9
theorem ktX8_verdict (r0 : Nat) (v1 : Int32) : Ct mX8_verdict xI [.ref r0, .int v1] (fX8_verdict r0 v1) := Ct.of (z := 0) pn_X8 rfl rfl rfl (sX8_verdict r0 v1)
